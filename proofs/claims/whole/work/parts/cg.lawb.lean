abbrev xL_law : MethodName × ByteArray × Nat × Option FieldType := (yL_law, cL_law, 7, some .boolean)
theorem qa_X11 : Cond.instantiable "ScrapedSkin" 17 ∈ lw_tbl := sk_tb1 _ (List.mem_of_getElem? (i := 27) (by decide +kernel))
theorem qa_X12 : Cond.instantiable "ScrapedSkinModel" 49 ∈ lw_tbl := sk_tb6 _ (List.mem_of_getElem? (i := 60) (by decide +kernel))
theorem qc_X11_ages : Cond.code ⟨"ScrapedSkin", "ages", "(I)I"⟩ prog_1_method_14_code 3 (some .int) ∈ lw_tbl := sk_tb4 _ (List.mem_of_getElem? (i := 83) (by decide +kernel))
theorem qc_X11_agrees : Cond.code ⟨"ScrapedSkin", "agrees", "(III)I"⟩ prog_1_method_22_code 5 (some .int) ∈ lw_tbl := sk_tb4 _ (List.mem_of_getElem? (i := 233) (by decide +kernel))
theorem qc_X11_ask : Cond.code ⟨"ScrapedSkin", "ask", "()I"⟩ prog_1_method_31_code 5 (some .int) ∈ lw_tbl := sk_tb5 _ (List.mem_of_getElem? (i := 117) (by decide +kernel))
theorem qc_X11_back : Cond.code ⟨"ScrapedSkin", "back", "()I"⟩ prog_1_method_40_code 1 (some .int) ∈ lw_tbl := sk_tb5 _ (List.mem_of_getElem? (i := 213) (by decide +kernel))
theorem qc_X11_best : Cond.code ⟨"ScrapedSkin", "best", "(I)I"⟩ prog_1_method_24_code 7 (some .int) ∈ lw_tbl := sk_tb5 _ (List.mem_of_getElem? (i := 14) (by decide +kernel))
theorem qc_X11_count : Cond.code ⟨"ScrapedSkin", "count", "(I)I"⟩ prog_1_method_41_code 2 (some .int) ∈ lw_tbl := sk_tb5 _ (List.mem_of_getElem? (i := 221) (by decide +kernel))
theorem qc_X11_end : Cond.code ⟨"ScrapedSkin", "end", "(I)Z"⟩ prog_1_method_3_code 2 (some .boolean) ∈ lw_tbl := sk_tb2 _ (List.mem_of_getElem? (i := 138) (by decide +kernel))
theorem qc_X11_faded : Cond.code ⟨"ScrapedSkin", "faded", "(III)I"⟩ prog_1_method_28_code 6 (some .int) ∈ lw_tbl := sk_tb5 _ (List.mem_of_getElem? (i := 87) (by decide +kernel))
theorem qc_X11_feed : Cond.code ⟨"ScrapedSkin", "feed", "(IIIII)I"⟩ prog_1_method_2_code 6 (some .int) ∈ lw_tbl := sk_tb2 _ (List.mem_of_getElem? (i := 126) (by decide +kernel))
theorem qc_X11_fits : Cond.code ⟨"ScrapedSkin", "fits", "(I)I"⟩ prog_1_method_30_code 5 (some .int) ∈ lw_tbl := sk_tb5 _ (List.mem_of_getElem? (i := 104) (by decide +kernel))
theorem qc_X11_game : Cond.code ⟨"ScrapedSkin", "game", "(IIII)I"⟩ prog_1_method_34_code 5 (some .int) ∈ lw_tbl := sk_tb5 _ (List.mem_of_getElem? (i := 149) (by decide +kernel))
theorem qc_X11_give : Cond.code ⟨"ScrapedSkin", "give", "(I)I"⟩ prog_1_method_15_code 2 (some .int) ∈ lw_tbl := sk_tb4 _ (List.mem_of_getElem? (i := 181) (by decide +kernel))
theorem qc_X11_image : Cond.code ⟨"ScrapedSkin", "image", "()I"⟩ prog_1_method_39_code 1 (some .int) ∈ lw_tbl := sk_tb5 _ (List.mem_of_getElem? (i := 200) (by decide +kernel))
theorem qc_X11_init : Cond.code ⟨"ScrapedSkin", "<init>", "()V"⟩ prog_1_method_1_code 1 (none) ∈ lw_tbl := sk_tb1 _ (List.mem_of_getElem? (i := 30) (by decide +kernel))
theorem qc_X11_lamp : Cond.code ⟨"ScrapedSkin", "lamp", "(I)I"⟩ prog_1_method_21_code 2 (some .int) ∈ lw_tbl := sk_tb4 _ (List.mem_of_getElem? (i := 228) (by decide +kernel))
theorem qc_X11_law : Cond.code ⟨"ScrapedSkin", "law", "(I)Z"⟩ prog_1_method_10_code 2 (some .boolean) ∈ lw_tbl := sk_tb3 _ (List.mem_of_getElem? (i := 199) (by decide +kernel))
theorem qc_X11_layer : Cond.code ⟨"ScrapedSkin", "layer", "(III)I"⟩ prog_1_method_9_code 5 (some .int) ∈ lw_tbl := sk_tb3 _ (List.mem_of_getElem? (i := 177) (by decide +kernel))
theorem qc_X11_log : Cond.code ⟨"ScrapedSkin", "log", "(II)I"⟩ prog_1_method_19_code 3 (some .int) ∈ lw_tbl := sk_tb4 _ (List.mem_of_getElem? (i := 216) (by decide +kernel))
theorem qc_X11_lost : Cond.code ⟨"ScrapedSkin", "lost", "(III)I"⟩ prog_1_method_27_code 8 (some .int) ∈ lw_tbl := sk_tb5 _ (List.mem_of_getElem? (i := 55) (by decide +kernel))
theorem qc_X11_may : Cond.code ⟨"ScrapedSkin", "may", "(II)I"⟩ prog_1_method_23_code 6 (some .int) ∈ lw_tbl := sk_tb5 _ (List.mem_of_getElem? (i := 5) (by decide +kernel))
theorem qc_X11_most : Cond.code ⟨"ScrapedSkin", "most", "(I)I"⟩ prog_1_method_38_code 2 (some .int) ∈ lw_tbl := sk_tb5 _ (List.mem_of_getElem? (i := 192) (by decide +kernel))
theorem qc_X11_noted : Cond.code ⟨"ScrapedSkin", "noted", "(IIZ)I"⟩ prog_1_method_29_code 4 (some .int) ∈ lw_tbl := sk_tb5 _ (List.mem_of_getElem? (i := 96) (by decide +kernel))
theorem qc_X11_odds : Cond.code ⟨"ScrapedSkin", "odds", "(IIII)I"⟩ prog_1_method_36_code 6 (some .int) ∈ lw_tbl := sk_tb5 _ (List.mem_of_getElem? (i := 178) (by decide +kernel))
theorem qc_X11_order : Cond.code ⟨"ScrapedSkin", "order", "(I)I"⟩ prog_1_method_26_code 4 (some .int) ∈ lw_tbl := sk_tb5 _ (List.mem_of_getElem? (i := 26) (by decide +kernel))
theorem qc_X11_over : Cond.code ⟨"ScrapedSkin", "over", "(II)I"⟩ prog_1_method_25_code 3 (some .int) ∈ lw_tbl := sk_tb5 _ (List.mem_of_getElem? (i := 18) (by decide +kernel))
theorem qc_X11_quire : Cond.code ⟨"ScrapedSkin", "quire", "(I)I"⟩ prog_1_method_33_code 4 (some .int) ∈ lw_tbl := sk_tb5 _ (List.mem_of_getElem? (i := 144) (by decide +kernel))
theorem qc_X11_rests : Cond.code ⟨"ScrapedSkin", "rests", "(II)I"⟩ prog_1_method_35_code 6 (some .int) ∈ lw_tbl := sk_tb5 _ (List.mem_of_getElem? (i := 170) (by decide +kernel))
theorem qc_X11_rule : Cond.code ⟨"ScrapedSkin", "rule", "(I)I"⟩ prog_1_method_6_code 2 (some .int) ∈ lw_tbl := sk_tb3 _ (List.mem_of_getElem? (i := 157) (by decide +kernel))
theorem qc_X11_scrape : Cond.code ⟨"ScrapedSkin", "scrape", "(II)I"⟩ prog_1_method_13_code 3 (some .int) ∈ lw_tbl := sk_tb4 _ (List.mem_of_getElem? (i := 60) (by decide +kernel))
theorem qc_X11_scribes : Cond.code ⟨"ScrapedSkin", "scribes", "(I)Z"⟩ prog_1_method_11_code 2 (some .boolean) ∈ lw_tbl := sk_tb3 _ (List.mem_of_getElem? (i := 207) (by decide +kernel))
theorem qc_X11_shares : Cond.code ⟨"ScrapedSkin", "shares", "(II)I"⟩ prog_1_method_37_code 4 (some .int) ∈ lw_tbl := sk_tb5 _ (List.mem_of_getElem? (i := 187) (by decide +kernel))
theorem qc_X11_shows : Cond.code ⟨"ScrapedSkin", "shows", "(I)I"⟩ prog_1_method_20_code 2 (some .int) ∈ lw_tbl := sk_tb4 _ (List.mem_of_getElem? (i := 224) (by decide +kernel))
theorem qc_X11_sign : Cond.code ⟨"ScrapedSkin", "sign", "(III)I"⟩ prog_1_method_8_code 5 (some .int) ∈ lw_tbl := sk_tb3 _ (List.mem_of_getElem? (i := 165) (by decide +kernel))
theorem qc_X11_status : Cond.code ⟨"ScrapedSkin", "status", "(I)I"⟩ prog_1_method_17_code 2 (some .int) ∈ lw_tbl := sk_tb4 _ (List.mem_of_getElem? (i := 204) (by decide +kernel))
theorem qc_X11_text : Cond.code ⟨"ScrapedSkin", "text", "(I)I"⟩ prog_1_method_5_code 3 (some .int) ∈ lw_tbl := sk_tb3 _ (List.mem_of_getElem? (i := 113) (by decide +kernel))
theorem qc_X11_undo : Cond.code ⟨"ScrapedSkin", "undo", "()I"⟩ prog_1_method_18_code 1 (some .int) ∈ lw_tbl := sk_tb4 _ (List.mem_of_getElem? (i := 208) (by decide +kernel))
theorem qc_X11_write : Cond.code ⟨"ScrapedSkin", "write", "(IIII)I"⟩ prog_1_method_12_code 7 (some .int) ∈ lw_tbl := sk_tb3 _ (List.mem_of_getElem? (i := 211) (by decide +kernel))
theorem qc_X11_years : Cond.code ⟨"ScrapedSkin", "years", "(IJ)I"⟩ prog_1_method_16_code 5 (some .int) ∈ lw_tbl := sk_tb4 _ (List.mem_of_getElem? (i := 185) (by decide +kernel))
theorem qc_X12_ages : Cond.code ⟨"ScrapedSkinModel", "ages", "(I)I"⟩ prog_14_method_86_code 3 (some .int) ∈ lw_tbl := sk_tb8 _ (List.mem_of_getElem? (i := 3) (by decide +kernel))
theorem qc_X12_agrees : Cond.code ⟨"ScrapedSkinModel", "agrees", "(III)I"⟩ prog_14_method_98_code 4 (some .int) ∈ lw_tbl := sk_tb8 _ (List.mem_of_getElem? (i := 100) (by decide +kernel))
theorem qc_X12_ask : Cond.code ⟨"ScrapedSkinModel", "ask", "()I"⟩ prog_14_method_116_code 6 (some .int) ∈ lw_tbl := sk_tb8 _ (List.mem_of_getElem? (i := 185) (by decide +kernel))
theorem qc_X12_back : Cond.code ⟨"ScrapedSkinModel", "back", "()I"⟩ prog_14_method_138_code 2 (some .int) ∈ lw_tbl := sk_tb9 _ (List.mem_of_getElem? (i := 41) (by decide +kernel))
theorem qc_X12_best : Cond.code ⟨"ScrapedSkinModel", "best", "(I)I"⟩ prog_14_method_101_code 4 (some .int) ∈ lw_tbl := sk_tb8 _ (List.mem_of_getElem? (i := 124) (by decide +kernel))
theorem qc_X12_count : Cond.code ⟨"ScrapedSkinModel", "count", "(I)I"⟩ prog_14_method_139_code 2 (some .int) ∈ lw_tbl := sk_tb9 _ (List.mem_of_getElem? (i := 45) (by decide +kernel))
theorem qc_X12_end : Cond.code ⟨"ScrapedSkinModel", "end", "(I)Z"⟩ prog_14_method_7_code 2 (some .boolean) ∈ lw_tbl := sk_tb6 _ (List.mem_of_getElem? (i := 228) (by decide +kernel))
theorem qc_X12_faded : Cond.code ⟨"ScrapedSkinModel", "faded", "(III)I"⟩ prog_14_method_111_code 6 (some .int) ∈ lw_tbl := sk_tb8 _ (List.mem_of_getElem? (i := 165) (by decide +kernel))
theorem qc_X12_fault : Cond.code ⟨"ScrapedSkinModel", "fault", "(I)I"⟩ prog_14_method_44_code 2 (some .int) ∈ lw_tbl := sk_tb6 _ (List.mem_of_getElem? (i := 232) (by decide +kernel))
theorem qc_X12_feed : Cond.code ⟨"ScrapedSkinModel", "feed", "(IIIII)I"⟩ prog_14_method_6_code 9 (some .int) ∈ lw_tbl := sk_tb6 _ (List.mem_of_getElem? (i := 221) (by decide +kernel))
theorem qc_X12_game : Cond.code ⟨"ScrapedSkinModel", "game", "(IIII)I"⟩ prog_14_method_125_code 5 (some .int) ∈ lw_tbl := sk_tb8 _ (List.mem_of_getElem? (i := 210) (by decide +kernel))
theorem qc_X12_give : Cond.code ⟨"ScrapedSkinModel", "give", "(I)I"⟩ prog_14_method_87_code 2 (some .int) ∈ lw_tbl := sk_tb8 _ (List.mem_of_getElem? (i := 58) (by decide +kernel))
theorem qc_X12_hand : Cond.code ⟨"ScrapedSkinModel", "hand", "(II)I"⟩ prog_14_method_76_code 3 (some .int) ∈ lw_tbl := sk_tb7 _ (List.mem_of_getElem? (i := 134) (by decide +kernel))
theorem qc_X12_image : Cond.code ⟨"ScrapedSkinModel", "image", "()I"⟩ prog_14_method_137_code 2 (some .int) ∈ lw_tbl := sk_tb9 _ (List.mem_of_getElem? (i := 37) (by decide +kernel))
theorem qc_X12_init : Cond.code ⟨"ScrapedSkinModel", "<init>", "()V"⟩ prog_14_method_3_code 1 (none) ∈ lw_tbl := sk_tb6 _ (List.mem_of_getElem? (i := 63) (by decide +kernel))
theorem qc_X12_lamp : Cond.code ⟨"ScrapedSkinModel", "lamp", "(I)I"⟩ prog_14_method_95_code 2 (some .int) ∈ lw_tbl := sk_tb8 _ (List.mem_of_getElem? (i := 92) (by decide +kernel))
theorem qc_X12_law : Cond.code ⟨"ScrapedSkinModel", "law", "(I)Z"⟩ prog_14_method_79_code 2 (some .boolean) ∈ lw_tbl := sk_tb7 _ (List.mem_of_getElem? (i := 162) (by decide +kernel))
theorem qc_X12_layer : Cond.code ⟨"ScrapedSkinModel", "layer", "(III)I"⟩ prog_14_method_78_code 4 (some .int) ∈ lw_tbl := sk_tb7 _ (List.mem_of_getElem? (i := 154) (by decide +kernel))
theorem qc_X12_log : Cond.code ⟨"ScrapedSkinModel", "log", "(II)I"⟩ prog_14_method_93_code 3 (some .int) ∈ lw_tbl := sk_tb8 _ (List.mem_of_getElem? (i := 84) (by decide +kernel))
theorem qc_X12_lost : Cond.code ⟨"ScrapedSkinModel", "lost", "(III)I"⟩ prog_14_method_110_code 8 (some .int) ∈ lw_tbl := sk_tb8 _ (List.mem_of_getElem? (i := 144) (by decide +kernel))
theorem qc_X12_may : Cond.code ⟨"ScrapedSkinModel", "may", "(II)I"⟩ prog_14_method_100_code 5 (some .int) ∈ lw_tbl := sk_tb8 _ (List.mem_of_getElem? (i := 116) (by decide +kernel))
theorem qc_X12_meets : Cond.code ⟨"ScrapedSkinModel", "meets", "(II)I"⟩ prog_14_method_119_code 3 (some .int) ∈ lw_tbl := sk_tb8 _ (List.mem_of_getElem? (i := 190) (by decide +kernel))
theorem qc_X12_most : Cond.code ⟨"ScrapedSkinModel", "most", "(I)I"⟩ prog_14_method_136_code 2 (some .int) ∈ lw_tbl := sk_tb9 _ (List.mem_of_getElem? (i := 13) (by decide +kernel))
theorem qc_X12_noted : Cond.code ⟨"ScrapedSkinModel", "noted", "(IIZ)I"⟩ prog_14_method_112_code 4 (some .int) ∈ lw_tbl := sk_tb8 _ (List.mem_of_getElem? (i := 169) (by decide +kernel))
theorem qc_X12_odds : Cond.code ⟨"ScrapedSkinModel", "odds", "(IIII)I"⟩ prog_14_method_129_code 5 (some .int) ∈ lw_tbl := sk_tb8 _ (List.mem_of_getElem? (i := 239) (by decide +kernel))
theorem qc_X12_order : Cond.code ⟨"ScrapedSkinModel", "order", "(I)I"⟩ prog_14_method_105_code 2 (some .int) ∈ lw_tbl := sk_tb8 _ (List.mem_of_getElem? (i := 136) (by decide +kernel))
theorem qc_X12_over : Cond.code ⟨"ScrapedSkinModel", "over", "(II)I"⟩ prog_14_method_103_code 3 (some .int) ∈ lw_tbl := sk_tb8 _ (List.mem_of_getElem? (i := 128) (by decide +kernel))
theorem qc_X12_quire : Cond.code ⟨"ScrapedSkinModel", "quire", "(I)I"⟩ prog_14_method_121_code 2 (some .int) ∈ lw_tbl := sk_tb8 _ (List.mem_of_getElem? (i := 202) (by decide +kernel))
theorem qc_X12_rests : Cond.code ⟨"ScrapedSkinModel", "rests", "(II)I"⟩ prog_14_method_127_code 5 (some .int) ∈ lw_tbl := sk_tb8 _ (List.mem_of_getElem? (i := 231) (by decide +kernel))
theorem qc_X12_rule : Cond.code ⟨"ScrapedSkinModel", "rule", "(I)I"⟩ prog_14_method_75_code 2 (some .int) ∈ lw_tbl := sk_tb7 _ (List.mem_of_getElem? (i := 130) (by decide +kernel))
theorem qc_X12_scrape : Cond.code ⟨"ScrapedSkinModel", "scrape", "(II)I"⟩ prog_14_method_84_code 3 (some .int) ∈ lw_tbl := sk_tb7 _ (List.mem_of_getElem? (i := 218) (by decide +kernel))
theorem qc_X12_scribes : Cond.code ⟨"ScrapedSkinModel", "scribes", "(I)Z"⟩ prog_14_method_80_code 2 (some .boolean) ∈ lw_tbl := sk_tb7 _ (List.mem_of_getElem? (i := 166) (by decide +kernel))
theorem qc_X12_shares : Cond.code ⟨"ScrapedSkinModel", "shares", "(II)I"⟩ prog_14_method_130_code 4 (some .int) ∈ lw_tbl := sk_tb9 _ (List.mem_of_getElem? (i := 9) (by decide +kernel))
theorem qc_X12_shows : Cond.code ⟨"ScrapedSkinModel", "shows", "(I)I"⟩ prog_14_method_94_code 2 (some .int) ∈ lw_tbl := sk_tb8 _ (List.mem_of_getElem? (i := 88) (by decide +kernel))
theorem qc_X12_sign : Cond.code ⟨"ScrapedSkinModel", "sign", "(III)I"⟩ prog_14_method_77_code 6 (some .int) ∈ lw_tbl := sk_tb7 _ (List.mem_of_getElem? (i := 150) (by decide +kernel))
theorem qc_X12_status : Cond.code ⟨"ScrapedSkinModel", "status", "(I)I"⟩ prog_14_method_91_code 2 (some .int) ∈ lw_tbl := sk_tb8 _ (List.mem_of_getElem? (i := 76) (by decide +kernel))
theorem qc_X12_text : Cond.code ⟨"ScrapedSkinModel", "text", "(I)I"⟩ prog_14_method_46_code 2 (some .int) ∈ lw_tbl := sk_tb7 _ (List.mem_of_getElem? (i := 122) (by decide +kernel))
theorem qc_X12_thrown : Cond.code ⟨"ScrapedSkinModel", "thrown", "()I"⟩ prog_14_method_4_code 1 (some .int) ∈ lw_tbl := sk_tb6 _ (List.mem_of_getElem? (i := 217) (by decide +kernel))
theorem qc_X12_undo : Cond.code ⟨"ScrapedSkinModel", "undo", "()I"⟩ prog_14_method_92_code 2 (some .int) ∈ lw_tbl := sk_tb8 _ (List.mem_of_getElem? (i := 80) (by decide +kernel))
theorem qc_X12_write : Cond.code ⟨"ScrapedSkinModel", "write", "(IIII)I"⟩ prog_14_method_83_code 5 (some .int) ∈ lw_tbl := sk_tb7 _ (List.mem_of_getElem? (i := 170) (by decide +kernel))
theorem qc_X12_years : Cond.code ⟨"ScrapedSkinModel", "years", "(IJ)I"⟩ prog_14_method_90_code 5 (some .int) ∈ lw_tbl := sk_tb8 _ (List.mem_of_getElem? (i := 62) (by decide +kernel))
theorem qcw_hand : Cond.codeWith yL_hand cL_hand 5 (some .int) [(0, 10, 13, 13)] ∈ lw_tbl := sk_tb5 _ (List.mem_of_getElem? (i := 224) (by decide +kernel))
theorem qe_X11_ages : Cond.selects "ScrapedSkin" ⟨"ScrapedSkin", "ages", "(I)I"⟩ ⟨"ScrapedSkin", "ages", "(I)I"⟩ ∈ lw_tbl := sk_tb4 _ (List.mem_of_getElem? (i := 82) (by decide +kernel))
theorem qe_X11_agrees : Cond.selects "ScrapedSkin" ⟨"ScrapedSkin", "agrees", "(III)I"⟩ ⟨"ScrapedSkin", "agrees", "(III)I"⟩ ∈ lw_tbl := sk_tb4 _ (List.mem_of_getElem? (i := 232) (by decide +kernel))
theorem qe_X11_ask : Cond.selects "ScrapedSkin" ⟨"ScrapedSkin", "ask", "()I"⟩ ⟨"ScrapedSkin", "ask", "()I"⟩ ∈ lw_tbl := sk_tb5 _ (List.mem_of_getElem? (i := 116) (by decide +kernel))
theorem qe_X11_back : Cond.selects "ScrapedSkin" ⟨"ScrapedSkin", "back", "()I"⟩ ⟨"ScrapedSkin", "back", "()I"⟩ ∈ lw_tbl := sk_tb5 _ (List.mem_of_getElem? (i := 212) (by decide +kernel))
theorem qe_X11_best : Cond.selects "ScrapedSkin" ⟨"ScrapedSkin", "best", "(I)I"⟩ ⟨"ScrapedSkin", "best", "(I)I"⟩ ∈ lw_tbl := sk_tb5 _ (List.mem_of_getElem? (i := 13) (by decide +kernel))
theorem qe_X11_count : Cond.selects "ScrapedSkin" ⟨"ScrapedSkin", "count", "(I)I"⟩ ⟨"ScrapedSkin", "count", "(I)I"⟩ ∈ lw_tbl := sk_tb5 _ (List.mem_of_getElem? (i := 220) (by decide +kernel))
theorem qe_X11_end : Cond.selects "ScrapedSkin" ⟨"ScrapedSkin", "end", "(I)Z"⟩ ⟨"ScrapedSkin", "end", "(I)Z"⟩ ∈ lw_tbl := sk_tb2 _ (List.mem_of_getElem? (i := 137) (by decide +kernel))
theorem qe_X11_faded : Cond.selects "ScrapedSkin" ⟨"ScrapedSkin", "faded", "(III)I"⟩ ⟨"ScrapedSkin", "faded", "(III)I"⟩ ∈ lw_tbl := sk_tb5 _ (List.mem_of_getElem? (i := 86) (by decide +kernel))
theorem qe_X11_feed : Cond.selects "ScrapedSkin" ⟨"ScrapedSkin", "feed", "(IIIII)I"⟩ ⟨"ScrapedSkin", "feed", "(IIIII)I"⟩ ∈ lw_tbl := sk_tb2 _ (List.mem_of_getElem? (i := 125) (by decide +kernel))
theorem qe_X11_fits : Cond.selects "ScrapedSkin" ⟨"ScrapedSkin", "fits", "(I)I"⟩ ⟨"ScrapedSkin", "fits", "(I)I"⟩ ∈ lw_tbl := sk_tb5 _ (List.mem_of_getElem? (i := 103) (by decide +kernel))
theorem qe_X11_game : Cond.selects "ScrapedSkin" ⟨"ScrapedSkin", "game", "(IIII)I"⟩ ⟨"ScrapedSkin", "game", "(IIII)I"⟩ ∈ lw_tbl := sk_tb5 _ (List.mem_of_getElem? (i := 148) (by decide +kernel))
theorem qe_X11_give : Cond.selects "ScrapedSkin" ⟨"ScrapedSkin", "give", "(I)I"⟩ ⟨"ScrapedSkin", "give", "(I)I"⟩ ∈ lw_tbl := sk_tb4 _ (List.mem_of_getElem? (i := 180) (by decide +kernel))
theorem qe_X11_image : Cond.selects "ScrapedSkin" ⟨"ScrapedSkin", "image", "()I"⟩ ⟨"ScrapedSkin", "image", "()I"⟩ ∈ lw_tbl := sk_tb5 _ (List.mem_of_getElem? (i := 199) (by decide +kernel))
theorem qe_X11_lamp : Cond.selects "ScrapedSkin" ⟨"ScrapedSkin", "lamp", "(I)I"⟩ ⟨"ScrapedSkin", "lamp", "(I)I"⟩ ∈ lw_tbl := sk_tb4 _ (List.mem_of_getElem? (i := 227) (by decide +kernel))
theorem qe_X11_law : Cond.selects "ScrapedSkin" ⟨"ScrapedSkin", "law", "(I)Z"⟩ ⟨"ScrapedSkin", "law", "(I)Z"⟩ ∈ lw_tbl := sk_tb3 _ (List.mem_of_getElem? (i := 198) (by decide +kernel))
theorem qe_X11_layer : Cond.selects "ScrapedSkin" ⟨"ScrapedSkin", "layer", "(III)I"⟩ ⟨"ScrapedSkin", "layer", "(III)I"⟩ ∈ lw_tbl := sk_tb3 _ (List.mem_of_getElem? (i := 176) (by decide +kernel))
theorem qe_X11_log : Cond.selects "ScrapedSkin" ⟨"ScrapedSkin", "log", "(II)I"⟩ ⟨"ScrapedSkin", "log", "(II)I"⟩ ∈ lw_tbl := sk_tb4 _ (List.mem_of_getElem? (i := 215) (by decide +kernel))
theorem qe_X11_lost : Cond.selects "ScrapedSkin" ⟨"ScrapedSkin", "lost", "(III)I"⟩ ⟨"ScrapedSkin", "lost", "(III)I"⟩ ∈ lw_tbl := sk_tb5 _ (List.mem_of_getElem? (i := 54) (by decide +kernel))
theorem qe_X11_may : Cond.selects "ScrapedSkin" ⟨"ScrapedSkin", "may", "(II)I"⟩ ⟨"ScrapedSkin", "may", "(II)I"⟩ ∈ lw_tbl := sk_tb5 _ (List.mem_of_getElem? (i := 4) (by decide +kernel))
theorem qe_X11_most : Cond.selects "ScrapedSkin" ⟨"ScrapedSkin", "most", "(I)I"⟩ ⟨"ScrapedSkin", "most", "(I)I"⟩ ∈ lw_tbl := sk_tb5 _ (List.mem_of_getElem? (i := 191) (by decide +kernel))
theorem qe_X11_noted : Cond.selects "ScrapedSkin" ⟨"ScrapedSkin", "noted", "(IIZ)I"⟩ ⟨"ScrapedSkin", "noted", "(IIZ)I"⟩ ∈ lw_tbl := sk_tb5 _ (List.mem_of_getElem? (i := 95) (by decide +kernel))
theorem qe_X11_odds : Cond.selects "ScrapedSkin" ⟨"ScrapedSkin", "odds", "(IIII)I"⟩ ⟨"ScrapedSkin", "odds", "(IIII)I"⟩ ∈ lw_tbl := sk_tb5 _ (List.mem_of_getElem? (i := 177) (by decide +kernel))
theorem qe_X11_order : Cond.selects "ScrapedSkin" ⟨"ScrapedSkin", "order", "(I)I"⟩ ⟨"ScrapedSkin", "order", "(I)I"⟩ ∈ lw_tbl := sk_tb5 _ (List.mem_of_getElem? (i := 25) (by decide +kernel))
theorem qe_X11_over : Cond.selects "ScrapedSkin" ⟨"ScrapedSkin", "over", "(II)I"⟩ ⟨"ScrapedSkin", "over", "(II)I"⟩ ∈ lw_tbl := sk_tb5 _ (List.mem_of_getElem? (i := 17) (by decide +kernel))
theorem qe_X11_quire : Cond.selects "ScrapedSkin" ⟨"ScrapedSkin", "quire", "(I)I"⟩ ⟨"ScrapedSkin", "quire", "(I)I"⟩ ∈ lw_tbl := sk_tb5 _ (List.mem_of_getElem? (i := 143) (by decide +kernel))
theorem qe_X11_rests : Cond.selects "ScrapedSkin" ⟨"ScrapedSkin", "rests", "(II)I"⟩ ⟨"ScrapedSkin", "rests", "(II)I"⟩ ∈ lw_tbl := sk_tb5 _ (List.mem_of_getElem? (i := 169) (by decide +kernel))
theorem qe_X11_rule : Cond.selects "ScrapedSkin" ⟨"ScrapedSkin", "rule", "(I)I"⟩ ⟨"ScrapedSkin", "rule", "(I)I"⟩ ∈ lw_tbl := sk_tb3 _ (List.mem_of_getElem? (i := 156) (by decide +kernel))
theorem qe_X11_scrape : Cond.selects "ScrapedSkin" ⟨"ScrapedSkin", "scrape", "(II)I"⟩ ⟨"ScrapedSkin", "scrape", "(II)I"⟩ ∈ lw_tbl := sk_tb4 _ (List.mem_of_getElem? (i := 59) (by decide +kernel))
theorem qe_X11_scribes : Cond.selects "ScrapedSkin" ⟨"ScrapedSkin", "scribes", "(I)Z"⟩ ⟨"ScrapedSkin", "scribes", "(I)Z"⟩ ∈ lw_tbl := sk_tb3 _ (List.mem_of_getElem? (i := 206) (by decide +kernel))
theorem qe_X11_shares : Cond.selects "ScrapedSkin" ⟨"ScrapedSkin", "shares", "(II)I"⟩ ⟨"ScrapedSkin", "shares", "(II)I"⟩ ∈ lw_tbl := sk_tb5 _ (List.mem_of_getElem? (i := 186) (by decide +kernel))
theorem qe_X11_shows : Cond.selects "ScrapedSkin" ⟨"ScrapedSkin", "shows", "(I)I"⟩ ⟨"ScrapedSkin", "shows", "(I)I"⟩ ∈ lw_tbl := sk_tb4 _ (List.mem_of_getElem? (i := 223) (by decide +kernel))
theorem qe_X11_sign : Cond.selects "ScrapedSkin" ⟨"ScrapedSkin", "sign", "(III)I"⟩ ⟨"ScrapedSkin", "sign", "(III)I"⟩ ∈ lw_tbl := sk_tb3 _ (List.mem_of_getElem? (i := 164) (by decide +kernel))
theorem qe_X11_status : Cond.selects "ScrapedSkin" ⟨"ScrapedSkin", "status", "(I)I"⟩ ⟨"ScrapedSkin", "status", "(I)I"⟩ ∈ lw_tbl := sk_tb4 _ (List.mem_of_getElem? (i := 203) (by decide +kernel))
theorem qe_X11_text : Cond.selects "ScrapedSkin" ⟨"ScrapedSkin", "text", "(I)I"⟩ ⟨"ScrapedSkin", "text", "(I)I"⟩ ∈ lw_tbl := sk_tb3 _ (List.mem_of_getElem? (i := 112) (by decide +kernel))
theorem qe_X11_undo : Cond.selects "ScrapedSkin" ⟨"ScrapedSkin", "undo", "()I"⟩ ⟨"ScrapedSkin", "undo", "()I"⟩ ∈ lw_tbl := sk_tb4 _ (List.mem_of_getElem? (i := 207) (by decide +kernel))
theorem qe_X11_write : Cond.selects "ScrapedSkin" ⟨"ScrapedSkin", "write", "(IIII)I"⟩ ⟨"ScrapedSkin", "write", "(IIII)I"⟩ ∈ lw_tbl := sk_tb3 _ (List.mem_of_getElem? (i := 210) (by decide +kernel))
theorem qe_X11_years : Cond.selects "ScrapedSkin" ⟨"ScrapedSkin", "years", "(IJ)I"⟩ ⟨"ScrapedSkin", "years", "(IJ)I"⟩ ∈ lw_tbl := sk_tb4 _ (List.mem_of_getElem? (i := 184) (by decide +kernel))
theorem qe_X12_ages : Cond.selects "ScrapedSkinModel" ⟨"ScrapedSkinModel", "ages", "(I)I"⟩ ⟨"ScrapedSkinModel", "ages", "(I)I"⟩ ∈ lw_tbl := sk_tb8 _ (List.mem_of_getElem? (i := 2) (by decide +kernel))
theorem qe_X12_agrees : Cond.selects "ScrapedSkinModel" ⟨"ScrapedSkinModel", "agrees", "(III)I"⟩ ⟨"ScrapedSkinModel", "agrees", "(III)I"⟩ ∈ lw_tbl := sk_tb8 _ (List.mem_of_getElem? (i := 99) (by decide +kernel))
theorem qe_X12_ask : Cond.selects "ScrapedSkinModel" ⟨"ScrapedSkinModel", "ask", "()I"⟩ ⟨"ScrapedSkinModel", "ask", "()I"⟩ ∈ lw_tbl := sk_tb8 _ (List.mem_of_getElem? (i := 184) (by decide +kernel))
theorem qe_X12_back : Cond.selects "ScrapedSkinModel" ⟨"ScrapedSkinModel", "back", "()I"⟩ ⟨"ScrapedSkinModel", "back", "()I"⟩ ∈ lw_tbl := sk_tb9 _ (List.mem_of_getElem? (i := 40) (by decide +kernel))
theorem qe_X12_best : Cond.selects "ScrapedSkinModel" ⟨"ScrapedSkinModel", "best", "(I)I"⟩ ⟨"ScrapedSkinModel", "best", "(I)I"⟩ ∈ lw_tbl := sk_tb8 _ (List.mem_of_getElem? (i := 123) (by decide +kernel))
theorem qe_X12_count : Cond.selects "ScrapedSkinModel" ⟨"ScrapedSkinModel", "count", "(I)I"⟩ ⟨"ScrapedSkinModel", "count", "(I)I"⟩ ∈ lw_tbl := sk_tb9 _ (List.mem_of_getElem? (i := 44) (by decide +kernel))
theorem qe_X12_end : Cond.selects "ScrapedSkinModel" ⟨"ScrapedSkinModel", "end", "(I)Z"⟩ ⟨"ScrapedSkinModel", "end", "(I)Z"⟩ ∈ lw_tbl := sk_tb6 _ (List.mem_of_getElem? (i := 227) (by decide +kernel))
theorem qe_X12_faded : Cond.selects "ScrapedSkinModel" ⟨"ScrapedSkinModel", "faded", "(III)I"⟩ ⟨"ScrapedSkinModel", "faded", "(III)I"⟩ ∈ lw_tbl := sk_tb8 _ (List.mem_of_getElem? (i := 164) (by decide +kernel))
theorem qe_X12_fault : Cond.selects "ScrapedSkinModel" ⟨"ScrapedSkinModel", "fault", "(I)I"⟩ ⟨"ScrapedSkinModel", "fault", "(I)I"⟩ ∈ lw_tbl := sk_tb6 _ (List.mem_of_getElem? (i := 231) (by decide +kernel))
theorem qe_X12_feed : Cond.selects "ScrapedSkinModel" ⟨"ScrapedSkinModel", "feed", "(IIIII)I"⟩ ⟨"ScrapedSkinModel", "feed", "(IIIII)I"⟩ ∈ lw_tbl := sk_tb6 _ (List.mem_of_getElem? (i := 220) (by decide +kernel))
theorem qe_X12_game : Cond.selects "ScrapedSkinModel" ⟨"ScrapedSkinModel", "game", "(IIII)I"⟩ ⟨"ScrapedSkinModel", "game", "(IIII)I"⟩ ∈ lw_tbl := sk_tb8 _ (List.mem_of_getElem? (i := 209) (by decide +kernel))
theorem qe_X12_give : Cond.selects "ScrapedSkinModel" ⟨"ScrapedSkinModel", "give", "(I)I"⟩ ⟨"ScrapedSkinModel", "give", "(I)I"⟩ ∈ lw_tbl := sk_tb8 _ (List.mem_of_getElem? (i := 57) (by decide +kernel))
theorem qe_X12_hand : Cond.selects "ScrapedSkinModel" ⟨"ScrapedSkinModel", "hand", "(II)I"⟩ ⟨"ScrapedSkinModel", "hand", "(II)I"⟩ ∈ lw_tbl := sk_tb7 _ (List.mem_of_getElem? (i := 133) (by decide +kernel))
theorem qe_X12_image : Cond.selects "ScrapedSkinModel" ⟨"ScrapedSkinModel", "image", "()I"⟩ ⟨"ScrapedSkinModel", "image", "()I"⟩ ∈ lw_tbl := sk_tb9 _ (List.mem_of_getElem? (i := 36) (by decide +kernel))
theorem qe_X12_lamp : Cond.selects "ScrapedSkinModel" ⟨"ScrapedSkinModel", "lamp", "(I)I"⟩ ⟨"ScrapedSkinModel", "lamp", "(I)I"⟩ ∈ lw_tbl := sk_tb8 _ (List.mem_of_getElem? (i := 91) (by decide +kernel))
theorem qe_X12_law : Cond.selects "ScrapedSkinModel" ⟨"ScrapedSkinModel", "law", "(I)Z"⟩ ⟨"ScrapedSkinModel", "law", "(I)Z"⟩ ∈ lw_tbl := sk_tb7 _ (List.mem_of_getElem? (i := 161) (by decide +kernel))
theorem qe_X12_layer : Cond.selects "ScrapedSkinModel" ⟨"ScrapedSkinModel", "layer", "(III)I"⟩ ⟨"ScrapedSkinModel", "layer", "(III)I"⟩ ∈ lw_tbl := sk_tb7 _ (List.mem_of_getElem? (i := 153) (by decide +kernel))
theorem qe_X12_log : Cond.selects "ScrapedSkinModel" ⟨"ScrapedSkinModel", "log", "(II)I"⟩ ⟨"ScrapedSkinModel", "log", "(II)I"⟩ ∈ lw_tbl := sk_tb8 _ (List.mem_of_getElem? (i := 83) (by decide +kernel))
theorem qe_X12_lost : Cond.selects "ScrapedSkinModel" ⟨"ScrapedSkinModel", "lost", "(III)I"⟩ ⟨"ScrapedSkinModel", "lost", "(III)I"⟩ ∈ lw_tbl := sk_tb8 _ (List.mem_of_getElem? (i := 143) (by decide +kernel))
theorem qe_X12_may : Cond.selects "ScrapedSkinModel" ⟨"ScrapedSkinModel", "may", "(II)I"⟩ ⟨"ScrapedSkinModel", "may", "(II)I"⟩ ∈ lw_tbl := sk_tb8 _ (List.mem_of_getElem? (i := 115) (by decide +kernel))
theorem qe_X12_meets : Cond.selects "ScrapedSkinModel" ⟨"ScrapedSkinModel", "meets", "(II)I"⟩ ⟨"ScrapedSkinModel", "meets", "(II)I"⟩ ∈ lw_tbl := sk_tb8 _ (List.mem_of_getElem? (i := 189) (by decide +kernel))
theorem qe_X12_most : Cond.selects "ScrapedSkinModel" ⟨"ScrapedSkinModel", "most", "(I)I"⟩ ⟨"ScrapedSkinModel", "most", "(I)I"⟩ ∈ lw_tbl := sk_tb9 _ (List.mem_of_getElem? (i := 12) (by decide +kernel))
theorem qe_X12_noted : Cond.selects "ScrapedSkinModel" ⟨"ScrapedSkinModel", "noted", "(IIZ)I"⟩ ⟨"ScrapedSkinModel", "noted", "(IIZ)I"⟩ ∈ lw_tbl := sk_tb8 _ (List.mem_of_getElem? (i := 168) (by decide +kernel))
theorem qe_X12_odds : Cond.selects "ScrapedSkinModel" ⟨"ScrapedSkinModel", "odds", "(IIII)I"⟩ ⟨"ScrapedSkinModel", "odds", "(IIII)I"⟩ ∈ lw_tbl := sk_tb8 _ (List.mem_of_getElem? (i := 238) (by decide +kernel))
theorem qe_X12_order : Cond.selects "ScrapedSkinModel" ⟨"ScrapedSkinModel", "order", "(I)I"⟩ ⟨"ScrapedSkinModel", "order", "(I)I"⟩ ∈ lw_tbl := sk_tb8 _ (List.mem_of_getElem? (i := 135) (by decide +kernel))
theorem qe_X12_over : Cond.selects "ScrapedSkinModel" ⟨"ScrapedSkinModel", "over", "(II)I"⟩ ⟨"ScrapedSkinModel", "over", "(II)I"⟩ ∈ lw_tbl := sk_tb8 _ (List.mem_of_getElem? (i := 127) (by decide +kernel))
theorem qe_X12_quire : Cond.selects "ScrapedSkinModel" ⟨"ScrapedSkinModel", "quire", "(I)I"⟩ ⟨"ScrapedSkinModel", "quire", "(I)I"⟩ ∈ lw_tbl := sk_tb8 _ (List.mem_of_getElem? (i := 201) (by decide +kernel))
theorem qe_X12_rests : Cond.selects "ScrapedSkinModel" ⟨"ScrapedSkinModel", "rests", "(II)I"⟩ ⟨"ScrapedSkinModel", "rests", "(II)I"⟩ ∈ lw_tbl := sk_tb8 _ (List.mem_of_getElem? (i := 230) (by decide +kernel))
theorem qe_X12_rule : Cond.selects "ScrapedSkinModel" ⟨"ScrapedSkinModel", "rule", "(I)I"⟩ ⟨"ScrapedSkinModel", "rule", "(I)I"⟩ ∈ lw_tbl := sk_tb7 _ (List.mem_of_getElem? (i := 129) (by decide +kernel))
theorem qe_X12_scrape : Cond.selects "ScrapedSkinModel" ⟨"ScrapedSkinModel", "scrape", "(II)I"⟩ ⟨"ScrapedSkinModel", "scrape", "(II)I"⟩ ∈ lw_tbl := sk_tb7 _ (List.mem_of_getElem? (i := 217) (by decide +kernel))
theorem qe_X12_scribes : Cond.selects "ScrapedSkinModel" ⟨"ScrapedSkinModel", "scribes", "(I)Z"⟩ ⟨"ScrapedSkinModel", "scribes", "(I)Z"⟩ ∈ lw_tbl := sk_tb7 _ (List.mem_of_getElem? (i := 165) (by decide +kernel))
theorem qe_X12_shares : Cond.selects "ScrapedSkinModel" ⟨"ScrapedSkinModel", "shares", "(II)I"⟩ ⟨"ScrapedSkinModel", "shares", "(II)I"⟩ ∈ lw_tbl := sk_tb9 _ (List.mem_of_getElem? (i := 8) (by decide +kernel))
theorem qe_X12_shows : Cond.selects "ScrapedSkinModel" ⟨"ScrapedSkinModel", "shows", "(I)I"⟩ ⟨"ScrapedSkinModel", "shows", "(I)I"⟩ ∈ lw_tbl := sk_tb8 _ (List.mem_of_getElem? (i := 87) (by decide +kernel))
theorem qe_X12_sign : Cond.selects "ScrapedSkinModel" ⟨"ScrapedSkinModel", "sign", "(III)I"⟩ ⟨"ScrapedSkinModel", "sign", "(III)I"⟩ ∈ lw_tbl := sk_tb7 _ (List.mem_of_getElem? (i := 149) (by decide +kernel))
theorem qe_X12_status : Cond.selects "ScrapedSkinModel" ⟨"ScrapedSkinModel", "status", "(I)I"⟩ ⟨"ScrapedSkinModel", "status", "(I)I"⟩ ∈ lw_tbl := sk_tb8 _ (List.mem_of_getElem? (i := 75) (by decide +kernel))
theorem qe_X12_text : Cond.selects "ScrapedSkinModel" ⟨"ScrapedSkinModel", "text", "(I)I"⟩ ⟨"ScrapedSkinModel", "text", "(I)I"⟩ ∈ lw_tbl := sk_tb7 _ (List.mem_of_getElem? (i := 121) (by decide +kernel))
theorem qe_X12_thrown : Cond.selects "ScrapedSkinModel" ⟨"ScrapedSkinModel", "thrown", "()I"⟩ ⟨"ScrapedSkinModel", "thrown", "()I"⟩ ∈ lw_tbl := sk_tb6 _ (List.mem_of_getElem? (i := 216) (by decide +kernel))
theorem qe_X12_undo : Cond.selects "ScrapedSkinModel" ⟨"ScrapedSkinModel", "undo", "()I"⟩ ⟨"ScrapedSkinModel", "undo", "()I"⟩ ∈ lw_tbl := sk_tb8 _ (List.mem_of_getElem? (i := 79) (by decide +kernel))
theorem qe_X12_write : Cond.selects "ScrapedSkinModel" ⟨"ScrapedSkinModel", "write", "(IIII)I"⟩ ⟨"ScrapedSkinModel", "write", "(IIII)I"⟩ ∈ lw_tbl := sk_tb7 _ (List.mem_of_getElem? (i := 169) (by decide +kernel))
theorem qe_X12_years : Cond.selects "ScrapedSkinModel" ⟨"ScrapedSkinModel", "years", "(IJ)I"⟩ ⟨"ScrapedSkinModel", "years", "(IJ)I"⟩ ∈ lw_tbl := sk_tb8 _ (List.mem_of_getElem? (i := 61) (by decide +kernel))
theorem qi_X11_ages : Cond.instanceMethod ⟨"ScrapedSkin", "ages", "(I)I"⟩ ∈ lw_tbl := sk_tb4 _ (List.mem_of_getElem? (i := 81) (by decide +kernel))
theorem qi_X11_agrees : Cond.instanceMethod ⟨"ScrapedSkin", "agrees", "(III)I"⟩ ∈ lw_tbl := sk_tb4 _ (List.mem_of_getElem? (i := 231) (by decide +kernel))
theorem qi_X11_ask : Cond.instanceMethod ⟨"ScrapedSkin", "ask", "()I"⟩ ∈ lw_tbl := sk_tb5 _ (List.mem_of_getElem? (i := 115) (by decide +kernel))
theorem qi_X11_back : Cond.instanceMethod ⟨"ScrapedSkin", "back", "()I"⟩ ∈ lw_tbl := sk_tb5 _ (List.mem_of_getElem? (i := 211) (by decide +kernel))
theorem qi_X11_best : Cond.instanceMethod ⟨"ScrapedSkin", "best", "(I)I"⟩ ∈ lw_tbl := sk_tb5 _ (List.mem_of_getElem? (i := 12) (by decide +kernel))
theorem qi_X11_count : Cond.instanceMethod ⟨"ScrapedSkin", "count", "(I)I"⟩ ∈ lw_tbl := sk_tb5 _ (List.mem_of_getElem? (i := 219) (by decide +kernel))
theorem qi_X11_end : Cond.instanceMethod ⟨"ScrapedSkin", "end", "(I)Z"⟩ ∈ lw_tbl := sk_tb2 _ (List.mem_of_getElem? (i := 136) (by decide +kernel))
theorem qi_X11_faded : Cond.instanceMethod ⟨"ScrapedSkin", "faded", "(III)I"⟩ ∈ lw_tbl := sk_tb5 _ (List.mem_of_getElem? (i := 85) (by decide +kernel))
theorem qi_X11_feed : Cond.instanceMethod ⟨"ScrapedSkin", "feed", "(IIIII)I"⟩ ∈ lw_tbl := sk_tb2 _ (List.mem_of_getElem? (i := 124) (by decide +kernel))
theorem qi_X11_fits : Cond.instanceMethod ⟨"ScrapedSkin", "fits", "(I)I"⟩ ∈ lw_tbl := sk_tb5 _ (List.mem_of_getElem? (i := 102) (by decide +kernel))
theorem qi_X11_game : Cond.instanceMethod ⟨"ScrapedSkin", "game", "(IIII)I"⟩ ∈ lw_tbl := sk_tb5 _ (List.mem_of_getElem? (i := 147) (by decide +kernel))
theorem qi_X11_give : Cond.instanceMethod ⟨"ScrapedSkin", "give", "(I)I"⟩ ∈ lw_tbl := sk_tb4 _ (List.mem_of_getElem? (i := 179) (by decide +kernel))
theorem qi_X11_image : Cond.instanceMethod ⟨"ScrapedSkin", "image", "()I"⟩ ∈ lw_tbl := sk_tb5 _ (List.mem_of_getElem? (i := 198) (by decide +kernel))
theorem qi_X11_init : Cond.instanceMethod ⟨"ScrapedSkin", "<init>", "()V"⟩ ∈ lw_tbl := sk_tb1 _ (List.mem_of_getElem? (i := 29) (by decide +kernel))
theorem qi_X11_lamp : Cond.instanceMethod ⟨"ScrapedSkin", "lamp", "(I)I"⟩ ∈ lw_tbl := sk_tb4 _ (List.mem_of_getElem? (i := 226) (by decide +kernel))
theorem qi_X11_law : Cond.instanceMethod ⟨"ScrapedSkin", "law", "(I)Z"⟩ ∈ lw_tbl := sk_tb3 _ (List.mem_of_getElem? (i := 197) (by decide +kernel))
theorem qi_X11_layer : Cond.instanceMethod ⟨"ScrapedSkin", "layer", "(III)I"⟩ ∈ lw_tbl := sk_tb3 _ (List.mem_of_getElem? (i := 175) (by decide +kernel))
theorem qi_X11_log : Cond.instanceMethod ⟨"ScrapedSkin", "log", "(II)I"⟩ ∈ lw_tbl := sk_tb4 _ (List.mem_of_getElem? (i := 214) (by decide +kernel))
theorem qi_X11_lost : Cond.instanceMethod ⟨"ScrapedSkin", "lost", "(III)I"⟩ ∈ lw_tbl := sk_tb5 _ (List.mem_of_getElem? (i := 53) (by decide +kernel))
theorem qi_X11_may : Cond.instanceMethod ⟨"ScrapedSkin", "may", "(II)I"⟩ ∈ lw_tbl := sk_tb5 _ (List.mem_of_getElem? (i := 3) (by decide +kernel))
theorem qi_X11_most : Cond.instanceMethod ⟨"ScrapedSkin", "most", "(I)I"⟩ ∈ lw_tbl := sk_tb5 _ (List.mem_of_getElem? (i := 190) (by decide +kernel))
theorem qi_X11_noted : Cond.instanceMethod ⟨"ScrapedSkin", "noted", "(IIZ)I"⟩ ∈ lw_tbl := sk_tb5 _ (List.mem_of_getElem? (i := 94) (by decide +kernel))
theorem qi_X11_odds : Cond.instanceMethod ⟨"ScrapedSkin", "odds", "(IIII)I"⟩ ∈ lw_tbl := sk_tb5 _ (List.mem_of_getElem? (i := 176) (by decide +kernel))
theorem qi_X11_order : Cond.instanceMethod ⟨"ScrapedSkin", "order", "(I)I"⟩ ∈ lw_tbl := sk_tb5 _ (List.mem_of_getElem? (i := 24) (by decide +kernel))
theorem qi_X11_over : Cond.instanceMethod ⟨"ScrapedSkin", "over", "(II)I"⟩ ∈ lw_tbl := sk_tb5 _ (List.mem_of_getElem? (i := 16) (by decide +kernel))
theorem qi_X11_quire : Cond.instanceMethod ⟨"ScrapedSkin", "quire", "(I)I"⟩ ∈ lw_tbl := sk_tb5 _ (List.mem_of_getElem? (i := 142) (by decide +kernel))
theorem qi_X11_rests : Cond.instanceMethod ⟨"ScrapedSkin", "rests", "(II)I"⟩ ∈ lw_tbl := sk_tb5 _ (List.mem_of_getElem? (i := 168) (by decide +kernel))
theorem qi_X11_rule : Cond.instanceMethod ⟨"ScrapedSkin", "rule", "(I)I"⟩ ∈ lw_tbl := sk_tb3 _ (List.mem_of_getElem? (i := 155) (by decide +kernel))
theorem qi_X11_scrape : Cond.instanceMethod ⟨"ScrapedSkin", "scrape", "(II)I"⟩ ∈ lw_tbl := sk_tb4 _ (List.mem_of_getElem? (i := 58) (by decide +kernel))
theorem qi_X11_scribes : Cond.instanceMethod ⟨"ScrapedSkin", "scribes", "(I)Z"⟩ ∈ lw_tbl := sk_tb3 _ (List.mem_of_getElem? (i := 205) (by decide +kernel))
theorem qi_X11_shares : Cond.instanceMethod ⟨"ScrapedSkin", "shares", "(II)I"⟩ ∈ lw_tbl := sk_tb5 _ (List.mem_of_getElem? (i := 185) (by decide +kernel))
theorem qi_X11_shows : Cond.instanceMethod ⟨"ScrapedSkin", "shows", "(I)I"⟩ ∈ lw_tbl := sk_tb4 _ (List.mem_of_getElem? (i := 222) (by decide +kernel))
theorem qi_X11_sign : Cond.instanceMethod ⟨"ScrapedSkin", "sign", "(III)I"⟩ ∈ lw_tbl := sk_tb3 _ (List.mem_of_getElem? (i := 163) (by decide +kernel))
theorem qi_X11_status : Cond.instanceMethod ⟨"ScrapedSkin", "status", "(I)I"⟩ ∈ lw_tbl := sk_tb4 _ (List.mem_of_getElem? (i := 202) (by decide +kernel))
theorem qi_X11_text : Cond.instanceMethod ⟨"ScrapedSkin", "text", "(I)I"⟩ ∈ lw_tbl := sk_tb3 _ (List.mem_of_getElem? (i := 111) (by decide +kernel))
theorem qi_X11_undo : Cond.instanceMethod ⟨"ScrapedSkin", "undo", "()I"⟩ ∈ lw_tbl := sk_tb4 _ (List.mem_of_getElem? (i := 206) (by decide +kernel))
theorem qi_X11_write : Cond.instanceMethod ⟨"ScrapedSkin", "write", "(IIII)I"⟩ ∈ lw_tbl := sk_tb3 _ (List.mem_of_getElem? (i := 209) (by decide +kernel))
theorem qi_X11_years : Cond.instanceMethod ⟨"ScrapedSkin", "years", "(IJ)I"⟩ ∈ lw_tbl := sk_tb4 _ (List.mem_of_getElem? (i := 183) (by decide +kernel))
theorem qi_X12_ages : Cond.instanceMethod ⟨"ScrapedSkinModel", "ages", "(I)I"⟩ ∈ lw_tbl := sk_tb8 _ (List.mem_of_getElem? (i := 1) (by decide +kernel))
theorem qi_X12_agrees : Cond.instanceMethod ⟨"ScrapedSkinModel", "agrees", "(III)I"⟩ ∈ lw_tbl := sk_tb8 _ (List.mem_of_getElem? (i := 98) (by decide +kernel))
theorem qi_X12_ask : Cond.instanceMethod ⟨"ScrapedSkinModel", "ask", "()I"⟩ ∈ lw_tbl := sk_tb8 _ (List.mem_of_getElem? (i := 183) (by decide +kernel))
theorem qi_X12_back : Cond.instanceMethod ⟨"ScrapedSkinModel", "back", "()I"⟩ ∈ lw_tbl := sk_tb9 _ (List.mem_of_getElem? (i := 39) (by decide +kernel))
theorem qi_X12_best : Cond.instanceMethod ⟨"ScrapedSkinModel", "best", "(I)I"⟩ ∈ lw_tbl := sk_tb8 _ (List.mem_of_getElem? (i := 122) (by decide +kernel))
theorem qi_X12_count : Cond.instanceMethod ⟨"ScrapedSkinModel", "count", "(I)I"⟩ ∈ lw_tbl := sk_tb9 _ (List.mem_of_getElem? (i := 43) (by decide +kernel))
theorem qi_X12_end : Cond.instanceMethod ⟨"ScrapedSkinModel", "end", "(I)Z"⟩ ∈ lw_tbl := sk_tb6 _ (List.mem_of_getElem? (i := 226) (by decide +kernel))
theorem qi_X12_faded : Cond.instanceMethod ⟨"ScrapedSkinModel", "faded", "(III)I"⟩ ∈ lw_tbl := sk_tb8 _ (List.mem_of_getElem? (i := 163) (by decide +kernel))
theorem qi_X12_fault : Cond.instanceMethod ⟨"ScrapedSkinModel", "fault", "(I)I"⟩ ∈ lw_tbl := sk_tb6 _ (List.mem_of_getElem? (i := 230) (by decide +kernel))
theorem qi_X12_feed : Cond.instanceMethod ⟨"ScrapedSkinModel", "feed", "(IIIII)I"⟩ ∈ lw_tbl := sk_tb6 _ (List.mem_of_getElem? (i := 219) (by decide +kernel))
theorem qi_X12_game : Cond.instanceMethod ⟨"ScrapedSkinModel", "game", "(IIII)I"⟩ ∈ lw_tbl := sk_tb8 _ (List.mem_of_getElem? (i := 208) (by decide +kernel))
theorem qi_X12_give : Cond.instanceMethod ⟨"ScrapedSkinModel", "give", "(I)I"⟩ ∈ lw_tbl := sk_tb8 _ (List.mem_of_getElem? (i := 56) (by decide +kernel))
theorem qi_X12_hand : Cond.instanceMethod ⟨"ScrapedSkinModel", "hand", "(II)I"⟩ ∈ lw_tbl := sk_tb7 _ (List.mem_of_getElem? (i := 132) (by decide +kernel))
theorem qi_X12_image : Cond.instanceMethod ⟨"ScrapedSkinModel", "image", "()I"⟩ ∈ lw_tbl := sk_tb9 _ (List.mem_of_getElem? (i := 35) (by decide +kernel))
theorem qi_X12_init : Cond.instanceMethod ⟨"ScrapedSkinModel", "<init>", "()V"⟩ ∈ lw_tbl := sk_tb6 _ (List.mem_of_getElem? (i := 62) (by decide +kernel))
theorem qi_X12_lamp : Cond.instanceMethod ⟨"ScrapedSkinModel", "lamp", "(I)I"⟩ ∈ lw_tbl := sk_tb8 _ (List.mem_of_getElem? (i := 90) (by decide +kernel))
theorem qi_X12_law : Cond.instanceMethod ⟨"ScrapedSkinModel", "law", "(I)Z"⟩ ∈ lw_tbl := sk_tb7 _ (List.mem_of_getElem? (i := 160) (by decide +kernel))
theorem qi_X12_layer : Cond.instanceMethod ⟨"ScrapedSkinModel", "layer", "(III)I"⟩ ∈ lw_tbl := sk_tb7 _ (List.mem_of_getElem? (i := 152) (by decide +kernel))
theorem qi_X12_log : Cond.instanceMethod ⟨"ScrapedSkinModel", "log", "(II)I"⟩ ∈ lw_tbl := sk_tb8 _ (List.mem_of_getElem? (i := 82) (by decide +kernel))
theorem qi_X12_lost : Cond.instanceMethod ⟨"ScrapedSkinModel", "lost", "(III)I"⟩ ∈ lw_tbl := sk_tb8 _ (List.mem_of_getElem? (i := 142) (by decide +kernel))
theorem qi_X12_may : Cond.instanceMethod ⟨"ScrapedSkinModel", "may", "(II)I"⟩ ∈ lw_tbl := sk_tb8 _ (List.mem_of_getElem? (i := 114) (by decide +kernel))
theorem qi_X12_meets : Cond.instanceMethod ⟨"ScrapedSkinModel", "meets", "(II)I"⟩ ∈ lw_tbl := sk_tb8 _ (List.mem_of_getElem? (i := 188) (by decide +kernel))
theorem qi_X12_most : Cond.instanceMethod ⟨"ScrapedSkinModel", "most", "(I)I"⟩ ∈ lw_tbl := sk_tb9 _ (List.mem_of_getElem? (i := 11) (by decide +kernel))
theorem qi_X12_noted : Cond.instanceMethod ⟨"ScrapedSkinModel", "noted", "(IIZ)I"⟩ ∈ lw_tbl := sk_tb8 _ (List.mem_of_getElem? (i := 167) (by decide +kernel))
theorem qi_X12_odds : Cond.instanceMethod ⟨"ScrapedSkinModel", "odds", "(IIII)I"⟩ ∈ lw_tbl := sk_tb8 _ (List.mem_of_getElem? (i := 237) (by decide +kernel))
theorem qi_X12_order : Cond.instanceMethod ⟨"ScrapedSkinModel", "order", "(I)I"⟩ ∈ lw_tbl := sk_tb8 _ (List.mem_of_getElem? (i := 134) (by decide +kernel))
theorem qi_X12_over : Cond.instanceMethod ⟨"ScrapedSkinModel", "over", "(II)I"⟩ ∈ lw_tbl := sk_tb8 _ (List.mem_of_getElem? (i := 126) (by decide +kernel))
theorem qi_X12_quire : Cond.instanceMethod ⟨"ScrapedSkinModel", "quire", "(I)I"⟩ ∈ lw_tbl := sk_tb8 _ (List.mem_of_getElem? (i := 200) (by decide +kernel))
theorem qi_X12_rests : Cond.instanceMethod ⟨"ScrapedSkinModel", "rests", "(II)I"⟩ ∈ lw_tbl := sk_tb8 _ (List.mem_of_getElem? (i := 229) (by decide +kernel))
theorem qi_X12_rule : Cond.instanceMethod ⟨"ScrapedSkinModel", "rule", "(I)I"⟩ ∈ lw_tbl := sk_tb7 _ (List.mem_of_getElem? (i := 128) (by decide +kernel))
theorem qi_X12_scrape : Cond.instanceMethod ⟨"ScrapedSkinModel", "scrape", "(II)I"⟩ ∈ lw_tbl := sk_tb7 _ (List.mem_of_getElem? (i := 216) (by decide +kernel))
theorem qi_X12_scribes : Cond.instanceMethod ⟨"ScrapedSkinModel", "scribes", "(I)Z"⟩ ∈ lw_tbl := sk_tb7 _ (List.mem_of_getElem? (i := 164) (by decide +kernel))
theorem qi_X12_shares : Cond.instanceMethod ⟨"ScrapedSkinModel", "shares", "(II)I"⟩ ∈ lw_tbl := sk_tb9 _ (List.mem_of_getElem? (i := 7) (by decide +kernel))
theorem qi_X12_shows : Cond.instanceMethod ⟨"ScrapedSkinModel", "shows", "(I)I"⟩ ∈ lw_tbl := sk_tb8 _ (List.mem_of_getElem? (i := 86) (by decide +kernel))
theorem qi_X12_sign : Cond.instanceMethod ⟨"ScrapedSkinModel", "sign", "(III)I"⟩ ∈ lw_tbl := sk_tb7 _ (List.mem_of_getElem? (i := 148) (by decide +kernel))
theorem qi_X12_status : Cond.instanceMethod ⟨"ScrapedSkinModel", "status", "(I)I"⟩ ∈ lw_tbl := sk_tb8 _ (List.mem_of_getElem? (i := 74) (by decide +kernel))
theorem qi_X12_text : Cond.instanceMethod ⟨"ScrapedSkinModel", "text", "(I)I"⟩ ∈ lw_tbl := sk_tb7 _ (List.mem_of_getElem? (i := 120) (by decide +kernel))
theorem qi_X12_thrown : Cond.instanceMethod ⟨"ScrapedSkinModel", "thrown", "()I"⟩ ∈ lw_tbl := sk_tb6 _ (List.mem_of_getElem? (i := 215) (by decide +kernel))
theorem qi_X12_undo : Cond.instanceMethod ⟨"ScrapedSkinModel", "undo", "()I"⟩ ∈ lw_tbl := sk_tb8 _ (List.mem_of_getElem? (i := 78) (by decide +kernel))
theorem qi_X12_write : Cond.instanceMethod ⟨"ScrapedSkinModel", "write", "(IIII)I"⟩ ∈ lw_tbl := sk_tb7 _ (List.mem_of_getElem? (i := 168) (by decide +kernel))
theorem qi_X12_years : Cond.instanceMethod ⟨"ScrapedSkinModel", "years", "(IJ)I"⟩ ∈ lw_tbl := sk_tb8 _ (List.mem_of_getElem? (i := 60) (by decide +kernel))
theorem qk_L_86 : Cond.constantLong "ScrapedSkinLaw" 86 (4294967295) ∈ lw_tbl := sk_tb9 _ (List.mem_of_getElem? (i := 46) (by decide +kernel))
theorem ql_L_16 : Cond.classLink "ScrapedSkinLaw" 16 "ScrapedSkinModel" ∈ lw_tbl := sk_tb6 _ (List.mem_of_getElem? (i := 59) (by decide +kernel))
theorem ql_L_8 : Cond.classLink "ScrapedSkinLaw" 8 "ScrapedSkin" ∈ lw_tbl := sk_tb1 _ (List.mem_of_getElem? (i := 26) (by decide +kernel))
theorem qm_L_100 : Cond.methodLink "ScrapedSkinLaw" 100 ⟨"ScrapedSkinModel", "undo", "()I"⟩ ∈ lw_tbl := sk_tb8 _ (List.mem_of_getElem? (i := 77) (by decide +kernel))
theorem qm_L_101 : Cond.methodLink "ScrapedSkinLaw" 101 ⟨"ScrapedSkin", "log", "(II)I"⟩ ∈ lw_tbl := sk_tb4 _ (List.mem_of_getElem? (i := 213) (by decide +kernel))
theorem qm_L_104 : Cond.methodLink "ScrapedSkinLaw" 104 ⟨"ScrapedSkinModel", "log", "(II)I"⟩ ∈ lw_tbl := sk_tb8 _ (List.mem_of_getElem? (i := 81) (by decide +kernel))
theorem qm_L_105 : Cond.methodLink "ScrapedSkinLaw" 105 ⟨"ScrapedSkin", "shows", "(I)I"⟩ ∈ lw_tbl := sk_tb4 _ (List.mem_of_getElem? (i := 221) (by decide +kernel))
theorem qm_L_108 : Cond.methodLink "ScrapedSkinLaw" 108 ⟨"ScrapedSkinModel", "shows", "(I)I"⟩ ∈ lw_tbl := sk_tb8 _ (List.mem_of_getElem? (i := 85) (by decide +kernel))
theorem qm_L_109 : Cond.methodLink "ScrapedSkinLaw" 109 ⟨"ScrapedSkin", "lamp", "(I)I"⟩ ∈ lw_tbl := sk_tb4 _ (List.mem_of_getElem? (i := 225) (by decide +kernel))
theorem qm_L_112 : Cond.methodLink "ScrapedSkinLaw" 112 ⟨"ScrapedSkinModel", "lamp", "(I)I"⟩ ∈ lw_tbl := sk_tb8 _ (List.mem_of_getElem? (i := 89) (by decide +kernel))
theorem qm_L_113 : Cond.methodLink "ScrapedSkinLaw" 113 ⟨"ScrapedSkin", "agrees", "(III)I"⟩ ∈ lw_tbl := sk_tb4 _ (List.mem_of_getElem? (i := 230) (by decide +kernel))
theorem qm_L_116 : Cond.methodLink "ScrapedSkinLaw" 116 ⟨"ScrapedSkinModel", "agrees", "(III)I"⟩ ∈ lw_tbl := sk_tb8 _ (List.mem_of_getElem? (i := 97) (by decide +kernel))
theorem qm_L_117 : Cond.methodLink "ScrapedSkinLaw" 117 ⟨"ScrapedSkin", "may", "(II)I"⟩ ∈ lw_tbl := sk_tb5 _ (List.mem_of_getElem? (i := 2) (by decide +kernel))
theorem qm_L_120 : Cond.methodLink "ScrapedSkinLaw" 120 ⟨"ScrapedSkinModel", "may", "(II)I"⟩ ∈ lw_tbl := sk_tb8 _ (List.mem_of_getElem? (i := 113) (by decide +kernel))
theorem qm_L_121 : Cond.methodLink "ScrapedSkinLaw" 121 ⟨"ScrapedSkin", "best", "(I)I"⟩ ∈ lw_tbl := sk_tb5 _ (List.mem_of_getElem? (i := 11) (by decide +kernel))
theorem qm_L_124 : Cond.methodLink "ScrapedSkinLaw" 124 ⟨"ScrapedSkinModel", "best", "(I)I"⟩ ∈ lw_tbl := sk_tb8 _ (List.mem_of_getElem? (i := 121) (by decide +kernel))
theorem qm_L_125 : Cond.methodLink "ScrapedSkinLaw" 125 ⟨"ScrapedSkin", "over", "(II)I"⟩ ∈ lw_tbl := sk_tb5 _ (List.mem_of_getElem? (i := 15) (by decide +kernel))
theorem qm_L_128 : Cond.methodLink "ScrapedSkinLaw" 128 ⟨"ScrapedSkinModel", "over", "(II)I"⟩ ∈ lw_tbl := sk_tb8 _ (List.mem_of_getElem? (i := 125) (by decide +kernel))
theorem qm_L_129 : Cond.methodLink "ScrapedSkinLaw" 129 ⟨"ScrapedSkin", "order", "(I)I"⟩ ∈ lw_tbl := sk_tb5 _ (List.mem_of_getElem? (i := 23) (by decide +kernel))
theorem qm_L_132 : Cond.methodLink "ScrapedSkinLaw" 132 ⟨"ScrapedSkinModel", "order", "(I)I"⟩ ∈ lw_tbl := sk_tb8 _ (List.mem_of_getElem? (i := 133) (by decide +kernel))
theorem qm_L_133 : Cond.methodLink "ScrapedSkinLaw" 133 ⟨"ScrapedSkin", "lost", "(III)I"⟩ ∈ lw_tbl := sk_tb5 _ (List.mem_of_getElem? (i := 52) (by decide +kernel))
theorem qm_L_136 : Cond.methodLink "ScrapedSkinLaw" 136 ⟨"ScrapedSkinModel", "lost", "(III)I"⟩ ∈ lw_tbl := sk_tb8 _ (List.mem_of_getElem? (i := 141) (by decide +kernel))
theorem qm_L_137 : Cond.methodLink "ScrapedSkinLaw" 137 ⟨"ScrapedSkin", "faded", "(III)I"⟩ ∈ lw_tbl := sk_tb5 _ (List.mem_of_getElem? (i := 84) (by decide +kernel))
theorem qm_L_140 : Cond.methodLink "ScrapedSkinLaw" 140 ⟨"ScrapedSkinModel", "faded", "(III)I"⟩ ∈ lw_tbl := sk_tb8 _ (List.mem_of_getElem? (i := 162) (by decide +kernel))
theorem qm_L_141 : Cond.methodLink "ScrapedSkinLaw" 141 ⟨"ScrapedSkin", "noted", "(IIZ)I"⟩ ∈ lw_tbl := sk_tb5 _ (List.mem_of_getElem? (i := 93) (by decide +kernel))
theorem qm_L_145 : Cond.methodLink "ScrapedSkinLaw" 145 ⟨"ScrapedSkinModel", "noted", "(IIZ)I"⟩ ∈ lw_tbl := sk_tb8 _ (List.mem_of_getElem? (i := 166) (by decide +kernel))
theorem qm_L_146 : Cond.methodLink "ScrapedSkinLaw" 146 ⟨"ScrapedSkin", "fits", "(I)I"⟩ ∈ lw_tbl := sk_tb5 _ (List.mem_of_getElem? (i := 101) (by decide +kernel))
theorem qm_L_149 : Cond.methodLink "ScrapedSkinLaw" 149 ⟨"ScrapedSkinModel", "fits", "(I)I"⟩ ∈ lw_tbl := sk_tb8 _ (List.mem_of_getElem? (i := 170) (by decide +kernel))
theorem qm_L_15 : Cond.methodLink "ScrapedSkinLaw" 15 ⟨"ScrapedSkin", "<init>", "()V"⟩ ∈ lw_tbl := sk_tb1 _ (List.mem_of_getElem? (i := 28) (by decide +kernel))
theorem qm_L_150 : Cond.methodLink "ScrapedSkinLaw" 150 ⟨"ScrapedSkin", "ask", "()I"⟩ ∈ lw_tbl := sk_tb5 _ (List.mem_of_getElem? (i := 114) (by decide +kernel))
theorem qm_L_153 : Cond.methodLink "ScrapedSkinLaw" 153 ⟨"ScrapedSkinModel", "ask", "()I"⟩ ∈ lw_tbl := sk_tb8 _ (List.mem_of_getElem? (i := 182) (by decide +kernel))
theorem qm_L_154 : Cond.methodLink "ScrapedSkinLaw" 154 ⟨"ScrapedSkin", "meets", "(II)I"⟩ ∈ lw_tbl := sk_tb5 _ (List.mem_of_getElem? (i := 127) (by decide +kernel))
theorem qm_L_157 : Cond.methodLink "ScrapedSkinLaw" 157 ⟨"ScrapedSkinModel", "meets", "(II)I"⟩ ∈ lw_tbl := sk_tb8 _ (List.mem_of_getElem? (i := 187) (by decide +kernel))
theorem qm_L_158 : Cond.methodLink "ScrapedSkinLaw" 158 ⟨"ScrapedSkin", "quire", "(I)I"⟩ ∈ lw_tbl := sk_tb5 _ (List.mem_of_getElem? (i := 141) (by decide +kernel))
theorem qm_L_161 : Cond.methodLink "ScrapedSkinLaw" 161 ⟨"ScrapedSkinModel", "quire", "(I)I"⟩ ∈ lw_tbl := sk_tb8 _ (List.mem_of_getElem? (i := 199) (by decide +kernel))
theorem qm_L_162 : Cond.methodLink "ScrapedSkinLaw" 162 ⟨"ScrapedSkin", "game", "(IIII)I"⟩ ∈ lw_tbl := sk_tb5 _ (List.mem_of_getElem? (i := 146) (by decide +kernel))
theorem qm_L_165 : Cond.methodLink "ScrapedSkinLaw" 165 ⟨"ScrapedSkinModel", "game", "(IIII)I"⟩ ∈ lw_tbl := sk_tb8 _ (List.mem_of_getElem? (i := 207) (by decide +kernel))
theorem qm_L_166 : Cond.methodLink "ScrapedSkinLaw" 166 ⟨"ScrapedSkin", "rests", "(II)I"⟩ ∈ lw_tbl := sk_tb5 _ (List.mem_of_getElem? (i := 167) (by decide +kernel))
theorem qm_L_169 : Cond.methodLink "ScrapedSkinLaw" 169 ⟨"ScrapedSkinModel", "rests", "(II)I"⟩ ∈ lw_tbl := sk_tb8 _ (List.mem_of_getElem? (i := 228) (by decide +kernel))
theorem qm_L_170 : Cond.methodLink "ScrapedSkinLaw" 170 ⟨"ScrapedSkin", "odds", "(IIII)I"⟩ ∈ lw_tbl := sk_tb5 _ (List.mem_of_getElem? (i := 175) (by decide +kernel))
theorem qm_L_173 : Cond.methodLink "ScrapedSkinLaw" 173 ⟨"ScrapedSkinModel", "odds", "(IIII)I"⟩ ∈ lw_tbl := sk_tb8 _ (List.mem_of_getElem? (i := 236) (by decide +kernel))
theorem qm_L_174 : Cond.methodLink "ScrapedSkinLaw" 174 ⟨"ScrapedSkin", "shares", "(II)I"⟩ ∈ lw_tbl := sk_tb5 _ (List.mem_of_getElem? (i := 184) (by decide +kernel))
theorem qm_L_177 : Cond.methodLink "ScrapedSkinLaw" 177 ⟨"ScrapedSkinModel", "shares", "(II)I"⟩ ∈ lw_tbl := sk_tb9 _ (List.mem_of_getElem? (i := 6) (by decide +kernel))
theorem qm_L_178 : Cond.methodLink "ScrapedSkinLaw" 178 ⟨"ScrapedSkin", "most", "(I)I"⟩ ∈ lw_tbl := sk_tb5 _ (List.mem_of_getElem? (i := 189) (by decide +kernel))
theorem qm_L_18 : Cond.methodLink "ScrapedSkinLaw" 18 ⟨"ScrapedSkinModel", "<init>", "()V"⟩ ∈ lw_tbl := sk_tb6 _ (List.mem_of_getElem? (i := 61) (by decide +kernel))
theorem qm_L_181 : Cond.methodLink "ScrapedSkinLaw" 181 ⟨"ScrapedSkinModel", "most", "(I)I"⟩ ∈ lw_tbl := sk_tb9 _ (List.mem_of_getElem? (i := 10) (by decide +kernel))
theorem qm_L_182 : Cond.methodLink "ScrapedSkinLaw" 182 ⟨"ScrapedSkin", "image", "()I"⟩ ∈ lw_tbl := sk_tb5 _ (List.mem_of_getElem? (i := 197) (by decide +kernel))
theorem qm_L_185 : Cond.methodLink "ScrapedSkinLaw" 185 ⟨"ScrapedSkinModel", "image", "()I"⟩ ∈ lw_tbl := sk_tb9 _ (List.mem_of_getElem? (i := 34) (by decide +kernel))
theorem qm_L_186 : Cond.methodLink "ScrapedSkinLaw" 186 ⟨"ScrapedSkin", "back", "()I"⟩ ∈ lw_tbl := sk_tb5 _ (List.mem_of_getElem? (i := 210) (by decide +kernel))
theorem qm_L_189 : Cond.methodLink "ScrapedSkinLaw" 189 ⟨"ScrapedSkinModel", "back", "()I"⟩ ∈ lw_tbl := sk_tb9 _ (List.mem_of_getElem? (i := 38) (by decide +kernel))
theorem qm_L_19 : Cond.methodLink "ScrapedSkinLaw" 19 ⟨"ScrapedSkin", "feed", "(IIIII)I"⟩ ∈ lw_tbl := sk_tb2 _ (List.mem_of_getElem? (i := 123) (by decide +kernel))
theorem qm_L_190 : Cond.methodLink "ScrapedSkinLaw" 190 ⟨"ScrapedSkin", "count", "(I)I"⟩ ∈ lw_tbl := sk_tb5 _ (List.mem_of_getElem? (i := 218) (by decide +kernel))
theorem qm_L_193 : Cond.methodLink "ScrapedSkinLaw" 193 ⟨"ScrapedSkinModel", "count", "(I)I"⟩ ∈ lw_tbl := sk_tb9 _ (List.mem_of_getElem? (i := 42) (by decide +kernel))
theorem qm_L_23 : Cond.methodLink "ScrapedSkinLaw" 23 ⟨"ScrapedSkinModel", "feed", "(IIIII)I"⟩ ∈ lw_tbl := sk_tb6 _ (List.mem_of_getElem? (i := 218) (by decide +kernel))
theorem qm_L_24 : Cond.methodLink "ScrapedSkinLaw" 24 ⟨"ScrapedSkin", "end", "(I)Z"⟩ ∈ lw_tbl := sk_tb2 _ (List.mem_of_getElem? (i := 135) (by decide +kernel))
theorem qm_L_28 : Cond.methodLink "ScrapedSkinLaw" 28 ⟨"ScrapedSkinModel", "end", "(I)Z"⟩ ∈ lw_tbl := sk_tb6 _ (List.mem_of_getElem? (i := 225) (by decide +kernel))
theorem qm_L_29 : Cond.methodLink "ScrapedSkinLaw" 29 ⟨"ScrapedSkin", "fault", "(I)I"⟩ ∈ lw_tbl := sk_tb2 _ (List.mem_of_getElem? (i := 143) (by decide +kernel))
theorem qm_L_33 : Cond.methodLink "ScrapedSkinLaw" 33 ⟨"ScrapedSkinModel", "fault", "(I)I"⟩ ∈ lw_tbl := sk_tb6 _ (List.mem_of_getElem? (i := 229) (by decide +kernel))
theorem qm_L_34 : Cond.methodLink "ScrapedSkinLaw" 34 ⟨"ScrapedSkin", "text", "(I)I"⟩ ∈ lw_tbl := sk_tb3 _ (List.mem_of_getElem? (i := 110) (by decide +kernel))
theorem qm_L_37 : Cond.methodLink "ScrapedSkinLaw" 37 ⟨"ScrapedSkinModel", "text", "(I)I"⟩ ∈ lw_tbl := sk_tb7 _ (List.mem_of_getElem? (i := 119) (by decide +kernel))
theorem qm_L_38 : Cond.methodLink "ScrapedSkinLaw" 38 ⟨"ScrapedSkin", "rule", "(I)I"⟩ ∈ lw_tbl := sk_tb3 _ (List.mem_of_getElem? (i := 154) (by decide +kernel))
theorem qm_L_41 : Cond.methodLink "ScrapedSkinLaw" 41 ⟨"ScrapedSkinModel", "rule", "(I)I"⟩ ∈ lw_tbl := sk_tb7 _ (List.mem_of_getElem? (i := 127) (by decide +kernel))
theorem qm_L_42 : Cond.methodLink "ScrapedSkinLaw" 42 ⟨"ScrapedSkinLaw", "hand", "(LScrapedSkin;II[J)I"⟩ ∈ lw_tbl := sk_tb5 _ (List.mem_of_getElem? (i := 222) (by decide +kernel))
theorem qm_L_47 : Cond.methodLink "ScrapedSkinLaw" 47 ⟨"ScrapedSkinModel", "hand", "(II)I"⟩ ∈ lw_tbl := sk_tb7 _ (List.mem_of_getElem? (i := 131) (by decide +kernel))
theorem qm_L_48 : Cond.methodLink "ScrapedSkinLaw" 48 ⟨"ScrapedSkinModel", "thrown", "()I"⟩ ∈ lw_tbl := sk_tb6 _ (List.mem_of_getElem? (i := 214) (by decide +kernel))
theorem qm_L_52 : Cond.methodLink "ScrapedSkinLaw" 52 ⟨"ScrapedSkin", "sign", "(III)I"⟩ ∈ lw_tbl := sk_tb3 _ (List.mem_of_getElem? (i := 162) (by decide +kernel))
theorem qm_L_56 : Cond.methodLink "ScrapedSkinLaw" 56 ⟨"ScrapedSkinModel", "sign", "(III)I"⟩ ∈ lw_tbl := sk_tb7 _ (List.mem_of_getElem? (i := 147) (by decide +kernel))
theorem qm_L_57 : Cond.methodLink "ScrapedSkinLaw" 57 ⟨"ScrapedSkin", "layer", "(III)I"⟩ ∈ lw_tbl := sk_tb3 _ (List.mem_of_getElem? (i := 174) (by decide +kernel))
theorem qm_L_60 : Cond.methodLink "ScrapedSkinLaw" 60 ⟨"ScrapedSkinModel", "layer", "(III)I"⟩ ∈ lw_tbl := sk_tb7 _ (List.mem_of_getElem? (i := 151) (by decide +kernel))
theorem qm_L_61 : Cond.methodLink "ScrapedSkinLaw" 61 ⟨"ScrapedSkin", "law", "(I)Z"⟩ ∈ lw_tbl := sk_tb3 _ (List.mem_of_getElem? (i := 196) (by decide +kernel))
theorem qm_L_64 : Cond.methodLink "ScrapedSkinLaw" 64 ⟨"ScrapedSkinModel", "law", "(I)Z"⟩ ∈ lw_tbl := sk_tb7 _ (List.mem_of_getElem? (i := 159) (by decide +kernel))
theorem qm_L_65 : Cond.methodLink "ScrapedSkinLaw" 65 ⟨"ScrapedSkin", "scribes", "(I)Z"⟩ ∈ lw_tbl := sk_tb3 _ (List.mem_of_getElem? (i := 204) (by decide +kernel))
theorem qm_L_68 : Cond.methodLink "ScrapedSkinLaw" 68 ⟨"ScrapedSkinModel", "scribes", "(I)Z"⟩ ∈ lw_tbl := sk_tb7 _ (List.mem_of_getElem? (i := 163) (by decide +kernel))
theorem qm_L_69 : Cond.methodLink "ScrapedSkinLaw" 69 ⟨"ScrapedSkin", "write", "(IIII)I"⟩ ∈ lw_tbl := sk_tb3 _ (List.mem_of_getElem? (i := 208) (by decide +kernel))
theorem qm_L_73 : Cond.methodLink "ScrapedSkinLaw" 73 ⟨"ScrapedSkinModel", "write", "(IIII)I"⟩ ∈ lw_tbl := sk_tb7 _ (List.mem_of_getElem? (i := 167) (by decide +kernel))
theorem qm_L_74 : Cond.methodLink "ScrapedSkinLaw" 74 ⟨"ScrapedSkin", "scrape", "(II)I"⟩ ∈ lw_tbl := sk_tb4 _ (List.mem_of_getElem? (i := 57) (by decide +kernel))
theorem qm_L_77 : Cond.methodLink "ScrapedSkinLaw" 77 ⟨"ScrapedSkinModel", "scrape", "(II)I"⟩ ∈ lw_tbl := sk_tb7 _ (List.mem_of_getElem? (i := 215) (by decide +kernel))
theorem qm_L_78 : Cond.methodLink "ScrapedSkinLaw" 78 ⟨"ScrapedSkin", "ages", "(I)I"⟩ ∈ lw_tbl := sk_tb4 _ (List.mem_of_getElem? (i := 80) (by decide +kernel))
theorem qm_L_81 : Cond.methodLink "ScrapedSkinLaw" 81 ⟨"ScrapedSkinModel", "ages", "(I)I"⟩ ∈ lw_tbl := sk_tb8 _ (List.mem_of_getElem? (i := 0) (by decide +kernel))
theorem qm_L_82 : Cond.methodLink "ScrapedSkinLaw" 82 ⟨"ScrapedSkin", "give", "(I)I"⟩ ∈ lw_tbl := sk_tb4 _ (List.mem_of_getElem? (i := 178) (by decide +kernel))
theorem qm_L_85 : Cond.methodLink "ScrapedSkinLaw" 85 ⟨"ScrapedSkinModel", "give", "(I)I"⟩ ∈ lw_tbl := sk_tb8 _ (List.mem_of_getElem? (i := 55) (by decide +kernel))
theorem qm_L_88 : Cond.methodLink "ScrapedSkinLaw" 88 ⟨"ScrapedSkin", "years", "(IJ)I"⟩ ∈ lw_tbl := sk_tb4 _ (List.mem_of_getElem? (i := 182) (by decide +kernel))
theorem qm_L_92 : Cond.methodLink "ScrapedSkinLaw" 92 ⟨"ScrapedSkinModel", "years", "(IJ)I"⟩ ∈ lw_tbl := sk_tb8 _ (List.mem_of_getElem? (i := 59) (by decide +kernel))
theorem qm_L_93 : Cond.methodLink "ScrapedSkinLaw" 93 ⟨"ScrapedSkin", "status", "(I)I"⟩ ∈ lw_tbl := sk_tb4 _ (List.mem_of_getElem? (i := 201) (by decide +kernel))
theorem qm_L_96 : Cond.methodLink "ScrapedSkinLaw" 96 ⟨"ScrapedSkinModel", "status", "(I)I"⟩ ∈ lw_tbl := sk_tb8 _ (List.mem_of_getElem? (i := 73) (by decide +kernel))
theorem qm_L_97 : Cond.methodLink "ScrapedSkinLaw" 97 ⟨"ScrapedSkin", "undo", "()I"⟩ ∈ lw_tbl := sk_tb4 _ (List.mem_of_getElem? (i := 205) (by decide +kernel))
theorem qr_long : Cond.arrayClass .long ∈ lw_tbl := sk_tb9 _ (List.mem_of_getElem? (i := 47) (by decide +kernel))
theorem qs_L_hand : Cond.static yL_hand ∈ lw_tbl := sk_tb5 _ (List.mem_of_getElem? (i := 223) (by decide +kernel))
theorem qz_L : Cond.initialized RL ∈ lw_tbl := sk_tb1 _ (List.mem_of_getElem? (i := 0) (by decide +kernel))
theorem m_X11_ages : sk_mok xX11_ages 1 := ⟨qc_X11_ages, qz_X11, by decide +kernel, by decide +kernel, by decide +kernel, by decide +kernel, by decide⟩
theorem m_X11_agrees : sk_mok xX11_agrees 3 := ⟨qc_X11_agrees, qz_X11, by decide +kernel, by decide +kernel, by decide +kernel, by decide +kernel, by decide⟩
theorem m_X11_ask : sk_mok xX11_ask 0 := ⟨qc_X11_ask, qz_X11, by decide +kernel, by decide +kernel, by decide +kernel, by decide +kernel, by decide⟩
theorem m_X11_back : sk_mok xX11_back 0 := ⟨qc_X11_back, qz_X11, by decide +kernel, by decide +kernel, by decide +kernel, by decide +kernel, by decide⟩
theorem m_X11_best : sk_mok xX11_best 1 := ⟨qc_X11_best, qz_X11, by decide +kernel, by decide +kernel, by decide +kernel, by decide +kernel, by decide⟩
theorem m_X11_count : sk_mok xX11_count 1 := ⟨qc_X11_count, qz_X11, by decide +kernel, by decide +kernel, by decide +kernel, by decide +kernel, by decide⟩
theorem m_X11_end : sk_mok xX11_end 1 := ⟨qc_X11_end, qz_X11, by decide +kernel, by decide +kernel, by decide +kernel, by decide +kernel, by decide⟩
theorem m_X11_faded : sk_mok xX11_faded 3 := ⟨qc_X11_faded, qz_X11, by decide +kernel, by decide +kernel, by decide +kernel, by decide +kernel, by decide⟩
theorem m_X11_feed : sk_mok xX11_feed 5 := ⟨qc_X11_feed, qz_X11, by decide +kernel, by decide +kernel, by decide +kernel, by decide +kernel, by decide⟩
theorem m_X11_fits : sk_mok xX11_fits 1 := ⟨qc_X11_fits, qz_X11, by decide +kernel, by decide +kernel, by decide +kernel, by decide +kernel, by decide⟩
theorem m_X11_game : sk_mok xX11_game 4 := ⟨qc_X11_game, qz_X11, by decide +kernel, by decide +kernel, by decide +kernel, by decide +kernel, by decide⟩
theorem m_X11_give : sk_mok xX11_give 1 := ⟨qc_X11_give, qz_X11, by decide +kernel, by decide +kernel, by decide +kernel, by decide +kernel, by decide⟩
theorem m_X11_image : sk_mok xX11_image 0 := ⟨qc_X11_image, qz_X11, by decide +kernel, by decide +kernel, by decide +kernel, by decide +kernel, by decide⟩
theorem m_X11_init : sk_mok xX11_init 0 := ⟨qc_X11_init, qz_X11, by decide +kernel, by decide +kernel, by decide +kernel, by decide +kernel, by decide⟩
theorem m_X11_lamp : sk_mok xX11_lamp 1 := ⟨qc_X11_lamp, qz_X11, by decide +kernel, by decide +kernel, by decide +kernel, by decide +kernel, by decide⟩
theorem m_X11_law : sk_mok xX11_law 1 := ⟨qc_X11_law, qz_X11, by decide +kernel, by decide +kernel, by decide +kernel, by decide +kernel, by decide⟩
theorem m_X11_layer : sk_mok xX11_layer 3 := ⟨qc_X11_layer, qz_X11, by decide +kernel, by decide +kernel, by decide +kernel, by decide +kernel, by decide⟩
theorem m_X11_log : sk_mok xX11_log 2 := ⟨qc_X11_log, qz_X11, by decide +kernel, by decide +kernel, by decide +kernel, by decide +kernel, by decide⟩
theorem m_X11_lost : sk_mok xX11_lost 3 := ⟨qc_X11_lost, qz_X11, by decide +kernel, by decide +kernel, by decide +kernel, by decide +kernel, by decide⟩
theorem m_X11_may : sk_mok xX11_may 2 := ⟨qc_X11_may, qz_X11, by decide +kernel, by decide +kernel, by decide +kernel, by decide +kernel, by decide⟩
theorem m_X11_most : sk_mok xX11_most 1 := ⟨qc_X11_most, qz_X11, by decide +kernel, by decide +kernel, by decide +kernel, by decide +kernel, by decide⟩
theorem m_X11_noted : sk_mok xX11_noted 3 := ⟨qc_X11_noted, qz_X11, by decide +kernel, by decide +kernel, by decide +kernel, by decide +kernel, by decide⟩
theorem m_X11_odds : sk_mok xX11_odds 4 := ⟨qc_X11_odds, qz_X11, by decide +kernel, by decide +kernel, by decide +kernel, by decide +kernel, by decide⟩
theorem m_X11_order : sk_mok xX11_order 1 := ⟨qc_X11_order, qz_X11, by decide +kernel, by decide +kernel, by decide +kernel, by decide +kernel, by decide⟩
theorem m_X11_over : sk_mok xX11_over 2 := ⟨qc_X11_over, qz_X11, by decide +kernel, by decide +kernel, by decide +kernel, by decide +kernel, by decide⟩
theorem m_X11_quire : sk_mok xX11_quire 1 := ⟨qc_X11_quire, qz_X11, by decide +kernel, by decide +kernel, by decide +kernel, by decide +kernel, by decide⟩
theorem m_X11_rests : sk_mok xX11_rests 2 := ⟨qc_X11_rests, qz_X11, by decide +kernel, by decide +kernel, by decide +kernel, by decide +kernel, by decide⟩
theorem m_X11_rule : sk_mok xX11_rule 1 := ⟨qc_X11_rule, qz_X11, by decide +kernel, by decide +kernel, by decide +kernel, by decide +kernel, by decide⟩
theorem m_X11_scrape : sk_mok xX11_scrape 2 := ⟨qc_X11_scrape, qz_X11, by decide +kernel, by decide +kernel, by decide +kernel, by decide +kernel, by decide⟩
theorem m_X11_scribes : sk_mok xX11_scribes 1 := ⟨qc_X11_scribes, qz_X11, by decide +kernel, by decide +kernel, by decide +kernel, by decide +kernel, by decide⟩
theorem m_X11_shares : sk_mok xX11_shares 2 := ⟨qc_X11_shares, qz_X11, by decide +kernel, by decide +kernel, by decide +kernel, by decide +kernel, by decide⟩
theorem m_X11_shows : sk_mok xX11_shows 1 := ⟨qc_X11_shows, qz_X11, by decide +kernel, by decide +kernel, by decide +kernel, by decide +kernel, by decide⟩
theorem m_X11_sign : sk_mok xX11_sign 3 := ⟨qc_X11_sign, qz_X11, by decide +kernel, by decide +kernel, by decide +kernel, by decide +kernel, by decide⟩
theorem m_X11_status : sk_mok xX11_status 1 := ⟨qc_X11_status, qz_X11, by decide +kernel, by decide +kernel, by decide +kernel, by decide +kernel, by decide⟩
theorem m_X11_text : sk_mok xX11_text 1 := ⟨qc_X11_text, qz_X11, by decide +kernel, by decide +kernel, by decide +kernel, by decide +kernel, by decide⟩
theorem m_X11_undo : sk_mok xX11_undo 0 := ⟨qc_X11_undo, qz_X11, by decide +kernel, by decide +kernel, by decide +kernel, by decide +kernel, by decide⟩
theorem m_X11_write : sk_mok xX11_write 4 := ⟨qc_X11_write, qz_X11, by decide +kernel, by decide +kernel, by decide +kernel, by decide +kernel, by decide⟩
theorem m_X11_years : sk_mok xX11_years 2 := ⟨qc_X11_years, qz_X11, by decide +kernel, by decide +kernel, by decide +kernel, by decide +kernel, by decide⟩
theorem m_X12_ages : sk_mok xX12_ages 1 := ⟨qc_X12_ages, qz_X12, by decide +kernel, by decide +kernel, by decide +kernel, by decide +kernel, by decide⟩
theorem m_X12_agrees : sk_mok xX12_agrees 3 := ⟨qc_X12_agrees, qz_X12, by decide +kernel, by decide +kernel, by decide +kernel, by decide +kernel, by decide⟩
theorem m_X12_ask : sk_mok xX12_ask 0 := ⟨qc_X12_ask, qz_X12, by decide +kernel, by decide +kernel, by decide +kernel, by decide +kernel, by decide⟩
theorem m_X12_back : sk_mok xX12_back 0 := ⟨qc_X12_back, qz_X12, by decide +kernel, by decide +kernel, by decide +kernel, by decide +kernel, by decide⟩
theorem m_X12_best : sk_mok xX12_best 1 := ⟨qc_X12_best, qz_X12, by decide +kernel, by decide +kernel, by decide +kernel, by decide +kernel, by decide⟩
theorem m_X12_count : sk_mok xX12_count 1 := ⟨qc_X12_count, qz_X12, by decide +kernel, by decide +kernel, by decide +kernel, by decide +kernel, by decide⟩
theorem m_X12_end : sk_mok xX12_end 1 := ⟨qc_X12_end, qz_X12, by decide +kernel, by decide +kernel, by decide +kernel, by decide +kernel, by decide⟩
theorem m_X12_faded : sk_mok xX12_faded 3 := ⟨qc_X12_faded, qz_X12, by decide +kernel, by decide +kernel, by decide +kernel, by decide +kernel, by decide⟩
theorem m_X12_fault : sk_mok xX12_fault 1 := ⟨qc_X12_fault, qz_X12, by decide +kernel, by decide +kernel, by decide +kernel, by decide +kernel, by decide⟩
theorem m_X12_feed : sk_mok xX12_feed 5 := ⟨qc_X12_feed, qz_X12, by decide +kernel, by decide +kernel, by decide +kernel, by decide +kernel, by decide⟩
theorem m_X12_game : sk_mok xX12_game 4 := ⟨qc_X12_game, qz_X12, by decide +kernel, by decide +kernel, by decide +kernel, by decide +kernel, by decide⟩
theorem m_X12_give : sk_mok xX12_give 1 := ⟨qc_X12_give, qz_X12, by decide +kernel, by decide +kernel, by decide +kernel, by decide +kernel, by decide⟩
theorem m_X12_hand : sk_mok xX12_hand 2 := ⟨qc_X12_hand, qz_X12, by decide +kernel, by decide +kernel, by decide +kernel, by decide +kernel, by decide⟩
theorem m_X12_image : sk_mok xX12_image 0 := ⟨qc_X12_image, qz_X12, by decide +kernel, by decide +kernel, by decide +kernel, by decide +kernel, by decide⟩
theorem m_X12_init : sk_mok xX12_init 0 := ⟨qc_X12_init, qz_X12, by decide +kernel, by decide +kernel, by decide +kernel, by decide +kernel, by decide⟩
theorem m_X12_lamp : sk_mok xX12_lamp 1 := ⟨qc_X12_lamp, qz_X12, by decide +kernel, by decide +kernel, by decide +kernel, by decide +kernel, by decide⟩
theorem m_X12_law : sk_mok xX12_law 1 := ⟨qc_X12_law, qz_X12, by decide +kernel, by decide +kernel, by decide +kernel, by decide +kernel, by decide⟩
theorem m_X12_layer : sk_mok xX12_layer 3 := ⟨qc_X12_layer, qz_X12, by decide +kernel, by decide +kernel, by decide +kernel, by decide +kernel, by decide⟩
theorem m_X12_log : sk_mok xX12_log 2 := ⟨qc_X12_log, qz_X12, by decide +kernel, by decide +kernel, by decide +kernel, by decide +kernel, by decide⟩
theorem m_X12_lost : sk_mok xX12_lost 3 := ⟨qc_X12_lost, qz_X12, by decide +kernel, by decide +kernel, by decide +kernel, by decide +kernel, by decide⟩
theorem m_X12_may : sk_mok xX12_may 2 := ⟨qc_X12_may, qz_X12, by decide +kernel, by decide +kernel, by decide +kernel, by decide +kernel, by decide⟩
theorem m_X12_meets : sk_mok xX12_meets 2 := ⟨qc_X12_meets, qz_X12, by decide +kernel, by decide +kernel, by decide +kernel, by decide +kernel, by decide⟩
theorem m_X12_most : sk_mok xX12_most 1 := ⟨qc_X12_most, qz_X12, by decide +kernel, by decide +kernel, by decide +kernel, by decide +kernel, by decide⟩
theorem m_X12_noted : sk_mok xX12_noted 3 := ⟨qc_X12_noted, qz_X12, by decide +kernel, by decide +kernel, by decide +kernel, by decide +kernel, by decide⟩
theorem m_X12_odds : sk_mok xX12_odds 4 := ⟨qc_X12_odds, qz_X12, by decide +kernel, by decide +kernel, by decide +kernel, by decide +kernel, by decide⟩
theorem m_X12_order : sk_mok xX12_order 1 := ⟨qc_X12_order, qz_X12, by decide +kernel, by decide +kernel, by decide +kernel, by decide +kernel, by decide⟩
theorem m_X12_over : sk_mok xX12_over 2 := ⟨qc_X12_over, qz_X12, by decide +kernel, by decide +kernel, by decide +kernel, by decide +kernel, by decide⟩
theorem m_X12_quire : sk_mok xX12_quire 1 := ⟨qc_X12_quire, qz_X12, by decide +kernel, by decide +kernel, by decide +kernel, by decide +kernel, by decide⟩
theorem m_X12_rests : sk_mok xX12_rests 2 := ⟨qc_X12_rests, qz_X12, by decide +kernel, by decide +kernel, by decide +kernel, by decide +kernel, by decide⟩
theorem m_X12_rule : sk_mok xX12_rule 1 := ⟨qc_X12_rule, qz_X12, by decide +kernel, by decide +kernel, by decide +kernel, by decide +kernel, by decide⟩
theorem m_X12_scrape : sk_mok xX12_scrape 2 := ⟨qc_X12_scrape, qz_X12, by decide +kernel, by decide +kernel, by decide +kernel, by decide +kernel, by decide⟩
theorem m_X12_scribes : sk_mok xX12_scribes 1 := ⟨qc_X12_scribes, qz_X12, by decide +kernel, by decide +kernel, by decide +kernel, by decide +kernel, by decide⟩
theorem m_X12_shares : sk_mok xX12_shares 2 := ⟨qc_X12_shares, qz_X12, by decide +kernel, by decide +kernel, by decide +kernel, by decide +kernel, by decide⟩
theorem m_X12_shows : sk_mok xX12_shows 1 := ⟨qc_X12_shows, qz_X12, by decide +kernel, by decide +kernel, by decide +kernel, by decide +kernel, by decide⟩
theorem m_X12_sign : sk_mok xX12_sign 3 := ⟨qc_X12_sign, qz_X12, by decide +kernel, by decide +kernel, by decide +kernel, by decide +kernel, by decide⟩
theorem m_X12_status : sk_mok xX12_status 1 := ⟨qc_X12_status, qz_X12, by decide +kernel, by decide +kernel, by decide +kernel, by decide +kernel, by decide⟩
theorem m_X12_text : sk_mok xX12_text 1 := ⟨qc_X12_text, qz_X12, by decide +kernel, by decide +kernel, by decide +kernel, by decide +kernel, by decide⟩
theorem m_X12_thrown : sk_mok xX12_thrown 0 := ⟨qc_X12_thrown, qz_X12, by decide +kernel, by decide +kernel, by decide +kernel, by decide +kernel, by decide⟩
theorem m_X12_undo : sk_mok xX12_undo 0 := ⟨qc_X12_undo, qz_X12, by decide +kernel, by decide +kernel, by decide +kernel, by decide +kernel, by decide⟩
theorem m_X12_write : sk_mok xX12_write 4 := ⟨qc_X12_write, qz_X12, by decide +kernel, by decide +kernel, by decide +kernel, by decide +kernel, by decide⟩
theorem m_X12_years : sk_mok xX12_years 2 := ⟨qc_X12_years, qz_X12, by decide +kernel, by decide +kernel, by decide +kernel, by decide +kernel, by decide⟩
theorem lw_w0 (w : sk_W) : w = (w.1, w.2.1, w.2.2.1 - 0, w.2.2.2.1 - 0, w.2.2.2.2.1, w.2.2.2.2.2) := rfl
/-- the call of the law's own hand, which catches -/
def lh_ws : List Cond := [Cond.codeWith yL_hand cL_hand 5 (some .int) [(0, 10, 13, 13)]]
def o_hnd (w : sk_W) (ck sk : Nat) (k : sk_K) : sk_K := fun L st M => match sk_pop 4 [] st with
  | some (as, r) => sk_wt r ≤ 8 ∧ 1 ≤ w.2.1 ∧ ck ≤ w.2.2.1 ∧ sk ≤ w.2.2.2.1 ∧ Met w.1.1 yL_hand lh_ws (sk_R (w.2.1 - 1) ck sk) (sk_Pc w.1 as M) (sk_Q w.1 (fun v M' => k L (sk_tl v r) M')) ck sk (sk_fr w.1)
  | _ => False
theorem s_hnd {w w' : sk_W} {pc : Nat} {k : sk_K} {ck sk index : Nat} (hd : decode (sk_bc w) pc = .ok (.invokestatic index, 3)) (hl : Cond.methodLink w.2.2.2.2.1.1.cls index yL_hand ∈ lw_tbl)
    (hw : w' = (w.1, w.2.1, w.2.2.1 - ck, w.2.2.2.1 - sk, w.2.2.2.2.1, w.2.2.2.2.2)) (hk : sk_S w' (pc + 3) k) : sk_S w pc (o_hnd w ck sk k) := by
  intro L st M h
  unfold o_hnd at h
  split at h
  next as r hp =>
    obtain ⟨hwt, hdd, hck, hsk, hmet⟩ := h
    obtain ⟨hlen, hsp⟩ := sk_pop_spec _ _ _ _ _ hp
    have hst' : st.map sk_val = (as.map sk_val).reverse ++ r.map sk_val := by
      have h3 := congrArg (List.map sk_val) hsp
      simp only [List.map_append, List.map_reverse, List.reverse_nil, List.nil_append] at h3
      exact h3.symm
    intro p e s m args below meth c H locs cells slots mc ms ls hC h1 h2 hH hLo hl'
    have hC0 := hC
    obtain ⟨hx, hb, -, hml, -, hown, -, hW, hg⟩ := hC
    have hcw : vx_CSW (sk_R w.2.1 mc ms) s args w.2.2.2.2.1.1.cls index yL_hand cL_hand 5 (some .int) [(0, 10, 13, 13)] lh_ws (sk_R (w.2.1 - 1) ck sk) ck sk 4 := by
      refine ⟨⟨rfl, rfl, ?_, ?_, ?_, List.mem_cons_self⟩, sk_use qcw_hand rfl hg hW args, sk_use qz_L rfl hg hW args, by decide +kernel, fun sig h => ?_, sk_use hl rfl hg hW args, sk_use qs_L_hand rfl hg hW args⟩
      · show w.2.1 - 1 + 1 ≤ w.2.1; omega
      · show 8 + (5 + 11) + 80 * (w.2.1 - 1) ≤ 80 * w.2.1; omega
      · intro x hxx a' U hU
        have hx' : x = Cond.codeWith yL_hand cL_hand 5 (some .int) [(0, 10, 13, 13)] := by simpa [lh_ws] using hxx
        subst hx'
        exact sk_use qcw_hand rfl hg (State.WarmedH.trans hW hU) a'
      · have h6 : (parseMethodDescriptor yL_hand.desc).map (fun d => d.parameters.length) = some 4 := by decide +kernel
        rw [h] at h6
        exact (Option.some.inj h6).symm
    rw [hst']
    refine sk_back (a := (as.map sk_val).toArray) hw hck hsk hk (vx_runSW (Ts := []) (As := as.map sk_val) (rest := r.map sk_val) ⟨hx, hb, hml, hown, fun w h => by cases h⟩ hmet hcw ⟨sk_blind _ _ _, fun U hU hWU => ⟨rfl, by rw [hU]; exact hH, State.WarmedH.trans hW hWU⟩⟩ rfl (by simpa using hlen) hl'.1 rfl (lv_room (by rw [sk_wt_eq]; exact hwt)) hd ⟨by show cells + ck ≤ mc; omega, by show slots + sk ≤ ms; omega⟩) hC0 h1 h2 hLo hl'
  next => exact h.elim
theorem dL_law_0 : decode cL_law 0 = .ok (.new 8, 3) := by decide +kernel
theorem dL_law_3 : decode cL_law 3 = .ok (.dup, 1) := by decide +kernel
theorem dL_law_4 : decode cL_law 4 = .ok (.invokespecial 15, 3) := by decide +kernel
theorem dL_law_7 : decode cL_law 7 = .ok (.astore_n 1, 1) := by decide +kernel
theorem dL_law_8 : decode cL_law 8 = .ok (.new 16, 3) := by decide +kernel
theorem dL_law_11 : decode cL_law 11 = .ok (.dup, 1) := by decide +kernel
theorem dL_law_12 : decode cL_law 12 = .ok (.invokespecial 18, 3) := by decide +kernel
theorem dL_law_15 : decode cL_law 15 = .ok (.astore_n 2, 1) := by decide +kernel
theorem dL_law_16 : decode cL_law 16 = .ok (.iconst 1, 1) := by decide +kernel
theorem dL_law_17 : decode cL_law 17 = .ok (.newarray .long, 2) := by decide +kernel
theorem dL_law_19 : decode cL_law 19 = .ok (.astore_n 3, 1) := by decide +kernel
theorem dL_law_20 : decode cL_law 20 = .ok (.iconst 0, 1) := by decide +kernel
theorem dL_law_21 : decode cL_law 21 = .ok (.istore 4, 2) := by decide +kernel
theorem dL_law_23 : decode cL_law 23 = .ok (.iload 4, 2) := by decide +kernel
theorem dL_law_25 : decode cL_law 25 = .ok (.aload_n 0, 1) := by decide +kernel
theorem dL_law_26 : decode cL_law 26 = .ok (.arraylength, 1) := by decide +kernel
theorem dL_law_27 : decode cL_law 27 = .ok (.bipush 6, 2) := by decide +kernel
theorem dL_law_29 : decode cL_law 29 = .ok (.isub, 1) := by decide +kernel
theorem dL_law_30 : decode cL_law 30 = .ok (.if_icmp .gt 1631, 3) := by decide +kernel
theorem dL_law_33 : decode cL_law 33 = .ok (.aload_n 0, 1) := by decide +kernel
theorem dL_law_34 : decode cL_law 34 = .ok (.iload 4, 2) := by decide +kernel
theorem dL_law_36 : decode cL_law 36 = .ok (.iaload, 1) := by decide +kernel
theorem dL_law_37 : decode cL_law 37 = .ok (.bipush 63, 2) := by decide +kernel
theorem dL_law_39 : decode cL_law 39 = .ok (.iand, 1) := by decide +kernel
theorem dL_law_40 : decode cL_law 40 = .ok (.tableswitch 1615 0 39 #[176, 249, 274, 299, 324, 349, 417, 466, 515, 540, 565, 626, 663, 688, 713, 782, 807, 820, 857, 882, 907, 956, 993, 1018, 1055, 1080, 1129, 1178, 1243, 1268, 1281, 1318, 1343, 1404, 1441, 1502, 1539, 1564, 1577, 1590], 176) := by decide +kernel
theorem dL_law_216 : decode cL_law 216 = .ok (.aload_n 1, 1) := by decide +kernel
theorem dL_law_217 : decode cL_law 217 = .ok (.aload_n 0, 1) := by decide +kernel
theorem dL_law_218 : decode cL_law 218 = .ok (.iload 4, 2) := by decide +kernel
theorem dL_law_220 : decode cL_law 220 = .ok (.iconst 1, 1) := by decide +kernel
theorem dL_law_221 : decode cL_law 221 = .ok (.iadd, 1) := by decide +kernel
theorem dL_law_222 : decode cL_law 222 = .ok (.iaload, 1) := by decide +kernel
theorem dL_law_223 : decode cL_law 223 = .ok (.aload_n 0, 1) := by decide +kernel
theorem dL_law_224 : decode cL_law 224 = .ok (.iload 4, 2) := by decide +kernel
theorem dL_law_226 : decode cL_law 226 = .ok (.iconst 2, 1) := by decide +kernel
theorem dL_law_227 : decode cL_law 227 = .ok (.iadd, 1) := by decide +kernel
theorem dL_law_228 : decode cL_law 228 = .ok (.iaload, 1) := by decide +kernel
theorem dL_law_229 : decode cL_law 229 = .ok (.aload_n 0, 1) := by decide +kernel
theorem dL_law_230 : decode cL_law 230 = .ok (.iload 4, 2) := by decide +kernel
theorem dL_law_232 : decode cL_law 232 = .ok (.iconst 3, 1) := by decide +kernel
theorem dL_law_233 : decode cL_law 233 = .ok (.iadd, 1) := by decide +kernel
theorem dL_law_234 : decode cL_law 234 = .ok (.iaload, 1) := by decide +kernel
theorem dL_law_235 : decode cL_law 235 = .ok (.aload_n 0, 1) := by decide +kernel
theorem dL_law_236 : decode cL_law 236 = .ok (.iload 4, 2) := by decide +kernel
theorem dL_law_238 : decode cL_law 238 = .ok (.iconst 4, 1) := by decide +kernel
theorem dL_law_239 : decode cL_law 239 = .ok (.iadd, 1) := by decide +kernel
theorem dL_law_240 : decode cL_law 240 = .ok (.iaload, 1) := by decide +kernel
theorem dL_law_241 : decode cL_law 241 = .ok (.aload_n 0, 1) := by decide +kernel
theorem dL_law_242 : decode cL_law 242 = .ok (.iload 4, 2) := by decide +kernel
theorem dL_law_244 : decode cL_law 244 = .ok (.iconst 5, 1) := by decide +kernel
theorem dL_law_245 : decode cL_law 245 = .ok (.iadd, 1) := by decide +kernel
theorem dL_law_246 : decode cL_law 246 = .ok (.iaload, 1) := by decide +kernel
theorem dL_law_247 : decode cL_law 247 = .ok (.invokevirtual 19, 3) := by decide +kernel
theorem dL_law_250 : decode cL_law 250 = .ok (.aload_n 2, 1) := by decide +kernel
theorem dL_law_251 : decode cL_law 251 = .ok (.aload_n 0, 1) := by decide +kernel
theorem dL_law_252 : decode cL_law 252 = .ok (.iload 4, 2) := by decide +kernel
theorem dL_law_254 : decode cL_law 254 = .ok (.iconst 1, 1) := by decide +kernel
theorem dL_law_255 : decode cL_law 255 = .ok (.iadd, 1) := by decide +kernel
theorem dL_law_256 : decode cL_law 256 = .ok (.iaload, 1) := by decide +kernel
theorem dL_law_257 : decode cL_law 257 = .ok (.aload_n 0, 1) := by decide +kernel
theorem dL_law_258 : decode cL_law 258 = .ok (.iload 4, 2) := by decide +kernel
theorem dL_law_260 : decode cL_law 260 = .ok (.iconst 2, 1) := by decide +kernel
theorem dL_law_261 : decode cL_law 261 = .ok (.iadd, 1) := by decide +kernel
theorem dL_law_262 : decode cL_law 262 = .ok (.iaload, 1) := by decide +kernel
theorem dL_law_263 : decode cL_law 263 = .ok (.aload_n 0, 1) := by decide +kernel
theorem dL_law_264 : decode cL_law 264 = .ok (.iload 4, 2) := by decide +kernel
theorem dL_law_266 : decode cL_law 266 = .ok (.iconst 3, 1) := by decide +kernel
theorem dL_law_267 : decode cL_law 267 = .ok (.iadd, 1) := by decide +kernel
theorem dL_law_268 : decode cL_law 268 = .ok (.iaload, 1) := by decide +kernel
theorem dL_law_269 : decode cL_law 269 = .ok (.aload_n 0, 1) := by decide +kernel
theorem dL_law_270 : decode cL_law 270 = .ok (.iload 4, 2) := by decide +kernel
theorem dL_law_272 : decode cL_law 272 = .ok (.iconst 4, 1) := by decide +kernel
theorem dL_law_273 : decode cL_law 273 = .ok (.iadd, 1) := by decide +kernel
theorem dL_law_274 : decode cL_law 274 = .ok (.iaload, 1) := by decide +kernel
theorem dL_law_275 : decode cL_law 275 = .ok (.aload_n 0, 1) := by decide +kernel
theorem dL_law_276 : decode cL_law 276 = .ok (.iload 4, 2) := by decide +kernel
theorem dL_law_278 : decode cL_law 278 = .ok (.iconst 5, 1) := by decide +kernel
theorem dL_law_279 : decode cL_law 279 = .ok (.iadd, 1) := by decide +kernel
theorem dL_law_280 : decode cL_law 280 = .ok (.iaload, 1) := by decide +kernel
theorem dL_law_281 : decode cL_law 281 = .ok (.invokevirtual 23, 3) := by decide +kernel
theorem dL_law_284 : decode cL_law 284 = .ok (.if_icmp .eq 1371, 3) := by decide +kernel
theorem dL_law_287 : decode cL_law 287 = .ok (.iconst 0, 1) := by decide +kernel
theorem dL_law_288 : decode cL_law 288 = .ok (.ireturn, 1) := by decide +kernel
theorem dL_law_289 : decode cL_law 289 = .ok (.aload_n 1, 1) := by decide +kernel
theorem dL_law_290 : decode cL_law 290 = .ok (.aload_n 0, 1) := by decide +kernel
theorem dL_law_291 : decode cL_law 291 = .ok (.iload 4, 2) := by decide +kernel
theorem dL_law_293 : decode cL_law 293 = .ok (.iconst 1, 1) := by decide +kernel
theorem dL_law_294 : decode cL_law 294 = .ok (.iadd, 1) := by decide +kernel
theorem dL_law_295 : decode cL_law 295 = .ok (.iaload, 1) := by decide +kernel
theorem dL_law_296 : decode cL_law 296 = .ok (.invokevirtual 24, 3) := by decide +kernel
theorem dL_law_299 : decode cL_law 299 = .ok (.aload_n 2, 1) := by decide +kernel
theorem dL_law_300 : decode cL_law 300 = .ok (.aload_n 0, 1) := by decide +kernel
theorem dL_law_301 : decode cL_law 301 = .ok (.iload 4, 2) := by decide +kernel
theorem dL_law_303 : decode cL_law 303 = .ok (.iconst 1, 1) := by decide +kernel
theorem dL_law_304 : decode cL_law 304 = .ok (.iadd, 1) := by decide +kernel
theorem dL_law_305 : decode cL_law 305 = .ok (.iaload, 1) := by decide +kernel
theorem dL_law_306 : decode cL_law 306 = .ok (.invokevirtual 28, 3) := by decide +kernel
theorem dL_law_309 : decode cL_law 309 = .ok (.if_icmp .eq 1346, 3) := by decide +kernel
theorem dL_law_312 : decode cL_law 312 = .ok (.iconst 0, 1) := by decide +kernel
theorem dL_law_313 : decode cL_law 313 = .ok (.ireturn, 1) := by decide +kernel
theorem dL_law_314 : decode cL_law 314 = .ok (.aload_n 1, 1) := by decide +kernel
theorem dL_law_315 : decode cL_law 315 = .ok (.aload_n 0, 1) := by decide +kernel
theorem dL_law_316 : decode cL_law 316 = .ok (.iload 4, 2) := by decide +kernel
theorem dL_law_318 : decode cL_law 318 = .ok (.iconst 1, 1) := by decide +kernel
theorem dL_law_319 : decode cL_law 319 = .ok (.iadd, 1) := by decide +kernel
theorem dL_law_320 : decode cL_law 320 = .ok (.iaload, 1) := by decide +kernel
theorem dL_law_321 : decode cL_law 321 = .ok (.invokevirtual 29, 3) := by decide +kernel
theorem dL_law_324 : decode cL_law 324 = .ok (.aload_n 2, 1) := by decide +kernel
theorem dL_law_325 : decode cL_law 325 = .ok (.aload_n 0, 1) := by decide +kernel
theorem dL_law_326 : decode cL_law 326 = .ok (.iload 4, 2) := by decide +kernel
theorem dL_law_328 : decode cL_law 328 = .ok (.iconst 1, 1) := by decide +kernel
theorem dL_law_329 : decode cL_law 329 = .ok (.iadd, 1) := by decide +kernel
theorem dL_law_330 : decode cL_law 330 = .ok (.iaload, 1) := by decide +kernel
theorem dL_law_331 : decode cL_law 331 = .ok (.invokevirtual 33, 3) := by decide +kernel
theorem dL_law_334 : decode cL_law 334 = .ok (.if_icmp .eq 1321, 3) := by decide +kernel
theorem dL_law_337 : decode cL_law 337 = .ok (.iconst 0, 1) := by decide +kernel
theorem dL_law_338 : decode cL_law 338 = .ok (.ireturn, 1) := by decide +kernel
theorem dL_law_339 : decode cL_law 339 = .ok (.aload_n 1, 1) := by decide +kernel
theorem dL_law_340 : decode cL_law 340 = .ok (.aload_n 0, 1) := by decide +kernel
theorem dL_law_341 : decode cL_law 341 = .ok (.iload 4, 2) := by decide +kernel
theorem dL_law_343 : decode cL_law 343 = .ok (.iconst 1, 1) := by decide +kernel
theorem dL_law_344 : decode cL_law 344 = .ok (.iadd, 1) := by decide +kernel
theorem dL_law_345 : decode cL_law 345 = .ok (.iaload, 1) := by decide +kernel
theorem dL_law_346 : decode cL_law 346 = .ok (.invokevirtual 34, 3) := by decide +kernel
theorem dL_law_349 : decode cL_law 349 = .ok (.aload_n 2, 1) := by decide +kernel
theorem dL_law_350 : decode cL_law 350 = .ok (.aload_n 0, 1) := by decide +kernel
theorem dL_law_351 : decode cL_law 351 = .ok (.iload 4, 2) := by decide +kernel
theorem dL_law_353 : decode cL_law 353 = .ok (.iconst 1, 1) := by decide +kernel
theorem dL_law_354 : decode cL_law 354 = .ok (.iadd, 1) := by decide +kernel
theorem dL_law_355 : decode cL_law 355 = .ok (.iaload, 1) := by decide +kernel
theorem dL_law_356 : decode cL_law 356 = .ok (.invokevirtual 37, 3) := by decide +kernel
theorem dL_law_359 : decode cL_law 359 = .ok (.if_icmp .eq 1296, 3) := by decide +kernel
theorem dL_law_362 : decode cL_law 362 = .ok (.iconst 0, 1) := by decide +kernel
theorem dL_law_363 : decode cL_law 363 = .ok (.ireturn, 1) := by decide +kernel
theorem dL_law_364 : decode cL_law 364 = .ok (.aload_n 1, 1) := by decide +kernel
theorem dL_law_365 : decode cL_law 365 = .ok (.aload_n 0, 1) := by decide +kernel
theorem dL_law_366 : decode cL_law 366 = .ok (.iload 4, 2) := by decide +kernel
theorem dL_law_368 : decode cL_law 368 = .ok (.iconst 1, 1) := by decide +kernel
theorem dL_law_369 : decode cL_law 369 = .ok (.iadd, 1) := by decide +kernel
theorem dL_law_370 : decode cL_law 370 = .ok (.iaload, 1) := by decide +kernel
theorem dL_law_371 : decode cL_law 371 = .ok (.invokevirtual 38, 3) := by decide +kernel
theorem dL_law_374 : decode cL_law 374 = .ok (.aload_n 2, 1) := by decide +kernel
theorem dL_law_375 : decode cL_law 375 = .ok (.aload_n 0, 1) := by decide +kernel
theorem dL_law_376 : decode cL_law 376 = .ok (.iload 4, 2) := by decide +kernel
theorem dL_law_378 : decode cL_law 378 = .ok (.iconst 1, 1) := by decide +kernel
theorem dL_law_379 : decode cL_law 379 = .ok (.iadd, 1) := by decide +kernel
theorem dL_law_380 : decode cL_law 380 = .ok (.iaload, 1) := by decide +kernel
theorem dL_law_381 : decode cL_law 381 = .ok (.invokevirtual 41, 3) := by decide +kernel
theorem dL_law_384 : decode cL_law 384 = .ok (.if_icmp .eq 1271, 3) := by decide +kernel
theorem dL_law_387 : decode cL_law 387 = .ok (.iconst 0, 1) := by decide +kernel
theorem dL_law_388 : decode cL_law 388 = .ok (.ireturn, 1) := by decide +kernel
theorem dL_law_389 : decode cL_law 389 = .ok (.aload_n 1, 1) := by decide +kernel
theorem dL_law_390 : decode cL_law 390 = .ok (.aload_n 0, 1) := by decide +kernel
theorem dL_law_391 : decode cL_law 391 = .ok (.iload 4, 2) := by decide +kernel
theorem dL_law_393 : decode cL_law 393 = .ok (.iconst 1, 1) := by decide +kernel
theorem dL_law_394 : decode cL_law 394 = .ok (.iadd, 1) := by decide +kernel
theorem dL_law_395 : decode cL_law 395 = .ok (.iaload, 1) := by decide +kernel
theorem dL_law_396 : decode cL_law 396 = .ok (.aload_n 0, 1) := by decide +kernel
theorem dL_law_397 : decode cL_law 397 = .ok (.iload 4, 2) := by decide +kernel
theorem dL_law_399 : decode cL_law 399 = .ok (.iconst 2, 1) := by decide +kernel
theorem dL_law_400 : decode cL_law 400 = .ok (.iadd, 1) := by decide +kernel
theorem dL_law_401 : decode cL_law 401 = .ok (.iaload, 1) := by decide +kernel
theorem dL_law_402 : decode cL_law 402 = .ok (.aload_n 3, 1) := by decide +kernel
theorem dL_law_403 : decode cL_law 403 = .ok (.invokestatic 42, 3) := by decide +kernel
theorem dL_law_406 : decode cL_law 406 = .ok (.istore 5, 2) := by decide +kernel
theorem dL_law_408 : decode cL_law 408 = .ok (.aload_n 2, 1) := by decide +kernel
theorem dL_law_409 : decode cL_law 409 = .ok (.aload_n 0, 1) := by decide +kernel
theorem dL_law_410 : decode cL_law 410 = .ok (.iload 4, 2) := by decide +kernel
theorem dL_law_412 : decode cL_law 412 = .ok (.iconst 1, 1) := by decide +kernel
theorem dL_law_413 : decode cL_law 413 = .ok (.iadd, 1) := by decide +kernel
theorem dL_law_414 : decode cL_law 414 = .ok (.iaload, 1) := by decide +kernel
theorem dL_law_415 : decode cL_law 415 = .ok (.aload_n 0, 1) := by decide +kernel
theorem dL_law_416 : decode cL_law 416 = .ok (.iload 4, 2) := by decide +kernel
theorem dL_law_418 : decode cL_law 418 = .ok (.iconst 2, 1) := by decide +kernel
theorem dL_law_419 : decode cL_law 419 = .ok (.iadd, 1) := by decide +kernel
theorem dL_law_420 : decode cL_law 420 = .ok (.iaload, 1) := by decide +kernel
theorem dL_law_421 : decode cL_law 421 = .ok (.invokevirtual 47, 3) := by decide +kernel
theorem dL_law_424 : decode cL_law 424 = .ok (.istore 6, 2) := by decide +kernel
theorem dL_law_426 : decode cL_law 426 = .ok (.aload_n 2, 1) := by decide +kernel
theorem dL_law_427 : decode cL_law 427 = .ok (.invokevirtual 48, 3) := by decide +kernel
theorem dL_law_430 : decode cL_law 430 = .ok (.iload 5, 2) := by decide +kernel
theorem dL_law_432 : decode cL_law 432 = .ok (.if_icmp .eq 5, 3) := by decide +kernel
theorem dL_law_435 : decode cL_law 435 = .ok (.iconst 0, 1) := by decide +kernel
theorem dL_law_436 : decode cL_law 436 = .ok (.ireturn, 1) := by decide +kernel
theorem dL_law_437 : decode cL_law 437 = .ok (.iload 5, 2) := by decide +kernel
theorem dL_law_439 : decode cL_law 439 = .ok (.ifCond .ne 15, 3) := by decide +kernel
theorem dL_law_442 : decode cL_law 442 = .ok (.aload_n 3, 1) := by decide +kernel
theorem dL_law_443 : decode cL_law 443 = .ok (.iconst 0, 1) := by decide +kernel
theorem dL_law_444 : decode cL_law 444 = .ok (.laload, 1) := by decide +kernel
theorem dL_law_445 : decode cL_law 445 = .ok (.iload 6, 2) := by decide +kernel
theorem dL_law_447 : decode cL_law 447 = .ok (.i2l, 1) := by decide +kernel
theorem dL_law_448 : decode cL_law 448 = .ok (.lcmp, 1) := by decide +kernel
theorem dL_law_449 : decode cL_law 449 = .ok (.ifCond .eq 5, 3) := by decide +kernel
theorem dL_law_452 : decode cL_law 452 = .ok (.iconst 0, 1) := by decide +kernel
theorem dL_law_453 : decode cL_law 453 = .ok (.ireturn, 1) := by decide +kernel
theorem dL_law_454 : decode cL_law 454 = .ok (.goto 1201, 3) := by decide +kernel
theorem dL_law_457 : decode cL_law 457 = .ok (.aload_n 1, 1) := by decide +kernel
theorem dL_law_458 : decode cL_law 458 = .ok (.aload_n 0, 1) := by decide +kernel
theorem dL_law_459 : decode cL_law 459 = .ok (.iload 4, 2) := by decide +kernel
theorem dL_law_461 : decode cL_law 461 = .ok (.iconst 1, 1) := by decide +kernel
theorem dL_law_462 : decode cL_law 462 = .ok (.iadd, 1) := by decide +kernel
theorem dL_law_463 : decode cL_law 463 = .ok (.iaload, 1) := by decide +kernel
theorem dL_law_464 : decode cL_law 464 = .ok (.aload_n 0, 1) := by decide +kernel
theorem dL_law_465 : decode cL_law 465 = .ok (.iload 4, 2) := by decide +kernel
theorem dL_law_467 : decode cL_law 467 = .ok (.iconst 2, 1) := by decide +kernel
theorem dL_law_468 : decode cL_law 468 = .ok (.iadd, 1) := by decide +kernel
theorem dL_law_469 : decode cL_law 469 = .ok (.iaload, 1) := by decide +kernel
theorem dL_law_470 : decode cL_law 470 = .ok (.aload_n 0, 1) := by decide +kernel
theorem dL_law_471 : decode cL_law 471 = .ok (.iload 4, 2) := by decide +kernel
theorem dL_law_473 : decode cL_law 473 = .ok (.iconst 3, 1) := by decide +kernel
theorem dL_law_474 : decode cL_law 474 = .ok (.iadd, 1) := by decide +kernel
theorem dL_law_475 : decode cL_law 475 = .ok (.iaload, 1) := by decide +kernel
theorem dL_law_476 : decode cL_law 476 = .ok (.invokevirtual 52, 3) := by decide +kernel
theorem dL_law_479 : decode cL_law 479 = .ok (.aload_n 2, 1) := by decide +kernel
theorem dL_law_480 : decode cL_law 480 = .ok (.aload_n 0, 1) := by decide +kernel
theorem dL_law_481 : decode cL_law 481 = .ok (.iload 4, 2) := by decide +kernel
theorem dL_law_483 : decode cL_law 483 = .ok (.iconst 1, 1) := by decide +kernel
theorem dL_law_484 : decode cL_law 484 = .ok (.iadd, 1) := by decide +kernel
theorem dL_law_485 : decode cL_law 485 = .ok (.iaload, 1) := by decide +kernel
theorem dL_law_486 : decode cL_law 486 = .ok (.aload_n 0, 1) := by decide +kernel
theorem dL_law_487 : decode cL_law 487 = .ok (.iload 4, 2) := by decide +kernel
theorem dL_law_489 : decode cL_law 489 = .ok (.iconst 2, 1) := by decide +kernel
theorem dL_law_490 : decode cL_law 490 = .ok (.iadd, 1) := by decide +kernel
theorem dL_law_491 : decode cL_law 491 = .ok (.iaload, 1) := by decide +kernel
theorem dL_law_492 : decode cL_law 492 = .ok (.aload_n 0, 1) := by decide +kernel
theorem dL_law_493 : decode cL_law 493 = .ok (.iload 4, 2) := by decide +kernel
theorem dL_law_495 : decode cL_law 495 = .ok (.iconst 3, 1) := by decide +kernel
theorem dL_law_496 : decode cL_law 496 = .ok (.iadd, 1) := by decide +kernel
theorem dL_law_497 : decode cL_law 497 = .ok (.iaload, 1) := by decide +kernel
theorem dL_law_498 : decode cL_law 498 = .ok (.invokevirtual 56, 3) := by decide +kernel
theorem dL_law_501 : decode cL_law 501 = .ok (.if_icmp .eq 1154, 3) := by decide +kernel
theorem dL_law_504 : decode cL_law 504 = .ok (.iconst 0, 1) := by decide +kernel
theorem dL_law_505 : decode cL_law 505 = .ok (.ireturn, 1) := by decide +kernel
theorem dL_law_506 : decode cL_law 506 = .ok (.aload_n 1, 1) := by decide +kernel
theorem dL_law_507 : decode cL_law 507 = .ok (.aload_n 0, 1) := by decide +kernel
theorem dL_law_508 : decode cL_law 508 = .ok (.iload 4, 2) := by decide +kernel
theorem dL_law_510 : decode cL_law 510 = .ok (.iconst 1, 1) := by decide +kernel
theorem dL_law_511 : decode cL_law 511 = .ok (.iadd, 1) := by decide +kernel
theorem dL_law_512 : decode cL_law 512 = .ok (.iaload, 1) := by decide +kernel
theorem dL_law_513 : decode cL_law 513 = .ok (.aload_n 0, 1) := by decide +kernel
theorem dL_law_514 : decode cL_law 514 = .ok (.iload 4, 2) := by decide +kernel
theorem dL_law_516 : decode cL_law 516 = .ok (.iconst 2, 1) := by decide +kernel
theorem dL_law_517 : decode cL_law 517 = .ok (.iadd, 1) := by decide +kernel
theorem dL_law_518 : decode cL_law 518 = .ok (.iaload, 1) := by decide +kernel
theorem dL_law_519 : decode cL_law 519 = .ok (.aload_n 0, 1) := by decide +kernel
theorem dL_law_520 : decode cL_law 520 = .ok (.iload 4, 2) := by decide +kernel
theorem dL_law_522 : decode cL_law 522 = .ok (.iconst 3, 1) := by decide +kernel
theorem dL_law_523 : decode cL_law 523 = .ok (.iadd, 1) := by decide +kernel
theorem dL_law_524 : decode cL_law 524 = .ok (.iaload, 1) := by decide +kernel
theorem dL_law_525 : decode cL_law 525 = .ok (.invokevirtual 57, 3) := by decide +kernel
theorem dL_law_528 : decode cL_law 528 = .ok (.aload_n 2, 1) := by decide +kernel
theorem dL_law_529 : decode cL_law 529 = .ok (.aload_n 0, 1) := by decide +kernel
theorem dL_law_530 : decode cL_law 530 = .ok (.iload 4, 2) := by decide +kernel
theorem dL_law_532 : decode cL_law 532 = .ok (.iconst 1, 1) := by decide +kernel
theorem dL_law_533 : decode cL_law 533 = .ok (.iadd, 1) := by decide +kernel
theorem dL_law_534 : decode cL_law 534 = .ok (.iaload, 1) := by decide +kernel
theorem dL_law_535 : decode cL_law 535 = .ok (.aload_n 0, 1) := by decide +kernel
theorem dL_law_536 : decode cL_law 536 = .ok (.iload 4, 2) := by decide +kernel
theorem dL_law_538 : decode cL_law 538 = .ok (.iconst 2, 1) := by decide +kernel
theorem dL_law_539 : decode cL_law 539 = .ok (.iadd, 1) := by decide +kernel
theorem dL_law_540 : decode cL_law 540 = .ok (.iaload, 1) := by decide +kernel
theorem dL_law_541 : decode cL_law 541 = .ok (.aload_n 0, 1) := by decide +kernel
theorem dL_law_542 : decode cL_law 542 = .ok (.iload 4, 2) := by decide +kernel
theorem dL_law_544 : decode cL_law 544 = .ok (.iconst 3, 1) := by decide +kernel
theorem dL_law_545 : decode cL_law 545 = .ok (.iadd, 1) := by decide +kernel
theorem dL_law_546 : decode cL_law 546 = .ok (.iaload, 1) := by decide +kernel
theorem dL_law_547 : decode cL_law 547 = .ok (.invokevirtual 60, 3) := by decide +kernel
theorem dL_law_550 : decode cL_law 550 = .ok (.if_icmp .eq 1105, 3) := by decide +kernel
theorem dL_law_553 : decode cL_law 553 = .ok (.iconst 0, 1) := by decide +kernel
theorem dL_law_554 : decode cL_law 554 = .ok (.ireturn, 1) := by decide +kernel
theorem dL_law_555 : decode cL_law 555 = .ok (.aload_n 1, 1) := by decide +kernel
theorem dL_law_556 : decode cL_law 556 = .ok (.aload_n 0, 1) := by decide +kernel
theorem dL_law_557 : decode cL_law 557 = .ok (.iload 4, 2) := by decide +kernel
theorem dL_law_559 : decode cL_law 559 = .ok (.iconst 1, 1) := by decide +kernel
theorem dL_law_560 : decode cL_law 560 = .ok (.iadd, 1) := by decide +kernel
theorem dL_law_561 : decode cL_law 561 = .ok (.iaload, 1) := by decide +kernel
theorem dL_law_562 : decode cL_law 562 = .ok (.invokevirtual 61, 3) := by decide +kernel
theorem dL_law_565 : decode cL_law 565 = .ok (.aload_n 2, 1) := by decide +kernel
theorem dL_law_566 : decode cL_law 566 = .ok (.aload_n 0, 1) := by decide +kernel
theorem dL_law_567 : decode cL_law 567 = .ok (.iload 4, 2) := by decide +kernel
theorem dL_law_569 : decode cL_law 569 = .ok (.iconst 1, 1) := by decide +kernel
theorem dL_law_570 : decode cL_law 570 = .ok (.iadd, 1) := by decide +kernel
theorem dL_law_571 : decode cL_law 571 = .ok (.iaload, 1) := by decide +kernel
theorem dL_law_572 : decode cL_law 572 = .ok (.invokevirtual 64, 3) := by decide +kernel
theorem dL_law_575 : decode cL_law 575 = .ok (.if_icmp .eq 1080, 3) := by decide +kernel
theorem dL_law_578 : decode cL_law 578 = .ok (.iconst 0, 1) := by decide +kernel
theorem dL_law_579 : decode cL_law 579 = .ok (.ireturn, 1) := by decide +kernel
theorem dL_law_580 : decode cL_law 580 = .ok (.aload_n 1, 1) := by decide +kernel
theorem dL_law_581 : decode cL_law 581 = .ok (.aload_n 0, 1) := by decide +kernel
theorem dL_law_582 : decode cL_law 582 = .ok (.iload 4, 2) := by decide +kernel
theorem dL_law_584 : decode cL_law 584 = .ok (.iconst 1, 1) := by decide +kernel
theorem dL_law_585 : decode cL_law 585 = .ok (.iadd, 1) := by decide +kernel
theorem dL_law_586 : decode cL_law 586 = .ok (.iaload, 1) := by decide +kernel
theorem dL_law_587 : decode cL_law 587 = .ok (.invokevirtual 65, 3) := by decide +kernel
theorem dL_law_590 : decode cL_law 590 = .ok (.aload_n 2, 1) := by decide +kernel
theorem dL_law_591 : decode cL_law 591 = .ok (.aload_n 0, 1) := by decide +kernel
theorem dL_law_592 : decode cL_law 592 = .ok (.iload 4, 2) := by decide +kernel
theorem dL_law_594 : decode cL_law 594 = .ok (.iconst 1, 1) := by decide +kernel
theorem dL_law_595 : decode cL_law 595 = .ok (.iadd, 1) := by decide +kernel
theorem dL_law_596 : decode cL_law 596 = .ok (.iaload, 1) := by decide +kernel
theorem dL_law_597 : decode cL_law 597 = .ok (.invokevirtual 68, 3) := by decide +kernel
theorem dL_law_600 : decode cL_law 600 = .ok (.if_icmp .eq 1055, 3) := by decide +kernel
theorem dL_law_603 : decode cL_law 603 = .ok (.iconst 0, 1) := by decide +kernel
theorem dL_law_604 : decode cL_law 604 = .ok (.ireturn, 1) := by decide +kernel
theorem dL_law_605 : decode cL_law 605 = .ok (.aload_n 1, 1) := by decide +kernel
theorem dL_law_606 : decode cL_law 606 = .ok (.aload_n 0, 1) := by decide +kernel
theorem dL_law_607 : decode cL_law 607 = .ok (.iload 4, 2) := by decide +kernel
theorem dL_law_609 : decode cL_law 609 = .ok (.iconst 1, 1) := by decide +kernel
theorem dL_law_610 : decode cL_law 610 = .ok (.iadd, 1) := by decide +kernel
theorem dL_law_611 : decode cL_law 611 = .ok (.iaload, 1) := by decide +kernel
theorem dL_law_612 : decode cL_law 612 = .ok (.aload_n 0, 1) := by decide +kernel
theorem dL_law_613 : decode cL_law 613 = .ok (.iload 4, 2) := by decide +kernel
theorem dL_law_615 : decode cL_law 615 = .ok (.iconst 2, 1) := by decide +kernel
theorem dL_law_616 : decode cL_law 616 = .ok (.iadd, 1) := by decide +kernel
theorem dL_law_617 : decode cL_law 617 = .ok (.iaload, 1) := by decide +kernel
theorem dL_law_618 : decode cL_law 618 = .ok (.aload_n 0, 1) := by decide +kernel
theorem dL_law_619 : decode cL_law 619 = .ok (.iload 4, 2) := by decide +kernel
theorem dL_law_621 : decode cL_law 621 = .ok (.iconst 3, 1) := by decide +kernel
theorem dL_law_622 : decode cL_law 622 = .ok (.iadd, 1) := by decide +kernel
theorem dL_law_623 : decode cL_law 623 = .ok (.iaload, 1) := by decide +kernel
theorem dL_law_624 : decode cL_law 624 = .ok (.aload_n 0, 1) := by decide +kernel
theorem dL_law_625 : decode cL_law 625 = .ok (.iload 4, 2) := by decide +kernel
theorem dL_law_627 : decode cL_law 627 = .ok (.iconst 4, 1) := by decide +kernel
theorem dL_law_628 : decode cL_law 628 = .ok (.iadd, 1) := by decide +kernel
theorem dL_law_629 : decode cL_law 629 = .ok (.iaload, 1) := by decide +kernel
theorem dL_law_630 : decode cL_law 630 = .ok (.invokevirtual 69, 3) := by decide +kernel
theorem dL_law_633 : decode cL_law 633 = .ok (.aload_n 2, 1) := by decide +kernel
theorem dL_law_634 : decode cL_law 634 = .ok (.aload_n 0, 1) := by decide +kernel
theorem dL_law_635 : decode cL_law 635 = .ok (.iload 4, 2) := by decide +kernel
theorem dL_law_637 : decode cL_law 637 = .ok (.iconst 1, 1) := by decide +kernel
theorem dL_law_638 : decode cL_law 638 = .ok (.iadd, 1) := by decide +kernel
theorem dL_law_639 : decode cL_law 639 = .ok (.iaload, 1) := by decide +kernel
theorem dL_law_640 : decode cL_law 640 = .ok (.aload_n 0, 1) := by decide +kernel
theorem dL_law_641 : decode cL_law 641 = .ok (.iload 4, 2) := by decide +kernel
theorem dL_law_643 : decode cL_law 643 = .ok (.iconst 2, 1) := by decide +kernel
theorem dL_law_644 : decode cL_law 644 = .ok (.iadd, 1) := by decide +kernel
theorem dL_law_645 : decode cL_law 645 = .ok (.iaload, 1) := by decide +kernel
theorem dL_law_646 : decode cL_law 646 = .ok (.aload_n 0, 1) := by decide +kernel
theorem dL_law_647 : decode cL_law 647 = .ok (.iload 4, 2) := by decide +kernel
theorem dL_law_649 : decode cL_law 649 = .ok (.iconst 3, 1) := by decide +kernel
theorem dL_law_650 : decode cL_law 650 = .ok (.iadd, 1) := by decide +kernel
theorem dL_law_651 : decode cL_law 651 = .ok (.iaload, 1) := by decide +kernel
theorem dL_law_652 : decode cL_law 652 = .ok (.aload_n 0, 1) := by decide +kernel
theorem dL_law_653 : decode cL_law 653 = .ok (.iload 4, 2) := by decide +kernel
theorem dL_law_655 : decode cL_law 655 = .ok (.iconst 4, 1) := by decide +kernel
theorem dL_law_656 : decode cL_law 656 = .ok (.iadd, 1) := by decide +kernel
theorem dL_law_657 : decode cL_law 657 = .ok (.iaload, 1) := by decide +kernel
theorem dL_law_658 : decode cL_law 658 = .ok (.invokevirtual 73, 3) := by decide +kernel
theorem dL_law_661 : decode cL_law 661 = .ok (.if_icmp .eq 994, 3) := by decide +kernel
theorem dL_law_664 : decode cL_law 664 = .ok (.iconst 0, 1) := by decide +kernel
theorem dL_law_665 : decode cL_law 665 = .ok (.ireturn, 1) := by decide +kernel
theorem dL_law_666 : decode cL_law 666 = .ok (.aload_n 1, 1) := by decide +kernel
theorem dL_law_667 : decode cL_law 667 = .ok (.aload_n 0, 1) := by decide +kernel
theorem dL_law_668 : decode cL_law 668 = .ok (.iload 4, 2) := by decide +kernel
theorem dL_law_670 : decode cL_law 670 = .ok (.iconst 1, 1) := by decide +kernel
theorem dL_law_671 : decode cL_law 671 = .ok (.iadd, 1) := by decide +kernel
theorem dL_law_672 : decode cL_law 672 = .ok (.iaload, 1) := by decide +kernel
theorem dL_law_673 : decode cL_law 673 = .ok (.aload_n 0, 1) := by decide +kernel
theorem dL_law_674 : decode cL_law 674 = .ok (.iload 4, 2) := by decide +kernel
theorem dL_law_676 : decode cL_law 676 = .ok (.iconst 2, 1) := by decide +kernel
theorem dL_law_677 : decode cL_law 677 = .ok (.iadd, 1) := by decide +kernel
theorem dL_law_678 : decode cL_law 678 = .ok (.iaload, 1) := by decide +kernel
theorem dL_law_679 : decode cL_law 679 = .ok (.invokevirtual 74, 3) := by decide +kernel
theorem dL_law_682 : decode cL_law 682 = .ok (.aload_n 2, 1) := by decide +kernel
theorem dL_law_683 : decode cL_law 683 = .ok (.aload_n 0, 1) := by decide +kernel
theorem dL_law_684 : decode cL_law 684 = .ok (.iload 4, 2) := by decide +kernel
theorem dL_law_686 : decode cL_law 686 = .ok (.iconst 1, 1) := by decide +kernel
theorem dL_law_687 : decode cL_law 687 = .ok (.iadd, 1) := by decide +kernel
theorem dL_law_688 : decode cL_law 688 = .ok (.iaload, 1) := by decide +kernel
theorem dL_law_689 : decode cL_law 689 = .ok (.aload_n 0, 1) := by decide +kernel
theorem dL_law_690 : decode cL_law 690 = .ok (.iload 4, 2) := by decide +kernel
theorem dL_law_692 : decode cL_law 692 = .ok (.iconst 2, 1) := by decide +kernel
theorem dL_law_693 : decode cL_law 693 = .ok (.iadd, 1) := by decide +kernel
theorem dL_law_694 : decode cL_law 694 = .ok (.iaload, 1) := by decide +kernel
theorem dL_law_695 : decode cL_law 695 = .ok (.invokevirtual 77, 3) := by decide +kernel
theorem dL_law_698 : decode cL_law 698 = .ok (.if_icmp .eq 957, 3) := by decide +kernel
theorem dL_law_701 : decode cL_law 701 = .ok (.iconst 0, 1) := by decide +kernel
theorem dL_law_702 : decode cL_law 702 = .ok (.ireturn, 1) := by decide +kernel
theorem dL_law_703 : decode cL_law 703 = .ok (.aload_n 1, 1) := by decide +kernel
theorem dL_law_704 : decode cL_law 704 = .ok (.aload_n 0, 1) := by decide +kernel
theorem dL_law_705 : decode cL_law 705 = .ok (.iload 4, 2) := by decide +kernel
theorem dL_law_707 : decode cL_law 707 = .ok (.iconst 1, 1) := by decide +kernel
theorem dL_law_708 : decode cL_law 708 = .ok (.iadd, 1) := by decide +kernel
theorem dL_law_709 : decode cL_law 709 = .ok (.iaload, 1) := by decide +kernel
theorem dL_law_710 : decode cL_law 710 = .ok (.invokevirtual 78, 3) := by decide +kernel
theorem dL_law_713 : decode cL_law 713 = .ok (.aload_n 2, 1) := by decide +kernel
theorem dL_law_714 : decode cL_law 714 = .ok (.aload_n 0, 1) := by decide +kernel
theorem dL_law_715 : decode cL_law 715 = .ok (.iload 4, 2) := by decide +kernel
theorem dL_law_717 : decode cL_law 717 = .ok (.iconst 1, 1) := by decide +kernel
theorem dL_law_718 : decode cL_law 718 = .ok (.iadd, 1) := by decide +kernel
theorem dL_law_719 : decode cL_law 719 = .ok (.iaload, 1) := by decide +kernel
theorem dL_law_720 : decode cL_law 720 = .ok (.invokevirtual 81, 3) := by decide +kernel
theorem dL_law_723 : decode cL_law 723 = .ok (.if_icmp .eq 932, 3) := by decide +kernel
theorem dL_law_726 : decode cL_law 726 = .ok (.iconst 0, 1) := by decide +kernel
theorem dL_law_727 : decode cL_law 727 = .ok (.ireturn, 1) := by decide +kernel
theorem dL_law_728 : decode cL_law 728 = .ok (.aload_n 1, 1) := by decide +kernel
theorem dL_law_729 : decode cL_law 729 = .ok (.aload_n 0, 1) := by decide +kernel
theorem dL_law_730 : decode cL_law 730 = .ok (.iload 4, 2) := by decide +kernel
theorem dL_law_732 : decode cL_law 732 = .ok (.iconst 1, 1) := by decide +kernel
theorem dL_law_733 : decode cL_law 733 = .ok (.iadd, 1) := by decide +kernel
theorem dL_law_734 : decode cL_law 734 = .ok (.iaload, 1) := by decide +kernel
theorem dL_law_735 : decode cL_law 735 = .ok (.invokevirtual 82, 3) := by decide +kernel
theorem dL_law_738 : decode cL_law 738 = .ok (.aload_n 2, 1) := by decide +kernel
theorem dL_law_739 : decode cL_law 739 = .ok (.aload_n 0, 1) := by decide +kernel
theorem dL_law_740 : decode cL_law 740 = .ok (.iload 4, 2) := by decide +kernel
theorem dL_law_742 : decode cL_law 742 = .ok (.iconst 1, 1) := by decide +kernel
theorem dL_law_743 : decode cL_law 743 = .ok (.iadd, 1) := by decide +kernel
theorem dL_law_744 : decode cL_law 744 = .ok (.iaload, 1) := by decide +kernel
theorem dL_law_745 : decode cL_law 745 = .ok (.invokevirtual 85, 3) := by decide +kernel
theorem dL_law_748 : decode cL_law 748 = .ok (.if_icmp .eq 907, 3) := by decide +kernel
theorem dL_law_751 : decode cL_law 751 = .ok (.iconst 0, 1) := by decide +kernel
theorem dL_law_752 : decode cL_law 752 = .ok (.ireturn, 1) := by decide +kernel
theorem dL_law_753 : decode cL_law 753 = .ok (.aload_n 1, 1) := by decide +kernel
theorem dL_law_754 : decode cL_law 754 = .ok (.aload_n 0, 1) := by decide +kernel
theorem dL_law_755 : decode cL_law 755 = .ok (.iload 4, 2) := by decide +kernel
theorem dL_law_757 : decode cL_law 757 = .ok (.iconst 1, 1) := by decide +kernel
theorem dL_law_758 : decode cL_law 758 = .ok (.iadd, 1) := by decide +kernel
theorem dL_law_759 : decode cL_law 759 = .ok (.iaload, 1) := by decide +kernel
theorem dL_law_760 : decode cL_law 760 = .ok (.aload_n 0, 1) := by decide +kernel
theorem dL_law_761 : decode cL_law 761 = .ok (.iload 4, 2) := by decide +kernel
theorem dL_law_763 : decode cL_law 763 = .ok (.iconst 2, 1) := by decide +kernel
theorem dL_law_764 : decode cL_law 764 = .ok (.iadd, 1) := by decide +kernel
theorem dL_law_765 : decode cL_law 765 = .ok (.iaload, 1) := by decide +kernel
theorem dL_law_766 : decode cL_law 766 = .ok (.i2l, 1) := by decide +kernel
theorem dL_law_767 : decode cL_law 767 = .ok (.bipush 32, 2) := by decide +kernel
theorem dL_law_769 : decode cL_law 769 = .ok (.lshl, 1) := by decide +kernel
theorem dL_law_770 : decode cL_law 770 = .ok (.aload_n 0, 1) := by decide +kernel
theorem dL_law_771 : decode cL_law 771 = .ok (.iload 4, 2) := by decide +kernel
theorem dL_law_773 : decode cL_law 773 = .ok (.iconst 3, 1) := by decide +kernel
theorem dL_law_774 : decode cL_law 774 = .ok (.iadd, 1) := by decide +kernel
theorem dL_law_775 : decode cL_law 775 = .ok (.iaload, 1) := by decide +kernel
theorem dL_law_776 : decode cL_law 776 = .ok (.i2l, 1) := by decide +kernel
theorem dL_law_777 : decode cL_law 777 = .ok (.ldc2_w 86, 3) := by decide +kernel
theorem dL_law_780 : decode cL_law 780 = .ok (.land, 1) := by decide +kernel
theorem dL_law_781 : decode cL_law 781 = .ok (.lor, 1) := by decide +kernel
theorem dL_law_782 : decode cL_law 782 = .ok (.invokevirtual 88, 3) := by decide +kernel
theorem dL_law_785 : decode cL_law 785 = .ok (.aload_n 2, 1) := by decide +kernel
theorem dL_law_786 : decode cL_law 786 = .ok (.aload_n 0, 1) := by decide +kernel
theorem dL_law_787 : decode cL_law 787 = .ok (.iload 4, 2) := by decide +kernel
theorem dL_law_789 : decode cL_law 789 = .ok (.iconst 1, 1) := by decide +kernel
theorem dL_law_790 : decode cL_law 790 = .ok (.iadd, 1) := by decide +kernel
theorem dL_law_791 : decode cL_law 791 = .ok (.iaload, 1) := by decide +kernel
theorem dL_law_792 : decode cL_law 792 = .ok (.aload_n 0, 1) := by decide +kernel
theorem dL_law_793 : decode cL_law 793 = .ok (.iload 4, 2) := by decide +kernel
theorem dL_law_795 : decode cL_law 795 = .ok (.iconst 2, 1) := by decide +kernel
theorem dL_law_796 : decode cL_law 796 = .ok (.iadd, 1) := by decide +kernel
theorem dL_law_797 : decode cL_law 797 = .ok (.iaload, 1) := by decide +kernel
theorem dL_law_798 : decode cL_law 798 = .ok (.i2l, 1) := by decide +kernel
theorem dL_law_799 : decode cL_law 799 = .ok (.bipush 32, 2) := by decide +kernel
theorem dL_law_801 : decode cL_law 801 = .ok (.lshl, 1) := by decide +kernel
theorem dL_law_802 : decode cL_law 802 = .ok (.aload_n 0, 1) := by decide +kernel
theorem dL_law_803 : decode cL_law 803 = .ok (.iload 4, 2) := by decide +kernel
theorem dL_law_805 : decode cL_law 805 = .ok (.iconst 3, 1) := by decide +kernel
theorem dL_law_806 : decode cL_law 806 = .ok (.iadd, 1) := by decide +kernel
theorem dL_law_807 : decode cL_law 807 = .ok (.iaload, 1) := by decide +kernel
theorem dL_law_808 : decode cL_law 808 = .ok (.i2l, 1) := by decide +kernel
theorem dL_law_809 : decode cL_law 809 = .ok (.ldc2_w 86, 3) := by decide +kernel
theorem dL_law_812 : decode cL_law 812 = .ok (.land, 1) := by decide +kernel
theorem dL_law_813 : decode cL_law 813 = .ok (.lor, 1) := by decide +kernel
theorem dL_law_814 : decode cL_law 814 = .ok (.invokevirtual 92, 3) := by decide +kernel
theorem dL_law_817 : decode cL_law 817 = .ok (.if_icmp .eq 838, 3) := by decide +kernel
theorem dL_law_820 : decode cL_law 820 = .ok (.iconst 0, 1) := by decide +kernel
theorem dL_law_821 : decode cL_law 821 = .ok (.ireturn, 1) := by decide +kernel
theorem dL_law_822 : decode cL_law 822 = .ok (.aload_n 1, 1) := by decide +kernel
theorem dL_law_823 : decode cL_law 823 = .ok (.aload_n 0, 1) := by decide +kernel
theorem dL_law_824 : decode cL_law 824 = .ok (.iload 4, 2) := by decide +kernel
theorem dL_law_826 : decode cL_law 826 = .ok (.iconst 1, 1) := by decide +kernel
theorem dL_law_827 : decode cL_law 827 = .ok (.iadd, 1) := by decide +kernel
theorem dL_law_828 : decode cL_law 828 = .ok (.iaload, 1) := by decide +kernel
theorem dL_law_829 : decode cL_law 829 = .ok (.invokevirtual 93, 3) := by decide +kernel
theorem dL_law_832 : decode cL_law 832 = .ok (.aload_n 2, 1) := by decide +kernel
theorem dL_law_833 : decode cL_law 833 = .ok (.aload_n 0, 1) := by decide +kernel
theorem dL_law_834 : decode cL_law 834 = .ok (.iload 4, 2) := by decide +kernel
theorem dL_law_836 : decode cL_law 836 = .ok (.iconst 1, 1) := by decide +kernel
theorem dL_law_837 : decode cL_law 837 = .ok (.iadd, 1) := by decide +kernel
theorem dL_law_838 : decode cL_law 838 = .ok (.iaload, 1) := by decide +kernel
theorem dL_law_839 : decode cL_law 839 = .ok (.invokevirtual 96, 3) := by decide +kernel
theorem dL_law_842 : decode cL_law 842 = .ok (.if_icmp .eq 813, 3) := by decide +kernel
theorem dL_law_845 : decode cL_law 845 = .ok (.iconst 0, 1) := by decide +kernel
theorem dL_law_846 : decode cL_law 846 = .ok (.ireturn, 1) := by decide +kernel
theorem dL_law_847 : decode cL_law 847 = .ok (.aload_n 1, 1) := by decide +kernel
theorem dL_law_848 : decode cL_law 848 = .ok (.invokevirtual 97, 3) := by decide +kernel
theorem dL_law_851 : decode cL_law 851 = .ok (.aload_n 2, 1) := by decide +kernel
theorem dL_law_852 : decode cL_law 852 = .ok (.invokevirtual 100, 3) := by decide +kernel
theorem dL_law_855 : decode cL_law 855 = .ok (.if_icmp .eq 800, 3) := by decide +kernel
theorem dL_law_858 : decode cL_law 858 = .ok (.iconst 0, 1) := by decide +kernel
theorem dL_law_859 : decode cL_law 859 = .ok (.ireturn, 1) := by decide +kernel
theorem dL_law_860 : decode cL_law 860 = .ok (.aload_n 1, 1) := by decide +kernel
theorem dL_law_861 : decode cL_law 861 = .ok (.aload_n 0, 1) := by decide +kernel
theorem dL_law_862 : decode cL_law 862 = .ok (.iload 4, 2) := by decide +kernel
theorem dL_law_864 : decode cL_law 864 = .ok (.iconst 1, 1) := by decide +kernel
theorem dL_law_865 : decode cL_law 865 = .ok (.iadd, 1) := by decide +kernel
theorem dL_law_866 : decode cL_law 866 = .ok (.iaload, 1) := by decide +kernel
theorem dL_law_867 : decode cL_law 867 = .ok (.aload_n 0, 1) := by decide +kernel
theorem dL_law_868 : decode cL_law 868 = .ok (.iload 4, 2) := by decide +kernel
theorem dL_law_870 : decode cL_law 870 = .ok (.iconst 2, 1) := by decide +kernel
theorem dL_law_871 : decode cL_law 871 = .ok (.iadd, 1) := by decide +kernel
theorem dL_law_872 : decode cL_law 872 = .ok (.iaload, 1) := by decide +kernel
theorem dL_law_873 : decode cL_law 873 = .ok (.invokevirtual 101, 3) := by decide +kernel
theorem dL_law_876 : decode cL_law 876 = .ok (.aload_n 2, 1) := by decide +kernel
theorem dL_law_877 : decode cL_law 877 = .ok (.aload_n 0, 1) := by decide +kernel
theorem dL_law_878 : decode cL_law 878 = .ok (.iload 4, 2) := by decide +kernel
theorem dL_law_880 : decode cL_law 880 = .ok (.iconst 1, 1) := by decide +kernel
theorem dL_law_881 : decode cL_law 881 = .ok (.iadd, 1) := by decide +kernel
theorem dL_law_882 : decode cL_law 882 = .ok (.iaload, 1) := by decide +kernel
theorem dL_law_883 : decode cL_law 883 = .ok (.aload_n 0, 1) := by decide +kernel
theorem dL_law_884 : decode cL_law 884 = .ok (.iload 4, 2) := by decide +kernel
theorem dL_law_886 : decode cL_law 886 = .ok (.iconst 2, 1) := by decide +kernel
theorem dL_law_887 : decode cL_law 887 = .ok (.iadd, 1) := by decide +kernel
theorem dL_law_888 : decode cL_law 888 = .ok (.iaload, 1) := by decide +kernel
theorem dL_law_889 : decode cL_law 889 = .ok (.invokevirtual 104, 3) := by decide +kernel
theorem dL_law_892 : decode cL_law 892 = .ok (.if_icmp .eq 763, 3) := by decide +kernel
theorem dL_law_895 : decode cL_law 895 = .ok (.iconst 0, 1) := by decide +kernel
theorem dL_law_896 : decode cL_law 896 = .ok (.ireturn, 1) := by decide +kernel
theorem dL_law_897 : decode cL_law 897 = .ok (.aload_n 1, 1) := by decide +kernel
theorem dL_law_898 : decode cL_law 898 = .ok (.aload_n 0, 1) := by decide +kernel
theorem dL_law_899 : decode cL_law 899 = .ok (.iload 4, 2) := by decide +kernel
theorem dL_law_901 : decode cL_law 901 = .ok (.iconst 1, 1) := by decide +kernel
theorem dL_law_902 : decode cL_law 902 = .ok (.iadd, 1) := by decide +kernel
theorem dL_law_903 : decode cL_law 903 = .ok (.iaload, 1) := by decide +kernel
theorem dL_law_904 : decode cL_law 904 = .ok (.invokevirtual 105, 3) := by decide +kernel
theorem dL_law_907 : decode cL_law 907 = .ok (.aload_n 2, 1) := by decide +kernel
theorem dL_law_908 : decode cL_law 908 = .ok (.aload_n 0, 1) := by decide +kernel
theorem dL_law_909 : decode cL_law 909 = .ok (.iload 4, 2) := by decide +kernel
theorem dL_law_911 : decode cL_law 911 = .ok (.iconst 1, 1) := by decide +kernel
theorem dL_law_912 : decode cL_law 912 = .ok (.iadd, 1) := by decide +kernel
theorem dL_law_913 : decode cL_law 913 = .ok (.iaload, 1) := by decide +kernel
theorem dL_law_914 : decode cL_law 914 = .ok (.invokevirtual 108, 3) := by decide +kernel
theorem dL_law_917 : decode cL_law 917 = .ok (.if_icmp .eq 738, 3) := by decide +kernel
theorem dL_law_920 : decode cL_law 920 = .ok (.iconst 0, 1) := by decide +kernel
theorem dL_law_921 : decode cL_law 921 = .ok (.ireturn, 1) := by decide +kernel
theorem dL_law_922 : decode cL_law 922 = .ok (.aload_n 1, 1) := by decide +kernel
theorem dL_law_923 : decode cL_law 923 = .ok (.aload_n 0, 1) := by decide +kernel
theorem dL_law_924 : decode cL_law 924 = .ok (.iload 4, 2) := by decide +kernel
theorem dL_law_926 : decode cL_law 926 = .ok (.iconst 1, 1) := by decide +kernel
theorem dL_law_927 : decode cL_law 927 = .ok (.iadd, 1) := by decide +kernel
theorem dL_law_928 : decode cL_law 928 = .ok (.iaload, 1) := by decide +kernel
theorem dL_law_929 : decode cL_law 929 = .ok (.invokevirtual 109, 3) := by decide +kernel
theorem dL_law_932 : decode cL_law 932 = .ok (.aload_n 2, 1) := by decide +kernel
theorem dL_law_933 : decode cL_law 933 = .ok (.aload_n 0, 1) := by decide +kernel
theorem dL_law_934 : decode cL_law 934 = .ok (.iload 4, 2) := by decide +kernel
theorem dL_law_936 : decode cL_law 936 = .ok (.iconst 1, 1) := by decide +kernel
theorem dL_law_937 : decode cL_law 937 = .ok (.iadd, 1) := by decide +kernel
theorem dL_law_938 : decode cL_law 938 = .ok (.iaload, 1) := by decide +kernel
theorem dL_law_939 : decode cL_law 939 = .ok (.invokevirtual 112, 3) := by decide +kernel
theorem dL_law_942 : decode cL_law 942 = .ok (.if_icmp .eq 713, 3) := by decide +kernel
theorem dL_law_945 : decode cL_law 945 = .ok (.iconst 0, 1) := by decide +kernel
theorem dL_law_946 : decode cL_law 946 = .ok (.ireturn, 1) := by decide +kernel
theorem dL_law_947 : decode cL_law 947 = .ok (.aload_n 1, 1) := by decide +kernel
theorem dL_law_948 : decode cL_law 948 = .ok (.aload_n 0, 1) := by decide +kernel
theorem dL_law_949 : decode cL_law 949 = .ok (.iload 4, 2) := by decide +kernel
theorem dL_law_951 : decode cL_law 951 = .ok (.iconst 1, 1) := by decide +kernel
theorem dL_law_952 : decode cL_law 952 = .ok (.iadd, 1) := by decide +kernel
theorem dL_law_953 : decode cL_law 953 = .ok (.iaload, 1) := by decide +kernel
theorem dL_law_954 : decode cL_law 954 = .ok (.aload_n 0, 1) := by decide +kernel
theorem dL_law_955 : decode cL_law 955 = .ok (.iload 4, 2) := by decide +kernel
theorem dL_law_957 : decode cL_law 957 = .ok (.iconst 2, 1) := by decide +kernel
theorem dL_law_958 : decode cL_law 958 = .ok (.iadd, 1) := by decide +kernel
theorem dL_law_959 : decode cL_law 959 = .ok (.iaload, 1) := by decide +kernel
theorem dL_law_960 : decode cL_law 960 = .ok (.aload_n 0, 1) := by decide +kernel
theorem dL_law_961 : decode cL_law 961 = .ok (.iload 4, 2) := by decide +kernel
theorem dL_law_963 : decode cL_law 963 = .ok (.iconst 3, 1) := by decide +kernel
theorem dL_law_964 : decode cL_law 964 = .ok (.iadd, 1) := by decide +kernel
theorem dL_law_965 : decode cL_law 965 = .ok (.iaload, 1) := by decide +kernel
theorem dL_law_966 : decode cL_law 966 = .ok (.invokevirtual 113, 3) := by decide +kernel
theorem dL_law_969 : decode cL_law 969 = .ok (.aload_n 2, 1) := by decide +kernel
theorem dL_law_970 : decode cL_law 970 = .ok (.aload_n 0, 1) := by decide +kernel
theorem dL_law_971 : decode cL_law 971 = .ok (.iload 4, 2) := by decide +kernel
theorem dL_law_973 : decode cL_law 973 = .ok (.iconst 1, 1) := by decide +kernel
theorem dL_law_974 : decode cL_law 974 = .ok (.iadd, 1) := by decide +kernel
theorem dL_law_975 : decode cL_law 975 = .ok (.iaload, 1) := by decide +kernel
theorem dL_law_976 : decode cL_law 976 = .ok (.aload_n 0, 1) := by decide +kernel
theorem dL_law_977 : decode cL_law 977 = .ok (.iload 4, 2) := by decide +kernel
theorem dL_law_979 : decode cL_law 979 = .ok (.iconst 2, 1) := by decide +kernel
theorem dL_law_980 : decode cL_law 980 = .ok (.iadd, 1) := by decide +kernel
theorem dL_law_981 : decode cL_law 981 = .ok (.iaload, 1) := by decide +kernel
theorem dL_law_982 : decode cL_law 982 = .ok (.aload_n 0, 1) := by decide +kernel
theorem dL_law_983 : decode cL_law 983 = .ok (.iload 4, 2) := by decide +kernel
theorem dL_law_985 : decode cL_law 985 = .ok (.iconst 3, 1) := by decide +kernel
theorem dL_law_986 : decode cL_law 986 = .ok (.iadd, 1) := by decide +kernel
theorem dL_law_987 : decode cL_law 987 = .ok (.iaload, 1) := by decide +kernel
theorem dL_law_988 : decode cL_law 988 = .ok (.invokevirtual 116, 3) := by decide +kernel
theorem dL_law_991 : decode cL_law 991 = .ok (.if_icmp .eq 664, 3) := by decide +kernel
theorem dL_law_994 : decode cL_law 994 = .ok (.iconst 0, 1) := by decide +kernel
theorem dL_law_995 : decode cL_law 995 = .ok (.ireturn, 1) := by decide +kernel
theorem dL_law_996 : decode cL_law 996 = .ok (.aload_n 1, 1) := by decide +kernel
theorem dL_law_997 : decode cL_law 997 = .ok (.aload_n 0, 1) := by decide +kernel
theorem dL_law_998 : decode cL_law 998 = .ok (.iload 4, 2) := by decide +kernel
theorem dL_law_1000 : decode cL_law 1000 = .ok (.iconst 1, 1) := by decide +kernel
theorem dL_law_1001 : decode cL_law 1001 = .ok (.iadd, 1) := by decide +kernel
theorem dL_law_1002 : decode cL_law 1002 = .ok (.iaload, 1) := by decide +kernel
theorem dL_law_1003 : decode cL_law 1003 = .ok (.aload_n 0, 1) := by decide +kernel
theorem dL_law_1004 : decode cL_law 1004 = .ok (.iload 4, 2) := by decide +kernel
theorem dL_law_1006 : decode cL_law 1006 = .ok (.iconst 2, 1) := by decide +kernel
theorem dL_law_1007 : decode cL_law 1007 = .ok (.iadd, 1) := by decide +kernel
theorem dL_law_1008 : decode cL_law 1008 = .ok (.iaload, 1) := by decide +kernel
theorem dL_law_1009 : decode cL_law 1009 = .ok (.invokevirtual 117, 3) := by decide +kernel
theorem dL_law_1012 : decode cL_law 1012 = .ok (.aload_n 2, 1) := by decide +kernel
theorem dL_law_1013 : decode cL_law 1013 = .ok (.aload_n 0, 1) := by decide +kernel
theorem dL_law_1014 : decode cL_law 1014 = .ok (.iload 4, 2) := by decide +kernel
theorem dL_law_1016 : decode cL_law 1016 = .ok (.iconst 1, 1) := by decide +kernel
theorem dL_law_1017 : decode cL_law 1017 = .ok (.iadd, 1) := by decide +kernel
theorem dL_law_1018 : decode cL_law 1018 = .ok (.iaload, 1) := by decide +kernel
theorem dL_law_1019 : decode cL_law 1019 = .ok (.aload_n 0, 1) := by decide +kernel
theorem dL_law_1020 : decode cL_law 1020 = .ok (.iload 4, 2) := by decide +kernel
theorem dL_law_1022 : decode cL_law 1022 = .ok (.iconst 2, 1) := by decide +kernel
theorem dL_law_1023 : decode cL_law 1023 = .ok (.iadd, 1) := by decide +kernel
theorem dL_law_1024 : decode cL_law 1024 = .ok (.iaload, 1) := by decide +kernel
theorem dL_law_1025 : decode cL_law 1025 = .ok (.invokevirtual 120, 3) := by decide +kernel
theorem dL_law_1028 : decode cL_law 1028 = .ok (.if_icmp .eq 627, 3) := by decide +kernel
theorem dL_law_1031 : decode cL_law 1031 = .ok (.iconst 0, 1) := by decide +kernel
theorem dL_law_1032 : decode cL_law 1032 = .ok (.ireturn, 1) := by decide +kernel
theorem dL_law_1033 : decode cL_law 1033 = .ok (.aload_n 1, 1) := by decide +kernel
theorem dL_law_1034 : decode cL_law 1034 = .ok (.aload_n 0, 1) := by decide +kernel
theorem dL_law_1035 : decode cL_law 1035 = .ok (.iload 4, 2) := by decide +kernel
theorem dL_law_1037 : decode cL_law 1037 = .ok (.iconst 1, 1) := by decide +kernel
theorem dL_law_1038 : decode cL_law 1038 = .ok (.iadd, 1) := by decide +kernel
theorem dL_law_1039 : decode cL_law 1039 = .ok (.iaload, 1) := by decide +kernel
theorem dL_law_1040 : decode cL_law 1040 = .ok (.invokevirtual 121, 3) := by decide +kernel
theorem dL_law_1043 : decode cL_law 1043 = .ok (.aload_n 2, 1) := by decide +kernel
theorem dL_law_1044 : decode cL_law 1044 = .ok (.aload_n 0, 1) := by decide +kernel
theorem dL_law_1045 : decode cL_law 1045 = .ok (.iload 4, 2) := by decide +kernel
theorem dL_law_1047 : decode cL_law 1047 = .ok (.iconst 1, 1) := by decide +kernel
theorem dL_law_1048 : decode cL_law 1048 = .ok (.iadd, 1) := by decide +kernel
theorem dL_law_1049 : decode cL_law 1049 = .ok (.iaload, 1) := by decide +kernel
theorem dL_law_1050 : decode cL_law 1050 = .ok (.invokevirtual 124, 3) := by decide +kernel
theorem dL_law_1053 : decode cL_law 1053 = .ok (.if_icmp .eq 602, 3) := by decide +kernel
theorem dL_law_1056 : decode cL_law 1056 = .ok (.iconst 0, 1) := by decide +kernel
theorem dL_law_1057 : decode cL_law 1057 = .ok (.ireturn, 1) := by decide +kernel
theorem dL_law_1058 : decode cL_law 1058 = .ok (.aload_n 1, 1) := by decide +kernel
theorem dL_law_1059 : decode cL_law 1059 = .ok (.aload_n 0, 1) := by decide +kernel
theorem dL_law_1060 : decode cL_law 1060 = .ok (.iload 4, 2) := by decide +kernel
theorem dL_law_1062 : decode cL_law 1062 = .ok (.iconst 1, 1) := by decide +kernel
theorem dL_law_1063 : decode cL_law 1063 = .ok (.iadd, 1) := by decide +kernel
theorem dL_law_1064 : decode cL_law 1064 = .ok (.iaload, 1) := by decide +kernel
theorem dL_law_1065 : decode cL_law 1065 = .ok (.aload_n 0, 1) := by decide +kernel
theorem dL_law_1066 : decode cL_law 1066 = .ok (.iload 4, 2) := by decide +kernel
theorem dL_law_1068 : decode cL_law 1068 = .ok (.iconst 2, 1) := by decide +kernel
theorem dL_law_1069 : decode cL_law 1069 = .ok (.iadd, 1) := by decide +kernel
theorem dL_law_1070 : decode cL_law 1070 = .ok (.iaload, 1) := by decide +kernel
theorem dL_law_1071 : decode cL_law 1071 = .ok (.invokevirtual 125, 3) := by decide +kernel
theorem dL_law_1074 : decode cL_law 1074 = .ok (.aload_n 2, 1) := by decide +kernel
theorem dL_law_1075 : decode cL_law 1075 = .ok (.aload_n 0, 1) := by decide +kernel
theorem dL_law_1076 : decode cL_law 1076 = .ok (.iload 4, 2) := by decide +kernel
theorem dL_law_1078 : decode cL_law 1078 = .ok (.iconst 1, 1) := by decide +kernel
theorem dL_law_1079 : decode cL_law 1079 = .ok (.iadd, 1) := by decide +kernel
theorem dL_law_1080 : decode cL_law 1080 = .ok (.iaload, 1) := by decide +kernel
theorem dL_law_1081 : decode cL_law 1081 = .ok (.aload_n 0, 1) := by decide +kernel
theorem dL_law_1082 : decode cL_law 1082 = .ok (.iload 4, 2) := by decide +kernel
theorem dL_law_1084 : decode cL_law 1084 = .ok (.iconst 2, 1) := by decide +kernel
theorem dL_law_1085 : decode cL_law 1085 = .ok (.iadd, 1) := by decide +kernel
theorem dL_law_1086 : decode cL_law 1086 = .ok (.iaload, 1) := by decide +kernel
theorem dL_law_1087 : decode cL_law 1087 = .ok (.invokevirtual 128, 3) := by decide +kernel
theorem dL_law_1090 : decode cL_law 1090 = .ok (.if_icmp .eq 565, 3) := by decide +kernel
theorem dL_law_1093 : decode cL_law 1093 = .ok (.iconst 0, 1) := by decide +kernel
theorem dL_law_1094 : decode cL_law 1094 = .ok (.ireturn, 1) := by decide +kernel
theorem dL_law_1095 : decode cL_law 1095 = .ok (.aload_n 1, 1) := by decide +kernel
theorem dL_law_1096 : decode cL_law 1096 = .ok (.aload_n 0, 1) := by decide +kernel
theorem dL_law_1097 : decode cL_law 1097 = .ok (.iload 4, 2) := by decide +kernel
theorem dL_law_1099 : decode cL_law 1099 = .ok (.iconst 1, 1) := by decide +kernel
theorem dL_law_1100 : decode cL_law 1100 = .ok (.iadd, 1) := by decide +kernel
theorem dL_law_1101 : decode cL_law 1101 = .ok (.iaload, 1) := by decide +kernel
theorem dL_law_1102 : decode cL_law 1102 = .ok (.invokevirtual 129, 3) := by decide +kernel
theorem dL_law_1105 : decode cL_law 1105 = .ok (.aload_n 2, 1) := by decide +kernel
theorem dL_law_1106 : decode cL_law 1106 = .ok (.aload_n 0, 1) := by decide +kernel
theorem dL_law_1107 : decode cL_law 1107 = .ok (.iload 4, 2) := by decide +kernel
theorem dL_law_1109 : decode cL_law 1109 = .ok (.iconst 1, 1) := by decide +kernel
theorem dL_law_1110 : decode cL_law 1110 = .ok (.iadd, 1) := by decide +kernel
theorem dL_law_1111 : decode cL_law 1111 = .ok (.iaload, 1) := by decide +kernel
theorem dL_law_1112 : decode cL_law 1112 = .ok (.invokevirtual 132, 3) := by decide +kernel
theorem dL_law_1115 : decode cL_law 1115 = .ok (.if_icmp .eq 540, 3) := by decide +kernel
theorem dL_law_1118 : decode cL_law 1118 = .ok (.iconst 0, 1) := by decide +kernel
theorem dL_law_1119 : decode cL_law 1119 = .ok (.ireturn, 1) := by decide +kernel
theorem dL_law_1120 : decode cL_law 1120 = .ok (.aload_n 1, 1) := by decide +kernel
theorem dL_law_1121 : decode cL_law 1121 = .ok (.aload_n 0, 1) := by decide +kernel
theorem dL_law_1122 : decode cL_law 1122 = .ok (.iload 4, 2) := by decide +kernel
theorem dL_law_1124 : decode cL_law 1124 = .ok (.iconst 1, 1) := by decide +kernel
theorem dL_law_1125 : decode cL_law 1125 = .ok (.iadd, 1) := by decide +kernel
theorem dL_law_1126 : decode cL_law 1126 = .ok (.iaload, 1) := by decide +kernel
theorem dL_law_1127 : decode cL_law 1127 = .ok (.aload_n 0, 1) := by decide +kernel
theorem dL_law_1128 : decode cL_law 1128 = .ok (.iload 4, 2) := by decide +kernel
theorem dL_law_1130 : decode cL_law 1130 = .ok (.iconst 2, 1) := by decide +kernel
theorem dL_law_1131 : decode cL_law 1131 = .ok (.iadd, 1) := by decide +kernel
theorem dL_law_1132 : decode cL_law 1132 = .ok (.iaload, 1) := by decide +kernel
theorem dL_law_1133 : decode cL_law 1133 = .ok (.aload_n 0, 1) := by decide +kernel
theorem dL_law_1134 : decode cL_law 1134 = .ok (.iload 4, 2) := by decide +kernel
theorem dL_law_1136 : decode cL_law 1136 = .ok (.iconst 3, 1) := by decide +kernel
theorem dL_law_1137 : decode cL_law 1137 = .ok (.iadd, 1) := by decide +kernel
theorem dL_law_1138 : decode cL_law 1138 = .ok (.iaload, 1) := by decide +kernel
theorem dL_law_1139 : decode cL_law 1139 = .ok (.invokevirtual 133, 3) := by decide +kernel
theorem dL_law_1142 : decode cL_law 1142 = .ok (.aload_n 2, 1) := by decide +kernel
theorem dL_law_1143 : decode cL_law 1143 = .ok (.aload_n 0, 1) := by decide +kernel
theorem dL_law_1144 : decode cL_law 1144 = .ok (.iload 4, 2) := by decide +kernel
theorem dL_law_1146 : decode cL_law 1146 = .ok (.iconst 1, 1) := by decide +kernel
theorem dL_law_1147 : decode cL_law 1147 = .ok (.iadd, 1) := by decide +kernel
theorem dL_law_1148 : decode cL_law 1148 = .ok (.iaload, 1) := by decide +kernel
theorem dL_law_1149 : decode cL_law 1149 = .ok (.aload_n 0, 1) := by decide +kernel
theorem dL_law_1150 : decode cL_law 1150 = .ok (.iload 4, 2) := by decide +kernel
theorem dL_law_1152 : decode cL_law 1152 = .ok (.iconst 2, 1) := by decide +kernel
theorem dL_law_1153 : decode cL_law 1153 = .ok (.iadd, 1) := by decide +kernel
theorem dL_law_1154 : decode cL_law 1154 = .ok (.iaload, 1) := by decide +kernel
theorem dL_law_1155 : decode cL_law 1155 = .ok (.aload_n 0, 1) := by decide +kernel
theorem dL_law_1156 : decode cL_law 1156 = .ok (.iload 4, 2) := by decide +kernel
theorem dL_law_1158 : decode cL_law 1158 = .ok (.iconst 3, 1) := by decide +kernel
theorem dL_law_1159 : decode cL_law 1159 = .ok (.iadd, 1) := by decide +kernel
theorem dL_law_1160 : decode cL_law 1160 = .ok (.iaload, 1) := by decide +kernel
theorem dL_law_1161 : decode cL_law 1161 = .ok (.invokevirtual 136, 3) := by decide +kernel
theorem dL_law_1164 : decode cL_law 1164 = .ok (.if_icmp .eq 491, 3) := by decide +kernel
theorem dL_law_1167 : decode cL_law 1167 = .ok (.iconst 0, 1) := by decide +kernel
theorem dL_law_1168 : decode cL_law 1168 = .ok (.ireturn, 1) := by decide +kernel
theorem dL_law_1169 : decode cL_law 1169 = .ok (.aload_n 1, 1) := by decide +kernel
theorem dL_law_1170 : decode cL_law 1170 = .ok (.aload_n 0, 1) := by decide +kernel
theorem dL_law_1171 : decode cL_law 1171 = .ok (.iload 4, 2) := by decide +kernel
theorem dL_law_1173 : decode cL_law 1173 = .ok (.iconst 1, 1) := by decide +kernel
theorem dL_law_1174 : decode cL_law 1174 = .ok (.iadd, 1) := by decide +kernel
theorem dL_law_1175 : decode cL_law 1175 = .ok (.iaload, 1) := by decide +kernel
theorem dL_law_1176 : decode cL_law 1176 = .ok (.aload_n 0, 1) := by decide +kernel
theorem dL_law_1177 : decode cL_law 1177 = .ok (.iload 4, 2) := by decide +kernel
theorem dL_law_1179 : decode cL_law 1179 = .ok (.iconst 2, 1) := by decide +kernel
theorem dL_law_1180 : decode cL_law 1180 = .ok (.iadd, 1) := by decide +kernel
theorem dL_law_1181 : decode cL_law 1181 = .ok (.iaload, 1) := by decide +kernel
theorem dL_law_1182 : decode cL_law 1182 = .ok (.aload_n 0, 1) := by decide +kernel
theorem dL_law_1183 : decode cL_law 1183 = .ok (.iload 4, 2) := by decide +kernel
theorem dL_law_1185 : decode cL_law 1185 = .ok (.iconst 3, 1) := by decide +kernel
theorem dL_law_1186 : decode cL_law 1186 = .ok (.iadd, 1) := by decide +kernel
theorem dL_law_1187 : decode cL_law 1187 = .ok (.iaload, 1) := by decide +kernel
theorem dL_law_1188 : decode cL_law 1188 = .ok (.invokevirtual 137, 3) := by decide +kernel
theorem dL_law_1191 : decode cL_law 1191 = .ok (.aload_n 2, 1) := by decide +kernel
theorem dL_law_1192 : decode cL_law 1192 = .ok (.aload_n 0, 1) := by decide +kernel
theorem dL_law_1193 : decode cL_law 1193 = .ok (.iload 4, 2) := by decide +kernel
theorem dL_law_1195 : decode cL_law 1195 = .ok (.iconst 1, 1) := by decide +kernel
theorem dL_law_1196 : decode cL_law 1196 = .ok (.iadd, 1) := by decide +kernel
theorem dL_law_1197 : decode cL_law 1197 = .ok (.iaload, 1) := by decide +kernel
theorem dL_law_1198 : decode cL_law 1198 = .ok (.aload_n 0, 1) := by decide +kernel
theorem dL_law_1199 : decode cL_law 1199 = .ok (.iload 4, 2) := by decide +kernel
theorem dL_law_1201 : decode cL_law 1201 = .ok (.iconst 2, 1) := by decide +kernel
theorem dL_law_1202 : decode cL_law 1202 = .ok (.iadd, 1) := by decide +kernel
theorem dL_law_1203 : decode cL_law 1203 = .ok (.iaload, 1) := by decide +kernel
theorem dL_law_1204 : decode cL_law 1204 = .ok (.aload_n 0, 1) := by decide +kernel
theorem dL_law_1205 : decode cL_law 1205 = .ok (.iload 4, 2) := by decide +kernel
theorem dL_law_1207 : decode cL_law 1207 = .ok (.iconst 3, 1) := by decide +kernel
theorem dL_law_1208 : decode cL_law 1208 = .ok (.iadd, 1) := by decide +kernel
theorem dL_law_1209 : decode cL_law 1209 = .ok (.iaload, 1) := by decide +kernel
theorem dL_law_1210 : decode cL_law 1210 = .ok (.invokevirtual 140, 3) := by decide +kernel
theorem dL_law_1213 : decode cL_law 1213 = .ok (.if_icmp .eq 442, 3) := by decide +kernel
theorem dL_law_1216 : decode cL_law 1216 = .ok (.iconst 0, 1) := by decide +kernel
theorem dL_law_1217 : decode cL_law 1217 = .ok (.ireturn, 1) := by decide +kernel
theorem dL_law_1218 : decode cL_law 1218 = .ok (.aload_n 1, 1) := by decide +kernel
theorem dL_law_1219 : decode cL_law 1219 = .ok (.aload_n 0, 1) := by decide +kernel
theorem dL_law_1220 : decode cL_law 1220 = .ok (.iload 4, 2) := by decide +kernel
theorem dL_law_1222 : decode cL_law 1222 = .ok (.iconst 1, 1) := by decide +kernel
theorem dL_law_1223 : decode cL_law 1223 = .ok (.iadd, 1) := by decide +kernel
theorem dL_law_1224 : decode cL_law 1224 = .ok (.iaload, 1) := by decide +kernel
theorem dL_law_1225 : decode cL_law 1225 = .ok (.aload_n 0, 1) := by decide +kernel
theorem dL_law_1226 : decode cL_law 1226 = .ok (.iload 4, 2) := by decide +kernel
theorem dL_law_1228 : decode cL_law 1228 = .ok (.iconst 2, 1) := by decide +kernel
theorem dL_law_1229 : decode cL_law 1229 = .ok (.iadd, 1) := by decide +kernel
theorem dL_law_1230 : decode cL_law 1230 = .ok (.iaload, 1) := by decide +kernel
theorem dL_law_1231 : decode cL_law 1231 = .ok (.aload_n 0, 1) := by decide +kernel
theorem dL_law_1232 : decode cL_law 1232 = .ok (.iload 4, 2) := by decide +kernel
theorem dL_law_1234 : decode cL_law 1234 = .ok (.iconst 3, 1) := by decide +kernel
theorem dL_law_1235 : decode cL_law 1235 = .ok (.iadd, 1) := by decide +kernel
theorem dL_law_1236 : decode cL_law 1236 = .ok (.iaload, 1) := by decide +kernel
theorem dL_law_1237 : decode cL_law 1237 = .ok (.ifCond .eq 7, 3) := by decide +kernel
theorem dL_law_1240 : decode cL_law 1240 = .ok (.iconst 1, 1) := by decide +kernel
theorem dL_law_1241 : decode cL_law 1241 = .ok (.goto 4, 3) := by decide +kernel
theorem dL_law_1244 : decode cL_law 1244 = .ok (.iconst 0, 1) := by decide +kernel
theorem dL_law_1245 : decode cL_law 1245 = .ok (.invokevirtual 141, 3) := by decide +kernel
theorem dL_law_1248 : decode cL_law 1248 = .ok (.aload_n 2, 1) := by decide +kernel
theorem dL_law_1249 : decode cL_law 1249 = .ok (.aload_n 0, 1) := by decide +kernel
theorem dL_law_1250 : decode cL_law 1250 = .ok (.iload 4, 2) := by decide +kernel
theorem dL_law_1252 : decode cL_law 1252 = .ok (.iconst 1, 1) := by decide +kernel
theorem dL_law_1253 : decode cL_law 1253 = .ok (.iadd, 1) := by decide +kernel
theorem dL_law_1254 : decode cL_law 1254 = .ok (.iaload, 1) := by decide +kernel
theorem dL_law_1255 : decode cL_law 1255 = .ok (.aload_n 0, 1) := by decide +kernel
theorem dL_law_1256 : decode cL_law 1256 = .ok (.iload 4, 2) := by decide +kernel
theorem dL_law_1258 : decode cL_law 1258 = .ok (.iconst 2, 1) := by decide +kernel
theorem dL_law_1259 : decode cL_law 1259 = .ok (.iadd, 1) := by decide +kernel
theorem dL_law_1260 : decode cL_law 1260 = .ok (.iaload, 1) := by decide +kernel
theorem dL_law_1261 : decode cL_law 1261 = .ok (.aload_n 0, 1) := by decide +kernel
theorem dL_law_1262 : decode cL_law 1262 = .ok (.iload 4, 2) := by decide +kernel
theorem dL_law_1264 : decode cL_law 1264 = .ok (.iconst 3, 1) := by decide +kernel
theorem dL_law_1265 : decode cL_law 1265 = .ok (.iadd, 1) := by decide +kernel
theorem dL_law_1266 : decode cL_law 1266 = .ok (.iaload, 1) := by decide +kernel
theorem dL_law_1267 : decode cL_law 1267 = .ok (.ifCond .eq 7, 3) := by decide +kernel
theorem dL_law_1270 : decode cL_law 1270 = .ok (.iconst 1, 1) := by decide +kernel
theorem dL_law_1271 : decode cL_law 1271 = .ok (.goto 4, 3) := by decide +kernel
theorem dL_law_1274 : decode cL_law 1274 = .ok (.iconst 0, 1) := by decide +kernel
theorem dL_law_1275 : decode cL_law 1275 = .ok (.invokevirtual 145, 3) := by decide +kernel
theorem dL_law_1278 : decode cL_law 1278 = .ok (.if_icmp .eq 377, 3) := by decide +kernel
theorem dL_law_1281 : decode cL_law 1281 = .ok (.iconst 0, 1) := by decide +kernel
theorem dL_law_1282 : decode cL_law 1282 = .ok (.ireturn, 1) := by decide +kernel
theorem dL_law_1283 : decode cL_law 1283 = .ok (.aload_n 1, 1) := by decide +kernel
theorem dL_law_1284 : decode cL_law 1284 = .ok (.aload_n 0, 1) := by decide +kernel
theorem dL_law_1285 : decode cL_law 1285 = .ok (.iload 4, 2) := by decide +kernel
theorem dL_law_1287 : decode cL_law 1287 = .ok (.iconst 1, 1) := by decide +kernel
theorem dL_law_1288 : decode cL_law 1288 = .ok (.iadd, 1) := by decide +kernel
theorem dL_law_1289 : decode cL_law 1289 = .ok (.iaload, 1) := by decide +kernel
theorem dL_law_1290 : decode cL_law 1290 = .ok (.invokevirtual 146, 3) := by decide +kernel
theorem dL_law_1293 : decode cL_law 1293 = .ok (.aload_n 2, 1) := by decide +kernel
theorem dL_law_1294 : decode cL_law 1294 = .ok (.aload_n 0, 1) := by decide +kernel
theorem dL_law_1295 : decode cL_law 1295 = .ok (.iload 4, 2) := by decide +kernel
theorem dL_law_1297 : decode cL_law 1297 = .ok (.iconst 1, 1) := by decide +kernel
theorem dL_law_1298 : decode cL_law 1298 = .ok (.iadd, 1) := by decide +kernel
theorem dL_law_1299 : decode cL_law 1299 = .ok (.iaload, 1) := by decide +kernel
theorem dL_law_1300 : decode cL_law 1300 = .ok (.invokevirtual 149, 3) := by decide +kernel
theorem dL_law_1303 : decode cL_law 1303 = .ok (.if_icmp .eq 352, 3) := by decide +kernel
theorem dL_law_1306 : decode cL_law 1306 = .ok (.iconst 0, 1) := by decide +kernel
theorem dL_law_1307 : decode cL_law 1307 = .ok (.ireturn, 1) := by decide +kernel
theorem dL_law_1308 : decode cL_law 1308 = .ok (.aload_n 1, 1) := by decide +kernel
theorem dL_law_1309 : decode cL_law 1309 = .ok (.invokevirtual 150, 3) := by decide +kernel
theorem dL_law_1312 : decode cL_law 1312 = .ok (.aload_n 2, 1) := by decide +kernel
theorem dL_law_1313 : decode cL_law 1313 = .ok (.invokevirtual 153, 3) := by decide +kernel
theorem dL_law_1316 : decode cL_law 1316 = .ok (.if_icmp .eq 339, 3) := by decide +kernel
theorem dL_law_1319 : decode cL_law 1319 = .ok (.iconst 0, 1) := by decide +kernel
theorem dL_law_1320 : decode cL_law 1320 = .ok (.ireturn, 1) := by decide +kernel
theorem dL_law_1321 : decode cL_law 1321 = .ok (.aload_n 1, 1) := by decide +kernel
theorem dL_law_1322 : decode cL_law 1322 = .ok (.aload_n 0, 1) := by decide +kernel
theorem dL_law_1323 : decode cL_law 1323 = .ok (.iload 4, 2) := by decide +kernel
theorem dL_law_1325 : decode cL_law 1325 = .ok (.iconst 1, 1) := by decide +kernel
theorem dL_law_1326 : decode cL_law 1326 = .ok (.iadd, 1) := by decide +kernel
theorem dL_law_1327 : decode cL_law 1327 = .ok (.iaload, 1) := by decide +kernel
theorem dL_law_1328 : decode cL_law 1328 = .ok (.aload_n 0, 1) := by decide +kernel
theorem dL_law_1329 : decode cL_law 1329 = .ok (.iload 4, 2) := by decide +kernel
theorem dL_law_1331 : decode cL_law 1331 = .ok (.iconst 2, 1) := by decide +kernel
theorem dL_law_1332 : decode cL_law 1332 = .ok (.iadd, 1) := by decide +kernel
theorem dL_law_1333 : decode cL_law 1333 = .ok (.iaload, 1) := by decide +kernel
theorem dL_law_1334 : decode cL_law 1334 = .ok (.invokevirtual 154, 3) := by decide +kernel
theorem dL_law_1337 : decode cL_law 1337 = .ok (.aload_n 2, 1) := by decide +kernel
theorem dL_law_1338 : decode cL_law 1338 = .ok (.aload_n 0, 1) := by decide +kernel
theorem dL_law_1339 : decode cL_law 1339 = .ok (.iload 4, 2) := by decide +kernel
theorem dL_law_1341 : decode cL_law 1341 = .ok (.iconst 1, 1) := by decide +kernel
theorem dL_law_1342 : decode cL_law 1342 = .ok (.iadd, 1) := by decide +kernel
theorem dL_law_1343 : decode cL_law 1343 = .ok (.iaload, 1) := by decide +kernel
theorem dL_law_1344 : decode cL_law 1344 = .ok (.aload_n 0, 1) := by decide +kernel
theorem dL_law_1345 : decode cL_law 1345 = .ok (.iload 4, 2) := by decide +kernel
theorem dL_law_1347 : decode cL_law 1347 = .ok (.iconst 2, 1) := by decide +kernel
theorem dL_law_1348 : decode cL_law 1348 = .ok (.iadd, 1) := by decide +kernel
theorem dL_law_1349 : decode cL_law 1349 = .ok (.iaload, 1) := by decide +kernel
theorem dL_law_1350 : decode cL_law 1350 = .ok (.invokevirtual 157, 3) := by decide +kernel
theorem dL_law_1353 : decode cL_law 1353 = .ok (.if_icmp .eq 302, 3) := by decide +kernel
theorem dL_law_1356 : decode cL_law 1356 = .ok (.iconst 0, 1) := by decide +kernel
theorem dL_law_1357 : decode cL_law 1357 = .ok (.ireturn, 1) := by decide +kernel
theorem dL_law_1358 : decode cL_law 1358 = .ok (.aload_n 1, 1) := by decide +kernel
theorem dL_law_1359 : decode cL_law 1359 = .ok (.aload_n 0, 1) := by decide +kernel
theorem dL_law_1360 : decode cL_law 1360 = .ok (.iload 4, 2) := by decide +kernel
theorem dL_law_1362 : decode cL_law 1362 = .ok (.iconst 1, 1) := by decide +kernel
theorem dL_law_1363 : decode cL_law 1363 = .ok (.iadd, 1) := by decide +kernel
theorem dL_law_1364 : decode cL_law 1364 = .ok (.iaload, 1) := by decide +kernel
theorem dL_law_1365 : decode cL_law 1365 = .ok (.invokevirtual 158, 3) := by decide +kernel
theorem dL_law_1368 : decode cL_law 1368 = .ok (.aload_n 2, 1) := by decide +kernel
theorem dL_law_1369 : decode cL_law 1369 = .ok (.aload_n 0, 1) := by decide +kernel
theorem dL_law_1370 : decode cL_law 1370 = .ok (.iload 4, 2) := by decide +kernel
theorem dL_law_1372 : decode cL_law 1372 = .ok (.iconst 1, 1) := by decide +kernel
theorem dL_law_1373 : decode cL_law 1373 = .ok (.iadd, 1) := by decide +kernel
theorem dL_law_1374 : decode cL_law 1374 = .ok (.iaload, 1) := by decide +kernel
theorem dL_law_1375 : decode cL_law 1375 = .ok (.invokevirtual 161, 3) := by decide +kernel
theorem dL_law_1378 : decode cL_law 1378 = .ok (.if_icmp .eq 277, 3) := by decide +kernel
theorem dL_law_1381 : decode cL_law 1381 = .ok (.iconst 0, 1) := by decide +kernel
theorem dL_law_1382 : decode cL_law 1382 = .ok (.ireturn, 1) := by decide +kernel
theorem dL_law_1383 : decode cL_law 1383 = .ok (.aload_n 1, 1) := by decide +kernel
theorem dL_law_1384 : decode cL_law 1384 = .ok (.aload_n 0, 1) := by decide +kernel
theorem dL_law_1385 : decode cL_law 1385 = .ok (.iload 4, 2) := by decide +kernel
theorem dL_law_1387 : decode cL_law 1387 = .ok (.iconst 1, 1) := by decide +kernel
theorem dL_law_1388 : decode cL_law 1388 = .ok (.iadd, 1) := by decide +kernel
theorem dL_law_1389 : decode cL_law 1389 = .ok (.iaload, 1) := by decide +kernel
theorem dL_law_1390 : decode cL_law 1390 = .ok (.aload_n 0, 1) := by decide +kernel
theorem dL_law_1391 : decode cL_law 1391 = .ok (.iload 4, 2) := by decide +kernel
theorem dL_law_1393 : decode cL_law 1393 = .ok (.iconst 2, 1) := by decide +kernel
theorem dL_law_1394 : decode cL_law 1394 = .ok (.iadd, 1) := by decide +kernel
theorem dL_law_1395 : decode cL_law 1395 = .ok (.iaload, 1) := by decide +kernel
theorem dL_law_1396 : decode cL_law 1396 = .ok (.aload_n 0, 1) := by decide +kernel
theorem dL_law_1397 : decode cL_law 1397 = .ok (.iload 4, 2) := by decide +kernel
theorem dL_law_1399 : decode cL_law 1399 = .ok (.iconst 3, 1) := by decide +kernel
theorem dL_law_1400 : decode cL_law 1400 = .ok (.iadd, 1) := by decide +kernel
theorem dL_law_1401 : decode cL_law 1401 = .ok (.iaload, 1) := by decide +kernel
theorem dL_law_1402 : decode cL_law 1402 = .ok (.aload_n 0, 1) := by decide +kernel
theorem dL_law_1403 : decode cL_law 1403 = .ok (.iload 4, 2) := by decide +kernel
theorem dL_law_1405 : decode cL_law 1405 = .ok (.iconst 4, 1) := by decide +kernel
theorem dL_law_1406 : decode cL_law 1406 = .ok (.iadd, 1) := by decide +kernel
theorem dL_law_1407 : decode cL_law 1407 = .ok (.iaload, 1) := by decide +kernel
theorem dL_law_1408 : decode cL_law 1408 = .ok (.invokevirtual 162, 3) := by decide +kernel
theorem dL_law_1411 : decode cL_law 1411 = .ok (.aload_n 2, 1) := by decide +kernel
theorem dL_law_1412 : decode cL_law 1412 = .ok (.aload_n 0, 1) := by decide +kernel
theorem dL_law_1413 : decode cL_law 1413 = .ok (.iload 4, 2) := by decide +kernel
theorem dL_law_1415 : decode cL_law 1415 = .ok (.iconst 1, 1) := by decide +kernel
theorem dL_law_1416 : decode cL_law 1416 = .ok (.iadd, 1) := by decide +kernel
theorem dL_law_1417 : decode cL_law 1417 = .ok (.iaload, 1) := by decide +kernel
theorem dL_law_1418 : decode cL_law 1418 = .ok (.aload_n 0, 1) := by decide +kernel
theorem dL_law_1419 : decode cL_law 1419 = .ok (.iload 4, 2) := by decide +kernel
theorem dL_law_1421 : decode cL_law 1421 = .ok (.iconst 2, 1) := by decide +kernel
theorem dL_law_1422 : decode cL_law 1422 = .ok (.iadd, 1) := by decide +kernel
theorem dL_law_1423 : decode cL_law 1423 = .ok (.iaload, 1) := by decide +kernel
theorem dL_law_1424 : decode cL_law 1424 = .ok (.aload_n 0, 1) := by decide +kernel
theorem dL_law_1425 : decode cL_law 1425 = .ok (.iload 4, 2) := by decide +kernel
theorem dL_law_1427 : decode cL_law 1427 = .ok (.iconst 3, 1) := by decide +kernel
theorem dL_law_1428 : decode cL_law 1428 = .ok (.iadd, 1) := by decide +kernel
theorem dL_law_1429 : decode cL_law 1429 = .ok (.iaload, 1) := by decide +kernel
theorem dL_law_1430 : decode cL_law 1430 = .ok (.aload_n 0, 1) := by decide +kernel
theorem dL_law_1431 : decode cL_law 1431 = .ok (.iload 4, 2) := by decide +kernel
theorem dL_law_1433 : decode cL_law 1433 = .ok (.iconst 4, 1) := by decide +kernel
theorem dL_law_1434 : decode cL_law 1434 = .ok (.iadd, 1) := by decide +kernel
theorem dL_law_1435 : decode cL_law 1435 = .ok (.iaload, 1) := by decide +kernel
theorem dL_law_1436 : decode cL_law 1436 = .ok (.invokevirtual 165, 3) := by decide +kernel
theorem dL_law_1439 : decode cL_law 1439 = .ok (.if_icmp .eq 216, 3) := by decide +kernel
theorem dL_law_1442 : decode cL_law 1442 = .ok (.iconst 0, 1) := by decide +kernel
theorem dL_law_1443 : decode cL_law 1443 = .ok (.ireturn, 1) := by decide +kernel
theorem dL_law_1444 : decode cL_law 1444 = .ok (.aload_n 1, 1) := by decide +kernel
theorem dL_law_1445 : decode cL_law 1445 = .ok (.aload_n 0, 1) := by decide +kernel
theorem dL_law_1446 : decode cL_law 1446 = .ok (.iload 4, 2) := by decide +kernel
theorem dL_law_1448 : decode cL_law 1448 = .ok (.iconst 1, 1) := by decide +kernel
theorem dL_law_1449 : decode cL_law 1449 = .ok (.iadd, 1) := by decide +kernel
theorem dL_law_1450 : decode cL_law 1450 = .ok (.iaload, 1) := by decide +kernel
theorem dL_law_1451 : decode cL_law 1451 = .ok (.aload_n 0, 1) := by decide +kernel
theorem dL_law_1452 : decode cL_law 1452 = .ok (.iload 4, 2) := by decide +kernel
theorem dL_law_1454 : decode cL_law 1454 = .ok (.iconst 2, 1) := by decide +kernel
theorem dL_law_1455 : decode cL_law 1455 = .ok (.iadd, 1) := by decide +kernel
theorem dL_law_1456 : decode cL_law 1456 = .ok (.iaload, 1) := by decide +kernel
theorem dL_law_1457 : decode cL_law 1457 = .ok (.invokevirtual 166, 3) := by decide +kernel
theorem dL_law_1460 : decode cL_law 1460 = .ok (.aload_n 2, 1) := by decide +kernel
theorem dL_law_1461 : decode cL_law 1461 = .ok (.aload_n 0, 1) := by decide +kernel
theorem dL_law_1462 : decode cL_law 1462 = .ok (.iload 4, 2) := by decide +kernel
theorem dL_law_1464 : decode cL_law 1464 = .ok (.iconst 1, 1) := by decide +kernel
theorem dL_law_1465 : decode cL_law 1465 = .ok (.iadd, 1) := by decide +kernel
theorem dL_law_1466 : decode cL_law 1466 = .ok (.iaload, 1) := by decide +kernel
theorem dL_law_1467 : decode cL_law 1467 = .ok (.aload_n 0, 1) := by decide +kernel
theorem dL_law_1468 : decode cL_law 1468 = .ok (.iload 4, 2) := by decide +kernel
theorem dL_law_1470 : decode cL_law 1470 = .ok (.iconst 2, 1) := by decide +kernel
theorem dL_law_1471 : decode cL_law 1471 = .ok (.iadd, 1) := by decide +kernel
theorem dL_law_1472 : decode cL_law 1472 = .ok (.iaload, 1) := by decide +kernel
theorem dL_law_1473 : decode cL_law 1473 = .ok (.invokevirtual 169, 3) := by decide +kernel
theorem dL_law_1476 : decode cL_law 1476 = .ok (.if_icmp .eq 179, 3) := by decide +kernel
theorem dL_law_1479 : decode cL_law 1479 = .ok (.iconst 0, 1) := by decide +kernel
theorem dL_law_1480 : decode cL_law 1480 = .ok (.ireturn, 1) := by decide +kernel
theorem dL_law_1481 : decode cL_law 1481 = .ok (.aload_n 1, 1) := by decide +kernel
theorem dL_law_1482 : decode cL_law 1482 = .ok (.aload_n 0, 1) := by decide +kernel
theorem dL_law_1483 : decode cL_law 1483 = .ok (.iload 4, 2) := by decide +kernel
theorem dL_law_1485 : decode cL_law 1485 = .ok (.iconst 1, 1) := by decide +kernel
theorem dL_law_1486 : decode cL_law 1486 = .ok (.iadd, 1) := by decide +kernel
theorem dL_law_1487 : decode cL_law 1487 = .ok (.iaload, 1) := by decide +kernel
theorem dL_law_1488 : decode cL_law 1488 = .ok (.aload_n 0, 1) := by decide +kernel
theorem dL_law_1489 : decode cL_law 1489 = .ok (.iload 4, 2) := by decide +kernel
theorem dL_law_1491 : decode cL_law 1491 = .ok (.iconst 2, 1) := by decide +kernel
theorem dL_law_1492 : decode cL_law 1492 = .ok (.iadd, 1) := by decide +kernel
theorem dL_law_1493 : decode cL_law 1493 = .ok (.iaload, 1) := by decide +kernel
theorem dL_law_1494 : decode cL_law 1494 = .ok (.aload_n 0, 1) := by decide +kernel
theorem dL_law_1495 : decode cL_law 1495 = .ok (.iload 4, 2) := by decide +kernel
theorem dL_law_1497 : decode cL_law 1497 = .ok (.iconst 3, 1) := by decide +kernel
theorem dL_law_1498 : decode cL_law 1498 = .ok (.iadd, 1) := by decide +kernel
theorem dL_law_1499 : decode cL_law 1499 = .ok (.iaload, 1) := by decide +kernel
theorem dL_law_1500 : decode cL_law 1500 = .ok (.aload_n 0, 1) := by decide +kernel
theorem dL_law_1501 : decode cL_law 1501 = .ok (.iload 4, 2) := by decide +kernel
theorem dL_law_1503 : decode cL_law 1503 = .ok (.iconst 4, 1) := by decide +kernel
theorem dL_law_1504 : decode cL_law 1504 = .ok (.iadd, 1) := by decide +kernel
theorem dL_law_1505 : decode cL_law 1505 = .ok (.iaload, 1) := by decide +kernel
theorem dL_law_1506 : decode cL_law 1506 = .ok (.invokevirtual 170, 3) := by decide +kernel
theorem dL_law_1509 : decode cL_law 1509 = .ok (.aload_n 2, 1) := by decide +kernel
theorem dL_law_1510 : decode cL_law 1510 = .ok (.aload_n 0, 1) := by decide +kernel
theorem dL_law_1511 : decode cL_law 1511 = .ok (.iload 4, 2) := by decide +kernel
theorem dL_law_1513 : decode cL_law 1513 = .ok (.iconst 1, 1) := by decide +kernel
theorem dL_law_1514 : decode cL_law 1514 = .ok (.iadd, 1) := by decide +kernel
theorem dL_law_1515 : decode cL_law 1515 = .ok (.iaload, 1) := by decide +kernel
theorem dL_law_1516 : decode cL_law 1516 = .ok (.aload_n 0, 1) := by decide +kernel
theorem dL_law_1517 : decode cL_law 1517 = .ok (.iload 4, 2) := by decide +kernel
theorem dL_law_1519 : decode cL_law 1519 = .ok (.iconst 2, 1) := by decide +kernel
theorem dL_law_1520 : decode cL_law 1520 = .ok (.iadd, 1) := by decide +kernel
theorem dL_law_1521 : decode cL_law 1521 = .ok (.iaload, 1) := by decide +kernel
theorem dL_law_1522 : decode cL_law 1522 = .ok (.aload_n 0, 1) := by decide +kernel
theorem dL_law_1523 : decode cL_law 1523 = .ok (.iload 4, 2) := by decide +kernel
theorem dL_law_1525 : decode cL_law 1525 = .ok (.iconst 3, 1) := by decide +kernel
theorem dL_law_1526 : decode cL_law 1526 = .ok (.iadd, 1) := by decide +kernel
theorem dL_law_1527 : decode cL_law 1527 = .ok (.iaload, 1) := by decide +kernel
theorem dL_law_1528 : decode cL_law 1528 = .ok (.aload_n 0, 1) := by decide +kernel
theorem dL_law_1529 : decode cL_law 1529 = .ok (.iload 4, 2) := by decide +kernel
theorem dL_law_1531 : decode cL_law 1531 = .ok (.iconst 4, 1) := by decide +kernel
theorem dL_law_1532 : decode cL_law 1532 = .ok (.iadd, 1) := by decide +kernel
theorem dL_law_1533 : decode cL_law 1533 = .ok (.iaload, 1) := by decide +kernel
theorem dL_law_1534 : decode cL_law 1534 = .ok (.invokevirtual 173, 3) := by decide +kernel
theorem dL_law_1537 : decode cL_law 1537 = .ok (.if_icmp .eq 118, 3) := by decide +kernel
theorem dL_law_1540 : decode cL_law 1540 = .ok (.iconst 0, 1) := by decide +kernel
theorem dL_law_1541 : decode cL_law 1541 = .ok (.ireturn, 1) := by decide +kernel
theorem dL_law_1542 : decode cL_law 1542 = .ok (.aload_n 1, 1) := by decide +kernel
theorem dL_law_1543 : decode cL_law 1543 = .ok (.aload_n 0, 1) := by decide +kernel
theorem dL_law_1544 : decode cL_law 1544 = .ok (.iload 4, 2) := by decide +kernel
theorem dL_law_1546 : decode cL_law 1546 = .ok (.iconst 1, 1) := by decide +kernel
theorem dL_law_1547 : decode cL_law 1547 = .ok (.iadd, 1) := by decide +kernel
theorem dL_law_1548 : decode cL_law 1548 = .ok (.iaload, 1) := by decide +kernel
theorem dL_law_1549 : decode cL_law 1549 = .ok (.aload_n 0, 1) := by decide +kernel
theorem dL_law_1550 : decode cL_law 1550 = .ok (.iload 4, 2) := by decide +kernel
theorem dL_law_1552 : decode cL_law 1552 = .ok (.iconst 2, 1) := by decide +kernel
theorem dL_law_1553 : decode cL_law 1553 = .ok (.iadd, 1) := by decide +kernel
theorem dL_law_1554 : decode cL_law 1554 = .ok (.iaload, 1) := by decide +kernel
theorem dL_law_1555 : decode cL_law 1555 = .ok (.invokevirtual 174, 3) := by decide +kernel
theorem dL_law_1558 : decode cL_law 1558 = .ok (.aload_n 2, 1) := by decide +kernel
theorem dL_law_1559 : decode cL_law 1559 = .ok (.aload_n 0, 1) := by decide +kernel
theorem dL_law_1560 : decode cL_law 1560 = .ok (.iload 4, 2) := by decide +kernel
theorem dL_law_1562 : decode cL_law 1562 = .ok (.iconst 1, 1) := by decide +kernel
theorem dL_law_1563 : decode cL_law 1563 = .ok (.iadd, 1) := by decide +kernel
theorem dL_law_1564 : decode cL_law 1564 = .ok (.iaload, 1) := by decide +kernel
theorem dL_law_1565 : decode cL_law 1565 = .ok (.aload_n 0, 1) := by decide +kernel
theorem dL_law_1566 : decode cL_law 1566 = .ok (.iload 4, 2) := by decide +kernel
theorem dL_law_1568 : decode cL_law 1568 = .ok (.iconst 2, 1) := by decide +kernel
theorem dL_law_1569 : decode cL_law 1569 = .ok (.iadd, 1) := by decide +kernel
theorem dL_law_1570 : decode cL_law 1570 = .ok (.iaload, 1) := by decide +kernel
theorem dL_law_1571 : decode cL_law 1571 = .ok (.invokevirtual 177, 3) := by decide +kernel
theorem dL_law_1574 : decode cL_law 1574 = .ok (.if_icmp .eq 81, 3) := by decide +kernel
theorem dL_law_1577 : decode cL_law 1577 = .ok (.iconst 0, 1) := by decide +kernel
theorem dL_law_1578 : decode cL_law 1578 = .ok (.ireturn, 1) := by decide +kernel
theorem dL_law_1579 : decode cL_law 1579 = .ok (.aload_n 1, 1) := by decide +kernel
theorem dL_law_1580 : decode cL_law 1580 = .ok (.aload_n 0, 1) := by decide +kernel
theorem dL_law_1581 : decode cL_law 1581 = .ok (.iload 4, 2) := by decide +kernel
theorem dL_law_1583 : decode cL_law 1583 = .ok (.iconst 1, 1) := by decide +kernel
theorem dL_law_1584 : decode cL_law 1584 = .ok (.iadd, 1) := by decide +kernel
theorem dL_law_1585 : decode cL_law 1585 = .ok (.iaload, 1) := by decide +kernel
theorem dL_law_1586 : decode cL_law 1586 = .ok (.invokevirtual 178, 3) := by decide +kernel
theorem dL_law_1589 : decode cL_law 1589 = .ok (.aload_n 2, 1) := by decide +kernel
theorem dL_law_1590 : decode cL_law 1590 = .ok (.aload_n 0, 1) := by decide +kernel
theorem dL_law_1591 : decode cL_law 1591 = .ok (.iload 4, 2) := by decide +kernel
theorem dL_law_1593 : decode cL_law 1593 = .ok (.iconst 1, 1) := by decide +kernel
theorem dL_law_1594 : decode cL_law 1594 = .ok (.iadd, 1) := by decide +kernel
theorem dL_law_1595 : decode cL_law 1595 = .ok (.iaload, 1) := by decide +kernel
theorem dL_law_1596 : decode cL_law 1596 = .ok (.invokevirtual 181, 3) := by decide +kernel
theorem dL_law_1599 : decode cL_law 1599 = .ok (.if_icmp .eq 56, 3) := by decide +kernel
theorem dL_law_1602 : decode cL_law 1602 = .ok (.iconst 0, 1) := by decide +kernel
theorem dL_law_1603 : decode cL_law 1603 = .ok (.ireturn, 1) := by decide +kernel
theorem dL_law_1604 : decode cL_law 1604 = .ok (.aload_n 1, 1) := by decide +kernel
theorem dL_law_1605 : decode cL_law 1605 = .ok (.invokevirtual 182, 3) := by decide +kernel
theorem dL_law_1608 : decode cL_law 1608 = .ok (.aload_n 2, 1) := by decide +kernel
theorem dL_law_1609 : decode cL_law 1609 = .ok (.invokevirtual 185, 3) := by decide +kernel
theorem dL_law_1612 : decode cL_law 1612 = .ok (.if_icmp .eq 43, 3) := by decide +kernel
theorem dL_law_1615 : decode cL_law 1615 = .ok (.iconst 0, 1) := by decide +kernel
theorem dL_law_1616 : decode cL_law 1616 = .ok (.ireturn, 1) := by decide +kernel
theorem dL_law_1617 : decode cL_law 1617 = .ok (.aload_n 1, 1) := by decide +kernel
theorem dL_law_1618 : decode cL_law 1618 = .ok (.invokevirtual 186, 3) := by decide +kernel
theorem dL_law_1621 : decode cL_law 1621 = .ok (.aload_n 2, 1) := by decide +kernel
theorem dL_law_1622 : decode cL_law 1622 = .ok (.invokevirtual 189, 3) := by decide +kernel
theorem dL_law_1625 : decode cL_law 1625 = .ok (.if_icmp .eq 30, 3) := by decide +kernel
theorem dL_law_1628 : decode cL_law 1628 = .ok (.iconst 0, 1) := by decide +kernel
theorem dL_law_1629 : decode cL_law 1629 = .ok (.ireturn, 1) := by decide +kernel
theorem dL_law_1630 : decode cL_law 1630 = .ok (.aload_n 1, 1) := by decide +kernel
theorem dL_law_1631 : decode cL_law 1631 = .ok (.aload_n 0, 1) := by decide +kernel
theorem dL_law_1632 : decode cL_law 1632 = .ok (.iload 4, 2) := by decide +kernel
theorem dL_law_1634 : decode cL_law 1634 = .ok (.iconst 1, 1) := by decide +kernel
theorem dL_law_1635 : decode cL_law 1635 = .ok (.iadd, 1) := by decide +kernel
theorem dL_law_1636 : decode cL_law 1636 = .ok (.iaload, 1) := by decide +kernel
theorem dL_law_1637 : decode cL_law 1637 = .ok (.invokevirtual 190, 3) := by decide +kernel
theorem dL_law_1640 : decode cL_law 1640 = .ok (.aload_n 2, 1) := by decide +kernel
theorem dL_law_1641 : decode cL_law 1641 = .ok (.aload_n 0, 1) := by decide +kernel
theorem dL_law_1642 : decode cL_law 1642 = .ok (.iload 4, 2) := by decide +kernel
theorem dL_law_1644 : decode cL_law 1644 = .ok (.iconst 1, 1) := by decide +kernel
theorem dL_law_1645 : decode cL_law 1645 = .ok (.iadd, 1) := by decide +kernel
theorem dL_law_1646 : decode cL_law 1646 = .ok (.iaload, 1) := by decide +kernel
theorem dL_law_1647 : decode cL_law 1647 = .ok (.invokevirtual 193, 3) := by decide +kernel
theorem dL_law_1650 : decode cL_law 1650 = .ok (.if_icmp .eq 5, 3) := by decide +kernel
theorem dL_law_1653 : decode cL_law 1653 = .ok (.iconst 0, 1) := by decide +kernel
theorem dL_law_1654 : decode cL_law 1654 = .ok (.ireturn, 1) := by decide +kernel
theorem dL_law_1655 : decode cL_law 1655 = .ok (.iinc 4 6, 3) := by decide +kernel
theorem dL_law_1658 : decode cL_law 1658 = .ok (.goto (-1635), 3) := by decide +kernel
theorem dL_law_1661 : decode cL_law 1661 = .ok (.iconst 1, 1) := by decide +kernel
theorem dL_law_1662 : decode cL_law 1662 = .ok (.ireturn, 1) := by decide +kernel
set_option maxRecDepth 20000 in
def kL_law_0 (g : sk_G) (d ck sk : Nat) (Q : sk_P) : sk_K := o_new (g, d, ck, sk, xL_law, Q) 11 17 [.inr (.inr none), .inr (.inr none), .inr (.inr none), .inr (.inr none), .inr (.inr none), .inr (.inr none), .inr (.inr none), .inr (.inr none), .inr (.inr none), .inr (.inr none), .inr (.inr none), .inr (.inr none), .inr (.inr none), .inr (.inr none), .inr (.inr none), .inl 0, .inr (.inl 0)] (o_dup (o_iniB (g, d, ck - 1, sk - 17, xL_law, Q) xX11_init 0 60 4000 (o_astore 1 (o_new (g, d, ck - 1 - 60, sk - 17 - 4000, xL_law, Q) 12 49 [.inl 0, .inr (.inr none), .inl 0, .inl 0, .inl 0, .inl 0, .inr (.inr none), .inr (.inr none), .inr (.inr none), .inr (.inr none), .inr (.inr none), .inr (.inr none), .inr (.inr none), .inl 0, .inl 0, .inr (.inr none), .inr (.inr none), .inr (.inr none), .inr (.inr none), .inl 0, .inr (.inr none), .inr (.inr none), .inl 0, .inl 0, .inr (.inr none), .inr (.inr none), .inr (.inr none), .inl 0, .inr (.inr none), .inr (.inr none), .inl 0, .inl 0, .inr (.inr none), .inl 0, .inr (.inl 0), .inl 0, .inl 0, .inr (.inr none), .inr (.inr none), .inr (.inr none), .inr (.inr none), .inr (.inr none), .inr (.inr none), .inr (.inr none), .inr (.inr none), .inl 0, .inr (.inr none), .inr (.inr none), .inl 0] (o_dup (o_iniB (g, d, ck - 1 - 60 - 1, sk - 17 - 4000 - 49, xL_law, Q) xX12_init 0 30 60000 (o_astore 2 (o_i (1) (o_newa (g, d, ck - 1 - 60 - 1 - 30, sk - 17 - 4000 - 49 - 60000, xL_law, Q) 22 1 (fun _ => .inr (.inl 0)) (o_astore 3 (o_i (0) (o_istore 4 (sk_B (g, d, ck - 1 - 60 - 1 - 30 - 1, sk - 17 - 4000 - 49 - 60000 - 1, xL_law, Q) 23)))))))))))))
set_option maxRecDepth 20000 in
theorem tL_law_0 {g : sk_G} {d ck sk : Nat} {Q : sk_P} : sk_S (g, d, ck, sk, xL_law, Q) 0 (kL_law_0 g d ck sk Q) := s_new (w' := (g, d, ck - 1, sk - 17, xL_law, Q)) (ci := 11) (N := 17) (C := RX11) (T := TX11) (ty := tyX11) dL_law_0 rfl (by decide) tyX11_ok (by decide) (by decide) ql_L_8 qa_X11 qz_X11 rfl (s_dup dL_law_3 (s_iniB (w' := (g, d, ck - 1 - 60, sk - 17 - 4000, xL_law, Q)) (ck := 60) (sk := 4000) dL_law_4 m_X11_init rfl rfl qm_L_15 qi_X11_init rfl (s_astore_n dL_law_7 rfl (by decide : 1 < 7) (s_new (w' := (g, d, ck - 1 - 60 - 1, sk - 17 - 4000 - 49, xL_law, Q)) (ci := 12) (N := 49) (C := RX12) (T := TX12) (ty := tyX12) dL_law_8 rfl (by decide) tyX12_ok (by decide) (by decide) ql_L_16 qa_X12 qz_X12 rfl (s_dup dL_law_11 (s_iniB (w' := (g, d, ck - 1 - 60 - 1 - 30, sk - 17 - 4000 - 49 - 60000, xL_law, Q)) (ck := 30) (sk := 60000) dL_law_12 m_X12_init rfl rfl qm_L_18 qi_X12_init rfl (s_astore_n dL_law_15 rfl (by decide : 2 < 7) (s_iconst dL_law_16 (s_newJ (w' := (g, d, ck - 1 - 60 - 1 - 30 - 1, sk - 17 - 4000 - 49 - 60000 - 1, xL_law, Q)) (N := 1) dL_law_17 (by decide) qr_long rfl (s_astore_n dL_law_19 rfl (by decide : 3 < 7) (s_iconst dL_law_20 (s_istore dL_law_21 (by decide : 4 < 7) (sk_id)))))))))))))
set_option maxRecDepth 20000 in
def kL_law_23 (g : sk_G) (d ck sk : Nat) (Q : sk_P) : sk_K := o_iload 4 (o_aload 0 (o_alen (o_i (6) (o_isub (o_icgt (sk_B (g, d, ck, sk, xL_law, Q) 1661) (o_aload 0 (o_iload 4 (o_iaload (o_i (63) (o_iand (o_tsw (0) [sk_B (g, d, ck, sk, xL_law, Q) 216, sk_B (g, d, ck, sk, xL_law, Q) 289, sk_B (g, d, ck, sk, xL_law, Q) 314, sk_B (g, d, ck, sk, xL_law, Q) 339, sk_B (g, d, ck, sk, xL_law, Q) 364, sk_B (g, d, ck, sk, xL_law, Q) 389, sk_B (g, d, ck, sk, xL_law, Q) 457, sk_B (g, d, ck, sk, xL_law, Q) 506, sk_B (g, d, ck, sk, xL_law, Q) 555, sk_B (g, d, ck, sk, xL_law, Q) 580, sk_B (g, d, ck, sk, xL_law, Q) 605, sk_B (g, d, ck, sk, xL_law, Q) 666, sk_B (g, d, ck, sk, xL_law, Q) 703, sk_B (g, d, ck, sk, xL_law, Q) 728, sk_B (g, d, ck, sk, xL_law, Q) 753, sk_B (g, d, ck, sk, xL_law, Q) 822, sk_B (g, d, ck, sk, xL_law, Q) 847, sk_B (g, d, ck, sk, xL_law, Q) 860, sk_B (g, d, ck, sk, xL_law, Q) 897, sk_B (g, d, ck, sk, xL_law, Q) 922, sk_B (g, d, ck, sk, xL_law, Q) 947, sk_B (g, d, ck, sk, xL_law, Q) 996, sk_B (g, d, ck, sk, xL_law, Q) 1033, sk_B (g, d, ck, sk, xL_law, Q) 1058, sk_B (g, d, ck, sk, xL_law, Q) 1095, sk_B (g, d, ck, sk, xL_law, Q) 1120, sk_B (g, d, ck, sk, xL_law, Q) 1169, sk_B (g, d, ck, sk, xL_law, Q) 1218, sk_B (g, d, ck, sk, xL_law, Q) 1283, sk_B (g, d, ck, sk, xL_law, Q) 1308, sk_B (g, d, ck, sk, xL_law, Q) 1321, sk_B (g, d, ck, sk, xL_law, Q) 1358, sk_B (g, d, ck, sk, xL_law, Q) 1383, sk_B (g, d, ck, sk, xL_law, Q) 1444, sk_B (g, d, ck, sk, xL_law, Q) 1481, sk_B (g, d, ck, sk, xL_law, Q) 1542, sk_B (g, d, ck, sk, xL_law, Q) 1579, sk_B (g, d, ck, sk, xL_law, Q) 1604, sk_B (g, d, ck, sk, xL_law, Q) 1617, sk_B (g, d, ck, sk, xL_law, Q) 1630] (sk_B (g, d, ck, sk, xL_law, Q) 1655))))))))))))
set_option maxRecDepth 20000 in
theorem tL_law_23 {g : sk_G} {d ck sk : Nat} {Q : sk_P} : sk_S (g, d, ck, sk, xL_law, Q) 23 (kL_law_23 g d ck sk Q) := s_iload dL_law_23 (s_aload_n dL_law_25 rfl (s_alen dL_law_26 (s_bipush dL_law_27 rfl (s_isub dL_law_29 (s_icgt (tgt := 1661) dL_law_30 (by decide +kernel) (sk_id) (s_aload_n dL_law_33 rfl (s_iload dL_law_34 (s_iaload dL_law_36 (s_bipush dL_law_37 rfl (s_iand dL_law_39 (s_tsw (td := 1655) (tg := [216, 289, 314, 339, 364, 389, 457, 506, 555, 580, 605, 666, 703, 728, 753, 822, 847, 860, 897, 922, 947, 996, 1033, 1058, 1095, 1120, 1169, 1218, 1283, 1308, 1321, 1358, 1383, 1444, 1481, 1542, 1579, 1604, 1617, 1630]) (n := 40) dL_law_40 rfl (by decide) (by decide) (by decide) (sk_id) (fun i off h => by
    match i, h with
    | 0, h => cases h; exact ⟨216, rfl, by decide⟩
    | 1, h => cases h; exact ⟨289, rfl, by decide⟩
    | 2, h => cases h; exact ⟨314, rfl, by decide⟩
    | 3, h => cases h; exact ⟨339, rfl, by decide⟩
    | 4, h => cases h; exact ⟨364, rfl, by decide⟩
    | 5, h => cases h; exact ⟨389, rfl, by decide⟩
    | 6, h => cases h; exact ⟨457, rfl, by decide⟩
    | 7, h => cases h; exact ⟨506, rfl, by decide⟩
    | 8, h => cases h; exact ⟨555, rfl, by decide⟩
    | 9, h => cases h; exact ⟨580, rfl, by decide⟩
    | 10, h => cases h; exact ⟨605, rfl, by decide⟩
    | 11, h => cases h; exact ⟨666, rfl, by decide⟩
    | 12, h => cases h; exact ⟨703, rfl, by decide⟩
    | 13, h => cases h; exact ⟨728, rfl, by decide⟩
    | 14, h => cases h; exact ⟨753, rfl, by decide⟩
    | 15, h => cases h; exact ⟨822, rfl, by decide⟩
    | 16, h => cases h; exact ⟨847, rfl, by decide⟩
    | 17, h => cases h; exact ⟨860, rfl, by decide⟩
    | 18, h => cases h; exact ⟨897, rfl, by decide⟩
    | 19, h => cases h; exact ⟨922, rfl, by decide⟩
    | 20, h => cases h; exact ⟨947, rfl, by decide⟩
    | 21, h => cases h; exact ⟨996, rfl, by decide⟩
    | 22, h => cases h; exact ⟨1033, rfl, by decide⟩
    | 23, h => cases h; exact ⟨1058, rfl, by decide⟩
    | 24, h => cases h; exact ⟨1095, rfl, by decide⟩
    | 25, h => cases h; exact ⟨1120, rfl, by decide⟩
    | 26, h => cases h; exact ⟨1169, rfl, by decide⟩
    | 27, h => cases h; exact ⟨1218, rfl, by decide⟩
    | 28, h => cases h; exact ⟨1283, rfl, by decide⟩
    | 29, h => cases h; exact ⟨1308, rfl, by decide⟩
    | 30, h => cases h; exact ⟨1321, rfl, by decide⟩
    | 31, h => cases h; exact ⟨1358, rfl, by decide⟩
    | 32, h => cases h; exact ⟨1383, rfl, by decide⟩
    | 33, h => cases h; exact ⟨1444, rfl, by decide⟩
    | 34, h => cases h; exact ⟨1481, rfl, by decide⟩
    | 35, h => cases h; exact ⟨1542, rfl, by decide⟩
    | 36, h => cases h; exact ⟨1579, rfl, by decide⟩
    | 37, h => cases h; exact ⟨1604, rfl, by decide⟩
    | 38, h => cases h; exact ⟨1617, rfl, by decide⟩
    | 39, h => cases h; exact ⟨1630, rfl, by decide⟩
    | i + 40, h => simp at h) (fun i a t hi ht => by
    match i, hi, ht with
    | 0, hi, ht => cases hi; cases ht; exact sk_id
    | 1, hi, ht => cases hi; cases ht; exact sk_id
    | 2, hi, ht => cases hi; cases ht; exact sk_id
    | 3, hi, ht => cases hi; cases ht; exact sk_id
    | 4, hi, ht => cases hi; cases ht; exact sk_id
    | 5, hi, ht => cases hi; cases ht; exact sk_id
    | 6, hi, ht => cases hi; cases ht; exact sk_id
    | 7, hi, ht => cases hi; cases ht; exact sk_id
    | 8, hi, ht => cases hi; cases ht; exact sk_id
    | 9, hi, ht => cases hi; cases ht; exact sk_id
    | 10, hi, ht => cases hi; cases ht; exact sk_id
    | 11, hi, ht => cases hi; cases ht; exact sk_id
    | 12, hi, ht => cases hi; cases ht; exact sk_id
    | 13, hi, ht => cases hi; cases ht; exact sk_id
    | 14, hi, ht => cases hi; cases ht; exact sk_id
    | 15, hi, ht => cases hi; cases ht; exact sk_id
    | 16, hi, ht => cases hi; cases ht; exact sk_id
    | 17, hi, ht => cases hi; cases ht; exact sk_id
    | 18, hi, ht => cases hi; cases ht; exact sk_id
    | 19, hi, ht => cases hi; cases ht; exact sk_id
    | 20, hi, ht => cases hi; cases ht; exact sk_id
    | 21, hi, ht => cases hi; cases ht; exact sk_id
    | 22, hi, ht => cases hi; cases ht; exact sk_id
    | 23, hi, ht => cases hi; cases ht; exact sk_id
    | 24, hi, ht => cases hi; cases ht; exact sk_id
    | 25, hi, ht => cases hi; cases ht; exact sk_id
    | 26, hi, ht => cases hi; cases ht; exact sk_id
    | 27, hi, ht => cases hi; cases ht; exact sk_id
    | 28, hi, ht => cases hi; cases ht; exact sk_id
    | 29, hi, ht => cases hi; cases ht; exact sk_id
    | 30, hi, ht => cases hi; cases ht; exact sk_id
    | 31, hi, ht => cases hi; cases ht; exact sk_id
    | 32, hi, ht => cases hi; cases ht; exact sk_id
    | 33, hi, ht => cases hi; cases ht; exact sk_id
    | 34, hi, ht => cases hi; cases ht; exact sk_id
    | 35, hi, ht => cases hi; cases ht; exact sk_id
    | 36, hi, ht => cases hi; cases ht; exact sk_id
    | 37, hi, ht => cases hi; cases ht; exact sk_id
    | 38, hi, ht => cases hi; cases ht; exact sk_id
    | 39, hi, ht => cases hi; cases ht; exact sk_id
    | i + 40, hi, ht => simp at hi))))))))))))
set_option maxRecDepth 20000 in
def kL_law_216 (g : sk_G) (d ck sk : Nat) (Q : sk_P) : sk_K := o_aload 1 (o_aload 0 (o_iload 4 (o_i (1) (o_iadd (o_iaload (o_aload 0 (o_iload 4 (o_i (2) (o_iadd (o_iaload (o_aload 0 (o_iload 4 (o_i (3) (o_iadd (o_iaload (o_aload 0 (o_iload 4 (o_i (4) (o_iadd (o_iaload (o_aload 0 (o_iload 4 (o_i (5) (o_iadd (o_iaload (o_invB (g, d, ck, sk, xL_law, Q) xX11_feed 5 11 90 8580 (o_aload 2 (o_aload 0 (o_iload 4 (o_i (1) (o_iadd (o_iaload (o_aload 0 (o_iload 4 (o_i (2) (o_iadd (o_iaload (o_aload 0 (o_iload 4 (o_i (3) (o_iadd (o_iaload (o_aload 0 (o_iload 4 (o_i (4) (o_iadd (o_iaload (o_aload 0 (o_iload 4 (o_i (5) (o_iadd (o_iaload (o_invB (g, d, ck - 90, sk - 8580, xL_law, Q) xX12_feed 5 12 0 0 (o_iceq (sk_B (g, d, ck - 90, sk - 8580, xL_law, Q) 1655) (o_i (0) (o_zret (g, d, ck - 90, sk - 8580, xL_law, Q)))))))))))))))))))))))))))))))))))))))))))))))))))))))))
set_option maxRecDepth 20000 in
theorem tL_law_216 {g : sk_G} {d ck sk : Nat} {Q : sk_P} : sk_S (g, d, ck, sk, xL_law, Q) 216 (kL_law_216 g d ck sk Q) := s_aload_n dL_law_216 rfl (s_aload_n dL_law_217 rfl (s_iload dL_law_218 (s_iconst dL_law_220 (s_iadd dL_law_221 (s_iaload dL_law_222 (s_aload_n dL_law_223 rfl (s_iload dL_law_224 (s_iconst dL_law_226 (s_iadd dL_law_227 (s_iaload dL_law_228 (s_aload_n dL_law_229 rfl (s_iload dL_law_230 (s_iconst dL_law_232 (s_iadd dL_law_233 (s_iaload dL_law_234 (s_aload_n dL_law_235 rfl (s_iload dL_law_236 (s_iconst dL_law_238 (s_iadd dL_law_239 (s_iaload dL_law_240 (s_aload_n dL_law_241 rfl (s_iload dL_law_242 (s_iconst dL_law_244 (s_iadd dL_law_245 (s_iaload dL_law_246 (s_invB (w' := (g, d, ck - 90, sk - 8580, xL_law, Q)) (ci := 11) (ck := 90) (sk := 8580) (T := TX11) (N := 17) dL_law_247 m_X11_feed rfl (by decide) qm_L_19 qi_X11_feed qe_X11_feed rfl (s_aload_n dL_law_250 rfl (s_aload_n dL_law_251 rfl (s_iload dL_law_252 (s_iconst dL_law_254 (s_iadd dL_law_255 (s_iaload dL_law_256 (s_aload_n dL_law_257 rfl (s_iload dL_law_258 (s_iconst dL_law_260 (s_iadd dL_law_261 (s_iaload dL_law_262 (s_aload_n dL_law_263 rfl (s_iload dL_law_264 (s_iconst dL_law_266 (s_iadd dL_law_267 (s_iaload dL_law_268 (s_aload_n dL_law_269 rfl (s_iload dL_law_270 (s_iconst dL_law_272 (s_iadd dL_law_273 (s_iaload dL_law_274 (s_aload_n dL_law_275 rfl (s_iload dL_law_276 (s_iconst dL_law_278 (s_iadd dL_law_279 (s_iaload dL_law_280 (s_invB (w' := (g, d, ck - 90, sk - 8580, xL_law, Q)) (ci := 12) (ck := 0) (sk := 0) (T := TX12) (N := 49) dL_law_281 m_X12_feed rfl (by decide) qm_L_23 qi_X12_feed qe_X12_feed (lw_w0 _) (s_iceq (tgt := 1655) dL_law_284 (by decide +kernel) (sk_id) (s_iconst dL_law_287 (s_zret dL_law_288 rfl))))))))))))))))))))))))))))))))))))))))))))))))))))))))
set_option maxRecDepth 20000 in
def kL_law_289 (g : sk_G) (d ck sk : Nat) (Q : sk_P) : sk_K := o_aload 1 (o_aload 0 (o_iload 4 (o_i (1) (o_iadd (o_iaload (o_invB (g, d, ck, sk, xL_law, Q) xX11_end 1 11 90 8580 (o_aload 2 (o_aload 0 (o_iload 4 (o_i (1) (o_iadd (o_iaload (o_invB (g, d, ck - 90, sk - 8580, xL_law, Q) xX12_end 1 12 0 0 (o_iceq (sk_B (g, d, ck - 90, sk - 8580, xL_law, Q) 1655) (o_i (0) (o_zret (g, d, ck - 90, sk - 8580, xL_law, Q)))))))))))))))))
set_option maxRecDepth 20000 in
theorem tL_law_289 {g : sk_G} {d ck sk : Nat} {Q : sk_P} : sk_S (g, d, ck, sk, xL_law, Q) 289 (kL_law_289 g d ck sk Q) := s_aload_n dL_law_289 rfl (s_aload_n dL_law_290 rfl (s_iload dL_law_291 (s_iconst dL_law_293 (s_iadd dL_law_294 (s_iaload dL_law_295 (s_invB (w' := (g, d, ck - 90, sk - 8580, xL_law, Q)) (ci := 11) (ck := 90) (sk := 8580) (T := TX11) (N := 17) dL_law_296 m_X11_end rfl (by decide) qm_L_24 qi_X11_end qe_X11_end rfl (s_aload_n dL_law_299 rfl (s_aload_n dL_law_300 rfl (s_iload dL_law_301 (s_iconst dL_law_303 (s_iadd dL_law_304 (s_iaload dL_law_305 (s_invB (w' := (g, d, ck - 90, sk - 8580, xL_law, Q)) (ci := 12) (ck := 0) (sk := 0) (T := TX12) (N := 49) dL_law_306 m_X12_end rfl (by decide) qm_L_28 qi_X12_end qe_X12_end (lw_w0 _) (s_iceq (tgt := 1655) dL_law_309 (by decide +kernel) (sk_id) (s_iconst dL_law_312 (s_zret dL_law_313 rfl))))))))))))))))
set_option maxRecDepth 20000 in
def kL_law_314 (g : sk_G) (d ck sk : Nat) (Q : sk_P) : sk_K := o_aload 1 (o_aload 0 (o_iload 4 (o_i (1) (o_iadd (o_iaload (o_invB (g, d, ck, sk, xL_law, Q) xX11_fault 1 11 90 8580 (o_aload 2 (o_aload 0 (o_iload 4 (o_i (1) (o_iadd (o_iaload (o_invB (g, d, ck - 90, sk - 8580, xL_law, Q) xX12_fault 1 12 0 0 (o_iceq (sk_B (g, d, ck - 90, sk - 8580, xL_law, Q) 1655) (o_i (0) (o_zret (g, d, ck - 90, sk - 8580, xL_law, Q)))))))))))))))))
set_option maxRecDepth 20000 in
theorem tL_law_314 {g : sk_G} {d ck sk : Nat} {Q : sk_P} : sk_S (g, d, ck, sk, xL_law, Q) 314 (kL_law_314 g d ck sk Q) := s_aload_n dL_law_314 rfl (s_aload_n dL_law_315 rfl (s_iload dL_law_316 (s_iconst dL_law_318 (s_iadd dL_law_319 (s_iaload dL_law_320 (s_invB (w' := (g, d, ck - 90, sk - 8580, xL_law, Q)) (ci := 11) (ck := 90) (sk := 8580) (T := TX11) (N := 17) dL_law_321 m_X11_fault rfl (by decide) qm_L_29 qi_X11_fault qe_X11_fault rfl (s_aload_n dL_law_324 rfl (s_aload_n dL_law_325 rfl (s_iload dL_law_326 (s_iconst dL_law_328 (s_iadd dL_law_329 (s_iaload dL_law_330 (s_invB (w' := (g, d, ck - 90, sk - 8580, xL_law, Q)) (ci := 12) (ck := 0) (sk := 0) (T := TX12) (N := 49) dL_law_331 m_X12_fault rfl (by decide) qm_L_33 qi_X12_fault qe_X12_fault (lw_w0 _) (s_iceq (tgt := 1655) dL_law_334 (by decide +kernel) (sk_id) (s_iconst dL_law_337 (s_zret dL_law_338 rfl))))))))))))))))
set_option maxRecDepth 20000 in
def kL_law_339 (g : sk_G) (d ck sk : Nat) (Q : sk_P) : sk_K := o_aload 1 (o_aload 0 (o_iload 4 (o_i (1) (o_iadd (o_iaload (o_invB (g, d, ck, sk, xL_law, Q) xX11_text 1 11 90 8580 (o_aload 2 (o_aload 0 (o_iload 4 (o_i (1) (o_iadd (o_iaload (o_invB (g, d, ck - 90, sk - 8580, xL_law, Q) xX12_text 1 12 0 0 (o_iceq (sk_B (g, d, ck - 90, sk - 8580, xL_law, Q) 1655) (o_i (0) (o_zret (g, d, ck - 90, sk - 8580, xL_law, Q)))))))))))))))))
set_option maxRecDepth 20000 in
theorem tL_law_339 {g : sk_G} {d ck sk : Nat} {Q : sk_P} : sk_S (g, d, ck, sk, xL_law, Q) 339 (kL_law_339 g d ck sk Q) := s_aload_n dL_law_339 rfl (s_aload_n dL_law_340 rfl (s_iload dL_law_341 (s_iconst dL_law_343 (s_iadd dL_law_344 (s_iaload dL_law_345 (s_invB (w' := (g, d, ck - 90, sk - 8580, xL_law, Q)) (ci := 11) (ck := 90) (sk := 8580) (T := TX11) (N := 17) dL_law_346 m_X11_text rfl (by decide) qm_L_34 qi_X11_text qe_X11_text rfl (s_aload_n dL_law_349 rfl (s_aload_n dL_law_350 rfl (s_iload dL_law_351 (s_iconst dL_law_353 (s_iadd dL_law_354 (s_iaload dL_law_355 (s_invB (w' := (g, d, ck - 90, sk - 8580, xL_law, Q)) (ci := 12) (ck := 0) (sk := 0) (T := TX12) (N := 49) dL_law_356 m_X12_text rfl (by decide) qm_L_37 qi_X12_text qe_X12_text (lw_w0 _) (s_iceq (tgt := 1655) dL_law_359 (by decide +kernel) (sk_id) (s_iconst dL_law_362 (s_zret dL_law_363 rfl))))))))))))))))
set_option maxRecDepth 20000 in
def kL_law_364 (g : sk_G) (d ck sk : Nat) (Q : sk_P) : sk_K := o_aload 1 (o_aload 0 (o_iload 4 (o_i (1) (o_iadd (o_iaload (o_invB (g, d, ck, sk, xL_law, Q) xX11_rule 1 11 90 8580 (o_aload 2 (o_aload 0 (o_iload 4 (o_i (1) (o_iadd (o_iaload (o_invB (g, d, ck - 90, sk - 8580, xL_law, Q) xX12_rule 1 12 0 0 (o_iceq (sk_B (g, d, ck - 90, sk - 8580, xL_law, Q) 1655) (o_i (0) (o_zret (g, d, ck - 90, sk - 8580, xL_law, Q)))))))))))))))))
set_option maxRecDepth 20000 in
theorem tL_law_364 {g : sk_G} {d ck sk : Nat} {Q : sk_P} : sk_S (g, d, ck, sk, xL_law, Q) 364 (kL_law_364 g d ck sk Q) := s_aload_n dL_law_364 rfl (s_aload_n dL_law_365 rfl (s_iload dL_law_366 (s_iconst dL_law_368 (s_iadd dL_law_369 (s_iaload dL_law_370 (s_invB (w' := (g, d, ck - 90, sk - 8580, xL_law, Q)) (ci := 11) (ck := 90) (sk := 8580) (T := TX11) (N := 17) dL_law_371 m_X11_rule rfl (by decide) qm_L_38 qi_X11_rule qe_X11_rule rfl (s_aload_n dL_law_374 rfl (s_aload_n dL_law_375 rfl (s_iload dL_law_376 (s_iconst dL_law_378 (s_iadd dL_law_379 (s_iaload dL_law_380 (s_invB (w' := (g, d, ck - 90, sk - 8580, xL_law, Q)) (ci := 12) (ck := 0) (sk := 0) (T := TX12) (N := 49) dL_law_381 m_X12_rule rfl (by decide) qm_L_41 qi_X12_rule qe_X12_rule (lw_w0 _) (s_iceq (tgt := 1655) dL_law_384 (by decide +kernel) (sk_id) (s_iconst dL_law_387 (s_zret dL_law_388 rfl))))))))))))))))
set_option maxRecDepth 20000 in
def kL_law_389 (g : sk_G) (d ck sk : Nat) (Q : sk_P) : sk_K := o_aload 1 (o_aload 0 (o_iload 4 (o_i (1) (o_iadd (o_iaload (o_aload 0 (o_iload 4 (o_i (2) (o_iadd (o_iaload (o_aload 3 (o_hnd (g, d, ck, sk, xL_law, Q) 90 8580 (o_istore 5 (o_aload 2 (o_aload 0 (o_iload 4 (o_i (1) (o_iadd (o_iaload (o_aload 0 (o_iload 4 (o_i (2) (o_iadd (o_iaload (o_invB (g, d, ck - 90, sk - 8580, xL_law, Q) xX12_hand 2 12 0 0 (o_istore 6 (o_aload 2 (o_invB (g, d, ck - 90, sk - 8580, xL_law, Q) xX12_thrown 0 12 0 0 (o_iload 5 (o_iceq (o_iload 5 (o_ifne (sk_B (g, d, ck - 90, sk - 8580, xL_law, Q) 1655) (o_aload 3 (o_i (0) (o_laload (o_iload 6 (o_i2l (o_lcmp (o_ifeq (sk_B (g, d, ck - 90, sk - 8580, xL_law, Q) 1655) (o_i (0) (o_zret (g, d, ck - 90, sk - 8580, xL_law, Q)))))))))))) (o_i (0) (o_zret (g, d, ck - 90, sk - 8580, xL_law, Q)))))))))))))))))))))))))))))))))
set_option maxRecDepth 20000 in
theorem tL_law_389 {g : sk_G} {d ck sk : Nat} {Q : sk_P} : sk_S (g, d, ck, sk, xL_law, Q) 389 (kL_law_389 g d ck sk Q) := s_aload_n dL_law_389 rfl (s_aload_n dL_law_390 rfl (s_iload dL_law_391 (s_iconst dL_law_393 (s_iadd dL_law_394 (s_iaload dL_law_395 (s_aload_n dL_law_396 rfl (s_iload dL_law_397 (s_iconst dL_law_399 (s_iadd dL_law_400 (s_iaload dL_law_401 (s_aload_n dL_law_402 rfl (s_hnd (w' := (g, d, ck - 90, sk - 8580, xL_law, Q)) (ck := 90) (sk := 8580) dL_law_403 qm_L_42 rfl (s_istore dL_law_406 (by decide : 5 < 7) (s_aload_n dL_law_408 rfl (s_aload_n dL_law_409 rfl (s_iload dL_law_410 (s_iconst dL_law_412 (s_iadd dL_law_413 (s_iaload dL_law_414 (s_aload_n dL_law_415 rfl (s_iload dL_law_416 (s_iconst dL_law_418 (s_iadd dL_law_419 (s_iaload dL_law_420 (s_invB (w' := (g, d, ck - 90, sk - 8580, xL_law, Q)) (ci := 12) (ck := 0) (sk := 0) (T := TX12) (N := 49) dL_law_421 m_X12_hand rfl (by decide) qm_L_47 qi_X12_hand qe_X12_hand (lw_w0 _) (s_istore dL_law_424 (by decide : 6 < 7) (s_aload_n dL_law_426 rfl (s_invB (w' := (g, d, ck - 90, sk - 8580, xL_law, Q)) (ci := 12) (ck := 0) (sk := 0) (T := TX12) (N := 49) dL_law_427 m_X12_thrown rfl (by decide) qm_L_48 qi_X12_thrown qe_X12_thrown (lw_w0 _) (s_iload dL_law_430 (s_iceq (tgt := 437) dL_law_432 (by decide +kernel) (s_iload dL_law_437 (s_ifne (tgt := 454) dL_law_439 (by decide +kernel) (s_goto (tgt := 1655) dL_law_454 (by decide +kernel) (sk_id)) (s_aload_n dL_law_442 rfl (s_iconst dL_law_443 (s_laload dL_law_444 (s_iload dL_law_445 (s_i2l dL_law_447 (s_lcmp dL_law_448 (s_ifeq (tgt := 454) dL_law_449 (by decide +kernel) (s_goto (tgt := 1655) dL_law_454 (by decide +kernel) (sk_id)) (s_iconst dL_law_452 (s_zret dL_law_453 rfl))))))))))) (s_iconst dL_law_435 (s_zret dL_law_436 rfl))))))))))))))))))))))))))))))))
set_option maxRecDepth 20000 in
def kL_law_457 (g : sk_G) (d ck sk : Nat) (Q : sk_P) : sk_K := o_aload 1 (o_aload 0 (o_iload 4 (o_i (1) (o_iadd (o_iaload (o_aload 0 (o_iload 4 (o_i (2) (o_iadd (o_iaload (o_aload 0 (o_iload 4 (o_i (3) (o_iadd (o_iaload (o_invB (g, d, ck, sk, xL_law, Q) xX11_sign 3 11 90 8580 (o_aload 2 (o_aload 0 (o_iload 4 (o_i (1) (o_iadd (o_iaload (o_aload 0 (o_iload 4 (o_i (2) (o_iadd (o_iaload (o_aload 0 (o_iload 4 (o_i (3) (o_iadd (o_iaload (o_invB (g, d, ck - 90, sk - 8580, xL_law, Q) xX12_sign 3 12 0 0 (o_iceq (sk_B (g, d, ck - 90, sk - 8580, xL_law, Q) 1655) (o_i (0) (o_zret (g, d, ck - 90, sk - 8580, xL_law, Q)))))))))))))))))))))))))))))))))))))
set_option maxRecDepth 20000 in
theorem tL_law_457 {g : sk_G} {d ck sk : Nat} {Q : sk_P} : sk_S (g, d, ck, sk, xL_law, Q) 457 (kL_law_457 g d ck sk Q) := s_aload_n dL_law_457 rfl (s_aload_n dL_law_458 rfl (s_iload dL_law_459 (s_iconst dL_law_461 (s_iadd dL_law_462 (s_iaload dL_law_463 (s_aload_n dL_law_464 rfl (s_iload dL_law_465 (s_iconst dL_law_467 (s_iadd dL_law_468 (s_iaload dL_law_469 (s_aload_n dL_law_470 rfl (s_iload dL_law_471 (s_iconst dL_law_473 (s_iadd dL_law_474 (s_iaload dL_law_475 (s_invB (w' := (g, d, ck - 90, sk - 8580, xL_law, Q)) (ci := 11) (ck := 90) (sk := 8580) (T := TX11) (N := 17) dL_law_476 m_X11_sign rfl (by decide) qm_L_52 qi_X11_sign qe_X11_sign rfl (s_aload_n dL_law_479 rfl (s_aload_n dL_law_480 rfl (s_iload dL_law_481 (s_iconst dL_law_483 (s_iadd dL_law_484 (s_iaload dL_law_485 (s_aload_n dL_law_486 rfl (s_iload dL_law_487 (s_iconst dL_law_489 (s_iadd dL_law_490 (s_iaload dL_law_491 (s_aload_n dL_law_492 rfl (s_iload dL_law_493 (s_iconst dL_law_495 (s_iadd dL_law_496 (s_iaload dL_law_497 (s_invB (w' := (g, d, ck - 90, sk - 8580, xL_law, Q)) (ci := 12) (ck := 0) (sk := 0) (T := TX12) (N := 49) dL_law_498 m_X12_sign rfl (by decide) qm_L_56 qi_X12_sign qe_X12_sign (lw_w0 _) (s_iceq (tgt := 1655) dL_law_501 (by decide +kernel) (sk_id) (s_iconst dL_law_504 (s_zret dL_law_505 rfl))))))))))))))))))))))))))))))))))))
set_option maxRecDepth 20000 in
def kL_law_506 (g : sk_G) (d ck sk : Nat) (Q : sk_P) : sk_K := o_aload 1 (o_aload 0 (o_iload 4 (o_i (1) (o_iadd (o_iaload (o_aload 0 (o_iload 4 (o_i (2) (o_iadd (o_iaload (o_aload 0 (o_iload 4 (o_i (3) (o_iadd (o_iaload (o_invB (g, d, ck, sk, xL_law, Q) xX11_layer 3 11 90 8580 (o_aload 2 (o_aload 0 (o_iload 4 (o_i (1) (o_iadd (o_iaload (o_aload 0 (o_iload 4 (o_i (2) (o_iadd (o_iaload (o_aload 0 (o_iload 4 (o_i (3) (o_iadd (o_iaload (o_invB (g, d, ck - 90, sk - 8580, xL_law, Q) xX12_layer 3 12 0 0 (o_iceq (sk_B (g, d, ck - 90, sk - 8580, xL_law, Q) 1655) (o_i (0) (o_zret (g, d, ck - 90, sk - 8580, xL_law, Q)))))))))))))))))))))))))))))))))))))
set_option maxRecDepth 20000 in
theorem tL_law_506 {g : sk_G} {d ck sk : Nat} {Q : sk_P} : sk_S (g, d, ck, sk, xL_law, Q) 506 (kL_law_506 g d ck sk Q) := s_aload_n dL_law_506 rfl (s_aload_n dL_law_507 rfl (s_iload dL_law_508 (s_iconst dL_law_510 (s_iadd dL_law_511 (s_iaload dL_law_512 (s_aload_n dL_law_513 rfl (s_iload dL_law_514 (s_iconst dL_law_516 (s_iadd dL_law_517 (s_iaload dL_law_518 (s_aload_n dL_law_519 rfl (s_iload dL_law_520 (s_iconst dL_law_522 (s_iadd dL_law_523 (s_iaload dL_law_524 (s_invB (w' := (g, d, ck - 90, sk - 8580, xL_law, Q)) (ci := 11) (ck := 90) (sk := 8580) (T := TX11) (N := 17) dL_law_525 m_X11_layer rfl (by decide) qm_L_57 qi_X11_layer qe_X11_layer rfl (s_aload_n dL_law_528 rfl (s_aload_n dL_law_529 rfl (s_iload dL_law_530 (s_iconst dL_law_532 (s_iadd dL_law_533 (s_iaload dL_law_534 (s_aload_n dL_law_535 rfl (s_iload dL_law_536 (s_iconst dL_law_538 (s_iadd dL_law_539 (s_iaload dL_law_540 (s_aload_n dL_law_541 rfl (s_iload dL_law_542 (s_iconst dL_law_544 (s_iadd dL_law_545 (s_iaload dL_law_546 (s_invB (w' := (g, d, ck - 90, sk - 8580, xL_law, Q)) (ci := 12) (ck := 0) (sk := 0) (T := TX12) (N := 49) dL_law_547 m_X12_layer rfl (by decide) qm_L_60 qi_X12_layer qe_X12_layer (lw_w0 _) (s_iceq (tgt := 1655) dL_law_550 (by decide +kernel) (sk_id) (s_iconst dL_law_553 (s_zret dL_law_554 rfl))))))))))))))))))))))))))))))))))))
set_option maxRecDepth 20000 in
def kL_law_555 (g : sk_G) (d ck sk : Nat) (Q : sk_P) : sk_K := o_aload 1 (o_aload 0 (o_iload 4 (o_i (1) (o_iadd (o_iaload (o_invB (g, d, ck, sk, xL_law, Q) xX11_law 1 11 90 8580 (o_aload 2 (o_aload 0 (o_iload 4 (o_i (1) (o_iadd (o_iaload (o_invB (g, d, ck - 90, sk - 8580, xL_law, Q) xX12_law 1 12 0 0 (o_iceq (sk_B (g, d, ck - 90, sk - 8580, xL_law, Q) 1655) (o_i (0) (o_zret (g, d, ck - 90, sk - 8580, xL_law, Q)))))))))))))))))
set_option maxRecDepth 20000 in
theorem tL_law_555 {g : sk_G} {d ck sk : Nat} {Q : sk_P} : sk_S (g, d, ck, sk, xL_law, Q) 555 (kL_law_555 g d ck sk Q) := s_aload_n dL_law_555 rfl (s_aload_n dL_law_556 rfl (s_iload dL_law_557 (s_iconst dL_law_559 (s_iadd dL_law_560 (s_iaload dL_law_561 (s_invB (w' := (g, d, ck - 90, sk - 8580, xL_law, Q)) (ci := 11) (ck := 90) (sk := 8580) (T := TX11) (N := 17) dL_law_562 m_X11_law rfl (by decide) qm_L_61 qi_X11_law qe_X11_law rfl (s_aload_n dL_law_565 rfl (s_aload_n dL_law_566 rfl (s_iload dL_law_567 (s_iconst dL_law_569 (s_iadd dL_law_570 (s_iaload dL_law_571 (s_invB (w' := (g, d, ck - 90, sk - 8580, xL_law, Q)) (ci := 12) (ck := 0) (sk := 0) (T := TX12) (N := 49) dL_law_572 m_X12_law rfl (by decide) qm_L_64 qi_X12_law qe_X12_law (lw_w0 _) (s_iceq (tgt := 1655) dL_law_575 (by decide +kernel) (sk_id) (s_iconst dL_law_578 (s_zret dL_law_579 rfl))))))))))))))))
set_option maxRecDepth 20000 in
def kL_law_580 (g : sk_G) (d ck sk : Nat) (Q : sk_P) : sk_K := o_aload 1 (o_aload 0 (o_iload 4 (o_i (1) (o_iadd (o_iaload (o_invB (g, d, ck, sk, xL_law, Q) xX11_scribes 1 11 90 8580 (o_aload 2 (o_aload 0 (o_iload 4 (o_i (1) (o_iadd (o_iaload (o_invB (g, d, ck - 90, sk - 8580, xL_law, Q) xX12_scribes 1 12 0 0 (o_iceq (sk_B (g, d, ck - 90, sk - 8580, xL_law, Q) 1655) (o_i (0) (o_zret (g, d, ck - 90, sk - 8580, xL_law, Q)))))))))))))))))
set_option maxRecDepth 20000 in
theorem tL_law_580 {g : sk_G} {d ck sk : Nat} {Q : sk_P} : sk_S (g, d, ck, sk, xL_law, Q) 580 (kL_law_580 g d ck sk Q) := s_aload_n dL_law_580 rfl (s_aload_n dL_law_581 rfl (s_iload dL_law_582 (s_iconst dL_law_584 (s_iadd dL_law_585 (s_iaload dL_law_586 (s_invB (w' := (g, d, ck - 90, sk - 8580, xL_law, Q)) (ci := 11) (ck := 90) (sk := 8580) (T := TX11) (N := 17) dL_law_587 m_X11_scribes rfl (by decide) qm_L_65 qi_X11_scribes qe_X11_scribes rfl (s_aload_n dL_law_590 rfl (s_aload_n dL_law_591 rfl (s_iload dL_law_592 (s_iconst dL_law_594 (s_iadd dL_law_595 (s_iaload dL_law_596 (s_invB (w' := (g, d, ck - 90, sk - 8580, xL_law, Q)) (ci := 12) (ck := 0) (sk := 0) (T := TX12) (N := 49) dL_law_597 m_X12_scribes rfl (by decide) qm_L_68 qi_X12_scribes qe_X12_scribes (lw_w0 _) (s_iceq (tgt := 1655) dL_law_600 (by decide +kernel) (sk_id) (s_iconst dL_law_603 (s_zret dL_law_604 rfl))))))))))))))))
set_option maxRecDepth 20000 in
def kL_law_605 (g : sk_G) (d ck sk : Nat) (Q : sk_P) : sk_K := o_aload 1 (o_aload 0 (o_iload 4 (o_i (1) (o_iadd (o_iaload (o_aload 0 (o_iload 4 (o_i (2) (o_iadd (o_iaload (o_aload 0 (o_iload 4 (o_i (3) (o_iadd (o_iaload (o_aload 0 (o_iload 4 (o_i (4) (o_iadd (o_iaload (o_invB (g, d, ck, sk, xL_law, Q) xX11_write 4 11 90 8580 (o_aload 2 (o_aload 0 (o_iload 4 (o_i (1) (o_iadd (o_iaload (o_aload 0 (o_iload 4 (o_i (2) (o_iadd (o_iaload (o_aload 0 (o_iload 4 (o_i (3) (o_iadd (o_iaload (o_aload 0 (o_iload 4 (o_i (4) (o_iadd (o_iaload (o_invB (g, d, ck - 90, sk - 8580, xL_law, Q) xX12_write 4 12 0 0 (o_iceq (sk_B (g, d, ck - 90, sk - 8580, xL_law, Q) 1655) (o_i (0) (o_zret (g, d, ck - 90, sk - 8580, xL_law, Q)))))))))))))))))))))))))))))))))))))))))))))))
set_option maxRecDepth 20000 in
theorem tL_law_605 {g : sk_G} {d ck sk : Nat} {Q : sk_P} : sk_S (g, d, ck, sk, xL_law, Q) 605 (kL_law_605 g d ck sk Q) := s_aload_n dL_law_605 rfl (s_aload_n dL_law_606 rfl (s_iload dL_law_607 (s_iconst dL_law_609 (s_iadd dL_law_610 (s_iaload dL_law_611 (s_aload_n dL_law_612 rfl (s_iload dL_law_613 (s_iconst dL_law_615 (s_iadd dL_law_616 (s_iaload dL_law_617 (s_aload_n dL_law_618 rfl (s_iload dL_law_619 (s_iconst dL_law_621 (s_iadd dL_law_622 (s_iaload dL_law_623 (s_aload_n dL_law_624 rfl (s_iload dL_law_625 (s_iconst dL_law_627 (s_iadd dL_law_628 (s_iaload dL_law_629 (s_invB (w' := (g, d, ck - 90, sk - 8580, xL_law, Q)) (ci := 11) (ck := 90) (sk := 8580) (T := TX11) (N := 17) dL_law_630 m_X11_write rfl (by decide) qm_L_69 qi_X11_write qe_X11_write rfl (s_aload_n dL_law_633 rfl (s_aload_n dL_law_634 rfl (s_iload dL_law_635 (s_iconst dL_law_637 (s_iadd dL_law_638 (s_iaload dL_law_639 (s_aload_n dL_law_640 rfl (s_iload dL_law_641 (s_iconst dL_law_643 (s_iadd dL_law_644 (s_iaload dL_law_645 (s_aload_n dL_law_646 rfl (s_iload dL_law_647 (s_iconst dL_law_649 (s_iadd dL_law_650 (s_iaload dL_law_651 (s_aload_n dL_law_652 rfl (s_iload dL_law_653 (s_iconst dL_law_655 (s_iadd dL_law_656 (s_iaload dL_law_657 (s_invB (w' := (g, d, ck - 90, sk - 8580, xL_law, Q)) (ci := 12) (ck := 0) (sk := 0) (T := TX12) (N := 49) dL_law_658 m_X12_write rfl (by decide) qm_L_73 qi_X12_write qe_X12_write (lw_w0 _) (s_iceq (tgt := 1655) dL_law_661 (by decide +kernel) (sk_id) (s_iconst dL_law_664 (s_zret dL_law_665 rfl))))))))))))))))))))))))))))))))))))))))))))))
set_option maxRecDepth 20000 in
def kL_law_666 (g : sk_G) (d ck sk : Nat) (Q : sk_P) : sk_K := o_aload 1 (o_aload 0 (o_iload 4 (o_i (1) (o_iadd (o_iaload (o_aload 0 (o_iload 4 (o_i (2) (o_iadd (o_iaload (o_invB (g, d, ck, sk, xL_law, Q) xX11_scrape 2 11 90 8580 (o_aload 2 (o_aload 0 (o_iload 4 (o_i (1) (o_iadd (o_iaload (o_aload 0 (o_iload 4 (o_i (2) (o_iadd (o_iaload (o_invB (g, d, ck - 90, sk - 8580, xL_law, Q) xX12_scrape 2 12 0 0 (o_iceq (sk_B (g, d, ck - 90, sk - 8580, xL_law, Q) 1655) (o_i (0) (o_zret (g, d, ck - 90, sk - 8580, xL_law, Q)))))))))))))))))))))))))))
set_option maxRecDepth 20000 in
theorem tL_law_666 {g : sk_G} {d ck sk : Nat} {Q : sk_P} : sk_S (g, d, ck, sk, xL_law, Q) 666 (kL_law_666 g d ck sk Q) := s_aload_n dL_law_666 rfl (s_aload_n dL_law_667 rfl (s_iload dL_law_668 (s_iconst dL_law_670 (s_iadd dL_law_671 (s_iaload dL_law_672 (s_aload_n dL_law_673 rfl (s_iload dL_law_674 (s_iconst dL_law_676 (s_iadd dL_law_677 (s_iaload dL_law_678 (s_invB (w' := (g, d, ck - 90, sk - 8580, xL_law, Q)) (ci := 11) (ck := 90) (sk := 8580) (T := TX11) (N := 17) dL_law_679 m_X11_scrape rfl (by decide) qm_L_74 qi_X11_scrape qe_X11_scrape rfl (s_aload_n dL_law_682 rfl (s_aload_n dL_law_683 rfl (s_iload dL_law_684 (s_iconst dL_law_686 (s_iadd dL_law_687 (s_iaload dL_law_688 (s_aload_n dL_law_689 rfl (s_iload dL_law_690 (s_iconst dL_law_692 (s_iadd dL_law_693 (s_iaload dL_law_694 (s_invB (w' := (g, d, ck - 90, sk - 8580, xL_law, Q)) (ci := 12) (ck := 0) (sk := 0) (T := TX12) (N := 49) dL_law_695 m_X12_scrape rfl (by decide) qm_L_77 qi_X12_scrape qe_X12_scrape (lw_w0 _) (s_iceq (tgt := 1655) dL_law_698 (by decide +kernel) (sk_id) (s_iconst dL_law_701 (s_zret dL_law_702 rfl))))))))))))))))))))))))))
set_option maxRecDepth 20000 in
def kL_law_703 (g : sk_G) (d ck sk : Nat) (Q : sk_P) : sk_K := o_aload 1 (o_aload 0 (o_iload 4 (o_i (1) (o_iadd (o_iaload (o_invB (g, d, ck, sk, xL_law, Q) xX11_ages 1 11 90 8580 (o_aload 2 (o_aload 0 (o_iload 4 (o_i (1) (o_iadd (o_iaload (o_invB (g, d, ck - 90, sk - 8580, xL_law, Q) xX12_ages 1 12 0 0 (o_iceq (sk_B (g, d, ck - 90, sk - 8580, xL_law, Q) 1655) (o_i (0) (o_zret (g, d, ck - 90, sk - 8580, xL_law, Q)))))))))))))))))
set_option maxRecDepth 20000 in
theorem tL_law_703 {g : sk_G} {d ck sk : Nat} {Q : sk_P} : sk_S (g, d, ck, sk, xL_law, Q) 703 (kL_law_703 g d ck sk Q) := s_aload_n dL_law_703 rfl (s_aload_n dL_law_704 rfl (s_iload dL_law_705 (s_iconst dL_law_707 (s_iadd dL_law_708 (s_iaload dL_law_709 (s_invB (w' := (g, d, ck - 90, sk - 8580, xL_law, Q)) (ci := 11) (ck := 90) (sk := 8580) (T := TX11) (N := 17) dL_law_710 m_X11_ages rfl (by decide) qm_L_78 qi_X11_ages qe_X11_ages rfl (s_aload_n dL_law_713 rfl (s_aload_n dL_law_714 rfl (s_iload dL_law_715 (s_iconst dL_law_717 (s_iadd dL_law_718 (s_iaload dL_law_719 (s_invB (w' := (g, d, ck - 90, sk - 8580, xL_law, Q)) (ci := 12) (ck := 0) (sk := 0) (T := TX12) (N := 49) dL_law_720 m_X12_ages rfl (by decide) qm_L_81 qi_X12_ages qe_X12_ages (lw_w0 _) (s_iceq (tgt := 1655) dL_law_723 (by decide +kernel) (sk_id) (s_iconst dL_law_726 (s_zret dL_law_727 rfl))))))))))))))))
set_option maxRecDepth 20000 in
def kL_law_728 (g : sk_G) (d ck sk : Nat) (Q : sk_P) : sk_K := o_aload 1 (o_aload 0 (o_iload 4 (o_i (1) (o_iadd (o_iaload (o_invB (g, d, ck, sk, xL_law, Q) xX11_give 1 11 90 8580 (o_aload 2 (o_aload 0 (o_iload 4 (o_i (1) (o_iadd (o_iaload (o_invB (g, d, ck - 90, sk - 8580, xL_law, Q) xX12_give 1 12 0 0 (o_iceq (sk_B (g, d, ck - 90, sk - 8580, xL_law, Q) 1655) (o_i (0) (o_zret (g, d, ck - 90, sk - 8580, xL_law, Q)))))))))))))))))
set_option maxRecDepth 20000 in
theorem tL_law_728 {g : sk_G} {d ck sk : Nat} {Q : sk_P} : sk_S (g, d, ck, sk, xL_law, Q) 728 (kL_law_728 g d ck sk Q) := s_aload_n dL_law_728 rfl (s_aload_n dL_law_729 rfl (s_iload dL_law_730 (s_iconst dL_law_732 (s_iadd dL_law_733 (s_iaload dL_law_734 (s_invB (w' := (g, d, ck - 90, sk - 8580, xL_law, Q)) (ci := 11) (ck := 90) (sk := 8580) (T := TX11) (N := 17) dL_law_735 m_X11_give rfl (by decide) qm_L_82 qi_X11_give qe_X11_give rfl (s_aload_n dL_law_738 rfl (s_aload_n dL_law_739 rfl (s_iload dL_law_740 (s_iconst dL_law_742 (s_iadd dL_law_743 (s_iaload dL_law_744 (s_invB (w' := (g, d, ck - 90, sk - 8580, xL_law, Q)) (ci := 12) (ck := 0) (sk := 0) (T := TX12) (N := 49) dL_law_745 m_X12_give rfl (by decide) qm_L_85 qi_X12_give qe_X12_give (lw_w0 _) (s_iceq (tgt := 1655) dL_law_748 (by decide +kernel) (sk_id) (s_iconst dL_law_751 (s_zret dL_law_752 rfl))))))))))))))))
set_option maxRecDepth 20000 in
def kL_law_753 (g : sk_G) (d ck sk : Nat) (Q : sk_P) : sk_K := o_aload 1 (o_aload 0 (o_iload 4 (o_i (1) (o_iadd (o_iaload (o_aload 0 (o_iload 4 (o_i (2) (o_iadd (o_iaload (o_i2l (o_i (32) (o_lshl (o_aload 0 (o_iload 4 (o_i (3) (o_iadd (o_iaload (o_i2l (o_l (4294967295) (o_land (o_lor (o_invB (g, d, ck, sk, xL_law, Q) xX11_years 2 11 90 8580 (o_aload 2 (o_aload 0 (o_iload 4 (o_i (1) (o_iadd (o_iaload (o_aload 0 (o_iload 4 (o_i (2) (o_iadd (o_iaload (o_i2l (o_i (32) (o_lshl (o_aload 0 (o_iload 4 (o_i (3) (o_iadd (o_iaload (o_i2l (o_l (4294967295) (o_land (o_lor (o_invB (g, d, ck - 90, sk - 8580, xL_law, Q) xX12_years 2 12 0 0 (o_iceq (sk_B (g, d, ck - 90, sk - 8580, xL_law, Q) 1655) (o_i (0) (o_zret (g, d, ck - 90, sk - 8580, xL_law, Q)))))))))))))))))))))))))))))))))))))))))))))))))))
set_option maxRecDepth 20000 in
theorem tL_law_753 {g : sk_G} {d ck sk : Nat} {Q : sk_P} : sk_S (g, d, ck, sk, xL_law, Q) 753 (kL_law_753 g d ck sk Q) := s_aload_n dL_law_753 rfl (s_aload_n dL_law_754 rfl (s_iload dL_law_755 (s_iconst dL_law_757 (s_iadd dL_law_758 (s_iaload dL_law_759 (s_aload_n dL_law_760 rfl (s_iload dL_law_761 (s_iconst dL_law_763 (s_iadd dL_law_764 (s_iaload dL_law_765 (s_i2l dL_law_766 (s_bipush dL_law_767 rfl (s_lshl dL_law_769 (s_aload_n dL_law_770 rfl (s_iload dL_law_771 (s_iconst dL_law_773 (s_iadd dL_law_774 (s_iaload dL_law_775 (s_i2l dL_law_776 (s_ldc2 dL_law_777 qk_L_86 rfl (s_land dL_law_780 (s_lor dL_law_781 (s_invB (w' := (g, d, ck - 90, sk - 8580, xL_law, Q)) (ci := 11) (ck := 90) (sk := 8580) (T := TX11) (N := 17) dL_law_782 m_X11_years rfl (by decide) qm_L_88 qi_X11_years qe_X11_years rfl (s_aload_n dL_law_785 rfl (s_aload_n dL_law_786 rfl (s_iload dL_law_787 (s_iconst dL_law_789 (s_iadd dL_law_790 (s_iaload dL_law_791 (s_aload_n dL_law_792 rfl (s_iload dL_law_793 (s_iconst dL_law_795 (s_iadd dL_law_796 (s_iaload dL_law_797 (s_i2l dL_law_798 (s_bipush dL_law_799 rfl (s_lshl dL_law_801 (s_aload_n dL_law_802 rfl (s_iload dL_law_803 (s_iconst dL_law_805 (s_iadd dL_law_806 (s_iaload dL_law_807 (s_i2l dL_law_808 (s_ldc2 dL_law_809 qk_L_86 rfl (s_land dL_law_812 (s_lor dL_law_813 (s_invB (w' := (g, d, ck - 90, sk - 8580, xL_law, Q)) (ci := 12) (ck := 0) (sk := 0) (T := TX12) (N := 49) dL_law_814 m_X12_years rfl (by decide) qm_L_92 qi_X12_years qe_X12_years (lw_w0 _) (s_iceq (tgt := 1655) dL_law_817 (by decide +kernel) (sk_id) (s_iconst dL_law_820 (s_zret dL_law_821 rfl))))))))))))))))))))))))))))))))))))))))))))))))))
set_option maxRecDepth 20000 in
def kL_law_822 (g : sk_G) (d ck sk : Nat) (Q : sk_P) : sk_K := o_aload 1 (o_aload 0 (o_iload 4 (o_i (1) (o_iadd (o_iaload (o_invB (g, d, ck, sk, xL_law, Q) xX11_status 1 11 90 8580 (o_aload 2 (o_aload 0 (o_iload 4 (o_i (1) (o_iadd (o_iaload (o_invB (g, d, ck - 90, sk - 8580, xL_law, Q) xX12_status 1 12 0 0 (o_iceq (sk_B (g, d, ck - 90, sk - 8580, xL_law, Q) 1655) (o_i (0) (o_zret (g, d, ck - 90, sk - 8580, xL_law, Q)))))))))))))))))
set_option maxRecDepth 20000 in
theorem tL_law_822 {g : sk_G} {d ck sk : Nat} {Q : sk_P} : sk_S (g, d, ck, sk, xL_law, Q) 822 (kL_law_822 g d ck sk Q) := s_aload_n dL_law_822 rfl (s_aload_n dL_law_823 rfl (s_iload dL_law_824 (s_iconst dL_law_826 (s_iadd dL_law_827 (s_iaload dL_law_828 (s_invB (w' := (g, d, ck - 90, sk - 8580, xL_law, Q)) (ci := 11) (ck := 90) (sk := 8580) (T := TX11) (N := 17) dL_law_829 m_X11_status rfl (by decide) qm_L_93 qi_X11_status qe_X11_status rfl (s_aload_n dL_law_832 rfl (s_aload_n dL_law_833 rfl (s_iload dL_law_834 (s_iconst dL_law_836 (s_iadd dL_law_837 (s_iaload dL_law_838 (s_invB (w' := (g, d, ck - 90, sk - 8580, xL_law, Q)) (ci := 12) (ck := 0) (sk := 0) (T := TX12) (N := 49) dL_law_839 m_X12_status rfl (by decide) qm_L_96 qi_X12_status qe_X12_status (lw_w0 _) (s_iceq (tgt := 1655) dL_law_842 (by decide +kernel) (sk_id) (s_iconst dL_law_845 (s_zret dL_law_846 rfl))))))))))))))))
set_option maxRecDepth 20000 in
def kL_law_847 (g : sk_G) (d ck sk : Nat) (Q : sk_P) : sk_K := o_aload 1 (o_invB (g, d, ck, sk, xL_law, Q) xX11_undo 0 11 90 8580 (o_aload 2 (o_invB (g, d, ck - 90, sk - 8580, xL_law, Q) xX12_undo 0 12 0 0 (o_iceq (sk_B (g, d, ck - 90, sk - 8580, xL_law, Q) 1655) (o_i (0) (o_zret (g, d, ck - 90, sk - 8580, xL_law, Q)))))))
set_option maxRecDepth 20000 in
theorem tL_law_847 {g : sk_G} {d ck sk : Nat} {Q : sk_P} : sk_S (g, d, ck, sk, xL_law, Q) 847 (kL_law_847 g d ck sk Q) := s_aload_n dL_law_847 rfl (s_invB (w' := (g, d, ck - 90, sk - 8580, xL_law, Q)) (ci := 11) (ck := 90) (sk := 8580) (T := TX11) (N := 17) dL_law_848 m_X11_undo rfl (by decide) qm_L_97 qi_X11_undo qe_X11_undo rfl (s_aload_n dL_law_851 rfl (s_invB (w' := (g, d, ck - 90, sk - 8580, xL_law, Q)) (ci := 12) (ck := 0) (sk := 0) (T := TX12) (N := 49) dL_law_852 m_X12_undo rfl (by decide) qm_L_100 qi_X12_undo qe_X12_undo (lw_w0 _) (s_iceq (tgt := 1655) dL_law_855 (by decide +kernel) (sk_id) (s_iconst dL_law_858 (s_zret dL_law_859 rfl))))))
set_option maxRecDepth 20000 in
def kL_law_860 (g : sk_G) (d ck sk : Nat) (Q : sk_P) : sk_K := o_aload 1 (o_aload 0 (o_iload 4 (o_i (1) (o_iadd (o_iaload (o_aload 0 (o_iload 4 (o_i (2) (o_iadd (o_iaload (o_invB (g, d, ck, sk, xL_law, Q) xX11_log 2 11 90 8580 (o_aload 2 (o_aload 0 (o_iload 4 (o_i (1) (o_iadd (o_iaload (o_aload 0 (o_iload 4 (o_i (2) (o_iadd (o_iaload (o_invB (g, d, ck - 90, sk - 8580, xL_law, Q) xX12_log 2 12 0 0 (o_iceq (sk_B (g, d, ck - 90, sk - 8580, xL_law, Q) 1655) (o_i (0) (o_zret (g, d, ck - 90, sk - 8580, xL_law, Q)))))))))))))))))))))))))))
set_option maxRecDepth 20000 in
theorem tL_law_860 {g : sk_G} {d ck sk : Nat} {Q : sk_P} : sk_S (g, d, ck, sk, xL_law, Q) 860 (kL_law_860 g d ck sk Q) := s_aload_n dL_law_860 rfl (s_aload_n dL_law_861 rfl (s_iload dL_law_862 (s_iconst dL_law_864 (s_iadd dL_law_865 (s_iaload dL_law_866 (s_aload_n dL_law_867 rfl (s_iload dL_law_868 (s_iconst dL_law_870 (s_iadd dL_law_871 (s_iaload dL_law_872 (s_invB (w' := (g, d, ck - 90, sk - 8580, xL_law, Q)) (ci := 11) (ck := 90) (sk := 8580) (T := TX11) (N := 17) dL_law_873 m_X11_log rfl (by decide) qm_L_101 qi_X11_log qe_X11_log rfl (s_aload_n dL_law_876 rfl (s_aload_n dL_law_877 rfl (s_iload dL_law_878 (s_iconst dL_law_880 (s_iadd dL_law_881 (s_iaload dL_law_882 (s_aload_n dL_law_883 rfl (s_iload dL_law_884 (s_iconst dL_law_886 (s_iadd dL_law_887 (s_iaload dL_law_888 (s_invB (w' := (g, d, ck - 90, sk - 8580, xL_law, Q)) (ci := 12) (ck := 0) (sk := 0) (T := TX12) (N := 49) dL_law_889 m_X12_log rfl (by decide) qm_L_104 qi_X12_log qe_X12_log (lw_w0 _) (s_iceq (tgt := 1655) dL_law_892 (by decide +kernel) (sk_id) (s_iconst dL_law_895 (s_zret dL_law_896 rfl))))))))))))))))))))))))))
set_option maxRecDepth 20000 in
def kL_law_897 (g : sk_G) (d ck sk : Nat) (Q : sk_P) : sk_K := o_aload 1 (o_aload 0 (o_iload 4 (o_i (1) (o_iadd (o_iaload (o_invB (g, d, ck, sk, xL_law, Q) xX11_shows 1 11 90 8580 (o_aload 2 (o_aload 0 (o_iload 4 (o_i (1) (o_iadd (o_iaload (o_invB (g, d, ck - 90, sk - 8580, xL_law, Q) xX12_shows 1 12 0 0 (o_iceq (sk_B (g, d, ck - 90, sk - 8580, xL_law, Q) 1655) (o_i (0) (o_zret (g, d, ck - 90, sk - 8580, xL_law, Q)))))))))))))))))
set_option maxRecDepth 20000 in
theorem tL_law_897 {g : sk_G} {d ck sk : Nat} {Q : sk_P} : sk_S (g, d, ck, sk, xL_law, Q) 897 (kL_law_897 g d ck sk Q) := s_aload_n dL_law_897 rfl (s_aload_n dL_law_898 rfl (s_iload dL_law_899 (s_iconst dL_law_901 (s_iadd dL_law_902 (s_iaload dL_law_903 (s_invB (w' := (g, d, ck - 90, sk - 8580, xL_law, Q)) (ci := 11) (ck := 90) (sk := 8580) (T := TX11) (N := 17) dL_law_904 m_X11_shows rfl (by decide) qm_L_105 qi_X11_shows qe_X11_shows rfl (s_aload_n dL_law_907 rfl (s_aload_n dL_law_908 rfl (s_iload dL_law_909 (s_iconst dL_law_911 (s_iadd dL_law_912 (s_iaload dL_law_913 (s_invB (w' := (g, d, ck - 90, sk - 8580, xL_law, Q)) (ci := 12) (ck := 0) (sk := 0) (T := TX12) (N := 49) dL_law_914 m_X12_shows rfl (by decide) qm_L_108 qi_X12_shows qe_X12_shows (lw_w0 _) (s_iceq (tgt := 1655) dL_law_917 (by decide +kernel) (sk_id) (s_iconst dL_law_920 (s_zret dL_law_921 rfl))))))))))))))))
set_option maxRecDepth 20000 in
def kL_law_922 (g : sk_G) (d ck sk : Nat) (Q : sk_P) : sk_K := o_aload 1 (o_aload 0 (o_iload 4 (o_i (1) (o_iadd (o_iaload (o_invB (g, d, ck, sk, xL_law, Q) xX11_lamp 1 11 90 8580 (o_aload 2 (o_aload 0 (o_iload 4 (o_i (1) (o_iadd (o_iaload (o_invB (g, d, ck - 90, sk - 8580, xL_law, Q) xX12_lamp 1 12 0 0 (o_iceq (sk_B (g, d, ck - 90, sk - 8580, xL_law, Q) 1655) (o_i (0) (o_zret (g, d, ck - 90, sk - 8580, xL_law, Q)))))))))))))))))
set_option maxRecDepth 20000 in
theorem tL_law_922 {g : sk_G} {d ck sk : Nat} {Q : sk_P} : sk_S (g, d, ck, sk, xL_law, Q) 922 (kL_law_922 g d ck sk Q) := s_aload_n dL_law_922 rfl (s_aload_n dL_law_923 rfl (s_iload dL_law_924 (s_iconst dL_law_926 (s_iadd dL_law_927 (s_iaload dL_law_928 (s_invB (w' := (g, d, ck - 90, sk - 8580, xL_law, Q)) (ci := 11) (ck := 90) (sk := 8580) (T := TX11) (N := 17) dL_law_929 m_X11_lamp rfl (by decide) qm_L_109 qi_X11_lamp qe_X11_lamp rfl (s_aload_n dL_law_932 rfl (s_aload_n dL_law_933 rfl (s_iload dL_law_934 (s_iconst dL_law_936 (s_iadd dL_law_937 (s_iaload dL_law_938 (s_invB (w' := (g, d, ck - 90, sk - 8580, xL_law, Q)) (ci := 12) (ck := 0) (sk := 0) (T := TX12) (N := 49) dL_law_939 m_X12_lamp rfl (by decide) qm_L_112 qi_X12_lamp qe_X12_lamp (lw_w0 _) (s_iceq (tgt := 1655) dL_law_942 (by decide +kernel) (sk_id) (s_iconst dL_law_945 (s_zret dL_law_946 rfl))))))))))))))))
set_option maxRecDepth 20000 in
def kL_law_947 (g : sk_G) (d ck sk : Nat) (Q : sk_P) : sk_K := o_aload 1 (o_aload 0 (o_iload 4 (o_i (1) (o_iadd (o_iaload (o_aload 0 (o_iload 4 (o_i (2) (o_iadd (o_iaload (o_aload 0 (o_iload 4 (o_i (3) (o_iadd (o_iaload (o_invB (g, d, ck, sk, xL_law, Q) xX11_agrees 3 11 90 8580 (o_aload 2 (o_aload 0 (o_iload 4 (o_i (1) (o_iadd (o_iaload (o_aload 0 (o_iload 4 (o_i (2) (o_iadd (o_iaload (o_aload 0 (o_iload 4 (o_i (3) (o_iadd (o_iaload (o_invB (g, d, ck - 90, sk - 8580, xL_law, Q) xX12_agrees 3 12 0 0 (o_iceq (sk_B (g, d, ck - 90, sk - 8580, xL_law, Q) 1655) (o_i (0) (o_zret (g, d, ck - 90, sk - 8580, xL_law, Q)))))))))))))))))))))))))))))))))))))
set_option maxRecDepth 20000 in
theorem tL_law_947 {g : sk_G} {d ck sk : Nat} {Q : sk_P} : sk_S (g, d, ck, sk, xL_law, Q) 947 (kL_law_947 g d ck sk Q) := s_aload_n dL_law_947 rfl (s_aload_n dL_law_948 rfl (s_iload dL_law_949 (s_iconst dL_law_951 (s_iadd dL_law_952 (s_iaload dL_law_953 (s_aload_n dL_law_954 rfl (s_iload dL_law_955 (s_iconst dL_law_957 (s_iadd dL_law_958 (s_iaload dL_law_959 (s_aload_n dL_law_960 rfl (s_iload dL_law_961 (s_iconst dL_law_963 (s_iadd dL_law_964 (s_iaload dL_law_965 (s_invB (w' := (g, d, ck - 90, sk - 8580, xL_law, Q)) (ci := 11) (ck := 90) (sk := 8580) (T := TX11) (N := 17) dL_law_966 m_X11_agrees rfl (by decide) qm_L_113 qi_X11_agrees qe_X11_agrees rfl (s_aload_n dL_law_969 rfl (s_aload_n dL_law_970 rfl (s_iload dL_law_971 (s_iconst dL_law_973 (s_iadd dL_law_974 (s_iaload dL_law_975 (s_aload_n dL_law_976 rfl (s_iload dL_law_977 (s_iconst dL_law_979 (s_iadd dL_law_980 (s_iaload dL_law_981 (s_aload_n dL_law_982 rfl (s_iload dL_law_983 (s_iconst dL_law_985 (s_iadd dL_law_986 (s_iaload dL_law_987 (s_invB (w' := (g, d, ck - 90, sk - 8580, xL_law, Q)) (ci := 12) (ck := 0) (sk := 0) (T := TX12) (N := 49) dL_law_988 m_X12_agrees rfl (by decide) qm_L_116 qi_X12_agrees qe_X12_agrees (lw_w0 _) (s_iceq (tgt := 1655) dL_law_991 (by decide +kernel) (sk_id) (s_iconst dL_law_994 (s_zret dL_law_995 rfl))))))))))))))))))))))))))))))))))))
set_option maxRecDepth 20000 in
def kL_law_996 (g : sk_G) (d ck sk : Nat) (Q : sk_P) : sk_K := o_aload 1 (o_aload 0 (o_iload 4 (o_i (1) (o_iadd (o_iaload (o_aload 0 (o_iload 4 (o_i (2) (o_iadd (o_iaload (o_invB (g, d, ck, sk, xL_law, Q) xX11_may 2 11 90 8580 (o_aload 2 (o_aload 0 (o_iload 4 (o_i (1) (o_iadd (o_iaload (o_aload 0 (o_iload 4 (o_i (2) (o_iadd (o_iaload (o_invB (g, d, ck - 90, sk - 8580, xL_law, Q) xX12_may 2 12 0 0 (o_iceq (sk_B (g, d, ck - 90, sk - 8580, xL_law, Q) 1655) (o_i (0) (o_zret (g, d, ck - 90, sk - 8580, xL_law, Q)))))))))))))))))))))))))))
set_option maxRecDepth 20000 in
theorem tL_law_996 {g : sk_G} {d ck sk : Nat} {Q : sk_P} : sk_S (g, d, ck, sk, xL_law, Q) 996 (kL_law_996 g d ck sk Q) := s_aload_n dL_law_996 rfl (s_aload_n dL_law_997 rfl (s_iload dL_law_998 (s_iconst dL_law_1000 (s_iadd dL_law_1001 (s_iaload dL_law_1002 (s_aload_n dL_law_1003 rfl (s_iload dL_law_1004 (s_iconst dL_law_1006 (s_iadd dL_law_1007 (s_iaload dL_law_1008 (s_invB (w' := (g, d, ck - 90, sk - 8580, xL_law, Q)) (ci := 11) (ck := 90) (sk := 8580) (T := TX11) (N := 17) dL_law_1009 m_X11_may rfl (by decide) qm_L_117 qi_X11_may qe_X11_may rfl (s_aload_n dL_law_1012 rfl (s_aload_n dL_law_1013 rfl (s_iload dL_law_1014 (s_iconst dL_law_1016 (s_iadd dL_law_1017 (s_iaload dL_law_1018 (s_aload_n dL_law_1019 rfl (s_iload dL_law_1020 (s_iconst dL_law_1022 (s_iadd dL_law_1023 (s_iaload dL_law_1024 (s_invB (w' := (g, d, ck - 90, sk - 8580, xL_law, Q)) (ci := 12) (ck := 0) (sk := 0) (T := TX12) (N := 49) dL_law_1025 m_X12_may rfl (by decide) qm_L_120 qi_X12_may qe_X12_may (lw_w0 _) (s_iceq (tgt := 1655) dL_law_1028 (by decide +kernel) (sk_id) (s_iconst dL_law_1031 (s_zret dL_law_1032 rfl))))))))))))))))))))))))))
set_option maxRecDepth 20000 in
def kL_law_1033 (g : sk_G) (d ck sk : Nat) (Q : sk_P) : sk_K := o_aload 1 (o_aload 0 (o_iload 4 (o_i (1) (o_iadd (o_iaload (o_invB (g, d, ck, sk, xL_law, Q) xX11_best 1 11 90 8580 (o_aload 2 (o_aload 0 (o_iload 4 (o_i (1) (o_iadd (o_iaload (o_invB (g, d, ck - 90, sk - 8580, xL_law, Q) xX12_best 1 12 0 0 (o_iceq (sk_B (g, d, ck - 90, sk - 8580, xL_law, Q) 1655) (o_i (0) (o_zret (g, d, ck - 90, sk - 8580, xL_law, Q)))))))))))))))))
set_option maxRecDepth 20000 in
theorem tL_law_1033 {g : sk_G} {d ck sk : Nat} {Q : sk_P} : sk_S (g, d, ck, sk, xL_law, Q) 1033 (kL_law_1033 g d ck sk Q) := s_aload_n dL_law_1033 rfl (s_aload_n dL_law_1034 rfl (s_iload dL_law_1035 (s_iconst dL_law_1037 (s_iadd dL_law_1038 (s_iaload dL_law_1039 (s_invB (w' := (g, d, ck - 90, sk - 8580, xL_law, Q)) (ci := 11) (ck := 90) (sk := 8580) (T := TX11) (N := 17) dL_law_1040 m_X11_best rfl (by decide) qm_L_121 qi_X11_best qe_X11_best rfl (s_aload_n dL_law_1043 rfl (s_aload_n dL_law_1044 rfl (s_iload dL_law_1045 (s_iconst dL_law_1047 (s_iadd dL_law_1048 (s_iaload dL_law_1049 (s_invB (w' := (g, d, ck - 90, sk - 8580, xL_law, Q)) (ci := 12) (ck := 0) (sk := 0) (T := TX12) (N := 49) dL_law_1050 m_X12_best rfl (by decide) qm_L_124 qi_X12_best qe_X12_best (lw_w0 _) (s_iceq (tgt := 1655) dL_law_1053 (by decide +kernel) (sk_id) (s_iconst dL_law_1056 (s_zret dL_law_1057 rfl))))))))))))))))
set_option maxRecDepth 20000 in
def kL_law_1058 (g : sk_G) (d ck sk : Nat) (Q : sk_P) : sk_K := o_aload 1 (o_aload 0 (o_iload 4 (o_i (1) (o_iadd (o_iaload (o_aload 0 (o_iload 4 (o_i (2) (o_iadd (o_iaload (o_invB (g, d, ck, sk, xL_law, Q) xX11_over 2 11 90 8580 (o_aload 2 (o_aload 0 (o_iload 4 (o_i (1) (o_iadd (o_iaload (o_aload 0 (o_iload 4 (o_i (2) (o_iadd (o_iaload (o_invB (g, d, ck - 90, sk - 8580, xL_law, Q) xX12_over 2 12 0 0 (o_iceq (sk_B (g, d, ck - 90, sk - 8580, xL_law, Q) 1655) (o_i (0) (o_zret (g, d, ck - 90, sk - 8580, xL_law, Q)))))))))))))))))))))))))))
set_option maxRecDepth 20000 in
theorem tL_law_1058 {g : sk_G} {d ck sk : Nat} {Q : sk_P} : sk_S (g, d, ck, sk, xL_law, Q) 1058 (kL_law_1058 g d ck sk Q) := s_aload_n dL_law_1058 rfl (s_aload_n dL_law_1059 rfl (s_iload dL_law_1060 (s_iconst dL_law_1062 (s_iadd dL_law_1063 (s_iaload dL_law_1064 (s_aload_n dL_law_1065 rfl (s_iload dL_law_1066 (s_iconst dL_law_1068 (s_iadd dL_law_1069 (s_iaload dL_law_1070 (s_invB (w' := (g, d, ck - 90, sk - 8580, xL_law, Q)) (ci := 11) (ck := 90) (sk := 8580) (T := TX11) (N := 17) dL_law_1071 m_X11_over rfl (by decide) qm_L_125 qi_X11_over qe_X11_over rfl (s_aload_n dL_law_1074 rfl (s_aload_n dL_law_1075 rfl (s_iload dL_law_1076 (s_iconst dL_law_1078 (s_iadd dL_law_1079 (s_iaload dL_law_1080 (s_aload_n dL_law_1081 rfl (s_iload dL_law_1082 (s_iconst dL_law_1084 (s_iadd dL_law_1085 (s_iaload dL_law_1086 (s_invB (w' := (g, d, ck - 90, sk - 8580, xL_law, Q)) (ci := 12) (ck := 0) (sk := 0) (T := TX12) (N := 49) dL_law_1087 m_X12_over rfl (by decide) qm_L_128 qi_X12_over qe_X12_over (lw_w0 _) (s_iceq (tgt := 1655) dL_law_1090 (by decide +kernel) (sk_id) (s_iconst dL_law_1093 (s_zret dL_law_1094 rfl))))))))))))))))))))))))))
set_option maxRecDepth 20000 in
def kL_law_1095 (g : sk_G) (d ck sk : Nat) (Q : sk_P) : sk_K := o_aload 1 (o_aload 0 (o_iload 4 (o_i (1) (o_iadd (o_iaload (o_invB (g, d, ck, sk, xL_law, Q) xX11_order 1 11 90 8580 (o_aload 2 (o_aload 0 (o_iload 4 (o_i (1) (o_iadd (o_iaload (o_invB (g, d, ck - 90, sk - 8580, xL_law, Q) xX12_order 1 12 0 0 (o_iceq (sk_B (g, d, ck - 90, sk - 8580, xL_law, Q) 1655) (o_i (0) (o_zret (g, d, ck - 90, sk - 8580, xL_law, Q)))))))))))))))))
set_option maxRecDepth 20000 in
theorem tL_law_1095 {g : sk_G} {d ck sk : Nat} {Q : sk_P} : sk_S (g, d, ck, sk, xL_law, Q) 1095 (kL_law_1095 g d ck sk Q) := s_aload_n dL_law_1095 rfl (s_aload_n dL_law_1096 rfl (s_iload dL_law_1097 (s_iconst dL_law_1099 (s_iadd dL_law_1100 (s_iaload dL_law_1101 (s_invB (w' := (g, d, ck - 90, sk - 8580, xL_law, Q)) (ci := 11) (ck := 90) (sk := 8580) (T := TX11) (N := 17) dL_law_1102 m_X11_order rfl (by decide) qm_L_129 qi_X11_order qe_X11_order rfl (s_aload_n dL_law_1105 rfl (s_aload_n dL_law_1106 rfl (s_iload dL_law_1107 (s_iconst dL_law_1109 (s_iadd dL_law_1110 (s_iaload dL_law_1111 (s_invB (w' := (g, d, ck - 90, sk - 8580, xL_law, Q)) (ci := 12) (ck := 0) (sk := 0) (T := TX12) (N := 49) dL_law_1112 m_X12_order rfl (by decide) qm_L_132 qi_X12_order qe_X12_order (lw_w0 _) (s_iceq (tgt := 1655) dL_law_1115 (by decide +kernel) (sk_id) (s_iconst dL_law_1118 (s_zret dL_law_1119 rfl))))))))))))))))
set_option maxRecDepth 20000 in
def kL_law_1120 (g : sk_G) (d ck sk : Nat) (Q : sk_P) : sk_K := o_aload 1 (o_aload 0 (o_iload 4 (o_i (1) (o_iadd (o_iaload (o_aload 0 (o_iload 4 (o_i (2) (o_iadd (o_iaload (o_aload 0 (o_iload 4 (o_i (3) (o_iadd (o_iaload (o_invB (g, d, ck, sk, xL_law, Q) xX11_lost 3 11 90 8580 (o_aload 2 (o_aload 0 (o_iload 4 (o_i (1) (o_iadd (o_iaload (o_aload 0 (o_iload 4 (o_i (2) (o_iadd (o_iaload (o_aload 0 (o_iload 4 (o_i (3) (o_iadd (o_iaload (o_invB (g, d, ck - 90, sk - 8580, xL_law, Q) xX12_lost 3 12 0 0 (o_iceq (sk_B (g, d, ck - 90, sk - 8580, xL_law, Q) 1655) (o_i (0) (o_zret (g, d, ck - 90, sk - 8580, xL_law, Q)))))))))))))))))))))))))))))))))))))
set_option maxRecDepth 20000 in
theorem tL_law_1120 {g : sk_G} {d ck sk : Nat} {Q : sk_P} : sk_S (g, d, ck, sk, xL_law, Q) 1120 (kL_law_1120 g d ck sk Q) := s_aload_n dL_law_1120 rfl (s_aload_n dL_law_1121 rfl (s_iload dL_law_1122 (s_iconst dL_law_1124 (s_iadd dL_law_1125 (s_iaload dL_law_1126 (s_aload_n dL_law_1127 rfl (s_iload dL_law_1128 (s_iconst dL_law_1130 (s_iadd dL_law_1131 (s_iaload dL_law_1132 (s_aload_n dL_law_1133 rfl (s_iload dL_law_1134 (s_iconst dL_law_1136 (s_iadd dL_law_1137 (s_iaload dL_law_1138 (s_invB (w' := (g, d, ck - 90, sk - 8580, xL_law, Q)) (ci := 11) (ck := 90) (sk := 8580) (T := TX11) (N := 17) dL_law_1139 m_X11_lost rfl (by decide) qm_L_133 qi_X11_lost qe_X11_lost rfl (s_aload_n dL_law_1142 rfl (s_aload_n dL_law_1143 rfl (s_iload dL_law_1144 (s_iconst dL_law_1146 (s_iadd dL_law_1147 (s_iaload dL_law_1148 (s_aload_n dL_law_1149 rfl (s_iload dL_law_1150 (s_iconst dL_law_1152 (s_iadd dL_law_1153 (s_iaload dL_law_1154 (s_aload_n dL_law_1155 rfl (s_iload dL_law_1156 (s_iconst dL_law_1158 (s_iadd dL_law_1159 (s_iaload dL_law_1160 (s_invB (w' := (g, d, ck - 90, sk - 8580, xL_law, Q)) (ci := 12) (ck := 0) (sk := 0) (T := TX12) (N := 49) dL_law_1161 m_X12_lost rfl (by decide) qm_L_136 qi_X12_lost qe_X12_lost (lw_w0 _) (s_iceq (tgt := 1655) dL_law_1164 (by decide +kernel) (sk_id) (s_iconst dL_law_1167 (s_zret dL_law_1168 rfl))))))))))))))))))))))))))))))))))))
set_option maxRecDepth 20000 in
def kL_law_1169 (g : sk_G) (d ck sk : Nat) (Q : sk_P) : sk_K := o_aload 1 (o_aload 0 (o_iload 4 (o_i (1) (o_iadd (o_iaload (o_aload 0 (o_iload 4 (o_i (2) (o_iadd (o_iaload (o_aload 0 (o_iload 4 (o_i (3) (o_iadd (o_iaload (o_invB (g, d, ck, sk, xL_law, Q) xX11_faded 3 11 90 8580 (o_aload 2 (o_aload 0 (o_iload 4 (o_i (1) (o_iadd (o_iaload (o_aload 0 (o_iload 4 (o_i (2) (o_iadd (o_iaload (o_aload 0 (o_iload 4 (o_i (3) (o_iadd (o_iaload (o_invB (g, d, ck - 90, sk - 8580, xL_law, Q) xX12_faded 3 12 0 0 (o_iceq (sk_B (g, d, ck - 90, sk - 8580, xL_law, Q) 1655) (o_i (0) (o_zret (g, d, ck - 90, sk - 8580, xL_law, Q)))))))))))))))))))))))))))))))))))))
set_option maxRecDepth 20000 in
theorem tL_law_1169 {g : sk_G} {d ck sk : Nat} {Q : sk_P} : sk_S (g, d, ck, sk, xL_law, Q) 1169 (kL_law_1169 g d ck sk Q) := s_aload_n dL_law_1169 rfl (s_aload_n dL_law_1170 rfl (s_iload dL_law_1171 (s_iconst dL_law_1173 (s_iadd dL_law_1174 (s_iaload dL_law_1175 (s_aload_n dL_law_1176 rfl (s_iload dL_law_1177 (s_iconst dL_law_1179 (s_iadd dL_law_1180 (s_iaload dL_law_1181 (s_aload_n dL_law_1182 rfl (s_iload dL_law_1183 (s_iconst dL_law_1185 (s_iadd dL_law_1186 (s_iaload dL_law_1187 (s_invB (w' := (g, d, ck - 90, sk - 8580, xL_law, Q)) (ci := 11) (ck := 90) (sk := 8580) (T := TX11) (N := 17) dL_law_1188 m_X11_faded rfl (by decide) qm_L_137 qi_X11_faded qe_X11_faded rfl (s_aload_n dL_law_1191 rfl (s_aload_n dL_law_1192 rfl (s_iload dL_law_1193 (s_iconst dL_law_1195 (s_iadd dL_law_1196 (s_iaload dL_law_1197 (s_aload_n dL_law_1198 rfl (s_iload dL_law_1199 (s_iconst dL_law_1201 (s_iadd dL_law_1202 (s_iaload dL_law_1203 (s_aload_n dL_law_1204 rfl (s_iload dL_law_1205 (s_iconst dL_law_1207 (s_iadd dL_law_1208 (s_iaload dL_law_1209 (s_invB (w' := (g, d, ck - 90, sk - 8580, xL_law, Q)) (ci := 12) (ck := 0) (sk := 0) (T := TX12) (N := 49) dL_law_1210 m_X12_faded rfl (by decide) qm_L_140 qi_X12_faded qe_X12_faded (lw_w0 _) (s_iceq (tgt := 1655) dL_law_1213 (by decide +kernel) (sk_id) (s_iconst dL_law_1216 (s_zret dL_law_1217 rfl))))))))))))))))))))))))))))))))))))
set_option maxRecDepth 20000 in
def kL_law_1218 (g : sk_G) (d ck sk : Nat) (Q : sk_P) : sk_K := o_aload 1 (o_aload 0 (o_iload 4 (o_i (1) (o_iadd (o_iaload (o_aload 0 (o_iload 4 (o_i (2) (o_iadd (o_iaload (o_aload 0 (o_iload 4 (o_i (3) (o_iadd (o_iaload (o_ifeq (o_i (0) (o_invB (g, d, ck, sk, xL_law, Q) xX11_noted 3 11 90 8580 (o_aload 2 (o_aload 0 (o_iload 4 (o_i (1) (o_iadd (o_iaload (o_aload 0 (o_iload 4 (o_i (2) (o_iadd (o_iaload (o_aload 0 (o_iload 4 (o_i (3) (o_iadd (o_iaload (o_ifeq (o_i (0) (o_invB (g, d, ck - 90, sk - 8580, xL_law, Q) xX12_noted 3 12 0 0 (o_iceq (sk_B (g, d, ck - 90, sk - 8580, xL_law, Q) 1655) (o_i (0) (o_zret (g, d, ck - 90, sk - 8580, xL_law, Q)))))) (o_i (1) (o_invB (g, d, ck - 90, sk - 8580, xL_law, Q) xX12_noted 3 12 0 0 (o_iceq (sk_B (g, d, ck - 90, sk - 8580, xL_law, Q) 1655) (o_i (0) (o_zret (g, d, ck - 90, sk - 8580, xL_law, Q))))))))))))))))))))))))) (o_i (1) (o_invB (g, d, ck, sk, xL_law, Q) xX11_noted 3 11 90 8580 (o_aload 2 (o_aload 0 (o_iload 4 (o_i (1) (o_iadd (o_iaload (o_aload 0 (o_iload 4 (o_i (2) (o_iadd (o_iaload (o_aload 0 (o_iload 4 (o_i (3) (o_iadd (o_iaload (o_ifeq (o_i (0) (o_invB (g, d, ck - 90, sk - 8580, xL_law, Q) xX12_noted 3 12 0 0 (o_iceq (sk_B (g, d, ck - 90, sk - 8580, xL_law, Q) 1655) (o_i (0) (o_zret (g, d, ck - 90, sk - 8580, xL_law, Q)))))) (o_i (1) (o_invB (g, d, ck - 90, sk - 8580, xL_law, Q) xX12_noted 3 12 0 0 (o_iceq (sk_B (g, d, ck - 90, sk - 8580, xL_law, Q) 1655) (o_i (0) (o_zret (g, d, ck - 90, sk - 8580, xL_law, Q)))))))))))))))))))))))))))))))))))))))))
set_option maxRecDepth 20000 in
theorem tL_law_1218 {g : sk_G} {d ck sk : Nat} {Q : sk_P} : sk_S (g, d, ck, sk, xL_law, Q) 1218 (kL_law_1218 g d ck sk Q) := s_aload_n dL_law_1218 rfl (s_aload_n dL_law_1219 rfl (s_iload dL_law_1220 (s_iconst dL_law_1222 (s_iadd dL_law_1223 (s_iaload dL_law_1224 (s_aload_n dL_law_1225 rfl (s_iload dL_law_1226 (s_iconst dL_law_1228 (s_iadd dL_law_1229 (s_iaload dL_law_1230 (s_aload_n dL_law_1231 rfl (s_iload dL_law_1232 (s_iconst dL_law_1234 (s_iadd dL_law_1235 (s_iaload dL_law_1236 (s_ifeq (tgt := 1244) dL_law_1237 (by decide +kernel) (s_iconst dL_law_1244 (s_invB (w' := (g, d, ck - 90, sk - 8580, xL_law, Q)) (ci := 11) (ck := 90) (sk := 8580) (T := TX11) (N := 17) dL_law_1245 m_X11_noted rfl (by decide) qm_L_141 qi_X11_noted qe_X11_noted rfl (s_aload_n dL_law_1248 rfl (s_aload_n dL_law_1249 rfl (s_iload dL_law_1250 (s_iconst dL_law_1252 (s_iadd dL_law_1253 (s_iaload dL_law_1254 (s_aload_n dL_law_1255 rfl (s_iload dL_law_1256 (s_iconst dL_law_1258 (s_iadd dL_law_1259 (s_iaload dL_law_1260 (s_aload_n dL_law_1261 rfl (s_iload dL_law_1262 (s_iconst dL_law_1264 (s_iadd dL_law_1265 (s_iaload dL_law_1266 (s_ifeq (tgt := 1274) dL_law_1267 (by decide +kernel) (s_iconst dL_law_1274 (s_invB (w' := (g, d, ck - 90, sk - 8580, xL_law, Q)) (ci := 12) (ck := 0) (sk := 0) (T := TX12) (N := 49) dL_law_1275 m_X12_noted rfl (by decide) qm_L_145 qi_X12_noted qe_X12_noted (lw_w0 _) (s_iceq (tgt := 1655) dL_law_1278 (by decide +kernel) (sk_id) (s_iconst dL_law_1281 (s_zret dL_law_1282 rfl))))) (s_iconst dL_law_1270 (s_goto (tgt := 1275) dL_law_1271 (by decide +kernel) (s_invB (w' := (g, d, ck - 90, sk - 8580, xL_law, Q)) (ci := 12) (ck := 0) (sk := 0) (T := TX12) (N := 49) dL_law_1275 m_X12_noted rfl (by decide) qm_L_145 qi_X12_noted qe_X12_noted (lw_w0 _) (s_iceq (tgt := 1655) dL_law_1278 (by decide +kernel) (sk_id) (s_iconst dL_law_1281 (s_zret dL_law_1282 rfl))))))))))))))))))))))))) (s_iconst dL_law_1240 (s_goto (tgt := 1245) dL_law_1241 (by decide +kernel) (s_invB (w' := (g, d, ck - 90, sk - 8580, xL_law, Q)) (ci := 11) (ck := 90) (sk := 8580) (T := TX11) (N := 17) dL_law_1245 m_X11_noted rfl (by decide) qm_L_141 qi_X11_noted qe_X11_noted rfl (s_aload_n dL_law_1248 rfl (s_aload_n dL_law_1249 rfl (s_iload dL_law_1250 (s_iconst dL_law_1252 (s_iadd dL_law_1253 (s_iaload dL_law_1254 (s_aload_n dL_law_1255 rfl (s_iload dL_law_1256 (s_iconst dL_law_1258 (s_iadd dL_law_1259 (s_iaload dL_law_1260 (s_aload_n dL_law_1261 rfl (s_iload dL_law_1262 (s_iconst dL_law_1264 (s_iadd dL_law_1265 (s_iaload dL_law_1266 (s_ifeq (tgt := 1274) dL_law_1267 (by decide +kernel) (s_iconst dL_law_1274 (s_invB (w' := (g, d, ck - 90, sk - 8580, xL_law, Q)) (ci := 12) (ck := 0) (sk := 0) (T := TX12) (N := 49) dL_law_1275 m_X12_noted rfl (by decide) qm_L_145 qi_X12_noted qe_X12_noted (lw_w0 _) (s_iceq (tgt := 1655) dL_law_1278 (by decide +kernel) (sk_id) (s_iconst dL_law_1281 (s_zret dL_law_1282 rfl))))) (s_iconst dL_law_1270 (s_goto (tgt := 1275) dL_law_1271 (by decide +kernel) (s_invB (w' := (g, d, ck - 90, sk - 8580, xL_law, Q)) (ci := 12) (ck := 0) (sk := 0) (T := TX12) (N := 49) dL_law_1275 m_X12_noted rfl (by decide) qm_L_145 qi_X12_noted qe_X12_noted (lw_w0 _) (s_iceq (tgt := 1655) dL_law_1278 (by decide +kernel) (sk_id) (s_iconst dL_law_1281 (s_zret dL_law_1282 rfl))))))))))))))))))))))))))))))))))))))))))
set_option maxRecDepth 20000 in
def kL_law_1283 (g : sk_G) (d ck sk : Nat) (Q : sk_P) : sk_K := o_aload 1 (o_aload 0 (o_iload 4 (o_i (1) (o_iadd (o_iaload (o_invB (g, d, ck, sk, xL_law, Q) xX11_fits 1 11 90 8580 (o_aload 2 (o_aload 0 (o_iload 4 (o_i (1) (o_iadd (o_iaload (o_invB (g, d, ck - 90, sk - 8580, xL_law, Q) xX12_fits 1 12 0 0 (o_iceq (sk_B (g, d, ck - 90, sk - 8580, xL_law, Q) 1655) (o_i (0) (o_zret (g, d, ck - 90, sk - 8580, xL_law, Q)))))))))))))))))
set_option maxRecDepth 20000 in
theorem tL_law_1283 {g : sk_G} {d ck sk : Nat} {Q : sk_P} : sk_S (g, d, ck, sk, xL_law, Q) 1283 (kL_law_1283 g d ck sk Q) := s_aload_n dL_law_1283 rfl (s_aload_n dL_law_1284 rfl (s_iload dL_law_1285 (s_iconst dL_law_1287 (s_iadd dL_law_1288 (s_iaload dL_law_1289 (s_invB (w' := (g, d, ck - 90, sk - 8580, xL_law, Q)) (ci := 11) (ck := 90) (sk := 8580) (T := TX11) (N := 17) dL_law_1290 m_X11_fits rfl (by decide) qm_L_146 qi_X11_fits qe_X11_fits rfl (s_aload_n dL_law_1293 rfl (s_aload_n dL_law_1294 rfl (s_iload dL_law_1295 (s_iconst dL_law_1297 (s_iadd dL_law_1298 (s_iaload dL_law_1299 (s_invB (w' := (g, d, ck - 90, sk - 8580, xL_law, Q)) (ci := 12) (ck := 0) (sk := 0) (T := TX12) (N := 49) dL_law_1300 m_X12_fits rfl (by decide) qm_L_149 qi_X12_fits qe_X12_fits (lw_w0 _) (s_iceq (tgt := 1655) dL_law_1303 (by decide +kernel) (sk_id) (s_iconst dL_law_1306 (s_zret dL_law_1307 rfl))))))))))))))))
set_option maxRecDepth 20000 in
def kL_law_1308 (g : sk_G) (d ck sk : Nat) (Q : sk_P) : sk_K := o_aload 1 (o_invB (g, d, ck, sk, xL_law, Q) xX11_ask 0 11 90 8580 (o_aload 2 (o_invB (g, d, ck - 90, sk - 8580, xL_law, Q) xX12_ask 0 12 0 0 (o_iceq (sk_B (g, d, ck - 90, sk - 8580, xL_law, Q) 1655) (o_i (0) (o_zret (g, d, ck - 90, sk - 8580, xL_law, Q)))))))
set_option maxRecDepth 20000 in
theorem tL_law_1308 {g : sk_G} {d ck sk : Nat} {Q : sk_P} : sk_S (g, d, ck, sk, xL_law, Q) 1308 (kL_law_1308 g d ck sk Q) := s_aload_n dL_law_1308 rfl (s_invB (w' := (g, d, ck - 90, sk - 8580, xL_law, Q)) (ci := 11) (ck := 90) (sk := 8580) (T := TX11) (N := 17) dL_law_1309 m_X11_ask rfl (by decide) qm_L_150 qi_X11_ask qe_X11_ask rfl (s_aload_n dL_law_1312 rfl (s_invB (w' := (g, d, ck - 90, sk - 8580, xL_law, Q)) (ci := 12) (ck := 0) (sk := 0) (T := TX12) (N := 49) dL_law_1313 m_X12_ask rfl (by decide) qm_L_153 qi_X12_ask qe_X12_ask (lw_w0 _) (s_iceq (tgt := 1655) dL_law_1316 (by decide +kernel) (sk_id) (s_iconst dL_law_1319 (s_zret dL_law_1320 rfl))))))
set_option maxRecDepth 20000 in
def kL_law_1321 (g : sk_G) (d ck sk : Nat) (Q : sk_P) : sk_K := o_aload 1 (o_aload 0 (o_iload 4 (o_i (1) (o_iadd (o_iaload (o_aload 0 (o_iload 4 (o_i (2) (o_iadd (o_iaload (o_invB (g, d, ck, sk, xL_law, Q) xX11_meets 2 11 90 8580 (o_aload 2 (o_aload 0 (o_iload 4 (o_i (1) (o_iadd (o_iaload (o_aload 0 (o_iload 4 (o_i (2) (o_iadd (o_iaload (o_invB (g, d, ck - 90, sk - 8580, xL_law, Q) xX12_meets 2 12 0 0 (o_iceq (sk_B (g, d, ck - 90, sk - 8580, xL_law, Q) 1655) (o_i (0) (o_zret (g, d, ck - 90, sk - 8580, xL_law, Q)))))))))))))))))))))))))))
set_option maxRecDepth 20000 in
theorem tL_law_1321 {g : sk_G} {d ck sk : Nat} {Q : sk_P} : sk_S (g, d, ck, sk, xL_law, Q) 1321 (kL_law_1321 g d ck sk Q) := s_aload_n dL_law_1321 rfl (s_aload_n dL_law_1322 rfl (s_iload dL_law_1323 (s_iconst dL_law_1325 (s_iadd dL_law_1326 (s_iaload dL_law_1327 (s_aload_n dL_law_1328 rfl (s_iload dL_law_1329 (s_iconst dL_law_1331 (s_iadd dL_law_1332 (s_iaload dL_law_1333 (s_invB (w' := (g, d, ck - 90, sk - 8580, xL_law, Q)) (ci := 11) (ck := 90) (sk := 8580) (T := TX11) (N := 17) dL_law_1334 m_X11_meets rfl (by decide) qm_L_154 qi_X11_meets qe_X11_meets rfl (s_aload_n dL_law_1337 rfl (s_aload_n dL_law_1338 rfl (s_iload dL_law_1339 (s_iconst dL_law_1341 (s_iadd dL_law_1342 (s_iaload dL_law_1343 (s_aload_n dL_law_1344 rfl (s_iload dL_law_1345 (s_iconst dL_law_1347 (s_iadd dL_law_1348 (s_iaload dL_law_1349 (s_invB (w' := (g, d, ck - 90, sk - 8580, xL_law, Q)) (ci := 12) (ck := 0) (sk := 0) (T := TX12) (N := 49) dL_law_1350 m_X12_meets rfl (by decide) qm_L_157 qi_X12_meets qe_X12_meets (lw_w0 _) (s_iceq (tgt := 1655) dL_law_1353 (by decide +kernel) (sk_id) (s_iconst dL_law_1356 (s_zret dL_law_1357 rfl))))))))))))))))))))))))))
set_option maxRecDepth 20000 in
def kL_law_1358 (g : sk_G) (d ck sk : Nat) (Q : sk_P) : sk_K := o_aload 1 (o_aload 0 (o_iload 4 (o_i (1) (o_iadd (o_iaload (o_invB (g, d, ck, sk, xL_law, Q) xX11_quire 1 11 90 8580 (o_aload 2 (o_aload 0 (o_iload 4 (o_i (1) (o_iadd (o_iaload (o_invB (g, d, ck - 90, sk - 8580, xL_law, Q) xX12_quire 1 12 0 0 (o_iceq (sk_B (g, d, ck - 90, sk - 8580, xL_law, Q) 1655) (o_i (0) (o_zret (g, d, ck - 90, sk - 8580, xL_law, Q)))))))))))))))))
set_option maxRecDepth 20000 in
theorem tL_law_1358 {g : sk_G} {d ck sk : Nat} {Q : sk_P} : sk_S (g, d, ck, sk, xL_law, Q) 1358 (kL_law_1358 g d ck sk Q) := s_aload_n dL_law_1358 rfl (s_aload_n dL_law_1359 rfl (s_iload dL_law_1360 (s_iconst dL_law_1362 (s_iadd dL_law_1363 (s_iaload dL_law_1364 (s_invB (w' := (g, d, ck - 90, sk - 8580, xL_law, Q)) (ci := 11) (ck := 90) (sk := 8580) (T := TX11) (N := 17) dL_law_1365 m_X11_quire rfl (by decide) qm_L_158 qi_X11_quire qe_X11_quire rfl (s_aload_n dL_law_1368 rfl (s_aload_n dL_law_1369 rfl (s_iload dL_law_1370 (s_iconst dL_law_1372 (s_iadd dL_law_1373 (s_iaload dL_law_1374 (s_invB (w' := (g, d, ck - 90, sk - 8580, xL_law, Q)) (ci := 12) (ck := 0) (sk := 0) (T := TX12) (N := 49) dL_law_1375 m_X12_quire rfl (by decide) qm_L_161 qi_X12_quire qe_X12_quire (lw_w0 _) (s_iceq (tgt := 1655) dL_law_1378 (by decide +kernel) (sk_id) (s_iconst dL_law_1381 (s_zret dL_law_1382 rfl))))))))))))))))
set_option maxRecDepth 20000 in
def kL_law_1383 (g : sk_G) (d ck sk : Nat) (Q : sk_P) : sk_K := o_aload 1 (o_aload 0 (o_iload 4 (o_i (1) (o_iadd (o_iaload (o_aload 0 (o_iload 4 (o_i (2) (o_iadd (o_iaload (o_aload 0 (o_iload 4 (o_i (3) (o_iadd (o_iaload (o_aload 0 (o_iload 4 (o_i (4) (o_iadd (o_iaload (o_invB (g, d, ck, sk, xL_law, Q) xX11_game 4 11 90 8580 (o_aload 2 (o_aload 0 (o_iload 4 (o_i (1) (o_iadd (o_iaload (o_aload 0 (o_iload 4 (o_i (2) (o_iadd (o_iaload (o_aload 0 (o_iload 4 (o_i (3) (o_iadd (o_iaload (o_aload 0 (o_iload 4 (o_i (4) (o_iadd (o_iaload (o_invB (g, d, ck - 90, sk - 8580, xL_law, Q) xX12_game 4 12 0 0 (o_iceq (sk_B (g, d, ck - 90, sk - 8580, xL_law, Q) 1655) (o_i (0) (o_zret (g, d, ck - 90, sk - 8580, xL_law, Q)))))))))))))))))))))))))))))))))))))))))))))))
set_option maxRecDepth 20000 in
theorem tL_law_1383 {g : sk_G} {d ck sk : Nat} {Q : sk_P} : sk_S (g, d, ck, sk, xL_law, Q) 1383 (kL_law_1383 g d ck sk Q) := s_aload_n dL_law_1383 rfl (s_aload_n dL_law_1384 rfl (s_iload dL_law_1385 (s_iconst dL_law_1387 (s_iadd dL_law_1388 (s_iaload dL_law_1389 (s_aload_n dL_law_1390 rfl (s_iload dL_law_1391 (s_iconst dL_law_1393 (s_iadd dL_law_1394 (s_iaload dL_law_1395 (s_aload_n dL_law_1396 rfl (s_iload dL_law_1397 (s_iconst dL_law_1399 (s_iadd dL_law_1400 (s_iaload dL_law_1401 (s_aload_n dL_law_1402 rfl (s_iload dL_law_1403 (s_iconst dL_law_1405 (s_iadd dL_law_1406 (s_iaload dL_law_1407 (s_invB (w' := (g, d, ck - 90, sk - 8580, xL_law, Q)) (ci := 11) (ck := 90) (sk := 8580) (T := TX11) (N := 17) dL_law_1408 m_X11_game rfl (by decide) qm_L_162 qi_X11_game qe_X11_game rfl (s_aload_n dL_law_1411 rfl (s_aload_n dL_law_1412 rfl (s_iload dL_law_1413 (s_iconst dL_law_1415 (s_iadd dL_law_1416 (s_iaload dL_law_1417 (s_aload_n dL_law_1418 rfl (s_iload dL_law_1419 (s_iconst dL_law_1421 (s_iadd dL_law_1422 (s_iaload dL_law_1423 (s_aload_n dL_law_1424 rfl (s_iload dL_law_1425 (s_iconst dL_law_1427 (s_iadd dL_law_1428 (s_iaload dL_law_1429 (s_aload_n dL_law_1430 rfl (s_iload dL_law_1431 (s_iconst dL_law_1433 (s_iadd dL_law_1434 (s_iaload dL_law_1435 (s_invB (w' := (g, d, ck - 90, sk - 8580, xL_law, Q)) (ci := 12) (ck := 0) (sk := 0) (T := TX12) (N := 49) dL_law_1436 m_X12_game rfl (by decide) qm_L_165 qi_X12_game qe_X12_game (lw_w0 _) (s_iceq (tgt := 1655) dL_law_1439 (by decide +kernel) (sk_id) (s_iconst dL_law_1442 (s_zret dL_law_1443 rfl))))))))))))))))))))))))))))))))))))))))))))))
set_option maxRecDepth 20000 in
def kL_law_1444 (g : sk_G) (d ck sk : Nat) (Q : sk_P) : sk_K := o_aload 1 (o_aload 0 (o_iload 4 (o_i (1) (o_iadd (o_iaload (o_aload 0 (o_iload 4 (o_i (2) (o_iadd (o_iaload (o_invB (g, d, ck, sk, xL_law, Q) xX11_rests 2 11 90 8580 (o_aload 2 (o_aload 0 (o_iload 4 (o_i (1) (o_iadd (o_iaload (o_aload 0 (o_iload 4 (o_i (2) (o_iadd (o_iaload (o_invB (g, d, ck - 90, sk - 8580, xL_law, Q) xX12_rests 2 12 0 0 (o_iceq (sk_B (g, d, ck - 90, sk - 8580, xL_law, Q) 1655) (o_i (0) (o_zret (g, d, ck - 90, sk - 8580, xL_law, Q)))))))))))))))))))))))))))
set_option maxRecDepth 20000 in
theorem tL_law_1444 {g : sk_G} {d ck sk : Nat} {Q : sk_P} : sk_S (g, d, ck, sk, xL_law, Q) 1444 (kL_law_1444 g d ck sk Q) := s_aload_n dL_law_1444 rfl (s_aload_n dL_law_1445 rfl (s_iload dL_law_1446 (s_iconst dL_law_1448 (s_iadd dL_law_1449 (s_iaload dL_law_1450 (s_aload_n dL_law_1451 rfl (s_iload dL_law_1452 (s_iconst dL_law_1454 (s_iadd dL_law_1455 (s_iaload dL_law_1456 (s_invB (w' := (g, d, ck - 90, sk - 8580, xL_law, Q)) (ci := 11) (ck := 90) (sk := 8580) (T := TX11) (N := 17) dL_law_1457 m_X11_rests rfl (by decide) qm_L_166 qi_X11_rests qe_X11_rests rfl (s_aload_n dL_law_1460 rfl (s_aload_n dL_law_1461 rfl (s_iload dL_law_1462 (s_iconst dL_law_1464 (s_iadd dL_law_1465 (s_iaload dL_law_1466 (s_aload_n dL_law_1467 rfl (s_iload dL_law_1468 (s_iconst dL_law_1470 (s_iadd dL_law_1471 (s_iaload dL_law_1472 (s_invB (w' := (g, d, ck - 90, sk - 8580, xL_law, Q)) (ci := 12) (ck := 0) (sk := 0) (T := TX12) (N := 49) dL_law_1473 m_X12_rests rfl (by decide) qm_L_169 qi_X12_rests qe_X12_rests (lw_w0 _) (s_iceq (tgt := 1655) dL_law_1476 (by decide +kernel) (sk_id) (s_iconst dL_law_1479 (s_zret dL_law_1480 rfl))))))))))))))))))))))))))
set_option maxRecDepth 20000 in
def kL_law_1481 (g : sk_G) (d ck sk : Nat) (Q : sk_P) : sk_K := o_aload 1 (o_aload 0 (o_iload 4 (o_i (1) (o_iadd (o_iaload (o_aload 0 (o_iload 4 (o_i (2) (o_iadd (o_iaload (o_aload 0 (o_iload 4 (o_i (3) (o_iadd (o_iaload (o_aload 0 (o_iload 4 (o_i (4) (o_iadd (o_iaload (o_invB (g, d, ck, sk, xL_law, Q) xX11_odds 4 11 90 8580 (o_aload 2 (o_aload 0 (o_iload 4 (o_i (1) (o_iadd (o_iaload (o_aload 0 (o_iload 4 (o_i (2) (o_iadd (o_iaload (o_aload 0 (o_iload 4 (o_i (3) (o_iadd (o_iaload (o_aload 0 (o_iload 4 (o_i (4) (o_iadd (o_iaload (o_invB (g, d, ck - 90, sk - 8580, xL_law, Q) xX12_odds 4 12 0 0 (o_iceq (sk_B (g, d, ck - 90, sk - 8580, xL_law, Q) 1655) (o_i (0) (o_zret (g, d, ck - 90, sk - 8580, xL_law, Q)))))))))))))))))))))))))))))))))))))))))))))))
set_option maxRecDepth 20000 in
theorem tL_law_1481 {g : sk_G} {d ck sk : Nat} {Q : sk_P} : sk_S (g, d, ck, sk, xL_law, Q) 1481 (kL_law_1481 g d ck sk Q) := s_aload_n dL_law_1481 rfl (s_aload_n dL_law_1482 rfl (s_iload dL_law_1483 (s_iconst dL_law_1485 (s_iadd dL_law_1486 (s_iaload dL_law_1487 (s_aload_n dL_law_1488 rfl (s_iload dL_law_1489 (s_iconst dL_law_1491 (s_iadd dL_law_1492 (s_iaload dL_law_1493 (s_aload_n dL_law_1494 rfl (s_iload dL_law_1495 (s_iconst dL_law_1497 (s_iadd dL_law_1498 (s_iaload dL_law_1499 (s_aload_n dL_law_1500 rfl (s_iload dL_law_1501 (s_iconst dL_law_1503 (s_iadd dL_law_1504 (s_iaload dL_law_1505 (s_invB (w' := (g, d, ck - 90, sk - 8580, xL_law, Q)) (ci := 11) (ck := 90) (sk := 8580) (T := TX11) (N := 17) dL_law_1506 m_X11_odds rfl (by decide) qm_L_170 qi_X11_odds qe_X11_odds rfl (s_aload_n dL_law_1509 rfl (s_aload_n dL_law_1510 rfl (s_iload dL_law_1511 (s_iconst dL_law_1513 (s_iadd dL_law_1514 (s_iaload dL_law_1515 (s_aload_n dL_law_1516 rfl (s_iload dL_law_1517 (s_iconst dL_law_1519 (s_iadd dL_law_1520 (s_iaload dL_law_1521 (s_aload_n dL_law_1522 rfl (s_iload dL_law_1523 (s_iconst dL_law_1525 (s_iadd dL_law_1526 (s_iaload dL_law_1527 (s_aload_n dL_law_1528 rfl (s_iload dL_law_1529 (s_iconst dL_law_1531 (s_iadd dL_law_1532 (s_iaload dL_law_1533 (s_invB (w' := (g, d, ck - 90, sk - 8580, xL_law, Q)) (ci := 12) (ck := 0) (sk := 0) (T := TX12) (N := 49) dL_law_1534 m_X12_odds rfl (by decide) qm_L_173 qi_X12_odds qe_X12_odds (lw_w0 _) (s_iceq (tgt := 1655) dL_law_1537 (by decide +kernel) (sk_id) (s_iconst dL_law_1540 (s_zret dL_law_1541 rfl))))))))))))))))))))))))))))))))))))))))))))))
set_option maxRecDepth 20000 in
def kL_law_1542 (g : sk_G) (d ck sk : Nat) (Q : sk_P) : sk_K := o_aload 1 (o_aload 0 (o_iload 4 (o_i (1) (o_iadd (o_iaload (o_aload 0 (o_iload 4 (o_i (2) (o_iadd (o_iaload (o_invB (g, d, ck, sk, xL_law, Q) xX11_shares 2 11 90 8580 (o_aload 2 (o_aload 0 (o_iload 4 (o_i (1) (o_iadd (o_iaload (o_aload 0 (o_iload 4 (o_i (2) (o_iadd (o_iaload (o_invB (g, d, ck - 90, sk - 8580, xL_law, Q) xX12_shares 2 12 0 0 (o_iceq (sk_B (g, d, ck - 90, sk - 8580, xL_law, Q) 1655) (o_i (0) (o_zret (g, d, ck - 90, sk - 8580, xL_law, Q)))))))))))))))))))))))))))
set_option maxRecDepth 20000 in
theorem tL_law_1542 {g : sk_G} {d ck sk : Nat} {Q : sk_P} : sk_S (g, d, ck, sk, xL_law, Q) 1542 (kL_law_1542 g d ck sk Q) := s_aload_n dL_law_1542 rfl (s_aload_n dL_law_1543 rfl (s_iload dL_law_1544 (s_iconst dL_law_1546 (s_iadd dL_law_1547 (s_iaload dL_law_1548 (s_aload_n dL_law_1549 rfl (s_iload dL_law_1550 (s_iconst dL_law_1552 (s_iadd dL_law_1553 (s_iaload dL_law_1554 (s_invB (w' := (g, d, ck - 90, sk - 8580, xL_law, Q)) (ci := 11) (ck := 90) (sk := 8580) (T := TX11) (N := 17) dL_law_1555 m_X11_shares rfl (by decide) qm_L_174 qi_X11_shares qe_X11_shares rfl (s_aload_n dL_law_1558 rfl (s_aload_n dL_law_1559 rfl (s_iload dL_law_1560 (s_iconst dL_law_1562 (s_iadd dL_law_1563 (s_iaload dL_law_1564 (s_aload_n dL_law_1565 rfl (s_iload dL_law_1566 (s_iconst dL_law_1568 (s_iadd dL_law_1569 (s_iaload dL_law_1570 (s_invB (w' := (g, d, ck - 90, sk - 8580, xL_law, Q)) (ci := 12) (ck := 0) (sk := 0) (T := TX12) (N := 49) dL_law_1571 m_X12_shares rfl (by decide) qm_L_177 qi_X12_shares qe_X12_shares (lw_w0 _) (s_iceq (tgt := 1655) dL_law_1574 (by decide +kernel) (sk_id) (s_iconst dL_law_1577 (s_zret dL_law_1578 rfl))))))))))))))))))))))))))
set_option maxRecDepth 20000 in
def kL_law_1579 (g : sk_G) (d ck sk : Nat) (Q : sk_P) : sk_K := o_aload 1 (o_aload 0 (o_iload 4 (o_i (1) (o_iadd (o_iaload (o_invB (g, d, ck, sk, xL_law, Q) xX11_most 1 11 90 8580 (o_aload 2 (o_aload 0 (o_iload 4 (o_i (1) (o_iadd (o_iaload (o_invB (g, d, ck - 90, sk - 8580, xL_law, Q) xX12_most 1 12 0 0 (o_iceq (sk_B (g, d, ck - 90, sk - 8580, xL_law, Q) 1655) (o_i (0) (o_zret (g, d, ck - 90, sk - 8580, xL_law, Q)))))))))))))))))
set_option maxRecDepth 20000 in
theorem tL_law_1579 {g : sk_G} {d ck sk : Nat} {Q : sk_P} : sk_S (g, d, ck, sk, xL_law, Q) 1579 (kL_law_1579 g d ck sk Q) := s_aload_n dL_law_1579 rfl (s_aload_n dL_law_1580 rfl (s_iload dL_law_1581 (s_iconst dL_law_1583 (s_iadd dL_law_1584 (s_iaload dL_law_1585 (s_invB (w' := (g, d, ck - 90, sk - 8580, xL_law, Q)) (ci := 11) (ck := 90) (sk := 8580) (T := TX11) (N := 17) dL_law_1586 m_X11_most rfl (by decide) qm_L_178 qi_X11_most qe_X11_most rfl (s_aload_n dL_law_1589 rfl (s_aload_n dL_law_1590 rfl (s_iload dL_law_1591 (s_iconst dL_law_1593 (s_iadd dL_law_1594 (s_iaload dL_law_1595 (s_invB (w' := (g, d, ck - 90, sk - 8580, xL_law, Q)) (ci := 12) (ck := 0) (sk := 0) (T := TX12) (N := 49) dL_law_1596 m_X12_most rfl (by decide) qm_L_181 qi_X12_most qe_X12_most (lw_w0 _) (s_iceq (tgt := 1655) dL_law_1599 (by decide +kernel) (sk_id) (s_iconst dL_law_1602 (s_zret dL_law_1603 rfl))))))))))))))))
set_option maxRecDepth 20000 in
def kL_law_1604 (g : sk_G) (d ck sk : Nat) (Q : sk_P) : sk_K := o_aload 1 (o_invB (g, d, ck, sk, xL_law, Q) xX11_image 0 11 90 8580 (o_aload 2 (o_invB (g, d, ck - 90, sk - 8580, xL_law, Q) xX12_image 0 12 0 0 (o_iceq (sk_B (g, d, ck - 90, sk - 8580, xL_law, Q) 1655) (o_i (0) (o_zret (g, d, ck - 90, sk - 8580, xL_law, Q)))))))
set_option maxRecDepth 20000 in
theorem tL_law_1604 {g : sk_G} {d ck sk : Nat} {Q : sk_P} : sk_S (g, d, ck, sk, xL_law, Q) 1604 (kL_law_1604 g d ck sk Q) := s_aload_n dL_law_1604 rfl (s_invB (w' := (g, d, ck - 90, sk - 8580, xL_law, Q)) (ci := 11) (ck := 90) (sk := 8580) (T := TX11) (N := 17) dL_law_1605 m_X11_image rfl (by decide) qm_L_182 qi_X11_image qe_X11_image rfl (s_aload_n dL_law_1608 rfl (s_invB (w' := (g, d, ck - 90, sk - 8580, xL_law, Q)) (ci := 12) (ck := 0) (sk := 0) (T := TX12) (N := 49) dL_law_1609 m_X12_image rfl (by decide) qm_L_185 qi_X12_image qe_X12_image (lw_w0 _) (s_iceq (tgt := 1655) dL_law_1612 (by decide +kernel) (sk_id) (s_iconst dL_law_1615 (s_zret dL_law_1616 rfl))))))
set_option maxRecDepth 20000 in
def kL_law_1617 (g : sk_G) (d ck sk : Nat) (Q : sk_P) : sk_K := o_aload 1 (o_invB (g, d, ck, sk, xL_law, Q) xX11_back 0 11 90 8580 (o_aload 2 (o_invB (g, d, ck - 90, sk - 8580, xL_law, Q) xX12_back 0 12 0 0 (o_iceq (sk_B (g, d, ck - 90, sk - 8580, xL_law, Q) 1655) (o_i (0) (o_zret (g, d, ck - 90, sk - 8580, xL_law, Q)))))))
set_option maxRecDepth 20000 in
theorem tL_law_1617 {g : sk_G} {d ck sk : Nat} {Q : sk_P} : sk_S (g, d, ck, sk, xL_law, Q) 1617 (kL_law_1617 g d ck sk Q) := s_aload_n dL_law_1617 rfl (s_invB (w' := (g, d, ck - 90, sk - 8580, xL_law, Q)) (ci := 11) (ck := 90) (sk := 8580) (T := TX11) (N := 17) dL_law_1618 m_X11_back rfl (by decide) qm_L_186 qi_X11_back qe_X11_back rfl (s_aload_n dL_law_1621 rfl (s_invB (w' := (g, d, ck - 90, sk - 8580, xL_law, Q)) (ci := 12) (ck := 0) (sk := 0) (T := TX12) (N := 49) dL_law_1622 m_X12_back rfl (by decide) qm_L_189 qi_X12_back qe_X12_back (lw_w0 _) (s_iceq (tgt := 1655) dL_law_1625 (by decide +kernel) (sk_id) (s_iconst dL_law_1628 (s_zret dL_law_1629 rfl))))))
set_option maxRecDepth 20000 in
def kL_law_1630 (g : sk_G) (d ck sk : Nat) (Q : sk_P) : sk_K := o_aload 1 (o_aload 0 (o_iload 4 (o_i (1) (o_iadd (o_iaload (o_invB (g, d, ck, sk, xL_law, Q) xX11_count 1 11 90 8580 (o_aload 2 (o_aload 0 (o_iload 4 (o_i (1) (o_iadd (o_iaload (o_invB (g, d, ck - 90, sk - 8580, xL_law, Q) xX12_count 1 12 0 0 (o_iceq (sk_B (g, d, ck - 90, sk - 8580, xL_law, Q) 1655) (o_i (0) (o_zret (g, d, ck - 90, sk - 8580, xL_law, Q)))))))))))))))))
set_option maxRecDepth 20000 in
theorem tL_law_1630 {g : sk_G} {d ck sk : Nat} {Q : sk_P} : sk_S (g, d, ck, sk, xL_law, Q) 1630 (kL_law_1630 g d ck sk Q) := s_aload_n dL_law_1630 rfl (s_aload_n dL_law_1631 rfl (s_iload dL_law_1632 (s_iconst dL_law_1634 (s_iadd dL_law_1635 (s_iaload dL_law_1636 (s_invB (w' := (g, d, ck - 90, sk - 8580, xL_law, Q)) (ci := 11) (ck := 90) (sk := 8580) (T := TX11) (N := 17) dL_law_1637 m_X11_count rfl (by decide) qm_L_190 qi_X11_count qe_X11_count rfl (s_aload_n dL_law_1640 rfl (s_aload_n dL_law_1641 rfl (s_iload dL_law_1642 (s_iconst dL_law_1644 (s_iadd dL_law_1645 (s_iaload dL_law_1646 (s_invB (w' := (g, d, ck - 90, sk - 8580, xL_law, Q)) (ci := 12) (ck := 0) (sk := 0) (T := TX12) (N := 49) dL_law_1647 m_X12_count rfl (by decide) qm_L_193 qi_X12_count qe_X12_count (lw_w0 _) (s_iceq (tgt := 1655) dL_law_1650 (by decide +kernel) (sk_id) (s_iconst dL_law_1653 (s_zret dL_law_1654 rfl))))))))))))))))
set_option maxRecDepth 20000 in
def kL_law_1655 (g : sk_G) (d ck sk : Nat) (Q : sk_P) : sk_K := o_iinc 4 (6) (sk_B (g, d, ck, sk, xL_law, Q) 23)
set_option maxRecDepth 20000 in
theorem tL_law_1655 {g : sk_G} {d ck sk : Nat} {Q : sk_P} : sk_S (g, d, ck, sk, xL_law, Q) 1655 (kL_law_1655 g d ck sk Q) := s_iinc dL_law_1655 (by decide : 4 < 7) (s_goto (tgt := 23) dL_law_1658 (by decide +kernel) (sk_id))
set_option maxRecDepth 20000 in
def kL_law_1661 (g : sk_G) (d ck sk : Nat) (Q : sk_P) : sk_K := o_i (1) (o_zret (g, d, ck, sk, xL_law, Q))
set_option maxRecDepth 20000 in
theorem tL_law_1661 {g : sk_G} {d ck sk : Nat} {Q : sk_P} : sk_S (g, d, ck, sk, xL_law, Q) 1661 (kL_law_1661 g d ck sk Q) := s_iconst dL_law_1661 (s_zret dL_law_1662 rfl)
