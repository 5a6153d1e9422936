/-! labels and entries (by wip/whole/gen26.py) -/
section ZL
variable {call : Nat → List ZV → ZM → ZO} {ls st : List ZV} {μ : ZM}
theorem r_J6_bitCount_0f7a4_0 : zrun call (zseg j_J6_bitCount_0f7a4) 0 ls st μ = zexec call (zrun call (zseg j_J6_bitCount_0f7a4)) s_J6_bitCount_0f7a4_0 ls st μ := zrun_eq
theorem r_J0_length_8abf5_0 : zrun call (zseg j_J0_length_8abf5) 0 ls st μ = zexec call (zrun call (zseg j_J0_length_8abf5)) s_J0_length_8abf5_0 ls st μ := zrun_eq
theorem r_J0_charAt_5068e_0 : zrun call (zseg j_J0_charAt_5068e) 0 ls st μ = zexec call (zrun call (zseg j_J0_charAt_5068e)) s_J0_charAt_5068e_0 ls st μ := zrun_eq
theorem r_J0_coder_7d493_0 : zrun call (zseg j_J0_coder_7d493) 0 ls st μ = zexec call (zrun call (zseg j_J0_coder_7d493)) s_J0_coder_7d493_0 ls st μ := zrun_eq
theorem r_J0_coder_7d493_13 : zrun call (zseg j_J0_coder_7d493) 13 ls st μ = zexec call (zrun call (zseg j_J0_coder_7d493)) s_J0_coder_7d493_13 ls st μ := zrun_eq
theorem r_J0_coder_7d493_14 : zrun call (zseg j_J0_coder_7d493) 14 ls st μ = zexec call (zrun call (zseg j_J0_coder_7d493)) s_J0_coder_7d493_14 ls st μ := zrun_eq
theorem r_J0_isLatin1_aae02_0 : zrun call (zseg j_J0_isLatin1_aae02) 0 ls st μ = zexec call (zrun call (zseg j_J0_isLatin1_aae02)) s_J0_isLatin1_aae02_0 ls st μ := zrun_eq
theorem r_J0_isLatin1_aae02_17 : zrun call (zseg j_J0_isLatin1_aae02) 17 ls st μ = zexec call (zrun call (zseg j_J0_isLatin1_aae02)) s_J0_isLatin1_aae02_17 ls st μ := zrun_eq
theorem r_J0_isLatin1_aae02_18 : zrun call (zseg j_J0_isLatin1_aae02) 18 ls st μ = zexec call (zrun call (zseg j_J0_isLatin1_aae02)) s_J0_isLatin1_aae02_18 ls st μ := zrun_eq
theorem r_J0_checkIndex_df160_0 : zrun call (zseg j_J0_checkIndex_df160) 0 ls st μ = zexec call (zrun call (zseg j_J0_checkIndex_df160)) s_J0_checkIndex_df160_0 ls st μ := zrun_eq
theorem r_J1_charAt_3b067_0 : zrun call (zseg j_J1_charAt_3b067) 0 ls st μ = zexec call (zrun call (zseg j_J1_charAt_3b067)) s_J1_charAt_3b067_0 ls st μ := zrun_eq
theorem r_J7_fill_d0a16_0 : zrun call (zseg j_J7_fill_d0a16) 0 ls st μ = zexec call (zrun call (zseg j_J7_fill_d0a16)) s_J7_fill_d0a16_0 ls st μ := zrun_eq
theorem r_J7_fill_d0a16_6 : zrun call (zseg j_J7_fill_d0a16) 6 ls st μ = zexec call (zrun call (zseg j_J7_fill_d0a16)) s_J7_fill_d0a16_6 ls st μ := zrun_eq
theorem r_J7_fill_d0a16_22 : zrun call (zseg j_J7_fill_d0a16) 22 ls st μ = zexec call (zrun call (zseg j_J7_fill_d0a16)) s_J7_fill_d0a16_22 ls st μ := zrun_eq
theorem r_J7_fill_53178_0 : zrun call (zseg j_J7_fill_53178) 0 ls st μ = zexec call (zrun call (zseg j_J7_fill_53178)) s_J7_fill_53178_0 ls st μ := zrun_eq
theorem r_J7_fill_53178_5 : zrun call (zseg j_J7_fill_53178) 5 ls st μ = zexec call (zrun call (zseg j_J7_fill_53178)) s_J7_fill_53178_5 ls st μ := zrun_eq
theorem r_J7_fill_53178_20 : zrun call (zseg j_J7_fill_53178) 20 ls st μ = zexec call (zrun call (zseg j_J7_fill_53178)) s_J7_fill_53178_20 ls st μ := zrun_eq
theorem r_J3_checkIndex_8e157_0 : zrun call (zseg j_J3_checkIndex_8e157) 0 ls st μ = zexec call (zrun call (zseg j_J3_checkIndex_8e157)) s_J3_checkIndex_8e157_0 ls st μ := zrun_eq
theorem r_J3_checkIndex_8e157_16 : zrun call (zseg j_J3_checkIndex_8e157) 16 ls st μ = zexec call (zrun call (zseg j_J3_checkIndex_8e157)) s_J3_checkIndex_8e157_16 ls st μ := zrun_eq
theorem r_X0_init_0 : zrun call (zseg j_X0_init) 0 ls st μ = zexec call (zrun call (zseg j_X0_init)) s_X0_init_0 ls st μ := zrun_eq
theorem r_X0_observe_0 : zrun call (zseg j_X0_observe) 0 ls st μ = zexec call (zrun call (zseg j_X0_observe)) s_X0_observe_0 ls st μ := zrun_eq
theorem r_X0_observe_10 : zrun call (zseg j_X0_observe) 10 ls st μ = zexec call (zrun call (zseg j_X0_observe)) s_X0_observe_10 ls st μ := zrun_eq
theorem r_X0_observe_36 : zrun call (zseg j_X0_observe) 36 ls st μ = zexec call (zrun call (zseg j_X0_observe)) s_X0_observe_36 ls st μ := zrun_eq
theorem r_X0_canBe_0 : zrun call (zseg j_X0_canBe) 0 ls st μ = zexec call (zrun call (zseg j_X0_canBe)) s_X0_canBe_0 ls st μ := zrun_eq
theorem r_X0_canBe_14 : zrun call (zseg j_X0_canBe) 14 ls st μ = zexec call (zrun call (zseg j_X0_canBe)) s_X0_canBe_14 ls st μ := zrun_eq
theorem r_X0_canBe_15 : zrun call (zseg j_X0_canBe) 15 ls st μ = zexec call (zrun call (zseg j_X0_canBe)) s_X0_canBe_15 ls st μ := zrun_eq
theorem r_X0_canBe_16 : zrun call (zseg j_X0_canBe) 16 ls st μ = zexec call (zrun call (zseg j_X0_canBe)) s_X0_canBe_16 ls st μ := zrun_eq
theorem r_X0_canBe_31 : zrun call (zseg j_X0_canBe) 31 ls st μ = zexec call (zrun call (zseg j_X0_canBe)) s_X0_canBe_31 ls st μ := zrun_eq
theorem r_X0_canBe_32 : zrun call (zseg j_X0_canBe) 32 ls st μ = zexec call (zrun call (zseg j_X0_canBe)) s_X0_canBe_32 ls st μ := zrun_eq
theorem r_X0_canBe_53 : zrun call (zseg j_X0_canBe) 53 ls st μ = zexec call (zrun call (zseg j_X0_canBe)) s_X0_canBe_53 ls st μ := zrun_eq
theorem r_X0_canBe_57 : zrun call (zseg j_X0_canBe) 57 ls st μ = zexec call (zrun call (zseg j_X0_canBe)) s_X0_canBe_57 ls st μ := zrun_eq
theorem r_X0_canBe_58 : zrun call (zseg j_X0_canBe) 58 ls st μ = zexec call (zrun call (zseg j_X0_canBe)) s_X0_canBe_58 ls st μ := zrun_eq
theorem r_X0_dropObserved_0 : zrun call (zseg j_X0_dropObserved) 0 ls st μ = zexec call (zrun call (zseg j_X0_dropObserved)) s_X0_dropObserved_0 ls st μ := zrun_eq
theorem r_X0_dropObserved_7 : zrun call (zseg j_X0_dropObserved) 7 ls st μ = zexec call (zrun call (zseg j_X0_dropObserved)) s_X0_dropObserved_7 ls st μ := zrun_eq
theorem r_X0_dropObserved_26 : zrun call (zseg j_X0_dropObserved) 26 ls st μ = zexec call (zrun call (zseg j_X0_dropObserved)) s_X0_dropObserved_26 ls st μ := zrun_eq
theorem r_X0_seek_0 : zrun call (zseg j_X0_seek) 0 ls st μ = zexec call (zrun call (zseg j_X0_seek)) s_X0_seek_0 ls st μ := zrun_eq
theorem r_X0_seek_9 : zrun call (zseg j_X0_seek) 9 ls st μ = zexec call (zrun call (zseg j_X0_seek)) s_X0_seek_9 ls st μ := zrun_eq
theorem r_X0_seek_31 : zrun call (zseg j_X0_seek) 31 ls st μ = zexec call (zrun call (zseg j_X0_seek)) s_X0_seek_31 ls st μ := zrun_eq
theorem r_X0_seek_49 : zrun call (zseg j_X0_seek) 49 ls st μ = zexec call (zrun call (zseg j_X0_seek)) s_X0_seek_49 ls st μ := zrun_eq
theorem r_X0_seek_103 : zrun call (zseg j_X0_seek) 103 ls st μ = zexec call (zrun call (zseg j_X0_seek)) s_X0_seek_103 ls st μ := zrun_eq
theorem r_X0_seek_119 : zrun call (zseg j_X0_seek) 119 ls st μ = zexec call (zrun call (zseg j_X0_seek)) s_X0_seek_119 ls st μ := zrun_eq
theorem r_X0_seek_125 : zrun call (zseg j_X0_seek) 125 ls st μ = zexec call (zrun call (zseg j_X0_seek)) s_X0_seek_125 ls st μ := zrun_eq
theorem r_X0_seek_133 : zrun call (zseg j_X0_seek) 133 ls st μ = zexec call (zrun call (zseg j_X0_seek)) s_X0_seek_133 ls st μ := zrun_eq
theorem r_X0_seek_163 : zrun call (zseg j_X0_seek) 163 ls st μ = zexec call (zrun call (zseg j_X0_seek)) s_X0_seek_163 ls st μ := zrun_eq
theorem r_X0_seek_165 : zrun call (zseg j_X0_seek) 165 ls st μ = zexec call (zrun call (zseg j_X0_seek)) s_X0_seek_165 ls st μ := zrun_eq
theorem r_X0_seek_167 : zrun call (zseg j_X0_seek) 167 ls st μ = zexec call (zrun call (zseg j_X0_seek)) s_X0_seek_167 ls st μ := zrun_eq
theorem r_X0_seek_226 : zrun call (zseg j_X0_seek) 226 ls st μ = zexec call (zrun call (zseg j_X0_seek)) s_X0_seek_226 ls st μ := zrun_eq
theorem r_X0_seek_227 : zrun call (zseg j_X0_seek) 227 ls st μ = zexec call (zrun call (zseg j_X0_seek)) s_X0_seek_227 ls st μ := zrun_eq
theorem r_X0_seek_248 : zrun call (zseg j_X0_seek) 248 ls st μ = zexec call (zrun call (zseg j_X0_seek)) s_X0_seek_248 ls st μ := zrun_eq
theorem r_X0_seek_254 : zrun call (zseg j_X0_seek) 254 ls st μ = zexec call (zrun call (zseg j_X0_seek)) s_X0_seek_254 ls st μ := zrun_eq
theorem r_X0_seek_260 : zrun call (zseg j_X0_seek) 260 ls st μ = zexec call (zrun call (zseg j_X0_seek)) s_X0_seek_260 ls st μ := zrun_eq
theorem r_X0_isWorthTrying_0 : zrun call (zseg j_X0_isWorthTrying) 0 ls st μ = zexec call (zrun call (zseg j_X0_isWorthTrying)) s_X0_isWorthTrying_0 ls st μ := zrun_eq
theorem r_X0_isWorthTrying_15 : zrun call (zseg j_X0_isWorthTrying) 15 ls st μ = zexec call (zrun call (zseg j_X0_isWorthTrying)) s_X0_isWorthTrying_15 ls st μ := zrun_eq
theorem r_X0_isWorthTrying_57 : zrun call (zseg j_X0_isWorthTrying) 57 ls st μ = zexec call (zrun call (zseg j_X0_isWorthTrying)) s_X0_isWorthTrying_57 ls st μ := zrun_eq
theorem r_X0_isWorthTrying_58 : zrun call (zseg j_X0_isWorthTrying) 58 ls st μ = zexec call (zrun call (zseg j_X0_isWorthTrying)) s_X0_isWorthTrying_58 ls st μ := zrun_eq
theorem r_X0_isWorthTrying_59 : zrun call (zseg j_X0_isWorthTrying) 59 ls st μ = zexec call (zrun call (zseg j_X0_isWorthTrying)) s_X0_isWorthTrying_59 ls st μ := zrun_eq
theorem r_X0_isWorthTrying_67 : zrun call (zseg j_X0_isWorthTrying) 67 ls st μ = zexec call (zrun call (zseg j_X0_isWorthTrying)) s_X0_isWorthTrying_67 ls st μ := zrun_eq
theorem r_X0_isWorthTrying_99 : zrun call (zseg j_X0_isWorthTrying) 99 ls st μ = zexec call (zrun call (zseg j_X0_isWorthTrying)) s_X0_isWorthTrying_99 ls st μ := zrun_eq
theorem r_X0_isWorthTrying_100 : zrun call (zseg j_X0_isWorthTrying) 100 ls st μ = zexec call (zrun call (zseg j_X0_isWorthTrying)) s_X0_isWorthTrying_100 ls st μ := zrun_eq
theorem r_X0_canMatter_0 : zrun call (zseg j_X0_canMatter) 0 ls st μ = zexec call (zrun call (zseg j_X0_canMatter)) s_X0_canMatter_0 ls st μ := zrun_eq
theorem r_X0_canMatter_26 : zrun call (zseg j_X0_canMatter) 26 ls st μ = zexec call (zrun call (zseg j_X0_canMatter)) s_X0_canMatter_26 ls st μ := zrun_eq
theorem r_X0_canMatter_27 : zrun call (zseg j_X0_canMatter) 27 ls st μ = zexec call (zrun call (zseg j_X0_canMatter)) s_X0_canMatter_27 ls st μ := zrun_eq
theorem r_X0_canMatter_28 : zrun call (zseg j_X0_canMatter) 28 ls st μ = zexec call (zrun call (zseg j_X0_canMatter)) s_X0_canMatter_28 ls st μ := zrun_eq
theorem r_X0_canMatter_54 : zrun call (zseg j_X0_canMatter) 54 ls st μ = zexec call (zrun call (zseg j_X0_canMatter)) s_X0_canMatter_54 ls st μ := zrun_eq
theorem r_X0_canMatter_55 : zrun call (zseg j_X0_canMatter) 55 ls st μ = zexec call (zrun call (zseg j_X0_canMatter)) s_X0_canMatter_55 ls st μ := zrun_eq
theorem r_X0_canMatter_56 : zrun call (zseg j_X0_canMatter) 56 ls st μ = zexec call (zrun call (zseg j_X0_canMatter)) s_X0_canMatter_56 ls st μ := zrun_eq
theorem r_X0_canMatter_80 : zrun call (zseg j_X0_canMatter) 80 ls st μ = zexec call (zrun call (zseg j_X0_canMatter)) s_X0_canMatter_80 ls st μ := zrun_eq
theorem r_X0_canMatter_84 : zrun call (zseg j_X0_canMatter) 84 ls st μ = zexec call (zrun call (zseg j_X0_canMatter)) s_X0_canMatter_84 ls st μ := zrun_eq
theorem r_X0_canMatter_85 : zrun call (zseg j_X0_canMatter) 85 ls st μ = zexec call (zrun call (zseg j_X0_canMatter)) s_X0_canMatter_85 ls st μ := zrun_eq
theorem r_X0_explains_0 : zrun call (zseg j_X0_explains) 0 ls st μ = zexec call (zrun call (zseg j_X0_explains)) s_X0_explains_0 ls st μ := zrun_eq
theorem r_X0_explains_49 : zrun call (zseg j_X0_explains) 49 ls st μ = zexec call (zrun call (zseg j_X0_explains)) s_X0_explains_49 ls st μ := zrun_eq
theorem r_X0_explains_56 : zrun call (zseg j_X0_explains) 56 ls st μ = zexec call (zrun call (zseg j_X0_explains)) s_X0_explains_56 ls st μ := zrun_eq
theorem r_X0_explains_57 : zrun call (zseg j_X0_explains) 57 ls st μ = zexec call (zrun call (zseg j_X0_explains)) s_X0_explains_57 ls st μ := zrun_eq
theorem r_X0_explains_65 : zrun call (zseg j_X0_explains) 65 ls st μ = zexec call (zrun call (zseg j_X0_explains)) s_X0_explains_65 ls st μ := zrun_eq
theorem r_X0_explains_94 : zrun call (zseg j_X0_explains) 94 ls st μ = zexec call (zrun call (zseg j_X0_explains)) s_X0_explains_94 ls st μ := zrun_eq
theorem r_X0_explains_114 : zrun call (zseg j_X0_explains) 114 ls st μ = zexec call (zrun call (zseg j_X0_explains)) s_X0_explains_114 ls st μ := zrun_eq
theorem r_X0_explains_120 : zrun call (zseg j_X0_explains) 120 ls st μ = zexec call (zrun call (zseg j_X0_explains)) s_X0_explains_120 ls st μ := zrun_eq
theorem r_X0_putFlaw_0 : zrun call (zseg j_X0_putFlaw) 0 ls st μ = zexec call (zrun call (zseg j_X0_putFlaw)) s_X0_putFlaw_0 ls st μ := zrun_eq
theorem r_X0_putFlaw_11 : zrun call (zseg j_X0_putFlaw) 11 ls st μ = zexec call (zrun call (zseg j_X0_putFlaw)) s_X0_putFlaw_11 ls st μ := zrun_eq
theorem r_X0_putFlaw_12 : zrun call (zseg j_X0_putFlaw) 12 ls st μ = zexec call (zrun call (zseg j_X0_putFlaw)) s_X0_putFlaw_12 ls st μ := zrun_eq
theorem r_X0_putFlaw_40 : zrun call (zseg j_X0_putFlaw) 40 ls st μ = zexec call (zrun call (zseg j_X0_putFlaw)) s_X0_putFlaw_40 ls st μ := zrun_eq
theorem r_X0_putFlaw_73 : zrun call (zseg j_X0_putFlaw) 73 ls st μ = zexec call (zrun call (zseg j_X0_putFlaw)) s_X0_putFlaw_73 ls st μ := zrun_eq
theorem r_X0_putFlaw_97 : zrun call (zseg j_X0_putFlaw) 97 ls st μ = zexec call (zrun call (zseg j_X0_putFlaw)) s_X0_putFlaw_97 ls st μ := zrun_eq
theorem r_X0_putFlaw_116 : zrun call (zseg j_X0_putFlaw) 116 ls st μ = zexec call (zrun call (zseg j_X0_putFlaw)) s_X0_putFlaw_116 ls st μ := zrun_eq
theorem r_X0_isSeenSo_0 : zrun call (zseg j_X0_isSeenSo) 0 ls st μ = zexec call (zrun call (zseg j_X0_isSeenSo)) s_X0_isSeenSo_0 ls st μ := zrun_eq
theorem r_X0_isSeenSo_3 : zrun call (zseg j_X0_isSeenSo) 3 ls st μ = zexec call (zrun call (zseg j_X0_isSeenSo)) s_X0_isSeenSo_3 ls st μ := zrun_eq
theorem r_X0_isSeenSo_66 : zrun call (zseg j_X0_isSeenSo) 66 ls st μ = zexec call (zrun call (zseg j_X0_isSeenSo)) s_X0_isSeenSo_66 ls st μ := zrun_eq
theorem r_X0_isSeenSo_70 : zrun call (zseg j_X0_isSeenSo) 70 ls st μ = zexec call (zrun call (zseg j_X0_isSeenSo)) s_X0_isSeenSo_70 ls st μ := zrun_eq
theorem r_X0_isSeenSo_71 : zrun call (zseg j_X0_isSeenSo) 71 ls st μ = zexec call (zrun call (zseg j_X0_isSeenSo)) s_X0_isSeenSo_71 ls st μ := zrun_eq
theorem r_X0_isSeenSo_92 : zrun call (zseg j_X0_isSeenSo) 92 ls st μ = zexec call (zrun call (zseg j_X0_isSeenSo)) s_X0_isSeenSo_92 ls st μ := zrun_eq
theorem r_X0_isSeenSo_96 : zrun call (zseg j_X0_isSeenSo) 96 ls st μ = zexec call (zrun call (zseg j_X0_isSeenSo)) s_X0_isSeenSo_96 ls st μ := zrun_eq
theorem r_X0_isSeenSo_97 : zrun call (zseg j_X0_isSeenSo) 97 ls st μ = zexec call (zrun call (zseg j_X0_isSeenSo)) s_X0_isSeenSo_97 ls st μ := zrun_eq
theorem r_X0_isSeenSo_130 : zrun call (zseg j_X0_isSeenSo) 130 ls st μ = zexec call (zrun call (zseg j_X0_isSeenSo)) s_X0_isSeenSo_130 ls st μ := zrun_eq
theorem r_X0_isSeenSo_131 : zrun call (zseg j_X0_isSeenSo) 131 ls st μ = zexec call (zrun call (zseg j_X0_isSeenSo)) s_X0_isSeenSo_131 ls st μ := zrun_eq
theorem r_X0_isSeenSo_136 : zrun call (zseg j_X0_isSeenSo) 136 ls st μ = zexec call (zrun call (zseg j_X0_isSeenSo)) s_X0_isSeenSo_136 ls st μ := zrun_eq
theorem r_X0_isSeenSo_142 : zrun call (zseg j_X0_isSeenSo) 142 ls st μ = zexec call (zrun call (zseg j_X0_isSeenSo)) s_X0_isSeenSo_142 ls st μ := zrun_eq
theorem r_X0_allSeenBy_0 : zrun call (zseg j_X0_allSeenBy) 0 ls st μ = zexec call (zrun call (zseg j_X0_allSeenBy)) s_X0_allSeenBy_0 ls st μ := zrun_eq
theorem r_X0_allSeenBy_2 : zrun call (zseg j_X0_allSeenBy) 2 ls st μ = zexec call (zrun call (zseg j_X0_allSeenBy)) s_X0_allSeenBy_2 ls st μ := zrun_eq
theorem r_X0_allSeenBy_39 : zrun call (zseg j_X0_allSeenBy) 39 ls st μ = zexec call (zrun call (zseg j_X0_allSeenBy)) s_X0_allSeenBy_39 ls st μ := zrun_eq
theorem r_X0_allSeenBy_41 : zrun call (zseg j_X0_allSeenBy) 41 ls st μ = zexec call (zrun call (zseg j_X0_allSeenBy)) s_X0_allSeenBy_41 ls st μ := zrun_eq
theorem r_X0_allSeenBy_47 : zrun call (zseg j_X0_allSeenBy) 47 ls st μ = zexec call (zrun call (zseg j_X0_allSeenBy)) s_X0_allSeenBy_47 ls st μ := zrun_eq
theorem r_X0_firstToFail_0 : zrun call (zseg j_X0_firstToFail) 0 ls st μ = zexec call (zrun call (zseg j_X0_firstToFail)) s_X0_firstToFail_0 ls st μ := zrun_eq
theorem r_X0_firstToFail_11 : zrun call (zseg j_X0_firstToFail) 11 ls st μ = zexec call (zrun call (zseg j_X0_firstToFail)) s_X0_firstToFail_11 ls st μ := zrun_eq
theorem r_X0_firstToFail_71 : zrun call (zseg j_X0_firstToFail) 71 ls st μ = zexec call (zrun call (zseg j_X0_firstToFail)) s_X0_firstToFail_71 ls st μ := zrun_eq
theorem r_X0_firstToFail_104 : zrun call (zseg j_X0_firstToFail) 104 ls st μ = zexec call (zrun call (zseg j_X0_firstToFail)) s_X0_firstToFail_104 ls st μ := zrun_eq
theorem r_X0_firstToFail_120 : zrun call (zseg j_X0_firstToFail) 120 ls st μ = zexec call (zrun call (zseg j_X0_firstToFail)) s_X0_firstToFail_120 ls st μ := zrun_eq
theorem r_X0_firstToFail_126 : zrun call (zseg j_X0_firstToFail) 126 ls st μ = zexec call (zrun call (zseg j_X0_firstToFail)) s_X0_firstToFail_126 ls st μ := zrun_eq
theorem r_X1_init_0 : zrun call (zseg j_X1_init) 0 ls st μ = zexec call (zrun call (zseg j_X1_init)) s_X1_init_0 ls st μ := zrun_eq
theorem r_X1_reset_0 : zrun call (zseg j_X1_reset) 0 ls st μ = zexec call (zrun call (zseg j_X1_reset)) s_X1_reset_0 ls st μ := zrun_eq
theorem r_X1_becomeLike_0 : zrun call (zseg j_X1_becomeLike) 0 ls st μ = zexec call (zrun call (zseg j_X1_becomeLike)) s_X1_becomeLike_0 ls st μ := zrun_eq
theorem r_X1_changeWear_0 : zrun call (zseg j_X1_changeWear) 0 ls st μ = zexec call (zrun call (zseg j_X1_changeWear)) s_X1_changeWear_0 ls st μ := zrun_eq
theorem r_X1_changeWear_11 : zrun call (zseg j_X1_changeWear) 11 ls st μ = zexec call (zrun call (zseg j_X1_changeWear)) s_X1_changeWear_11 ls st μ := zrun_eq
theorem r_X1_changeWear_14 : zrun call (zseg j_X1_changeWear) 14 ls st μ = zexec call (zrun call (zseg j_X1_changeWear)) s_X1_changeWear_14 ls st μ := zrun_eq
theorem r_X1_changeBeat_0 : zrun call (zseg j_X1_changeBeat) 0 ls st μ = zexec call (zrun call (zseg j_X1_changeBeat)) s_X1_changeBeat_0 ls st μ := zrun_eq
theorem r_X1_changeBeat_15 : zrun call (zseg j_X1_changeBeat) 15 ls st μ = zexec call (zrun call (zseg j_X1_changeBeat)) s_X1_changeBeat_15 ls st μ := zrun_eq
theorem r_X1_changeBeat_18 : zrun call (zseg j_X1_changeBeat) 18 ls st μ = zexec call (zrun call (zseg j_X1_changeBeat)) s_X1_changeBeat_18 ls st μ := zrun_eq
theorem r_X1_leaveCorner_0 : zrun call (zseg j_X1_leaveCorner) 0 ls st μ = zexec call (zrun call (zseg j_X1_leaveCorner)) s_X1_leaveCorner_0 ls st μ := zrun_eq
theorem r_X1_leaveCorner_17 : zrun call (zseg j_X1_leaveCorner) 17 ls st μ = zexec call (zrun call (zseg j_X1_leaveCorner)) s_X1_leaveCorner_17 ls st μ := zrun_eq
theorem r_X1_leaveCorner_19 : zrun call (zseg j_X1_leaveCorner) 19 ls st μ = zexec call (zrun call (zseg j_X1_leaveCorner)) s_X1_leaveCorner_19 ls st μ := zrun_eq
theorem r_X1_takeCorner_0 : zrun call (zseg j_X1_takeCorner) 0 ls st μ = zexec call (zrun call (zseg j_X1_takeCorner)) s_X1_takeCorner_0 ls st μ := zrun_eq
theorem r_X1_takeCorner_13 : zrun call (zseg j_X1_takeCorner) 13 ls st μ = zexec call (zrun call (zseg j_X1_takeCorner)) s_X1_takeCorner_13 ls st μ := zrun_eq
theorem r_X1_cornerAt_0 : zrun call (zseg j_X1_cornerAt) 0 ls st μ = zexec call (zrun call (zseg j_X1_cornerAt)) s_X1_cornerAt_0 ls st μ := zrun_eq
theorem r_X1_cornerAt_2 : zrun call (zseg j_X1_cornerAt) 2 ls st μ = zexec call (zrun call (zseg j_X1_cornerAt)) s_X1_cornerAt_2 ls st μ := zrun_eq
theorem r_X1_cornerAt_22 : zrun call (zseg j_X1_cornerAt) 22 ls st μ = zexec call (zrun call (zseg j_X1_cornerAt)) s_X1_cornerAt_22 ls st μ := zrun_eq
theorem r_X1_cornerAt_28 : zrun call (zseg j_X1_cornerAt) 28 ls st μ = zexec call (zrun call (zseg j_X1_cornerAt)) s_X1_cornerAt_28 ls st μ := zrun_eq
theorem r_X1_cornerLimit_0 : zrun call (zseg j_X1_cornerLimit) 0 ls st μ = zexec call (zrun call (zseg j_X1_cornerLimit)) s_X1_cornerLimit_0 ls st μ := zrun_eq
theorem r_X1_cornerLimit_5 : zrun call (zseg j_X1_cornerLimit) 5 ls st μ = zexec call (zrun call (zseg j_X1_cornerLimit)) s_X1_cornerLimit_5 ls st μ := zrun_eq
theorem r_X1_cornerLimit_39 : zrun call (zseg j_X1_cornerLimit) 39 ls st μ = zexec call (zrun call (zseg j_X1_cornerLimit)) s_X1_cornerLimit_39 ls st μ := zrun_eq
theorem r_X1_cornerLimit_45 : zrun call (zseg j_X1_cornerLimit) 45 ls st μ = zexec call (zrun call (zseg j_X1_cornerLimit)) s_X1_cornerLimit_45 ls st μ := zrun_eq
theorem r_X1_driveOf_0 : zrun call (zseg j_X1_driveOf) 0 ls st μ = zexec call (zrun call (zseg j_X1_driveOf)) s_X1_driveOf_0 ls st μ := zrun_eq
theorem r_X1_driveOf_6 : zrun call (zseg j_X1_driveOf) 6 ls st μ = zexec call (zrun call (zseg j_X1_driveOf)) s_X1_driveOf_6 ls st μ := zrun_eq
theorem r_X1_driveOf_54 : zrun call (zseg j_X1_driveOf) 54 ls st μ = zexec call (zrun call (zseg j_X1_driveOf)) s_X1_driveOf_54 ls st μ := zrun_eq
theorem r_X1_driveOf_55 : zrun call (zseg j_X1_driveOf) 55 ls st μ = zexec call (zrun call (zseg j_X1_driveOf)) s_X1_driveOf_55 ls st μ := zrun_eq
theorem r_X1_driveOf_118 : zrun call (zseg j_X1_driveOf) 118 ls st μ = zexec call (zrun call (zseg j_X1_driveOf)) s_X1_driveOf_118 ls st μ := zrun_eq
theorem r_X1_driveOf_124 : zrun call (zseg j_X1_driveOf) 124 ls st μ = zexec call (zrun call (zseg j_X1_driveOf)) s_X1_driveOf_124 ls st μ := zrun_eq
theorem r_X2_init_0 : zrun call (zseg j_X2_init) 0 ls st μ = zexec call (zrun call (zseg j_X2_init)) s_X2_init_0 ls st μ := zrun_eq
theorem r_X2_addPage_0 : zrun call (zseg j_X2_addPage) 0 ls st μ = zexec call (zrun call (zseg j_X2_addPage)) s_X2_addPage_0 ls st μ := zrun_eq
theorem r_X2_addPage_12 : zrun call (zseg j_X2_addPage) 12 ls st μ = zexec call (zrun call (zseg j_X2_addPage)) s_X2_addPage_12 ls st μ := zrun_eq
theorem r_X2_stackSides_0 : zrun call (zseg j_X2_stackSides) 0 ls st μ = zexec call (zrun call (zseg j_X2_stackSides)) s_X2_stackSides_0 ls st μ := zrun_eq
theorem r_X2_stackSides_4 : zrun call (zseg j_X2_stackSides) 4 ls st μ = zexec call (zrun call (zseg j_X2_stackSides)) s_X2_stackSides_4 ls st μ := zrun_eq
theorem r_X2_stackSides_31 : zrun call (zseg j_X2_stackSides) 31 ls st μ = zexec call (zrun call (zseg j_X2_stackSides)) s_X2_stackSides_31 ls st μ := zrun_eq
theorem r_X2_stackSides_32 : zrun call (zseg j_X2_stackSides) 32 ls st μ = zexec call (zrun call (zseg j_X2_stackSides)) s_X2_stackSides_32 ls st μ := zrun_eq
theorem r_X2_stackSides_40 : zrun call (zseg j_X2_stackSides) 40 ls st μ = zexec call (zrun call (zseg j_X2_stackSides)) s_X2_stackSides_40 ls st μ := zrun_eq
theorem r_X2_becomeLike_0 : zrun call (zseg j_X2_becomeLike) 0 ls st μ = zexec call (zrun call (zseg j_X2_becomeLike)) s_X2_becomeLike_0 ls st μ := zrun_eq
theorem r_X3_init_0 : zrun call (zseg j_X3_init) 0 ls st μ = zexec call (zrun call (zseg j_X3_init)) s_X3_init_0 ls st μ := zrun_eq
theorem r_X3_pair_0 : zrun call (zseg j_X3_pair) 0 ls st μ = zexec call (zrun call (zseg j_X3_pair)) s_X3_pair_0 ls st μ := zrun_eq
theorem r_X3_pair_8 : zrun call (zseg j_X3_pair) 8 ls st μ = zexec call (zrun call (zseg j_X3_pair)) s_X3_pair_8 ls st μ := zrun_eq
theorem r_X3_pair_36 : zrun call (zseg j_X3_pair) 36 ls st μ = zexec call (zrun call (zseg j_X3_pair)) s_X3_pair_36 ls st μ := zrun_eq
theorem r_X3_pair_75 : zrun call (zseg j_X3_pair) 75 ls st μ = zexec call (zrun call (zseg j_X3_pair)) s_X3_pair_75 ls st μ := zrun_eq
theorem r_X3_measureRoom_0 : zrun call (zseg j_X3_measureRoom) 0 ls st μ = zexec call (zrun call (zseg j_X3_measureRoom)) s_X3_measureRoom_0 ls st μ := zrun_eq
theorem r_X3_measureRoom_30 : zrun call (zseg j_X3_measureRoom) 30 ls st μ = zexec call (zrun call (zseg j_X3_measureRoom)) s_X3_measureRoom_30 ls st μ := zrun_eq
theorem r_X3_measureRoom_61 : zrun call (zseg j_X3_measureRoom) 61 ls st μ = zexec call (zrun call (zseg j_X3_measureRoom)) s_X3_measureRoom_61 ls st μ := zrun_eq
theorem r_X3_measureRoom_127 : zrun call (zseg j_X3_measureRoom) 127 ls st μ = zexec call (zrun call (zseg j_X3_measureRoom)) s_X3_measureRoom_127 ls st μ := zrun_eq
theorem r_X3_measureRoom_133 : zrun call (zseg j_X3_measureRoom) 133 ls st μ = zexec call (zrun call (zseg j_X3_measureRoom)) s_X3_measureRoom_133 ls st μ := zrun_eq
theorem r_X3_lastPlaceBelow_0 : zrun call (zseg j_X3_lastPlaceBelow) 0 ls st μ = zexec call (zrun call (zseg j_X3_lastPlaceBelow)) s_X3_lastPlaceBelow_0 ls st μ := zrun_eq
theorem r_X3_lastPlaceBelow_9 : zrun call (zseg j_X3_lastPlaceBelow) 9 ls st μ = zexec call (zrun call (zseg j_X3_lastPlaceBelow)) s_X3_lastPlaceBelow_9 ls st μ := zrun_eq
theorem r_X3_lastPlaceBelow_11 : zrun call (zseg j_X3_lastPlaceBelow) 11 ls st μ = zexec call (zrun call (zseg j_X3_lastPlaceBelow)) s_X3_lastPlaceBelow_11 ls st μ := zrun_eq
theorem r_X3_pairInOrder_0 : zrun call (zseg j_X3_pairInOrder) 0 ls st μ = zexec call (zrun call (zseg j_X3_pairInOrder)) s_X3_pairInOrder_0 ls st μ := zrun_eq
theorem r_X3_pairInOrder_13 : zrun call (zseg j_X3_pairInOrder) 13 ls st μ = zexec call (zrun call (zseg j_X3_pairInOrder)) s_X3_pairInOrder_13 ls st μ := zrun_eq
theorem r_X3_pairInOrder_40 : zrun call (zseg j_X3_pairInOrder) 40 ls st μ = zexec call (zrun call (zseg j_X3_pairInOrder)) s_X3_pairInOrder_40 ls st μ := zrun_eq
theorem r_X3_pairInOrder_41 : zrun call (zseg j_X3_pairInOrder) 41 ls st μ = zexec call (zrun call (zseg j_X3_pairInOrder)) s_X3_pairInOrder_41 ls st μ := zrun_eq
theorem r_X3_pairInOrder_65 : zrun call (zseg j_X3_pairInOrder) 65 ls st μ = zexec call (zrun call (zseg j_X3_pairInOrder)) s_X3_pairInOrder_65 ls st μ := zrun_eq
theorem r_X3_pairInOrder_66 : zrun call (zseg j_X3_pairInOrder) 66 ls st μ = zexec call (zrun call (zseg j_X3_pairInOrder)) s_X3_pairInOrder_66 ls st μ := zrun_eq
theorem r_X3_pairInOrder_112 : zrun call (zseg j_X3_pairInOrder) 112 ls st μ = zexec call (zrun call (zseg j_X3_pairInOrder)) s_X3_pairInOrder_112 ls st μ := zrun_eq
theorem r_X3_pairInOrder_118 : zrun call (zseg j_X3_pairInOrder) 118 ls st μ = zexec call (zrun call (zseg j_X3_pairInOrder)) s_X3_pairInOrder_118 ls st μ := zrun_eq
theorem r_X3_earliest_0 : zrun call (zseg j_X3_earliest) 0 ls st μ = zexec call (zrun call (zseg j_X3_earliest)) s_X3_earliest_0 ls st μ := zrun_eq
theorem r_X3_earliest_2 : zrun call (zseg j_X3_earliest) 2 ls st μ = zexec call (zrun call (zseg j_X3_earliest)) s_X3_earliest_2 ls st μ := zrun_eq
theorem r_X3_earliest_22 : zrun call (zseg j_X3_earliest) 22 ls st μ = zexec call (zrun call (zseg j_X3_earliest)) s_X3_earliest_22 ls st μ := zrun_eq
theorem r_X3_earliest_28 : zrun call (zseg j_X3_earliest) 28 ls st μ = zexec call (zrun call (zseg j_X3_earliest)) s_X3_earliest_28 ls st μ := zrun_eq
theorem r_X3_lackingPlace_0 : zrun call (zseg j_X3_lackingPlace) 0 ls st μ = zexec call (zrun call (zseg j_X3_lackingPlace)) s_X3_lackingPlace_0 ls st μ := zrun_eq
theorem r_X3_lackingPlace_4 : zrun call (zseg j_X3_lackingPlace) 4 ls st μ = zexec call (zrun call (zseg j_X3_lackingPlace)) s_X3_lackingPlace_4 ls st μ := zrun_eq
theorem r_X3_lackingPlace_29 : zrun call (zseg j_X3_lackingPlace) 29 ls st μ = zexec call (zrun call (zseg j_X3_lackingPlace)) s_X3_lackingPlace_29 ls st μ := zrun_eq
theorem r_X3_lackingPlace_32 : zrun call (zseg j_X3_lackingPlace) 32 ls st μ = zexec call (zrun call (zseg j_X3_lackingPlace)) s_X3_lackingPlace_32 ls st μ := zrun_eq
theorem r_X3_lackingPlace_38 : zrun call (zseg j_X3_lackingPlace) 38 ls st μ = zexec call (zrun call (zseg j_X3_lackingPlace)) s_X3_lackingPlace_38 ls st μ := zrun_eq
theorem r_X3_wholeCopies_0 : zrun call (zseg j_X3_wholeCopies) 0 ls st μ = zexec call (zrun call (zseg j_X3_wholeCopies)) s_X3_wholeCopies_0 ls st μ := zrun_eq
theorem r_X3_wholeCopies_4 : zrun call (zseg j_X3_wholeCopies) 4 ls st μ = zexec call (zrun call (zseg j_X3_wholeCopies)) s_X3_wholeCopies_4 ls st μ := zrun_eq
theorem r_X3_wholeCopies_18 : zrun call (zseg j_X3_wholeCopies) 18 ls st μ = zexec call (zrun call (zseg j_X3_wholeCopies)) s_X3_wholeCopies_18 ls st μ := zrun_eq
theorem r_X3_wholeCopies_54 : zrun call (zseg j_X3_wholeCopies) 54 ls st μ = zexec call (zrun call (zseg j_X3_wholeCopies)) s_X3_wholeCopies_54 ls st μ := zrun_eq
theorem r_X3_wholeCopies_55 : zrun call (zseg j_X3_wholeCopies) 55 ls st μ = zexec call (zrun call (zseg j_X3_wholeCopies)) s_X3_wholeCopies_55 ls st μ := zrun_eq
theorem r_X3_wholeCopies_63 : zrun call (zseg j_X3_wholeCopies) 63 ls st μ = zexec call (zrun call (zseg j_X3_wholeCopies)) s_X3_wholeCopies_63 ls st μ := zrun_eq
theorem r_X3_wholeCopies_73 : zrun call (zseg j_X3_wholeCopies) 73 ls st μ = zexec call (zrun call (zseg j_X3_wholeCopies)) s_X3_wholeCopies_73 ls st μ := zrun_eq
theorem r_X3_wholeCopies_74 : zrun call (zseg j_X3_wholeCopies) 74 ls st μ = zexec call (zrun call (zseg j_X3_wholeCopies)) s_X3_wholeCopies_74 ls st μ := zrun_eq
theorem r_X3_wholeCopies_82 : zrun call (zseg j_X3_wholeCopies) 82 ls st μ = zexec call (zrun call (zseg j_X3_wholeCopies)) s_X3_wholeCopies_82 ls st μ := zrun_eq
theorem r_X4_init_0 : zrun call (zseg j_X4_init) 0 ls st μ = zexec call (zrun call (zseg j_X4_init)) s_X4_init_0 ls st μ := zrun_eq
theorem r_X4_make_0 : zrun call (zseg j_X4_make) 0 ls st μ = zexec call (zrun call (zseg j_X4_make)) s_X4_make_0 ls st μ := zrun_eq
theorem r_X4_cut_0 : zrun call (zseg j_X4_cut) 0 ls st μ = zexec call (zrun call (zseg j_X4_cut)) s_X4_cut_0 ls st μ := zrun_eq
theorem r_X4_cut_28 : zrun call (zseg j_X4_cut) 28 ls st μ = zexec call (zrun call (zseg j_X4_cut)) s_X4_cut_28 ls st μ := zrun_eq
theorem r_X4_cut_33 : zrun call (zseg j_X4_cut) 33 ls st μ = zexec call (zrun call (zseg j_X4_cut)) s_X4_cut_33 ls st μ := zrun_eq
theorem r_X4_cut_38 : zrun call (zseg j_X4_cut) 38 ls st μ = zexec call (zrun call (zseg j_X4_cut)) s_X4_cut_38 ls st μ := zrun_eq
theorem r_X4_cut_42 : zrun call (zseg j_X4_cut) 42 ls st μ = zexec call (zrun call (zseg j_X4_cut)) s_X4_cut_42 ls st μ := zrun_eq
theorem r_X4_tellsPages_0 : zrun call (zseg j_X4_tellsPages) 0 ls st μ = zexec call (zrun call (zseg j_X4_tellsPages)) s_X4_tellsPages_0 ls st μ := zrun_eq
theorem r_X4_tellsPages_3 : zrun call (zseg j_X4_tellsPages) 3 ls st μ = zexec call (zrun call (zseg j_X4_tellsPages)) s_X4_tellsPages_3 ls st μ := zrun_eq
theorem r_X4_tellsPages_38 : zrun call (zseg j_X4_tellsPages) 38 ls st μ = zexec call (zrun call (zseg j_X4_tellsPages)) s_X4_tellsPages_38 ls st μ := zrun_eq
theorem r_X4_tellsPages_40 : zrun call (zseg j_X4_tellsPages) 40 ls st μ = zexec call (zrun call (zseg j_X4_tellsPages)) s_X4_tellsPages_40 ls st μ := zrun_eq
theorem r_X4_tellsPages_46 : zrun call (zseg j_X4_tellsPages) 46 ls st μ = zexec call (zrun call (zseg j_X4_tellsPages)) s_X4_tellsPages_46 ls st μ := zrun_eq
theorem r_X5_init_0 : zrun call (zseg j_X5_init) 0 ls st μ = zexec call (zrun call (zseg j_X5_init)) s_X5_init_0 ls st μ := zrun_eq
theorem r_X5_seek_0 : zrun call (zseg j_X5_seek) 0 ls st μ = zexec call (zrun call (zseg j_X5_seek)) s_X5_seek_0 ls st μ := zrun_eq
theorem r_X5_seek_8 : zrun call (zseg j_X5_seek) 8 ls st μ = zexec call (zrun call (zseg j_X5_seek)) s_X5_seek_8 ls st μ := zrun_eq
theorem r_X5_seek_36 : zrun call (zseg j_X5_seek) 36 ls st μ = zexec call (zrun call (zseg j_X5_seek)) s_X5_seek_36 ls st μ := zrun_eq
theorem r_X5_seek_66 : zrun call (zseg j_X5_seek) 66 ls st μ = zexec call (zrun call (zseg j_X5_seek)) s_X5_seek_66 ls st μ := zrun_eq
theorem r_X5_seek_73 : zrun call (zseg j_X5_seek) 73 ls st μ = zexec call (zrun call (zseg j_X5_seek)) s_X5_seek_73 ls st μ := zrun_eq
theorem r_X5_seek_81 : zrun call (zseg j_X5_seek) 81 ls st μ = zexec call (zrun call (zseg j_X5_seek)) s_X5_seek_81 ls st μ := zrun_eq
theorem r_X5_seek_114 : zrun call (zseg j_X5_seek) 114 ls st μ = zexec call (zrun call (zseg j_X5_seek)) s_X5_seek_114 ls st μ := zrun_eq
theorem r_X5_seek_126 : zrun call (zseg j_X5_seek) 126 ls st μ = zexec call (zrun call (zseg j_X5_seek)) s_X5_seek_126 ls st μ := zrun_eq
theorem r_X5_hasPaperForAll_0 : zrun call (zseg j_X5_hasPaperForAll) 0 ls st μ = zexec call (zrun call (zseg j_X5_hasPaperForAll)) s_X5_hasPaperForAll_0 ls st μ := zrun_eq
theorem r_X5_hasPaperForAll_2 : zrun call (zseg j_X5_hasPaperForAll) 2 ls st μ = zexec call (zrun call (zseg j_X5_hasPaperForAll)) s_X5_hasPaperForAll_2 ls st μ := zrun_eq
theorem r_X5_hasPaperForAll_17 : zrun call (zseg j_X5_hasPaperForAll) 17 ls st μ = zexec call (zrun call (zseg j_X5_hasPaperForAll)) s_X5_hasPaperForAll_17 ls st μ := zrun_eq
theorem r_X5_hasPaperForAll_35 : zrun call (zseg j_X5_hasPaperForAll) 35 ls st μ = zexec call (zrun call (zseg j_X5_hasPaperForAll)) s_X5_hasPaperForAll_35 ls st μ := zrun_eq
theorem r_X5_hasPaperForAll_39 : zrun call (zseg j_X5_hasPaperForAll) 39 ls st μ = zexec call (zrun call (zseg j_X5_hasPaperForAll)) s_X5_hasPaperForAll_39 ls st μ := zrun_eq
theorem r_X5_hasPaperForAll_40 : zrun call (zseg j_X5_hasPaperForAll) 40 ls st μ = zexec call (zrun call (zseg j_X5_hasPaperForAll)) s_X5_hasPaperForAll_40 ls st μ := zrun_eq
theorem r_X5_hasPaperForAll_47 : zrun call (zseg j_X5_hasPaperForAll) 47 ls st μ = zexec call (zrun call (zseg j_X5_hasPaperForAll)) s_X5_hasPaperForAll_47 ls st μ := zrun_eq
theorem r_X5_hasPaperForAll_53 : zrun call (zseg j_X5_hasPaperForAll) 53 ls st μ = zexec call (zrun call (zseg j_X5_hasPaperForAll)) s_X5_hasPaperForAll_53 ls st μ := zrun_eq
theorem r_X5_hasPaperForAll_59 : zrun call (zseg j_X5_hasPaperForAll) 59 ls st μ = zexec call (zrun call (zseg j_X5_hasPaperForAll)) s_X5_hasPaperForAll_59 ls st μ := zrun_eq
theorem r_X5_gives_0 : zrun call (zseg j_X5_gives) 0 ls st μ = zexec call (zrun call (zseg j_X5_gives)) s_X5_gives_0 ls st μ := zrun_eq
theorem r_X5_gives_37 : zrun call (zseg j_X5_gives) 37 ls st μ = zexec call (zrun call (zseg j_X5_gives)) s_X5_gives_37 ls st μ := zrun_eq
theorem r_X5_gives_38 : zrun call (zseg j_X5_gives) 38 ls st μ = zexec call (zrun call (zseg j_X5_gives)) s_X5_gives_38 ls st μ := zrun_eq
theorem r_X5_leave_0 : zrun call (zseg j_X5_leave) 0 ls st μ = zexec call (zrun call (zseg j_X5_leave)) s_X5_leave_0 ls st μ := zrun_eq
theorem r_X5_leave_72 : zrun call (zseg j_X5_leave) 72 ls st μ = zexec call (zrun call (zseg j_X5_leave)) s_X5_leave_72 ls st μ := zrun_eq
theorem r_X5_leave_74 : zrun call (zseg j_X5_leave) 74 ls st μ = zexec call (zrun call (zseg j_X5_leave)) s_X5_leave_74 ls st μ := zrun_eq
theorem r_X5_leave_100 : zrun call (zseg j_X5_leave) 100 ls st μ = zexec call (zrun call (zseg j_X5_leave)) s_X5_leave_100 ls st μ := zrun_eq
theorem r_X5_leave_160 : zrun call (zseg j_X5_leave) 160 ls st μ = zexec call (zrun call (zseg j_X5_leave)) s_X5_leave_160 ls st μ := zrun_eq
theorem r_X5_leave_208 : zrun call (zseg j_X5_leave) 208 ls st μ = zexec call (zrun call (zseg j_X5_leave)) s_X5_leave_208 ls st μ := zrun_eq
theorem r_X5_leave_210 : zrun call (zseg j_X5_leave) 210 ls st μ = zexec call (zrun call (zseg j_X5_leave)) s_X5_leave_210 ls st μ := zrun_eq
theorem r_X5_leave_221 : zrun call (zseg j_X5_leave) 221 ls st μ = zexec call (zrun call (zseg j_X5_leave)) s_X5_leave_221 ls st μ := zrun_eq
theorem r_X5_takesNext_0 : zrun call (zseg j_X5_takesNext) 0 ls st μ = zexec call (zrun call (zseg j_X5_takesNext)) s_X5_takesNext_0 ls st μ := zrun_eq
theorem r_X5_takesNext_43 : zrun call (zseg j_X5_takesNext) 43 ls st μ = zexec call (zrun call (zseg j_X5_takesNext)) s_X5_takesNext_43 ls st μ := zrun_eq
theorem r_X5_takesNext_47 : zrun call (zseg j_X5_takesNext) 47 ls st μ = zexec call (zrun call (zseg j_X5_takesNext)) s_X5_takesNext_47 ls st μ := zrun_eq
theorem r_X5_takesNext_55 : zrun call (zseg j_X5_takesNext) 55 ls st μ = zexec call (zrun call (zseg j_X5_takesNext)) s_X5_takesNext_55 ls st μ := zrun_eq
theorem r_X5_takesNext_56 : zrun call (zseg j_X5_takesNext) 56 ls st μ = zexec call (zrun call (zseg j_X5_takesNext)) s_X5_takesNext_56 ls st μ := zrun_eq
theorem r_X5_feedFromEach_0 : zrun call (zseg j_X5_feedFromEach) 0 ls st μ = zexec call (zrun call (zseg j_X5_feedFromEach)) s_X5_feedFromEach_0 ls st μ := zrun_eq
theorem r_X5_feedFromEach_3 : zrun call (zseg j_X5_feedFromEach) 3 ls st μ = zexec call (zrun call (zseg j_X5_feedFromEach)) s_X5_feedFromEach_3 ls st μ := zrun_eq
theorem r_X5_feedFromEach_33 : zrun call (zseg j_X5_feedFromEach) 33 ls st μ = zexec call (zrun call (zseg j_X5_feedFromEach)) s_X5_feedFromEach_33 ls st μ := zrun_eq
theorem r_X5_feedFromEach_37 : zrun call (zseg j_X5_feedFromEach) 37 ls st μ = zexec call (zrun call (zseg j_X5_feedFromEach)) s_X5_feedFromEach_37 ls st μ := zrun_eq
theorem r_X5_feedFromEach_38 : zrun call (zseg j_X5_feedFromEach) 38 ls st μ = zexec call (zrun call (zseg j_X5_feedFromEach)) s_X5_feedFromEach_38 ls st μ := zrun_eq
theorem r_X5_feedFromEach_87 : zrun call (zseg j_X5_feedFromEach) 87 ls st μ = zexec call (zrun call (zseg j_X5_feedFromEach)) s_X5_feedFromEach_87 ls st μ := zrun_eq
theorem r_X5_feedFromEach_93 : zrun call (zseg j_X5_feedFromEach) 93 ls st μ = zexec call (zrun call (zseg j_X5_feedFromEach)) s_X5_feedFromEach_93 ls st μ := zrun_eq
theorem r_X5_agedPocket_0 : zrun call (zseg j_X5_agedPocket) 0 ls st μ = zexec call (zrun call (zseg j_X5_agedPocket)) s_X5_agedPocket_0 ls st μ := zrun_eq
theorem r_X5_unpack_0 : zrun call (zseg j_X5_unpack) 0 ls st μ = zexec call (zrun call (zseg j_X5_unpack)) s_X5_unpack_0 ls st μ := zrun_eq
theorem r_X5_unpack_14 : zrun call (zseg j_X5_unpack) 14 ls st μ = zexec call (zrun call (zseg j_X5_unpack)) s_X5_unpack_14 ls st μ := zrun_eq
theorem r_X5_unpack_15 : zrun call (zseg j_X5_unpack) 15 ls st μ = zexec call (zrun call (zseg j_X5_unpack)) s_X5_unpack_15 ls st μ := zrun_eq
theorem r_X5_meet_0 : zrun call (zseg j_X5_meet) 0 ls st μ = zexec call (zrun call (zseg j_X5_meet)) s_X5_meet_0 ls st μ := zrun_eq
theorem r_X5_meet_52 : zrun call (zseg j_X5_meet) 52 ls st μ = zexec call (zrun call (zseg j_X5_meet)) s_X5_meet_52 ls st μ := zrun_eq
theorem r_X5_meet_53 : zrun call (zseg j_X5_meet) 53 ls st μ = zexec call (zrun call (zseg j_X5_meet)) s_X5_meet_53 ls st μ := zrun_eq
theorem r_X5_meet_81 : zrun call (zseg j_X5_meet) 81 ls st μ = zexec call (zrun call (zseg j_X5_meet)) s_X5_meet_81 ls st μ := zrun_eq
theorem r_X5_meet_134 : zrun call (zseg j_X5_meet) 134 ls st μ = zexec call (zrun call (zseg j_X5_meet)) s_X5_meet_134 ls st μ := zrun_eq
theorem r_X5_traceBack_0 : zrun call (zseg j_X5_traceBack) 0 ls st μ = zexec call (zrun call (zseg j_X5_traceBack)) s_X5_traceBack_0 ls st μ := zrun_eq
theorem r_X5_traceBack_7 : zrun call (zseg j_X5_traceBack) 7 ls st μ = zexec call (zrun call (zseg j_X5_traceBack)) s_X5_traceBack_7 ls st μ := zrun_eq
theorem r_X5_traceBack_30 : zrun call (zseg j_X5_traceBack) 30 ls st μ = zexec call (zrun call (zseg j_X5_traceBack)) s_X5_traceBack_30 ls st μ := zrun_eq
theorem r_X5_traceBack_44 : zrun call (zseg j_X5_traceBack) 44 ls st μ = zexec call (zrun call (zseg j_X5_traceBack)) s_X5_traceBack_44 ls st μ := zrun_eq
theorem r_X5_traceBack_79 : zrun call (zseg j_X5_traceBack) 79 ls st μ = zexec call (zrun call (zseg j_X5_traceBack)) s_X5_traceBack_79 ls st μ := zrun_eq
theorem r_X5_parentOf_0 : zrun call (zseg j_X5_parentOf) 0 ls st μ = zexec call (zrun call (zseg j_X5_parentOf)) s_X5_parentOf_0 ls st μ := zrun_eq
theorem r_X6_init_0 : zrun call (zseg j_X6_init) 0 ls st μ = zexec call (zrun call (zseg j_X6_init)) s_X6_init_0 ls st μ := zrun_eq
theorem r_X6_hasRoomForFive_0 : zrun call (zseg j_X6_hasRoomForFive) 0 ls st μ = zexec call (zrun call (zseg j_X6_hasRoomForFive)) s_X6_hasRoomForFive_0 ls st μ := zrun_eq
theorem r_X6_hasRoomForFive_14 : zrun call (zseg j_X6_hasRoomForFive) 14 ls st μ = zexec call (zrun call (zseg j_X6_hasRoomForFive)) s_X6_hasRoomForFive_14 ls st μ := zrun_eq
theorem r_X6_hasRoomForFive_15 : zrun call (zseg j_X6_hasRoomForFive) 15 ls st μ = zexec call (zrun call (zseg j_X6_hasRoomForFive)) s_X6_hasRoomForFive_15 ls st μ := zrun_eq
theorem r_X6_append_0 : zrun call (zseg j_X6_append) 0 ls st μ = zexec call (zrun call (zseg j_X6_append)) s_X6_append_0 ls st μ := zrun_eq
theorem r_X6_append_3 : zrun call (zseg j_X6_append) 3 ls st μ = zexec call (zrun call (zseg j_X6_append)) s_X6_append_3 ls st μ := zrun_eq
theorem r_X6_append_40 : zrun call (zseg j_X6_append) 40 ls st μ = zexec call (zrun call (zseg j_X6_append)) s_X6_append_40 ls st μ := zrun_eq
theorem r_X6_append_46 : zrun call (zseg j_X6_append) 46 ls st μ = zexec call (zrun call (zseg j_X6_append)) s_X6_append_46 ls st μ := zrun_eq
theorem r_X6_readWay_0 : zrun call (zseg j_X6_readWay) 0 ls st μ = zexec call (zrun call (zseg j_X6_readWay)) s_X6_readWay_0 ls st μ := zrun_eq
theorem r_X6_readWay_29 : zrun call (zseg j_X6_readWay) 29 ls st μ = zexec call (zrun call (zseg j_X6_readWay)) s_X6_readWay_29 ls st μ := zrun_eq
theorem r_X6_readWay_66 : zrun call (zseg j_X6_readWay) 66 ls st μ = zexec call (zrun call (zseg j_X6_readWay)) s_X6_readWay_66 ls st μ := zrun_eq
theorem r_X6_readWay_67 : zrun call (zseg j_X6_readWay) 67 ls st μ = zexec call (zrun call (zseg j_X6_readWay)) s_X6_readWay_67 ls st μ := zrun_eq
theorem r_X6_readWay_76 : zrun call (zseg j_X6_readWay) 76 ls st μ = zexec call (zrun call (zseg j_X6_readWay)) s_X6_readWay_76 ls st μ := zrun_eq
theorem r_X6_readWay_88 : zrun call (zseg j_X6_readWay) 88 ls st μ = zexec call (zrun call (zseg j_X6_readWay)) s_X6_readWay_88 ls st μ := zrun_eq
theorem r_X6_splitTokens_0 : zrun call (zseg j_X6_splitTokens) 0 ls st μ = zexec call (zrun call (zseg j_X6_splitTokens)) s_X6_splitTokens_0 ls st μ := zrun_eq
theorem r_X6_splitTokens_17 : zrun call (zseg j_X6_splitTokens) 17 ls st μ = zexec call (zrun call (zseg j_X6_splitTokens)) s_X6_splitTokens_17 ls st μ := zrun_eq
theorem r_X6_splitTokens_31 : zrun call (zseg j_X6_splitTokens) 31 ls st μ = zexec call (zrun call (zseg j_X6_splitTokens)) s_X6_splitTokens_31 ls st μ := zrun_eq
theorem r_X6_splitTokens_70 : zrun call (zseg j_X6_splitTokens) 70 ls st μ = zexec call (zrun call (zseg j_X6_splitTokens)) s_X6_splitTokens_70 ls st μ := zrun_eq
theorem r_X6_splitTokens_125 : zrun call (zseg j_X6_splitTokens) 125 ls st μ = zexec call (zrun call (zseg j_X6_splitTokens)) s_X6_splitTokens_125 ls st μ := zrun_eq
theorem r_X6_splitTokens_126 : zrun call (zseg j_X6_splitTokens) 126 ls st μ = zexec call (zrun call (zseg j_X6_splitTokens)) s_X6_splitTokens_126 ls st μ := zrun_eq
theorem r_X6_splitTokens_140 : zrun call (zseg j_X6_splitTokens) 140 ls st μ = zexec call (zrun call (zseg j_X6_splitTokens)) s_X6_splitTokens_140 ls st μ := zrun_eq
theorem r_X6_nextKind_0 : zrun call (zseg j_X6_nextKind) 0 ls st μ = zexec call (zrun call (zseg j_X6_nextKind)) s_X6_nextKind_0 ls st μ := zrun_eq
theorem r_X6_nextKind_13 : zrun call (zseg j_X6_nextKind) 13 ls st μ = zexec call (zrun call (zseg j_X6_nextKind)) s_X6_nextKind_13 ls st μ := zrun_eq
theorem r_X6_nextKind_35 : zrun call (zseg j_X6_nextKind) 35 ls st μ = zexec call (zrun call (zseg j_X6_nextKind)) s_X6_nextKind_35 ls st μ := zrun_eq
theorem r_X6_nextKind_47 : zrun call (zseg j_X6_nextKind) 47 ls st μ = zexec call (zrun call (zseg j_X6_nextKind)) s_X6_nextKind_47 ls st μ := zrun_eq
theorem r_X6_nextKind_67 : zrun call (zseg j_X6_nextKind) 67 ls st μ = zexec call (zrun call (zseg j_X6_nextKind)) s_X6_nextKind_67 ls st μ := zrun_eq
theorem r_X6_nextKind_68 : zrun call (zseg j_X6_nextKind) 68 ls st μ = zexec call (zrun call (zseg j_X6_nextKind)) s_X6_nextKind_68 ls st μ := zrun_eq
theorem r_X6_nextNumber_0 : zrun call (zseg j_X6_nextNumber) 0 ls st μ = zexec call (zrun call (zseg j_X6_nextNumber)) s_X6_nextNumber_0 ls st μ := zrun_eq
theorem r_X6_nextNumber_7 : zrun call (zseg j_X6_nextNumber) 7 ls st μ = zexec call (zrun call (zseg j_X6_nextNumber)) s_X6_nextNumber_7 ls st μ := zrun_eq
theorem r_X6_nextNumber_70 : zrun call (zseg j_X6_nextNumber) 70 ls st μ = zexec call (zrun call (zseg j_X6_nextNumber)) s_X6_nextNumber_70 ls st μ := zrun_eq
theorem r_X6_nextNumber_94 : zrun call (zseg j_X6_nextNumber) 94 ls st μ = zexec call (zrun call (zseg j_X6_nextNumber)) s_X6_nextNumber_94 ls st μ := zrun_eq
theorem r_X6_nextNumber_95 : zrun call (zseg j_X6_nextNumber) 95 ls st μ = zexec call (zrun call (zseg j_X6_nextNumber)) s_X6_nextNumber_95 ls st μ := zrun_eq
theorem r_X6_nextWord_0 : zrun call (zseg j_X6_nextWord) 0 ls st μ = zexec call (zrun call (zseg j_X6_nextWord)) s_X6_nextWord_0 ls st μ := zrun_eq
theorem r_X6_nextWord_5 : zrun call (zseg j_X6_nextWord) 5 ls st μ = zexec call (zrun call (zseg j_X6_nextWord)) s_X6_nextWord_5 ls st μ := zrun_eq
theorem r_X6_nextWord_44 : zrun call (zseg j_X6_nextWord) 44 ls st μ = zexec call (zrun call (zseg j_X6_nextWord)) s_X6_nextWord_44 ls st μ := zrun_eq
theorem r_X6_nextWord_80 : zrun call (zseg j_X6_nextWord) 80 ls st μ = zexec call (zrun call (zseg j_X6_nextWord)) s_X6_nextWord_80 ls st μ := zrun_eq
theorem r_X6_nextWord_94 : zrun call (zseg j_X6_nextWord) 94 ls st μ = zexec call (zrun call (zseg j_X6_nextWord)) s_X6_nextWord_94 ls st μ := zrun_eq
theorem r_X6_nextWord_109 : zrun call (zseg j_X6_nextWord) 109 ls st μ = zexec call (zrun call (zseg j_X6_nextWord)) s_X6_nextWord_109 ls st μ := zrun_eq
theorem r_X6_nextWord_110 : zrun call (zseg j_X6_nextWord) 110 ls st μ = zexec call (zrun call (zseg j_X6_nextWord)) s_X6_nextWord_110 ls st μ := zrun_eq
theorem r_X6_nextWord_111 : zrun call (zseg j_X6_nextWord) 111 ls st μ = zexec call (zrun call (zseg j_X6_nextWord)) s_X6_nextWord_111 ls st μ := zrun_eq
theorem r_X6_nextWord_117 : zrun call (zseg j_X6_nextWord) 117 ls st μ = zexec call (zrun call (zseg j_X6_nextWord)) s_X6_nextWord_117 ls st μ := zrun_eq
theorem r_X6_nextWord_132 : zrun call (zseg j_X6_nextWord) 132 ls st μ = zexec call (zrun call (zseg j_X6_nextWord)) s_X6_nextWord_132 ls st μ := zrun_eq
theorem r_X6_nextWord_133 : zrun call (zseg j_X6_nextWord) 133 ls st μ = zexec call (zrun call (zseg j_X6_nextWord)) s_X6_nextWord_133 ls st μ := zrun_eq
theorem r_X6_nextWord_134 : zrun call (zseg j_X6_nextWord) 134 ls st μ = zexec call (zrun call (zseg j_X6_nextWord)) s_X6_nextWord_134 ls st μ := zrun_eq
theorem r_X6_nextWord_149 : zrun call (zseg j_X6_nextWord) 149 ls st μ = zexec call (zrun call (zseg j_X6_nextWord)) s_X6_nextWord_149 ls st μ := zrun_eq
theorem r_X6_nextWord_150 : zrun call (zseg j_X6_nextWord) 150 ls st μ = zexec call (zrun call (zseg j_X6_nextWord)) s_X6_nextWord_150 ls st μ := zrun_eq
theorem r_X6_nextWord_151 : zrun call (zseg j_X6_nextWord) 151 ls st μ = zexec call (zrun call (zseg j_X6_nextWord)) s_X6_nextWord_151 ls st μ := zrun_eq
theorem r_X6_wordOfFour_0 : zrun call (zseg j_X6_wordOfFour) 0 ls st μ = zexec call (zrun call (zseg j_X6_wordOfFour)) s_X6_wordOfFour_0 ls st μ := zrun_eq
theorem r_X6_wordOfFour_13 : zrun call (zseg j_X6_wordOfFour) 13 ls st μ = zexec call (zrun call (zseg j_X6_wordOfFour)) s_X6_wordOfFour_13 ls st μ := zrun_eq
theorem r_X6_wordOfFour_26 : zrun call (zseg j_X6_wordOfFour) 26 ls st μ = zexec call (zrun call (zseg j_X6_wordOfFour)) s_X6_wordOfFour_26 ls st μ := zrun_eq
theorem r_X6_wordOfFour_39 : zrun call (zseg j_X6_wordOfFour) 39 ls st μ = zexec call (zrun call (zseg j_X6_wordOfFour)) s_X6_wordOfFour_39 ls st μ := zrun_eq
theorem r_X6_wordOfFour_52 : zrun call (zseg j_X6_wordOfFour) 52 ls st μ = zexec call (zrun call (zseg j_X6_wordOfFour)) s_X6_wordOfFour_52 ls st μ := zrun_eq
theorem r_X6_wordOfFour_67 : zrun call (zseg j_X6_wordOfFour) 67 ls st μ = zexec call (zrun call (zseg j_X6_wordOfFour)) s_X6_wordOfFour_67 ls st μ := zrun_eq
theorem r_X6_wordOfFour_68 : zrun call (zseg j_X6_wordOfFour) 68 ls st μ = zexec call (zrun call (zseg j_X6_wordOfFour)) s_X6_wordOfFour_68 ls st μ := zrun_eq
theorem r_X6_isAt_0 : zrun call (zseg j_X6_isAt) 0 ls st μ = zexec call (zrun call (zseg j_X6_isAt)) s_X6_isAt_0 ls st μ := zrun_eq
theorem r_X6_isAt_17 : zrun call (zseg j_X6_isAt) 17 ls st μ = zexec call (zrun call (zseg j_X6_isAt)) s_X6_isAt_17 ls st μ := zrun_eq
theorem r_X6_isAt_20 : zrun call (zseg j_X6_isAt) 20 ls st μ = zexec call (zrun call (zseg j_X6_isAt)) s_X6_isAt_20 ls st μ := zrun_eq
theorem r_X6_isAt_46 : zrun call (zseg j_X6_isAt) 46 ls st μ = zexec call (zrun call (zseg j_X6_isAt)) s_X6_isAt_46 ls st μ := zrun_eq
theorem r_X6_isAt_52 : zrun call (zseg j_X6_isAt) 52 ls st μ = zexec call (zrun call (zseg j_X6_isAt)) s_X6_isAt_52 ls st μ := zrun_eq
theorem r_X6_readLine_0 : zrun call (zseg j_X6_readLine) 0 ls st μ = zexec call (zrun call (zseg j_X6_readLine)) s_X6_readLine_0 ls st μ := zrun_eq
theorem r_X6_readLine_60 : zrun call (zseg j_X6_readLine) 60 ls st μ = zexec call (zrun call (zseg j_X6_readLine)) s_X6_readLine_60 ls st μ := zrun_eq
theorem r_X6_readLine_80 : zrun call (zseg j_X6_readLine) 80 ls st μ = zexec call (zrun call (zseg j_X6_readLine)) s_X6_readLine_80 ls st μ := zrun_eq
theorem r_X6_readLine_88 : zrun call (zseg j_X6_readLine) 88 ls st μ = zexec call (zrun call (zseg j_X6_readLine)) s_X6_readLine_88 ls st μ := zrun_eq
theorem r_X6_readLine_96 : zrun call (zseg j_X6_readLine) 96 ls st μ = zexec call (zrun call (zseg j_X6_readLine)) s_X6_readLine_96 ls st μ := zrun_eq
theorem r_X6_readLine_104 : zrun call (zseg j_X6_readLine) 104 ls st μ = zexec call (zrun call (zseg j_X6_readLine)) s_X6_readLine_104 ls st μ := zrun_eq
theorem r_X6_readLine_112 : zrun call (zseg j_X6_readLine) 112 ls st μ = zexec call (zrun call (zseg j_X6_readLine)) s_X6_readLine_112 ls st μ := zrun_eq
theorem r_X6_readLine_120 : zrun call (zseg j_X6_readLine) 120 ls st μ = zexec call (zrun call (zseg j_X6_readLine)) s_X6_readLine_120 ls st μ := zrun_eq
theorem r_X6_readLine_125 : zrun call (zseg j_X6_readLine) 125 ls st μ = zexec call (zrun call (zseg j_X6_readLine)) s_X6_readLine_125 ls st μ := zrun_eq
theorem r_X6_readRoller_0 : zrun call (zseg j_X6_readRoller) 0 ls st μ = zexec call (zrun call (zseg j_X6_readRoller)) s_X6_readRoller_0 ls st μ := zrun_eq
theorem r_X6_readRoller_15 : zrun call (zseg j_X6_readRoller) 15 ls st μ = zexec call (zrun call (zseg j_X6_readRoller)) s_X6_readRoller_15 ls st μ := zrun_eq
theorem r_X6_readEye_0 : zrun call (zseg j_X6_readEye) 0 ls st μ = zexec call (zrun call (zseg j_X6_readEye)) s_X6_readEye_0 ls st μ := zrun_eq
theorem r_X6_readEye_15 : zrun call (zseg j_X6_readEye) 15 ls st μ = zexec call (zrun call (zseg j_X6_readEye)) s_X6_readEye_15 ls st μ := zrun_eq
theorem r_X6_readTurn_0 : zrun call (zseg j_X6_readTurn) 0 ls st μ = zexec call (zrun call (zseg j_X6_readTurn)) s_X6_readTurn_0 ls st μ := zrun_eq
theorem r_X6_readTurn_13 : zrun call (zseg j_X6_readTurn) 13 ls st μ = zexec call (zrun call (zseg j_X6_readTurn)) s_X6_readTurn_13 ls st μ := zrun_eq
theorem r_X6_readDamp_0 : zrun call (zseg j_X6_readDamp) 0 ls st μ = zexec call (zrun call (zseg j_X6_readDamp)) s_X6_readDamp_0 ls st μ := zrun_eq
theorem r_X6_readDamp_13 : zrun call (zseg j_X6_readDamp) 13 ls st μ = zexec call (zrun call (zseg j_X6_readDamp)) s_X6_readDamp_13 ls st μ := zrun_eq
theorem r_X6_readNumber_0 : zrun call (zseg j_X6_readNumber) 0 ls st μ = zexec call (zrun call (zseg j_X6_readNumber)) s_X6_readNumber_0 ls st μ := zrun_eq
theorem r_X6_readNumber_38 : zrun call (zseg j_X6_readNumber) 38 ls st μ = zexec call (zrun call (zseg j_X6_readNumber)) s_X6_readNumber_38 ls st μ := zrun_eq
theorem r_X6_readNumber_43 : zrun call (zseg j_X6_readNumber) 43 ls st μ = zexec call (zrun call (zseg j_X6_readNumber)) s_X6_readNumber_43 ls st μ := zrun_eq
theorem r_X6_readNumber_62 : zrun call (zseg j_X6_readNumber) 62 ls st μ = zexec call (zrun call (zseg j_X6_readNumber)) s_X6_readNumber_62 ls st μ := zrun_eq
theorem r_X6_readNumber_63 : zrun call (zseg j_X6_readNumber) 63 ls st μ = zexec call (zrun call (zseg j_X6_readNumber)) s_X6_readNumber_63 ls st μ := zrun_eq
theorem r_X6_want_0 : zrun call (zseg j_X6_want) 0 ls st μ = zexec call (zrun call (zseg j_X6_want)) s_X6_want_0 ls st μ := zrun_eq
theorem r_X6_want_22 : zrun call (zseg j_X6_want) 22 ls st μ = zexec call (zrun call (zseg j_X6_want)) s_X6_want_22 ls st μ := zrun_eq
theorem r_X6_goOn_0 : zrun call (zseg j_X6_goOn) 0 ls st μ = zexec call (zrun call (zseg j_X6_goOn)) s_X6_goOn_0 ls st μ := zrun_eq
theorem r_X6_goOn_30 : zrun call (zseg j_X6_goOn) 30 ls st μ = zexec call (zrun call (zseg j_X6_goOn)) s_X6_goOn_30 ls st μ := zrun_eq
theorem r_X6_blame_0 : zrun call (zseg j_X6_blame) 0 ls st μ = zexec call (zrun call (zseg j_X6_blame)) s_X6_blame_0 ls st μ := zrun_eq
theorem r_X6_blame_25 : zrun call (zseg j_X6_blame) 25 ls st μ = zexec call (zrun call (zseg j_X6_blame)) s_X6_blame_25 ls st μ := zrun_eq
theorem r_X6_blame_26 : zrun call (zseg j_X6_blame) 26 ls st μ = zexec call (zrun call (zseg j_X6_blame)) s_X6_blame_26 ls st μ := zrun_eq
theorem r_X6_blame_42 : zrun call (zseg j_X6_blame) 42 ls st μ = zexec call (zrun call (zseg j_X6_blame)) s_X6_blame_42 ls st μ := zrun_eq
theorem r_X6_isBlank_0 : zrun call (zseg j_X6_isBlank) 0 ls st μ = zexec call (zrun call (zseg j_X6_isBlank)) s_X6_isBlank_0 ls st μ := zrun_eq
theorem r_X6_isBlank_12 : zrun call (zseg j_X6_isBlank) 12 ls st μ = zexec call (zrun call (zseg j_X6_isBlank)) s_X6_isBlank_12 ls st μ := zrun_eq
theorem r_X6_isBlank_16 : zrun call (zseg j_X6_isBlank) 16 ls st μ = zexec call (zrun call (zseg j_X6_isBlank)) s_X6_isBlank_16 ls st μ := zrun_eq
theorem r_X6_isBlank_17 : zrun call (zseg j_X6_isBlank) 17 ls st μ = zexec call (zrun call (zseg j_X6_isBlank)) s_X6_isBlank_17 ls st μ := zrun_eq
theorem r_X6_isLetter_0 : zrun call (zseg j_X6_isLetter) 0 ls st μ = zexec call (zrun call (zseg j_X6_isLetter)) s_X6_isLetter_0 ls st μ := zrun_eq
theorem r_X6_isLetter_16 : zrun call (zseg j_X6_isLetter) 16 ls st μ = zexec call (zrun call (zseg j_X6_isLetter)) s_X6_isLetter_16 ls st μ := zrun_eq
theorem r_X6_isLetter_17 : zrun call (zseg j_X6_isLetter) 17 ls st μ = zexec call (zrun call (zseg j_X6_isLetter)) s_X6_isLetter_17 ls st μ := zrun_eq
theorem r_X6_isDigit_0 : zrun call (zseg j_X6_isDigit) 0 ls st μ = zexec call (zrun call (zseg j_X6_isDigit)) s_X6_isDigit_0 ls st μ := zrun_eq
theorem r_X6_isDigit_16 : zrun call (zseg j_X6_isDigit) 16 ls st μ = zexec call (zrun call (zseg j_X6_isDigit)) s_X6_isDigit_16 ls st μ := zrun_eq
theorem r_X6_isDigit_17 : zrun call (zseg j_X6_isDigit) 17 ls st μ = zexec call (zrun call (zseg j_X6_isDigit)) s_X6_isDigit_17 ls st μ := zrun_eq
theorem r_X7_init_0 : zrun call (zseg j_X7_init) 0 ls st μ = zexec call (zrun call (zseg j_X7_init)) s_X7_init_0 ls st μ := zrun_eq
theorem r_X7_seek_0 : zrun call (zseg j_X7_seek) 0 ls st μ = zexec call (zrun call (zseg j_X7_seek)) s_X7_seek_0 ls st μ := zrun_eq
theorem r_X7_seek_17 : zrun call (zseg j_X7_seek) 17 ls st μ = zexec call (zrun call (zseg j_X7_seek)) s_X7_seek_17 ls st μ := zrun_eq
theorem r_X7_seek_36 : zrun call (zseg j_X7_seek) 36 ls st μ = zexec call (zrun call (zseg j_X7_seek)) s_X7_seek_36 ls st μ := zrun_eq
theorem r_X7_seek_103 : zrun call (zseg j_X7_seek) 103 ls st μ = zexec call (zrun call (zseg j_X7_seek)) s_X7_seek_103 ls st μ := zrun_eq
theorem r_X7_seek_109 : zrun call (zseg j_X7_seek) 109 ls st μ = zexec call (zrun call (zseg j_X7_seek)) s_X7_seek_109 ls st μ := zrun_eq
theorem r_X7_isBetter_0 : zrun call (zseg j_X7_isBetter) 0 ls st μ = zexec call (zrun call (zseg j_X7_isBetter)) s_X7_isBetter_0 ls st μ := zrun_eq
theorem r_X7_isBetter_30 : zrun call (zseg j_X7_isBetter) 30 ls st μ = zexec call (zrun call (zseg j_X7_isBetter)) s_X7_isBetter_30 ls st μ := zrun_eq
theorem r_X7_isBetter_34 : zrun call (zseg j_X7_isBetter) 34 ls st μ = zexec call (zrun call (zseg j_X7_isBetter)) s_X7_isBetter_34 ls st μ := zrun_eq
theorem r_X7_isBetter_35 : zrun call (zseg j_X7_isBetter) 35 ls st μ = zexec call (zrun call (zseg j_X7_isBetter)) s_X7_isBetter_35 ls st μ := zrun_eq
theorem r_X7_costOfNewOnes_0 : zrun call (zseg j_X7_costOfNewOnes) 0 ls st μ = zexec call (zrun call (zseg j_X7_costOfNewOnes)) s_X7_costOfNewOnes_0 ls st μ := zrun_eq
theorem r_X7_costOfNewOnes_11 : zrun call (zseg j_X7_costOfNewOnes) 11 ls st μ = zexec call (zrun call (zseg j_X7_costOfNewOnes)) s_X7_costOfNewOnes_11 ls st μ := zrun_eq
theorem r_X7_costOfNewOnes_57 : zrun call (zseg j_X7_costOfNewOnes) 57 ls st μ = zexec call (zrun call (zseg j_X7_costOfNewOnes)) s_X7_costOfNewOnes_57 ls st μ := zrun_eq
theorem r_X7_costOfNewOnes_83 : zrun call (zseg j_X7_costOfNewOnes) 83 ls st μ = zexec call (zrun call (zseg j_X7_costOfNewOnes)) s_X7_costOfNewOnes_83 ls st μ := zrun_eq
theorem r_X7_costOfNewOnes_89 : zrun call (zseg j_X7_costOfNewOnes) 89 ls st μ = zexec call (zrun call (zseg j_X7_costOfNewOnes)) s_X7_costOfNewOnes_89 ls st μ := zrun_eq
theorem r_X7_timesNew_0 : zrun call (zseg j_X7_timesNew) 0 ls st μ = zexec call (zrun call (zseg j_X7_timesNew)) s_X7_timesNew_0 ls st μ := zrun_eq
theorem r_X7_timesNew_12 : zrun call (zseg j_X7_timesNew) 12 ls st μ = zexec call (zrun call (zseg j_X7_timesNew)) s_X7_timesNew_12 ls st μ := zrun_eq
theorem r_X7_timesNew_32 : zrun call (zseg j_X7_timesNew) 32 ls st μ = zexec call (zrun call (zseg j_X7_timesNew)) s_X7_timesNew_32 ls st μ := zrun_eq
theorem r_X7_timesNew_53 : zrun call (zseg j_X7_timesNew) 53 ls st μ = zexec call (zrun call (zseg j_X7_timesNew)) s_X7_timesNew_53 ls st μ := zrun_eq
theorem r_X7_timesNew_55 : zrun call (zseg j_X7_timesNew) 55 ls st μ = zexec call (zrun call (zseg j_X7_timesNew)) s_X7_timesNew_55 ls st μ := zrun_eq
theorem r_X7_timesNew_65 : zrun call (zseg j_X7_timesNew) 65 ls st μ = zexec call (zrun call (zseg j_X7_timesNew)) s_X7_timesNew_65 ls st μ := zrun_eq
theorem r_X7_timesNew_74 : zrun call (zseg j_X7_timesNew) 74 ls st μ = zexec call (zrun call (zseg j_X7_timesNew)) s_X7_timesNew_74 ls st μ := zrun_eq
theorem r_X8_init_0 : zrun call (zseg j_X8_init) 0 ls st μ = zexec call (zrun call (zseg j_X8_init)) s_X8_init_0 ls st μ := zrun_eq
theorem r_X8_start_0 : zrun call (zseg j_X8_start) 0 ls st μ = zexec call (zrun call (zseg j_X8_start)) s_X8_start_0 ls st μ := zrun_eq
theorem r_X8_isFull_0 : zrun call (zseg j_X8_isFull) 0 ls st μ = zexec call (zrun call (zseg j_X8_isFull)) s_X8_isFull_0 ls st μ := zrun_eq
theorem r_X8_isFull_13 : zrun call (zseg j_X8_isFull) 13 ls st μ = zexec call (zrun call (zseg j_X8_isFull)) s_X8_isFull_13 ls st μ := zrun_eq
theorem r_X8_isFull_14 : zrun call (zseg j_X8_isFull) 14 ls st μ = zexec call (zrun call (zseg j_X8_isFull)) s_X8_isFull_14 ls st μ := zrun_eq
theorem r_X8_tailOf_0 : zrun call (zseg j_X8_tailOf) 0 ls st μ = zexec call (zrun call (zseg j_X8_tailOf)) s_X8_tailOf_0 ls st μ := zrun_eq
theorem r_X8_isFreeFor_0 : zrun call (zseg j_X8_isFreeFor) 0 ls st μ = zexec call (zrun call (zseg j_X8_isFreeFor)) s_X8_isFreeFor_0 ls st μ := zrun_eq
theorem r_X8_isFreeFor_39 : zrun call (zseg j_X8_isFreeFor) 39 ls st μ = zexec call (zrun call (zseg j_X8_isFreeFor)) s_X8_isFreeFor_39 ls st μ := zrun_eq
theorem r_X8_isFreeFor_40 : zrun call (zseg j_X8_isFreeFor) 40 ls st μ = zexec call (zrun call (zseg j_X8_isFreeFor)) s_X8_isFreeFor_40 ls st μ := zrun_eq
theorem r_X8_begin_0 : zrun call (zseg j_X8_begin) 0 ls st μ = zexec call (zrun call (zseg j_X8_begin)) s_X8_begin_0 ls st μ := zrun_eq
theorem r_X8_begin_10 : zrun call (zseg j_X8_begin) 10 ls st μ = zexec call (zrun call (zseg j_X8_begin)) s_X8_begin_10 ls st μ := zrun_eq
theorem r_X8_liesFree_0 : zrun call (zseg j_X8_liesFree) 0 ls st μ = zexec call (zrun call (zseg j_X8_liesFree)) s_X8_liesFree_0 ls st μ := zrun_eq
theorem r_X8_liesFree_2 : zrun call (zseg j_X8_liesFree) 2 ls st μ = zexec call (zrun call (zseg j_X8_liesFree)) s_X8_liesFree_2 ls st μ := zrun_eq
theorem r_X8_liesFree_41 : zrun call (zseg j_X8_liesFree) 41 ls st μ = zexec call (zrun call (zseg j_X8_liesFree)) s_X8_liesFree_41 ls st μ := zrun_eq
theorem r_X8_liesFree_47 : zrun call (zseg j_X8_liesFree) 47 ls st μ = zexec call (zrun call (zseg j_X8_liesFree)) s_X8_liesFree_47 ls st μ := zrun_eq
theorem r_X8_putOnWay_0 : zrun call (zseg j_X8_putOnWay) 0 ls st μ = zexec call (zrun call (zseg j_X8_putOnWay)) s_X8_putOnWay_0 ls st μ := zrun_eq
theorem r_X8_putOnWay_39 : zrun call (zseg j_X8_putOnWay) 39 ls st μ = zexec call (zrun call (zseg j_X8_putOnWay)) s_X8_putOnWay_39 ls st μ := zrun_eq
theorem r_X8_putOnWay_84 : zrun call (zseg j_X8_putOnWay) 84 ls st μ = zexec call (zrun call (zseg j_X8_putOnWay)) s_X8_putOnWay_84 ls st μ := zrun_eq
theorem r_X8_goOnce_0 : zrun call (zseg j_X8_goOnce) 0 ls st μ = zexec call (zrun call (zseg j_X8_goOnce)) s_X8_goOnce_0 ls st μ := zrun_eq
theorem r_X8_goOnce_6 : zrun call (zseg j_X8_goOnce) 6 ls st μ = zexec call (zrun call (zseg j_X8_goOnce)) s_X8_goOnce_6 ls st μ := zrun_eq
theorem r_X8_goOnce_51 : zrun call (zseg j_X8_goOnce) 51 ls st μ = zexec call (zrun call (zseg j_X8_goOnce)) s_X8_goOnce_51 ls st μ := zrun_eq
theorem r_X8_carryOn_0 : zrun call (zseg j_X8_carryOn) 0 ls st μ = zexec call (zrun call (zseg j_X8_carryOn)) s_X8_carryOn_0 ls st μ := zrun_eq
theorem r_X8_carryOn_25 : zrun call (zseg j_X8_carryOn) 25 ls st μ = zexec call (zrun call (zseg j_X8_carryOn)) s_X8_carryOn_25 ls st μ := zrun_eq
theorem r_X8_carryOn_83 : zrun call (zseg j_X8_carryOn) 83 ls st μ = zexec call (zrun call (zseg j_X8_carryOn)) s_X8_carryOn_83 ls st μ := zrun_eq
theorem r_X8_carryOn_89 : zrun call (zseg j_X8_carryOn) 89 ls st μ = zexec call (zrun call (zseg j_X8_carryOn)) s_X8_carryOn_89 ls st μ := zrun_eq
theorem r_X8_move_0 : zrun call (zseg j_X8_move) 0 ls st μ = zexec call (zrun call (zseg j_X8_move)) s_X8_move_0 ls st μ := zrun_eq
theorem r_X8_move_14 : zrun call (zseg j_X8_move) 14 ls st μ = zexec call (zrun call (zseg j_X8_move)) s_X8_move_14 ls st μ := zrun_eq
theorem r_X8_move_34 : zrun call (zseg j_X8_move) 34 ls st μ = zexec call (zrun call (zseg j_X8_move)) s_X8_move_34 ls st μ := zrun_eq
theorem r_X8_move_68 : zrun call (zseg j_X8_move) 68 ls st μ = zexec call (zrun call (zseg j_X8_move)) s_X8_move_68 ls st μ := zrun_eq
theorem r_X8_waits_0 : zrun call (zseg j_X8_waits) 0 ls st μ = zexec call (zrun call (zseg j_X8_waits)) s_X8_waits_0 ls st μ := zrun_eq
theorem r_X8_waits_41 : zrun call (zseg j_X8_waits) 41 ls st μ = zexec call (zrun call (zseg j_X8_waits)) s_X8_waits_41 ls st μ := zrun_eq
theorem r_X8_waits_42 : zrun call (zseg j_X8_waits) 42 ls st μ = zexec call (zrun call (zseg j_X8_waits)) s_X8_waits_42 ls st μ := zrun_eq
theorem r_X8_drive_0 : zrun call (zseg j_X8_drive) 0 ls st μ = zexec call (zrun call (zseg j_X8_drive)) s_X8_drive_0 ls st μ := zrun_eq
theorem r_X8_drive_86 : zrun call (zseg j_X8_drive) 86 ls st μ = zexec call (zrun call (zseg j_X8_drive)) s_X8_drive_86 ls st μ := zrun_eq
theorem r_X8_drive_96 : zrun call (zseg j_X8_drive) 96 ls st μ = zexec call (zrun call (zseg j_X8_drive)) s_X8_drive_96 ls st μ := zrun_eq
theorem r_X8_enterPocket_0 : zrun call (zseg j_X8_enterPocket) 0 ls st μ = zexec call (zrun call (zseg j_X8_enterPocket)) s_X8_enterPocket_0 ls st μ := zrun_eq
theorem r_X8_enterPocket_63 : zrun call (zseg j_X8_enterPocket) 63 ls st μ = zexec call (zrun call (zseg j_X8_enterPocket)) s_X8_enterPocket_63 ls st μ := zrun_eq
theorem r_X8_findJam_0 : zrun call (zseg j_X8_findJam) 0 ls st μ = zexec call (zrun call (zseg j_X8_findJam)) s_X8_findJam_0 ls st μ := zrun_eq
theorem r_X8_findJam_2 : zrun call (zseg j_X8_findJam) 2 ls st μ = zexec call (zrun call (zseg j_X8_findJam)) s_X8_findJam_2 ls st μ := zrun_eq
theorem r_X8_findJam_40 : zrun call (zseg j_X8_findJam) 40 ls st μ = zexec call (zrun call (zseg j_X8_findJam)) s_X8_findJam_40 ls st μ := zrun_eq
theorem r_X8_findJam_46 : zrun call (zseg j_X8_findJam) 46 ls st μ = zexec call (zrun call (zseg j_X8_findJam)) s_X8_findJam_46 ls st μ := zrun_eq
theorem r_X8_comeBack_0 : zrun call (zseg j_X8_comeBack) 0 ls st μ = zexec call (zrun call (zseg j_X8_comeBack)) s_X8_comeBack_0 ls st μ := zrun_eq
theorem r_X8_comeBack_8 : zrun call (zseg j_X8_comeBack) 8 ls st μ = zexec call (zrun call (zseg j_X8_comeBack)) s_X8_comeBack_8 ls st μ := zrun_eq
theorem r_X8_comeBack_63 : zrun call (zseg j_X8_comeBack) 63 ls st μ = zexec call (zrun call (zseg j_X8_comeBack)) s_X8_comeBack_63 ls st μ := zrun_eq
theorem r_X8_comeBack_64 : zrun call (zseg j_X8_comeBack) 64 ls st μ = zexec call (zrun call (zseg j_X8_comeBack)) s_X8_comeBack_64 ls st μ := zrun_eq
theorem r_X8_comeBack_76 : zrun call (zseg j_X8_comeBack) 76 ls st μ = zexec call (zrun call (zseg j_X8_comeBack)) s_X8_comeBack_76 ls st μ := zrun_eq
theorem r_X8_comeBack_104 : zrun call (zseg j_X8_comeBack) 104 ls st μ = zexec call (zrun call (zseg j_X8_comeBack)) s_X8_comeBack_104 ls st μ := zrun_eq
theorem r_X8_isUnderEye_0 : zrun call (zseg j_X8_isUnderEye) 0 ls st μ = zexec call (zrun call (zseg j_X8_isUnderEye)) s_X8_isUnderEye_0 ls st μ := zrun_eq
theorem r_X8_isUnderEye_2 : zrun call (zseg j_X8_isUnderEye) 2 ls st μ = zexec call (zrun call (zseg j_X8_isUnderEye)) s_X8_isUnderEye_2 ls st μ := zrun_eq
theorem r_X8_isUnderEye_41 : zrun call (zseg j_X8_isUnderEye) 41 ls st μ = zexec call (zrun call (zseg j_X8_isUnderEye)) s_X8_isUnderEye_41 ls st μ := zrun_eq
theorem r_X8_isUnderEye_47 : zrun call (zseg j_X8_isUnderEye) 47 ls st μ = zexec call (zrun call (zseg j_X8_isUnderEye)) s_X8_isUnderEye_47 ls st μ := zrun_eq
theorem r_X8_takeAll_0 : zrun call (zseg j_X8_takeAll) 0 ls st μ = zexec call (zrun call (zseg j_X8_takeAll)) s_X8_takeAll_0 ls st μ := zrun_eq
theorem r_X8_takeAll_12 : zrun call (zseg j_X8_takeAll) 12 ls st μ = zexec call (zrun call (zseg j_X8_takeAll)) s_X8_takeAll_12 ls st μ := zrun_eq
theorem r_X8_takeAll_38 : zrun call (zseg j_X8_takeAll) 38 ls st μ = zexec call (zrun call (zseg j_X8_takeAll)) s_X8_takeAll_38 ls st μ := zrun_eq
theorem r_X8_takeAll_40 : zrun call (zseg j_X8_takeAll) 40 ls st μ = zexec call (zrun call (zseg j_X8_takeAll)) s_X8_takeAll_40 ls st μ := zrun_eq
theorem r_X8_takeAll_66 : zrun call (zseg j_X8_takeAll) 66 ls st μ = zexec call (zrun call (zseg j_X8_takeAll)) s_X8_takeAll_66 ls st μ := zrun_eq
theorem r_X9_init_0 : zrun call (zseg j_X9_init) 0 ls st μ = zexec call (zrun call (zseg j_X9_init)) s_X9_init_0 ls st μ := zrun_eq
theorem r_X9_reset_0 : zrun call (zseg j_X9_reset) 0 ls st μ = zexec call (zrun call (zseg j_X9_reset)) s_X9_reset_0 ls st μ := zrun_eq
theorem r_X9_cutOff_0 : zrun call (zseg j_X9_cutOff) 0 ls st μ = zexec call (zrun call (zseg j_X9_cutOff)) s_X9_cutOff_0 ls st μ := zrun_eq
theorem r_X9_cutOff_2 : zrun call (zseg j_X9_cutOff) 2 ls st μ = zexec call (zrun call (zseg j_X9_cutOff)) s_X9_cutOff_2 ls st μ := zrun_eq
theorem r_X9_cutOff_28 : zrun call (zseg j_X9_cutOff) 28 ls st μ = zexec call (zrun call (zseg j_X9_cutOff)) s_X9_cutOff_28 ls st μ := zrun_eq
theorem r_X9_look_0 : zrun call (zseg j_X9_look) 0 ls st μ = zexec call (zrun call (zseg j_X9_look)) s_X9_look_0 ls st μ := zrun_eq
theorem r_X9_look_11 : zrun call (zseg j_X9_look) 11 ls st μ = zexec call (zrun call (zseg j_X9_look)) s_X9_look_11 ls st μ := zrun_eq
theorem r_X9_look_31 : zrun call (zseg j_X9_look) 31 ls st μ = zexec call (zrun call (zseg j_X9_look)) s_X9_look_31 ls st μ := zrun_eq
theorem r_X9_look_89 : zrun call (zseg j_X9_look) 89 ls st μ = zexec call (zrun call (zseg j_X9_look)) s_X9_look_89 ls st μ := zrun_eq
theorem r_X9_close_0 : zrun call (zseg j_X9_close) 0 ls st μ = zexec call (zrun call (zseg j_X9_close)) s_X9_close_0 ls st μ := zrun_eq
theorem r_X9_close_34 : zrun call (zseg j_X9_close) 34 ls st μ = zexec call (zrun call (zseg j_X9_close)) s_X9_close_34 ls st μ := zrun_eq
theorem r_X10_init_0 : zrun call (zseg j_X10_init) 0 ls st μ = zexec call (zrun call (zseg j_X10_init)) s_X10_init_0 ls st μ := zrun_eq
theorem r_X10_reset_0 : zrun call (zseg j_X10_reset) 0 ls st μ = zexec call (zrun call (zseg j_X10_reset)) s_X10_reset_0 ls st μ := zrun_eq
theorem r_X10_hasRoller_0 : zrun call (zseg j_X10_hasRoller) 0 ls st μ = zexec call (zrun call (zseg j_X10_hasRoller)) s_X10_hasRoller_0 ls st μ := zrun_eq
theorem r_X10_hasRoller_16 : zrun call (zseg j_X10_hasRoller) 16 ls st μ = zexec call (zrun call (zseg j_X10_hasRoller)) s_X10_hasRoller_16 ls st μ := zrun_eq
theorem r_X10_hasRoller_17 : zrun call (zseg j_X10_hasRoller) 17 ls st μ = zexec call (zrun call (zseg j_X10_hasRoller)) s_X10_hasRoller_17 ls st μ := zrun_eq
theorem r_X10_hasEye_0 : zrun call (zseg j_X10_hasEye) 0 ls st μ = zexec call (zrun call (zseg j_X10_hasEye)) s_X10_hasEye_0 ls st μ := zrun_eq
theorem r_X10_hasEye_16 : zrun call (zseg j_X10_hasEye) 16 ls st μ = zexec call (zrun call (zseg j_X10_hasEye)) s_X10_hasEye_16 ls st μ := zrun_eq
theorem r_X10_hasEye_17 : zrun call (zseg j_X10_hasEye) 17 ls st μ = zexec call (zrun call (zseg j_X10_hasEye)) s_X10_hasEye_17 ls st μ := zrun_eq
theorem r_X10_lastRollerPlace_0 : zrun call (zseg j_X10_lastRollerPlace) 0 ls st μ = zexec call (zrun call (zseg j_X10_lastRollerPlace)) s_X10_lastRollerPlace_0 ls st μ := zrun_eq
theorem r_X10_lastRollerPlace_11 : zrun call (zseg j_X10_lastRollerPlace) 11 ls st μ = zexec call (zrun call (zseg j_X10_lastRollerPlace)) s_X10_lastRollerPlace_11 ls st μ := zrun_eq
theorem r_X10_lastRollerPlace_22 : zrun call (zseg j_X10_lastRollerPlace) 22 ls st μ = zexec call (zrun call (zseg j_X10_lastRollerPlace)) s_X10_lastRollerPlace_22 ls st μ := zrun_eq
theorem r_X10_lastEyePlace_0 : zrun call (zseg j_X10_lastEyePlace) 0 ls st μ = zexec call (zrun call (zseg j_X10_lastEyePlace)) s_X10_lastEyePlace_0 ls st μ := zrun_eq
theorem r_X10_lastEyePlace_11 : zrun call (zseg j_X10_lastEyePlace) 11 ls st μ = zexec call (zrun call (zseg j_X10_lastEyePlace)) s_X10_lastEyePlace_11 ls st μ := zrun_eq
theorem r_X10_lastEyePlace_22 : zrun call (zseg j_X10_lastEyePlace) 22 ls st μ = zexec call (zrun call (zseg j_X10_lastEyePlace)) s_X10_lastEyePlace_22 ls st μ := zrun_eq
theorem r_X10_creasesAre_0 : zrun call (zseg j_X10_creasesAre) 0 ls st μ = zexec call (zrun call (zseg j_X10_creasesAre)) s_X10_creasesAre_0 ls st μ := zrun_eq
theorem r_X10_creasesAre_6 : zrun call (zseg j_X10_creasesAre) 6 ls st μ = zexec call (zrun call (zseg j_X10_creasesAre)) s_X10_creasesAre_6 ls st μ := zrun_eq
theorem r_X10_creasesAre_46 : zrun call (zseg j_X10_creasesAre) 46 ls st μ = zexec call (zrun call (zseg j_X10_creasesAre)) s_X10_creasesAre_46 ls st μ := zrun_eq
theorem r_X10_creasesAre_57 : zrun call (zseg j_X10_creasesAre) 57 ls st μ = zexec call (zrun call (zseg j_X10_creasesAre)) s_X10_creasesAre_57 ls st μ := zrun_eq
theorem r_X10_creasesAre_68 : zrun call (zseg j_X10_creasesAre) 68 ls st μ = zexec call (zrun call (zseg j_X10_creasesAre)) s_X10_creasesAre_68 ls st μ := zrun_eq
theorem r_X10_creasesAre_69 : zrun call (zseg j_X10_creasesAre) 69 ls st μ = zexec call (zrun call (zseg j_X10_creasesAre)) s_X10_creasesAre_69 ls st μ := zrun_eq
theorem r_X10_creasesAre_80 : zrun call (zseg j_X10_creasesAre) 80 ls st μ = zexec call (zrun call (zseg j_X10_creasesAre)) s_X10_creasesAre_80 ls st μ := zrun_eq
theorem r_X10_creasesAre_83 : zrun call (zseg j_X10_creasesAre) 83 ls st μ = zexec call (zrun call (zseg j_X10_creasesAre)) s_X10_creasesAre_83 ls st μ := zrun_eq
theorem r_X10_creasesAre_89 : zrun call (zseg j_X10_creasesAre) 89 ls st μ = zexec call (zrun call (zseg j_X10_creasesAre)) s_X10_creasesAre_89 ls st μ := zrun_eq
theorem r_X10_creasesAre_98 : zrun call (zseg j_X10_creasesAre) 98 ls st μ = zexec call (zrun call (zseg j_X10_creasesAre)) s_X10_creasesAre_98 ls st μ := zrun_eq
theorem r_X10_creasesAre_108 : zrun call (zseg j_X10_creasesAre) 108 ls st μ = zexec call (zrun call (zseg j_X10_creasesAre)) s_X10_creasesAre_108 ls st μ := zrun_eq
theorem r_X10_creasesAre_118 : zrun call (zseg j_X10_creasesAre) 118 ls st μ = zexec call (zrun call (zseg j_X10_creasesAre)) s_X10_creasesAre_118 ls st μ := zrun_eq
theorem r_X10_creasesAre_119 : zrun call (zseg j_X10_creasesAre) 119 ls st μ = zexec call (zrun call (zseg j_X10_creasesAre)) s_X10_creasesAre_119 ls st μ := zrun_eq
theorem r_X10_creasesAre_132 : zrun call (zseg j_X10_creasesAre) 132 ls st μ = zexec call (zrun call (zseg j_X10_creasesAre)) s_X10_creasesAre_132 ls st μ := zrun_eq
theorem r_X10_creasesAre_133 : zrun call (zseg j_X10_creasesAre) 133 ls st μ = zexec call (zrun call (zseg j_X10_creasesAre)) s_X10_creasesAre_133 ls st μ := zrun_eq
theorem r_X11_init_0 : zrun call (zseg j_X11_init) 0 ls st μ = zexec call (zrun call (zseg j_X11_init)) s_X11_init_0 ls st μ := zrun_eq
theorem r_X11_feed_0 : zrun call (zseg j_X11_feed) 0 ls st μ = zexec call (zrun call (zseg j_X11_feed)) s_X11_feed_0 ls st μ := zrun_eq
theorem r_X11_feed_12 : zrun call (zseg j_X11_feed) 12 ls st μ = zexec call (zrun call (zseg j_X11_feed)) s_X11_feed_12 ls st μ := zrun_eq
theorem r_X11_text_0 : zrun call (zseg j_X11_text) 0 ls st μ = zexec call (zrun call (zseg j_X11_text)) s_X11_text_0 ls st μ := zrun_eq
theorem r_X11_text_15 : zrun call (zseg j_X11_text) 15 ls st μ = zexec call (zrun call (zseg j_X11_text)) s_X11_text_15 ls st μ := zrun_eq
theorem r_X11_text_18 : zrun call (zseg j_X11_text) 18 ls st μ = zexec call (zrun call (zseg j_X11_text)) s_X11_text_18 ls st μ := zrun_eq
theorem r_X11_text_67 : zrun call (zseg j_X11_text) 67 ls st μ = zexec call (zrun call (zseg j_X11_text)) s_X11_text_67 ls st μ := zrun_eq
theorem r_X11_fault_0 : zrun call (zseg j_X11_fault) 0 ls st μ = zexec call (zrun call (zseg j_X11_fault)) s_X11_fault_0 ls st μ := zrun_eq
theorem r_X11_fault_28 : zrun call (zseg j_X11_fault) 28 ls st μ = zexec call (zrun call (zseg j_X11_fault)) s_X11_fault_28 ls st μ := zrun_eq
theorem r_X11_fault_36 : zrun call (zseg j_X11_fault) 36 ls st μ = zexec call (zrun call (zseg j_X11_fault)) s_X11_fault_36 ls st μ := zrun_eq
theorem r_X11_fault_44 : zrun call (zseg j_X11_fault) 44 ls st μ = zexec call (zrun call (zseg j_X11_fault)) s_X11_fault_44 ls st μ := zrun_eq
theorem r_X11_set_0 : zrun call (zseg j_X11_set) 0 ls st μ = zexec call (zrun call (zseg j_X11_set)) s_X11_set_0 ls st μ := zrun_eq
theorem r_X11_set_20 : zrun call (zseg j_X11_set) 20 ls st μ = zexec call (zrun call (zseg j_X11_set)) s_X11_set_20 ls st μ := zrun_eq
theorem r_X11_set_23 : zrun call (zseg j_X11_set) 23 ls st μ = zexec call (zrun call (zseg j_X11_set)) s_X11_set_23 ls st μ := zrun_eq
theorem r_X11_set_39 : zrun call (zseg j_X11_set) 39 ls st μ = zexec call (zrun call (zseg j_X11_set)) s_X11_set_39 ls st μ := zrun_eq
theorem r_X11_set_48 : zrun call (zseg j_X11_set) 48 ls st μ = zexec call (zrun call (zseg j_X11_set)) s_X11_set_48 ls st μ := zrun_eq
theorem r_X11_corner_0 : zrun call (zseg j_X11_corner) 0 ls st μ = zexec call (zrun call (zseg j_X11_corner)) s_X11_corner_0 ls st μ := zrun_eq
theorem r_X11_corner_16 : zrun call (zseg j_X11_corner) 16 ls st μ = zexec call (zrun call (zseg j_X11_corner)) s_X11_corner_16 ls st μ := zrun_eq
theorem r_X11_corner_18 : zrun call (zseg j_X11_corner) 18 ls st μ = zexec call (zrun call (zseg j_X11_corner)) s_X11_corner_18 ls st μ := zrun_eq
theorem r_X11_corner_33 : zrun call (zseg j_X11_corner) 33 ls st μ = zexec call (zrun call (zseg j_X11_corner)) s_X11_corner_33 ls st μ := zrun_eq
theorem r_X11_corner_41 : zrun call (zseg j_X11_corner) 41 ls st μ = zexec call (zrun call (zseg j_X11_corner)) s_X11_corner_41 ls st μ := zrun_eq
theorem r_X11_lay_0 : zrun call (zseg j_X11_lay) 0 ls st μ = zexec call (zrun call (zseg j_X11_lay)) s_X11_lay_0 ls st μ := zrun_eq
theorem r_X11_lay_10 : zrun call (zseg j_X11_lay) 10 ls st μ = zexec call (zrun call (zseg j_X11_lay)) s_X11_lay_10 ls st μ := zrun_eq
theorem r_X11_lay_23 : zrun call (zseg j_X11_lay) 23 ls st μ = zexec call (zrun call (zseg j_X11_lay)) s_X11_lay_23 ls st μ := zrun_eq
theorem r_X11_lay_37 : zrun call (zseg j_X11_lay) 37 ls st μ = zexec call (zrun call (zseg j_X11_lay)) s_X11_lay_37 ls st μ := zrun_eq
theorem r_X11_lay_47 : zrun call (zseg j_X11_lay) 47 ls st μ = zexec call (zrun call (zseg j_X11_lay)) s_X11_lay_47 ls st μ := zrun_eq
theorem r_X11_lay_50 : zrun call (zseg j_X11_lay) 50 ls st μ = zexec call (zrun call (zseg j_X11_lay)) s_X11_lay_50 ls st μ := zrun_eq
theorem r_X11_lay_73 : zrun call (zseg j_X11_lay) 73 ls st μ = zexec call (zrun call (zseg j_X11_lay)) s_X11_lay_73 ls st μ := zrun_eq
theorem r_X11_lay_75 : zrun call (zseg j_X11_lay) 75 ls st μ = zexec call (zrun call (zseg j_X11_lay)) s_X11_lay_75 ls st μ := zrun_eq
theorem r_X11_tick_0 : zrun call (zseg j_X11_tick) 0 ls st μ = zexec call (zrun call (zseg j_X11_tick)) s_X11_tick_0 ls st μ := zrun_eq
theorem r_X11_tick_11 : zrun call (zseg j_X11_tick) 11 ls st μ = zexec call (zrun call (zseg j_X11_tick)) s_X11_tick_11 ls st μ := zrun_eq
theorem r_X11_tick_14 : zrun call (zseg j_X11_tick) 14 ls st μ = zexec call (zrun call (zseg j_X11_tick)) s_X11_tick_14 ls st μ := zrun_eq
theorem r_X11_tick_16 : zrun call (zseg j_X11_tick) 16 ls st μ = zexec call (zrun call (zseg j_X11_tick)) s_X11_tick_16 ls st μ := zrun_eq
theorem r_X11_tick_45 : zrun call (zseg j_X11_tick) 45 ls st μ = zexec call (zrun call (zseg j_X11_tick)) s_X11_tick_45 ls st μ := zrun_eq
theorem r_X11_sheet_0 : zrun call (zseg j_X11_sheet) 0 ls st μ = zexec call (zrun call (zseg j_X11_sheet)) s_X11_sheet_0 ls st μ := zrun_eq
theorem r_X11_sheet_15 : zrun call (zseg j_X11_sheet) 15 ls st μ = zexec call (zrun call (zseg j_X11_sheet)) s_X11_sheet_15 ls st μ := zrun_eq
theorem r_X11_sheet_18 : zrun call (zseg j_X11_sheet) 18 ls st μ = zexec call (zrun call (zseg j_X11_sheet)) s_X11_sheet_18 ls st μ := zrun_eq
theorem r_X11_sheet_52 : zrun call (zseg j_X11_sheet) 52 ls st μ = zexec call (zrun call (zseg j_X11_sheet)) s_X11_sheet_52 ls st μ := zrun_eq
theorem r_X11_sheet_62 : zrun call (zseg j_X11_sheet) 62 ls st μ = zexec call (zrun call (zseg j_X11_sheet)) s_X11_sheet_62 ls st μ := zrun_eq
theorem r_X11_sheet_72 : zrun call (zseg j_X11_sheet) 72 ls st μ = zexec call (zrun call (zseg j_X11_sheet)) s_X11_sheet_72 ls st μ := zrun_eq
theorem r_X11_sheet_81 : zrun call (zseg j_X11_sheet) 81 ls st μ = zexec call (zrun call (zseg j_X11_sheet)) s_X11_sheet_81 ls st μ := zrun_eq
theorem r_X11_sheet_91 : zrun call (zseg j_X11_sheet) 91 ls st μ = zexec call (zrun call (zseg j_X11_sheet)) s_X11_sheet_91 ls st μ := zrun_eq
theorem r_X11_sheet_101 : zrun call (zseg j_X11_sheet) 101 ls st μ = zexec call (zrun call (zseg j_X11_sheet)) s_X11_sheet_101 ls st μ := zrun_eq
theorem r_X11_clear_0 : zrun call (zseg j_X11_clear) 0 ls st μ = zexec call (zrun call (zseg j_X11_clear)) s_X11_clear_0 ls st μ := zrun_eq
theorem r_X11_clear_23 : zrun call (zseg j_X11_clear) 23 ls st μ = zexec call (zrun call (zseg j_X11_clear)) s_X11_clear_23 ls st μ := zrun_eq
theorem r_X11_clear_26 : zrun call (zseg j_X11_clear) 26 ls st μ = zexec call (zrun call (zseg j_X11_clear)) s_X11_clear_26 ls st μ := zrun_eq
theorem r_X11_clear_66 : zrun call (zseg j_X11_clear) 66 ls st μ = zexec call (zrun call (zseg j_X11_clear)) s_X11_clear_66 ls st μ := zrun_eq
theorem r_X11_sees_0 : zrun call (zseg j_X11_sees) 0 ls st μ = zexec call (zrun call (zseg j_X11_sees)) s_X11_sees_0 ls st μ := zrun_eq
theorem r_X11_sees_14 : zrun call (zseg j_X11_sees) 14 ls st μ = zexec call (zrun call (zseg j_X11_sees)) s_X11_sees_14 ls st μ := zrun_eq
theorem r_X11_sees_33 : zrun call (zseg j_X11_sees) 33 ls st μ = zexec call (zrun call (zseg j_X11_sees)) s_X11_sees_33 ls st μ := zrun_eq
theorem r_X11_sees_34 : zrun call (zseg j_X11_sees) 34 ls st μ = zexec call (zrun call (zseg j_X11_sees)) s_X11_sees_34 ls st μ := zrun_eq
theorem r_X11_passing_0 : zrun call (zseg j_X11_passing) 0 ls st μ = zexec call (zrun call (zseg j_X11_passing)) s_X11_passing_0 ls st μ := zrun_eq
theorem r_X11_passing_31 : zrun call (zseg j_X11_passing) 31 ls st μ = zexec call (zrun call (zseg j_X11_passing)) s_X11_passing_31 ls st μ := zrun_eq
theorem r_X11_passing_34 : zrun call (zseg j_X11_passing) 34 ls st μ = zexec call (zrun call (zseg j_X11_passing)) s_X11_passing_34 ls st μ := zrun_eq
theorem r_X11_passing_60 : zrun call (zseg j_X11_passing) 60 ls st μ = zexec call (zrun call (zseg j_X11_passing)) s_X11_passing_60 ls st μ := zrun_eq
theorem r_X11_passing_78 : zrun call (zseg j_X11_passing) 78 ls st μ = zexec call (zrun call (zseg j_X11_passing)) s_X11_passing_78 ls st μ := zrun_eq
theorem r_X11_passing_96 : zrun call (zseg j_X11_passing) 96 ls st μ = zexec call (zrun call (zseg j_X11_passing)) s_X11_passing_96 ls st μ := zrun_eq
theorem r_X11_saw_0 : zrun call (zseg j_X11_saw) 0 ls st μ = zexec call (zrun call (zseg j_X11_saw)) s_X11_saw_0 ls st μ := zrun_eq
theorem r_X11_saw_28 : zrun call (zseg j_X11_saw) 28 ls st μ = zexec call (zrun call (zseg j_X11_saw)) s_X11_saw_28 ls st μ := zrun_eq
theorem r_X11_saw_29 : zrun call (zseg j_X11_saw) 29 ls st μ = zexec call (zrun call (zseg j_X11_saw)) s_X11_saw_29 ls st μ := zrun_eq
theorem r_X11_forget_0 : zrun call (zseg j_X11_forget) 0 ls st μ = zexec call (zrun call (zseg j_X11_forget)) s_X11_forget_0 ls st μ := zrun_eq
theorem r_X11_explain_0 : zrun call (zseg j_X11_explain) 0 ls st μ = zexec call (zrun call (zseg j_X11_explain)) s_X11_explain_0 ls st μ := zrun_eq
theorem r_X11_explain_10 : zrun call (zseg j_X11_explain) 10 ls st μ = zexec call (zrun call (zseg j_X11_explain)) s_X11_explain_10 ls st μ := zrun_eq
theorem r_X11_explain_23 : zrun call (zseg j_X11_explain) 23 ls st μ = zexec call (zrun call (zseg j_X11_explain)) s_X11_explain_23 ls st μ := zrun_eq
theorem r_X11_explain_48 : zrun call (zseg j_X11_explain) 48 ls st μ = zexec call (zrun call (zseg j_X11_explain)) s_X11_explain_48 ls st μ := zrun_eq
theorem r_X11_explain_63 : zrun call (zseg j_X11_explain) 63 ls st μ = zexec call (zrun call (zseg j_X11_explain)) s_X11_explain_63 ls st μ := zrun_eq
theorem r_X11_explain_65 : zrun call (zseg j_X11_explain) 65 ls st μ = zexec call (zrun call (zseg j_X11_explain)) s_X11_explain_65 ls st μ := zrun_eq
theorem r_X11_explain_79 : zrun call (zseg j_X11_explain) 79 ls st μ = zexec call (zrun call (zseg j_X11_explain)) s_X11_explain_79 ls st μ := zrun_eq
theorem r_X11_explain_86 : zrun call (zseg j_X11_explain) 86 ls st μ = zexec call (zrun call (zseg j_X11_explain)) s_X11_explain_86 ls st μ := zrun_eq
theorem r_X11_foretold_0 : zrun call (zseg j_X11_foretold) 0 ls st μ = zexec call (zrun call (zseg j_X11_foretold)) s_X11_foretold_0 ls st μ := zrun_eq
theorem r_X11_foretold_14 : zrun call (zseg j_X11_foretold) 14 ls st μ = zexec call (zrun call (zseg j_X11_foretold)) s_X11_foretold_14 ls st μ := zrun_eq
theorem r_X11_foretold_31 : zrun call (zseg j_X11_foretold) 31 ls st μ = zexec call (zrun call (zseg j_X11_foretold)) s_X11_foretold_31 ls st μ := zrun_eq
theorem r_X11_foretold_34 : zrun call (zseg j_X11_foretold) 34 ls st μ = zexec call (zrun call (zseg j_X11_foretold)) s_X11_foretold_34 ls st μ := zrun_eq
theorem r_X11_crease_0 : zrun call (zseg j_X11_crease) 0 ls st μ = zexec call (zrun call (zseg j_X11_crease)) s_X11_crease_0 ls st μ := zrun_eq
theorem r_X11_crease_17 : zrun call (zseg j_X11_crease) 17 ls st μ = zexec call (zrun call (zseg j_X11_crease)) s_X11_crease_17 ls st μ := zrun_eq
theorem r_X11_crease_20 : zrun call (zseg j_X11_crease) 20 ls st μ = zexec call (zrun call (zseg j_X11_crease)) s_X11_crease_20 ls st μ := zrun_eq
theorem r_X11_crease_26 : zrun call (zseg j_X11_crease) 26 ls st μ = zexec call (zrun call (zseg j_X11_crease)) s_X11_crease_26 ls st μ := zrun_eq
theorem r_X11_crease_65 : zrun call (zseg j_X11_crease) 65 ls st μ = zexec call (zrun call (zseg j_X11_crease)) s_X11_crease_65 ls st μ := zrun_eq
theorem r_X11_crease_68 : zrun call (zseg j_X11_crease) 68 ls st μ = zexec call (zrun call (zseg j_X11_crease)) s_X11_crease_68 ls st μ := zrun_eq
theorem r_X11_crease_74 : zrun call (zseg j_X11_crease) 74 ls st μ = zexec call (zrun call (zseg j_X11_crease)) s_X11_crease_74 ls st μ := zrun_eq
theorem r_X11_crease_85 : zrun call (zseg j_X11_crease) 85 ls st μ = zexec call (zrun call (zseg j_X11_crease)) s_X11_crease_85 ls st μ := zrun_eq
theorem r_X11_crease_86 : zrun call (zseg j_X11_crease) 86 ls st μ = zexec call (zrun call (zseg j_X11_crease)) s_X11_crease_86 ls st μ := zrun_eq
theorem r_X11_page_0 : zrun call (zseg j_X11_page) 0 ls st μ = zexec call (zrun call (zseg j_X11_page)) s_X11_page_0 ls st μ := zrun_eq
theorem r_X11_page_9 : zrun call (zseg j_X11_page) 9 ls st μ = zexec call (zrun call (zseg j_X11_page)) s_X11_page_9 ls st μ := zrun_eq
theorem r_X11_page_12 : zrun call (zseg j_X11_page) 12 ls st μ = zexec call (zrun call (zseg j_X11_page)) s_X11_page_12 ls st μ := zrun_eq
theorem r_X11_page_27 : zrun call (zseg j_X11_page) 27 ls st μ = zexec call (zrun call (zseg j_X11_page)) s_X11_page_27 ls st μ := zrun_eq
theorem r_X11_page_40 : zrun call (zseg j_X11_page) 40 ls st μ = zexec call (zrun call (zseg j_X11_page)) s_X11_page_40 ls st μ := zrun_eq
theorem r_X11_tray_0 : zrun call (zseg j_X11_tray) 0 ls st μ = zexec call (zrun call (zseg j_X11_tray)) s_X11_tray_0 ls st μ := zrun_eq
theorem r_X11_tray_18 : zrun call (zseg j_X11_tray) 18 ls st μ = zexec call (zrun call (zseg j_X11_tray)) s_X11_tray_18 ls st μ := zrun_eq
theorem r_X11_tray_20 : zrun call (zseg j_X11_tray) 20 ls st μ = zexec call (zrun call (zseg j_X11_tray)) s_X11_tray_20 ls st μ := zrun_eq
theorem r_X11_pocket_0 : zrun call (zseg j_X11_pocket) 0 ls st μ = zexec call (zrun call (zseg j_X11_pocket)) s_X11_pocket_0 ls st μ := zrun_eq
theorem r_X11_pocket_19 : zrun call (zseg j_X11_pocket) 19 ls st μ = zexec call (zrun call (zseg j_X11_pocket)) s_X11_pocket_19 ls st μ := zrun_eq
theorem r_X11_pocket_21 : zrun call (zseg j_X11_pocket) 21 ls st μ = zexec call (zrun call (zseg j_X11_pocket)) s_X11_pocket_21 ls st μ := zrun_eq
theorem r_X11_heat_0 : zrun call (zseg j_X11_heat) 0 ls st μ = zexec call (zrun call (zseg j_X11_heat)) s_X11_heat_0 ls st μ := zrun_eq
theorem r_X11_heat_47 : zrun call (zseg j_X11_heat) 47 ls st μ = zexec call (zrun call (zseg j_X11_heat)) s_X11_heat_47 ls st μ := zrun_eq
theorem r_X11_heat_48 : zrun call (zseg j_X11_heat) 48 ls st μ = zexec call (zrun call (zseg j_X11_heat)) s_X11_heat_48 ls st μ := zrun_eq
theorem r_X11_heat_96 : zrun call (zseg j_X11_heat) 96 ls st μ = zexec call (zrun call (zseg j_X11_heat)) s_X11_heat_96 ls st μ := zrun_eq
theorem r_X11_plan_0 : zrun call (zseg j_X11_plan) 0 ls st μ = zexec call (zrun call (zseg j_X11_plan)) s_X11_plan_0 ls st μ := zrun_eq
theorem r_X11_plan_24 : zrun call (zseg j_X11_plan) 24 ls st μ = zexec call (zrun call (zseg j_X11_plan)) s_X11_plan_24 ls st μ := zrun_eq
theorem r_X11_plan_51 : zrun call (zseg j_X11_plan) 51 ls st μ = zexec call (zrun call (zseg j_X11_plan)) s_X11_plan_51 ls st μ := zrun_eq
theorem r_X11_plan_52 : zrun call (zseg j_X11_plan) 52 ls st μ = zexec call (zrun call (zseg j_X11_plan)) s_X11_plan_52 ls st μ := zrun_eq
theorem r_X11_copies_0 : zrun call (zseg j_X11_copies) 0 ls st μ = zexec call (zrun call (zseg j_X11_copies)) s_X11_copies_0 ls st μ := zrun_eq
theorem r_X11_copies_11 : zrun call (zseg j_X11_copies) 11 ls st μ = zexec call (zrun call (zseg j_X11_copies)) s_X11_copies_11 ls st μ := zrun_eq
theorem r_X11_copies_14 : zrun call (zseg j_X11_copies) 14 ls st μ = zexec call (zrun call (zseg j_X11_copies)) s_X11_copies_14 ls st μ := zrun_eq
theorem r_X11_out_0 : zrun call (zseg j_X11_out) 0 ls st μ = zexec call (zrun call (zseg j_X11_out)) s_X11_out_0 ls st μ := zrun_eq
theorem r_X11_out_15 : zrun call (zseg j_X11_out) 15 ls st μ = zexec call (zrun call (zseg j_X11_out)) s_X11_out_15 ls st μ := zrun_eq
theorem r_X11_out_18 : zrun call (zseg j_X11_out) 18 ls st μ = zexec call (zrun call (zseg j_X11_out)) s_X11_out_18 ls st μ := zrun_eq
theorem r_X11_out_33 : zrun call (zseg j_X11_out) 33 ls st μ = zexec call (zrun call (zseg j_X11_out)) s_X11_out_33 ls st μ := zrun_eq
theorem r_X11_empty_0 : zrun call (zseg j_X11_empty) 0 ls st μ = zexec call (zrun call (zseg j_X11_empty)) s_X11_empty_0 ls st μ := zrun_eq
theorem r_X11_again_0 : zrun call (zseg j_X11_again) 0 ls st μ = zexec call (zrun call (zseg j_X11_again)) s_X11_again_0 ls st μ := zrun_eq
theorem r_X11_again_40 : zrun call (zseg j_X11_again) 40 ls st μ = zexec call (zrun call (zseg j_X11_again)) s_X11_again_40 ls st μ := zrun_eq
theorem r_X11_again_56 : zrun call (zseg j_X11_again) 56 ls st μ = zexec call (zrun call (zseg j_X11_again)) s_X11_again_56 ls st μ := zrun_eq
theorem r_X11_again_72 : zrun call (zseg j_X11_again) 72 ls st μ = zexec call (zrun call (zseg j_X11_again)) s_X11_again_72 ls st μ := zrun_eq
theorem r_X11_again_84 : zrun call (zseg j_X11_again) 84 ls st μ = zexec call (zrun call (zseg j_X11_again)) s_X11_again_84 ls st μ := zrun_eq
theorem r_X11_lack_0 : zrun call (zseg j_X11_lack) 0 ls st μ = zexec call (zrun call (zseg j_X11_lack)) s_X11_lack_0 ls st μ := zrun_eq
theorem r_X11_kept_0 : zrun call (zseg j_X11_kept) 0 ls st μ = zexec call (zrun call (zseg j_X11_kept)) s_X11_kept_0 ls st μ := zrun_eq
theorem r_X11_kept_38 : zrun call (zseg j_X11_kept) 38 ls st μ = zexec call (zrun call (zseg j_X11_kept)) s_X11_kept_38 ls st μ := zrun_eq
theorem r_X11_kept_39 : zrun call (zseg j_X11_kept) 39 ls st μ = zexec call (zrun call (zseg j_X11_kept)) s_X11_kept_39 ls st μ := zrun_eq
theorem r_X11_pay_0 : zrun call (zseg j_X11_pay) 0 ls st μ = zexec call (zrun call (zseg j_X11_pay)) s_X11_pay_0 ls st μ := zrun_eq
theorem r_X11_pay_31 : zrun call (zseg j_X11_pay) 31 ls st μ = zexec call (zrun call (zseg j_X11_pay)) s_X11_pay_31 ls st μ := zrun_eq
theorem r_X11_pay_33 : zrun call (zseg j_X11_pay) 33 ls st μ = zexec call (zrun call (zseg j_X11_pay)) s_X11_pay_33 ls st μ := zrun_eq
theorem r_X11_part_0 : zrun call (zseg j_X11_part) 0 ls st μ = zexec call (zrun call (zseg j_X11_part)) s_X11_part_0 ls st μ := zrun_eq
theorem r_X11_part_20 : zrun call (zseg j_X11_part) 20 ls st μ = zexec call (zrun call (zseg j_X11_part)) s_X11_part_20 ls st μ := zrun_eq
theorem r_X11_part_22 : zrun call (zseg j_X11_part) 22 ls st μ = zexec call (zrun call (zseg j_X11_part)) s_X11_part_22 ls st μ := zrun_eq
theorem r_X11_part_45 : zrun call (zseg j_X11_part) 45 ls st μ = zexec call (zrun call (zseg j_X11_part)) s_X11_part_45 ls st μ := zrun_eq
theorem r_X11_part_47 : zrun call (zseg j_X11_part) 47 ls st μ = zexec call (zrun call (zseg j_X11_part)) s_X11_part_47 ls st μ := zrun_eq
theorem r_X11_service_0 : zrun call (zseg j_X11_service) 0 ls st μ = zexec call (zrun call (zseg j_X11_service)) s_X11_service_0 ls st μ := zrun_eq
theorem r_X11_service_22 : zrun call (zseg j_X11_service) 22 ls st μ = zexec call (zrun call (zseg j_X11_service)) s_X11_service_22 ls st μ := zrun_eq
theorem r_X11_service_24 : zrun call (zseg j_X11_service) 24 ls st μ = zexec call (zrun call (zseg j_X11_service)) s_X11_service_24 ls st μ := zrun_eq
theorem r_X11_service_64 : zrun call (zseg j_X11_service) 64 ls st μ = zexec call (zrun call (zseg j_X11_service)) s_X11_service_64 ls st μ := zrun_eq
theorem r_X11_service_72 : zrun call (zseg j_X11_service) 72 ls st μ = zexec call (zrun call (zseg j_X11_service)) s_X11_service_72 ls st μ := zrun_eq
theorem r_X11_service_80 : zrun call (zseg j_X11_service) 80 ls st μ = zexec call (zrun call (zseg j_X11_service)) s_X11_service_80 ls st μ := zrun_eq
theorem r_X11_service_88 : zrun call (zseg j_X11_service) 88 ls st μ = zexec call (zrun call (zseg j_X11_service)) s_X11_service_88 ls st μ := zrun_eq
theorem r_X11_row_0 : zrun call (zseg j_X11_row) 0 ls st μ = zexec call (zrun call (zseg j_X11_row)) s_X11_row_0 ls st μ := zrun_eq
theorem r_X11_row_24 : zrun call (zseg j_X11_row) 24 ls st μ = zexec call (zrun call (zseg j_X11_row)) s_X11_row_24 ls st μ := zrun_eq
theorem r_X11_row_27 : zrun call (zseg j_X11_row) 27 ls st μ = zexec call (zrun call (zseg j_X11_row)) s_X11_row_27 ls st μ := zrun_eq
theorem r_X11_row_34 : zrun call (zseg j_X11_row) 34 ls st μ = zexec call (zrun call (zseg j_X11_row)) s_X11_row_34 ls st μ := zrun_eq
theorem r_X11_write_0 : zrun call (zseg j_X11_write) 0 ls st μ = zexec call (zrun call (zseg j_X11_write)) s_X11_write_0 ls st μ := zrun_eq
theorem r_X11_write_26 : zrun call (zseg j_X11_write) 26 ls st μ = zexec call (zrun call (zseg j_X11_write)) s_X11_write_26 ls st μ := zrun_eq
theorem r_X11_write_30 : zrun call (zseg j_X11_write) 30 ls st μ = zexec call (zrun call (zseg j_X11_write)) s_X11_write_30 ls st μ := zrun_eq
theorem r_X11_save_0 : zrun call (zseg j_X11_save) 0 ls st μ = zexec call (zrun call (zseg j_X11_save)) s_X11_save_0 ls st μ := zrun_eq
theorem r_X11_save_9 : zrun call (zseg j_X11_save) 9 ls st μ = zexec call (zrun call (zseg j_X11_save)) s_X11_save_9 ls st μ := zrun_eq
theorem r_X11_save_12 : zrun call (zseg j_X11_save) 12 ls st μ = zexec call (zrun call (zseg j_X11_save)) s_X11_save_12 ls st μ := zrun_eq
theorem r_X11_save_28 : zrun call (zseg j_X11_save) 28 ls st μ = zexec call (zrun call (zseg j_X11_save)) s_X11_save_28 ls st μ := zrun_eq
theorem r_X11_save_50 : zrun call (zseg j_X11_save) 50 ls st μ = zexec call (zrun call (zseg j_X11_save)) s_X11_save_50 ls st μ := zrun_eq
theorem r_X11_save_52 : zrun call (zseg j_X11_save) 52 ls st μ = zexec call (zrun call (zseg j_X11_save)) s_X11_save_52 ls st μ := zrun_eq
theorem r_X11_save_90 : zrun call (zseg j_X11_save) 90 ls st μ = zexec call (zrun call (zseg j_X11_save)) s_X11_save_90 ls st μ := zrun_eq
theorem r_X11_load_0 : zrun call (zseg j_X11_load) 0 ls st μ = zexec call (zrun call (zseg j_X11_load)) s_X11_load_0 ls st μ := zrun_eq
theorem r_X11_load_9 : zrun call (zseg j_X11_load) 9 ls st μ = zexec call (zrun call (zseg j_X11_load)) s_X11_load_9 ls st μ := zrun_eq
theorem r_X11_load_12 : zrun call (zseg j_X11_load) 12 ls st μ = zexec call (zrun call (zseg j_X11_load)) s_X11_load_12 ls st μ := zrun_eq
theorem r_X11_load_28 : zrun call (zseg j_X11_load) 28 ls st μ = zexec call (zrun call (zseg j_X11_load)) s_X11_load_28 ls st μ := zrun_eq
theorem r_X11_load_45 : zrun call (zseg j_X11_load) 45 ls st μ = zexec call (zrun call (zseg j_X11_load)) s_X11_load_45 ls st μ := zrun_eq
theorem r_X11_load_48 : zrun call (zseg j_X11_load) 48 ls st μ = zexec call (zrun call (zseg j_X11_load)) s_X11_load_48 ls st μ := zrun_eq
theorem r_X11_load_70 : zrun call (zseg j_X11_load) 70 ls st μ = zexec call (zrun call (zseg j_X11_load)) s_X11_load_70 ls st μ := zrun_eq
theorem r_X11_load_72 : zrun call (zseg j_X11_load) 72 ls st μ = zexec call (zrun call (zseg j_X11_load)) s_X11_load_72 ls st μ := zrun_eq
theorem r_X11_load_104 : zrun call (zseg j_X11_load) 104 ls st μ = zexec call (zrun call (zseg j_X11_load)) s_X11_load_104 ls st μ := zrun_eq
theorem r_X11_image_0 : zrun call (zseg j_X11_image) 0 ls st μ = zexec call (zrun call (zseg j_X11_image)) s_X11_image_0 ls st μ := zrun_eq
theorem r_X11_image_13 : zrun call (zseg j_X11_image) 13 ls st μ = zexec call (zrun call (zseg j_X11_image)) s_X11_image_13 ls st μ := zrun_eq
theorem r_X11_image_15 : zrun call (zseg j_X11_image) 15 ls st μ = zexec call (zrun call (zseg j_X11_image)) s_X11_image_15 ls st μ := zrun_eq
theorem r_X11_restore_0 : zrun call (zseg j_X11_restore) 0 ls st μ = zexec call (zrun call (zseg j_X11_restore)) s_X11_restore_0 ls st μ := zrun_eq
theorem r_X11_restore_22 : zrun call (zseg j_X11_restore) 22 ls st μ = zexec call (zrun call (zseg j_X11_restore)) s_X11_restore_22 ls st μ := zrun_eq
theorem r_X11_restore_24 : zrun call (zseg j_X11_restore) 24 ls st μ = zexec call (zrun call (zseg j_X11_restore)) s_X11_restore_24 ls st μ := zrun_eq
theorem r_X11_count_0 : zrun call (zseg j_X11_count) 0 ls st μ = zexec call (zrun call (zseg j_X11_count)) s_X11_count_0 ls st μ := zrun_eq
theorem r_X11_count_52 : zrun call (zseg j_X11_count) 52 ls st μ = zexec call (zrun call (zseg j_X11_count)) s_X11_count_52 ls st μ := zrun_eq
theorem r_X11_count_60 : zrun call (zseg j_X11_count) 60 ls st μ = zexec call (zrun call (zseg j_X11_count)) s_X11_count_60 ls st μ := zrun_eq
theorem r_X11_count_68 : zrun call (zseg j_X11_count) 68 ls st μ = zexec call (zrun call (zseg j_X11_count)) s_X11_count_68 ls st μ := zrun_eq
theorem r_X11_count_76 : zrun call (zseg j_X11_count) 76 ls st μ = zexec call (zrun call (zseg j_X11_count)) s_X11_count_76 ls st μ := zrun_eq
theorem r_X11_count_84 : zrun call (zseg j_X11_count) 84 ls st μ = zexec call (zrun call (zseg j_X11_count)) s_X11_count_84 ls st μ := zrun_eq
theorem r_X11_count_92 : zrun call (zseg j_X11_count) 92 ls st μ = zexec call (zrun call (zseg j_X11_count)) s_X11_count_92 ls st μ := zrun_eq
theorem r_X11_count_100 : zrun call (zseg j_X11_count) 100 ls st μ = zexec call (zrun call (zseg j_X11_count)) s_X11_count_100 ls st μ := zrun_eq
theorem r_X11_count_108 : zrun call (zseg j_X11_count) 108 ls st μ = zexec call (zrun call (zseg j_X11_count)) s_X11_count_108 ls st μ := zrun_eq
theorem r_X11_count_116 : zrun call (zseg j_X11_count) 116 ls st μ = zexec call (zrun call (zseg j_X11_count)) s_X11_count_116 ls st μ := zrun_eq
theorem r_X11_count_124 : zrun call (zseg j_X11_count) 124 ls st μ = zexec call (zrun call (zseg j_X11_count)) s_X11_count_124 ls st μ := zrun_eq
theorem r_X11_countOfSet_0 : zrun call (zseg j_X11_countOfSet) 0 ls st μ = zexec call (zrun call (zseg j_X11_countOfSet)) s_X11_countOfSet_0 ls st μ := zrun_eq
theorem r_X11_countOfSet_32 : zrun call (zseg j_X11_countOfSet) 32 ls st μ = zexec call (zrun call (zseg j_X11_countOfSet)) s_X11_countOfSet_32 ls st μ := zrun_eq
theorem r_X11_countOfSet_40 : zrun call (zseg j_X11_countOfSet) 40 ls st μ = zexec call (zrun call (zseg j_X11_countOfSet)) s_X11_countOfSet_40 ls st μ := zrun_eq
theorem r_X11_countOfSet_48 : zrun call (zseg j_X11_countOfSet) 48 ls st μ = zexec call (zrun call (zseg j_X11_countOfSet)) s_X11_countOfSet_48 ls st μ := zrun_eq
theorem r_X11_countOfSet_56 : zrun call (zseg j_X11_countOfSet) 56 ls st μ = zexec call (zrun call (zseg j_X11_countOfSet)) s_X11_countOfSet_56 ls st μ := zrun_eq
theorem r_X11_countOfSet_64 : zrun call (zseg j_X11_countOfSet) 64 ls st μ = zexec call (zrun call (zseg j_X11_countOfSet)) s_X11_countOfSet_64 ls st μ := zrun_eq
theorem r_X11_isSheetLength_0 : zrun call (zseg j_X11_isSheetLength) 0 ls st μ = zexec call (zrun call (zseg j_X11_isSheetLength)) s_X11_isSheetLength_0 ls st μ := zrun_eq
theorem r_X11_isSheetLength_16 : zrun call (zseg j_X11_isSheetLength) 16 ls st μ = zexec call (zrun call (zseg j_X11_isSheetLength)) s_X11_isSheetLength_16 ls st μ := zrun_eq
theorem r_X11_isSheetLength_17 : zrun call (zseg j_X11_isSheetLength) 17 ls st μ = zexec call (zrun call (zseg j_X11_isSheetLength)) s_X11_isSheetLength_17 ls st μ := zrun_eq
theorem r_X11_isCreaseRow_0 : zrun call (zseg j_X11_isCreaseRow) 0 ls st μ = zexec call (zrun call (zseg j_X11_isCreaseRow)) s_X11_isCreaseRow_0 ls st μ := zrun_eq
theorem r_X11_isCreaseRow_41 : zrun call (zseg j_X11_isCreaseRow) 41 ls st μ = zexec call (zrun call (zseg j_X11_isCreaseRow)) s_X11_isCreaseRow_41 ls st μ := zrun_eq
theorem r_X11_isCreaseRow_42 : zrun call (zseg j_X11_isCreaseRow) 42 ls st μ = zexec call (zrun call (zseg j_X11_isCreaseRow)) s_X11_isCreaseRow_42 ls st μ := zrun_eq
theorem r_X11_isCrease_0 : zrun call (zseg j_X11_isCrease) 0 ls st μ = zexec call (zrun call (zseg j_X11_isCrease)) s_X11_isCrease_0 ls st μ := zrun_eq
theorem r_X11_isCrease_15 : zrun call (zseg j_X11_isCrease) 15 ls st μ = zexec call (zrun call (zseg j_X11_isCrease)) s_X11_isCrease_15 ls st μ := zrun_eq
theorem r_X11_isCrease_16 : zrun call (zseg j_X11_isCrease) 16 ls st μ = zexec call (zrun call (zseg j_X11_isCrease)) s_X11_isCrease_16 ls st μ := zrun_eq
theorem r_X11_falls_0 : zrun call (zseg j_X11_falls) 0 ls st μ = zexec call (zrun call (zseg j_X11_falls)) s_X11_falls_0 ls st μ := zrun_eq
theorem r_X11_falls_15 : zrun call (zseg j_X11_falls) 15 ls st μ = zexec call (zrun call (zseg j_X11_falls)) s_X11_falls_15 ls st μ := zrun_eq
theorem r_X11_falls_19 : zrun call (zseg j_X11_falls) 19 ls st μ = zexec call (zrun call (zseg j_X11_falls)) s_X11_falls_19 ls st μ := zrun_eq
theorem r_X11_falls_20 : zrun call (zseg j_X11_falls) 20 ls st μ = zexec call (zrun call (zseg j_X11_falls)) s_X11_falls_20 ls st μ := zrun_eq
theorem r_X12_within_0 : zrun call (zseg j_X12_within) 0 ls st μ = zexec call (zrun call (zseg j_X12_within)) s_X12_within_0 ls st μ := zrun_eq
theorem r_X12_within_17 : zrun call (zseg j_X12_within) 17 ls st μ = zexec call (zrun call (zseg j_X12_within)) s_X12_within_17 ls st μ := zrun_eq
theorem r_X12_within_18 : zrun call (zseg j_X12_within) 18 ls st μ = zexec call (zrun call (zseg j_X12_within)) s_X12_within_18 ls st μ := zrun_eq
theorem r_X12_init_0 : zrun call (zseg j_X12_init) 0 ls st μ = zexec call (zrun call (zseg j_X12_init)) s_X12_init_0 ls st μ := zrun_eq
theorem r_X12_begins_0 : zrun call (zseg j_X12_begins) 0 ls st μ = zexec call (zrun call (zseg j_X12_begins)) s_X12_begins_0 ls st μ := zrun_eq
theorem r_X12_begins_2 : zrun call (zseg j_X12_begins) 2 ls st μ = zexec call (zrun call (zseg j_X12_begins)) s_X12_begins_2 ls st μ := zrun_eq
theorem r_X12_begins_22 : zrun call (zseg j_X12_begins) 22 ls st μ = zexec call (zrun call (zseg j_X12_begins)) s_X12_begins_22 ls st μ := zrun_eq
theorem r_X12_begins_23 : zrun call (zseg j_X12_begins) 23 ls st μ = zexec call (zrun call (zseg j_X12_begins)) s_X12_begins_23 ls st μ := zrun_eq
theorem r_X12_begins_30 : zrun call (zseg j_X12_begins) 30 ls st μ = zexec call (zrun call (zseg j_X12_begins)) s_X12_begins_30 ls st μ := zrun_eq
theorem r_X12_becomes_0 : zrun call (zseg j_X12_becomes) 0 ls st μ = zexec call (zrun call (zseg j_X12_becomes)) s_X12_becomes_0 ls st μ := zrun_eq
theorem r_X12_becomes_2 : zrun call (zseg j_X12_becomes) 2 ls st μ = zexec call (zrun call (zseg j_X12_becomes)) s_X12_becomes_2 ls st μ := zrun_eq
theorem r_X12_becomes_26 : zrun call (zseg j_X12_becomes) 26 ls st μ = zexec call (zrun call (zseg j_X12_becomes)) s_X12_becomes_26 ls st μ := zrun_eq
theorem r_X12_becomes_28 : zrun call (zseg j_X12_becomes) 28 ls st μ = zexec call (zrun call (zseg j_X12_becomes)) s_X12_becomes_28 ls st μ := zrun_eq
theorem r_X12_becomes_78 : zrun call (zseg j_X12_becomes) 78 ls st μ = zexec call (zrun call (zseg j_X12_becomes)) s_X12_becomes_78 ls st μ := zrun_eq
theorem r_X12_becomes_80 : zrun call (zseg j_X12_becomes) 80 ls st μ = zexec call (zrun call (zseg j_X12_becomes)) s_X12_becomes_80 ls st μ := zrun_eq
theorem r_X12_becomes_125 : zrun call (zseg j_X12_becomes) 125 ls st μ = zexec call (zrun call (zseg j_X12_becomes)) s_X12_becomes_125 ls st μ := zrun_eq
theorem r_X12_feed_0 : zrun call (zseg j_X12_feed) 0 ls st μ = zexec call (zrun call (zseg j_X12_feed)) s_X12_feed_0 ls st μ := zrun_eq
theorem r_X12_feed_20 : zrun call (zseg j_X12_feed) 20 ls st μ = zexec call (zrun call (zseg j_X12_feed)) s_X12_feed_20 ls st μ := zrun_eq
theorem r_X12_feed_23 : zrun call (zseg j_X12_feed) 23 ls st μ = zexec call (zrun call (zseg j_X12_feed)) s_X12_feed_23 ls st μ := zrun_eq
theorem r_X12_feed_40 : zrun call (zseg j_X12_feed) 40 ls st μ = zexec call (zrun call (zseg j_X12_feed)) s_X12_feed_40 ls st μ := zrun_eq
theorem r_X12_feed_51 : zrun call (zseg j_X12_feed) 51 ls st μ = zexec call (zrun call (zseg j_X12_feed)) s_X12_feed_51 ls st μ := zrun_eq
theorem r_X12_feed_62 : zrun call (zseg j_X12_feed) 62 ls st μ = zexec call (zrun call (zseg j_X12_feed)) s_X12_feed_62 ls st μ := zrun_eq
theorem r_X12_feed_74 : zrun call (zseg j_X12_feed) 74 ls st μ = zexec call (zrun call (zseg j_X12_feed)) s_X12_feed_74 ls st μ := zrun_eq
theorem r_X12_feed_76 : zrun call (zseg j_X12_feed) 76 ls st μ = zexec call (zrun call (zseg j_X12_feed)) s_X12_feed_76 ls st μ := zrun_eq
theorem r_X12_feed_120 : zrun call (zseg j_X12_feed) 120 ls st μ = zexec call (zrun call (zseg j_X12_feed)) s_X12_feed_120 ls st μ := zrun_eq
theorem r_X12_see_0 : zrun call (zseg j_X12_see) 0 ls st μ = zexec call (zrun call (zseg j_X12_see)) s_X12_see_0 ls st μ := zrun_eq
theorem r_X12_see_17 : zrun call (zseg j_X12_see) 17 ls st μ = zexec call (zrun call (zseg j_X12_see)) s_X12_see_17 ls st μ := zrun_eq
theorem r_X12_see_18 : zrun call (zseg j_X12_see) 18 ls st μ = zexec call (zrun call (zseg j_X12_see)) s_X12_see_18 ls st μ := zrun_eq
theorem r_X12_isSmall_0 : zrun call (zseg j_X12_isSmall) 0 ls st μ = zexec call (zrun call (zseg j_X12_isSmall)) s_X12_isSmall_0 ls st μ := zrun_eq
theorem r_X12_isSmall_16 : zrun call (zseg j_X12_isSmall) 16 ls st μ = zexec call (zrun call (zseg j_X12_isSmall)) s_X12_isSmall_16 ls st μ := zrun_eq
theorem r_X12_isSmall_17 : zrun call (zseg j_X12_isSmall) 17 ls st μ = zexec call (zrun call (zseg j_X12_isSmall)) s_X12_isSmall_17 ls st μ := zrun_eq
theorem r_X12_isDigit_0 : zrun call (zseg j_X12_isDigit) 0 ls st μ = zexec call (zrun call (zseg j_X12_isDigit)) s_X12_isDigit_0 ls st μ := zrun_eq
theorem r_X12_isDigit_16 : zrun call (zseg j_X12_isDigit) 16 ls st μ = zexec call (zrun call (zseg j_X12_isDigit)) s_X12_isDigit_16 ls st μ := zrun_eq
theorem r_X12_isDigit_17 : zrun call (zseg j_X12_isDigit) 17 ls st μ = zexec call (zrun call (zseg j_X12_isDigit)) s_X12_isDigit_17 ls st μ := zrun_eq
theorem r_X12_keyAt_0 : zrun call (zseg j_X12_keyAt) 0 ls st μ = zexec call (zrun call (zseg j_X12_keyAt)) s_X12_keyAt_0 ls st μ := zrun_eq
theorem r_X12_keyAt_4 : zrun call (zseg j_X12_keyAt) 4 ls st μ = zexec call (zrun call (zseg j_X12_keyAt)) s_X12_keyAt_4 ls st μ := zrun_eq
theorem r_X12_keyAt_15 : zrun call (zseg j_X12_keyAt) 15 ls st μ = zexec call (zrun call (zseg j_X12_keyAt)) s_X12_keyAt_15 ls st μ := zrun_eq
theorem r_X12_keyAt_69 : zrun call (zseg j_X12_keyAt) 69 ls st μ = zexec call (zrun call (zseg j_X12_keyAt)) s_X12_keyAt_69 ls st μ := zrun_eq
theorem r_X12_keyAt_97 : zrun call (zseg j_X12_keyAt) 97 ls st μ = zexec call (zrun call (zseg j_X12_keyAt)) s_X12_keyAt_97 ls st μ := zrun_eq
theorem r_X12_keyAt_114 : zrun call (zseg j_X12_keyAt) 114 ls st μ = zexec call (zrun call (zseg j_X12_keyAt)) s_X12_keyAt_114 ls st μ := zrun_eq
theorem r_X12_keyAt_123 : zrun call (zseg j_X12_keyAt) 123 ls st μ = zexec call (zrun call (zseg j_X12_keyAt)) s_X12_keyAt_123 ls st μ := zrun_eq
theorem r_X12_next_0 : zrun call (zseg j_X12_next) 0 ls st μ = zexec call (zrun call (zseg j_X12_next)) s_X12_next_0 ls st μ := zrun_eq
theorem r_X12_next_8 : zrun call (zseg j_X12_next) 8 ls st μ = zexec call (zrun call (zseg j_X12_next)) s_X12_next_8 ls st μ := zrun_eq
theorem r_X12_next_34 : zrun call (zseg j_X12_next) 34 ls st μ = zexec call (zrun call (zseg j_X12_next)) s_X12_next_34 ls st μ := zrun_eq
theorem r_X12_next_47 : zrun call (zseg j_X12_next) 47 ls st μ = zexec call (zrun call (zseg j_X12_next)) s_X12_next_47 ls st μ := zrun_eq
theorem r_X12_next_75 : zrun call (zseg j_X12_next) 75 ls st μ = zexec call (zrun call (zseg j_X12_next)) s_X12_next_75 ls st μ := zrun_eq
theorem r_X12_next_89 : zrun call (zseg j_X12_next) 89 ls st μ = zexec call (zrun call (zseg j_X12_next)) s_X12_next_89 ls st μ := zrun_eq
theorem r_X12_next_116 : zrun call (zseg j_X12_next) 116 ls st μ = zexec call (zrun call (zseg j_X12_next)) s_X12_next_116 ls st μ := zrun_eq
theorem r_X12_next_127 : zrun call (zseg j_X12_next) 127 ls st μ = zexec call (zrun call (zseg j_X12_next)) s_X12_next_127 ls st μ := zrun_eq
theorem r_X12_next_146 : zrun call (zseg j_X12_next) 146 ls st μ = zexec call (zrun call (zseg j_X12_next)) s_X12_next_146 ls st μ := zrun_eq
theorem r_X12_next_196 : zrun call (zseg j_X12_next) 196 ls st μ = zexec call (zrun call (zseg j_X12_next)) s_X12_next_196 ls st μ := zrun_eq
theorem r_X12_next_209 : zrun call (zseg j_X12_next) 209 ls st μ = zexec call (zrun call (zseg j_X12_next)) s_X12_next_209 ls st μ := zrun_eq
theorem r_X12_next_228 : zrun call (zseg j_X12_next) 228 ls st μ = zexec call (zrun call (zseg j_X12_next)) s_X12_next_228 ls st μ := zrun_eq
theorem r_X12_next_230 : zrun call (zseg j_X12_next) 230 ls st μ = zexec call (zrun call (zseg j_X12_next)) s_X12_next_230 ls st μ := zrun_eq
theorem r_X12_next_236 : zrun call (zseg j_X12_next) 236 ls st μ = zexec call (zrun call (zseg j_X12_next)) s_X12_next_236 ls st μ := zrun_eq
theorem r_X12_next_265 : zrun call (zseg j_X12_next) 265 ls st μ = zexec call (zrun call (zseg j_X12_next)) s_X12_next_265 ls st μ := zrun_eq
theorem r_X12_next_267 : zrun call (zseg j_X12_next) 267 ls st μ = zexec call (zrun call (zseg j_X12_next)) s_X12_next_267 ls st μ := zrun_eq
theorem r_X12_next_270 : zrun call (zseg j_X12_next) 270 ls st μ = zexec call (zrun call (zseg j_X12_next)) s_X12_next_270 ls st μ := zrun_eq
theorem r_X12_fails_0 : zrun call (zseg j_X12_fails) 0 ls st μ = zexec call (zrun call (zseg j_X12_fails)) s_X12_fails_0 ls st μ := zrun_eq
theorem r_X12_fails_8 : zrun call (zseg j_X12_fails) 8 ls st μ = zexec call (zrun call (zseg j_X12_fails)) s_X12_fails_8 ls st μ := zrun_eq
theorem r_X12_fails_22 : zrun call (zseg j_X12_fails) 22 ls st μ = zexec call (zrun call (zseg j_X12_fails)) s_X12_fails_22 ls st μ := zrun_eq
theorem r_X12_fails_23 : zrun call (zseg j_X12_fails) 23 ls st μ = zexec call (zrun call (zseg j_X12_fails)) s_X12_fails_23 ls st μ := zrun_eq
theorem r_X12_is_0 : zrun call (zseg j_X12_is) 0 ls st μ = zexec call (zrun call (zseg j_X12_is)) s_X12_is_0 ls st μ := zrun_eq
theorem r_X12_is_19 : zrun call (zseg j_X12_is) 19 ls st μ = zexec call (zrun call (zseg j_X12_is)) s_X12_is_19 ls st μ := zrun_eq
theorem r_X12_is_20 : zrun call (zseg j_X12_is) 20 ls st μ = zexec call (zrun call (zseg j_X12_is)) s_X12_is_20 ls st μ := zrun_eq
theorem r_X12_needs_0 : zrun call (zseg j_X12_needs) 0 ls st μ = zexec call (zrun call (zseg j_X12_needs)) s_X12_needs_0 ls st μ := zrun_eq
theorem r_X12_needs_15 : zrun call (zseg j_X12_needs) 15 ls st μ = zexec call (zrun call (zseg j_X12_needs)) s_X12_needs_15 ls st μ := zrun_eq
theorem r_X12_needs_20 : zrun call (zseg j_X12_needs) 20 ls st μ = zexec call (zrun call (zseg j_X12_needs)) s_X12_needs_20 ls st μ := zrun_eq
theorem r_X12_reads_0 : zrun call (zseg j_X12_reads) 0 ls st μ = zexec call (zrun call (zseg j_X12_reads)) s_X12_reads_0 ls st μ := zrun_eq
theorem r_X12_reads_17 : zrun call (zseg j_X12_reads) 17 ls st μ = zexec call (zrun call (zseg j_X12_reads)) s_X12_reads_17 ls st μ := zrun_eq
theorem r_X12_reads_37 : zrun call (zseg j_X12_reads) 37 ls st μ = zexec call (zrun call (zseg j_X12_reads)) s_X12_reads_37 ls st μ := zrun_eq
theorem r_X12_reads_53 : zrun call (zseg j_X12_reads) 53 ls st μ = zexec call (zrun call (zseg j_X12_reads)) s_X12_reads_53 ls st μ := zrun_eq
theorem r_X12_readsRoller_0 : zrun call (zseg j_X12_readsRoller) 0 ls st μ = zexec call (zrun call (zseg j_X12_readsRoller)) s_X12_readsRoller_0 ls st μ := zrun_eq
theorem r_X12_readsRoller_17 : zrun call (zseg j_X12_readsRoller) 17 ls st μ = zexec call (zrun call (zseg j_X12_readsRoller)) s_X12_readsRoller_17 ls st μ := zrun_eq
theorem r_X12_readsRoller_25 : zrun call (zseg j_X12_readsRoller) 25 ls st μ = zexec call (zrun call (zseg j_X12_readsRoller)) s_X12_readsRoller_25 ls st μ := zrun_eq
theorem r_X12_readsRoller_44 : zrun call (zseg j_X12_readsRoller) 44 ls st μ = zexec call (zrun call (zseg j_X12_readsRoller)) s_X12_readsRoller_44 ls st μ := zrun_eq
theorem r_X12_readsRoller_60 : zrun call (zseg j_X12_readsRoller) 60 ls st μ = zexec call (zrun call (zseg j_X12_readsRoller)) s_X12_readsRoller_60 ls st μ := zrun_eq
theorem r_X12_readsRoller_93 : zrun call (zseg j_X12_readsRoller) 93 ls st μ = zexec call (zrun call (zseg j_X12_readsRoller)) s_X12_readsRoller_93 ls st μ := zrun_eq
theorem r_X12_readsEye_0 : zrun call (zseg j_X12_readsEye) 0 ls st μ = zexec call (zrun call (zseg j_X12_readsEye)) s_X12_readsEye_0 ls st μ := zrun_eq
theorem r_X12_readsEye_17 : zrun call (zseg j_X12_readsEye) 17 ls st μ = zexec call (zrun call (zseg j_X12_readsEye)) s_X12_readsEye_17 ls st μ := zrun_eq
theorem r_X12_readsEye_25 : zrun call (zseg j_X12_readsEye) 25 ls st μ = zexec call (zrun call (zseg j_X12_readsEye)) s_X12_readsEye_25 ls st μ := zrun_eq
theorem r_X12_readsEye_44 : zrun call (zseg j_X12_readsEye) 44 ls st μ = zexec call (zrun call (zseg j_X12_readsEye)) s_X12_readsEye_44 ls st μ := zrun_eq
theorem r_X12_readsEye_60 : zrun call (zseg j_X12_readsEye) 60 ls st μ = zexec call (zrun call (zseg j_X12_readsEye)) s_X12_readsEye_60 ls st μ := zrun_eq
theorem r_X12_readsEye_78 : zrun call (zseg j_X12_readsEye) 78 ls st μ = zexec call (zrun call (zseg j_X12_readsEye)) s_X12_readsEye_78 ls st μ := zrun_eq
theorem r_X12_readsTurn_0 : zrun call (zseg j_X12_readsTurn) 0 ls st μ = zexec call (zrun call (zseg j_X12_readsTurn)) s_X12_readsTurn_0 ls st μ := zrun_eq
theorem r_X12_readsTurn_12 : zrun call (zseg j_X12_readsTurn) 12 ls st μ = zexec call (zrun call (zseg j_X12_readsTurn)) s_X12_readsTurn_12 ls st μ := zrun_eq
theorem r_X12_readsTurn_20 : zrun call (zseg j_X12_readsTurn) 20 ls st μ = zexec call (zrun call (zseg j_X12_readsTurn)) s_X12_readsTurn_20 ls st μ := zrun_eq
theorem r_X12_readsDamp_0 : zrun call (zseg j_X12_readsDamp) 0 ls st μ = zexec call (zrun call (zseg j_X12_readsDamp)) s_X12_readsDamp_0 ls st μ := zrun_eq
theorem r_X12_readsDamp_12 : zrun call (zseg j_X12_readsDamp) 12 ls st μ = zexec call (zrun call (zseg j_X12_readsDamp)) s_X12_readsDamp_12 ls st μ := zrun_eq
theorem r_X12_readsDamp_20 : zrun call (zseg j_X12_readsDamp) 20 ls st μ = zexec call (zrun call (zseg j_X12_readsDamp)) s_X12_readsDamp_20 ls st μ := zrun_eq
theorem r_X12_text_0 : zrun call (zseg j_X12_text) 0 ls st μ = zexec call (zrun call (zseg j_X12_text)) s_X12_text_0 ls st μ := zrun_eq
theorem r_X12_text_22 : zrun call (zseg j_X12_text) 22 ls st μ = zexec call (zrun call (zseg j_X12_text)) s_X12_text_22 ls st μ := zrun_eq
theorem r_X12_text_98 : zrun call (zseg j_X12_text) 98 ls st μ = zexec call (zrun call (zseg j_X12_text)) s_X12_text_98 ls st μ := zrun_eq
theorem r_X12_text_129 : zrun call (zseg j_X12_text) 129 ls st μ = zexec call (zrun call (zseg j_X12_text)) s_X12_text_129 ls st μ := zrun_eq
theorem r_X12_text_144 : zrun call (zseg j_X12_text) 144 ls st μ = zexec call (zrun call (zseg j_X12_text)) s_X12_text_144 ls st μ := zrun_eq
theorem r_X12_text_159 : zrun call (zseg j_X12_text) 159 ls st μ = zexec call (zrun call (zseg j_X12_text)) s_X12_text_159 ls st μ := zrun_eq
theorem r_X12_text_175 : zrun call (zseg j_X12_text) 175 ls st μ = zexec call (zrun call (zseg j_X12_text)) s_X12_text_175 ls st μ := zrun_eq
theorem r_X12_text_180 : zrun call (zseg j_X12_text) 180 ls st μ = zexec call (zrun call (zseg j_X12_text)) s_X12_text_180 ls st μ := zrun_eq
theorem r_X12_text_199 : zrun call (zseg j_X12_text) 199 ls st μ = zexec call (zrun call (zseg j_X12_text)) s_X12_text_199 ls st μ := zrun_eq
theorem r_X12_text_221 : zrun call (zseg j_X12_text) 221 ls st μ = zexec call (zrun call (zseg j_X12_text)) s_X12_text_221 ls st μ := zrun_eq
theorem r_X12_text_241 : zrun call (zseg j_X12_text) 241 ls st μ = zexec call (zrun call (zseg j_X12_text)) s_X12_text_241 ls st μ := zrun_eq
theorem r_X12_text_245 : zrun call (zseg j_X12_text) 245 ls st μ = zexec call (zrun call (zseg j_X12_text)) s_X12_text_245 ls st μ := zrun_eq
theorem r_X12_text_263 : zrun call (zseg j_X12_text) 263 ls st μ = zexec call (zrun call (zseg j_X12_text)) s_X12_text_263 ls st μ := zrun_eq
theorem r_X12_fault_0 : zrun call (zseg j_X12_fault) 0 ls st μ = zexec call (zrun call (zseg j_X12_fault)) s_X12_fault_0 ls st μ := zrun_eq
theorem r_X12_fault_16 : zrun call (zseg j_X12_fault) 16 ls st μ = zexec call (zrun call (zseg j_X12_fault)) s_X12_fault_16 ls st μ := zrun_eq
theorem r_X12_fault_28 : zrun call (zseg j_X12_fault) 28 ls st μ = zexec call (zrun call (zseg j_X12_fault)) s_X12_fault_28 ls st μ := zrun_eq
theorem r_X12_fault_29 : zrun call (zseg j_X12_fault) 29 ls st μ = zexec call (zrun call (zseg j_X12_fault)) s_X12_fault_29 ls st μ := zrun_eq
theorem r_X12_isRoller_0 : zrun call (zseg j_X12_isRoller) 0 ls st μ = zexec call (zrun call (zseg j_X12_isRoller)) s_X12_isRoller_0 ls st μ := zrun_eq
theorem r_X12_isRoller_19 : zrun call (zseg j_X12_isRoller) 19 ls st μ = zexec call (zrun call (zseg j_X12_isRoller)) s_X12_isRoller_19 ls st μ := zrun_eq
theorem r_X12_isRoller_20 : zrun call (zseg j_X12_isRoller) 20 ls st μ = zexec call (zrun call (zseg j_X12_isRoller)) s_X12_isRoller_20 ls st μ := zrun_eq
theorem r_X12_isEye_0 : zrun call (zseg j_X12_isEye) 0 ls st μ = zexec call (zrun call (zseg j_X12_isEye)) s_X12_isEye_0 ls st μ := zrun_eq
theorem r_X12_isEye_19 : zrun call (zseg j_X12_isEye) 19 ls st μ = zexec call (zrun call (zseg j_X12_isEye)) s_X12_isEye_19 ls st μ := zrun_eq
theorem r_X12_isEye_20 : zrun call (zseg j_X12_isEye) 20 ls st μ = zexec call (zrun call (zseg j_X12_isEye)) s_X12_isEye_20 ls st μ := zrun_eq
theorem r_X12_set_0 : zrun call (zseg j_X12_set) 0 ls st μ = zexec call (zrun call (zseg j_X12_set)) s_X12_set_0 ls st μ := zrun_eq
theorem r_X12_set_23 : zrun call (zseg j_X12_set) 23 ls st μ = zexec call (zrun call (zseg j_X12_set)) s_X12_set_23 ls st μ := zrun_eq
theorem r_X12_set_26 : zrun call (zseg j_X12_set) 26 ls st μ = zexec call (zrun call (zseg j_X12_set)) s_X12_set_26 ls st μ := zrun_eq
theorem r_X12_set_45 : zrun call (zseg j_X12_set) 45 ls st μ = zexec call (zrun call (zseg j_X12_set)) s_X12_set_45 ls st μ := zrun_eq
theorem r_X12_set_63 : zrun call (zseg j_X12_set) 63 ls st μ = zexec call (zrun call (zseg j_X12_set)) s_X12_set_63 ls st μ := zrun_eq
theorem r_X12_set_66 : zrun call (zseg j_X12_set) 66 ls st μ = zexec call (zrun call (zseg j_X12_set)) s_X12_set_66 ls st μ := zrun_eq
theorem r_X12_set_79 : zrun call (zseg j_X12_set) 79 ls st μ = zexec call (zrun call (zseg j_X12_set)) s_X12_set_79 ls st μ := zrun_eq
theorem r_X12_set_85 : zrun call (zseg j_X12_set) 85 ls st μ = zexec call (zrun call (zseg j_X12_set)) s_X12_set_85 ls st μ := zrun_eq
theorem r_X12_set_101 : zrun call (zseg j_X12_set) 101 ls st μ = zexec call (zrun call (zseg j_X12_set)) s_X12_set_101 ls st μ := zrun_eq
theorem r_X12_set_108 : zrun call (zseg j_X12_set) 108 ls st μ = zexec call (zrun call (zseg j_X12_set)) s_X12_set_108 ls st μ := zrun_eq
theorem r_X12_cornerOf_0 : zrun call (zseg j_X12_cornerOf) 0 ls st μ = zexec call (zrun call (zseg j_X12_cornerOf)) s_X12_cornerOf_0 ls st μ := zrun_eq
theorem r_X12_cornerOf_2 : zrun call (zseg j_X12_cornerOf) 2 ls st μ = zexec call (zrun call (zseg j_X12_cornerOf)) s_X12_cornerOf_2 ls st μ := zrun_eq
theorem r_X12_cornerOf_22 : zrun call (zseg j_X12_cornerOf) 22 ls st μ = zexec call (zrun call (zseg j_X12_cornerOf)) s_X12_cornerOf_22 ls st μ := zrun_eq
theorem r_X12_cornerOf_28 : zrun call (zseg j_X12_cornerOf) 28 ls st μ = zexec call (zrun call (zseg j_X12_cornerOf)) s_X12_cornerOf_28 ls st μ := zrun_eq
theorem r_X12_leaves_0 : zrun call (zseg j_X12_leaves) 0 ls st μ = zexec call (zrun call (zseg j_X12_leaves)) s_X12_leaves_0 ls st μ := zrun_eq
theorem r_X12_leaves_17 : zrun call (zseg j_X12_leaves) 17 ls st μ = zexec call (zrun call (zseg j_X12_leaves)) s_X12_leaves_17 ls st μ := zrun_eq
theorem r_X12_leaves_19 : zrun call (zseg j_X12_leaves) 19 ls st μ = zexec call (zrun call (zseg j_X12_leaves)) s_X12_leaves_19 ls st μ := zrun_eq
theorem r_X12_corner_0 : zrun call (zseg j_X12_corner) 0 ls st μ = zexec call (zrun call (zseg j_X12_corner)) s_X12_corner_0 ls st μ := zrun_eq
theorem r_X12_corner_23 : zrun call (zseg j_X12_corner) 23 ls st μ = zexec call (zrun call (zseg j_X12_corner)) s_X12_corner_23 ls st μ := zrun_eq
theorem r_X12_corner_33 : zrun call (zseg j_X12_corner) 33 ls st μ = zexec call (zrun call (zseg j_X12_corner)) s_X12_corner_33 ls st μ := zrun_eq
theorem r_X12_corner_46 : zrun call (zseg j_X12_corner) 46 ls st μ = zexec call (zrun call (zseg j_X12_corner)) s_X12_corner_46 ls st μ := zrun_eq
theorem r_X12_isGoing_0 : zrun call (zseg j_X12_isGoing) 0 ls st μ = zexec call (zrun call (zseg j_X12_isGoing)) s_X12_isGoing_0 ls st μ := zrun_eq
theorem r_X12_isGoing_19 : zrun call (zseg j_X12_isGoing) 19 ls st μ = zexec call (zrun call (zseg j_X12_isGoing)) s_X12_isGoing_19 ls st μ := zrun_eq
theorem r_X12_isGoing_23 : zrun call (zseg j_X12_isGoing) 23 ls st μ = zexec call (zrun call (zseg j_X12_isGoing)) s_X12_isGoing_23 ls st μ := zrun_eq
theorem r_X12_isGoing_24 : zrun call (zseg j_X12_isGoing) 24 ls st μ = zexec call (zrun call (zseg j_X12_isGoing)) s_X12_isGoing_24 ls st μ := zrun_eq
theorem r_X12_tail_0 : zrun call (zseg j_X12_tail) 0 ls st μ = zexec call (zrun call (zseg j_X12_tail)) s_X12_tail_0 ls st μ := zrun_eq
theorem r_X12_isOver_0 : zrun call (zseg j_X12_isOver) 0 ls st μ = zexec call (zrun call (zseg j_X12_isOver)) s_X12_isOver_0 ls st μ := zrun_eq
theorem r_X12_isOver_2 : zrun call (zseg j_X12_isOver) 2 ls st μ = zexec call (zrun call (zseg j_X12_isOver)) s_X12_isOver_2 ls st μ := zrun_eq
theorem r_X12_isOver_44 : zrun call (zseg j_X12_isOver) 44 ls st μ = zexec call (zrun call (zseg j_X12_isOver)) s_X12_isOver_44 ls st μ := zrun_eq
theorem r_X12_isOver_50 : zrun call (zseg j_X12_isOver) 50 ls st μ = zexec call (zrun call (zseg j_X12_isOver)) s_X12_isOver_50 ls st μ := zrun_eq
theorem r_X12_lay_0 : zrun call (zseg j_X12_lay) 0 ls st μ = zexec call (zrun call (zseg j_X12_lay)) s_X12_lay_0 ls st μ := zrun_eq
theorem r_X12_lay_22 : zrun call (zseg j_X12_lay) 22 ls st μ = zexec call (zrun call (zseg j_X12_lay)) s_X12_lay_22 ls st μ := zrun_eq
theorem r_X12_lay_34 : zrun call (zseg j_X12_lay) 34 ls st μ = zexec call (zrun call (zseg j_X12_lay)) s_X12_lay_34 ls st μ := zrun_eq
theorem r_X12_lay_47 : zrun call (zseg j_X12_lay) 47 ls st μ = zexec call (zrun call (zseg j_X12_lay)) s_X12_lay_47 ls st μ := zrun_eq
theorem r_X12_lay_82 : zrun call (zseg j_X12_lay) 82 ls st μ = zexec call (zrun call (zseg j_X12_lay)) s_X12_lay_82 ls st μ := zrun_eq
theorem r_X12_lay_85 : zrun call (zseg j_X12_lay) 85 ls st μ = zexec call (zrun call (zseg j_X12_lay)) s_X12_lay_85 ls st μ := zrun_eq
theorem r_X12_drive_0 : zrun call (zseg j_X12_drive) 0 ls st μ = zexec call (zrun call (zseg j_X12_drive)) s_X12_drive_0 ls st μ := zrun_eq
theorem r_X12_drive_6 : zrun call (zseg j_X12_drive) 6 ls st μ = zexec call (zrun call (zseg j_X12_drive)) s_X12_drive_6 ls st μ := zrun_eq
theorem r_X12_drive_63 : zrun call (zseg j_X12_drive) 63 ls st μ = zexec call (zrun call (zseg j_X12_drive)) s_X12_drive_63 ls st μ := zrun_eq
theorem r_X12_drive_90 : zrun call (zseg j_X12_drive) 90 ls st μ = zexec call (zrun call (zseg j_X12_drive)) s_X12_drive_90 ls st μ := zrun_eq
theorem r_X12_drive_107 : zrun call (zseg j_X12_drive) 107 ls st μ = zexec call (zrun call (zseg j_X12_drive)) s_X12_drive_107 ls st μ := zrun_eq
theorem r_X12_drive_121 : zrun call (zseg j_X12_drive) 121 ls st μ = zexec call (zrun call (zseg j_X12_drive)) s_X12_drive_121 ls st μ := zrun_eq
theorem r_X12_drive_123 : zrun call (zseg j_X12_drive) 123 ls st μ = zexec call (zrun call (zseg j_X12_drive)) s_X12_drive_123 ls st μ := zrun_eq
theorem r_X12_drive_125 : zrun call (zseg j_X12_drive) 125 ls st μ = zexec call (zrun call (zseg j_X12_drive)) s_X12_drive_125 ls st μ := zrun_eq
theorem r_X12_drive_131 : zrun call (zseg j_X12_drive) 131 ls st μ = zexec call (zrun call (zseg j_X12_drive)) s_X12_drive_131 ls st μ := zrun_eq
theorem r_X12_bound_0 : zrun call (zseg j_X12_bound) 0 ls st μ = zexec call (zrun call (zseg j_X12_bound)) s_X12_bound_0 ls st μ := zrun_eq
theorem r_X12_bound_6 : zrun call (zseg j_X12_bound) 6 ls st μ = zexec call (zrun call (zseg j_X12_bound)) s_X12_bound_6 ls st μ := zrun_eq
theorem r_X12_bound_44 : zrun call (zseg j_X12_bound) 44 ls st μ = zexec call (zrun call (zseg j_X12_bound)) s_X12_bound_44 ls st μ := zrun_eq
theorem r_X12_bound_50 : zrun call (zseg j_X12_bound) 50 ls st μ = zexec call (zrun call (zseg j_X12_bound)) s_X12_bound_50 ls st μ := zrun_eq
theorem r_X12_ahead_0 : zrun call (zseg j_X12_ahead) 0 ls st μ = zexec call (zrun call (zseg j_X12_ahead)) s_X12_ahead_0 ls st μ := zrun_eq
theorem r_X12_ahead_4 : zrun call (zseg j_X12_ahead) 4 ls st μ = zexec call (zrun call (zseg j_X12_ahead)) s_X12_ahead_4 ls st μ := zrun_eq
theorem r_X12_ahead_61 : zrun call (zseg j_X12_ahead) 61 ls st μ = zexec call (zrun call (zseg j_X12_ahead)) s_X12_ahead_61 ls st μ := zrun_eq
theorem r_X12_ahead_63 : zrun call (zseg j_X12_ahead) 63 ls st μ = zexec call (zrun call (zseg j_X12_ahead)) s_X12_ahead_63 ls st μ := zrun_eq
theorem r_X12_ahead_69 : zrun call (zseg j_X12_ahead) 69 ls st μ = zexec call (zrun call (zseg j_X12_ahead)) s_X12_ahead_69 ls st μ := zrun_eq
theorem r_X12_inPocket_0 : zrun call (zseg j_X12_inPocket) 0 ls st μ = zexec call (zrun call (zseg j_X12_inPocket)) s_X12_inPocket_0 ls st μ := zrun_eq
theorem r_X12_inPocket_4 : zrun call (zseg j_X12_inPocket) 4 ls st μ = zexec call (zrun call (zseg j_X12_inPocket)) s_X12_inPocket_4 ls st μ := zrun_eq
theorem r_X12_inPocket_27 : zrun call (zseg j_X12_inPocket) 27 ls st μ = zexec call (zrun call (zseg j_X12_inPocket)) s_X12_inPocket_27 ls st μ := zrun_eq
theorem r_X12_inPocket_28 : zrun call (zseg j_X12_inPocket) 28 ls st μ = zexec call (zrun call (zseg j_X12_inPocket)) s_X12_inPocket_28 ls st μ := zrun_eq
theorem r_X12_inPocket_36 : zrun call (zseg j_X12_inPocket) 36 ls st μ = zexec call (zrun call (zseg j_X12_inPocket)) s_X12_inPocket_36 ls st μ := zrun_eq
theorem r_X12_waits_0 : zrun call (zseg j_X12_waits) 0 ls st μ = zexec call (zrun call (zseg j_X12_waits)) s_X12_waits_0 ls st μ := zrun_eq
theorem r_X12_waits_40 : zrun call (zseg j_X12_waits) 40 ls st μ = zexec call (zrun call (zseg j_X12_waits)) s_X12_waits_40 ls st μ := zrun_eq
theorem r_X12_waits_41 : zrun call (zseg j_X12_waits) 41 ls st μ = zexec call (zrun call (zseg j_X12_waits)) s_X12_waits_41 ls st μ := zrun_eq
theorem r_X12_waitsNow_0 : zrun call (zseg j_X12_waitsNow) 0 ls st μ = zexec call (zrun call (zseg j_X12_waitsNow)) s_X12_waitsNow_0 ls st μ := zrun_eq
theorem r_X12_waitsNow_21 : zrun call (zseg j_X12_waitsNow) 21 ls st μ = zexec call (zrun call (zseg j_X12_waitsNow)) s_X12_waitsNow_21 ls st μ := zrun_eq
theorem r_X12_goes_0 : zrun call (zseg j_X12_goes) 0 ls st μ = zexec call (zrun call (zseg j_X12_goes)) s_X12_goes_0 ls st μ := zrun_eq
theorem r_X12_goes_14 : zrun call (zseg j_X12_goes) 14 ls st μ = zexec call (zrun call (zseg j_X12_goes)) s_X12_goes_14 ls st μ := zrun_eq
theorem r_X12_goes_92 : zrun call (zseg j_X12_goes) 92 ls st μ = zexec call (zrun call (zseg j_X12_goes)) s_X12_goes_92 ls st μ := zrun_eq
theorem r_X12_goes_115 : zrun call (zseg j_X12_goes) 115 ls st μ = zexec call (zrun call (zseg j_X12_goes)) s_X12_goes_115 ls st μ := zrun_eq
theorem r_X12_goes_129 : zrun call (zseg j_X12_goes) 129 ls st μ = zexec call (zrun call (zseg j_X12_goes)) s_X12_goes_129 ls st μ := zrun_eq
theorem r_X12_goes_142 : zrun call (zseg j_X12_goes) 142 ls st μ = zexec call (zrun call (zseg j_X12_goes)) s_X12_goes_142 ls st μ := zrun_eq
theorem r_X12_goes_175 : zrun call (zseg j_X12_goes) 175 ls st μ = zexec call (zrun call (zseg j_X12_goes)) s_X12_goes_175 ls st μ := zrun_eq
theorem r_X12_ticks_0 : zrun call (zseg j_X12_ticks) 0 ls st μ = zexec call (zrun call (zseg j_X12_ticks)) s_X12_ticks_0 ls st μ := zrun_eq
theorem r_X12_ticks_12 : zrun call (zseg j_X12_ticks) 12 ls st μ = zexec call (zrun call (zseg j_X12_ticks)) s_X12_ticks_12 ls st μ := zrun_eq
theorem r_X12_ticks_38 : zrun call (zseg j_X12_ticks) 38 ls st μ = zexec call (zrun call (zseg j_X12_ticks)) s_X12_ticks_38 ls st μ := zrun_eq
theorem r_X12_ticks_39 : zrun call (zseg j_X12_ticks) 39 ls st μ = zexec call (zrun call (zseg j_X12_ticks)) s_X12_ticks_39 ls st μ := zrun_eq
theorem r_X12_ticks_46 : zrun call (zseg j_X12_ticks) 46 ls st μ = zexec call (zrun call (zseg j_X12_ticks)) s_X12_ticks_46 ls st μ := zrun_eq
theorem r_X12_ticks_48 : zrun call (zseg j_X12_ticks) 48 ls st μ = zexec call (zrun call (zseg j_X12_ticks)) s_X12_ticks_48 ls st μ := zrun_eq
theorem r_X12_ticks_56 : zrun call (zseg j_X12_ticks) 56 ls st μ = zexec call (zrun call (zseg j_X12_ticks)) s_X12_ticks_56 ls st μ := zrun_eq
theorem r_X12_ticks_93 : zrun call (zseg j_X12_ticks) 93 ls st μ = zexec call (zrun call (zseg j_X12_ticks)) s_X12_ticks_93 ls st μ := zrun_eq
theorem r_X12_ticks_95 : zrun call (zseg j_X12_ticks) 95 ls st μ = zexec call (zrun call (zseg j_X12_ticks)) s_X12_ticks_95 ls st μ := zrun_eq
theorem r_X12_ticks_101 : zrun call (zseg j_X12_ticks) 101 ls st μ = zexec call (zrun call (zseg j_X12_ticks)) s_X12_ticks_101 ls st μ := zrun_eq
theorem r_X12_ticks_110 : zrun call (zseg j_X12_ticks) 110 ls st μ = zexec call (zrun call (zseg j_X12_ticks)) s_X12_ticks_110 ls st μ := zrun_eq
theorem r_X12_ticks_111 : zrun call (zseg j_X12_ticks) 111 ls st μ = zexec call (zrun call (zseg j_X12_ticks)) s_X12_ticks_111 ls st μ := zrun_eq
theorem r_X12_ticks_119 : zrun call (zseg j_X12_ticks) 119 ls st μ = zexec call (zrun call (zseg j_X12_ticks)) s_X12_ticks_119 ls st μ := zrun_eq
theorem r_X12_ticks_134 : zrun call (zseg j_X12_ticks) 134 ls st μ = zexec call (zrun call (zseg j_X12_ticks)) s_X12_ticks_134 ls st μ := zrun_eq
theorem r_X12_ticks_136 : zrun call (zseg j_X12_ticks) 136 ls st μ = zexec call (zrun call (zseg j_X12_ticks)) s_X12_ticks_136 ls st μ := zrun_eq
theorem r_X12_ticks_189 : zrun call (zseg j_X12_ticks) 189 ls st μ = zexec call (zrun call (zseg j_X12_ticks)) s_X12_ticks_189 ls st μ := zrun_eq
theorem r_X12_ticks_194 : zrun call (zseg j_X12_ticks) 194 ls st μ = zexec call (zrun call (zseg j_X12_ticks)) s_X12_ticks_194 ls st μ := zrun_eq
theorem r_X12_ticks_200 : zrun call (zseg j_X12_ticks) 200 ls st μ = zexec call (zrun call (zseg j_X12_ticks)) s_X12_ticks_200 ls st μ := zrun_eq
theorem r_X12_ticks_218 : zrun call (zseg j_X12_ticks) 218 ls st μ = zexec call (zrun call (zseg j_X12_ticks)) s_X12_ticks_218 ls st μ := zrun_eq
theorem r_X12_comesBack_0 : zrun call (zseg j_X12_comesBack) 0 ls st μ = zexec call (zrun call (zseg j_X12_comesBack)) s_X12_comesBack_0 ls st μ := zrun_eq
theorem r_X12_comesBack_4 : zrun call (zseg j_X12_comesBack) 4 ls st μ = zexec call (zrun call (zseg j_X12_comesBack)) s_X12_comesBack_4 ls st μ := zrun_eq
theorem r_X12_comesBack_42 : zrun call (zseg j_X12_comesBack) 42 ls st μ = zexec call (zrun call (zseg j_X12_comesBack)) s_X12_comesBack_42 ls st μ := zrun_eq
theorem r_X12_comesBack_44 : zrun call (zseg j_X12_comesBack) 44 ls st μ = zexec call (zrun call (zseg j_X12_comesBack)) s_X12_comesBack_44 ls st μ := zrun_eq
theorem r_X12_comesBack_50 : zrun call (zseg j_X12_comesBack) 50 ls st μ = zexec call (zrun call (zseg j_X12_comesBack)) s_X12_comesBack_50 ls st μ := zrun_eq
theorem r_X12_comesBack_97 : zrun call (zseg j_X12_comesBack) 97 ls st μ = zexec call (zrun call (zseg j_X12_comesBack)) s_X12_comesBack_97 ls st μ := zrun_eq
theorem r_X12_comesBack_98 : zrun call (zseg j_X12_comesBack) 98 ls st μ = zexec call (zrun call (zseg j_X12_comesBack)) s_X12_comesBack_98 ls st μ := zrun_eq
theorem r_X12_looks_0 : zrun call (zseg j_X12_looks) 0 ls st μ = zexec call (zrun call (zseg j_X12_looks)) s_X12_looks_0 ls st μ := zrun_eq
theorem r_X12_looks_2 : zrun call (zseg j_X12_looks) 2 ls st μ = zexec call (zrun call (zseg j_X12_looks)) s_X12_looks_2 ls st μ := zrun_eq
theorem r_X12_looks_17 : zrun call (zseg j_X12_looks) 17 ls st μ = zexec call (zrun call (zseg j_X12_looks)) s_X12_looks_17 ls st μ := zrun_eq
theorem r_X12_looks_72 : zrun call (zseg j_X12_looks) 72 ls st μ = zexec call (zrun call (zseg j_X12_looks)) s_X12_looks_72 ls st μ := zrun_eq
theorem r_X12_looks_76 : zrun call (zseg j_X12_looks) 76 ls st μ = zexec call (zrun call (zseg j_X12_looks)) s_X12_looks_76 ls st μ := zrun_eq
theorem r_X12_looks_77 : zrun call (zseg j_X12_looks) 77 ls st μ = zexec call (zrun call (zseg j_X12_looks)) s_X12_looks_77 ls st μ := zrun_eq
theorem r_X12_looks_84 : zrun call (zseg j_X12_looks) 84 ls st μ = zexec call (zrun call (zseg j_X12_looks)) s_X12_looks_84 ls st μ := zrun_eq
theorem r_X12_looks_129 : zrun call (zseg j_X12_looks) 129 ls st μ = zexec call (zrun call (zseg j_X12_looks)) s_X12_looks_129 ls st μ := zrun_eq
theorem r_X12_looks_130 : zrun call (zseg j_X12_looks) 130 ls st μ = zexec call (zrun call (zseg j_X12_looks)) s_X12_looks_130 ls st μ := zrun_eq
theorem r_X12_looks_170 : zrun call (zseg j_X12_looks) 170 ls st μ = zexec call (zrun call (zseg j_X12_looks)) s_X12_looks_170 ls st μ := zrun_eq
theorem r_X12_looks_204 : zrun call (zseg j_X12_looks) 204 ls st μ = zexec call (zrun call (zseg j_X12_looks)) s_X12_looks_204 ls st μ := zrun_eq
theorem r_X12_looks_217 : zrun call (zseg j_X12_looks) 217 ls st μ = zexec call (zrun call (zseg j_X12_looks)) s_X12_looks_217 ls st μ := zrun_eq
theorem r_X12_tick_0 : zrun call (zseg j_X12_tick) 0 ls st μ = zexec call (zrun call (zseg j_X12_tick)) s_X12_tick_0 ls st μ := zrun_eq
theorem r_X12_tick_20 : zrun call (zseg j_X12_tick) 20 ls st μ = zexec call (zrun call (zseg j_X12_tick)) s_X12_tick_20 ls st μ := zrun_eq
theorem r_X12_tick_22 : zrun call (zseg j_X12_tick) 22 ls st μ = zexec call (zrun call (zseg j_X12_tick)) s_X12_tick_22 ls st μ := zrun_eq
theorem r_X12_tick_45 : zrun call (zseg j_X12_tick) 45 ls st μ = zexec call (zrun call (zseg j_X12_tick)) s_X12_tick_45 ls st μ := zrun_eq
theorem r_X12_sheet_0 : zrun call (zseg j_X12_sheet) 0 ls st μ = zexec call (zrun call (zseg j_X12_sheet)) s_X12_sheet_0 ls st μ := zrun_eq
theorem r_X12_sheet_24 : zrun call (zseg j_X12_sheet) 24 ls st μ = zexec call (zrun call (zseg j_X12_sheet)) s_X12_sheet_24 ls st μ := zrun_eq
theorem r_X12_sheet_60 : zrun call (zseg j_X12_sheet) 60 ls st μ = zexec call (zrun call (zseg j_X12_sheet)) s_X12_sheet_60 ls st μ := zrun_eq
theorem r_X12_sheet_67 : zrun call (zseg j_X12_sheet) 67 ls st μ = zexec call (zrun call (zseg j_X12_sheet)) s_X12_sheet_67 ls st μ := zrun_eq
theorem r_X12_sheet_74 : zrun call (zseg j_X12_sheet) 74 ls st μ = zexec call (zrun call (zseg j_X12_sheet)) s_X12_sheet_74 ls st μ := zrun_eq
theorem r_X12_sheet_80 : zrun call (zseg j_X12_sheet) 80 ls st μ = zexec call (zrun call (zseg j_X12_sheet)) s_X12_sheet_80 ls st μ := zrun_eq
theorem r_X12_sheet_87 : zrun call (zseg j_X12_sheet) 87 ls st μ = zexec call (zrun call (zseg j_X12_sheet)) s_X12_sheet_87 ls st μ := zrun_eq
theorem r_X12_sheet_94 : zrun call (zseg j_X12_sheet) 94 ls st μ = zexec call (zrun call (zseg j_X12_sheet)) s_X12_sheet_94 ls st μ := zrun_eq
theorem r_X12_clear_0 : zrun call (zseg j_X12_clear) 0 ls st μ = zexec call (zrun call (zseg j_X12_clear)) s_X12_clear_0 ls st μ := zrun_eq
theorem r_X12_clear_16 : zrun call (zseg j_X12_clear) 16 ls st μ = zexec call (zrun call (zseg j_X12_clear)) s_X12_clear_16 ls st μ := zrun_eq
theorem r_X12_clear_38 : zrun call (zseg j_X12_clear) 38 ls st μ = zexec call (zrun call (zseg j_X12_clear)) s_X12_clear_38 ls st μ := zrun_eq
theorem r_X12_clear_57 : zrun call (zseg j_X12_clear) 57 ls st μ = zexec call (zrun call (zseg j_X12_clear)) s_X12_clear_57 ls st μ := zrun_eq
theorem r_X12_clear_58 : zrun call (zseg j_X12_clear) 58 ls st μ = zexec call (zrun call (zseg j_X12_clear)) s_X12_clear_58 ls st μ := zrun_eq
theorem r_X12_clear_75 : zrun call (zseg j_X12_clear) 75 ls st μ = zexec call (zrun call (zseg j_X12_clear)) s_X12_clear_75 ls st μ := zrun_eq
theorem r_X12_clear_76 : zrun call (zseg j_X12_clear) 76 ls st μ = zexec call (zrun call (zseg j_X12_clear)) s_X12_clear_76 ls st μ := zrun_eq
theorem r_X12_clear_83 : zrun call (zseg j_X12_clear) 83 ls st μ = zexec call (zrun call (zseg j_X12_clear)) s_X12_clear_83 ls st μ := zrun_eq
theorem r_X12_clear_115 : zrun call (zseg j_X12_clear) 115 ls st μ = zexec call (zrun call (zseg j_X12_clear)) s_X12_clear_115 ls st μ := zrun_eq
theorem r_X12_clear_126 : zrun call (zseg j_X12_clear) 126 ls st μ = zexec call (zrun call (zseg j_X12_clear)) s_X12_clear_126 ls st μ := zrun_eq
theorem r_X12_clear_132 : zrun call (zseg j_X12_clear) 132 ls st μ = zexec call (zrun call (zseg j_X12_clear)) s_X12_clear_132 ls st μ := zrun_eq
theorem r_X12_clear_140 : zrun call (zseg j_X12_clear) 140 ls st μ = zexec call (zrun call (zseg j_X12_clear)) s_X12_clear_140 ls st μ := zrun_eq
theorem r_X12_clear_161 : zrun call (zseg j_X12_clear) 161 ls st μ = zexec call (zrun call (zseg j_X12_clear)) s_X12_clear_161 ls st μ := zrun_eq
theorem r_X12_sees_0 : zrun call (zseg j_X12_sees) 0 ls st μ = zexec call (zrun call (zseg j_X12_sees)) s_X12_sees_0 ls st μ := zrun_eq
theorem r_X12_sees_18 : zrun call (zseg j_X12_sees) 18 ls st μ = zexec call (zrun call (zseg j_X12_sees)) s_X12_sees_18 ls st μ := zrun_eq
theorem r_X12_sees_31 : zrun call (zseg j_X12_sees) 31 ls st μ = zexec call (zrun call (zseg j_X12_sees)) s_X12_sees_31 ls st μ := zrun_eq
theorem r_X12_sees_32 : zrun call (zseg j_X12_sees) 32 ls st μ = zexec call (zrun call (zseg j_X12_sees)) s_X12_sees_32 ls st μ := zrun_eq
theorem r_X12_passing_0 : zrun call (zseg j_X12_passing) 0 ls st μ = zexec call (zrun call (zseg j_X12_passing)) s_X12_passing_0 ls st μ := zrun_eq
theorem r_X12_passing_41 : zrun call (zseg j_X12_passing) 41 ls st μ = zexec call (zrun call (zseg j_X12_passing)) s_X12_passing_41 ls st μ := zrun_eq
theorem r_X12_passing_44 : zrun call (zseg j_X12_passing) 44 ls st μ = zexec call (zrun call (zseg j_X12_passing)) s_X12_passing_44 ls st μ := zrun_eq
theorem r_X12_passing_62 : zrun call (zseg j_X12_passing) 62 ls st μ = zexec call (zrun call (zseg j_X12_passing)) s_X12_passing_62 ls st μ := zrun_eq
theorem r_X12_passing_73 : zrun call (zseg j_X12_passing) 73 ls st μ = zexec call (zrun call (zseg j_X12_passing)) s_X12_passing_73 ls st μ := zrun_eq
theorem r_X12_goesAlone_0 : zrun call (zseg j_X12_goesAlone) 0 ls st μ = zexec call (zrun call (zseg j_X12_goesAlone)) s_X12_goesAlone_0 ls st μ := zrun_eq
theorem r_X12_goesAlone_60 : zrun call (zseg j_X12_goesAlone) 60 ls st μ = zexec call (zrun call (zseg j_X12_goesAlone)) s_X12_goesAlone_60 ls st μ := zrun_eq
theorem r_X12_goesAlone_66 : zrun call (zseg j_X12_goesAlone) 66 ls st μ = zexec call (zrun call (zseg j_X12_goesAlone)) s_X12_goesAlone_66 ls st μ := zrun_eq
theorem r_X12_goesAlone_82 : zrun call (zseg j_X12_goesAlone) 82 ls st μ = zexec call (zrun call (zseg j_X12_goesAlone)) s_X12_goesAlone_82 ls st μ := zrun_eq
theorem r_X12_goesAlone_86 : zrun call (zseg j_X12_goesAlone) 86 ls st μ = zexec call (zrun call (zseg j_X12_goesAlone)) s_X12_goesAlone_86 ls st μ := zrun_eq
theorem r_X12_isOutAlone_0 : zrun call (zseg j_X12_isOutAlone) 0 ls st μ = zexec call (zrun call (zseg j_X12_isOutAlone)) s_X12_isOutAlone_0 ls st μ := zrun_eq
theorem r_X12_isOutAlone_20 : zrun call (zseg j_X12_isOutAlone) 20 ls st μ = zexec call (zrun call (zseg j_X12_isOutAlone)) s_X12_isOutAlone_20 ls st μ := zrun_eq
theorem r_X12_isOutAlone_54 : zrun call (zseg j_X12_isOutAlone) 54 ls st μ = zexec call (zrun call (zseg j_X12_isOutAlone)) s_X12_isOutAlone_54 ls st μ := zrun_eq
theorem r_X12_isOutAlone_64 : zrun call (zseg j_X12_isOutAlone) 64 ls st μ = zexec call (zrun call (zseg j_X12_isOutAlone)) s_X12_isOutAlone_64 ls st μ := zrun_eq
theorem r_X12_isOutAlone_70 : zrun call (zseg j_X12_isOutAlone) 70 ls st μ = zexec call (zrun call (zseg j_X12_isOutAlone)) s_X12_isOutAlone_70 ls st μ := zrun_eq
theorem r_X12_looksAlone_0 : zrun call (zseg j_X12_looksAlone) 0 ls st μ = zexec call (zrun call (zseg j_X12_looksAlone)) s_X12_looksAlone_0 ls st μ := zrun_eq
theorem r_X12_looksAlone_20 : zrun call (zseg j_X12_looksAlone) 20 ls st μ = zexec call (zrun call (zseg j_X12_looksAlone)) s_X12_looksAlone_20 ls st μ := zrun_eq
theorem r_X12_looksAlone_51 : zrun call (zseg j_X12_looksAlone) 51 ls st μ = zexec call (zrun call (zseg j_X12_looksAlone)) s_X12_looksAlone_51 ls st μ := zrun_eq
theorem r_X12_looksAlone_55 : zrun call (zseg j_X12_looksAlone) 55 ls st μ = zexec call (zrun call (zseg j_X12_looksAlone)) s_X12_looksAlone_55 ls st μ := zrun_eq
theorem r_X12_looksAlone_79 : zrun call (zseg j_X12_looksAlone) 79 ls st μ = zexec call (zrun call (zseg j_X12_looksAlone)) s_X12_looksAlone_79 ls st μ := zrun_eq
theorem r_X12_looksAlone_104 : zrun call (zseg j_X12_looksAlone) 104 ls st μ = zexec call (zrun call (zseg j_X12_looksAlone)) s_X12_looksAlone_104 ls st μ := zrun_eq
theorem r_X12_looksAlone_108 : zrun call (zseg j_X12_looksAlone) 108 ls st μ = zexec call (zrun call (zseg j_X12_looksAlone)) s_X12_looksAlone_108 ls st μ := zrun_eq
theorem r_X12_looksAlone_109 : zrun call (zseg j_X12_looksAlone) 109 ls st μ = zexec call (zrun call (zseg j_X12_looksAlone)) s_X12_looksAlone_109 ls st μ := zrun_eq
theorem r_X12_looksAlone_119 : zrun call (zseg j_X12_looksAlone) 119 ls st μ = zexec call (zrun call (zseg j_X12_looksAlone)) s_X12_looksAlone_119 ls st μ := zrun_eq
theorem r_X12_looksAlone_122 : zrun call (zseg j_X12_looksAlone) 122 ls st μ = zexec call (zrun call (zseg j_X12_looksAlone)) s_X12_looksAlone_122 ls st μ := zrun_eq
theorem r_X12_looksAlone_181 : zrun call (zseg j_X12_looksAlone) 181 ls st μ = zexec call (zrun call (zseg j_X12_looksAlone)) s_X12_looksAlone_181 ls st μ := zrun_eq
theorem r_X12_looksAlone_182 : zrun call (zseg j_X12_looksAlone) 182 ls st μ = zexec call (zrun call (zseg j_X12_looksAlone)) s_X12_looksAlone_182 ls st μ := zrun_eq
theorem r_X12_looksAlone_211 : zrun call (zseg j_X12_looksAlone) 211 ls st μ = zexec call (zrun call (zseg j_X12_looksAlone)) s_X12_looksAlone_211 ls st μ := zrun_eq
theorem r_X12_looksAlone_246 : zrun call (zseg j_X12_looksAlone) 246 ls st μ = zexec call (zrun call (zseg j_X12_looksAlone)) s_X12_looksAlone_246 ls st μ := zrun_eq
theorem r_X12_looksAlone_252 : zrun call (zseg j_X12_looksAlone) 252 ls st μ = zexec call (zrun call (zseg j_X12_looksAlone)) s_X12_looksAlone_252 ls st μ := zrun_eq
theorem r_X12_looksAlone_258 : zrun call (zseg j_X12_looksAlone) 258 ls st μ = zexec call (zrun call (zseg j_X12_looksAlone)) s_X12_looksAlone_258 ls st μ := zrun_eq
theorem r_X12_saw_0 : zrun call (zseg j_X12_saw) 0 ls st μ = zexec call (zrun call (zseg j_X12_saw)) s_X12_saw_0 ls st μ := zrun_eq
theorem r_X12_saw_19 : zrun call (zseg j_X12_saw) 19 ls st μ = zexec call (zrun call (zseg j_X12_saw)) s_X12_saw_19 ls st μ := zrun_eq
theorem r_X12_saw_23 : zrun call (zseg j_X12_saw) 23 ls st μ = zexec call (zrun call (zseg j_X12_saw)) s_X12_saw_23 ls st μ := zrun_eq
theorem r_X12_saw_55 : zrun call (zseg j_X12_saw) 55 ls st μ = zexec call (zrun call (zseg j_X12_saw)) s_X12_saw_55 ls st μ := zrun_eq
theorem r_X12_saw_59 : zrun call (zseg j_X12_saw) 59 ls st μ = zexec call (zrun call (zseg j_X12_saw)) s_X12_saw_59 ls st μ := zrun_eq
theorem r_X12_saw_60 : zrun call (zseg j_X12_saw) 60 ls st μ = zexec call (zrun call (zseg j_X12_saw)) s_X12_saw_60 ls st μ := zrun_eq
theorem r_X12_saw_75 : zrun call (zseg j_X12_saw) 75 ls st μ = zexec call (zrun call (zseg j_X12_saw)) s_X12_saw_75 ls st μ := zrun_eq
theorem r_X12_saw_77 : zrun call (zseg j_X12_saw) 77 ls st μ = zexec call (zrun call (zseg j_X12_saw)) s_X12_saw_77 ls st μ := zrun_eq
theorem r_X12_observed_0 : zrun call (zseg j_X12_observed) 0 ls st μ = zexec call (zrun call (zseg j_X12_observed)) s_X12_observed_0 ls st μ := zrun_eq
theorem r_X12_observed_4 : zrun call (zseg j_X12_observed) 4 ls st μ = zexec call (zrun call (zseg j_X12_observed)) s_X12_observed_4 ls st μ := zrun_eq
theorem r_X12_observed_29 : zrun call (zseg j_X12_observed) 29 ls st μ = zexec call (zrun call (zseg j_X12_observed)) s_X12_observed_29 ls st μ := zrun_eq
theorem r_X12_observed_30 : zrun call (zseg j_X12_observed) 30 ls st μ = zexec call (zrun call (zseg j_X12_observed)) s_X12_observed_30 ls st μ := zrun_eq
theorem r_X12_observed_38 : zrun call (zseg j_X12_observed) 38 ls st μ = zexec call (zrun call (zseg j_X12_observed)) s_X12_observed_38 ls st μ := zrun_eq
theorem r_X12_forget_0 : zrun call (zseg j_X12_forget) 0 ls st μ = zexec call (zrun call (zseg j_X12_forget)) s_X12_forget_0 ls st μ := zrun_eq
theorem r_X12_forget_12 : zrun call (zseg j_X12_forget) 12 ls st μ = zexec call (zrun call (zseg j_X12_forget)) s_X12_forget_12 ls st μ := zrun_eq
theorem r_X12_forget_31 : zrun call (zseg j_X12_forget) 31 ls st μ = zexec call (zrun call (zseg j_X12_forget)) s_X12_forget_31 ls st μ := zrun_eq
theorem r_X12_isCause_0 : zrun call (zseg j_X12_isCause) 0 ls st μ = zexec call (zrun call (zseg j_X12_isCause)) s_X12_isCause_0 ls st μ := zrun_eq
theorem r_X12_isCause_15 : zrun call (zseg j_X12_isCause) 15 ls st μ = zexec call (zrun call (zseg j_X12_isCause)) s_X12_isCause_15 ls st μ := zrun_eq
theorem r_X12_isCause_23 : zrun call (zseg j_X12_isCause) 23 ls st μ = zexec call (zrun call (zseg j_X12_isCause)) s_X12_isCause_23 ls st μ := zrun_eq
theorem r_X12_isCause_40 : zrun call (zseg j_X12_isCause) 40 ls st μ = zexec call (zrun call (zseg j_X12_isCause)) s_X12_isCause_40 ls st μ := zrun_eq
theorem r_X12_isCause_75 : zrun call (zseg j_X12_isCause) 75 ls st μ = zexec call (zrun call (zseg j_X12_isCause)) s_X12_isCause_75 ls st μ := zrun_eq
theorem r_X12_isCause_76 : zrun call (zseg j_X12_isCause) 76 ls st μ = zexec call (zrun call (zseg j_X12_isCause)) s_X12_isCause_76 ls st μ := zrun_eq
theorem r_X12_takesCause_0 : zrun call (zseg j_X12_takesCause) 0 ls st μ = zexec call (zrun call (zseg j_X12_takesCause)) s_X12_takesCause_0 ls st μ := zrun_eq
theorem r_X12_takesCause_32 : zrun call (zseg j_X12_takesCause) 32 ls st μ = zexec call (zrun call (zseg j_X12_takesCause)) s_X12_takesCause_32 ls st μ := zrun_eq
theorem r_X12_takesCause_35 : zrun call (zseg j_X12_takesCause) 35 ls st μ = zexec call (zrun call (zseg j_X12_takesCause)) s_X12_takesCause_35 ls st μ := zrun_eq
theorem r_X12_takesCause_39 : zrun call (zseg j_X12_takesCause) 39 ls st μ = zexec call (zrun call (zseg j_X12_takesCause)) s_X12_takesCause_39 ls st μ := zrun_eq
theorem r_X12_takesCause_60 : zrun call (zseg j_X12_takesCause) 60 ls st μ = zexec call (zrun call (zseg j_X12_takesCause)) s_X12_takesCause_60 ls st μ := zrun_eq
theorem r_X12_takesCause_79 : zrun call (zseg j_X12_takesCause) 79 ls st μ = zexec call (zrun call (zseg j_X12_takesCause)) s_X12_takesCause_79 ls st μ := zrun_eq
theorem r_X12_takesCause_115 : zrun call (zseg j_X12_takesCause) 115 ls st μ = zexec call (zrun call (zseg j_X12_takesCause)) s_X12_takesCause_115 ls st μ := zrun_eq
theorem r_X12_explains_0 : zrun call (zseg j_X12_explains) 0 ls st μ = zexec call (zrun call (zseg j_X12_explains)) s_X12_explains_0 ls st μ := zrun_eq
theorem r_X12_explains_3 : zrun call (zseg j_X12_explains) 3 ls st μ = zexec call (zrun call (zseg j_X12_explains)) s_X12_explains_3 ls st μ := zrun_eq
theorem r_X12_explains_32 : zrun call (zseg j_X12_explains) 32 ls st μ = zexec call (zrun call (zseg j_X12_explains)) s_X12_explains_32 ls st μ := zrun_eq
theorem r_X12_explains_47 : zrun call (zseg j_X12_explains) 47 ls st μ = zexec call (zrun call (zseg j_X12_explains)) s_X12_explains_47 ls st μ := zrun_eq
theorem r_X12_explains_57 : zrun call (zseg j_X12_explains) 57 ls st μ = zexec call (zrun call (zseg j_X12_explains)) s_X12_explains_57 ls st μ := zrun_eq
theorem r_X12_explains_71 : zrun call (zseg j_X12_explains) 71 ls st μ = zexec call (zrun call (zseg j_X12_explains)) s_X12_explains_71 ls st μ := zrun_eq
theorem r_X12_explains_76 : zrun call (zseg j_X12_explains) 76 ls st μ = zexec call (zrun call (zseg j_X12_explains)) s_X12_explains_76 ls st μ := zrun_eq
theorem r_X12_explains_77 : zrun call (zseg j_X12_explains) 77 ls st μ = zexec call (zrun call (zseg j_X12_explains)) s_X12_explains_77 ls st μ := zrun_eq
theorem r_X12_explains_84 : zrun call (zseg j_X12_explains) 84 ls st μ = zexec call (zrun call (zseg j_X12_explains)) s_X12_explains_84 ls st μ := zrun_eq
theorem r_X12_explains_109 : zrun call (zseg j_X12_explains) 109 ls st μ = zexec call (zrun call (zseg j_X12_explains)) s_X12_explains_109 ls st μ := zrun_eq
theorem r_X12_explains_124 : zrun call (zseg j_X12_explains) 124 ls st μ = zexec call (zrun call (zseg j_X12_explains)) s_X12_explains_124 ls st μ := zrun_eq
theorem r_X12_explains_139 : zrun call (zseg j_X12_explains) 139 ls st μ = zexec call (zrun call (zseg j_X12_explains)) s_X12_explains_139 ls st μ := zrun_eq
theorem r_X12_explains_143 : zrun call (zseg j_X12_explains) 143 ls st μ = zexec call (zrun call (zseg j_X12_explains)) s_X12_explains_143 ls st μ := zrun_eq
theorem r_X12_explains_144 : zrun call (zseg j_X12_explains) 144 ls st μ = zexec call (zrun call (zseg j_X12_explains)) s_X12_explains_144 ls st μ := zrun_eq
theorem r_X12_explains_155 : zrun call (zseg j_X12_explains) 155 ls st μ = zexec call (zrun call (zseg j_X12_explains)) s_X12_explains_155 ls st μ := zrun_eq
theorem r_X12_explains_162 : zrun call (zseg j_X12_explains) 162 ls st μ = zexec call (zrun call (zseg j_X12_explains)) s_X12_explains_162 ls st μ := zrun_eq
theorem r_X12_explains_181 : zrun call (zseg j_X12_explains) 181 ls st μ = zexec call (zrun call (zseg j_X12_explains)) s_X12_explains_181 ls st μ := zrun_eq
theorem r_X12_explains_188 : zrun call (zseg j_X12_explains) 188 ls st μ = zexec call (zrun call (zseg j_X12_explains)) s_X12_explains_188 ls st μ := zrun_eq
theorem r_X12_explains_198 : zrun call (zseg j_X12_explains) 198 ls st μ = zexec call (zrun call (zseg j_X12_explains)) s_X12_explains_198 ls st μ := zrun_eq
theorem r_X12_explains_200 : zrun call (zseg j_X12_explains) 200 ls st μ = zexec call (zrun call (zseg j_X12_explains)) s_X12_explains_200 ls st μ := zrun_eq
theorem r_X12_explains_206 : zrun call (zseg j_X12_explains) 206 ls st μ = zexec call (zrun call (zseg j_X12_explains)) s_X12_explains_206 ls st μ := zrun_eq
theorem r_X12_explain_0 : zrun call (zseg j_X12_explain) 0 ls st μ = zexec call (zrun call (zseg j_X12_explain)) s_X12_explain_0 ls st μ := zrun_eq
theorem r_X12_explain_22 : zrun call (zseg j_X12_explain) 22 ls st μ = zexec call (zrun call (zseg j_X12_explain)) s_X12_explain_22 ls st μ := zrun_eq
theorem r_X12_explain_35 : zrun call (zseg j_X12_explain) 35 ls st μ = zexec call (zrun call (zseg j_X12_explain)) s_X12_explain_35 ls st μ := zrun_eq
theorem r_X12_explain_54 : zrun call (zseg j_X12_explain) 54 ls st μ = zexec call (zrun call (zseg j_X12_explain)) s_X12_explain_54 ls st μ := zrun_eq
theorem r_X12_explain_55 : zrun call (zseg j_X12_explain) 55 ls st μ = zexec call (zrun call (zseg j_X12_explain)) s_X12_explain_55 ls st μ := zrun_eq
theorem r_X12_explain_56 : zrun call (zseg j_X12_explain) 56 ls st μ = zexec call (zrun call (zseg j_X12_explain)) s_X12_explain_56 ls st μ := zrun_eq
theorem r_X12_explain_58 : zrun call (zseg j_X12_explain) 58 ls st μ = zexec call (zrun call (zseg j_X12_explain)) s_X12_explain_58 ls st μ := zrun_eq
theorem r_X12_explain_91 : zrun call (zseg j_X12_explain) 91 ls st μ = zexec call (zrun call (zseg j_X12_explain)) s_X12_explain_91 ls st μ := zrun_eq
theorem r_X12_explain_99 : zrun call (zseg j_X12_explain) 99 ls st μ = zexec call (zrun call (zseg j_X12_explain)) s_X12_explain_99 ls st μ := zrun_eq
theorem r_X12_explain_100 : zrun call (zseg j_X12_explain) 100 ls st μ = zexec call (zrun call (zseg j_X12_explain)) s_X12_explain_100 ls st μ := zrun_eq
theorem r_X12_explain_101 : zrun call (zseg j_X12_explain) 101 ls st μ = zexec call (zrun call (zseg j_X12_explain)) s_X12_explain_101 ls st μ := zrun_eq
theorem r_X12_explain_107 : zrun call (zseg j_X12_explain) 107 ls st μ = zexec call (zrun call (zseg j_X12_explain)) s_X12_explain_107 ls st μ := zrun_eq
theorem r_X12_explain_109 : zrun call (zseg j_X12_explain) 109 ls st μ = zexec call (zrun call (zseg j_X12_explain)) s_X12_explain_109 ls st μ := zrun_eq
theorem r_X12_explain_120 : zrun call (zseg j_X12_explain) 120 ls st μ = zexec call (zrun call (zseg j_X12_explain)) s_X12_explain_120 ls st μ := zrun_eq
theorem r_X12_explain_164 : zrun call (zseg j_X12_explain) 164 ls st μ = zexec call (zrun call (zseg j_X12_explain)) s_X12_explain_164 ls st μ := zrun_eq
theorem r_X12_explain_172 : zrun call (zseg j_X12_explain) 172 ls st μ = zexec call (zrun call (zseg j_X12_explain)) s_X12_explain_172 ls st μ := zrun_eq
theorem r_X12_explain_182 : zrun call (zseg j_X12_explain) 182 ls st μ = zexec call (zrun call (zseg j_X12_explain)) s_X12_explain_182 ls st μ := zrun_eq
theorem r_X12_explain_183 : zrun call (zseg j_X12_explain) 183 ls st μ = zexec call (zrun call (zseg j_X12_explain)) s_X12_explain_183 ls st μ := zrun_eq
theorem r_X12_explain_184 : zrun call (zseg j_X12_explain) 184 ls st μ = zexec call (zrun call (zseg j_X12_explain)) s_X12_explain_184 ls st μ := zrun_eq
theorem r_X12_explain_190 : zrun call (zseg j_X12_explain) 190 ls st μ = zexec call (zrun call (zseg j_X12_explain)) s_X12_explain_190 ls st μ := zrun_eq
theorem r_X12_explain_196 : zrun call (zseg j_X12_explain) 196 ls st μ = zexec call (zrun call (zseg j_X12_explain)) s_X12_explain_196 ls st μ := zrun_eq
theorem r_X12_foretold_0 : zrun call (zseg j_X12_foretold) 0 ls st μ = zexec call (zrun call (zseg j_X12_foretold)) s_X12_foretold_0 ls st μ := zrun_eq
theorem r_X12_foretold_16 : zrun call (zseg j_X12_foretold) 16 ls st μ = zexec call (zrun call (zseg j_X12_foretold)) s_X12_foretold_16 ls st μ := zrun_eq
theorem r_X12_foretold_42 : zrun call (zseg j_X12_foretold) 42 ls st μ = zexec call (zrun call (zseg j_X12_foretold)) s_X12_foretold_42 ls st μ := zrun_eq
theorem r_X12_foretold_45 : zrun call (zseg j_X12_foretold) 45 ls st μ = zexec call (zrun call (zseg j_X12_foretold)) s_X12_foretold_45 ls st μ := zrun_eq
theorem r_X12_foretold_48 : zrun call (zseg j_X12_foretold) 48 ls st μ = zexec call (zrun call (zseg j_X12_foretold)) s_X12_foretold_48 ls st μ := zrun_eq
theorem r_X12_foretold_89 : zrun call (zseg j_X12_foretold) 89 ls st μ = zexec call (zrun call (zseg j_X12_foretold)) s_X12_foretold_89 ls st μ := zrun_eq
theorem r_X12_foretold_92 : zrun call (zseg j_X12_foretold) 92 ls st μ = zexec call (zrun call (zseg j_X12_foretold)) s_X12_foretold_92 ls st μ := zrun_eq
theorem r_X12_foretold_118 : zrun call (zseg j_X12_foretold) 118 ls st μ = zexec call (zrun call (zseg j_X12_foretold)) s_X12_foretold_118 ls st μ := zrun_eq
theorem r_X12_foretold_129 : zrun call (zseg j_X12_foretold) 129 ls st μ = zexec call (zrun call (zseg j_X12_foretold)) s_X12_foretold_129 ls st μ := zrun_eq
theorem r_X12_foretold_161 : zrun call (zseg j_X12_foretold) 161 ls st μ = zexec call (zrun call (zseg j_X12_foretold)) s_X12_foretold_161 ls st μ := zrun_eq
theorem r_X12_foretold_169 : zrun call (zseg j_X12_foretold) 169 ls st μ = zexec call (zrun call (zseg j_X12_foretold)) s_X12_foretold_169 ls st μ := zrun_eq
theorem r_X12_foretold_184 : zrun call (zseg j_X12_foretold) 184 ls st μ = zexec call (zrun call (zseg j_X12_foretold)) s_X12_foretold_184 ls st μ := zrun_eq
theorem r_X12_foretold_190 : zrun call (zseg j_X12_foretold) 190 ls st μ = zexec call (zrun call (zseg j_X12_foretold)) s_X12_foretold_190 ls st μ := zrun_eq
theorem r_X12_creaseOf_0 : zrun call (zseg j_X12_creaseOf) 0 ls st μ = zexec call (zrun call (zseg j_X12_creaseOf)) s_X12_creaseOf_0 ls st μ := zrun_eq
theorem r_X12_creaseOf_6 : zrun call (zseg j_X12_creaseOf) 6 ls st μ = zexec call (zrun call (zseg j_X12_creaseOf)) s_X12_creaseOf_6 ls st μ := zrun_eq
theorem r_X12_creaseOf_45 : zrun call (zseg j_X12_creaseOf) 45 ls st μ = zexec call (zrun call (zseg j_X12_creaseOf)) s_X12_creaseOf_45 ls st μ := zrun_eq
theorem r_X12_creaseOf_61 : zrun call (zseg j_X12_creaseOf) 61 ls st μ = zexec call (zrun call (zseg j_X12_creaseOf)) s_X12_creaseOf_61 ls st μ := zrun_eq
theorem r_X12_creaseOf_64 : zrun call (zseg j_X12_creaseOf) 64 ls st μ = zexec call (zrun call (zseg j_X12_creaseOf)) s_X12_creaseOf_64 ls st μ := zrun_eq
theorem r_X12_creaseOf_70 : zrun call (zseg j_X12_creaseOf) 70 ls st μ = zexec call (zrun call (zseg j_X12_creaseOf)) s_X12_creaseOf_70 ls st μ := zrun_eq
theorem r_X12_crease_0 : zrun call (zseg j_X12_crease) 0 ls st μ = zexec call (zrun call (zseg j_X12_crease)) s_X12_crease_0 ls st μ := zrun_eq
theorem r_X12_crease_58 : zrun call (zseg j_X12_crease) 58 ls st μ = zexec call (zrun call (zseg j_X12_crease)) s_X12_crease_58 ls st μ := zrun_eq
theorem r_X12_crease_70 : zrun call (zseg j_X12_crease) 70 ls st μ = zexec call (zrun call (zseg j_X12_crease)) s_X12_crease_70 ls st μ := zrun_eq
theorem r_X12_crease_74 : zrun call (zseg j_X12_crease) 74 ls st μ = zexec call (zrun call (zseg j_X12_crease)) s_X12_crease_74 ls st μ := zrun_eq
theorem r_X12_crease_75 : zrun call (zseg j_X12_crease) 75 ls st μ = zexec call (zrun call (zseg j_X12_crease)) s_X12_crease_75 ls st μ := zrun_eq
theorem r_X12_crease_96 : zrun call (zseg j_X12_crease) 96 ls st μ = zexec call (zrun call (zseg j_X12_crease)) s_X12_crease_96 ls st μ := zrun_eq
theorem r_X12_crease_99 : zrun call (zseg j_X12_crease) 99 ls st μ = zexec call (zrun call (zseg j_X12_crease)) s_X12_crease_99 ls st μ := zrun_eq
theorem r_X12_crease_105 : zrun call (zseg j_X12_crease) 105 ls st μ = zexec call (zrun call (zseg j_X12_crease)) s_X12_crease_105 ls st μ := zrun_eq
theorem r_X12_crease_168 : zrun call (zseg j_X12_crease) 168 ls st μ = zexec call (zrun call (zseg j_X12_crease)) s_X12_crease_168 ls st μ := zrun_eq
theorem r_X12_crease_178 : zrun call (zseg j_X12_crease) 178 ls st μ = zexec call (zrun call (zseg j_X12_crease)) s_X12_crease_178 ls st μ := zrun_eq
theorem r_X12_crease_181 : zrun call (zseg j_X12_crease) 181 ls st μ = zexec call (zrun call (zseg j_X12_crease)) s_X12_crease_181 ls st μ := zrun_eq
theorem r_X12_crease_187 : zrun call (zseg j_X12_crease) 187 ls st μ = zexec call (zrun call (zseg j_X12_crease)) s_X12_crease_187 ls st μ := zrun_eq
theorem r_X12_crease_198 : zrun call (zseg j_X12_crease) 198 ls st μ = zexec call (zrun call (zseg j_X12_crease)) s_X12_crease_198 ls st μ := zrun_eq
theorem r_X12_crease_199 : zrun call (zseg j_X12_crease) 199 ls st μ = zexec call (zrun call (zseg j_X12_crease)) s_X12_crease_199 ls st μ := zrun_eq
theorem r_X12_setsOut_0 : zrun call (zseg j_X12_setsOut) 0 ls st μ = zexec call (zrun call (zseg j_X12_setsOut)) s_X12_setsOut_0 ls st μ := zrun_eq
theorem r_X12_setsOut_35 : zrun call (zseg j_X12_setsOut) 35 ls st μ = zexec call (zrun call (zseg j_X12_setsOut)) s_X12_setsOut_35 ls st μ := zrun_eq
theorem r_X12_setsOut_58 : zrun call (zseg j_X12_setsOut) 58 ls st μ = zexec call (zrun call (zseg j_X12_setsOut)) s_X12_setsOut_58 ls st μ := zrun_eq
theorem r_X12_page_0 : zrun call (zseg j_X12_page) 0 ls st μ = zexec call (zrun call (zseg j_X12_page)) s_X12_page_0 ls st μ := zrun_eq
theorem r_X12_page_20 : zrun call (zseg j_X12_page) 20 ls st μ = zexec call (zrun call (zseg j_X12_page)) s_X12_page_20 ls st μ := zrun_eq
theorem r_X12_page_35 : zrun call (zseg j_X12_page) 35 ls st μ = zexec call (zrun call (zseg j_X12_page)) s_X12_page_35 ls st μ := zrun_eq
theorem r_X12_page_48 : zrun call (zseg j_X12_page) 48 ls st μ = zexec call (zrun call (zseg j_X12_page)) s_X12_page_48 ls st μ := zrun_eq
theorem r_X12_page_85 : zrun call (zseg j_X12_page) 85 ls st μ = zexec call (zrun call (zseg j_X12_page)) s_X12_page_85 ls st μ := zrun_eq
theorem r_X12_page_86 : zrun call (zseg j_X12_page) 86 ls st μ = zexec call (zrun call (zseg j_X12_page)) s_X12_page_86 ls st μ := zrun_eq
theorem r_X12_tray_0 : zrun call (zseg j_X12_tray) 0 ls st μ = zexec call (zrun call (zseg j_X12_tray)) s_X12_tray_0 ls st μ := zrun_eq
theorem r_X12_tray_29 : zrun call (zseg j_X12_tray) 29 ls st μ = zexec call (zrun call (zseg j_X12_tray)) s_X12_tray_29 ls st μ := zrun_eq
theorem r_X12_tray_31 : zrun call (zseg j_X12_tray) 31 ls st μ = zexec call (zrun call (zseg j_X12_tray)) s_X12_tray_31 ls st μ := zrun_eq
theorem r_X12_tray_57 : zrun call (zseg j_X12_tray) 57 ls st μ = zexec call (zrun call (zseg j_X12_tray)) s_X12_tray_57 ls st μ := zrun_eq
theorem r_X12_tray_58 : zrun call (zseg j_X12_tray) 58 ls st μ = zexec call (zrun call (zseg j_X12_tray)) s_X12_tray_58 ls st μ := zrun_eq
theorem r_X12_pocket_0 : zrun call (zseg j_X12_pocket) 0 ls st μ = zexec call (zrun call (zseg j_X12_pocket)) s_X12_pocket_0 ls st μ := zrun_eq
theorem r_X12_pocket_29 : zrun call (zseg j_X12_pocket) 29 ls st μ = zexec call (zrun call (zseg j_X12_pocket)) s_X12_pocket_29 ls st μ := zrun_eq
theorem r_X12_pocket_31 : zrun call (zseg j_X12_pocket) 31 ls st μ = zexec call (zrun call (zseg j_X12_pocket)) s_X12_pocket_31 ls st μ := zrun_eq
theorem r_X12_heat_0 : zrun call (zseg j_X12_heat) 0 ls st μ = zexec call (zrun call (zseg j_X12_heat)) s_X12_heat_0 ls st μ := zrun_eq
theorem r_X12_heat_54 : zrun call (zseg j_X12_heat) 54 ls st μ = zexec call (zrun call (zseg j_X12_heat)) s_X12_heat_54 ls st μ := zrun_eq
theorem r_X12_heat_56 : zrun call (zseg j_X12_heat) 56 ls st μ = zexec call (zrun call (zseg j_X12_heat)) s_X12_heat_56 ls st μ := zrun_eq
theorem r_X12_stateOf_0 : zrun call (zseg j_X12_stateOf) 0 ls st μ = zexec call (zrun call (zseg j_X12_stateOf)) s_X12_stateOf_0 ls st μ := zrun_eq
theorem r_X12_adds_0 : zrun call (zseg j_X12_adds) 0 ls st μ = zexec call (zrun call (zseg j_X12_adds)) s_X12_adds_0 ls st μ := zrun_eq
theorem r_X12_adds_22 : zrun call (zseg j_X12_adds) 22 ls st μ = zexec call (zrun call (zseg j_X12_adds)) s_X12_adds_22 ls st μ := zrun_eq
theorem r_X12_lain_0 : zrun call (zseg j_X12_lain) 0 ls st μ = zexec call (zrun call (zseg j_X12_lain)) s_X12_lain_0 ls st μ := zrun_eq
theorem r_X12_lain_9 : zrun call (zseg j_X12_lain) 9 ls st μ = zexec call (zrun call (zseg j_X12_lain)) s_X12_lain_9 ls st μ := zrun_eq
theorem r_X12_lain_26 : zrun call (zseg j_X12_lain) 26 ls st μ = zexec call (zrun call (zseg j_X12_lain)) s_X12_lain_26 ls st μ := zrun_eq
theorem r_X12_lain_33 : zrun call (zseg j_X12_lain) 33 ls st μ = zexec call (zrun call (zseg j_X12_lain)) s_X12_lain_33 ls st μ := zrun_eq
theorem r_X12_isOut_0 : zrun call (zseg j_X12_isOut) 0 ls st μ = zexec call (zrun call (zseg j_X12_isOut)) s_X12_isOut_0 ls st μ := zrun_eq
theorem r_X12_isOut_36 : zrun call (zseg j_X12_isOut) 36 ls st μ = zexec call (zrun call (zseg j_X12_isOut)) s_X12_isOut_36 ls st μ := zrun_eq
theorem r_X12_isOut_37 : zrun call (zseg j_X12_isOut) 37 ls st μ = zexec call (zrun call (zseg j_X12_isOut)) s_X12_isOut_37 ls st μ := zrun_eq
theorem r_X12_opens_0 : zrun call (zseg j_X12_opens) 0 ls st μ = zexec call (zrun call (zseg j_X12_opens)) s_X12_opens_0 ls st μ := zrun_eq
theorem r_X12_opens_90 : zrun call (zseg j_X12_opens) 90 ls st μ = zexec call (zrun call (zseg j_X12_opens)) s_X12_opens_90 ls st μ := zrun_eq
theorem r_X12_opens_100 : zrun call (zseg j_X12_opens) 100 ls st μ = zexec call (zrun call (zseg j_X12_opens)) s_X12_opens_100 ls st μ := zrun_eq
theorem r_X12_opens_149 : zrun call (zseg j_X12_opens) 149 ls st μ = zexec call (zrun call (zseg j_X12_opens)) s_X12_opens_149 ls st μ := zrun_eq
theorem r_X12_opens_174 : zrun call (zseg j_X12_opens) 174 ls st μ = zexec call (zrun call (zseg j_X12_opens)) s_X12_opens_174 ls st μ := zrun_eq
theorem r_X12_opens_175 : zrun call (zseg j_X12_opens) 175 ls st μ = zexec call (zrun call (zseg j_X12_opens)) s_X12_opens_175 ls st μ := zrun_eq
theorem r_X12_opens_224 : zrun call (zseg j_X12_opens) 224 ls st μ = zexec call (zrun call (zseg j_X12_opens)) s_X12_opens_224 ls st μ := zrun_eq
theorem r_X12_opens_237 : zrun call (zseg j_X12_opens) 237 ls st μ = zexec call (zrun call (zseg j_X12_opens)) s_X12_opens_237 ls st μ := zrun_eq
theorem r_X12_opens_247 : zrun call (zseg j_X12_opens) 247 ls st μ = zexec call (zrun call (zseg j_X12_opens)) s_X12_opens_247 ls st μ := zrun_eq
theorem r_X12_opens_248 : zrun call (zseg j_X12_opens) 248 ls st μ = zexec call (zrun call (zseg j_X12_opens)) s_X12_opens_248 ls st μ := zrun_eq
theorem r_X12_opens_258 : zrun call (zseg j_X12_opens) 258 ls st μ = zexec call (zrun call (zseg j_X12_opens)) s_X12_opens_258 ls st μ := zrun_eq
theorem r_X12_opens_259 : zrun call (zseg j_X12_opens) 259 ls st μ = zexec call (zrun call (zseg j_X12_opens)) s_X12_opens_259 ls st μ := zrun_eq
theorem r_X12_opens_270 : zrun call (zseg j_X12_opens) 270 ls st μ = zexec call (zrun call (zseg j_X12_opens)) s_X12_opens_270 ls st μ := zrun_eq
theorem r_X12_opens_271 : zrun call (zseg j_X12_opens) 271 ls st μ = zexec call (zrun call (zseg j_X12_opens)) s_X12_opens_271 ls st μ := zrun_eq
theorem r_X12_opens_277 : zrun call (zseg j_X12_opens) 277 ls st μ = zexec call (zrun call (zseg j_X12_opens)) s_X12_opens_277 ls st μ := zrun_eq
theorem r_X12_opens_338 : zrun call (zseg j_X12_opens) 338 ls st μ = zexec call (zrun call (zseg j_X12_opens)) s_X12_opens_338 ls st μ := zrun_eq
theorem r_X12_opens_384 : zrun call (zseg j_X12_opens) 384 ls st μ = zexec call (zrun call (zseg j_X12_opens)) s_X12_opens_384 ls st μ := zrun_eq
theorem r_X12_opens_410 : zrun call (zseg j_X12_opens) 410 ls st μ = zexec call (zrun call (zseg j_X12_opens)) s_X12_opens_410 ls st μ := zrun_eq
theorem r_X12_opens_416 : zrun call (zseg j_X12_opens) 416 ls st μ = zexec call (zrun call (zseg j_X12_opens)) s_X12_opens_416 ls st μ := zrun_eq
theorem r_X12_opens_426 : zrun call (zseg j_X12_opens) 426 ls st μ = zexec call (zrun call (zseg j_X12_opens)) s_X12_opens_426 ls st μ := zrun_eq
theorem r_X12_opens_432 : zrun call (zseg j_X12_opens) 432 ls st μ = zexec call (zrun call (zseg j_X12_opens)) s_X12_opens_432 ls st μ := zrun_eq
theorem r_X12_opens_442 : zrun call (zseg j_X12_opens) 442 ls st μ = zexec call (zrun call (zseg j_X12_opens)) s_X12_opens_442 ls st μ := zrun_eq
theorem r_X12_opens_448 : zrun call (zseg j_X12_opens) 448 ls st μ = zexec call (zrun call (zseg j_X12_opens)) s_X12_opens_448 ls st μ := zrun_eq
theorem r_X12_opens_464 : zrun call (zseg j_X12_opens) 464 ls st μ = zexec call (zrun call (zseg j_X12_opens)) s_X12_opens_464 ls st μ := zrun_eq
theorem r_X12_opens_470 : zrun call (zseg j_X12_opens) 470 ls st μ = zexec call (zrun call (zseg j_X12_opens)) s_X12_opens_470 ls st μ := zrun_eq
theorem r_X12_finds_0 : zrun call (zseg j_X12_finds) 0 ls st μ = zexec call (zrun call (zseg j_X12_finds)) s_X12_finds_0 ls st μ := zrun_eq
theorem r_X12_finds_2 : zrun call (zseg j_X12_finds) 2 ls st μ = zexec call (zrun call (zseg j_X12_finds)) s_X12_finds_2 ls st μ := zrun_eq
theorem r_X12_finds_22 : zrun call (zseg j_X12_finds) 22 ls st μ = zexec call (zrun call (zseg j_X12_finds)) s_X12_finds_22 ls st μ := zrun_eq
theorem r_X12_finds_51 : zrun call (zseg j_X12_finds) 51 ls st μ = zexec call (zrun call (zseg j_X12_finds)) s_X12_finds_51 ls st μ := zrun_eq
theorem r_X12_finds_79 : zrun call (zseg j_X12_finds) 79 ls st μ = zexec call (zrun call (zseg j_X12_finds)) s_X12_finds_79 ls st μ := zrun_eq
theorem r_X12_finds_90 : zrun call (zseg j_X12_finds) 90 ls st μ = zexec call (zrun call (zseg j_X12_finds)) s_X12_finds_90 ls st μ := zrun_eq
theorem r_X12_plan_0 : zrun call (zseg j_X12_plan) 0 ls st μ = zexec call (zrun call (zseg j_X12_plan)) s_X12_plan_0 ls st μ := zrun_eq
theorem r_X12_plan_14 : zrun call (zseg j_X12_plan) 14 ls st μ = zexec call (zrun call (zseg j_X12_plan)) s_X12_plan_14 ls st μ := zrun_eq
theorem r_X12_plan_21 : zrun call (zseg j_X12_plan) 21 ls st μ = zexec call (zrun call (zseg j_X12_plan)) s_X12_plan_21 ls st μ := zrun_eq
theorem r_X12_plan_44 : zrun call (zseg j_X12_plan) 44 ls st μ = zexec call (zrun call (zseg j_X12_plan)) s_X12_plan_44 ls st μ := zrun_eq
theorem r_X12_plan_51 : zrun call (zseg j_X12_plan) 51 ls st μ = zexec call (zrun call (zseg j_X12_plan)) s_X12_plan_51 ls st μ := zrun_eq
theorem r_X12_plan_66 : zrun call (zseg j_X12_plan) 66 ls st μ = zexec call (zrun call (zseg j_X12_plan)) s_X12_plan_66 ls st μ := zrun_eq
theorem r_X12_plan_76 : zrun call (zseg j_X12_plan) 76 ls st μ = zexec call (zrun call (zseg j_X12_plan)) s_X12_plan_76 ls st μ := zrun_eq
theorem r_X12_plan_95 : zrun call (zseg j_X12_plan) 95 ls st μ = zexec call (zrun call (zseg j_X12_plan)) s_X12_plan_95 ls st μ := zrun_eq
theorem r_X12_copies_0 : zrun call (zseg j_X12_copies) 0 ls st μ = zexec call (zrun call (zseg j_X12_copies)) s_X12_copies_0 ls st μ := zrun_eq
theorem r_X12_copies_20 : zrun call (zseg j_X12_copies) 20 ls st μ = zexec call (zrun call (zseg j_X12_copies)) s_X12_copies_20 ls st μ := zrun_eq
theorem r_X12_out_0 : zrun call (zseg j_X12_out) 0 ls st μ = zexec call (zrun call (zseg j_X12_out)) s_X12_out_0 ls st μ := zrun_eq
theorem r_X12_out_27 : zrun call (zseg j_X12_out) 27 ls st μ = zexec call (zrun call (zseg j_X12_out)) s_X12_out_27 ls st μ := zrun_eq
theorem r_X12_out_42 : zrun call (zseg j_X12_out) 42 ls st μ = zexec call (zrun call (zseg j_X12_out)) s_X12_out_42 ls st μ := zrun_eq
theorem r_X12_empty_0 : zrun call (zseg j_X12_empty) 0 ls st μ = zexec call (zrun call (zseg j_X12_empty)) s_X12_empty_0 ls st μ := zrun_eq
theorem r_X12_wanted_0 : zrun call (zseg j_X12_wanted) 0 ls st μ = zexec call (zrun call (zseg j_X12_wanted)) s_X12_wanted_0 ls st μ := zrun_eq
theorem r_X12_mostAt_0 : zrun call (zseg j_X12_mostAt) 0 ls st μ = zexec call (zrun call (zseg j_X12_mostAt)) s_X12_mostAt_0 ls st μ := zrun_eq
theorem r_X12_pairs_0 : zrun call (zseg j_X12_pairs) 0 ls st μ = zexec call (zrun call (zseg j_X12_pairs)) s_X12_pairs_0 ls st μ := zrun_eq
theorem r_X12_pairs_15 : zrun call (zseg j_X12_pairs) 15 ls st μ = zexec call (zrun call (zseg j_X12_pairs)) s_X12_pairs_15 ls st μ := zrun_eq
theorem r_X12_pairs_22 : zrun call (zseg j_X12_pairs) 22 ls st μ = zexec call (zrun call (zseg j_X12_pairs)) s_X12_pairs_22 ls st μ := zrun_eq
theorem r_X12_pairs_74 : zrun call (zseg j_X12_pairs) 74 ls st μ = zexec call (zrun call (zseg j_X12_pairs)) s_X12_pairs_74 ls st μ := zrun_eq
theorem r_X12_pairs_83 : zrun call (zseg j_X12_pairs) 83 ls st μ = zexec call (zrun call (zseg j_X12_pairs)) s_X12_pairs_83 ls st μ := zrun_eq
theorem r_X12_pairs_140 : zrun call (zseg j_X12_pairs) 140 ls st μ = zexec call (zrun call (zseg j_X12_pairs)) s_X12_pairs_140 ls st μ := zrun_eq
theorem r_X12_pairs_161 : zrun call (zseg j_X12_pairs) 161 ls st μ = zexec call (zrun call (zseg j_X12_pairs)) s_X12_pairs_161 ls st μ := zrun_eq
theorem r_X12_pairs_167 : zrun call (zseg j_X12_pairs) 167 ls st μ = zexec call (zrun call (zseg j_X12_pairs)) s_X12_pairs_167 ls st μ := zrun_eq
theorem r_X12_pairs_180 : zrun call (zseg j_X12_pairs) 180 ls st μ = zexec call (zrun call (zseg j_X12_pairs)) s_X12_pairs_180 ls st μ := zrun_eq
theorem r_X12_pairs_202 : zrun call (zseg j_X12_pairs) 202 ls st μ = zexec call (zrun call (zseg j_X12_pairs)) s_X12_pairs_202 ls st μ := zrun_eq
theorem r_X12_pairs_205 : zrun call (zseg j_X12_pairs) 205 ls st μ = zexec call (zrun call (zseg j_X12_pairs)) s_X12_pairs_205 ls st μ := zrun_eq
theorem r_X12_pairs_240 : zrun call (zseg j_X12_pairs) 240 ls st μ = zexec call (zrun call (zseg j_X12_pairs)) s_X12_pairs_240 ls st μ := zrun_eq
theorem r_X12_pairs_268 : zrun call (zseg j_X12_pairs) 268 ls st μ = zexec call (zrun call (zseg j_X12_pairs)) s_X12_pairs_268 ls st μ := zrun_eq
theorem r_X12_pairs_285 : zrun call (zseg j_X12_pairs) 285 ls st μ = zexec call (zrun call (zseg j_X12_pairs)) s_X12_pairs_285 ls st μ := zrun_eq
theorem r_X12_pairs_291 : zrun call (zseg j_X12_pairs) 291 ls st μ = zexec call (zrun call (zseg j_X12_pairs)) s_X12_pairs_291 ls st μ := zrun_eq
theorem r_X12_again_0 : zrun call (zseg j_X12_again) 0 ls st μ = zexec call (zrun call (zseg j_X12_again)) s_X12_again_0 ls st μ := zrun_eq
theorem r_X12_again_19 : zrun call (zseg j_X12_again) 19 ls st μ = zexec call (zrun call (zseg j_X12_again)) s_X12_again_19 ls st μ := zrun_eq
theorem r_X12_again_27 : zrun call (zseg j_X12_again) 27 ls st μ = zexec call (zrun call (zseg j_X12_again)) s_X12_again_27 ls st μ := zrun_eq
theorem r_X12_again_50 : zrun call (zseg j_X12_again) 50 ls st μ = zexec call (zrun call (zseg j_X12_again)) s_X12_again_50 ls st μ := zrun_eq
theorem r_X12_again_51 : zrun call (zseg j_X12_again) 51 ls st μ = zexec call (zrun call (zseg j_X12_again)) s_X12_again_51 ls st μ := zrun_eq
theorem r_X12_again_59 : zrun call (zseg j_X12_again) 59 ls st μ = zexec call (zrun call (zseg j_X12_again)) s_X12_again_59 ls st μ := zrun_eq
theorem r_X12_again_72 : zrun call (zseg j_X12_again) 72 ls st μ = zexec call (zrun call (zseg j_X12_again)) s_X12_again_72 ls st μ := zrun_eq
theorem r_X12_again_86 : zrun call (zseg j_X12_again) 86 ls st μ = zexec call (zrun call (zseg j_X12_again)) s_X12_again_86 ls st μ := zrun_eq
theorem r_X12_again_87 : zrun call (zseg j_X12_again) 87 ls st μ = zexec call (zrun call (zseg j_X12_again)) s_X12_again_87 ls st μ := zrun_eq
theorem r_X12_again_92 : zrun call (zseg j_X12_again) 92 ls st μ = zexec call (zrun call (zseg j_X12_again)) s_X12_again_92 ls st μ := zrun_eq
theorem r_X12_again_110 : zrun call (zseg j_X12_again) 110 ls st μ = zexec call (zrun call (zseg j_X12_again)) s_X12_again_110 ls st μ := zrun_eq
theorem r_X12_again_153 : zrun call (zseg j_X12_again) 153 ls st μ = zexec call (zrun call (zseg j_X12_again)) s_X12_again_153 ls st μ := zrun_eq
theorem r_X12_again_154 : zrun call (zseg j_X12_again) 154 ls st μ = zexec call (zrun call (zseg j_X12_again)) s_X12_again_154 ls st μ := zrun_eq
theorem r_X12_again_162 : zrun call (zseg j_X12_again) 162 ls st μ = zexec call (zrun call (zseg j_X12_again)) s_X12_again_162 ls st μ := zrun_eq
theorem r_X12_again_172 : zrun call (zseg j_X12_again) 172 ls st μ = zexec call (zrun call (zseg j_X12_again)) s_X12_again_172 ls st μ := zrun_eq
theorem r_X12_again_173 : zrun call (zseg j_X12_again) 173 ls st μ = zexec call (zrun call (zseg j_X12_again)) s_X12_again_173 ls st μ := zrun_eq
theorem r_X12_again_181 : zrun call (zseg j_X12_again) 181 ls st μ = zexec call (zrun call (zseg j_X12_again)) s_X12_again_181 ls st μ := zrun_eq
theorem r_X12_lack_0 : zrun call (zseg j_X12_lack) 0 ls st μ = zexec call (zrun call (zseg j_X12_lack)) s_X12_lack_0 ls st μ := zrun_eq
theorem r_X12_lack_13 : zrun call (zseg j_X12_lack) 13 ls st μ = zexec call (zrun call (zseg j_X12_lack)) s_X12_lack_13 ls st μ := zrun_eq
theorem r_X12_lack_34 : zrun call (zseg j_X12_lack) 34 ls st μ = zexec call (zrun call (zseg j_X12_lack)) s_X12_lack_34 ls st μ := zrun_eq
theorem r_X12_lack_41 : zrun call (zseg j_X12_lack) 41 ls st μ = zexec call (zrun call (zseg j_X12_lack)) s_X12_lack_41 ls st μ := zrun_eq
theorem r_X12_lack_44 : zrun call (zseg j_X12_lack) 44 ls st μ = zexec call (zrun call (zseg j_X12_lack)) s_X12_lack_44 ls st μ := zrun_eq
theorem r_X12_lack_50 : zrun call (zseg j_X12_lack) 50 ls st μ = zexec call (zrun call (zseg j_X12_lack)) s_X12_lack_50 ls st μ := zrun_eq
theorem r_X12_kept_0 : zrun call (zseg j_X12_kept) 0 ls st μ = zexec call (zrun call (zseg j_X12_kept)) s_X12_kept_0 ls st μ := zrun_eq
theorem r_X12_kept_34 : zrun call (zseg j_X12_kept) 34 ls st μ = zexec call (zrun call (zseg j_X12_kept)) s_X12_kept_34 ls st μ := zrun_eq
theorem r_X12_kept_35 : zrun call (zseg j_X12_kept) 35 ls st μ = zexec call (zrun call (zseg j_X12_kept)) s_X12_kept_35 ls st μ := zrun_eq
theorem r_X12_pay_0 : zrun call (zseg j_X12_pay) 0 ls st μ = zexec call (zrun call (zseg j_X12_pay)) s_X12_pay_0 ls st μ := zrun_eq
theorem r_X12_pay_41 : zrun call (zseg j_X12_pay) 41 ls st μ = zexec call (zrun call (zseg j_X12_pay)) s_X12_pay_41 ls st μ := zrun_eq
theorem r_X12_pay_43 : zrun call (zseg j_X12_pay) 43 ls st μ = zexec call (zrun call (zseg j_X12_pay)) s_X12_pay_43 ls st μ := zrun_eq
theorem r_X12_pay_49 : zrun call (zseg j_X12_pay) 49 ls st μ = zexec call (zrun call (zseg j_X12_pay)) s_X12_pay_49 ls st μ := zrun_eq
theorem r_X12_pay_90 : zrun call (zseg j_X12_pay) 90 ls st μ = zexec call (zrun call (zseg j_X12_pay)) s_X12_pay_90 ls st μ := zrun_eq
theorem r_X12_pay_103 : zrun call (zseg j_X12_pay) 103 ls st μ = zexec call (zrun call (zseg j_X12_pay)) s_X12_pay_103 ls st μ := zrun_eq
theorem r_X12_pay_113 : zrun call (zseg j_X12_pay) 113 ls st μ = zexec call (zrun call (zseg j_X12_pay)) s_X12_pay_113 ls st μ := zrun_eq
theorem r_X12_part_0 : zrun call (zseg j_X12_part) 0 ls st μ = zexec call (zrun call (zseg j_X12_part)) s_X12_part_0 ls st μ := zrun_eq
theorem r_X12_part_54 : zrun call (zseg j_X12_part) 54 ls st μ = zexec call (zrun call (zseg j_X12_part)) s_X12_part_54 ls st μ := zrun_eq
theorem r_X12_part_56 : zrun call (zseg j_X12_part) 56 ls st μ = zexec call (zrun call (zseg j_X12_part)) s_X12_part_56 ls st μ := zrun_eq
theorem r_X12_renewals_0 : zrun call (zseg j_X12_renewals) 0 ls st μ = zexec call (zrun call (zseg j_X12_renewals)) s_X12_renewals_0 ls st μ := zrun_eq
theorem r_X12_renewals_21 : zrun call (zseg j_X12_renewals) 21 ls st μ = zexec call (zrun call (zseg j_X12_renewals)) s_X12_renewals_21 ls st μ := zrun_eq
theorem r_X12_renewals_41 : zrun call (zseg j_X12_renewals) 41 ls st μ = zexec call (zrun call (zseg j_X12_renewals)) s_X12_renewals_41 ls st μ := zrun_eq
theorem r_X12_renewals_63 : zrun call (zseg j_X12_renewals) 63 ls st μ = zexec call (zrun call (zseg j_X12_renewals)) s_X12_renewals_63 ls st μ := zrun_eq
theorem r_X12_renewals_71 : zrun call (zseg j_X12_renewals) 71 ls st μ = zexec call (zrun call (zseg j_X12_renewals)) s_X12_renewals_71 ls st μ := zrun_eq
theorem r_X12_renewals_102 : zrun call (zseg j_X12_renewals) 102 ls st μ = zexec call (zrun call (zseg j_X12_renewals)) s_X12_renewals_102 ls st μ := zrun_eq
theorem r_X12_renewals_108 : zrun call (zseg j_X12_renewals) 108 ls st μ = zexec call (zrun call (zseg j_X12_renewals)) s_X12_renewals_108 ls st μ := zrun_eq
theorem r_X12_serves_0 : zrun call (zseg j_X12_serves) 0 ls st μ = zexec call (zrun call (zseg j_X12_serves)) s_X12_serves_0 ls st μ := zrun_eq
theorem r_X12_serves_13 : zrun call (zseg j_X12_serves) 13 ls st μ = zexec call (zrun call (zseg j_X12_serves)) s_X12_serves_13 ls st μ := zrun_eq
theorem r_X12_serves_38 : zrun call (zseg j_X12_serves) 38 ls st μ = zexec call (zrun call (zseg j_X12_serves)) s_X12_serves_38 ls st μ := zrun_eq
theorem r_X12_serves_39 : zrun call (zseg j_X12_serves) 39 ls st μ = zexec call (zrun call (zseg j_X12_serves)) s_X12_serves_39 ls st μ := zrun_eq
theorem r_X12_serves_49 : zrun call (zseg j_X12_serves) 49 ls st μ = zexec call (zrun call (zseg j_X12_serves)) s_X12_serves_49 ls st μ := zrun_eq
theorem r_X12_serves_52 : zrun call (zseg j_X12_serves) 52 ls st μ = zexec call (zrun call (zseg j_X12_serves)) s_X12_serves_52 ls st μ := zrun_eq
theorem r_X12_serves_75 : zrun call (zseg j_X12_serves) 75 ls st μ = zexec call (zrun call (zseg j_X12_serves)) s_X12_serves_75 ls st μ := zrun_eq
theorem r_X12_serves_93 : zrun call (zseg j_X12_serves) 93 ls st μ = zexec call (zrun call (zseg j_X12_serves)) s_X12_serves_93 ls st μ := zrun_eq
theorem r_X12_serves_126 : zrun call (zseg j_X12_serves) 126 ls st μ = zexec call (zrun call (zseg j_X12_serves)) s_X12_serves_126 ls st μ := zrun_eq
theorem r_X12_serves_132 : zrun call (zseg j_X12_serves) 132 ls st μ = zexec call (zrun call (zseg j_X12_serves)) s_X12_serves_132 ls st μ := zrun_eq
theorem r_X12_ones_0 : zrun call (zseg j_X12_ones) 0 ls st μ = zexec call (zrun call (zseg j_X12_ones)) s_X12_ones_0 ls st μ := zrun_eq
theorem r_X12_ones_4 : zrun call (zseg j_X12_ones) 4 ls st μ = zexec call (zrun call (zseg j_X12_ones)) s_X12_ones_4 ls st μ := zrun_eq
theorem r_X12_ones_20 : zrun call (zseg j_X12_ones) 20 ls st μ = zexec call (zrun call (zseg j_X12_ones)) s_X12_ones_20 ls st μ := zrun_eq
theorem r_X12_service_0 : zrun call (zseg j_X12_service) 0 ls st μ = zexec call (zrun call (zseg j_X12_service)) s_X12_service_0 ls st μ := zrun_eq
theorem r_X12_service_41 : zrun call (zseg j_X12_service) 41 ls st μ = zexec call (zrun call (zseg j_X12_service)) s_X12_service_41 ls st μ := zrun_eq
theorem r_X12_service_43 : zrun call (zseg j_X12_service) 43 ls st μ = zexec call (zrun call (zseg j_X12_service)) s_X12_service_43 ls st μ := zrun_eq
theorem r_X12_service_55 : zrun call (zseg j_X12_service) 55 ls st μ = zexec call (zrun call (zseg j_X12_service)) s_X12_service_55 ls st μ := zrun_eq
theorem r_X12_service_77 : zrun call (zseg j_X12_service) 77 ls st μ = zexec call (zrun call (zseg j_X12_service)) s_X12_service_77 ls st μ := zrun_eq
theorem r_X12_service_117 : zrun call (zseg j_X12_service) 117 ls st μ = zexec call (zrun call (zseg j_X12_service)) s_X12_service_117 ls st μ := zrun_eq
theorem r_X12_service_133 : zrun call (zseg j_X12_service) 133 ls st μ = zexec call (zrun call (zseg j_X12_service)) s_X12_service_133 ls st μ := zrun_eq
theorem r_X12_service_139 : zrun call (zseg j_X12_service) 139 ls st μ = zexec call (zrun call (zseg j_X12_service)) s_X12_service_139 ls st μ := zrun_eq
theorem r_X12_service_148 : zrun call (zseg j_X12_service) 148 ls st μ = zexec call (zrun call (zseg j_X12_service)) s_X12_service_148 ls st μ := zrun_eq
theorem r_X12_service_158 : zrun call (zseg j_X12_service) 158 ls st μ = zexec call (zrun call (zseg j_X12_service)) s_X12_service_158 ls st μ := zrun_eq
theorem r_X12_service_160 : zrun call (zseg j_X12_service) 160 ls st μ = zexec call (zrun call (zseg j_X12_service)) s_X12_service_160 ls st μ := zrun_eq
theorem r_X12_cut_0 : zrun call (zseg j_X12_cut) 0 ls st μ = zexec call (zrun call (zseg j_X12_cut)) s_X12_cut_0 ls st μ := zrun_eq
theorem r_X12_cut_11 : zrun call (zseg j_X12_cut) 11 ls st μ = zexec call (zrun call (zseg j_X12_cut)) s_X12_cut_11 ls st μ := zrun_eq
theorem r_X12_cut_23 : zrun call (zseg j_X12_cut) 23 ls st μ = zexec call (zrun call (zseg j_X12_cut)) s_X12_cut_23 ls st μ := zrun_eq
theorem r_X12_cut_34 : zrun call (zseg j_X12_cut) 34 ls st μ = zexec call (zrun call (zseg j_X12_cut)) s_X12_cut_34 ls st μ := zrun_eq
theorem r_X12_cut_35 : zrun call (zseg j_X12_cut) 35 ls st μ = zexec call (zrun call (zseg j_X12_cut)) s_X12_cut_35 ls st μ := zrun_eq
theorem r_X12_row_0 : zrun call (zseg j_X12_row) 0 ls st μ = zexec call (zrun call (zseg j_X12_row)) s_X12_row_0 ls st μ := zrun_eq
theorem r_X12_row_35 : zrun call (zseg j_X12_row) 35 ls st μ = zexec call (zrun call (zseg j_X12_row)) s_X12_row_35 ls st μ := zrun_eq
theorem r_X12_row_38 : zrun call (zseg j_X12_row) 38 ls st μ = zexec call (zrun call (zseg j_X12_row)) s_X12_row_38 ls st μ := zrun_eq
theorem r_X12_row_45 : zrun call (zseg j_X12_row) 45 ls st μ = zexec call (zrun call (zseg j_X12_row)) s_X12_row_45 ls st μ := zrun_eq
theorem r_X12_row_62 : zrun call (zseg j_X12_row) 62 ls st μ = zexec call (zrun call (zseg j_X12_row)) s_X12_row_62 ls st μ := zrun_eq
theorem r_X12_row_87 : zrun call (zseg j_X12_row) 87 ls st μ = zexec call (zrun call (zseg j_X12_row)) s_X12_row_87 ls st μ := zrun_eq
theorem r_X12_write_0 : zrun call (zseg j_X12_write) 0 ls st μ = zexec call (zrun call (zseg j_X12_write)) s_X12_write_0 ls st μ := zrun_eq
theorem r_X12_write_45 : zrun call (zseg j_X12_write) 45 ls st μ = zexec call (zrun call (zseg j_X12_write)) s_X12_write_45 ls st μ := zrun_eq
theorem r_X12_write_49 : zrun call (zseg j_X12_write) 49 ls st μ = zexec call (zrun call (zseg j_X12_write)) s_X12_write_49 ls st μ := zrun_eq
theorem r_X12_save_0 : zrun call (zseg j_X12_save) 0 ls st μ = zexec call (zrun call (zseg j_X12_save)) s_X12_save_0 ls st μ := zrun_eq
theorem r_X12_save_20 : zrun call (zseg j_X12_save) 20 ls st μ = zexec call (zrun call (zseg j_X12_save)) s_X12_save_20 ls st μ := zrun_eq
theorem r_X12_save_33 : zrun call (zseg j_X12_save) 33 ls st μ = zexec call (zrun call (zseg j_X12_save)) s_X12_save_33 ls st μ := zrun_eq
theorem r_X12_save_52 : zrun call (zseg j_X12_save) 52 ls st μ = zexec call (zrun call (zseg j_X12_save)) s_X12_save_52 ls st μ := zrun_eq
theorem r_X12_save_54 : zrun call (zseg j_X12_save) 54 ls st μ = zexec call (zrun call (zseg j_X12_save)) s_X12_save_54 ls st μ := zrun_eq
theorem r_X12_save_92 : zrun call (zseg j_X12_save) 92 ls st μ = zexec call (zrun call (zseg j_X12_save)) s_X12_save_92 ls st μ := zrun_eq
theorem r_X12_load_0 : zrun call (zseg j_X12_load) 0 ls st μ = zexec call (zrun call (zseg j_X12_load)) s_X12_load_0 ls st μ := zrun_eq
theorem r_X12_load_20 : zrun call (zseg j_X12_load) 20 ls st μ = zexec call (zrun call (zseg j_X12_load)) s_X12_load_20 ls st μ := zrun_eq
theorem r_X12_load_33 : zrun call (zseg j_X12_load) 33 ls st μ = zexec call (zrun call (zseg j_X12_load)) s_X12_load_33 ls st μ := zrun_eq
theorem r_X12_load_52 : zrun call (zseg j_X12_load) 52 ls st μ = zexec call (zrun call (zseg j_X12_load)) s_X12_load_52 ls st μ := zrun_eq
theorem r_X12_load_54 : zrun call (zseg j_X12_load) 54 ls st μ = zexec call (zrun call (zseg j_X12_load)) s_X12_load_54 ls st μ := zrun_eq
theorem r_X12_load_90 : zrun call (zseg j_X12_load) 90 ls st μ = zexec call (zrun call (zseg j_X12_load)) s_X12_load_90 ls st μ := zrun_eq
theorem r_X12_load_96 : zrun call (zseg j_X12_load) 96 ls st μ = zexec call (zrun call (zseg j_X12_load)) s_X12_load_96 ls st μ := zrun_eq
theorem r_X12_load_98 : zrun call (zseg j_X12_load) 98 ls st μ = zexec call (zrun call (zseg j_X12_load)) s_X12_load_98 ls st μ := zrun_eq
theorem r_X12_load_130 : zrun call (zseg j_X12_load) 130 ls st μ = zexec call (zrun call (zseg j_X12_load)) s_X12_load_130 ls st μ := zrun_eq
theorem r_X12_image_0 : zrun call (zseg j_X12_image) 0 ls st μ = zexec call (zrun call (zseg j_X12_image)) s_X12_image_0 ls st μ := zrun_eq
theorem r_X12_image_17 : zrun call (zseg j_X12_image) 17 ls st μ = zexec call (zrun call (zseg j_X12_image)) s_X12_image_17 ls st μ := zrun_eq
theorem r_X12_image_19 : zrun call (zseg j_X12_image) 19 ls st μ = zexec call (zrun call (zseg j_X12_image)) s_X12_image_19 ls st μ := zrun_eq
theorem r_X12_image_52 : zrun call (zseg j_X12_image) 52 ls st μ = zexec call (zrun call (zseg j_X12_image)) s_X12_image_52 ls st μ := zrun_eq
theorem r_X12_restore_0 : zrun call (zseg j_X12_restore) 0 ls st μ = zexec call (zrun call (zseg j_X12_restore)) s_X12_restore_0 ls st μ := zrun_eq
theorem r_X12_restore_24 : zrun call (zseg j_X12_restore) 24 ls st μ = zexec call (zrun call (zseg j_X12_restore)) s_X12_restore_24 ls st μ := zrun_eq
theorem r_X12_restore_26 : zrun call (zseg j_X12_restore) 26 ls st μ = zexec call (zrun call (zseg j_X12_restore)) s_X12_restore_26 ls st μ := zrun_eq
theorem r_X12_restore_28 : zrun call (zseg j_X12_restore) 28 ls st μ = zexec call (zrun call (zseg j_X12_restore)) s_X12_restore_28 ls st μ := zrun_eq
theorem r_X12_restore_61 : zrun call (zseg j_X12_restore) 61 ls st μ = zexec call (zrun call (zseg j_X12_restore)) s_X12_restore_61 ls st μ := zrun_eq
theorem r_X12_count_0 : zrun call (zseg j_X12_count) 0 ls st μ = zexec call (zrun call (zseg j_X12_count)) s_X12_count_0 ls st μ := zrun_eq
theorem r_X12_count_72 : zrun call (zseg j_X12_count) 72 ls st μ = zexec call (zrun call (zseg j_X12_count)) s_X12_count_72 ls st μ := zrun_eq
theorem r_X12_count_80 : zrun call (zseg j_X12_count) 80 ls st μ = zexec call (zrun call (zseg j_X12_count)) s_X12_count_80 ls st μ := zrun_eq
theorem r_X12_count_88 : zrun call (zseg j_X12_count) 88 ls st μ = zexec call (zrun call (zseg j_X12_count)) s_X12_count_88 ls st μ := zrun_eq
theorem r_X12_count_95 : zrun call (zseg j_X12_count) 95 ls st μ = zexec call (zrun call (zseg j_X12_count)) s_X12_count_95 ls st μ := zrun_eq
theorem r_X12_count_100 : zrun call (zseg j_X12_count) 100 ls st μ = zexec call (zrun call (zseg j_X12_count)) s_X12_count_100 ls st μ := zrun_eq
theorem r_X12_count_105 : zrun call (zseg j_X12_count) 105 ls st μ = zexec call (zrun call (zseg j_X12_count)) s_X12_count_105 ls st μ := zrun_eq
theorem r_X12_count_110 : zrun call (zseg j_X12_count) 110 ls st μ = zexec call (zrun call (zseg j_X12_count)) s_X12_count_110 ls st μ := zrun_eq
theorem r_X12_count_115 : zrun call (zseg j_X12_count) 115 ls st μ = zexec call (zrun call (zseg j_X12_count)) s_X12_count_115 ls st μ := zrun_eq
theorem r_X12_count_120 : zrun call (zseg j_X12_count) 120 ls st μ = zexec call (zrun call (zseg j_X12_count)) s_X12_count_120 ls st μ := zrun_eq
theorem r_X12_count_125 : zrun call (zseg j_X12_count) 125 ls st μ = zexec call (zrun call (zseg j_X12_count)) s_X12_count_125 ls st μ := zrun_eq
theorem r_X12_count_133 : zrun call (zseg j_X12_count) 133 ls st μ = zexec call (zrun call (zseg j_X12_count)) s_X12_count_133 ls st μ := zrun_eq
theorem r_X12_count_141 : zrun call (zseg j_X12_count) 141 ls st μ = zexec call (zrun call (zseg j_X12_count)) s_X12_count_141 ls st μ := zrun_eq
theorem r_X12_count_149 : zrun call (zseg j_X12_count) 149 ls st μ = zexec call (zrun call (zseg j_X12_count)) s_X12_count_149 ls st μ := zrun_eq
theorem r_X12_count_154 : zrun call (zseg j_X12_count) 154 ls st μ = zexec call (zrun call (zseg j_X12_count)) s_X12_count_154 ls st μ := zrun_eq
theorem r_L_law_0 : zrun call (zseg j_L_law) 0 ls st μ = zexec call (zrun call (zseg j_L_law)) s_L_law_0 ls st μ := zrun_eq
theorem r_L_law_18 : zrun call (zseg j_L_law) 18 ls st μ = zexec call (zrun call (zseg j_L_law)) s_L_law_18 ls st μ := zrun_eq
theorem r_L_law_196 : zrun call (zseg j_L_law) 196 ls st μ = zexec call (zrun call (zseg j_L_law)) s_L_law_196 ls st μ := zrun_eq
theorem r_L_law_259 : zrun call (zseg j_L_law) 259 ls st μ = zexec call (zrun call (zseg j_L_law)) s_L_law_259 ls st μ := zrun_eq
theorem r_L_law_282 : zrun call (zseg j_L_law) 282 ls st μ = zexec call (zrun call (zseg j_L_law)) s_L_law_282 ls st μ := zrun_eq
theorem r_L_law_305 : zrun call (zseg j_L_law) 305 ls st μ = zexec call (zrun call (zseg j_L_law)) s_L_law_305 ls st μ := zrun_eq
theorem r_L_law_348 : zrun call (zseg j_L_law) 348 ls st μ = zexec call (zrun call (zseg j_L_law)) s_L_law_348 ls st μ := zrun_eq
theorem r_L_law_366 : zrun call (zseg j_L_law) 366 ls st μ = zexec call (zrun call (zseg j_L_law)) s_L_law_366 ls st μ := zrun_eq
theorem r_L_law_367 : zrun call (zseg j_L_law) 367 ls st μ = zexec call (zrun call (zseg j_L_law)) s_L_law_367 ls st μ := zrun_eq
theorem r_L_law_388 : zrun call (zseg j_L_law) 388 ls st μ = zexec call (zrun call (zseg j_L_law)) s_L_law_388 ls st μ := zrun_eq
theorem r_L_law_389 : zrun call (zseg j_L_law) 389 ls st μ = zexec call (zrun call (zseg j_L_law)) s_L_law_389 ls st μ := zrun_eq
theorem r_L_law_397 : zrun call (zseg j_L_law) 397 ls st μ = zexec call (zrun call (zseg j_L_law)) s_L_law_397 ls st μ := zrun_eq
theorem r_L_law_415 : zrun call (zseg j_L_law) 415 ls st μ = zexec call (zrun call (zseg j_L_law)) s_L_law_415 ls st μ := zrun_eq
theorem r_L_law_416 : zrun call (zseg j_L_law) 416 ls st μ = zexec call (zrun call (zseg j_L_law)) s_L_law_416 ls st μ := zrun_eq
theorem r_L_law_437 : zrun call (zseg j_L_law) 437 ls st μ = zexec call (zrun call (zseg j_L_law)) s_L_law_437 ls st μ := zrun_eq
theorem r_L_law_438 : zrun call (zseg j_L_law) 438 ls st μ = zexec call (zrun call (zseg j_L_law)) s_L_law_438 ls st μ := zrun_eq
theorem r_L_law_446 : zrun call (zseg j_L_law) 446 ls st μ = zexec call (zrun call (zseg j_L_law)) s_L_law_446 ls st μ := zrun_eq
theorem r_L_law_469 : zrun call (zseg j_L_law) 469 ls st μ = zexec call (zrun call (zseg j_L_law)) s_L_law_469 ls st μ := zrun_eq
theorem r_L_law_502 : zrun call (zseg j_L_law) 502 ls st μ = zexec call (zrun call (zseg j_L_law)) s_L_law_502 ls st μ := zrun_eq
theorem r_L_law_515 : zrun call (zseg j_L_law) 515 ls st μ = zexec call (zrun call (zseg j_L_law)) s_L_law_515 ls st μ := zrun_eq
theorem r_L_law_516 : zrun call (zseg j_L_law) 516 ls st μ = zexec call (zrun call (zseg j_L_law)) s_L_law_516 ls st μ := zrun_eq
theorem r_L_law_532 : zrun call (zseg j_L_law) 532 ls st μ = zexec call (zrun call (zseg j_L_law)) s_L_law_532 ls st μ := zrun_eq
theorem r_L_law_533 : zrun call (zseg j_L_law) 533 ls st μ = zexec call (zrun call (zseg j_L_law)) s_L_law_533 ls st μ := zrun_eq
theorem r_L_law_541 : zrun call (zseg j_L_law) 541 ls st μ = zexec call (zrun call (zseg j_L_law)) s_L_law_541 ls st μ := zrun_eq
theorem r_L_law_564 : zrun call (zseg j_L_law) 564 ls st μ = zexec call (zrun call (zseg j_L_law)) s_L_law_564 ls st μ := zrun_eq
theorem r_L_law_607 : zrun call (zseg j_L_law) 607 ls st μ = zexec call (zrun call (zseg j_L_law)) s_L_law_607 ls st μ := zrun_eq
theorem r_L_law_650 : zrun call (zseg j_L_law) 650 ls st μ = zexec call (zrun call (zseg j_L_law)) s_L_law_650 ls st μ := zrun_eq
theorem r_L_law_663 : zrun call (zseg j_L_law) 663 ls st μ = zexec call (zrun call (zseg j_L_law)) s_L_law_663 ls st μ := zrun_eq
theorem r_L_law_696 : zrun call (zseg j_L_law) 696 ls st μ = zexec call (zrun call (zseg j_L_law)) s_L_law_696 ls st μ := zrun_eq
theorem r_L_law_739 : zrun call (zseg j_L_law) 739 ls st μ = zexec call (zrun call (zseg j_L_law)) s_L_law_739 ls st μ := zrun_eq
theorem r_L_law_802 : zrun call (zseg j_L_law) 802 ls st μ = zexec call (zrun call (zseg j_L_law)) s_L_law_802 ls st μ := zrun_eq
theorem r_L_law_820 : zrun call (zseg j_L_law) 820 ls st μ = zexec call (zrun call (zseg j_L_law)) s_L_law_820 ls st μ := zrun_eq
theorem r_L_law_821 : zrun call (zseg j_L_law) 821 ls st μ = zexec call (zrun call (zseg j_L_law)) s_L_law_821 ls st μ := zrun_eq
theorem r_L_law_842 : zrun call (zseg j_L_law) 842 ls st μ = zexec call (zrun call (zseg j_L_law)) s_L_law_842 ls st μ := zrun_eq
theorem r_L_law_843 : zrun call (zseg j_L_law) 843 ls st μ = zexec call (zrun call (zseg j_L_law)) s_L_law_843 ls st μ := zrun_eq
theorem r_L_law_851 : zrun call (zseg j_L_law) 851 ls st μ = zexec call (zrun call (zseg j_L_law)) s_L_law_851 ls st μ := zrun_eq
theorem r_L_law_874 : zrun call (zseg j_L_law) 874 ls st μ = zexec call (zrun call (zseg j_L_law)) s_L_law_874 ls st μ := zrun_eq
theorem r_L_law_875 : zrun call (zseg j_L_law) 875 ls st μ = zexec call (zrun call (zseg j_L_law)) s_L_law_875 ls st μ := zrun_eq
theorem r_L_law_901 : zrun call (zseg j_L_law) 901 ls st μ = zexec call (zrun call (zseg j_L_law)) s_L_law_901 ls st μ := zrun_eq
theorem r_L_law_902 : zrun call (zseg j_L_law) 902 ls st μ = zexec call (zrun call (zseg j_L_law)) s_L_law_902 ls st μ := zrun_eq
theorem r_L_law_910 : zrun call (zseg j_L_law) 910 ls st μ = zexec call (zrun call (zseg j_L_law)) s_L_law_910 ls st μ := zrun_eq
theorem r_L_law_943 : zrun call (zseg j_L_law) 943 ls st μ = zexec call (zrun call (zseg j_L_law)) s_L_law_943 ls st μ := zrun_eq
theorem r_L_law_996 : zrun call (zseg j_L_law) 996 ls st μ = zexec call (zrun call (zseg j_L_law)) s_L_law_996 ls st μ := zrun_eq
theorem r_L_law_1019 : zrun call (zseg j_L_law) 1019 ls st μ = zexec call (zrun call (zseg j_L_law)) s_L_law_1019 ls st μ := zrun_eq
theorem r_L_law_1042 : zrun call (zseg j_L_law) 1042 ls st μ = zexec call (zrun call (zseg j_L_law)) s_L_law_1042 ls st μ := zrun_eq
theorem r_L_law_1065 : zrun call (zseg j_L_law) 1065 ls st μ = zexec call (zrun call (zseg j_L_law)) s_L_law_1065 ls st μ := zrun_eq
theorem r_L_law_1078 : zrun call (zseg j_L_law) 1078 ls st μ = zexec call (zrun call (zseg j_L_law)) s_L_law_1078 ls st μ := zrun_eq
theorem r_L_law_1101 : zrun call (zseg j_L_law) 1101 ls st μ = zexec call (zrun call (zseg j_L_law)) s_L_law_1101 ls st μ := zrun_eq
theorem r_L_law_1124 : zrun call (zseg j_L_law) 1124 ls st μ = zexec call (zrun call (zseg j_L_law)) s_L_law_1124 ls st μ := zrun_eq
theorem r_L_law_1147 : zrun call (zseg j_L_law) 1147 ls st μ = zexec call (zrun call (zseg j_L_law)) s_L_law_1147 ls st μ := zrun_eq
theorem r_L_law_1190 : zrun call (zseg j_L_law) 1190 ls st μ = zexec call (zrun call (zseg j_L_law)) s_L_law_1190 ls st μ := zrun_eq
theorem r_L_law_1243 : zrun call (zseg j_L_law) 1243 ls st μ = zexec call (zrun call (zseg j_L_law)) s_L_law_1243 ls st μ := zrun_eq
theorem r_L_law_1286 : zrun call (zseg j_L_law) 1286 ls st μ = zexec call (zrun call (zseg j_L_law)) s_L_law_1286 ls st μ := zrun_eq
theorem r_L_law_1329 : zrun call (zseg j_L_law) 1329 ls st μ = zexec call (zrun call (zseg j_L_law)) s_L_law_1329 ls st μ := zrun_eq
theorem r_L_law_1403 : zrun call (zseg j_L_law) 1403 ls st μ = zexec call (zrun call (zseg j_L_law)) s_L_law_1403 ls st μ := zrun_eq
theorem r_L_law_1426 : zrun call (zseg j_L_law) 1426 ls st μ = zexec call (zrun call (zseg j_L_law)) s_L_law_1426 ls st μ := zrun_eq
theorem r_L_law_1459 : zrun call (zseg j_L_law) 1459 ls st μ = zexec call (zrun call (zseg j_L_law)) s_L_law_1459 ls st μ := zrun_eq
theorem r_L_law_1482 : zrun call (zseg j_L_law) 1482 ls st μ = zexec call (zrun call (zseg j_L_law)) s_L_law_1482 ls st μ := zrun_eq
theorem r_L_law_1505 : zrun call (zseg j_L_law) 1505 ls st μ = zexec call (zrun call (zseg j_L_law)) s_L_law_1505 ls st μ := zrun_eq
theorem r_L_law_1528 : zrun call (zseg j_L_law) 1528 ls st μ = zexec call (zrun call (zseg j_L_law)) s_L_law_1528 ls st μ := zrun_eq
theorem r_L_law_1534 : zrun call (zseg j_L_law) 1534 ls st μ = zexec call (zrun call (zseg j_L_law)) s_L_law_1534 ls st μ := zrun_eq
end ZL
theorem zc_in {d j : Nat} {as ls : List ZV} {μ : ZM} (h1 : zrcv (zmi j) = 0) (h2 : (as.map zcat).sum ≤ zmx (zmi j)) (h3 : j < 253) (h4 : zloc as (zmx (zmi j)) = ls) : zc (d + 1) j as μ = zrun (zc d) (zseg j) 0 ls [] μ := by
  have h0 : zrcvok (zrcv (zmi j)) as μ = true := by
    rw [h1]
    unfold zrcvok
    split <;> first | rfl | contradiction
  unfold zc
  rw [if_pos ⟨h0, h2, h3⟩, h4]
theorem zc_inI {d j c n r o : Nat} {as ls : List ZV} {μ : ZM} (h1 : zrcv (zmi j) = c + 1) (hk : μ.1 r o = some (c + 10, n)) (hc : c < 13) (h2 : ((zr r o :: as).map zcat).sum ≤ zmx (zmi j)) (h3 : j < 253) (h4 : zloc (zr r o :: as) (zmx (zmi j)) = ls) : zc (d + 1) j (zr r o :: as) μ = zrun (zc d) (zseg j) 0 ls [] μ := by
  have h0 : zrcvok (zrcv (zmi j)) (zr r o :: as) μ = true := by
    rw [h1]
    unfold zrcvok
    simp [hk, hc]
  unfold zc
  rw [if_pos ⟨h0, h2, h3⟩, h4]
theorem zc_inM {d j c n r N : Nat} {I : Nat → Nat → Int} {A : ZA} {as ls : List ZV} (h1 : zrcv (zmi j) = c + 1) (hk : zka N r 0 = some (c + 10, n)) (hc : c < 13) (h2 : ((zr r 0 :: as).map zcat).sum ≤ zmx (zmi j)) (h3 : j < 253) (h4 : zloc (zr r 0 :: as) (zmx (zmi j)) = ls) : zc (d + 1) j (zr r 0 :: as) (zm N I A) = zrun (zc d) (zseg j) 0 ls [] (zm N I A) :=
  zc_inI h1 (show (zm N I A).1 r 0 = some (c + 10, n) from hk) hc h2 h3 h4
theorem zc_in4 {d j n r o : Nat} {as ls : List ZV} {μ : ZM} (h1 : zrcv (zmi j) = 21) (hk : r < 10) (h2 : ((zx 4 r o :: as).map zcat).sum ≤ zmx (zmi j)) (h3 : j < 253) (h4 : zloc (zx 4 r o :: as) (zmx (zmi j)) = ls) : zc (d + 1) j (zx 4 r o :: as) μ = zrun (zc d) (zseg j) 0 ls [] μ := by
  have h0 : zrcvok (zrcv (zmi j)) (zx 4 r o :: as) μ = true := by
    rw [h1]
    unfold zrcvok
    simp [hk]
  unfold zc
  rw [if_pos ⟨h0, h2, h3⟩, h4]
theorem m_J6_bitCount_0f7a4 {d : Nat} {μ : ZM} {v0 : Int} : zc (d + 1) j_J6_bitCount_0f7a4 [zi v0] μ = zrun (zc d) (zseg j_J6_bitCount_0f7a4) 0 [zi v0] [] μ := zc_in rfl (Nat.le_of_ble_eq_true rfl) (by decide) rfl
theorem m_J0_length_8abf5 {d r9 : Nat} {μ : ZM} (h9 : r9 < 10)  : zc (d + 1) j_J0_length_8abf5 [zx 4 r9 0] μ = zrun (zc d) (zseg j_J0_length_8abf5) 0 [zx 4 r9 0] [] μ := zc_in4 (n := 0) rfl h9 (Nat.le_of_ble_eq_true rfl) (by decide) rfl
theorem m_J0_charAt_5068e {d r9 : Nat} {μ : ZM} (h9 : r9 < 10) {v0 : Int} : zc (d + 1) j_J0_charAt_5068e [zx 4 r9 0, zi v0] μ = zrun (zc d) (zseg j_J0_charAt_5068e) 0 [zx 4 r9 0, zi v0] [] μ := zc_in4 (n := 0) rfl h9 (Nat.le_of_ble_eq_true rfl) (by decide) rfl
theorem m_J0_coder_7d493 {d r9 : Nat} {μ : ZM} (h9 : r9 < 10)  : zc (d + 1) j_J0_coder_7d493 [zx 4 r9 0] μ = zrun (zc d) (zseg j_J0_coder_7d493) 0 [zx 4 r9 0] [] μ := zc_in4 (n := 0) rfl h9 (Nat.le_of_ble_eq_true rfl) (by decide) rfl
theorem m_J0_isLatin1_aae02 {d r9 : Nat} {μ : ZM} (h9 : r9 < 10)  : zc (d + 1) j_J0_isLatin1_aae02 [zx 4 r9 0] μ = zrun (zc d) (zseg j_J0_isLatin1_aae02) 0 [zx 4 r9 0] [] μ := zc_in4 (n := 0) rfl h9 (Nat.le_of_ble_eq_true rfl) (by decide) rfl
theorem m_J0_checkIndex_df160 {d : Nat} {μ : ZM} {v0 : Int} {v1 : Int} : zc (d + 1) j_J0_checkIndex_df160 [zi v0, zi v1] μ = zrun (zc d) (zseg j_J0_checkIndex_df160) 0 [zi v0, zi v1] [] μ := zc_in rfl (Nat.le_of_ble_eq_true rfl) (by decide) rfl
theorem m_J1_charAt_3b067 {d : Nat} {μ : ZM} {q0 p0 : Nat} {v1 : Int} : zc (d + 1) j_J1_charAt_3b067 [zr q0 p0, zi v1] μ = zrun (zc d) (zseg j_J1_charAt_3b067) 0 [zr q0 p0, zi v1] [] μ := zc_in rfl (Nat.le_of_ble_eq_true rfl) (by decide) rfl
theorem m_J7_fill_d0a16 {d : Nat} {μ : ZM} {q0 p0 : Nat} {v1 : Int} : zc (d + 1) j_J7_fill_d0a16 [zr q0 p0, zl v1] μ = zrun (zc d) (zseg j_J7_fill_d0a16) 0 [zr q0 p0, zl v1, zu, zu, zu] [] μ := zc_in rfl (Nat.le_of_ble_eq_true rfl) (by decide) rfl
theorem m_J7_fill_53178 {d : Nat} {μ : ZM} {q0 p0 : Nat} {v1 : Int} : zc (d + 1) j_J7_fill_53178 [zr q0 p0, zi v1] μ = zrun (zc d) (zseg j_J7_fill_53178) 0 [zr q0 p0, zi v1, zu, zu] [] μ := zc_in rfl (Nat.le_of_ble_eq_true rfl) (by decide) rfl
theorem m_J3_checkIndex_8e157 {d : Nat} {μ : ZM} {v0 : Int} {v1 : Int} {t9 r9 o9 : Nat} : zc (d + 1) j_J3_checkIndex_8e157 [zi v0, zi v1, zx t9 r9 o9] μ = zrun (zc d) (zseg j_J3_checkIndex_8e157) 0 [zi v0, zi v1, zx t9 r9 o9] [] μ := zc_in rfl (Nat.le_of_ble_eq_true rfl) (by decide) rfl
theorem m_X0_init {d N : Nat} {I : Nat → Nat → Int} {A : ZA}   : zc (d + 1) j_X0_init [zr 10 0] (zm N I A) = zrun (zc d) (zseg j_X0_init) 0 [zr 10 0] [] (zm N I A) := zc_inM (c := 0) (n := 11) rfl kq_10_0 (by decide) (Nat.le_of_ble_eq_true rfl) (by decide) rfl
theorem m_X0_observe {d N : Nat} {I : Nat → Nat → Int} {A : ZA}  {v0 : Int} {v1 : Int} {v2 : Int} : zc (d + 1) j_X0_observe [zr 10 0, zi v0, zi v1, zi v2] (zm N I A) = zrun (zc d) (zseg j_X0_observe) 0 [zr 10 0, zi v0, zi v1, zi v2] [] (zm N I A) := zc_inM (c := 0) (n := 11) rfl kq_10_0 (by decide) (Nat.le_of_ble_eq_true rfl) (by decide) rfl
theorem m_X0_canBe {d : Nat} {μ : ZM} {v0 : Int} {v1 : Int} : zc (d + 1) j_X0_canBe [zi v0, zi v1] μ = zrun (zc d) (zseg j_X0_canBe) 0 [zi v0, zi v1, zu] [] μ := zc_in rfl (Nat.le_of_ble_eq_true rfl) (by decide) rfl
theorem m_X0_dropObserved {d N : Nat} {I : Nat → Nat → Int} {A : ZA}   : zc (d + 1) j_X0_dropObserved [zr 10 0] (zm N I A) = zrun (zc d) (zseg j_X0_dropObserved) 0 [zr 10 0, zu, zu] [] (zm N I A) := zc_inM (c := 0) (n := 11) rfl kq_10_0 (by decide) (Nat.le_of_ble_eq_true rfl) (by decide) rfl
theorem m_X0_seek {d N : Nat} {I : Nat → Nat → Int} {A : ZA}  {q0 p0 : Nat} {v1 : Int} : zc (d + 1) j_X0_seek [zr 10 0, zr q0 p0, zi v1] (zm N I A) = zrun (zc d) (zseg j_X0_seek) 0 [zr 10 0, zr q0 p0, zi v1, zu, zu, zu, zu] [] (zm N I A) := zc_inM (c := 0) (n := 11) rfl kq_10_0 (by decide) (Nat.le_of_ble_eq_true rfl) (by decide) rfl
theorem m_X0_isWorthTrying {d N : Nat} {I : Nat → Nat → Int} {A : ZA}  {q0 p0 : Nat} {v1 : Int} : zc (d + 1) j_X0_isWorthTrying [zr 10 0, zr q0 p0, zi v1] (zm N I A) = zrun (zc d) (zseg j_X0_isWorthTrying) 0 [zr 10 0, zr q0 p0, zi v1, zu] [] (zm N I A) := zc_inM (c := 0) (n := 11) rfl kq_10_0 (by decide) (Nat.le_of_ble_eq_true rfl) (by decide) rfl
theorem m_X0_canMatter {d : Nat} {μ : ZM} {q0 p0 : Nat} {v1 : Int} {v2 : Int} : zc (d + 1) j_X0_canMatter [zr q0 p0, zi v1, zi v2] μ = zrun (zc d) (zseg j_X0_canMatter) 0 [zr q0 p0, zi v1, zi v2] [] μ := zc_in rfl (Nat.le_of_ble_eq_true rfl) (by decide) rfl
theorem m_X0_explains {d N : Nat} {I : Nat → Nat → Int} {A : ZA}  {q0 p0 : Nat} {v1 : Int} {v2 : Int} {v3 : Int} : zc (d + 1) j_X0_explains [zr 10 0, zr q0 p0, zi v1, zi v2, zi v3] (zm N I A) = zrun (zc d) (zseg j_X0_explains) 0 [zr 10 0, zr q0 p0, zi v1, zi v2, zi v3, zu] [] (zm N I A) := zc_inM (c := 0) (n := 11) rfl kq_10_0 (by decide) (Nat.le_of_ble_eq_true rfl) (by decide) rfl
theorem m_X0_putFlaw {d N : Nat} {I : Nat → Nat → Int} {A : ZA}  {q0 p0 : Nat} {v1 : Int} : zc (d + 1) j_X0_putFlaw [zr 10 0, zr q0 p0, zi v1] (zm N I A) = zrun (zc d) (zseg j_X0_putFlaw) 0 [zr 10 0, zr q0 p0, zi v1] [] (zm N I A) := zc_inM (c := 0) (n := 11) rfl kq_10_0 (by decide) (Nat.le_of_ble_eq_true rfl) (by decide) rfl
theorem m_X0_isSeenSo {d N : Nat} {I : Nat → Nat → Int} {A : ZA}  {q0 p0 : Nat} {v1 : Int} {v2 : Int} {v3 : Int} : zc (d + 1) j_X0_isSeenSo [zr 10 0, zr q0 p0, zi v1, zi v2, zi v3] (zm N I A) = zrun (zc d) (zseg j_X0_isSeenSo) 0 [zr 10 0, zr q0 p0, zi v1, zi v2, zi v3, zu, zu, zu] [] (zm N I A) := zc_inM (c := 0) (n := 11) rfl kq_10_0 (by decide) (Nat.le_of_ble_eq_true rfl) (by decide) rfl
theorem m_X0_allSeenBy {d N : Nat} {I : Nat → Nat → Int} {A : ZA}  {q0 p0 : Nat} {v1 : Int} : zc (d + 1) j_X0_allSeenBy [zr 10 0, zr q0 p0, zi v1] (zm N I A) = zrun (zc d) (zseg j_X0_allSeenBy) 0 [zr 10 0, zr q0 p0, zi v1, zu] [] (zm N I A) := zc_inM (c := 0) (n := 11) rfl kq_10_0 (by decide) (Nat.le_of_ble_eq_true rfl) (by decide) rfl
theorem m_X0_firstToFail {d N : Nat} {I : Nat → Nat → Int} {A : ZA}  {q0 p0 : Nat} {q1 p1 : Nat} {v2 : Int} {v3 : Int} {v4 : Int} : zc (d + 1) j_X0_firstToFail [zr 10 0, zr q0 p0, zr q1 p1, zi v2, zi v3, zi v4] (zm N I A) = zrun (zc d) (zseg j_X0_firstToFail) 0 [zr 10 0, zr q0 p0, zr q1 p1, zi v2, zi v3, zi v4, zu, zu] [] (zm N I A) := zc_inM (c := 0) (n := 11) rfl kq_10_0 (by decide) (Nat.le_of_ble_eq_true rfl) (by decide) rfl
theorem m_X1_init {d N : Nat} {I : Nat → Nat → Int} {A : ZA} {F : Nat} (hF : F = 4 ∨ F = 5)  : zc (d + 1) j_X1_init [zr F 0] (zm N I A) = zrun (zc d) (zseg j_X1_init) 0 [zr F 0] [] (zm N I A) := by
  rcases hF with rfl | rfl
  · exact zc_inM (c := 1) (n := 4) rfl kq_4_0 (by decide) (Nat.le_of_ble_eq_true rfl) (by decide) rfl
  · exact zc_inM (c := 1) (n := 4) rfl kq_5_0 (by decide) (Nat.le_of_ble_eq_true rfl) (by decide) rfl
theorem m_X1_reset {d N : Nat} {I : Nat → Nat → Int} {A : ZA} {F : Nat} (hF : F = 4 ∨ F = 5)  : zc (d + 1) j_X1_reset [zr F 0] (zm N I A) = zrun (zc d) (zseg j_X1_reset) 0 [zr F 0] [] (zm N I A) := by
  rcases hF with rfl | rfl
  · exact zc_inM (c := 1) (n := 4) rfl kq_4_0 (by decide) (Nat.le_of_ble_eq_true rfl) (by decide) rfl
  · exact zc_inM (c := 1) (n := 4) rfl kq_5_0 (by decide) (Nat.le_of_ble_eq_true rfl) (by decide) rfl
theorem m_X1_becomeLike {d N : Nat} {I : Nat → Nat → Int} {A : ZA} {F : Nat} (hF : F = 4 ∨ F = 5) {q0 p0 : Nat} : zc (d + 1) j_X1_becomeLike [zr F 0, zr q0 p0] (zm N I A) = zrun (zc d) (zseg j_X1_becomeLike) 0 [zr F 0, zr q0 p0] [] (zm N I A) := by
  rcases hF with rfl | rfl
  · exact zc_inM (c := 1) (n := 4) rfl kq_4_0 (by decide) (Nat.le_of_ble_eq_true rfl) (by decide) rfl
  · exact zc_inM (c := 1) (n := 4) rfl kq_5_0 (by decide) (Nat.le_of_ble_eq_true rfl) (by decide) rfl
theorem m_X1_changeWear {d N : Nat} {I : Nat → Nat → Int} {A : ZA} {F : Nat} (hF : F = 4 ∨ F = 5) {v0 : Int} {v1 : Int} : zc (d + 1) j_X1_changeWear [zr F 0, zi v0, zi v1] (zm N I A) = zrun (zc d) (zseg j_X1_changeWear) 0 [zr F 0, zi v0, zi v1, zu] [] (zm N I A) := by
  rcases hF with rfl | rfl
  · exact zc_inM (c := 1) (n := 4) rfl kq_4_0 (by decide) (Nat.le_of_ble_eq_true rfl) (by decide) rfl
  · exact zc_inM (c := 1) (n := 4) rfl kq_5_0 (by decide) (Nat.le_of_ble_eq_true rfl) (by decide) rfl
theorem m_X1_changeBeat {d N : Nat} {I : Nat → Nat → Int} {A : ZA} {F : Nat} (hF : F = 4 ∨ F = 5) {v0 : Int} {v1 : Int} : zc (d + 1) j_X1_changeBeat [zr F 0, zi v0, zi v1] (zm N I A) = zrun (zc d) (zseg j_X1_changeBeat) 0 [zr F 0, zi v0, zi v1, zu] [] (zm N I A) := by
  rcases hF with rfl | rfl
  · exact zc_inM (c := 1) (n := 4) rfl kq_4_0 (by decide) (Nat.le_of_ble_eq_true rfl) (by decide) rfl
  · exact zc_inM (c := 1) (n := 4) rfl kq_5_0 (by decide) (Nat.le_of_ble_eq_true rfl) (by decide) rfl
theorem m_X1_leaveCorner {d N : Nat} {I : Nat → Nat → Int} {A : ZA} {F : Nat} (hF : F = 4 ∨ F = 5) {v0 : Int} : zc (d + 1) j_X1_leaveCorner [zr F 0, zi v0] (zm N I A) = zrun (zc d) (zseg j_X1_leaveCorner) 0 [zr F 0, zi v0] [] (zm N I A) := by
  rcases hF with rfl | rfl
  · exact zc_inM (c := 1) (n := 4) rfl kq_4_0 (by decide) (Nat.le_of_ble_eq_true rfl) (by decide) rfl
  · exact zc_inM (c := 1) (n := 4) rfl kq_5_0 (by decide) (Nat.le_of_ble_eq_true rfl) (by decide) rfl
theorem m_X1_takeCorner {d N : Nat} {I : Nat → Nat → Int} {A : ZA} {F : Nat} (hF : F = 4 ∨ F = 5) {v0 : Int} : zc (d + 1) j_X1_takeCorner [zr F 0, zi v0] (zm N I A) = zrun (zc d) (zseg j_X1_takeCorner) 0 [zr F 0, zi v0, zu] [] (zm N I A) := by
  rcases hF with rfl | rfl
  · exact zc_inM (c := 1) (n := 4) rfl kq_4_0 (by decide) (Nat.le_of_ble_eq_true rfl) (by decide) rfl
  · exact zc_inM (c := 1) (n := 4) rfl kq_5_0 (by decide) (Nat.le_of_ble_eq_true rfl) (by decide) rfl
theorem m_X1_cornerAt {d N : Nat} {I : Nat → Nat → Int} {A : ZA} {F : Nat} (hF : F = 4 ∨ F = 5) {v0 : Int} : zc (d + 1) j_X1_cornerAt [zr F 0, zi v0] (zm N I A) = zrun (zc d) (zseg j_X1_cornerAt) 0 [zr F 0, zi v0, zu] [] (zm N I A) := by
  rcases hF with rfl | rfl
  · exact zc_inM (c := 1) (n := 4) rfl kq_4_0 (by decide) (Nat.le_of_ble_eq_true rfl) (by decide) rfl
  · exact zc_inM (c := 1) (n := 4) rfl kq_5_0 (by decide) (Nat.le_of_ble_eq_true rfl) (by decide) rfl
theorem m_X1_cornerLimit {d N : Nat} {I : Nat → Nat → Int} {A : ZA} {F : Nat} (hF : F = 4 ∨ F = 5) {v0 : Int} : zc (d + 1) j_X1_cornerLimit [zr F 0, zi v0] (zm N I A) = zrun (zc d) (zseg j_X1_cornerLimit) 0 [zr F 0, zi v0, zu, zu, zu] [] (zm N I A) := by
  rcases hF with rfl | rfl
  · exact zc_inM (c := 1) (n := 4) rfl kq_4_0 (by decide) (Nat.le_of_ble_eq_true rfl) (by decide) rfl
  · exact zc_inM (c := 1) (n := 4) rfl kq_5_0 (by decide) (Nat.le_of_ble_eq_true rfl) (by decide) rfl
theorem m_X1_driveOf {d N : Nat} {I : Nat → Nat → Int} {A : ZA} {F : Nat} (hF : F = 4 ∨ F = 5) {q0 p0 : Nat} {v1 : Int} {v2 : Int} {v3 : Int} : zc (d + 1) j_X1_driveOf [zr F 0, zr q0 p0, zi v1, zi v2, zi v3] (zm N I A) = zrun (zc d) (zseg j_X1_driveOf) 0 [zr F 0, zr q0 p0, zi v1, zi v2, zi v3, zu, zu, zu, zu, zu] [] (zm N I A) := by
  rcases hF with rfl | rfl
  · exact zc_inM (c := 1) (n := 4) rfl kq_4_0 (by decide) (Nat.le_of_ble_eq_true rfl) (by decide) rfl
  · exact zc_inM (c := 1) (n := 4) rfl kq_5_0 (by decide) (Nat.le_of_ble_eq_true rfl) (by decide) rfl
theorem m_X2_init {d N : Nat} {I : Nat → Nat → Int} {A : ZA} {J : Nat} (hJ : J = 11 ∨ J = 12 ∨ J = 13)  : zc (d + 1) j_X2_init [zr J 0] (zm N I A) = zrun (zc d) (zseg j_X2_init) 0 [zr J 0] [] (zm N I A) := by
  rcases hJ with rfl | rfl | rfl
  · exact zc_inM (c := 2) (n := 18) rfl kq_11_0 (by decide) (Nat.le_of_ble_eq_true rfl) (by decide) rfl
  · exact zc_inM (c := 2) (n := 18) rfl kq_12_0 (by decide) (Nat.le_of_ble_eq_true rfl) (by decide) rfl
  · exact zc_inM (c := 2) (n := 18) rfl kq_13_0 (by decide) (Nat.le_of_ble_eq_true rfl) (by decide) rfl
theorem m_X2_addPage {d N : Nat} {I : Nat → Nat → Int} {A : ZA} {J : Nat} (hJ : J = 11 ∨ J = 12 ∨ J = 13) {v0 : Int} {v1 : Int} : zc (d + 1) j_X2_addPage [zr J 0, zi v0, zi v1] (zm N I A) = zrun (zc d) (zseg j_X2_addPage) 0 [zr J 0, zi v0, zi v1] [] (zm N I A) := by
  rcases hJ with rfl | rfl | rfl
  · exact zc_inM (c := 2) (n := 18) rfl kq_11_0 (by decide) (Nat.le_of_ble_eq_true rfl) (by decide) rfl
  · exact zc_inM (c := 2) (n := 18) rfl kq_12_0 (by decide) (Nat.le_of_ble_eq_true rfl) (by decide) rfl
  · exact zc_inM (c := 2) (n := 18) rfl kq_13_0 (by decide) (Nat.le_of_ble_eq_true rfl) (by decide) rfl
theorem m_X2_stackSides {d N : Nat} {I : Nat → Nat → Int} {A : ZA} {J : Nat} (hJ : J = 11 ∨ J = 12 ∨ J = 13)  : zc (d + 1) j_X2_stackSides [zr J 0] (zm N I A) = zrun (zc d) (zseg j_X2_stackSides) 0 [zr J 0, zu, zu] [] (zm N I A) := by
  rcases hJ with rfl | rfl | rfl
  · exact zc_inM (c := 2) (n := 18) rfl kq_11_0 (by decide) (Nat.le_of_ble_eq_true rfl) (by decide) rfl
  · exact zc_inM (c := 2) (n := 18) rfl kq_12_0 (by decide) (Nat.le_of_ble_eq_true rfl) (by decide) rfl
  · exact zc_inM (c := 2) (n := 18) rfl kq_13_0 (by decide) (Nat.le_of_ble_eq_true rfl) (by decide) rfl
theorem m_X2_becomeLike {d N : Nat} {I : Nat → Nat → Int} {A : ZA} {J : Nat} (hJ : J = 11 ∨ J = 12 ∨ J = 13) {q0 p0 : Nat} : zc (d + 1) j_X2_becomeLike [zr J 0, zr q0 p0] (zm N I A) = zrun (zc d) (zseg j_X2_becomeLike) 0 [zr J 0, zr q0 p0] [] (zm N I A) := by
  rcases hJ with rfl | rfl | rfl
  · exact zc_inM (c := 2) (n := 18) rfl kq_11_0 (by decide) (Nat.le_of_ble_eq_true rfl) (by decide) rfl
  · exact zc_inM (c := 2) (n := 18) rfl kq_12_0 (by decide) (Nat.le_of_ble_eq_true rfl) (by decide) rfl
  · exact zc_inM (c := 2) (n := 18) rfl kq_13_0 (by decide) (Nat.le_of_ble_eq_true rfl) (by decide) rfl
theorem m_X3_init {d N : Nat} {I : Nat → Nat → Int} {A : ZA}   : zc (d + 1) j_X3_init [zr 16 0] (zm N I A) = zrun (zc d) (zseg j_X3_init) 0 [zr 16 0] [] (zm N I A) := zc_inM (c := 3) (n := 5) rfl kq_16_0 (by decide) (Nat.le_of_ble_eq_true rfl) (by decide) rfl
theorem m_X3_pair {d N : Nat} {I : Nat → Nat → Int} {A : ZA}  {q0 p0 : Nat} : zc (d + 1) j_X3_pair [zr 16 0, zr q0 p0] (zm N I A) = zrun (zc d) (zseg j_X3_pair) 0 [zr 16 0, zr q0 p0] [] (zm N I A) := zc_inM (c := 3) (n := 5) rfl kq_16_0 (by decide) (Nat.le_of_ble_eq_true rfl) (by decide) rfl
theorem m_X3_measureRoom {d N : Nat} {I : Nat → Nat → Int} {A : ZA}  {q0 p0 : Nat} : zc (d + 1) j_X3_measureRoom [zr 16 0, zr q0 p0] (zm N I A) = zrun (zc d) (zseg j_X3_measureRoom) 0 [zr 16 0, zr q0 p0, zu, zu, zu, zu, zu, zu] [] (zm N I A) := zc_inM (c := 3) (n := 5) rfl kq_16_0 (by decide) (Nat.le_of_ble_eq_true rfl) (by decide) rfl
theorem m_X3_lastPlaceBelow {d : Nat} {μ : ZM} {v0 : Int} {v1 : Int} {v2 : Int} : zc (d + 1) j_X3_lastPlaceBelow [zi v0, zi v1, zi v2] μ = zrun (zc d) (zseg j_X3_lastPlaceBelow) 0 [zi v0, zi v1, zi v2] [] μ := zc_in rfl (Nat.le_of_ble_eq_true rfl) (by decide) rfl
theorem m_X3_pairInOrder {d N : Nat} {I : Nat → Nat → Int} {A : ZA}  {q0 p0 : Nat} : zc (d + 1) j_X3_pairInOrder [zr 16 0, zr q0 p0] (zm N I A) = zrun (zc d) (zseg j_X3_pairInOrder) 0 [zr 16 0, zr q0 p0, zu, zu, zu, zu, zu] [] (zm N I A) := zc_inM (c := 3) (n := 5) rfl kq_16_0 (by decide) (Nat.le_of_ble_eq_true rfl) (by decide) rfl
theorem m_X3_earliest {d : Nat} {μ : ZM} {q0 p0 : Nat} {v1 : Int} {v2 : Int} : zc (d + 1) j_X3_earliest [zr q0 p0, zi v1, zi v2] μ = zrun (zc d) (zseg j_X3_earliest) 0 [zr q0 p0, zi v1, zi v2, zu] [] μ := zc_in rfl (Nat.le_of_ble_eq_true rfl) (by decide) rfl
theorem m_X3_lackingPlace {d N : Nat} {I : Nat → Nat → Int} {A : ZA}  {v0 : Int} : zc (d + 1) j_X3_lackingPlace [zr 16 0, zi v0] (zm N I A) = zrun (zc d) (zseg j_X3_lackingPlace) 0 [zr 16 0, zi v0, zu, zu] [] (zm N I A) := zc_inM (c := 3) (n := 5) rfl kq_16_0 (by decide) (Nat.le_of_ble_eq_true rfl) (by decide) rfl
theorem m_X3_wholeCopies {d N : Nat} {I : Nat → Nat → Int} {A : ZA}  {q0 p0 : Nat} : zc (d + 1) j_X3_wholeCopies [zr 16 0, zr q0 p0] (zm N I A) = zrun (zc d) (zseg j_X3_wholeCopies) 0 [zr 16 0, zr q0 p0, zu, zu, zu, zu] [] (zm N I A) := zc_inM (c := 3) (n := 5) rfl kq_16_0 (by decide) (Nat.le_of_ble_eq_true rfl) (by decide) rfl
theorem m_X4_init {d N : Nat} {I : Nat → Nat → Int} {A : ZA}   : zc (d + 1) j_X4_init [zr 18 0] (zm N I A) = zrun (zc d) (zseg j_X4_init) 0 [zr 18 0] [] (zm N I A) := zc_inM (c := 4) (n := 3) rfl kq_18_0 (by decide) (Nat.le_of_ble_eq_true rfl) (by decide) rfl
theorem m_X4_make {d N : Nat} {I : Nat → Nat → Int} {A : ZA}  {v0 : Int} {v1 : Int} {v2 : Int} : zc (d + 1) j_X4_make [zr 18 0, zi v0, zi v1, zi v2] (zm N I A) = zrun (zc d) (zseg j_X4_make) 0 [zr 18 0, zi v0, zi v1, zi v2] [] (zm N I A) := zc_inM (c := 4) (n := 3) rfl kq_18_0 (by decide) (Nat.le_of_ble_eq_true rfl) (by decide) rfl
theorem m_X4_cut {d : Nat} {μ : ZM} {v0 : Int} {v1 : Int} : zc (d + 1) j_X4_cut [zl v0, zi v1] μ = zrun (zc d) (zseg j_X4_cut) 0 [zl v0, zu, zi v1] [] μ := zc_in rfl (Nat.le_of_ble_eq_true rfl) (by decide) rfl
theorem m_X4_tellsPages {d N : Nat} {I : Nat → Nat → Int} {A : ZA}  {v0 : Int} {v1 : Int} {v2 : Int} : zc (d + 1) j_X4_tellsPages [zr 18 0, zi v0, zi v1, zi v2] (zm N I A) = zrun (zc d) (zseg j_X4_tellsPages) 0 [zr 18 0, zi v0, zi v1, zi v2, zu] [] (zm N I A) := zc_inM (c := 4) (n := 3) rfl kq_18_0 (by decide) (Nat.le_of_ble_eq_true rfl) (by decide) rfl
theorem m_X5_init {d N : Nat} {I : Nat → Nat → Int} {A : ZA}   : zc (d + 1) j_X5_init [zr 14 0] (zm N I A) = zrun (zc d) (zseg j_X5_init) 0 [zr 14 0] [] (zm N I A) := zc_inM (c := 5) (n := 14) rfl kq_14_0 (by decide) (Nat.le_of_ble_eq_true rfl) (by decide) rfl
theorem m_X5_seek {d N : Nat} {I : Nat → Nat → Int} {A : ZA}  {q0 p0 : Nat} : zc (d + 1) j_X5_seek [zr 14 0, zr q0 p0] (zm N I A) = zrun (zc d) (zseg j_X5_seek) 0 [zr 14 0, zr q0 p0, zu] [] (zm N I A) := zc_inM (c := 5) (n := 14) rfl kq_14_0 (by decide) (Nat.le_of_ble_eq_true rfl) (by decide) rfl
theorem m_X5_hasPaperForAll {d N : Nat} {I : Nat → Nat → Int} {A : ZA}   : zc (d + 1) j_X5_hasPaperForAll [zr 14 0] (zm N I A) = zrun (zc d) (zseg j_X5_hasPaperForAll) 0 [zr 14 0, zu, zu, zu] [] (zm N I A) := zc_inM (c := 5) (n := 14) rfl kq_14_0 (by decide) (Nat.le_of_ble_eq_true rfl) (by decide) rfl
theorem m_X5_gives {d N : Nat} {I : Nat → Nat → Int} {A : ZA}  {v0 : Int} {v1 : Int} : zc (d + 1) j_X5_gives [zr 14 0, zi v0, zi v1] (zm N I A) = zrun (zc d) (zseg j_X5_gives) 0 [zr 14 0, zi v0, zi v1] [] (zm N I A) := zc_inM (c := 5) (n := 14) rfl kq_14_0 (by decide) (Nat.le_of_ble_eq_true rfl) (by decide) rfl
theorem m_X5_leave {d N : Nat} {I : Nat → Nat → Int} {A : ZA}  {v0 : Int} : zc (d + 1) j_X5_leave [zr 14 0, zi v0] (zm N I A) = zrun (zc d) (zseg j_X5_leave) 0 [zr 14 0, zi v0, zu, zu, zu, zu, zu, zu, zu] [] (zm N I A) := zc_inM (c := 5) (n := 14) rfl kq_14_0 (by decide) (Nat.le_of_ble_eq_true rfl) (by decide) rfl
theorem m_X5_takesNext {d N : Nat} {I : Nat → Nat → Int} {A : ZA}   : zc (d + 1) j_X5_takesNext [zr 14 0] (zm N I A) = zrun (zc d) (zseg j_X5_takesNext) 0 [zr 14 0, zu] [] (zm N I A) := zc_inM (c := 5) (n := 14) rfl kq_14_0 (by decide) (Nat.le_of_ble_eq_true rfl) (by decide) rfl
theorem m_X5_feedFromEach {d N : Nat} {I : Nat → Nat → Int} {A : ZA}  {v0 : Int} {v1 : Int} {v2 : Int} : zc (d + 1) j_X5_feedFromEach [zr 14 0, zi v0, zi v1, zl v2] (zm N I A) = zrun (zc d) (zseg j_X5_feedFromEach) 0 [zr 14 0, zi v0, zi v1, zl v2, zu, zu, zu, zu, zu] [] (zm N I A) := zc_inM (c := 5) (n := 14) rfl kq_14_0 (by decide) (Nat.le_of_ble_eq_true rfl) (by decide) rfl
theorem m_X5_agedPocket {d N : Nat} {I : Nat → Nat → Int} {A : ZA}  {v0 : Int} {v1 : Int} : zc (d + 1) j_X5_agedPocket [zr 14 0, zi v0, zi v1] (zm N I A) = zrun (zc d) (zseg j_X5_agedPocket) 0 [zr 14 0, zi v0, zi v1, zu, zu, zu] [] (zm N I A) := zc_inM (c := 5) (n := 14) rfl kq_14_0 (by decide) (Nat.le_of_ble_eq_true rfl) (by decide) rfl
theorem m_X5_unpack {d N : Nat} {I : Nat → Nat → Int} {A : ZA}  {v0 : Int} : zc (d + 1) j_X5_unpack [zr 14 0, zi v0] (zm N I A) = zrun (zc d) (zseg j_X5_unpack) 0 [zr 14 0, zi v0, zu] [] (zm N I A) := zc_inM (c := 5) (n := 14) rfl kq_14_0 (by decide) (Nat.le_of_ble_eq_true rfl) (by decide) rfl
theorem m_X5_meet {d N : Nat} {I : Nat → Nat → Int} {A : ZA}  {v0 : Int} {v1 : Int} {v2 : Int} {v3 : Int} {v4 : Int} {v5 : Int} : zc (d + 1) j_X5_meet [zr 14 0, zi v0, zi v1, zi v2, zi v3, zi v4, zl v5] (zm N I A) = zrun (zc d) (zseg j_X5_meet) 0 [zr 14 0, zi v0, zi v1, zi v2, zi v3, zi v4, zl v5, zu, zu, zu, zu] [] (zm N I A) := zc_inM (c := 5) (n := 14) rfl kq_14_0 (by decide) (Nat.le_of_ble_eq_true rfl) (by decide) rfl
theorem m_X5_traceBack {d N : Nat} {I : Nat → Nat → Int} {A : ZA}   : zc (d + 1) j_X5_traceBack [zr 14 0] (zm N I A) = zrun (zc d) (zseg j_X5_traceBack) 0 [zr 14 0, zu, zu, zu] [] (zm N I A) := zc_inM (c := 5) (n := 14) rfl kq_14_0 (by decide) (Nat.le_of_ble_eq_true rfl) (by decide) rfl
theorem m_X5_parentOf {d N : Nat} {I : Nat → Nat → Int} {A : ZA}  {v0 : Int} : zc (d + 1) j_X5_parentOf [zr 14 0, zi v0] (zm N I A) = zrun (zc d) (zseg j_X5_parentOf) 0 [zr 14 0, zi v0] [] (zm N I A) := zc_inM (c := 5) (n := 14) rfl kq_14_0 (by decide) (Nat.le_of_ble_eq_true rfl) (by decide) rfl
theorem m_X6_init {d N : Nat} {I : Nat → Nat → Int} {A : ZA}   : zc (d + 1) j_X6_init [zr 3 0] (zm N I A) = zrun (zc d) (zseg j_X6_init) 0 [zr 3 0] [] (zm N I A) := zc_inM (c := 6) (n := 11) rfl kq_3_0 (by decide) (Nat.le_of_ble_eq_true rfl) (by decide) rfl
theorem m_X6_hasRoomForFive {d N : Nat} {I : Nat → Nat → Int} {A : ZA}   : zc (d + 1) j_X6_hasRoomForFive [zr 3 0] (zm N I A) = zrun (zc d) (zseg j_X6_hasRoomForFive) 0 [zr 3 0] [] (zm N I A) := zc_inM (c := 6) (n := 11) rfl kq_3_0 (by decide) (Nat.le_of_ble_eq_true rfl) (by decide) rfl
theorem m_X6_append {d N : Nat} {I : Nat → Nat → Int} {A : ZA}  {v0 : Int} : zc (d + 1) j_X6_append [zr 3 0, zi v0] (zm N I A) = zrun (zc d) (zseg j_X6_append) 0 [zr 3 0, zi v0, zu] [] (zm N I A) := zc_inM (c := 6) (n := 11) rfl kq_3_0 (by decide) (Nat.le_of_ble_eq_true rfl) (by decide) rfl
theorem m_X6_readWay {d N : Nat} {I : Nat → Nat → Int} {A : ZA}  {q0 p0 : Nat} {v1 : Int} : zc (d + 1) j_X6_readWay [zr 3 0, zr q0 p0, zi v1] (zm N I A) = zrun (zc d) (zseg j_X6_readWay) 0 [zr 3 0, zr q0 p0, zi v1, zu] [] (zm N I A) := zc_inM (c := 6) (n := 11) rfl kq_3_0 (by decide) (Nat.le_of_ble_eq_true rfl) (by decide) rfl
theorem m_X6_splitTokens {d N : Nat} {I : Nat → Nat → Int} {A : ZA}  {v0 : Int} : zc (d + 1) j_X6_splitTokens [zr 3 0, zi v0] (zm N I A) = zrun (zc d) (zseg j_X6_splitTokens) 0 [zr 3 0, zi v0, zu] [] (zm N I A) := zc_inM (c := 6) (n := 11) rfl kq_3_0 (by decide) (Nat.le_of_ble_eq_true rfl) (by decide) rfl
theorem m_X6_nextKind {d N : Nat} {I : Nat → Nat → Int} {A : ZA}   : zc (d + 1) j_X6_nextKind [zr 3 0] (zm N I A) = zrun (zc d) (zseg j_X6_nextKind) 0 [zr 3 0, zu] [] (zm N I A) := zc_inM (c := 6) (n := 11) rfl kq_3_0 (by decide) (Nat.le_of_ble_eq_true rfl) (by decide) rfl
theorem m_X6_nextNumber {d N : Nat} {I : Nat → Nat → Int} {A : ZA}   : zc (d + 1) j_X6_nextNumber [zr 3 0] (zm N I A) = zrun (zc d) (zseg j_X6_nextNumber) 0 [zr 3 0, zu, zu] [] (zm N I A) := zc_inM (c := 6) (n := 11) rfl kq_3_0 (by decide) (Nat.le_of_ble_eq_true rfl) (by decide) rfl
theorem m_X6_nextWord {d N : Nat} {I : Nat → Nat → Int} {A : ZA}   : zc (d + 1) j_X6_nextWord [zr 3 0] (zm N I A) = zrun (zc d) (zseg j_X6_nextWord) 0 [zr 3 0, zu] [] (zm N I A) := zc_inM (c := 6) (n := 11) rfl kq_3_0 (by decide) (Nat.le_of_ble_eq_true rfl) (by decide) rfl
theorem m_X6_wordOfFour {d N : Nat} {I : Nat → Nat → Int} {A : ZA}  {v0 : Int} : zc (d + 1) j_X6_wordOfFour [zr 3 0, zi v0] (zm N I A) = zrun (zc d) (zseg j_X6_wordOfFour) 0 [zr 3 0, zi v0] [] (zm N I A) := zc_inM (c := 6) (n := 11) rfl kq_3_0 (by decide) (Nat.le_of_ble_eq_true rfl) (by decide) rfl
theorem m_X6_isAt {d N : Nat} {I : Nat → Nat → Int} {A : ZA}  {v0 : Int} {t9 r9 o9 : Nat} : zc (d + 1) j_X6_isAt [zr 3 0, zi v0, zx t9 r9 o9] (zm N I A) = zrun (zc d) (zseg j_X6_isAt) 0 [zr 3 0, zi v0, zx t9 r9 o9, zu, zu] [] (zm N I A) := zc_inM (c := 6) (n := 11) rfl kq_3_0 (by decide) (Nat.le_of_ble_eq_true rfl) (by decide) rfl
theorem m_X6_readLine {d N : Nat} {I : Nat → Nat → Int} {A : ZA}  {q0 p0 : Nat} {v1 : Int} : zc (d + 1) j_X6_readLine [zr 3 0, zr q0 p0, zi v1] (zm N I A) = zrun (zc d) (zseg j_X6_readLine) 0 [zr 3 0, zr q0 p0, zi v1] [] (zm N I A) := zc_inM (c := 6) (n := 11) rfl kq_3_0 (by decide) (Nat.le_of_ble_eq_true rfl) (by decide) rfl
theorem m_X6_readRoller {d N : Nat} {I : Nat → Nat → Int} {A : ZA}  {q0 p0 : Nat} : zc (d + 1) j_X6_readRoller [zr 3 0, zr q0 p0] (zm N I A) = zrun (zc d) (zseg j_X6_readRoller) 0 [zr 3 0, zr q0 p0] [] (zm N I A) := zc_inM (c := 6) (n := 11) rfl kq_3_0 (by decide) (Nat.le_of_ble_eq_true rfl) (by decide) rfl
theorem m_X6_readEye {d N : Nat} {I : Nat → Nat → Int} {A : ZA}  {q0 p0 : Nat} : zc (d + 1) j_X6_readEye [zr 3 0, zr q0 p0] (zm N I A) = zrun (zc d) (zseg j_X6_readEye) 0 [zr 3 0, zr q0 p0] [] (zm N I A) := zc_inM (c := 6) (n := 11) rfl kq_3_0 (by decide) (Nat.le_of_ble_eq_true rfl) (by decide) rfl
theorem m_X6_readTurn {d N : Nat} {I : Nat → Nat → Int} {A : ZA}  {q0 p0 : Nat} : zc (d + 1) j_X6_readTurn [zr 3 0, zr q0 p0] (zm N I A) = zrun (zc d) (zseg j_X6_readTurn) 0 [zr 3 0, zr q0 p0] [] (zm N I A) := zc_inM (c := 6) (n := 11) rfl kq_3_0 (by decide) (Nat.le_of_ble_eq_true rfl) (by decide) rfl
theorem m_X6_readDamp {d N : Nat} {I : Nat → Nat → Int} {A : ZA}  {q0 p0 : Nat} : zc (d + 1) j_X6_readDamp [zr 3 0, zr q0 p0] (zm N I A) = zrun (zc d) (zseg j_X6_readDamp) 0 [zr 3 0, zr q0 p0] [] (zm N I A) := zc_inM (c := 6) (n := 11) rfl kq_3_0 (by decide) (Nat.le_of_ble_eq_true rfl) (by decide) rfl
theorem m_X6_readNumber {d N : Nat} {I : Nat → Nat → Int} {A : ZA}  {v0 : Int} {v1 : Int} : zc (d + 1) j_X6_readNumber [zr 3 0, zi v0, zi v1] (zm N I A) = zrun (zc d) (zseg j_X6_readNumber) 0 [zr 3 0, zi v0, zi v1] [] (zm N I A) := zc_inM (c := 6) (n := 11) rfl kq_3_0 (by decide) (Nat.le_of_ble_eq_true rfl) (by decide) rfl
theorem m_X6_want {d N : Nat} {I : Nat → Nat → Int} {A : ZA}  {v0 : Int} : zc (d + 1) j_X6_want [zr 3 0, zi v0] (zm N I A) = zrun (zc d) (zseg j_X6_want) 0 [zr 3 0, zi v0] [] (zm N I A) := zc_inM (c := 6) (n := 11) rfl kq_3_0 (by decide) (Nat.le_of_ble_eq_true rfl) (by decide) rfl
theorem m_X6_goOn {d N : Nat} {I : Nat → Nat → Int} {A : ZA}   : zc (d + 1) j_X6_goOn [zr 3 0] (zm N I A) = zrun (zc d) (zseg j_X6_goOn) 0 [zr 3 0] [] (zm N I A) := zc_inM (c := 6) (n := 11) rfl kq_3_0 (by decide) (Nat.le_of_ble_eq_true rfl) (by decide) rfl
theorem m_X6_blame {d N : Nat} {I : Nat → Nat → Int} {A : ZA}  {v0 : Int} : zc (d + 1) j_X6_blame [zr 3 0, zi v0] (zm N I A) = zrun (zc d) (zseg j_X6_blame) 0 [zr 3 0, zi v0] [] (zm N I A) := zc_inM (c := 6) (n := 11) rfl kq_3_0 (by decide) (Nat.le_of_ble_eq_true rfl) (by decide) rfl
theorem m_X6_isBlank {d : Nat} {μ : ZM} {v0 : Int} : zc (d + 1) j_X6_isBlank [zi v0] μ = zrun (zc d) (zseg j_X6_isBlank) 0 [zi v0] [] μ := zc_in rfl (Nat.le_of_ble_eq_true rfl) (by decide) rfl
theorem m_X6_isLetter {d : Nat} {μ : ZM} {v0 : Int} : zc (d + 1) j_X6_isLetter [zi v0] μ = zrun (zc d) (zseg j_X6_isLetter) 0 [zi v0] [] μ := zc_in rfl (Nat.le_of_ble_eq_true rfl) (by decide) rfl
theorem m_X6_isDigit {d : Nat} {μ : ZM} {v0 : Int} : zc (d + 1) j_X6_isDigit [zi v0] μ = zrun (zc d) (zseg j_X6_isDigit) 0 [zi v0] [] μ := zc_in rfl (Nat.le_of_ble_eq_true rfl) (by decide) rfl
theorem m_X7_init {d N : Nat} {I : Nat → Nat → Int} {A : ZA}   : zc (d + 1) j_X7_init [zr 17 0] (zm N I A) = zrun (zc d) (zseg j_X7_init) 0 [zr 17 0] [] (zm N I A) := zc_inM (c := 7) (n := 6) rfl kq_17_0 (by decide) (Nat.le_of_ble_eq_true rfl) (by decide) rfl
theorem m_X7_seek {d N : Nat} {I : Nat → Nat → Int} {A : ZA}  {q0 p0 : Nat} {v1 : Int} {v2 : Int} : zc (d + 1) j_X7_seek [zr 17 0, zr q0 p0, zi v1, zi v2] (zm N I A) = zrun (zc d) (zseg j_X7_seek) 0 [zr 17 0, zr q0 p0, zi v1, zi v2, zu, zu, zu] [] (zm N I A) := zc_inM (c := 7) (n := 6) rfl kq_17_0 (by decide) (Nat.le_of_ble_eq_true rfl) (by decide) rfl
theorem m_X7_isBetter {d N : Nat} {I : Nat → Nat → Int} {A : ZA}  {v0 : Int} {v1 : Int} : zc (d + 1) j_X7_isBetter [zr 17 0, zi v0, zi v1] (zm N I A) = zrun (zc d) (zseg j_X7_isBetter) 0 [zr 17 0, zi v0, zi v1] [] (zm N I A) := zc_inM (c := 7) (n := 6) rfl kq_17_0 (by decide) (Nat.le_of_ble_eq_true rfl) (by decide) rfl
theorem m_X7_costOfNewOnes {d N : Nat} {I : Nat → Nat → Int} {A : ZA}  {q0 p0 : Nat} {v1 : Int} {v2 : Int} : zc (d + 1) j_X7_costOfNewOnes [zr 17 0, zr q0 p0, zi v1, zi v2] (zm N I A) = zrun (zc d) (zseg j_X7_costOfNewOnes) 0 [zr 17 0, zr q0 p0, zi v1, zi v2, zu, zu, zu] [] (zm N I A) := zc_inM (c := 7) (n := 6) rfl kq_17_0 (by decide) (Nat.le_of_ble_eq_true rfl) (by decide) rfl
theorem m_X7_timesNew {d : Nat} {μ : ZM} {v0 : Int} {v1 : Int} {v2 : Int} {v3 : Int} : zc (d + 1) j_X7_timesNew [zi v0, zi v1, zi v2, zi v3] μ = zrun (zc d) (zseg j_X7_timesNew) 0 [zi v0, zi v1, zi v2, zi v3, zu, zu, zu, zu] [] μ := zc_in rfl (Nat.le_of_ble_eq_true rfl) (by decide) rfl
theorem m_X8_init {d N : Nat} {I : Nat → Nat → Int} {A : ZA} {T : Nat} (hT : T = 6 ∨ T = 8)  : zc (d + 1) j_X8_init [zr T 0] (zm N I A) = zrun (zc d) (zseg j_X8_init) 0 [zr T 0] [] (zm N I A) := by
  rcases hT with rfl | rfl
  · exact zc_inM (c := 8) (n := 17) rfl kq_6_0 (by decide) (Nat.le_of_ble_eq_true rfl) (by decide) rfl
  · exact zc_inM (c := 8) (n := 17) rfl kq_8_0 (by decide) (Nat.le_of_ble_eq_true rfl) (by decide) rfl
theorem m_X8_start {d N : Nat} {I : Nat → Nat → Int} {A : ZA} {T : Nat} (hT : T = 6 ∨ T = 8) {q0 p0 : Nat} {q1 p1 : Nat} : zc (d + 1) j_X8_start [zr T 0, zr q0 p0, zr q1 p1] (zm N I A) = zrun (zc d) (zseg j_X8_start) 0 [zr T 0, zr q0 p0, zr q1 p1] [] (zm N I A) := by
  rcases hT with rfl | rfl
  · exact zc_inM (c := 8) (n := 17) rfl kq_6_0 (by decide) (Nat.le_of_ble_eq_true rfl) (by decide) rfl
  · exact zc_inM (c := 8) (n := 17) rfl kq_8_0 (by decide) (Nat.le_of_ble_eq_true rfl) (by decide) rfl
theorem m_X8_isFull {d N : Nat} {I : Nat → Nat → Int} {A : ZA} {T : Nat} (hT : T = 6 ∨ T = 8)  : zc (d + 1) j_X8_isFull [zr T 0] (zm N I A) = zrun (zc d) (zseg j_X8_isFull) 0 [zr T 0] [] (zm N I A) := by
  rcases hT with rfl | rfl
  · exact zc_inM (c := 8) (n := 17) rfl kq_6_0 (by decide) (Nat.le_of_ble_eq_true rfl) (by decide) rfl
  · exact zc_inM (c := 8) (n := 17) rfl kq_8_0 (by decide) (Nat.le_of_ble_eq_true rfl) (by decide) rfl
theorem m_X8_tailOf {d N : Nat} {I : Nat → Nat → Int} {A : ZA} {T : Nat} (hT : T = 6 ∨ T = 8) {v0 : Int} : zc (d + 1) j_X8_tailOf [zr T 0, zi v0] (zm N I A) = zrun (zc d) (zseg j_X8_tailOf) 0 [zr T 0, zi v0] [] (zm N I A) := by
  rcases hT with rfl | rfl
  · exact zc_inM (c := 8) (n := 17) rfl kq_6_0 (by decide) (Nat.le_of_ble_eq_true rfl) (by decide) rfl
  · exact zc_inM (c := 8) (n := 17) rfl kq_8_0 (by decide) (Nat.le_of_ble_eq_true rfl) (by decide) rfl
theorem m_X8_isFreeFor {d N : Nat} {I : Nat → Nat → Int} {A : ZA} {T : Nat} (hT : T = 6 ∨ T = 8) {v0 : Int} : zc (d + 1) j_X8_isFreeFor [zr T 0, zi v0] (zm N I A) = zrun (zc d) (zseg j_X8_isFreeFor) 0 [zr T 0, zi v0, zu] [] (zm N I A) := by
  rcases hT with rfl | rfl
  · exact zc_inM (c := 8) (n := 17) rfl kq_6_0 (by decide) (Nat.le_of_ble_eq_true rfl) (by decide) rfl
  · exact zc_inM (c := 8) (n := 17) rfl kq_8_0 (by decide) (Nat.le_of_ble_eq_true rfl) (by decide) rfl
theorem m_X8_begin {d N : Nat} {I : Nat → Nat → Int} {A : ZA} {T : Nat} (hT : T = 6 ∨ T = 8) {v0 : Int} {v1 : Int} : zc (d + 1) j_X8_begin [zr T 0, zi v0, zi v1] (zm N I A) = zrun (zc d) (zseg j_X8_begin) 0 [zr T 0, zi v0, zi v1, zu] [] (zm N I A) := by
  rcases hT with rfl | rfl
  · exact zc_inM (c := 8) (n := 17) rfl kq_6_0 (by decide) (Nat.le_of_ble_eq_true rfl) (by decide) rfl
  · exact zc_inM (c := 8) (n := 17) rfl kq_8_0 (by decide) (Nat.le_of_ble_eq_true rfl) (by decide) rfl
theorem m_X8_liesFree {d N : Nat} {I : Nat → Nat → Int} {A : ZA} {T : Nat} (hT : T = 6 ∨ T = 8) {v0 : Int} {v1 : Int} : zc (d + 1) j_X8_liesFree [zr T 0, zi v0, zi v1] (zm N I A) = zrun (zc d) (zseg j_X8_liesFree) 0 [zr T 0, zi v0, zi v1, zu, zu] [] (zm N I A) := by
  rcases hT with rfl | rfl
  · exact zc_inM (c := 8) (n := 17) rfl kq_6_0 (by decide) (Nat.le_of_ble_eq_true rfl) (by decide) rfl
  · exact zc_inM (c := 8) (n := 17) rfl kq_8_0 (by decide) (Nat.le_of_ble_eq_true rfl) (by decide) rfl
theorem m_X8_putOnWay {d N : Nat} {I : Nat → Nat → Int} {A : ZA} {T : Nat} (hT : T = 6 ∨ T = 8) {v0 : Int} {v1 : Int} {v2 : Int} : zc (d + 1) j_X8_putOnWay [zr T 0, zi v0, zi v1, zi v2] (zm N I A) = zrun (zc d) (zseg j_X8_putOnWay) 0 [zr T 0, zi v0, zi v1, zi v2, zu] [] (zm N I A) := by
  rcases hT with rfl | rfl
  · exact zc_inM (c := 8) (n := 17) rfl kq_6_0 (by decide) (Nat.le_of_ble_eq_true rfl) (by decide) rfl
  · exact zc_inM (c := 8) (n := 17) rfl kq_8_0 (by decide) (Nat.le_of_ble_eq_true rfl) (by decide) rfl
theorem m_X8_goOnce {d N : Nat} {I : Nat → Nat → Int} {A : ZA} {T : Nat} (hT : T = 6 ∨ T = 8)  : zc (d + 1) j_X8_goOnce [zr T 0] (zm N I A) = zrun (zc d) (zseg j_X8_goOnce) 0 [zr T 0, zu] [] (zm N I A) := by
  rcases hT with rfl | rfl
  · exact zc_inM (c := 8) (n := 17) rfl kq_6_0 (by decide) (Nat.le_of_ble_eq_true rfl) (by decide) rfl
  · exact zc_inM (c := 8) (n := 17) rfl kq_8_0 (by decide) (Nat.le_of_ble_eq_true rfl) (by decide) rfl
theorem m_X8_carryOn {d N : Nat} {I : Nat → Nat → Int} {A : ZA} {T : Nat} (hT : T = 6 ∨ T = 8)  : zc (d + 1) j_X8_carryOn [zr T 0] (zm N I A) = zrun (zc d) (zseg j_X8_carryOn) 0 [zr T 0, zu, zu, zu, zu] [] (zm N I A) := by
  rcases hT with rfl | rfl
  · exact zc_inM (c := 8) (n := 17) rfl kq_6_0 (by decide) (Nat.le_of_ble_eq_true rfl) (by decide) rfl
  · exact zc_inM (c := 8) (n := 17) rfl kq_8_0 (by decide) (Nat.le_of_ble_eq_true rfl) (by decide) rfl
theorem m_X8_move {d N : Nat} {I : Nat → Nat → Int} {A : ZA} {T : Nat} (hT : T = 6 ∨ T = 8) {v0 : Int} {v1 : Int} : zc (d + 1) j_X8_move [zr T 0, zi v0, zi v1] (zm N I A) = zrun (zc d) (zseg j_X8_move) 0 [zr T 0, zi v0, zi v1] [] (zm N I A) := by
  rcases hT with rfl | rfl
  · exact zc_inM (c := 8) (n := 17) rfl kq_6_0 (by decide) (Nat.le_of_ble_eq_true rfl) (by decide) rfl
  · exact zc_inM (c := 8) (n := 17) rfl kq_8_0 (by decide) (Nat.le_of_ble_eq_true rfl) (by decide) rfl
theorem m_X8_waits {d N : Nat} {I : Nat → Nat → Int} {A : ZA} {T : Nat} (hT : T = 6 ∨ T = 8) {v0 : Int} : zc (d + 1) j_X8_waits [zr T 0, zi v0] (zm N I A) = zrun (zc d) (zseg j_X8_waits) 0 [zr T 0, zi v0] [] (zm N I A) := by
  rcases hT with rfl | rfl
  · exact zc_inM (c := 8) (n := 17) rfl kq_6_0 (by decide) (Nat.le_of_ble_eq_true rfl) (by decide) rfl
  · exact zc_inM (c := 8) (n := 17) rfl kq_8_0 (by decide) (Nat.le_of_ble_eq_true rfl) (by decide) rfl
theorem m_X8_drive {d N : Nat} {I : Nat → Nat → Int} {A : ZA} {T : Nat} (hT : T = 6 ∨ T = 8) {v0 : Int} {v1 : Int} : zc (d + 1) j_X8_drive [zr T 0, zi v0, zi v1] (zm N I A) = zrun (zc d) (zseg j_X8_drive) 0 [zr T 0, zi v0, zi v1, zu, zu] [] (zm N I A) := by
  rcases hT with rfl | rfl
  · exact zc_inM (c := 8) (n := 17) rfl kq_6_0 (by decide) (Nat.le_of_ble_eq_true rfl) (by decide) rfl
  · exact zc_inM (c := 8) (n := 17) rfl kq_8_0 (by decide) (Nat.le_of_ble_eq_true rfl) (by decide) rfl
theorem m_X8_enterPocket {d N : Nat} {I : Nat → Nat → Int} {A : ZA} {T : Nat} (hT : T = 6 ∨ T = 8) {v0 : Int} : zc (d + 1) j_X8_enterPocket [zr T 0, zi v0] (zm N I A) = zrun (zc d) (zseg j_X8_enterPocket) 0 [zr T 0, zi v0] [] (zm N I A) := by
  rcases hT with rfl | rfl
  · exact zc_inM (c := 8) (n := 17) rfl kq_6_0 (by decide) (Nat.le_of_ble_eq_true rfl) (by decide) rfl
  · exact zc_inM (c := 8) (n := 17) rfl kq_8_0 (by decide) (Nat.le_of_ble_eq_true rfl) (by decide) rfl
theorem m_X8_findJam {d N : Nat} {I : Nat → Nat → Int} {A : ZA} {T : Nat} (hT : T = 6 ∨ T = 8)  : zc (d + 1) j_X8_findJam [zr T 0] (zm N I A) = zrun (zc d) (zseg j_X8_findJam) 0 [zr T 0, zu, zu] [] (zm N I A) := by
  rcases hT with rfl | rfl
  · exact zc_inM (c := 8) (n := 17) rfl kq_6_0 (by decide) (Nat.le_of_ble_eq_true rfl) (by decide) rfl
  · exact zc_inM (c := 8) (n := 17) rfl kq_8_0 (by decide) (Nat.le_of_ble_eq_true rfl) (by decide) rfl
theorem m_X8_comeBack {d N : Nat} {I : Nat → Nat → Int} {A : ZA} {T : Nat} (hT : T = 6 ∨ T = 8)  : zc (d + 1) j_X8_comeBack [zr T 0] (zm N I A) = zrun (zc d) (zseg j_X8_comeBack) 0 [zr T 0, zu, zu, zu] [] (zm N I A) := by
  rcases hT with rfl | rfl
  · exact zc_inM (c := 8) (n := 17) rfl kq_6_0 (by decide) (Nat.le_of_ble_eq_true rfl) (by decide) rfl
  · exact zc_inM (c := 8) (n := 17) rfl kq_8_0 (by decide) (Nat.le_of_ble_eq_true rfl) (by decide) rfl
theorem m_X8_isUnderEye {d N : Nat} {I : Nat → Nat → Int} {A : ZA} {T : Nat} (hT : T = 6 ∨ T = 8) {v0 : Int} : zc (d + 1) j_X8_isUnderEye [zr T 0, zi v0] (zm N I A) = zrun (zc d) (zseg j_X8_isUnderEye) 0 [zr T 0, zi v0, zu] [] (zm N I A) := by
  rcases hT with rfl | rfl
  · exact zc_inM (c := 8) (n := 17) rfl kq_6_0 (by decide) (Nat.le_of_ble_eq_true rfl) (by decide) rfl
  · exact zc_inM (c := 8) (n := 17) rfl kq_8_0 (by decide) (Nat.le_of_ble_eq_true rfl) (by decide) rfl
theorem m_X8_takeAll {d N : Nat} {I : Nat → Nat → Int} {A : ZA} {T : Nat} (hT : T = 6 ∨ T = 8)  : zc (d + 1) j_X8_takeAll [zr T 0] (zm N I A) = zrun (zc d) (zseg j_X8_takeAll) 0 [zr T 0, zu, zu] [] (zm N I A) := by
  rcases hT with rfl | rfl
  · exact zc_inM (c := 8) (n := 17) rfl kq_6_0 (by decide) (Nat.le_of_ble_eq_true rfl) (by decide) rfl
  · exact zc_inM (c := 8) (n := 17) rfl kq_8_0 (by decide) (Nat.le_of_ble_eq_true rfl) (by decide) rfl
theorem m_X9_init {d N : Nat} {I : Nat → Nat → Int} {A : ZA} {U : Nat} (hU : U = 7 ∨ U = 9)  : zc (d + 1) j_X9_init [zr U 0] (zm N I A) = zrun (zc d) (zseg j_X9_init) 0 [zr U 0] [] (zm N I A) := by
  rcases hU with rfl | rfl
  · exact zc_inM (c := 9) (n := 5) rfl kq_7_0 (by decide) (Nat.le_of_ble_eq_true rfl) (by decide) rfl
  · exact zc_inM (c := 9) (n := 5) rfl kq_9_0 (by decide) (Nat.le_of_ble_eq_true rfl) (by decide) rfl
theorem m_X9_reset {d N : Nat} {I : Nat → Nat → Int} {A : ZA} {U : Nat} (hU : U = 7 ∨ U = 9)  : zc (d + 1) j_X9_reset [zr U 0] (zm N I A) = zrun (zc d) (zseg j_X9_reset) 0 [zr U 0] [] (zm N I A) := by
  rcases hU with rfl | rfl
  · exact zc_inM (c := 9) (n := 5) rfl kq_7_0 (by decide) (Nat.le_of_ble_eq_true rfl) (by decide) rfl
  · exact zc_inM (c := 9) (n := 5) rfl kq_9_0 (by decide) (Nat.le_of_ble_eq_true rfl) (by decide) rfl
theorem m_X9_cutOff {d N : Nat} {I : Nat → Nat → Int} {A : ZA} {U : Nat} (hU : U = 7 ∨ U = 9)  : zc (d + 1) j_X9_cutOff [zr U 0] (zm N I A) = zrun (zc d) (zseg j_X9_cutOff) 0 [zr U 0, zu] [] (zm N I A) := by
  rcases hU with rfl | rfl
  · exact zc_inM (c := 9) (n := 5) rfl kq_7_0 (by decide) (Nat.le_of_ble_eq_true rfl) (by decide) rfl
  · exact zc_inM (c := 9) (n := 5) rfl kq_9_0 (by decide) (Nat.le_of_ble_eq_true rfl) (by decide) rfl
theorem m_X9_look {d N : Nat} {I : Nat → Nat → Int} {A : ZA} {U : Nat} (hU : U = 7 ∨ U = 9) {v0 : Int} {v1 : Int} {v2 : Int} : zc (d + 1) j_X9_look [zr U 0, zi v0, zi v1, zi v2] (zm N I A) = zrun (zc d) (zseg j_X9_look) 0 [zr U 0, zi v0, zi v1, zi v2, zu] [] (zm N I A) := by
  rcases hU with rfl | rfl
  · exact zc_inM (c := 9) (n := 5) rfl kq_7_0 (by decide) (Nat.le_of_ble_eq_true rfl) (by decide) rfl
  · exact zc_inM (c := 9) (n := 5) rfl kq_9_0 (by decide) (Nat.le_of_ble_eq_true rfl) (by decide) rfl
theorem m_X9_close {d N : Nat} {I : Nat → Nat → Int} {A : ZA} {U : Nat} (hU : U = 7 ∨ U = 9) {v0 : Int} {v1 : Int} : zc (d + 1) j_X9_close [zr U 0, zi v0, zi v1] (zm N I A) = zrun (zc d) (zseg j_X9_close) 0 [zr U 0, zi v0, zi v1, zu] [] (zm N I A) := by
  rcases hU with rfl | rfl
  · exact zc_inM (c := 9) (n := 5) rfl kq_7_0 (by decide) (Nat.le_of_ble_eq_true rfl) (by decide) rfl
  · exact zc_inM (c := 9) (n := 5) rfl kq_9_0 (by decide) (Nat.le_of_ble_eq_true rfl) (by decide) rfl
theorem m_X10_init {d N : Nat} {I : Nat → Nat → Int} {A : ZA} {W : Nat} (hW : W = 19 ∨ W = 20)  : zc (d + 1) j_X10_init [zr W 0] (zm N I A) = zrun (zc d) (zseg j_X10_init) 0 [zr W 0] [] (zm N I A) := by
  rcases hW with rfl | rfl
  · exact zc_inM (c := 10) (n := 12) rfl kq_19_0 (by decide) (Nat.le_of_ble_eq_true rfl) (by decide) rfl
  · exact zc_inM (c := 10) (n := 12) rfl kq_20_0 (by decide) (Nat.le_of_ble_eq_true rfl) (by decide) rfl
theorem m_X10_reset {d N : Nat} {I : Nat → Nat → Int} {A : ZA} {W : Nat} (hW : W = 19 ∨ W = 20)  : zc (d + 1) j_X10_reset [zr W 0] (zm N I A) = zrun (zc d) (zseg j_X10_reset) 0 [zr W 0] [] (zm N I A) := by
  rcases hW with rfl | rfl
  · exact zc_inM (c := 10) (n := 12) rfl kq_19_0 (by decide) (Nat.le_of_ble_eq_true rfl) (by decide) rfl
  · exact zc_inM (c := 10) (n := 12) rfl kq_20_0 (by decide) (Nat.le_of_ble_eq_true rfl) (by decide) rfl
theorem m_X10_hasRoller {d N : Nat} {I : Nat → Nat → Int} {A : ZA} {W : Nat} (hW : W = 19 ∨ W = 20) {v0 : Int} : zc (d + 1) j_X10_hasRoller [zr W 0, zi v0] (zm N I A) = zrun (zc d) (zseg j_X10_hasRoller) 0 [zr W 0, zi v0] [] (zm N I A) := by
  rcases hW with rfl | rfl
  · exact zc_inM (c := 10) (n := 12) rfl kq_19_0 (by decide) (Nat.le_of_ble_eq_true rfl) (by decide) rfl
  · exact zc_inM (c := 10) (n := 12) rfl kq_20_0 (by decide) (Nat.le_of_ble_eq_true rfl) (by decide) rfl
theorem m_X10_hasEye {d N : Nat} {I : Nat → Nat → Int} {A : ZA} {W : Nat} (hW : W = 19 ∨ W = 20) {v0 : Int} : zc (d + 1) j_X10_hasEye [zr W 0, zi v0] (zm N I A) = zrun (zc d) (zseg j_X10_hasEye) 0 [zr W 0, zi v0] [] (zm N I A) := by
  rcases hW with rfl | rfl
  · exact zc_inM (c := 10) (n := 12) rfl kq_19_0 (by decide) (Nat.le_of_ble_eq_true rfl) (by decide) rfl
  · exact zc_inM (c := 10) (n := 12) rfl kq_20_0 (by decide) (Nat.le_of_ble_eq_true rfl) (by decide) rfl
theorem m_X10_lastRollerPlace {d N : Nat} {I : Nat → Nat → Int} {A : ZA} {W : Nat} (hW : W = 19 ∨ W = 20)  : zc (d + 1) j_X10_lastRollerPlace [zr W 0] (zm N I A) = zrun (zc d) (zseg j_X10_lastRollerPlace) 0 [zr W 0] [] (zm N I A) := by
  rcases hW with rfl | rfl
  · exact zc_inM (c := 10) (n := 12) rfl kq_19_0 (by decide) (Nat.le_of_ble_eq_true rfl) (by decide) rfl
  · exact zc_inM (c := 10) (n := 12) rfl kq_20_0 (by decide) (Nat.le_of_ble_eq_true rfl) (by decide) rfl
theorem m_X10_lastEyePlace {d N : Nat} {I : Nat → Nat → Int} {A : ZA} {W : Nat} (hW : W = 19 ∨ W = 20)  : zc (d + 1) j_X10_lastEyePlace [zr W 0] (zm N I A) = zrun (zc d) (zseg j_X10_lastEyePlace) 0 [zr W 0] [] (zm N I A) := by
  rcases hW with rfl | rfl
  · exact zc_inM (c := 10) (n := 12) rfl kq_19_0 (by decide) (Nat.le_of_ble_eq_true rfl) (by decide) rfl
  · exact zc_inM (c := 10) (n := 12) rfl kq_20_0 (by decide) (Nat.le_of_ble_eq_true rfl) (by decide) rfl
theorem m_X10_creasesAre {d N : Nat} {I : Nat → Nat → Int} {A : ZA} {W : Nat} (hW : W = 19 ∨ W = 20) {v0 : Int} {v1 : Int} {v2 : Int} {v3 : Int} {v4 : Int} : zc (d + 1) j_X10_creasesAre [zr W 0, zi v0, zi v1, zi v2, zi v3, zi v4] (zm N I A) = zrun (zc d) (zseg j_X10_creasesAre) 0 [zr W 0, zi v0, zi v1, zi v2, zi v3, zi v4, zu, zu, zu, zu] [] (zm N I A) := by
  rcases hW with rfl | rfl
  · exact zc_inM (c := 10) (n := 12) rfl kq_19_0 (by decide) (Nat.le_of_ble_eq_true rfl) (by decide) rfl
  · exact zc_inM (c := 10) (n := 12) rfl kq_20_0 (by decide) (Nat.le_of_ble_eq_true rfl) (by decide) rfl
theorem m_X11_init {d N : Nat} {I : Nat → Nat → Int} {A : ZA}   : zc (d + 1) j_X11_init [zr 2 0] (zm N I A) = zrun (zc d) (zseg j_X11_init) 0 [zr 2 0] [] (zm N I A) := zc_inM (c := 11) (n := 13) rfl kq_2_0 (by decide) (Nat.le_of_ble_eq_true rfl) (by decide) rfl
theorem m_X11_feed {d N : Nat} {I : Nat → Nat → Int} {A : ZA}  {v0 : Int} {v1 : Int} {v2 : Int} {v3 : Int} {v4 : Int} : zc (d + 1) j_X11_feed [zr 2 0, zi v0, zi v1, zi v2, zi v3, zi v4] (zm N I A) = zrun (zc d) (zseg j_X11_feed) 0 [zr 2 0, zi v0, zi v1, zi v2, zi v3, zi v4] [] (zm N I A) := zc_inM (c := 11) (n := 13) rfl kq_2_0 (by decide) (Nat.le_of_ble_eq_true rfl) (by decide) rfl
theorem m_X11_text {d N : Nat} {I : Nat → Nat → Int} {A : ZA}  {v0 : Int} : zc (d + 1) j_X11_text [zr 2 0, zi v0] (zm N I A) = zrun (zc d) (zseg j_X11_text) 0 [zr 2 0, zi v0, zu, zu] [] (zm N I A) := zc_inM (c := 11) (n := 13) rfl kq_2_0 (by decide) (Nat.le_of_ble_eq_true rfl) (by decide) rfl
theorem m_X11_fault {d N : Nat} {I : Nat → Nat → Int} {A : ZA}  {v0 : Int} : zc (d + 1) j_X11_fault [zr 2 0, zi v0] (zm N I A) = zrun (zc d) (zseg j_X11_fault) 0 [zr 2 0, zi v0] [] (zm N I A) := zc_inM (c := 11) (n := 13) rfl kq_2_0 (by decide) (Nat.le_of_ble_eq_true rfl) (by decide) rfl
theorem m_X11_set {d N : Nat} {I : Nat → Nat → Int} {A : ZA}  {v0 : Int} {v1 : Int} {v2 : Int} : zc (d + 1) j_X11_set [zr 2 0, zi v0, zi v1, zi v2] (zm N I A) = zrun (zc d) (zseg j_X11_set) 0 [zr 2 0, zi v0, zi v1, zi v2] [] (zm N I A) := zc_inM (c := 11) (n := 13) rfl kq_2_0 (by decide) (Nat.le_of_ble_eq_true rfl) (by decide) rfl
theorem m_X11_corner {d N : Nat} {I : Nat → Nat → Int} {A : ZA}  {v0 : Int} {v1 : Int} : zc (d + 1) j_X11_corner [zr 2 0, zi v0, zi v1] (zm N I A) = zrun (zc d) (zseg j_X11_corner) 0 [zr 2 0, zi v0, zi v1] [] (zm N I A) := zc_inM (c := 11) (n := 13) rfl kq_2_0 (by decide) (Nat.le_of_ble_eq_true rfl) (by decide) rfl
theorem m_X11_lay {d N : Nat} {I : Nat → Nat → Int} {A : ZA}  {v0 : Int} {v1 : Int} : zc (d + 1) j_X11_lay [zr 2 0, zi v0, zi v1] (zm N I A) = zrun (zc d) (zseg j_X11_lay) 0 [zr 2 0, zi v0, zi v1] [] (zm N I A) := zc_inM (c := 11) (n := 13) rfl kq_2_0 (by decide) (Nat.le_of_ble_eq_true rfl) (by decide) rfl
theorem m_X11_tick {d N : Nat} {I : Nat → Nat → Int} {A : ZA}  {v0 : Int} : zc (d + 1) j_X11_tick [zr 2 0, zi v0] (zm N I A) = zrun (zc d) (zseg j_X11_tick) 0 [zr 2 0, zi v0, zu] [] (zm N I A) := zc_inM (c := 11) (n := 13) rfl kq_2_0 (by decide) (Nat.le_of_ble_eq_true rfl) (by decide) rfl
theorem m_X11_sheet {d N : Nat} {I : Nat → Nat → Int} {A : ZA}  {v0 : Int} {v1 : Int} : zc (d + 1) j_X11_sheet [zr 2 0, zi v0, zi v1] (zm N I A) = zrun (zc d) (zseg j_X11_sheet) 0 [zr 2 0, zi v0, zi v1] [] (zm N I A) := zc_inM (c := 11) (n := 13) rfl kq_2_0 (by decide) (Nat.le_of_ble_eq_true rfl) (by decide) rfl
theorem m_X11_clear {d N : Nat} {I : Nat → Nat → Int} {A : ZA}  {v0 : Int} : zc (d + 1) j_X11_clear [zr 2 0, zi v0] (zm N I A) = zrun (zc d) (zseg j_X11_clear) 0 [zr 2 0, zi v0, zu, zu] [] (zm N I A) := zc_inM (c := 11) (n := 13) rfl kq_2_0 (by decide) (Nat.le_of_ble_eq_true rfl) (by decide) rfl
theorem m_X11_sees {d N : Nat} {I : Nat → Nat → Int} {A : ZA}  {v0 : Int} : zc (d + 1) j_X11_sees [zr 2 0, zi v0] (zm N I A) = zrun (zc d) (zseg j_X11_sees) 0 [zr 2 0, zi v0] [] (zm N I A) := zc_inM (c := 11) (n := 13) rfl kq_2_0 (by decide) (Nat.le_of_ble_eq_true rfl) (by decide) rfl
theorem m_X11_passing {d N : Nat} {I : Nat → Nat → Int} {A : ZA}  {v0 : Int} {v1 : Int} {v2 : Int} : zc (d + 1) j_X11_passing [zr 2 0, zi v0, zi v1, zi v2] (zm N I A) = zrun (zc d) (zseg j_X11_passing) 0 [zr 2 0, zi v0, zi v1, zi v2] [] (zm N I A) := zc_inM (c := 11) (n := 13) rfl kq_2_0 (by decide) (Nat.le_of_ble_eq_true rfl) (by decide) rfl
theorem m_X11_saw {d N : Nat} {I : Nat → Nat → Int} {A : ZA}  {v0 : Int} {v1 : Int} {v2 : Int} : zc (d + 1) j_X11_saw [zr 2 0, zi v0, zi v1, zi v2] (zm N I A) = zrun (zc d) (zseg j_X11_saw) 0 [zr 2 0, zi v0, zi v1, zi v2] [] (zm N I A) := zc_inM (c := 11) (n := 13) rfl kq_2_0 (by decide) (Nat.le_of_ble_eq_true rfl) (by decide) rfl
theorem m_X11_forget {d N : Nat} {I : Nat → Nat → Int} {A : ZA}   : zc (d + 1) j_X11_forget [zr 2 0] (zm N I A) = zrun (zc d) (zseg j_X11_forget) 0 [zr 2 0] [] (zm N I A) := zc_inM (c := 11) (n := 13) rfl kq_2_0 (by decide) (Nat.le_of_ble_eq_true rfl) (by decide) rfl
theorem m_X11_explain {d N : Nat} {I : Nat → Nat → Int} {A : ZA}  {v0 : Int} {v1 : Int} : zc (d + 1) j_X11_explain [zr 2 0, zi v0, zi v1] (zm N I A) = zrun (zc d) (zseg j_X11_explain) 0 [zr 2 0, zi v0, zi v1] [] (zm N I A) := zc_inM (c := 11) (n := 13) rfl kq_2_0 (by decide) (Nat.le_of_ble_eq_true rfl) (by decide) rfl
theorem m_X11_foretold {d N : Nat} {I : Nat → Nat → Int} {A : ZA}  {v0 : Int} {v1 : Int} {v2 : Int} : zc (d + 1) j_X11_foretold [zr 2 0, zi v0, zi v1, zi v2] (zm N I A) = zrun (zc d) (zseg j_X11_foretold) 0 [zr 2 0, zi v0, zi v1, zi v2] [] (zm N I A) := zc_inM (c := 11) (n := 13) rfl kq_2_0 (by decide) (Nat.le_of_ble_eq_true rfl) (by decide) rfl
theorem m_X11_crease {d N : Nat} {I : Nat → Nat → Int} {A : ZA}  {v0 : Int} {v1 : Int} {v2 : Int} {v3 : Int} {v4 : Int} : zc (d + 1) j_X11_crease [zr 2 0, zi v0, zi v1, zi v2, zi v3, zi v4] (zm N I A) = zrun (zc d) (zseg j_X11_crease) 0 [zr 2 0, zi v0, zi v1, zi v2, zi v3, zi v4, zu, zu] [] (zm N I A) := zc_inM (c := 11) (n := 13) rfl kq_2_0 (by decide) (Nat.le_of_ble_eq_true rfl) (by decide) rfl
theorem m_X11_page {d N : Nat} {I : Nat → Nat → Int} {A : ZA}  {v0 : Int} {v1 : Int} : zc (d + 1) j_X11_page [zr 2 0, zi v0, zi v1] (zm N I A) = zrun (zc d) (zseg j_X11_page) 0 [zr 2 0, zi v0, zi v1] [] (zm N I A) := zc_inM (c := 11) (n := 13) rfl kq_2_0 (by decide) (Nat.le_of_ble_eq_true rfl) (by decide) rfl
theorem m_X11_tray {d N : Nat} {I : Nat → Nat → Int} {A : ZA}  {v0 : Int} {v1 : Int} {v2 : Int} : zc (d + 1) j_X11_tray [zr 2 0, zi v0, zi v1, zi v2] (zm N I A) = zrun (zc d) (zseg j_X11_tray) 0 [zr 2 0, zi v0, zi v1, zi v2] [] (zm N I A) := zc_inM (c := 11) (n := 13) rfl kq_2_0 (by decide) (Nat.le_of_ble_eq_true rfl) (by decide) rfl
theorem m_X11_pocket {d N : Nat} {I : Nat → Nat → Int} {A : ZA}  {v0 : Int} {v1 : Int} : zc (d + 1) j_X11_pocket [zr 2 0, zi v0, zi v1] (zm N I A) = zrun (zc d) (zseg j_X11_pocket) 0 [zr 2 0, zi v0, zi v1] [] (zm N I A) := zc_inM (c := 11) (n := 13) rfl kq_2_0 (by decide) (Nat.le_of_ble_eq_true rfl) (by decide) rfl
theorem m_X11_heat {d N : Nat} {I : Nat → Nat → Int} {A : ZA}  {v0 : Int} {v1 : Int} {v2 : Int} {v3 : Int} : zc (d + 1) j_X11_heat [zr 2 0, zi v0, zi v1, zi v2, zi v3] (zm N I A) = zrun (zc d) (zseg j_X11_heat) 0 [zr 2 0, zi v0, zi v1, zi v2, zi v3, zu] [] (zm N I A) := zc_inM (c := 11) (n := 13) rfl kq_2_0 (by decide) (Nat.le_of_ble_eq_true rfl) (by decide) rfl
theorem m_X11_plan {d N : Nat} {I : Nat → Nat → Int} {A : ZA}  {v0 : Int} : zc (d + 1) j_X11_plan [zr 2 0, zi v0] (zm N I A) = zrun (zc d) (zseg j_X11_plan) 0 [zr 2 0, zi v0] [] (zm N I A) := zc_inM (c := 11) (n := 13) rfl kq_2_0 (by decide) (Nat.le_of_ble_eq_true rfl) (by decide) rfl
theorem m_X11_copies {d N : Nat} {I : Nat → Nat → Int} {A : ZA}  {v0 : Int} : zc (d + 1) j_X11_copies [zr 2 0, zi v0] (zm N I A) = zrun (zc d) (zseg j_X11_copies) 0 [zr 2 0, zi v0, zu] [] (zm N I A) := zc_inM (c := 11) (n := 13) rfl kq_2_0 (by decide) (Nat.le_of_ble_eq_true rfl) (by decide) rfl
theorem m_X11_out {d N : Nat} {I : Nat → Nat → Int} {A : ZA}  {v0 : Int} : zc (d + 1) j_X11_out [zr 2 0, zi v0] (zm N I A) = zrun (zc d) (zseg j_X11_out) 0 [zr 2 0, zi v0] [] (zm N I A) := zc_inM (c := 11) (n := 13) rfl kq_2_0 (by decide) (Nat.le_of_ble_eq_true rfl) (by decide) rfl
theorem m_X11_empty {d N : Nat} {I : Nat → Nat → Int} {A : ZA}   : zc (d + 1) j_X11_empty [zr 2 0] (zm N I A) = zrun (zc d) (zseg j_X11_empty) 0 [zr 2 0, zu] [] (zm N I A) := zc_inM (c := 11) (n := 13) rfl kq_2_0 (by decide) (Nat.le_of_ble_eq_true rfl) (by decide) rfl
theorem m_X11_again {d N : Nat} {I : Nat → Nat → Int} {A : ZA}  {v0 : Int} : zc (d + 1) j_X11_again [zr 2 0, zi v0] (zm N I A) = zrun (zc d) (zseg j_X11_again) 0 [zr 2 0, zi v0] [] (zm N I A) := zc_inM (c := 11) (n := 13) rfl kq_2_0 (by decide) (Nat.le_of_ble_eq_true rfl) (by decide) rfl
theorem m_X11_lack {d N : Nat} {I : Nat → Nat → Int} {A : ZA}  {v0 : Int} : zc (d + 1) j_X11_lack [zr 2 0, zi v0] (zm N I A) = zrun (zc d) (zseg j_X11_lack) 0 [zr 2 0, zi v0] [] (zm N I A) := zc_inM (c := 11) (n := 13) rfl kq_2_0 (by decide) (Nat.le_of_ble_eq_true rfl) (by decide) rfl
theorem m_X11_kept {d N : Nat} {I : Nat → Nat → Int} {A : ZA}  {v0 : Int} : zc (d + 1) j_X11_kept [zr 2 0, zi v0] (zm N I A) = zrun (zc d) (zseg j_X11_kept) 0 [zr 2 0, zi v0] [] (zm N I A) := zc_inM (c := 11) (n := 13) rfl kq_2_0 (by decide) (Nat.le_of_ble_eq_true rfl) (by decide) rfl
theorem m_X11_pay {d N : Nat} {I : Nat → Nat → Int} {A : ZA}  {v0 : Int} {v1 : Int} {v2 : Int} : zc (d + 1) j_X11_pay [zr 2 0, zi v0, zi v1, zi v2] (zm N I A) = zrun (zc d) (zseg j_X11_pay) 0 [zr 2 0, zi v0, zi v1, zi v2, zu, zu] [] (zm N I A) := zc_inM (c := 11) (n := 13) rfl kq_2_0 (by decide) (Nat.le_of_ble_eq_true rfl) (by decide) rfl
theorem m_X11_part {d N : Nat} {I : Nat → Nat → Int} {A : ZA}  {v0 : Int} {v1 : Int} {v2 : Int} {v3 : Int} : zc (d + 1) j_X11_part [zr 2 0, zi v0, zi v1, zi v2, zi v3] (zm N I A) = zrun (zc d) (zseg j_X11_part) 0 [zr 2 0, zi v0, zi v1, zi v2, zi v3] [] (zm N I A) := zc_inM (c := 11) (n := 13) rfl kq_2_0 (by decide) (Nat.le_of_ble_eq_true rfl) (by decide) rfl
theorem m_X11_service {d N : Nat} {I : Nat → Nat → Int} {A : ZA}  {v0 : Int} {v1 : Int} {v2 : Int} : zc (d + 1) j_X11_service [zr 2 0, zi v0, zi v1, zi v2] (zm N I A) = zrun (zc d) (zseg j_X11_service) 0 [zr 2 0, zi v0, zi v1, zi v2] [] (zm N I A) := zc_inM (c := 11) (n := 13) rfl kq_2_0 (by decide) (Nat.le_of_ble_eq_true rfl) (by decide) rfl
theorem m_X11_row {d N : Nat} {I : Nat → Nat → Int} {A : ZA}  {v0 : Int} {v1 : Int} {v2 : Int} : zc (d + 1) j_X11_row [zr 2 0, zi v0, zi v1, zi v2] (zm N I A) = zrun (zc d) (zseg j_X11_row) 0 [zr 2 0, zi v0, zi v1, zi v2] [] (zm N I A) := zc_inM (c := 11) (n := 13) rfl kq_2_0 (by decide) (Nat.le_of_ble_eq_true rfl) (by decide) rfl
theorem m_X11_write {d N : Nat} {I : Nat → Nat → Int} {A : ZA}  {v0 : Int} {v1 : Int} {v2 : Int} : zc (d + 1) j_X11_write [zr 2 0, zi v0, zi v1, zl v2] (zm N I A) = zrun (zc d) (zseg j_X11_write) 0 [zr 2 0, zi v0, zi v1, zl v2, zu] [] (zm N I A) := zc_inM (c := 11) (n := 13) rfl kq_2_0 (by decide) (Nat.le_of_ble_eq_true rfl) (by decide) rfl
theorem m_X11_save {d N : Nat} {I : Nat → Nat → Int} {A : ZA}  {v0 : Int} : zc (d + 1) j_X11_save [zr 2 0, zi v0] (zm N I A) = zrun (zc d) (zseg j_X11_save) 0 [zr 2 0, zi v0, zu] [] (zm N I A) := zc_inM (c := 11) (n := 13) rfl kq_2_0 (by decide) (Nat.le_of_ble_eq_true rfl) (by decide) rfl
theorem m_X11_load {d N : Nat} {I : Nat → Nat → Int} {A : ZA}  {v0 : Int} {v1 : Int} : zc (d + 1) j_X11_load [zr 2 0, zi v0, zi v1] (zm N I A) = zrun (zc d) (zseg j_X11_load) 0 [zr 2 0, zi v0, zi v1, zu] [] (zm N I A) := zc_inM (c := 11) (n := 13) rfl kq_2_0 (by decide) (Nat.le_of_ble_eq_true rfl) (by decide) rfl
theorem m_X11_image {d N : Nat} {I : Nat → Nat → Int} {A : ZA}  {v0 : Int} : zc (d + 1) j_X11_image [zr 2 0, zi v0] (zm N I A) = zrun (zc d) (zseg j_X11_image) 0 [zr 2 0, zi v0] [] (zm N I A) := zc_inM (c := 11) (n := 13) rfl kq_2_0 (by decide) (Nat.le_of_ble_eq_true rfl) (by decide) rfl
theorem m_X11_restore {d N : Nat} {I : Nat → Nat → Int} {A : ZA}  {v0 : Int} : zc (d + 1) j_X11_restore [zr 2 0, zi v0] (zm N I A) = zrun (zc d) (zseg j_X11_restore) 0 [zr 2 0, zi v0] [] (zm N I A) := zc_inM (c := 11) (n := 13) rfl kq_2_0 (by decide) (Nat.le_of_ble_eq_true rfl) (by decide) rfl
theorem m_X11_count {d N : Nat} {I : Nat → Nat → Int} {A : ZA}  {v0 : Int} : zc (d + 1) j_X11_count [zr 2 0, zi v0] (zm N I A) = zrun (zc d) (zseg j_X11_count) 0 [zr 2 0, zi v0] [] (zm N I A) := zc_inM (c := 11) (n := 13) rfl kq_2_0 (by decide) (Nat.le_of_ble_eq_true rfl) (by decide) rfl
theorem m_X11_countOfSet {d N : Nat} {I : Nat → Nat → Int} {A : ZA}  {v0 : Int} : zc (d + 1) j_X11_countOfSet [zr 2 0, zi v0] (zm N I A) = zrun (zc d) (zseg j_X11_countOfSet) 0 [zr 2 0, zi v0] [] (zm N I A) := zc_inM (c := 11) (n := 13) rfl kq_2_0 (by decide) (Nat.le_of_ble_eq_true rfl) (by decide) rfl
theorem m_X11_isSheetLength {d : Nat} {μ : ZM} {v0 : Int} : zc (d + 1) j_X11_isSheetLength [zi v0] μ = zrun (zc d) (zseg j_X11_isSheetLength) 0 [zi v0] [] μ := zc_in rfl (Nat.le_of_ble_eq_true rfl) (by decide) rfl
theorem m_X11_isCreaseRow {d : Nat} {μ : ZM} {v0 : Int} {v1 : Int} {v2 : Int} : zc (d + 1) j_X11_isCreaseRow [zi v0, zi v1, zi v2] μ = zrun (zc d) (zseg j_X11_isCreaseRow) 0 [zi v0, zi v1, zi v2] [] μ := zc_in rfl (Nat.le_of_ble_eq_true rfl) (by decide) rfl
theorem m_X11_isCrease {d : Nat} {μ : ZM} {v0 : Int} : zc (d + 1) j_X11_isCrease [zi v0] μ = zrun (zc d) (zseg j_X11_isCrease) 0 [zi v0] [] μ := zc_in rfl (Nat.le_of_ble_eq_true rfl) (by decide) rfl
theorem m_X11_falls {d : Nat} {μ : ZM} {v0 : Int} {v1 : Int} : zc (d + 1) j_X11_falls [zi v0, zi v1] μ = zrun (zc d) (zseg j_X11_falls) 0 [zi v0, zi v1] [] μ := zc_in rfl (Nat.le_of_ble_eq_true rfl) (by decide) rfl
theorem m_X12_within {d : Nat} {μ : ZM} {v0 : Int} {v1 : Int} {v2 : Int} : zc (d + 1) j_X12_within [zl v0, zl v1, zl v2] μ = zrun (zc d) (zseg j_X12_within) 0 [zl v0, zu, zl v1, zu, zl v2, zu] [] μ := zc_in rfl (Nat.le_of_ble_eq_true rfl) (by decide) rfl
theorem m_X12_init {d N : Nat} {I : Nat → Nat → Int} {A : ZA}   : zc (d + 1) j_X12_init [zr 1 0] (zm N I A) = zrun (zc d) (zseg j_X12_init) 0 [zr 1 0] [] (zm N I A) := zc_inM (c := 12) (n := 69) rfl kq_1_0 (by decide) (Nat.le_of_ble_eq_true rfl) (by decide) rfl
theorem m_X12_begins {d N : Nat} {I : Nat → Nat → Int} {A : ZA}   : zc (d + 1) j_X12_begins [zr 1 0] (zm N I A) = zrun (zc d) (zseg j_X12_begins) 0 [zr 1 0, zu] [] (zm N I A) := zc_inM (c := 12) (n := 69) rfl kq_1_0 (by decide) (Nat.le_of_ble_eq_true rfl) (by decide) rfl
theorem m_X12_becomes {d N : Nat} {I : Nat → Nat → Int} {A : ZA}   : zc (d + 1) j_X12_becomes [zr 1 0] (zm N I A) = zrun (zc d) (zseg j_X12_becomes) 0 [zr 1 0, zu] [] (zm N I A) := zc_inM (c := 12) (n := 69) rfl kq_1_0 (by decide) (Nat.le_of_ble_eq_true rfl) (by decide) rfl
theorem m_X12_feed {d N : Nat} {I : Nat → Nat → Int} {A : ZA}  {v0 : Int} {v1 : Int} {v2 : Int} {v3 : Int} {v4 : Int} : zc (d + 1) j_X12_feed [zr 1 0, zi v0, zi v1, zi v2, zi v3, zi v4] (zm N I A) = zrun (zc d) (zseg j_X12_feed) 0 [zr 1 0, zi v0, zi v1, zi v2, zi v3, zi v4, zu, zu] [] (zm N I A) := zc_inM (c := 12) (n := 69) rfl kq_1_0 (by decide) (Nat.le_of_ble_eq_true rfl) (by decide) rfl
theorem m_X12_see {d N : Nat} {I : Nat → Nat → Int} {A : ZA}  {v0 : Int} : zc (d + 1) j_X12_see [zr 1 0, zi v0] (zm N I A) = zrun (zc d) (zseg j_X12_see) 0 [zr 1 0, zi v0] [] (zm N I A) := zc_inM (c := 12) (n := 69) rfl kq_1_0 (by decide) (Nat.le_of_ble_eq_true rfl) (by decide) rfl
theorem m_X12_isSmall {d : Nat} {μ : ZM} {v0 : Int} : zc (d + 1) j_X12_isSmall [zi v0] μ = zrun (zc d) (zseg j_X12_isSmall) 0 [zi v0] [] μ := zc_in rfl (Nat.le_of_ble_eq_true rfl) (by decide) rfl
theorem m_X12_isDigit {d : Nat} {μ : ZM} {v0 : Int} : zc (d + 1) j_X12_isDigit [zi v0] μ = zrun (zc d) (zseg j_X12_isDigit) 0 [zi v0] [] μ := zc_in rfl (Nat.le_of_ble_eq_true rfl) (by decide) rfl
theorem m_X12_keyAt {d N : Nat} {I : Nat → Nat → Int} {A : ZA}   : zc (d + 1) j_X12_keyAt [zr 1 0] (zm N I A) = zrun (zc d) (zseg j_X12_keyAt) 0 [zr 1 0, zu, zu, zu] [] (zm N I A) := zc_inM (c := 12) (n := 69) rfl kq_1_0 (by decide) (Nat.le_of_ble_eq_true rfl) (by decide) rfl
theorem m_X12_next {d N : Nat} {I : Nat → Nat → Int} {A : ZA}   : zc (d + 1) j_X12_next [zr 1 0] (zm N I A) = zrun (zc d) (zseg j_X12_next) 0 [zr 1 0] [] (zm N I A) := zc_inM (c := 12) (n := 69) rfl kq_1_0 (by decide) (Nat.le_of_ble_eq_true rfl) (by decide) rfl
theorem m_X12_fails {d N : Nat} {I : Nat → Nat → Int} {A : ZA}  {v0 : Int} : zc (d + 1) j_X12_fails [zr 1 0, zi v0] (zm N I A) = zrun (zc d) (zseg j_X12_fails) 0 [zr 1 0, zi v0] [] (zm N I A) := zc_inM (c := 12) (n := 69) rfl kq_1_0 (by decide) (Nat.le_of_ble_eq_true rfl) (by decide) rfl
theorem m_X12_is {d N : Nat} {I : Nat → Nat → Int} {A : ZA}  {v0 : Int} : zc (d + 1) j_X12_is [zr 1 0, zi v0] (zm N I A) = zrun (zc d) (zseg j_X12_is) 0 [zr 1 0, zi v0] [] (zm N I A) := zc_inM (c := 12) (n := 69) rfl kq_1_0 (by decide) (Nat.le_of_ble_eq_true rfl) (by decide) rfl
theorem m_X12_needs {d N : Nat} {I : Nat → Nat → Int} {A : ZA}  {v0 : Int} : zc (d + 1) j_X12_needs [zr 1 0, zi v0] (zm N I A) = zrun (zc d) (zseg j_X12_needs) 0 [zr 1 0, zi v0] [] (zm N I A) := zc_inM (c := 12) (n := 69) rfl kq_1_0 (by decide) (Nat.le_of_ble_eq_true rfl) (by decide) rfl
theorem m_X12_reads {d N : Nat} {I : Nat → Nat → Int} {A : ZA}  {v0 : Int} {v1 : Int} : zc (d + 1) j_X12_reads [zr 1 0, zi v0, zi v1] (zm N I A) = zrun (zc d) (zseg j_X12_reads) 0 [zr 1 0, zi v0, zi v1, zu] [] (zm N I A) := zc_inM (c := 12) (n := 69) rfl kq_1_0 (by decide) (Nat.le_of_ble_eq_true rfl) (by decide) rfl
theorem m_X12_readsRoller {d N : Nat} {I : Nat → Nat → Int} {A : ZA}   : zc (d + 1) j_X12_readsRoller [zr 1 0] (zm N I A) = zrun (zc d) (zseg j_X12_readsRoller) 0 [zr 1 0, zu, zu] [] (zm N I A) := zc_inM (c := 12) (n := 69) rfl kq_1_0 (by decide) (Nat.le_of_ble_eq_true rfl) (by decide) rfl
theorem m_X12_readsEye {d N : Nat} {I : Nat → Nat → Int} {A : ZA}   : zc (d + 1) j_X12_readsEye [zr 1 0] (zm N I A) = zrun (zc d) (zseg j_X12_readsEye) 0 [zr 1 0, zu] [] (zm N I A) := zc_inM (c := 12) (n := 69) rfl kq_1_0 (by decide) (Nat.le_of_ble_eq_true rfl) (by decide) rfl
theorem m_X12_readsTurn {d N : Nat} {I : Nat → Nat → Int} {A : ZA}   : zc (d + 1) j_X12_readsTurn [zr 1 0] (zm N I A) = zrun (zc d) (zseg j_X12_readsTurn) 0 [zr 1 0] [] (zm N I A) := zc_inM (c := 12) (n := 69) rfl kq_1_0 (by decide) (Nat.le_of_ble_eq_true rfl) (by decide) rfl
theorem m_X12_readsDamp {d N : Nat} {I : Nat → Nat → Int} {A : ZA}   : zc (d + 1) j_X12_readsDamp [zr 1 0] (zm N I A) = zrun (zc d) (zseg j_X12_readsDamp) 0 [zr 1 0] [] (zm N I A) := zc_inM (c := 12) (n := 69) rfl kq_1_0 (by decide) (Nat.le_of_ble_eq_true rfl) (by decide) rfl
theorem m_X12_text {d N : Nat} {I : Nat → Nat → Int} {A : ZA}  {v0 : Int} : zc (d + 1) j_X12_text [zr 1 0, zi v0] (zm N I A) = zrun (zc d) (zseg j_X12_text) 0 [zr 1 0, zi v0] [] (zm N I A) := zc_inM (c := 12) (n := 69) rfl kq_1_0 (by decide) (Nat.le_of_ble_eq_true rfl) (by decide) rfl
theorem m_X12_fault {d N : Nat} {I : Nat → Nat → Int} {A : ZA}  {v0 : Int} : zc (d + 1) j_X12_fault [zr 1 0, zi v0] (zm N I A) = zrun (zc d) (zseg j_X12_fault) 0 [zr 1 0, zi v0] [] (zm N I A) := zc_inM (c := 12) (n := 69) rfl kq_1_0 (by decide) (Nat.le_of_ble_eq_true rfl) (by decide) rfl
theorem m_X12_isRoller {d N : Nat} {I : Nat → Nat → Int} {A : ZA}  {v0 : Int} : zc (d + 1) j_X12_isRoller [zr 1 0, zi v0] (zm N I A) = zrun (zc d) (zseg j_X12_isRoller) 0 [zr 1 0, zi v0] [] (zm N I A) := zc_inM (c := 12) (n := 69) rfl kq_1_0 (by decide) (Nat.le_of_ble_eq_true rfl) (by decide) rfl
theorem m_X12_isEye {d N : Nat} {I : Nat → Nat → Int} {A : ZA}  {v0 : Int} : zc (d + 1) j_X12_isEye [zr 1 0, zi v0] (zm N I A) = zrun (zc d) (zseg j_X12_isEye) 0 [zr 1 0, zi v0] [] (zm N I A) := zc_inM (c := 12) (n := 69) rfl kq_1_0 (by decide) (Nat.le_of_ble_eq_true rfl) (by decide) rfl
theorem m_X12_set {d N : Nat} {I : Nat → Nat → Int} {A : ZA}  {v0 : Int} {v1 : Int} {v2 : Int} : zc (d + 1) j_X12_set [zr 1 0, zi v0, zi v1, zi v2] (zm N I A) = zrun (zc d) (zseg j_X12_set) 0 [zr 1 0, zi v0, zi v1, zi v2, zu] [] (zm N I A) := zc_inM (c := 12) (n := 69) rfl kq_1_0 (by decide) (Nat.le_of_ble_eq_true rfl) (by decide) rfl
theorem m_X12_cornerOf {d N : Nat} {I : Nat → Nat → Int} {A : ZA}  {v0 : Int} : zc (d + 1) j_X12_cornerOf [zr 1 0, zi v0] (zm N I A) = zrun (zc d) (zseg j_X12_cornerOf) 0 [zr 1 0, zi v0, zu] [] (zm N I A) := zc_inM (c := 12) (n := 69) rfl kq_1_0 (by decide) (Nat.le_of_ble_eq_true rfl) (by decide) rfl
theorem m_X12_leaves {d N : Nat} {I : Nat → Nat → Int} {A : ZA}  {v0 : Int} : zc (d + 1) j_X12_leaves [zr 1 0, zi v0] (zm N I A) = zrun (zc d) (zseg j_X12_leaves) 0 [zr 1 0, zi v0] [] (zm N I A) := zc_inM (c := 12) (n := 69) rfl kq_1_0 (by decide) (Nat.le_of_ble_eq_true rfl) (by decide) rfl
theorem m_X12_corner {d N : Nat} {I : Nat → Nat → Int} {A : ZA}  {v0 : Int} {v1 : Int} : zc (d + 1) j_X12_corner [zr 1 0, zi v0, zi v1] (zm N I A) = zrun (zc d) (zseg j_X12_corner) 0 [zr 1 0, zi v0, zi v1, zu] [] (zm N I A) := zc_inM (c := 12) (n := 69) rfl kq_1_0 (by decide) (Nat.le_of_ble_eq_true rfl) (by decide) rfl
theorem m_X12_isGoing {d N : Nat} {I : Nat → Nat → Int} {A : ZA}  {v0 : Int} : zc (d + 1) j_X12_isGoing [zr 1 0, zi v0] (zm N I A) = zrun (zc d) (zseg j_X12_isGoing) 0 [zr 1 0, zi v0] [] (zm N I A) := zc_inM (c := 12) (n := 69) rfl kq_1_0 (by decide) (Nat.le_of_ble_eq_true rfl) (by decide) rfl
theorem m_X12_tail {d N : Nat} {I : Nat → Nat → Int} {A : ZA}  {v0 : Int} : zc (d + 1) j_X12_tail [zr 1 0, zi v0] (zm N I A) = zrun (zc d) (zseg j_X12_tail) 0 [zr 1 0, zi v0] [] (zm N I A) := zc_inM (c := 12) (n := 69) rfl kq_1_0 (by decide) (Nat.le_of_ble_eq_true rfl) (by decide) rfl
theorem m_X12_isOver {d N : Nat} {I : Nat → Nat → Int} {A : ZA}  {v0 : Int} {v1 : Int} : zc (d + 1) j_X12_isOver [zr 1 0, zi v0, zi v1] (zm N I A) = zrun (zc d) (zseg j_X12_isOver) 0 [zr 1 0, zi v0, zi v1, zu] [] (zm N I A) := zc_inM (c := 12) (n := 69) rfl kq_1_0 (by decide) (Nat.le_of_ble_eq_true rfl) (by decide) rfl
theorem m_X12_lay {d N : Nat} {I : Nat → Nat → Int} {A : ZA}  {v0 : Int} {v1 : Int} : zc (d + 1) j_X12_lay [zr 1 0, zi v0, zi v1] (zm N I A) = zrun (zc d) (zseg j_X12_lay) 0 [zr 1 0, zi v0, zi v1] [] (zm N I A) := zc_inM (c := 12) (n := 69) rfl kq_1_0 (by decide) (Nat.le_of_ble_eq_true rfl) (by decide) rfl
theorem m_X12_drive {d N : Nat} {I : Nat → Nat → Int} {A : ZA}  {v0 : Int} {v1 : Int} {v2 : Int} {q3 p3 : Nat} {q4 p4 : Nat} : zc (d + 1) j_X12_drive [zr 1 0, zi v0, zi v1, zi v2, zr q3 p3, zr q4 p4] (zm N I A) = zrun (zc d) (zseg j_X12_drive) 0 [zr 1 0, zi v0, zi v1, zi v2, zr q3 p3, zr q4 p4, zu, zu, zu, zu, zu] [] (zm N I A) := zc_inM (c := 12) (n := 69) rfl kq_1_0 (by decide) (Nat.le_of_ble_eq_true rfl) (by decide) rfl
theorem m_X12_bound {d : Nat} {μ : ZM} {v0 : Int} {v1 : Int} {q2 p2 : Nat} {v3 : Int} : zc (d + 1) j_X12_bound [zi v0, zi v1, zr q2 p2, zi v3] μ = zrun (zc d) (zseg j_X12_bound) 0 [zi v0, zi v1, zr q2 p2, zi v3, zu, zu] [] μ := zc_in rfl (Nat.le_of_ble_eq_true rfl) (by decide) rfl
theorem m_X12_ahead {d N : Nat} {I : Nat → Nat → Int} {A : ZA}  {v0 : Int} : zc (d + 1) j_X12_ahead [zr 1 0, zi v0] (zm N I A) = zrun (zc d) (zseg j_X12_ahead) 0 [zr 1 0, zi v0, zu, zu] [] (zm N I A) := zc_inM (c := 12) (n := 69) rfl kq_1_0 (by decide) (Nat.le_of_ble_eq_true rfl) (by decide) rfl
theorem m_X12_inPocket {d N : Nat} {I : Nat → Nat → Int} {A : ZA}   : zc (d + 1) j_X12_inPocket [zr 1 0] (zm N I A) = zrun (zc d) (zseg j_X12_inPocket) 0 [zr 1 0, zu, zu] [] (zm N I A) := zc_inM (c := 12) (n := 69) rfl kq_1_0 (by decide) (Nat.le_of_ble_eq_true rfl) (by decide) rfl
theorem m_X12_waits {d N : Nat} {I : Nat → Nat → Int} {A : ZA}  {v0 : Int} : zc (d + 1) j_X12_waits [zr 1 0, zi v0] (zm N I A) = zrun (zc d) (zseg j_X12_waits) 0 [zr 1 0, zi v0] [] (zm N I A) := zc_inM (c := 12) (n := 69) rfl kq_1_0 (by decide) (Nat.le_of_ble_eq_true rfl) (by decide) rfl
theorem m_X12_waitsNow {d N : Nat} {I : Nat → Nat → Int} {A : ZA}  {v0 : Int} : zc (d + 1) j_X12_waitsNow [zr 1 0, zi v0] (zm N I A) = zrun (zc d) (zseg j_X12_waitsNow) 0 [zr 1 0, zi v0] [] (zm N I A) := zc_inM (c := 12) (n := 69) rfl kq_1_0 (by decide) (Nat.le_of_ble_eq_true rfl) (by decide) rfl
theorem m_X12_goes {d N : Nat} {I : Nat → Nat → Int} {A : ZA}  {v0 : Int} : zc (d + 1) j_X12_goes [zr 1 0, zi v0] (zm N I A) = zrun (zc d) (zseg j_X12_goes) 0 [zr 1 0, zi v0, zu, zu] [] (zm N I A) := zc_inM (c := 12) (n := 69) rfl kq_1_0 (by decide) (Nat.le_of_ble_eq_true rfl) (by decide) rfl
theorem m_X12_ticks {d N : Nat} {I : Nat → Nat → Int} {A : ZA}   : zc (d + 1) j_X12_ticks [zr 1 0] (zm N I A) = zrun (zc d) (zseg j_X12_ticks) 0 [zr 1 0, zu, zu, zu] [] (zm N I A) := zc_inM (c := 12) (n := 69) rfl kq_1_0 (by decide) (Nat.le_of_ble_eq_true rfl) (by decide) rfl
theorem m_X12_comesBack {d N : Nat} {I : Nat → Nat → Int} {A : ZA}   : zc (d + 1) j_X12_comesBack [zr 1 0] (zm N I A) = zrun (zc d) (zseg j_X12_comesBack) 0 [zr 1 0, zu, zu] [] (zm N I A) := zc_inM (c := 12) (n := 69) rfl kq_1_0 (by decide) (Nat.le_of_ble_eq_true rfl) (by decide) rfl
theorem m_X12_looks {d N : Nat} {I : Nat → Nat → Int} {A : ZA}   : zc (d + 1) j_X12_looks [zr 1 0] (zm N I A) = zrun (zc d) (zseg j_X12_looks) 0 [zr 1 0, zu, zu, zu] [] (zm N I A) := zc_inM (c := 12) (n := 69) rfl kq_1_0 (by decide) (Nat.le_of_ble_eq_true rfl) (by decide) rfl
theorem m_X12_tick {d N : Nat} {I : Nat → Nat → Int} {A : ZA}  {v0 : Int} : zc (d + 1) j_X12_tick [zr 1 0, zi v0] (zm N I A) = zrun (zc d) (zseg j_X12_tick) 0 [zr 1 0, zi v0, zu] [] (zm N I A) := zc_inM (c := 12) (n := 69) rfl kq_1_0 (by decide) (Nat.le_of_ble_eq_true rfl) (by decide) rfl
theorem m_X12_sheet {d N : Nat} {I : Nat → Nat → Int} {A : ZA}  {v0 : Int} {v1 : Int} : zc (d + 1) j_X12_sheet [zr 1 0, zi v0, zi v1] (zm N I A) = zrun (zc d) (zseg j_X12_sheet) 0 [zr 1 0, zi v0, zi v1] [] (zm N I A) := zc_inM (c := 12) (n := 69) rfl kq_1_0 (by decide) (Nat.le_of_ble_eq_true rfl) (by decide) rfl
theorem m_X12_clear {d N : Nat} {I : Nat → Nat → Int} {A : ZA}  {v0 : Int} : zc (d + 1) j_X12_clear [zr 1 0, zi v0] (zm N I A) = zrun (zc d) (zseg j_X12_clear) 0 [zr 1 0, zi v0, zu, zu, zu, zu] [] (zm N I A) := zc_inM (c := 12) (n := 69) rfl kq_1_0 (by decide) (Nat.le_of_ble_eq_true rfl) (by decide) rfl
theorem m_X12_sees {d N : Nat} {I : Nat → Nat → Int} {A : ZA}  {v0 : Int} : zc (d + 1) j_X12_sees [zr 1 0, zi v0] (zm N I A) = zrun (zc d) (zseg j_X12_sees) 0 [zr 1 0, zi v0] [] (zm N I A) := zc_inM (c := 12) (n := 69) rfl kq_1_0 (by decide) (Nat.le_of_ble_eq_true rfl) (by decide) rfl
theorem m_X12_passing {d N : Nat} {I : Nat → Nat → Int} {A : ZA}  {v0 : Int} {v1 : Int} {v2 : Int} : zc (d + 1) j_X12_passing [zr 1 0, zi v0, zi v1, zi v2] (zm N I A) = zrun (zc d) (zseg j_X12_passing) 0 [zr 1 0, zi v0, zi v1, zi v2] [] (zm N I A) := zc_inM (c := 12) (n := 69) rfl kq_1_0 (by decide) (Nat.le_of_ble_eq_true rfl) (by decide) rfl
theorem m_X12_goesAlone {d N : Nat} {I : Nat → Nat → Int} {A : ZA}  {v0 : Int} {v1 : Int} : zc (d + 1) j_X12_goesAlone [zr 1 0, zi v0, zi v1] (zm N I A) = zrun (zc d) (zseg j_X12_goesAlone) 0 [zr 1 0, zi v0, zi v1, zu] [] (zm N I A) := zc_inM (c := 12) (n := 69) rfl kq_1_0 (by decide) (Nat.le_of_ble_eq_true rfl) (by decide) rfl
theorem m_X12_isOutAlone {d N : Nat} {I : Nat → Nat → Int} {A : ZA}  {v0 : Int} {v1 : Int} : zc (d + 1) j_X12_isOutAlone [zr 1 0, zi v0, zi v1] (zm N I A) = zrun (zc d) (zseg j_X12_isOutAlone) 0 [zr 1 0, zi v0, zi v1, zu] [] (zm N I A) := zc_inM (c := 12) (n := 69) rfl kq_1_0 (by decide) (Nat.le_of_ble_eq_true rfl) (by decide) rfl
theorem m_X12_looksAlone {d N : Nat} {I : Nat → Nat → Int} {A : ZA}  {v0 : Int} : zc (d + 1) j_X12_looksAlone [zr 1 0, zi v0] (zm N I A) = zrun (zc d) (zseg j_X12_looksAlone) 0 [zr 1 0, zi v0, zu, zu, zu, zu] [] (zm N I A) := zc_inM (c := 12) (n := 69) rfl kq_1_0 (by decide) (Nat.le_of_ble_eq_true rfl) (by decide) rfl
theorem m_X12_saw {d N : Nat} {I : Nat → Nat → Int} {A : ZA}  {v0 : Int} {v1 : Int} {v2 : Int} : zc (d + 1) j_X12_saw [zr 1 0, zi v0, zi v1, zi v2] (zm N I A) = zrun (zc d) (zseg j_X12_saw) 0 [zr 1 0, zi v0, zi v1, zi v2, zu] [] (zm N I A) := zc_inM (c := 12) (n := 69) rfl kq_1_0 (by decide) (Nat.le_of_ble_eq_true rfl) (by decide) rfl
theorem m_X12_observed {d N : Nat} {I : Nat → Nat → Int} {A : ZA}   : zc (d + 1) j_X12_observed [zr 1 0] (zm N I A) = zrun (zc d) (zseg j_X12_observed) 0 [zr 1 0, zu, zu] [] (zm N I A) := zc_inM (c := 12) (n := 69) rfl kq_1_0 (by decide) (Nat.le_of_ble_eq_true rfl) (by decide) rfl
theorem m_X12_forget {d N : Nat} {I : Nat → Nat → Int} {A : ZA}   : zc (d + 1) j_X12_forget [zr 1 0] (zm N I A) = zrun (zc d) (zseg j_X12_forget) 0 [zr 1 0, zu, zu] [] (zm N I A) := zc_inM (c := 12) (n := 69) rfl kq_1_0 (by decide) (Nat.le_of_ble_eq_true rfl) (by decide) rfl
theorem m_X12_isCause {d N : Nat} {I : Nat → Nat → Int} {A : ZA}  {v0 : Int} : zc (d + 1) j_X12_isCause [zr 1 0, zi v0] (zm N I A) = zrun (zc d) (zseg j_X12_isCause) 0 [zr 1 0, zi v0] [] (zm N I A) := zc_inM (c := 12) (n := 69) rfl kq_1_0 (by decide) (Nat.le_of_ble_eq_true rfl) (by decide) rfl
theorem m_X12_takesCause {d N : Nat} {I : Nat → Nat → Int} {A : ZA}  {v0 : Int} : zc (d + 1) j_X12_takesCause [zr 1 0, zi v0] (zm N I A) = zrun (zc d) (zseg j_X12_takesCause) 0 [zr 1 0, zi v0] [] (zm N I A) := zc_inM (c := 12) (n := 69) rfl kq_1_0 (by decide) (Nat.le_of_ble_eq_true rfl) (by decide) rfl
theorem m_X12_explains {d N : Nat} {I : Nat → Nat → Int} {A : ZA}  {v0 : Int} {v1 : Int} {v2 : Int} : zc (d + 1) j_X12_explains [zr 1 0, zi v0, zi v1, zi v2] (zm N I A) = zrun (zc d) (zseg j_X12_explains) 0 [zr 1 0, zi v0, zi v1, zi v2, zu, zu] [] (zm N I A) := zc_inM (c := 12) (n := 69) rfl kq_1_0 (by decide) (Nat.le_of_ble_eq_true rfl) (by decide) rfl
theorem m_X12_explain {d N : Nat} {I : Nat → Nat → Int} {A : ZA}  {v0 : Int} {v1 : Int} : zc (d + 1) j_X12_explain [zr 1 0, zi v0, zi v1] (zm N I A) = zrun (zc d) (zseg j_X12_explain) 0 [zr 1 0, zi v0, zi v1, zu, zu] [] (zm N I A) := zc_inM (c := 12) (n := 69) rfl kq_1_0 (by decide) (Nat.le_of_ble_eq_true rfl) (by decide) rfl
theorem m_X12_foretold {d N : Nat} {I : Nat → Nat → Int} {A : ZA}  {v0 : Int} {v1 : Int} {v2 : Int} : zc (d + 1) j_X12_foretold [zr 1 0, zi v0, zi v1, zi v2] (zm N I A) = zrun (zc d) (zseg j_X12_foretold) 0 [zr 1 0, zi v0, zi v1, zi v2, zu] [] (zm N I A) := zc_inM (c := 12) (n := 69) rfl kq_1_0 (by decide) (Nat.le_of_ble_eq_true rfl) (by decide) rfl
theorem m_X12_creaseOf {d N : Nat} {I : Nat → Nat → Int} {A : ZA}  {v0 : Int} {v1 : Int} {v2 : Int} : zc (d + 1) j_X12_creaseOf [zr 1 0, zi v0, zi v1, zi v2] (zm N I A) = zrun (zc d) (zseg j_X12_creaseOf) 0 [zr 1 0, zi v0, zi v1, zi v2, zu, zu] [] (zm N I A) := zc_inM (c := 12) (n := 69) rfl kq_1_0 (by decide) (Nat.le_of_ble_eq_true rfl) (by decide) rfl
theorem m_X12_crease {d N : Nat} {I : Nat → Nat → Int} {A : ZA}  {v0 : Int} {v1 : Int} {v2 : Int} {v3 : Int} {v4 : Int} : zc (d + 1) j_X12_crease [zr 1 0, zi v0, zi v1, zi v2, zi v3, zi v4] (zm N I A) = zrun (zc d) (zseg j_X12_crease) 0 [zr 1 0, zi v0, zi v1, zi v2, zi v3, zi v4, zu, zu, zu] [] (zm N I A) := zc_inM (c := 12) (n := 69) rfl kq_1_0 (by decide) (Nat.le_of_ble_eq_true rfl) (by decide) rfl
theorem m_X12_setsOut {d N : Nat} {I : Nat → Nat → Int} {A : ZA}   : zc (d + 1) j_X12_setsOut [zr 1 0] (zm N I A) = zrun (zc d) (zseg j_X12_setsOut) 0 [zr 1 0, zu] [] (zm N I A) := zc_inM (c := 12) (n := 69) rfl kq_1_0 (by decide) (Nat.le_of_ble_eq_true rfl) (by decide) rfl
theorem m_X12_page {d N : Nat} {I : Nat → Nat → Int} {A : ZA}  {v0 : Int} {v1 : Int} : zc (d + 1) j_X12_page [zr 1 0, zi v0, zi v1] (zm N I A) = zrun (zc d) (zseg j_X12_page) 0 [zr 1 0, zi v0, zi v1] [] (zm N I A) := zc_inM (c := 12) (n := 69) rfl kq_1_0 (by decide) (Nat.le_of_ble_eq_true rfl) (by decide) rfl
theorem m_X12_tray {d N : Nat} {I : Nat → Nat → Int} {A : ZA}  {v0 : Int} {v1 : Int} {v2 : Int} : zc (d + 1) j_X12_tray [zr 1 0, zi v0, zi v1, zi v2] (zm N I A) = zrun (zc d) (zseg j_X12_tray) 0 [zr 1 0, zi v0, zi v1, zi v2] [] (zm N I A) := zc_inM (c := 12) (n := 69) rfl kq_1_0 (by decide) (Nat.le_of_ble_eq_true rfl) (by decide) rfl
theorem m_X12_pocket {d N : Nat} {I : Nat → Nat → Int} {A : ZA}  {v0 : Int} {v1 : Int} : zc (d + 1) j_X12_pocket [zr 1 0, zi v0, zi v1] (zm N I A) = zrun (zc d) (zseg j_X12_pocket) 0 [zr 1 0, zi v0, zi v1] [] (zm N I A) := zc_inM (c := 12) (n := 69) rfl kq_1_0 (by decide) (Nat.le_of_ble_eq_true rfl) (by decide) rfl
theorem m_X12_heat {d N : Nat} {I : Nat → Nat → Int} {A : ZA}  {v0 : Int} {v1 : Int} {v2 : Int} {v3 : Int} : zc (d + 1) j_X12_heat [zr 1 0, zi v0, zi v1, zi v2, zi v3] (zm N I A) = zrun (zc d) (zseg j_X12_heat) 0 [zr 1 0, zi v0, zi v1, zi v2, zi v3] [] (zm N I A) := zc_inM (c := 12) (n := 69) rfl kq_1_0 (by decide) (Nat.le_of_ble_eq_true rfl) (by decide) rfl
theorem m_X12_stateOf {d : Nat} {μ : ZM} {v0 : Int} {v1 : Int} {v2 : Int} {v3 : Int} {v4 : Int} {v5 : Int} {v6 : Int} : zc (d + 1) j_X12_stateOf [zi v0, zi v1, zi v2, zi v3, zi v4, zi v5, zi v6] μ = zrun (zc d) (zseg j_X12_stateOf) 0 [zi v0, zi v1, zi v2, zi v3, zi v4, zi v5, zi v6] [] μ := zc_in rfl (Nat.le_of_ble_eq_true rfl) (by decide) rfl
theorem m_X12_adds {d N : Nat} {I : Nat → Nat → Int} {A : ZA}  {v0 : Int} {v1 : Int} {v2 : Int} : zc (d + 1) j_X12_adds [zr 1 0, zi v0, zi v1, zi v2] (zm N I A) = zrun (zc d) (zseg j_X12_adds) 0 [zr 1 0, zi v0, zi v1, zi v2] [] (zm N I A) := zc_inM (c := 12) (n := 69) rfl kq_1_0 (by decide) (Nat.le_of_ble_eq_true rfl) (by decide) rfl
theorem m_X12_lain {d N : Nat} {I : Nat → Nat → Int} {A : ZA}  {v0 : Int} : zc (d + 1) j_X12_lain [zr 1 0, zi v0] (zm N I A) = zrun (zc d) (zseg j_X12_lain) 0 [zr 1 0, zi v0] [] (zm N I A) := zc_inM (c := 12) (n := 69) rfl kq_1_0 (by decide) (Nat.le_of_ble_eq_true rfl) (by decide) rfl
theorem m_X12_isOut {d N : Nat} {I : Nat → Nat → Int} {A : ZA}  {v0 : Int} : zc (d + 1) j_X12_isOut [zr 1 0, zi v0] (zm N I A) = zrun (zc d) (zseg j_X12_isOut) 0 [zr 1 0, zi v0, zu] [] (zm N I A) := zc_inM (c := 12) (n := 69) rfl kq_1_0 (by decide) (Nat.le_of_ble_eq_true rfl) (by decide) rfl
theorem m_X12_opens {d N : Nat} {I : Nat → Nat → Int} {A : ZA}  {v0 : Int} : zc (d + 1) j_X12_opens [zr 1 0, zi v0] (zm N I A) = zrun (zc d) (zseg j_X12_opens) 0 [zr 1 0, zi v0, zu, zu, zu, zu, zu, zu, zu, zu, zu, zu, zu, zu, zu] [] (zm N I A) := zc_inM (c := 12) (n := 69) rfl kq_1_0 (by decide) (Nat.le_of_ble_eq_true rfl) (by decide) rfl
theorem m_X12_finds {d N : Nat} {I : Nat → Nat → Int} {A : ZA}   : zc (d + 1) j_X12_finds [zr 1 0] (zm N I A) = zrun (zc d) (zseg j_X12_finds) 0 [zr 1 0, zu] [] (zm N I A) := zc_inM (c := 12) (n := 69) rfl kq_1_0 (by decide) (Nat.le_of_ble_eq_true rfl) (by decide) rfl
theorem m_X12_plan {d N : Nat} {I : Nat → Nat → Int} {A : ZA}  {v0 : Int} : zc (d + 1) j_X12_plan [zr 1 0, zi v0] (zm N I A) = zrun (zc d) (zseg j_X12_plan) 0 [zr 1 0, zi v0, zu, zu, zu] [] (zm N I A) := zc_inM (c := 12) (n := 69) rfl kq_1_0 (by decide) (Nat.le_of_ble_eq_true rfl) (by decide) rfl
theorem m_X12_copies {d N : Nat} {I : Nat → Nat → Int} {A : ZA}  {v0 : Int} : zc (d + 1) j_X12_copies [zr 1 0, zi v0] (zm N I A) = zrun (zc d) (zseg j_X12_copies) 0 [zr 1 0, zi v0, zu] [] (zm N I A) := zc_inM (c := 12) (n := 69) rfl kq_1_0 (by decide) (Nat.le_of_ble_eq_true rfl) (by decide) rfl
theorem m_X12_out {d N : Nat} {I : Nat → Nat → Int} {A : ZA}  {v0 : Int} : zc (d + 1) j_X12_out [zr 1 0, zi v0] (zm N I A) = zrun (zc d) (zseg j_X12_out) 0 [zr 1 0, zi v0] [] (zm N I A) := zc_inM (c := 12) (n := 69) rfl kq_1_0 (by decide) (Nat.le_of_ble_eq_true rfl) (by decide) rfl
theorem m_X12_empty {d N : Nat} {I : Nat → Nat → Int} {A : ZA}   : zc (d + 1) j_X12_empty [zr 1 0] (zm N I A) = zrun (zc d) (zseg j_X12_empty) 0 [zr 1 0, zu] [] (zm N I A) := zc_inM (c := 12) (n := 69) rfl kq_1_0 (by decide) (Nat.le_of_ble_eq_true rfl) (by decide) rfl
theorem m_X12_wanted {d N : Nat} {I : Nat → Nat → Int} {A : ZA}   : zc (d + 1) j_X12_wanted [zr 1 0] (zm N I A) = zrun (zc d) (zseg j_X12_wanted) 0 [zr 1 0] [] (zm N I A) := zc_inM (c := 12) (n := 69) rfl kq_1_0 (by decide) (Nat.le_of_ble_eq_true rfl) (by decide) rfl
theorem m_X12_mostAt {d N : Nat} {I : Nat → Nat → Int} {A : ZA}  {v0 : Int} {v1 : Int} : zc (d + 1) j_X12_mostAt [zr 1 0, zi v0, zi v1] (zm N I A) = zrun (zc d) (zseg j_X12_mostAt) 0 [zr 1 0, zi v0, zi v1] [] (zm N I A) := zc_inM (c := 12) (n := 69) rfl kq_1_0 (by decide) (Nat.le_of_ble_eq_true rfl) (by decide) rfl
theorem m_X12_pairs {d N : Nat} {I : Nat → Nat → Int} {A : ZA}   : zc (d + 1) j_X12_pairs [zr 1 0] (zm N I A) = zrun (zc d) (zseg j_X12_pairs) 0 [zr 1 0, zu, zu, zu, zu, zu, zu] [] (zm N I A) := zc_inM (c := 12) (n := 69) rfl kq_1_0 (by decide) (Nat.le_of_ble_eq_true rfl) (by decide) rfl
theorem m_X12_again {d N : Nat} {I : Nat → Nat → Int} {A : ZA}  {v0 : Int} : zc (d + 1) j_X12_again [zr 1 0, zi v0] (zm N I A) = zrun (zc d) (zseg j_X12_again) 0 [zr 1 0, zi v0, zu, zu, zu, zu, zu] [] (zm N I A) := zc_inM (c := 12) (n := 69) rfl kq_1_0 (by decide) (Nat.le_of_ble_eq_true rfl) (by decide) rfl
theorem m_X12_lack {d N : Nat} {I : Nat → Nat → Int} {A : ZA}  {v0 : Int} : zc (d + 1) j_X12_lack [zr 1 0, zi v0] (zm N I A) = zrun (zc d) (zseg j_X12_lack) 0 [zr 1 0, zi v0, zu, zu] [] (zm N I A) := zc_inM (c := 12) (n := 69) rfl kq_1_0 (by decide) (Nat.le_of_ble_eq_true rfl) (by decide) rfl
theorem m_X12_kept {d N : Nat} {I : Nat → Nat → Int} {A : ZA}  {v0 : Int} : zc (d + 1) j_X12_kept [zr 1 0, zi v0] (zm N I A) = zrun (zc d) (zseg j_X12_kept) 0 [zr 1 0, zi v0] [] (zm N I A) := zc_inM (c := 12) (n := 69) rfl kq_1_0 (by decide) (Nat.le_of_ble_eq_true rfl) (by decide) rfl
theorem m_X12_pay {d N : Nat} {I : Nat → Nat → Int} {A : ZA}  {v0 : Int} {v1 : Int} {v2 : Int} : zc (d + 1) j_X12_pay [zr 1 0, zi v0, zi v1, zi v2] (zm N I A) = zrun (zc d) (zseg j_X12_pay) 0 [zr 1 0, zi v0, zi v1, zi v2, zu, zu] [] (zm N I A) := zc_inM (c := 12) (n := 69) rfl kq_1_0 (by decide) (Nat.le_of_ble_eq_true rfl) (by decide) rfl
theorem m_X12_part {d N : Nat} {I : Nat → Nat → Int} {A : ZA}  {v0 : Int} {v1 : Int} {v2 : Int} {v3 : Int} : zc (d + 1) j_X12_part [zr 1 0, zi v0, zi v1, zi v2, zi v3] (zm N I A) = zrun (zc d) (zseg j_X12_part) 0 [zr 1 0, zi v0, zi v1, zi v2, zi v3] [] (zm N I A) := zc_inM (c := 12) (n := 69) rfl kq_1_0 (by decide) (Nat.le_of_ble_eq_true rfl) (by decide) rfl
theorem m_X12_renewals {d N : Nat} {I : Nat → Nat → Int} {A : ZA}  {v0 : Int} {v1 : Int} {v2 : Int} : zc (d + 1) j_X12_renewals [zr 1 0, zi v0, zi v1, zi v2] (zm N I A) = zrun (zc d) (zseg j_X12_renewals) 0 [zr 1 0, zi v0, zi v1, zi v2, zu, zu, zu, zu] [] (zm N I A) := zc_inM (c := 12) (n := 69) rfl kq_1_0 (by decide) (Nat.le_of_ble_eq_true rfl) (by decide) rfl
theorem m_X12_serves {d N : Nat} {I : Nat → Nat → Int} {A : ZA}  {v0 : Int} {v1 : Int} {v2 : Int} : zc (d + 1) j_X12_serves [zr 1 0, zi v0, zi v1, zi v2] (zm N I A) = zrun (zc d) (zseg j_X12_serves) 0 [zr 1 0, zi v0, zi v1, zi v2, zu, zu] [] (zm N I A) := zc_inM (c := 12) (n := 69) rfl kq_1_0 (by decide) (Nat.le_of_ble_eq_true rfl) (by decide) rfl
theorem m_X12_ones {d : Nat} {μ : ZM} {v0 : Int} : zc (d + 1) j_X12_ones [zi v0] μ = zrun (zc d) (zseg j_X12_ones) 0 [zi v0, zu, zu] [] μ := zc_in rfl (Nat.le_of_ble_eq_true rfl) (by decide) rfl
theorem m_X12_service {d N : Nat} {I : Nat → Nat → Int} {A : ZA}  {v0 : Int} {v1 : Int} {v2 : Int} : zc (d + 1) j_X12_service [zr 1 0, zi v0, zi v1, zi v2] (zm N I A) = zrun (zc d) (zseg j_X12_service) 0 [zr 1 0, zi v0, zi v1, zi v2, zu, zu, zu, zu] [] (zm N I A) := zc_inM (c := 12) (n := 69) rfl kq_1_0 (by decide) (Nat.le_of_ble_eq_true rfl) (by decide) rfl
theorem m_X12_cut {d : Nat} {μ : ZM} {v0 : Int} {v1 : Int} : zc (d + 1) j_X12_cut [zl v0, zi v1] μ = zrun (zc d) (zseg j_X12_cut) 0 [zl v0, zu, zi v1] [] μ := zc_in rfl (Nat.le_of_ble_eq_true rfl) (by decide) rfl
theorem m_X12_row {d N : Nat} {I : Nat → Nat → Int} {A : ZA}  {v0 : Int} {v1 : Int} {v2 : Int} : zc (d + 1) j_X12_row [zr 1 0, zi v0, zi v1, zi v2] (zm N I A) = zrun (zc d) (zseg j_X12_row) 0 [zr 1 0, zi v0, zi v1, zi v2, zu] [] (zm N I A) := zc_inM (c := 12) (n := 69) rfl kq_1_0 (by decide) (Nat.le_of_ble_eq_true rfl) (by decide) rfl
theorem m_X12_write {d N : Nat} {I : Nat → Nat → Int} {A : ZA}  {v0 : Int} {v1 : Int} {v2 : Int} : zc (d + 1) j_X12_write [zr 1 0, zi v0, zi v1, zl v2] (zm N I A) = zrun (zc d) (zseg j_X12_write) 0 [zr 1 0, zi v0, zi v1, zl v2, zu] [] (zm N I A) := zc_inM (c := 12) (n := 69) rfl kq_1_0 (by decide) (Nat.le_of_ble_eq_true rfl) (by decide) rfl
theorem m_X12_save {d N : Nat} {I : Nat → Nat → Int} {A : ZA}  {v0 : Int} : zc (d + 1) j_X12_save [zr 1 0, zi v0] (zm N I A) = zrun (zc d) (zseg j_X12_save) 0 [zr 1 0, zi v0, zu] [] (zm N I A) := zc_inM (c := 12) (n := 69) rfl kq_1_0 (by decide) (Nat.le_of_ble_eq_true rfl) (by decide) rfl
theorem m_X12_load {d N : Nat} {I : Nat → Nat → Int} {A : ZA}  {v0 : Int} {v1 : Int} : zc (d + 1) j_X12_load [zr 1 0, zi v0, zi v1] (zm N I A) = zrun (zc d) (zseg j_X12_load) 0 [zr 1 0, zi v0, zi v1, zu] [] (zm N I A) := zc_inM (c := 12) (n := 69) rfl kq_1_0 (by decide) (Nat.le_of_ble_eq_true rfl) (by decide) rfl
theorem m_X12_image {d N : Nat} {I : Nat → Nat → Int} {A : ZA}  {v0 : Int} : zc (d + 1) j_X12_image [zr 1 0, zi v0] (zm N I A) = zrun (zc d) (zseg j_X12_image) 0 [zr 1 0, zi v0, zu] [] (zm N I A) := zc_inM (c := 12) (n := 69) rfl kq_1_0 (by decide) (Nat.le_of_ble_eq_true rfl) (by decide) rfl
theorem m_X12_restore {d N : Nat} {I : Nat → Nat → Int} {A : ZA}  {v0 : Int} : zc (d + 1) j_X12_restore [zr 1 0, zi v0] (zm N I A) = zrun (zc d) (zseg j_X12_restore) 0 [zr 1 0, zi v0, zu] [] (zm N I A) := zc_inM (c := 12) (n := 69) rfl kq_1_0 (by decide) (Nat.le_of_ble_eq_true rfl) (by decide) rfl
theorem m_X12_count {d N : Nat} {I : Nat → Nat → Int} {A : ZA}  {v0 : Int} : zc (d + 1) j_X12_count [zr 1 0, zi v0] (zm N I A) = zrun (zc d) (zseg j_X12_count) 0 [zr 1 0, zi v0] [] (zm N I A) := zc_inM (c := 12) (n := 69) rfl kq_1_0 (by decide) (Nat.le_of_ble_eq_true rfl) (by decide) rfl
