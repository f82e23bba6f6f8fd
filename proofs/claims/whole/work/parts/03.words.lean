/-- the words of the tables that stay through a run -/
def bs_big : List Cond := lw_tbl.filter goodWord
theorem bs_of {w : Cond} {i : Nat} (h : tables_1[i]? = some w) (hg : goodWord w = true) : w ∈ bs_big := List.mem_filter.mpr ⟨List.mem_append_right _ (List.mem_of_getElem? h), hg⟩
theorem bs_os {w : Cond} {i : Nat} (h : (k2_sels lw_privs)[i]? = some w) (hg : goodWord w = true) : w ∈ bs_big := List.mem_filter.mpr ⟨List.mem_append_left _ (List.mem_of_getElem? h), hg⟩
theorem bs_tbl : ∀ w ∈ bs_big, w ∈ lw_tbl := fun _ h => (List.mem_filter.mp h).1
theorem bs_good {cs : List Cond} (h : ∀ w ∈ cs, w ∈ bs_big) : GoodIn bs_big cs := fun w hw => ⟨h w hw, good_of_word (List.mem_filter.mp (h w hw)).2⟩
theorem bs_in {w : Cond} {i : Nat} (h : tables_1[i]? = some w) : w ∈ lw_tbl := List.mem_append_right _ (List.mem_of_getElem? h)
theorem kw_in_La : (Cond.initialized cn_La : Cond) ∈ bs_big := bs_of (i := 0) (by decide +kernel) rfl
theorem kw_in_Lp : (Cond.initialized cn_Lp : Cond) ∈ bs_big := bs_of (i := 1) (by decide +kernel) rfl
theorem kw_in_Rw : (Cond.initialized cn_Rw : Cond) ∈ bs_big := bs_of (i := 2) (by decide +kernel) rfl
theorem kw_in_As : (Cond.initialized cn_As : Cond) ∈ bs_big := bs_of (i := 3) (by decide +kernel) rfl
theorem kw_in_Cn : (Cond.initialized cn_Cn : Cond) ∈ bs_big := bs_of (i := 4) (by decide +kernel) rfl
theorem kw_in_Mt : (Cond.initialized cn_Mt : Cond) ∈ bs_big := bs_of (i := 5) (by decide +kernel) rfl
theorem kw_in_Pf : (Cond.initialized cn_Pf : Cond) ∈ bs_big := bs_of (i := 6) (by decide +kernel) rfl
theorem kw_in_Math : (Cond.initialized "java/lang/Math" : Cond) ∈ bs_big := bs_of (i := 7) (by decide +kernel) rfl
theorem kw_in_Mo : (Cond.initialized cn_Mo : Cond) ∈ bs_big := bs_of (i := 8) (by decide +kernel) rfl
theorem kw_in_Throwable : (Cond.initialized "java/lang/Throwable" : Cond) ∈ bs_big := bs_of (i := 9) (by decide +kernel) rfl
theorem kw_in_Exception : (Cond.initialized "java/lang/Exception" : Cond) ∈ bs_big := bs_of (i := 10) (by decide +kernel) rfl
theorem kw_in_RuntimeException : (Cond.initialized "java/lang/RuntimeException" : Cond) ∈ bs_big := bs_of (i := 11) (by decide +kernel) rfl
theorem kw_in_IllegalArgumentException : (Cond.initialized "java/lang/IllegalArgumentException" : Cond) ∈ bs_big := bs_of (i := 12) (by decide +kernel) rfl
theorem kw_in_IndexOutOfBoundsException : (Cond.initialized "java/lang/IndexOutOfBoundsException" : Cond) ∈ bs_big := bs_of (i := 13) (by decide +kernel) rfl
theorem kw_in_NoSuchElementException : (Cond.initialized "java/util/NoSuchElementException" : Cond) ∈ bs_big := bs_of (i := 14) (by decide +kernel) rfl
theorem kw_in_IllegalStateException : (Cond.initialized "java/lang/IllegalStateException" : Cond) ∈ bs_big := bs_of (i := 15) (by decide +kernel) rfl
theorem kw_in_Fr : (Cond.initialized cn_Fr : Cond) ∈ bs_big := bs_of (i := 16) (by decide +kernel) rfl
theorem kw_in_System : (Cond.initialized "java/lang/System" : Cond) ∈ bs_big := bs_of (i := 17) (by decide +kernel) rfl
theorem kw_cl_La_8 : (Cond.classLink cn_La 8 cn_Lp : Cond) ∈ bs_big := bs_of (i := 18) (by decide +kernel) rfl
theorem kw_ib_Lp : (Cond.instantiable cn_Lp 5 : Cond) ∈ bs_big := bs_of (i := 19) (by decide +kernel) rfl
theorem kw_ml_La_58 : (Cond.methodLink cn_La 58 my_Lp_init : Cond) ∈ bs_big := bs_of (i := 20) (by decide +kernel) rfl
theorem kw_im_Lp_init : (Cond.instanceMethod my_Lp_init : Cond) ∈ bs_big := bs_of (i := 21) (by decide +kernel) rfl
theorem kw_cd_Lp_init : (Cond.code my_Lp_init mb_Lp_init 3 none : Cond) ∈ bs_big := bs_of (i := 22) (by decide +kernel) rfl
theorem kw_ml_Lp_1 : (Cond.methodLink cn_Lp 1 objectInit : Cond) ∈ bs_big := bs_of (i := 23) (by decide +kernel) rfl
theorem kw_im_obj : (Cond.instanceMethod objectInit : Cond) ∈ bs_big := bs_of (i := 24) (by decide +kernel) rfl
theorem kw_cd_obj : (Cond.code objectInit ⟨#[0xb1]⟩ 1 none : Cond) ∈ bs_big := bs_of (i := 25) (by decide +kernel) rfl
theorem kw_cl_Lp_7 : (Cond.classLink cn_Lp 7 cn_Rw : Cond) ∈ bs_big := bs_of (i := 26) (by decide +kernel) rfl
theorem kw_ib_Rw : (Cond.instantiable cn_Rw 2 : Cond) ∈ bs_big := bs_of (i := 27) (by decide +kernel) rfl
theorem kw_ml_Lp_11 : (Cond.methodLink cn_Lp 11 my_Rw_init : Cond) ∈ bs_big := bs_of (i := 28) (by decide +kernel) rfl
theorem kw_im_Rw_init : (Cond.instanceMethod my_Rw_init : Cond) ∈ bs_big := bs_of (i := 29) (by decide +kernel) rfl
theorem kw_cd_Rw_init : (Cond.code my_Rw_init mb_Rw_init 2 none : Cond) ∈ bs_big := bs_of (i := 30) (by decide +kernel) rfl
theorem kw_ml_Rw_1 : (Cond.methodLink cn_Rw 1 objectInit : Cond) ∈ bs_big := bs_of (i := 31) (by decide +kernel) rfl
theorem kw_fl_Rw_13 : (Cond.fieldLink cn_Rw 13 cn_Rw "bytes" "[I" : Cond) ∈ bs_big := bs_of (i := 32) (by decide +kernel) rfl
theorem kw_fl_Rw_7 : (Cond.fieldLink cn_Rw 7 cn_Rw "size" "I" : Cond) ∈ bs_big := bs_of (i := 33) (by decide +kernel) rfl
theorem kw_fn_Fr_7 : (Cond.fieldLinkNest cn_Fr 7 cn_Rw "size" "I" cn_Lp : Cond) ∈ lw_tbl := bs_in (i := 34) (by decide +kernel)
theorem kw_fn_Cn_59 : (Cond.fieldLinkNest cn_Cn 59 cn_Rw "size" "I" cn_Lp : Cond) ∈ lw_tbl := bs_in (i := 35) (by decide +kernel)
theorem kw_fn_Lp_91 : (Cond.fieldLinkNest cn_Lp 91 cn_Rw "size" "I" cn_Lp : Cond) ∈ lw_tbl := bs_in (i := 36) (by decide +kernel)
theorem kw_fn_Pf_78 : (Cond.fieldLinkNest cn_Pf 78 cn_Rw "size" "I" cn_Lp : Cond) ∈ lw_tbl := bs_in (i := 37) (by decide +kernel)
theorem kw_fn_Mt_80 : (Cond.fieldLinkNest cn_Mt 80 cn_Rw "size" "I" cn_Lp : Cond) ∈ lw_tbl := bs_in (i := 38) (by decide +kernel)
theorem kw_ly_Rw_0 : (Cond.laysFinal cn_Rw cn_Rw "bytes" "[I" : Cond) ∈ bs_big := bs_of (i := 39) (by decide +kernel) rfl
theorem kw_ly_Rw_1 : (Cond.lays cn_Rw cn_Rw "size" "I" : Cond) ∈ bs_big := bs_of (i := 41) (by decide +kernel) rfl
theorem kw_ac_int : (Cond.arrayClass .int : Cond) ∈ bs_big := bs_of (i := 44) (by decide +kernel) rfl
theorem kw_cl_Lp_21 : (Cond.classLink cn_Lp 21 cn_As : Cond) ∈ bs_big := bs_of (i := 45) (by decide +kernel) rfl
theorem kw_ib_As : (Cond.instantiable cn_As 2 : Cond) ∈ bs_big := bs_of (i := 46) (by decide +kernel) rfl
theorem kw_mn_Lp_23 : (Cond.methodLinkNest cn_Lp 23 my_As_init cn_Lp : Cond) ∈ lw_tbl := bs_in (i := 47) (by decide +kernel)
theorem kw_im_As_init : (Cond.instanceMethod my_As_init : Cond) ∈ bs_big := bs_of (i := 48) (by decide +kernel) rfl
theorem kw_cd_As_init : (Cond.code my_As_init mb_As_init 1 none : Cond) ∈ bs_big := bs_of (i := 49) (by decide +kernel) rfl
theorem kw_ml_As_1 : (Cond.methodLink cn_As 1 objectInit : Cond) ∈ bs_big := bs_of (i := 50) (by decide +kernel) rfl
theorem kw_fl_As_7 : (Cond.fieldLink cn_As 7 cn_As "s" "I" : Cond) ∈ bs_big := bs_of (i := 51) (by decide +kernel) rfl
theorem kw_fn_Lp_110 : (Cond.fieldLinkNest cn_Lp 110 cn_As "s" "I" cn_Lp : Cond) ∈ lw_tbl := bs_in (i := 52) (by decide +kernel)
theorem kw_fl_As_13 : (Cond.fieldLink cn_As 13 cn_As "\x72" "I" : Cond) ∈ bs_big := bs_of (i := 53) (by decide +kernel) rfl
theorem kw_fn_Lp_113 : (Cond.fieldLinkNest cn_Lp 113 cn_As "\x72" "I" cn_Lp : Cond) ∈ lw_tbl := bs_in (i := 54) (by decide +kernel)
theorem kw_ly_As_0 : (Cond.lays cn_As cn_As "s" "I" : Cond) ∈ bs_big := bs_of (i := 55) (by decide +kernel) rfl
theorem kw_ly_As_1 : (Cond.lays cn_As cn_As "\x72" "I" : Cond) ∈ bs_big := bs_of (i := 57) (by decide +kernel) rfl
theorem kw_cl_Lp_28 : (Cond.classLink cn_Lp 28 cn_Cn : Cond) ∈ bs_big := bs_of (i := 60) (by decide +kernel) rfl
theorem kw_ib_Cn : (Cond.instantiable cn_Cn 10 : Cond) ∈ bs_big := bs_of (i := 61) (by decide +kernel) rfl
theorem kw_ml_Lp_30 : (Cond.methodLink cn_Lp 30 my_Cn_init : Cond) ∈ bs_big := bs_of (i := 62) (by decide +kernel) rfl
theorem kw_im_Cn_init : (Cond.instanceMethod my_Cn_init : Cond) ∈ bs_big := bs_of (i := 63) (by decide +kernel) rfl
theorem kw_cd_Cn_init : (Cond.code my_Cn_init mb_Cn_init 3 none : Cond) ∈ bs_big := bs_of (i := 64) (by decide +kernel) rfl
theorem kw_ml_Cn_1 : (Cond.methodLink cn_Cn 1 objectInit : Cond) ∈ bs_big := bs_of (i := 65) (by decide +kernel) rfl
theorem kw_cl_Cn_7 : (Cond.classLink cn_Cn 7 cn_Rw : Cond) ∈ bs_big := bs_of (i := 66) (by decide +kernel) rfl
theorem kw_ml_Cn_11 : (Cond.methodLink cn_Cn 11 my_Rw_init : Cond) ∈ bs_big := bs_of (i := 67) (by decide +kernel) rfl
theorem kw_cl_Cn_48 : (Cond.classLink cn_Cn 48 cn_Mt : Cond) ∈ bs_big := bs_of (i := 68) (by decide +kernel) rfl
theorem kw_ib_Mt : (Cond.instantiable cn_Mt 3 : Cond) ∈ bs_big := bs_of (i := 69) (by decide +kernel) rfl
theorem kw_ml_Cn_50 : (Cond.methodLink cn_Cn 50 my_Mt_init : Cond) ∈ bs_big := bs_of (i := 70) (by decide +kernel) rfl
theorem kw_im_Mt_init : (Cond.instanceMethod my_Mt_init : Cond) ∈ bs_big := bs_of (i := 71) (by decide +kernel) rfl
theorem kw_cd_Mt_init : (Cond.code my_Mt_init mb_Mt_init 2 none : Cond) ∈ bs_big := bs_of (i := 72) (by decide +kernel) rfl
theorem kw_ml_Mt_1 : (Cond.methodLink cn_Mt 1 objectInit : Cond) ∈ bs_big := bs_of (i := 73) (by decide +kernel) rfl
theorem kw_cl_Mt_17 : (Cond.classLink cn_Mt 17 cn_Pf : Cond) ∈ bs_big := bs_of (i := 74) (by decide +kernel) rfl
theorem kw_ib_Pf : (Cond.instantiable cn_Pf 7 : Cond) ∈ bs_big := bs_of (i := 75) (by decide +kernel) rfl
theorem kw_ml_Mt_19 : (Cond.methodLink cn_Mt 19 my_Pf_init : Cond) ∈ bs_big := bs_of (i := 76) (by decide +kernel) rfl
theorem kw_im_Pf_init : (Cond.instanceMethod my_Pf_init : Cond) ∈ bs_big := bs_of (i := 77) (by decide +kernel) rfl
theorem kw_cd_Pf_init : (Cond.code my_Pf_init mb_Pf_init 2 none : Cond) ∈ bs_big := bs_of (i := 78) (by decide +kernel) rfl
theorem kw_ml_Pf_3 : (Cond.methodLink cn_Pf 3 objectInit : Cond) ∈ bs_big := bs_of (i := 79) (by decide +kernel) rfl
theorem kw_ml_Pf_29 : (Cond.methodLink cn_Pf 29 Lib.Math.min.name : Cond) ∈ bs_big := bs_of (i := 80) (by decide +kernel) rfl
theorem kw_st_min : (Cond.static Lib.Math.min.name : Cond) ∈ bs_big := bs_of (i := 81) (by decide +kernel) rfl
theorem kw_cd_min : (Cond.code Lib.Math.min.name Lib.Math.min.code 2 (some .int) : Cond) ∈ bs_big := bs_of (i := 82) (by decide +kernel) rfl
theorem kw_ml_Pf_35 : (Cond.methodLink cn_Pf 35 Lib.Math.max.name : Cond) ∈ bs_big := bs_of (i := 83) (by decide +kernel) rfl
theorem kw_st_max : (Cond.static Lib.Math.max.name : Cond) ∈ bs_big := bs_of (i := 84) (by decide +kernel) rfl
theorem kw_cd_max : (Cond.code Lib.Math.max.name Lib.Math.max.code 2 (some .int) : Cond) ∈ bs_big := bs_of (i := 85) (by decide +kernel) rfl
theorem kw_fl_Pf_9 : (Cond.fieldLink cn_Pf 9 cn_Pf "columns" "[I" : Cond) ∈ bs_big := bs_of (i := 86) (by decide +kernel) rfl
theorem kw_fl_Pf_13 : (Cond.fieldLink cn_Pf 13 cn_Pf "ring" "[I" : Cond) ∈ bs_big := bs_of (i := 87) (by decide +kernel) rfl
theorem kw_fl_Pf_16 : (Cond.fieldLink cn_Pf 16 cn_Pf "columnCount" "I" : Cond) ∈ bs_big := bs_of (i := 88) (by decide +kernel) rfl
theorem kw_fn_Lp_74 : (Cond.fieldLinkNest cn_Lp 74 cn_Pf "columnCount" "I" cn_Lp : Cond) ∈ lw_tbl := bs_in (i := 89) (by decide +kernel)
theorem kw_fl_Pf_38 : (Cond.fieldLink cn_Pf 38 cn_Pf "capacity" "I" : Cond) ∈ bs_big := bs_of (i := 90) (by decide +kernel) rfl
theorem kw_fl_Pf_20 : (Cond.fieldLink cn_Pf 20 cn_Pf "period" "I" : Cond) ∈ bs_big := bs_of (i := 91) (by decide +kernel) rfl
theorem kw_fn_Mt_27 : (Cond.fieldLinkNest cn_Mt 27 cn_Pf "period" "I" cn_Lp : Cond) ∈ lw_tbl := bs_in (i := 92) (by decide +kernel)
theorem kw_fl_Pf_23 : (Cond.fieldLink cn_Pf 23 cn_Pf "first" "I" : Cond) ∈ bs_big := bs_of (i := 93) (by decide +kernel) rfl
theorem kw_fl_Pf_26 : (Cond.fieldLink cn_Pf 26 cn_Pf "size" "I" : Cond) ∈ bs_big := bs_of (i := 94) (by decide +kernel) rfl
theorem kw_fn_Lp_69 : (Cond.fieldLinkNest cn_Lp 69 cn_Pf "size" "I" cn_Lp : Cond) ∈ lw_tbl := bs_in (i := 95) (by decide +kernel)
theorem kw_ly_Pf_0 : (Cond.laysFinal cn_Pf cn_Pf "columns" "[I" : Cond) ∈ bs_big := bs_of (i := 96) (by decide +kernel) rfl
theorem kw_ly_Pf_1 : (Cond.laysFinal cn_Pf cn_Pf "ring" "[I" : Cond) ∈ bs_big := bs_of (i := 98) (by decide +kernel) rfl
theorem kw_ly_Pf_2 : (Cond.lays cn_Pf cn_Pf "columnCount" "I" : Cond) ∈ bs_big := bs_of (i := 100) (by decide +kernel) rfl
theorem kw_ly_Pf_3 : (Cond.lays cn_Pf cn_Pf "capacity" "I" : Cond) ∈ bs_big := bs_of (i := 102) (by decide +kernel) rfl
theorem kw_ly_Pf_4 : (Cond.lays cn_Pf cn_Pf "period" "I" : Cond) ∈ bs_big := bs_of (i := 104) (by decide +kernel) rfl
theorem kw_ly_Pf_5 : (Cond.lays cn_Pf cn_Pf "first" "I" : Cond) ∈ bs_big := bs_of (i := 106) (by decide +kernel) rfl
theorem kw_ly_Pf_6 : (Cond.lays cn_Pf cn_Pf "size" "I" : Cond) ∈ bs_big := bs_of (i := 108) (by decide +kernel) rfl
theorem kw_fl_Mt_9 : (Cond.fieldLink cn_Mt 9 cn_Mt "registers" "[I" : Cond) ∈ bs_big := bs_of (i := 111) (by decide +kernel) rfl
theorem kw_fn_Lp_57 : (Cond.fieldLinkNest cn_Lp 57 cn_Mt "registers" "[I" cn_Lp : Cond) ∈ lw_tbl := bs_in (i := 112) (by decide +kernel)
theorem kw_fl_Mt_22 : (Cond.fieldLink cn_Mt 22 cn_Mt "profile" "LLoadProfileMeter$Profile;" : Cond) ∈ bs_big := bs_of (i := 113) (by decide +kernel) rfl
theorem kw_fn_Lp_65 : (Cond.fieldLinkNest cn_Lp 65 cn_Mt "profile" "LLoadProfileMeter$Profile;" cn_Lp : Cond) ∈ lw_tbl := bs_in (i := 114) (by decide +kernel)
theorem kw_fl_Mt_13 : (Cond.fieldLink cn_Mt 13 cn_Mt "now" "I" : Cond) ∈ bs_big := bs_of (i := 115) (by decide +kernel) rfl
theorem kw_fn_Lp_61 : (Cond.fieldLinkNest cn_Lp 61 cn_Mt "now" "I" cn_Lp : Cond) ∈ lw_tbl := bs_in (i := 116) (by decide +kernel)
theorem kw_ly_Mt_0 : (Cond.laysFinal cn_Mt cn_Mt "registers" "[I" : Cond) ∈ bs_big := bs_of (i := 117) (by decide +kernel) rfl
theorem kw_ly_Mt_1 : (Cond.laysFinal cn_Mt cn_Mt "profile" "LLoadProfileMeter$Profile;" : Cond) ∈ bs_big := bs_of (i := 119) (by decide +kernel) rfl
theorem kw_ly_Mt_2 : (Cond.lays cn_Mt cn_Mt "now" "I" : Cond) ∈ bs_big := bs_of (i := 121) (by decide +kernel) rfl
theorem kw_fl_Cn_45 : (Cond.fieldLink cn_Cn 45 cn_Cn "secret" "I" : Cond) ∈ bs_big := bs_of (i := 124) (by decide +kernel) rfl
theorem kw_fn_Lp_37 : (Cond.fieldLinkNest cn_Lp 37 cn_Cn "meter" "LLoadProfileMeter$Meter;" cn_Lp : Cond) ∈ lw_tbl := bs_in (i := 125) (by decide +kernel)
theorem kw_fl_Cn_51 : (Cond.fieldLink cn_Cn 51 cn_Cn "meter" "LLoadProfileMeter$Meter;" : Cond) ∈ bs_big := bs_of (i := 126) (by decide +kernel) rfl
theorem kw_fl_Cn_14 : (Cond.fieldLink cn_Cn 14 cn_Cn "request" "LLoadProfileMeter$Row;" : Cond) ∈ bs_big := bs_of (i := 127) (by decide +kernel) rfl
theorem kw_fl_Cn_20 : (Cond.fieldLink cn_Cn 20 cn_Cn "latest" "LLoadProfileMeter$Row;" : Cond) ∈ bs_big := bs_of (i := 128) (by decide +kernel) rfl
theorem kw_fl_Cn_25 : (Cond.fieldLink cn_Cn 25 cn_Cn "value" "LLoadProfileMeter$Row;" : Cond) ∈ bs_big := bs_of (i := 129) (by decide +kernel) rfl
theorem kw_fl_Cn_28 : (Cond.fieldLink cn_Cn 28 cn_Cn "connected" "Z" : Cond) ∈ bs_big := bs_of (i := 130) (by decide +kernel) rfl
theorem kw_fl_Cn_32 : (Cond.fieldLink cn_Cn 32 cn_Cn "expected" "I" : Cond) ∈ bs_big := bs_of (i := 131) (by decide +kernel) rfl
theorem kw_fl_Cn_36 : (Cond.fieldLink cn_Cn 36 cn_Cn "next" "I" : Cond) ∈ bs_big := bs_of (i := 132) (by decide +kernel) rfl
theorem kw_fl_Cn_39 : (Cond.fieldLink cn_Cn 39 cn_Cn "association" "I" : Cond) ∈ bs_big := bs_of (i := 133) (by decide +kernel) rfl
theorem kw_fl_Cn_42 : (Cond.fieldLink cn_Cn 42 cn_Cn "blocksSent" "I" : Cond) ∈ bs_big := bs_of (i := 134) (by decide +kernel) rfl
theorem kw_ly_Cn_0 : (Cond.laysFinal cn_Cn cn_Cn "secret" "I" : Cond) ∈ bs_big := bs_of (i := 135) (by decide +kernel) rfl
theorem kw_ly_Cn_1 : (Cond.laysFinal cn_Cn cn_Cn "meter" "LLoadProfileMeter$Meter;" : Cond) ∈ bs_big := bs_of (i := 137) (by decide +kernel) rfl
theorem kw_ly_Cn_2 : (Cond.laysFinal cn_Cn cn_Cn "request" "LLoadProfileMeter$Row;" : Cond) ∈ bs_big := bs_of (i := 139) (by decide +kernel) rfl
theorem kw_ly_Cn_3 : (Cond.laysFinal cn_Cn cn_Cn "latest" "LLoadProfileMeter$Row;" : Cond) ∈ bs_big := bs_of (i := 141) (by decide +kernel) rfl
theorem kw_ly_Cn_4 : (Cond.laysFinal cn_Cn cn_Cn "value" "LLoadProfileMeter$Row;" : Cond) ∈ bs_big := bs_of (i := 143) (by decide +kernel) rfl
theorem kw_ly_Cn_5 : (Cond.lays cn_Cn cn_Cn "connected" "Z" : Cond) ∈ bs_big := bs_of (i := 145) (by decide +kernel) rfl
theorem kw_ly_Cn_6 : (Cond.lays cn_Cn cn_Cn "expected" "I" : Cond) ∈ bs_big := bs_of (i := 147) (by decide +kernel) rfl
theorem kw_ly_Cn_7 : (Cond.lays cn_Cn cn_Cn "next" "I" : Cond) ∈ bs_big := bs_of (i := 149) (by decide +kernel) rfl
theorem kw_ly_Cn_8 : (Cond.lays cn_Cn cn_Cn "association" "I" : Cond) ∈ bs_big := bs_of (i := 151) (by decide +kernel) rfl
theorem kw_ly_Cn_9 : (Cond.lays cn_Cn cn_Cn "blocksSent" "I" : Cond) ∈ bs_big := bs_of (i := 153) (by decide +kernel) rfl
theorem kw_fl_Lp_14 : (Cond.fieldLink cn_Lp 14 cn_Lp "line" "LLoadProfileMeter$Row;" : Cond) ∈ bs_big := bs_of (i := 156) (by decide +kernel) rfl
theorem kw_fl_Lp_18 : (Cond.fieldLink cn_Lp 18 cn_Lp "answered" "LLoadProfileMeter$Row;" : Cond) ∈ bs_big := bs_of (i := 157) (by decide +kernel) rfl
theorem kw_fl_Lp_24 : (Cond.fieldLink cn_Lp 24 cn_Lp "asker" "LLoadProfileMeter$Asker;" : Cond) ∈ bs_big := bs_of (i := 158) (by decide +kernel) rfl
theorem kw_fl_Lp_33 : (Cond.fieldLink cn_Lp 33 cn_Lp "connection" "LLoadProfileMeter$Connection;" : Cond) ∈ bs_big := bs_of (i := 159) (by decide +kernel) rfl
theorem kw_fl_Lp_41 : (Cond.fieldLink cn_Lp 41 cn_Lp "meter" "LLoadProfileMeter$Meter;" : Cond) ∈ bs_big := bs_of (i := 160) (by decide +kernel) rfl
theorem kw_ly_Lp_0 : (Cond.laysFinal cn_Lp cn_Lp "line" "LLoadProfileMeter$Row;" : Cond) ∈ bs_big := bs_of (i := 161) (by decide +kernel) rfl
theorem kw_ly_Lp_1 : (Cond.laysFinal cn_Lp cn_Lp "answered" "LLoadProfileMeter$Row;" : Cond) ∈ bs_big := bs_of (i := 163) (by decide +kernel) rfl
theorem kw_ly_Lp_2 : (Cond.laysFinal cn_Lp cn_Lp "asker" "LLoadProfileMeter$Asker;" : Cond) ∈ bs_big := bs_of (i := 165) (by decide +kernel) rfl
theorem kw_ly_Lp_3 : (Cond.laysFinal cn_Lp cn_Lp "connection" "LLoadProfileMeter$Connection;" : Cond) ∈ bs_big := bs_of (i := 167) (by decide +kernel) rfl
theorem kw_ly_Lp_4 : (Cond.laysFinal cn_Lp cn_Lp "meter" "LLoadProfileMeter$Meter;" : Cond) ∈ bs_big := bs_of (i := 169) (by decide +kernel) rfl
theorem kw_ml_La_74 : (Cond.methodLink cn_La 74 my_Lp_time : Cond) ∈ bs_big := bs_of (i := 172) (by decide +kernel) rfl
theorem kw_im_Lp_time : (Cond.instanceMethod my_Lp_time : Cond) ∈ bs_big := bs_of (i := 173) (by decide +kernel) rfl
theorem kw_se_Lp_time : (Cond.selects cn_Lp my_Lp_time my_Lp_time : Cond) ∈ bs_big := bs_of (i := 174) (by decide +kernel) rfl
theorem kw_cd_Lp_time : (Cond.code my_Lp_time mb_Lp_time 1 (some .int) : Cond) ∈ bs_big := bs_of (i := 175) (by decide +kernel) rfl
theorem kw_ml_La_82 : (Cond.methodLink cn_La 82 my_Lp_entries : Cond) ∈ bs_big := bs_of (i := 176) (by decide +kernel) rfl
theorem kw_im_Lp_entries : (Cond.instanceMethod my_Lp_entries : Cond) ∈ bs_big := bs_of (i := 177) (by decide +kernel) rfl
theorem kw_se_Lp_entries : (Cond.selects cn_Lp my_Lp_entries my_Lp_entries : Cond) ∈ bs_big := bs_of (i := 178) (by decide +kernel) rfl
theorem kw_cd_Lp_entries : (Cond.code my_Lp_entries mb_Lp_entries 1 (some .int) : Cond) ∈ bs_big := bs_of (i := 179) (by decide +kernel) rfl
theorem kw_ml_La_89 : (Cond.methodLink cn_La 89 my_Lp_link : Cond) ∈ bs_big := bs_of (i := 180) (by decide +kernel) rfl
theorem kw_im_Lp_link : (Cond.instanceMethod my_Lp_link : Cond) ∈ bs_big := bs_of (i := 181) (by decide +kernel) rfl
theorem kw_se_Lp_link : (Cond.selects cn_Lp my_Lp_link my_Lp_link : Cond) ∈ bs_big := bs_of (i := 182) (by decide +kernel) rfl
theorem kw_cd_Lp_link : (Cond.code my_Lp_link mb_Lp_link 1 (some .int) : Cond) ∈ bs_big := bs_of (i := 183) (by decide +kernel) rfl
theorem kw_ml_Lp_84 : (Cond.methodLink cn_Lp 84 my_Cn_state : Cond) ∈ bs_big := bs_of (i := 184) (by decide +kernel) rfl
theorem kw_im_Cn_state : (Cond.instanceMethod my_Cn_state : Cond) ∈ bs_big := bs_of (i := 185) (by decide +kernel) rfl
theorem kw_se_Cn_state : (Cond.selects cn_Cn my_Cn_state my_Cn_state : Cond) ∈ bs_big := bs_of (i := 186) (by decide +kernel) rfl
theorem kw_cd_Cn_state : (Cond.code my_Cn_state mb_Cn_state 1 (some .int) : Cond) ∈ bs_big := bs_of (i := 187) (by decide +kernel) rfl
theorem kw_ml_La_110 : (Cond.methodLink cn_La 110 my_Lp_clear : Cond) ∈ bs_big := bs_of (i := 188) (by decide +kernel) rfl
theorem kw_im_Lp_clear : (Cond.instanceMethod my_Lp_clear : Cond) ∈ bs_big := bs_of (i := 189) (by decide +kernel) rfl
theorem kw_se_Lp_clear : (Cond.selects cn_Lp my_Lp_clear my_Lp_clear : Cond) ∈ bs_big := bs_of (i := 190) (by decide +kernel) rfl
theorem kw_cd_Lp_clear : (Cond.code my_Lp_clear mb_Lp_clear 1 none : Cond) ∈ bs_big := bs_of (i := 191) (by decide +kernel) rfl
theorem kw_ml_Lp_119 : (Cond.methodLink cn_Lp 119 my_Rw_drop : Cond) ∈ bs_big := bs_of (i := 192) (by decide +kernel) rfl
theorem kw_im_Rw_drop : (Cond.instanceMethod my_Rw_drop : Cond) ∈ bs_big := bs_of (i := 193) (by decide +kernel) rfl
theorem kw_se_Rw_drop : (Cond.selects cn_Rw my_Rw_drop my_Rw_drop : Cond) ∈ bs_big := bs_of (i := 194) (by decide +kernel) rfl
theorem kw_cd_Rw_drop : (Cond.code my_Rw_drop mb_Rw_drop 1 none : Cond) ∈ bs_big := bs_of (i := 195) (by decide +kernel) rfl
theorem kw_ml_La_114 : (Cond.methodLink cn_La 114 my_Lp_deliver : Cond) ∈ bs_big := bs_of (i := 196) (by decide +kernel) rfl
theorem kw_im_Lp_deliver : (Cond.instanceMethod my_Lp_deliver : Cond) ∈ bs_big := bs_of (i := 197) (by decide +kernel) rfl
theorem kw_se_Lp_deliver : (Cond.selects cn_Lp my_Lp_deliver my_Lp_deliver : Cond) ∈ bs_big := bs_of (i := 198) (by decide +kernel) rfl
theorem kw_cd_Lp_deliver : (Cond.code my_Lp_deliver mb_Lp_deliver 2 (some .int) : Cond) ∈ bs_big := bs_of (i := 199) (by decide +kernel) rfl
theorem kw_ml_Lp_122 : (Cond.methodLink cn_Lp 122 my_Fr_isFrame : Cond) ∈ bs_big := bs_of (i := 200) (by decide +kernel) rfl
theorem kw_st_Fr_isFrame : (Cond.static my_Fr_isFrame : Cond) ∈ bs_big := bs_of (i := 201) (by decide +kernel) rfl
theorem kw_cd_Fr_isFrame : (Cond.code my_Fr_isFrame mb_Fr_isFrame 3 (some .boolean) : Cond) ∈ bs_big := bs_of (i := 202) (by decide +kernel) rfl
theorem kw_ml_Fr_30 : (Cond.methodLink cn_Fr 30 my_Fr_payloadSize : Cond) ∈ bs_big := bs_of (i := 203) (by decide +kernel) rfl
theorem kw_st_Fr_payloadSize : (Cond.static my_Fr_payloadSize : Cond) ∈ bs_big := bs_of (i := 204) (by decide +kernel) rfl
theorem kw_cd_Fr_payloadSize : (Cond.code my_Fr_payloadSize mb_Fr_payloadSize 1 (some .int) : Cond) ∈ bs_big := bs_of (i := 205) (by decide +kernel) rfl
theorem kw_ml_Fr_34 : (Cond.methodLink cn_Fr 34 my_Rw_at : Cond) ∈ bs_big := bs_of (i := 206) (by decide +kernel) rfl
theorem kw_im_Rw_at : (Cond.instanceMethod my_Rw_at : Cond) ∈ bs_big := bs_of (i := 207) (by decide +kernel) rfl
theorem kw_se_Rw_at : (Cond.selects cn_Rw my_Rw_at my_Rw_at : Cond) ∈ bs_big := bs_of (i := 208) (by decide +kernel) rfl
theorem kw_cd_Rw_at : (Cond.code my_Rw_at mb_Rw_at 2 (some .int) : Cond) ∈ bs_big := bs_of (i := 209) (by decide +kernel) rfl
theorem kw_ml_Fr_38 : (Cond.methodLink cn_Fr 38 my_Fr_isChecked : Cond) ∈ bs_big := bs_of (i := 210) (by decide +kernel) rfl
theorem kw_st_Fr_isChecked : (Cond.static my_Fr_isChecked : Cond) ∈ bs_big := bs_of (i := 211) (by decide +kernel) rfl
theorem kw_cd_Fr_isChecked : (Cond.code my_Fr_isChecked mb_Fr_isChecked 3 (some .boolean) : Cond) ∈ bs_big := bs_of (i := 212) (by decide +kernel) rfl
theorem kw_ml_Fr_23 : (Cond.methodLink cn_Fr 23 my_Fr_check : Cond) ∈ bs_big := bs_of (i := 213) (by decide +kernel) rfl
theorem kw_st_Fr_check : (Cond.static my_Fr_check : Cond) ∈ bs_big := bs_of (i := 214) (by decide +kernel) rfl
theorem kw_cd_Fr_check : (Cond.code my_Fr_check mb_Fr_check 5 (some .int) : Cond) ∈ bs_big := bs_of (i := 215) (by decide +kernel) rfl
theorem kw_co_Fr_42 : (Cond.constant cn_Fr 42 65535 : Cond) ∈ bs_big := bs_of (i := 216) (by decide +kernel) rfl
theorem kw_co_Fr_43 : (Cond.constant cn_Fr 43 33800 : Cond) ∈ bs_big := bs_of (i := 217) (by decide +kernel) rfl
theorem kw_ml_Lp_126 : (Cond.methodLink cn_Lp 126 my_Cn_receive : Cond) ∈ bs_big := bs_of (i := 218) (by decide +kernel) rfl
theorem kw_im_Cn_receive : (Cond.instanceMethod my_Cn_receive : Cond) ∈ bs_big := bs_of (i := 219) (by decide +kernel) rfl
theorem kw_se_Cn_receive : (Cond.selects cn_Cn my_Cn_receive my_Cn_receive : Cond) ∈ bs_big := bs_of (i := 220) (by decide +kernel) rfl
theorem kw_cd_Cn_receive : (Cond.code my_Cn_receive mb_Cn_receive 4 none : Cond) ∈ bs_big := bs_of (i := 221) (by decide +kernel) rfl
theorem kw_ml_Cn_55 : (Cond.methodLink cn_Cn 55 my_Rw_at : Cond) ∈ bs_big := bs_of (i := 222) (by decide +kernel) rfl
theorem kw_ml_Cn_62 : (Cond.methodLink cn_Cn 62 my_Cn_receiveBare : Cond) ∈ bs_big := bs_of (i := 223) (by decide +kernel) rfl
theorem kw_im_Cn_receiveBare : (Cond.instanceMethod my_Cn_receiveBare : Cond) ∈ bs_big := bs_of (i := 225) (by decide +kernel) rfl
theorem kw_cd_Cn_receiveBare : (Cond.code my_Cn_receiveBare mb_Cn_receiveBare 3 none : Cond) ∈ bs_big := bs_of (i := 226) (by decide +kernel) rfl
theorem kw_ml_Cn_99 : (Cond.methodLink cn_Cn 99 my_Cn_connect : Cond) ∈ bs_big := bs_of (i := 227) (by decide +kernel) rfl
theorem kw_im_Cn_connect : (Cond.instanceMethod my_Cn_connect : Cond) ∈ bs_big := bs_of (i := 229) (by decide +kernel) rfl
theorem kw_cd_Cn_connect : (Cond.code my_Cn_connect mb_Cn_connect 1 none : Cond) ∈ bs_big := bs_of (i := 230) (by decide +kernel) rfl
theorem kw_ml_Cn_78 : (Cond.methodLink cn_Cn 78 my_Rw_drop : Cond) ∈ bs_big := bs_of (i := 231) (by decide +kernel) rfl
theorem kw_ml_Cn_70 : (Cond.methodLink cn_Cn 70 my_Fr_wrap : Cond) ∈ bs_big := bs_of (i := 232) (by decide +kernel) rfl
theorem kw_st_Fr_wrap : (Cond.static my_Fr_wrap : Cond) ∈ bs_big := bs_of (i := 233) (by decide +kernel) rfl
theorem kw_cd_Fr_wrap : (Cond.code my_Fr_wrap mb_Fr_wrap 5 none : Cond) ∈ bs_big := bs_of (i := 234) (by decide +kernel) rfl
theorem kw_ml_Fr_15 : (Cond.methodLink cn_Fr 15 my_Rw_moveBack : Cond) ∈ bs_big := bs_of (i := 235) (by decide +kernel) rfl
theorem kw_im_Rw_moveBack : (Cond.instanceMethod my_Rw_moveBack : Cond) ∈ bs_big := bs_of (i := 236) (by decide +kernel) rfl
theorem kw_se_Rw_moveBack : (Cond.selects cn_Rw my_Rw_moveBack my_Rw_moveBack : Cond) ∈ bs_big := bs_of (i := 237) (by decide +kernel) rfl
theorem kw_cd_Rw_moveBack : (Cond.code my_Rw_moveBack mb_Rw_moveBack 2 none : Cond) ∈ bs_big := bs_of (i := 238) (by decide +kernel) rfl
theorem kw_ml_Rw_28 : (Cond.methodLink cn_Rw 28 arraycopyName : Cond) ∈ bs_big := bs_of (i := 239) (by decide +kernel) rfl
theorem kw_st_copy : (Cond.static arraycopyName : Cond) ∈ bs_big := bs_of (i := 240) (by decide +kernel) rfl
theorem kw_nv_copy : (Cond.native arraycopyName : Cond) ∈ bs_big := bs_of (i := 241) (by decide +kernel) rfl
theorem kw_ml_Fr_19 : (Cond.methodLink cn_Fr 19 my_Rw_change : Cond) ∈ bs_big := bs_of (i := 242) (by decide +kernel) rfl
theorem kw_im_Rw_change : (Cond.instanceMethod my_Rw_change : Cond) ∈ bs_big := bs_of (i := 243) (by decide +kernel) rfl
theorem kw_se_Rw_change : (Cond.selects cn_Rw my_Rw_change my_Rw_change : Cond) ∈ bs_big := bs_of (i := 244) (by decide +kernel) rfl
theorem kw_cd_Rw_change : (Cond.code my_Rw_change mb_Rw_change 3 none : Cond) ∈ bs_big := bs_of (i := 245) (by decide +kernel) rfl
theorem kw_ml_Fr_27 : (Cond.methodLink cn_Fr 27 my_Rw_add : Cond) ∈ bs_big := bs_of (i := 246) (by decide +kernel) rfl
theorem kw_im_Rw_add : (Cond.instanceMethod my_Rw_add : Cond) ∈ bs_big := bs_of (i := 247) (by decide +kernel) rfl
theorem kw_se_Rw_add : (Cond.selects cn_Rw my_Rw_add my_Rw_add : Cond) ∈ bs_big := bs_of (i := 248) (by decide +kernel) rfl
theorem kw_cd_Rw_add : (Cond.code my_Rw_add mb_Rw_add 2 none : Cond) ∈ bs_big := bs_of (i := 249) (by decide +kernel) rfl
theorem kw_ml_Cn_66 : (Cond.methodLink cn_Cn 66 my_Fr_isInformation : Cond) ∈ bs_big := bs_of (i := 250) (by decide +kernel) rfl
theorem kw_st_Fr_isInformation : (Cond.static my_Fr_isInformation : Cond) ∈ bs_big := bs_of (i := 251) (by decide +kernel) rfl
theorem kw_cd_Fr_isInformation : (Cond.code my_Fr_isInformation mb_Fr_isInformation 1 (some .boolean) : Cond) ∈ bs_big := bs_of (i := 252) (by decide +kernel) rfl
theorem kw_ml_Cn_74 : (Cond.methodLink cn_Cn 74 my_Fr_information : Cond) ∈ bs_big := bs_of (i := 253) (by decide +kernel) rfl
theorem kw_st_Fr_information : (Cond.static my_Fr_information : Cond) ∈ bs_big := bs_of (i := 254) (by decide +kernel) rfl
theorem kw_cd_Fr_information : (Cond.code my_Fr_information mb_Fr_information 2 (some .int) : Cond) ∈ bs_big := bs_of (i := 255) (by decide +kernel) rfl
theorem kw_ml_Cn_81 : (Cond.methodLink cn_Cn 81 my_Fr_payloadSize : Cond) ∈ bs_big := bs_of (i := 256) (by decide +kernel) rfl
theorem kw_ml_Cn_85 : (Cond.methodLink cn_Cn 85 my_Rw_addPart : Cond) ∈ bs_big := bs_of (i := 257) (by decide +kernel) rfl
theorem kw_im_Rw_addPart : (Cond.instanceMethod my_Rw_addPart : Cond) ∈ bs_big := bs_of (i := 258) (by decide +kernel) rfl
theorem kw_se_Rw_addPart : (Cond.selects cn_Rw my_Rw_addPart my_Rw_addPart : Cond) ∈ bs_big := bs_of (i := 259) (by decide +kernel) rfl
theorem kw_cd_Rw_addPart : (Cond.code my_Rw_addPart mb_Rw_addPart 5 none : Cond) ∈ bs_big := bs_of (i := 260) (by decide +kernel) rfl
theorem kw_ml_Rw_24 : (Cond.methodLink cn_Rw 24 my_Rw_at : Cond) ∈ bs_big := bs_of (i := 261) (by decide +kernel) rfl
theorem kw_ml_Rw_17 : (Cond.methodLink cn_Rw 17 my_Rw_add : Cond) ∈ bs_big := bs_of (i := 262) (by decide +kernel) rfl
theorem kw_ml_Cn_89 : (Cond.methodLink cn_Cn 89 my_Cn_answer : Cond) ∈ bs_big := bs_of (i := 263) (by decide +kernel) rfl
theorem kw_im_Cn_answer : (Cond.instanceMethod my_Cn_answer : Cond) ∈ bs_big := bs_of (i := 265) (by decide +kernel) rfl
theorem kw_cd_Cn_answer : (Cond.code my_Cn_answer mb_Cn_answer 3 none : Cond) ∈ bs_big := bs_of (i := 266) (by decide +kernel) rfl
theorem kw_ml_Cn_105 : (Cond.methodLink cn_Cn 105 my_Cn_begins : Cond) ∈ bs_big := bs_of (i := 267) (by decide +kernel) rfl
theorem kw_im_Cn_begins : (Cond.instanceMethod my_Cn_begins : Cond) ∈ bs_big := bs_of (i := 269) (by decide +kernel) rfl
theorem kw_cd_Cn_begins : (Cond.code my_Cn_begins mb_Cn_begins 3 (some .boolean) : Cond) ∈ bs_big := bs_of (i := 270) (by decide +kernel) rfl
theorem kw_ml_Cn_109 : (Cond.methodLink cn_Cn 109 my_Cn_associate : Cond) ∈ bs_big := bs_of (i := 271) (by decide +kernel) rfl
theorem kw_im_Cn_associate : (Cond.instanceMethod my_Cn_associate : Cond) ∈ bs_big := bs_of (i := 273) (by decide +kernel) rfl
theorem kw_cd_Cn_associate : (Cond.code my_Cn_associate mb_Cn_associate 4 none : Cond) ∈ bs_big := bs_of (i := 274) (by decide +kernel) rfl
theorem kw_ml_Cn_126 : (Cond.methodLink cn_Cn 126 my_Rw_intAt : Cond) ∈ bs_big := bs_of (i := 275) (by decide +kernel) rfl
theorem kw_im_Rw_intAt : (Cond.instanceMethod my_Rw_intAt : Cond) ∈ bs_big := bs_of (i := 276) (by decide +kernel) rfl
theorem kw_se_Rw_intAt : (Cond.selects cn_Rw my_Rw_intAt my_Rw_intAt : Cond) ∈ bs_big := bs_of (i := 277) (by decide +kernel) rfl
theorem kw_cd_Rw_intAt : (Cond.code my_Rw_intAt mb_Rw_intAt 2 (some .int) : Cond) ∈ bs_big := bs_of (i := 278) (by decide +kernel) rfl
theorem kw_ml_Cn_119 : (Cond.methodLink cn_Cn 119 my_Cn_addTwo : Cond) ∈ bs_big := bs_of (i := 279) (by decide +kernel) rfl
theorem kw_st_Cn_addTwo : (Cond.static my_Cn_addTwo : Cond) ∈ bs_big := bs_of (i := 280) (by decide +kernel) rfl
theorem kw_cd_Cn_addTwo : (Cond.code my_Cn_addTwo mb_Cn_addTwo 3 none : Cond) ∈ bs_big := bs_of (i := 281) (by decide +kernel) rfl
theorem kw_ml_Cn_112 : (Cond.methodLink cn_Cn 112 my_Rw_add : Cond) ∈ bs_big := bs_of (i := 282) (by decide +kernel) rfl
theorem kw_ml_Cn_115 : (Cond.methodLink cn_Cn 115 my_Cn_needsAssociation : Cond) ∈ bs_big := bs_of (i := 283) (by decide +kernel) rfl
theorem kw_im_Cn_needsAssociation : (Cond.instanceMethod my_Cn_needsAssociation : Cond) ∈ bs_big := bs_of (i := 285) (by decide +kernel) rfl
theorem kw_cd_Cn_needsAssociation : (Cond.code my_Cn_needsAssociation mb_Cn_needsAssociation 2 (some .boolean) : Cond) ∈ bs_big := bs_of (i := 286) (by decide +kernel) rfl
theorem kw_ml_Cn_122 : (Cond.methodLink cn_Cn 122 my_Cn_answerGet : Cond) ∈ bs_big := bs_of (i := 287) (by decide +kernel) rfl
theorem kw_im_Cn_answerGet : (Cond.instanceMethod my_Cn_answerGet : Cond) ∈ bs_big := bs_of (i := 289) (by decide +kernel) rfl
theorem kw_cd_Cn_answerGet : (Cond.code my_Cn_answerGet mb_Cn_answerGet 8 none : Cond) ∈ bs_big := bs_of (i := 290) (by decide +kernel) rfl
theorem kw_ml_Cn_139 : (Cond.methodLink cn_Cn 139 my_Mt_resultOfGetting : Cond) ∈ bs_big := bs_of (i := 291) (by decide +kernel) rfl
theorem kw_st_Mt_resultOfGetting : (Cond.static my_Mt_resultOfGetting : Cond) ∈ bs_big := bs_of (i := 292) (by decide +kernel) rfl
theorem kw_cd_Mt_resultOfGetting : (Cond.code my_Mt_resultOfGetting mb_Mt_resultOfGetting 3 (some .int) : Cond) ∈ bs_big := bs_of (i := 293) (by decide +kernel) rfl
theorem kw_ml_Mt_34 : (Cond.methodLink cn_Mt 34 my_Mt_isObject : Cond) ∈ bs_big := bs_of (i := 294) (by decide +kernel) rfl
theorem kw_st_Mt_isObject : (Cond.static my_Mt_isObject : Cond) ∈ bs_big := bs_of (i := 295) (by decide +kernel) rfl
theorem kw_cd_Mt_isObject : (Cond.code my_Mt_isObject mb_Mt_isObject 1 (some .boolean) : Cond) ∈ bs_big := bs_of (i := 296) (by decide +kernel) rfl
theorem kw_ml_Mt_38 : (Cond.methodLink cn_Mt 38 my_Mt_isAttribute : Cond) ∈ bs_big := bs_of (i := 297) (by decide +kernel) rfl
theorem kw_st_Mt_isAttribute : (Cond.static my_Mt_isAttribute : Cond) ∈ bs_big := bs_of (i := 298) (by decide +kernel) rfl
theorem kw_cd_Mt_isAttribute : (Cond.code my_Mt_isAttribute mb_Mt_isAttribute 2 (some .boolean) : Cond) ∈ bs_big := bs_of (i := 299) (by decide +kernel) rfl
theorem kw_ml_Cn_143 : (Cond.methodLink cn_Cn 143 my_Cn_addFailure : Cond) ∈ bs_big := bs_of (i := 300) (by decide +kernel) rfl
theorem kw_st_Cn_addFailure : (Cond.static my_Cn_addFailure : Cond) ∈ bs_big := bs_of (i := 301) (by decide +kernel) rfl
theorem kw_cd_Cn_addFailure : (Cond.code my_Cn_addFailure mb_Cn_addFailure 2 none : Cond) ∈ bs_big := bs_of (i := 302) (by decide +kernel) rfl
theorem kw_ml_Cn_146 : (Cond.methodLink cn_Cn 146 my_Mt_write : Cond) ∈ bs_big := bs_of (i := 303) (by decide +kernel) rfl
theorem kw_im_Mt_write : (Cond.instanceMethod my_Mt_write : Cond) ∈ bs_big := bs_of (i := 304) (by decide +kernel) rfl
theorem kw_se_Mt_write : (Cond.selects cn_Mt my_Mt_write my_Mt_write : Cond) ∈ bs_big := bs_of (i := 305) (by decide +kernel) rfl
theorem kw_cd_Mt_write : (Cond.code my_Mt_write mb_Mt_write 6 none : Cond) ∈ bs_big := bs_of (i := 306) (by decide +kernel) rfl
theorem kw_ml_Mt_42 : (Cond.methodLink cn_Mt 42 my_Rw_add : Cond) ∈ bs_big := bs_of (i := 307) (by decide +kernel) rfl
theorem kw_ml_Mt_47 : (Cond.methodLink cn_Mt 47 my_Rw_addTagged : Cond) ∈ bs_big := bs_of (i := 308) (by decide +kernel) rfl
theorem kw_im_Rw_addTagged : (Cond.instanceMethod my_Rw_addTagged : Cond) ∈ bs_big := bs_of (i := 309) (by decide +kernel) rfl
theorem kw_se_Rw_addTagged : (Cond.selects cn_Rw my_Rw_addTagged my_Rw_addTagged : Cond) ∈ bs_big := bs_of (i := 310) (by decide +kernel) rfl
theorem kw_cd_Rw_addTagged : (Cond.code my_Rw_addTagged mb_Rw_addTagged 3 none : Cond) ∈ bs_big := bs_of (i := 311) (by decide +kernel) rfl
theorem kw_ml_Rw_21 : (Cond.methodLink cn_Rw 21 my_Rw_addInt : Cond) ∈ bs_big := bs_of (i := 312) (by decide +kernel) rfl
theorem kw_im_Rw_addInt : (Cond.instanceMethod my_Rw_addInt : Cond) ∈ bs_big := bs_of (i := 313) (by decide +kernel) rfl
theorem kw_se_Rw_addInt : (Cond.selects cn_Rw my_Rw_addInt my_Rw_addInt : Cond) ∈ bs_big := bs_of (i := 314) (by decide +kernel) rfl
theorem kw_cd_Rw_addInt : (Cond.code my_Rw_addInt mb_Rw_addInt 2 none : Cond) ∈ bs_big := bs_of (i := 315) (by decide +kernel) rfl
theorem kw_ml_Mt_51 : (Cond.methodLink cn_Mt 51 my_Pf_writeEntries : Cond) ∈ bs_big := bs_of (i := 316) (by decide +kernel) rfl
theorem kw_im_Pf_writeEntries : (Cond.instanceMethod my_Pf_writeEntries : Cond) ∈ bs_big := bs_of (i := 317) (by decide +kernel) rfl
theorem kw_se_Pf_writeEntries : (Cond.selects cn_Pf my_Pf_writeEntries my_Pf_writeEntries : Cond) ∈ bs_big := bs_of (i := 318) (by decide +kernel) rfl
theorem kw_cd_Pf_writeEntries : (Cond.code my_Pf_writeEntries mb_Pf_writeEntries 8 none : Cond) ∈ bs_big := bs_of (i := 319) (by decide +kernel) rfl
theorem kw_ml_Pf_47 : (Cond.methodLink cn_Pf 47 my_Rw_add : Cond) ∈ bs_big := bs_of (i := 320) (by decide +kernel) rfl
theorem kw_ml_Pf_41 : (Cond.methodLink cn_Pf 41 my_Pf_start : Cond) ∈ bs_big := bs_of (i := 321) (by decide +kernel) rfl
theorem kw_im_Pf_start : (Cond.instanceMethod my_Pf_start : Cond) ∈ bs_big := bs_of (i := 323) (by decide +kernel) rfl
theorem kw_cd_Pf_start : (Cond.code my_Pf_start mb_Pf_start 2 (some .int) : Cond) ∈ bs_big := bs_of (i := 324) (by decide +kernel) rfl
theorem kw_ml_Pf_53 : (Cond.methodLink cn_Pf 53 my_Pf_isWithin : Cond) ∈ bs_big := bs_of (i := 325) (by decide +kernel) rfl
theorem kw_st_Pf_isWithin : (Cond.static my_Pf_isWithin : Cond) ∈ bs_big := bs_of (i := 326) (by decide +kernel) rfl
theorem kw_cd_Pf_isWithin : (Cond.code my_Pf_isWithin mb_Pf_isWithin 3 (some .boolean) : Cond) ∈ bs_big := bs_of (i := 327) (by decide +kernel) rfl
theorem kw_ml_Pf_57 : (Cond.methodLink cn_Pf 57 my_Rw_addTagged : Cond) ∈ bs_big := bs_of (i := 328) (by decide +kernel) rfl
theorem kw_ml_Pf_61 : (Cond.methodLink cn_Pf 61 my_Rw_change : Cond) ∈ bs_big := bs_of (i := 329) (by decide +kernel) rfl
theorem kw_ml_Mt_55 : (Cond.methodLink cn_Mt 55 my_Pf_writeSetting : Cond) ∈ bs_big := bs_of (i := 330) (by decide +kernel) rfl
theorem kw_im_Pf_writeSetting : (Cond.instanceMethod my_Pf_writeSetting : Cond) ∈ bs_big := bs_of (i := 331) (by decide +kernel) rfl
theorem kw_se_Pf_writeSetting : (Cond.selects cn_Pf my_Pf_writeSetting my_Pf_writeSetting : Cond) ∈ bs_big := bs_of (i := 332) (by decide +kernel) rfl
theorem kw_cd_Pf_writeSetting : (Cond.code my_Pf_writeSetting mb_Pf_writeSetting 3 none : Cond) ∈ bs_big := bs_of (i := 333) (by decide +kernel) rfl
theorem kw_ml_Pf_64 : (Cond.methodLink cn_Pf 64 my_Pf_writeColumns : Cond) ∈ bs_big := bs_of (i := 334) (by decide +kernel) rfl
theorem kw_im_Pf_writeColumns : (Cond.instanceMethod my_Pf_writeColumns : Cond) ∈ bs_big := bs_of (i := 336) (by decide +kernel) rfl
theorem kw_cd_Pf_writeColumns : (Cond.code my_Pf_writeColumns mb_Pf_writeColumns 3 none : Cond) ∈ bs_big := bs_of (i := 337) (by decide +kernel) rfl
theorem kw_ml_Mt_59 : (Cond.methodLink cn_Mt 59 my_Mt_isRegister : Cond) ∈ bs_big := bs_of (i := 338) (by decide +kernel) rfl
theorem kw_st_Mt_isRegister : (Cond.static my_Mt_isRegister : Cond) ∈ bs_big := bs_of (i := 339) (by decide +kernel) rfl
theorem kw_cd_Mt_isRegister : (Cond.code my_Mt_isRegister mb_Mt_isRegister 1 (some .boolean) : Cond) ∈ bs_big := bs_of (i := 340) (by decide +kernel) rfl
theorem kw_ml_Mt_62 : (Cond.methodLink cn_Mt 62 my_Mt_writeRegister : Cond) ∈ bs_big := bs_of (i := 341) (by decide +kernel) rfl
theorem kw_im_Mt_writeRegister : (Cond.instanceMethod my_Mt_writeRegister : Cond) ∈ bs_big := bs_of (i := 343) (by decide +kernel) rfl
theorem kw_cd_Mt_writeRegister : (Cond.code my_Mt_writeRegister mb_Mt_writeRegister 4 none : Cond) ∈ bs_big := bs_of (i := 344) (by decide +kernel) rfl
theorem kw_ml_Cn_150 : (Cond.methodLink cn_Cn 150 my_Cn_sendBlock : Cond) ∈ bs_big := bs_of (i := 345) (by decide +kernel) rfl
theorem kw_im_Cn_sendBlock : (Cond.instanceMethod my_Cn_sendBlock : Cond) ∈ bs_big := bs_of (i := 347) (by decide +kernel) rfl
theorem kw_cd_Cn_sendBlock : (Cond.code my_Cn_sendBlock mb_Cn_sendBlock 6 none : Cond) ∈ bs_big := bs_of (i := 348) (by decide +kernel) rfl
theorem kw_ml_Cn_129 : (Cond.methodLink cn_Cn 129 my_Cn_answerNextBlock : Cond) ∈ bs_big := bs_of (i := 349) (by decide +kernel) rfl
theorem kw_im_Cn_answerNextBlock : (Cond.instanceMethod my_Cn_answerNextBlock : Cond) ∈ bs_big := bs_of (i := 351) (by decide +kernel) rfl
theorem kw_cd_Cn_answerNextBlock : (Cond.code my_Cn_answerNextBlock mb_Cn_answerNextBlock 3 none : Cond) ∈ bs_big := bs_of (i := 352) (by decide +kernel) rfl
theorem kw_ml_Cn_132 : (Cond.methodLink cn_Cn 132 my_Mt_set : Cond) ∈ bs_big := bs_of (i := 353) (by decide +kernel) rfl
theorem kw_im_Mt_set : (Cond.instanceMethod my_Mt_set : Cond) ∈ bs_big := bs_of (i := 354) (by decide +kernel) rfl
theorem kw_se_Mt_set : (Cond.selects cn_Mt my_Mt_set my_Mt_set : Cond) ∈ bs_big := bs_of (i := 355) (by decide +kernel) rfl
theorem kw_cd_Mt_set : (Cond.code my_Mt_set mb_Mt_set 6 (some .int) : Cond) ∈ bs_big := bs_of (i := 356) (by decide +kernel) rfl
theorem kw_ml_Mt_65 : (Cond.methodLink cn_Mt 65 my_Rw_at : Cond) ∈ bs_big := bs_of (i := 357) (by decide +kernel) rfl
theorem kw_ml_Mt_69 : (Cond.methodLink cn_Mt 69 my_Mt_isSettable : Cond) ∈ bs_big := bs_of (i := 358) (by decide +kernel) rfl
theorem kw_st_Mt_isSettable : (Cond.static my_Mt_isSettable : Cond) ∈ bs_big := bs_of (i := 359) (by decide +kernel) rfl
theorem kw_cd_Mt_isSettable : (Cond.code my_Mt_isSettable mb_Mt_isSettable 2 (some .boolean) : Cond) ∈ bs_big := bs_of (i := 360) (by decide +kernel) rfl
theorem kw_ml_Mt_72 : (Cond.methodLink cn_Mt 72 my_Pf_takeColumns : Cond) ∈ bs_big := bs_of (i := 361) (by decide +kernel) rfl
theorem kw_im_Pf_takeColumns : (Cond.instanceMethod my_Pf_takeColumns : Cond) ∈ bs_big := bs_of (i := 362) (by decide +kernel) rfl
theorem kw_se_Pf_takeColumns : (Cond.selects cn_Pf my_Pf_takeColumns my_Pf_takeColumns : Cond) ∈ bs_big := bs_of (i := 363) (by decide +kernel) rfl
theorem kw_cd_Pf_takeColumns : (Cond.code my_Pf_takeColumns mb_Pf_takeColumns 3 (some .boolean) : Cond) ∈ bs_big := bs_of (i := 364) (by decide +kernel) rfl
theorem kw_ml_Pf_68 : (Cond.methodLink cn_Pf 68 my_Pf_hasColumns : Cond) ∈ bs_big := bs_of (i := 365) (by decide +kernel) rfl
theorem kw_st_Pf_hasColumns : (Cond.static my_Pf_hasColumns : Cond) ∈ bs_big := bs_of (i := 366) (by decide +kernel) rfl
theorem kw_cd_Pf_hasColumns : (Cond.code my_Pf_hasColumns mb_Pf_hasColumns 5 (some .boolean) : Cond) ∈ bs_big := bs_of (i := 367) (by decide +kernel) rfl
theorem kw_ml_Pf_72 : (Cond.methodLink cn_Pf 72 my_Rw_at : Cond) ∈ bs_big := bs_of (i := 368) (by decide +kernel) rfl
theorem kw_ml_Pf_79 : (Cond.methodLink cn_Pf 79 my_Mt_isRegister : Cond) ∈ bs_big := bs_of (i := 369) (by decide +kernel) rfl
theorem kw_ml_Pf_75 : (Cond.methodLink cn_Pf 75 my_Pf_forget : Cond) ∈ bs_big := bs_of (i := 370) (by decide +kernel) rfl
theorem kw_im_Pf_forget : (Cond.instanceMethod my_Pf_forget : Cond) ∈ bs_big := bs_of (i := 371) (by decide +kernel) rfl
theorem kw_se_Pf_forget : (Cond.selects cn_Pf my_Pf_forget my_Pf_forget : Cond) ∈ bs_big := bs_of (i := 372) (by decide +kernel) rfl
theorem kw_cd_Pf_forget : (Cond.code my_Pf_forget mb_Pf_forget 1 none : Cond) ∈ bs_big := bs_of (i := 373) (by decide +kernel) rfl
theorem kw_ml_Mt_76 : (Cond.methodLink cn_Mt 76 my_Mt_takeNumber : Cond) ∈ bs_big := bs_of (i := 374) (by decide +kernel) rfl
theorem kw_im_Mt_takeNumber : (Cond.instanceMethod my_Mt_takeNumber : Cond) ∈ bs_big := bs_of (i := 376) (by decide +kernel) rfl
theorem kw_cd_Mt_takeNumber : (Cond.code my_Mt_takeNumber mb_Mt_takeNumber 6 (some .boolean) : Cond) ∈ bs_big := bs_of (i := 377) (by decide +kernel) rfl
theorem kw_ml_Mt_83 : (Cond.methodLink cn_Mt 83 my_Rw_intAt : Cond) ∈ bs_big := bs_of (i := 378) (by decide +kernel) rfl
theorem kw_ml_Mt_86 : (Cond.methodLink cn_Mt 86 my_Pf_takePeriod : Cond) ∈ bs_big := bs_of (i := 379) (by decide +kernel) rfl
theorem kw_im_Pf_takePeriod : (Cond.instanceMethod my_Pf_takePeriod : Cond) ∈ bs_big := bs_of (i := 380) (by decide +kernel) rfl
theorem kw_se_Pf_takePeriod : (Cond.selects cn_Pf my_Pf_takePeriod my_Pf_takePeriod : Cond) ∈ bs_big := bs_of (i := 381) (by decide +kernel) rfl
theorem kw_cd_Pf_takePeriod : (Cond.code my_Pf_takePeriod mb_Pf_takePeriod 2 (some .boolean) : Cond) ∈ bs_big := bs_of (i := 382) (by decide +kernel) rfl
theorem kw_ml_Mt_89 : (Cond.methodLink cn_Mt 89 my_Pf_takeCapacity : Cond) ∈ bs_big := bs_of (i := 383) (by decide +kernel) rfl
theorem kw_im_Pf_takeCapacity : (Cond.instanceMethod my_Pf_takeCapacity : Cond) ∈ bs_big := bs_of (i := 384) (by decide +kernel) rfl
theorem kw_se_Pf_takeCapacity : (Cond.selects cn_Pf my_Pf_takeCapacity my_Pf_takeCapacity : Cond) ∈ bs_big := bs_of (i := 385) (by decide +kernel) rfl
theorem kw_cd_Pf_takeCapacity : (Cond.code my_Pf_takeCapacity mb_Pf_takeCapacity 2 (some .boolean) : Cond) ∈ bs_big := bs_of (i := 386) (by decide +kernel) rfl
theorem kw_ml_Mt_92 : (Cond.methodLink cn_Mt 92 my_Mt_takeTime : Cond) ∈ bs_big := bs_of (i := 387) (by decide +kernel) rfl
theorem kw_im_Mt_takeTime : (Cond.instanceMethod my_Mt_takeTime : Cond) ∈ bs_big := bs_of (i := 389) (by decide +kernel) rfl
theorem kw_cd_Mt_takeTime : (Cond.code my_Mt_takeTime mb_Mt_takeTime 2 (some .boolean) : Cond) ∈ bs_big := bs_of (i := 390) (by decide +kernel) rfl
theorem kw_ml_Cn_136 : (Cond.methodLink cn_Cn 136 my_Mt_act : Cond) ∈ bs_big := bs_of (i := 391) (by decide +kernel) rfl
theorem kw_im_Mt_act : (Cond.instanceMethod my_Mt_act : Cond) ∈ bs_big := bs_of (i := 392) (by decide +kernel) rfl
theorem kw_se_Mt_act : (Cond.selects cn_Mt my_Mt_act my_Mt_act : Cond) ∈ bs_big := bs_of (i := 393) (by decide +kernel) rfl
theorem kw_cd_Mt_act : (Cond.code my_Mt_act mb_Mt_act 6 (some .int) : Cond) ∈ bs_big := bs_of (i := 394) (by decide +kernel) rfl
theorem kw_ml_Mt_95 : (Cond.methodLink cn_Mt 95 my_Mt_isMethod : Cond) ∈ bs_big := bs_of (i := 395) (by decide +kernel) rfl
theorem kw_st_Mt_isMethod : (Cond.static my_Mt_isMethod : Cond) ∈ bs_big := bs_of (i := 396) (by decide +kernel) rfl
theorem kw_cd_Mt_isMethod : (Cond.code my_Mt_isMethod mb_Mt_isMethod 2 (some .boolean) : Cond) ∈ bs_big := bs_of (i := 397) (by decide +kernel) rfl
theorem kw_ml_Mt_98 : (Cond.methodLink cn_Mt 98 my_Mt_roundTime : Cond) ∈ bs_big := bs_of (i := 398) (by decide +kernel) rfl
theorem kw_im_Mt_roundTime : (Cond.instanceMethod my_Mt_roundTime : Cond) ∈ bs_big := bs_of (i := 400) (by decide +kernel) rfl
theorem kw_cd_Mt_roundTime : (Cond.code my_Mt_roundTime mb_Mt_roundTime 2 (some .int) : Cond) ∈ bs_big := bs_of (i := 401) (by decide +kernel) rfl
theorem kw_ml_Mt_101 : (Cond.methodLink cn_Mt 101 my_Pf_forget : Cond) ∈ bs_big := bs_of (i := 402) (by decide +kernel) rfl
theorem kw_ml_Mt_30 : (Cond.methodLink cn_Mt 30 my_Pf_capture : Cond) ∈ bs_big := bs_of (i := 403) (by decide +kernel) rfl
theorem kw_im_Pf_capture : (Cond.instanceMethod my_Pf_capture : Cond) ∈ bs_big := bs_of (i := 404) (by decide +kernel) rfl
theorem kw_se_Pf_capture : (Cond.selects cn_Pf my_Pf_capture my_Pf_capture : Cond) ∈ bs_big := bs_of (i := 405) (by decide +kernel) rfl
theorem kw_cd_Pf_capture : (Cond.code my_Pf_capture mb_Pf_capture 5 none : Cond) ∈ bs_big := bs_of (i := 406) (by decide +kernel) rfl
theorem kw_ml_Cn_93 : (Cond.methodLink cn_Cn 93 my_Fr_after : Cond) ∈ bs_big := bs_of (i := 407) (by decide +kernel) rfl
theorem kw_st_Fr_after : (Cond.static my_Fr_after : Cond) ∈ bs_big := bs_of (i := 408) (by decide +kernel) rfl
theorem kw_cd_Fr_after : (Cond.code my_Fr_after mb_Fr_after 1 (some .int) : Cond) ∈ bs_big := bs_of (i := 409) (by decide +kernel) rfl
theorem kw_ml_Cn_96 : (Cond.methodLink cn_Cn 96 my_Cn_isLatestAgain : Cond) ∈ bs_big := bs_of (i := 410) (by decide +kernel) rfl
theorem kw_im_Cn_isLatestAgain : (Cond.instanceMethod my_Cn_isLatestAgain : Cond) ∈ bs_big := bs_of (i := 412) (by decide +kernel) rfl
theorem kw_cd_Cn_isLatestAgain : (Cond.code my_Cn_isLatestAgain mb_Cn_isLatestAgain 2 (some .boolean) : Cond) ∈ bs_big := bs_of (i := 413) (by decide +kernel) rfl
theorem kw_ml_Cn_102 : (Cond.methodLink cn_Cn 102 my_Fr_before : Cond) ∈ bs_big := bs_of (i := 414) (by decide +kernel) rfl
theorem kw_st_Fr_before : (Cond.static my_Fr_before : Cond) ∈ bs_big := bs_of (i := 415) (by decide +kernel) rfl
theorem kw_cd_Fr_before : (Cond.code my_Fr_before mb_Fr_before 1 (some .int) : Cond) ∈ bs_big := bs_of (i := 416) (by decide +kernel) rfl
theorem kw_ml_Lp_130 : (Cond.methodLink cn_Lp 130 my_As_hear : Cond) ∈ bs_big := bs_of (i := 417) (by decide +kernel) rfl
theorem kw_im_As_hear : (Cond.instanceMethod my_As_hear : Cond) ∈ bs_big := bs_of (i := 418) (by decide +kernel) rfl
theorem kw_se_As_hear : (Cond.selects cn_As my_As_hear my_As_hear : Cond) ∈ bs_big := bs_of (i := 419) (by decide +kernel) rfl
theorem kw_cd_As_hear : (Cond.code my_As_hear mb_As_hear 3 none : Cond) ∈ bs_big := bs_of (i := 420) (by decide +kernel) rfl
theorem kw_ml_As_16 : (Cond.methodLink cn_As 16 my_Rw_at : Cond) ∈ bs_big := bs_of (i := 421) (by decide +kernel) rfl
theorem kw_ml_As_24 : (Cond.methodLink cn_As 24 my_Fr_after : Cond) ∈ bs_big := bs_of (i := 422) (by decide +kernel) rfl
theorem kw_ml_As_27 : (Cond.methodLink cn_As 27 my_Fr_information : Cond) ∈ bs_big := bs_of (i := 423) (by decide +kernel) rfl
theorem kw_ml_La_52 : (Cond.methodLink cn_La 52 my_La_cell : Cond) ∈ bs_big := bs_of (i := 424) (by decide +kernel) rfl
theorem kw_st_La_cell : (Cond.static my_La_cell : Cond) ∈ bs_big := bs_of (i := 425) (by decide +kernel) rfl
theorem kw_cd_La_cell : (Cond.code my_La_cell mb_La_cell 2 (some .int) : Cond) ∈ bs_big := bs_of (i := 426) (by decide +kernel) rfl
theorem kw_ml_La_63 : (Cond.methodLink cn_La 63 my_La_run : Cond) ∈ bs_big := bs_of (i := 427) (by decide +kernel) rfl
theorem kw_st_La_run : (Cond.static my_La_run : Cond) ∈ bs_big := bs_of (i := 428) (by decide +kernel) rfl
theorem kw_cd_La_run : (Cond.codeWith my_La_run mb_La_run 3 (some .int) [(0, 5, 8, 13)] : Cond) ∈ bs_big := bs_of (i := 429) (by decide +kernel) rfl
theorem kw_cl_La_13 : (Cond.classLink cn_La 13 "java/lang/IllegalArgumentException" : Cond) ∈ bs_big := bs_of (i := 430) (by decide +kernel) rfl
theorem kw_ml_La_7 : (Cond.methodLink cn_La 7 my_Lp_run : Cond) ∈ bs_big := bs_of (i := 431) (by decide +kernel) rfl
theorem kw_im_Lp_run : (Cond.instanceMethod my_Lp_run : Cond) ∈ bs_big := bs_of (i := 432) (by decide +kernel) rfl
theorem kw_se_Lp_run : (Cond.selects cn_Lp my_Lp_run my_Lp_run : Cond) ∈ bs_big := bs_of (i := 433) (by decide +kernel) rfl
theorem kw_cd_Lp_run : (Cond.code my_Lp_run mb_Lp_run 3 none : Cond) ∈ bs_big := bs_of (i := 434) (by decide +kernel) rfl
theorem kw_cl_Lp_42 : (Cond.classLink cn_Lp 42 "java/lang/IllegalArgumentException" : Cond) ∈ bs_big := bs_of (i := 435) (by decide +kernel) rfl
theorem kw_ib_IllegalArgumentException : (Cond.instantiable "java/lang/IllegalArgumentException" 6 : Cond) ∈ bs_big := bs_of (i := 436) (by decide +kernel) rfl
theorem kw_ca_IllegalArgumentException : (Cond.castable "java/lang/IllegalArgumentException" "java/lang/IllegalArgumentException" : Cond) ∈ lw_tbl := bs_in (i := 437) (by decide +kernel)
theorem kw_ib_Throwable : (Cond.instantiable "java/lang/Throwable" 6 : Cond) ∈ bs_big := bs_of (i := 475) (by decide +kernel) rfl
theorem kw_ml_Lp_44 : (Cond.methodLink cn_Lp 44 ⟨"java/lang/IllegalArgumentException", "<init>", "()V"⟩ : Cond) ∈ bs_big := bs_of (i := 477) (by decide +kernel) rfl
theorem kw_ml_Lp_45 : (Cond.methodLink cn_Lp 45 my_Mt_passSecond : Cond) ∈ bs_big := bs_of (i := 499) (by decide +kernel) rfl
theorem kw_im_Mt_passSecond : (Cond.instanceMethod my_Mt_passSecond : Cond) ∈ bs_big := bs_of (i := 500) (by decide +kernel) rfl
theorem kw_se_Mt_passSecond : (Cond.selects cn_Mt my_Mt_passSecond my_Mt_passSecond : Cond) ∈ bs_big := bs_of (i := 501) (by decide +kernel) rfl
theorem kw_cd_Mt_passSecond : (Cond.code my_Mt_passSecond mb_Mt_passSecond 1 none : Cond) ∈ bs_big := bs_of (i := 502) (by decide +kernel) rfl
theorem kw_co_Mt_26 : (Cond.constant cn_Mt 26 2147483647 : Cond) ∈ bs_big := bs_of (i := 503) (by decide +kernel) rfl
theorem kw_ml_La_70 : (Cond.methodLink cn_La 70 my_La_count : Cond) ∈ bs_big := bs_of (i := 504) (by decide +kernel) rfl
theorem kw_st_La_count : (Cond.static my_La_count : Cond) ∈ bs_big := bs_of (i := 505) (by decide +kernel) rfl
theorem kw_cd_La_count : (Cond.codeWith my_La_count mb_La_count 5 (some .int) [(0, 10, 13, 19)] : Cond) ∈ bs_big := bs_of (i := 506) (by decide +kernel) rfl
theorem kw_cl_La_19 : (Cond.classLink cn_La 19 "java/lang/IndexOutOfBoundsException" : Cond) ∈ bs_big := bs_of (i := 507) (by decide +kernel) rfl
theorem kw_ml_La_15 : (Cond.methodLink cn_La 15 my_Lp_count : Cond) ∈ bs_big := bs_of (i := 508) (by decide +kernel) rfl
theorem kw_im_Lp_count : (Cond.instanceMethod my_Lp_count : Cond) ∈ bs_big := bs_of (i := 509) (by decide +kernel) rfl
theorem kw_se_Lp_count : (Cond.selects cn_Lp my_Lp_count my_Lp_count : Cond) ∈ bs_big := bs_of (i := 510) (by decide +kernel) rfl
theorem kw_cd_Lp_count : (Cond.code my_Lp_count mb_Lp_count 3 (some .int) : Cond) ∈ bs_big := bs_of (i := 511) (by decide +kernel) rfl
theorem kw_ml_Lp_50 : (Cond.methodLink cn_Lp 50 my_Mt_isRegister : Cond) ∈ bs_big := bs_of (i := 512) (by decide +kernel) rfl
theorem kw_cl_Lp_54 : (Cond.classLink cn_Lp 54 "java/lang/IndexOutOfBoundsException" : Cond) ∈ bs_big := bs_of (i := 513) (by decide +kernel) rfl
theorem kw_ib_IndexOutOfBoundsException : (Cond.instantiable "java/lang/IndexOutOfBoundsException" 6 : Cond) ∈ bs_big := bs_of (i := 514) (by decide +kernel) rfl
theorem kw_ca_IndexOutOfBoundsException : (Cond.castable "java/lang/IndexOutOfBoundsException" "java/lang/IndexOutOfBoundsException" : Cond) ∈ lw_tbl := bs_in (i := 515) (by decide +kernel)
theorem kw_ml_Lp_56 : (Cond.methodLink cn_Lp 56 ⟨"java/lang/IndexOutOfBoundsException", "<init>", "()V"⟩ : Cond) ∈ bs_big := bs_of (i := 522) (by decide +kernel) rfl
theorem kw_ml_La_78 : (Cond.methodLink cn_La 78 my_La_register : Cond) ∈ bs_big := bs_of (i := 528) (by decide +kernel) rfl
theorem kw_st_La_register : (Cond.static my_La_register : Cond) ∈ bs_big := bs_of (i := 529) (by decide +kernel) rfl
theorem kw_cd_La_register : (Cond.codeWith my_La_register mb_La_register 4 (some .int) [(0, 9, 12, 19)] : Cond) ∈ bs_big := bs_of (i := 530) (by decide +kernel) rfl
theorem kw_ml_La_21 : (Cond.methodLink cn_La 21 my_Lp_register : Cond) ∈ bs_big := bs_of (i := 531) (by decide +kernel) rfl
theorem kw_im_Lp_register : (Cond.instanceMethod my_Lp_register : Cond) ∈ bs_big := bs_of (i := 532) (by decide +kernel) rfl
theorem kw_se_Lp_register : (Cond.selects cn_Lp my_Lp_register my_Lp_register : Cond) ∈ bs_big := bs_of (i := 533) (by decide +kernel) rfl
theorem kw_cd_Lp_register : (Cond.code my_Lp_register mb_Lp_register 2 (some .int) : Cond) ∈ bs_big := bs_of (i := 534) (by decide +kernel) rfl
theorem kw_ml_La_86 : (Cond.methodLink cn_La 86 my_La_entry : Cond) ∈ bs_big := bs_of (i := 535) (by decide +kernel) rfl
theorem kw_st_La_entry : (Cond.static my_La_entry : Cond) ∈ bs_big := bs_of (i := 536) (by decide +kernel) rfl
theorem kw_cd_La_entry : (Cond.codeWith my_La_entry mb_La_entry 5 (some .int) [(0, 10, 13, 19), (0, 10, 17, 28)] : Cond) ∈ bs_big := bs_of (i := 537) (by decide +kernel) rfl
theorem kw_cl_La_28 : (Cond.classLink cn_La 28 "java/util/NoSuchElementException" : Cond) ∈ bs_big := bs_of (i := 538) (by decide +kernel) rfl
theorem kw_ml_La_25 : (Cond.methodLink cn_La 25 my_Lp_entry : Cond) ∈ bs_big := bs_of (i := 539) (by decide +kernel) rfl
theorem kw_im_Lp_entry : (Cond.instanceMethod my_Lp_entry : Cond) ∈ bs_big := bs_of (i := 540) (by decide +kernel) rfl
theorem kw_se_Lp_entry : (Cond.selects cn_Lp my_Lp_entry my_Lp_entry : Cond) ∈ bs_big := bs_of (i := 541) (by decide +kernel) rfl
theorem kw_cd_Lp_entry : (Cond.code my_Lp_entry mb_Lp_entry 3 (some .int) : Cond) ∈ bs_big := bs_of (i := 542) (by decide +kernel) rfl
theorem kw_cl_Lp_77 : (Cond.classLink cn_Lp 77 "java/util/NoSuchElementException" : Cond) ∈ bs_big := bs_of (i := 543) (by decide +kernel) rfl
theorem kw_ib_NoSuchElementException : (Cond.instantiable "java/util/NoSuchElementException" 6 : Cond) ∈ bs_big := bs_of (i := 544) (by decide +kernel) rfl
theorem kw_ca_NoSuchElementException : (Cond.castable "java/util/NoSuchElementException" "java/util/NoSuchElementException" : Cond) ∈ lw_tbl := bs_in (i := 545) (by decide +kernel)
theorem kw_ml_Lp_79 : (Cond.methodLink cn_Lp 79 ⟨"java/util/NoSuchElementException", "<init>", "()V"⟩ : Cond) ∈ bs_big := bs_of (i := 552) (by decide +kernel) rfl
theorem kw_ml_Lp_80 : (Cond.methodLink cn_Lp 80 my_Pf_at : Cond) ∈ bs_big := bs_of (i := 558) (by decide +kernel) rfl
theorem kw_im_Pf_at : (Cond.instanceMethod my_Pf_at : Cond) ∈ bs_big := bs_of (i := 559) (by decide +kernel) rfl
theorem kw_se_Pf_at : (Cond.selects cn_Pf my_Pf_at my_Pf_at : Cond) ∈ bs_big := bs_of (i := 560) (by decide +kernel) rfl
theorem kw_cd_Pf_at : (Cond.code my_Pf_at mb_Pf_at 3 (some .int) : Cond) ∈ bs_big := bs_of (i := 561) (by decide +kernel) rfl
theorem kw_ml_La_93 : (Cond.methodLink cn_La 93 my_La_put : Cond) ∈ bs_big := bs_of (i := 562) (by decide +kernel) rfl
theorem kw_st_La_put : (Cond.static my_La_put : Cond) ∈ bs_big := bs_of (i := 563) (by decide +kernel) rfl
theorem kw_cd_La_put : (Cond.codeWith my_La_put mb_La_put 4 (some .int) [(0, 9, 12, 13), (0, 9, 15, 33)] : Cond) ∈ bs_big := bs_of (i := 564) (by decide +kernel) rfl
theorem kw_cl_La_33 : (Cond.classLink cn_La 33 "java/lang/IllegalStateException" : Cond) ∈ bs_big := bs_of (i := 565) (by decide +kernel) rfl
theorem kw_ml_La_30 : (Cond.methodLink cn_La 30 my_Lp_put : Cond) ∈ bs_big := bs_of (i := 566) (by decide +kernel) rfl
theorem kw_im_Lp_put : (Cond.instanceMethod my_Lp_put : Cond) ∈ bs_big := bs_of (i := 567) (by decide +kernel) rfl
theorem kw_se_Lp_put : (Cond.selects cn_Lp my_Lp_put my_Lp_put : Cond) ∈ bs_big := bs_of (i := 568) (by decide +kernel) rfl
theorem kw_cd_Lp_put : (Cond.code my_Lp_put mb_Lp_put 2 (some .int) : Cond) ∈ bs_big := bs_of (i := 569) (by decide +kernel) rfl
theorem kw_ml_Lp_88 : (Cond.methodLink cn_Lp 88 my_Rw_isByte : Cond) ∈ bs_big := bs_of (i := 570) (by decide +kernel) rfl
theorem kw_st_Rw_isByte : (Cond.static my_Rw_isByte : Cond) ∈ bs_big := bs_of (i := 571) (by decide +kernel) rfl
theorem kw_cd_Rw_isByte : (Cond.code my_Rw_isByte mb_Rw_isByte 1 (some .boolean) : Cond) ∈ bs_big := bs_of (i := 572) (by decide +kernel) rfl
theorem kw_cl_Lp_92 : (Cond.classLink cn_Lp 92 "java/lang/IllegalStateException" : Cond) ∈ bs_big := bs_of (i := 573) (by decide +kernel) rfl
theorem kw_ib_IllegalStateException : (Cond.instantiable "java/lang/IllegalStateException" 6 : Cond) ∈ bs_big := bs_of (i := 574) (by decide +kernel) rfl
theorem kw_ca_IllegalStateException : (Cond.castable "java/lang/IllegalStateException" "java/lang/IllegalStateException" : Cond) ∈ lw_tbl := bs_in (i := 575) (by decide +kernel)
theorem kw_ml_Lp_94 : (Cond.methodLink cn_Lp 94 ⟨"java/lang/IllegalStateException", "<init>", "()V"⟩ : Cond) ∈ bs_big := bs_of (i := 582) (by decide +kernel) rfl
theorem kw_ml_Lp_95 : (Cond.methodLink cn_Lp 95 my_Rw_add : Cond) ∈ bs_big := bs_of (i := 588) (by decide +kernel) rfl
theorem kw_ml_La_96 : (Cond.methodLink cn_La 96 my_La_putInt : Cond) ∈ bs_big := bs_of (i := 589) (by decide +kernel) rfl
theorem kw_st_La_putInt : (Cond.static my_La_putInt : Cond) ∈ bs_big := bs_of (i := 590) (by decide +kernel) rfl
theorem kw_cd_La_putInt : (Cond.codeWith my_La_putInt mb_La_putInt 4 (some .int) [(0, 9, 12, 33)] : Cond) ∈ bs_big := bs_of (i := 591) (by decide +kernel) rfl
theorem kw_ml_La_35 : (Cond.methodLink cn_La 35 my_Lp_putInt : Cond) ∈ bs_big := bs_of (i := 592) (by decide +kernel) rfl
theorem kw_im_Lp_putInt : (Cond.instanceMethod my_Lp_putInt : Cond) ∈ bs_big := bs_of (i := 593) (by decide +kernel) rfl
theorem kw_se_Lp_putInt : (Cond.selects cn_Lp my_Lp_putInt my_Lp_putInt : Cond) ∈ bs_big := bs_of (i := 594) (by decide +kernel) rfl
theorem kw_cd_Lp_putInt : (Cond.code my_Lp_putInt mb_Lp_putInt 2 (some .int) : Cond) ∈ bs_big := bs_of (i := 595) (by decide +kernel) rfl
theorem kw_ml_Lp_98 : (Cond.methodLink cn_Lp 98 my_Rw_addInt : Cond) ∈ bs_big := bs_of (i := 596) (by decide +kernel) rfl
theorem kw_ml_La_99 : (Cond.methodLink cn_La 99 my_La_poke : Cond) ∈ bs_big := bs_of (i := 597) (by decide +kernel) rfl
theorem kw_st_La_poke : (Cond.static my_La_poke : Cond) ∈ bs_big := bs_of (i := 598) (by decide +kernel) rfl
theorem kw_cd_La_poke : (Cond.codeWith my_La_poke mb_La_poke 4 (some .int) [(0, 6, 9, 19), (0, 6, 12, 13)] : Cond) ∈ bs_big := bs_of (i := 599) (by decide +kernel) rfl
theorem kw_ml_La_38 : (Cond.methodLink cn_La 38 my_Lp_poke : Cond) ∈ bs_big := bs_of (i := 600) (by decide +kernel) rfl
theorem kw_im_Lp_poke : (Cond.instanceMethod my_Lp_poke : Cond) ∈ bs_big := bs_of (i := 601) (by decide +kernel) rfl
theorem kw_se_Lp_poke : (Cond.selects cn_Lp my_Lp_poke my_Lp_poke : Cond) ∈ bs_big := bs_of (i := 602) (by decide +kernel) rfl
theorem kw_cd_Lp_poke : (Cond.code my_Lp_poke mb_Lp_poke 3 none : Cond) ∈ bs_big := bs_of (i := 603) (by decide +kernel) rfl
theorem kw_ml_Lp_101 : (Cond.methodLink cn_Lp 101 my_Rw_change : Cond) ∈ bs_big := bs_of (i := 604) (by decide +kernel) rfl
theorem kw_ml_La_103 : (Cond.methodLink cn_La 103 my_La_frame : Cond) ∈ bs_big := bs_of (i := 605) (by decide +kernel) rfl
theorem kw_st_La_frame : (Cond.static my_La_frame : Cond) ∈ bs_big := bs_of (i := 606) (by decide +kernel) rfl
theorem kw_cd_La_frame : (Cond.codeWith my_La_frame mb_La_frame 4 (some .int) [(0, 9, 12, 13), (0, 9, 15, 33)] : Cond) ∈ bs_big := bs_of (i := 607) (by decide +kernel) rfl
theorem kw_ml_La_42 : (Cond.methodLink cn_La 42 my_Lp_frame : Cond) ∈ bs_big := bs_of (i := 608) (by decide +kernel) rfl
theorem kw_im_Lp_frame : (Cond.instanceMethod my_Lp_frame : Cond) ∈ bs_big := bs_of (i := 609) (by decide +kernel) rfl
theorem kw_se_Lp_frame : (Cond.selects cn_Lp my_Lp_frame my_Lp_frame : Cond) ∈ bs_big := bs_of (i := 610) (by decide +kernel) rfl
theorem kw_cd_Lp_frame : (Cond.code my_Lp_frame mb_Lp_frame 2 (some .int) : Cond) ∈ bs_big := bs_of (i := 611) (by decide +kernel) rfl
theorem kw_ml_Lp_106 : (Cond.methodLink cn_Lp 106 my_Fr_wrap : Cond) ∈ bs_big := bs_of (i := 612) (by decide +kernel) rfl
theorem kw_ml_La_106 : (Cond.methodLink cn_La 106 my_La_ask : Cond) ∈ bs_big := bs_of (i := 613) (by decide +kernel) rfl
theorem kw_st_La_ask : (Cond.static my_La_ask : Cond) ∈ bs_big := bs_of (i := 614) (by decide +kernel) rfl
theorem kw_cd_La_ask : (Cond.codeWith my_La_ask mb_La_ask 3 (some .int) [(0, 8, 11, 33)] : Cond) ∈ bs_big := bs_of (i := 615) (by decide +kernel) rfl
theorem kw_ml_La_45 : (Cond.methodLink cn_La 45 my_Lp_ask : Cond) ∈ bs_big := bs_of (i := 616) (by decide +kernel) rfl
theorem kw_im_Lp_ask : (Cond.instanceMethod my_Lp_ask : Cond) ∈ bs_big := bs_of (i := 617) (by decide +kernel) rfl
theorem kw_se_Lp_ask : (Cond.selects cn_Lp my_Lp_ask my_Lp_ask : Cond) ∈ bs_big := bs_of (i := 618) (by decide +kernel) rfl
theorem kw_cd_Lp_ask : (Cond.code my_Lp_ask mb_Lp_ask 1 (some .int) : Cond) ∈ bs_big := bs_of (i := 619) (by decide +kernel) rfl
theorem kw_ml_Lp_116 : (Cond.methodLink cn_Lp 116 my_Fr_information : Cond) ∈ bs_big := bs_of (i := 620) (by decide +kernel) rfl
theorem kw_ml_La_119 : (Cond.methodLink cn_La 119 my_La_reply : Cond) ∈ bs_big := bs_of (i := 621) (by decide +kernel) rfl
theorem kw_st_La_reply : (Cond.static my_La_reply : Cond) ∈ bs_big := bs_of (i := 622) (by decide +kernel) rfl
theorem kw_cd_La_reply : (Cond.codeWith my_La_reply mb_La_reply 4 (some .int) [(0, 9, 12, 19)] : Cond) ∈ bs_big := bs_of (i := 623) (by decide +kernel) rfl
theorem kw_ml_La_49 : (Cond.methodLink cn_La 49 my_Lp_reply : Cond) ∈ bs_big := bs_of (i := 624) (by decide +kernel) rfl
theorem kw_im_Lp_reply : (Cond.instanceMethod my_Lp_reply : Cond) ∈ bs_big := bs_of (i := 625) (by decide +kernel) rfl
theorem kw_se_Lp_reply : (Cond.selects cn_Lp my_Lp_reply my_Lp_reply : Cond) ∈ bs_big := bs_of (i := 626) (by decide +kernel) rfl
theorem kw_cd_Lp_reply : (Cond.code my_Lp_reply mb_Lp_reply 2 (some .int) : Cond) ∈ bs_big := bs_of (i := 627) (by decide +kernel) rfl
theorem kw_ml_Lp_134 : (Cond.methodLink cn_Lp 134 my_Rw_at : Cond) ∈ bs_big := bs_of (i := 628) (by decide +kernel) rfl
theorem kw_cl_La_60 : (Cond.classLink cn_La 60 cn_Mo : Cond) ∈ bs_big := bs_of (i := 629) (by decide +kernel) rfl
theorem kw_ib_Mo : (Cond.instantiable cn_Mo 28 : Cond) ∈ bs_big := bs_of (i := 630) (by decide +kernel) rfl
theorem kw_ml_La_62 : (Cond.methodLink cn_La 62 my_Mo_init : Cond) ∈ bs_big := bs_of (i := 631) (by decide +kernel) rfl
theorem kw_im_Mo_init : (Cond.instanceMethod my_Mo_init : Cond) ∈ bs_big := bs_of (i := 632) (by decide +kernel) rfl
theorem kw_cd_Mo_init : (Cond.code my_Mo_init mb_Mo_init 3 none : Cond) ∈ bs_big := bs_of (i := 633) (by decide +kernel) rfl
theorem kw_ml_Mo_1 : (Cond.methodLink cn_Mo 1 objectInit : Cond) ∈ bs_big := bs_of (i := 634) (by decide +kernel) rfl
theorem kw_fl_Mo_41 : (Cond.fieldLink cn_Mo 41 cn_Mo "secret" "I" : Cond) ∈ bs_big := bs_of (i := 635) (by decide +kernel) rfl
theorem kw_fl_Mo_47 : (Cond.fieldLink cn_Mo 47 cn_Mo "thrown" "I" : Cond) ∈ bs_big := bs_of (i := 636) (by decide +kernel) rfl
theorem kw_fl_Mo_53 : (Cond.fieldLink cn_Mo 53 cn_Mo "time" "I" : Cond) ∈ bs_big := bs_of (i := 637) (by decide +kernel) rfl
theorem kw_fl_Mo_7 : (Cond.fieldLink cn_Mo 7 cn_Mo "registers" "[I" : Cond) ∈ bs_big := bs_of (i := 638) (by decide +kernel) rfl
theorem kw_fl_Mo_44 : (Cond.fieldLink cn_Mo 44 cn_Mo "capacity" "I" : Cond) ∈ bs_big := bs_of (i := 639) (by decide +kernel) rfl
theorem kw_fl_Mo_57 : (Cond.fieldLink cn_Mo 57 cn_Mo "period" "I" : Cond) ∈ bs_big := bs_of (i := 640) (by decide +kernel) rfl
theorem kw_fl_Mo_13 : (Cond.fieldLink cn_Mo 13 cn_Mo "columns" "I" : Cond) ∈ bs_big := bs_of (i := 641) (by decide +kernel) rfl
theorem kw_fl_Mo_17 : (Cond.fieldLink cn_Mo 17 cn_Mo "column" "[I" : Cond) ∈ bs_big := bs_of (i := 642) (by decide +kernel) rfl
theorem kw_fl_Mo_50 : (Cond.fieldLink cn_Mo 50 cn_Mo "entries" "I" : Cond) ∈ bs_big := bs_of (i := 643) (by decide +kernel) rfl
theorem kw_fl_Mo_20 : (Cond.fieldLink cn_Mo 20 cn_Mo "times" "[I" : Cond) ∈ bs_big := bs_of (i := 644) (by decide +kernel) rfl
theorem kw_fl_Mo_23 : (Cond.fieldLink cn_Mo 23 cn_Mo "values" "[I" : Cond) ∈ bs_big := bs_of (i := 645) (by decide +kernel) rfl
theorem kw_fl_Mo_67 : (Cond.fieldLink cn_Mo 67 cn_Mo "connected" "Z" : Cond) ∈ bs_big := bs_of (i := 646) (by decide +kernel) rfl
theorem kw_fl_Mo_74 : (Cond.fieldLink cn_Mo 74 cn_Mo "expected" "I" : Cond) ∈ bs_big := bs_of (i := 647) (by decide +kernel) rfl
theorem kw_fl_Mo_77 : (Cond.fieldLink cn_Mo 77 cn_Mo "next" "I" : Cond) ∈ bs_big := bs_of (i := 648) (by decide +kernel) rfl
theorem kw_fl_Mo_71 : (Cond.fieldLink cn_Mo 71 cn_Mo "association" "I" : Cond) ∈ bs_big := bs_of (i := 649) (by decide +kernel) rfl
theorem kw_fl_Mo_26 : (Cond.fieldLink cn_Mo 26 cn_Mo "bytes" "[I" : Cond) ∈ bs_big := bs_of (i := 650) (by decide +kernel) rfl
theorem kw_fl_Mo_122 : (Cond.fieldLink cn_Mo 122 cn_Mo "size" "I" : Cond) ∈ bs_big := bs_of (i := 651) (by decide +kernel) rfl
theorem kw_fl_Mo_166 : (Cond.fieldLink cn_Mo 166 cn_Mo "sent" "I" : Cond) ∈ bs_big := bs_of (i := 652) (by decide +kernel) rfl
theorem kw_fl_Mo_29 : (Cond.fieldLink cn_Mo 29 cn_Mo "line" "[I" : Cond) ∈ bs_big := bs_of (i := 653) (by decide +kernel) rfl
theorem kw_fl_Mo_80 : (Cond.fieldLink cn_Mo 80 cn_Mo "count" "I" : Cond) ∈ bs_big := bs_of (i := 654) (by decide +kernel) rfl
theorem kw_fl_Mo_32 : (Cond.fieldLink cn_Mo 32 cn_Mo "reply" "[I" : Cond) ∈ bs_big := bs_of (i := 655) (by decide +kernel) rfl
theorem kw_fl_Mo_103 : (Cond.fieldLink cn_Mo 103 cn_Mo "told" "I" : Cond) ∈ bs_big := bs_of (i := 656) (by decide +kernel) rfl
theorem kw_fl_Mo_35 : (Cond.fieldLink cn_Mo 35 cn_Mo "latest" "[I" : Cond) ∈ bs_big := bs_of (i := 657) (by decide +kernel) rfl
theorem kw_fl_Mo_106 : (Cond.fieldLink cn_Mo 106 cn_Mo "latestSize" "I" : Cond) ∈ bs_big := bs_of (i := 658) (by decide +kernel) rfl
theorem kw_fl_Mo_38 : (Cond.fieldLink cn_Mo 38 cn_Mo "made" "[I" : Cond) ∈ bs_big := bs_of (i := 659) (by decide +kernel) rfl
theorem kw_fl_Mo_116 : (Cond.fieldLink cn_Mo 116 cn_Mo "many" "I" : Cond) ∈ bs_big := bs_of (i := 660) (by decide +kernel) rfl
theorem kw_fl_Mo_97 : (Cond.fieldLink cn_Mo 97 cn_Mo "askS" "I" : Cond) ∈ bs_big := bs_of (i := 661) (by decide +kernel) rfl
theorem kw_fl_Mo_100 : (Cond.fieldLink cn_Mo 100 cn_Mo "askR" "I" : Cond) ∈ bs_big := bs_of (i := 662) (by decide +kernel) rfl
theorem kw_ly_Mo_0 : (Cond.laysFinal cn_Mo cn_Mo "secret" "I" : Cond) ∈ bs_big := bs_of (i := 663) (by decide +kernel) rfl
theorem kw_ly_Mo_1 : (Cond.lays cn_Mo cn_Mo "thrown" "I" : Cond) ∈ bs_big := bs_of (i := 665) (by decide +kernel) rfl
theorem kw_ly_Mo_2 : (Cond.lays cn_Mo cn_Mo "time" "I" : Cond) ∈ bs_big := bs_of (i := 667) (by decide +kernel) rfl
theorem kw_ly_Mo_3 : (Cond.laysFinal cn_Mo cn_Mo "registers" "[I" : Cond) ∈ bs_big := bs_of (i := 669) (by decide +kernel) rfl
theorem kw_ly_Mo_4 : (Cond.lays cn_Mo cn_Mo "capacity" "I" : Cond) ∈ bs_big := bs_of (i := 671) (by decide +kernel) rfl
theorem kw_ly_Mo_5 : (Cond.lays cn_Mo cn_Mo "period" "I" : Cond) ∈ bs_big := bs_of (i := 673) (by decide +kernel) rfl
theorem kw_ly_Mo_6 : (Cond.lays cn_Mo cn_Mo "columns" "I" : Cond) ∈ bs_big := bs_of (i := 675) (by decide +kernel) rfl
theorem kw_ly_Mo_7 : (Cond.laysFinal cn_Mo cn_Mo "column" "[I" : Cond) ∈ bs_big := bs_of (i := 677) (by decide +kernel) rfl
theorem kw_ly_Mo_8 : (Cond.lays cn_Mo cn_Mo "entries" "I" : Cond) ∈ bs_big := bs_of (i := 679) (by decide +kernel) rfl
theorem kw_ly_Mo_9 : (Cond.laysFinal cn_Mo cn_Mo "times" "[I" : Cond) ∈ bs_big := bs_of (i := 681) (by decide +kernel) rfl
theorem kw_ly_Mo_10 : (Cond.laysFinal cn_Mo cn_Mo "values" "[I" : Cond) ∈ bs_big := bs_of (i := 683) (by decide +kernel) rfl
theorem kw_ly_Mo_11 : (Cond.lays cn_Mo cn_Mo "connected" "Z" : Cond) ∈ bs_big := bs_of (i := 685) (by decide +kernel) rfl
theorem kw_ly_Mo_12 : (Cond.lays cn_Mo cn_Mo "expected" "I" : Cond) ∈ bs_big := bs_of (i := 687) (by decide +kernel) rfl
theorem kw_ly_Mo_13 : (Cond.lays cn_Mo cn_Mo "next" "I" : Cond) ∈ bs_big := bs_of (i := 689) (by decide +kernel) rfl
theorem kw_ly_Mo_14 : (Cond.lays cn_Mo cn_Mo "association" "I" : Cond) ∈ bs_big := bs_of (i := 691) (by decide +kernel) rfl
theorem kw_ly_Mo_15 : (Cond.laysFinal cn_Mo cn_Mo "bytes" "[I" : Cond) ∈ bs_big := bs_of (i := 693) (by decide +kernel) rfl
theorem kw_ly_Mo_16 : (Cond.lays cn_Mo cn_Mo "size" "I" : Cond) ∈ bs_big := bs_of (i := 695) (by decide +kernel) rfl
theorem kw_ly_Mo_17 : (Cond.lays cn_Mo cn_Mo "sent" "I" : Cond) ∈ bs_big := bs_of (i := 697) (by decide +kernel) rfl
theorem kw_ly_Mo_18 : (Cond.laysFinal cn_Mo cn_Mo "line" "[I" : Cond) ∈ bs_big := bs_of (i := 699) (by decide +kernel) rfl
theorem kw_ly_Mo_19 : (Cond.lays cn_Mo cn_Mo "count" "I" : Cond) ∈ bs_big := bs_of (i := 701) (by decide +kernel) rfl
theorem kw_ly_Mo_20 : (Cond.laysFinal cn_Mo cn_Mo "reply" "[I" : Cond) ∈ bs_big := bs_of (i := 703) (by decide +kernel) rfl
theorem kw_ly_Mo_21 : (Cond.lays cn_Mo cn_Mo "told" "I" : Cond) ∈ bs_big := bs_of (i := 705) (by decide +kernel) rfl
theorem kw_ly_Mo_22 : (Cond.laysFinal cn_Mo cn_Mo "latest" "[I" : Cond) ∈ bs_big := bs_of (i := 707) (by decide +kernel) rfl
theorem kw_ly_Mo_23 : (Cond.lays cn_Mo cn_Mo "latestSize" "I" : Cond) ∈ bs_big := bs_of (i := 709) (by decide +kernel) rfl
theorem kw_ly_Mo_24 : (Cond.laysFinal cn_Mo cn_Mo "made" "[I" : Cond) ∈ bs_big := bs_of (i := 711) (by decide +kernel) rfl
theorem kw_ly_Mo_25 : (Cond.lays cn_Mo cn_Mo "many" "I" : Cond) ∈ bs_big := bs_of (i := 713) (by decide +kernel) rfl
theorem kw_ly_Mo_26 : (Cond.lays cn_Mo cn_Mo "askS" "I" : Cond) ∈ bs_big := bs_of (i := 715) (by decide +kernel) rfl
theorem kw_ly_Mo_27 : (Cond.lays cn_Mo cn_Mo "askR" "I" : Cond) ∈ bs_big := bs_of (i := 717) (by decide +kernel) rfl
theorem kw_ml_La_67 : (Cond.methodLink cn_La 67 my_Mo_thrown : Cond) ∈ bs_big := bs_of (i := 720) (by decide +kernel) rfl
theorem kw_im_Mo_thrown : (Cond.instanceMethod my_Mo_thrown : Cond) ∈ bs_big := bs_of (i := 721) (by decide +kernel) rfl
theorem kw_se_Mo_thrown : (Cond.selects cn_Mo my_Mo_thrown my_Mo_thrown : Cond) ∈ bs_big := bs_of (i := 722) (by decide +kernel) rfl
theorem kw_cd_Mo_thrown : (Cond.code my_Mo_thrown mb_Mo_thrown 1 (some .int) : Cond) ∈ bs_big := bs_of (i := 723) (by decide +kernel) rfl
theorem kw_ml_La_66 : (Cond.methodLink cn_La 66 my_Mo_run : Cond) ∈ bs_big := bs_of (i := 724) (by decide +kernel) rfl
theorem kw_im_Mo_run : (Cond.instanceMethod my_Mo_run : Cond) ∈ bs_big := bs_of (i := 725) (by decide +kernel) rfl
theorem kw_se_Mo_run : (Cond.selects cn_Mo my_Mo_run my_Mo_run : Cond) ∈ bs_big := bs_of (i := 726) (by decide +kernel) rfl
theorem kw_cd_Mo_run : (Cond.code my_Mo_run mb_Mo_run 3 none : Cond) ∈ bs_big := bs_of (i := 727) (by decide +kernel) rfl
theorem kw_co_Mo_56 : (Cond.constant cn_Mo 56 2147483647 : Cond) ∈ bs_big := bs_of (i := 728) (by decide +kernel) rfl
theorem kw_ml_Mo_60 : (Cond.methodLink cn_Mo 60 my_Mo_capture : Cond) ∈ bs_big := bs_of (i := 729) (by decide +kernel) rfl
theorem kw_im_Mo_capture : (Cond.instanceMethod my_Mo_capture : Cond) ∈ bs_big := bs_of (i := 731) (by decide +kernel) rfl
theorem kw_cd_Mo_capture : (Cond.code my_Mo_capture mb_Mo_capture 3 none : Cond) ∈ bs_big := bs_of (i := 732) (by decide +kernel) rfl
theorem kw_ml_La_73 : (Cond.methodLink cn_La 73 my_Mo_count : Cond) ∈ bs_big := bs_of (i := 733) (by decide +kernel) rfl
theorem kw_im_Mo_count : (Cond.instanceMethod my_Mo_count : Cond) ∈ bs_big := bs_of (i := 734) (by decide +kernel) rfl
theorem kw_se_Mo_count : (Cond.selects cn_Mo my_Mo_count my_Mo_count : Cond) ∈ bs_big := bs_of (i := 735) (by decide +kernel) rfl
theorem kw_cd_Mo_count : (Cond.code my_Mo_count mb_Mo_count 3 (some .int) : Cond) ∈ bs_big := bs_of (i := 736) (by decide +kernel) rfl
theorem kw_ml_Mo_63 : (Cond.methodLink cn_Mo 63 my_Mo_isRegister : Cond) ∈ bs_big := bs_of (i := 737) (by decide +kernel) rfl
theorem kw_st_Mo_isRegister : (Cond.static my_Mo_isRegister : Cond) ∈ bs_big := bs_of (i := 738) (by decide +kernel) rfl
theorem kw_cd_Mo_isRegister : (Cond.code my_Mo_isRegister mb_Mo_isRegister 1 (some .boolean) : Cond) ∈ bs_big := bs_of (i := 739) (by decide +kernel) rfl
theorem kw_ml_La_77 : (Cond.methodLink cn_La 77 my_Mo_time : Cond) ∈ bs_big := bs_of (i := 740) (by decide +kernel) rfl
theorem kw_im_Mo_time : (Cond.instanceMethod my_Mo_time : Cond) ∈ bs_big := bs_of (i := 741) (by decide +kernel) rfl
theorem kw_se_Mo_time : (Cond.selects cn_Mo my_Mo_time my_Mo_time : Cond) ∈ bs_big := bs_of (i := 742) (by decide +kernel) rfl
theorem kw_cd_Mo_time : (Cond.code my_Mo_time mb_Mo_time 1 (some .int) : Cond) ∈ bs_big := bs_of (i := 743) (by decide +kernel) rfl
theorem kw_ml_La_81 : (Cond.methodLink cn_La 81 my_Mo_register : Cond) ∈ bs_big := bs_of (i := 744) (by decide +kernel) rfl
theorem kw_im_Mo_register : (Cond.instanceMethod my_Mo_register : Cond) ∈ bs_big := bs_of (i := 745) (by decide +kernel) rfl
theorem kw_se_Mo_register : (Cond.selects cn_Mo my_Mo_register my_Mo_register : Cond) ∈ bs_big := bs_of (i := 746) (by decide +kernel) rfl
theorem kw_cd_Mo_register : (Cond.code my_Mo_register mb_Mo_register 2 (some .int) : Cond) ∈ bs_big := bs_of (i := 747) (by decide +kernel) rfl
theorem kw_ml_La_85 : (Cond.methodLink cn_La 85 my_Mo_entries : Cond) ∈ bs_big := bs_of (i := 748) (by decide +kernel) rfl
theorem kw_im_Mo_entries : (Cond.instanceMethod my_Mo_entries : Cond) ∈ bs_big := bs_of (i := 749) (by decide +kernel) rfl
theorem kw_se_Mo_entries : (Cond.selects cn_Mo my_Mo_entries my_Mo_entries : Cond) ∈ bs_big := bs_of (i := 750) (by decide +kernel) rfl
theorem kw_cd_Mo_entries : (Cond.code my_Mo_entries mb_Mo_entries 1 (some .int) : Cond) ∈ bs_big := bs_of (i := 751) (by decide +kernel) rfl
theorem kw_ml_La_88 : (Cond.methodLink cn_La 88 my_Mo_entry : Cond) ∈ bs_big := bs_of (i := 752) (by decide +kernel) rfl
theorem kw_im_Mo_entry : (Cond.instanceMethod my_Mo_entry : Cond) ∈ bs_big := bs_of (i := 753) (by decide +kernel) rfl
theorem kw_se_Mo_entry : (Cond.selects cn_Mo my_Mo_entry my_Mo_entry : Cond) ∈ bs_big := bs_of (i := 754) (by decide +kernel) rfl
theorem kw_cd_Mo_entry : (Cond.code my_Mo_entry mb_Mo_entry 3 (some .int) : Cond) ∈ bs_big := bs_of (i := 755) (by decide +kernel) rfl
theorem kw_ml_La_92 : (Cond.methodLink cn_La 92 my_Mo_link : Cond) ∈ bs_big := bs_of (i := 756) (by decide +kernel) rfl
theorem kw_im_Mo_link : (Cond.instanceMethod my_Mo_link : Cond) ∈ bs_big := bs_of (i := 757) (by decide +kernel) rfl
theorem kw_se_Mo_link : (Cond.selects cn_Mo my_Mo_link my_Mo_link : Cond) ∈ bs_big := bs_of (i := 758) (by decide +kernel) rfl
theorem kw_cd_Mo_link : (Cond.code my_Mo_link mb_Mo_link 1 (some .int) : Cond) ∈ bs_big := bs_of (i := 759) (by decide +kernel) rfl
theorem kw_ml_La_95 : (Cond.methodLink cn_La 95 my_Mo_put : Cond) ∈ bs_big := bs_of (i := 760) (by decide +kernel) rfl
theorem kw_im_Mo_put : (Cond.instanceMethod my_Mo_put : Cond) ∈ bs_big := bs_of (i := 761) (by decide +kernel) rfl
theorem kw_se_Mo_put : (Cond.selects cn_Mo my_Mo_put my_Mo_put : Cond) ∈ bs_big := bs_of (i := 762) (by decide +kernel) rfl
theorem kw_cd_Mo_put : (Cond.code my_Mo_put mb_Mo_put 2 (some .int) : Cond) ∈ bs_big := bs_of (i := 763) (by decide +kernel) rfl
theorem kw_ml_La_98 : (Cond.methodLink cn_La 98 my_Mo_putInt : Cond) ∈ bs_big := bs_of (i := 764) (by decide +kernel) rfl
theorem kw_im_Mo_putInt : (Cond.instanceMethod my_Mo_putInt : Cond) ∈ bs_big := bs_of (i := 765) (by decide +kernel) rfl
theorem kw_se_Mo_putInt : (Cond.selects cn_Mo my_Mo_putInt my_Mo_putInt : Cond) ∈ bs_big := bs_of (i := 766) (by decide +kernel) rfl
theorem kw_cd_Mo_putInt : (Cond.code my_Mo_putInt mb_Mo_putInt 3 (some .int) : Cond) ∈ bs_big := bs_of (i := 767) (by decide +kernel) rfl
theorem kw_ml_La_102 : (Cond.methodLink cn_La 102 my_Mo_poke : Cond) ∈ bs_big := bs_of (i := 768) (by decide +kernel) rfl
theorem kw_im_Mo_poke : (Cond.instanceMethod my_Mo_poke : Cond) ∈ bs_big := bs_of (i := 769) (by decide +kernel) rfl
theorem kw_se_Mo_poke : (Cond.selects cn_Mo my_Mo_poke my_Mo_poke : Cond) ∈ bs_big := bs_of (i := 770) (by decide +kernel) rfl
theorem kw_cd_Mo_poke : (Cond.code my_Mo_poke mb_Mo_poke 3 none : Cond) ∈ bs_big := bs_of (i := 771) (by decide +kernel) rfl
theorem kw_ml_La_113 : (Cond.methodLink cn_La 113 my_Mo_clear : Cond) ∈ bs_big := bs_of (i := 772) (by decide +kernel) rfl
theorem kw_im_Mo_clear : (Cond.instanceMethod my_Mo_clear : Cond) ∈ bs_big := bs_of (i := 773) (by decide +kernel) rfl
theorem kw_se_Mo_clear : (Cond.selects cn_Mo my_Mo_clear my_Mo_clear : Cond) ∈ bs_big := bs_of (i := 774) (by decide +kernel) rfl
theorem kw_cd_Mo_clear : (Cond.code my_Mo_clear mb_Mo_clear 1 none : Cond) ∈ bs_big := bs_of (i := 775) (by decide +kernel) rfl
theorem kw_ml_La_105 : (Cond.methodLink cn_La 105 my_Mo_frame : Cond) ∈ bs_big := bs_of (i := 776) (by decide +kernel) rfl
theorem kw_im_Mo_frame : (Cond.instanceMethod my_Mo_frame : Cond) ∈ bs_big := bs_of (i := 777) (by decide +kernel) rfl
theorem kw_se_Mo_frame : (Cond.selects cn_Mo my_Mo_frame my_Mo_frame : Cond) ∈ bs_big := bs_of (i := 778) (by decide +kernel) rfl
theorem kw_cd_Mo_frame : (Cond.code my_Mo_frame mb_Mo_frame 2 (some .int) : Cond) ∈ bs_big := bs_of (i := 779) (by decide +kernel) rfl
theorem kw_ml_Mo_93 : (Cond.methodLink cn_Mo 93 my_Mo_wrapLine : Cond) ∈ bs_big := bs_of (i := 780) (by decide +kernel) rfl
theorem kw_im_Mo_wrapLine : (Cond.instanceMethod my_Mo_wrapLine : Cond) ∈ bs_big := bs_of (i := 782) (by decide +kernel) rfl
theorem kw_cd_Mo_wrapLine : (Cond.code my_Mo_wrapLine mb_Mo_wrapLine 3 (some .int) : Cond) ∈ bs_big := bs_of (i := 783) (by decide +kernel) rfl
theorem kw_ml_Mo_89 : (Cond.methodLink cn_Mo 89 my_Mo_wrap : Cond) ∈ bs_big := bs_of (i := 784) (by decide +kernel) rfl
theorem kw_st_Mo_wrap : (Cond.static my_Mo_wrap : Cond) ∈ bs_big := bs_of (i := 785) (by decide +kernel) rfl
theorem kw_cd_Mo_wrap : (Cond.code my_Mo_wrap mb_Mo_wrap 6 (some .int) : Cond) ∈ bs_big := bs_of (i := 786) (by decide +kernel) rfl
theorem kw_ml_Mo_85 : (Cond.methodLink cn_Mo 85 my_Mo_check : Cond) ∈ bs_big := bs_of (i := 787) (by decide +kernel) rfl
theorem kw_st_Mo_check : (Cond.static my_Mo_check : Cond) ∈ bs_big := bs_of (i := 788) (by decide +kernel) rfl
theorem kw_cd_Mo_check : (Cond.code my_Mo_check mb_Mo_check 5 (some .int) : Cond) ∈ bs_big := bs_of (i := 789) (by decide +kernel) rfl
theorem kw_co_Mo_83 : (Cond.constant cn_Mo 83 65535 : Cond) ∈ bs_big := bs_of (i := 790) (by decide +kernel) rfl
theorem kw_co_Mo_84 : (Cond.constant cn_Mo 84 33800 : Cond) ∈ bs_big := bs_of (i := 791) (by decide +kernel) rfl
theorem kw_ml_La_109 : (Cond.methodLink cn_La 109 my_Mo_ask : Cond) ∈ bs_big := bs_of (i := 792) (by decide +kernel) rfl
theorem kw_im_Mo_ask : (Cond.instanceMethod my_Mo_ask : Cond) ∈ bs_big := bs_of (i := 793) (by decide +kernel) rfl
theorem kw_se_Mo_ask : (Cond.selects cn_Mo my_Mo_ask my_Mo_ask : Cond) ∈ bs_big := bs_of (i := 794) (by decide +kernel) rfl
theorem kw_cd_Mo_ask : (Cond.code my_Mo_ask mb_Mo_ask 1 (some .int) : Cond) ∈ bs_big := bs_of (i := 795) (by decide +kernel) rfl
theorem kw_ml_La_118 : (Cond.methodLink cn_La 118 my_Mo_deliver : Cond) ∈ bs_big := bs_of (i := 796) (by decide +kernel) rfl
theorem kw_im_Mo_deliver : (Cond.instanceMethod my_Mo_deliver : Cond) ∈ bs_big := bs_of (i := 797) (by decide +kernel) rfl
theorem kw_se_Mo_deliver : (Cond.selects cn_Mo my_Mo_deliver my_Mo_deliver : Cond) ∈ bs_big := bs_of (i := 798) (by decide +kernel) rfl
theorem kw_cd_Mo_deliver : (Cond.code my_Mo_deliver mb_Mo_deliver 3 (some .int) : Cond) ∈ bs_big := bs_of (i := 799) (by decide +kernel) rfl
theorem kw_ml_Mo_129 : (Cond.methodLink cn_Mo 129 my_Mo_payloadOf : Cond) ∈ bs_big := bs_of (i := 800) (by decide +kernel) rfl
theorem kw_im_Mo_payloadOf : (Cond.instanceMethod my_Mo_payloadOf : Cond) ∈ bs_big := bs_of (i := 802) (by decide +kernel) rfl
theorem kw_cd_Mo_payloadOf : (Cond.code my_Mo_payloadOf mb_Mo_payloadOf 4 (some .int) : Cond) ∈ bs_big := bs_of (i := 803) (by decide +kernel) rfl
theorem kw_ml_Mo_133 : (Cond.methodLink cn_Mo 133 my_Mo_look : Cond) ∈ bs_big := bs_of (i := 804) (by decide +kernel) rfl
theorem kw_im_Mo_look : (Cond.instanceMethod my_Mo_look : Cond) ∈ bs_big := bs_of (i := 806) (by decide +kernel) rfl
theorem kw_cd_Mo_look : (Cond.code my_Mo_look mb_Mo_look 3 none : Cond) ∈ bs_big := bs_of (i := 807) (by decide +kernel) rfl
theorem kw_ml_Mo_109 : (Cond.methodLink cn_Mo 109 my_Mo_replyControl : Cond) ∈ bs_big := bs_of (i := 808) (by decide +kernel) rfl
theorem kw_im_Mo_replyControl : (Cond.instanceMethod my_Mo_replyControl : Cond) ∈ bs_big := bs_of (i := 810) (by decide +kernel) rfl
theorem kw_cd_Mo_replyControl : (Cond.code my_Mo_replyControl mb_Mo_replyControl 2 none : Cond) ∈ bs_big := bs_of (i := 811) (by decide +kernel) rfl
theorem kw_ml_Mo_125 : (Cond.methodLink cn_Mo 125 my_Mo_inform : Cond) ∈ bs_big := bs_of (i := 812) (by decide +kernel) rfl
theorem kw_im_Mo_inform : (Cond.instanceMethod my_Mo_inform : Cond) ∈ bs_big := bs_of (i := 814) (by decide +kernel) rfl
theorem kw_cd_Mo_inform : (Cond.code my_Mo_inform mb_Mo_inform 6 none : Cond) ∈ bs_big := bs_of (i := 815) (by decide +kernel) rfl
theorem kw_ml_Mo_113 : (Cond.methodLink cn_Mo 113 my_Mo_answer : Cond) ∈ bs_big := bs_of (i := 816) (by decide +kernel) rfl
theorem kw_im_Mo_answer : (Cond.instanceMethod my_Mo_answer : Cond) ∈ bs_big := bs_of (i := 818) (by decide +kernel) rfl
theorem kw_cd_Mo_answer : (Cond.code my_Mo_answer mb_Mo_answer 4 none : Cond) ∈ bs_big := bs_of (i := 819) (by decide +kernel) rfl
theorem kw_ml_Mo_139 : (Cond.methodLink cn_Mo 139 my_Mo_at : Cond) ∈ bs_big := bs_of (i := 820) (by decide +kernel) rfl
theorem kw_im_Mo_at : (Cond.instanceMethod my_Mo_at : Cond) ∈ bs_big := bs_of (i := 822) (by decide +kernel) rfl
theorem kw_cd_Mo_at : (Cond.code my_Mo_at mb_Mo_at 2 (some .int) : Cond) ∈ bs_big := bs_of (i := 823) (by decide +kernel) rfl
theorem kw_ml_Mo_145 : (Cond.methodLink cn_Mo 145 my_Mo_intAt : Cond) ∈ bs_big := bs_of (i := 824) (by decide +kernel) rfl
theorem kw_im_Mo_intAt : (Cond.instanceMethod my_Mo_intAt : Cond) ∈ bs_big := bs_of (i := 826) (by decide +kernel) rfl
theorem kw_cd_Mo_intAt : (Cond.code my_Mo_intAt mb_Mo_intAt 2 (some .int) : Cond) ∈ bs_big := bs_of (i := 827) (by decide +kernel) rfl
theorem kw_ml_Mo_148 : (Cond.methodLink cn_Mo 148 my_Mo_say : Cond) ∈ bs_big := bs_of (i := 828) (by decide +kernel) rfl
theorem kw_im_Mo_say : (Cond.instanceMethod my_Mo_say : Cond) ∈ bs_big := bs_of (i := 830) (by decide +kernel) rfl
theorem kw_cd_Mo_say : (Cond.code my_Mo_say mb_Mo_say 3 none : Cond) ∈ bs_big := bs_of (i := 831) (by decide +kernel) rfl
theorem kw_ml_Mo_142 : (Cond.methodLink cn_Mo 142 my_Mo_emit : Cond) ∈ bs_big := bs_of (i := 832) (by decide +kernel) rfl
theorem kw_im_Mo_emit : (Cond.instanceMethod my_Mo_emit : Cond) ∈ bs_big := bs_of (i := 834) (by decide +kernel) rfl
theorem kw_cd_Mo_emit : (Cond.code my_Mo_emit mb_Mo_emit 2 none : Cond) ∈ bs_big := bs_of (i := 835) (by decide +kernel) rfl
theorem kw_ml_Mo_152 : (Cond.methodLink cn_Mo 152 my_Mo_more : Cond) ∈ bs_big := bs_of (i := 836) (by decide +kernel) rfl
theorem kw_im_Mo_more : (Cond.instanceMethod my_Mo_more : Cond) ∈ bs_big := bs_of (i := 838) (by decide +kernel) rfl
theorem kw_cd_Mo_more : (Cond.code my_Mo_more mb_Mo_more 2 none : Cond) ∈ bs_big := bs_of (i := 839) (by decide +kernel) rfl
theorem kw_ml_Mo_169 : (Cond.methodLink cn_Mo 169 my_Mo_refuse : Cond) ∈ bs_big := bs_of (i := 840) (by decide +kernel) rfl
theorem kw_im_Mo_refuse : (Cond.instanceMethod my_Mo_refuse : Cond) ∈ bs_big := bs_of (i := 842) (by decide +kernel) rfl
theorem kw_cd_Mo_refuse : (Cond.code my_Mo_refuse mb_Mo_refuse 2 none : Cond) ∈ bs_big := bs_of (i := 843) (by decide +kernel) rfl
theorem kw_ml_Mo_172 : (Cond.methodLink cn_Mo 172 my_Mo_block : Cond) ∈ bs_big := bs_of (i := 844) (by decide +kernel) rfl
theorem kw_im_Mo_block : (Cond.instanceMethod my_Mo_block : Cond) ∈ bs_big := bs_of (i := 846) (by decide +kernel) rfl
theorem kw_cd_Mo_block : (Cond.code my_Mo_block mb_Mo_block 5 none : Cond) ∈ bs_big := bs_of (i := 847) (by decide +kernel) rfl
theorem kw_ml_Mo_155 : (Cond.methodLink cn_Mo 155 my_Mo_get : Cond) ∈ bs_big := bs_of (i := 848) (by decide +kernel) rfl
theorem kw_im_Mo_get : (Cond.instanceMethod my_Mo_get : Cond) ∈ bs_big := bs_of (i := 850) (by decide +kernel) rfl
theorem kw_cd_Mo_get : (Cond.code my_Mo_get mb_Mo_get 7 none : Cond) ∈ bs_big := bs_of (i := 851) (by decide +kernel) rfl
theorem kw_ml_Mo_175 : (Cond.methodLink cn_Mo 175 my_Mo_isAttribute : Cond) ∈ bs_big := bs_of (i := 852) (by decide +kernel) rfl
theorem kw_st_Mo_isAttribute : (Cond.static my_Mo_isAttribute : Cond) ∈ bs_big := bs_of (i := 853) (by decide +kernel) rfl
theorem kw_cd_Mo_isAttribute : (Cond.code my_Mo_isAttribute mb_Mo_isAttribute 2 (some .boolean) : Cond) ∈ bs_big := bs_of (i := 854) (by decide +kernel) rfl
theorem kw_ml_Mo_179 : (Cond.methodLink cn_Mo 179 my_Mo_emitValue : Cond) ∈ bs_big := bs_of (i := 855) (by decide +kernel) rfl
theorem kw_im_Mo_emitValue : (Cond.instanceMethod my_Mo_emitValue : Cond) ∈ bs_big := bs_of (i := 857) (by decide +kernel) rfl
theorem kw_cd_Mo_emitValue : (Cond.code my_Mo_emitValue mb_Mo_emitValue 5 none : Cond) ∈ bs_big := bs_of (i := 858) (by decide +kernel) rfl
theorem kw_ml_Mo_182 : (Cond.methodLink cn_Mo 182 my_Mo_emitInt : Cond) ∈ bs_big := bs_of (i := 859) (by decide +kernel) rfl
theorem kw_im_Mo_emitInt : (Cond.instanceMethod my_Mo_emitInt : Cond) ∈ bs_big := bs_of (i := 861) (by decide +kernel) rfl
theorem kw_cd_Mo_emitInt : (Cond.code my_Mo_emitInt mb_Mo_emitInt 4 none : Cond) ∈ bs_big := bs_of (i := 862) (by decide +kernel) rfl
theorem kw_ml_Mo_185 : (Cond.methodLink cn_Mo 185 my_Mo_emitEntries : Cond) ∈ bs_big := bs_of (i := 863) (by decide +kernel) rfl
theorem kw_im_Mo_emitEntries : (Cond.instanceMethod my_Mo_emitEntries : Cond) ∈ bs_big := bs_of (i := 865) (by decide +kernel) rfl
theorem kw_cd_Mo_emitEntries : (Cond.code my_Mo_emitEntries mb_Mo_emitEntries 5 none : Cond) ∈ bs_big := bs_of (i := 866) (by decide +kernel) rfl
theorem kw_ml_Mo_191 : (Cond.methodLink cn_Mo 191 my_Mo_isIn : Cond) ∈ bs_big := bs_of (i := 867) (by decide +kernel) rfl
theorem kw_im_Mo_isIn : (Cond.instanceMethod my_Mo_isIn : Cond) ∈ bs_big := bs_of (i := 869) (by decide +kernel) rfl
theorem kw_cd_Mo_isIn : (Cond.code my_Mo_isIn mb_Mo_isIn 5 (some .boolean) : Cond) ∈ bs_big := bs_of (i := 870) (by decide +kernel) rfl
theorem kw_co_Mo_189 : (Cond.constantLong cn_Mo 189 4294967295 : Cond) ∈ bs_big := bs_of (i := 871) (by decide +kernel) rfl
theorem kw_ml_Mo_159 : (Cond.methodLink cn_Mo 159 my_Mo_set : Cond) ∈ bs_big := bs_of (i := 872) (by decide +kernel) rfl
theorem kw_im_Mo_set : (Cond.instanceMethod my_Mo_set : Cond) ∈ bs_big := bs_of (i := 874) (by decide +kernel) rfl
theorem kw_cd_Mo_set : (Cond.code my_Mo_set mb_Mo_set 6 (some .int) : Cond) ∈ bs_big := bs_of (i := 875) (by decide +kernel) rfl
theorem kw_ml_Mo_195 : (Cond.methodLink cn_Mo 195 my_Mo_setColumns : Cond) ∈ bs_big := bs_of (i := 876) (by decide +kernel) rfl
theorem kw_im_Mo_setColumns : (Cond.instanceMethod my_Mo_setColumns : Cond) ∈ bs_big := bs_of (i := 878) (by decide +kernel) rfl
theorem kw_cd_Mo_setColumns : (Cond.code my_Mo_setColumns mb_Mo_setColumns 6 (some .int) : Cond) ∈ bs_big := bs_of (i := 879) (by decide +kernel) rfl
theorem kw_ml_Mo_163 : (Cond.methodLink cn_Mo 163 my_Mo_act : Cond) ∈ bs_big := bs_of (i := 880) (by decide +kernel) rfl
theorem kw_im_Mo_act : (Cond.instanceMethod my_Mo_act : Cond) ∈ bs_big := bs_of (i := 882) (by decide +kernel) rfl
theorem kw_cd_Mo_act : (Cond.code my_Mo_act mb_Mo_act 5 (some .int) : Cond) ∈ bs_big := bs_of (i := 883) (by decide +kernel) rfl
theorem kw_ml_Mo_119 : (Cond.methodLink cn_Mo 119 my_Mo_replyLatest : Cond) ∈ bs_big := bs_of (i := 884) (by decide +kernel) rfl
theorem kw_im_Mo_replyLatest : (Cond.instanceMethod my_Mo_replyLatest : Cond) ∈ bs_big := bs_of (i := 886) (by decide +kernel) rfl
theorem kw_cd_Mo_replyLatest : (Cond.code my_Mo_replyLatest mb_Mo_replyLatest 2 none : Cond) ∈ bs_big := bs_of (i := 887) (by decide +kernel) rfl
theorem kw_ml_Mo_136 : (Cond.methodLink cn_Mo 136 my_Mo_hear : Cond) ∈ bs_big := bs_of (i := 888) (by decide +kernel) rfl
theorem kw_im_Mo_hear : (Cond.instanceMethod my_Mo_hear : Cond) ∈ bs_big := bs_of (i := 890) (by decide +kernel) rfl
theorem kw_cd_Mo_hear : (Cond.code my_Mo_hear mb_Mo_hear 2 none : Cond) ∈ bs_big := bs_of (i := 891) (by decide +kernel) rfl
theorem kw_ml_La_121 : (Cond.methodLink cn_La 121 my_Mo_reply : Cond) ∈ bs_big := bs_of (i := 892) (by decide +kernel) rfl
theorem kw_im_Mo_reply : (Cond.instanceMethod my_Mo_reply : Cond) ∈ bs_big := bs_of (i := 893) (by decide +kernel) rfl
theorem kw_se_Mo_reply : (Cond.selects cn_Mo my_Mo_reply my_Mo_reply : Cond) ∈ bs_big := bs_of (i := 894) (by decide +kernel) rfl
theorem kw_cd_Mo_reply : (Cond.code my_Mo_reply mb_Mo_reply 2 (some .int) : Cond) ∈ bs_big := bs_of (i := 895) (by decide +kernel) rfl
theorem kw_ac_long : (Cond.arrayClass .long : Cond) ∈ bs_big := bs_of (i := 896) (by decide +kernel) rfl
theorem kw_se_Cn_receiveBare : (Cond.selects cn_Cn my_Cn_receiveBare my_Cn_receiveBare : Cond) ∈ bs_big := bs_os (i := 0) (by decide +kernel) rfl
theorem kw_se_Cn_connect : (Cond.selects cn_Cn my_Cn_connect my_Cn_connect : Cond) ∈ bs_big := bs_os (i := 1) (by decide +kernel) rfl
theorem kw_se_Cn_answer : (Cond.selects cn_Cn my_Cn_answer my_Cn_answer : Cond) ∈ bs_big := bs_os (i := 2) (by decide +kernel) rfl
theorem kw_se_Cn_begins : (Cond.selects cn_Cn my_Cn_begins my_Cn_begins : Cond) ∈ bs_big := bs_os (i := 3) (by decide +kernel) rfl
theorem kw_se_Cn_associate : (Cond.selects cn_Cn my_Cn_associate my_Cn_associate : Cond) ∈ bs_big := bs_os (i := 4) (by decide +kernel) rfl
theorem kw_se_Cn_needsAssociation : (Cond.selects cn_Cn my_Cn_needsAssociation my_Cn_needsAssociation : Cond) ∈ bs_big := bs_os (i := 5) (by decide +kernel) rfl
theorem kw_se_Cn_answerGet : (Cond.selects cn_Cn my_Cn_answerGet my_Cn_answerGet : Cond) ∈ bs_big := bs_os (i := 6) (by decide +kernel) rfl
theorem kw_se_Pf_start : (Cond.selects cn_Pf my_Pf_start my_Pf_start : Cond) ∈ bs_big := bs_os (i := 7) (by decide +kernel) rfl
theorem kw_se_Pf_writeColumns : (Cond.selects cn_Pf my_Pf_writeColumns my_Pf_writeColumns : Cond) ∈ bs_big := bs_os (i := 8) (by decide +kernel) rfl
theorem kw_se_Mt_writeRegister : (Cond.selects cn_Mt my_Mt_writeRegister my_Mt_writeRegister : Cond) ∈ bs_big := bs_os (i := 9) (by decide +kernel) rfl
theorem kw_se_Cn_sendBlock : (Cond.selects cn_Cn my_Cn_sendBlock my_Cn_sendBlock : Cond) ∈ bs_big := bs_os (i := 10) (by decide +kernel) rfl
theorem kw_se_Cn_answerNextBlock : (Cond.selects cn_Cn my_Cn_answerNextBlock my_Cn_answerNextBlock : Cond) ∈ bs_big := bs_os (i := 11) (by decide +kernel) rfl
theorem kw_se_Mt_takeNumber : (Cond.selects cn_Mt my_Mt_takeNumber my_Mt_takeNumber : Cond) ∈ bs_big := bs_os (i := 12) (by decide +kernel) rfl
theorem kw_se_Mt_takeTime : (Cond.selects cn_Mt my_Mt_takeTime my_Mt_takeTime : Cond) ∈ bs_big := bs_os (i := 13) (by decide +kernel) rfl
theorem kw_se_Mt_roundTime : (Cond.selects cn_Mt my_Mt_roundTime my_Mt_roundTime : Cond) ∈ bs_big := bs_os (i := 14) (by decide +kernel) rfl
theorem kw_se_Cn_isLatestAgain : (Cond.selects cn_Cn my_Cn_isLatestAgain my_Cn_isLatestAgain : Cond) ∈ bs_big := bs_os (i := 15) (by decide +kernel) rfl
theorem kw_se_Mo_capture : (Cond.selects cn_Mo my_Mo_capture my_Mo_capture : Cond) ∈ bs_big := bs_os (i := 17) (by decide +kernel) rfl
theorem kw_se_Mo_wrapLine : (Cond.selects cn_Mo my_Mo_wrapLine my_Mo_wrapLine : Cond) ∈ bs_big := bs_os (i := 18) (by decide +kernel) rfl
theorem kw_se_Mo_payloadOf : (Cond.selects cn_Mo my_Mo_payloadOf my_Mo_payloadOf : Cond) ∈ bs_big := bs_os (i := 19) (by decide +kernel) rfl
theorem kw_se_Mo_look : (Cond.selects cn_Mo my_Mo_look my_Mo_look : Cond) ∈ bs_big := bs_os (i := 20) (by decide +kernel) rfl
theorem kw_se_Mo_replyControl : (Cond.selects cn_Mo my_Mo_replyControl my_Mo_replyControl : Cond) ∈ bs_big := bs_os (i := 21) (by decide +kernel) rfl
theorem kw_se_Mo_inform : (Cond.selects cn_Mo my_Mo_inform my_Mo_inform : Cond) ∈ bs_big := bs_os (i := 22) (by decide +kernel) rfl
theorem kw_se_Mo_answer : (Cond.selects cn_Mo my_Mo_answer my_Mo_answer : Cond) ∈ bs_big := bs_os (i := 23) (by decide +kernel) rfl
theorem kw_se_Mo_at : (Cond.selects cn_Mo my_Mo_at my_Mo_at : Cond) ∈ bs_big := bs_os (i := 24) (by decide +kernel) rfl
theorem kw_se_Mo_intAt : (Cond.selects cn_Mo my_Mo_intAt my_Mo_intAt : Cond) ∈ bs_big := bs_os (i := 25) (by decide +kernel) rfl
theorem kw_se_Mo_say : (Cond.selects cn_Mo my_Mo_say my_Mo_say : Cond) ∈ bs_big := bs_os (i := 26) (by decide +kernel) rfl
theorem kw_se_Mo_emit : (Cond.selects cn_Mo my_Mo_emit my_Mo_emit : Cond) ∈ bs_big := bs_os (i := 27) (by decide +kernel) rfl
theorem kw_se_Mo_more : (Cond.selects cn_Mo my_Mo_more my_Mo_more : Cond) ∈ bs_big := bs_os (i := 28) (by decide +kernel) rfl
theorem kw_se_Mo_refuse : (Cond.selects cn_Mo my_Mo_refuse my_Mo_refuse : Cond) ∈ bs_big := bs_os (i := 29) (by decide +kernel) rfl
theorem kw_se_Mo_block : (Cond.selects cn_Mo my_Mo_block my_Mo_block : Cond) ∈ bs_big := bs_os (i := 30) (by decide +kernel) rfl
theorem kw_se_Mo_get : (Cond.selects cn_Mo my_Mo_get my_Mo_get : Cond) ∈ bs_big := bs_os (i := 31) (by decide +kernel) rfl
theorem kw_se_Mo_emitValue : (Cond.selects cn_Mo my_Mo_emitValue my_Mo_emitValue : Cond) ∈ bs_big := bs_os (i := 32) (by decide +kernel) rfl
theorem kw_se_Mo_emitInt : (Cond.selects cn_Mo my_Mo_emitInt my_Mo_emitInt : Cond) ∈ bs_big := bs_os (i := 33) (by decide +kernel) rfl
theorem kw_se_Mo_emitEntries : (Cond.selects cn_Mo my_Mo_emitEntries my_Mo_emitEntries : Cond) ∈ bs_big := bs_os (i := 34) (by decide +kernel) rfl
theorem kw_se_Mo_isIn : (Cond.selects cn_Mo my_Mo_isIn my_Mo_isIn : Cond) ∈ bs_big := bs_os (i := 35) (by decide +kernel) rfl
theorem kw_se_Mo_set : (Cond.selects cn_Mo my_Mo_set my_Mo_set : Cond) ∈ bs_big := bs_os (i := 36) (by decide +kernel) rfl
theorem kw_se_Mo_setColumns : (Cond.selects cn_Mo my_Mo_setColumns my_Mo_setColumns : Cond) ∈ bs_big := bs_os (i := 37) (by decide +kernel) rfl
theorem kw_se_Mo_act : (Cond.selects cn_Mo my_Mo_act my_Mo_act : Cond) ∈ bs_big := bs_os (i := 38) (by decide +kernel) rfl
theorem kw_se_Mo_replyLatest : (Cond.selects cn_Mo my_Mo_replyLatest my_Mo_replyLatest : Cond) ∈ bs_big := bs_os (i := 39) (by decide +kernel) rfl
theorem kw_se_Mo_hear : (Cond.selects cn_Mo my_Mo_hear my_Mo_hear : Cond) ∈ bs_big := bs_os (i := 40) (by decide +kernel) rfl
theorem ki_As : ∀ w ∈ u_ws cn_As cf_As 2, w ∈ bs_big := List.forall_mem_cons.mpr ⟨kw_ly_As_0, List.forall_mem_cons.mpr ⟨kw_ly_As_1, fun _ h => absurd h List.not_mem_nil⟩⟩
theorem ki_Cn : ∀ w ∈ u_ws cn_Cn cf_Cn 10, w ∈ bs_big := List.forall_mem_cons.mpr ⟨kw_ly_Cn_0, List.forall_mem_cons.mpr ⟨kw_ly_Cn_1, List.forall_mem_cons.mpr ⟨kw_ly_Cn_2, List.forall_mem_cons.mpr ⟨kw_ly_Cn_3, List.forall_mem_cons.mpr ⟨kw_ly_Cn_4, List.forall_mem_cons.mpr ⟨kw_ly_Cn_5, List.forall_mem_cons.mpr ⟨kw_ly_Cn_6, List.forall_mem_cons.mpr ⟨kw_ly_Cn_7, List.forall_mem_cons.mpr ⟨kw_ly_Cn_8, List.forall_mem_cons.mpr ⟨kw_ly_Cn_9, fun _ h => absurd h List.not_mem_nil⟩⟩⟩⟩⟩⟩⟩⟩⟩⟩
theorem ki_Mt : ∀ w ∈ u_ws cn_Mt cf_Mt 3, w ∈ bs_big := List.forall_mem_cons.mpr ⟨kw_ly_Mt_0, List.forall_mem_cons.mpr ⟨kw_ly_Mt_1, List.forall_mem_cons.mpr ⟨kw_ly_Mt_2, fun _ h => absurd h List.not_mem_nil⟩⟩⟩
theorem ki_Pf : ∀ w ∈ u_ws cn_Pf cf_Pf 7, w ∈ bs_big := List.forall_mem_cons.mpr ⟨kw_ly_Pf_0, List.forall_mem_cons.mpr ⟨kw_ly_Pf_1, List.forall_mem_cons.mpr ⟨kw_ly_Pf_2, List.forall_mem_cons.mpr ⟨kw_ly_Pf_3, List.forall_mem_cons.mpr ⟨kw_ly_Pf_4, List.forall_mem_cons.mpr ⟨kw_ly_Pf_5, List.forall_mem_cons.mpr ⟨kw_ly_Pf_6, fun _ h => absurd h List.not_mem_nil⟩⟩⟩⟩⟩⟩⟩
theorem ki_Rw : ∀ w ∈ u_ws cn_Rw cf_Rw 2, w ∈ bs_big := List.forall_mem_cons.mpr ⟨kw_ly_Rw_0, List.forall_mem_cons.mpr ⟨kw_ly_Rw_1, fun _ h => absurd h List.not_mem_nil⟩⟩
theorem ki_Lp : ∀ w ∈ u_ws cn_Lp cf_Lp 5, w ∈ bs_big := List.forall_mem_cons.mpr ⟨kw_ly_Lp_0, List.forall_mem_cons.mpr ⟨kw_ly_Lp_1, List.forall_mem_cons.mpr ⟨kw_ly_Lp_2, List.forall_mem_cons.mpr ⟨kw_ly_Lp_3, List.forall_mem_cons.mpr ⟨kw_ly_Lp_4, fun _ h => absurd h List.not_mem_nil⟩⟩⟩⟩⟩
theorem ki_Mo : ∀ w ∈ u_ws cn_Mo cf_Mo 28, w ∈ bs_big := List.forall_mem_cons.mpr ⟨kw_ly_Mo_0, List.forall_mem_cons.mpr ⟨kw_ly_Mo_1, List.forall_mem_cons.mpr ⟨kw_ly_Mo_2, List.forall_mem_cons.mpr ⟨kw_ly_Mo_3, List.forall_mem_cons.mpr ⟨kw_ly_Mo_4, List.forall_mem_cons.mpr ⟨kw_ly_Mo_5, List.forall_mem_cons.mpr ⟨kw_ly_Mo_6, List.forall_mem_cons.mpr ⟨kw_ly_Mo_7, List.forall_mem_cons.mpr ⟨kw_ly_Mo_8, List.forall_mem_cons.mpr ⟨kw_ly_Mo_9, List.forall_mem_cons.mpr ⟨kw_ly_Mo_10, List.forall_mem_cons.mpr ⟨kw_ly_Mo_11, List.forall_mem_cons.mpr ⟨kw_ly_Mo_12, List.forall_mem_cons.mpr ⟨kw_ly_Mo_13, List.forall_mem_cons.mpr ⟨kw_ly_Mo_14, List.forall_mem_cons.mpr ⟨kw_ly_Mo_15, List.forall_mem_cons.mpr ⟨kw_ly_Mo_16, List.forall_mem_cons.mpr ⟨kw_ly_Mo_17, List.forall_mem_cons.mpr ⟨kw_ly_Mo_18, List.forall_mem_cons.mpr ⟨kw_ly_Mo_19, List.forall_mem_cons.mpr ⟨kw_ly_Mo_20, List.forall_mem_cons.mpr ⟨kw_ly_Mo_21, List.forall_mem_cons.mpr ⟨kw_ly_Mo_22, List.forall_mem_cons.mpr ⟨kw_ly_Mo_23, List.forall_mem_cons.mpr ⟨kw_ly_Mo_24, List.forall_mem_cons.mpr ⟨kw_ly_Mo_25, List.forall_mem_cons.mpr ⟨kw_ly_Mo_26, List.forall_mem_cons.mpr ⟨kw_ly_Mo_27, fun _ h => absurd h List.not_mem_nil⟩⟩⟩⟩⟩⟩⟩⟩⟩⟩⟩⟩⟩⟩⟩⟩⟩⟩⟩⟩⟩⟩⟩⟩⟩⟩⟩⟩
