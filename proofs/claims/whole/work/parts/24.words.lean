theorem rt_1 {w : Cond} (h : w ∈ tables_1_1) (hg : goodWord w = true) : w ∈ rw_ok := rw_in (List.mem_append_right _ (List.mem_append_left _ h)) hg
theorem rn_1 {w : Cond} (h : w ∈ tables_1_1) (hg : rw_isNest w = true) : w ∈ rw_nest := List.mem_filter.mpr ⟨(List.mem_append_left _ h), hg⟩
theorem rt_2 {w : Cond} (h : w ∈ tables_1_2) (hg : goodWord w = true) : w ∈ rw_ok := rw_in (List.mem_append_right _ (List.mem_append_right _ (List.mem_append_left _ h))) hg
theorem rn_2 {w : Cond} (h : w ∈ tables_1_2) (hg : rw_isNest w = true) : w ∈ rw_nest := List.mem_filter.mpr ⟨(List.mem_append_right _ (List.mem_append_left _ h)), hg⟩
theorem rt_3 {w : Cond} (h : w ∈ tables_1_3) (hg : goodWord w = true) : w ∈ rw_ok := rw_in (List.mem_append_right _ (List.mem_append_right _ (List.mem_append_right _ (List.mem_append_left _ h)))) hg
theorem rn_3 {w : Cond} (h : w ∈ tables_1_3) (hg : rw_isNest w = true) : w ∈ rw_nest := List.mem_filter.mpr ⟨(List.mem_append_right _ (List.mem_append_right _ (List.mem_append_left _ h))), hg⟩
theorem rt_4 {w : Cond} (h : w ∈ tables_1_4) (hg : goodWord w = true) : w ∈ rw_ok := rw_in (List.mem_append_right _ (List.mem_append_right _ (List.mem_append_right _ (List.mem_append_right _ h)))) hg
theorem rn_4 {w : Cond} (h : w ∈ tables_1_4) (hg : rw_isNest w = true) : w ∈ rw_nest := List.mem_filter.mpr ⟨(List.mem_append_right _ (List.mem_append_right _ (List.mem_append_right _ h))), hg⟩
theorem in_Lw : Cond.initialized "RowAlignerLaw" ∈ rw_ok := rt_1 (List.mem_of_getElem? (i := 0) rfl) rfl
theorem in_Ra : Cond.initialized "RowAligner" ∈ rw_ok := rt_1 (List.mem_of_getElem? (i := 1) rfl) rfl
theorem in_Gr : Cond.initialized "RowAligner$Ground" ∈ rw_ok := rt_1 (List.mem_of_getElem? (i := 2) rfl) rfl
theorem in_Ro : Cond.initialized "RowAligner$Row" ∈ rw_ok := rt_1 (List.mem_of_getElem? (i := 3) rfl) rfl
theorem in_Pr : Cond.initialized "RowAligner$Prices" ∈ rw_ok := rt_1 (List.mem_of_getElem? (i := 4) rfl) rfl
theorem in_Se : Cond.initialized "RowAligner$Search" ∈ rw_ok := rt_1 (List.mem_of_getElem? (i := 5) rfl) rfl
theorem in_Ou : Cond.initialized "RowAligner$Outlook" ∈ rw_ok := rt_1 (List.mem_of_getElem? (i := 6) rfl) rfl
theorem in_La : Cond.initialized "RowAligner$Laying" ∈ rw_ok := rt_1 (List.mem_of_getElem? (i := 7) rfl) rfl
theorem in_Wc : Cond.initialized "RowAligner$WayCounter" ∈ rw_ok := rt_1 (List.mem_of_getElem? (i := 8) rfl) rfl
theorem in_Cf : Cond.initialized "RowAligner$CrossingFinder" ∈ rw_ok := rt_1 (List.mem_of_getElem? (i := 9) rfl) rfl
theorem in_Dr : Cond.initialized "RowAligner$Draft" ∈ rw_ok := rt_1 (List.mem_of_getElem? (i := 10) rfl) rfl
theorem in_Mo : Cond.initialized "RowAlignerModel" ∈ rw_ok := rt_1 (List.mem_of_getElem? (i := 11) rfl) rfl
theorem in_Throwable : Cond.initialized "java/lang/Throwable" ∈ rw_ok := rt_1 (List.mem_of_getElem? (i := 12) rfl) rfl
theorem in_Exception : Cond.initialized "java/lang/Exception" ∈ rw_ok := rt_1 (List.mem_of_getElem? (i := 13) rfl) rfl
theorem in_RuntimeException : Cond.initialized "java/lang/RuntimeException" ∈ rw_ok := rt_1 (List.mem_of_getElem? (i := 14) rfl) rfl
theorem in_IndexOutOfBoundsException : Cond.initialized "java/lang/IndexOutOfBoundsException" ∈ rw_ok := rt_1 (List.mem_of_getElem? (i := 15) rfl) rfl
theorem in_IllegalArgumentException : Cond.initialized "java/lang/IllegalArgumentException" ∈ rw_ok := rt_1 (List.mem_of_getElem? (i := 16) rfl) rfl
theorem in_IllegalStateException : Cond.initialized "java/lang/IllegalStateException" ∈ rw_ok := rt_1 (List.mem_of_getElem? (i := 17) rfl) rfl
theorem cl_Lw_8 : Cond.classLink "RowAlignerLaw" 8 "RowAligner" ∈ rw_ok := rt_1 (List.mem_of_getElem? (i := 18) rfl) rfl
theorem it_Ra : Cond.instantiable "RowAligner" 10 ∈ rw_ok := rt_1 (List.mem_of_getElem? (i := 19) rfl) rfl
theorem ml_Lw_78 : Cond.methodLink "RowAlignerLaw" 78 y_Ra_init ∈ rw_ok := rt_1 (List.mem_of_getElem? (i := 20) rfl) rfl
theorem im_Ra_init : Cond.instanceMethod y_Ra_init ∈ rw_ok := rt_1 (List.mem_of_getElem? (i := 21) rfl) rfl
theorem co_Ra_init : Cond.code y_Ra_init prog_1_method_1_code 1 none ∈ rw_ok := rt_1 (List.mem_of_getElem? (i := 22) rfl) rfl
theorem ml_Ra_3 : Cond.methodLink "RowAligner" 3 (⟨"java/lang/Object", "<init>", "()V"⟩ : MethodName) ∈ rw_ok := rt_1 (List.mem_of_getElem? (i := 23) rfl) rfl
theorem im_Ob_init : Cond.instanceMethod (⟨"java/lang/Object", "<init>", "()V"⟩ : MethodName) ∈ rw_ok := rt_1 (List.mem_of_getElem? (i := 24) rfl) rfl
theorem co_Ob_init : Cond.code (⟨"java/lang/Object", "<init>", "()V"⟩ : MethodName) object_method_1_code 1 none ∈ rw_ok := rt_1 (List.mem_of_getElem? (i := 25) rfl) rfl
theorem cl_Ra_9 : Cond.classLink "RowAligner" 9 "RowAligner$Ground" ∈ rw_ok := rt_1 (List.mem_of_getElem? (i := 26) rfl) rfl
theorem it_Gr : Cond.instantiable "RowAligner$Ground" 3 ∈ rw_ok := rt_1 (List.mem_of_getElem? (i := 27) rfl) rfl
theorem mn_Ra_11 : Cond.methodLinkNest "RowAligner" 11 y_Gr_init "RowAligner" ∈ rw_nest := rn_1 (List.mem_of_getElem? (i := 28) (by decide +kernel)) rfl
theorem im_Gr_init : Cond.instanceMethod y_Gr_init ∈ rw_ok := rt_1 (List.mem_of_getElem? (i := 29) rfl) rfl
theorem co_Gr_init : Cond.code y_Gr_init prog_4_method_1_code 1 none ∈ rw_ok := rt_1 (List.mem_of_getElem? (i := 30) rfl) rfl
theorem ml_Gr_3 : Cond.methodLink "RowAligner$Ground" 3 (⟨"java/lang/Object", "<init>", "()V"⟩ : MethodName) ∈ rw_ok := rt_1 (List.mem_of_getElem? (i := 31) rfl) rfl
theorem cl_Gr_9 : Cond.classLink "RowAligner$Ground" 9 "RowAligner$Row" ∈ rw_ok := rt_1 (List.mem_of_getElem? (i := 32) rfl) rfl
theorem it_Ro : Cond.instantiable "RowAligner$Row" 2 ∈ rw_ok := rt_1 (List.mem_of_getElem? (i := 33) rfl) rfl
theorem mn_Gr_11 : Cond.methodLinkNest "RowAligner$Ground" 11 y_Ro_init "RowAligner" ∈ rw_nest := rn_1 (List.mem_of_getElem? (i := 34) (by decide +kernel)) rfl
theorem im_Ro_init : Cond.instanceMethod y_Ro_init ∈ rw_ok := rt_1 (List.mem_of_getElem? (i := 35) rfl) rfl
theorem co_Ro_init : Cond.code y_Ro_init prog_8_method_1_code 1 none ∈ rw_ok := rt_1 (List.mem_of_getElem? (i := 36) rfl) rfl
theorem ml_Ro_3 : Cond.methodLink "RowAligner$Row" 3 (⟨"java/lang/Object", "<init>", "()V"⟩ : MethodName) ∈ rw_ok := rt_1 (List.mem_of_getElem? (i := 37) rfl) rfl
theorem fl_Ro_9 : Cond.fieldLink "RowAligner$Row" 9 "RowAligner$Row" "letters" "[I" ∈ rw_ok := rt_1 (List.mem_of_getElem? (i := 38) rfl) rfl
theorem fl_Gr_28 : Cond.fieldLink "RowAligner$Ground" 28 "RowAligner$Row" "letters" "[I" ∈ rw_ok := rt_1 (List.mem_of_getElem? (i := 39) rfl) rfl
theorem fl_Ra_91 : Cond.fieldLink "RowAligner" 91 "RowAligner$Row" "letters" "[I" ∈ rw_ok := rt_1 (List.mem_of_getElem? (i := 40) rfl) rfl
theorem fl_La_65 : Cond.fieldLink "RowAligner$Laying" 65 "RowAligner$Row" "letters" "[I" ∈ rw_ok := rt_1 (List.mem_of_getElem? (i := 41) rfl) rfl
theorem fl_Ro_15 : Cond.fieldLink "RowAligner$Row" 15 "RowAligner$Row" "length" "I" ∈ rw_ok := rt_1 (List.mem_of_getElem? (i := 42) rfl) rfl
theorem fl_Wc_27 : Cond.fieldLink "RowAligner$WayCounter" 27 "RowAligner$Row" "length" "I" ∈ rw_ok := rt_1 (List.mem_of_getElem? (i := 43) rfl) rfl
theorem fl_Cf_39 : Cond.fieldLink "RowAligner$CrossingFinder" 39 "RowAligner$Row" "length" "I" ∈ rw_ok := rt_1 (List.mem_of_getElem? (i := 44) rfl) rfl
theorem fl_Ra_64 : Cond.fieldLink "RowAligner" 64 "RowAligner$Row" "length" "I" ∈ rw_ok := rt_1 (List.mem_of_getElem? (i := 45) rfl) rfl
theorem fl_Gr_36 : Cond.fieldLink "RowAligner$Ground" 36 "RowAligner$Row" "length" "I" ∈ rw_ok := rt_1 (List.mem_of_getElem? (i := 46) rfl) rfl
theorem fl_Dr_32 : Cond.fieldLink "RowAligner$Draft" 32 "RowAligner$Row" "length" "I" ∈ rw_ok := rt_1 (List.mem_of_getElem? (i := 47) rfl) rfl
theorem fl_Se_50 : Cond.fieldLink "RowAligner$Search" 50 "RowAligner$Row" "length" "I" ∈ rw_ok := rt_1 (List.mem_of_getElem? (i := 48) rfl) rfl
theorem ly_Ro_letters : Cond.laysFinal "RowAligner$Row" "RowAligner$Row" "letters" "[I" ∈ rw_ok := rt_1 (List.mem_of_getElem? (i := 49) rfl) rfl
theorem ly_Ro_length : Cond.lays "RowAligner$Row" "RowAligner$Row" "length" "I" ∈ rw_ok := rt_1 (List.mem_of_getElem? (i := 51) rfl) rfl
theorem ac_int : Cond.arrayClass Jvm.ClassFile.FieldType.int ∈ rw_ok := rt_1 (List.mem_of_getElem? (i := 54) rfl) rfl
theorem cl_Gr_21 : Cond.classLink "RowAligner$Ground" 21 "RowAligner$Prices" ∈ rw_ok := rt_1 (List.mem_of_getElem? (i := 55) rfl) rfl
theorem it_Pr : Cond.instantiable "RowAligner$Prices" 3 ∈ rw_ok := rt_1 (List.mem_of_getElem? (i := 56) rfl) rfl
theorem ml_Gr_23 : Cond.methodLink "RowAligner$Ground" 23 y_Pr_init ∈ rw_ok := rt_1 (List.mem_of_getElem? (i := 57) rfl) rfl
theorem im_Pr_init : Cond.instanceMethod y_Pr_init ∈ rw_ok := rt_1 (List.mem_of_getElem? (i := 58) rfl) rfl
theorem co_Pr_init : Cond.code y_Pr_init prog_7_method_1_code 1 none ∈ rw_ok := rt_1 (List.mem_of_getElem? (i := 59) rfl) rfl
theorem ml_Pr_3 : Cond.methodLink "RowAligner$Prices" 3 (⟨"java/lang/Object", "<init>", "()V"⟩ : MethodName) ∈ rw_ok := rt_1 (List.mem_of_getElem? (i := 60) rfl) rfl
theorem ml_Pr_22 : Cond.methodLink "RowAligner$Prices" 22 y_Pr_setAllPairs ∈ rw_ok := rt_1 (List.mem_of_getElem? (i := 61) rfl) rfl
theorem im_Pr_setAllPairs : Cond.instanceMethod y_Pr_setAllPairs ∈ rw_ok := rt_1 (List.mem_of_getElem? (i := 62) rfl) rfl
theorem se_Pr_setAllPairs : Cond.selects "RowAligner$Prices" y_Pr_setAllPairs y_Pr_setAllPairs ∈ rw_ok := rt_1 (List.mem_of_getElem? (i := 63) rfl) rfl
theorem co_Pr_setAllPairs : Cond.code y_Pr_setAllPairs prog_7_method_2_code 5 none ∈ rw_ok := rt_1 (List.mem_of_getElem? (i := 64) rfl) rfl
theorem ml_Pr_26 : Cond.methodLink "RowAligner$Prices" 26 y_Pr_setPair ∈ rw_ok := rt_1 (List.mem_of_getElem? (i := 65) rfl) rfl
theorem im_Pr_setPair : Cond.instanceMethod y_Pr_setPair ∈ rw_ok := rt_1 (List.mem_of_getElem? (i := 66) rfl) rfl
theorem se_Pr_setPair : Cond.selects "RowAligner$Prices" y_Pr_setPair y_Pr_setPair ∈ rw_ok := rt_1 (List.mem_of_getElem? (i := 67) rfl) rfl
theorem co_Pr_setPair : Cond.code y_Pr_setPair prog_7_method_3_code 4 none ∈ rw_ok := rt_1 (List.mem_of_getElem? (i := 68) rfl) rfl
theorem fl_Pr_9 : Cond.fieldLink "RowAligner$Prices" 9 "RowAligner$Prices" "pairs" "[I" ∈ rw_ok := rt_1 (List.mem_of_getElem? (i := 69) rfl) rfl
theorem fl_Pr_15 : Cond.fieldLink "RowAligner$Prices" 15 "RowAligner$Prices" "open" "I" ∈ rw_ok := rt_1 (List.mem_of_getElem? (i := 70) rfl) rfl
theorem fl_Dr_58 : Cond.fieldLink "RowAligner$Draft" 58 "RowAligner$Prices" "open" "I" ∈ rw_ok := rt_1 (List.mem_of_getElem? (i := 71) rfl) rfl
theorem fl_Se_88 : Cond.fieldLink "RowAligner$Search" 88 "RowAligner$Prices" "open" "I" ∈ rw_ok := rt_1 (List.mem_of_getElem? (i := 72) rfl) rfl
theorem fl_Ra_112 : Cond.fieldLink "RowAligner" 112 "RowAligner$Prices" "open" "I" ∈ rw_ok := rt_1 (List.mem_of_getElem? (i := 73) rfl) rfl
theorem fl_Pr_19 : Cond.fieldLink "RowAligner$Prices" 19 "RowAligner$Prices" "more" "I" ∈ rw_ok := rt_1 (List.mem_of_getElem? (i := 74) rfl) rfl
theorem fl_Dr_53 : Cond.fieldLink "RowAligner$Draft" 53 "RowAligner$Prices" "more" "I" ∈ rw_ok := rt_1 (List.mem_of_getElem? (i := 75) rfl) rfl
theorem fl_Se_96 : Cond.fieldLink "RowAligner$Search" 96 "RowAligner$Prices" "more" "I" ∈ rw_ok := rt_1 (List.mem_of_getElem? (i := 76) rfl) rfl
theorem fl_Ra_115 : Cond.fieldLink "RowAligner" 115 "RowAligner$Prices" "more" "I" ∈ rw_ok := rt_1 (List.mem_of_getElem? (i := 77) rfl) rfl
theorem ly_Pr_pairs : Cond.laysFinal "RowAligner$Prices" "RowAligner$Prices" "pairs" "[I" ∈ rw_ok := rt_1 (List.mem_of_getElem? (i := 78) rfl) rfl
theorem ly_Pr_open : Cond.lays "RowAligner$Prices" "RowAligner$Prices" "open" "I" ∈ rw_ok := rt_1 (List.mem_of_getElem? (i := 80) rfl) rfl
theorem ly_Pr_more : Cond.lays "RowAligner$Prices" "RowAligner$Prices" "more" "I" ∈ rw_ok := rt_1 (List.mem_of_getElem? (i := 82) rfl) rfl
theorem fl_Gr_12 : Cond.fieldLink "RowAligner$Ground" 12 "RowAligner$Ground" "a" "LRowAligner$Row;" ∈ rw_ok := rt_1 (List.mem_of_getElem? (i := 85) rfl) rfl
theorem fl_Wc_21 : Cond.fieldLink "RowAligner$WayCounter" 21 "RowAligner$Ground" "a" "LRowAligner$Row;" ∈ rw_ok := rt_1 (List.mem_of_getElem? (i := 86) rfl) rfl
theorem fl_Cf_33 : Cond.fieldLink "RowAligner$CrossingFinder" 33 "RowAligner$Ground" "a" "LRowAligner$Row;" ∈ rw_ok := rt_1 (List.mem_of_getElem? (i := 87) rfl) rfl
theorem fl_Dr_26 : Cond.fieldLink "RowAligner$Draft" 26 "RowAligner$Ground" "a" "LRowAligner$Row;" ∈ rw_ok := rt_1 (List.mem_of_getElem? (i := 88) rfl) rfl
theorem fl_Se_44 : Cond.fieldLink "RowAligner$Search" 44 "RowAligner$Ground" "a" "LRowAligner$Row;" ∈ rw_ok := rt_1 (List.mem_of_getElem? (i := 89) rfl) rfl
theorem fl_La_59 : Cond.fieldLink "RowAligner$Laying" 59 "RowAligner$Ground" "a" "LRowAligner$Row;" ∈ rw_ok := rt_1 (List.mem_of_getElem? (i := 90) rfl) rfl
theorem fl_Ra_184 : Cond.fieldLink "RowAligner" 184 "RowAligner$Ground" "a" "LRowAligner$Row;" ∈ rw_ok := rt_1 (List.mem_of_getElem? (i := 91) rfl) rfl
theorem fl_Gr_18 : Cond.fieldLink "RowAligner$Ground" 18 "RowAligner$Ground" "b" "LRowAligner$Row;" ∈ rw_ok := rt_1 (List.mem_of_getElem? (i := 92) rfl) rfl
theorem fl_Wc_33 : Cond.fieldLink "RowAligner$WayCounter" 33 "RowAligner$Ground" "b" "LRowAligner$Row;" ∈ rw_ok := rt_1 (List.mem_of_getElem? (i := 93) rfl) rfl
theorem fl_Cf_45 : Cond.fieldLink "RowAligner$CrossingFinder" 45 "RowAligner$Ground" "b" "LRowAligner$Row;" ∈ rw_ok := rt_1 (List.mem_of_getElem? (i := 94) rfl) rfl
theorem fl_Dr_35 : Cond.fieldLink "RowAligner$Draft" 35 "RowAligner$Ground" "b" "LRowAligner$Row;" ∈ rw_ok := rt_1 (List.mem_of_getElem? (i := 95) rfl) rfl
theorem fl_Se_55 : Cond.fieldLink "RowAligner$Search" 55 "RowAligner$Ground" "b" "LRowAligner$Row;" ∈ rw_ok := rt_1 (List.mem_of_getElem? (i := 96) rfl) rfl
theorem fl_La_70 : Cond.fieldLink "RowAligner$Laying" 70 "RowAligner$Ground" "b" "LRowAligner$Row;" ∈ rw_ok := rt_1 (List.mem_of_getElem? (i := 97) rfl) rfl
theorem fl_Ra_218 : Cond.fieldLink "RowAligner" 218 "RowAligner$Ground" "b" "LRowAligner$Row;" ∈ rw_ok := rt_1 (List.mem_of_getElem? (i := 98) rfl) rfl
theorem fl_Gr_24 : Cond.fieldLink "RowAligner$Ground" 24 "RowAligner$Ground" "prices" "LRowAligner$Prices;" ∈ rw_ok := rt_1 (List.mem_of_getElem? (i := 99) rfl) rfl
theorem fl_Dr_49 : Cond.fieldLink "RowAligner$Draft" 49 "RowAligner$Ground" "prices" "LRowAligner$Prices;" ∈ rw_ok := rt_1 (List.mem_of_getElem? (i := 100) rfl) rfl
theorem fl_Se_84 : Cond.fieldLink "RowAligner$Search" 84 "RowAligner$Ground" "prices" "LRowAligner$Prices;" ∈ rw_ok := rt_1 (List.mem_of_getElem? (i := 101) rfl) rfl
theorem fl_Ra_99 : Cond.fieldLink "RowAligner" 99 "RowAligner$Ground" "prices" "LRowAligner$Prices;" ∈ rw_ok := rt_1 (List.mem_of_getElem? (i := 102) rfl) rfl
theorem ly_Gr_a : Cond.laysFinal "RowAligner$Ground" "RowAligner$Ground" "a" "LRowAligner$Row;" ∈ rw_ok := rt_1 (List.mem_of_getElem? (i := 103) rfl) rfl
theorem ly_Gr_b : Cond.laysFinal "RowAligner$Ground" "RowAligner$Ground" "b" "LRowAligner$Row;" ∈ rw_ok := rt_1 (List.mem_of_getElem? (i := 105) rfl) rfl
theorem ly_Gr_prices : Cond.laysFinal "RowAligner$Ground" "RowAligner$Ground" "prices" "LRowAligner$Prices;" ∈ rw_ok := rt_1 (List.mem_of_getElem? (i := 107) rfl) rfl
theorem cl_Ra_16 : Cond.classLink "RowAligner" 16 "RowAligner$Search" ∈ rw_ok := rt_1 (List.mem_of_getElem? (i := 110) rfl) rfl
theorem it_Se : Cond.instantiable "RowAligner$Search" 8 ∈ rw_ok := rt_1 (List.mem_of_getElem? (i := 111) rfl) rfl
theorem ml_Ra_18 : Cond.methodLink "RowAligner" 18 y_Se_init ∈ rw_ok := rt_1 (List.mem_of_getElem? (i := 112) rfl) rfl
theorem im_Se_init : Cond.instanceMethod y_Se_init ∈ rw_ok := rt_1 (List.mem_of_getElem? (i := 113) rfl) rfl
theorem co_Se_init : Cond.code y_Se_init prog_9_method_1_code 2 none ∈ rw_ok := rt_1 (List.mem_of_getElem? (i := 114) rfl) rfl
theorem ml_Se_3 : Cond.methodLink "RowAligner$Search" 3 (⟨"java/lang/Object", "<init>", "()V"⟩ : MethodName) ∈ rw_ok := rt_1 (List.mem_of_getElem? (i := 115) rfl) rfl
theorem cl_Se_9 : Cond.classLink "RowAligner$Search" 9 "RowAligner$Outlook" ∈ rw_ok := rt_1 (List.mem_of_getElem? (i := 116) rfl) rfl
theorem it_Ou : Cond.instantiable "RowAligner$Outlook" 6 ∈ rw_ok := rt_1 (List.mem_of_getElem? (i := 117) rfl) rfl
theorem mn_Se_11 : Cond.methodLinkNest "RowAligner$Search" 11 y_Ou_init "RowAligner" ∈ rw_nest := rn_1 (List.mem_of_getElem? (i := 118) (by decide +kernel)) rfl
theorem im_Ou_init : Cond.instanceMethod y_Ou_init ∈ rw_ok := rt_1 (List.mem_of_getElem? (i := 119) rfl) rfl
theorem co_Ou_init : Cond.code y_Ou_init prog_6_method_1_code 1 none ∈ rw_ok := rt_1 (List.mem_of_getElem? (i := 120) rfl) rfl
theorem ml_Ou_3 : Cond.methodLink "RowAligner$Outlook" 3 (⟨"java/lang/Object", "<init>", "()V"⟩ : MethodName) ∈ rw_ok := rt_1 (List.mem_of_getElem? (i := 121) rfl) rfl
theorem fl_Ou_27 : Cond.fieldLink "RowAligner$Outlook" 27 "RowAligner$Outlook" "end" "I" ∈ rw_ok := rt_1 (List.mem_of_getElem? (i := 122) rfl) rfl
theorem fl_Wc_64 : Cond.fieldLink "RowAligner$WayCounter" 64 "RowAligner$Outlook" "end" "I" ∈ rw_ok := rt_1 (List.mem_of_getElem? (i := 123) rfl) rfl
theorem fl_Se_70 : Cond.fieldLink "RowAligner$Search" 70 "RowAligner$Outlook" "end" "I" ∈ rw_ok := rt_1 (List.mem_of_getElem? (i := 124) rfl) rfl
theorem fl_Ou_9 : Cond.fieldLink "RowAligner$Outlook" 9 "RowAligner$Outlook" "pair" "I" ∈ rw_ok := rt_1 (List.mem_of_getElem? (i := 125) rfl) rfl
theorem fl_Se_77 : Cond.fieldLink "RowAligner$Search" 77 "RowAligner$Outlook" "pair" "I" ∈ rw_ok := rt_1 (List.mem_of_getElem? (i := 126) rfl) rfl
theorem fl_Ou_15 : Cond.fieldLink "RowAligner$Outlook" 15 "RowAligner$Outlook" "one" "I" ∈ rw_ok := rt_1 (List.mem_of_getElem? (i := 127) rfl) rfl
theorem fl_Se_99 : Cond.fieldLink "RowAligner$Search" 99 "RowAligner$Outlook" "one" "I" ∈ rw_ok := rt_1 (List.mem_of_getElem? (i := 128) rfl) rfl
theorem fl_Ou_21 : Cond.fieldLink "RowAligner$Outlook" 21 "RowAligner$Outlook" "other" "I" ∈ rw_ok := rt_1 (List.mem_of_getElem? (i := 129) rfl) rfl
theorem fl_Se_108 : Cond.fieldLink "RowAligner$Search" 108 "RowAligner$Outlook" "other" "I" ∈ rw_ok := rt_1 (List.mem_of_getElem? (i := 130) rfl) rfl
theorem fl_Ou_18 : Cond.fieldLink "RowAligner$Outlook" 18 "RowAligner$Outlook" "openOne" "I" ∈ rw_ok := rt_1 (List.mem_of_getElem? (i := 131) rfl) rfl
theorem fl_Se_93 : Cond.fieldLink "RowAligner$Search" 93 "RowAligner$Outlook" "openOne" "I" ∈ rw_ok := rt_1 (List.mem_of_getElem? (i := 132) rfl) rfl
theorem fl_Ou_24 : Cond.fieldLink "RowAligner$Outlook" 24 "RowAligner$Outlook" "openOther" "I" ∈ rw_ok := rt_1 (List.mem_of_getElem? (i := 133) rfl) rfl
theorem fl_Se_105 : Cond.fieldLink "RowAligner$Search" 105 "RowAligner$Outlook" "openOther" "I" ∈ rw_ok := rt_1 (List.mem_of_getElem? (i := 134) rfl) rfl
theorem ly_Ou_end : Cond.lays "RowAligner$Outlook" "RowAligner$Outlook" "end" "I" ∈ rw_ok := rt_1 (List.mem_of_getElem? (i := 135) rfl) rfl
theorem ly_Ou_pair : Cond.lays "RowAligner$Outlook" "RowAligner$Outlook" "pair" "I" ∈ rw_ok := rt_1 (List.mem_of_getElem? (i := 137) rfl) rfl
theorem ly_Ou_one : Cond.lays "RowAligner$Outlook" "RowAligner$Outlook" "one" "I" ∈ rw_ok := rt_1 (List.mem_of_getElem? (i := 139) rfl) rfl
theorem ly_Ou_other : Cond.lays "RowAligner$Outlook" "RowAligner$Outlook" "other" "I" ∈ rw_ok := rt_1 (List.mem_of_getElem? (i := 141) rfl) rfl
theorem ly_Ou_openOne : Cond.lays "RowAligner$Outlook" "RowAligner$Outlook" "openOne" "I" ∈ rw_ok := rt_1 (List.mem_of_getElem? (i := 143) rfl) rfl
theorem ly_Ou_openOther : Cond.lays "RowAligner$Outlook" "RowAligner$Outlook" "openOther" "I" ∈ rw_ok := rt_1 (List.mem_of_getElem? (i := 145) rfl) rfl
theorem fl_Se_22 : Cond.fieldLink "RowAligner$Search" 22 "RowAligner$Search" "ground" "LRowAligner$Ground;" ∈ rw_ok := rt_1 (List.mem_of_getElem? (i := 148) rfl) rfl
theorem fl_Wc_15 : Cond.fieldLink "RowAligner$WayCounter" 15 "RowAligner$Search" "ground" "LRowAligner$Ground;" ∈ rw_ok := rt_1 (List.mem_of_getElem? (i := 149) rfl) rfl
theorem fl_Cf_27 : Cond.fieldLink "RowAligner$CrossingFinder" 27 "RowAligner$Search" "ground" "LRowAligner$Ground;" ∈ rw_ok := rt_1 (List.mem_of_getElem? (i := 150) rfl) rfl
theorem fl_Se_12 : Cond.fieldLink "RowAligner$Search" 12 "RowAligner$Search" "outlook" "LRowAligner$Outlook;" ∈ rw_ok := rt_1 (List.mem_of_getElem? (i := 151) rfl) rfl
theorem fl_La_39 : Cond.fieldLink "RowAligner$Laying" 39 "RowAligner$Search" "outlook" "LRowAligner$Outlook;" ∈ rw_ok := rt_1 (List.mem_of_getElem? (i := 152) rfl) rfl
theorem fl_Wc_44 : Cond.fieldLink "RowAligner$WayCounter" 44 "RowAligner$Search" "outlook" "LRowAligner$Outlook;" ∈ rw_ok := rt_1 (List.mem_of_getElem? (i := 153) rfl) rfl
theorem fl_Cf_60 : Cond.fieldLink "RowAligner$CrossingFinder" 60 "RowAligner$Search" "outlook" "LRowAligner$Outlook;" ∈ rw_ok := rt_1 (List.mem_of_getElem? (i := 154) rfl) rfl
theorem fl_Se_18 : Cond.fieldLink "RowAligner$Search" 18 "RowAligner$Search" "rest" "[I" ∈ rw_ok := rt_1 (List.mem_of_getElem? (i := 155) rfl) rfl
theorem fl_Se_26 : Cond.fieldLink "RowAligner$Search" 26 "RowAligner$Search" "free" "I" ∈ rw_ok := rt_1 (List.mem_of_getElem? (i := 156) rfl) rfl
theorem fl_Se_30 : Cond.fieldLink "RowAligner$Search" 30 "RowAligner$Search" "ofParts" "Z" ∈ rw_ok := rt_1 (List.mem_of_getElem? (i := 157) rfl) rfl
theorem fl_Ra_188 : Cond.fieldLink "RowAligner" 188 "RowAligner$Search" "ofParts" "Z" ∈ rw_ok := rt_1 (List.mem_of_getElem? (i := 158) rfl) rfl
theorem fl_Se_120 : Cond.fieldLink "RowAligner$Search" 120 "RowAligner$Search" "best" "I" ∈ rw_ok := rt_1 (List.mem_of_getElem? (i := 159) rfl) rfl
theorem fl_Ra_215 : Cond.fieldLink "RowAligner" 215 "RowAligner$Search" "best" "I" ∈ rw_ok := rt_1 (List.mem_of_getElem? (i := 160) rfl) rfl
theorem fl_La_15 : Cond.fieldLink "RowAligner$Laying" 15 "RowAligner$Search" "startInA" "I" ∈ rw_ok := rt_1 (List.mem_of_getElem? (i := 161) rfl) rfl
theorem fl_Se_111 : Cond.fieldLink "RowAligner$Search" 111 "RowAligner$Search" "startInA" "I" ∈ rw_ok := rt_1 (List.mem_of_getElem? (i := 162) rfl) rfl
theorem fl_La_22 : Cond.fieldLink "RowAligner$Laying" 22 "RowAligner$Search" "startInB" "I" ∈ rw_ok := rt_1 (List.mem_of_getElem? (i := 163) rfl) rfl
theorem fl_Se_114 : Cond.fieldLink "RowAligner$Search" 114 "RowAligner$Search" "startInB" "I" ∈ rw_ok := rt_1 (List.mem_of_getElem? (i := 164) rfl) rfl
theorem ly_Se_ground : Cond.laysFinal "RowAligner$Search" "RowAligner$Search" "ground" "LRowAligner$Ground;" ∈ rw_ok := rt_1 (List.mem_of_getElem? (i := 165) rfl) rfl
theorem ly_Se_outlook : Cond.laysFinal "RowAligner$Search" "RowAligner$Search" "outlook" "LRowAligner$Outlook;" ∈ rw_ok := rt_1 (List.mem_of_getElem? (i := 167) rfl) rfl
theorem ly_Se_rest : Cond.laysFinal "RowAligner$Search" "RowAligner$Search" "rest" "[I" ∈ rw_ok := rt_1 (List.mem_of_getElem? (i := 169) rfl) rfl
theorem ly_Se_free : Cond.lays "RowAligner$Search" "RowAligner$Search" "free" "I" ∈ rw_ok := rt_1 (List.mem_of_getElem? (i := 171) rfl) rfl
theorem ly_Se_ofParts : Cond.lays "RowAligner$Search" "RowAligner$Search" "ofParts" "Z" ∈ rw_ok := rt_1 (List.mem_of_getElem? (i := 173) rfl) rfl
theorem ly_Se_best : Cond.lays "RowAligner$Search" "RowAligner$Search" "best" "I" ∈ rw_ok := rt_1 (List.mem_of_getElem? (i := 175) rfl) rfl
theorem ly_Se_startInA : Cond.lays "RowAligner$Search" "RowAligner$Search" "startInA" "I" ∈ rw_ok := rt_1 (List.mem_of_getElem? (i := 177) rfl) rfl
theorem ly_Se_startInB : Cond.lays "RowAligner$Search" "RowAligner$Search" "startInB" "I" ∈ rw_ok := rt_1 (List.mem_of_getElem? (i := 179) rfl) rfl
theorem cl_Ra_25 : Cond.classLink "RowAligner" 25 "RowAligner$Laying" ∈ rw_ok := rt_1 (List.mem_of_getElem? (i := 182) rfl) rfl
theorem it_La : Cond.instantiable "RowAligner$Laying" 6 ∈ rw_ok := rt_1 (List.mem_of_getElem? (i := 183) rfl) rfl
theorem mn_Ra_27 : Cond.methodLinkNest "RowAligner" 27 y_La_init "RowAligner" ∈ rw_nest := rn_1 (List.mem_of_getElem? (i := 184) (by decide +kernel)) rfl
theorem im_La_init : Cond.instanceMethod y_La_init ∈ rw_ok := rt_1 (List.mem_of_getElem? (i := 185) rfl) rfl
theorem co_La_init : Cond.code y_La_init prog_5_method_1_code 1 none ∈ rw_ok := rt_1 (List.mem_of_getElem? (i := 186) rfl) rfl
theorem ml_La_3 : Cond.methodLink "RowAligner$Laying" 3 (⟨"java/lang/Object", "<init>", "()V"⟩ : MethodName) ∈ rw_ok := rt_1 (List.mem_of_getElem? (i := 187) rfl) rfl
theorem fl_La_9 : Cond.fieldLink "RowAligner$Laying" 9 "RowAligner$Laying" "steps" "[I" ∈ rw_ok := rt_1 (List.mem_of_getElem? (i := 188) rfl) rfl
theorem fl_Ra_135 : Cond.fieldLink "RowAligner" 135 "RowAligner$Laying" "steps" "[I" ∈ rw_ok := rt_1 (List.mem_of_getElem? (i := 189) rfl) rfl
theorem fl_La_32 : Cond.fieldLink "RowAligner$Laying" 32 "RowAligner$Laying" "length" "I" ∈ rw_ok := rt_1 (List.mem_of_getElem? (i := 190) rfl) rfl
theorem fl_Ra_134 : Cond.fieldLink "RowAligner" 134 "RowAligner$Laying" "length" "I" ∈ rw_ok := rt_1 (List.mem_of_getElem? (i := 191) rfl) rfl
theorem fl_La_21 : Cond.fieldLink "RowAligner$Laying" 21 "RowAligner$Laying" "startInA" "I" ∈ rw_ok := rt_1 (List.mem_of_getElem? (i := 192) rfl) rfl
theorem fl_Ra_144 : Cond.fieldLink "RowAligner" 144 "RowAligner$Laying" "startInA" "I" ∈ rw_ok := rt_1 (List.mem_of_getElem? (i := 193) rfl) rfl
theorem fl_La_25 : Cond.fieldLink "RowAligner$Laying" 25 "RowAligner$Laying" "startInB" "I" ∈ rw_ok := rt_1 (List.mem_of_getElem? (i := 194) rfl) rfl
theorem fl_Ra_150 : Cond.fieldLink "RowAligner" 150 "RowAligner$Laying" "startInB" "I" ∈ rw_ok := rt_1 (List.mem_of_getElem? (i := 195) rfl) rfl
theorem fl_La_26 : Cond.fieldLink "RowAligner$Laying" 26 "RowAligner$Laying" "endInA" "I" ∈ rw_ok := rt_1 (List.mem_of_getElem? (i := 196) rfl) rfl
theorem fl_Ra_141 : Cond.fieldLink "RowAligner" 141 "RowAligner$Laying" "endInA" "I" ∈ rw_ok := rt_1 (List.mem_of_getElem? (i := 197) rfl) rfl
theorem fl_La_29 : Cond.fieldLink "RowAligner$Laying" 29 "RowAligner$Laying" "endInB" "I" ∈ rw_ok := rt_1 (List.mem_of_getElem? (i := 198) rfl) rfl
theorem fl_Ra_147 : Cond.fieldLink "RowAligner" 147 "RowAligner$Laying" "endInB" "I" ∈ rw_ok := rt_1 (List.mem_of_getElem? (i := 199) rfl) rfl
theorem ly_La_steps : Cond.laysFinal "RowAligner$Laying" "RowAligner$Laying" "steps" "[I" ∈ rw_ok := rt_1 (List.mem_of_getElem? (i := 200) rfl) rfl
theorem ly_La_length : Cond.lays "RowAligner$Laying" "RowAligner$Laying" "length" "I" ∈ rw_ok := rt_1 (List.mem_of_getElem? (i := 202) rfl) rfl
theorem ly_La_startInA : Cond.lays "RowAligner$Laying" "RowAligner$Laying" "startInA" "I" ∈ rw_ok := rt_1 (List.mem_of_getElem? (i := 204) rfl) rfl
theorem ly_La_startInB : Cond.lays "RowAligner$Laying" "RowAligner$Laying" "startInB" "I" ∈ rw_ok := rt_1 (List.mem_of_getElem? (i := 206) rfl) rfl
theorem ly_La_endInA : Cond.lays "RowAligner$Laying" "RowAligner$Laying" "endInA" "I" ∈ rw_ok := rt_1 (List.mem_of_getElem? (i := 208) rfl) rfl
theorem ly_La_endInB : Cond.lays "RowAligner$Laying" "RowAligner$Laying" "endInB" "I" ∈ rw_ok := rt_1 (List.mem_of_getElem? (i := 210) rfl) rfl
theorem cl_Ra_32 : Cond.classLink "RowAligner" 32 "RowAligner$WayCounter" ∈ rw_ok := rt_1 (List.mem_of_getElem? (i := 213) rfl) rfl
theorem it_Wc : Cond.instantiable "RowAligner$WayCounter" 1 ∈ rw_ok := rt_1 (List.mem_of_getElem? (i := 214) rfl) rfl
theorem mn_Ra_34 : Cond.methodLinkNest "RowAligner" 34 y_Wc_init "RowAligner" ∈ rw_nest := rn_1 (List.mem_of_getElem? (i := 215) (by decide +kernel)) rfl
theorem im_Wc_init : Cond.instanceMethod y_Wc_init ∈ rw_ok := rt_1 (List.mem_of_getElem? (i := 216) rfl) rfl
theorem co_Wc_init : Cond.code y_Wc_init prog_10_method_1_code 1 none ∈ rw_ok := rt_1 (List.mem_of_getElem? (i := 217) rfl) rfl
theorem ml_Wc_3 : Cond.methodLink "RowAligner$WayCounter" 3 (⟨"java/lang/Object", "<init>", "()V"⟩ : MethodName) ∈ rw_ok := rt_1 (List.mem_of_getElem? (i := 218) rfl) rfl
theorem fl_Wc_9 : Cond.fieldLink "RowAligner$WayCounter" 9 "RowAligner$WayCounter" "counts" "[J" ∈ rw_ok := rt_1 (List.mem_of_getElem? (i := 219) rfl) rfl
theorem ly_Wc_counts : Cond.laysFinal "RowAligner$WayCounter" "RowAligner$WayCounter" "counts" "[J" ∈ rw_ok := rt_1 (List.mem_of_getElem? (i := 220) rfl) rfl
theorem ac_long : Cond.arrayClass Jvm.ClassFile.FieldType.long ∈ rw_ok := rt_1 (List.mem_of_getElem? (i := 223) rfl) rfl
theorem cl_Ra_39 : Cond.classLink "RowAligner" 39 "RowAligner$CrossingFinder" ∈ rw_ok := rt_1 (List.mem_of_getElem? (i := 224) rfl) rfl
theorem it_Cf : Cond.instantiable "RowAligner$CrossingFinder" 2 ∈ rw_ok := rt_1 (List.mem_of_getElem? (i := 225) rfl) rfl
theorem mn_Ra_41 : Cond.methodLinkNest "RowAligner" 41 y_Cf_init "RowAligner" ∈ rw_nest := rn_1 (List.mem_of_getElem? (i := 226) (by decide +kernel)) rfl
theorem im_Cf_init : Cond.instanceMethod y_Cf_init ∈ rw_ok := rt_1 (List.mem_of_getElem? (i := 227) rfl) rfl
theorem co_Cf_init : Cond.code y_Cf_init prog_2_method_1_code 1 none ∈ rw_ok := rt_1 (List.mem_of_getElem? (i := 228) rfl) rfl
theorem ml_Cf_3 : Cond.methodLink "RowAligner$CrossingFinder" 3 (⟨"java/lang/Object", "<init>", "()V"⟩ : MethodName) ∈ rw_ok := rt_1 (List.mem_of_getElem? (i := 229) rfl) rfl
theorem fl_Cf_9 : Cond.fieldLink "RowAligner$CrossingFinder" 9 "RowAligner$CrossingFinder" "least" "[I" ∈ rw_ok := rt_1 (List.mem_of_getElem? (i := 230) rfl) rfl
theorem fl_Ra_198 : Cond.fieldLink "RowAligner" 198 "RowAligner$CrossingFinder" "least" "[I" ∈ rw_ok := rt_1 (List.mem_of_getElem? (i := 231) rfl) rfl
theorem fl_Cf_15 : Cond.fieldLink "RowAligner$CrossingFinder" 15 "RowAligner$CrossingFinder" "reached" "[Z" ∈ rw_ok := rt_1 (List.mem_of_getElem? (i := 232) rfl) rfl
theorem ly_Cf_least : Cond.laysFinal "RowAligner$CrossingFinder" "RowAligner$CrossingFinder" "least" "[I" ∈ rw_ok := rt_1 (List.mem_of_getElem? (i := 233) rfl) rfl
theorem ly_Cf_reached : Cond.laysFinal "RowAligner$CrossingFinder" "RowAligner$CrossingFinder" "reached" "[Z" ∈ rw_ok := rt_1 (List.mem_of_getElem? (i := 235) rfl) rfl
theorem ac_boolean : Cond.arrayClass Jvm.ClassFile.FieldType.boolean ∈ rw_ok := rt_1 (List.mem_of_getElem? (i := 238) rfl) rfl
theorem cl_Ra_46 : Cond.classLink "RowAligner" 46 "RowAligner$Draft" ∈ rw_ok := rt_1 (List.mem_of_getElem? (i := 239) rfl) rfl
theorem it_Dr : Cond.instantiable "RowAligner$Draft" 2 ∈ rw_ok := rt_2 (List.mem_of_getElem? (i := 0) rfl) rfl
theorem mn_Ra_48 : Cond.methodLinkNest "RowAligner" 48 y_Dr_init "RowAligner" ∈ rw_nest := rn_2 (List.mem_of_getElem? (i := 1) (by decide +kernel)) rfl
theorem im_Dr_init : Cond.instanceMethod y_Dr_init ∈ rw_ok := rt_2 (List.mem_of_getElem? (i := 2) rfl) rfl
theorem co_Dr_init : Cond.code y_Dr_init prog_3_method_1_code 1 none ∈ rw_ok := rt_2 (List.mem_of_getElem? (i := 3) rfl) rfl
theorem ml_Dr_3 : Cond.methodLink "RowAligner$Draft" 3 (⟨"java/lang/Object", "<init>", "()V"⟩ : MethodName) ∈ rw_ok := rt_2 (List.mem_of_getElem? (i := 4) rfl) rfl
theorem fl_Dr_9 : Cond.fieldLink "RowAligner$Draft" 9 "RowAligner$Draft" "drawn" "[I" ∈ rw_ok := rt_2 (List.mem_of_getElem? (i := 5) rfl) rfl
theorem fl_Dr_15 : Cond.fieldLink "RowAligner$Draft" 15 "RowAligner$Draft" "length" "I" ∈ rw_ok := rt_2 (List.mem_of_getElem? (i := 6) rfl) rfl
theorem fl_Ra_201 : Cond.fieldLink "RowAligner" 201 "RowAligner$Draft" "length" "I" ∈ rw_ok := rt_2 (List.mem_of_getElem? (i := 7) rfl) rfl
theorem ly_Dr_drawn : Cond.laysFinal "RowAligner$Draft" "RowAligner$Draft" "drawn" "[I" ∈ rw_ok := rt_2 (List.mem_of_getElem? (i := 8) rfl) rfl
theorem ly_Dr_length : Cond.lays "RowAligner$Draft" "RowAligner$Draft" "length" "I" ∈ rw_ok := rt_2 (List.mem_of_getElem? (i := 10) rfl) rfl
theorem fl_Ra_12 : Cond.fieldLink "RowAligner" 12 "RowAligner" "ground" "LRowAligner$Ground;" ∈ rw_ok := rt_2 (List.mem_of_getElem? (i := 13) rfl) rfl
theorem fl_Ra_21 : Cond.fieldLink "RowAligner" 21 "RowAligner" "search" "LRowAligner$Search;" ∈ rw_ok := rt_2 (List.mem_of_getElem? (i := 14) rfl) rfl
theorem fl_Ra_28 : Cond.fieldLink "RowAligner" 28 "RowAligner" "laying" "LRowAligner$Laying;" ∈ rw_ok := rt_2 (List.mem_of_getElem? (i := 15) rfl) rfl
theorem fl_Ra_35 : Cond.fieldLink "RowAligner" 35 "RowAligner" "wayCounter" "LRowAligner$WayCounter;" ∈ rw_ok := rt_2 (List.mem_of_getElem? (i := 16) rfl) rfl
theorem fl_Ra_42 : Cond.fieldLink "RowAligner" 42 "RowAligner" "crossingFinder" "LRowAligner$CrossingFinder;" ∈ rw_ok := rt_2 (List.mem_of_getElem? (i := 17) rfl) rfl
theorem fl_Ra_49 : Cond.fieldLink "RowAligner" 49 "RowAligner" "draft" "LRowAligner$Draft;" ∈ rw_ok := rt_2 (List.mem_of_getElem? (i := 18) rfl) rfl
theorem fl_Ra_81 : Cond.fieldLink "RowAligner" 81 "RowAligner" "laid" "Z" ∈ rw_ok := rt_2 (List.mem_of_getElem? (i := 19) rfl) rfl
theorem fl_Ra_173 : Cond.fieldLink "RowAligner" 173 "RowAligner" "waysAreCounted" "Z" ∈ rw_ok := rt_2 (List.mem_of_getElem? (i := 20) rfl) rfl
theorem fl_Ra_191 : Cond.fieldLink "RowAligner" 191 "RowAligner" "crossingsAreFound" "Z" ∈ rw_ok := rt_2 (List.mem_of_getElem? (i := 21) rfl) rfl
theorem fl_Ra_180 : Cond.fieldLink "RowAligner" 180 "RowAligner" "countedWays" "J" ∈ rw_ok := rt_2 (List.mem_of_getElem? (i := 22) rfl) rfl
theorem ly_Ra_ground : Cond.laysFinal "RowAligner" "RowAligner" "ground" "LRowAligner$Ground;" ∈ rw_ok := rt_2 (List.mem_of_getElem? (i := 23) rfl) rfl
theorem ly_Ra_search : Cond.laysFinal "RowAligner" "RowAligner" "search" "LRowAligner$Search;" ∈ rw_ok := rt_2 (List.mem_of_getElem? (i := 25) rfl) rfl
theorem ly_Ra_laying : Cond.laysFinal "RowAligner" "RowAligner" "laying" "LRowAligner$Laying;" ∈ rw_ok := rt_2 (List.mem_of_getElem? (i := 27) rfl) rfl
theorem ly_Ra_wayCounter : Cond.laysFinal "RowAligner" "RowAligner" "wayCounter" "LRowAligner$WayCounter;" ∈ rw_ok := rt_2 (List.mem_of_getElem? (i := 29) rfl) rfl
theorem ly_Ra_crossingFinder : Cond.laysFinal "RowAligner" "RowAligner" "crossingFinder" "LRowAligner$CrossingFinder;" ∈ rw_ok := rt_2 (List.mem_of_getElem? (i := 31) rfl) rfl
theorem ly_Ra_draft : Cond.laysFinal "RowAligner" "RowAligner" "draft" "LRowAligner$Draft;" ∈ rw_ok := rt_2 (List.mem_of_getElem? (i := 33) rfl) rfl
theorem ly_Ra_laid : Cond.lays "RowAligner" "RowAligner" "laid" "Z" ∈ rw_ok := rt_2 (List.mem_of_getElem? (i := 35) rfl) rfl
theorem ly_Ra_waysAreCounted : Cond.lays "RowAligner" "RowAligner" "waysAreCounted" "Z" ∈ rw_ok := rt_2 (List.mem_of_getElem? (i := 37) rfl) rfl
theorem ly_Ra_crossingsAreFound : Cond.lays "RowAligner" "RowAligner" "crossingsAreFound" "Z" ∈ rw_ok := rt_2 (List.mem_of_getElem? (i := 39) rfl) rfl
theorem ly_Ra_countedWays : Cond.lays "RowAligner" "RowAligner" "countedWays" "J" ∈ rw_ok := rt_2 (List.mem_of_getElem? (i := 41) rfl) rfl
theorem ml_Lw_122 : Cond.methodLink "RowAlignerLaw" 122 y_Ra_parts ∈ rw_ok := rt_2 (List.mem_of_getElem? (i := 44) rfl) rfl
theorem im_Ra_parts : Cond.instanceMethod y_Ra_parts ∈ rw_ok := rt_2 (List.mem_of_getElem? (i := 45) rfl) rfl
theorem se_Ra_parts : Cond.selects "RowAligner" y_Ra_parts y_Ra_parts ∈ rw_ok := rt_2 (List.mem_of_getElem? (i := 46) rfl) rfl
theorem co_Ra_parts : Cond.code y_Ra_parts prog_1_method_11_code 1 (some .int) ∈ rw_ok := rt_2 (List.mem_of_getElem? (i := 47) rfl) rfl
theorem ml_Ra_128 : Cond.methodLink "RowAligner" 128 y_Se_searchParts ∈ rw_ok := rt_2 (List.mem_of_getElem? (i := 48) rfl) rfl
theorem im_Se_searchParts : Cond.instanceMethod y_Se_searchParts ∈ rw_ok := rt_2 (List.mem_of_getElem? (i := 49) rfl) rfl
theorem se_Se_searchParts : Cond.selects "RowAligner$Search" y_Se_searchParts y_Se_searchParts ∈ rw_ok := rt_2 (List.mem_of_getElem? (i := 50) rfl) rfl
theorem co_Se_searchParts : Cond.code y_Se_searchParts prog_9_method_3_code 1 none ∈ rw_ok := rt_2 (List.mem_of_getElem? (i := 51) rfl) rfl
theorem ml_Se_34 : Cond.methodLink "RowAligner$Search" 34 y_Se_fill ∈ rw_ok := rt_2 (List.mem_of_getElem? (i := 52) rfl) rfl
theorem im_Se_fill : Cond.instanceMethod y_Se_fill ∈ rw_ok := rt_2 (List.mem_of_getElem? (i := 54) rfl) rfl
theorem co_Se_fill : Cond.code y_Se_fill prog_9_method_4_code 3 none ∈ rw_ok := rt_2 (List.mem_of_getElem? (i := 55) rfl) rfl
theorem ml_Se_58 : Cond.methodLink "RowAligner$Search" 58 y_Se_lookFrom ∈ rw_ok := rt_2 (List.mem_of_getElem? (i := 56) rfl) rfl
theorem im_Se_lookFrom : Cond.instanceMethod y_Se_lookFrom ∈ rw_ok := rt_2 (List.mem_of_getElem? (i := 57) rfl) rfl
theorem se_Se_lookFrom : Cond.selects "RowAligner$Search" y_Se_lookFrom y_Se_lookFrom ∈ rw_ok := rt_2 (List.mem_of_getElem? (i := 58) rfl) rfl
theorem co_Se_lookFrom : Cond.code y_Se_lookFrom prog_9_method_5_code 7 none ∈ rw_ok := rt_2 (List.mem_of_getElem? (i := 59) rfl) rfl
theorem ct_Se_69 : Cond.constant "RowAligner$Search" 69 (-100000000 : Int32) ∈ rw_ok := rt_2 (List.mem_of_getElem? (i := 60) rfl) rfl
theorem ml_Se_73 : Cond.methodLink "RowAligner$Search" 73 y_Gr_pairScore ∈ rw_ok := rt_2 (List.mem_of_getElem? (i := 61) rfl) rfl
theorem im_Gr_pairScore : Cond.instanceMethod y_Gr_pairScore ∈ rw_ok := rt_2 (List.mem_of_getElem? (i := 62) rfl) rfl
theorem se_Gr_pairScore : Cond.selects "RowAligner$Ground" y_Gr_pairScore y_Gr_pairScore ∈ rw_ok := rt_2 (List.mem_of_getElem? (i := 63) rfl) rfl
theorem co_Gr_pairScore : Cond.code y_Gr_pairScore prog_4_method_2_code 3 (some .int) ∈ rw_ok := rt_2 (List.mem_of_getElem? (i := 64) rfl) rfl
theorem ml_Gr_32 : Cond.methodLink "RowAligner$Ground" 32 y_Pr_ofPair ∈ rw_ok := rt_2 (List.mem_of_getElem? (i := 65) rfl) rfl
theorem im_Pr_ofPair : Cond.instanceMethod y_Pr_ofPair ∈ rw_ok := rt_2 (List.mem_of_getElem? (i := 66) rfl) rfl
theorem se_Pr_ofPair : Cond.selects "RowAligner$Prices" y_Pr_ofPair y_Pr_ofPair ∈ rw_ok := rt_2 (List.mem_of_getElem? (i := 67) rfl) rfl
theorem co_Pr_ofPair : Cond.code y_Pr_ofPair prog_7_method_4_code 3 (some .int) ∈ rw_ok := rt_2 (List.mem_of_getElem? (i := 68) rfl) rfl
theorem mn_Se_61 : Cond.methodLinkNest "RowAligner$Search" 61 y_Ra_cell "RowAligner" ∈ rw_nest := rn_2 (List.mem_of_getElem? (i := 69) (by decide +kernel)) rfl
theorem st_Ra_cell : Cond.static y_Ra_cell ∈ rw_ok := rt_2 (List.mem_of_getElem? (i := 70) rfl) rfl
theorem co_Ra_cell : Cond.code y_Ra_cell prog_1_method_32_code 3 (some .int) ∈ rw_ok := rt_2 (List.mem_of_getElem? (i := 71) rfl) rfl
theorem ml_Se_80 : Cond.methodLink "RowAligner$Search" 80 y_Gr_isOneFree ∈ rw_ok := rt_2 (List.mem_of_getElem? (i := 72) rfl) rfl
theorem im_Gr_isOneFree : Cond.instanceMethod y_Gr_isOneFree ∈ rw_ok := rt_2 (List.mem_of_getElem? (i := 73) rfl) rfl
theorem se_Gr_isOneFree : Cond.selects "RowAligner$Ground" y_Gr_isOneFree y_Gr_isOneFree ∈ rw_ok := rt_2 (List.mem_of_getElem? (i := 74) rfl) rfl
theorem co_Gr_isOneFree : Cond.code y_Gr_isOneFree prog_4_method_3_code 3 (some .boolean) ∈ rw_ok := rt_2 (List.mem_of_getElem? (i := 75) rfl) rfl
theorem ml_Se_102 : Cond.methodLink "RowAligner$Search" 102 y_Gr_isOtherFree ∈ rw_ok := rt_2 (List.mem_of_getElem? (i := 76) rfl) rfl
theorem im_Gr_isOtherFree : Cond.instanceMethod y_Gr_isOtherFree ∈ rw_ok := rt_2 (List.mem_of_getElem? (i := 77) rfl) rfl
theorem se_Gr_isOtherFree : Cond.selects "RowAligner$Ground" y_Gr_isOtherFree y_Gr_isOtherFree ∈ rw_ok := rt_2 (List.mem_of_getElem? (i := 78) rfl) rfl
theorem co_Gr_isOtherFree : Cond.code y_Gr_isOtherFree prog_4_method_4_code 3 (some .boolean) ∈ rw_ok := rt_2 (List.mem_of_getElem? (i := 79) rfl) rfl
theorem ml_Se_65 : Cond.methodLink "RowAligner$Search" 65 y_Ou_greatestWorth ∈ rw_ok := rt_2 (List.mem_of_getElem? (i := 80) rfl) rfl
theorem im_Ou_greatestWorth : Cond.instanceMethod y_Ou_greatestWorth ∈ rw_ok := rt_2 (List.mem_of_getElem? (i := 81) rfl) rfl
theorem se_Ou_greatestWorth : Cond.selects "RowAligner$Outlook" y_Ou_greatestWorth y_Ou_greatestWorth ∈ rw_ok := rt_2 (List.mem_of_getElem? (i := 82) rfl) rfl
theorem co_Ou_greatestWorth : Cond.code y_Ou_greatestWorth prog_6_method_3_code 5 (some .int) ∈ rw_ok := rt_2 (List.mem_of_getElem? (i := 83) rfl) rfl
theorem ml_Se_41 : Cond.methodLink "RowAligner$Search" 41 y_Se_startAtFirstBest ∈ rw_ok := rt_2 (List.mem_of_getElem? (i := 84) rfl) rfl
theorem im_Se_startAtFirstBest : Cond.instanceMethod y_Se_startAtFirstBest ∈ rw_ok := rt_2 (List.mem_of_getElem? (i := 86) rfl) rfl
theorem co_Se_startAtFirstBest : Cond.code y_Se_startAtFirstBest prog_9_method_8_code 3 none ∈ rw_ok := rt_2 (List.mem_of_getElem? (i := 87) rfl) rfl
theorem ml_Se_37 : Cond.methodLink "RowAligner$Search" 37 y_Se_startAt ∈ rw_ok := rt_2 (List.mem_of_getElem? (i := 88) rfl) rfl
theorem im_Se_startAt : Cond.instanceMethod y_Se_startAt ∈ rw_ok := rt_2 (List.mem_of_getElem? (i := 90) rfl) rfl
theorem co_Se_startAt : Cond.code y_Se_startAt prog_9_method_7_code 3 none ∈ rw_ok := rt_2 (List.mem_of_getElem? (i := 91) rfl) rfl
theorem ml_Se_117 : Cond.methodLink "RowAligner$Search" 117 y_Se_worthFrom ∈ rw_ok := rt_2 (List.mem_of_getElem? (i := 92) rfl) rfl
theorem im_Se_worthFrom : Cond.instanceMethod y_Se_worthFrom ∈ rw_ok := rt_2 (List.mem_of_getElem? (i := 94) rfl) rfl
theorem co_Se_worthFrom : Cond.code y_Se_worthFrom prog_9_method_6_code 3 (some .int) ∈ rw_ok := rt_2 (List.mem_of_getElem? (i := 95) rfl) rfl
theorem ml_Ra_124 : Cond.methodLink "RowAligner" 124 y_Ra_keepBest ∈ rw_ok := rt_2 (List.mem_of_getElem? (i := 96) rfl) rfl
theorem im_Ra_keepBest : Cond.instanceMethod y_Ra_keepBest ∈ rw_ok := rt_2 (List.mem_of_getElem? (i := 98) rfl) rfl
theorem co_Ra_keepBest : Cond.code y_Ra_keepBest prog_1_method_22_code 1 (some .int) ∈ rw_ok := rt_2 (List.mem_of_getElem? (i := 99) rfl) rfl
theorem ml_Ra_212 : Cond.methodLink "RowAligner" 212 y_La_follow ∈ rw_ok := rt_2 (List.mem_of_getElem? (i := 100) rfl) rfl
theorem im_La_follow : Cond.instanceMethod y_La_follow ∈ rw_ok := rt_2 (List.mem_of_getElem? (i := 101) rfl) rfl
theorem se_La_follow : Cond.selects "RowAligner$Laying" y_La_follow y_La_follow ∈ rw_ok := rt_2 (List.mem_of_getElem? (i := 102) rfl) rfl
theorem co_La_follow : Cond.code y_La_follow prog_5_method_2_code 4 none ∈ rw_ok := rt_2 (List.mem_of_getElem? (i := 103) rfl) rfl
theorem ml_La_35 : Cond.methodLink "RowAligner$Laying" 35 y_Se_lookFrom ∈ rw_ok := rt_2 (List.mem_of_getElem? (i := 104) rfl) rfl
theorem ml_La_43 : Cond.methodLink "RowAligner$Laying" 43 y_Ou_firstBestStep ∈ rw_ok := rt_2 (List.mem_of_getElem? (i := 105) rfl) rfl
theorem im_Ou_firstBestStep : Cond.instanceMethod y_Ou_firstBestStep ∈ rw_ok := rt_2 (List.mem_of_getElem? (i := 106) rfl) rfl
theorem se_Ou_firstBestStep : Cond.selects "RowAligner$Outlook" y_Ou_firstBestStep y_Ou_firstBestStep ∈ rw_ok := rt_2 (List.mem_of_getElem? (i := 107) rfl) rfl
theorem co_Ou_firstBestStep : Cond.code y_Ou_firstBestStep prog_6_method_4_code 4 (some .int) ∈ rw_ok := rt_2 (List.mem_of_getElem? (i := 108) rfl) rfl
theorem ml_Ou_30 : Cond.methodLink "RowAligner$Outlook" 30 y_Ou_greatestWorth ∈ rw_ok := rt_2 (List.mem_of_getElem? (i := 109) rfl) rfl
theorem ml_Ou_34 : Cond.methodLink "RowAligner$Outlook" 34 y_Ou_worthThrough ∈ rw_ok := rt_2 (List.mem_of_getElem? (i := 110) rfl) rfl
theorem im_Ou_worthThrough : Cond.instanceMethod y_Ou_worthThrough ∈ rw_ok := rt_2 (List.mem_of_getElem? (i := 111) rfl) rfl
theorem se_Ou_worthThrough : Cond.selects "RowAligner$Outlook" y_Ou_worthThrough y_Ou_worthThrough ∈ rw_ok := rt_2 (List.mem_of_getElem? (i := 112) rfl) rfl
theorem co_Ou_worthThrough : Cond.code y_Ou_worthThrough prog_6_method_2_code 3 (some .int) ∈ rw_ok := rt_2 (List.mem_of_getElem? (i := 113) rfl) rfl
theorem mn_La_49 : Cond.methodLinkNest "RowAligner$Laying" 49 y_Ra_lettersOfA "RowAligner" ∈ rw_nest := rn_2 (List.mem_of_getElem? (i := 114) (by decide +kernel)) rfl
theorem st_Ra_lettersOfA : Cond.static y_Ra_lettersOfA ∈ rw_ok := rt_2 (List.mem_of_getElem? (i := 115) rfl) rfl
theorem co_Ra_lettersOfA : Cond.code y_Ra_lettersOfA prog_1_method_30_code 1 (some .int) ∈ rw_ok := rt_2 (List.mem_of_getElem? (i := 116) rfl) rfl
theorem mn_La_52 : Cond.methodLinkNest "RowAligner$Laying" 52 y_Ra_lettersOfB "RowAligner" ∈ rw_nest := rn_2 (List.mem_of_getElem? (i := 117) (by decide +kernel)) rfl
theorem st_Ra_lettersOfB : Cond.static y_Ra_lettersOfB ∈ rw_ok := rt_2 (List.mem_of_getElem? (i := 118) rfl) rfl
theorem co_Ra_lettersOfB : Cond.code y_Ra_lettersOfB prog_1_method_31_code 1 (some .int) ∈ rw_ok := rt_2 (List.mem_of_getElem? (i := 119) rfl) rfl
theorem ml_Lw_152 : Cond.methodLink "RowAlignerLaw" 152 y_Ra_wipe ∈ rw_ok := rt_2 (List.mem_of_getElem? (i := 120) rfl) rfl
theorem im_Ra_wipe : Cond.instanceMethod y_Ra_wipe ∈ rw_ok := rt_2 (List.mem_of_getElem? (i := 121) rfl) rfl
theorem se_Ra_wipe : Cond.selects "RowAligner" y_Ra_wipe y_Ra_wipe ∈ rw_ok := rt_2 (List.mem_of_getElem? (i := 122) rfl) rfl
theorem co_Ra_wipe : Cond.code y_Ra_wipe prog_1_method_20_code 2 (some .int) ∈ rw_ok := rt_2 (List.mem_of_getElem? (i := 123) rfl) rfl
theorem ml_Lw_84 : Cond.methodLink "RowAlignerLaw" 84 y_Lw_type ∈ rw_ok := rt_2 (List.mem_of_getElem? (i := 124) rfl) rfl
theorem st_Lw_type : Cond.static y_Lw_type ∈ rw_ok := rt_2 (List.mem_of_getElem? (i := 125) rfl) rfl
theorem cw_Lw_type : Cond.codeWith y_Lw_type method_3_code 7 (some .int) [(0, 13, 16, 13), (0, 13, 20, 15), (0, 13, 24, 17)] ∈ rw_ok := rt_2 (List.mem_of_getElem? (i := 126) rfl) rfl
theorem cl_Lw_13 : Cond.classLink "RowAlignerLaw" 13 "java/lang/IndexOutOfBoundsException" ∈ rw_ok := rt_2 (List.mem_of_getElem? (i := 127) rfl) rfl
theorem cl_Lw_15 : Cond.classLink "RowAlignerLaw" 15 "java/lang/IllegalArgumentException" ∈ rw_ok := rt_2 (List.mem_of_getElem? (i := 128) rfl) rfl
theorem cl_Lw_17 : Cond.classLink "RowAlignerLaw" 17 "java/lang/IllegalStateException" ∈ rw_ok := rt_2 (List.mem_of_getElem? (i := 129) rfl) rfl
theorem ml_Lw_7 : Cond.methodLink "RowAlignerLaw" 7 y_Ra_type ∈ rw_ok := rt_2 (List.mem_of_getElem? (i := 130) rfl) rfl
theorem im_Ra_type : Cond.instanceMethod y_Ra_type ∈ rw_ok := rt_2 (List.mem_of_getElem? (i := 131) rfl) rfl
theorem se_Ra_type : Cond.selects "RowAligner" y_Ra_type y_Ra_type ∈ rw_ok := rt_2 (List.mem_of_getElem? (i := 132) rfl) rfl
theorem co_Ra_type : Cond.code y_Ra_type prog_1_method_2_code 7 (some .int) ∈ rw_ok := rt_2 (List.mem_of_getElem? (i := 133) rfl) rfl
theorem ml_Ra_53 : Cond.methodLink "RowAligner" 53 y_Ra_existingRow ∈ rw_ok := rt_2 (List.mem_of_getElem? (i := 134) rfl) rfl
theorem im_Ra_existingRow : Cond.instanceMethod y_Ra_existingRow ∈ rw_ok := rt_2 (List.mem_of_getElem? (i := 136) rfl) rfl
theorem co_Ra_existingRow : Cond.code y_Ra_existingRow prog_1_method_23_code 2 (Option.some (Jvm.ClassFile.FieldType.object "RowAligner$Row")) ∈ rw_ok := rt_2 (List.mem_of_getElem? (i := 137) rfl) rfl
theorem ml_Ra_138 : Cond.methodLink "RowAligner" 138 y_Ra_refuseOtherRows ∈ rw_ok := rt_2 (List.mem_of_getElem? (i := 138) rfl) rfl
theorem st_Ra_refuseOtherRows : Cond.static y_Ra_refuseOtherRows ∈ rw_ok := rt_2 (List.mem_of_getElem? (i := 139) rfl) rfl
theorem co_Ra_refuseOtherRows : Cond.code y_Ra_refuseOtherRows prog_1_method_24_code 1 none ∈ rw_ok := rt_2 (List.mem_of_getElem? (i := 140) rfl) rfl
theorem cl_Ra_88 : Cond.classLink "RowAligner" 88 "java/lang/IndexOutOfBoundsException" ∈ rw_ok := rt_2 (List.mem_of_getElem? (i := 141) rfl) rfl
theorem it_IndexOutOfBoundsException : Cond.instantiable "java/lang/IndexOutOfBoundsException" 6 ∈ rw_ok := rt_2 (List.mem_of_getElem? (i := 142) rfl) rfl
theorem se_Throwable_fillInStackTrace_IndexOutOfBoundsException_24 : Cond.selects "java/lang/IndexOutOfBoundsException" (⟨"java/lang/Throwable", "fillInStackTrace", "(I)Ljava/lang/Throwable;"⟩ : MethodName) (⟨"java/lang/Throwable", "fillInStackTrace", "(I)Ljava/lang/Throwable;"⟩ : MethodName) ∈ rw_ok := rt_2 (List.mem_of_getElem? (i := 150) rfl) rfl
theorem se_Throwable_fillInStackTrace_IndexOutOfBoundsException_23 : Cond.selects "java/lang/IndexOutOfBoundsException" (⟨"java/lang/Throwable", "fillInStackTrace", "()Ljava/lang/Throwable;"⟩ : MethodName) (⟨"java/lang/Throwable", "fillInStackTrace", "()Ljava/lang/Throwable;"⟩ : MethodName) ∈ rw_ok := rt_2 (List.mem_of_getElem? (i := 151) rfl) rfl
theorem ly_IndexOutOfBoundsException_cause : Cond.lays "java/lang/IndexOutOfBoundsException" "java/lang/Throwable" "cause" "Ljava/lang/Throwable;" ∈ rw_ok := rt_2 (List.mem_of_getElem? (i := 152) rfl) rfl
theorem ly_Throwable_cause : Cond.lays "java/lang/Throwable" "java/lang/Throwable" "cause" "Ljava/lang/Throwable;" ∈ rw_ok := rt_2 (List.mem_of_getElem? (i := 153) rfl) rfl
theorem ly_IndexOutOfBoundsException_stackTrace : Cond.lays "java/lang/IndexOutOfBoundsException" "java/lang/Throwable" "stackTrace" "[Ljava/lang/StackTraceElement;" ∈ rw_ok := rt_2 (List.mem_of_getElem? (i := 154) rfl) rfl
theorem ly_Throwable_stackTrace : Cond.lays "java/lang/Throwable" "java/lang/Throwable" "stackTrace" "[Ljava/lang/StackTraceElement;" ∈ rw_ok := rt_2 (List.mem_of_getElem? (i := 155) rfl) rfl
theorem ly_IndexOutOfBoundsException_suppressedExceptions : Cond.lays "java/lang/IndexOutOfBoundsException" "java/lang/Throwable" "suppressedExceptions" "Ljava/util/List;" ∈ rw_ok := rt_2 (List.mem_of_getElem? (i := 156) rfl) rfl
theorem ly_Throwable_suppressedExceptions : Cond.lays "java/lang/Throwable" "java/lang/Throwable" "suppressedExceptions" "Ljava/util/List;" ∈ rw_ok := rt_2 (List.mem_of_getElem? (i := 157) rfl) rfl
theorem ly_IndexOutOfBoundsException_detailMessage : Cond.lays "java/lang/IndexOutOfBoundsException" "java/lang/Throwable" "detailMessage" "Ljava/lang/String;" ∈ rw_ok := rt_2 (List.mem_of_getElem? (i := 158) rfl) rfl
theorem ly_Throwable_detailMessage : Cond.lays "java/lang/Throwable" "java/lang/Throwable" "detailMessage" "Ljava/lang/String;" ∈ rw_ok := rt_2 (List.mem_of_getElem? (i := 159) rfl) rfl
theorem ly_IndexOutOfBoundsException_backtrace : Cond.lays "java/lang/IndexOutOfBoundsException" "java/lang/Throwable" "backtrace" "Ljava/lang/Object;" ∈ rw_ok := rt_2 (List.mem_of_getElem? (i := 160) rfl) rfl
theorem ly_Throwable_backtrace : Cond.lays "java/lang/Throwable" "java/lang/Throwable" "backtrace" "Ljava/lang/Object;" ∈ rw_ok := rt_2 (List.mem_of_getElem? (i := 161) rfl) rfl
theorem fl_Throwable_198 : Cond.fieldLink "java/lang/Throwable" 198 "java/lang/Throwable" "backtrace" "Ljava/lang/Object;" ∈ rw_ok := rt_2 (List.mem_of_getElem? (i := 162) rfl) rfl
theorem im_Throwable_init : Cond.instanceMethod (⟨"java/lang/Throwable", "<init>", "()V"⟩ : MethodName) ∈ rw_ok := rt_2 (List.mem_of_getElem? (i := 164) rfl) rfl
theorem co_Throwable_init : Cond.code (⟨"java/lang/Throwable", "<init>", "()V"⟩ : MethodName) prog_18_method_1_code 1 none ∈ rw_ok := rt_2 (List.mem_of_getElem? (i := 165) rfl) rfl
theorem ml_Throwable_1 : Cond.methodLink "java/lang/Throwable" 1 (⟨"java/lang/Object", "<init>", "()V"⟩ : MethodName) ∈ rw_ok := rt_2 (List.mem_of_getElem? (i := 166) rfl) rfl
theorem fl_Throwable_13 : Cond.fieldLink "java/lang/Throwable" 13 "java/lang/Throwable" "UNASSIGNED_STACK" "[Ljava/lang/StackTraceElement;" ∈ rw_ok := rt_2 (List.mem_of_getElem? (i := 167) rfl) rfl
theorem fl_Throwable_20 : Cond.fieldLink "java/lang/Throwable" 20 "java/lang/Throwable" "SUPPRESSED_SENTINEL" "Ljava/util/List;" ∈ rw_ok := rt_2 (List.mem_of_getElem? (i := 169) rfl) rfl
theorem ml_Throwable_27 : Cond.methodLink "java/lang/Throwable" 27 (⟨"java/lang/Throwable", "fillInStackTrace", "()Ljava/lang/Throwable;"⟩ : MethodName) ∈ rw_ok := rt_2 (List.mem_of_getElem? (i := 171) rfl) rfl
theorem im_Throwable_fillInStackTrace_23 : Cond.instanceMethod (⟨"java/lang/Throwable", "fillInStackTrace", "()Ljava/lang/Throwable;"⟩ : MethodName) ∈ rw_ok := rt_2 (List.mem_of_getElem? (i := 172) rfl) rfl
theorem se_Throwable_fillInStackTrace_IllegalArgumentException_23 : Cond.selects "java/lang/IllegalArgumentException" (⟨"java/lang/Throwable", "fillInStackTrace", "()Ljava/lang/Throwable;"⟩ : MethodName) (⟨"java/lang/Throwable", "fillInStackTrace", "()Ljava/lang/Throwable;"⟩ : MethodName) ∈ rw_ok := rt_2 (List.mem_of_getElem? (i := 174) rfl) rfl
theorem se_Throwable_fillInStackTrace_IllegalStateException_23 : Cond.selects "java/lang/IllegalStateException" (⟨"java/lang/Throwable", "fillInStackTrace", "()Ljava/lang/Throwable;"⟩ : MethodName) (⟨"java/lang/Throwable", "fillInStackTrace", "()Ljava/lang/Throwable;"⟩ : MethodName) ∈ rw_ok := rt_2 (List.mem_of_getElem? (i := 175) rfl) rfl
theorem ml_Throwable_202 : Cond.methodLink "java/lang/Throwable" 202 (⟨"java/lang/Throwable", "fillInStackTrace", "(I)Ljava/lang/Throwable;"⟩ : MethodName) ∈ rw_ok := rt_2 (List.mem_of_getElem? (i := 177) rfl) rfl
theorem im_Throwable_fillInStackTrace_24 : Cond.instanceMethod (⟨"java/lang/Throwable", "fillInStackTrace", "(I)Ljava/lang/Throwable;"⟩ : MethodName) ∈ rw_ok := rt_2 (List.mem_of_getElem? (i := 179) rfl) rfl
theorem it_Throwable : Cond.instantiable "java/lang/Throwable" 6 ∈ rw_ok := rt_2 (List.mem_of_getElem? (i := 180) rfl) rfl
theorem ml_Ra_90 : Cond.methodLink "RowAligner" 90 (⟨"java/lang/IndexOutOfBoundsException", "<init>", "()V"⟩ : MethodName) ∈ rw_ok := rt_2 (List.mem_of_getElem? (i := 182) rfl) rfl
theorem im_IndexOutOfBoundsException_init : Cond.instanceMethod (⟨"java/lang/IndexOutOfBoundsException", "<init>", "()V"⟩ : MethodName) ∈ rw_ok := rt_2 (List.mem_of_getElem? (i := 183) rfl) rfl
theorem co_IndexOutOfBoundsException_init : Cond.code (⟨"java/lang/IndexOutOfBoundsException", "<init>", "()V"⟩ : MethodName) prog_16_method_1_code 1 none ∈ rw_ok := rt_2 (List.mem_of_getElem? (i := 184) rfl) rfl
theorem ml_IndexOutOfBoundsException_1 : Cond.methodLink "java/lang/IndexOutOfBoundsException" 1 (⟨"java/lang/RuntimeException", "<init>", "()V"⟩ : MethodName) ∈ rw_ok := rt_2 (List.mem_of_getElem? (i := 185) rfl) rfl
theorem im_RuntimeException_init : Cond.instanceMethod (⟨"java/lang/RuntimeException", "<init>", "()V"⟩ : MethodName) ∈ rw_ok := rt_2 (List.mem_of_getElem? (i := 186) rfl) rfl
theorem co_RuntimeException_init : Cond.code (⟨"java/lang/RuntimeException", "<init>", "()V"⟩ : MethodName) prog_17_method_1_code 1 none ∈ rw_ok := rt_2 (List.mem_of_getElem? (i := 187) rfl) rfl
theorem ml_RuntimeException_1 : Cond.methodLink "java/lang/RuntimeException" 1 (⟨"java/lang/Exception", "<init>", "()V"⟩ : MethodName) ∈ rw_ok := rt_2 (List.mem_of_getElem? (i := 188) rfl) rfl
theorem im_Exception_init : Cond.instanceMethod (⟨"java/lang/Exception", "<init>", "()V"⟩ : MethodName) ∈ rw_ok := rt_2 (List.mem_of_getElem? (i := 189) rfl) rfl
theorem co_Exception_init : Cond.code (⟨"java/lang/Exception", "<init>", "()V"⟩ : MethodName) prog_13_method_1_code 1 none ∈ rw_ok := rt_2 (List.mem_of_getElem? (i := 190) rfl) rfl
theorem ml_Exception_1 : Cond.methodLink "java/lang/Exception" 1 (⟨"java/lang/Throwable", "<init>", "()V"⟩ : MethodName) ∈ rw_ok := rt_2 (List.mem_of_getElem? (i := 191) rfl) rfl
theorem fl_Throwable_7 : Cond.fieldLink "java/lang/Throwable" 7 "java/lang/Throwable" "cause" "Ljava/lang/Throwable;" ∈ rw_ok := rt_2 (List.mem_of_getElem? (i := 193) rfl) rfl
theorem fl_Throwable_17 : Cond.fieldLink "java/lang/Throwable" 17 "java/lang/Throwable" "stackTrace" "[Ljava/lang/StackTraceElement;" ∈ rw_ok := rt_2 (List.mem_of_getElem? (i := 194) rfl) rfl
theorem fl_Throwable_24 : Cond.fieldLink "java/lang/Throwable" 24 "java/lang/Throwable" "suppressedExceptions" "Ljava/util/List;" ∈ rw_ok := rt_2 (List.mem_of_getElem? (i := 195) rfl) rfl
theorem ly_IndexOutOfBoundsException_depth : Cond.lays "java/lang/IndexOutOfBoundsException" "java/lang/Throwable" "depth" "I" ∈ rw_ok := rt_2 (List.mem_of_getElem? (i := 200) rfl) rfl
theorem ml_Ra_57 : Cond.methodLink "RowAligner" 57 y_Ra_areCharacters ∈ rw_ok := rt_2 (List.mem_of_getElem? (i := 204) rfl) rfl
theorem st_Ra_areCharacters : Cond.static y_Ra_areCharacters ∈ rw_ok := rt_2 (List.mem_of_getElem? (i := 205) rfl) rfl
theorem co_Ra_areCharacters : Cond.code y_Ra_areCharacters prog_1_method_29_code 5 (some .boolean) ∈ rw_ok := rt_2 (List.mem_of_getElem? (i := 206) rfl) rfl
theorem ml_Ra_73 : Cond.methodLink "RowAligner" 73 y_Ra_characterAt ∈ rw_ok := rt_2 (List.mem_of_getElem? (i := 207) rfl) rfl
theorem st_Ra_characterAt : Cond.static y_Ra_characterAt ∈ rw_ok := rt_2 (List.mem_of_getElem? (i := 208) rfl) rfl
theorem co_Ra_characterAt : Cond.code y_Ra_characterAt prog_1_method_28_code 3 (some .int) ∈ rw_ok := rt_2 (List.mem_of_getElem? (i := 209) rfl) rfl
theorem cl_Ra_61 : Cond.classLink "RowAligner" 61 "java/lang/IllegalArgumentException" ∈ rw_ok := rt_2 (List.mem_of_getElem? (i := 210) rfl) rfl
theorem it_IllegalArgumentException : Cond.instantiable "java/lang/IllegalArgumentException" 6 ∈ rw_ok := rt_2 (List.mem_of_getElem? (i := 211) rfl) rfl
theorem se_Throwable_fillInStackTrace_IllegalArgumentException_24 : Cond.selects "java/lang/IllegalArgumentException" (⟨"java/lang/Throwable", "fillInStackTrace", "(I)Ljava/lang/Throwable;"⟩ : MethodName) (⟨"java/lang/Throwable", "fillInStackTrace", "(I)Ljava/lang/Throwable;"⟩ : MethodName) ∈ rw_ok := rt_2 (List.mem_of_getElem? (i := 213) rfl) rfl
theorem ly_IllegalArgumentException_cause : Cond.lays "java/lang/IllegalArgumentException" "java/lang/Throwable" "cause" "Ljava/lang/Throwable;" ∈ rw_ok := rt_2 (List.mem_of_getElem? (i := 214) rfl) rfl
theorem ly_IllegalArgumentException_stackTrace : Cond.lays "java/lang/IllegalArgumentException" "java/lang/Throwable" "stackTrace" "[Ljava/lang/StackTraceElement;" ∈ rw_ok := rt_2 (List.mem_of_getElem? (i := 215) rfl) rfl
theorem ly_IllegalArgumentException_suppressedExceptions : Cond.lays "java/lang/IllegalArgumentException" "java/lang/Throwable" "suppressedExceptions" "Ljava/util/List;" ∈ rw_ok := rt_2 (List.mem_of_getElem? (i := 216) rfl) rfl
theorem ly_IllegalArgumentException_detailMessage : Cond.lays "java/lang/IllegalArgumentException" "java/lang/Throwable" "detailMessage" "Ljava/lang/String;" ∈ rw_ok := rt_2 (List.mem_of_getElem? (i := 217) rfl) rfl
theorem ly_IllegalArgumentException_backtrace : Cond.lays "java/lang/IllegalArgumentException" "java/lang/Throwable" "backtrace" "Ljava/lang/Object;" ∈ rw_ok := rt_2 (List.mem_of_getElem? (i := 218) rfl) rfl
theorem ml_Ra_63 : Cond.methodLink "RowAligner" 63 (⟨"java/lang/IllegalArgumentException", "<init>", "()V"⟩ : MethodName) ∈ rw_ok := rt_2 (List.mem_of_getElem? (i := 219) rfl) rfl
theorem im_IllegalArgumentException_init : Cond.instanceMethod (⟨"java/lang/IllegalArgumentException", "<init>", "()V"⟩ : MethodName) ∈ rw_ok := rt_2 (List.mem_of_getElem? (i := 220) rfl) rfl
theorem co_IllegalArgumentException_init : Cond.code (⟨"java/lang/IllegalArgumentException", "<init>", "()V"⟩ : MethodName) prog_14_method_1_code 1 none ∈ rw_ok := rt_2 (List.mem_of_getElem? (i := 221) rfl) rfl
theorem ml_IllegalArgumentException_1 : Cond.methodLink "java/lang/IllegalArgumentException" 1 (⟨"java/lang/RuntimeException", "<init>", "()V"⟩ : MethodName) ∈ rw_ok := rt_2 (List.mem_of_getElem? (i := 222) rfl) rfl
theorem ly_IllegalArgumentException_depth : Cond.lays "java/lang/IllegalArgumentException" "java/lang/Throwable" "depth" "I" ∈ rw_ok := rt_2 (List.mem_of_getElem? (i := 223) rfl) rfl
theorem cl_Ra_70 : Cond.classLink "RowAligner" 70 "java/lang/IllegalStateException" ∈ rw_ok := rt_2 (List.mem_of_getElem? (i := 225) rfl) rfl
theorem it_IllegalStateException : Cond.instantiable "java/lang/IllegalStateException" 6 ∈ rw_ok := rt_2 (List.mem_of_getElem? (i := 226) rfl) rfl
theorem se_Throwable_fillInStackTrace_IllegalStateException_24 : Cond.selects "java/lang/IllegalStateException" (⟨"java/lang/Throwable", "fillInStackTrace", "(I)Ljava/lang/Throwable;"⟩ : MethodName) (⟨"java/lang/Throwable", "fillInStackTrace", "(I)Ljava/lang/Throwable;"⟩ : MethodName) ∈ rw_ok := rt_2 (List.mem_of_getElem? (i := 228) rfl) rfl
theorem ly_IllegalStateException_cause : Cond.lays "java/lang/IllegalStateException" "java/lang/Throwable" "cause" "Ljava/lang/Throwable;" ∈ rw_ok := rt_2 (List.mem_of_getElem? (i := 229) rfl) rfl
theorem ly_IllegalStateException_stackTrace : Cond.lays "java/lang/IllegalStateException" "java/lang/Throwable" "stackTrace" "[Ljava/lang/StackTraceElement;" ∈ rw_ok := rt_2 (List.mem_of_getElem? (i := 230) rfl) rfl
theorem ly_IllegalStateException_suppressedExceptions : Cond.lays "java/lang/IllegalStateException" "java/lang/Throwable" "suppressedExceptions" "Ljava/util/List;" ∈ rw_ok := rt_2 (List.mem_of_getElem? (i := 231) rfl) rfl
theorem ly_IllegalStateException_detailMessage : Cond.lays "java/lang/IllegalStateException" "java/lang/Throwable" "detailMessage" "Ljava/lang/String;" ∈ rw_ok := rt_2 (List.mem_of_getElem? (i := 232) rfl) rfl
theorem ly_IllegalStateException_backtrace : Cond.lays "java/lang/IllegalStateException" "java/lang/Throwable" "backtrace" "Ljava/lang/Object;" ∈ rw_ok := rt_2 (List.mem_of_getElem? (i := 233) rfl) rfl
theorem ml_Ra_72 : Cond.methodLink "RowAligner" 72 (⟨"java/lang/IllegalStateException", "<init>", "()V"⟩ : MethodName) ∈ rw_ok := rt_2 (List.mem_of_getElem? (i := 234) rfl) rfl
theorem im_IllegalStateException_init : Cond.instanceMethod (⟨"java/lang/IllegalStateException", "<init>", "()V"⟩ : MethodName) ∈ rw_ok := rt_2 (List.mem_of_getElem? (i := 235) rfl) rfl
theorem co_IllegalStateException_init : Cond.code (⟨"java/lang/IllegalStateException", "<init>", "()V"⟩ : MethodName) prog_15_method_1_code 1 none ∈ rw_ok := rt_2 (List.mem_of_getElem? (i := 236) rfl) rfl
theorem ml_IllegalStateException_1 : Cond.methodLink "java/lang/IllegalStateException" 1 (⟨"java/lang/RuntimeException", "<init>", "()V"⟩ : MethodName) ∈ rw_ok := rt_2 (List.mem_of_getElem? (i := 237) rfl) rfl
theorem ly_IllegalStateException_depth : Cond.lays "java/lang/IllegalStateException" "java/lang/Throwable" "depth" "I" ∈ rw_ok := rt_2 (List.mem_of_getElem? (i := 238) rfl) rfl
theorem ml_Ra_77 : Cond.methodLink "RowAligner" 77 y_Ro_append ∈ rw_ok := rt_3 (List.mem_of_getElem? (i := 0) rfl) rfl
theorem im_Ro_append : Cond.instanceMethod y_Ro_append ∈ rw_ok := rt_3 (List.mem_of_getElem? (i := 1) rfl) rfl
theorem se_Ro_append : Cond.selects "RowAligner$Row" y_Ro_append y_Ro_append ∈ rw_ok := rt_3 (List.mem_of_getElem? (i := 2) rfl) rfl
theorem co_Ro_append : Cond.code y_Ro_append prog_8_method_2_code 2 none ∈ rw_ok := rt_3 (List.mem_of_getElem? (i := 3) rfl) rfl
theorem ml_Lw_93 : Cond.methodLink "RowAlignerLaw" 93 y_Lw_cut ∈ rw_ok := rt_3 (List.mem_of_getElem? (i := 4) rfl) rfl
theorem st_Lw_cut : Cond.static y_Lw_cut ∈ rw_ok := rt_3 (List.mem_of_getElem? (i := 5) rfl) rfl
theorem cw_Lw_cut : Cond.codeWith y_Lw_cut method_4_code 4 (some .int) [(0, 6, 9, 13), (0, 6, 12, 15)] ∈ rw_ok := rt_3 (List.mem_of_getElem? (i := 6) rfl) rfl
theorem ml_Lw_19 : Cond.methodLink "RowAlignerLaw" 19 y_Ra_cut ∈ rw_ok := rt_3 (List.mem_of_getElem? (i := 7) rfl) rfl
theorem im_Ra_cut : Cond.instanceMethod y_Ra_cut ∈ rw_ok := rt_3 (List.mem_of_getElem? (i := 8) rfl) rfl
theorem se_Ra_cut : Cond.selects "RowAligner" y_Ra_cut y_Ra_cut ∈ rw_ok := rt_3 (List.mem_of_getElem? (i := 9) rfl) rfl
theorem co_Ra_cut : Cond.code y_Ra_cut prog_1_method_3_code 4 none ∈ rw_ok := rt_3 (List.mem_of_getElem? (i := 10) rfl) rfl
theorem ml_Lw_97 : Cond.methodLink "RowAlignerLaw" 97 y_Lw_turn ∈ rw_ok := rt_3 (List.mem_of_getElem? (i := 11) rfl) rfl
theorem st_Lw_turn : Cond.static y_Lw_turn ∈ rw_ok := rt_3 (List.mem_of_getElem? (i := 12) rfl) rfl
theorem cw_Lw_turn : Cond.codeWith y_Lw_turn method_5_code 3 (some .int) [(0, 5, 8, 13)] ∈ rw_ok := rt_3 (List.mem_of_getElem? (i := 13) rfl) rfl
theorem ml_Lw_23 : Cond.methodLink "RowAlignerLaw" 23 y_Ra_turn ∈ rw_ok := rt_3 (List.mem_of_getElem? (i := 14) rfl) rfl
theorem im_Ra_turn : Cond.instanceMethod y_Ra_turn ∈ rw_ok := rt_3 (List.mem_of_getElem? (i := 15) rfl) rfl
theorem se_Ra_turn : Cond.selects "RowAligner" y_Ra_turn y_Ra_turn ∈ rw_ok := rt_3 (List.mem_of_getElem? (i := 16) rfl) rfl
theorem co_Ra_turn : Cond.code y_Ra_turn prog_1_method_4_code 2 none ∈ rw_ok := rt_3 (List.mem_of_getElem? (i := 17) rfl) rfl
theorem ml_Ra_85 : Cond.methodLink "RowAligner" 85 y_Ro_reverse ∈ rw_ok := rt_3 (List.mem_of_getElem? (i := 18) rfl) rfl
theorem im_Ro_reverse : Cond.instanceMethod y_Ro_reverse ∈ rw_ok := rt_3 (List.mem_of_getElem? (i := 19) rfl) rfl
theorem se_Ro_reverse : Cond.selects "RowAligner$Row" y_Ro_reverse y_Ro_reverse ∈ rw_ok := rt_3 (List.mem_of_getElem? (i := 20) rfl) rfl
theorem co_Ro_reverse : Cond.code y_Ro_reverse prog_8_method_3_code 4 none ∈ rw_ok := rt_3 (List.mem_of_getElem? (i := 21) rfl) rfl
theorem ml_Lw_101 : Cond.methodLink "RowAlignerLaw" 101 y_Lw_letter ∈ rw_ok := rt_3 (List.mem_of_getElem? (i := 22) rfl) rfl
theorem st_Lw_letter : Cond.static y_Lw_letter ∈ rw_ok := rt_3 (List.mem_of_getElem? (i := 23) rfl) rfl
theorem cw_Lw_letter : Cond.codeWith y_Lw_letter method_6_code 5 (some .int) [(0, 10, 13, 13)] ∈ rw_ok := rt_3 (List.mem_of_getElem? (i := 24) rfl) rfl
theorem ml_Lw_27 : Cond.methodLink "RowAlignerLaw" 27 y_Ra_letter ∈ rw_ok := rt_3 (List.mem_of_getElem? (i := 25) rfl) rfl
theorem im_Ra_letter : Cond.instanceMethod y_Ra_letter ∈ rw_ok := rt_3 (List.mem_of_getElem? (i := 26) rfl) rfl
theorem se_Ra_letter : Cond.selects "RowAligner" y_Ra_letter y_Ra_letter ∈ rw_ok := rt_3 (List.mem_of_getElem? (i := 27) rfl) rfl
theorem co_Ra_letter : Cond.code y_Ra_letter prog_1_method_5_code 4 (some .int) ∈ rw_ok := rt_3 (List.mem_of_getElem? (i := 28) rfl) rfl
theorem ml_Lw_105 : Cond.methodLink "RowAlignerLaw" 105 y_Lw_size ∈ rw_ok := rt_3 (List.mem_of_getElem? (i := 29) rfl) rfl
theorem st_Lw_size : Cond.static y_Lw_size ∈ rw_ok := rt_3 (List.mem_of_getElem? (i := 30) rfl) rfl
theorem cw_Lw_size : Cond.codeWith y_Lw_size method_7_code 4 (some .int) [(0, 9, 12, 13)] ∈ rw_ok := rt_3 (List.mem_of_getElem? (i := 31) rfl) rfl
theorem ml_Lw_31 : Cond.methodLink "RowAlignerLaw" 31 y_Ra_size ∈ rw_ok := rt_3 (List.mem_of_getElem? (i := 32) rfl) rfl
theorem im_Ra_size : Cond.instanceMethod y_Ra_size ∈ rw_ok := rt_3 (List.mem_of_getElem? (i := 33) rfl) rfl
theorem se_Ra_size : Cond.selects "RowAligner" y_Ra_size y_Ra_size ∈ rw_ok := rt_3 (List.mem_of_getElem? (i := 34) rfl) rfl
theorem co_Ra_size : Cond.code y_Ra_size prog_1_method_6_code 2 (some .int) ∈ rw_ok := rt_3 (List.mem_of_getElem? (i := 35) rfl) rfl
theorem ml_Lw_109 : Cond.methodLink "RowAlignerLaw" 109 y_Lw_score ∈ rw_ok := rt_3 (List.mem_of_getElem? (i := 36) rfl) rfl
theorem st_Lw_score : Cond.static y_Lw_score ∈ rw_ok := rt_3 (List.mem_of_getElem? (i := 37) rfl) rfl
theorem cw_Lw_score : Cond.codeWith y_Lw_score method_8_code 5 (some .int) [(0, 7, 10, 13), (0, 7, 14, 15)] ∈ rw_ok := rt_3 (List.mem_of_getElem? (i := 38) rfl) rfl
theorem ml_Lw_35 : Cond.methodLink "RowAlignerLaw" 35 y_Ra_score ∈ rw_ok := rt_3 (List.mem_of_getElem? (i := 39) rfl) rfl
theorem im_Ra_score : Cond.instanceMethod y_Ra_score ∈ rw_ok := rt_3 (List.mem_of_getElem? (i := 40) rfl) rfl
theorem se_Ra_score : Cond.selects "RowAligner" y_Ra_score y_Ra_score ∈ rw_ok := rt_3 (List.mem_of_getElem? (i := 41) rfl) rfl
theorem co_Ra_score : Cond.code y_Ra_score prog_1_method_7_code 4 none ∈ rw_ok := rt_3 (List.mem_of_getElem? (i := 42) rfl) rfl
theorem ml_Ra_95 : Cond.methodLink "RowAligner" 95 y_Ra_refusePriceBelow ∈ rw_ok := rt_3 (List.mem_of_getElem? (i := 43) rfl) rfl
theorem st_Ra_refusePriceBelow : Cond.static y_Ra_refusePriceBelow ∈ rw_ok := rt_3 (List.mem_of_getElem? (i := 44) rfl) rfl
theorem co_Ra_refusePriceBelow : Cond.code y_Ra_refusePriceBelow prog_1_method_25_code 2 none ∈ rw_ok := rt_3 (List.mem_of_getElem? (i := 45) rfl) rfl
theorem ml_Ra_103 : Cond.methodLink "RowAligner" 103 y_Pr_setPair ∈ rw_ok := rt_3 (List.mem_of_getElem? (i := 46) rfl) rfl
theorem ml_Lw_113 : Cond.methodLink "RowAlignerLaw" 113 y_Lw_scores ∈ rw_ok := rt_3 (List.mem_of_getElem? (i := 47) rfl) rfl
theorem st_Lw_scores : Cond.static y_Lw_scores ∈ rw_ok := rt_3 (List.mem_of_getElem? (i := 48) rfl) rfl
theorem cw_Lw_scores : Cond.codeWith y_Lw_scores method_9_code 4 (some .int) [(0, 6, 9, 15)] ∈ rw_ok := rt_3 (List.mem_of_getElem? (i := 49) rfl) rfl
theorem ml_Lw_39 : Cond.methodLink "RowAlignerLaw" 39 y_Ra_scores ∈ rw_ok := rt_3 (List.mem_of_getElem? (i := 50) rfl) rfl
theorem im_Ra_scores : Cond.instanceMethod y_Ra_scores ∈ rw_ok := rt_3 (List.mem_of_getElem? (i := 51) rfl) rfl
theorem se_Ra_scores : Cond.selects "RowAligner" y_Ra_scores y_Ra_scores ∈ rw_ok := rt_3 (List.mem_of_getElem? (i := 52) rfl) rfl
theorem co_Ra_scores : Cond.code y_Ra_scores prog_1_method_8_code 3 none ∈ rw_ok := rt_3 (List.mem_of_getElem? (i := 53) rfl) rfl
theorem ml_Ra_109 : Cond.methodLink "RowAligner" 109 y_Pr_setAllPairs ∈ rw_ok := rt_3 (List.mem_of_getElem? (i := 54) rfl) rfl
theorem ml_Lw_116 : Cond.methodLink "RowAlignerLaw" 116 y_Lw_costs ∈ rw_ok := rt_3 (List.mem_of_getElem? (i := 55) rfl) rfl
theorem st_Lw_costs : Cond.static y_Lw_costs ∈ rw_ok := rt_3 (List.mem_of_getElem? (i := 56) rfl) rfl
theorem cw_Lw_costs : Cond.codeWith y_Lw_costs method_10_code 4 (some .int) [(0, 6, 9, 15)] ∈ rw_ok := rt_3 (List.mem_of_getElem? (i := 57) rfl) rfl
theorem ml_Lw_42 : Cond.methodLink "RowAlignerLaw" 42 y_Ra_costs ∈ rw_ok := rt_3 (List.mem_of_getElem? (i := 58) rfl) rfl
theorem im_Ra_costs : Cond.instanceMethod y_Ra_costs ∈ rw_ok := rt_3 (List.mem_of_getElem? (i := 59) rfl) rfl
theorem se_Ra_costs : Cond.selects "RowAligner" y_Ra_costs y_Ra_costs ∈ rw_ok := rt_3 (List.mem_of_getElem? (i := 60) rfl) rfl
theorem co_Ra_costs : Cond.code y_Ra_costs prog_1_method_9_code 3 none ∈ rw_ok := rt_3 (List.mem_of_getElem? (i := 61) rfl) rfl
theorem ml_Lw_119 : Cond.methodLink "RowAlignerLaw" 119 y_Lw_whole ∈ rw_ok := rt_3 (List.mem_of_getElem? (i := 62) rfl) rfl
theorem st_Lw_whole : Cond.static y_Lw_whole ∈ rw_ok := rt_3 (List.mem_of_getElem? (i := 63) rfl) rfl
theorem cw_Lw_whole : Cond.codeWith y_Lw_whole method_11_code 4 (some .int) [(0, 9, 12, 15)] ∈ rw_ok := rt_3 (List.mem_of_getElem? (i := 64) rfl) rfl
theorem ml_Lw_45 : Cond.methodLink "RowAlignerLaw" 45 y_Ra_whole ∈ rw_ok := rt_3 (List.mem_of_getElem? (i := 65) rfl) rfl
theorem im_Ra_whole : Cond.instanceMethod y_Ra_whole ∈ rw_ok := rt_3 (List.mem_of_getElem? (i := 66) rfl) rfl
theorem se_Ra_whole : Cond.selects "RowAligner" y_Ra_whole y_Ra_whole ∈ rw_ok := rt_3 (List.mem_of_getElem? (i := 67) rfl) rfl
theorem co_Ra_whole : Cond.code y_Ra_whole prog_1_method_10_code 2 (some .int) ∈ rw_ok := rt_3 (List.mem_of_getElem? (i := 68) rfl) rfl
theorem ml_Ra_118 : Cond.methodLink "RowAligner" 118 y_Ra_refuseOtherEnds ∈ rw_ok := rt_3 (List.mem_of_getElem? (i := 69) rfl) rfl
theorem st_Ra_refuseOtherEnds : Cond.static y_Ra_refuseOtherEnds ∈ rw_ok := rt_3 (List.mem_of_getElem? (i := 70) rfl) rfl
theorem co_Ra_refuseOtherEnds : Cond.code y_Ra_refuseOtherEnds prog_1_method_26_code 1 none ∈ rw_ok := rt_3 (List.mem_of_getElem? (i := 71) rfl) rfl
theorem ml_Ra_121 : Cond.methodLink "RowAligner" 121 y_Se_searchWhole ∈ rw_ok := rt_3 (List.mem_of_getElem? (i := 72) rfl) rfl
theorem im_Se_searchWhole : Cond.instanceMethod y_Se_searchWhole ∈ rw_ok := rt_3 (List.mem_of_getElem? (i := 73) rfl) rfl
theorem se_Se_searchWhole : Cond.selects "RowAligner$Search" y_Se_searchWhole y_Se_searchWhole ∈ rw_ok := rt_3 (List.mem_of_getElem? (i := 74) rfl) rfl
theorem co_Se_searchWhole : Cond.code y_Se_searchWhole prog_9_method_2_code 2 none ∈ rw_ok := rt_3 (List.mem_of_getElem? (i := 75) rfl) rfl
theorem ml_Lw_126 : Cond.methodLink "RowAlignerLaw" 126 y_Lw_steps ∈ rw_ok := rt_3 (List.mem_of_getElem? (i := 76) rfl) rfl
theorem st_Lw_steps : Cond.static y_Lw_steps ∈ rw_ok := rt_3 (List.mem_of_getElem? (i := 77) rfl) rfl
theorem cw_Lw_steps : Cond.codeWith y_Lw_steps method_12_code 3 (some .int) [(0, 8, 11, 17)] ∈ rw_ok := rt_3 (List.mem_of_getElem? (i := 78) rfl) rfl
theorem ml_Lw_48 : Cond.methodLink "RowAlignerLaw" 48 y_Ra_steps ∈ rw_ok := rt_3 (List.mem_of_getElem? (i := 79) rfl) rfl
theorem im_Ra_steps : Cond.instanceMethod y_Ra_steps ∈ rw_ok := rt_3 (List.mem_of_getElem? (i := 80) rfl) rfl
theorem se_Ra_steps : Cond.selects "RowAligner" y_Ra_steps y_Ra_steps ∈ rw_ok := rt_3 (List.mem_of_getElem? (i := 81) rfl) rfl
theorem co_Ra_steps : Cond.code y_Ra_steps prog_1_method_12_code 1 (some .int) ∈ rw_ok := rt_3 (List.mem_of_getElem? (i := 82) rfl) rfl
theorem ml_Ra_131 : Cond.methodLink "RowAligner" 131 y_Ra_refuseUnlaid ∈ rw_ok := rt_3 (List.mem_of_getElem? (i := 83) rfl) rfl
theorem im_Ra_refuseUnlaid : Cond.instanceMethod y_Ra_refuseUnlaid ∈ rw_ok := rt_3 (List.mem_of_getElem? (i := 85) rfl) rfl
theorem co_Ra_refuseUnlaid : Cond.code y_Ra_refuseUnlaid prog_1_method_27_code 1 none ∈ rw_ok := rt_3 (List.mem_of_getElem? (i := 86) rfl) rfl
theorem ml_Lw_130 : Cond.methodLink "RowAlignerLaw" 130 y_Lw_step ∈ rw_ok := rt_3 (List.mem_of_getElem? (i := 87) rfl) rfl
theorem st_Lw_step : Cond.static y_Lw_step ∈ rw_ok := rt_3 (List.mem_of_getElem? (i := 88) rfl) rfl
theorem cw_Lw_step : Cond.codeWith y_Lw_step method_13_code 4 (some .int) [(0, 9, 12, 17), (0, 9, 15, 13)] ∈ rw_ok := rt_3 (List.mem_of_getElem? (i := 89) rfl) rfl
theorem ml_Lw_52 : Cond.methodLink "RowAlignerLaw" 52 y_Ra_step ∈ rw_ok := rt_3 (List.mem_of_getElem? (i := 90) rfl) rfl
theorem im_Ra_step : Cond.instanceMethod y_Ra_step ∈ rw_ok := rt_3 (List.mem_of_getElem? (i := 91) rfl) rfl
theorem se_Ra_step : Cond.selects "RowAligner" y_Ra_step y_Ra_step ∈ rw_ok := rt_3 (List.mem_of_getElem? (i := 92) rfl) rfl
theorem co_Ra_step : Cond.code y_Ra_step prog_1_method_13_code 2 (some .int) ∈ rw_ok := rt_3 (List.mem_of_getElem? (i := 93) rfl) rfl
theorem ml_Lw_133 : Cond.methodLink "RowAlignerLaw" 133 y_Lw_place ∈ rw_ok := rt_3 (List.mem_of_getElem? (i := 94) rfl) rfl
theorem st_Lw_place : Cond.static y_Lw_place ∈ rw_ok := rt_3 (List.mem_of_getElem? (i := 95) rfl) rfl
theorem cw_Lw_place : Cond.codeWith y_Lw_place method_14_code 5 (some .int) [(0, 10, 13, 13), (0, 10, 17, 17)] ∈ rw_ok := rt_3 (List.mem_of_getElem? (i := 96) rfl) rfl
theorem ml_Lw_55 : Cond.methodLink "RowAlignerLaw" 55 y_Ra_place ∈ rw_ok := rt_3 (List.mem_of_getElem? (i := 97) rfl) rfl
theorem im_Ra_place : Cond.instanceMethod y_Ra_place ∈ rw_ok := rt_3 (List.mem_of_getElem? (i := 98) rfl) rfl
theorem se_Ra_place : Cond.selects "RowAligner" y_Ra_place y_Ra_place ∈ rw_ok := rt_3 (List.mem_of_getElem? (i := 99) rfl) rfl
theorem co_Ra_place : Cond.code y_Ra_place prog_1_method_14_code 3 (some .int) ∈ rw_ok := rt_3 (List.mem_of_getElem? (i := 100) rfl) rfl
theorem ml_Lw_137 : Cond.methodLink "RowAlignerLaw" 137 y_Lw_count ∈ rw_ok := rt_3 (List.mem_of_getElem? (i := 101) rfl) rfl
theorem st_Lw_count : Cond.static y_Lw_count ∈ rw_ok := rt_3 (List.mem_of_getElem? (i := 102) rfl) rfl
theorem cw_Lw_count : Cond.codeWith y_Lw_count method_15_code 4 (some .int) [(0, 9, 12, 15), (0, 9, 15, 17)] ∈ rw_ok := rt_3 (List.mem_of_getElem? (i := 103) rfl) rfl
theorem ml_Lw_59 : Cond.methodLink "RowAlignerLaw" 59 y_Ra_count ∈ rw_ok := rt_3 (List.mem_of_getElem? (i := 104) rfl) rfl
theorem im_Ra_count : Cond.instanceMethod y_Ra_count ∈ rw_ok := rt_3 (List.mem_of_getElem? (i := 105) rfl) rfl
theorem se_Ra_count : Cond.selects "RowAligner" y_Ra_count y_Ra_count ∈ rw_ok := rt_3 (List.mem_of_getElem? (i := 106) rfl) rfl
theorem co_Ra_count : Cond.code y_Ra_count prog_1_method_15_code 2 (some .int) ∈ rw_ok := rt_3 (List.mem_of_getElem? (i := 107) rfl) rfl
theorem ml_Ra_153 : Cond.methodLink "RowAligner" 153 y_La_countRuns ∈ rw_ok := rt_3 (List.mem_of_getElem? (i := 108) rfl) rfl
theorem im_La_countRuns : Cond.instanceMethod y_La_countRuns ∈ rw_ok := rt_3 (List.mem_of_getElem? (i := 109) rfl) rfl
theorem se_La_countRuns : Cond.selects "RowAligner$Laying" y_La_countRuns y_La_countRuns ∈ rw_ok := rt_3 (List.mem_of_getElem? (i := 110) rfl) rfl
theorem co_La_countRuns : Cond.code y_La_countRuns prog_5_method_4_code 3 (some .int) ∈ rw_ok := rt_3 (List.mem_of_getElem? (i := 111) rfl) rfl
theorem ml_La_55 : Cond.methodLink "RowAligner$Laying" 55 y_La_beginsRun ∈ rw_ok := rt_3 (List.mem_of_getElem? (i := 112) rfl) rfl
theorem im_La_beginsRun : Cond.instanceMethod y_La_beginsRun ∈ rw_ok := rt_3 (List.mem_of_getElem? (i := 114) rfl) rfl
theorem co_La_beginsRun : Cond.code y_La_beginsRun prog_5_method_3_code 2 (some .boolean) ∈ rw_ok := rt_3 (List.mem_of_getElem? (i := 115) rfl) rfl
theorem ml_Ra_156 : Cond.methodLink "RowAligner" 156 y_La_countSamePairs ∈ rw_ok := rt_3 (List.mem_of_getElem? (i := 116) rfl) rfl
theorem im_La_countSamePairs : Cond.instanceMethod y_La_countSamePairs ∈ rw_ok := rt_3 (List.mem_of_getElem? (i := 117) rfl) rfl
theorem se_La_countSamePairs : Cond.selects "RowAligner$Laying" y_La_countSamePairs y_La_countSamePairs ∈ rw_ok := rt_3 (List.mem_of_getElem? (i := 118) rfl) rfl
theorem co_La_countSamePairs : Cond.code y_La_countSamePairs prog_5_method_7_code 6 (some .int) ∈ rw_ok := rt_3 (List.mem_of_getElem? (i := 119) rfl) rfl
theorem ml_Ra_160 : Cond.methodLink "RowAligner" 160 y_La_countGaps ∈ rw_ok := rt_3 (List.mem_of_getElem? (i := 120) rfl) rfl
theorem im_La_countGaps : Cond.instanceMethod y_La_countGaps ∈ rw_ok := rt_3 (List.mem_of_getElem? (i := 121) rfl) rfl
theorem se_La_countGaps : Cond.selects "RowAligner$Laying" y_La_countGaps y_La_countGaps ∈ rw_ok := rt_3 (List.mem_of_getElem? (i := 122) rfl) rfl
theorem co_La_countGaps : Cond.code y_La_countGaps prog_5_method_5_code 3 (some .int) ∈ rw_ok := rt_3 (List.mem_of_getElem? (i := 123) rfl) rfl
theorem ml_Ra_163 : Cond.methodLink "RowAligner" 163 y_La_countGapLetters ∈ rw_ok := rt_3 (List.mem_of_getElem? (i := 124) rfl) rfl
theorem im_La_countGapLetters : Cond.instanceMethod y_La_countGapLetters ∈ rw_ok := rt_3 (List.mem_of_getElem? (i := 125) rfl) rfl
theorem se_La_countGapLetters : Cond.selects "RowAligner$Laying" y_La_countGapLetters y_La_countGapLetters ∈ rw_ok := rt_3 (List.mem_of_getElem? (i := 126) rfl) rfl
theorem co_La_countGapLetters : Cond.code y_La_countGapLetters prog_5_method_6_code 3 (some .int) ∈ rw_ok := rt_3 (List.mem_of_getElem? (i := 127) rfl) rfl
theorem ml_Lw_140 : Cond.methodLink "RowAlignerLaw" 140 y_Lw_run ∈ rw_ok := rt_3 (List.mem_of_getElem? (i := 128) rfl) rfl
theorem st_Lw_run : Cond.static y_Lw_run ∈ rw_ok := rt_3 (List.mem_of_getElem? (i := 129) rfl) rfl
theorem cw_Lw_run : Cond.codeWith y_Lw_run method_16_code 5 (some .int) [(0, 10, 13, 15), (0, 10, 17, 17), (0, 10, 21, 13)] ∈ rw_ok := rt_3 (List.mem_of_getElem? (i := 130) rfl) rfl
theorem ml_Lw_62 : Cond.methodLink "RowAlignerLaw" 62 y_Ra_run ∈ rw_ok := rt_3 (List.mem_of_getElem? (i := 131) rfl) rfl
theorem im_Ra_run : Cond.instanceMethod y_Ra_run ∈ rw_ok := rt_3 (List.mem_of_getElem? (i := 132) rfl) rfl
theorem se_Ra_run : Cond.selects "RowAligner" y_Ra_run y_Ra_run ∈ rw_ok := rt_3 (List.mem_of_getElem? (i := 133) rfl) rfl
theorem co_Ra_run : Cond.code y_Ra_run prog_1_method_16_code 4 (some .int) ∈ rw_ok := rt_3 (List.mem_of_getElem? (i := 134) rfl) rfl
theorem ml_Ra_166 : Cond.methodLink "RowAligner" 166 y_La_startOfRun ∈ rw_ok := rt_3 (List.mem_of_getElem? (i := 135) rfl) rfl
theorem im_La_startOfRun : Cond.instanceMethod y_La_startOfRun ∈ rw_ok := rt_3 (List.mem_of_getElem? (i := 136) rfl) rfl
theorem se_La_startOfRun : Cond.selects "RowAligner$Laying" y_La_startOfRun y_La_startOfRun ∈ rw_ok := rt_3 (List.mem_of_getElem? (i := 137) rfl) rfl
theorem co_La_startOfRun : Cond.code y_La_startOfRun prog_5_method_8_code 4 (some .int) ∈ rw_ok := rt_3 (List.mem_of_getElem? (i := 138) rfl) rfl
theorem ml_Ra_170 : Cond.methodLink "RowAligner" 170 y_La_lengthOfRunAt ∈ rw_ok := rt_3 (List.mem_of_getElem? (i := 139) rfl) rfl
theorem im_La_lengthOfRunAt : Cond.instanceMethod y_La_lengthOfRunAt ∈ rw_ok := rt_3 (List.mem_of_getElem? (i := 140) rfl) rfl
theorem se_La_lengthOfRunAt : Cond.selects "RowAligner$Laying" y_La_lengthOfRunAt y_La_lengthOfRunAt ∈ rw_ok := rt_3 (List.mem_of_getElem? (i := 141) rfl) rfl
theorem co_La_lengthOfRunAt : Cond.code y_La_lengthOfRunAt prog_5_method_9_code 3 (some .int) ∈ rw_ok := rt_3 (List.mem_of_getElem? (i := 142) rfl) rfl
theorem ml_Lw_143 : Cond.methodLink "RowAlignerLaw" 143 y_Lw_ways ∈ rw_ok := rt_3 (List.mem_of_getElem? (i := 143) rfl) rfl
theorem st_Lw_ways : Cond.static y_Lw_ways ∈ rw_ok := rt_3 (List.mem_of_getElem? (i := 144) rfl) rfl
theorem cw_Lw_ways : Cond.codeWith y_Lw_ways method_17_code 3 (some .int) [(0, 7, 10, 17)] ∈ rw_ok := rt_3 (List.mem_of_getElem? (i := 145) rfl) rfl
theorem ml_Lw_65 : Cond.methodLink "RowAlignerLaw" 65 y_Ra_ways ∈ rw_ok := rt_3 (List.mem_of_getElem? (i := 146) rfl) rfl
theorem im_Ra_ways : Cond.instanceMethod y_Ra_ways ∈ rw_ok := rt_3 (List.mem_of_getElem? (i := 147) rfl) rfl
theorem se_Ra_ways : Cond.selects "RowAligner" y_Ra_ways y_Ra_ways ∈ rw_ok := rt_3 (List.mem_of_getElem? (i := 148) rfl) rfl
theorem co_Ra_ways : Cond.code y_Ra_ways prog_1_method_17_code 1 (some .long) ∈ rw_ok := rt_3 (List.mem_of_getElem? (i := 149) rfl) rfl
theorem ml_Ra_176 : Cond.methodLink "RowAligner" 176 y_Wc_countBest ∈ rw_ok := rt_3 (List.mem_of_getElem? (i := 150) rfl) rfl
theorem im_Wc_countBest : Cond.instanceMethod y_Wc_countBest ∈ rw_ok := rt_3 (List.mem_of_getElem? (i := 151) rfl) rfl
theorem se_Wc_countBest : Cond.selects "RowAligner$WayCounter" y_Wc_countBest y_Wc_countBest ∈ rw_ok := rt_3 (List.mem_of_getElem? (i := 152) rfl) rfl
theorem co_Wc_countBest : Cond.code y_Wc_countBest prog_10_method_2_code 7 (some .long) ∈ rw_ok := rt_3 (List.mem_of_getElem? (i := 153) rfl) rfl
theorem ml_Wc_36 : Cond.methodLink "RowAligner$WayCounter" 36 y_Se_lookFrom ∈ rw_ok := rt_3 (List.mem_of_getElem? (i := 154) rfl) rfl
theorem mn_Wc_40 : Cond.methodLinkNest "RowAligner$WayCounter" 40 y_Ra_cell "RowAligner" ∈ rw_nest := rn_3 (List.mem_of_getElem? (i := 155) (by decide +kernel)) rfl
theorem ml_Wc_48 : Cond.methodLink "RowAligner$WayCounter" 48 y_Wc_countFrom ∈ rw_ok := rt_3 (List.mem_of_getElem? (i := 156) rfl) rfl
theorem im_Wc_countFrom : Cond.instanceMethod y_Wc_countFrom ∈ rw_ok := rt_3 (List.mem_of_getElem? (i := 158) rfl) rfl
theorem co_Wc_countFrom : Cond.code y_Wc_countFrom prog_10_method_3_code 9 (some .long) ∈ rw_ok := rt_3 (List.mem_of_getElem? (i := 159) rfl) rfl
theorem ml_Wc_58 : Cond.methodLink "RowAligner$WayCounter" 58 y_Ou_greatestWorth ∈ rw_ok := rt_3 (List.mem_of_getElem? (i := 160) rfl) rfl
theorem ml_Wc_67 : Cond.methodLink "RowAligner$WayCounter" 67 y_Ou_worthThrough ∈ rw_ok := rt_3 (List.mem_of_getElem? (i := 161) rfl) rfl
theorem mn_Wc_71 : Cond.methodLinkNest "RowAligner$WayCounter" 71 y_Ra_lettersOfA "RowAligner" ∈ rw_nest := rn_3 (List.mem_of_getElem? (i := 162) (by decide +kernel)) rfl
theorem mn_Wc_74 : Cond.methodLinkNest "RowAligner$WayCounter" 74 y_Ra_lettersOfB "RowAligner" ∈ rw_nest := rn_3 (List.mem_of_getElem? (i := 163) (by decide +kernel)) rfl
theorem ml_Wc_52 : Cond.methodLink "RowAligner$WayCounter" 52 y_Se_canStartBestAt ∈ rw_ok := rt_3 (List.mem_of_getElem? (i := 164) rfl) rfl
theorem im_Se_canStartBestAt : Cond.instanceMethod y_Se_canStartBestAt ∈ rw_ok := rt_3 (List.mem_of_getElem? (i := 165) rfl) rfl
theorem se_Se_canStartBestAt : Cond.selects "RowAligner$Search" y_Se_canStartBestAt y_Se_canStartBestAt ∈ rw_ok := rt_3 (List.mem_of_getElem? (i := 166) rfl) rfl
theorem co_Se_canStartBestAt : Cond.code y_Se_canStartBestAt prog_9_method_9_code 3 (some .boolean) ∈ rw_ok := rt_3 (List.mem_of_getElem? (i := 167) rfl) rfl
theorem cL_Wc_56 : Cond.constantLong "RowAligner$WayCounter" 56 (9223372036854775807 : Int64) ∈ rw_ok := rt_3 (List.mem_of_getElem? (i := 168) rfl) rfl
theorem ml_Lw_146 : Cond.methodLink "RowAlignerLaw" 146 y_Lw_crossing ∈ rw_ok := rt_3 (List.mem_of_getElem? (i := 169) rfl) rfl
theorem st_Lw_crossing : Cond.static y_Lw_crossing ∈ rw_ok := rt_3 (List.mem_of_getElem? (i := 170) rfl) rfl
theorem cw_Lw_crossing : Cond.codeWith y_Lw_crossing method_18_code 4 (some .int) [(0, 9, 12, 17), (0, 9, 15, 13)] ∈ rw_ok := rt_3 (List.mem_of_getElem? (i := 171) rfl) rfl
theorem ml_Lw_69 : Cond.methodLink "RowAlignerLaw" 69 y_Ra_crossing ∈ rw_ok := rt_3 (List.mem_of_getElem? (i := 172) rfl) rfl
theorem im_Ra_crossing : Cond.instanceMethod y_Ra_crossing ∈ rw_ok := rt_3 (List.mem_of_getElem? (i := 173) rfl) rfl
theorem se_Ra_crossing : Cond.selects "RowAligner" y_Ra_crossing y_Ra_crossing ∈ rw_ok := rt_3 (List.mem_of_getElem? (i := 174) rfl) rfl
theorem co_Ra_crossing : Cond.code y_Ra_crossing prog_1_method_18_code 2 (some .int) ∈ rw_ok := rt_3 (List.mem_of_getElem? (i := 175) rfl) rfl
theorem ml_Ra_194 : Cond.methodLink "RowAligner" 194 y_Cf_findAll ∈ rw_ok := rt_3 (List.mem_of_getElem? (i := 176) rfl) rfl
theorem im_Cf_findAll : Cond.instanceMethod y_Cf_findAll ∈ rw_ok := rt_3 (List.mem_of_getElem? (i := 177) rfl) rfl
theorem se_Cf_findAll : Cond.selects "RowAligner$CrossingFinder" y_Cf_findAll y_Cf_findAll ∈ rw_ok := rt_3 (List.mem_of_getElem? (i := 178) rfl) rfl
theorem co_Cf_findAll : Cond.code y_Cf_findAll prog_2_method_2_code 4 none ∈ rw_ok := rt_3 (List.mem_of_getElem? (i := 179) rfl) rfl
theorem ml_Cf_19 : Cond.methodLink "RowAligner$CrossingFinder" 19 y_Cf_clearPlacesOf ∈ rw_ok := rt_3 (List.mem_of_getElem? (i := 180) rfl) rfl
theorem im_Cf_clearPlacesOf : Cond.instanceMethod y_Cf_clearPlacesOf ∈ rw_ok := rt_3 (List.mem_of_getElem? (i := 182) rfl) rfl
theorem co_Cf_clearPlacesOf : Cond.code y_Cf_clearPlacesOf prog_2_method_3_code 4 none ∈ rw_ok := rt_3 (List.mem_of_getElem? (i := 183) rfl) rfl
theorem mn_Cf_23 : Cond.methodLinkNest "RowAligner$CrossingFinder" 23 y_Ra_cell "RowAligner" ∈ rw_nest := rn_3 (List.mem_of_getElem? (i := 184) (by decide +kernel)) rfl
theorem ml_Cf_48 : Cond.methodLink "RowAligner$CrossingFinder" 48 y_Cf_isReached ∈ rw_ok := rt_3 (List.mem_of_getElem? (i := 185) rfl) rfl
theorem im_Cf_isReached : Cond.instanceMethod y_Cf_isReached ∈ rw_ok := rt_3 (List.mem_of_getElem? (i := 187) rfl) rfl
theorem co_Cf_isReached : Cond.code y_Cf_isReached prog_2_method_4_code 3 (some .boolean) ∈ rw_ok := rt_3 (List.mem_of_getElem? (i := 188) rfl) rfl
theorem ml_Cf_52 : Cond.methodLink "RowAligner$CrossingFinder" 52 y_Cf_goOnFrom ∈ rw_ok := rt_3 (List.mem_of_getElem? (i := 189) rfl) rfl
theorem im_Cf_goOnFrom : Cond.instanceMethod y_Cf_goOnFrom ∈ rw_ok := rt_3 (List.mem_of_getElem? (i := 191) rfl) rfl
theorem co_Cf_goOnFrom : Cond.code y_Cf_goOnFrom prog_2_method_5_code 5 none ∈ rw_ok := rt_3 (List.mem_of_getElem? (i := 192) rfl) rfl
theorem ml_Cf_56 : Cond.methodLink "RowAligner$CrossingFinder" 56 y_Se_lookFrom ∈ rw_ok := rt_3 (List.mem_of_getElem? (i := 193) rfl) rfl
theorem ml_Cf_64 : Cond.methodLink "RowAligner$CrossingFinder" 64 y_Cf_goOnBehind ∈ rw_ok := rt_3 (List.mem_of_getElem? (i := 194) rfl) rfl
theorem im_Cf_goOnBehind : Cond.instanceMethod y_Cf_goOnBehind ∈ rw_ok := rt_3 (List.mem_of_getElem? (i := 196) rfl) rfl
theorem co_Cf_goOnBehind : Cond.code y_Cf_goOnBehind prog_2_method_6_code 7 none ∈ rw_ok := rt_3 (List.mem_of_getElem? (i := 197) rfl) rfl
theorem ml_Cf_68 : Cond.methodLink "RowAligner$CrossingFinder" 68 y_Ou_greatestWorth ∈ rw_ok := rt_3 (List.mem_of_getElem? (i := 198) rfl) rfl
theorem ml_Cf_74 : Cond.methodLink "RowAligner$CrossingFinder" 74 y_Ou_worthThrough ∈ rw_ok := rt_3 (List.mem_of_getElem? (i := 199) rfl) rfl
theorem mn_Cf_78 : Cond.methodLinkNest "RowAligner$CrossingFinder" 78 y_Ra_lettersOfA "RowAligner" ∈ rw_nest := rn_3 (List.mem_of_getElem? (i := 200) (by decide +kernel)) rfl
theorem mn_Cf_81 : Cond.methodLinkNest "RowAligner$CrossingFinder" 81 y_Ra_lettersOfB "RowAligner" ∈ rw_nest := rn_3 (List.mem_of_getElem? (i := 201) (by decide +kernel)) rfl
theorem ml_Lw_149 : Cond.methodLink "RowAlignerLaw" 149 y_Lw_draw ∈ rw_ok := rt_3 (List.mem_of_getElem? (i := 202) rfl) rfl
theorem st_Lw_draw : Cond.static y_Lw_draw ∈ rw_ok := rt_3 (List.mem_of_getElem? (i := 203) rfl) rfl
theorem cw_Lw_draw : Cond.codeWith y_Lw_draw method_19_code 4 (some .int) [(0, 9, 12, 15), (0, 9, 15, 17)] ∈ rw_ok := rt_3 (List.mem_of_getElem? (i := 204) rfl) rfl
theorem ml_Lw_72 : Cond.methodLink "RowAlignerLaw" 72 y_Ra_draw ∈ rw_ok := rt_3 (List.mem_of_getElem? (i := 205) rfl) rfl
theorem im_Ra_draw : Cond.instanceMethod y_Ra_draw ∈ rw_ok := rt_3 (List.mem_of_getElem? (i := 206) rfl) rfl
theorem se_Ra_draw : Cond.selects "RowAligner" y_Ra_draw y_Ra_draw ∈ rw_ok := rt_3 (List.mem_of_getElem? (i := 207) rfl) rfl
theorem co_Ra_draw : Cond.code y_Ra_draw prog_1_method_19_code 2 (some .int) ∈ rw_ok := rt_3 (List.mem_of_getElem? (i := 208) rfl) rfl
theorem ml_Ra_202 : Cond.methodLink "RowAligner" 202 y_Dr_append ∈ rw_ok := rt_3 (List.mem_of_getElem? (i := 209) rfl) rfl
theorem im_Dr_append : Cond.instanceMethod y_Dr_append ∈ rw_ok := rt_3 (List.mem_of_getElem? (i := 210) rfl) rfl
theorem se_Dr_append : Cond.selects "RowAligner$Draft" y_Dr_append y_Dr_append ∈ rw_ok := rt_3 (List.mem_of_getElem? (i := 211) rfl) rfl
theorem co_Dr_append : Cond.code y_Dr_append prog_3_method_2_code 2 none ∈ rw_ok := rt_3 (List.mem_of_getElem? (i := 212) rfl) rfl
theorem ml_Lw_156 : Cond.methodLink "RowAlignerLaw" 156 y_Lw_worth ∈ rw_ok := rt_3 (List.mem_of_getElem? (i := 213) rfl) rfl
theorem st_Lw_worth : Cond.static y_Lw_worth ∈ rw_ok := rt_3 (List.mem_of_getElem? (i := 214) rfl) rfl
theorem cw_Lw_worth : Cond.codeWith y_Lw_worth method_20_code 4 (some .int) [(0, 9, 12, 15)] ∈ rw_ok := rt_3 (List.mem_of_getElem? (i := 215) rfl) rfl
theorem ml_Lw_75 : Cond.methodLink "RowAlignerLaw" 75 y_Ra_worth ∈ rw_ok := rt_3 (List.mem_of_getElem? (i := 216) rfl) rfl
theorem im_Ra_worth : Cond.instanceMethod y_Ra_worth ∈ rw_ok := rt_3 (List.mem_of_getElem? (i := 217) rfl) rfl
theorem se_Ra_worth : Cond.selects "RowAligner" y_Ra_worth y_Ra_worth ∈ rw_ok := rt_3 (List.mem_of_getElem? (i := 218) rfl) rfl
theorem co_Ra_worth : Cond.code y_Ra_worth prog_1_method_21_code 2 (some .int) ∈ rw_ok := rt_3 (List.mem_of_getElem? (i := 219) rfl) rfl
theorem ml_Ra_203 : Cond.methodLink "RowAligner" 203 y_Dr_isWholeLaying ∈ rw_ok := rt_3 (List.mem_of_getElem? (i := 220) rfl) rfl
theorem im_Dr_isWholeLaying : Cond.instanceMethod y_Dr_isWholeLaying ∈ rw_ok := rt_3 (List.mem_of_getElem? (i := 221) rfl) rfl
theorem se_Dr_isWholeLaying : Cond.selects "RowAligner$Draft" y_Dr_isWholeLaying y_Dr_isWholeLaying ∈ rw_ok := rt_3 (List.mem_of_getElem? (i := 222) rfl) rfl
theorem co_Dr_isWholeLaying : Cond.code y_Dr_isWholeLaying prog_3_method_3_code 5 (some .boolean) ∈ rw_ok := rt_3 (List.mem_of_getElem? (i := 223) rfl) rfl
theorem mn_Dr_19 : Cond.methodLinkNest "RowAligner$Draft" 19 y_Ra_lettersOfA "RowAligner" ∈ rw_nest := rn_3 (List.mem_of_getElem? (i := 224) (by decide +kernel)) rfl
theorem mn_Dr_23 : Cond.methodLinkNest "RowAligner$Draft" 23 y_Ra_lettersOfB "RowAligner" ∈ rw_nest := rn_3 (List.mem_of_getElem? (i := 225) (by decide +kernel)) rfl
theorem ml_Ra_207 : Cond.methodLink "RowAligner" 207 y_Dr_sumUp ∈ rw_ok := rt_3 (List.mem_of_getElem? (i := 226) rfl) rfl
theorem im_Dr_sumUp : Cond.instanceMethod y_Dr_sumUp ∈ rw_ok := rt_3 (List.mem_of_getElem? (i := 227) rfl) rfl
theorem se_Dr_sumUp : Cond.selects "RowAligner$Draft" y_Dr_sumUp y_Dr_sumUp ∈ rw_ok := rt_3 (List.mem_of_getElem? (i := 228) rfl) rfl
theorem co_Dr_sumUp : Cond.code y_Dr_sumUp prog_3_method_4_code 9 (some .int) ∈ rw_ok := rt_3 (List.mem_of_getElem? (i := 229) rfl) rfl
theorem ml_Dr_38 : Cond.methodLink "RowAligner$Draft" 38 y_Gr_pairScore ∈ rw_ok := rt_3 (List.mem_of_getElem? (i := 230) rfl) rfl
theorem ml_Dr_42 : Cond.methodLink "RowAligner$Draft" 42 y_Gr_isOneFree ∈ rw_ok := rt_3 (List.mem_of_getElem? (i := 231) rfl) rfl
theorem ml_Dr_46 : Cond.methodLink "RowAligner$Draft" 46 y_Gr_isOtherFree ∈ rw_ok := rt_3 (List.mem_of_getElem? (i := 232) rfl) rfl
theorem ct_Ra_211 : Cond.constant "RowAligner" 211 (-1000000 : Int32) ∈ rw_ok := rt_3 (List.mem_of_getElem? (i := 233) rfl) rfl
theorem cl_Lw_79 : Cond.classLink "RowAlignerLaw" 79 "RowAlignerModel" ∈ rw_ok := rt_3 (List.mem_of_getElem? (i := 234) rfl) rfl
theorem it_Mo : Cond.instantiable "RowAlignerModel" 18 ∈ rw_ok := rt_3 (List.mem_of_getElem? (i := 235) rfl) rfl
theorem ml_Lw_81 : Cond.methodLink "RowAlignerLaw" 81 y_Mo_init ∈ rw_ok := rt_3 (List.mem_of_getElem? (i := 236) rfl) rfl
theorem im_Mo_init : Cond.instanceMethod y_Mo_init ∈ rw_ok := rt_3 (List.mem_of_getElem? (i := 237) rfl) rfl
theorem co_Mo_init : Cond.code y_Mo_init prog_12_method_1_code 1 none ∈ rw_ok := rt_3 (List.mem_of_getElem? (i := 238) rfl) rfl
theorem ml_Mo_1 : Cond.methodLink "RowAlignerModel" 1 (⟨"java/lang/Object", "<init>", "()V"⟩ : MethodName) ∈ rw_ok := rt_3 (List.mem_of_getElem? (i := 239) rfl) rfl
theorem ml_Mo_48 : Cond.methodLink "RowAlignerModel" 48 y_Mo_setScores ∈ rw_ok := rt_4 (List.mem_of_getElem? (i := 0) rfl) rfl
theorem im_Mo_setScores : Cond.instanceMethod y_Mo_setScores ∈ rw_ok := rt_4 (List.mem_of_getElem? (i := 2) rfl) rfl
theorem co_Mo_setScores : Cond.code y_Mo_setScores prog_12_method_3_code 4 none ∈ rw_ok := rt_4 (List.mem_of_getElem? (i := 3) rfl) rfl
theorem fl_Mo_52 : Cond.fieldLink "RowAlignerModel" 52 "RowAlignerModel" "code" "I" ∈ rw_ok := rt_4 (List.mem_of_getElem? (i := 4) rfl) rfl
theorem fl_Mo_7 : Cond.fieldLink "RowAlignerModel" 7 "RowAlignerModel" "letters" "[I" ∈ rw_ok := rt_4 (List.mem_of_getElem? (i := 5) rfl) rfl
theorem fl_Mo_13 : Cond.fieldLink "RowAlignerModel" 13 "RowAlignerModel" "sizes" "[I" ∈ rw_ok := rt_4 (List.mem_of_getElem? (i := 6) rfl) rfl
theorem fl_Mo_16 : Cond.fieldLink "RowAlignerModel" 16 "RowAlignerModel" "scores" "[I" ∈ rw_ok := rt_4 (List.mem_of_getElem? (i := 7) rfl) rfl
theorem fl_Mo_19 : Cond.fieldLink "RowAlignerModel" 19 "RowAlignerModel" "open" "I" ∈ rw_ok := rt_4 (List.mem_of_getElem? (i := 8) rfl) rfl
theorem fl_Mo_23 : Cond.fieldLink "RowAlignerModel" 23 "RowAlignerModel" "more" "I" ∈ rw_ok := rt_4 (List.mem_of_getElem? (i := 9) rfl) rfl
theorem fl_Mo_61 : Cond.fieldLink "RowAlignerModel" 61 "RowAlignerModel" "laid" "Z" ∈ rw_ok := rt_4 (List.mem_of_getElem? (i := 10) rfl) rfl
theorem fl_Mo_76 : Cond.fieldLink "RowAlignerModel" 76 "RowAlignerModel" "ofParts" "Z" ∈ rw_ok := rt_4 (List.mem_of_getElem? (i := 11) rfl) rfl
theorem fl_Mo_69 : Cond.fieldLink "RowAlignerModel" 69 "RowAlignerModel" "freeEnds" "I" ∈ rw_ok := rt_4 (List.mem_of_getElem? (i := 12) rfl) rfl
theorem fl_Mo_26 : Cond.fieldLink "RowAlignerModel" 26 "RowAlignerModel" "steps" "[I" ∈ rw_ok := rt_4 (List.mem_of_getElem? (i := 13) rfl) rfl
theorem fl_Mo_98 : Cond.fieldLink "RowAlignerModel" 98 "RowAlignerModel" "stepCount" "I" ∈ rw_ok := rt_4 (List.mem_of_getElem? (i := 14) rfl) rfl
theorem fl_Mo_29 : Cond.fieldLink "RowAlignerModel" 29 "RowAlignerModel" "begins" "[I" ∈ rw_ok := rt_4 (List.mem_of_getElem? (i := 15) rfl) rfl
theorem fl_Mo_32 : Cond.fieldLink "RowAlignerModel" 32 "RowAlignerModel" "ends" "[I" ∈ rw_ok := rt_4 (List.mem_of_getElem? (i := 16) rfl) rfl
theorem fl_Mo_35 : Cond.fieldLink "RowAlignerModel" 35 "RowAlignerModel" "best" "[I" ∈ rw_ok := rt_4 (List.mem_of_getElem? (i := 17) rfl) rfl
theorem fl_Mo_38 : Cond.fieldLink "RowAlignerModel" 38 "RowAlignerModel" "ways" "[J" ∈ rw_ok := rt_4 (List.mem_of_getElem? (i := 18) rfl) rfl
theorem fl_Mo_42 : Cond.fieldLink "RowAlignerModel" 42 "RowAlignerModel" "led" "[I" ∈ rw_ok := rt_4 (List.mem_of_getElem? (i := 19) rfl) rfl
theorem fl_Mo_45 : Cond.fieldLink "RowAlignerModel" 45 "RowAlignerModel" "draft" "[I" ∈ rw_ok := rt_4 (List.mem_of_getElem? (i := 20) rfl) rfl
theorem fl_Mo_145 : Cond.fieldLink "RowAlignerModel" 145 "RowAlignerModel" "drawn" "I" ∈ rw_ok := rt_4 (List.mem_of_getElem? (i := 21) rfl) rfl
theorem ly_Mo_code : Cond.lays "RowAlignerModel" "RowAlignerModel" "code" "I" ∈ rw_ok := rt_4 (List.mem_of_getElem? (i := 22) rfl) rfl
theorem ly_Mo_letters : Cond.laysFinal "RowAlignerModel" "RowAlignerModel" "letters" "[I" ∈ rw_ok := rt_4 (List.mem_of_getElem? (i := 24) rfl) rfl
theorem ly_Mo_sizes : Cond.laysFinal "RowAlignerModel" "RowAlignerModel" "sizes" "[I" ∈ rw_ok := rt_4 (List.mem_of_getElem? (i := 26) rfl) rfl
theorem ly_Mo_scores : Cond.laysFinal "RowAlignerModel" "RowAlignerModel" "scores" "[I" ∈ rw_ok := rt_4 (List.mem_of_getElem? (i := 28) rfl) rfl
theorem ly_Mo_open : Cond.lays "RowAlignerModel" "RowAlignerModel" "open" "I" ∈ rw_ok := rt_4 (List.mem_of_getElem? (i := 30) rfl) rfl
theorem ly_Mo_more : Cond.lays "RowAlignerModel" "RowAlignerModel" "more" "I" ∈ rw_ok := rt_4 (List.mem_of_getElem? (i := 32) rfl) rfl
theorem ly_Mo_laid : Cond.lays "RowAlignerModel" "RowAlignerModel" "laid" "Z" ∈ rw_ok := rt_4 (List.mem_of_getElem? (i := 34) rfl) rfl
theorem ly_Mo_ofParts : Cond.lays "RowAlignerModel" "RowAlignerModel" "ofParts" "Z" ∈ rw_ok := rt_4 (List.mem_of_getElem? (i := 36) rfl) rfl
theorem ly_Mo_freeEnds : Cond.lays "RowAlignerModel" "RowAlignerModel" "freeEnds" "I" ∈ rw_ok := rt_4 (List.mem_of_getElem? (i := 38) rfl) rfl
theorem ly_Mo_steps : Cond.laysFinal "RowAlignerModel" "RowAlignerModel" "steps" "[I" ∈ rw_ok := rt_4 (List.mem_of_getElem? (i := 40) rfl) rfl
theorem ly_Mo_stepCount : Cond.lays "RowAlignerModel" "RowAlignerModel" "stepCount" "I" ∈ rw_ok := rt_4 (List.mem_of_getElem? (i := 42) rfl) rfl
theorem ly_Mo_begins : Cond.laysFinal "RowAlignerModel" "RowAlignerModel" "begins" "[I" ∈ rw_ok := rt_4 (List.mem_of_getElem? (i := 44) rfl) rfl
theorem ly_Mo_ends : Cond.laysFinal "RowAlignerModel" "RowAlignerModel" "ends" "[I" ∈ rw_ok := rt_4 (List.mem_of_getElem? (i := 46) rfl) rfl
theorem ly_Mo_best : Cond.laysFinal "RowAlignerModel" "RowAlignerModel" "best" "[I" ∈ rw_ok := rt_4 (List.mem_of_getElem? (i := 48) rfl) rfl
theorem ly_Mo_ways : Cond.laysFinal "RowAlignerModel" "RowAlignerModel" "ways" "[J" ∈ rw_ok := rt_4 (List.mem_of_getElem? (i := 50) rfl) rfl
theorem ly_Mo_led : Cond.laysFinal "RowAlignerModel" "RowAlignerModel" "led" "[I" ∈ rw_ok := rt_4 (List.mem_of_getElem? (i := 52) rfl) rfl
theorem ly_Mo_draft : Cond.laysFinal "RowAlignerModel" "RowAlignerModel" "draft" "[I" ∈ rw_ok := rt_4 (List.mem_of_getElem? (i := 54) rfl) rfl
theorem ly_Mo_drawn : Cond.lays "RowAlignerModel" "RowAlignerModel" "drawn" "I" ∈ rw_ok := rt_4 (List.mem_of_getElem? (i := 56) rfl) rfl
theorem ml_Lw_90 : Cond.methodLink "RowAlignerLaw" 90 y_Mo_thrown ∈ rw_ok := rt_4 (List.mem_of_getElem? (i := 59) rfl) rfl
theorem im_Mo_thrown : Cond.instanceMethod y_Mo_thrown ∈ rw_ok := rt_4 (List.mem_of_getElem? (i := 60) rfl) rfl
theorem se_Mo_thrown : Cond.selects "RowAlignerModel" y_Mo_thrown y_Mo_thrown ∈ rw_ok := rt_4 (List.mem_of_getElem? (i := 61) rfl) rfl
theorem co_Mo_thrown : Cond.code y_Mo_thrown prog_12_method_2_code 1 (some .int) ∈ rw_ok := rt_4 (List.mem_of_getElem? (i := 62) rfl) rfl
theorem ml_Lw_89 : Cond.methodLink "RowAlignerLaw" 89 y_Mo_type ∈ rw_ok := rt_4 (List.mem_of_getElem? (i := 63) rfl) rfl
theorem im_Mo_type : Cond.instanceMethod y_Mo_type ∈ rw_ok := rt_4 (List.mem_of_getElem? (i := 64) rfl) rfl
theorem se_Mo_type : Cond.selects "RowAlignerModel" y_Mo_type y_Mo_type ∈ rw_ok := rt_4 (List.mem_of_getElem? (i := 65) rfl) rfl
theorem co_Mo_type : Cond.code y_Mo_type prog_12_method_5_code 7 (some .int) ∈ rw_ok := rt_4 (List.mem_of_getElem? (i := 66) rfl) rfl
theorem ml_Mo_55 : Cond.methodLink "RowAlignerModel" 55 y_Mo_noRow ∈ rw_ok := rt_4 (List.mem_of_getElem? (i := 67) rfl) rfl
theorem im_Mo_noRow : Cond.instanceMethod y_Mo_noRow ∈ rw_ok := rt_4 (List.mem_of_getElem? (i := 69) rfl) rfl
theorem co_Mo_noRow : Cond.code y_Mo_noRow prog_12_method_4_code 2 (some .boolean) ∈ rw_ok := rt_4 (List.mem_of_getElem? (i := 70) rfl) rfl
theorem cL_Mo_59 : Cond.constantLong "RowAlignerModel" 59 (255 : Int64) ∈ rw_ok := rt_4 (List.mem_of_getElem? (i := 71) rfl) rfl
theorem ml_Lw_96 : Cond.methodLink "RowAlignerLaw" 96 y_Mo_cut ∈ rw_ok := rt_4 (List.mem_of_getElem? (i := 72) rfl) rfl
theorem im_Mo_cut : Cond.instanceMethod y_Mo_cut ∈ rw_ok := rt_4 (List.mem_of_getElem? (i := 73) rfl) rfl
theorem se_Mo_cut : Cond.selects "RowAlignerModel" y_Mo_cut y_Mo_cut ∈ rw_ok := rt_4 (List.mem_of_getElem? (i := 74) rfl) rfl
theorem co_Mo_cut : Cond.code y_Mo_cut prog_12_method_6_code 3 none ∈ rw_ok := rt_4 (List.mem_of_getElem? (i := 75) rfl) rfl
theorem ml_Lw_100 : Cond.methodLink "RowAlignerLaw" 100 y_Mo_turn ∈ rw_ok := rt_4 (List.mem_of_getElem? (i := 76) rfl) rfl
theorem im_Mo_turn : Cond.instanceMethod y_Mo_turn ∈ rw_ok := rt_4 (List.mem_of_getElem? (i := 77) rfl) rfl
theorem se_Mo_turn : Cond.selects "RowAlignerModel" y_Mo_turn y_Mo_turn ∈ rw_ok := rt_4 (List.mem_of_getElem? (i := 78) rfl) rfl
theorem co_Mo_turn : Cond.code y_Mo_turn prog_12_method_7_code 6 none ∈ rw_ok := rt_4 (List.mem_of_getElem? (i := 79) rfl) rfl
theorem ml_Lw_104 : Cond.methodLink "RowAlignerLaw" 104 y_Mo_letter ∈ rw_ok := rt_4 (List.mem_of_getElem? (i := 80) rfl) rfl
theorem im_Mo_letter : Cond.instanceMethod y_Mo_letter ∈ rw_ok := rt_4 (List.mem_of_getElem? (i := 81) rfl) rfl
theorem se_Mo_letter : Cond.selects "RowAlignerModel" y_Mo_letter y_Mo_letter ∈ rw_ok := rt_4 (List.mem_of_getElem? (i := 82) rfl) rfl
theorem co_Mo_letter : Cond.code y_Mo_letter prog_12_method_8_code 3 (some .int) ∈ rw_ok := rt_4 (List.mem_of_getElem? (i := 83) rfl) rfl
theorem ml_Lw_108 : Cond.methodLink "RowAlignerLaw" 108 y_Mo_size ∈ rw_ok := rt_4 (List.mem_of_getElem? (i := 84) rfl) rfl
theorem im_Mo_size : Cond.instanceMethod y_Mo_size ∈ rw_ok := rt_4 (List.mem_of_getElem? (i := 85) rfl) rfl
theorem se_Mo_size : Cond.selects "RowAlignerModel" y_Mo_size y_Mo_size ∈ rw_ok := rt_4 (List.mem_of_getElem? (i := 86) rfl) rfl
theorem co_Mo_size : Cond.code y_Mo_size prog_12_method_9_code 2 (some .int) ∈ rw_ok := rt_4 (List.mem_of_getElem? (i := 87) rfl) rfl
theorem ml_Lw_112 : Cond.methodLink "RowAlignerLaw" 112 y_Mo_score ∈ rw_ok := rt_4 (List.mem_of_getElem? (i := 88) rfl) rfl
theorem im_Mo_score : Cond.instanceMethod y_Mo_score ∈ rw_ok := rt_4 (List.mem_of_getElem? (i := 89) rfl) rfl
theorem se_Mo_score : Cond.selects "RowAlignerModel" y_Mo_score y_Mo_score ∈ rw_ok := rt_4 (List.mem_of_getElem? (i := 90) rfl) rfl
theorem co_Mo_score : Cond.code y_Mo_score prog_12_method_11_code 4 none ∈ rw_ok := rt_4 (List.mem_of_getElem? (i := 91) rfl) rfl
theorem ml_Mo_65 : Cond.methodLink "RowAlignerModel" 65 y_Mo_isIn ∈ rw_ok := rt_4 (List.mem_of_getElem? (i := 92) rfl) rfl
theorem st_Mo_isIn : Cond.static y_Mo_isIn ∈ rw_ok := rt_4 (List.mem_of_getElem? (i := 93) rfl) rfl
theorem co_Mo_isIn : Cond.code y_Mo_isIn prog_12_method_10_code 3 (some .boolean) ∈ rw_ok := rt_4 (List.mem_of_getElem? (i := 94) rfl) rfl
theorem ml_Lw_115 : Cond.methodLink "RowAlignerLaw" 115 y_Mo_scores ∈ rw_ok := rt_4 (List.mem_of_getElem? (i := 95) rfl) rfl
theorem im_Mo_scores : Cond.instanceMethod y_Mo_scores ∈ rw_ok := rt_4 (List.mem_of_getElem? (i := 96) rfl) rfl
theorem se_Mo_scores : Cond.selects "RowAlignerModel" y_Mo_scores y_Mo_scores ∈ rw_ok := rt_4 (List.mem_of_getElem? (i := 97) rfl) rfl
theorem co_Mo_scores : Cond.code y_Mo_scores prog_12_method_12_code 3 none ∈ rw_ok := rt_4 (List.mem_of_getElem? (i := 98) rfl) rfl
theorem ml_Lw_118 : Cond.methodLink "RowAlignerLaw" 118 y_Mo_costs ∈ rw_ok := rt_4 (List.mem_of_getElem? (i := 99) rfl) rfl
theorem im_Mo_costs : Cond.instanceMethod y_Mo_costs ∈ rw_ok := rt_4 (List.mem_of_getElem? (i := 100) rfl) rfl
theorem se_Mo_costs : Cond.selects "RowAlignerModel" y_Mo_costs y_Mo_costs ∈ rw_ok := rt_4 (List.mem_of_getElem? (i := 101) rfl) rfl
theorem co_Mo_costs : Cond.code y_Mo_costs prog_12_method_13_code 3 none ∈ rw_ok := rt_4 (List.mem_of_getElem? (i := 102) rfl) rfl
theorem ml_Lw_121 : Cond.methodLink "RowAlignerLaw" 121 y_Mo_whole ∈ rw_ok := rt_4 (List.mem_of_getElem? (i := 103) rfl) rfl
theorem im_Mo_whole : Cond.instanceMethod y_Mo_whole ∈ rw_ok := rt_4 (List.mem_of_getElem? (i := 104) rfl) rfl
theorem se_Mo_whole : Cond.selects "RowAlignerModel" y_Mo_whole y_Mo_whole ∈ rw_ok := rt_4 (List.mem_of_getElem? (i := 105) rfl) rfl
theorem co_Mo_whole : Cond.code y_Mo_whole prog_12_method_25_code 2 (some .int) ∈ rw_ok := rt_4 (List.mem_of_getElem? (i := 106) rfl) rfl
theorem ml_Mo_110 : Cond.methodLink "RowAlignerModel" 110 y_Mo_reckonAll ∈ rw_ok := rt_4 (List.mem_of_getElem? (i := 107) rfl) rfl
theorem im_Mo_reckonAll : Cond.instanceMethod y_Mo_reckonAll ∈ rw_ok := rt_4 (List.mem_of_getElem? (i := 109) rfl) rfl
theorem co_Mo_reckonAll : Cond.code y_Mo_reckonAll prog_12_method_19_code 4 none ∈ rw_ok := rt_4 (List.mem_of_getElem? (i := 110) rfl) rfl
theorem ml_Mo_92 : Cond.methodLink "RowAlignerModel" 92 y_Mo_reckon ∈ rw_ok := rt_4 (List.mem_of_getElem? (i := 111) rfl) rfl
theorem im_Mo_reckon : Cond.instanceMethod y_Mo_reckon ∈ rw_ok := rt_4 (List.mem_of_getElem? (i := 113) rfl) rfl
theorem co_Mo_reckon : Cond.code y_Mo_reckon prog_12_method_17_code 7 none ∈ rw_ok := rt_4 (List.mem_of_getElem? (i := 114) rfl) rfl
theorem ml_Mo_72 : Cond.methodLink "RowAlignerModel" 72 y_Mo_at ∈ rw_ok := rt_4 (List.mem_of_getElem? (i := 115) rfl) rfl
theorem st_Mo_at : Cond.static y_Mo_at ∈ rw_ok := rt_4 (List.mem_of_getElem? (i := 116) rfl) rfl
theorem co_Mo_at : Cond.code y_Mo_at prog_12_method_16_code 3 (some .int) ∈ rw_ok := rt_4 (List.mem_of_getElem? (i := 117) rfl) rfl
theorem ct_Mo_79 : Cond.constant "RowAlignerModel" 79 (-100000000 : Int32) ∈ rw_ok := rt_4 (List.mem_of_getElem? (i := 118) rfl) rfl
theorem ml_Mo_80 : Cond.methodLink "RowAlignerModel" 80 y_Mo_scoreAt ∈ rw_ok := rt_4 (List.mem_of_getElem? (i := 119) rfl) rfl
theorem im_Mo_scoreAt : Cond.instanceMethod y_Mo_scoreAt ∈ rw_ok := rt_4 (List.mem_of_getElem? (i := 121) rfl) rfl
theorem co_Mo_scoreAt : Cond.code y_Mo_scoreAt prog_12_method_14_code 3 (some .int) ∈ rw_ok := rt_4 (List.mem_of_getElem? (i := 122) rfl) rfl
theorem ml_Mo_84 : Cond.methodLink "RowAlignerModel" 84 y_Mo_offer ∈ rw_ok := rt_4 (List.mem_of_getElem? (i := 123) rfl) rfl
theorem im_Mo_offer : Cond.instanceMethod y_Mo_offer ∈ rw_ok := rt_4 (List.mem_of_getElem? (i := 125) rfl) rfl
theorem co_Mo_offer : Cond.code y_Mo_offer prog_12_method_18_code 5 none ∈ rw_ok := rt_4 (List.mem_of_getElem? (i := 126) rfl) rfl
theorem ml_Mo_88 : Cond.methodLink "RowAlignerModel" 88 y_Mo_gap ∈ rw_ok := rt_4 (List.mem_of_getElem? (i := 127) rfl) rfl
theorem im_Mo_gap : Cond.instanceMethod y_Mo_gap ∈ rw_ok := rt_4 (List.mem_of_getElem? (i := 129) rfl) rfl
theorem co_Mo_gap : Cond.code y_Mo_gap prog_12_method_15_code 10 (some .int) ∈ rw_ok := rt_4 (List.mem_of_getElem? (i := 130) rfl) rfl
theorem ml_Mo_113 : Cond.methodLink "RowAlignerModel" 113 y_Mo_follow ∈ rw_ok := rt_4 (List.mem_of_getElem? (i := 131) rfl) rfl
theorem im_Mo_follow : Cond.instanceMethod y_Mo_follow ∈ rw_ok := rt_4 (List.mem_of_getElem? (i := 133) rfl) rfl
theorem co_Mo_follow : Cond.code y_Mo_follow prog_12_method_22_code 11 none ∈ rw_ok := rt_4 (List.mem_of_getElem? (i := 134) rfl) rfl
theorem ml_Mo_95 : Cond.methodLink "RowAlignerModel" 95 y_Mo_isGoal ∈ rw_ok := rt_4 (List.mem_of_getElem? (i := 135) rfl) rfl
theorem im_Mo_isGoal : Cond.instanceMethod y_Mo_isGoal ∈ rw_ok := rt_4 (List.mem_of_getElem? (i := 137) rfl) rfl
theorem co_Mo_isGoal : Cond.code y_Mo_isGoal prog_12_method_20_code 4 (some .boolean) ∈ rw_ok := rt_4 (List.mem_of_getElem? (i := 138) rfl) rfl
theorem ml_Mo_101 : Cond.methodLink "RowAlignerModel" 101 y_Mo_put ∈ rw_ok := rt_4 (List.mem_of_getElem? (i := 139) rfl) rfl
theorem im_Mo_put : Cond.instanceMethod y_Mo_put ∈ rw_ok := rt_4 (List.mem_of_getElem? (i := 141) rfl) rfl
theorem co_Mo_put : Cond.code y_Mo_put prog_12_method_24_code 4 none ∈ rw_ok := rt_4 (List.mem_of_getElem? (i := 142) rfl) rfl
theorem ml_Mo_104 : Cond.methodLink "RowAlignerModel" 104 y_Mo_gapOfOne ∈ rw_ok := rt_4 (List.mem_of_getElem? (i := 143) rfl) rfl
theorem im_Mo_gapOfOne : Cond.instanceMethod y_Mo_gapOfOne ∈ rw_ok := rt_4 (List.mem_of_getElem? (i := 145) rfl) rfl
theorem co_Mo_gapOfOne : Cond.code y_Mo_gapOfOne prog_12_method_23_code 9 (some .int) ∈ rw_ok := rt_4 (List.mem_of_getElem? (i := 146) rfl) rfl
theorem ml_Mo_107 : Cond.methodLink "RowAlignerModel" 107 y_Mo_gapHere ∈ rw_ok := rt_4 (List.mem_of_getElem? (i := 147) rfl) rfl
theorem im_Mo_gapHere : Cond.instanceMethod y_Mo_gapHere ∈ rw_ok := rt_4 (List.mem_of_getElem? (i := 149) rfl) rfl
theorem co_Mo_gapHere : Cond.code y_Mo_gapHere prog_12_method_21_code 9 (some .int) ∈ rw_ok := rt_4 (List.mem_of_getElem? (i := 150) rfl) rfl
theorem ml_Lw_125 : Cond.methodLink "RowAlignerLaw" 125 y_Mo_parts ∈ rw_ok := rt_4 (List.mem_of_getElem? (i := 151) rfl) rfl
theorem im_Mo_parts : Cond.instanceMethod y_Mo_parts ∈ rw_ok := rt_4 (List.mem_of_getElem? (i := 152) rfl) rfl
theorem se_Mo_parts : Cond.selects "RowAlignerModel" y_Mo_parts y_Mo_parts ∈ rw_ok := rt_4 (List.mem_of_getElem? (i := 153) rfl) rfl
theorem co_Mo_parts : Cond.code y_Mo_parts prog_12_method_26_code 5 (some .int) ∈ rw_ok := rt_4 (List.mem_of_getElem? (i := 154) rfl) rfl
theorem ml_Lw_129 : Cond.methodLink "RowAlignerLaw" 129 y_Mo_steps ∈ rw_ok := rt_4 (List.mem_of_getElem? (i := 155) rfl) rfl
theorem im_Mo_steps : Cond.instanceMethod y_Mo_steps ∈ rw_ok := rt_4 (List.mem_of_getElem? (i := 156) rfl) rfl
theorem se_Mo_steps : Cond.selects "RowAlignerModel" y_Mo_steps y_Mo_steps ∈ rw_ok := rt_4 (List.mem_of_getElem? (i := 157) rfl) rfl
theorem co_Mo_steps : Cond.code y_Mo_steps prog_12_method_27_code 1 (some .int) ∈ rw_ok := rt_4 (List.mem_of_getElem? (i := 158) rfl) rfl
theorem ml_Lw_132 : Cond.methodLink "RowAlignerLaw" 132 y_Mo_step ∈ rw_ok := rt_4 (List.mem_of_getElem? (i := 159) rfl) rfl
theorem im_Mo_step : Cond.instanceMethod y_Mo_step ∈ rw_ok := rt_4 (List.mem_of_getElem? (i := 160) rfl) rfl
theorem se_Mo_step : Cond.selects "RowAlignerModel" y_Mo_step y_Mo_step ∈ rw_ok := rt_4 (List.mem_of_getElem? (i := 161) rfl) rfl
theorem co_Mo_step : Cond.code y_Mo_step prog_12_method_28_code 2 (some .int) ∈ rw_ok := rt_4 (List.mem_of_getElem? (i := 162) rfl) rfl
theorem ml_Lw_136 : Cond.methodLink "RowAlignerLaw" 136 y_Mo_place ∈ rw_ok := rt_4 (List.mem_of_getElem? (i := 163) rfl) rfl
theorem im_Mo_place : Cond.instanceMethod y_Mo_place ∈ rw_ok := rt_4 (List.mem_of_getElem? (i := 164) rfl) rfl
theorem se_Mo_place : Cond.selects "RowAlignerModel" y_Mo_place y_Mo_place ∈ rw_ok := rt_4 (List.mem_of_getElem? (i := 165) rfl) rfl
theorem co_Mo_place : Cond.code y_Mo_place prog_12_method_29_code 3 (some .int) ∈ rw_ok := rt_4 (List.mem_of_getElem? (i := 166) rfl) rfl
theorem ml_Lw_139 : Cond.methodLink "RowAlignerLaw" 139 y_Mo_count ∈ rw_ok := rt_4 (List.mem_of_getElem? (i := 167) rfl) rfl
theorem im_Mo_count : Cond.instanceMethod y_Mo_count ∈ rw_ok := rt_4 (List.mem_of_getElem? (i := 168) rfl) rfl
theorem se_Mo_count : Cond.selects "RowAlignerModel" y_Mo_count y_Mo_count ∈ rw_ok := rt_4 (List.mem_of_getElem? (i := 169) rfl) rfl
theorem co_Mo_count : Cond.code y_Mo_count prog_12_method_34_code 2 (some .int) ∈ rw_ok := rt_4 (List.mem_of_getElem? (i := 170) rfl) rfl
theorem ml_Mo_116 : Cond.methodLink "RowAlignerModel" 116 y_Mo_runsNow ∈ rw_ok := rt_4 (List.mem_of_getElem? (i := 171) rfl) rfl
theorem im_Mo_runsNow : Cond.instanceMethod y_Mo_runsNow ∈ rw_ok := rt_4 (List.mem_of_getElem? (i := 173) rfl) rfl
theorem co_Mo_runsNow : Cond.code y_Mo_runsNow prog_12_method_30_code 3 (some .int) ∈ rw_ok := rt_4 (List.mem_of_getElem? (i := 174) rfl) rfl
theorem ml_Mo_120 : Cond.methodLink "RowAlignerModel" 120 y_Mo_samePairs ∈ rw_ok := rt_4 (List.mem_of_getElem? (i := 175) rfl) rfl
theorem im_Mo_samePairs : Cond.instanceMethod y_Mo_samePairs ∈ rw_ok := rt_4 (List.mem_of_getElem? (i := 177) rfl) rfl
theorem co_Mo_samePairs : Cond.code y_Mo_samePairs prog_12_method_31_code 6 (some .int) ∈ rw_ok := rt_4 (List.mem_of_getElem? (i := 178) rfl) rfl
theorem ml_Mo_123 : Cond.methodLink "RowAlignerModel" 123 y_Mo_gapsNow ∈ rw_ok := rt_4 (List.mem_of_getElem? (i := 179) rfl) rfl
theorem im_Mo_gapsNow : Cond.instanceMethod y_Mo_gapsNow ∈ rw_ok := rt_4 (List.mem_of_getElem? (i := 181) rfl) rfl
theorem co_Mo_gapsNow : Cond.code y_Mo_gapsNow prog_12_method_32_code 3 (some .int) ∈ rw_ok := rt_4 (List.mem_of_getElem? (i := 182) rfl) rfl
theorem ml_Mo_126 : Cond.methodLink "RowAlignerModel" 126 y_Mo_lettersInGaps ∈ rw_ok := rt_4 (List.mem_of_getElem? (i := 183) rfl) rfl
theorem im_Mo_lettersInGaps : Cond.instanceMethod y_Mo_lettersInGaps ∈ rw_ok := rt_4 (List.mem_of_getElem? (i := 185) rfl) rfl
theorem co_Mo_lettersInGaps : Cond.code y_Mo_lettersInGaps prog_12_method_33_code 3 (some .int) ∈ rw_ok := rt_4 (List.mem_of_getElem? (i := 186) rfl) rfl
theorem ml_Lw_142 : Cond.methodLink "RowAlignerLaw" 142 y_Mo_run ∈ rw_ok := rt_4 (List.mem_of_getElem? (i := 187) rfl) rfl
theorem im_Mo_run : Cond.instanceMethod y_Mo_run ∈ rw_ok := rt_4 (List.mem_of_getElem? (i := 188) rfl) rfl
theorem se_Mo_run : Cond.selects "RowAlignerModel" y_Mo_run y_Mo_run ∈ rw_ok := rt_4 (List.mem_of_getElem? (i := 189) rfl) rfl
theorem co_Mo_run : Cond.code y_Mo_run prog_12_method_35_code 7 (some .int) ∈ rw_ok := rt_4 (List.mem_of_getElem? (i := 190) rfl) rfl
theorem ml_Lw_145 : Cond.methodLink "RowAlignerLaw" 145 y_Mo_ways ∈ rw_ok := rt_4 (List.mem_of_getElem? (i := 191) rfl) rfl
theorem im_Mo_ways : Cond.instanceMethod y_Mo_ways ∈ rw_ok := rt_4 (List.mem_of_getElem? (i := 192) rfl) rfl
theorem se_Mo_ways : Cond.selects "RowAlignerModel" y_Mo_ways y_Mo_ways ∈ rw_ok := rt_4 (List.mem_of_getElem? (i := 193) rfl) rfl
theorem co_Mo_ways : Cond.code y_Mo_ways prog_12_method_36_code 6 (some .long) ∈ rw_ok := rt_4 (List.mem_of_getElem? (i := 194) rfl) rfl
theorem cL_Mo_129 : Cond.constantLong "RowAlignerModel" 129 (9223372036854775807 : Int64) ∈ rw_ok := rt_4 (List.mem_of_getElem? (i := 195) rfl) rfl
theorem ml_Lw_148 : Cond.methodLink "RowAlignerLaw" 148 y_Mo_crossing ∈ rw_ok := rt_4 (List.mem_of_getElem? (i := 196) rfl) rfl
theorem im_Mo_crossing : Cond.instanceMethod y_Mo_crossing ∈ rw_ok := rt_4 (List.mem_of_getElem? (i := 197) rfl) rfl
theorem se_Mo_crossing : Cond.selects "RowAlignerModel" y_Mo_crossing y_Mo_crossing ∈ rw_ok := rt_4 (List.mem_of_getElem? (i := 198) rfl) rfl
theorem co_Mo_crossing : Cond.code y_Mo_crossing prog_12_method_41_code 5 (some .int) ∈ rw_ok := rt_4 (List.mem_of_getElem? (i := 199) rfl) rfl
theorem ml_Mo_139 : Cond.methodLink "RowAlignerModel" 139 y_Mo_leadFrom ∈ rw_ok := rt_4 (List.mem_of_getElem? (i := 200) rfl) rfl
theorem im_Mo_leadFrom : Cond.instanceMethod y_Mo_leadFrom ∈ rw_ok := rt_4 (List.mem_of_getElem? (i := 202) rfl) rfl
theorem co_Mo_leadFrom : Cond.code y_Mo_leadFrom prog_12_method_38_code 6 none ∈ rw_ok := rt_4 (List.mem_of_getElem? (i := 203) rfl) rfl
theorem ml_Mo_131 : Cond.methodLink "RowAlignerModel" 131 y_Mo_lead ∈ rw_ok := rt_4 (List.mem_of_getElem? (i := 204) rfl) rfl
theorem im_Mo_lead : Cond.instanceMethod y_Mo_lead ∈ rw_ok := rt_4 (List.mem_of_getElem? (i := 206) rfl) rfl
theorem co_Mo_lead : Cond.code y_Mo_lead prog_12_method_37_code 6 none ∈ rw_ok := rt_4 (List.mem_of_getElem? (i := 207) rfl) rfl
theorem ml_Mo_142 : Cond.methodLink "RowAlignerModel" 142 y_Mo_crosses ∈ rw_ok := rt_4 (List.mem_of_getElem? (i := 208) rfl) rfl
theorem im_Mo_crosses : Cond.instanceMethod y_Mo_crosses ∈ rw_ok := rt_4 (List.mem_of_getElem? (i := 210) rfl) rfl
theorem co_Mo_crosses : Cond.code y_Mo_crosses prog_12_method_39_code 6 (some .boolean) ∈ rw_ok := rt_4 (List.mem_of_getElem? (i := 211) rfl) rfl
theorem ml_Mo_135 : Cond.methodLink "RowAlignerModel" 135 y_Mo_crossesGap ∈ rw_ok := rt_4 (List.mem_of_getElem? (i := 212) rfl) rfl
theorem im_Mo_crossesGap : Cond.instanceMethod y_Mo_crossesGap ∈ rw_ok := rt_4 (List.mem_of_getElem? (i := 214) rfl) rfl
theorem co_Mo_crossesGap : Cond.code y_Mo_crossesGap prog_12_method_40_code 16 (some .boolean) ∈ rw_ok := rt_4 (List.mem_of_getElem? (i := 215) rfl) rfl
theorem ml_Lw_151 : Cond.methodLink "RowAlignerLaw" 151 y_Mo_draw ∈ rw_ok := rt_4 (List.mem_of_getElem? (i := 216) rfl) rfl
theorem im_Mo_draw : Cond.instanceMethod y_Mo_draw ∈ rw_ok := rt_4 (List.mem_of_getElem? (i := 217) rfl) rfl
theorem se_Mo_draw : Cond.selects "RowAlignerModel" y_Mo_draw y_Mo_draw ∈ rw_ok := rt_4 (List.mem_of_getElem? (i := 218) rfl) rfl
theorem co_Mo_draw : Cond.code y_Mo_draw prog_12_method_42_code 2 (some .int) ∈ rw_ok := rt_4 (List.mem_of_getElem? (i := 219) rfl) rfl
theorem ml_Lw_155 : Cond.methodLink "RowAlignerLaw" 155 y_Mo_wipe ∈ rw_ok := rt_4 (List.mem_of_getElem? (i := 220) rfl) rfl
theorem im_Mo_wipe : Cond.instanceMethod y_Mo_wipe ∈ rw_ok := rt_4 (List.mem_of_getElem? (i := 221) rfl) rfl
theorem se_Mo_wipe : Cond.selects "RowAlignerModel" y_Mo_wipe y_Mo_wipe ∈ rw_ok := rt_4 (List.mem_of_getElem? (i := 222) rfl) rfl
theorem co_Mo_wipe : Cond.code y_Mo_wipe prog_12_method_43_code 2 (some .int) ∈ rw_ok := rt_4 (List.mem_of_getElem? (i := 223) rfl) rfl
theorem ml_Lw_158 : Cond.methodLink "RowAlignerLaw" 158 y_Mo_worth ∈ rw_ok := rt_4 (List.mem_of_getElem? (i := 224) rfl) rfl
theorem im_Mo_worth : Cond.instanceMethod y_Mo_worth ∈ rw_ok := rt_4 (List.mem_of_getElem? (i := 225) rfl) rfl
theorem se_Mo_worth : Cond.selects "RowAlignerModel" y_Mo_worth y_Mo_worth ∈ rw_ok := rt_4 (List.mem_of_getElem? (i := 226) rfl) rfl
theorem co_Mo_worth : Cond.code y_Mo_worth prog_12_method_44_code 10 (some .int) ∈ rw_ok := rt_4 (List.mem_of_getElem? (i := 227) rfl) rfl
theorem ct_Mo_148 : Cond.constant "RowAlignerModel" 148 (-1000000 : Int32) ∈ rw_ok := rt_4 (List.mem_of_getElem? (i := 228) rfl) rfl
theorem cL_Lw_82 : Cond.constantLong "RowAlignerLaw" 82 (4294967295 : Int64) ∈ rw_ok := rt_4 (List.mem_of_getElem? (i := 229) rfl) rfl
theorem se_Se_fill : Cond.selects "RowAligner$Search" y_Se_fill y_Se_fill ∈ rw_ok := rw_in (List.mem_append_left _ (List.mem_of_getElem? (i := 0) (by decide +kernel))) (by decide +kernel)
theorem se_Se_startAtFirstBest : Cond.selects "RowAligner$Search" y_Se_startAtFirstBest y_Se_startAtFirstBest ∈ rw_ok := rw_in (List.mem_append_left _ (List.mem_of_getElem? (i := 1) (by decide +kernel))) (by decide +kernel)
theorem se_Se_startAt : Cond.selects "RowAligner$Search" y_Se_startAt y_Se_startAt ∈ rw_ok := rw_in (List.mem_append_left _ (List.mem_of_getElem? (i := 2) (by decide +kernel))) (by decide +kernel)
theorem se_Se_worthFrom : Cond.selects "RowAligner$Search" y_Se_worthFrom y_Se_worthFrom ∈ rw_ok := rw_in (List.mem_append_left _ (List.mem_of_getElem? (i := 3) (by decide +kernel))) (by decide +kernel)
theorem se_Ra_keepBest : Cond.selects "RowAligner" y_Ra_keepBest y_Ra_keepBest ∈ rw_ok := rw_in (List.mem_append_left _ (List.mem_of_getElem? (i := 4) (by decide +kernel))) (by decide +kernel)
theorem se_Ra_existingRow : Cond.selects "RowAligner" y_Ra_existingRow y_Ra_existingRow ∈ rw_ok := rw_in (List.mem_append_left _ (List.mem_of_getElem? (i := 5) (by decide +kernel))) (by decide +kernel)
theorem se_Ra_refuseUnlaid : Cond.selects "RowAligner" y_Ra_refuseUnlaid y_Ra_refuseUnlaid ∈ rw_ok := rw_in (List.mem_append_left _ (List.mem_of_getElem? (i := 7) (by decide +kernel))) (by decide +kernel)
theorem se_La_beginsRun : Cond.selects "RowAligner$Laying" y_La_beginsRun y_La_beginsRun ∈ rw_ok := rw_in (List.mem_append_left _ (List.mem_of_getElem? (i := 8) (by decide +kernel))) (by decide +kernel)
theorem se_Wc_countFrom : Cond.selects "RowAligner$WayCounter" y_Wc_countFrom y_Wc_countFrom ∈ rw_ok := rw_in (List.mem_append_left _ (List.mem_of_getElem? (i := 9) (by decide +kernel))) (by decide +kernel)
theorem se_Cf_clearPlacesOf : Cond.selects "RowAligner$CrossingFinder" y_Cf_clearPlacesOf y_Cf_clearPlacesOf ∈ rw_ok := rw_in (List.mem_append_left _ (List.mem_of_getElem? (i := 10) (by decide +kernel))) (by decide +kernel)
theorem se_Cf_isReached : Cond.selects "RowAligner$CrossingFinder" y_Cf_isReached y_Cf_isReached ∈ rw_ok := rw_in (List.mem_append_left _ (List.mem_of_getElem? (i := 11) (by decide +kernel))) (by decide +kernel)
theorem se_Cf_goOnFrom : Cond.selects "RowAligner$CrossingFinder" y_Cf_goOnFrom y_Cf_goOnFrom ∈ rw_ok := rw_in (List.mem_append_left _ (List.mem_of_getElem? (i := 12) (by decide +kernel))) (by decide +kernel)
theorem se_Cf_goOnBehind : Cond.selects "RowAligner$CrossingFinder" y_Cf_goOnBehind y_Cf_goOnBehind ∈ rw_ok := rw_in (List.mem_append_left _ (List.mem_of_getElem? (i := 13) (by decide +kernel))) (by decide +kernel)
theorem se_Mo_setScores : Cond.selects "RowAlignerModel" y_Mo_setScores y_Mo_setScores ∈ rw_ok := rw_in (List.mem_append_left _ (List.mem_of_getElem? (i := 14) (by decide +kernel))) (by decide +kernel)
theorem se_Mo_noRow : Cond.selects "RowAlignerModel" y_Mo_noRow y_Mo_noRow ∈ rw_ok := rw_in (List.mem_append_left _ (List.mem_of_getElem? (i := 15) (by decide +kernel))) (by decide +kernel)
theorem se_Mo_reckonAll : Cond.selects "RowAlignerModel" y_Mo_reckonAll y_Mo_reckonAll ∈ rw_ok := rw_in (List.mem_append_left _ (List.mem_of_getElem? (i := 16) (by decide +kernel))) (by decide +kernel)
theorem se_Mo_reckon : Cond.selects "RowAlignerModel" y_Mo_reckon y_Mo_reckon ∈ rw_ok := rw_in (List.mem_append_left _ (List.mem_of_getElem? (i := 17) (by decide +kernel))) (by decide +kernel)
theorem se_Mo_scoreAt : Cond.selects "RowAlignerModel" y_Mo_scoreAt y_Mo_scoreAt ∈ rw_ok := rw_in (List.mem_append_left _ (List.mem_of_getElem? (i := 18) (by decide +kernel))) (by decide +kernel)
theorem se_Mo_offer : Cond.selects "RowAlignerModel" y_Mo_offer y_Mo_offer ∈ rw_ok := rw_in (List.mem_append_left _ (List.mem_of_getElem? (i := 19) (by decide +kernel))) (by decide +kernel)
theorem se_Mo_gap : Cond.selects "RowAlignerModel" y_Mo_gap y_Mo_gap ∈ rw_ok := rw_in (List.mem_append_left _ (List.mem_of_getElem? (i := 20) (by decide +kernel))) (by decide +kernel)
theorem se_Mo_follow : Cond.selects "RowAlignerModel" y_Mo_follow y_Mo_follow ∈ rw_ok := rw_in (List.mem_append_left _ (List.mem_of_getElem? (i := 21) (by decide +kernel))) (by decide +kernel)
theorem se_Mo_isGoal : Cond.selects "RowAlignerModel" y_Mo_isGoal y_Mo_isGoal ∈ rw_ok := rw_in (List.mem_append_left _ (List.mem_of_getElem? (i := 22) (by decide +kernel))) (by decide +kernel)
theorem se_Mo_put : Cond.selects "RowAlignerModel" y_Mo_put y_Mo_put ∈ rw_ok := rw_in (List.mem_append_left _ (List.mem_of_getElem? (i := 23) (by decide +kernel))) (by decide +kernel)
theorem se_Mo_gapOfOne : Cond.selects "RowAlignerModel" y_Mo_gapOfOne y_Mo_gapOfOne ∈ rw_ok := rw_in (List.mem_append_left _ (List.mem_of_getElem? (i := 24) (by decide +kernel))) (by decide +kernel)
theorem se_Mo_gapHere : Cond.selects "RowAlignerModel" y_Mo_gapHere y_Mo_gapHere ∈ rw_ok := rw_in (List.mem_append_left _ (List.mem_of_getElem? (i := 25) (by decide +kernel))) (by decide +kernel)
theorem se_Mo_runsNow : Cond.selects "RowAlignerModel" y_Mo_runsNow y_Mo_runsNow ∈ rw_ok := rw_in (List.mem_append_left _ (List.mem_of_getElem? (i := 26) (by decide +kernel))) (by decide +kernel)
theorem se_Mo_samePairs : Cond.selects "RowAlignerModel" y_Mo_samePairs y_Mo_samePairs ∈ rw_ok := rw_in (List.mem_append_left _ (List.mem_of_getElem? (i := 27) (by decide +kernel))) (by decide +kernel)
theorem se_Mo_gapsNow : Cond.selects "RowAlignerModel" y_Mo_gapsNow y_Mo_gapsNow ∈ rw_ok := rw_in (List.mem_append_left _ (List.mem_of_getElem? (i := 28) (by decide +kernel))) (by decide +kernel)
theorem se_Mo_lettersInGaps : Cond.selects "RowAlignerModel" y_Mo_lettersInGaps y_Mo_lettersInGaps ∈ rw_ok := rw_in (List.mem_append_left _ (List.mem_of_getElem? (i := 29) (by decide +kernel))) (by decide +kernel)
theorem se_Mo_leadFrom : Cond.selects "RowAlignerModel" y_Mo_leadFrom y_Mo_leadFrom ∈ rw_ok := rw_in (List.mem_append_left _ (List.mem_of_getElem? (i := 30) (by decide +kernel))) (by decide +kernel)
theorem se_Mo_lead : Cond.selects "RowAlignerModel" y_Mo_lead y_Mo_lead ∈ rw_ok := rw_in (List.mem_append_left _ (List.mem_of_getElem? (i := 31) (by decide +kernel))) (by decide +kernel)
theorem se_Mo_crosses : Cond.selects "RowAlignerModel" y_Mo_crosses y_Mo_crosses ∈ rw_ok := rw_in (List.mem_append_left _ (List.mem_of_getElem? (i := 32) (by decide +kernel))) (by decide +kernel)
theorem se_Mo_crossesGap : Cond.selects "RowAlignerModel" y_Mo_crossesGap y_Mo_crossesGap ∈ rw_ok := rw_in (List.mem_append_left _ (List.mem_of_getElem? (i := 33) (by decide +kernel))) (by decide +kernel)
theorem cf_Ra : rCF 0 "RowAligner" F_Ra 10 t_Ra := ⟨rfl, (show ∀ w ∈ [Cond.laysFinal "RowAligner" "RowAligner" "ground" "LRowAligner$Ground;", Cond.laysFinal "RowAligner" "RowAligner" "search" "LRowAligner$Search;", Cond.laysFinal "RowAligner" "RowAligner" "laying" "LRowAligner$Laying;", Cond.laysFinal "RowAligner" "RowAligner" "wayCounter" "LRowAligner$WayCounter;", Cond.laysFinal "RowAligner" "RowAligner" "crossingFinder" "LRowAligner$CrossingFinder;", Cond.laysFinal "RowAligner" "RowAligner" "draft" "LRowAligner$Draft;", Cond.lays "RowAligner" "RowAligner" "laid" "Z", Cond.lays "RowAligner" "RowAligner" "waysAreCounted" "Z", Cond.lays "RowAligner" "RowAligner" "crossingsAreFound" "Z", Cond.lays "RowAligner" "RowAligner" "countedWays" "J"], w ∈ rw_ok from List.forall_mem_cons.mpr ⟨ly_Ra_ground, List.forall_mem_cons.mpr ⟨ly_Ra_search, List.forall_mem_cons.mpr ⟨ly_Ra_laying, List.forall_mem_cons.mpr ⟨ly_Ra_wayCounter, List.forall_mem_cons.mpr ⟨ly_Ra_crossingFinder, List.forall_mem_cons.mpr ⟨ly_Ra_draft, List.forall_mem_cons.mpr ⟨ly_Ra_laid, List.forall_mem_cons.mpr ⟨ly_Ra_waysAreCounted, List.forall_mem_cons.mpr ⟨ly_Ra_crossingsAreFound, List.forall_mem_cons.mpr ⟨ly_Ra_countedWays, fun _ h => absurd h List.not_mem_nil⟩⟩⟩⟩⟩⟩⟩⟩⟩⟩), t_Ra_ok, n_Ra⟩
theorem cf_Gr : rCF 1 "RowAligner$Ground" F_Gr 3 t_Gr := ⟨rfl, (show ∀ w ∈ [Cond.laysFinal "RowAligner$Ground" "RowAligner$Ground" "a" "LRowAligner$Row;", Cond.laysFinal "RowAligner$Ground" "RowAligner$Ground" "b" "LRowAligner$Row;", Cond.laysFinal "RowAligner$Ground" "RowAligner$Ground" "prices" "LRowAligner$Prices;"], w ∈ rw_ok from List.forall_mem_cons.mpr ⟨ly_Gr_a, List.forall_mem_cons.mpr ⟨ly_Gr_b, List.forall_mem_cons.mpr ⟨ly_Gr_prices, fun _ h => absurd h List.not_mem_nil⟩⟩⟩), t_Gr_ok, n_Gr⟩
theorem cf_Ro : rCF 2 "RowAligner$Row" F_Ro 2 t_Ro := ⟨rfl, (show ∀ w ∈ [Cond.laysFinal "RowAligner$Row" "RowAligner$Row" "letters" "[I", Cond.lays "RowAligner$Row" "RowAligner$Row" "length" "I"], w ∈ rw_ok from List.forall_mem_cons.mpr ⟨ly_Ro_letters, List.forall_mem_cons.mpr ⟨ly_Ro_length, fun _ h => absurd h List.not_mem_nil⟩⟩), t_Ro_ok, n_Ro⟩
theorem cf_Pr : rCF 3 "RowAligner$Prices" F_Pr 3 t_Pr := ⟨rfl, (show ∀ w ∈ [Cond.laysFinal "RowAligner$Prices" "RowAligner$Prices" "pairs" "[I", Cond.lays "RowAligner$Prices" "RowAligner$Prices" "open" "I", Cond.lays "RowAligner$Prices" "RowAligner$Prices" "more" "I"], w ∈ rw_ok from List.forall_mem_cons.mpr ⟨ly_Pr_pairs, List.forall_mem_cons.mpr ⟨ly_Pr_open, List.forall_mem_cons.mpr ⟨ly_Pr_more, fun _ h => absurd h List.not_mem_nil⟩⟩⟩), t_Pr_ok, n_Pr⟩
theorem cf_Se : rCF 4 "RowAligner$Search" F_Se 8 t_Se := ⟨rfl, (show ∀ w ∈ [Cond.laysFinal "RowAligner$Search" "RowAligner$Search" "ground" "LRowAligner$Ground;", Cond.laysFinal "RowAligner$Search" "RowAligner$Search" "outlook" "LRowAligner$Outlook;", Cond.laysFinal "RowAligner$Search" "RowAligner$Search" "rest" "[I", Cond.lays "RowAligner$Search" "RowAligner$Search" "free" "I", Cond.lays "RowAligner$Search" "RowAligner$Search" "ofParts" "Z", Cond.lays "RowAligner$Search" "RowAligner$Search" "best" "I", Cond.lays "RowAligner$Search" "RowAligner$Search" "startInA" "I", Cond.lays "RowAligner$Search" "RowAligner$Search" "startInB" "I"], w ∈ rw_ok from List.forall_mem_cons.mpr ⟨ly_Se_ground, List.forall_mem_cons.mpr ⟨ly_Se_outlook, List.forall_mem_cons.mpr ⟨ly_Se_rest, List.forall_mem_cons.mpr ⟨ly_Se_free, List.forall_mem_cons.mpr ⟨ly_Se_ofParts, List.forall_mem_cons.mpr ⟨ly_Se_best, List.forall_mem_cons.mpr ⟨ly_Se_startInA, List.forall_mem_cons.mpr ⟨ly_Se_startInB, fun _ h => absurd h List.not_mem_nil⟩⟩⟩⟩⟩⟩⟩⟩), t_Se_ok, n_Se⟩
theorem cf_Ou : rCF 5 "RowAligner$Outlook" F_Ou 6 t_Ou := ⟨rfl, (show ∀ w ∈ [Cond.lays "RowAligner$Outlook" "RowAligner$Outlook" "end" "I", Cond.lays "RowAligner$Outlook" "RowAligner$Outlook" "pair" "I", Cond.lays "RowAligner$Outlook" "RowAligner$Outlook" "one" "I", Cond.lays "RowAligner$Outlook" "RowAligner$Outlook" "other" "I", Cond.lays "RowAligner$Outlook" "RowAligner$Outlook" "openOne" "I", Cond.lays "RowAligner$Outlook" "RowAligner$Outlook" "openOther" "I"], w ∈ rw_ok from List.forall_mem_cons.mpr ⟨ly_Ou_end, List.forall_mem_cons.mpr ⟨ly_Ou_pair, List.forall_mem_cons.mpr ⟨ly_Ou_one, List.forall_mem_cons.mpr ⟨ly_Ou_other, List.forall_mem_cons.mpr ⟨ly_Ou_openOne, List.forall_mem_cons.mpr ⟨ly_Ou_openOther, fun _ h => absurd h List.not_mem_nil⟩⟩⟩⟩⟩⟩), t_Ou_ok, n_Ou⟩
theorem cf_La : rCF 6 "RowAligner$Laying" F_La 6 t_La := ⟨rfl, (show ∀ w ∈ [Cond.laysFinal "RowAligner$Laying" "RowAligner$Laying" "steps" "[I", Cond.lays "RowAligner$Laying" "RowAligner$Laying" "length" "I", Cond.lays "RowAligner$Laying" "RowAligner$Laying" "startInA" "I", Cond.lays "RowAligner$Laying" "RowAligner$Laying" "startInB" "I", Cond.lays "RowAligner$Laying" "RowAligner$Laying" "endInA" "I", Cond.lays "RowAligner$Laying" "RowAligner$Laying" "endInB" "I"], w ∈ rw_ok from List.forall_mem_cons.mpr ⟨ly_La_steps, List.forall_mem_cons.mpr ⟨ly_La_length, List.forall_mem_cons.mpr ⟨ly_La_startInA, List.forall_mem_cons.mpr ⟨ly_La_startInB, List.forall_mem_cons.mpr ⟨ly_La_endInA, List.forall_mem_cons.mpr ⟨ly_La_endInB, fun _ h => absurd h List.not_mem_nil⟩⟩⟩⟩⟩⟩), t_La_ok, n_La⟩
theorem cf_Wc : rCF 7 "RowAligner$WayCounter" F_Wc 1 t_Wc := ⟨rfl, (show ∀ w ∈ [Cond.laysFinal "RowAligner$WayCounter" "RowAligner$WayCounter" "counts" "[J"], w ∈ rw_ok from List.forall_mem_cons.mpr ⟨ly_Wc_counts, fun _ h => absurd h List.not_mem_nil⟩), t_Wc_ok, n_Wc⟩
theorem cf_Cf : rCF 8 "RowAligner$CrossingFinder" F_Cf 2 t_Cf := ⟨rfl, (show ∀ w ∈ [Cond.laysFinal "RowAligner$CrossingFinder" "RowAligner$CrossingFinder" "least" "[I", Cond.laysFinal "RowAligner$CrossingFinder" "RowAligner$CrossingFinder" "reached" "[Z"], w ∈ rw_ok from List.forall_mem_cons.mpr ⟨ly_Cf_least, List.forall_mem_cons.mpr ⟨ly_Cf_reached, fun _ h => absurd h List.not_mem_nil⟩⟩), t_Cf_ok, n_Cf⟩
theorem cf_Dr : rCF 9 "RowAligner$Draft" F_Dr 2 t_Dr := ⟨rfl, (show ∀ w ∈ [Cond.laysFinal "RowAligner$Draft" "RowAligner$Draft" "drawn" "[I", Cond.lays "RowAligner$Draft" "RowAligner$Draft" "length" "I"], w ∈ rw_ok from List.forall_mem_cons.mpr ⟨ly_Dr_drawn, List.forall_mem_cons.mpr ⟨ly_Dr_length, fun _ h => absurd h List.not_mem_nil⟩⟩), t_Dr_ok, n_Dr⟩
theorem cf_Mo : rCF 10 "RowAlignerModel" F_Mo 18 t_Mo := ⟨rfl, (show ∀ w ∈ [Cond.lays "RowAlignerModel" "RowAlignerModel" "code" "I", Cond.laysFinal "RowAlignerModel" "RowAlignerModel" "letters" "[I", Cond.laysFinal "RowAlignerModel" "RowAlignerModel" "sizes" "[I", Cond.laysFinal "RowAlignerModel" "RowAlignerModel" "scores" "[I", Cond.lays "RowAlignerModel" "RowAlignerModel" "open" "I", Cond.lays "RowAlignerModel" "RowAlignerModel" "more" "I", Cond.lays "RowAlignerModel" "RowAlignerModel" "laid" "Z", Cond.lays "RowAlignerModel" "RowAlignerModel" "ofParts" "Z", Cond.lays "RowAlignerModel" "RowAlignerModel" "freeEnds" "I", Cond.laysFinal "RowAlignerModel" "RowAlignerModel" "steps" "[I", Cond.lays "RowAlignerModel" "RowAlignerModel" "stepCount" "I", Cond.laysFinal "RowAlignerModel" "RowAlignerModel" "begins" "[I", Cond.laysFinal "RowAlignerModel" "RowAlignerModel" "ends" "[I", Cond.laysFinal "RowAlignerModel" "RowAlignerModel" "best" "[I", Cond.laysFinal "RowAlignerModel" "RowAlignerModel" "ways" "[J", Cond.laysFinal "RowAlignerModel" "RowAlignerModel" "led" "[I", Cond.laysFinal "RowAlignerModel" "RowAlignerModel" "draft" "[I", Cond.lays "RowAlignerModel" "RowAlignerModel" "drawn" "I"], w ∈ rw_ok from List.forall_mem_cons.mpr ⟨ly_Mo_code, List.forall_mem_cons.mpr ⟨ly_Mo_letters, List.forall_mem_cons.mpr ⟨ly_Mo_sizes, List.forall_mem_cons.mpr ⟨ly_Mo_scores, List.forall_mem_cons.mpr ⟨ly_Mo_open, List.forall_mem_cons.mpr ⟨ly_Mo_more, List.forall_mem_cons.mpr ⟨ly_Mo_laid, List.forall_mem_cons.mpr ⟨ly_Mo_ofParts, List.forall_mem_cons.mpr ⟨ly_Mo_freeEnds, List.forall_mem_cons.mpr ⟨ly_Mo_steps, List.forall_mem_cons.mpr ⟨ly_Mo_stepCount, List.forall_mem_cons.mpr ⟨ly_Mo_begins, List.forall_mem_cons.mpr ⟨ly_Mo_ends, List.forall_mem_cons.mpr ⟨ly_Mo_best, List.forall_mem_cons.mpr ⟨ly_Mo_ways, List.forall_mem_cons.mpr ⟨ly_Mo_led, List.forall_mem_cons.mpr ⟨ly_Mo_draft, List.forall_mem_cons.mpr ⟨ly_Mo_drawn, fun _ h => absurd h List.not_mem_nil⟩⟩⟩⟩⟩⟩⟩⟩⟩⟩⟩⟩⟩⟩⟩⟩⟩⟩), t_Mo_ok, n_Mo⟩
theorem yn_Ra_init : rYN y_Ra_init 0 := by unfold rYN; decide +kernel
theorem yn_Gr_init : rYN y_Gr_init 0 := by unfold rYN; decide +kernel
theorem yn_Ro_init : rYN y_Ro_init 0 := by unfold rYN; decide +kernel
theorem yn_Pr_init : rYN y_Pr_init 0 := by unfold rYN; decide +kernel
theorem yn_Pr_setAllPairs : rYN y_Pr_setAllPairs 2 := by unfold rYN; decide +kernel
theorem yn_Pr_setPair : rYN y_Pr_setPair 3 := by unfold rYN; decide +kernel
theorem yn_Se_init : rYN y_Se_init 1 := by unfold rYN; decide +kernel
theorem yn_Ou_init : rYN y_Ou_init 0 := by unfold rYN; decide +kernel
theorem yn_La_init : rYN y_La_init 0 := by unfold rYN; decide +kernel
theorem yn_Wc_init : rYN y_Wc_init 0 := by unfold rYN; decide +kernel
theorem yn_Cf_init : rYN y_Cf_init 0 := by unfold rYN; decide +kernel
theorem yn_Dr_init : rYN y_Dr_init 0 := by unfold rYN; decide +kernel
theorem yn_Ra_parts : rYN y_Ra_parts 0 := by unfold rYN; decide +kernel
theorem yn_Se_searchParts : rYN y_Se_searchParts 0 := by unfold rYN; decide +kernel
theorem yn_Se_fill : rYN y_Se_fill 0 := by unfold rYN; decide +kernel
theorem yn_Se_lookFrom : rYN y_Se_lookFrom 2 := by unfold rYN; decide +kernel
theorem yn_Gr_pairScore : rYN y_Gr_pairScore 2 := by unfold rYN; decide +kernel
theorem yn_Pr_ofPair : rYN y_Pr_ofPair 2 := by unfold rYN; decide +kernel
theorem yn_Ra_cell : rYN y_Ra_cell 3 := by unfold rYN; decide +kernel
theorem yn_Gr_isOneFree : rYN y_Gr_isOneFree 2 := by unfold rYN; decide +kernel
theorem yn_Gr_isOtherFree : rYN y_Gr_isOtherFree 2 := by unfold rYN; decide +kernel
theorem yn_Ou_greatestWorth : rYN y_Ou_greatestWorth 1 := by unfold rYN; decide +kernel
theorem yn_Se_startAtFirstBest : rYN y_Se_startAtFirstBest 0 := by unfold rYN; decide +kernel
theorem yn_Se_startAt : rYN y_Se_startAt 2 := by unfold rYN; decide +kernel
theorem yn_Se_worthFrom : rYN y_Se_worthFrom 2 := by unfold rYN; decide +kernel
theorem yn_Ra_keepBest : rYN y_Ra_keepBest 0 := by unfold rYN; decide +kernel
theorem yn_La_follow : rYN y_La_follow 1 := by unfold rYN; decide +kernel
theorem yn_Ou_firstBestStep : rYN y_Ou_firstBestStep 1 := by unfold rYN; decide +kernel
theorem yn_Ou_worthThrough : rYN y_Ou_worthThrough 2 := by unfold rYN; decide +kernel
theorem yn_Ra_lettersOfA : rYN y_Ra_lettersOfA 1 := by unfold rYN; decide +kernel
theorem yn_Ra_lettersOfB : rYN y_Ra_lettersOfB 1 := by unfold rYN; decide +kernel
theorem yn_Ra_wipe : rYN y_Ra_wipe 0 := by unfold rYN; decide +kernel
theorem yn_Lw_type : rYN y_Lw_type 5 := by unfold rYN; decide +kernel
theorem yn_Ra_type : rYN y_Ra_type 3 := by unfold rYN; decide +kernel
theorem yn_Ra_existingRow : rYN y_Ra_existingRow 1 := by unfold rYN; decide +kernel
theorem yn_Ra_refuseOtherRows : rYN y_Ra_refuseOtherRows 1 := by unfold rYN; decide +kernel
theorem yn_Ra_areCharacters : rYN y_Ra_areCharacters 2 := by unfold rYN; decide +kernel
theorem yn_Ra_characterAt : rYN y_Ra_characterAt 2 := by unfold rYN; decide +kernel
theorem yn_Ro_append : rYN y_Ro_append 1 := by unfold rYN; decide +kernel
theorem yn_Lw_cut : rYN y_Lw_cut 3 := by unfold rYN; decide +kernel
theorem yn_Ra_cut : rYN y_Ra_cut 2 := by unfold rYN; decide +kernel
theorem yn_Lw_turn : rYN y_Lw_turn 2 := by unfold rYN; decide +kernel
theorem yn_Ra_turn : rYN y_Ra_turn 1 := by unfold rYN; decide +kernel
theorem yn_Ro_reverse : rYN y_Ro_reverse 0 := by unfold rYN; decide +kernel
theorem yn_Lw_letter : rYN y_Lw_letter 4 := by unfold rYN; decide +kernel
theorem yn_Ra_letter : rYN y_Ra_letter 2 := by unfold rYN; decide +kernel
theorem yn_Lw_size : rYN y_Lw_size 3 := by unfold rYN; decide +kernel
theorem yn_Ra_size : rYN y_Ra_size 1 := by unfold rYN; decide +kernel
theorem yn_Lw_score : rYN y_Lw_score 4 := by unfold rYN; decide +kernel
theorem yn_Ra_score : rYN y_Ra_score 3 := by unfold rYN; decide +kernel
theorem yn_Ra_refusePriceBelow : rYN y_Ra_refusePriceBelow 2 := by unfold rYN; decide +kernel
theorem yn_Lw_scores : rYN y_Lw_scores 3 := by unfold rYN; decide +kernel
theorem yn_Ra_scores : rYN y_Ra_scores 2 := by unfold rYN; decide +kernel
theorem yn_Lw_costs : rYN y_Lw_costs 3 := by unfold rYN; decide +kernel
theorem yn_Ra_costs : rYN y_Ra_costs 2 := by unfold rYN; decide +kernel
theorem yn_Lw_whole : rYN y_Lw_whole 3 := by unfold rYN; decide +kernel
theorem yn_Ra_whole : rYN y_Ra_whole 1 := by unfold rYN; decide +kernel
theorem yn_Ra_refuseOtherEnds : rYN y_Ra_refuseOtherEnds 1 := by unfold rYN; decide +kernel
theorem yn_Se_searchWhole : rYN y_Se_searchWhole 1 := by unfold rYN; decide +kernel
theorem yn_Lw_steps : rYN y_Lw_steps 2 := by unfold rYN; decide +kernel
theorem yn_Ra_steps : rYN y_Ra_steps 0 := by unfold rYN; decide +kernel
theorem yn_Ra_refuseUnlaid : rYN y_Ra_refuseUnlaid 0 := by unfold rYN; decide +kernel
theorem yn_Lw_step : rYN y_Lw_step 3 := by unfold rYN; decide +kernel
theorem yn_Ra_step : rYN y_Ra_step 1 := by unfold rYN; decide +kernel
theorem yn_Lw_place : rYN y_Lw_place 4 := by unfold rYN; decide +kernel
theorem yn_Ra_place : rYN y_Ra_place 2 := by unfold rYN; decide +kernel
theorem yn_Lw_count : rYN y_Lw_count 3 := by unfold rYN; decide +kernel
theorem yn_Ra_count : rYN y_Ra_count 1 := by unfold rYN; decide +kernel
theorem yn_La_countRuns : rYN y_La_countRuns 0 := by unfold rYN; decide +kernel
theorem yn_La_beginsRun : rYN y_La_beginsRun 1 := by unfold rYN; decide +kernel
theorem yn_La_countSamePairs : rYN y_La_countSamePairs 1 := by unfold rYN; decide +kernel
theorem yn_La_countGaps : rYN y_La_countGaps 0 := by unfold rYN; decide +kernel
theorem yn_La_countGapLetters : rYN y_La_countGapLetters 0 := by unfold rYN; decide +kernel
theorem yn_Lw_run : rYN y_Lw_run 4 := by unfold rYN; decide +kernel
theorem yn_Ra_run : rYN y_Ra_run 2 := by unfold rYN; decide +kernel
theorem yn_La_startOfRun : rYN y_La_startOfRun 1 := by unfold rYN; decide +kernel
theorem yn_La_lengthOfRunAt : rYN y_La_lengthOfRunAt 1 := by unfold rYN; decide +kernel
theorem yn_Lw_ways : rYN y_Lw_ways 2 := by unfold rYN; decide +kernel
theorem yn_Ra_ways : rYN y_Ra_ways 0 := by unfold rYN; decide +kernel
theorem yn_Wc_countBest : rYN y_Wc_countBest 1 := by unfold rYN; decide +kernel
theorem yn_Wc_countFrom : rYN y_Wc_countFrom 4 := by unfold rYN; decide +kernel
theorem yn_Se_canStartBestAt : rYN y_Se_canStartBestAt 2 := by unfold rYN; decide +kernel
theorem yn_Lw_crossing : rYN y_Lw_crossing 3 := by unfold rYN; decide +kernel
theorem yn_Ra_crossing : rYN y_Ra_crossing 1 := by unfold rYN; decide +kernel
theorem yn_Cf_findAll : rYN y_Cf_findAll 1 := by unfold rYN; decide +kernel
theorem yn_Cf_clearPlacesOf : rYN y_Cf_clearPlacesOf 1 := by unfold rYN; decide +kernel
theorem yn_Cf_isReached : rYN y_Cf_isReached 2 := by unfold rYN; decide +kernel
theorem yn_Cf_goOnFrom : rYN y_Cf_goOnFrom 3 := by unfold rYN; decide +kernel
theorem yn_Cf_goOnBehind : rYN y_Cf_goOnBehind 4 := by unfold rYN; decide +kernel
theorem yn_Lw_draw : rYN y_Lw_draw 3 := by unfold rYN; decide +kernel
theorem yn_Ra_draw : rYN y_Ra_draw 1 := by unfold rYN; decide +kernel
theorem yn_Dr_append : rYN y_Dr_append 1 := by unfold rYN; decide +kernel
theorem yn_Lw_worth : rYN y_Lw_worth 3 := by unfold rYN; decide +kernel
theorem yn_Ra_worth : rYN y_Ra_worth 1 := by unfold rYN; decide +kernel
theorem yn_Dr_isWholeLaying : rYN y_Dr_isWholeLaying 1 := by unfold rYN; decide +kernel
theorem yn_Dr_sumUp : rYN y_Dr_sumUp 2 := by unfold rYN; decide +kernel
theorem yn_Mo_init : rYN y_Mo_init 0 := by unfold rYN; decide +kernel
theorem yn_Mo_setScores : rYN y_Mo_setScores 2 := by unfold rYN; decide +kernel
theorem yn_Mo_thrown : rYN y_Mo_thrown 0 := by unfold rYN; decide +kernel
theorem yn_Mo_type : rYN y_Mo_type 3 := by unfold rYN; decide +kernel
theorem yn_Mo_noRow : rYN y_Mo_noRow 1 := by unfold rYN; decide +kernel
theorem yn_Mo_cut : rYN y_Mo_cut 2 := by unfold rYN; decide +kernel
theorem yn_Mo_turn : rYN y_Mo_turn 1 := by unfold rYN; decide +kernel
theorem yn_Mo_letter : rYN y_Mo_letter 2 := by unfold rYN; decide +kernel
theorem yn_Mo_size : rYN y_Mo_size 1 := by unfold rYN; decide +kernel
theorem yn_Mo_score : rYN y_Mo_score 3 := by unfold rYN; decide +kernel
theorem yn_Mo_isIn : rYN y_Mo_isIn 3 := by unfold rYN; decide +kernel
theorem yn_Mo_scores : rYN y_Mo_scores 2 := by unfold rYN; decide +kernel
theorem yn_Mo_costs : rYN y_Mo_costs 2 := by unfold rYN; decide +kernel
theorem yn_Mo_whole : rYN y_Mo_whole 1 := by unfold rYN; decide +kernel
theorem yn_Mo_reckonAll : rYN y_Mo_reckonAll 0 := by unfold rYN; decide +kernel
theorem yn_Mo_reckon : rYN y_Mo_reckon 3 := by unfold rYN; decide +kernel
theorem yn_Mo_at : rYN y_Mo_at 3 := by unfold rYN; decide +kernel
theorem yn_Mo_scoreAt : rYN y_Mo_scoreAt 2 := by unfold rYN; decide +kernel
theorem yn_Mo_offer : rYN y_Mo_offer 3 := by unfold rYN; decide +kernel
theorem yn_Mo_gap : rYN y_Mo_gap 4 := by unfold rYN; decide +kernel
theorem yn_Mo_follow : rYN y_Mo_follow 2 := by unfold rYN; decide +kernel
theorem yn_Mo_isGoal : rYN y_Mo_isGoal 3 := by unfold rYN; decide +kernel
theorem yn_Mo_put : rYN y_Mo_put 2 := by unfold rYN; decide +kernel
theorem yn_Mo_gapOfOne : rYN y_Mo_gapOfOne 3 := by unfold rYN; decide +kernel
theorem yn_Mo_gapHere : rYN y_Mo_gapHere 4 := by unfold rYN; decide +kernel
theorem yn_Mo_parts : rYN y_Mo_parts 0 := by unfold rYN; decide +kernel
theorem yn_Mo_steps : rYN y_Mo_steps 0 := by unfold rYN; decide +kernel
theorem yn_Mo_step : rYN y_Mo_step 1 := by unfold rYN; decide +kernel
theorem yn_Mo_place : rYN y_Mo_place 2 := by unfold rYN; decide +kernel
theorem yn_Mo_count : rYN y_Mo_count 1 := by unfold rYN; decide +kernel
theorem yn_Mo_runsNow : rYN y_Mo_runsNow 0 := by unfold rYN; decide +kernel
theorem yn_Mo_samePairs : rYN y_Mo_samePairs 0 := by unfold rYN; decide +kernel
theorem yn_Mo_gapsNow : rYN y_Mo_gapsNow 0 := by unfold rYN; decide +kernel
theorem yn_Mo_lettersInGaps : rYN y_Mo_lettersInGaps 0 := by unfold rYN; decide +kernel
theorem yn_Mo_run : rYN y_Mo_run 2 := by unfold rYN; decide +kernel
theorem yn_Mo_ways : rYN y_Mo_ways 0 := by unfold rYN; decide +kernel
theorem yn_Mo_crossing : rYN y_Mo_crossing 1 := by unfold rYN; decide +kernel
theorem yn_Mo_leadFrom : rYN y_Mo_leadFrom 3 := by unfold rYN; decide +kernel
theorem yn_Mo_lead : rYN y_Mo_lead 4 := by unfold rYN; decide +kernel
theorem yn_Mo_crosses : rYN y_Mo_crosses 3 := by unfold rYN; decide +kernel
theorem yn_Mo_crossesGap : rYN y_Mo_crossesGap 4 := by unfold rYN; decide +kernel
theorem yn_Mo_draw : rYN y_Mo_draw 1 := by unfold rYN; decide +kernel
theorem yn_Mo_wipe : rYN y_Mo_wipe 0 := by unfold rYN; decide +kernel
theorem yn_Mo_worth : rYN y_Mo_worth 1 := by unfold rYN; decide +kernel
