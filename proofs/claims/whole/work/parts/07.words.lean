/-! the tables' words, each by its place -/
/-- the words that every method is proved over: all of the tables that may go on -/
def jtb : List Cond := lw_tbl.filter goodWord
theorem jt_in {w : Cond} (h : w ∈ lw_tbl) (g : goodWord w = true) : w ∈ jtb := List.mem_filter.mpr ⟨h, g⟩
theorem jt_good : ∀ w ∈ jtb, (w.onTables && w.keeps) = true ∨ ∃ ty, w = .arrayClass ty := fun w h => good_of_word (List.mem_filter.mp h).2
theorem jt_tbl : ∀ w ∈ jtb, w ∈ lw_tbl := fun w h => (List.mem_filter.mp h).1
theorem jt_1 {w : Cond} (h : w ∈ tables_1_1) : w ∈ lw_tbl := List.mem_append_right _ (show w ∈ tables_1 from List.mem_append_left _ h)
theorem jt_2 {w : Cond} (h : w ∈ tables_1_2) : w ∈ lw_tbl := List.mem_append_right _ (show w ∈ tables_1 from List.mem_append_right _ (List.mem_append_left _ h))
theorem jt_3 {w : Cond} (h : w ∈ tables_1_3) : w ∈ lw_tbl := List.mem_append_right _ (show w ∈ tables_1 from List.mem_append_right _ (List.mem_append_right _ (List.mem_append_left _ h)))
theorem jt_4 {w : Cond} (h : w ∈ tables_1_4) : w ∈ lw_tbl := List.mem_append_right _ (show w ∈ tables_1 from List.mem_append_right _ (List.mem_append_right _ (List.mem_append_right _ (List.mem_append_left _ h))))
theorem jt_5 {w : Cond} (h : w ∈ tables_1_5) : w ∈ lw_tbl := List.mem_append_right _ (show w ∈ tables_1 from List.mem_append_right _ (List.mem_append_right _ (List.mem_append_right _ (List.mem_append_right _ (List.mem_append_left _ h)))))
theorem jt_6 {w : Cond} (h : w ∈ tables_1_6) : w ∈ lw_tbl := List.mem_append_right _ (show w ∈ tables_1 from List.mem_append_right _ (List.mem_append_right _ (List.mem_append_right _ (List.mem_append_right _ (List.mem_append_right _ (List.mem_append_left _ h))))))
theorem jt_7 {w : Cond} (h : w ∈ tables_1_7) : w ∈ lw_tbl := List.mem_append_right _ (show w ∈ tables_1 from List.mem_append_right _ (List.mem_append_right _ (List.mem_append_right _ (List.mem_append_right _ (List.mem_append_right _ (List.mem_append_right _ h))))))
theorem jt_s1 {q : MethodName × Nat} (h : q ∈ lw_privs_1) : Cond.selects q.1.cls q.1 q.1 ∈ lw_tbl := List.mem_append_left _ (List.mem_map.mpr ⟨q, show q ∈ lw_privs from List.mem_append_left _ h, rfl⟩)
theorem jt_s2 {q : MethodName × Nat} (h : q ∈ lw_privs_2) : Cond.selects q.1.cls q.1 q.1 ∈ lw_tbl := List.mem_append_left _ (List.mem_map.mpr ⟨q, show q ∈ lw_privs from List.mem_append_right _ (List.mem_append_left _ h), rfl⟩)
theorem jt_s3 {q : MethodName × Nat} (h : q ∈ lw_privs_3) : Cond.selects q.1.cls q.1 q.1 ∈ lw_tbl := List.mem_append_left _ (List.mem_map.mpr ⟨q, show q ∈ lw_privs from List.mem_append_right _ (List.mem_append_right _ (List.mem_append_left _ h)), rfl⟩)
theorem jt_s4 {q : MethodName × Nat} (h : q ∈ lw_privs_4) : Cond.selects q.1.cls q.1 q.1 ∈ lw_tbl := List.mem_append_left _ (List.mem_map.mpr ⟨q, show q ∈ lw_privs from List.mem_append_right _ (List.mem_append_right _ (List.mem_append_right _ (List.mem_append_left _ h))), rfl⟩)
theorem jt_s5 {q : MethodName × Nat} (h : q ∈ lw_privs_5) : Cond.selects q.1.cls q.1 q.1 ∈ lw_tbl := List.mem_append_left _ (List.mem_map.mpr ⟨q, show q ∈ lw_privs from List.mem_append_right _ (List.mem_append_right _ (List.mem_append_right _ (List.mem_append_right _ (List.mem_append_left _ h)))), rfl⟩)
theorem jt_s6 {q : MethodName × Nat} (h : q ∈ lw_privs_6) : Cond.selects q.1.cls q.1 q.1 ∈ lw_tbl := List.mem_append_left _ (List.mem_map.mpr ⟨q, show q ∈ lw_privs from List.mem_append_right _ (List.mem_append_right _ (List.mem_append_right _ (List.mem_append_right _ (List.mem_append_right _ h)))), rfl⟩)
theorem in_L : Cond.initialized RL ∈ jtb := jt_in (jt_1 (List.mem_of_getElem? (i := 0) rfl)) rfl
theorem in_X11 : Cond.initialized RX11 ∈ jtb := jt_in (jt_1 (List.mem_of_getElem? (i := 1) rfl)) rfl
theorem in_X6 : Cond.initialized RX6 ∈ jtb := jt_in (jt_1 (List.mem_of_getElem? (i := 2) rfl)) rfl
theorem in_X1 : Cond.initialized RX1 ∈ jtb := jt_in (jt_1 (List.mem_of_getElem? (i := 3) rfl)) rfl
theorem in_X4 : Cond.initialized RX4 ∈ jtb := jt_in (jt_1 (List.mem_of_getElem? (i := 4) rfl)) rfl
theorem in_X8 : Cond.initialized RX8 ∈ jtb := jt_in (jt_1 (List.mem_of_getElem? (i := 5) rfl)) rfl
theorem in_X10 : Cond.initialized RX10 ∈ jtb := jt_in (jt_1 (List.mem_of_getElem? (i := 6) rfl)) rfl
theorem in_X5 : Cond.initialized RX5 ∈ jtb := jt_in (jt_1 (List.mem_of_getElem? (i := 7) rfl)) rfl
theorem in_X7 : Cond.initialized RX7 ∈ jtb := jt_in (jt_1 (List.mem_of_getElem? (i := 8) rfl)) rfl
theorem in_X3 : Cond.initialized RX3 ∈ jtb := jt_in (jt_1 (List.mem_of_getElem? (i := 9) rfl)) rfl
theorem in_X2 : Cond.initialized RX2 ∈ jtb := jt_in (jt_1 (List.mem_of_getElem? (i := 10) rfl)) rfl
theorem in_X0 : Cond.initialized RX0 ∈ jtb := jt_in (jt_1 (List.mem_of_getElem? (i := 11) rfl)) rfl
theorem in_X9 : Cond.initialized RX9 ∈ jtb := jt_in (jt_1 (List.mem_of_getElem? (i := 12) rfl)) rfl
theorem in_X12 : Cond.initialized RX12 ∈ jtb := jt_in (jt_1 (List.mem_of_getElem? (i := 13) rfl)) rfl
theorem in_J10 : Cond.initialized "java/lang/System" ∈ jtb := jt_in (jt_1 (List.mem_of_getElem? (i := 14) rfl)) rfl
theorem in_J0 : Cond.initialized "java/lang/String" ∈ jtb := jt_in (jt_1 (List.mem_of_getElem? (i := 15) rfl)) rfl
theorem in_J1 : Cond.initialized "java/lang/StringLatin1" ∈ jtb := jt_in (jt_1 (List.mem_of_getElem? (i := 16) rfl)) rfl
theorem in_J9 : Cond.initialized "java/lang/Math" ∈ jtb := jt_in (jt_1 (List.mem_of_getElem? (i := 17) rfl)) rfl
theorem in_J2 : Cond.initialized "java/lang/StringUTF16" ∈ jtb := jt_in (jt_1 (List.mem_of_getElem? (i := 18) rfl)) rfl
theorem in_J3 : Cond.initialized RJ3 ∈ jtb := jt_in (jt_1 (List.mem_of_getElem? (i := 19) rfl)) rfl
theorem in_J11 : Cond.initialized "java/lang/Character" ∈ jtb := jt_in (jt_1 (List.mem_of_getElem? (i := 20) rfl)) rfl
theorem in_J7 : Cond.initialized "java/util/Arrays" ∈ jtb := jt_in (jt_1 (List.mem_of_getElem? (i := 21) rfl)) rfl
theorem cl_L_7 : Cond.classLink RL 7 RX11 ∈ jtb := jt_in (jt_1 (List.mem_of_getElem? (i := 22) rfl)) rfl
theorem iq_X11 : Cond.instantiable RX11 12 ∈ jtb := jt_in (jt_1 (List.mem_of_getElem? (i := 23) rfl)) rfl
theorem ml_L_9 : Cond.methodLink RL 9 yX11_init ∈ jtb := jt_in (jt_1 (List.mem_of_getElem? (i := 24) rfl)) rfl
theorem im_X11_init : Cond.instanceMethod yX11_init ∈ jtb := jt_in (jt_1 (List.mem_of_getElem? (i := 25) rfl)) rfl
theorem cd_X11_init : Cond.code yX11_init cX11_init 2 none ∈ jtb := jt_in (jt_1 (List.mem_of_getElem? (i := 26) rfl)) rfl
theorem ml_X11_1 : Cond.methodLink RX11 1 objectInit ∈ jtb := jt_in (jt_1 (List.mem_of_getElem? (i := 27) rfl)) rfl
theorem im_obj : Cond.instanceMethod objectInit ∈ jtb := jt_in (jt_1 (List.mem_of_getElem? (i := 28) rfl)) rfl
theorem cd_obj : Cond.code objectInit ⟨#[0xb1]⟩ 1 none ∈ jtb := jt_in (jt_1 (List.mem_of_getElem? (i := 29) rfl)) rfl
theorem cl_X11_7 : Cond.classLink RX11 7 RX6 ∈ jtb := jt_in (jt_1 (List.mem_of_getElem? (i := 30) rfl)) rfl
theorem iq_X6 : Cond.instantiable RX6 2 ∈ jtb := jt_in (jt_1 (List.mem_of_getElem? (i := 31) rfl)) rfl
theorem ml_X11_9 : Cond.methodLink RX11 9 yX6_init ∈ jtb := jt_in (jt_1 (List.mem_of_getElem? (i := 32) rfl)) rfl
theorem im_X6_init : Cond.instanceMethod yX6_init ∈ jtb := jt_in (jt_1 (List.mem_of_getElem? (i := 33) rfl)) rfl
theorem cd_X6_init : Cond.code yX6_init cX6_init 2 none ∈ jtb := jt_in (jt_1 (List.mem_of_getElem? (i := 34) rfl)) rfl
theorem ml_X6_5 : Cond.methodLink RX6 5 objectInit ∈ jtb := jt_in (jt_1 (List.mem_of_getElem? (i := 35) rfl)) rfl
theorem fl_X6_11 : Cond.fieldLink RX6 11 "TwentyPushes$Numbers" "values" "[I" ∈ jtb := jt_in (jt_1 (List.mem_of_getElem? (i := 36) rfl)) rfl
theorem fl_X6_15 : Cond.fieldLink RX6 15 "TwentyPushes$Numbers" "children" "I" ∈ jtb := jt_in (jt_1 (List.mem_of_getElem? (i := 37) rfl)) rfl
theorem fl_X11_200 : Cond.fieldLink RX11 200 "TwentyPushes$Numbers" "children" "I" ∈ jtb := jt_in (jt_1 (List.mem_of_getElem? (i := 38) rfl)) rfl
theorem ac_int : Cond.arrayClass .int ∈ jtb := jt_in (jt_1 (List.mem_of_getElem? (i := 44) rfl)) rfl
theorem cl_X11_16 : Cond.classLink RX11 16 RX1 ∈ jtb := jt_in (jt_1 (List.mem_of_getElem? (i := 45) rfl)) rfl
theorem iq_X1 : Cond.instantiable RX1 6 ∈ jtb := jt_in (jt_1 (List.mem_of_getElem? (i := 46) rfl)) rfl
theorem ml_X11_18 : Cond.methodLink RX11 18 yX1_init ∈ jtb := jt_in (jt_1 (List.mem_of_getElem? (i := 47) rfl)) rfl
theorem im_X1_init : Cond.instanceMethod yX1_init ∈ jtb := jt_in (jt_1 (List.mem_of_getElem? (i := 48) rfl)) rfl
theorem cd_X1_init : Cond.code yX1_init cX1_init 2 none ∈ jtb := jt_in (jt_1 (List.mem_of_getElem? (i := 49) rfl)) rfl
theorem ml_X1_3 : Cond.methodLink RX1 3 objectInit ∈ jtb := jt_in (jt_1 (List.mem_of_getElem? (i := 50) rfl)) rfl
theorem fl_X1_21 : Cond.fieldLink RX1 21 "TwentyPushes$Changes" "numbers" "LTwentyPushes$Numbers;" ∈ jtb := jt_in (jt_1 (List.mem_of_getElem? (i := 51) rfl)) rfl
theorem fl_X1_11 : Cond.fieldLink RX1 11 "TwentyPushes$Changes" "places" "[I" ∈ jtb := jt_in (jt_1 (List.mem_of_getElem? (i := 52) rfl)) rfl
theorem fl_X1_15 : Cond.fieldLink RX1 15 "TwentyPushes$Changes" "before" "[I" ∈ jtb := jt_in (jt_1 (List.mem_of_getElem? (i := 53) rfl)) rfl
theorem fl_X1_18 : Cond.fieldLink RX1 18 "TwentyPushes$Changes" "after" "[I" ∈ jtb := jt_in (jt_1 (List.mem_of_getElem? (i := 54) rfl)) rfl
theorem fl_X1_25 : Cond.fieldLink RX1 25 "TwentyPushes$Changes" "done" "I" ∈ jtb := jt_in (jt_1 (List.mem_of_getElem? (i := 55) rfl)) rfl
theorem fl_X11_363 : Cond.fieldLink RX11 363 "TwentyPushes$Changes" "done" "I" ∈ jtb := jt_in (jt_1 (List.mem_of_getElem? (i := 56) rfl)) rfl
theorem fl_X1_38 : Cond.fieldLink RX1 38 "TwentyPushes$Changes" "all" "I" ∈ jtb := jt_in (jt_1 (List.mem_of_getElem? (i := 57) rfl)) rfl
theorem cl_X11_25 : Cond.classLink RX11 25 RX4 ∈ jtb := jt_in (jt_1 (List.mem_of_getElem? (i := 71) rfl)) rfl
theorem iq_X4 : Cond.instantiable RX4 9 ∈ jtb := jt_in (jt_1 (List.mem_of_getElem? (i := 72) rfl)) rfl
theorem ml_X11_27 : Cond.methodLink RX11 27 yX4_init ∈ jtb := jt_in (jt_1 (List.mem_of_getElem? (i := 73) rfl)) rfl
theorem im_X4_init : Cond.instanceMethod yX4_init ∈ jtb := jt_in (jt_1 (List.mem_of_getElem? (i := 74) rfl)) rfl
theorem cd_X4_init : Cond.code yX4_init cX4_init 1 none ∈ jtb := jt_in (jt_1 (List.mem_of_getElem? (i := 75) rfl)) rfl
theorem ml_X4_5 : Cond.methodLink RX4 5 objectInit ∈ jtb := jt_in (jt_1 (List.mem_of_getElem? (i := 76) rfl)) rfl
theorem fl_X4_11 : Cond.fieldLink RX4 11 "TwentyPushes$Law" "tape" "[B" ∈ jtb := jt_in (jt_1 (List.mem_of_getElem? (i := 77) rfl)) rfl
theorem fl_X4_28 : Cond.fieldLink RX4 28 "TwentyPushes$Law" "written" "I" ∈ jtb := jt_in (jt_1 (List.mem_of_getElem? (i := 78) rfl)) rfl
theorem fl_X11_360 : Cond.fieldLink RX11 360 "TwentyPushes$Law" "written" "I" ∈ jtb := jt_in (jt_1 (List.mem_of_getElem? (i := 79) rfl)) rfl
theorem fl_X4_32 : Cond.fieldLink RX4 32 "TwentyPushes$Law" "at" "I" ∈ jtb := jt_in (jt_1 (List.mem_of_getElem? (i := 80) rfl)) rfl
theorem fl_X4_15 : Cond.fieldLink RX4 15 "TwentyPushes$Law" "draft" "[I" ∈ jtb := jt_in (jt_1 (List.mem_of_getElem? (i := 81) rfl)) rfl
theorem fl_X4_35 : Cond.fieldLink RX4 35 "TwentyPushes$Law" "drafted" "I" ∈ jtb := jt_in (jt_1 (List.mem_of_getElem? (i := 82) rfl)) rfl
theorem fl_X4_19 : Cond.fieldLink RX4 19 "TwentyPushes$Law" "code" "[I" ∈ jtb := jt_in (jt_1 (List.mem_of_getElem? (i := 83) rfl)) rfl
theorem fl_X4_52 : Cond.fieldLink RX4 52 "TwentyPushes$Law" "coded" "I" ∈ jtb := jt_in (jt_1 (List.mem_of_getElem? (i := 84) rfl)) rfl
theorem fl_X4_22 : Cond.fieldLink RX4 22 "TwentyPushes$Law" "stack" "[I" ∈ jtb := jt_in (jt_1 (List.mem_of_getElem? (i := 85) rfl)) rfl
theorem fl_X4_25 : Cond.fieldLink RX4 25 "TwentyPushes$Law" "named" "[I" ∈ jtb := jt_in (jt_1 (List.mem_of_getElem? (i := 86) rfl)) rfl
theorem ac_byte : Cond.arrayClass .byte ∈ jtb := jt_in (jt_1 (List.mem_of_getElem? (i := 106) rfl)) rfl
theorem cl_X11_32 : Cond.classLink RX11 32 RX8 ∈ jtb := jt_in (jt_1 (List.mem_of_getElem? (i := 107) rfl)) rfl
theorem iq_X8 : Cond.instantiable RX8 4 ∈ jtb := jt_in (jt_1 (List.mem_of_getElem? (i := 108) rfl)) rfl
theorem ml_X11_34 : Cond.methodLink RX11 34 yX8_init ∈ jtb := jt_in (jt_1 (List.mem_of_getElem? (i := 109) rfl)) rfl
theorem im_X8_init : Cond.instanceMethod yX8_init ∈ jtb := jt_in (jt_1 (List.mem_of_getElem? (i := 110) rfl)) rfl
theorem cd_X8_init : Cond.code yX8_init cX8_init 3 none ∈ jtb := jt_in (jt_1 (List.mem_of_getElem? (i := 111) rfl)) rfl
theorem ml_X8_3 : Cond.methodLink RX8 3 objectInit ∈ jtb := jt_in (jt_1 (List.mem_of_getElem? (i := 112) rfl)) rfl
theorem cl_X8_9 : Cond.classLink RX8 9 RX10 ∈ jtb := jt_in (jt_1 (List.mem_of_getElem? (i := 113) rfl)) rfl
theorem iq_X10 : Cond.instantiable RX10 8 ∈ jtb := jt_in (jt_1 (List.mem_of_getElem? (i := 114) rfl)) rfl
theorem ml_X8_11 : Cond.methodLink RX8 11 yX10_init ∈ jtb := jt_in (jt_1 (List.mem_of_getElem? (i := 115) rfl)) rfl
theorem im_X10_init : Cond.instanceMethod yX10_init ∈ jtb := jt_in (jt_1 (List.mem_of_getElem? (i := 116) rfl)) rfl
theorem cd_X10_init : Cond.code yX10_init cX10_init 1 none ∈ jtb := jt_in (jt_1 (List.mem_of_getElem? (i := 117) rfl)) rfl
theorem ml_X10_1 : Cond.methodLink RX10 1 objectInit ∈ jtb := jt_in (jt_1 (List.mem_of_getElem? (i := 118) rfl)) rfl
theorem fl_X10_7 : Cond.fieldLink RX10 7 "TwentyPushes$Turn" "swing" "I" ∈ jtb := jt_in (jt_1 (List.mem_of_getElem? (i := 119) rfl)) rfl
theorem fl_X8_51 : Cond.fieldLink RX8 51 "TwentyPushes$Turn" "swing" "I" ∈ jtb := jt_in (jt_1 (List.mem_of_getElem? (i := 120) rfl)) rfl
theorem fl_X11_268 : Cond.fieldLink RX11 268 "TwentyPushes$Turn" "swing" "I" ∈ jtb := jt_in (jt_1 (List.mem_of_getElem? (i := 121) rfl)) rfl
theorem fl_X8_30 : Cond.fieldLink RX8 30 "TwentyPushes$Turn" "child" "I" ∈ jtb := jt_in (jt_1 (List.mem_of_getElem? (i := 122) rfl)) rfl
theorem fl_X10_13 : Cond.fieldLink RX10 13 "TwentyPushes$Turn" "child" "I" ∈ jtb := jt_in (jt_1 (List.mem_of_getElem? (i := 123) rfl)) rfl
theorem fl_X2_37 : Cond.fieldLink RX2 37 "TwentyPushes$Turn" "child" "I" ∈ jtb := jt_in (jt_1 (List.mem_of_getElem? (i := 124) rfl)) rfl
theorem fl_X11_265 : Cond.fieldLink RX11 265 "TwentyPushes$Turn" "child" "I" ∈ jtb := jt_in (jt_1 (List.mem_of_getElem? (i := 125) rfl)) rfl
theorem fl_X10_16 : Cond.fieldLink RX10 16 "TwentyPushes$Turn" "told" "I" ∈ jtb := jt_in (jt_1 (List.mem_of_getElem? (i := 126) rfl)) rfl
theorem fl_X8_72 : Cond.fieldLink RX8 72 "TwentyPushes$Turn" "told" "I" ∈ jtb := jt_in (jt_1 (List.mem_of_getElem? (i := 127) rfl)) rfl
theorem fl_X10_19 : Cond.fieldLink RX10 19 "TwentyPushes$Turn" "rounds" "I" ∈ jtb := jt_in (jt_1 (List.mem_of_getElem? (i := 128) rfl)) rfl
theorem fl_X8_54 : Cond.fieldLink RX8 54 "TwentyPushes$Turn" "rounds" "I" ∈ jtb := jt_in (jt_1 (List.mem_of_getElem? (i := 129) rfl)) rfl
theorem fl_X5_72 : Cond.fieldLink RX5 72 "TwentyPushes$Turn" "rounds" "I" ∈ jtb := jt_in (jt_1 (List.mem_of_getElem? (i := 130) rfl)) rfl
theorem fl_X11_143 : Cond.fieldLink RX11 143 "TwentyPushes$Turn" "rounds" "I" ∈ jtb := jt_in (jt_1 (List.mem_of_getElem? (i := 131) rfl)) rfl
theorem fl_X10_22 : Cond.fieldLink RX10 22 "TwentyPushes$Turn" "seconds" "I" ∈ jtb := jt_in (jt_1 (List.mem_of_getElem? (i := 132) rfl)) rfl
theorem fl_X8_66 : Cond.fieldLink RX8 66 "TwentyPushes$Turn" "seconds" "I" ∈ jtb := jt_in (jt_1 (List.mem_of_getElem? (i := 133) rfl)) rfl
theorem fl_X5_68 : Cond.fieldLink RX5 68 "TwentyPushes$Turn" "seconds" "I" ∈ jtb := jt_in (jt_1 (List.mem_of_getElem? (i := 134) rfl)) rfl
theorem fl_X11_149 : Cond.fieldLink RX11 149 "TwentyPushes$Turn" "seconds" "I" ∈ jtb := jt_in (jt_1 (List.mem_of_getElem? (i := 135) rfl)) rfl
theorem fl_X8_40 : Cond.fieldLink RX8 40 "TwentyPushes$Turn" "height" "I" ∈ jtb := jt_in (jt_1 (List.mem_of_getElem? (i := 136) rfl)) rfl
theorem fl_X10_25 : Cond.fieldLink RX10 25 "TwentyPushes$Turn" "height" "I" ∈ jtb := jt_in (jt_1 (List.mem_of_getElem? (i := 137) rfl)) rfl
theorem fl_X2_31 : Cond.fieldLink RX2 31 "TwentyPushes$Turn" "height" "I" ∈ jtb := jt_in (jt_1 (List.mem_of_getElem? (i := 138) rfl)) rfl
theorem fl_X10_28 : Cond.fieldLink RX10 28 "TwentyPushes$Turn" "top" "I" ∈ jtb := jt_in (jt_1 (List.mem_of_getElem? (i := 139) rfl)) rfl
theorem fl_X8_69 : Cond.fieldLink RX8 69 "TwentyPushes$Turn" "top" "I" ∈ jtb := jt_in (jt_1 (List.mem_of_getElem? (i := 140) rfl)) rfl
theorem fl_X11_152 : Cond.fieldLink RX11 152 "TwentyPushes$Turn" "top" "I" ∈ jtb := jt_in (jt_1 (List.mem_of_getElem? (i := 141) rfl)) rfl
theorem fl_X2_28 : Cond.fieldLink RX2 28 "TwentyPushes$Turn" "latest" "I" ∈ jtb := jt_in (jt_1 (List.mem_of_getElem? (i := 142) rfl)) rfl
theorem fl_X10_31 : Cond.fieldLink RX10 31 "TwentyPushes$Turn" "latest" "I" ∈ jtb := jt_in (jt_1 (List.mem_of_getElem? (i := 143) rfl)) rfl
theorem fl_X8_63 : Cond.fieldLink RX8 63 "TwentyPushes$Turn" "latest" "I" ∈ jtb := jt_in (jt_1 (List.mem_of_getElem? (i := 144) rfl)) rfl
theorem fl_X11_286 : Cond.fieldLink RX11 286 "TwentyPushes$Turn" "latest" "I" ∈ jtb := jt_in (jt_1 (List.mem_of_getElem? (i := 145) rfl)) rfl
theorem fl_X8_22 : Cond.fieldLink RX8 22 "TwentyPushes$Play" "numbers" "LTwentyPushes$Numbers;" ∈ jtb := jt_in (jt_1 (List.mem_of_getElem? (i := 163) rfl)) rfl
theorem fl_X8_26 : Cond.fieldLink RX8 26 "TwentyPushes$Play" "law" "LTwentyPushes$Law;" ∈ jtb := jt_in (jt_1 (List.mem_of_getElem? (i := 164) rfl)) rfl
theorem fl_X8_12 : Cond.fieldLink RX8 12 "TwentyPushes$Play" "thought" "LTwentyPushes$Turn;" ∈ jtb := jt_in (jt_1 (List.mem_of_getElem? (i := 165) rfl)) rfl
theorem fl_X8_18 : Cond.fieldLink RX8 18 "TwentyPushes$Play" "heard" "[I" ∈ jtb := jt_in (jt_1 (List.mem_of_getElem? (i := 166) rfl)) rfl
theorem cl_X11_41 : Cond.classLink RX11 41 RX5 ∈ jtb := jt_in (jt_1 (List.mem_of_getElem? (i := 176) rfl)) rfl
theorem ao_Line : Cond.arrayOver (.object "TwentyPushes$Line") ∈ lw_tbl := jt_1 (List.mem_of_getElem? (i := 177) rfl)
theorem iq_X5 : Cond.instantiable RX5 9 ∈ jtb := jt_in (jt_1 (List.mem_of_getElem? (i := 178) rfl)) rfl
theorem ml_X11_47 : Cond.methodLink RX11 47 yX5_init ∈ jtb := jt_in (jt_1 (List.mem_of_getElem? (i := 179) rfl)) rfl
theorem im_X5_init : Cond.instanceMethod yX5_init ∈ jtb := jt_in (jt_1 (List.mem_of_getElem? (i := 180) rfl)) rfl
theorem cd_X5_init : Cond.code yX5_init cX5_init 4 none ∈ jtb := jt_in (jt_1 (List.mem_of_getElem? (i := 181) rfl)) rfl
theorem ml_X5_3 : Cond.methodLink RX5 3 objectInit ∈ jtb := jt_in (jt_1 (List.mem_of_getElem? (i := 182) rfl)) rfl
theorem fl_X5_24 : Cond.fieldLink RX5 24 "TwentyPushes$Line" "numbers" "LTwentyPushes$Numbers;" ∈ jtb := jt_in (jt_1 (List.mem_of_getElem? (i := 183) rfl)) rfl
theorem fl_X5_28 : Cond.fieldLink RX5 28 "TwentyPushes$Line" "play" "LTwentyPushes$Play;" ∈ jtb := jt_in (jt_1 (List.mem_of_getElem? (i := 184) rfl)) rfl
theorem fl_X5_32 : Cond.fieldLink RX5 32 "TwentyPushes$Line" "swing" "I" ∈ jtb := jt_in (jt_1 (List.mem_of_getElem? (i := 185) rfl)) rfl
theorem fl_X5_9 : Cond.fieldLink RX5 9 "TwentyPushes$Line" "queue" "[I" ∈ jtb := jt_in (jt_1 (List.mem_of_getElem? (i := 186) rfl)) rfl
theorem fl_X5_15 : Cond.fieldLink RX5 15 "TwentyPushes$Line" "seconds" "[I" ∈ jtb := jt_in (jt_1 (List.mem_of_getElem? (i := 187) rfl)) rfl
theorem fl_X5_18 : Cond.fieldLink RX5 18 "TwentyPushes$Line" "rounds" "[I" ∈ jtb := jt_in (jt_1 (List.mem_of_getElem? (i := 188) rfl)) rfl
theorem fl_X5_21 : Cond.fieldLink RX5 21 "TwentyPushes$Line" "often" "[I" ∈ jtb := jt_in (jt_1 (List.mem_of_getElem? (i := 189) rfl)) rfl
theorem fl_X5_36 : Cond.fieldLink RX5 36 "TwentyPushes$Line" "size" "I" ∈ jtb := jt_in (jt_1 (List.mem_of_getElem? (i := 190) rfl)) rfl
theorem fl_X11_209 : Cond.fieldLink RX11 209 "TwentyPushes$Line" "size" "I" ∈ jtb := jt_in (jt_1 (List.mem_of_getElem? (i := 191) rfl)) rfl
theorem fl_X11_197 : Cond.fieldLink RX11 197 "TwentyPushes$Line" "end" "I" ∈ jtb := jt_in (jt_1 (List.mem_of_getElem? (i := 192) rfl)) rfl
theorem fl_X5_83 : Cond.fieldLink RX5 83 "TwentyPushes$Line" "end" "I" ∈ jtb := jt_in (jt_1 (List.mem_of_getElem? (i := 193) rfl)) rfl
theorem cl_X11_50 : Cond.classLink RX11 50 RX7 ∈ jtb := jt_in (jt_1 (List.mem_of_getElem? (i := 213) rfl)) rfl
theorem iq_X7 : Cond.instantiable RX7 5 ∈ jtb := jt_in (jt_1 (List.mem_of_getElem? (i := 214) rfl)) rfl
theorem ml_X11_52 : Cond.methodLink RX11 52 yX7_init ∈ jtb := jt_in (jt_1 (List.mem_of_getElem? (i := 215) rfl)) rfl
theorem im_X7_init : Cond.instanceMethod yX7_init ∈ jtb := jt_in (jt_1 (List.mem_of_getElem? (i := 216) rfl)) rfl
theorem cd_X7_init : Cond.code yX7_init cX7_init 1 none ∈ jtb := jt_in (jt_1 (List.mem_of_getElem? (i := 217) rfl)) rfl
theorem ml_X7_1 : Cond.methodLink RX7 1 objectInit ∈ jtb := jt_in (jt_1 (List.mem_of_getElem? (i := 218) rfl)) rfl
theorem fl_X7_9 : Cond.fieldLink RX7 9 "TwentyPushes$Order" "lasting" "[I" ∈ jtb := jt_in (jt_1 (List.mem_of_getElem? (i := 219) rfl)) rfl
theorem fl_X11_216 : Cond.fieldLink RX11 216 "TwentyPushes$Order" "lasting" "[I" ∈ jtb := jt_in (jt_1 (List.mem_of_getElem? (i := 220) rfl)) rfl
theorem fl_X7_13 : Cond.fieldLink RX7 13 "TwentyPushes$Order" "tried" "[I" ∈ jtb := jt_in (jt_1 (List.mem_of_getElem? (i := 221) rfl)) rfl
theorem fl_X7_16 : Cond.fieldLink RX7 16 "TwentyPushes$Order" "found" "[I" ∈ jtb := jt_in (jt_1 (List.mem_of_getElem? (i := 222) rfl)) rfl
theorem fl_X7_25 : Cond.fieldLink RX7 25 "TwentyPushes$Order" "size" "I" ∈ jtb := jt_in (jt_1 (List.mem_of_getElem? (i := 223) rfl)) rfl
theorem fl_X7_33 : Cond.fieldLink RX7 33 "TwentyPushes$Order" "least" "I" ∈ jtb := jt_in (jt_1 (List.mem_of_getElem? (i := 224) rfl)) rfl
theorem fl_X11_227 : Cond.fieldLink RX11 227 "TwentyPushes$Order" "least" "I" ∈ jtb := jt_in (jt_1 (List.mem_of_getElem? (i := 225) rfl)) rfl
theorem cl_X11_57 : Cond.classLink RX11 57 RX3 ∈ jtb := jt_in (jt_1 (List.mem_of_getElem? (i := 237) rfl)) rfl
theorem iq_X3 : Cond.instantiable RX3 2 ∈ jtb := jt_in (jt_1 (List.mem_of_getElem? (i := 238) rfl)) rfl
theorem ml_X11_59 : Cond.methodLink RX11 59 yX3_init ∈ jtb := jt_in (jt_1 (List.mem_of_getElem? (i := 239) rfl)) rfl
theorem im_X3_init : Cond.instanceMethod yX3_init ∈ jtb := jt_in (jt_2 (List.mem_of_getElem? (i := 0) rfl)) rfl
theorem cd_X3_init : Cond.code yX3_init cX3_init 1 none ∈ jtb := jt_in (jt_2 (List.mem_of_getElem? (i := 1) rfl)) rfl
theorem ml_X3_1 : Cond.methodLink RX3 1 objectInit ∈ jtb := jt_in (jt_2 (List.mem_of_getElem? (i := 2) rfl)) rfl
theorem fl_X3_7 : Cond.fieldLink RX3 7 "TwentyPushes$Draw" "z" "I" ∈ jtb := jt_in (jt_2 (List.mem_of_getElem? (i := 3) rfl)) rfl
theorem fl_X3_13 : Cond.fieldLink RX3 13 "TwentyPushes$Draw" "tired" "I" ∈ jtb := jt_in (jt_2 (List.mem_of_getElem? (i := 4) rfl)) rfl
theorem cl_X11_64 : Cond.classLink RX11 64 RX2 ∈ jtb := jt_in (jt_2 (List.mem_of_getElem? (i := 10) rfl)) rfl
theorem iq_X2 : Cond.instantiable RX2 8 ∈ jtb := jt_in (jt_2 (List.mem_of_getElem? (i := 11) rfl)) rfl
theorem ml_X11_66 : Cond.methodLink RX11 66 yX2_init ∈ jtb := jt_in (jt_2 (List.mem_of_getElem? (i := 12) rfl)) rfl
theorem im_X2_init : Cond.instanceMethod yX2_init ∈ jtb := jt_in (jt_2 (List.mem_of_getElem? (i := 13) rfl)) rfl
theorem cd_X2_init : Cond.code yX2_init cX2_init 1 none ∈ jtb := jt_in (jt_2 (List.mem_of_getElem? (i := 14) rfl)) rfl
theorem ml_X2_3 : Cond.methodLink RX2 3 objectInit ∈ jtb := jt_in (jt_2 (List.mem_of_getElem? (i := 15) rfl)) rfl
theorem cl_X2_9 : Cond.classLink RX2 9 RX10 ∈ jtb := jt_in (jt_2 (List.mem_of_getElem? (i := 16) rfl)) rfl
theorem ml_X2_11 : Cond.methodLink RX2 11 yX10_init ∈ jtb := jt_in (jt_2 (List.mem_of_getElem? (i := 17) rfl)) rfl
theorem fl_X2_12 : Cond.fieldLink RX2 12 "TwentyPushes$Deed" "turn" "LTwentyPushes$Turn;" ∈ jtb := jt_in (jt_2 (List.mem_of_getElem? (i := 18) rfl)) rfl
theorem fl_X11_258 : Cond.fieldLink RX11 258 "TwentyPushes$Deed" "turn" "LTwentyPushes$Turn;" ∈ jtb := jt_in (jt_2 (List.mem_of_getElem? (i := 19) rfl)) rfl
theorem fl_X2_43 : Cond.fieldLink RX2 43 "TwentyPushes$Deed" "busy" "Z" ∈ jtb := jt_in (jt_2 (List.mem_of_getElem? (i := 20) rfl)) rfl
theorem fl_X11_254 : Cond.fieldLink RX11 254 "TwentyPushes$Deed" "busy" "Z" ∈ jtb := jt_in (jt_2 (List.mem_of_getElem? (i := 21) rfl)) rfl
theorem fl_X2_40 : Cond.fieldLink RX2 40 "TwentyPushes$Deed" "turns" "I" ∈ jtb := jt_in (jt_2 (List.mem_of_getElem? (i := 22) rfl)) rfl
theorem fl_X11_292 : Cond.fieldLink RX11 292 "TwentyPushes$Deed" "turns" "I" ∈ jtb := jt_in (jt_2 (List.mem_of_getElem? (i := 23) rfl)) rfl
theorem fl_X2_22 : Cond.fieldLink RX2 22 "TwentyPushes$Deed" "rounds" "I" ∈ jtb := jt_in (jt_2 (List.mem_of_getElem? (i := 24) rfl)) rfl
theorem fl_X11_295 : Cond.fieldLink RX11 295 "TwentyPushes$Deed" "rounds" "I" ∈ jtb := jt_in (jt_2 (List.mem_of_getElem? (i := 25) rfl)) rfl
theorem fl_X2_25 : Cond.fieldLink RX2 25 "TwentyPushes$Deed" "seconds" "I" ∈ jtb := jt_in (jt_2 (List.mem_of_getElem? (i := 26) rfl)) rfl
theorem fl_X11_296 : Cond.fieldLink RX11 296 "TwentyPushes$Deed" "seconds" "I" ∈ jtb := jt_in (jt_2 (List.mem_of_getElem? (i := 27) rfl)) rfl
theorem fl_X2_51 : Cond.fieldLink RX2 51 "TwentyPushes$Deed" "offs" "I" ∈ jtb := jt_in (jt_2 (List.mem_of_getElem? (i := 28) rfl)) rfl
theorem fl_X11_289 : Cond.fieldLink RX11 289 "TwentyPushes$Deed" "offs" "I" ∈ jtb := jt_in (jt_2 (List.mem_of_getElem? (i := 29) rfl)) rfl
theorem fl_X2_34 : Cond.fieldLink RX2 34 "TwentyPushes$Deed" "top" "I" ∈ jtb := jt_in (jt_2 (List.mem_of_getElem? (i := 30) rfl)) rfl
theorem fl_X11_297 : Cond.fieldLink RX11 297 "TwentyPushes$Deed" "top" "I" ∈ jtb := jt_in (jt_2 (List.mem_of_getElem? (i := 31) rfl)) rfl
theorem fl_X2_18 : Cond.fieldLink RX2 18 "TwentyPushes$Deed" "topChild" "I" ∈ jtb := jt_in (jt_2 (List.mem_of_getElem? (i := 32) rfl)) rfl
theorem fl_X11_298 : Cond.fieldLink RX11 298 "TwentyPushes$Deed" "topChild" "I" ∈ jtb := jt_in (jt_2 (List.mem_of_getElem? (i := 33) rfl)) rfl
theorem cl_X11_74 : Cond.classLink RX11 74 RX0 ∈ jtb := jt_in (jt_2 (List.mem_of_getElem? (i := 51) rfl)) rfl
theorem iq_X0 : Cond.instantiable RX0 4 ∈ jtb := jt_in (jt_2 (List.mem_of_getElem? (i := 52) rfl)) rfl
theorem ml_X11_76 : Cond.methodLink RX11 76 yX0_init ∈ jtb := jt_in (jt_2 (List.mem_of_getElem? (i := 53) rfl)) rfl
theorem im_X0_init : Cond.instanceMethod yX0_init ∈ jtb := jt_in (jt_2 (List.mem_of_getElem? (i := 54) rfl)) rfl
theorem cd_X0_init : Cond.code yX0_init cX0_init 1 none ∈ jtb := jt_in (jt_2 (List.mem_of_getElem? (i := 55) rfl)) rfl
theorem ml_X0_3 : Cond.methodLink RX0 3 objectInit ∈ jtb := jt_in (jt_2 (List.mem_of_getElem? (i := 56) rfl)) rfl
theorem fl_X0_11 : Cond.fieldLink RX0 11 "TwentyPushes$Bodies" "kinds" "[I" ∈ jtb := jt_in (jt_2 (List.mem_of_getElem? (i := 57) rfl)) rfl
theorem fl_X0_22 : Cond.fieldLink RX0 22 "TwentyPushes$Bodies" "size" "I" ∈ jtb := jt_in (jt_2 (List.mem_of_getElem? (i := 58) rfl)) rfl
theorem fl_X11_366 : Cond.fieldLink RX11 366 "TwentyPushes$Bodies" "size" "I" ∈ jtb := jt_in (jt_2 (List.mem_of_getElem? (i := 59) rfl)) rfl
theorem fl_X0_15 : Cond.fieldLink RX0 15 "TwentyPushes$Bodies" "traced" "[I" ∈ jtb := jt_in (jt_2 (List.mem_of_getElem? (i := 60) rfl)) rfl
theorem fl_X0_32 : Cond.fieldLink RX0 32 "TwentyPushes$Bodies" "ran" "I" ∈ jtb := jt_in (jt_2 (List.mem_of_getElem? (i := 61) rfl)) rfl
theorem fl_X11_367 : Cond.fieldLink RX11 367 "TwentyPushes$Bodies" "ran" "I" ∈ jtb := jt_in (jt_2 (List.mem_of_getElem? (i := 62) rfl)) rfl
theorem cl_X11_81 : Cond.classLink RX11 81 RX9 ∈ jtb := jt_in (jt_2 (List.mem_of_getElem? (i := 72) rfl)) rfl
theorem iq_X9 : Cond.instantiable RX9 5 ∈ jtb := jt_in (jt_2 (List.mem_of_getElem? (i := 73) rfl)) rfl
theorem ml_X11_83 : Cond.methodLink RX11 83 yX9_init ∈ jtb := jt_in (jt_2 (List.mem_of_getElem? (i := 74) rfl)) rfl
theorem im_X9_init : Cond.instanceMethod yX9_init ∈ jtb := jt_in (jt_2 (List.mem_of_getElem? (i := 75) rfl)) rfl
theorem cd_X9_init : Cond.code yX9_init cX9_init 1 none ∈ jtb := jt_in (jt_2 (List.mem_of_getElem? (i := 76) rfl)) rfl
theorem ml_X9_3 : Cond.methodLink RX9 3 objectInit ∈ jtb := jt_in (jt_2 (List.mem_of_getElem? (i := 77) rfl)) rfl
theorem fl_X9_11 : Cond.fieldLink RX9 11 "TwentyPushes$Shelves" "holds" "[I" ∈ jtb := jt_in (jt_2 (List.mem_of_getElem? (i := 78) rfl)) rfl
theorem fl_X9_15 : Cond.fieldLink RX9 15 "TwentyPushes$Shelves" "held" "[I" ∈ jtb := jt_in (jt_2 (List.mem_of_getElem? (i := 79) rfl)) rfl
theorem fl_X9_18 : Cond.fieldLink RX9 18 "TwentyPushes$Shelves" "sorts" "[I" ∈ jtb := jt_in (jt_2 (List.mem_of_getElem? (i := 80) rfl)) rfl
theorem fl_X9_21 : Cond.fieldLink RX9 21 "TwentyPushes$Shelves" "sizes" "[I" ∈ jtb := jt_in (jt_2 (List.mem_of_getElem? (i := 81) rfl)) rfl
theorem fl_X9_24 : Cond.fieldLink RX9 24 "TwentyPushes$Shelves" "elements" "[J" ∈ jtb := jt_in (jt_2 (List.mem_of_getElem? (i := 82) rfl)) rfl
theorem ac_long : Cond.arrayClass .long ∈ jtb := jt_in (jt_2 (List.mem_of_getElem? (i := 94) rfl)) rfl
theorem fl_X11_10 : Cond.fieldLink RX11 10 "TwentyPushes" "numbers" "LTwentyPushes$Numbers;" ∈ jtb := jt_in (jt_2 (List.mem_of_getElem? (i := 95) rfl)) rfl
theorem fl_X11_21 : Cond.fieldLink RX11 21 "TwentyPushes" "changes" "LTwentyPushes$Changes;" ∈ jtb := jt_in (jt_2 (List.mem_of_getElem? (i := 96) rfl)) rfl
theorem fl_X11_28 : Cond.fieldLink RX11 28 "TwentyPushes" "theLaw" "LTwentyPushes$Law;" ∈ jtb := jt_in (jt_2 (List.mem_of_getElem? (i := 97) rfl)) rfl
theorem fl_X11_37 : Cond.fieldLink RX11 37 "TwentyPushes" "play" "LTwentyPushes$Play;" ∈ jtb := jt_in (jt_2 (List.mem_of_getElem? (i := 98) rfl)) rfl
theorem fl_X11_43 : Cond.fieldLink RX11 43 "TwentyPushes" "lines" "[LTwentyPushes$Line;" ∈ jtb := jt_in (jt_2 (List.mem_of_getElem? (i := 99) rfl)) rfl
theorem fl_X11_53 : Cond.fieldLink RX11 53 "TwentyPushes" "best" "LTwentyPushes$Order;" ∈ jtb := jt_in (jt_2 (List.mem_of_getElem? (i := 100) rfl)) rfl
theorem fl_X11_60 : Cond.fieldLink RX11 60 "TwentyPushes" "draw" "LTwentyPushes$Draw;" ∈ jtb := jt_in (jt_2 (List.mem_of_getElem? (i := 101) rfl)) rfl
theorem fl_X11_67 : Cond.fieldLink RX11 67 "TwentyPushes" "deed" "LTwentyPushes$Deed;" ∈ jtb := jt_in (jt_2 (List.mem_of_getElem? (i := 102) rfl)) rfl
theorem fl_X11_71 : Cond.fieldLink RX11 71 "TwentyPushes" "imaged" "LTwentyPushes$Deed;" ∈ jtb := jt_in (jt_2 (List.mem_of_getElem? (i := 103) rfl)) rfl
theorem fl_X11_77 : Cond.fieldLink RX11 77 "TwentyPushes" "bodies" "LTwentyPushes$Bodies;" ∈ jtb := jt_in (jt_2 (List.mem_of_getElem? (i := 104) rfl)) rfl
theorem fl_X11_84 : Cond.fieldLink RX11 84 "TwentyPushes" "shelves" "LTwentyPushes$Shelves;" ∈ jtb := jt_in (jt_2 (List.mem_of_getElem? (i := 105) rfl)) rfl
theorem fl_X11_305 : Cond.fieldLink RX11 305 "TwentyPushes" "hasImage" "Z" ∈ jtb := jt_in (jt_2 (List.mem_of_getElem? (i := 106) rfl)) rfl
theorem ml_L_13 : Cond.methodLink RL 13 yX11_child ∈ jtb := jt_in (jt_2 (List.mem_of_getElem? (i := 132) rfl)) rfl
theorem im_X11_child : Cond.instanceMethod yX11_child ∈ jtb := jt_in (jt_2 (List.mem_of_getElem? (i := 133) rfl)) rfl
theorem se_X11_child : Cond.selects RX11 yX11_child yX11_child ∈ jtb := jt_in (jt_2 (List.mem_of_getElem? (i := 134) rfl)) rfl
theorem cd_X11_child : Cond.code yX11_child cX11_child 3 (some (.int)) ∈ jtb := jt_in (jt_2 (List.mem_of_getElem? (i := 135) rfl)) rfl
theorem ml_X11_88 : Cond.methodLink RX11 88 yX6_welcome ∈ jtb := jt_in (jt_2 (List.mem_of_getElem? (i := 136) rfl)) rfl
theorem im_X6_welcome : Cond.instanceMethod yX6_welcome ∈ jtb := jt_in (jt_2 (List.mem_of_getElem? (i := 137) rfl)) rfl
theorem se_X6_welcome : Cond.selects RX6 yX6_welcome yX6_welcome ∈ jtb := jt_in (jt_2 (List.mem_of_getElem? (i := 138) rfl)) rfl
theorem cd_X6_welcome : Cond.code yX6_welcome cX6_welcome 5 (some (.int)) ∈ jtb := jt_in (jt_2 (List.mem_of_getElem? (i := 139) rfl)) rfl
theorem ml_X6_32 : Cond.methodLink RX6 32 yX6_isWithin ∈ jtb := jt_in (jt_2 (List.mem_of_getElem? (i := 140) rfl)) rfl
theorem im_X6_isWithin : Cond.instanceMethod yX6_isWithin ∈ jtb := jt_in (jt_2 (List.mem_of_getElem? (i := 141) rfl)) rfl
theorem se_X6_isWithin : Cond.selects RX6 yX6_isWithin yX6_isWithin ∈ jtb := jt_in (jt_2 (List.mem_of_getElem? (i := 142) rfl)) rfl
theorem cd_X6_isWithin : Cond.code yX6_isWithin cX6_isWithin 3 (some (.boolean)) ∈ jtb := jt_in (jt_2 (List.mem_of_getElem? (i := 143) rfl)) rfl
theorem fl_X6_26 : Cond.fieldLink RX6 26 "TwentyPushes$Numbers" "LEAST" "[I" ∈ jtb := jt_in (jt_2 (List.mem_of_getElem? (i := 144) rfl)) rfl
theorem ls_LEAST : Cond.laysStatic "TwentyPushes$Numbers" "LEAST" "[I" ∈ lw_tbl := jt_2 (List.mem_of_getElem? (i := 145) rfl)
theorem fl_X6_29 : Cond.fieldLink RX6 29 "TwentyPushes$Numbers" "MOST" "[I" ∈ jtb := jt_in (jt_2 (List.mem_of_getElem? (i := 146) rfl)) rfl
theorem ls_MOST : Cond.laysStatic "TwentyPushes$Numbers" "MOST" "[I" ∈ lw_tbl := jt_2 (List.mem_of_getElem? (i := 147) rfl)
theorem ml_X6_39 : Cond.methodLink RX6 39 yX6_placeOf ∈ jtb := jt_in (jt_2 (List.mem_of_getElem? (i := 148) rfl)) rfl
theorem im_X6_placeOf : Cond.instanceMethod yX6_placeOf ∈ jtb := jt_in (jt_2 (List.mem_of_getElem? (i := 149) rfl)) rfl
theorem se_X6_placeOf : Cond.selects RX6 yX6_placeOf yX6_placeOf ∈ jtb := jt_in (jt_2 (List.mem_of_getElem? (i := 150) rfl)) rfl
theorem cd_X6_placeOf : Cond.code yX6_placeOf cX6_placeOf 3 (some (.int)) ∈ jtb := jt_in (jt_2 (List.mem_of_getElem? (i := 151) rfl)) rfl
theorem ml_X6_19 : Cond.methodLink RX6 19 yX6_isChild ∈ jtb := jt_in (jt_2 (List.mem_of_getElem? (i := 152) rfl)) rfl
theorem im_X6_isChild : Cond.instanceMethod yX6_isChild ∈ jtb := jt_in (jt_2 (List.mem_of_getElem? (i := 153) rfl)) rfl
theorem se_X6_isChild : Cond.selects RX6 yX6_isChild yX6_isChild ∈ jtb := jt_in (jt_2 (List.mem_of_getElem? (i := 154) rfl)) rfl
theorem cd_X6_isChild : Cond.code yX6_isChild cX6_isChild 2 (some (.boolean)) ∈ jtb := jt_in (jt_2 (List.mem_of_getElem? (i := 155) rfl)) rfl
theorem ml_X6_23 : Cond.methodLink RX6 23 yX6_isSwing ∈ jtb := jt_in (jt_2 (List.mem_of_getElem? (i := 156) rfl)) rfl
theorem im_X6_isSwing : Cond.instanceMethod yX6_isSwing ∈ jtb := jt_in (jt_2 (List.mem_of_getElem? (i := 157) rfl)) rfl
theorem se_X6_isSwing : Cond.selects RX6 yX6_isSwing yX6_isSwing ∈ jtb := jt_in (jt_2 (List.mem_of_getElem? (i := 158) rfl)) rfl
theorem cd_X6_isSwing : Cond.code yX6_isSwing cX6_isSwing 2 (some (.boolean)) ∈ jtb := jt_in (jt_2 (List.mem_of_getElem? (i := 159) rfl)) rfl
theorem ml_X6_47 : Cond.methodLink RX6 47 yX6_setAt ∈ jtb := jt_in (jt_2 (List.mem_of_getElem? (i := 160) rfl)) rfl
theorem im_X6_setAt : Cond.instanceMethod yX6_setAt ∈ jtb := jt_in (jt_2 (List.mem_of_getElem? (i := 161) rfl)) rfl
theorem se_X6_setAt : Cond.selects RX6 yX6_setAt yX6_setAt ∈ jtb := jt_in (jt_2 (List.mem_of_getElem? (i := 162) rfl)) rfl
theorem cd_X6_setAt : Cond.code yX6_setAt cX6_setAt 3 none ∈ jtb := jt_in (jt_2 (List.mem_of_getElem? (i := 163) rfl)) rfl
theorem ml_L_18 : Cond.methodLink RL 18 yX11_children ∈ jtb := jt_in (jt_2 (List.mem_of_getElem? (i := 164) rfl)) rfl
theorem im_X11_children : Cond.instanceMethod yX11_children ∈ jtb := jt_in (jt_2 (List.mem_of_getElem? (i := 165) rfl)) rfl
theorem se_X11_children : Cond.selects RX11 yX11_children yX11_children ∈ jtb := jt_in (jt_2 (List.mem_of_getElem? (i := 166) rfl)) rfl
theorem cd_X11_children : Cond.code yX11_children cX11_children 10 (some (.int)) ∈ jtb := jt_in (jt_2 (List.mem_of_getElem? (i := 167) rfl)) rfl
theorem ml_X11_92 : Cond.methodLink RX11 92 yX9_isShelf ∈ jtb := jt_in (jt_2 (List.mem_of_getElem? (i := 168) rfl)) rfl
theorem im_X9_isShelf : Cond.instanceMethod yX9_isShelf ∈ jtb := jt_in (jt_2 (List.mem_of_getElem? (i := 169) rfl)) rfl
theorem se_X9_isShelf : Cond.selects RX9 yX9_isShelf yX9_isShelf ∈ jtb := jt_in (jt_2 (List.mem_of_getElem? (i := 170) rfl)) rfl
theorem cd_X9_isShelf : Cond.code yX9_isShelf cX9_isShelf 2 (some (.boolean)) ∈ jtb := jt_in (jt_2 (List.mem_of_getElem? (i := 171) rfl)) rfl
theorem ml_X11_96 : Cond.methodLink RX11 96 yX9_refusalOfBytes ∈ jtb := jt_in (jt_2 (List.mem_of_getElem? (i := 172) rfl)) rfl
theorem im_X9_refusalOfBytes : Cond.instanceMethod yX9_refusalOfBytes ∈ jtb := jt_in (jt_2 (List.mem_of_getElem? (i := 173) rfl)) rfl
theorem se_X9_refusalOfBytes : Cond.selects RX9 yX9_refusalOfBytes yX9_refusalOfBytes ∈ jtb := jt_in (jt_2 (List.mem_of_getElem? (i := 174) rfl)) rfl
theorem cd_X9_refusalOfBytes : Cond.code yX9_refusalOfBytes cX9_refusalOfBytes 2 (some (.int)) ∈ jtb := jt_in (jt_2 (List.mem_of_getElem? (i := 175) rfl)) rfl
theorem ml_X9_35 : Cond.methodLink RX9 35 yX9_isEmpty ∈ jtb := jt_in (jt_2 (List.mem_of_getElem? (i := 176) rfl)) rfl
theorem im_X9_isEmpty : Cond.instanceMethod yX9_isEmpty ∈ jtb := jt_in (jt_2 (List.mem_of_getElem? (i := 177) rfl)) rfl
theorem se_X9_isEmpty : Cond.selects RX9 yX9_isEmpty yX9_isEmpty ∈ jtb := jt_in (jt_2 (List.mem_of_getElem? (i := 178) rfl)) rfl
theorem cd_X9_isEmpty : Cond.code yX9_isEmpty cX9_isEmpty 2 (some (.boolean)) ∈ jtb := jt_in (jt_2 (List.mem_of_getElem? (i := 179) rfl)) rfl
theorem ml_X9_28 : Cond.methodLink RX9 28 yX9_isShelf ∈ jtb := jt_in (jt_2 (List.mem_of_getElem? (i := 180) rfl)) rfl
theorem ml_X9_32 : Cond.methodLink RX9 32 yX9_isRow ∈ jtb := jt_in (jt_2 (List.mem_of_getElem? (i := 181) rfl)) rfl
theorem pm_X9_isRow : Cond.privateMethod yX9_isRow ∈ lw_tbl := jt_2 (List.mem_of_getElem? (i := 182) rfl)
theorem im_X9_isRow : Cond.instanceMethod yX9_isRow ∈ jtb := jt_in (jt_2 (List.mem_of_getElem? (i := 183) rfl)) rfl
theorem cd_X9_isRow : Cond.code yX9_isRow cX9_isRow 2 (some (.boolean)) ∈ jtb := jt_in (jt_2 (List.mem_of_getElem? (i := 184) rfl)) rfl
theorem ml_X11_100 : Cond.methodLink RX11 100 yX9_hasPlaces ∈ jtb := jt_in (jt_2 (List.mem_of_getElem? (i := 185) rfl)) rfl
theorem im_X9_hasPlaces : Cond.instanceMethod yX9_hasPlaces ∈ jtb := jt_in (jt_2 (List.mem_of_getElem? (i := 186) rfl)) rfl
theorem se_X9_hasPlaces : Cond.selects RX9 yX9_hasPlaces yX9_hasPlaces ∈ jtb := jt_in (jt_2 (List.mem_of_getElem? (i := 187) rfl)) rfl
theorem cd_X9_hasPlaces : Cond.code yX9_hasPlaces cX9_hasPlaces 5 (some (.boolean)) ∈ jtb := jt_in (jt_2 (List.mem_of_getElem? (i := 188) rfl)) rfl
theorem ml_X9_42 : Cond.methodLink RX9 42 yX9_sizeOf ∈ jtb := jt_in (jt_2 (List.mem_of_getElem? (i := 189) rfl)) rfl
theorem im_X9_sizeOf : Cond.instanceMethod yX9_sizeOf ∈ jtb := jt_in (jt_2 (List.mem_of_getElem? (i := 190) rfl)) rfl
theorem se_X9_sizeOf : Cond.selects RX9 yX9_sizeOf yX9_sizeOf ∈ jtb := jt_in (jt_2 (List.mem_of_getElem? (i := 191) rfl)) rfl
theorem cd_X9_sizeOf : Cond.code yX9_sizeOf cX9_sizeOf 2 (some (.int)) ∈ jtb := jt_in (jt_2 (List.mem_of_getElem? (i := 192) rfl)) rfl
theorem ml_X11_104 : Cond.methodLink RX11 104 yX9_elementAt ∈ jtb := jt_in (jt_2 (List.mem_of_getElem? (i := 193) rfl)) rfl
theorem im_X9_elementAt : Cond.instanceMethod yX9_elementAt ∈ jtb := jt_in (jt_2 (List.mem_of_getElem? (i := 194) rfl)) rfl
theorem se_X9_elementAt : Cond.selects RX9 yX9_elementAt yX9_elementAt ∈ jtb := jt_in (jt_2 (List.mem_of_getElem? (i := 195) rfl)) rfl
theorem cd_X9_elementAt : Cond.code yX9_elementAt cX9_elementAt 3 (some (.long)) ∈ jtb := jt_in (jt_2 (List.mem_of_getElem? (i := 196) rfl)) rfl
theorem ml_X9_38 : Cond.methodLink RX9 38 yX9_hasPlaces ∈ jtb := jt_in (jt_2 (List.mem_of_getElem? (i := 197) rfl)) rfl
theorem ml_L_23 : Cond.methodLink RL 23 yX11_mend ∈ jtb := jt_in (jt_2 (List.mem_of_getElem? (i := 198) rfl)) rfl
theorem im_X11_mend : Cond.instanceMethod yX11_mend ∈ jtb := jt_in (jt_2 (List.mem_of_getElem? (i := 199) rfl)) rfl
theorem se_X11_mend : Cond.selects RX11 yX11_mend yX11_mend ∈ jtb := jt_in (jt_2 (List.mem_of_getElem? (i := 200) rfl)) rfl
theorem cd_X11_mend : Cond.code yX11_mend cX11_mend 6 (some (.int)) ∈ jtb := jt_in (jt_2 (List.mem_of_getElem? (i := 201) rfl)) rfl
theorem ml_X11_108 : Cond.methodLink RX11 108 yX6_placeOf ∈ jtb := jt_in (jt_2 (List.mem_of_getElem? (i := 202) rfl)) rfl
theorem ml_X11_112 : Cond.methodLink RX11 112 yX6_mayBe ∈ jtb := jt_in (jt_2 (List.mem_of_getElem? (i := 203) rfl)) rfl
theorem im_X6_mayBe : Cond.instanceMethod yX6_mayBe ∈ jtb := jt_in (jt_2 (List.mem_of_getElem? (i := 204) rfl)) rfl
theorem se_X6_mayBe : Cond.selects RX6 yX6_mayBe yX6_mayBe ∈ jtb := jt_in (jt_2 (List.mem_of_getElem? (i := 205) rfl)) rfl
theorem cd_X6_mayBe : Cond.code yX6_mayBe cX6_mayBe 4 (some (.boolean)) ∈ jtb := jt_in (jt_2 (List.mem_of_getElem? (i := 206) rfl)) rfl
theorem ml_X6_36 : Cond.methodLink RX6 36 yX6_mayCount ∈ jtb := jt_in (jt_2 (List.mem_of_getElem? (i := 207) rfl)) rfl
theorem im_X6_mayCount : Cond.instanceMethod yX6_mayCount ∈ jtb := jt_in (jt_2 (List.mem_of_getElem? (i := 208) rfl)) rfl
theorem se_X6_mayCount : Cond.selects RX6 yX6_mayCount yX6_mayCount ∈ jtb := jt_in (jt_2 (List.mem_of_getElem? (i := 209) rfl)) rfl
theorem cd_X6_mayCount : Cond.code yX6_mayCount cX6_mayCount 3 (some (.boolean)) ∈ jtb := jt_in (jt_2 (List.mem_of_getElem? (i := 210) rfl)) rfl
theorem ml_X11_115 : Cond.methodLink RX11 115 yX6_valueAt ∈ jtb := jt_in (jt_2 (List.mem_of_getElem? (i := 211) rfl)) rfl
theorem im_X6_valueAt : Cond.instanceMethod yX6_valueAt ∈ jtb := jt_in (jt_2 (List.mem_of_getElem? (i := 212) rfl)) rfl
theorem se_X6_valueAt : Cond.selects RX6 yX6_valueAt yX6_valueAt ∈ jtb := jt_in (jt_2 (List.mem_of_getElem? (i := 213) rfl)) rfl
theorem cd_X6_valueAt : Cond.code yX6_valueAt cX6_valueAt 2 (some (.int)) ∈ jtb := jt_in (jt_2 (List.mem_of_getElem? (i := 214) rfl)) rfl
theorem ml_X11_118 : Cond.methodLink RX11 118 yX1_make ∈ jtb := jt_in (jt_2 (List.mem_of_getElem? (i := 215) rfl)) rfl
theorem im_X1_make : Cond.instanceMethod yX1_make ∈ jtb := jt_in (jt_2 (List.mem_of_getElem? (i := 216) rfl)) rfl
theorem se_X1_make : Cond.selects RX1 yX1_make yX1_make ∈ jtb := jt_in (jt_2 (List.mem_of_getElem? (i := 217) rfl)) rfl
theorem cd_X1_make : Cond.code yX1_make cX1_make 3 none ∈ jtb := jt_in (jt_2 (List.mem_of_getElem? (i := 218) rfl)) rfl
theorem ml_X1_29 : Cond.methodLink RX1 29 yX1_forgetOldest ∈ jtb := jt_in (jt_2 (List.mem_of_getElem? (i := 219) rfl)) rfl
theorem pm_X1_forgetOldest : Cond.privateMethod yX1_forgetOldest ∈ lw_tbl := jt_2 (List.mem_of_getElem? (i := 220) rfl)
theorem im_X1_forgetOldest : Cond.instanceMethod yX1_forgetOldest ∈ jtb := jt_in (jt_2 (List.mem_of_getElem? (i := 221) rfl)) rfl
theorem cd_X1_forgetOldest : Cond.code yX1_forgetOldest cX1_forgetOldest 1 none ∈ jtb := jt_in (jt_2 (List.mem_of_getElem? (i := 222) rfl)) rfl
theorem ml_X1_45 : Cond.methodLink RX1 45 arraycopyName ∈ jtb := jt_in (jt_2 (List.mem_of_getElem? (i := 223) rfl)) rfl
theorem st_acopy : Cond.static arraycopyName ∈ jtb := jt_in (jt_2 (List.mem_of_getElem? (i := 224) rfl)) rfl
theorem na_acopy : Cond.native arraycopyName ∈ jtb := jt_in (jt_2 (List.mem_of_getElem? (i := 225) rfl)) rfl
theorem ml_X1_32 : Cond.methodLink RX1 32 yX6_valueAt ∈ jtb := jt_in (jt_2 (List.mem_of_getElem? (i := 226) rfl)) rfl
theorem ml_X1_41 : Cond.methodLink RX1 41 yX6_setAt ∈ jtb := jt_in (jt_2 (List.mem_of_getElem? (i := 227) rfl)) rfl
theorem ml_L_27 : Cond.methodLink RL 27 yX11_of ∈ jtb := jt_in (jt_2 (List.mem_of_getElem? (i := 228) rfl)) rfl
theorem im_X11_of : Cond.instanceMethod yX11_of ∈ jtb := jt_in (jt_2 (List.mem_of_getElem? (i := 229) rfl)) rfl
theorem se_X11_of : Cond.selects RX11 yX11_of yX11_of ∈ jtb := jt_in (jt_2 (List.mem_of_getElem? (i := 230) rfl)) rfl
theorem cd_X11_of : Cond.code yX11_of cX11_of 4 (some (.int)) ∈ jtb := jt_in (jt_2 (List.mem_of_getElem? (i := 231) rfl)) rfl
theorem ml_L_31 : Cond.methodLink RL 31 yX11_feed ∈ jtb := jt_in (jt_2 (List.mem_of_getElem? (i := 232) rfl)) rfl
theorem im_X11_feed : Cond.instanceMethod yX11_feed ∈ jtb := jt_in (jt_2 (List.mem_of_getElem? (i := 233) rfl)) rfl
theorem se_X11_feed : Cond.selects RX11 yX11_feed yX11_feed ∈ jtb := jt_in (jt_2 (List.mem_of_getElem? (i := 234) rfl)) rfl
theorem cd_X11_feed : Cond.code yX11_feed cX11_feed 2 (some (.int)) ∈ jtb := jt_in (jt_2 (List.mem_of_getElem? (i := 235) rfl)) rfl
theorem ml_X11_122 : Cond.methodLink RX11 122 yX4_write ∈ jtb := jt_in (jt_2 (List.mem_of_getElem? (i := 236) rfl)) rfl
theorem im_X4_write : Cond.instanceMethod yX4_write ∈ jtb := jt_in (jt_2 (List.mem_of_getElem? (i := 237) rfl)) rfl
theorem se_X4_write : Cond.selects RX4 yX4_write yX4_write ∈ jtb := jt_in (jt_2 (List.mem_of_getElem? (i := 238) rfl)) rfl
theorem cd_X4_write : Cond.code yX4_write cX4_write 2 (some (.int)) ∈ jtb := jt_in (jt_2 (List.mem_of_getElem? (i := 239) rfl)) rfl
theorem ml_L_36 : Cond.methodLink RL 36 yX11_law ∈ jtb := jt_in (jt_3 (List.mem_of_getElem? (i := 0) rfl)) rfl
theorem im_X11_law : Cond.instanceMethod yX11_law ∈ jtb := jt_in (jt_3 (List.mem_of_getElem? (i := 1) rfl)) rfl
theorem se_X11_law : Cond.selects RX11 yX11_law yX11_law ∈ jtb := jt_in (jt_3 (List.mem_of_getElem? (i := 2) rfl)) rfl
theorem cd_X11_law : Cond.code yX11_law cX11_law 1 (some (.int)) ∈ jtb := jt_in (jt_3 (List.mem_of_getElem? (i := 3) rfl)) rfl
theorem ml_X11_125 : Cond.methodLink RX11 125 yX4_enact ∈ jtb := jt_in (jt_3 (List.mem_of_getElem? (i := 4) rfl)) rfl
theorem im_X4_enact : Cond.instanceMethod yX4_enact ∈ jtb := jt_in (jt_3 (List.mem_of_getElem? (i := 5) rfl)) rfl
theorem se_X4_enact : Cond.selects RX4 yX4_enact yX4_enact ∈ jtb := jt_in (jt_3 (List.mem_of_getElem? (i := 6) rfl)) rfl
theorem cd_X4_enact : Cond.code yX4_enact cX4_enact 3 (some (.int)) ∈ jtb := jt_in (jt_3 (List.mem_of_getElem? (i := 7) rfl)) rfl
theorem ml_X4_38 : Cond.methodLink RX4 38 yX4_readLine ∈ jtb := jt_in (jt_3 (List.mem_of_getElem? (i := 8) rfl)) rfl
theorem pm_X4_readLine : Cond.privateMethod yX4_readLine ∈ lw_tbl := jt_3 (List.mem_of_getElem? (i := 9) rfl)
theorem im_X4_readLine : Cond.instanceMethod yX4_readLine ∈ jtb := jt_in (jt_3 (List.mem_of_getElem? (i := 10) rfl)) rfl
theorem cd_X4_readLine : Cond.code yX4_readLine cX4_readLine 1 (some (.boolean)) ∈ jtb := jt_in (jt_3 (List.mem_of_getElem? (i := 11) rfl)) rfl
theorem ml_X4_55 : Cond.methodLink RX4 55 yX4_readLevel ∈ jtb := jt_in (jt_3 (List.mem_of_getElem? (i := 12) rfl)) rfl
theorem pm_X4_readLevel : Cond.privateMethod yX4_readLevel ∈ lw_tbl := jt_3 (List.mem_of_getElem? (i := 13) rfl)
theorem im_X4_readLevel : Cond.instanceMethod yX4_readLevel ∈ jtb := jt_in (jt_3 (List.mem_of_getElem? (i := 14) rfl)) rfl
theorem cd_X4_readLevel : Cond.code yX4_readLevel cX4_readLevel 5 (some (.boolean)) ∈ jtb := jt_in (jt_3 (List.mem_of_getElem? (i := 15) rfl)) rfl
theorem ml_X4_63 : Cond.methodLink RX4 63 yX4_readOperand ∈ jtb := jt_in (jt_3 (List.mem_of_getElem? (i := 16) rfl)) rfl
theorem pm_X4_readOperand : Cond.privateMethod yX4_readOperand ∈ lw_tbl := jt_3 (List.mem_of_getElem? (i := 17) rfl)
theorem im_X4_readOperand : Cond.instanceMethod yX4_readOperand ∈ jtb := jt_in (jt_3 (List.mem_of_getElem? (i := 18) rfl)) rfl
theorem cd_X4_readOperand : Cond.code yX4_readOperand cX4_readOperand 5 (some (.boolean)) ∈ jtb := jt_in (jt_3 (List.mem_of_getElem? (i := 19) rfl)) rfl
theorem ml_X4_42 : Cond.methodLink RX4 42 yX4_letter ∈ jtb := jt_in (jt_3 (List.mem_of_getElem? (i := 20) rfl)) rfl
theorem pm_X4_letter : Cond.privateMethod yX4_letter ∈ lw_tbl := jt_3 (List.mem_of_getElem? (i := 21) rfl)
theorem im_X4_letter : Cond.instanceMethod yX4_letter ∈ jtb := jt_in (jt_3 (List.mem_of_getElem? (i := 22) rfl)) rfl
theorem cd_X4_letter : Cond.code yX4_letter cX4_letter 1 (some (.int)) ∈ jtb := jt_in (jt_3 (List.mem_of_getElem? (i := 23) rfl)) rfl
theorem ml_X4_71 : Cond.methodLink RX4 71 yX4_isDigit ∈ jtb := jt_in (jt_3 (List.mem_of_getElem? (i := 24) rfl)) rfl
theorem st_X4_isDigit : Cond.static yX4_isDigit ∈ jtb := jt_in (jt_3 (List.mem_of_getElem? (i := 25) rfl)) rfl
theorem cd_X4_isDigit : Cond.code yX4_isDigit cX4_isDigit 1 (some (.boolean)) ∈ jtb := jt_in (jt_3 (List.mem_of_getElem? (i := 26) rfl)) rfl
theorem ml_X4_74 : Cond.methodLink RX4 74 yX4_readNumber ∈ jtb := jt_in (jt_3 (List.mem_of_getElem? (i := 27) rfl)) rfl
theorem pm_X4_readNumber : Cond.privateMethod yX4_readNumber ∈ lw_tbl := jt_3 (List.mem_of_getElem? (i := 28) rfl)
theorem im_X4_readNumber : Cond.instanceMethod yX4_readNumber ∈ jtb := jt_in (jt_3 (List.mem_of_getElem? (i := 29) rfl)) rfl
theorem cd_X4_readNumber : Cond.code yX4_readNumber cX4_readNumber 3 none ∈ jtb := jt_in (jt_3 (List.mem_of_getElem? (i := 30) rfl)) rfl
theorem ml_X4_59 : Cond.methodLink RX4 59 yX4_draw ∈ jtb := jt_in (jt_3 (List.mem_of_getElem? (i := 31) rfl)) rfl
theorem pm_X4_draw : Cond.privateMethod yX4_draw ∈ lw_tbl := jt_3 (List.mem_of_getElem? (i := 32) rfl)
theorem im_X4_draw : Cond.instanceMethod yX4_draw ∈ jtb := jt_in (jt_3 (List.mem_of_getElem? (i := 33) rfl)) rfl
theorem cd_X4_draw : Cond.code yX4_draw cX4_draw 2 none ∈ jtb := jt_in (jt_3 (List.mem_of_getElem? (i := 34) rfl)) rfl
theorem sr_tx : Cond.stringRef RX4 77 "hswrqp" ∈ lw_tbl := jt_3 (List.mem_of_getElem? (i := 35) rfl)
theorem ml_X4_79 : Cond.methodLink RX4 79 yJ0_indexOf_0f7a4 ∈ jtb := jt_in (jt_3 (List.mem_of_getElem? (i := 36) rfl)) rfl
theorem im_J0_indexOf_0f7a4 : Cond.instanceMethod yJ0_indexOf_0f7a4 ∈ jtb := jt_in (jt_3 (List.mem_of_getElem? (i := 37) rfl)) rfl
theorem se_J0_indexOf_0f7a4 : Cond.selects RJ0 yJ0_indexOf_0f7a4 yJ0_indexOf_0f7a4 ∈ jtb := jt_in (jt_3 (List.mem_of_getElem? (i := 38) rfl)) rfl
theorem cd_J0_indexOf_0f7a4 : Cond.code yJ0_indexOf_0f7a4 cJ0_indexOf_0f7a4 2 (some (.int)) ∈ jtb := jt_in (jt_3 (List.mem_of_getElem? (i := 39) rfl)) rfl
theorem ml_J0_633 : Cond.methodLink RJ0 633 yJ0_indexOf_7cf53 ∈ jtb := jt_in (jt_3 (List.mem_of_getElem? (i := 40) rfl)) rfl
theorem im_J0_indexOf_7cf53 : Cond.instanceMethod yJ0_indexOf_7cf53 ∈ jtb := jt_in (jt_3 (List.mem_of_getElem? (i := 41) rfl)) rfl
theorem se_J0_indexOf_7cf53 : Cond.selects RJ0 yJ0_indexOf_7cf53 yJ0_indexOf_7cf53 ∈ jtb := jt_in (jt_3 (List.mem_of_getElem? (i := 42) rfl)) rfl
theorem cd_J0_indexOf_7cf53 : Cond.code yJ0_indexOf_7cf53 cJ0_indexOf_7cf53 3 (some (.int)) ∈ jtb := jt_in (jt_3 (List.mem_of_getElem? (i := 43) rfl)) rfl
theorem ml_J0_492 : Cond.methodLink RJ0 492 yJ0_isLatin1_aae02 ∈ jtb := jt_in (jt_3 (List.mem_of_getElem? (i := 44) rfl)) rfl
theorem im_J0_isLatin1_aae02 : Cond.instanceMethod yJ0_isLatin1_aae02 ∈ jtb := jt_in (jt_3 (List.mem_of_getElem? (i := 45) rfl)) rfl
theorem se_J0_isLatin1_aae02 : Cond.selects RJ0 yJ0_isLatin1_aae02 yJ0_isLatin1_aae02 ∈ jtb := jt_in (jt_3 (List.mem_of_getElem? (i := 46) rfl)) rfl
theorem cd_J0_isLatin1_aae02 : Cond.code yJ0_isLatin1_aae02 cJ0_isLatin1_aae02 1 (some (.boolean)) ∈ jtb := jt_in (jt_3 (List.mem_of_getElem? (i := 47) rfl)) rfl
theorem fl_J0_38 : Cond.fieldLink RJ0 38 "java/lang/String" "COMPACT_STRINGS" "Z" ∈ jtb := jt_in (jt_3 (List.mem_of_getElem? (i := 48) rfl)) rfl
theorem ls_COMPACT_STRINGS : Cond.laysStatic "java/lang/String" "COMPACT_STRINGS" "Z" ∈ lw_tbl := jt_3 (List.mem_of_getElem? (i := 49) rfl)
theorem ml_J0_505 : Cond.methodLink RJ0 505 yJ0_length_8abf5 ∈ jtb := jt_in (jt_3 (List.mem_of_getElem? (i := 50) rfl)) rfl
theorem im_J0_length_8abf5 : Cond.instanceMethod yJ0_length_8abf5 ∈ jtb := jt_in (jt_3 (List.mem_of_getElem? (i := 51) rfl)) rfl
theorem se_J0_length_8abf5 : Cond.selects RJ0 yJ0_length_8abf5 yJ0_length_8abf5 ∈ jtb := jt_in (jt_3 (List.mem_of_getElem? (i := 52) rfl)) rfl
theorem cd_J0_length_8abf5 : Cond.code yJ0_length_8abf5 cJ0_length_8abf5 1 (some (.int)) ∈ jtb := jt_in (jt_3 (List.mem_of_getElem? (i := 53) rfl)) rfl
theorem ml_J0_335 : Cond.methodLink RJ0 335 yJ0_coder_7d493 ∈ jtb := jt_in (jt_3 (List.mem_of_getElem? (i := 54) rfl)) rfl
theorem im_J0_coder_7d493 : Cond.instanceMethod yJ0_coder_7d493 ∈ jtb := jt_in (jt_3 (List.mem_of_getElem? (i := 55) rfl)) rfl
theorem se_J0_coder_7d493 : Cond.selects RJ0 yJ0_coder_7d493 yJ0_coder_7d493 ∈ jtb := jt_in (jt_3 (List.mem_of_getElem? (i := 56) rfl)) rfl
theorem cd_J0_coder_7d493 : Cond.code yJ0_coder_7d493 cJ0_coder_7d493 1 (some (.byte)) ∈ jtb := jt_in (jt_3 (List.mem_of_getElem? (i := 57) rfl)) rfl
theorem ml_J0_637 : Cond.methodLink RJ0 637 yJ1_indexOf_4cfef ∈ jtb := jt_in (jt_3 (List.mem_of_getElem? (i := 58) rfl)) rfl
theorem st_J1_indexOf_4cfef : Cond.static yJ1_indexOf_4cfef ∈ jtb := jt_in (jt_3 (List.mem_of_getElem? (i := 59) rfl)) rfl
theorem cd_J1_indexOf_4cfef : Cond.code yJ1_indexOf_4cfef cJ1_indexOf_4cfef 4 (some (.int)) ∈ jtb := jt_in (jt_3 (List.mem_of_getElem? (i := 60) rfl)) rfl
theorem ml_J1_88 : Cond.methodLink RJ1 88 yJ1_canEncode_9a6ad ∈ jtb := jt_in (jt_3 (List.mem_of_getElem? (i := 61) rfl)) rfl
theorem st_J1_canEncode_9a6ad : Cond.static yJ1_canEncode_9a6ad ∈ jtb := jt_in (jt_3 (List.mem_of_getElem? (i := 62) rfl)) rfl
theorem cd_J1_canEncode_9a6ad : Cond.code yJ1_canEncode_9a6ad cJ1_canEncode_9a6ad 1 (some (.boolean)) ∈ jtb := jt_in (jt_3 (List.mem_of_getElem? (i := 63) rfl)) rfl
theorem ml_J1_92 : Cond.methodLink RJ1 92 Lib.Math.max.name ∈ jtb := jt_in (jt_3 (List.mem_of_getElem? (i := 64) rfl)) rfl
theorem st_mmax : Cond.static Lib.Math.max.name ∈ jtb := jt_in (jt_3 (List.mem_of_getElem? (i := 65) rfl)) rfl
theorem cd_mmax : Cond.code Lib.Math.max.name Lib.Math.max.code 2 (some (.int)) ∈ jtb := jt_in (jt_3 (List.mem_of_getElem? (i := 66) rfl)) rfl
theorem ml_J1_38 : Cond.methodLink RJ1 38 Lib.Math.min.name ∈ jtb := jt_in (jt_3 (List.mem_of_getElem? (i := 67) rfl)) rfl
theorem st_mmin : Cond.static Lib.Math.min.name ∈ jtb := jt_in (jt_3 (List.mem_of_getElem? (i := 68) rfl)) rfl
theorem cd_mmin : Cond.code Lib.Math.min.name Lib.Math.min.code 2 (some (.int)) ∈ jtb := jt_in (jt_3 (List.mem_of_getElem? (i := 69) rfl)) rfl
theorem ml_J1_95 : Cond.methodLink RJ1 95 yJ1_indexOfChar_4cfef ∈ jtb := jt_in (jt_3 (List.mem_of_getElem? (i := 70) rfl)) rfl
theorem st_J1_indexOfChar_4cfef : Cond.static yJ1_indexOfChar_4cfef ∈ jtb := jt_in (jt_3 (List.mem_of_getElem? (i := 71) rfl)) rfl
theorem cd_J1_indexOfChar_4cfef : Cond.code yJ1_indexOfChar_4cfef cJ1_indexOfChar_4cfef 6 (some (.int)) ∈ jtb := jt_in (jt_3 (List.mem_of_getElem? (i := 72) rfl)) rfl
theorem ml_J0_640 : Cond.methodLink RJ0 640 yJ2_indexOf_4cfef ∈ jtb := jt_in (jt_3 (List.mem_of_getElem? (i := 73) rfl)) rfl
theorem st_J2_indexOf_4cfef : Cond.static yJ2_indexOf_4cfef ∈ jtb := jt_in (jt_3 (List.mem_of_getElem? (i := 74) rfl)) rfl
theorem cd_J2_indexOf_4cfef : Cond.code yJ2_indexOf_4cfef cJ2_indexOf_4cfef 4 (some (.int)) ∈ jtb := jt_in (jt_3 (List.mem_of_getElem? (i := 75) rfl)) rfl
theorem ml_J2_224 : Cond.methodLink RJ2 224 Lib.Math.max.name ∈ jtb := jt_in (jt_3 (List.mem_of_getElem? (i := 76) rfl)) rfl
theorem ml_J2_183 : Cond.methodLink RJ2 183 Lib.Math.min.name ∈ jtb := jt_in (jt_3 (List.mem_of_getElem? (i := 77) rfl)) rfl
theorem ct_J2_227 : Cond.constant RJ2 227 (65536) ∈ jtb := jt_in (jt_3 (List.mem_of_getElem? (i := 78) rfl)) rfl
theorem ml_J2_228 : Cond.methodLink RJ2 228 yJ2_indexOfChar_4cfef ∈ jtb := jt_in (jt_3 (List.mem_of_getElem? (i := 79) rfl)) rfl
theorem st_J2_indexOfChar_4cfef : Cond.static yJ2_indexOfChar_4cfef ∈ jtb := jt_in (jt_3 (List.mem_of_getElem? (i := 80) rfl)) rfl
theorem cd_J2_indexOfChar_4cfef : Cond.code yJ2_indexOfChar_4cfef cJ2_indexOfChar_4cfef 4 (some (.int)) ∈ jtb := jt_in (jt_3 (List.mem_of_getElem? (i := 81) rfl)) rfl
theorem ml_J2_96 : Cond.methodLink RJ2 96 yJ2_checkBoundsBeginEnd_d044e ∈ jtb := jt_in (jt_3 (List.mem_of_getElem? (i := 82) rfl)) rfl
theorem st_J2_checkBoundsBeginEnd_d044e : Cond.static yJ2_checkBoundsBeginEnd_d044e ∈ jtb := jt_in (jt_3 (List.mem_of_getElem? (i := 83) rfl)) rfl
theorem cd_J2_checkBoundsBeginEnd_d044e : Cond.code yJ2_checkBoundsBeginEnd_d044e cJ2_checkBoundsBeginEnd_d044e 3 none ∈ jtb := jt_in (jt_3 (List.mem_of_getElem? (i := 84) rfl)) rfl
theorem ml_J2_48 : Cond.methodLink RJ2 48 yJ2_length_9d52b ∈ jtb := jt_in (jt_3 (List.mem_of_getElem? (i := 85) rfl)) rfl
theorem st_J2_length_9d52b : Cond.static yJ2_length_9d52b ∈ jtb := jt_in (jt_3 (List.mem_of_getElem? (i := 86) rfl)) rfl
theorem cd_J2_length_9d52b : Cond.code yJ2_length_9d52b cJ2_length_9d52b 1 (some (.int)) ∈ jtb := jt_in (jt_3 (List.mem_of_getElem? (i := 87) rfl)) rfl
theorem ml_J2_241 : Cond.methodLink RJ2 241 yJ0_checkBoundsBeginEnd_23922 ∈ jtb := jt_in (jt_3 (List.mem_of_getElem? (i := 88) rfl)) rfl
theorem st_J0_checkBoundsBeginEnd_23922 : Cond.static yJ0_checkBoundsBeginEnd_23922 ∈ jtb := jt_in (jt_3 (List.mem_of_getElem? (i := 89) rfl)) rfl
theorem cd_J0_checkBoundsBeginEnd_23922 : Cond.code yJ0_checkBoundsBeginEnd_23922 cJ0_checkBoundsBeginEnd_23922 3 none ∈ jtb := jt_in (jt_3 (List.mem_of_getElem? (i := 90) rfl)) rfl
theorem fl_J0_1053 : Cond.fieldLink RJ0 1053 "jdk/internal/util/Preconditions" "SIOOBE_FORMATTER" "Ljava/util/function/BiFunction;" ∈ jtb := jt_in (jt_3 (List.mem_of_getElem? (i := 91) rfl)) rfl
theorem ls_SIOOBE_FORMATTER : Cond.laysStatic "jdk/internal/util/Preconditions" "SIOOBE_FORMATTER" "Ljava/util/function/BiFunction;" ∈ lw_tbl := jt_3 (List.mem_of_getElem? (i := 92) rfl)
theorem ml_J0_1062 : Cond.methodLink RJ0 1062 yJ3_checkFromToIndex_8c36e ∈ jtb := jt_in (jt_3 (List.mem_of_getElem? (i := 93) rfl)) rfl
theorem st_J3_checkFromToIndex_8c36e : Cond.static yJ3_checkFromToIndex_8c36e ∈ jtb := jt_in (jt_3 (List.mem_of_getElem? (i := 94) rfl)) rfl
theorem cd_J3_checkFromToIndex_8c36e : Cond.code yJ3_checkFromToIndex_8c36e cJ3_checkFromToIndex_8c36e 4 (some (.int)) ∈ jtb := jt_in (jt_3 (List.mem_of_getElem? (i := 95) rfl)) rfl
theorem ml_J2_244 : Cond.methodLink RJ2 244 yJ2_indexOfCharUnsafe_4cfef ∈ jtb := jt_in (jt_3 (List.mem_of_getElem? (i := 96) rfl)) rfl
theorem st_J2_indexOfCharUnsafe_4cfef : Cond.static yJ2_indexOfCharUnsafe_4cfef ∈ jtb := jt_in (jt_3 (List.mem_of_getElem? (i := 97) rfl)) rfl
theorem cd_J2_indexOfCharUnsafe_4cfef : Cond.code yJ2_indexOfCharUnsafe_4cfef cJ2_indexOfCharUnsafe_4cfef 5 (some (.int)) ∈ jtb := jt_in (jt_3 (List.mem_of_getElem? (i := 98) rfl)) rfl
theorem ml_J2_71 : Cond.methodLink RJ2 71 yJ2_getChar_3b067 ∈ jtb := jt_in (jt_3 (List.mem_of_getElem? (i := 99) rfl)) rfl
theorem st_J2_getChar_3b067 : Cond.static yJ2_getChar_3b067 ∈ jtb := jt_in (jt_3 (List.mem_of_getElem? (i := 100) rfl)) rfl
theorem cd_J2_getChar_3b067 : Cond.code yJ2_getChar_3b067 cJ2_getChar_3b067 2 (some (.char)) ∈ jtb := jt_in (jt_3 (List.mem_of_getElem? (i := 101) rfl)) rfl
theorem fl_J2_44 : Cond.fieldLink RJ2 44 "java/lang/StringUTF16" "$assertionsDisabled" "Z" ∈ jtb := jt_in (jt_3 (List.mem_of_getElem? (i := 102) rfl)) rfl
theorem ls_assertionsDisabled : Cond.laysStatic "java/lang/StringUTF16" "$assertionsDisabled" "Z" ∈ lw_tbl := jt_3 (List.mem_of_getElem? (i := 103) rfl)
theorem fl_J2_59 : Cond.fieldLink RJ2 59 "java/lang/StringUTF16" "HI_BYTE_SHIFT" "I" ∈ jtb := jt_in (jt_3 (List.mem_of_getElem? (i := 104) rfl)) rfl
theorem ls_HI_BYTE_SHIFT : Cond.laysStatic "java/lang/StringUTF16" "HI_BYTE_SHIFT" "I" ∈ lw_tbl := jt_3 (List.mem_of_getElem? (i := 105) rfl)
theorem fl_J2_63 : Cond.fieldLink RJ2 63 "java/lang/StringUTF16" "LO_BYTE_SHIFT" "I" ∈ jtb := jt_in (jt_3 (List.mem_of_getElem? (i := 106) rfl)) rfl
theorem ls_LO_BYTE_SHIFT : Cond.laysStatic "java/lang/StringUTF16" "LO_BYTE_SHIFT" "I" ∈ lw_tbl := jt_3 (List.mem_of_getElem? (i := 107) rfl)
theorem ml_J2_232 : Cond.methodLink RJ2 232 yJ2_indexOfSupplementary_4cfef ∈ jtb := jt_in (jt_3 (List.mem_of_getElem? (i := 108) rfl)) rfl
theorem st_J2_indexOfSupplementary_4cfef : Cond.static yJ2_indexOfSupplementary_4cfef ∈ jtb := jt_in (jt_3 (List.mem_of_getElem? (i := 109) rfl)) rfl
theorem cd_J2_indexOfSupplementary_4cfef : Cond.code yJ2_indexOfSupplementary_4cfef cJ2_indexOfSupplementary_4cfef 7 (some (.int)) ∈ jtb := jt_in (jt_3 (List.mem_of_getElem? (i := 110) rfl)) rfl
theorem ml_J2_164 : Cond.methodLink RJ2 164 yJ11_isValidCodePoint_9a6ad ∈ jtb := jt_in (jt_3 (List.mem_of_getElem? (i := 111) rfl)) rfl
theorem st_J11_isValidCodePoint_9a6ad : Cond.static yJ11_isValidCodePoint_9a6ad ∈ jtb := jt_in (jt_3 (List.mem_of_getElem? (i := 112) rfl)) rfl
theorem cd_J11_isValidCodePoint_9a6ad : Cond.code yJ11_isValidCodePoint_9a6ad cJ11_isValidCodePoint_9a6ad 2 (some (.boolean)) ∈ jtb := jt_in (jt_3 (List.mem_of_getElem? (i := 113) rfl)) rfl
theorem ml_J2_157 : Cond.methodLink RJ2 157 yJ11_highSurrogate_5068e ∈ jtb := jt_in (jt_3 (List.mem_of_getElem? (i := 114) rfl)) rfl
theorem st_J11_highSurrogate_5068e : Cond.static yJ11_highSurrogate_5068e ∈ jtb := jt_in (jt_3 (List.mem_of_getElem? (i := 115) rfl)) rfl
theorem cd_J11_highSurrogate_5068e : Cond.code yJ11_highSurrogate_5068e cJ11_highSurrogate_5068e 1 (some (.char)) ∈ jtb := jt_in (jt_3 (List.mem_of_getElem? (i := 116) rfl)) rfl
theorem ct_J11_110 : Cond.constant RJ11 110 (55232) ∈ jtb := jt_in (jt_3 (List.mem_of_getElem? (i := 117) rfl)) rfl
theorem ml_J2_161 : Cond.methodLink RJ2 161 yJ11_lowSurrogate_5068e ∈ jtb := jt_in (jt_3 (List.mem_of_getElem? (i := 118) rfl)) rfl
theorem st_J11_lowSurrogate_5068e : Cond.static yJ11_lowSurrogate_5068e ∈ jtb := jt_in (jt_3 (List.mem_of_getElem? (i := 119) rfl)) rfl
theorem cd_J11_lowSurrogate_5068e : Cond.code yJ11_lowSurrogate_5068e cJ11_lowSurrogate_5068e 1 (some (.char)) ∈ jtb := jt_in (jt_3 (List.mem_of_getElem? (i := 120) rfl)) rfl
theorem ct_J11_76 : Cond.constant RJ11 76 (56320) ∈ jtb := jt_in (jt_3 (List.mem_of_getElem? (i := 121) rfl)) rfl
theorem ml_X4_84 : Cond.methodLink RX4 84 yX4_readBracket ∈ jtb := jt_in (jt_3 (List.mem_of_getElem? (i := 122) rfl)) rfl
theorem pm_X4_readBracket : Cond.privateMethod yX4_readBracket ∈ lw_tbl := jt_3 (List.mem_of_getElem? (i := 123) rfl)
theorem im_X4_readBracket : Cond.instanceMethod yX4_readBracket ∈ jtb := jt_in (jt_3 (List.mem_of_getElem? (i := 124) rfl)) rfl
theorem cd_X4_readBracket : Cond.code yX4_readBracket cX4_readBracket 2 (some (.boolean)) ∈ jtb := jt_in (jt_3 (List.mem_of_getElem? (i := 125) rfl)) rfl
theorem ml_X4_67 : Cond.methodLink RX4 67 yX4_levelOf ∈ jtb := jt_in (jt_3 (List.mem_of_getElem? (i := 126) rfl)) rfl
theorem st_X4_levelOf : Cond.static yX4_levelOf ∈ jtb := jt_in (jt_3 (List.mem_of_getElem? (i := 127) rfl)) rfl
theorem cd_X4_levelOf : Cond.code yX4_levelOf cX4_levelOf 1 (some (.int)) ∈ jtb := jt_in (jt_3 (List.mem_of_getElem? (i := 128) rfl)) rfl
theorem ml_X4_46 : Cond.methodLink RX4 46 arraycopyName ∈ jtb := jt_in (jt_3 (List.mem_of_getElem? (i := 129) rfl)) rfl
theorem ml_L_41 : Cond.methodLink RL 41 yX11_turn ∈ jtb := jt_in (jt_3 (List.mem_of_getElem? (i := 130) rfl)) rfl
theorem im_X11_turn : Cond.instanceMethod yX11_turn ∈ jtb := jt_in (jt_3 (List.mem_of_getElem? (i := 131) rfl)) rfl
theorem se_X11_turn : Cond.selects RX11 yX11_turn yX11_turn ∈ jtb := jt_in (jt_3 (List.mem_of_getElem? (i := 132) rfl)) rfl
theorem cd_X11_turn : Cond.code yX11_turn cX11_turn 5 (some (.int)) ∈ jtb := jt_in (jt_3 (List.mem_of_getElem? (i := 133) rfl)) rfl
theorem ml_X11_129 : Cond.methodLink RX11 129 yX11_isTold ∈ jtb := jt_in (jt_3 (List.mem_of_getElem? (i := 134) rfl)) rfl
theorem pm_X11_isTold : Cond.privateMethod yX11_isTold ∈ lw_tbl := jt_3 (List.mem_of_getElem? (i := 135) rfl)
theorem im_X11_isTold : Cond.instanceMethod yX11_isTold ∈ jtb := jt_in (jt_3 (List.mem_of_getElem? (i := 136) rfl)) rfl
theorem cd_X11_isTold : Cond.code yX11_isTold cX11_isTold 3 (some (.boolean)) ∈ jtb := jt_in (jt_3 (List.mem_of_getElem? (i := 137) rfl)) rfl
theorem ml_X11_133 : Cond.methodLink RX11 133 yX11_swingOf ∈ jtb := jt_in (jt_3 (List.mem_of_getElem? (i := 138) rfl)) rfl
theorem st_X11_swingOf : Cond.static yX11_swingOf ∈ jtb := jt_in (jt_3 (List.mem_of_getElem? (i := 139) rfl)) rfl
theorem cd_X11_swingOf : Cond.code yX11_swingOf cX11_swingOf 1 (some (.int)) ∈ jtb := jt_in (jt_3 (List.mem_of_getElem? (i := 140) rfl)) rfl
theorem ml_X11_175 : Cond.methodLink RX11 175 yX6_isSwing ∈ jtb := jt_in (jt_3 (List.mem_of_getElem? (i := 141) rfl)) rfl
theorem ml_X11_136 : Cond.methodLink RX11 136 yX11_childOf ∈ jtb := jt_in (jt_3 (List.mem_of_getElem? (i := 142) rfl)) rfl
theorem st_X11_childOf : Cond.static yX11_childOf ∈ jtb := jt_in (jt_3 (List.mem_of_getElem? (i := 143) rfl)) rfl
theorem cd_X11_childOf : Cond.code yX11_childOf cX11_childOf 1 (some (.int)) ∈ jtb := jt_in (jt_3 (List.mem_of_getElem? (i := 144) rfl)) rfl
theorem ml_X11_172 : Cond.methodLink RX11 172 yX6_isChild ∈ jtb := jt_in (jt_3 (List.mem_of_getElem? (i := 145) rfl)) rfl
theorem ml_X11_162 : Cond.methodLink RX11 162 yX6_mayCount ∈ jtb := jt_in (jt_3 (List.mem_of_getElem? (i := 146) rfl)) rfl
theorem ml_X11_251 : Cond.methodLink RX11 251 yX11_isWaiting ∈ jtb := jt_in (jt_3 (List.mem_of_getElem? (i := 147) rfl)) rfl
theorem st_X11_isWaiting : Cond.static yX11_isWaiting ∈ jtb := jt_in (jt_3 (List.mem_of_getElem? (i := 148) rfl)) rfl
theorem cd_X11_isWaiting : Cond.code yX11_isWaiting cX11_isWaiting 1 (some (.boolean)) ∈ jtb := jt_in (jt_3 (List.mem_of_getElem? (i := 149) rfl)) rfl
theorem ml_X11_139 : Cond.methodLink RX11 139 yX8_think ∈ jtb := jt_in (jt_3 (List.mem_of_getElem? (i := 150) rfl)) rfl
theorem im_X8_think : Cond.instanceMethod yX8_think ∈ jtb := jt_in (jt_3 (List.mem_of_getElem? (i := 151) rfl)) rfl
theorem se_X8_think : Cond.selects RX8 yX8_think yX8_think ∈ jtb := jt_in (jt_3 (List.mem_of_getElem? (i := 152) rfl)) rfl
theorem cd_X8_think : Cond.code yX8_think cX8_think 6 (some (.object "TwentyPushes$Turn")) ∈ jtb := jt_in (jt_3 (List.mem_of_getElem? (i := 153) rfl)) rfl
theorem ml_X8_82 : Cond.methodLink RX8 82 yX10_begin ∈ jtb := jt_in (jt_3 (List.mem_of_getElem? (i := 154) rfl)) rfl
theorem im_X10_begin : Cond.instanceMethod yX10_begin ∈ jtb := jt_in (jt_3 (List.mem_of_getElem? (i := 155) rfl)) rfl
theorem se_X10_begin : Cond.selects RX10 yX10_begin yX10_begin ∈ jtb := jt_in (jt_3 (List.mem_of_getElem? (i := 156) rfl)) rfl
theorem cd_X10_begin : Cond.code yX10_begin cX10_begin 4 none ∈ jtb := jt_in (jt_3 (List.mem_of_getElem? (i := 157) rfl)) rfl
theorem ml_X8_86 : Cond.methodLink RX8 86 yX8_step ∈ jtb := jt_in (jt_3 (List.mem_of_getElem? (i := 158) rfl)) rfl
theorem im_X8_step : Cond.instanceMethod yX8_step ∈ jtb := jt_in (jt_3 (List.mem_of_getElem? (i := 159) rfl)) rfl
theorem se_X8_step : Cond.selects RX8 yX8_step yX8_step ∈ jtb := jt_in (jt_3 (List.mem_of_getElem? (i := 160) rfl)) rfl
theorem cd_X8_step : Cond.code yX8_step cX8_step 7 none ∈ jtb := jt_in (jt_3 (List.mem_of_getElem? (i := 161) rfl)) rfl
theorem ml_X8_34 : Cond.methodLink RX8 34 yX6_valueOf ∈ jtb := jt_in (jt_3 (List.mem_of_getElem? (i := 162) rfl)) rfl
theorem im_X6_valueOf : Cond.instanceMethod yX6_valueOf ∈ jtb := jt_in (jt_3 (List.mem_of_getElem? (i := 163) rfl)) rfl
theorem se_X6_valueOf : Cond.selects RX6 yX6_valueOf yX6_valueOf ∈ jtb := jt_in (jt_3 (List.mem_of_getElem? (i := 164) rfl)) rfl
theorem cd_X6_valueOf : Cond.code yX6_valueOf cX6_valueOf 3 (some (.int)) ∈ jtb := jt_in (jt_3 (List.mem_of_getElem? (i := 165) rfl)) rfl
theorem ml_X6_43 : Cond.methodLink RX6 43 yX6_valueAt ∈ jtb := jt_in (jt_3 (List.mem_of_getElem? (i := 166) rfl)) rfl
theorem ml_X8_43 : Cond.methodLink RX8 43 Lib.Math.max.name ∈ jtb := jt_in (jt_3 (List.mem_of_getElem? (i := 167) rfl)) rfl
theorem ml_X8_48 : Cond.methodLink RX8 48 Lib.Math.min.name ∈ jtb := jt_in (jt_3 (List.mem_of_getElem? (i := 168) rfl)) rfl
theorem ml_X8_57 : Cond.methodLink RX8 57 yX4_lasting ∈ jtb := jt_in (jt_3 (List.mem_of_getElem? (i := 169) rfl)) rfl
theorem im_X4_lasting : Cond.instanceMethod yX4_lasting ∈ jtb := jt_in (jt_3 (List.mem_of_getElem? (i := 170) rfl)) rfl
theorem se_X4_lasting : Cond.selects RX4 yX4_lasting yX4_lasting ∈ jtb := jt_in (jt_3 (List.mem_of_getElem? (i := 171) rfl)) rfl
theorem cd_X4_lasting : Cond.code yX4_lasting cX4_lasting 7 (some (.int)) ∈ jtb := jt_in (jt_3 (List.mem_of_getElem? (i := 172) rfl)) rfl
theorem ml_X4_87 : Cond.methodLink RX4 87 yX4_worth ∈ jtb := jt_in (jt_3 (List.mem_of_getElem? (i := 173) rfl)) rfl
theorem pm_X4_worth : Cond.privateMethod yX4_worth ∈ lw_tbl := jt_3 (List.mem_of_getElem? (i := 174) rfl)
theorem im_X4_worth : Cond.instanceMethod yX4_worth ∈ jtb := jt_in (jt_3 (List.mem_of_getElem? (i := 175) rfl)) rfl
theorem cd_X4_worth : Cond.code yX4_worth cX4_worth 6 (some (.int)) ∈ jtb := jt_in (jt_3 (List.mem_of_getElem? (i := 176) rfl)) rfl
theorem ml_X4_99 : Cond.methodLink RX4 99 yX4_valueNamed ∈ jtb := jt_in (jt_3 (List.mem_of_getElem? (i := 177) rfl)) rfl
theorem pm_X4_valueNamed : Cond.privateMethod yX4_valueNamed ∈ lw_tbl := jt_3 (List.mem_of_getElem? (i := 178) rfl)
theorem im_X4_valueNamed : Cond.instanceMethod yX4_valueNamed ∈ jtb := jt_in (jt_3 (List.mem_of_getElem? (i := 179) rfl)) rfl
theorem cd_X4_valueNamed : Cond.code yX4_valueNamed cX4_valueNamed 2 (some (.int)) ∈ jtb := jt_in (jt_3 (List.mem_of_getElem? (i := 180) rfl)) rfl
theorem ml_X4_102 : Cond.methodLink RX4 102 yX4_lay ∈ jtb := jt_in (jt_3 (List.mem_of_getElem? (i := 181) rfl)) rfl
theorem pm_X4_lay : Cond.privateMethod yX4_lay ∈ lw_tbl := jt_3 (List.mem_of_getElem? (i := 182) rfl)
theorem im_X4_lay : Cond.instanceMethod yX4_lay ∈ jtb := jt_in (jt_3 (List.mem_of_getElem? (i := 183) rfl)) rfl
theorem cd_X4_lay : Cond.code yX4_lay cX4_lay 3 (some (.int)) ∈ jtb := jt_in (jt_3 (List.mem_of_getElem? (i := 184) rfl)) rfl
theorem ml_X4_105 : Cond.methodLink RX4 105 yX4_joined ∈ jtb := jt_in (jt_3 (List.mem_of_getElem? (i := 185) rfl)) rfl
theorem st_X4_joined : Cond.static yX4_joined ∈ jtb := jt_in (jt_3 (List.mem_of_getElem? (i := 186) rfl)) rfl
theorem cd_X4_joined : Cond.code yX4_joined cX4_joined 3 (some (.int)) ∈ jtb := jt_in (jt_3 (List.mem_of_getElem? (i := 187) rfl)) rfl
theorem ml_X4_90 : Cond.methodLink RX4 90 Lib.Math.min.name ∈ jtb := jt_in (jt_3 (List.mem_of_getElem? (i := 188) rfl)) rfl
theorem ml_X4_96 : Cond.methodLink RX4 96 Lib.Math.max.name ∈ jtb := jt_in (jt_3 (List.mem_of_getElem? (i := 189) rfl)) rfl
theorem ml_X8_90 : Cond.methodLink RX8 90 yX8_isOver ∈ jtb := jt_in (jt_3 (List.mem_of_getElem? (i := 190) rfl)) rfl
theorem im_X8_isOver : Cond.instanceMethod yX8_isOver ∈ jtb := jt_in (jt_3 (List.mem_of_getElem? (i := 191) rfl)) rfl
theorem se_X8_isOver : Cond.selects RX8 yX8_isOver yX8_isOver ∈ jtb := jt_in (jt_3 (List.mem_of_getElem? (i := 192) rfl)) rfl
theorem cd_X8_isOver : Cond.code yX8_isOver cX8_isOver 3 (some (.boolean)) ∈ jtb := jt_in (jt_3 (List.mem_of_getElem? (i := 193) rfl)) rfl
theorem ml_X8_78 : Cond.methodLink RX8 78 yX8_countedOf ∈ jtb := jt_in (jt_3 (List.mem_of_getElem? (i := 194) rfl)) rfl
theorem im_X8_countedOf : Cond.instanceMethod yX8_countedOf ∈ jtb := jt_in (jt_3 (List.mem_of_getElem? (i := 195) rfl)) rfl
theorem se_X8_countedOf : Cond.selects RX8 yX8_countedOf yX8_countedOf ∈ jtb := jt_in (jt_3 (List.mem_of_getElem? (i := 196) rfl)) rfl
theorem cd_X8_countedOf : Cond.code yX8_countedOf cX8_countedOf 3 (some (.int)) ∈ jtb := jt_in (jt_3 (List.mem_of_getElem? (i := 197) rfl)) rfl
theorem ml_X8_75 : Cond.methodLink RX8 75 yX6_bentFor ∈ jtb := jt_in (jt_3 (List.mem_of_getElem? (i := 198) rfl)) rfl
theorem im_X6_bentFor : Cond.instanceMethod yX6_bentFor ∈ jtb := jt_in (jt_3 (List.mem_of_getElem? (i := 199) rfl)) rfl
theorem se_X6_bentFor : Cond.selects RX6 yX6_bentFor yX6_bentFor ∈ jtb := jt_in (jt_3 (List.mem_of_getElem? (i := 200) rfl)) rfl
theorem cd_X6_bentFor : Cond.code yX6_bentFor cX6_bentFor 4 (some (.int)) ∈ jtb := jt_in (jt_3 (List.mem_of_getElem? (i := 201) rfl)) rfl
theorem ml_X11_155 : Cond.methodLink RX11 155 yX8_countedOf ∈ jtb := jt_in (jt_3 (List.mem_of_getElem? (i := 202) rfl)) rfl
theorem ml_L_45 : Cond.methodLink RL 45 yX11_longest ∈ jtb := jt_in (jt_3 (List.mem_of_getElem? (i := 203) rfl)) rfl
theorem im_X11_longest : Cond.instanceMethod yX11_longest ∈ jtb := jt_in (jt_3 (List.mem_of_getElem? (i := 204) rfl)) rfl
theorem se_X11_longest : Cond.selects RX11 yX11_longest yX11_longest ∈ jtb := jt_in (jt_3 (List.mem_of_getElem? (i := 205) rfl)) rfl
theorem cd_X11_longest : Cond.code yX11_longest cX11_longest 9 (some (.int)) ∈ jtb := jt_in (jt_3 (List.mem_of_getElem? (i := 206) rfl)) rfl
theorem ml_X11_159 : Cond.methodLink RX11 159 yX6_setAt ∈ jtb := jt_in (jt_3 (List.mem_of_getElem? (i := 207) rfl)) rfl
theorem ml_L_49 : Cond.methodLink RL 49 yX11_counter ∈ jtb := jt_in (jt_3 (List.mem_of_getElem? (i := 208) rfl)) rfl
theorem im_X11_counter : Cond.instanceMethod yX11_counter ∈ jtb := jt_in (jt_3 (List.mem_of_getElem? (i := 209) rfl)) rfl
theorem se_X11_counter : Cond.selects RX11 yX11_counter yX11_counter ∈ jtb := jt_in (jt_3 (List.mem_of_getElem? (i := 210) rfl)) rfl
theorem cd_X11_counter : Cond.code yX11_counter cX11_counter 7 (some (.int)) ∈ jtb := jt_in (jt_3 (List.mem_of_getElem? (i := 211) rfl)) rfl
theorem ml_L_53 : Cond.methodLink RL 53 yX11_unfair ∈ jtb := jt_in (jt_3 (List.mem_of_getElem? (i := 212) rfl)) rfl
theorem im_X11_unfair : Cond.instanceMethod yX11_unfair ∈ jtb := jt_in (jt_3 (List.mem_of_getElem? (i := 213) rfl)) rfl
theorem se_X11_unfair : Cond.selects RX11 yX11_unfair yX11_unfair ∈ jtb := jt_in (jt_3 (List.mem_of_getElem? (i := 214) rfl)) rfl
theorem cd_X11_unfair : Cond.code yX11_unfair cX11_unfair 3 (some (.int)) ∈ jtb := jt_in (jt_3 (List.mem_of_getElem? (i := 215) rfl)) rfl
theorem ct_X11_165 : Cond.constant RX11 165 (-2000000000) ∈ jtb := jt_in (jt_3 (List.mem_of_getElem? (i := 216) rfl)) rfl
theorem ml_X11_166 : Cond.methodLink RX11 166 yX6_valueOf ∈ jtb := jt_in (jt_3 (List.mem_of_getElem? (i := 217) rfl)) rfl
theorem ml_L_57 : Cond.methodLink RL 57 yX11_afternoon ∈ jtb := jt_in (jt_3 (List.mem_of_getElem? (i := 218) rfl)) rfl
theorem im_X11_afternoon : Cond.instanceMethod yX11_afternoon ∈ jtb := jt_in (jt_3 (List.mem_of_getElem? (i := 219) rfl)) rfl
theorem se_X11_afternoon : Cond.selects RX11 yX11_afternoon yX11_afternoon ∈ jtb := jt_in (jt_3 (List.mem_of_getElem? (i := 220) rfl)) rfl
theorem cd_X11_afternoon : Cond.code yX11_afternoon cX11_afternoon 7 (some (.int)) ∈ jtb := jt_in (jt_3 (List.mem_of_getElem? (i := 221) rfl)) rfl
theorem ml_X11_169 : Cond.methodLink RX11 169 yX11_isBell ∈ jtb := jt_in (jt_3 (List.mem_of_getElem? (i := 222) rfl)) rfl
theorem st_X11_isBell : Cond.static yX11_isBell ∈ jtb := jt_in (jt_3 (List.mem_of_getElem? (i := 223) rfl)) rfl
theorem cd_X11_isBell : Cond.code yX11_isBell cX11_isBell 1 (some (.boolean)) ∈ jtb := jt_in (jt_3 (List.mem_of_getElem? (i := 224) rfl)) rfl
theorem ml_X11_178 : Cond.methodLink RX11 178 yX5_form ∈ jtb := jt_in (jt_3 (List.mem_of_getElem? (i := 225) rfl)) rfl
theorem im_X5_form : Cond.instanceMethod yX5_form ∈ jtb := jt_in (jt_3 (List.mem_of_getElem? (i := 226) rfl)) rfl
theorem se_X5_form : Cond.selects RX5 yX5_form yX5_form ∈ jtb := jt_in (jt_3 (List.mem_of_getElem? (i := 227) rfl)) rfl
theorem cd_X5_form : Cond.code yX5_form cX5_form 2 none ∈ jtb := jt_in (jt_3 (List.mem_of_getElem? (i := 228) rfl)) rfl
theorem ml_X5_39 : Cond.methodLink RX5 39 yX6_isChild ∈ jtb := jt_in (jt_3 (List.mem_of_getElem? (i := 229) rfl)) rfl
theorem ml_X5_45 : Cond.methodLink RX5 45 yX6_valueOf ∈ jtb := jt_in (jt_3 (List.mem_of_getElem? (i := 230) rfl)) rfl
theorem ml_X5_49 : Cond.methodLink RX5 49 yJ7_fill_53178 ∈ jtb := jt_in (jt_3 (List.mem_of_getElem? (i := 231) rfl)) rfl
theorem st_J7_fill_53178 : Cond.static yJ7_fill_53178 ∈ jtb := jt_in (jt_3 (List.mem_of_getElem? (i := 232) rfl)) rfl
theorem cd_J7_fill_53178 : Cond.code yJ7_fill_53178 cJ7_fill_53178 4 none ∈ jtb := jt_in (jt_3 (List.mem_of_getElem? (i := 233) rfl)) rfl
theorem ml_X11_181 : Cond.methodLink RX11 181 yX5_foresee ∈ jtb := jt_in (jt_3 (List.mem_of_getElem? (i := 234) rfl)) rfl
theorem im_X5_foresee : Cond.instanceMethod yX5_foresee ∈ jtb := jt_in (jt_3 (List.mem_of_getElem? (i := 235) rfl)) rfl
theorem se_X5_foresee : Cond.selects RX5 yX5_foresee yX5_foresee ∈ jtb := jt_in (jt_3 (List.mem_of_getElem? (i := 236) rfl)) rfl
theorem cd_X5_foresee : Cond.code yX5_foresee cX5_foresee 4 none ∈ jtb := jt_in (jt_3 (List.mem_of_getElem? (i := 237) rfl)) rfl
theorem ml_X5_59 : Cond.methodLink RX5 59 yX5_behind ∈ jtb := jt_in (jt_3 (List.mem_of_getElem? (i := 238) rfl)) rfl
theorem pm_X5_behind : Cond.privateMethod yX5_behind ∈ lw_tbl := jt_3 (List.mem_of_getElem? (i := 239) rfl)
theorem im_X5_behind : Cond.instanceMethod yX5_behind ∈ jtb := jt_in (jt_4 (List.mem_of_getElem? (i := 0) rfl)) rfl
theorem cd_X5_behind : Cond.code yX5_behind cX5_behind 2 (some (.int)) ∈ jtb := jt_in (jt_4 (List.mem_of_getElem? (i := 1) rfl)) rfl
theorem ml_X5_62 : Cond.methodLink RX5 62 yX8_think ∈ jtb := jt_in (jt_4 (List.mem_of_getElem? (i := 2) rfl)) rfl
theorem ml_X11_184 : Cond.methodLink RX11 184 yX5_beginOf ∈ jtb := jt_in (jt_4 (List.mem_of_getElem? (i := 3) rfl)) rfl
theorem im_X5_beginOf : Cond.instanceMethod yX5_beginOf ∈ jtb := jt_in (jt_4 (List.mem_of_getElem? (i := 4) rfl)) rfl
theorem se_X5_beginOf : Cond.selects RX5 yX5_beginOf yX5_beginOf ∈ jtb := jt_in (jt_4 (List.mem_of_getElem? (i := 5) rfl)) rfl
theorem cd_X5_beginOf : Cond.code yX5_beginOf cX5_beginOf 5 (some (.int)) ∈ jtb := jt_in (jt_4 (List.mem_of_getElem? (i := 6) rfl)) rfl
theorem ml_X11_187 : Cond.methodLink RX11 187 yX5_spend ∈ jtb := jt_in (jt_4 (List.mem_of_getElem? (i := 7) rfl)) rfl
theorem im_X5_spend : Cond.instanceMethod yX5_spend ∈ jtb := jt_in (jt_4 (List.mem_of_getElem? (i := 8) rfl)) rfl
theorem se_X5_spend : Cond.selects RX5 yX5_spend yX5_spend ∈ jtb := jt_in (jt_4 (List.mem_of_getElem? (i := 9) rfl)) rfl
theorem cd_X5_spend : Cond.code yX5_spend cX5_spend 7 none ∈ jtb := jt_in (jt_4 (List.mem_of_getElem? (i := 10) rfl)) rfl
theorem ml_X5_77 : Cond.methodLink RX5 77 yX3_next ∈ jtb := jt_in (jt_4 (List.mem_of_getElem? (i := 11) rfl)) rfl
theorem im_X3_next : Cond.instanceMethod yX3_next ∈ jtb := jt_in (jt_4 (List.mem_of_getElem? (i := 12) rfl)) rfl
theorem se_X3_next : Cond.selects RX3 yX3_next yX3_next ∈ jtb := jt_in (jt_4 (List.mem_of_getElem? (i := 13) rfl)) rfl
theorem cd_X3_next : Cond.code yX3_next cX3_next 1 (some (.boolean)) ∈ jtb := jt_in (jt_4 (List.mem_of_getElem? (i := 14) rfl)) rfl
theorem ct_X3_16 : Cond.constant RX3 16 (1103515245) ∈ jtb := jt_in (jt_4 (List.mem_of_getElem? (i := 15) rfl)) rfl
theorem ml_X11_191 : Cond.methodLink RX11 191 yX5_oftenOf ∈ jtb := jt_in (jt_4 (List.mem_of_getElem? (i := 16) rfl)) rfl
theorem im_X5_oftenOf : Cond.instanceMethod yX5_oftenOf ∈ jtb := jt_in (jt_4 (List.mem_of_getElem? (i := 17) rfl)) rfl
theorem se_X5_oftenOf : Cond.selects RX5 yX5_oftenOf yX5_oftenOf ∈ jtb := jt_in (jt_4 (List.mem_of_getElem? (i := 18) rfl)) rfl
theorem cd_X5_oftenOf : Cond.code yX5_oftenOf cX5_oftenOf 3 (some (.int)) ∈ jtb := jt_in (jt_4 (List.mem_of_getElem? (i := 19) rfl)) rfl
theorem ml_X5_55 : Cond.methodLink RX5 55 yX5_placeOf ∈ jtb := jt_in (jt_4 (List.mem_of_getElem? (i := 20) rfl)) rfl
theorem pm_X5_placeOf : Cond.privateMethod yX5_placeOf ∈ lw_tbl := jt_4 (List.mem_of_getElem? (i := 21) rfl)
theorem im_X5_placeOf : Cond.instanceMethod yX5_placeOf ∈ jtb := jt_in (jt_4 (List.mem_of_getElem? (i := 22) rfl)) rfl
theorem cd_X5_placeOf : Cond.code yX5_placeOf cX5_placeOf 3 (some (.int)) ∈ jtb := jt_in (jt_4 (List.mem_of_getElem? (i := 23) rfl)) rfl
theorem ml_X11_194 : Cond.methodLink RX11 194 yX5_roundsOf ∈ jtb := jt_in (jt_4 (List.mem_of_getElem? (i := 24) rfl)) rfl
theorem im_X5_roundsOf : Cond.instanceMethod yX5_roundsOf ∈ jtb := jt_in (jt_4 (List.mem_of_getElem? (i := 25) rfl)) rfl
theorem se_X5_roundsOf : Cond.selects RX5 yX5_roundsOf yX5_roundsOf ∈ jtb := jt_in (jt_4 (List.mem_of_getElem? (i := 26) rfl)) rfl
theorem cd_X5_roundsOf : Cond.code yX5_roundsOf cX5_roundsOf 3 (some (.int)) ∈ jtb := jt_in (jt_4 (List.mem_of_getElem? (i := 27) rfl)) rfl
theorem ml_L_61 : Cond.methodLink RL 61 yX11_been ∈ jtb := jt_in (jt_4 (List.mem_of_getElem? (i := 28) rfl)) rfl
theorem im_X11_been : Cond.instanceMethod yX11_been ∈ jtb := jt_in (jt_4 (List.mem_of_getElem? (i := 29) rfl)) rfl
theorem se_X11_been : Cond.selects RX11 yX11_been yX11_been ∈ jtb := jt_in (jt_4 (List.mem_of_getElem? (i := 30) rfl)) rfl
theorem cd_X11_been : Cond.code yX11_been cX11_been 5 (some (.int)) ∈ jtb := jt_in (jt_4 (List.mem_of_getElem? (i := 31) rfl)) rfl
theorem ml_X11_203 : Cond.methodLink RX11 203 yX11_timesOnAll ∈ jtb := jt_in (jt_4 (List.mem_of_getElem? (i := 32) rfl)) rfl
theorem pm_X11_timesOnAll : Cond.privateMethod yX11_timesOnAll ∈ lw_tbl := jt_4 (List.mem_of_getElem? (i := 33) rfl)
theorem im_X11_timesOnAll : Cond.instanceMethod yX11_timesOnAll ∈ jtb := jt_in (jt_4 (List.mem_of_getElem? (i := 34) rfl)) rfl
theorem cd_X11_timesOnAll : Cond.code yX11_timesOnAll cX11_timesOnAll 4 (some (.int)) ∈ jtb := jt_in (jt_4 (List.mem_of_getElem? (i := 35) rfl)) rfl
theorem ml_L_65 : Cond.methodLink RL 65 yX11_join ∈ jtb := jt_in (jt_4 (List.mem_of_getElem? (i := 36) rfl)) rfl
theorem im_X11_join : Cond.instanceMethod yX11_join ∈ jtb := jt_in (jt_4 (List.mem_of_getElem? (i := 37) rfl)) rfl
theorem se_X11_join : Cond.selects RX11 yX11_join yX11_join ∈ jtb := jt_in (jt_4 (List.mem_of_getElem? (i := 38) rfl)) rfl
theorem cd_X11_join : Cond.code yX11_join cX11_join 10 (some (.int)) ∈ jtb := jt_in (jt_4 (List.mem_of_getElem? (i := 39) rfl)) rfl
theorem ml_L_69 : Cond.methodLink RL 69 yX11_each ∈ jtb := jt_in (jt_4 (List.mem_of_getElem? (i := 40) rfl)) rfl
theorem im_X11_each : Cond.instanceMethod yX11_each ∈ jtb := jt_in (jt_4 (List.mem_of_getElem? (i := 41) rfl)) rfl
theorem se_X11_each : Cond.selects RX11 yX11_each yX11_each ∈ jtb := jt_in (jt_4 (List.mem_of_getElem? (i := 42) rfl)) rfl
theorem cd_X11_each : Cond.code yX11_each cX11_each 8 (some (.int)) ∈ jtb := jt_in (jt_4 (List.mem_of_getElem? (i := 43) rfl)) rfl
theorem ml_X11_206 : Cond.methodLink RX11 206 yX5_allBegin ∈ jtb := jt_in (jt_4 (List.mem_of_getElem? (i := 44) rfl)) rfl
theorem im_X5_allBegin : Cond.instanceMethod yX5_allBegin ∈ jtb := jt_in (jt_4 (List.mem_of_getElem? (i := 45) rfl)) rfl
theorem se_X5_allBegin : Cond.selects RX5 yX5_allBegin yX5_allBegin ∈ jtb := jt_in (jt_4 (List.mem_of_getElem? (i := 46) rfl)) rfl
theorem cd_X5_allBegin : Cond.code yX5_allBegin cX5_allBegin 2 (some (.boolean)) ∈ jtb := jt_in (jt_4 (List.mem_of_getElem? (i := 47) rfl)) rfl
theorem ml_X5_74 : Cond.methodLink RX5 74 yX5_beginOf ∈ jtb := jt_in (jt_4 (List.mem_of_getElem? (i := 48) rfl)) rfl
theorem ml_L_73 : Cond.methodLink RL 73 yX11_order ∈ jtb := jt_in (jt_4 (List.mem_of_getElem? (i := 49) rfl)) rfl
theorem im_X11_order : Cond.instanceMethod yX11_order ∈ jtb := jt_in (jt_4 (List.mem_of_getElem? (i := 50) rfl)) rfl
theorem se_X11_order : Cond.selects RX11 yX11_order yX11_order ∈ jtb := jt_in (jt_4 (List.mem_of_getElem? (i := 51) rfl)) rfl
theorem cd_X11_order : Cond.code yX11_order cX11_order 4 (some (.int)) ∈ jtb := jt_in (jt_4 (List.mem_of_getElem? (i := 52) rfl)) rfl
theorem ml_X11_212 : Cond.methodLink RX11 212 yX7_begin ∈ jtb := jt_in (jt_4 (List.mem_of_getElem? (i := 53) rfl)) rfl
theorem im_X7_begin : Cond.instanceMethod yX7_begin ∈ jtb := jt_in (jt_4 (List.mem_of_getElem? (i := 54) rfl)) rfl
theorem se_X7_begin : Cond.selects RX7 yX7_begin yX7_begin ∈ jtb := jt_in (jt_4 (List.mem_of_getElem? (i := 55) rfl)) rfl
theorem cd_X7_begin : Cond.code yX7_begin cX7_begin 3 none ∈ jtb := jt_in (jt_4 (List.mem_of_getElem? (i := 56) rfl)) rfl
theorem ml_X7_19 : Cond.methodLink RX7 19 Lib.Math.min.name ∈ jtb := jt_in (jt_4 (List.mem_of_getElem? (i := 57) rfl)) rfl
theorem ml_X11_220 : Cond.methodLink RX11 220 yX5_foreseePairs ∈ jtb := jt_in (jt_4 (List.mem_of_getElem? (i := 58) rfl)) rfl
theorem im_X5_foreseePairs : Cond.instanceMethod yX5_foreseePairs ∈ jtb := jt_in (jt_4 (List.mem_of_getElem? (i := 59) rfl)) rfl
theorem se_X5_foreseePairs : Cond.selects RX5 yX5_foreseePairs yX5_foreseePairs ∈ jtb := jt_in (jt_4 (List.mem_of_getElem? (i := 60) rfl)) rfl
theorem cd_X5_foreseePairs : Cond.code yX5_foreseePairs cX5_foreseePairs 6 none ∈ jtb := jt_in (jt_4 (List.mem_of_getElem? (i := 61) rfl)) rfl
theorem ml_X11_224 : Cond.methodLink RX11 224 yX7_seek ∈ jtb := jt_in (jt_4 (List.mem_of_getElem? (i := 62) rfl)) rfl
theorem im_X7_seek : Cond.instanceMethod yX7_seek ∈ jtb := jt_in (jt_4 (List.mem_of_getElem? (i := 63) rfl)) rfl
theorem se_X7_seek : Cond.selects RX7 yX7_seek yX7_seek ∈ jtb := jt_in (jt_4 (List.mem_of_getElem? (i := 64) rfl)) rfl
theorem cd_X7_seek : Cond.code yX7_seek cX7_seek 4 none ∈ jtb := jt_in (jt_4 (List.mem_of_getElem? (i := 65) rfl)) rfl
theorem ml_X7_29 : Cond.methodLink RX7 29 yX7_waitsTogether ∈ jtb := jt_in (jt_4 (List.mem_of_getElem? (i := 66) rfl)) rfl
theorem pm_X7_waitsTogether : Cond.privateMethod yX7_waitsTogether ∈ lw_tbl := jt_4 (List.mem_of_getElem? (i := 67) rfl)
theorem im_X7_waitsTogether : Cond.instanceMethod yX7_waitsTogether ∈ jtb := jt_in (jt_4 (List.mem_of_getElem? (i := 68) rfl)) rfl
theorem cd_X7_waitsTogether : Cond.code yX7_waitsTogether cX7_waitsTogether 3 (some (.int)) ∈ jtb := jt_in (jt_4 (List.mem_of_getElem? (i := 69) rfl)) rfl
theorem ml_X7_36 : Cond.methodLink RX7 36 arraycopyName ∈ jtb := jt_in (jt_4 (List.mem_of_getElem? (i := 70) rfl)) rfl
theorem ml_X7_42 : Cond.methodLink RX7 42 yX7_goOn ∈ jtb := jt_in (jt_4 (List.mem_of_getElem? (i := 71) rfl)) rfl
theorem pm_X7_goOn : Cond.privateMethod yX7_goOn ∈ lw_tbl := jt_4 (List.mem_of_getElem? (i := 72) rfl)
theorem im_X7_goOn : Cond.instanceMethod yX7_goOn ∈ jtb := jt_in (jt_4 (List.mem_of_getElem? (i := 73) rfl)) rfl
theorem cd_X7_goOn : Cond.code yX7_goOn cX7_goOn 5 (some (.boolean)) ∈ jtb := jt_in (jt_4 (List.mem_of_getElem? (i := 74) rfl)) rfl
theorem ml_X7_46 : Cond.methodLink RX7 46 yX7_swap ∈ jtb := jt_in (jt_4 (List.mem_of_getElem? (i := 75) rfl)) rfl
theorem pm_X7_swap : Cond.privateMethod yX7_swap ∈ lw_tbl := jt_4 (List.mem_of_getElem? (i := 76) rfl)
theorem im_X7_swap : Cond.instanceMethod yX7_swap ∈ jtb := jt_in (jt_4 (List.mem_of_getElem? (i := 77) rfl)) rfl
theorem cd_X7_swap : Cond.code yX7_swap cX7_swap 4 none ∈ jtb := jt_in (jt_4 (List.mem_of_getElem? (i := 78) rfl)) rfl
theorem ml_X11_230 : Cond.methodLink RX11 230 yX7_foundAt ∈ jtb := jt_in (jt_4 (List.mem_of_getElem? (i := 79) rfl)) rfl
theorem im_X7_foundAt : Cond.instanceMethod yX7_foundAt ∈ jtb := jt_in (jt_4 (List.mem_of_getElem? (i := 80) rfl)) rfl
theorem se_X7_foundAt : Cond.selects RX7 yX7_foundAt yX7_foundAt ∈ jtb := jt_in (jt_4 (List.mem_of_getElem? (i := 81) rfl)) rfl
theorem cd_X7_foundAt : Cond.code yX7_foundAt cX7_foundAt 2 (some (.int)) ∈ jtb := jt_in (jt_4 (List.mem_of_getElem? (i := 82) rfl)) rfl
theorem ml_X11_233 : Cond.methodLink RX11 233 yX5_childAt ∈ jtb := jt_in (jt_4 (List.mem_of_getElem? (i := 83) rfl)) rfl
theorem im_X5_childAt : Cond.instanceMethod yX5_childAt ∈ jtb := jt_in (jt_4 (List.mem_of_getElem? (i := 84) rfl)) rfl
theorem se_X5_childAt : Cond.selects RX5 yX5_childAt yX5_childAt ∈ jtb := jt_in (jt_4 (List.mem_of_getElem? (i := 85) rfl)) rfl
theorem cd_X5_childAt : Cond.code yX5_childAt cX5_childAt 2 (some (.int)) ∈ jtb := jt_in (jt_4 (List.mem_of_getElem? (i := 86) rfl)) rfl
theorem ml_L_77 : Cond.methodLink RL 77 yX11_held ∈ jtb := jt_in (jt_4 (List.mem_of_getElem? (i := 87) rfl)) rfl
theorem im_X11_held : Cond.instanceMethod yX11_held ∈ jtb := jt_in (jt_4 (List.mem_of_getElem? (i := 88) rfl)) rfl
theorem se_X11_held : Cond.selects RX11 yX11_held yX11_held ∈ jtb := jt_in (jt_4 (List.mem_of_getElem? (i := 89) rfl)) rfl
theorem cd_X11_held : Cond.code yX11_held cX11_held 5 (some (.int)) ∈ jtb := jt_in (jt_4 (List.mem_of_getElem? (i := 90) rfl)) rfl
theorem ml_X11_236 : Cond.methodLink RX11 236 yX5_oftenWhileHeld ∈ jtb := jt_in (jt_4 (List.mem_of_getElem? (i := 91) rfl)) rfl
theorem im_X5_oftenWhileHeld : Cond.instanceMethod yX5_oftenWhileHeld ∈ jtb := jt_in (jt_4 (List.mem_of_getElem? (i := 92) rfl)) rfl
theorem se_X5_oftenWhileHeld : Cond.selects RX5 yX5_oftenWhileHeld yX5_oftenWhileHeld ∈ jtb := jt_in (jt_4 (List.mem_of_getElem? (i := 93) rfl)) rfl
theorem cd_X5_oftenWhileHeld : Cond.code yX5_oftenWhileHeld cX5_oftenWhileHeld 13 (some (.int)) ∈ jtb := jt_in (jt_4 (List.mem_of_getElem? (i := 94) rfl)) rfl
theorem ml_X5_86 : Cond.methodLink RX5 86 yX5_passingOver ∈ jtb := jt_in (jt_4 (List.mem_of_getElem? (i := 95) rfl)) rfl
theorem pm_X5_passingOver : Cond.privateMethod yX5_passingOver ∈ lw_tbl := jt_4 (List.mem_of_getElem? (i := 96) rfl)
theorem im_X5_passingOver : Cond.instanceMethod yX5_passingOver ∈ jtb := jt_in (jt_4 (List.mem_of_getElem? (i := 97) rfl)) rfl
theorem cd_X5_passingOver : Cond.code yX5_passingOver cX5_passingOver 3 (some (.int)) ∈ jtb := jt_in (jt_4 (List.mem_of_getElem? (i := 98) rfl)) rfl
theorem ml_X5_89 : Cond.methodLink RX5 89 yX5_sendToEnd ∈ jtb := jt_in (jt_4 (List.mem_of_getElem? (i := 99) rfl)) rfl
theorem pm_X5_sendToEnd : Cond.privateMethod yX5_sendToEnd ∈ lw_tbl := jt_4 (List.mem_of_getElem? (i := 100) rfl)
theorem im_X5_sendToEnd : Cond.instanceMethod yX5_sendToEnd ∈ jtb := jt_in (jt_4 (List.mem_of_getElem? (i := 101) rfl)) rfl
theorem cd_X5_sendToEnd : Cond.code yX5_sendToEnd cX5_sendToEnd 4 none ∈ jtb := jt_in (jt_4 (List.mem_of_getElem? (i := 102) rfl)) rfl
theorem ml_L_81 : Cond.methodLink RL 81 yX11_trade ∈ jtb := jt_in (jt_4 (List.mem_of_getElem? (i := 103) rfl)) rfl
theorem im_X11_trade : Cond.instanceMethod yX11_trade ∈ jtb := jt_in (jt_4 (List.mem_of_getElem? (i := 104) rfl)) rfl
theorem se_X11_trade : Cond.selects RX11 yX11_trade yX11_trade ∈ jtb := jt_in (jt_4 (List.mem_of_getElem? (i := 105) rfl)) rfl
theorem cd_X11_trade : Cond.code yX11_trade cX11_trade 9 (some (.int)) ∈ jtb := jt_in (jt_4 (List.mem_of_getElem? (i := 106) rfl)) rfl
theorem ml_X11_239 : Cond.methodLink RX11 239 yX5_swap ∈ jtb := jt_in (jt_4 (List.mem_of_getElem? (i := 107) rfl)) rfl
theorem im_X5_swap : Cond.instanceMethod yX5_swap ∈ jtb := jt_in (jt_4 (List.mem_of_getElem? (i := 108) rfl)) rfl
theorem se_X5_swap : Cond.selects RX5 yX5_swap yX5_swap ∈ jtb := jt_in (jt_4 (List.mem_of_getElem? (i := 109) rfl)) rfl
theorem cd_X5_swap : Cond.code yX5_swap cX5_swap 5 none ∈ jtb := jt_in (jt_4 (List.mem_of_getElem? (i := 110) rfl)) rfl
theorem ml_L_85 : Cond.methodLink RL 85 yX11_drawn ∈ jtb := jt_in (jt_4 (List.mem_of_getElem? (i := 111) rfl)) rfl
theorem im_X11_drawn : Cond.instanceMethod yX11_drawn ∈ jtb := jt_in (jt_4 (List.mem_of_getElem? (i := 112) rfl)) rfl
theorem se_X11_drawn : Cond.selects RX11 yX11_drawn yX11_drawn ∈ jtb := jt_in (jt_4 (List.mem_of_getElem? (i := 113) rfl)) rfl
theorem cd_X11_drawn : Cond.code yX11_drawn cX11_drawn 7 (some (.int)) ∈ jtb := jt_in (jt_4 (List.mem_of_getElem? (i := 114) rfl)) rfl
theorem ml_X11_242 : Cond.methodLink RX11 242 yX3_begin ∈ jtb := jt_in (jt_4 (List.mem_of_getElem? (i := 115) rfl)) rfl
theorem im_X3_begin : Cond.instanceMethod yX3_begin ∈ jtb := jt_in (jt_4 (List.mem_of_getElem? (i := 116) rfl)) rfl
theorem se_X3_begin : Cond.selects RX3 yX3_begin yX3_begin ∈ jtb := jt_in (jt_4 (List.mem_of_getElem? (i := 117) rfl)) rfl
theorem cd_X3_begin : Cond.code yX3_begin cX3_begin 3 none ∈ jtb := jt_in (jt_4 (List.mem_of_getElem? (i := 118) rfl)) rfl
theorem ml_X11_244 : Cond.methodLink RX11 244 yX11_timesOfAll ∈ jtb := jt_in (jt_4 (List.mem_of_getElem? (i := 119) rfl)) rfl
theorem pm_X11_timesOfAll : Cond.privateMethod yX11_timesOfAll ∈ lw_tbl := jt_4 (List.mem_of_getElem? (i := 120) rfl)
theorem im_X11_timesOfAll : Cond.instanceMethod yX11_timesOfAll ∈ jtb := jt_in (jt_4 (List.mem_of_getElem? (i := 121) rfl)) rfl
theorem cd_X11_timesOfAll : Cond.code yX11_timesOfAll cX11_timesOfAll 3 (some (.int)) ∈ jtb := jt_in (jt_4 (List.mem_of_getElem? (i := 122) rfl)) rfl
theorem ml_L_90 : Cond.methodLink RL 90 yX11_judge ∈ jtb := jt_in (jt_4 (List.mem_of_getElem? (i := 123) rfl)) rfl
theorem im_X11_judge : Cond.instanceMethod yX11_judge ∈ jtb := jt_in (jt_4 (List.mem_of_getElem? (i := 124) rfl)) rfl
theorem se_X11_judge : Cond.selects RX11 yX11_judge yX11_judge ∈ jtb := jt_in (jt_4 (List.mem_of_getElem? (i := 125) rfl)) rfl
theorem cd_X11_judge : Cond.code yX11_judge cX11_judge 5 (some (.int)) ∈ jtb := jt_in (jt_4 (List.mem_of_getElem? (i := 126) rfl)) rfl
theorem ml_X11_247 : Cond.methodLink RX11 247 yX11_firstUnlike ∈ jtb := jt_in (jt_4 (List.mem_of_getElem? (i := 127) rfl)) rfl
theorem pm_X11_firstUnlike : Cond.privateMethod yX11_firstUnlike ∈ lw_tbl := jt_4 (List.mem_of_getElem? (i := 128) rfl)
theorem im_X11_firstUnlike : Cond.instanceMethod yX11_firstUnlike ∈ jtb := jt_in (jt_4 (List.mem_of_getElem? (i := 129) rfl)) rfl
theorem cd_X11_firstUnlike : Cond.code yX11_firstUnlike cX11_firstUnlike 9 (some (.int)) ∈ jtb := jt_in (jt_4 (List.mem_of_getElem? (i := 130) rfl)) rfl
theorem ml_X11_370 : Cond.methodLink RX11 370 yX9_sizeOf ∈ jtb := jt_in (jt_4 (List.mem_of_getElem? (i := 131) rfl)) rfl
theorem ml_X11_373 : Cond.methodLink RX11 373 Lib.Math.min.name ∈ jtb := jt_in (jt_4 (List.mem_of_getElem? (i := 132) rfl)) rfl
theorem ml_X11_378 : Cond.methodLink RX11 378 yX8_heardAt ∈ jtb := jt_in (jt_4 (List.mem_of_getElem? (i := 133) rfl)) rfl
theorem im_X8_heardAt : Cond.instanceMethod yX8_heardAt ∈ jtb := jt_in (jt_4 (List.mem_of_getElem? (i := 134) rfl)) rfl
theorem se_X8_heardAt : Cond.selects RX8 yX8_heardAt yX8_heardAt ∈ jtb := jt_in (jt_4 (List.mem_of_getElem? (i := 135) rfl)) rfl
theorem cd_X8_heardAt : Cond.code yX8_heardAt cX8_heardAt 2 (some (.int)) ∈ jtb := jt_in (jt_4 (List.mem_of_getElem? (i := 136) rfl)) rfl
theorem ml_L_94 : Cond.methodLink RL 94 yX11_who ∈ jtb := jt_in (jt_4 (List.mem_of_getElem? (i := 137) rfl)) rfl
theorem im_X11_who : Cond.instanceMethod yX11_who ∈ jtb := jt_in (jt_4 (List.mem_of_getElem? (i := 138) rfl)) rfl
theorem se_X11_who : Cond.selects RX11 yX11_who yX11_who ∈ jtb := jt_in (jt_4 (List.mem_of_getElem? (i := 139) rfl)) rfl
theorem cd_X11_who : Cond.code yX11_who cX11_who 8 (some (.int)) ∈ jtb := jt_in (jt_4 (List.mem_of_getElem? (i := 140) rfl)) rfl
theorem ml_L_98 : Cond.methodLink RL 98 yX11_sure ∈ jtb := jt_in (jt_4 (List.mem_of_getElem? (i := 141) rfl)) rfl
theorem im_X11_sure : Cond.instanceMethod yX11_sure ∈ jtb := jt_in (jt_4 (List.mem_of_getElem? (i := 142) rfl)) rfl
theorem se_X11_sure : Cond.selects RX11 yX11_sure yX11_sure ∈ jtb := jt_in (jt_4 (List.mem_of_getElem? (i := 143) rfl)) rfl
theorem cd_X11_sure : Cond.code yX11_sure cX11_sure 7 (some (.int)) ∈ jtb := jt_in (jt_4 (List.mem_of_getElem? (i := 144) rfl)) rfl
theorem ml_L_102 : Cond.methodLink RL 102 yX11_on ∈ jtb := jt_in (jt_4 (List.mem_of_getElem? (i := 145) rfl)) rfl
theorem im_X11_on : Cond.instanceMethod yX11_on ∈ jtb := jt_in (jt_4 (List.mem_of_getElem? (i := 146) rfl)) rfl
theorem se_X11_on : Cond.selects RX11 yX11_on yX11_on ∈ jtb := jt_in (jt_4 (List.mem_of_getElem? (i := 147) rfl)) rfl
theorem cd_X11_on : Cond.code yX11_on cX11_on 2 (some (.int)) ∈ jtb := jt_in (jt_4 (List.mem_of_getElem? (i := 148) rfl)) rfl
theorem ml_X11_262 : Cond.methodLink RX11 262 yX10_begin ∈ jtb := jt_in (jt_4 (List.mem_of_getElem? (i := 149) rfl)) rfl
theorem ml_L_106 : Cond.methodLink RL 106 yX11_push ∈ jtb := jt_in (jt_4 (List.mem_of_getElem? (i := 150) rfl)) rfl
theorem im_X11_push : Cond.instanceMethod yX11_push ∈ jtb := jt_in (jt_4 (List.mem_of_getElem? (i := 151) rfl)) rfl
theorem se_X11_push : Cond.selects RX11 yX11_push yX11_push ∈ jtb := jt_in (jt_4 (List.mem_of_getElem? (i := 152) rfl)) rfl
theorem cd_X11_push : Cond.code yX11_push cX11_push 2 (some (.int)) ∈ jtb := jt_in (jt_4 (List.mem_of_getElem? (i := 153) rfl)) rfl
theorem ml_X11_271 : Cond.methodLink RX11 271 yX6_waitingBehind ∈ jtb := jt_in (jt_4 (List.mem_of_getElem? (i := 154) rfl)) rfl
theorem im_X6_waitingBehind : Cond.instanceMethod yX6_waitingBehind ∈ jtb := jt_in (jt_4 (List.mem_of_getElem? (i := 155) rfl)) rfl
theorem se_X6_waitingBehind : Cond.selects RX6 yX6_waitingBehind yX6_waitingBehind ∈ jtb := jt_in (jt_4 (List.mem_of_getElem? (i := 156) rfl)) rfl
theorem cd_X6_waitingBehind : Cond.code yX6_waitingBehind cX6_waitingBehind 5 (some (.int)) ∈ jtb := jt_in (jt_4 (List.mem_of_getElem? (i := 157) rfl)) rfl
theorem ml_X6_51 : Cond.methodLink RX6 51 yX6_valueOf ∈ jtb := jt_in (jt_4 (List.mem_of_getElem? (i := 158) rfl)) rfl
theorem ml_X11_274 : Cond.methodLink RX11 274 yX8_step ∈ jtb := jt_in (jt_4 (List.mem_of_getElem? (i := 159) rfl)) rfl
theorem ml_X11_278 : Cond.methodLink RX11 278 yX8_isOver ∈ jtb := jt_in (jt_4 (List.mem_of_getElem? (i := 160) rfl)) rfl
theorem ml_X11_282 : Cond.methodLink RX11 282 yX2_lead ∈ jtb := jt_in (jt_4 (List.mem_of_getElem? (i := 161) rfl)) rfl
theorem im_X2_lead : Cond.instanceMethod yX2_lead ∈ jtb := jt_in (jt_4 (List.mem_of_getElem? (i := 162) rfl)) rfl
theorem se_X2_lead : Cond.selects RX2 yX2_lead yX2_lead ∈ jtb := jt_in (jt_4 (List.mem_of_getElem? (i := 163) rfl)) rfl
theorem cd_X2_lead : Cond.code yX2_lead cX2_lead 2 none ∈ jtb := jt_in (jt_4 (List.mem_of_getElem? (i := 164) rfl)) rfl
theorem ml_L_110 : Cond.methodLink RL 110 yX11_off ∈ jtb := jt_in (jt_4 (List.mem_of_getElem? (i := 165) rfl)) rfl
theorem im_X11_off : Cond.instanceMethod yX11_off ∈ jtb := jt_in (jt_4 (List.mem_of_getElem? (i := 166) rfl)) rfl
theorem se_X11_off : Cond.selects RX11 yX11_off yX11_off ∈ jtb := jt_in (jt_4 (List.mem_of_getElem? (i := 167) rfl)) rfl
theorem cd_X11_off : Cond.code yX11_off cX11_off 1 (some (.int)) ∈ jtb := jt_in (jt_4 (List.mem_of_getElem? (i := 168) rfl)) rfl
theorem ml_L_114 : Cond.methodLink RL 114 yX11_led ∈ jtb := jt_in (jt_4 (List.mem_of_getElem? (i := 169) rfl)) rfl
theorem im_X11_led : Cond.instanceMethod yX11_led ∈ jtb := jt_in (jt_4 (List.mem_of_getElem? (i := 170) rfl)) rfl
theorem se_X11_led : Cond.selects RX11 yX11_led yX11_led ∈ jtb := jt_in (jt_4 (List.mem_of_getElem? (i := 171) rfl)) rfl
theorem cd_X11_led : Cond.code yX11_led cX11_led 2 (some (.int)) ∈ jtb := jt_in (jt_4 (List.mem_of_getElem? (i := 172) rfl)) rfl
theorem ml_L_118 : Cond.methodLink RL 118 yX11_image ∈ jtb := jt_in (jt_4 (List.mem_of_getElem? (i := 173) rfl)) rfl
theorem im_X11_image : Cond.instanceMethod yX11_image ∈ jtb := jt_in (jt_4 (List.mem_of_getElem? (i := 174) rfl)) rfl
theorem se_X11_image : Cond.selects RX11 yX11_image yX11_image ∈ jtb := jt_in (jt_4 (List.mem_of_getElem? (i := 175) rfl)) rfl
theorem cd_X11_image : Cond.code yX11_image cX11_image 1 (some (.int)) ∈ jtb := jt_in (jt_4 (List.mem_of_getElem? (i := 176) rfl)) rfl
theorem ml_X11_301 : Cond.methodLink RX11 301 yX2_copy ∈ jtb := jt_in (jt_4 (List.mem_of_getElem? (i := 177) rfl)) rfl
theorem im_X2_copy : Cond.instanceMethod yX2_copy ∈ jtb := jt_in (jt_4 (List.mem_of_getElem? (i := 178) rfl)) rfl
theorem se_X2_copy : Cond.selects RX2 yX2_copy yX2_copy ∈ jtb := jt_in (jt_4 (List.mem_of_getElem? (i := 179) rfl)) rfl
theorem cd_X2_copy : Cond.code yX2_copy cX2_copy 2 none ∈ jtb := jt_in (jt_4 (List.mem_of_getElem? (i := 180) rfl)) rfl
theorem ml_X2_47 : Cond.methodLink RX2 47 yX10_copy ∈ jtb := jt_in (jt_4 (List.mem_of_getElem? (i := 181) rfl)) rfl
theorem im_X10_copy : Cond.instanceMethod yX10_copy ∈ jtb := jt_in (jt_4 (List.mem_of_getElem? (i := 182) rfl)) rfl
theorem se_X10_copy : Cond.selects RX10 yX10_copy yX10_copy ∈ jtb := jt_in (jt_4 (List.mem_of_getElem? (i := 183) rfl)) rfl
theorem cd_X10_copy : Cond.code yX10_copy cX10_copy 2 none ∈ jtb := jt_in (jt_4 (List.mem_of_getElem? (i := 184) rfl)) rfl
theorem ml_X10_34 : Cond.methodLink RX10 34 yX10_begin ∈ jtb := jt_in (jt_4 (List.mem_of_getElem? (i := 185) rfl)) rfl
theorem ml_L_122 : Cond.methodLink RL 122 yX11_back ∈ jtb := jt_in (jt_4 (List.mem_of_getElem? (i := 186) rfl)) rfl
theorem im_X11_back : Cond.instanceMethod yX11_back ∈ jtb := jt_in (jt_4 (List.mem_of_getElem? (i := 187) rfl)) rfl
theorem se_X11_back : Cond.selects RX11 yX11_back yX11_back ∈ jtb := jt_in (jt_4 (List.mem_of_getElem? (i := 188) rfl)) rfl
theorem cd_X11_back : Cond.code yX11_back cX11_back 1 (some (.int)) ∈ jtb := jt_in (jt_4 (List.mem_of_getElem? (i := 189) rfl)) rfl
theorem ml_L_126 : Cond.methodLink RL 126 yX11_undo ∈ jtb := jt_in (jt_4 (List.mem_of_getElem? (i := 190) rfl)) rfl
theorem im_X11_undo : Cond.instanceMethod yX11_undo ∈ jtb := jt_in (jt_4 (List.mem_of_getElem? (i := 191) rfl)) rfl
theorem se_X11_undo : Cond.selects RX11 yX11_undo yX11_undo ∈ jtb := jt_in (jt_4 (List.mem_of_getElem? (i := 192) rfl)) rfl
theorem cd_X11_undo : Cond.code yX11_undo cX11_undo 1 (some (.int)) ∈ jtb := jt_in (jt_4 (List.mem_of_getElem? (i := 193) rfl)) rfl
theorem ml_X11_308 : Cond.methodLink RX11 308 yX1_takeBack ∈ jtb := jt_in (jt_4 (List.mem_of_getElem? (i := 194) rfl)) rfl
theorem im_X1_takeBack : Cond.instanceMethod yX1_takeBack ∈ jtb := jt_in (jt_4 (List.mem_of_getElem? (i := 195) rfl)) rfl
theorem se_X1_takeBack : Cond.selects RX1 yX1_takeBack yX1_takeBack ∈ jtb := jt_in (jt_4 (List.mem_of_getElem? (i := 196) rfl)) rfl
theorem cd_X1_takeBack : Cond.code yX1_takeBack cX1_takeBack 1 (some (.int)) ∈ jtb := jt_in (jt_4 (List.mem_of_getElem? (i := 197) rfl)) rfl
theorem ml_L_130 : Cond.methodLink RL 130 yX11_redo ∈ jtb := jt_in (jt_4 (List.mem_of_getElem? (i := 198) rfl)) rfl
theorem im_X11_redo : Cond.instanceMethod yX11_redo ∈ jtb := jt_in (jt_4 (List.mem_of_getElem? (i := 199) rfl)) rfl
theorem se_X11_redo : Cond.selects RX11 yX11_redo yX11_redo ∈ jtb := jt_in (jt_4 (List.mem_of_getElem? (i := 200) rfl)) rfl
theorem cd_X11_redo : Cond.code yX11_redo cX11_redo 1 (some (.int)) ∈ jtb := jt_in (jt_4 (List.mem_of_getElem? (i := 201) rfl)) rfl
theorem ml_X11_311 : Cond.methodLink RX11 311 yX1_makeAgain ∈ jtb := jt_in (jt_4 (List.mem_of_getElem? (i := 202) rfl)) rfl
theorem im_X1_makeAgain : Cond.instanceMethod yX1_makeAgain ∈ jtb := jt_in (jt_4 (List.mem_of_getElem? (i := 203) rfl)) rfl
theorem se_X1_makeAgain : Cond.selects RX1 yX1_makeAgain yX1_makeAgain ∈ jtb := jt_in (jt_4 (List.mem_of_getElem? (i := 204) rfl)) rfl
theorem cd_X1_makeAgain : Cond.code yX1_makeAgain cX1_makeAgain 1 (some (.int)) ∈ jtb := jt_in (jt_4 (List.mem_of_getElem? (i := 205) rfl)) rfl
theorem ml_L_134 : Cond.methodLink RL 134 yX11_body ∈ jtb := jt_in (jt_4 (List.mem_of_getElem? (i := 206) rfl)) rfl
theorem im_X11_body : Cond.instanceMethod yX11_body ∈ jtb := jt_in (jt_4 (List.mem_of_getElem? (i := 207) rfl)) rfl
theorem se_X11_body : Cond.selects RX11 yX11_body yX11_body ∈ jtb := jt_in (jt_4 (List.mem_of_getElem? (i := 208) rfl)) rfl
theorem cd_X11_body : Cond.code yX11_body cX11_body 2 (some (.int)) ∈ jtb := jt_in (jt_4 (List.mem_of_getElem? (i := 209) rfl)) rfl
theorem ml_X11_314 : Cond.methodLink RX11 314 yX0_add ∈ jtb := jt_in (jt_4 (List.mem_of_getElem? (i := 210) rfl)) rfl
theorem im_X0_add : Cond.instanceMethod yX0_add ∈ jtb := jt_in (jt_4 (List.mem_of_getElem? (i := 211) rfl)) rfl
theorem se_X0_add : Cond.selects RX0 yX0_add yX0_add ∈ jtb := jt_in (jt_4 (List.mem_of_getElem? (i := 212) rfl)) rfl
theorem cd_X0_add : Cond.code yX0_add cX0_add 2 (some (.int)) ∈ jtb := jt_in (jt_4 (List.mem_of_getElem? (i := 213) rfl)) rfl
theorem ml_X0_18 : Cond.methodLink RX0 18 yX0_isKind ∈ jtb := jt_in (jt_4 (List.mem_of_getElem? (i := 214) rfl)) rfl
theorem st_X0_isKind : Cond.static yX0_isKind ∈ jtb := jt_in (jt_4 (List.mem_of_getElem? (i := 215) rfl)) rfl
theorem cd_X0_isKind : Cond.code yX0_isKind cX0_isKind 1 (some (.boolean)) ∈ jtb := jt_in (jt_4 (List.mem_of_getElem? (i := 216) rfl)) rfl
theorem ml_L_138 : Cond.methodLink RL 138 yX11_act ∈ jtb := jt_in (jt_4 (List.mem_of_getElem? (i := 217) rfl)) rfl
theorem im_X11_act : Cond.instanceMethod yX11_act ∈ jtb := jt_in (jt_4 (List.mem_of_getElem? (i := 218) rfl)) rfl
theorem se_X11_act : Cond.selects RX11 yX11_act yX11_act ∈ jtb := jt_in (jt_4 (List.mem_of_getElem? (i := 219) rfl)) rfl
theorem cd_X11_act : Cond.code yX11_act cX11_act 4 (some (.int)) ∈ jtb := jt_in (jt_4 (List.mem_of_getElem? (i := 220) rfl)) rfl
theorem ml_X11_317 : Cond.methodLink RX11 317 yX0_perform ∈ jtb := jt_in (jt_4 (List.mem_of_getElem? (i := 221) rfl)) rfl
theorem im_X0_perform : Cond.instanceMethod yX0_perform ∈ jtb := jt_in (jt_4 (List.mem_of_getElem? (i := 222) rfl)) rfl
theorem se_X0_perform : Cond.selects RX0 yX0_perform yX0_perform ∈ jtb := jt_in (jt_4 (List.mem_of_getElem? (i := 223) rfl)) rfl
theorem cd_X0_perform : Cond.code yX0_perform cX0_perform 4 (some (.int)) ∈ jtb := jt_in (jt_4 (List.mem_of_getElem? (i := 224) rfl)) rfl
theorem ml_X0_26 : Cond.methodLink RX0 26 yX0_isBody ∈ jtb := jt_in (jt_4 (List.mem_of_getElem? (i := 225) rfl)) rfl
theorem im_X0_isBody : Cond.instanceMethod yX0_isBody ∈ jtb := jt_in (jt_4 (List.mem_of_getElem? (i := 226) rfl)) rfl
theorem se_X0_isBody : Cond.selects RX0 yX0_isBody yX0_isBody ∈ jtb := jt_in (jt_4 (List.mem_of_getElem? (i := 227) rfl)) rfl
theorem cd_X0_isBody : Cond.code yX0_isBody cX0_isBody 2 (some (.boolean)) ∈ jtb := jt_in (jt_4 (List.mem_of_getElem? (i := 228) rfl)) rfl
theorem ml_X0_35 : Cond.methodLink RX0 35 yX0_own ∈ jtb := jt_in (jt_4 (List.mem_of_getElem? (i := 229) rfl)) rfl
theorem pm_X0_own : Cond.privateMethod yX0_own ∈ lw_tbl := jt_4 (List.mem_of_getElem? (i := 230) rfl)
theorem im_X0_own : Cond.instanceMethod yX0_own ∈ jtb := jt_in (jt_4 (List.mem_of_getElem? (i := 231) rfl)) rfl
theorem cd_X0_own : Cond.code yX0_own cX0_own 5 (some (.int)) ∈ jtb := jt_in (jt_4 (List.mem_of_getElem? (i := 232) rfl)) rfl
theorem ml_X0_42 : Cond.methodLink RX0 42 yX0_kindOf ∈ jtb := jt_in (jt_4 (List.mem_of_getElem? (i := 233) rfl)) rfl
theorem im_X0_kindOf : Cond.instanceMethod yX0_kindOf ∈ jtb := jt_in (jt_4 (List.mem_of_getElem? (i := 234) rfl)) rfl
theorem se_X0_kindOf : Cond.selects RX0 yX0_kindOf yX0_kindOf ∈ jtb := jt_in (jt_4 (List.mem_of_getElem? (i := 235) rfl)) rfl
theorem cd_X0_kindOf : Cond.code yX0_kindOf cX0_kindOf 2 (some (.int)) ∈ jtb := jt_in (jt_4 (List.mem_of_getElem? (i := 236) rfl)) rfl
theorem ml_X0_46 : Cond.methodLink RX0 46 yX0_bodyFrom ∈ jtb := jt_in (jt_4 (List.mem_of_getElem? (i := 237) rfl)) rfl
theorem st_X0_bodyFrom : Cond.static yX0_bodyFrom ∈ jtb := jt_in (jt_4 (List.mem_of_getElem? (i := 238) rfl)) rfl
theorem cd_X0_bodyFrom : Cond.code yX0_bodyFrom cX0_bodyFrom 5 (some (.int)) ∈ jtb := jt_in (jt_4 (List.mem_of_getElem? (i := 239) rfl)) rfl
theorem fl_X0_39 : Cond.fieldLink RX0 39 "TwentyPushes$Bodies" "OWN" "[I" ∈ jtb := jt_in (jt_5 (List.mem_of_getElem? (i := 0) rfl)) rfl
theorem ls_OWN : Cond.laysStatic "TwentyPushes$Bodies" "OWN" "[I" ∈ lw_tbl := jt_5 (List.mem_of_getElem? (i := 1) rfl)
theorem fl_X0_29 : Cond.fieldLink RX0 29 "TwentyPushes$Bodies" "ABOVE" "[I" ∈ jtb := jt_in (jt_5 (List.mem_of_getElem? (i := 2) rfl)) rfl
theorem ls_ABOVE : Cond.laysStatic "TwentyPushes$Bodies" "ABOVE" "[I" ∈ lw_tbl := jt_5 (List.mem_of_getElem? (i := 3) rfl)
theorem ml_X0_50 : Cond.methodLink RX0 50 yX0_run ∈ jtb := jt_in (jt_5 (List.mem_of_getElem? (i := 4) rfl)) rfl
theorem pm_X0_run : Cond.privateMethod yX0_run ∈ lw_tbl := jt_5 (List.mem_of_getElem? (i := 5) rfl)
theorem im_X0_run : Cond.instanceMethod yX0_run ∈ jtb := jt_in (jt_5 (List.mem_of_getElem? (i := 6) rfl)) rfl
theorem cd_X0_run : Cond.code yX0_run cX0_run 5 (some (.int)) ∈ jtb := jt_in (jt_5 (List.mem_of_getElem? (i := 7) rfl)) rfl
theorem ml_X0_53 : Cond.methodLink RX0 53 yX0_above ∈ jtb := jt_in (jt_5 (List.mem_of_getElem? (i := 8) rfl)) rfl
theorem pm_X0_above : Cond.privateMethod yX0_above ∈ lw_tbl := jt_5 (List.mem_of_getElem? (i := 9) rfl)
theorem im_X0_above : Cond.instanceMethod yX0_above ∈ jtb := jt_in (jt_5 (List.mem_of_getElem? (i := 10) rfl)) rfl
theorem cd_X0_above : Cond.code yX0_above cX0_above 6 (some (.int)) ∈ jtb := jt_in (jt_5 (List.mem_of_getElem? (i := 11) rfl)) rfl
theorem ml_L_142 : Cond.methodLink RL 142 yX11_trace ∈ jtb := jt_in (jt_5 (List.mem_of_getElem? (i := 12) rfl)) rfl
theorem im_X11_trace : Cond.instanceMethod yX11_trace ∈ jtb := jt_in (jt_5 (List.mem_of_getElem? (i := 13) rfl)) rfl
theorem se_X11_trace : Cond.selects RX11 yX11_trace yX11_trace ∈ jtb := jt_in (jt_5 (List.mem_of_getElem? (i := 14) rfl)) rfl
theorem cd_X11_trace : Cond.code yX11_trace cX11_trace 2 (some (.int)) ∈ jtb := jt_in (jt_5 (List.mem_of_getElem? (i := 15) rfl)) rfl
theorem ml_X11_320 : Cond.methodLink RX11 320 yX0_traceAt ∈ jtb := jt_in (jt_5 (List.mem_of_getElem? (i := 16) rfl)) rfl
theorem im_X0_traceAt : Cond.instanceMethod yX0_traceAt ∈ jtb := jt_in (jt_5 (List.mem_of_getElem? (i := 17) rfl)) rfl
theorem se_X0_traceAt : Cond.selects RX0 yX0_traceAt yX0_traceAt ∈ jtb := jt_in (jt_5 (List.mem_of_getElem? (i := 18) rfl)) rfl
theorem cd_X0_traceAt : Cond.code yX0_traceAt cX0_traceAt 2 (some (.int)) ∈ jtb := jt_in (jt_5 (List.mem_of_getElem? (i := 19) rfl)) rfl
theorem ml_L_146 : Cond.methodLink RL 146 yX11_keep ∈ jtb := jt_in (jt_5 (List.mem_of_getElem? (i := 20) rfl)) rfl
theorem im_X11_keep : Cond.instanceMethod yX11_keep ∈ jtb := jt_in (jt_5 (List.mem_of_getElem? (i := 21) rfl)) rfl
theorem se_X11_keep : Cond.selects RX11 yX11_keep yX11_keep ∈ jtb := jt_in (jt_5 (List.mem_of_getElem? (i := 22) rfl)) rfl
theorem cd_X11_keep : Cond.code yX11_keep cX11_keep 3 (some (.int)) ∈ jtb := jt_in (jt_5 (List.mem_of_getElem? (i := 23) rfl)) rfl
theorem ml_X11_323 : Cond.methodLink RX11 323 yX0_isBody ∈ jtb := jt_in (jt_5 (List.mem_of_getElem? (i := 24) rfl)) rfl
theorem ml_X11_326 : Cond.methodLink RX11 326 yX9_hold ∈ jtb := jt_in (jt_5 (List.mem_of_getElem? (i := 25) rfl)) rfl
theorem im_X9_hold : Cond.instanceMethod yX9_hold ∈ jtb := jt_in (jt_5 (List.mem_of_getElem? (i := 26) rfl)) rfl
theorem se_X9_hold : Cond.selects RX9 yX9_hold yX9_hold ∈ jtb := jt_in (jt_5 (List.mem_of_getElem? (i := 27) rfl)) rfl
theorem cd_X9_hold : Cond.code yX9_hold cX9_hold 3 none ∈ jtb := jt_in (jt_5 (List.mem_of_getElem? (i := 28) rfl)) rfl
theorem ml_L_150 : Cond.methodLink RL 150 yX11_row ∈ jtb := jt_in (jt_5 (List.mem_of_getElem? (i := 29) rfl)) rfl
theorem im_X11_row : Cond.instanceMethod yX11_row ∈ jtb := jt_in (jt_5 (List.mem_of_getElem? (i := 30) rfl)) rfl
theorem se_X11_row : Cond.selects RX11 yX11_row yX11_row ∈ jtb := jt_in (jt_5 (List.mem_of_getElem? (i := 31) rfl)) rfl
theorem cd_X11_row : Cond.code yX11_row cX11_row 4 (some (.int)) ∈ jtb := jt_in (jt_5 (List.mem_of_getElem? (i := 32) rfl)) rfl
theorem ml_X11_329 : Cond.methodLink RX11 329 yX9_layRow ∈ jtb := jt_in (jt_5 (List.mem_of_getElem? (i := 33) rfl)) rfl
theorem im_X9_layRow : Cond.instanceMethod yX9_layRow ∈ jtb := jt_in (jt_5 (List.mem_of_getElem? (i := 34) rfl)) rfl
theorem se_X9_layRow : Cond.selects RX9 yX9_layRow yX9_layRow ∈ jtb := jt_in (jt_5 (List.mem_of_getElem? (i := 35) rfl)) rfl
theorem cd_X9_layRow : Cond.code yX9_layRow cX9_layRow 4 none ∈ jtb := jt_in (jt_5 (List.mem_of_getElem? (i := 36) rfl)) rfl
theorem ml_X9_46 : Cond.methodLink RX9 46 yJ7_fill_bad5a ∈ jtb := jt_in (jt_5 (List.mem_of_getElem? (i := 37) rfl)) rfl
theorem st_J7_fill_bad5a : Cond.static yJ7_fill_bad5a ∈ jtb := jt_in (jt_5 (List.mem_of_getElem? (i := 38) rfl)) rfl
theorem cd_J7_fill_bad5a : Cond.code yJ7_fill_bad5a cJ7_fill_bad5a 6 none ∈ jtb := jt_in (jt_5 (List.mem_of_getElem? (i := 39) rfl)) rfl
theorem ml_J7_13 : Cond.methodLink RJ7 13 yJ7_rangeCheck_23922 ∈ jtb := jt_in (jt_5 (List.mem_of_getElem? (i := 40) rfl)) rfl
theorem st_J7_rangeCheck_23922 : Cond.static yJ7_rangeCheck_23922 ∈ jtb := jt_in (jt_5 (List.mem_of_getElem? (i := 41) rfl)) rfl
theorem cd_J7_rangeCheck_23922 : Cond.code yJ7_rangeCheck_23922 cJ7_rangeCheck_23922 3 none ∈ jtb := jt_in (jt_5 (List.mem_of_getElem? (i := 42) rfl)) rfl
theorem ml_L_156 : Cond.methodLink RL 156 yX11_put ∈ jtb := jt_in (jt_5 (List.mem_of_getElem? (i := 43) rfl)) rfl
theorem im_X11_put : Cond.instanceMethod yX11_put ∈ jtb := jt_in (jt_5 (List.mem_of_getElem? (i := 44) rfl)) rfl
theorem se_X11_put : Cond.selects RX11 yX11_put yX11_put ∈ jtb := jt_in (jt_5 (List.mem_of_getElem? (i := 45) rfl)) rfl
theorem cd_X11_put : Cond.code yX11_put cX11_put 6 (some (.int)) ∈ jtb := jt_in (jt_5 (List.mem_of_getElem? (i := 46) rfl)) rfl
theorem ml_X11_332 : Cond.methodLink RX11 332 yX9_refusalAt ∈ jtb := jt_in (jt_5 (List.mem_of_getElem? (i := 47) rfl)) rfl
theorem im_X9_refusalAt : Cond.instanceMethod yX9_refusalAt ∈ jtb := jt_in (jt_5 (List.mem_of_getElem? (i := 48) rfl)) rfl
theorem se_X9_refusalAt : Cond.selects RX9 yX9_refusalAt yX9_refusalAt ∈ jtb := jt_in (jt_5 (List.mem_of_getElem? (i := 49) rfl)) rfl
theorem cd_X9_refusalAt : Cond.code yX9_refusalAt cX9_refusalAt 3 (some (.int)) ∈ jtb := jt_in (jt_5 (List.mem_of_getElem? (i := 50) rfl)) rfl
theorem ml_X11_335 : Cond.methodLink RX11 335 yX9_setElement ∈ jtb := jt_in (jt_5 (List.mem_of_getElem? (i := 51) rfl)) rfl
theorem im_X9_setElement : Cond.instanceMethod yX9_setElement ∈ jtb := jt_in (jt_5 (List.mem_of_getElem? (i := 52) rfl)) rfl
theorem se_X9_setElement : Cond.selects RX9 yX9_setElement yX9_setElement ∈ jtb := jt_in (jt_5 (List.mem_of_getElem? (i := 53) rfl)) rfl
theorem cd_X9_setElement : Cond.code yX9_setElement cX9_setElement 5 none ∈ jtb := jt_in (jt_5 (List.mem_of_getElem? (i := 54) rfl)) rfl
theorem ml_X9_52 : Cond.methodLink RX9 52 yX9_cut ∈ jtb := jt_in (jt_5 (List.mem_of_getElem? (i := 55) rfl)) rfl
theorem st_X9_cut : Cond.static yX9_cut ∈ jtb := jt_in (jt_5 (List.mem_of_getElem? (i := 56) rfl)) rfl
theorem cd_X9_cut : Cond.code yX9_cut cX9_cut 3 (some (.long)) ∈ jtb := jt_in (jt_5 (List.mem_of_getElem? (i := 57) rfl)) rfl
theorem ml_L_161 : Cond.methodLink RL 161 yX11_element ∈ jtb := jt_in (jt_5 (List.mem_of_getElem? (i := 58) rfl)) rfl
theorem im_X11_element : Cond.instanceMethod yX11_element ∈ jtb := jt_in (jt_5 (List.mem_of_getElem? (i := 59) rfl)) rfl
theorem se_X11_element : Cond.selects RX11 yX11_element yX11_element ∈ jtb := jt_in (jt_5 (List.mem_of_getElem? (i := 60) rfl)) rfl
theorem cd_X11_element : Cond.code yX11_element cX11_element 3 (some (.long)) ∈ jtb := jt_in (jt_5 (List.mem_of_getElem? (i := 61) rfl)) rfl
theorem ct_X11_339 : Cond.constantLong RX11 339 (-9223372036854775808) ∈ jtb := jt_in (jt_5 (List.mem_of_getElem? (i := 62) rfl)) rfl
theorem ml_L_166 : Cond.methodLink RL 166 yX11_shift ∈ jtb := jt_in (jt_5 (List.mem_of_getElem? (i := 63) rfl)) rfl
theorem im_X11_shift : Cond.instanceMethod yX11_shift ∈ jtb := jt_in (jt_5 (List.mem_of_getElem? (i := 64) rfl)) rfl
theorem se_X11_shift : Cond.selects RX11 yX11_shift yX11_shift ∈ jtb := jt_in (jt_5 (List.mem_of_getElem? (i := 65) rfl)) rfl
theorem cd_X11_shift : Cond.code yX11_shift cX11_shift 6 (some (.int)) ∈ jtb := jt_in (jt_5 (List.mem_of_getElem? (i := 66) rfl)) rfl
theorem ml_X11_341 : Cond.methodLink RX11 341 yX9_isEmpty ∈ jtb := jt_in (jt_5 (List.mem_of_getElem? (i := 67) rfl)) rfl
theorem ml_X11_344 : Cond.methodLink RX11 344 yX9_areLikeRows ∈ jtb := jt_in (jt_5 (List.mem_of_getElem? (i := 68) rfl)) rfl
theorem im_X9_areLikeRows : Cond.instanceMethod yX9_areLikeRows ∈ jtb := jt_in (jt_5 (List.mem_of_getElem? (i := 69) rfl)) rfl
theorem se_X9_areLikeRows : Cond.selects RX9 yX9_areLikeRows yX9_areLikeRows ∈ jtb := jt_in (jt_5 (List.mem_of_getElem? (i := 70) rfl)) rfl
theorem cd_X9_areLikeRows : Cond.code yX9_areLikeRows cX9_areLikeRows 3 (some (.boolean)) ∈ jtb := jt_in (jt_5 (List.mem_of_getElem? (i := 71) rfl)) rfl
theorem ml_X11_347 : Cond.methodLink RX11 347 yX9_move ∈ jtb := jt_in (jt_5 (List.mem_of_getElem? (i := 72) rfl)) rfl
theorem im_X9_move : Cond.instanceMethod yX9_move ∈ jtb := jt_in (jt_5 (List.mem_of_getElem? (i := 73) rfl)) rfl
theorem se_X9_move : Cond.selects RX9 yX9_move yX9_move ∈ jtb := jt_in (jt_5 (List.mem_of_getElem? (i := 74) rfl)) rfl
theorem cd_X9_move : Cond.code yX9_move cX9_move 6 none ∈ jtb := jt_in (jt_5 (List.mem_of_getElem? (i := 75) rfl)) rfl
theorem ml_X9_56 : Cond.methodLink RX9 56 arraycopyName ∈ jtb := jt_in (jt_5 (List.mem_of_getElem? (i := 76) rfl)) rfl
theorem ml_L_171 : Cond.methodLink RL 171 yX11_taken ∈ jtb := jt_in (jt_5 (List.mem_of_getElem? (i := 77) rfl)) rfl
theorem im_X11_taken : Cond.instanceMethod yX11_taken ∈ jtb := jt_in (jt_5 (List.mem_of_getElem? (i := 78) rfl)) rfl
theorem se_X11_taken : Cond.selects RX11 yX11_taken yX11_taken ∈ jtb := jt_in (jt_5 (List.mem_of_getElem? (i := 79) rfl)) rfl
theorem cd_X11_taken : Cond.code yX11_taken cX11_taken 4 (some (.int)) ∈ jtb := jt_in (jt_5 (List.mem_of_getElem? (i := 80) rfl)) rfl
theorem ml_X11_351 : Cond.methodLink RX11 351 yX9_bodyOn ∈ jtb := jt_in (jt_5 (List.mem_of_getElem? (i := 81) rfl)) rfl
theorem im_X9_bodyOn : Cond.instanceMethod yX9_bodyOn ∈ jtb := jt_in (jt_5 (List.mem_of_getElem? (i := 82) rfl)) rfl
theorem se_X9_bodyOn : Cond.selects RX9 yX9_bodyOn yX9_bodyOn ∈ jtb := jt_in (jt_5 (List.mem_of_getElem? (i := 83) rfl)) rfl
theorem cd_X9_bodyOn : Cond.code yX9_bodyOn cX9_bodyOn 2 (some (.int)) ∈ jtb := jt_in (jt_5 (List.mem_of_getElem? (i := 84) rfl)) rfl
theorem ml_X11_354 : Cond.methodLink RX11 354 yX0_kindOf ∈ jtb := jt_in (jt_5 (List.mem_of_getElem? (i := 85) rfl)) rfl
theorem ml_X11_357 : Cond.methodLink RX11 357 yX0_isUnder ∈ jtb := jt_in (jt_5 (List.mem_of_getElem? (i := 86) rfl)) rfl
theorem im_X0_isUnder : Cond.instanceMethod yX0_isUnder ∈ jtb := jt_in (jt_5 (List.mem_of_getElem? (i := 87) rfl)) rfl
theorem se_X0_isUnder : Cond.selects RX0 yX0_isUnder yX0_isUnder ∈ jtb := jt_in (jt_5 (List.mem_of_getElem? (i := 88) rfl)) rfl
theorem cd_X0_isUnder : Cond.code yX0_isUnder cX0_isUnder 5 (some (.boolean)) ∈ jtb := jt_in (jt_5 (List.mem_of_getElem? (i := 89) rfl)) rfl
theorem ml_L_175 : Cond.methodLink RL 175 yX11_count ∈ jtb := jt_in (jt_5 (List.mem_of_getElem? (i := 90) rfl)) rfl
theorem im_X11_count : Cond.instanceMethod yX11_count ∈ jtb := jt_in (jt_5 (List.mem_of_getElem? (i := 91) rfl)) rfl
theorem se_X11_count : Cond.selects RX11 yX11_count yX11_count ∈ jtb := jt_in (jt_5 (List.mem_of_getElem? (i := 92) rfl)) rfl
theorem cd_X11_count : Cond.code yX11_count cX11_count 2 (some (.int)) ∈ jtb := jt_in (jt_5 (List.mem_of_getElem? (i := 93) rfl)) rfl
theorem cl_L_10 : Cond.classLink RL 10 RX12 ∈ jtb := jt_in (jt_5 (List.mem_of_getElem? (i := 94) rfl)) rfl
theorem iq_X12 : Cond.instantiable RX12 57 ∈ jtb := jt_in (jt_5 (List.mem_of_getElem? (i := 95) rfl)) rfl
theorem ml_L_12 : Cond.methodLink RL 12 yX12_init ∈ jtb := jt_in (jt_5 (List.mem_of_getElem? (i := 96) rfl)) rfl
theorem im_X12_init : Cond.instanceMethod yX12_init ∈ jtb := jt_in (jt_5 (List.mem_of_getElem? (i := 97) rfl)) rfl
theorem cd_X12_init : Cond.code yX12_init cX12_init 1 none ∈ jtb := jt_in (jt_5 (List.mem_of_getElem? (i := 98) rfl)) rfl
theorem ml_X12_1 : Cond.methodLink RX12 1 objectInit ∈ jtb := jt_in (jt_5 (List.mem_of_getElem? (i := 99) rfl)) rfl
theorem fl_X12_7 : Cond.fieldLink RX12 7 "TwentyPushesModel" "length" "[I" ∈ jtb := jt_in (jt_5 (List.mem_of_getElem? (i := 100) rfl)) rfl
theorem fl_X12_125 : Cond.fieldLink RX12 125 "TwentyPushesModel" "children" "I" ∈ jtb := jt_in (jt_5 (List.mem_of_getElem? (i := 101) rfl)) rfl
theorem fl_X12_13 : Cond.fieldLink RX12 13 "TwentyPushesModel" "weight" "[I" ∈ jtb := jt_in (jt_5 (List.mem_of_getElem? (i := 102) rfl)) rfl
theorem fl_X12_16 : Cond.fieldLink RX12 16 "TwentyPushesModel" "legs" "[I" ∈ jtb := jt_in (jt_5 (List.mem_of_getElem? (i := 103) rfl)) rfl
theorem fl_X12_19 : Cond.fieldLink RX12 19 "TwentyPushesModel" "cap" "[I" ∈ jtb := jt_in (jt_5 (List.mem_of_getElem? (i := 104) rfl)) rfl
theorem fl_X12_22 : Cond.fieldLink RX12 22 "TwentyPushesModel" "bent" "[I" ∈ jtb := jt_in (jt_5 (List.mem_of_getElem? (i := 105) rfl)) rfl
theorem fl_X12_25 : Cond.fieldLink RX12 25 "TwentyPushesModel" "friend" "[I" ∈ jtb := jt_in (jt_5 (List.mem_of_getElem? (i := 106) rfl)) rfl
theorem fl_X12_28 : Cond.fieldLink RX12 28 "TwentyPushesModel" "queue" "[I" ∈ jtb := jt_in (jt_5 (List.mem_of_getElem? (i := 107) rfl)) rfl
theorem fl_X12_31 : Cond.fieldLink RX12 31 "TwentyPushesModel" "pusher" "I" ∈ jtb := jt_in (jt_5 (List.mem_of_getElem? (i := 108) rfl)) rfl
theorem fl_X12_35 : Cond.fieldLink RX12 35 "TwentyPushesModel" "pushes" "I" ∈ jtb := jt_in (jt_5 (List.mem_of_getElem? (i := 109) rfl)) rfl
theorem fl_X12_142 : Cond.fieldLink RX12 142 "TwentyPushesModel" "seconds" "I" ∈ jtb := jt_in (jt_5 (List.mem_of_getElem? (i := 110) rfl)) rfl
theorem fl_X12_145 : Cond.fieldLink RX12 145 "TwentyPushesModel" "tired" "I" ∈ jtb := jt_in (jt_5 (List.mem_of_getElem? (i := 111) rfl)) rfl
theorem fl_X12_155 : Cond.fieldLink RX12 155 "TwentyPushesModel" "doneMany" "I" ∈ jtb := jt_in (jt_5 (List.mem_of_getElem? (i := 112) rfl)) rfl
theorem fl_X12_152 : Cond.fieldLink RX12 152 "TwentyPushesModel" "undoneMany" "I" ∈ jtb := jt_in (jt_5 (List.mem_of_getElem? (i := 113) rfl)) rfl
theorem fl_X12_38 : Cond.fieldLink RX12 38 "TwentyPushesModel" "changeOf" "[I" ∈ jtb := jt_in (jt_5 (List.mem_of_getElem? (i := 114) rfl)) rfl
theorem fl_X12_41 : Cond.fieldLink RX12 41 "TwentyPushesModel" "changeAt" "[I" ∈ jtb := jt_in (jt_5 (List.mem_of_getElem? (i := 115) rfl)) rfl
theorem fl_X12_44 : Cond.fieldLink RX12 44 "TwentyPushesModel" "before" "[I" ∈ jtb := jt_in (jt_5 (List.mem_of_getElem? (i := 116) rfl)) rfl
theorem fl_X12_47 : Cond.fieldLink RX12 47 "TwentyPushesModel" "behind" "[I" ∈ jtb := jt_in (jt_5 (List.mem_of_getElem? (i := 117) rfl)) rfl
theorem fl_X12_50 : Cond.fieldLink RX12 50 "TwentyPushesModel" "tape" "[B" ∈ jtb := jt_in (jt_5 (List.mem_of_getElem? (i := 118) rfl)) rfl
theorem fl_X12_178 : Cond.fieldLink RX12 178 "TwentyPushesModel" "taped" "I" ∈ jtb := jt_in (jt_5 (List.mem_of_getElem? (i := 119) rfl)) rfl
theorem fl_X12_181 : Cond.fieldLink RX12 181 "TwentyPushesModel" "here" "I" ∈ jtb := jt_in (jt_5 (List.mem_of_getElem? (i := 120) rfl)) rfl
theorem fl_X12_184 : Cond.fieldLink RX12 184 "TwentyPushesModel" "fault" "I" ∈ jtb := jt_in (jt_5 (List.mem_of_getElem? (i := 121) rfl)) rfl
theorem fl_X12_190 : Cond.fieldLink RX12 190 "TwentyPushesModel" "open" "I" ∈ jtb := jt_in (jt_5 (List.mem_of_getElem? (i := 122) rfl)) rfl
theorem fl_X12_187 : Cond.fieldLink RX12 187 "TwentyPushesModel" "laid" "I" ∈ jtb := jt_in (jt_5 (List.mem_of_getElem? (i := 123) rfl)) rfl
theorem fl_X12_54 : Cond.fieldLink RX12 54 "TwentyPushesModel" "act" "[B" ∈ jtb := jt_in (jt_5 (List.mem_of_getElem? (i := 124) rfl)) rfl
theorem fl_X12_57 : Cond.fieldLink RX12 57 "TwentyPushesModel" "with" "[I" ∈ jtb := jt_in (jt_5 (List.mem_of_getElem? (i := 125) rfl)) rfl
theorem fl_X12_60 : Cond.fieldLink RX12 60 "TwentyPushesModel" "lineMany" "[I" ∈ jtb := jt_in (jt_5 (List.mem_of_getElem? (i := 126) rfl)) rfl
theorem fl_X12_63 : Cond.fieldLink RX12 63 "TwentyPushesModel" "testEnd" "[S" ∈ jtb := jt_in (jt_5 (List.mem_of_getElem? (i := 127) rfl)) rfl
theorem fl_X12_67 : Cond.fieldLink RX12 67 "TwentyPushesModel" "lineEnd" "[S" ∈ jtb := jt_in (jt_5 (List.mem_of_getElem? (i := 128) rfl)) rfl
theorem fl_X12_70 : Cond.fieldLink RX12 70 "TwentyPushesModel" "facts" "[I" ∈ jtb := jt_in (jt_5 (List.mem_of_getElem? (i := 129) rfl)) rfl
theorem fl_X12_73 : Cond.fieldLink RX12 73 "TwentyPushesModel" "pile" "[I" ∈ jtb := jt_in (jt_5 (List.mem_of_getElem? (i := 130) rfl)) rfl
theorem fl_X12_244 : Cond.fieldLink RX12 244 "TwentyPushesModel" "hasLaw" "Z" ∈ jtb := jt_in (jt_5 (List.mem_of_getElem? (i := 131) rfl)) rfl
theorem fl_X12_248 : Cond.fieldLink RX12 248 "TwentyPushesModel" "height" "I" ∈ jtb := jt_in (jt_5 (List.mem_of_getElem? (i := 132) rfl)) rfl
theorem fl_X12_254 : Cond.fieldLink RX12 254 "TwentyPushesModel" "rounds" "I" ∈ jtb := jt_in (jt_5 (List.mem_of_getElem? (i := 133) rfl)) rfl
theorem fl_X12_260 : Cond.fieldLink RX12 260 "TwentyPushesModel" "lasted" "I" ∈ jtb := jt_in (jt_5 (List.mem_of_getElem? (i := 134) rfl)) rfl
theorem fl_X12_251 : Cond.fieldLink RX12 251 "TwentyPushesModel" "highest" "I" ∈ jtb := jt_in (jt_5 (List.mem_of_getElem? (i := 135) rfl)) rfl
theorem fl_X12_76 : Cond.fieldLink RX12 76 "TwentyPushesModel" "often" "[I" ∈ jtb := jt_in (jt_5 (List.mem_of_getElem? (i := 136) rfl)) rfl
theorem fl_X12_79 : Cond.fieldLink RX12 79 "TwentyPushesModel" "waited" "[I" ∈ jtb := jt_in (jt_5 (List.mem_of_getElem? (i := 137) rfl)) rfl
theorem fl_X12_82 : Cond.fieldLink RX12 82 "TwentyPushesModel" "had" "[I" ∈ jtb := jt_in (jt_5 (List.mem_of_getElem? (i := 138) rfl)) rfl
theorem fl_X12_85 : Cond.fieldLink RX12 85 "TwentyPushesModel" "ends" "[I" ∈ jtb := jt_in (jt_5 (List.mem_of_getElem? (i := 139) rfl)) rfl
theorem fl_X12_88 : Cond.fieldLink RX12 88 "TwentyPushesModel" "line" "[I" ∈ jtb := jt_in (jt_5 (List.mem_of_getElem? (i := 140) rfl)) rfl
theorem fl_X12_292 : Cond.fieldLink RX12 292 "TwentyPushesModel" "lined" "I" ∈ jtb := jt_in (jt_5 (List.mem_of_getElem? (i := 141) rfl)) rfl
theorem fl_X12_91 : Cond.fieldLink RX12 91 "TwentyPushesModel" "members" "[I" ∈ jtb := jt_in (jt_5 (List.mem_of_getElem? (i := 142) rfl)) rfl
theorem fl_X12_94 : Cond.fieldLink RX12 94 "TwentyPushesModel" "bestOrder" "[I" ∈ jtb := jt_in (jt_5 (List.mem_of_getElem? (i := 143) rfl)) rfl
theorem fl_X12_323 : Cond.fieldLink RX12 323 "TwentyPushesModel" "leastWaits" "I" ∈ jtb := jt_in (jt_5 (List.mem_of_getElem? (i := 144) rfl)) rfl
theorem fl_X12_97 : Cond.fieldLink RX12 97 "TwentyPushesModel" "deed" "[I" ∈ jtb := jt_in (jt_5 (List.mem_of_getElem? (i := 145) rfl)) rfl
theorem fl_X12_100 : Cond.fieldLink RX12 100 "TwentyPushesModel" "kept" "[I" ∈ jtb := jt_in (jt_5 (List.mem_of_getElem? (i := 146) rfl)) rfl
theorem fl_X12_343 : Cond.fieldLink RX12 343 "TwentyPushesModel" "hasImage" "Z" ∈ jtb := jt_in (jt_5 (List.mem_of_getElem? (i := 147) rfl)) rfl
theorem fl_X12_346 : Cond.fieldLink RX12 346 "TwentyPushesModel" "bodies" "I" ∈ jtb := jt_in (jt_5 (List.mem_of_getElem? (i := 148) rfl)) rfl
theorem fl_X12_103 : Cond.fieldLink RX12 103 "TwentyPushesModel" "kind" "[I" ∈ jtb := jt_in (jt_5 (List.mem_of_getElem? (i := 149) rfl)) rfl
theorem fl_X12_349 : Cond.fieldLink RX12 349 "TwentyPushesModel" "traces" "I" ∈ jtb := jt_in (jt_5 (List.mem_of_getElem? (i := 150) rfl)) rfl
theorem fl_X12_106 : Cond.fieldLink RX12 106 "TwentyPushesModel" "traced" "[I" ∈ jtb := jt_in (jt_5 (List.mem_of_getElem? (i := 151) rfl)) rfl
theorem fl_X12_109 : Cond.fieldLink RX12 109 "TwentyPushesModel" "holds" "[I" ∈ jtb := jt_in (jt_5 (List.mem_of_getElem? (i := 152) rfl)) rfl
theorem fl_X12_112 : Cond.fieldLink RX12 112 "TwentyPushesModel" "size" "[I" ∈ jtb := jt_in (jt_5 (List.mem_of_getElem? (i := 153) rfl)) rfl
theorem fl_X12_115 : Cond.fieldLink RX12 115 "TwentyPushesModel" "elements" "[J" ∈ jtb := jt_in (jt_5 (List.mem_of_getElem? (i := 154) rfl)) rfl
theorem fl_X12_119 : Cond.fieldLink RX12 119 "TwentyPushesModel" "shifted" "[J" ∈ jtb := jt_in (jt_5 (List.mem_of_getElem? (i := 155) rfl)) rfl
theorem ac_short : Cond.arrayClass .short ∈ jtb := jt_in (jt_6 (List.mem_of_getElem? (i := 31) rfl)) rfl
theorem ml_L_17 : Cond.methodLink RL 17 yX12_child ∈ jtb := jt_in (jt_6 (List.mem_of_getElem? (i := 32) rfl)) rfl
theorem im_X12_child : Cond.instanceMethod yX12_child ∈ jtb := jt_in (jt_6 (List.mem_of_getElem? (i := 33) rfl)) rfl
theorem se_X12_child : Cond.selects RX12 yX12_child yX12_child ∈ jtb := jt_in (jt_6 (List.mem_of_getElem? (i := 34) rfl)) rfl
theorem cd_X12_child : Cond.code yX12_child cX12_child 3 (some (.int)) ∈ jtb := jt_in (jt_6 (List.mem_of_getElem? (i := 35) rfl)) rfl
theorem ml_X12_128 : Cond.methodLink RX12 128 yX12_in ∈ jtb := jt_in (jt_6 (List.mem_of_getElem? (i := 36) rfl)) rfl
theorem st_X12_in : Cond.static yX12_in ∈ jtb := jt_in (jt_6 (List.mem_of_getElem? (i := 37) rfl)) rfl
theorem cd_X12_in : Cond.code yX12_in cX12_in 3 (some (.boolean)) ∈ jtb := jt_in (jt_6 (List.mem_of_getElem? (i := 38) rfl)) rfl
theorem ml_X12_132 : Cond.methodLink RX12 132 yX12_addChild ∈ jtb := jt_in (jt_6 (List.mem_of_getElem? (i := 39) rfl)) rfl
theorem pm_X12_addChild : Cond.privateMethod yX12_addChild ∈ lw_tbl := jt_6 (List.mem_of_getElem? (i := 40) rfl)
theorem im_X12_addChild : Cond.instanceMethod yX12_addChild ∈ jtb := jt_in (jt_6 (List.mem_of_getElem? (i := 41) rfl)) rfl
theorem cd_X12_addChild : Cond.code yX12_addChild cX12_addChild 4 (some (.int)) ∈ jtb := jt_in (jt_6 (List.mem_of_getElem? (i := 42) rfl)) rfl
theorem ml_L_22 : Cond.methodLink RL 22 yX12_children ∈ jtb := jt_in (jt_6 (List.mem_of_getElem? (i := 43) rfl)) rfl
theorem im_X12_children : Cond.instanceMethod yX12_children ∈ jtb := jt_in (jt_6 (List.mem_of_getElem? (i := 44) rfl)) rfl
theorem se_X12_children : Cond.selects RX12 yX12_children yX12_children ∈ jtb := jt_in (jt_6 (List.mem_of_getElem? (i := 45) rfl)) rfl
theorem cd_X12_children : Cond.code yX12_children cX12_children 8 (some (.int)) ∈ jtb := jt_in (jt_6 (List.mem_of_getElem? (i := 46) rfl)) rfl
theorem ml_X12_136 : Cond.methodLink RX12 136 yX12_isShelf ∈ jtb := jt_in (jt_6 (List.mem_of_getElem? (i := 47) rfl)) rfl
theorem st_X12_isShelf : Cond.static yX12_isShelf ∈ jtb := jt_in (jt_6 (List.mem_of_getElem? (i := 48) rfl)) rfl
theorem cd_X12_isShelf : Cond.code yX12_isShelf cX12_isShelf 1 (some (.boolean)) ∈ jtb := jt_in (jt_6 (List.mem_of_getElem? (i := 49) rfl)) rfl
theorem ct_X12_140 : Cond.constantLong RX12 140 (2) ∈ jtb := jt_in (jt_6 (List.mem_of_getElem? (i := 50) rfl)) rfl
theorem ml_L_129 : Cond.methodLink RL 129 yX12_undo ∈ jtb := jt_in (jt_6 (List.mem_of_getElem? (i := 51) rfl)) rfl
theorem im_X12_undo : Cond.instanceMethod yX12_undo ∈ jtb := jt_in (jt_6 (List.mem_of_getElem? (i := 52) rfl)) rfl
theorem se_X12_undo : Cond.selects RX12 yX12_undo yX12_undo ∈ jtb := jt_in (jt_6 (List.mem_of_getElem? (i := 53) rfl)) rfl
theorem cd_X12_undo : Cond.code yX12_undo cX12_undo 1 (some (.int)) ∈ jtb := jt_in (jt_6 (List.mem_of_getElem? (i := 54) rfl)) rfl
theorem ml_X12_158 : Cond.methodLink RX12 158 yX12_lays ∈ jtb := jt_in (jt_6 (List.mem_of_getElem? (i := 55) rfl)) rfl
theorem pm_X12_lays : Cond.privateMethod yX12_lays ∈ lw_tbl := jt_6 (List.mem_of_getElem? (i := 56) rfl)
theorem im_X12_lays : Cond.instanceMethod yX12_lays ∈ jtb := jt_in (jt_6 (List.mem_of_getElem? (i := 57) rfl)) rfl
theorem cd_X12_lays : Cond.code yX12_lays cX12_lays 4 none ∈ jtb := jt_in (jt_6 (List.mem_of_getElem? (i := 58) rfl)) rfl
theorem ml_L_133 : Cond.methodLink RL 133 yX12_redo ∈ jtb := jt_in (jt_6 (List.mem_of_getElem? (i := 59) rfl)) rfl
theorem im_X12_redo : Cond.instanceMethod yX12_redo ∈ jtb := jt_in (jt_6 (List.mem_of_getElem? (i := 60) rfl)) rfl
theorem se_X12_redo : Cond.selects RX12 yX12_redo yX12_redo ∈ jtb := jt_in (jt_6 (List.mem_of_getElem? (i := 61) rfl)) rfl
theorem cd_X12_redo : Cond.code yX12_redo cX12_redo 1 (some (.int)) ∈ jtb := jt_in (jt_6 (List.mem_of_getElem? (i := 62) rfl)) rfl
theorem ml_L_26 : Cond.methodLink RL 26 yX12_mend ∈ jtb := jt_in (jt_6 (List.mem_of_getElem? (i := 63) rfl)) rfl
theorem im_X12_mend : Cond.instanceMethod yX12_mend ∈ jtb := jt_in (jt_6 (List.mem_of_getElem? (i := 64) rfl)) rfl
theorem se_X12_mend : Cond.selects RX12 yX12_mend yX12_mend ∈ jtb := jt_in (jt_6 (List.mem_of_getElem? (i := 65) rfl)) rfl
theorem cd_X12_mend : Cond.code yX12_mend cX12_mend 4 (some (.int)) ∈ jtb := jt_in (jt_6 (List.mem_of_getElem? (i := 66) rfl)) rfl
theorem ml_X12_168 : Cond.methodLink RX12 168 yX12_isOne ∈ jtb := jt_in (jt_6 (List.mem_of_getElem? (i := 67) rfl)) rfl
theorem pm_X12_isOne : Cond.privateMethod yX12_isOne ∈ lw_tbl := jt_6 (List.mem_of_getElem? (i := 68) rfl)
theorem im_X12_isOne : Cond.instanceMethod yX12_isOne ∈ jtb := jt_in (jt_6 (List.mem_of_getElem? (i := 69) rfl)) rfl
theorem cd_X12_isOne : Cond.code yX12_isOne cX12_isOne 3 (some (.boolean)) ∈ jtb := jt_in (jt_6 (List.mem_of_getElem? (i := 70) rfl)) rfl
theorem ml_X12_162 : Cond.methodLink RX12 162 yX12_isChild ∈ jtb := jt_in (jt_6 (List.mem_of_getElem? (i := 71) rfl)) rfl
theorem pm_X12_isChild : Cond.privateMethod yX12_isChild ∈ lw_tbl := jt_6 (List.mem_of_getElem? (i := 72) rfl)
theorem im_X12_isChild : Cond.instanceMethod yX12_isChild ∈ jtb := jt_in (jt_6 (List.mem_of_getElem? (i := 73) rfl)) rfl
theorem cd_X12_isChild : Cond.code yX12_isChild cX12_isChild 2 (some (.boolean)) ∈ jtb := jt_in (jt_6 (List.mem_of_getElem? (i := 74) rfl)) rfl
theorem ml_X12_165 : Cond.methodLink RX12 165 yX12_isSwing ∈ jtb := jt_in (jt_6 (List.mem_of_getElem? (i := 75) rfl)) rfl
theorem st_X12_isSwing : Cond.static yX12_isSwing ∈ jtb := jt_in (jt_6 (List.mem_of_getElem? (i := 76) rfl)) rfl
theorem cd_X12_isSwing : Cond.code yX12_isSwing cX12_isSwing 1 (some (.boolean)) ∈ jtb := jt_in (jt_6 (List.mem_of_getElem? (i := 77) rfl)) rfl
theorem ml_X12_172 : Cond.methodLink RX12 172 yX12_mayBe ∈ jtb := jt_in (jt_6 (List.mem_of_getElem? (i := 78) rfl)) rfl
theorem pm_X12_mayBe : Cond.privateMethod yX12_mayBe ∈ lw_tbl := jt_6 (List.mem_of_getElem? (i := 79) rfl)
theorem im_X12_mayBe : Cond.instanceMethod yX12_mayBe ∈ jtb := jt_in (jt_6 (List.mem_of_getElem? (i := 80) rfl)) rfl
theorem cd_X12_mayBe : Cond.code yX12_mayBe cX12_mayBe 4 (some (.boolean)) ∈ jtb := jt_in (jt_6 (List.mem_of_getElem? (i := 81) rfl)) rfl
theorem ml_X12_175 : Cond.methodLink RX12 175 yX12_changes ∈ jtb := jt_in (jt_6 (List.mem_of_getElem? (i := 82) rfl)) rfl
theorem pm_X12_changes : Cond.privateMethod yX12_changes ∈ lw_tbl := jt_6 (List.mem_of_getElem? (i := 83) rfl)
theorem im_X12_changes : Cond.instanceMethod yX12_changes ∈ jtb := jt_in (jt_6 (List.mem_of_getElem? (i := 84) rfl)) rfl
theorem cd_X12_changes : Cond.code yX12_changes cX12_changes 6 (some (.int)) ∈ jtb := jt_in (jt_6 (List.mem_of_getElem? (i := 85) rfl)) rfl
theorem ml_X12_148 : Cond.methodLink RX12 148 yX12_valueAt ∈ jtb := jt_in (jt_6 (List.mem_of_getElem? (i := 86) rfl)) rfl
theorem pm_X12_valueAt : Cond.privateMethod yX12_valueAt ∈ lw_tbl := jt_6 (List.mem_of_getElem? (i := 87) rfl)
theorem im_X12_valueAt : Cond.instanceMethod yX12_valueAt ∈ jtb := jt_in (jt_6 (List.mem_of_getElem? (i := 88) rfl)) rfl
theorem cd_X12_valueAt : Cond.code yX12_valueAt cX12_valueAt 3 (some (.int)) ∈ jtb := jt_in (jt_6 (List.mem_of_getElem? (i := 89) rfl)) rfl
theorem ml_L_30 : Cond.methodLink RL 30 yX12_of ∈ jtb := jt_in (jt_6 (List.mem_of_getElem? (i := 90) rfl)) rfl
theorem im_X12_of : Cond.instanceMethod yX12_of ∈ jtb := jt_in (jt_6 (List.mem_of_getElem? (i := 91) rfl)) rfl
theorem se_X12_of : Cond.selects RX12 yX12_of yX12_of ∈ jtb := jt_in (jt_6 (List.mem_of_getElem? (i := 92) rfl)) rfl
theorem cd_X12_of : Cond.code yX12_of cX12_of 3 (some (.int)) ∈ jtb := jt_in (jt_6 (List.mem_of_getElem? (i := 93) rfl)) rfl
theorem ml_L_35 : Cond.methodLink RL 35 yX12_feed ∈ jtb := jt_in (jt_6 (List.mem_of_getElem? (i := 94) rfl)) rfl
theorem im_X12_feed : Cond.instanceMethod yX12_feed ∈ jtb := jt_in (jt_6 (List.mem_of_getElem? (i := 95) rfl)) rfl
theorem se_X12_feed : Cond.selects RX12 yX12_feed yX12_feed ∈ jtb := jt_in (jt_6 (List.mem_of_getElem? (i := 96) rfl)) rfl
theorem cd_X12_feed : Cond.code yX12_feed cX12_feed 2 (some (.int)) ∈ jtb := jt_in (jt_6 (List.mem_of_getElem? (i := 97) rfl)) rfl
theorem ml_L_40 : Cond.methodLink RL 40 yX12_law ∈ jtb := jt_in (jt_6 (List.mem_of_getElem? (i := 98) rfl)) rfl
theorem im_X12_law : Cond.instanceMethod yX12_law ∈ jtb := jt_in (jt_6 (List.mem_of_getElem? (i := 99) rfl)) rfl
theorem se_X12_law : Cond.selects RX12 yX12_law yX12_law ∈ jtb := jt_in (jt_6 (List.mem_of_getElem? (i := 100) rfl)) rfl
theorem cd_X12_law : Cond.code yX12_law cX12_law 2 (some (.int)) ∈ jtb := jt_in (jt_6 (List.mem_of_getElem? (i := 101) rfl)) rfl
theorem ml_X12_241 : Cond.methodLink RX12 241 yX12_readText ∈ jtb := jt_in (jt_6 (List.mem_of_getElem? (i := 102) rfl)) rfl
theorem pm_X12_readText : Cond.privateMethod yX12_readText ∈ lw_tbl := jt_6 (List.mem_of_getElem? (i := 103) rfl)
theorem im_X12_readText : Cond.instanceMethod yX12_readText ∈ jtb := jt_in (jt_6 (List.mem_of_getElem? (i := 104) rfl)) rfl
theorem cd_X12_readText : Cond.code yX12_readText cX12_readText 3 (some (.int)) ∈ jtb := jt_in (jt_6 (List.mem_of_getElem? (i := 105) rfl)) rfl
theorem ml_X12_233 : Cond.methodLink RX12 233 yX12_line ∈ jtb := jt_in (jt_6 (List.mem_of_getElem? (i := 106) rfl)) rfl
theorem pm_X12_line : Cond.privateMethod yX12_line ∈ lw_tbl := jt_6 (List.mem_of_getElem? (i := 107) rfl)
theorem im_X12_line : Cond.instanceMethod yX12_line ∈ jtb := jt_in (jt_6 (List.mem_of_getElem? (i := 108) rfl)) rfl
theorem cd_X12_line : Cond.code yX12_line cX12_line 2 none ∈ jtb := jt_in (jt_6 (List.mem_of_getElem? (i := 109) rfl)) rfl
theorem ml_X12_215 : Cond.methodLink RX12 215 yX12_either ∈ jtb := jt_in (jt_6 (List.mem_of_getElem? (i := 110) rfl)) rfl
theorem pm_X12_either : Cond.privateMethod yX12_either ∈ lw_tbl := jt_6 (List.mem_of_getElem? (i := 111) rfl)
theorem im_X12_either : Cond.instanceMethod yX12_either ∈ jtb := jt_in (jt_6 (List.mem_of_getElem? (i := 112) rfl)) rfl
theorem cd_X12_either : Cond.code yX12_either cX12_either 1 none ∈ jtb := jt_in (jt_6 (List.mem_of_getElem? (i := 113) rfl)) rfl
theorem ml_X12_230 : Cond.methodLink RX12 230 yX12_both ∈ jtb := jt_in (jt_6 (List.mem_of_getElem? (i := 114) rfl)) rfl
theorem pm_X12_both : Cond.privateMethod yX12_both ∈ lw_tbl := jt_6 (List.mem_of_getElem? (i := 115) rfl)
theorem im_X12_both : Cond.instanceMethod yX12_both ∈ jtb := jt_in (jt_6 (List.mem_of_getElem? (i := 116) rfl)) rfl
theorem cd_X12_both : Cond.code yX12_both cX12_both 1 none ∈ jtb := jt_in (jt_6 (List.mem_of_getElem? (i := 117) rfl)) rfl
theorem ml_X12_227 : Cond.methodLink RX12 227 yX12_compared ∈ jtb := jt_in (jt_6 (List.mem_of_getElem? (i := 118) rfl)) rfl
theorem pm_X12_compared : Cond.privateMethod yX12_compared ∈ lw_tbl := jt_6 (List.mem_of_getElem? (i := 119) rfl)
theorem im_X12_compared : Cond.instanceMethod yX12_compared ∈ jtb := jt_in (jt_6 (List.mem_of_getElem? (i := 120) rfl)) rfl
theorem cd_X12_compared : Cond.code yX12_compared cX12_compared 2 none ∈ jtb := jt_in (jt_6 (List.mem_of_getElem? (i := 121) rfl)) rfl
theorem ml_X12_224 : Cond.methodLink RX12 224 yX12_sum ∈ jtb := jt_in (jt_6 (List.mem_of_getElem? (i := 122) rfl)) rfl
theorem pm_X12_sum : Cond.privateMethod yX12_sum ∈ lw_tbl := jt_6 (List.mem_of_getElem? (i := 123) rfl)
theorem im_X12_sum : Cond.instanceMethod yX12_sum ∈ jtb := jt_in (jt_6 (List.mem_of_getElem? (i := 124) rfl)) rfl
theorem cd_X12_sum : Cond.code yX12_sum cX12_sum 2 none ∈ jtb := jt_in (jt_6 (List.mem_of_getElem? (i := 125) rfl)) rfl
theorem ml_X12_221 : Cond.methodLink RX12 221 yX12_product ∈ jtb := jt_in (jt_6 (List.mem_of_getElem? (i := 126) rfl)) rfl
theorem pm_X12_product : Cond.privateMethod yX12_product ∈ lw_tbl := jt_6 (List.mem_of_getElem? (i := 127) rfl)
theorem im_X12_product : Cond.instanceMethod yX12_product ∈ jtb := jt_in (jt_6 (List.mem_of_getElem? (i := 128) rfl)) rfl
theorem cd_X12_product : Cond.code yX12_product cX12_product 2 none ∈ jtb := jt_in (jt_6 (List.mem_of_getElem? (i := 129) rfl)) rfl
theorem ml_X12_212 : Cond.methodLink RX12 212 yX12_operand ∈ jtb := jt_in (jt_6 (List.mem_of_getElem? (i := 130) rfl)) rfl
theorem pm_X12_operand : Cond.privateMethod yX12_operand ∈ lw_tbl := jt_6 (List.mem_of_getElem? (i := 131) rfl)
theorem im_X12_operand : Cond.instanceMethod yX12_operand ∈ jtb := jt_in (jt_6 (List.mem_of_getElem? (i := 132) rfl)) rfl
theorem cd_X12_operand : Cond.code yX12_operand cX12_operand 2 none ∈ jtb := jt_in (jt_6 (List.mem_of_getElem? (i := 133) rfl)) rfl
theorem ml_X12_196 : Cond.methodLink RX12 196 yX12_look ∈ jtb := jt_in (jt_6 (List.mem_of_getElem? (i := 134) rfl)) rfl
theorem pm_X12_look : Cond.privateMethod yX12_look ∈ lw_tbl := jt_6 (List.mem_of_getElem? (i := 135) rfl)
theorem im_X12_look : Cond.instanceMethod yX12_look ∈ jtb := jt_in (jt_6 (List.mem_of_getElem? (i := 136) rfl)) rfl
theorem cd_X12_look : Cond.code yX12_look cX12_look 1 (some (.int)) ∈ jtb := jt_in (jt_6 (List.mem_of_getElem? (i := 137) rfl)) rfl
theorem ml_X12_204 : Cond.methodLink RX12 204 yX12_nameOf ∈ jtb := jt_in (jt_6 (List.mem_of_getElem? (i := 138) rfl)) rfl
theorem st_X12_nameOf : Cond.static yX12_nameOf ∈ jtb := jt_in (jt_6 (List.mem_of_getElem? (i := 139) rfl)) rfl
theorem cd_X12_nameOf : Cond.code yX12_nameOf cX12_nameOf 1 (some (.int)) ∈ jtb := jt_in (jt_6 (List.mem_of_getElem? (i := 140) rfl)) rfl
theorem ml_X12_200 : Cond.methodLink RX12 200 yX12_addStep ∈ jtb := jt_in (jt_6 (List.mem_of_getElem? (i := 141) rfl)) rfl
theorem pm_X12_addStep : Cond.privateMethod yX12_addStep ∈ lw_tbl := jt_6 (List.mem_of_getElem? (i := 142) rfl)
theorem im_X12_addStep : Cond.instanceMethod yX12_addStep ∈ jtb := jt_in (jt_6 (List.mem_of_getElem? (i := 143) rfl)) rfl
theorem cd_X12_addStep : Cond.code yX12_addStep cX12_addStep 3 none ∈ jtb := jt_in (jt_6 (List.mem_of_getElem? (i := 144) rfl)) rfl
theorem ml_X12_208 : Cond.methodLink RX12 208 yX12_opens ∈ jtb := jt_in (jt_6 (List.mem_of_getElem? (i := 145) rfl)) rfl
theorem pm_X12_opens : Cond.privateMethod yX12_opens ∈ lw_tbl := jt_6 (List.mem_of_getElem? (i := 146) rfl)
theorem im_X12_opens : Cond.instanceMethod yX12_opens ∈ jtb := jt_in (jt_6 (List.mem_of_getElem? (i := 147) rfl)) rfl
theorem cd_X12_opens : Cond.code yX12_opens cX12_opens 1 (some (.boolean)) ∈ jtb := jt_in (jt_6 (List.mem_of_getElem? (i := 148) rfl)) rfl
theorem ml_X12_193 : Cond.methodLink RX12 193 yX12_faulty ∈ jtb := jt_in (jt_6 (List.mem_of_getElem? (i := 149) rfl)) rfl
theorem pm_X12_faulty : Cond.privateMethod yX12_faulty ∈ lw_tbl := jt_6 (List.mem_of_getElem? (i := 150) rfl)
theorem im_X12_faulty : Cond.instanceMethod yX12_faulty ∈ jtb := jt_in (jt_6 (List.mem_of_getElem? (i := 151) rfl)) rfl
theorem cd_X12_faulty : Cond.code yX12_faulty cX12_faulty 1 none ∈ jtb := jt_in (jt_6 (List.mem_of_getElem? (i := 152) rfl)) rfl
theorem ml_X12_218 : Cond.methodLink RX12 218 yX12_figure ∈ jtb := jt_in (jt_6 (List.mem_of_getElem? (i := 153) rfl)) rfl
theorem pm_X12_figure : Cond.privateMethod yX12_figure ∈ lw_tbl := jt_6 (List.mem_of_getElem? (i := 154) rfl)
theorem im_X12_figure : Cond.instanceMethod yX12_figure ∈ jtb := jt_in (jt_6 (List.mem_of_getElem? (i := 155) rfl)) rfl
theorem cd_X12_figure : Cond.code yX12_figure cX12_figure 3 none ∈ jtb := jt_in (jt_6 (List.mem_of_getElem? (i := 156) rfl)) rfl
theorem ml_L_44 : Cond.methodLink RL 44 yX12_turn ∈ jtb := jt_in (jt_6 (List.mem_of_getElem? (i := 157) rfl)) rfl
theorem im_X12_turn : Cond.instanceMethod yX12_turn ∈ jtb := jt_in (jt_6 (List.mem_of_getElem? (i := 158) rfl)) rfl
theorem se_X12_turn : Cond.selects RX12 yX12_turn yX12_turn ∈ jtb := jt_in (jt_6 (List.mem_of_getElem? (i := 159) rfl)) rfl
theorem cd_X12_turn : Cond.code yX12_turn cX12_turn 4 (some (.int)) ∈ jtb := jt_in (jt_6 (List.mem_of_getElem? (i := 160) rfl)) rfl
theorem ml_X12_282 : Cond.methodLink RX12 282 yX12_areThree ∈ jtb := jt_in (jt_6 (List.mem_of_getElem? (i := 161) rfl)) rfl
theorem pm_X12_areThree : Cond.privateMethod yX12_areThree ∈ lw_tbl := jt_6 (List.mem_of_getElem? (i := 162) rfl)
theorem im_X12_areThree : Cond.instanceMethod yX12_areThree ∈ jtb := jt_in (jt_6 (List.mem_of_getElem? (i := 163) rfl)) rfl
theorem cd_X12_areThree : Cond.code yX12_areThree cX12_areThree 2 (some (.boolean)) ∈ jtb := jt_in (jt_6 (List.mem_of_getElem? (i := 164) rfl)) rfl
theorem ml_X12_285 : Cond.methodLink RX12 285 yX12_areWaiting ∈ jtb := jt_in (jt_6 (List.mem_of_getElem? (i := 165) rfl)) rfl
theorem st_X12_areWaiting : Cond.static yX12_areWaiting ∈ jtb := jt_in (jt_6 (List.mem_of_getElem? (i := 166) rfl)) rfl
theorem cd_X12_areWaiting : Cond.code yX12_areWaiting cX12_areWaiting 1 (some (.boolean)) ∈ jtb := jt_in (jt_6 (List.mem_of_getElem? (i := 167) rfl)) rfl
theorem ml_X12_288 : Cond.methodLink RX12 288 yX12_turnOf ∈ jtb := jt_in (jt_6 (List.mem_of_getElem? (i := 168) rfl)) rfl
theorem pm_X12_turnOf : Cond.privateMethod yX12_turnOf ∈ lw_tbl := jt_6 (List.mem_of_getElem? (i := 169) rfl)
theorem im_X12_turnOf : Cond.instanceMethod yX12_turnOf ∈ jtb := jt_in (jt_6 (List.mem_of_getElem? (i := 170) rfl)) rfl
theorem cd_X12_turnOf : Cond.code yX12_turnOf cX12_turnOf 3 none ∈ jtb := jt_in (jt_6 (List.mem_of_getElem? (i := 171) rfl)) rfl
theorem ml_X12_278 : Cond.methodLink RX12 278 yX12_goTurn ∈ jtb := jt_in (jt_6 (List.mem_of_getElem? (i := 172) rfl)) rfl
theorem pm_X12_goTurn : Cond.privateMethod yX12_goTurn ∈ lw_tbl := jt_6 (List.mem_of_getElem? (i := 173) rfl)
theorem im_X12_goTurn : Cond.instanceMethod yX12_goTurn ∈ jtb := jt_in (jt_6 (List.mem_of_getElem? (i := 174) rfl)) rfl
theorem cd_X12_goTurn : Cond.code yX12_goTurn cX12_goTurn 6 none ∈ jtb := jt_in (jt_6 (List.mem_of_getElem? (i := 175) rfl)) rfl
theorem ml_X12_266 : Cond.methodLink RX12 266 yX12_beginTurn ∈ jtb := jt_in (jt_6 (List.mem_of_getElem? (i := 176) rfl)) rfl
theorem pm_X12_beginTurn : Cond.privateMethod yX12_beginTurn ∈ lw_tbl := jt_6 (List.mem_of_getElem? (i := 177) rfl)
theorem im_X12_beginTurn : Cond.instanceMethod yX12_beginTurn ∈ jtb := jt_in (jt_6 (List.mem_of_getElem? (i := 178) rfl)) rfl
theorem cd_X12_beginTurn : Cond.code yX12_beginTurn cX12_beginTurn 1 none ∈ jtb := jt_in (jt_6 (List.mem_of_getElem? (i := 179) rfl)) rfl
theorem ml_X12_269 : Cond.methodLink RX12 269 yX12_bentOf ∈ jtb := jt_in (jt_6 (List.mem_of_getElem? (i := 180) rfl)) rfl
theorem pm_X12_bentOf : Cond.privateMethod yX12_bentOf ∈ lw_tbl := jt_6 (List.mem_of_getElem? (i := 181) rfl)
theorem im_X12_bentOf : Cond.instanceMethod yX12_bentOf ∈ jtb := jt_in (jt_6 (List.mem_of_getElem? (i := 182) rfl)) rfl
theorem cd_X12_bentOf : Cond.code yX12_bentOf cX12_bentOf 3 (some (.int)) ∈ jtb := jt_in (jt_6 (List.mem_of_getElem? (i := 183) rfl)) rfl
theorem ml_X12_272 : Cond.methodLink RX12 272 yX12_goRound ∈ jtb := jt_in (jt_6 (List.mem_of_getElem? (i := 184) rfl)) rfl
theorem pm_X12_goRound : Cond.privateMethod yX12_goRound ∈ lw_tbl := jt_6 (List.mem_of_getElem? (i := 185) rfl)
theorem im_X12_goRound : Cond.instanceMethod yX12_goRound ∈ jtb := jt_in (jt_6 (List.mem_of_getElem? (i := 186) rfl)) rfl
theorem cd_X12_goRound : Cond.code yX12_goRound cX12_goRound 7 (some (.int)) ∈ jtb := jt_in (jt_6 (List.mem_of_getElem? (i := 187) rfl)) rfl
theorem ml_X12_257 : Cond.methodLink RX12 257 yX12_gives ∈ jtb := jt_in (jt_6 (List.mem_of_getElem? (i := 188) rfl)) rfl
theorem pm_X12_gives : Cond.privateMethod yX12_gives ∈ lw_tbl := jt_6 (List.mem_of_getElem? (i := 189) rfl)
theorem im_X12_gives : Cond.instanceMethod yX12_gives ∈ jtb := jt_in (jt_6 (List.mem_of_getElem? (i := 190) rfl)) rfl
theorem cd_X12_gives : Cond.code yX12_gives cX12_gives 4 (some (.int)) ∈ jtb := jt_in (jt_6 (List.mem_of_getElem? (i := 191) rfl)) rfl
theorem ml_X12_238 : Cond.methodLink RX12 238 yX12_worked ∈ jtb := jt_in (jt_6 (List.mem_of_getElem? (i := 192) rfl)) rfl
theorem pm_X12_worked : Cond.privateMethod yX12_worked ∈ lw_tbl := jt_6 (List.mem_of_getElem? (i := 193) rfl)
theorem im_X12_worked : Cond.instanceMethod yX12_worked ∈ jtb := jt_in (jt_6 (List.mem_of_getElem? (i := 194) rfl)) rfl
theorem cd_X12_worked : Cond.code yX12_worked cX12_worked 7 (some (.int)) ∈ jtb := jt_in (jt_6 (List.mem_of_getElem? (i := 195) rfl)) rfl
theorem ml_X12_235 : Cond.methodLink RX12 235 yX12_twoOf ∈ jtb := jt_in (jt_6 (List.mem_of_getElem? (i := 196) rfl)) rfl
theorem st_X12_twoOf : Cond.static yX12_twoOf ∈ jtb := jt_in (jt_6 (List.mem_of_getElem? (i := 197) rfl)) rfl
theorem cd_X12_twoOf : Cond.code yX12_twoOf cX12_twoOf 3 (some (.int)) ∈ jtb := jt_in (jt_6 (List.mem_of_getElem? (i := 198) rfl)) rfl
theorem ml_X12_275 : Cond.methodLink RX12 275 yX12_isOver ∈ jtb := jt_in (jt_6 (List.mem_of_getElem? (i := 199) rfl)) rfl
theorem pm_X12_isOver : Cond.privateMethod yX12_isOver ∈ lw_tbl := jt_6 (List.mem_of_getElem? (i := 200) rfl)
theorem im_X12_isOver : Cond.instanceMethod yX12_isOver ∈ jtb := jt_in (jt_6 (List.mem_of_getElem? (i := 201) rfl)) rfl
theorem cd_X12_isOver : Cond.code yX12_isOver cX12_isOver 2 (some (.boolean)) ∈ jtb := jt_in (jt_6 (List.mem_of_getElem? (i := 202) rfl)) rfl
theorem ml_X12_263 : Cond.methodLink RX12 263 yX12_countedBy ∈ jtb := jt_in (jt_6 (List.mem_of_getElem? (i := 203) rfl)) rfl
theorem st_X12_countedBy : Cond.static yX12_countedBy ∈ jtb := jt_in (jt_6 (List.mem_of_getElem? (i := 204) rfl)) rfl
theorem cd_X12_countedBy : Cond.code yX12_countedBy cX12_countedBy 2 (some (.int)) ∈ jtb := jt_in (jt_6 (List.mem_of_getElem? (i := 205) rfl)) rfl
theorem ml_L_48 : Cond.methodLink RL 48 yX12_longest ∈ jtb := jt_in (jt_6 (List.mem_of_getElem? (i := 206) rfl)) rfl
theorem im_X12_longest : Cond.instanceMethod yX12_longest ∈ jtb := jt_in (jt_6 (List.mem_of_getElem? (i := 207) rfl)) rfl
theorem se_X12_longest : Cond.selects RX12 yX12_longest yX12_longest ∈ jtb := jt_in (jt_6 (List.mem_of_getElem? (i := 208) rfl)) rfl
theorem cd_X12_longest : Cond.code yX12_longest cX12_longest 8 (some (.int)) ∈ jtb := jt_in (jt_6 (List.mem_of_getElem? (i := 209) rfl)) rfl
theorem ml_L_52 : Cond.methodLink RL 52 yX12_counter ∈ jtb := jt_in (jt_6 (List.mem_of_getElem? (i := 210) rfl)) rfl
theorem im_X12_counter : Cond.instanceMethod yX12_counter ∈ jtb := jt_in (jt_6 (List.mem_of_getElem? (i := 211) rfl)) rfl
theorem se_X12_counter : Cond.selects RX12 yX12_counter yX12_counter ∈ jtb := jt_in (jt_6 (List.mem_of_getElem? (i := 212) rfl)) rfl
theorem cd_X12_counter : Cond.code yX12_counter cX12_counter 6 (some (.int)) ∈ jtb := jt_in (jt_6 (List.mem_of_getElem? (i := 213) rfl)) rfl
theorem ml_L_56 : Cond.methodLink RL 56 yX12_unfair ∈ jtb := jt_in (jt_6 (List.mem_of_getElem? (i := 214) rfl)) rfl
theorem im_X12_unfair : Cond.instanceMethod yX12_unfair ∈ jtb := jt_in (jt_6 (List.mem_of_getElem? (i := 215) rfl)) rfl
theorem se_X12_unfair : Cond.selects RX12 yX12_unfair yX12_unfair ∈ jtb := jt_in (jt_6 (List.mem_of_getElem? (i := 216) rfl)) rfl
theorem cd_X12_unfair : Cond.code yX12_unfair cX12_unfair 3 (some (.int)) ∈ jtb := jt_in (jt_6 (List.mem_of_getElem? (i := 217) rfl)) rfl
theorem ct_X12_291 : Cond.constant RX12 291 (-2000000000) ∈ jtb := jt_in (jt_6 (List.mem_of_getElem? (i := 218) rfl)) rfl
theorem ml_L_60 : Cond.methodLink RL 60 yX12_afternoon ∈ jtb := jt_in (jt_6 (List.mem_of_getElem? (i := 219) rfl)) rfl
theorem im_X12_afternoon : Cond.instanceMethod yX12_afternoon ∈ jtb := jt_in (jt_6 (List.mem_of_getElem? (i := 220) rfl)) rfl
theorem se_X12_afternoon : Cond.selects RX12 yX12_afternoon yX12_afternoon ∈ jtb := jt_in (jt_6 (List.mem_of_getElem? (i := 221) rfl)) rfl
theorem cd_X12_afternoon : Cond.code yX12_afternoon cX12_afternoon 4 (some (.int)) ∈ jtb := jt_in (jt_6 (List.mem_of_getElem? (i := 222) rfl)) rfl
theorem ml_X12_311 : Cond.methodLink RX12 311 yX12_isBell ∈ jtb := jt_in (jt_6 (List.mem_of_getElem? (i := 223) rfl)) rfl
theorem st_X12_isBell : Cond.static yX12_isBell ∈ jtb := jt_in (jt_6 (List.mem_of_getElem? (i := 224) rfl)) rfl
theorem cd_X12_isBell : Cond.code yX12_isBell cX12_isBell 1 (some (.boolean)) ∈ jtb := jt_in (jt_6 (List.mem_of_getElem? (i := 225) rfl)) rfl
theorem ml_X12_314 : Cond.methodLink RX12 314 yX12_goAfternoon ∈ jtb := jt_in (jt_6 (List.mem_of_getElem? (i := 226) rfl)) rfl
theorem pm_X12_goAfternoon : Cond.privateMethod yX12_goAfternoon ∈ lw_tbl := jt_6 (List.mem_of_getElem? (i := 227) rfl)
theorem im_X12_goAfternoon : Cond.instanceMethod yX12_goAfternoon ∈ jtb := jt_in (jt_6 (List.mem_of_getElem? (i := 228) rfl)) rfl
theorem cd_X12_goAfternoon : Cond.code yX12_goAfternoon cX12_goAfternoon 3 none ∈ jtb := jt_in (jt_6 (List.mem_of_getElem? (i := 229) rfl)) rfl
theorem ml_X12_302 : Cond.methodLink RX12 302 yX12_beginAfternoon ∈ jtb := jt_in (jt_6 (List.mem_of_getElem? (i := 230) rfl)) rfl
theorem pm_X12_beginAfternoon : Cond.privateMethod yX12_beginAfternoon ∈ lw_tbl := jt_6 (List.mem_of_getElem? (i := 231) rfl)
theorem im_X12_beginAfternoon : Cond.instanceMethod yX12_beginAfternoon ∈ jtb := jt_in (jt_6 (List.mem_of_getElem? (i := 232) rfl)) rfl
theorem cd_X12_beginAfternoon : Cond.code yX12_beginAfternoon cX12_beginAfternoon 2 none ∈ jtb := jt_in (jt_6 (List.mem_of_getElem? (i := 233) rfl)) rfl
theorem ml_X12_305 : Cond.methodLink RX12 305 yX12_layLine ∈ jtb := jt_in (jt_6 (List.mem_of_getElem? (i := 234) rfl)) rfl
theorem pm_X12_layLine : Cond.privateMethod yX12_layLine ∈ lw_tbl := jt_6 (List.mem_of_getElem? (i := 235) rfl)
theorem im_X12_layLine : Cond.instanceMethod yX12_layLine ∈ jtb := jt_in (jt_6 (List.mem_of_getElem? (i := 236) rfl)) rfl
theorem cd_X12_layLine : Cond.code yX12_layLine cX12_layLine 3 none ∈ jtb := jt_in (jt_6 (List.mem_of_getElem? (i := 237) rfl)) rfl
theorem ml_X12_308 : Cond.methodLink RX12 308 yX12_goSwing ∈ jtb := jt_in (jt_6 (List.mem_of_getElem? (i := 238) rfl)) rfl
theorem pm_X12_goSwing : Cond.privateMethod yX12_goSwing ∈ lw_tbl := jt_6 (List.mem_of_getElem? (i := 239) rfl)
theorem im_X12_goSwing : Cond.instanceMethod yX12_goSwing ∈ jtb := jt_in (jt_7 (List.mem_of_getElem? (i := 0) rfl)) rfl
theorem cd_X12_goSwing : Cond.code yX12_goSwing cX12_goSwing 4 none ∈ jtb := jt_in (jt_7 (List.mem_of_getElem? (i := 1) rfl)) rfl
theorem ml_X12_299 : Cond.methodLink RX12 299 yX12_goHead ∈ jtb := jt_in (jt_7 (List.mem_of_getElem? (i := 2) rfl)) rfl
theorem pm_X12_goHead : Cond.privateMethod yX12_goHead ∈ lw_tbl := jt_7 (List.mem_of_getElem? (i := 3) rfl)
theorem im_X12_goHead : Cond.instanceMethod yX12_goHead ∈ jtb := jt_in (jt_7 (List.mem_of_getElem? (i := 4) rfl)) rfl
theorem cd_X12_goHead : Cond.code yX12_goHead cX12_goHead 4 (some (.boolean)) ∈ jtb := jt_in (jt_7 (List.mem_of_getElem? (i := 5) rfl)) rfl
theorem ml_X12_295 : Cond.methodLink RX12 295 yX12_toEnd ∈ jtb := jt_in (jt_7 (List.mem_of_getElem? (i := 6) rfl)) rfl
theorem pm_X12_toEnd : Cond.privateMethod yX12_toEnd ∈ lw_tbl := jt_7 (List.mem_of_getElem? (i := 7) rfl)
theorem im_X12_toEnd : Cond.instanceMethod yX12_toEnd ∈ jtb := jt_in (jt_7 (List.mem_of_getElem? (i := 8) rfl)) rfl
theorem cd_X12_toEnd : Cond.code yX12_toEnd cX12_toEnd 4 none ∈ jtb := jt_in (jt_7 (List.mem_of_getElem? (i := 9) rfl)) rfl
theorem ml_L_64 : Cond.methodLink RL 64 yX12_been ∈ jtb := jt_in (jt_7 (List.mem_of_getElem? (i := 10) rfl)) rfl
theorem im_X12_been : Cond.instanceMethod yX12_been ∈ jtb := jt_in (jt_7 (List.mem_of_getElem? (i := 11) rfl)) rfl
theorem se_X12_been : Cond.selects RX12 yX12_been yX12_been ∈ jtb := jt_in (jt_7 (List.mem_of_getElem? (i := 12) rfl)) rfl
theorem cd_X12_been : Cond.code yX12_been cX12_been 5 (some (.int)) ∈ jtb := jt_in (jt_7 (List.mem_of_getElem? (i := 13) rfl)) rfl
theorem ml_L_68 : Cond.methodLink RL 68 yX12_join ∈ jtb := jt_in (jt_7 (List.mem_of_getElem? (i := 14) rfl)) rfl
theorem im_X12_join : Cond.instanceMethod yX12_join ∈ jtb := jt_in (jt_7 (List.mem_of_getElem? (i := 15) rfl)) rfl
theorem se_X12_join : Cond.selects RX12 yX12_join yX12_join ∈ jtb := jt_in (jt_7 (List.mem_of_getElem? (i := 16) rfl)) rfl
theorem cd_X12_join : Cond.code yX12_join cX12_join 8 (some (.int)) ∈ jtb := jt_in (jt_7 (List.mem_of_getElem? (i := 17) rfl)) rfl
theorem ml_L_72 : Cond.methodLink RL 72 yX12_each ∈ jtb := jt_in (jt_7 (List.mem_of_getElem? (i := 18) rfl)) rfl
theorem im_X12_each : Cond.instanceMethod yX12_each ∈ jtb := jt_in (jt_7 (List.mem_of_getElem? (i := 19) rfl)) rfl
theorem se_X12_each : Cond.selects RX12 yX12_each yX12_each ∈ jtb := jt_in (jt_7 (List.mem_of_getElem? (i := 20) rfl)) rfl
theorem cd_X12_each : Cond.code yX12_each cX12_each 4 (some (.int)) ∈ jtb := jt_in (jt_7 (List.mem_of_getElem? (i := 21) rfl)) rfl
theorem ml_X12_317 : Cond.methodLink RX12 317 yX12_haveAll ∈ jtb := jt_in (jt_7 (List.mem_of_getElem? (i := 22) rfl)) rfl
theorem pm_X12_haveAll : Cond.privateMethod yX12_haveAll ∈ lw_tbl := jt_7 (List.mem_of_getElem? (i := 23) rfl)
theorem im_X12_haveAll : Cond.instanceMethod yX12_haveAll ∈ jtb := jt_in (jt_7 (List.mem_of_getElem? (i := 24) rfl)) rfl
theorem cd_X12_haveAll : Cond.code yX12_haveAll cX12_haveAll 3 (some (.boolean)) ∈ jtb := jt_in (jt_7 (List.mem_of_getElem? (i := 25) rfl)) rfl
theorem ml_L_76 : Cond.methodLink RL 76 yX12_order ∈ jtb := jt_in (jt_7 (List.mem_of_getElem? (i := 26) rfl)) rfl
theorem im_X12_order : Cond.instanceMethod yX12_order ∈ jtb := jt_in (jt_7 (List.mem_of_getElem? (i := 27) rfl)) rfl
theorem se_X12_order : Cond.selects RX12 yX12_order yX12_order ∈ jtb := jt_in (jt_7 (List.mem_of_getElem? (i := 28) rfl)) rfl
theorem cd_X12_order : Cond.code yX12_order cX12_order 4 (some (.int)) ∈ jtb := jt_in (jt_7 (List.mem_of_getElem? (i := 29) rfl)) rfl
theorem ml_X12_326 : Cond.methodLink RX12 326 yX12_goOrders ∈ jtb := jt_in (jt_7 (List.mem_of_getElem? (i := 30) rfl)) rfl
theorem pm_X12_goOrders : Cond.privateMethod yX12_goOrders ∈ lw_tbl := jt_7 (List.mem_of_getElem? (i := 31) rfl)
theorem im_X12_goOrders : Cond.instanceMethod yX12_goOrders ∈ jtb := jt_in (jt_7 (List.mem_of_getElem? (i := 32) rfl)) rfl
theorem cd_X12_goOrders : Cond.code yX12_goOrders cX12_goOrders 6 none ∈ jtb := jt_in (jt_7 (List.mem_of_getElem? (i := 33) rfl)) rfl
theorem ml_X12_320 : Cond.methodLink RX12 320 yX12_waitsOf ∈ jtb := jt_in (jt_7 (List.mem_of_getElem? (i := 34) rfl)) rfl
theorem pm_X12_waitsOf : Cond.privateMethod yX12_waitsOf ∈ lw_tbl := jt_7 (List.mem_of_getElem? (i := 35) rfl)
theorem im_X12_waitsOf : Cond.instanceMethod yX12_waitsOf ∈ jtb := jt_in (jt_7 (List.mem_of_getElem? (i := 36) rfl)) rfl
theorem cd_X12_waitsOf : Cond.code yX12_waitsOf cX12_waitsOf 5 (some (.int)) ∈ jtb := jt_in (jt_7 (List.mem_of_getElem? (i := 37) rfl)) rfl
theorem ml_L_80 : Cond.methodLink RL 80 yX12_held ∈ jtb := jt_in (jt_7 (List.mem_of_getElem? (i := 38) rfl)) rfl
theorem im_X12_held : Cond.instanceMethod yX12_held ∈ jtb := jt_in (jt_7 (List.mem_of_getElem? (i := 39) rfl)) rfl
theorem se_X12_held : Cond.selects RX12 yX12_held yX12_held ∈ jtb := jt_in (jt_7 (List.mem_of_getElem? (i := 40) rfl)) rfl
theorem cd_X12_held : Cond.code yX12_held cX12_held 13 (some (.int)) ∈ jtb := jt_in (jt_7 (List.mem_of_getElem? (i := 41) rfl)) rfl
theorem ml_X12_329 : Cond.methodLink RX12 329 yX12_thereFrom ∈ jtb := jt_in (jt_7 (List.mem_of_getElem? (i := 42) rfl)) rfl
theorem pm_X12_thereFrom : Cond.privateMethod yX12_thereFrom ∈ lw_tbl := jt_7 (List.mem_of_getElem? (i := 43) rfl)
theorem im_X12_thereFrom : Cond.instanceMethod yX12_thereFrom ∈ jtb := jt_in (jt_7 (List.mem_of_getElem? (i := 44) rfl)) rfl
theorem cd_X12_thereFrom : Cond.code yX12_thereFrom cX12_thereFrom 4 (some (.int)) ∈ jtb := jt_in (jt_7 (List.mem_of_getElem? (i := 45) rfl)) rfl
theorem ml_L_84 : Cond.methodLink RL 84 yX12_trade ∈ jtb := jt_in (jt_7 (List.mem_of_getElem? (i := 46) rfl)) rfl
theorem im_X12_trade : Cond.instanceMethod yX12_trade ∈ jtb := jt_in (jt_7 (List.mem_of_getElem? (i := 47) rfl)) rfl
theorem se_X12_trade : Cond.selects RX12 yX12_trade yX12_trade ∈ jtb := jt_in (jt_7 (List.mem_of_getElem? (i := 48) rfl)) rfl
theorem cd_X12_trade : Cond.code yX12_trade cX12_trade 8 (some (.int)) ∈ jtb := jt_in (jt_7 (List.mem_of_getElem? (i := 49) rfl)) rfl
theorem ml_L_89 : Cond.methodLink RL 89 yX12_drawn ∈ jtb := jt_in (jt_7 (List.mem_of_getElem? (i := 50) rfl)) rfl
theorem im_X12_drawn : Cond.instanceMethod yX12_drawn ∈ jtb := jt_in (jt_7 (List.mem_of_getElem? (i := 51) rfl)) rfl
theorem se_X12_drawn : Cond.selects RX12 yX12_drawn yX12_drawn ∈ jtb := jt_in (jt_7 (List.mem_of_getElem? (i := 52) rfl)) rfl
theorem cd_X12_drawn : Cond.code yX12_drawn cX12_drawn 11 (some (.int)) ∈ jtb := jt_in (jt_7 (List.mem_of_getElem? (i := 53) rfl)) rfl
theorem ct_X12_332 : Cond.constant RX12 332 (1103515245) ∈ jtb := jt_in (jt_7 (List.mem_of_getElem? (i := 54) rfl)) rfl
theorem ml_L_93 : Cond.methodLink RL 93 yX12_judge ∈ jtb := jt_in (jt_7 (List.mem_of_getElem? (i := 55) rfl)) rfl
theorem im_X12_judge : Cond.instanceMethod yX12_judge ∈ jtb := jt_in (jt_7 (List.mem_of_getElem? (i := 56) rfl)) rfl
theorem se_X12_judge : Cond.selects RX12 yX12_judge yX12_judge ∈ jtb := jt_in (jt_7 (List.mem_of_getElem? (i := 57) rfl)) rfl
theorem cd_X12_judge : Cond.code yX12_judge cX12_judge 4 (some (.int)) ∈ jtb := jt_in (jt_7 (List.mem_of_getElem? (i := 58) rfl)) rfl
theorem ml_X12_333 : Cond.methodLink RX12 333 yX12_rowFault ∈ jtb := jt_in (jt_7 (List.mem_of_getElem? (i := 59) rfl)) rfl
theorem pm_X12_rowFault : Cond.privateMethod yX12_rowFault ∈ lw_tbl := jt_7 (List.mem_of_getElem? (i := 60) rfl)
theorem im_X12_rowFault : Cond.instanceMethod yX12_rowFault ∈ jtb := jt_in (jt_7 (List.mem_of_getElem? (i := 61) rfl)) rfl
theorem cd_X12_rowFault : Cond.code yX12_rowFault cX12_rowFault 2 (some (.int)) ∈ jtb := jt_in (jt_7 (List.mem_of_getElem? (i := 62) rfl)) rfl
theorem ml_X12_336 : Cond.methodLink RX12 336 yX12_wrongIn ∈ jtb := jt_in (jt_7 (List.mem_of_getElem? (i := 63) rfl)) rfl
theorem pm_X12_wrongIn : Cond.privateMethod yX12_wrongIn ∈ lw_tbl := jt_7 (List.mem_of_getElem? (i := 64) rfl)
theorem im_X12_wrongIn : Cond.instanceMethod yX12_wrongIn ∈ jtb := jt_in (jt_7 (List.mem_of_getElem? (i := 65) rfl)) rfl
theorem cd_X12_wrongIn : Cond.code yX12_wrongIn cX12_wrongIn 9 (some (.int)) ∈ jtb := jt_in (jt_7 (List.mem_of_getElem? (i := 66) rfl)) rfl
theorem ml_L_97 : Cond.methodLink RL 97 yX12_who ∈ jtb := jt_in (jt_7 (List.mem_of_getElem? (i := 67) rfl)) rfl
theorem im_X12_who : Cond.instanceMethod yX12_who ∈ jtb := jt_in (jt_7 (List.mem_of_getElem? (i := 68) rfl)) rfl
theorem se_X12_who : Cond.selects RX12 yX12_who yX12_who ∈ jtb := jt_in (jt_7 (List.mem_of_getElem? (i := 69) rfl)) rfl
theorem cd_X12_who : Cond.code yX12_who cX12_who 6 (some (.int)) ∈ jtb := jt_in (jt_7 (List.mem_of_getElem? (i := 70) rfl)) rfl
theorem ml_L_101 : Cond.methodLink RL 101 yX12_sure ∈ jtb := jt_in (jt_7 (List.mem_of_getElem? (i := 71) rfl)) rfl
theorem im_X12_sure : Cond.instanceMethod yX12_sure ∈ jtb := jt_in (jt_7 (List.mem_of_getElem? (i := 72) rfl)) rfl
theorem se_X12_sure : Cond.selects RX12 yX12_sure yX12_sure ∈ jtb := jt_in (jt_7 (List.mem_of_getElem? (i := 73) rfl)) rfl
theorem cd_X12_sure : Cond.code yX12_sure cX12_sure 7 (some (.int)) ∈ jtb := jt_in (jt_7 (List.mem_of_getElem? (i := 74) rfl)) rfl
theorem ml_L_105 : Cond.methodLink RL 105 yX12_on ∈ jtb := jt_in (jt_7 (List.mem_of_getElem? (i := 75) rfl)) rfl
theorem im_X12_on : Cond.instanceMethod yX12_on ∈ jtb := jt_in (jt_7 (List.mem_of_getElem? (i := 76) rfl)) rfl
theorem se_X12_on : Cond.selects RX12 yX12_on yX12_on ∈ jtb := jt_in (jt_7 (List.mem_of_getElem? (i := 77) rfl)) rfl
theorem cd_X12_on : Cond.code yX12_on cX12_on 2 (some (.int)) ∈ jtb := jt_in (jt_7 (List.mem_of_getElem? (i := 78) rfl)) rfl
theorem ml_L_109 : Cond.methodLink RL 109 yX12_push ∈ jtb := jt_in (jt_7 (List.mem_of_getElem? (i := 79) rfl)) rfl
theorem im_X12_push : Cond.instanceMethod yX12_push ∈ jtb := jt_in (jt_7 (List.mem_of_getElem? (i := 80) rfl)) rfl
theorem se_X12_push : Cond.selects RX12 yX12_push yX12_push ∈ jtb := jt_in (jt_7 (List.mem_of_getElem? (i := 81) rfl)) rfl
theorem cd_X12_push : Cond.code yX12_push cX12_push 4 (some (.int)) ∈ jtb := jt_in (jt_7 (List.mem_of_getElem? (i := 82) rfl)) rfl
theorem ml_X12_340 : Cond.methodLink RX12 340 yX12_waitingFor ∈ jtb := jt_in (jt_7 (List.mem_of_getElem? (i := 83) rfl)) rfl
theorem pm_X12_waitingFor : Cond.privateMethod yX12_waitingFor ∈ lw_tbl := jt_7 (List.mem_of_getElem? (i := 84) rfl)
theorem im_X12_waitingFor : Cond.instanceMethod yX12_waitingFor ∈ jtb := jt_in (jt_7 (List.mem_of_getElem? (i := 85) rfl)) rfl
theorem cd_X12_waitingFor : Cond.code yX12_waitingFor cX12_waitingFor 5 (some (.int)) ∈ jtb := jt_in (jt_7 (List.mem_of_getElem? (i := 86) rfl)) rfl
theorem ml_L_113 : Cond.methodLink RL 113 yX12_off ∈ jtb := jt_in (jt_7 (List.mem_of_getElem? (i := 87) rfl)) rfl
theorem im_X12_off : Cond.instanceMethod yX12_off ∈ jtb := jt_in (jt_7 (List.mem_of_getElem? (i := 88) rfl)) rfl
theorem se_X12_off : Cond.selects RX12 yX12_off yX12_off ∈ jtb := jt_in (jt_7 (List.mem_of_getElem? (i := 89) rfl)) rfl
theorem cd_X12_off : Cond.code yX12_off cX12_off 1 (some (.int)) ∈ jtb := jt_in (jt_7 (List.mem_of_getElem? (i := 90) rfl)) rfl
theorem ml_L_117 : Cond.methodLink RL 117 yX12_led ∈ jtb := jt_in (jt_7 (List.mem_of_getElem? (i := 91) rfl)) rfl
theorem im_X12_led : Cond.instanceMethod yX12_led ∈ jtb := jt_in (jt_7 (List.mem_of_getElem? (i := 92) rfl)) rfl
theorem se_X12_led : Cond.selects RX12 yX12_led yX12_led ∈ jtb := jt_in (jt_7 (List.mem_of_getElem? (i := 93) rfl)) rfl
theorem cd_X12_led : Cond.code yX12_led cX12_led 2 (some (.int)) ∈ jtb := jt_in (jt_7 (List.mem_of_getElem? (i := 94) rfl)) rfl
theorem ml_L_121 : Cond.methodLink RL 121 yX12_image ∈ jtb := jt_in (jt_7 (List.mem_of_getElem? (i := 95) rfl)) rfl
theorem im_X12_image : Cond.instanceMethod yX12_image ∈ jtb := jt_in (jt_7 (List.mem_of_getElem? (i := 96) rfl)) rfl
theorem se_X12_image : Cond.selects RX12 yX12_image yX12_image ∈ jtb := jt_in (jt_7 (List.mem_of_getElem? (i := 97) rfl)) rfl
theorem cd_X12_image : Cond.code yX12_image cX12_image 2 (some (.int)) ∈ jtb := jt_in (jt_7 (List.mem_of_getElem? (i := 98) rfl)) rfl
theorem ml_L_125 : Cond.methodLink RL 125 yX12_back ∈ jtb := jt_in (jt_7 (List.mem_of_getElem? (i := 99) rfl)) rfl
theorem im_X12_back : Cond.instanceMethod yX12_back ∈ jtb := jt_in (jt_7 (List.mem_of_getElem? (i := 100) rfl)) rfl
theorem se_X12_back : Cond.selects RX12 yX12_back yX12_back ∈ jtb := jt_in (jt_7 (List.mem_of_getElem? (i := 101) rfl)) rfl
theorem cd_X12_back : Cond.code yX12_back cX12_back 2 (some (.int)) ∈ jtb := jt_in (jt_7 (List.mem_of_getElem? (i := 102) rfl)) rfl
theorem ml_L_145 : Cond.methodLink RL 145 yX12_trace ∈ jtb := jt_in (jt_7 (List.mem_of_getElem? (i := 103) rfl)) rfl
theorem im_X12_trace : Cond.instanceMethod yX12_trace ∈ jtb := jt_in (jt_7 (List.mem_of_getElem? (i := 104) rfl)) rfl
theorem se_X12_trace : Cond.selects RX12 yX12_trace yX12_trace ∈ jtb := jt_in (jt_7 (List.mem_of_getElem? (i := 105) rfl)) rfl
theorem cd_X12_trace : Cond.code yX12_trace cX12_trace 2 (some (.int)) ∈ jtb := jt_in (jt_7 (List.mem_of_getElem? (i := 106) rfl)) rfl
theorem ml_L_137 : Cond.methodLink RL 137 yX12_body ∈ jtb := jt_in (jt_7 (List.mem_of_getElem? (i := 107) rfl)) rfl
theorem im_X12_body : Cond.instanceMethod yX12_body ∈ jtb := jt_in (jt_7 (List.mem_of_getElem? (i := 108) rfl)) rfl
theorem se_X12_body : Cond.selects RX12 yX12_body yX12_body ∈ jtb := jt_in (jt_7 (List.mem_of_getElem? (i := 109) rfl)) rfl
theorem cd_X12_body : Cond.code yX12_body cX12_body 2 (some (.int)) ∈ jtb := jt_in (jt_7 (List.mem_of_getElem? (i := 110) rfl)) rfl
theorem ml_L_141 : Cond.methodLink RL 141 yX12_act ∈ jtb := jt_in (jt_7 (List.mem_of_getElem? (i := 111) rfl)) rfl
theorem im_X12_act : Cond.instanceMethod yX12_act ∈ jtb := jt_in (jt_7 (List.mem_of_getElem? (i := 112) rfl)) rfl
theorem se_X12_act : Cond.selects RX12 yX12_act yX12_act ∈ jtb := jt_in (jt_7 (List.mem_of_getElem? (i := 113) rfl)) rfl
theorem cd_X12_act : Cond.code yX12_act cX12_act 4 (some (.int)) ∈ jtb := jt_in (jt_7 (List.mem_of_getElem? (i := 114) rfl)) rfl
theorem ml_X12_388 : Cond.methodLink RX12 388 yX12_isBody ∈ jtb := jt_in (jt_7 (List.mem_of_getElem? (i := 115) rfl)) rfl
theorem pm_X12_isBody : Cond.privateMethod yX12_isBody ∈ lw_tbl := jt_7 (List.mem_of_getElem? (i := 116) rfl)
theorem im_X12_isBody : Cond.instanceMethod yX12_isBody ∈ jtb := jt_in (jt_7 (List.mem_of_getElem? (i := 117) rfl)) rfl
theorem cd_X12_isBody : Cond.code yX12_isBody cX12_isBody 2 (some (.boolean)) ∈ jtb := jt_in (jt_7 (List.mem_of_getElem? (i := 118) rfl)) rfl
theorem ml_X12_364 : Cond.methodLink RX12 364 yX12_swinging ∈ jtb := jt_in (jt_7 (List.mem_of_getElem? (i := 119) rfl)) rfl
theorem pm_X12_swinging : Cond.privateMethod yX12_swinging ∈ lw_tbl := jt_7 (List.mem_of_getElem? (i := 120) rfl)
theorem im_X12_swinging : Cond.instanceMethod yX12_swinging ∈ jtb := jt_in (jt_7 (List.mem_of_getElem? (i := 121) rfl)) rfl
theorem cd_X12_swinging : Cond.code yX12_swinging cX12_swinging 3 (some (.int)) ∈ jtb := jt_in (jt_7 (List.mem_of_getElem? (i := 122) rfl)) rfl
theorem ml_X12_358 : Cond.methodLink RX12 358 yX12_isUnder ∈ jtb := jt_in (jt_7 (List.mem_of_getElem? (i := 123) rfl)) rfl
theorem st_X12_isUnder : Cond.static yX12_isUnder ∈ jtb := jt_in (jt_7 (List.mem_of_getElem? (i := 124) rfl)) rfl
theorem cd_X12_isUnder : Cond.code yX12_isUnder cX12_isUnder 2 (some (.boolean)) ∈ jtb := jt_in (jt_7 (List.mem_of_getElem? (i := 125) rfl)) rfl
theorem ml_X12_352 : Cond.methodLink RX12 352 yX12_ran ∈ jtb := jt_in (jt_7 (List.mem_of_getElem? (i := 126) rfl)) rfl
theorem pm_X12_ran : Cond.privateMethod yX12_ran ∈ lw_tbl := jt_7 (List.mem_of_getElem? (i := 127) rfl)
theorem im_X12_ran : Cond.instanceMethod yX12_ran ∈ jtb := jt_in (jt_7 (List.mem_of_getElem? (i := 128) rfl)) rfl
theorem cd_X12_ran : Cond.code yX12_ran cX12_ran 2 none ∈ jtb := jt_in (jt_7 (List.mem_of_getElem? (i := 129) rfl)) rfl
theorem ml_X12_355 : Cond.methodLink RX12 355 yX12_plainSwings ∈ jtb := jt_in (jt_7 (List.mem_of_getElem? (i := 130) rfl)) rfl
theorem pm_X12_plainSwings : Cond.privateMethod yX12_plainSwings ∈ lw_tbl := jt_7 (List.mem_of_getElem? (i := 131) rfl)
theorem im_X12_plainSwings : Cond.instanceMethod yX12_plainSwings ∈ jtb := jt_in (jt_7 (List.mem_of_getElem? (i := 132) rfl)) rfl
theorem cd_X12_plainSwings : Cond.code yX12_plainSwings cX12_plainSwings 3 (some (.int)) ∈ jtb := jt_in (jt_7 (List.mem_of_getElem? (i := 133) rfl)) rfl
theorem ml_X12_361 : Cond.methodLink RX12 361 yX12_shortSwings ∈ jtb := jt_in (jt_7 (List.mem_of_getElem? (i := 134) rfl)) rfl
theorem pm_X12_shortSwings : Cond.privateMethod yX12_shortSwings ∈ lw_tbl := jt_7 (List.mem_of_getElem? (i := 135) rfl)
theorem im_X12_shortSwings : Cond.instanceMethod yX12_shortSwings ∈ jtb := jt_in (jt_7 (List.mem_of_getElem? (i := 136) rfl)) rfl
theorem cd_X12_shortSwings : Cond.code yX12_shortSwings cX12_shortSwings 3 (some (.int)) ∈ jtb := jt_in (jt_7 (List.mem_of_getElem? (i := 137) rfl)) rfl
theorem ml_X12_382 : Cond.methodLink RX12 382 yX12_counting ∈ jtb := jt_in (jt_7 (List.mem_of_getElem? (i := 138) rfl)) rfl
theorem pm_X12_counting : Cond.privateMethod yX12_counting ∈ lw_tbl := jt_7 (List.mem_of_getElem? (i := 139) rfl)
theorem im_X12_counting : Cond.instanceMethod yX12_counting ∈ jtb := jt_in (jt_7 (List.mem_of_getElem? (i := 140) rfl)) rfl
theorem cd_X12_counting : Cond.code yX12_counting cX12_counting 4 (some (.int)) ∈ jtb := jt_in (jt_7 (List.mem_of_getElem? (i := 141) rfl)) rfl
theorem ml_X12_370 : Cond.methodLink RX12 370 yX12_longCounts ∈ jtb := jt_in (jt_7 (List.mem_of_getElem? (i := 142) rfl)) rfl
theorem pm_X12_longCounts : Cond.privateMethod yX12_longCounts ∈ lw_tbl := jt_7 (List.mem_of_getElem? (i := 143) rfl)
theorem im_X12_longCounts : Cond.instanceMethod yX12_longCounts ∈ jtb := jt_in (jt_7 (List.mem_of_getElem? (i := 144) rfl)) rfl
theorem cd_X12_longCounts : Cond.code yX12_longCounts cX12_longCounts 3 (some (.int)) ∈ jtb := jt_in (jt_7 (List.mem_of_getElem? (i := 145) rfl)) rfl
theorem ml_X12_367 : Cond.methodLink RX12 367 yX12_plainCounts ∈ jtb := jt_in (jt_7 (List.mem_of_getElem? (i := 146) rfl)) rfl
theorem pm_X12_plainCounts : Cond.privateMethod yX12_plainCounts ∈ lw_tbl := jt_7 (List.mem_of_getElem? (i := 147) rfl)
theorem im_X12_plainCounts : Cond.instanceMethod yX12_plainCounts ∈ jtb := jt_in (jt_7 (List.mem_of_getElem? (i := 148) rfl)) rfl
theorem cd_X12_plainCounts : Cond.code yX12_plainCounts cX12_plainCounts 3 (some (.int)) ∈ jtb := jt_in (jt_7 (List.mem_of_getElem? (i := 149) rfl)) rfl
theorem ml_X12_373 : Cond.methodLink RX12 373 yX12_waiting ∈ jtb := jt_in (jt_7 (List.mem_of_getElem? (i := 150) rfl)) rfl
theorem pm_X12_waiting : Cond.privateMethod yX12_waiting ∈ lw_tbl := jt_7 (List.mem_of_getElem? (i := 151) rfl)
theorem im_X12_waiting : Cond.instanceMethod yX12_waiting ∈ jtb := jt_in (jt_7 (List.mem_of_getElem? (i := 152) rfl)) rfl
theorem cd_X12_waiting : Cond.code yX12_waiting cX12_waiting 4 (some (.int)) ∈ jtb := jt_in (jt_7 (List.mem_of_getElem? (i := 153) rfl)) rfl
theorem ml_X12_379 : Cond.methodLink RX12 379 yX12_helpedWaits ∈ jtb := jt_in (jt_7 (List.mem_of_getElem? (i := 154) rfl)) rfl
theorem pm_X12_helpedWaits : Cond.privateMethod yX12_helpedWaits ∈ lw_tbl := jt_7 (List.mem_of_getElem? (i := 155) rfl)
theorem im_X12_helpedWaits : Cond.instanceMethod yX12_helpedWaits ∈ jtb := jt_in (jt_7 (List.mem_of_getElem? (i := 156) rfl)) rfl
theorem cd_X12_helpedWaits : Cond.code yX12_helpedWaits cX12_helpedWaits 3 (some (.int)) ∈ jtb := jt_in (jt_7 (List.mem_of_getElem? (i := 157) rfl)) rfl
theorem ml_X12_376 : Cond.methodLink RX12 376 yX12_plainWaits ∈ jtb := jt_in (jt_7 (List.mem_of_getElem? (i := 158) rfl)) rfl
theorem pm_X12_plainWaits : Cond.privateMethod yX12_plainWaits ∈ lw_tbl := jt_7 (List.mem_of_getElem? (i := 159) rfl)
theorem im_X12_plainWaits : Cond.instanceMethod yX12_plainWaits ∈ jtb := jt_in (jt_7 (List.mem_of_getElem? (i := 160) rfl)) rfl
theorem cd_X12_plainWaits : Cond.code yX12_plainWaits cX12_plainWaits 3 (some (.int)) ∈ jtb := jt_in (jt_7 (List.mem_of_getElem? (i := 161) rfl)) rfl
theorem ml_X12_391 : Cond.methodLink RX12 391 yX12_telling ∈ jtb := jt_in (jt_7 (List.mem_of_getElem? (i := 162) rfl)) rfl
theorem pm_X12_telling : Cond.privateMethod yX12_telling ∈ lw_tbl := jt_7 (List.mem_of_getElem? (i := 163) rfl)
theorem im_X12_telling : Cond.instanceMethod yX12_telling ∈ jtb := jt_in (jt_7 (List.mem_of_getElem? (i := 164) rfl)) rfl
theorem cd_X12_telling : Cond.code yX12_telling cX12_telling 3 (some (.int)) ∈ jtb := jt_in (jt_7 (List.mem_of_getElem? (i := 165) rfl)) rfl
theorem ml_X12_385 : Cond.methodLink RX12 385 yX12_plainTells ∈ jtb := jt_in (jt_7 (List.mem_of_getElem? (i := 166) rfl)) rfl
theorem pm_X12_plainTells : Cond.privateMethod yX12_plainTells ∈ lw_tbl := jt_7 (List.mem_of_getElem? (i := 167) rfl)
theorem im_X12_plainTells : Cond.instanceMethod yX12_plainTells ∈ jtb := jt_in (jt_7 (List.mem_of_getElem? (i := 168) rfl)) rfl
theorem cd_X12_plainTells : Cond.code yX12_plainTells cX12_plainTells 4 (some (.int)) ∈ jtb := jt_in (jt_7 (List.mem_of_getElem? (i := 169) rfl)) rfl
theorem ml_L_178 : Cond.methodLink RL 178 yX12_count ∈ jtb := jt_in (jt_7 (List.mem_of_getElem? (i := 170) rfl)) rfl
theorem im_X12_count : Cond.instanceMethod yX12_count ∈ jtb := jt_in (jt_7 (List.mem_of_getElem? (i := 171) rfl)) rfl
theorem se_X12_count : Cond.selects RX12 yX12_count yX12_count ∈ jtb := jt_in (jt_7 (List.mem_of_getElem? (i := 172) rfl)) rfl
theorem cd_X12_count : Cond.code yX12_count cX12_count 2 (some (.int)) ∈ jtb := jt_in (jt_7 (List.mem_of_getElem? (i := 173) rfl)) rfl
theorem ml_L_149 : Cond.methodLink RL 149 yX12_keep ∈ jtb := jt_in (jt_7 (List.mem_of_getElem? (i := 174) rfl)) rfl
theorem im_X12_keep : Cond.instanceMethod yX12_keep ∈ jtb := jt_in (jt_7 (List.mem_of_getElem? (i := 175) rfl)) rfl
theorem se_X12_keep : Cond.selects RX12 yX12_keep yX12_keep ∈ jtb := jt_in (jt_7 (List.mem_of_getElem? (i := 176) rfl)) rfl
theorem cd_X12_keep : Cond.code yX12_keep cX12_keep 3 (some (.int)) ∈ jtb := jt_in (jt_7 (List.mem_of_getElem? (i := 177) rfl)) rfl
theorem ml_L_153 : Cond.methodLink RL 153 yX12_row ∈ jtb := jt_in (jt_7 (List.mem_of_getElem? (i := 178) rfl)) rfl
theorem im_X12_row : Cond.instanceMethod yX12_row ∈ jtb := jt_in (jt_7 (List.mem_of_getElem? (i := 179) rfl)) rfl
theorem se_X12_row : Cond.selects RX12 yX12_row yX12_row ∈ jtb := jt_in (jt_7 (List.mem_of_getElem? (i := 180) rfl)) rfl
theorem cd_X12_row : Cond.code yX12_row cX12_row 5 (some (.int)) ∈ jtb := jt_in (jt_7 (List.mem_of_getElem? (i := 181) rfl)) rfl
theorem ml_L_160 : Cond.methodLink RL 160 yX12_put ∈ jtb := jt_in (jt_7 (List.mem_of_getElem? (i := 182) rfl)) rfl
theorem im_X12_put : Cond.instanceMethod yX12_put ∈ jtb := jt_in (jt_7 (List.mem_of_getElem? (i := 183) rfl)) rfl
theorem se_X12_put : Cond.selects RX12 yX12_put yX12_put ∈ jtb := jt_in (jt_7 (List.mem_of_getElem? (i := 184) rfl)) rfl
theorem cd_X12_put : Cond.code yX12_put cX12_put 7 (some (.int)) ∈ jtb := jt_in (jt_7 (List.mem_of_getElem? (i := 185) rfl)) rfl
theorem ml_X12_394 : Cond.methodLink RX12 394 yX12_whyNoPlace ∈ jtb := jt_in (jt_7 (List.mem_of_getElem? (i := 186) rfl)) rfl
theorem pm_X12_whyNoPlace : Cond.privateMethod yX12_whyNoPlace ∈ lw_tbl := jt_7 (List.mem_of_getElem? (i := 187) rfl)
theorem im_X12_whyNoPlace : Cond.instanceMethod yX12_whyNoPlace ∈ jtb := jt_in (jt_7 (List.mem_of_getElem? (i := 188) rfl)) rfl
theorem cd_X12_whyNoPlace : Cond.code yX12_whyNoPlace cX12_whyNoPlace 3 (some (.int)) ∈ jtb := jt_in (jt_7 (List.mem_of_getElem? (i := 189) rfl)) rfl
theorem ml_L_165 : Cond.methodLink RL 165 yX12_element ∈ jtb := jt_in (jt_7 (List.mem_of_getElem? (i := 190) rfl)) rfl
theorem im_X12_element : Cond.instanceMethod yX12_element ∈ jtb := jt_in (jt_7 (List.mem_of_getElem? (i := 191) rfl)) rfl
theorem se_X12_element : Cond.selects RX12 yX12_element yX12_element ∈ jtb := jt_in (jt_7 (List.mem_of_getElem? (i := 192) rfl)) rfl
theorem cd_X12_element : Cond.code yX12_element cX12_element 3 (some (.long)) ∈ jtb := jt_in (jt_7 (List.mem_of_getElem? (i := 193) rfl)) rfl
theorem ct_X12_399 : Cond.constantLong RX12 399 (-9223372036854775808) ∈ jtb := jt_in (jt_7 (List.mem_of_getElem? (i := 194) rfl)) rfl
theorem ml_L_170 : Cond.methodLink RL 170 yX12_shift ∈ jtb := jt_in (jt_7 (List.mem_of_getElem? (i := 195) rfl)) rfl
theorem im_X12_shift : Cond.instanceMethod yX12_shift ∈ jtb := jt_in (jt_7 (List.mem_of_getElem? (i := 196) rfl)) rfl
theorem se_X12_shift : Cond.selects RX12 yX12_shift yX12_shift ∈ jtb := jt_in (jt_7 (List.mem_of_getElem? (i := 197) rfl)) rfl
theorem cd_X12_shift : Cond.code yX12_shift cX12_shift 7 (some (.int)) ∈ jtb := jt_in (jt_7 (List.mem_of_getElem? (i := 198) rfl)) rfl
theorem ml_L_174 : Cond.methodLink RL 174 yX12_taken ∈ jtb := jt_in (jt_7 (List.mem_of_getElem? (i := 199) rfl)) rfl
theorem im_X12_taken : Cond.instanceMethod yX12_taken ∈ jtb := jt_in (jt_7 (List.mem_of_getElem? (i := 200) rfl)) rfl
theorem se_X12_taken : Cond.selects RX12 yX12_taken yX12_taken ∈ jtb := jt_in (jt_7 (List.mem_of_getElem? (i := 201) rfl)) rfl
theorem cd_X12_taken : Cond.code yX12_taken cX12_taken 3 (some (.int)) ∈ jtb := jt_in (jt_7 (List.mem_of_getElem? (i := 202) rfl)) rfl
theorem ct_L_154 : Cond.constantLong RL 154 (4294967295) ∈ jtb := jt_in (jt_7 (List.mem_of_getElem? (i := 203) rfl)) rfl
theorem fl_J0_15 : Cond.fieldLink RJ0 15 "java/lang/String" "coder" "B" ∈ jtb := jt_in (jt_7 (List.mem_of_getElem? (i := 204) rfl)) rfl
theorem fl_J0_9 : Cond.fieldLink RJ0 9 "java/lang/String" "value" "[B" ∈ jtb := jt_in (jt_7 (List.mem_of_getElem? (i := 205) rfl)) rfl
theorem se_X9_isRow : Cond.selects RX9 yX9_isRow yX9_isRow ∈ jtb := jt_in (jt_s1 (List.mem_of_getElem? (i := 0) (a := (yX9_isRow, 5)) rfl)) rfl
theorem se_X1_forgetOldest : Cond.selects RX1 yX1_forgetOldest yX1_forgetOldest ∈ jtb := jt_in (jt_s1 (List.mem_of_getElem? (i := 1) (a := (yX1_forgetOldest, 6)) rfl)) rfl
theorem se_X4_readLine : Cond.selects RX4 yX4_readLine yX4_readLine ∈ jtb := jt_in (jt_s1 (List.mem_of_getElem? (i := 2) (a := (yX4_readLine, 9)) rfl)) rfl
theorem se_X4_readLevel : Cond.selects RX4 yX4_readLevel yX4_readLevel ∈ jtb := jt_in (jt_s1 (List.mem_of_getElem? (i := 3) (a := (yX4_readLevel, 9)) rfl)) rfl
theorem se_X4_readOperand : Cond.selects RX4 yX4_readOperand yX4_readOperand ∈ jtb := jt_in (jt_s1 (List.mem_of_getElem? (i := 4) (a := (yX4_readOperand, 9)) rfl)) rfl
theorem se_X4_letter : Cond.selects RX4 yX4_letter yX4_letter ∈ jtb := jt_in (jt_s1 (List.mem_of_getElem? (i := 5) (a := (yX4_letter, 9)) rfl)) rfl
theorem se_X4_readNumber : Cond.selects RX4 yX4_readNumber yX4_readNumber ∈ jtb := jt_in (jt_s1 (List.mem_of_getElem? (i := 6) (a := (yX4_readNumber, 9)) rfl)) rfl
theorem se_X4_draw : Cond.selects RX4 yX4_draw yX4_draw ∈ jtb := jt_in (jt_s1 (List.mem_of_getElem? (i := 7) (a := (yX4_draw, 9)) rfl)) rfl
theorem se_X4_readBracket : Cond.selects RX4 yX4_readBracket yX4_readBracket ∈ jtb := jt_in (jt_s1 (List.mem_of_getElem? (i := 8) (a := (yX4_readBracket, 9)) rfl)) rfl
theorem se_X11_isTold : Cond.selects RX11 yX11_isTold yX11_isTold ∈ jtb := jt_in (jt_s1 (List.mem_of_getElem? (i := 9) (a := (yX11_isTold, 12)) rfl)) rfl
theorem se_X4_worth : Cond.selects RX4 yX4_worth yX4_worth ∈ jtb := jt_in (jt_s1 (List.mem_of_getElem? (i := 10) (a := (yX4_worth, 9)) rfl)) rfl
theorem se_X4_valueNamed : Cond.selects RX4 yX4_valueNamed yX4_valueNamed ∈ jtb := jt_in (jt_s1 (List.mem_of_getElem? (i := 11) (a := (yX4_valueNamed, 9)) rfl)) rfl
theorem se_X4_lay : Cond.selects RX4 yX4_lay yX4_lay ∈ jtb := jt_in (jt_s1 (List.mem_of_getElem? (i := 12) (a := (yX4_lay, 9)) rfl)) rfl
theorem se_X5_behind : Cond.selects RX5 yX5_behind yX5_behind ∈ jtb := jt_in (jt_s1 (List.mem_of_getElem? (i := 13) (a := (yX5_behind, 9)) rfl)) rfl
theorem se_X5_placeOf : Cond.selects RX5 yX5_placeOf yX5_placeOf ∈ jtb := jt_in (jt_s1 (List.mem_of_getElem? (i := 14) (a := (yX5_placeOf, 9)) rfl)) rfl
theorem se_X11_timesOnAll : Cond.selects RX11 yX11_timesOnAll yX11_timesOnAll ∈ jtb := jt_in (jt_s1 (List.mem_of_getElem? (i := 15) (a := (yX11_timesOnAll, 12)) rfl)) rfl
theorem se_X7_waitsTogether : Cond.selects RX7 yX7_waitsTogether yX7_waitsTogether ∈ jtb := jt_in (jt_s2 (List.mem_of_getElem? (i := 0) (a := (yX7_waitsTogether, 5)) rfl)) rfl
theorem se_X7_goOn : Cond.selects RX7 yX7_goOn yX7_goOn ∈ jtb := jt_in (jt_s2 (List.mem_of_getElem? (i := 1) (a := (yX7_goOn, 5)) rfl)) rfl
theorem se_X7_swap : Cond.selects RX7 yX7_swap yX7_swap ∈ jtb := jt_in (jt_s2 (List.mem_of_getElem? (i := 2) (a := (yX7_swap, 5)) rfl)) rfl
theorem se_X5_passingOver : Cond.selects RX5 yX5_passingOver yX5_passingOver ∈ jtb := jt_in (jt_s2 (List.mem_of_getElem? (i := 3) (a := (yX5_passingOver, 9)) rfl)) rfl
theorem se_X5_sendToEnd : Cond.selects RX5 yX5_sendToEnd yX5_sendToEnd ∈ jtb := jt_in (jt_s2 (List.mem_of_getElem? (i := 4) (a := (yX5_sendToEnd, 9)) rfl)) rfl
theorem se_X11_timesOfAll : Cond.selects RX11 yX11_timesOfAll yX11_timesOfAll ∈ jtb := jt_in (jt_s2 (List.mem_of_getElem? (i := 5) (a := (yX11_timesOfAll, 12)) rfl)) rfl
theorem se_X11_firstUnlike : Cond.selects RX11 yX11_firstUnlike yX11_firstUnlike ∈ jtb := jt_in (jt_s2 (List.mem_of_getElem? (i := 6) (a := (yX11_firstUnlike, 12)) rfl)) rfl
theorem se_X0_own : Cond.selects RX0 yX0_own yX0_own ∈ jtb := jt_in (jt_s2 (List.mem_of_getElem? (i := 7) (a := (yX0_own, 4)) rfl)) rfl
theorem se_X0_run : Cond.selects RX0 yX0_run yX0_run ∈ jtb := jt_in (jt_s2 (List.mem_of_getElem? (i := 8) (a := (yX0_run, 4)) rfl)) rfl
theorem se_X0_above : Cond.selects RX0 yX0_above yX0_above ∈ jtb := jt_in (jt_s2 (List.mem_of_getElem? (i := 9) (a := (yX0_above, 4)) rfl)) rfl
theorem se_X12_addChild : Cond.selects RX12 yX12_addChild yX12_addChild ∈ jtb := jt_in (jt_s2 (List.mem_of_getElem? (i := 10) (a := (yX12_addChild, 57)) rfl)) rfl
theorem se_X12_lays : Cond.selects RX12 yX12_lays yX12_lays ∈ jtb := jt_in (jt_s2 (List.mem_of_getElem? (i := 11) (a := (yX12_lays, 57)) rfl)) rfl
theorem se_X12_isOne : Cond.selects RX12 yX12_isOne yX12_isOne ∈ jtb := jt_in (jt_s2 (List.mem_of_getElem? (i := 12) (a := (yX12_isOne, 57)) rfl)) rfl
theorem se_X12_isChild : Cond.selects RX12 yX12_isChild yX12_isChild ∈ jtb := jt_in (jt_s2 (List.mem_of_getElem? (i := 13) (a := (yX12_isChild, 57)) rfl)) rfl
theorem se_X12_mayBe : Cond.selects RX12 yX12_mayBe yX12_mayBe ∈ jtb := jt_in (jt_s2 (List.mem_of_getElem? (i := 14) (a := (yX12_mayBe, 57)) rfl)) rfl
theorem se_X12_changes : Cond.selects RX12 yX12_changes yX12_changes ∈ jtb := jt_in (jt_s2 (List.mem_of_getElem? (i := 15) (a := (yX12_changes, 57)) rfl)) rfl
theorem se_X12_valueAt : Cond.selects RX12 yX12_valueAt yX12_valueAt ∈ jtb := jt_in (jt_s3 (List.mem_of_getElem? (i := 0) (a := (yX12_valueAt, 57)) rfl)) rfl
theorem se_X12_readText : Cond.selects RX12 yX12_readText yX12_readText ∈ jtb := jt_in (jt_s3 (List.mem_of_getElem? (i := 1) (a := (yX12_readText, 57)) rfl)) rfl
theorem se_X12_line : Cond.selects RX12 yX12_line yX12_line ∈ jtb := jt_in (jt_s3 (List.mem_of_getElem? (i := 2) (a := (yX12_line, 57)) rfl)) rfl
theorem se_X12_either : Cond.selects RX12 yX12_either yX12_either ∈ jtb := jt_in (jt_s3 (List.mem_of_getElem? (i := 3) (a := (yX12_either, 57)) rfl)) rfl
theorem se_X12_both : Cond.selects RX12 yX12_both yX12_both ∈ jtb := jt_in (jt_s3 (List.mem_of_getElem? (i := 4) (a := (yX12_both, 57)) rfl)) rfl
theorem se_X12_compared : Cond.selects RX12 yX12_compared yX12_compared ∈ jtb := jt_in (jt_s3 (List.mem_of_getElem? (i := 5) (a := (yX12_compared, 57)) rfl)) rfl
theorem se_X12_sum : Cond.selects RX12 yX12_sum yX12_sum ∈ jtb := jt_in (jt_s3 (List.mem_of_getElem? (i := 6) (a := (yX12_sum, 57)) rfl)) rfl
theorem se_X12_product : Cond.selects RX12 yX12_product yX12_product ∈ jtb := jt_in (jt_s3 (List.mem_of_getElem? (i := 7) (a := (yX12_product, 57)) rfl)) rfl
theorem se_X12_operand : Cond.selects RX12 yX12_operand yX12_operand ∈ jtb := jt_in (jt_s3 (List.mem_of_getElem? (i := 8) (a := (yX12_operand, 57)) rfl)) rfl
theorem se_X12_look : Cond.selects RX12 yX12_look yX12_look ∈ jtb := jt_in (jt_s3 (List.mem_of_getElem? (i := 9) (a := (yX12_look, 57)) rfl)) rfl
theorem se_X12_addStep : Cond.selects RX12 yX12_addStep yX12_addStep ∈ jtb := jt_in (jt_s3 (List.mem_of_getElem? (i := 10) (a := (yX12_addStep, 57)) rfl)) rfl
theorem se_X12_opens : Cond.selects RX12 yX12_opens yX12_opens ∈ jtb := jt_in (jt_s3 (List.mem_of_getElem? (i := 11) (a := (yX12_opens, 57)) rfl)) rfl
theorem se_X12_faulty : Cond.selects RX12 yX12_faulty yX12_faulty ∈ jtb := jt_in (jt_s3 (List.mem_of_getElem? (i := 12) (a := (yX12_faulty, 57)) rfl)) rfl
theorem se_X12_figure : Cond.selects RX12 yX12_figure yX12_figure ∈ jtb := jt_in (jt_s3 (List.mem_of_getElem? (i := 13) (a := (yX12_figure, 57)) rfl)) rfl
theorem se_X12_areThree : Cond.selects RX12 yX12_areThree yX12_areThree ∈ jtb := jt_in (jt_s3 (List.mem_of_getElem? (i := 14) (a := (yX12_areThree, 57)) rfl)) rfl
theorem se_X12_turnOf : Cond.selects RX12 yX12_turnOf yX12_turnOf ∈ jtb := jt_in (jt_s3 (List.mem_of_getElem? (i := 15) (a := (yX12_turnOf, 57)) rfl)) rfl
theorem se_X12_goTurn : Cond.selects RX12 yX12_goTurn yX12_goTurn ∈ jtb := jt_in (jt_s4 (List.mem_of_getElem? (i := 0) (a := (yX12_goTurn, 57)) rfl)) rfl
theorem se_X12_beginTurn : Cond.selects RX12 yX12_beginTurn yX12_beginTurn ∈ jtb := jt_in (jt_s4 (List.mem_of_getElem? (i := 1) (a := (yX12_beginTurn, 57)) rfl)) rfl
theorem se_X12_bentOf : Cond.selects RX12 yX12_bentOf yX12_bentOf ∈ jtb := jt_in (jt_s4 (List.mem_of_getElem? (i := 2) (a := (yX12_bentOf, 57)) rfl)) rfl
theorem se_X12_goRound : Cond.selects RX12 yX12_goRound yX12_goRound ∈ jtb := jt_in (jt_s4 (List.mem_of_getElem? (i := 3) (a := (yX12_goRound, 57)) rfl)) rfl
theorem se_X12_gives : Cond.selects RX12 yX12_gives yX12_gives ∈ jtb := jt_in (jt_s4 (List.mem_of_getElem? (i := 4) (a := (yX12_gives, 57)) rfl)) rfl
theorem se_X12_worked : Cond.selects RX12 yX12_worked yX12_worked ∈ jtb := jt_in (jt_s4 (List.mem_of_getElem? (i := 5) (a := (yX12_worked, 57)) rfl)) rfl
theorem se_X12_isOver : Cond.selects RX12 yX12_isOver yX12_isOver ∈ jtb := jt_in (jt_s4 (List.mem_of_getElem? (i := 6) (a := (yX12_isOver, 57)) rfl)) rfl
theorem se_X12_goAfternoon : Cond.selects RX12 yX12_goAfternoon yX12_goAfternoon ∈ jtb := jt_in (jt_s4 (List.mem_of_getElem? (i := 7) (a := (yX12_goAfternoon, 57)) rfl)) rfl
theorem se_X12_beginAfternoon : Cond.selects RX12 yX12_beginAfternoon yX12_beginAfternoon ∈ jtb := jt_in (jt_s4 (List.mem_of_getElem? (i := 8) (a := (yX12_beginAfternoon, 57)) rfl)) rfl
theorem se_X12_layLine : Cond.selects RX12 yX12_layLine yX12_layLine ∈ jtb := jt_in (jt_s4 (List.mem_of_getElem? (i := 9) (a := (yX12_layLine, 57)) rfl)) rfl
theorem se_X12_goSwing : Cond.selects RX12 yX12_goSwing yX12_goSwing ∈ jtb := jt_in (jt_s4 (List.mem_of_getElem? (i := 10) (a := (yX12_goSwing, 57)) rfl)) rfl
theorem se_X12_goHead : Cond.selects RX12 yX12_goHead yX12_goHead ∈ jtb := jt_in (jt_s4 (List.mem_of_getElem? (i := 11) (a := (yX12_goHead, 57)) rfl)) rfl
theorem se_X12_toEnd : Cond.selects RX12 yX12_toEnd yX12_toEnd ∈ jtb := jt_in (jt_s4 (List.mem_of_getElem? (i := 12) (a := (yX12_toEnd, 57)) rfl)) rfl
theorem se_X12_haveAll : Cond.selects RX12 yX12_haveAll yX12_haveAll ∈ jtb := jt_in (jt_s4 (List.mem_of_getElem? (i := 13) (a := (yX12_haveAll, 57)) rfl)) rfl
theorem se_X12_goOrders : Cond.selects RX12 yX12_goOrders yX12_goOrders ∈ jtb := jt_in (jt_s4 (List.mem_of_getElem? (i := 14) (a := (yX12_goOrders, 57)) rfl)) rfl
theorem se_X12_waitsOf : Cond.selects RX12 yX12_waitsOf yX12_waitsOf ∈ jtb := jt_in (jt_s4 (List.mem_of_getElem? (i := 15) (a := (yX12_waitsOf, 57)) rfl)) rfl
theorem se_X12_thereFrom : Cond.selects RX12 yX12_thereFrom yX12_thereFrom ∈ jtb := jt_in (jt_s5 (List.mem_of_getElem? (i := 0) (a := (yX12_thereFrom, 57)) rfl)) rfl
theorem se_X12_rowFault : Cond.selects RX12 yX12_rowFault yX12_rowFault ∈ jtb := jt_in (jt_s5 (List.mem_of_getElem? (i := 1) (a := (yX12_rowFault, 57)) rfl)) rfl
theorem se_X12_wrongIn : Cond.selects RX12 yX12_wrongIn yX12_wrongIn ∈ jtb := jt_in (jt_s5 (List.mem_of_getElem? (i := 2) (a := (yX12_wrongIn, 57)) rfl)) rfl
theorem se_X12_waitingFor : Cond.selects RX12 yX12_waitingFor yX12_waitingFor ∈ jtb := jt_in (jt_s5 (List.mem_of_getElem? (i := 3) (a := (yX12_waitingFor, 57)) rfl)) rfl
theorem se_X12_isBody : Cond.selects RX12 yX12_isBody yX12_isBody ∈ jtb := jt_in (jt_s5 (List.mem_of_getElem? (i := 4) (a := (yX12_isBody, 57)) rfl)) rfl
theorem se_X12_swinging : Cond.selects RX12 yX12_swinging yX12_swinging ∈ jtb := jt_in (jt_s5 (List.mem_of_getElem? (i := 5) (a := (yX12_swinging, 57)) rfl)) rfl
theorem se_X12_ran : Cond.selects RX12 yX12_ran yX12_ran ∈ jtb := jt_in (jt_s5 (List.mem_of_getElem? (i := 6) (a := (yX12_ran, 57)) rfl)) rfl
theorem se_X12_plainSwings : Cond.selects RX12 yX12_plainSwings yX12_plainSwings ∈ jtb := jt_in (jt_s5 (List.mem_of_getElem? (i := 7) (a := (yX12_plainSwings, 57)) rfl)) rfl
theorem se_X12_shortSwings : Cond.selects RX12 yX12_shortSwings yX12_shortSwings ∈ jtb := jt_in (jt_s5 (List.mem_of_getElem? (i := 8) (a := (yX12_shortSwings, 57)) rfl)) rfl
theorem se_X12_counting : Cond.selects RX12 yX12_counting yX12_counting ∈ jtb := jt_in (jt_s5 (List.mem_of_getElem? (i := 9) (a := (yX12_counting, 57)) rfl)) rfl
theorem se_X12_longCounts : Cond.selects RX12 yX12_longCounts yX12_longCounts ∈ jtb := jt_in (jt_s5 (List.mem_of_getElem? (i := 10) (a := (yX12_longCounts, 57)) rfl)) rfl
theorem se_X12_plainCounts : Cond.selects RX12 yX12_plainCounts yX12_plainCounts ∈ jtb := jt_in (jt_s5 (List.mem_of_getElem? (i := 11) (a := (yX12_plainCounts, 57)) rfl)) rfl
theorem se_X12_waiting : Cond.selects RX12 yX12_waiting yX12_waiting ∈ jtb := jt_in (jt_s5 (List.mem_of_getElem? (i := 12) (a := (yX12_waiting, 57)) rfl)) rfl
theorem se_X12_helpedWaits : Cond.selects RX12 yX12_helpedWaits yX12_helpedWaits ∈ jtb := jt_in (jt_s5 (List.mem_of_getElem? (i := 13) (a := (yX12_helpedWaits, 57)) rfl)) rfl
theorem se_X12_plainWaits : Cond.selects RX12 yX12_plainWaits yX12_plainWaits ∈ jtb := jt_in (jt_s5 (List.mem_of_getElem? (i := 14) (a := (yX12_plainWaits, 57)) rfl)) rfl
theorem se_X12_telling : Cond.selects RX12 yX12_telling yX12_telling ∈ jtb := jt_in (jt_s5 (List.mem_of_getElem? (i := 15) (a := (yX12_telling, 57)) rfl)) rfl
theorem se_X12_plainTells : Cond.selects RX12 yX12_plainTells yX12_plainTells ∈ jtb := jt_in (jt_s6 (List.mem_of_getElem? (i := 0) (a := (yX12_plainTells, 57)) rfl)) rfl
theorem se_X12_whyNoPlace : Cond.selects RX12 yX12_whyNoPlace yX12_whyNoPlace ∈ jtb := jt_in (jt_s6 (List.mem_of_getElem? (i := 1) (a := (yX12_whyNoPlace, 57)) rfl)) rfl
theorem lya_X0 : ∀ w ∈ u_ws RX0 TX0 4, w ∈ lw_tbl := by decide +kernel
theorem lyb_X0 : (u_ws RX0 TX0 4).all goodWord = true := by decide +kernel
theorem ly_X0 : ∀ w ∈ u_ws RX0 TX0 4, w ∈ jtb := fun w h => jt_in (lya_X0 w h) (List.all_eq_true.mp lyb_X0 w h)
theorem lya_X1 : ∀ w ∈ u_ws RX1 TX1 6, w ∈ lw_tbl := by decide +kernel
theorem lyb_X1 : (u_ws RX1 TX1 6).all goodWord = true := by decide +kernel
theorem ly_X1 : ∀ w ∈ u_ws RX1 TX1 6, w ∈ jtb := fun w h => jt_in (lya_X1 w h) (List.all_eq_true.mp lyb_X1 w h)
theorem lya_X2 : ∀ w ∈ u_ws RX2 TX2 8, w ∈ lw_tbl := by decide +kernel
theorem lyb_X2 : (u_ws RX2 TX2 8).all goodWord = true := by decide +kernel
theorem ly_X2 : ∀ w ∈ u_ws RX2 TX2 8, w ∈ jtb := fun w h => jt_in (lya_X2 w h) (List.all_eq_true.mp lyb_X2 w h)
theorem lya_X3 : ∀ w ∈ u_ws RX3 TX3 2, w ∈ lw_tbl := by decide +kernel
theorem lyb_X3 : (u_ws RX3 TX3 2).all goodWord = true := by decide +kernel
theorem ly_X3 : ∀ w ∈ u_ws RX3 TX3 2, w ∈ jtb := fun w h => jt_in (lya_X3 w h) (List.all_eq_true.mp lyb_X3 w h)
theorem lya_X4 : ∀ w ∈ u_ws RX4 TX4 9, w ∈ lw_tbl := by decide +kernel
theorem lyb_X4 : (u_ws RX4 TX4 9).all goodWord = true := by decide +kernel
theorem ly_X4 : ∀ w ∈ u_ws RX4 TX4 9, w ∈ jtb := fun w h => jt_in (lya_X4 w h) (List.all_eq_true.mp lyb_X4 w h)
theorem lya_X5 : ∀ w ∈ u_ws RX5 TX5 9, w ∈ lw_tbl := by decide +kernel
theorem lyb_X5 : (u_ws RX5 TX5 9).all goodWord = true := by decide +kernel
theorem ly_X5 : ∀ w ∈ u_ws RX5 TX5 9, w ∈ jtb := fun w h => jt_in (lya_X5 w h) (List.all_eq_true.mp lyb_X5 w h)
theorem lya_X6 : ∀ w ∈ u_ws RX6 TX6 2, w ∈ lw_tbl := by decide +kernel
theorem lyb_X6 : (u_ws RX6 TX6 2).all goodWord = true := by decide +kernel
theorem ly_X6 : ∀ w ∈ u_ws RX6 TX6 2, w ∈ jtb := fun w h => jt_in (lya_X6 w h) (List.all_eq_true.mp lyb_X6 w h)
theorem lya_X7 : ∀ w ∈ u_ws RX7 TX7 5, w ∈ lw_tbl := by decide +kernel
theorem lyb_X7 : (u_ws RX7 TX7 5).all goodWord = true := by decide +kernel
theorem ly_X7 : ∀ w ∈ u_ws RX7 TX7 5, w ∈ jtb := fun w h => jt_in (lya_X7 w h) (List.all_eq_true.mp lyb_X7 w h)
theorem lya_X8 : ∀ w ∈ u_ws RX8 TX8 4, w ∈ lw_tbl := by decide +kernel
theorem lyb_X8 : (u_ws RX8 TX8 4).all goodWord = true := by decide +kernel
theorem ly_X8 : ∀ w ∈ u_ws RX8 TX8 4, w ∈ jtb := fun w h => jt_in (lya_X8 w h) (List.all_eq_true.mp lyb_X8 w h)
theorem lya_X9 : ∀ w ∈ u_ws RX9 TX9 5, w ∈ lw_tbl := by decide +kernel
theorem lyb_X9 : (u_ws RX9 TX9 5).all goodWord = true := by decide +kernel
theorem ly_X9 : ∀ w ∈ u_ws RX9 TX9 5, w ∈ jtb := fun w h => jt_in (lya_X9 w h) (List.all_eq_true.mp lyb_X9 w h)
theorem lya_X10 : ∀ w ∈ u_ws RX10 TX10 8, w ∈ lw_tbl := by decide +kernel
theorem lyb_X10 : (u_ws RX10 TX10 8).all goodWord = true := by decide +kernel
theorem ly_X10 : ∀ w ∈ u_ws RX10 TX10 8, w ∈ jtb := fun w h => jt_in (lya_X10 w h) (List.all_eq_true.mp lyb_X10 w h)
theorem lya_X11 : ∀ w ∈ u_ws RX11 TX11 12, w ∈ lw_tbl := by decide +kernel
theorem lyb_X11 : (u_ws RX11 TX11 12).all goodWord = true := by decide +kernel
theorem ly_X11 : ∀ w ∈ u_ws RX11 TX11 12, w ∈ jtb := fun w h => jt_in (lya_X11 w h) (List.all_eq_true.mp lyb_X11 w h)
theorem lya_X12 : ∀ w ∈ u_ws RX12 TX12 57, w ∈ lw_tbl := by decide +kernel
theorem lyb_X12 : (u_ws RX12 TX12 57).all goodWord = true := by decide +kernel
theorem ly_X12 : ∀ w ∈ u_ws RX12 TX12 57, w ∈ jtb := fun w h => jt_in (lya_X12 w h) (List.all_eq_true.mp lyb_X12 w h)
/-- the words of a method's contract: its code, and the tables -/
def jws (y : MethodName) (cc : ByteArray) (n : Nat) (r : Option FieldType) : List Cond := Cond.code y cc n r :: jtb
theorem jgV {own : String} {idx : Nat} {C : String} {y : MethodName} {cc : ByteArray} {n : Nat} {r : Option FieldType} (h1 : Cond.methodLink own idx y ∈ jtb) (h2 : Cond.instanceMethod y ∈ jtb) (h3 : Cond.selects C y y ∈ jtb) (h4 : Cond.initialized C ∈ jtb) (h5 : Cond.code y cc n r ∈ jtb) : GoodIn jtb (wsV own idx C y (jws y cc n r)) := by
  intro w hw
  have hm : w ∈ jtb := by
    simp only [wsV, jws, List.cons_append, List.nil_append, List.mem_cons] at hw
    rcases hw with rfl | rfl | rfl | rfl | rfl | h
    · exact h1
    · exact h2
    · exact h3
    · exact h4
    · exact h5
    · exact h
  exact ⟨hm, jt_good w hm⟩
theorem jgS {own : String} {idx : Nat} {y : MethodName} {cc : ByteArray} {n : Nat} {r : Option FieldType} (h1 : Cond.methodLink own idx y ∈ jtb) (h2 : Cond.static y ∈ jtb) (h4 : Cond.initialized y.cls ∈ jtb) (h5 : Cond.code y cc n r ∈ jtb) : GoodIn jtb (va_wsS own idx y (jws y cc n r)) := by
  intro w hw
  have hm : w ∈ jtb := by
    simp only [va_wsS, jws, List.cons_append, List.nil_append, List.mem_cons] at hw
    rcases hw with rfl | rfl | rfl | rfl | h
    · exact h1
    · exact h2
    · exact h4
    · exact h5
    · exact h
  exact ⟨hm, jt_good w hm⟩
