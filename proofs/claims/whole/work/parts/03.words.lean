def isN : Cond → Bool
  | .fieldLinkNest _ _ _ _ _ _ => true
  | .methodLinkNest _ _ _ _ => true
  | _ => false
def wAll : List Cond := lw_tbl.filter goodWord
def nstL : List Cond := lw_tbl.filter isN
theorem wAll_of {w : Cond} (i : Nat) (h : tables_1[i]? = some w) (hg : goodWord w = true) : w ∈ wAll := List.mem_filter.mpr ⟨List.mem_append_right _ (List.mem_of_getElem? h), hg⟩
theorem tb_1 {w : Cond} (h : w ∈ tables_1_1) : w ∈ tables_1 := List.mem_append_left _ h
theorem tb_2 {w : Cond} (h : w ∈ tables_1_2) : w ∈ tables_1 := List.mem_append_right _ (List.mem_append_left _ h)
theorem tb_3 {w : Cond} (h : w ∈ tables_1_3) : w ∈ tables_1 := List.mem_append_right _ (List.mem_append_right _ (List.mem_append_left _ h))
theorem tb_4 {w : Cond} (h : w ∈ tables_1_4) : w ∈ tables_1 := List.mem_append_right _ (List.mem_append_right _ (List.mem_append_right _ (List.mem_append_left _ h)))
theorem tb_5 {w : Cond} (h : w ∈ tables_1_5) : w ∈ tables_1 := List.mem_append_right _ (List.mem_append_right _ (List.mem_append_right _ (List.mem_append_right _ (List.mem_append_left _ h))))
theorem tb_6 {w : Cond} (h : w ∈ tables_1_6) : w ∈ tables_1 := List.mem_append_right _ (List.mem_append_right _ (List.mem_append_right _ (List.mem_append_right _ (List.mem_append_right _ (List.mem_append_left _ h)))))
theorem tb_7 {w : Cond} (h : w ∈ tables_1_7) : w ∈ tables_1 := List.mem_append_right _ (List.mem_append_right _ (List.mem_append_right _ (List.mem_append_right _ (List.mem_append_right _ (List.mem_append_right _ (List.mem_append_left _ h))))))
theorem tb_8 {w : Cond} (h : w ∈ tables_1_8) : w ∈ tables_1 := List.mem_append_right _ (List.mem_append_right _ (List.mem_append_right _ (List.mem_append_right _ (List.mem_append_right _ (List.mem_append_right _ (List.mem_append_right _ (h)))))))
theorem wAll_1 {w : Cond} (i : Nat) (h : tables_1_1[i]? = some w) (hg : goodWord w = true) : w ∈ wAll := List.mem_filter.mpr ⟨List.mem_append_right _ (tb_1 (List.mem_of_getElem? h)), hg⟩
theorem nstL_1 {w : Cond} (i : Nat) (h : tables_1_1[i]? = some w) (hg : isN w = true) : w ∈ nstL := List.mem_filter.mpr ⟨List.mem_append_right _ (tb_1 (List.mem_of_getElem? h)), hg⟩
theorem wAll_2 {w : Cond} (i : Nat) (h : tables_1_2[i]? = some w) (hg : goodWord w = true) : w ∈ wAll := List.mem_filter.mpr ⟨List.mem_append_right _ (tb_2 (List.mem_of_getElem? h)), hg⟩
theorem nstL_2 {w : Cond} (i : Nat) (h : tables_1_2[i]? = some w) (hg : isN w = true) : w ∈ nstL := List.mem_filter.mpr ⟨List.mem_append_right _ (tb_2 (List.mem_of_getElem? h)), hg⟩
theorem wAll_3 {w : Cond} (i : Nat) (h : tables_1_3[i]? = some w) (hg : goodWord w = true) : w ∈ wAll := List.mem_filter.mpr ⟨List.mem_append_right _ (tb_3 (List.mem_of_getElem? h)), hg⟩
theorem nstL_3 {w : Cond} (i : Nat) (h : tables_1_3[i]? = some w) (hg : isN w = true) : w ∈ nstL := List.mem_filter.mpr ⟨List.mem_append_right _ (tb_3 (List.mem_of_getElem? h)), hg⟩
theorem wAll_4 {w : Cond} (i : Nat) (h : tables_1_4[i]? = some w) (hg : goodWord w = true) : w ∈ wAll := List.mem_filter.mpr ⟨List.mem_append_right _ (tb_4 (List.mem_of_getElem? h)), hg⟩
theorem nstL_4 {w : Cond} (i : Nat) (h : tables_1_4[i]? = some w) (hg : isN w = true) : w ∈ nstL := List.mem_filter.mpr ⟨List.mem_append_right _ (tb_4 (List.mem_of_getElem? h)), hg⟩
theorem wAll_5 {w : Cond} (i : Nat) (h : tables_1_5[i]? = some w) (hg : goodWord w = true) : w ∈ wAll := List.mem_filter.mpr ⟨List.mem_append_right _ (tb_5 (List.mem_of_getElem? h)), hg⟩
theorem nstL_5 {w : Cond} (i : Nat) (h : tables_1_5[i]? = some w) (hg : isN w = true) : w ∈ nstL := List.mem_filter.mpr ⟨List.mem_append_right _ (tb_5 (List.mem_of_getElem? h)), hg⟩
theorem wAll_6 {w : Cond} (i : Nat) (h : tables_1_6[i]? = some w) (hg : goodWord w = true) : w ∈ wAll := List.mem_filter.mpr ⟨List.mem_append_right _ (tb_6 (List.mem_of_getElem? h)), hg⟩
theorem nstL_6 {w : Cond} (i : Nat) (h : tables_1_6[i]? = some w) (hg : isN w = true) : w ∈ nstL := List.mem_filter.mpr ⟨List.mem_append_right _ (tb_6 (List.mem_of_getElem? h)), hg⟩
theorem wAll_7 {w : Cond} (i : Nat) (h : tables_1_7[i]? = some w) (hg : goodWord w = true) : w ∈ wAll := List.mem_filter.mpr ⟨List.mem_append_right _ (tb_7 (List.mem_of_getElem? h)), hg⟩
theorem nstL_7 {w : Cond} (i : Nat) (h : tables_1_7[i]? = some w) (hg : isN w = true) : w ∈ nstL := List.mem_filter.mpr ⟨List.mem_append_right _ (tb_7 (List.mem_of_getElem? h)), hg⟩
theorem wAll_8 {w : Cond} (i : Nat) (h : tables_1_8[i]? = some w) (hg : goodWord w = true) : w ∈ wAll := List.mem_filter.mpr ⟨List.mem_append_right _ (tb_8 (List.mem_of_getElem? h)), hg⟩
theorem nstL_8 {w : Cond} (i : Nat) (h : tables_1_8[i]? = some w) (hg : isN w = true) : w ∈ nstL := List.mem_filter.mpr ⟨List.mem_append_right _ (tb_8 (List.mem_of_getElem? h)), hg⟩
theorem wAll_priv {w : Cond} (i : Nat) (h : (k2_sels lw_privs)[i]? = some w) (hg : goodWord w = true) : w ∈ wAll := List.mem_filter.mpr ⟨List.mem_append_left _ (List.mem_of_getElem? h), hg⟩
theorem in_L : (Jvm.Cond.initialized "BestPairLaw") ∈ wAll := wAll_1 0 rfl rfl
theorem in_X11 : (Jvm.Cond.initialized "BestPair") ∈ wAll := wAll_1 1 rfl rfl
theorem in_X10 : (Jvm.Cond.initialized "BestPair$Tape") ∈ wAll := wAll_1 2 rfl rfl
theorem in_X6 : (Jvm.Cond.initialized "BestPair$People") ∈ wAll := wAll_1 3 rfl rfl
theorem in_X8 : (Jvm.Cond.initialized "BestPair$RuleReader") ∈ wAll := wAll_1 4 rfl rfl
theorem in_X7 : (Jvm.Cond.initialized "BestPair$Rule") ∈ wAll := wAll_1 5 rfl rfl
theorem in_X9 : (Jvm.Cond.initialized "BestPair$Stand") ∈ wAll := wAll_1 6 rfl rfl
theorem in_X1 : (Jvm.Cond.initialized "BestPair$Diary") ∈ wAll := wAll_1 7 rfl rfl
theorem in_X2 : (Jvm.Cond.initialized "BestPair$Door") ∈ wAll := wAll_1 8 rfl rfl
theorem in_J0 : (Jvm.Cond.initialized "java/lang/String") ∈ wAll := wAll_1 9 rfl rfl
theorem in_X5 : (Jvm.Cond.initialized "BestPair$Leaving") ∈ wAll := wAll_1 10 rfl rfl
theorem in_X0 : (Jvm.Cond.initialized "BestPair$Contest") ∈ wAll := wAll_1 11 rfl rfl
theorem in_X3 : (Jvm.Cond.initialized "BestPair$Dream") ∈ wAll := wAll_1 12 rfl rfl
theorem in_X4 : (Jvm.Cond.initialized "BestPair$Future") ∈ wAll := wAll_1 13 rfl rfl
theorem in_X12 : (Jvm.Cond.initialized "BestPairModel") ∈ wAll := wAll_1 14 rfl rfl
theorem in_J10 : (Jvm.Cond.initialized "java/lang/System") ∈ wAll := wAll_1 15 rfl rfl
theorem in_J1 : (Jvm.Cond.initialized "java/lang/StringLatin1") ∈ wAll := wAll_1 16 rfl rfl
theorem in_J3 : (Jvm.Cond.initialized "jdk/internal/util/Preconditions") ∈ wAll := wAll_1 17 rfl rfl
theorem in_J2 : (Jvm.Cond.initialized "java/lang/StringUTF16") ∈ wAll := wAll_1 18 rfl rfl
theorem in_J9 : (Jvm.Cond.initialized "java/lang/Math") ∈ wAll := wAll_1 19 rfl rfl
theorem in_J7 : (Jvm.Cond.initialized "java/util/Arrays") ∈ wAll := wAll_1 20 rfl rfl
theorem in_java_lang_Throwable : (Jvm.Cond.initialized "java/lang/Throwable") ∈ wAll := wAll_1 21 rfl rfl
theorem in_java_lang_Exception : (Jvm.Cond.initialized "java/lang/Exception") ∈ wAll := wAll_1 22 rfl rfl
theorem in_java_lang_RuntimeException : (Jvm.Cond.initialized "java/lang/RuntimeException") ∈ wAll := wAll_1 23 rfl rfl
theorem in_java_util_NoSuchElementException : (Jvm.Cond.initialized "java/util/NoSuchElementException") ∈ wAll := wAll_1 24 rfl rfl
theorem in_J6 : (Jvm.Cond.initialized "java/lang/Integer") ∈ wAll := wAll_1 25 rfl rfl
theorem ml_L_15 : (Jvm.Cond.methodLink "BestPairLaw" (15 : Nat) ({ cls := "BestPair", name := "<init>", desc := "()V" } : Jvm.MethodName)) ∈ wAll := wAll_1 28 rfl rfl
theorem im_X11_init : (Jvm.Cond.instanceMethod ({ cls := "BestPair", name := "<init>", desc := "()V" } : Jvm.MethodName)) ∈ wAll := wAll_1 29 rfl rfl
theorem cd_X11_init : (Jvm.Cond.code ({ cls := "BestPair", name := "<init>", desc := "()V" } : Jvm.MethodName) prog_1_method_1_code (2 : Nat) (Option.none : Option Jvm.ClassFile.FieldType)) ∈ wAll := wAll_1 30 rfl rfl
theorem ml_X11_3 : (Jvm.Cond.methodLink "BestPair" (3 : Nat) ({ cls := "java/lang/Object", name := "<init>", desc := "()V" } : Jvm.MethodName)) ∈ wAll := wAll_1 31 rfl rfl
theorem mn_X11_11 : (Jvm.Cond.methodLinkNest "BestPair" (11 : Nat) ({ cls := "BestPair$Tape", name := "<init>", desc := "()V" } : Jvm.MethodName) "BestPair") ∈ nstL := nstL_1 36 rfl rfl
theorem im_X10_init : (Jvm.Cond.instanceMethod ({ cls := "BestPair$Tape", name := "<init>", desc := "()V" } : Jvm.MethodName)) ∈ wAll := wAll_1 37 rfl rfl
theorem cd_X10_init : (Jvm.Cond.code ({ cls := "BestPair$Tape", name := "<init>", desc := "()V" } : Jvm.MethodName) prog_12_method_1_code (1 : Nat) (Option.none : Option Jvm.ClassFile.FieldType)) ∈ wAll := wAll_1 38 rfl rfl
theorem ml_X10_3 : (Jvm.Cond.methodLink "BestPair$Tape" (3 : Nat) ({ cls := "java/lang/Object", name := "<init>", desc := "()V" } : Jvm.MethodName)) ∈ wAll := wAll_1 39 rfl rfl
theorem fl_X10_9 : (Jvm.Cond.fieldLink "BestPair$Tape" (9 : Nat) "BestPair$Tape" "signs" "[C") ∈ wAll := wAll_1 40 rfl rfl
theorem fn_X11_106 : (Jvm.Cond.fieldLinkNest "BestPair" (106 : Nat) "BestPair$Tape" "length" "I" "BestPair") ∈ nstL := nstL_1 41 rfl rfl
theorem fl_X10_15 : (Jvm.Cond.fieldLink "BestPair$Tape" (15 : Nat) "BestPair$Tape" "length" "I") ∈ wAll := wAll_1 42 rfl rfl
theorem fn_X8_19 : (Jvm.Cond.fieldLinkNest "BestPair$RuleReader" (19 : Nat) "BestPair$Tape" "at" "I" "BestPair") ∈ nstL := nstL_1 43 rfl rfl
theorem fl_X10_19 : (Jvm.Cond.fieldLink "BestPair$Tape" (19 : Nat) "BestPair$Tape" "at" "I") ∈ wAll := wAll_1 44 rfl rfl
theorem fn_X6_38 : (Jvm.Cond.fieldLinkNest "BestPair$People" (38 : Nat) "BestPair$Tape" "at" "I" "BestPair") ∈ nstL := nstL_1 45 rfl rfl
theorem mn_X11_18 : (Jvm.Cond.methodLinkNest "BestPair" (18 : Nat) ({ cls := "BestPair$People", name := "<init>", desc := "()V" } : Jvm.MethodName) "BestPair") ∈ nstL := nstL_1 56 rfl rfl
theorem im_X6_init : (Jvm.Cond.instanceMethod ({ cls := "BestPair$People", name := "<init>", desc := "()V" } : Jvm.MethodName)) ∈ wAll := wAll_1 57 rfl rfl
theorem cd_X6_init : (Jvm.Cond.code ({ cls := "BestPair$People", name := "<init>", desc := "()V" } : Jvm.MethodName) prog_8_method_1_code (1 : Nat) (Option.none : Option Jvm.ClassFile.FieldType)) ∈ wAll := wAll_1 58 rfl rfl
theorem ml_X6_3 : (Jvm.Cond.methodLink "BestPair$People" (3 : Nat) ({ cls := "java/lang/Object", name := "<init>", desc := "()V" } : Jvm.MethodName)) ∈ wAll := wAll_1 59 rfl rfl
theorem fl_X6_9 : (Jvm.Cond.fieldLink "BestPair$People" (9 : Nat) "BestPair$People" "items" "[I") ∈ wAll := wAll_1 60 rfl rfl
theorem fl_X6_15 : (Jvm.Cond.fieldLink "BestPair$People" (15 : Nat) "BestPair$People" "ruleOf" "[I") ∈ wAll := wAll_1 61 rfl rfl
theorem fn_X2_75 : (Jvm.Cond.fieldLinkNest "BestPair$Door" (75 : Nat) "BestPair$People" "ruleOf" "[I" "BestPair") ∈ nstL := nstL_1 62 rfl rfl
theorem fn_X11_169 : (Jvm.Cond.fieldLinkNest "BestPair" (169 : Nat) "BestPair$People" "ruleOf" "[I" "BestPair") ∈ nstL := nstL_1 63 rfl rfl
theorem fn_X9_21 : (Jvm.Cond.fieldLinkNest "BestPair$Stand" (21 : Nat) "BestPair$People" "many" "I" "BestPair") ∈ nstL := nstL_1 64 rfl rfl
theorem fn_X4_39 : (Jvm.Cond.fieldLinkNest "BestPair$Future" (39 : Nat) "BestPair$People" "many" "I" "BestPair") ∈ nstL := nstL_1 65 rfl rfl
theorem fl_X6_34 : (Jvm.Cond.fieldLink "BestPair$People" (34 : Nat) "BestPair$People" "many" "I") ∈ wAll := wAll_1 66 rfl rfl
theorem fn_X11_144 : (Jvm.Cond.fieldLinkNest "BestPair" (144 : Nat) "BestPair$People" "many" "I" "BestPair") ∈ nstL := nstL_1 67 rfl rfl
theorem ml_X11_28 : (Jvm.Cond.methodLink "BestPair" (28 : Nat) ({ cls := "BestPair$RuleReader", name := "<init>", desc := "(LBestPair$Tape;)V" } : Jvm.MethodName)) ∈ wAll := wAll_1 78 rfl rfl
theorem im_X8_init : (Jvm.Cond.instanceMethod ({ cls := "BestPair$RuleReader", name := "<init>", desc := "(LBestPair$Tape;)V" } : Jvm.MethodName)) ∈ wAll := wAll_1 79 rfl rfl
theorem cd_X8_init : (Jvm.Cond.code ({ cls := "BestPair$RuleReader", name := "<init>", desc := "(LBestPair$Tape;)V" } : Jvm.MethodName) prog_10_method_1_code (2 : Nat) (Option.none : Option Jvm.ClassFile.FieldType)) ∈ wAll := wAll_1 80 rfl rfl
theorem ml_X8_3 : (Jvm.Cond.methodLink "BestPair$RuleReader" (3 : Nat) ({ cls := "java/lang/Object", name := "<init>", desc := "()V" } : Jvm.MethodName)) ∈ wAll := wAll_1 81 rfl rfl
theorem fl_X8_15 : (Jvm.Cond.fieldLink "BestPair$RuleReader" (15 : Nat) "BestPair$RuleReader" "tape" "LBestPair$Tape;") ∈ wAll := wAll_1 82 rfl rfl
theorem fl_X8_9 : (Jvm.Cond.fieldLink "BestPair$RuleReader" (9 : Nat) "BestPair$RuleReader" "code" "[I") ∈ wAll := wAll_1 83 rfl rfl
theorem fn_X7_25 : (Jvm.Cond.fieldLinkNest "BestPair$Rule" (25 : Nat) "BestPair$RuleReader" "code" "[I" "BestPair") ∈ nstL := nstL_1 84 rfl rfl
theorem fn_X7_18 : (Jvm.Cond.fieldLinkNest "BestPair$Rule" (18 : Nat) "BestPair$RuleReader" "length" "I" "BestPair") ∈ nstL := nstL_1 85 rfl rfl
theorem fl_X8_25 : (Jvm.Cond.fieldLink "BestPair$RuleReader" (25 : Nat) "BestPair$RuleReader" "length" "I") ∈ wAll := wAll_1 86 rfl rfl
theorem mn_X11_41 : (Jvm.Cond.methodLinkNest "BestPair" (41 : Nat) ({ cls := "BestPair$Rule", name := "<init>", desc := "()V" } : Jvm.MethodName) "BestPair") ∈ nstL := nstL_1 97 rfl rfl
theorem im_X7_init : (Jvm.Cond.instanceMethod ({ cls := "BestPair$Rule", name := "<init>", desc := "()V" } : Jvm.MethodName)) ∈ wAll := wAll_1 98 rfl rfl
theorem cd_X7_init : (Jvm.Cond.code ({ cls := "BestPair$Rule", name := "<init>", desc := "()V" } : Jvm.MethodName) prog_9_method_1_code (1 : Nat) (Option.none : Option Jvm.ClassFile.FieldType)) ∈ wAll := wAll_1 99 rfl rfl
theorem ml_X7_3 : (Jvm.Cond.methodLink "BestPair$Rule" (3 : Nat) ({ cls := "java/lang/Object", name := "<init>", desc := "()V" } : Jvm.MethodName)) ∈ wAll := wAll_1 100 rfl rfl
theorem fl_X7_9 : (Jvm.Cond.fieldLink "BestPair$Rule" (9 : Nat) "BestPair$Rule" "code" "[I") ∈ wAll := wAll_1 101 rfl rfl
theorem fl_X7_15 : (Jvm.Cond.fieldLink "BestPair$Rule" (15 : Nat) "BestPair$Rule" "stack" "[I") ∈ wAll := wAll_1 102 rfl rfl
theorem fl_X7_24 : (Jvm.Cond.fieldLink "BestPair$Rule" (24 : Nat) "BestPair$Rule" "length" "I") ∈ wAll := wAll_1 103 rfl rfl
theorem mn_X11_44 : (Jvm.Cond.methodLinkNest "BestPair" (44 : Nat) ({ cls := "BestPair$Stand", name := "<init>", desc := "()V" } : Jvm.MethodName) "BestPair") ∈ nstL := nstL_1 113 rfl rfl
theorem im_X9_init : (Jvm.Cond.instanceMethod ({ cls := "BestPair$Stand", name := "<init>", desc := "()V" } : Jvm.MethodName)) ∈ wAll := wAll_1 114 rfl rfl
theorem cd_X9_init : (Jvm.Cond.code ({ cls := "BestPair$Stand", name := "<init>", desc := "()V" } : Jvm.MethodName) prog_11_method_1_code (1 : Nat) (Option.none : Option Jvm.ClassFile.FieldType)) ∈ wAll := wAll_1 115 rfl rfl
theorem ml_X9_3 : (Jvm.Cond.methodLink "BestPair$Stand" (3 : Nat) ({ cls := "java/lang/Object", name := "<init>", desc := "()V" } : Jvm.MethodName)) ∈ wAll := wAll_1 116 rfl rfl
theorem fl_X9_9 : (Jvm.Cond.fieldLink "BestPair$Stand" (9 : Nat) "BestPair$Stand" "has" "[I") ∈ wAll := wAll_1 117 rfl rfl
theorem fn_X4_45 : (Jvm.Cond.fieldLinkNest "BestPair$Future" (45 : Nat) "BestPair$Stand" "has" "[I" "BestPair") ∈ nstL := nstL_1 118 rfl rfl
theorem fn_X11_166 : (Jvm.Cond.fieldLinkNest "BestPair" (166 : Nat) "BestPair$Stand" "has" "[I" "BestPair") ∈ nstL := nstL_1 119 rfl rfl
theorem fl_X9_15 : (Jvm.Cond.fieldLink "BestPair$Stand" (15 : Nat) "BestPair$Stand" "place" "[I") ∈ wAll := wAll_1 120 rfl rfl
theorem fn_X4_50 : (Jvm.Cond.fieldLinkNest "BestPair$Future" (50 : Nat) "BestPair$Stand" "place" "[I" "BestPair") ∈ nstL := nstL_1 121 rfl rfl
theorem fn_X1_31 : (Jvm.Cond.fieldLinkNest "BestPair$Diary" (31 : Nat) "BestPair$Stand" "place" "[I" "BestPair") ∈ nstL := nstL_1 122 rfl rfl
theorem fn_X11_175 : (Jvm.Cond.fieldLinkNest "BestPair" (175 : Nat) "BestPair$Stand" "place" "[I" "BestPair") ∈ nstL := nstL_1 123 rfl rfl
theorem fl_X9_18 : (Jvm.Cond.fieldLink "BestPair$Stand" (18 : Nat) "BestPair$Stand" "worth" "[I") ∈ wAll := wAll_1 124 rfl rfl
theorem fn_X2_49 : (Jvm.Cond.fieldLinkNest "BestPair$Door" (49 : Nat) "BestPair$Stand" "worth" "[I" "BestPair") ∈ nstL := nstL_1 125 rfl rfl
theorem fn_X11_172 : (Jvm.Cond.fieldLinkNest "BestPair" (172 : Nat) "BestPair$Stand" "worth" "[I" "BestPair") ∈ nstL := nstL_1 126 rfl rfl
theorem fn_X0_111 : (Jvm.Cond.fieldLinkNest "BestPair$Contest" (111 : Nat) "BestPair$Stand" "worth" "[I" "BestPair") ∈ nstL := nstL_1 127 rfl rfl
theorem mn_X11_54 : (Jvm.Cond.methodLinkNest "BestPair" (54 : Nat) ({ cls := "BestPair$Diary", name := "<init>", desc := "()V" } : Jvm.MethodName) "BestPair") ∈ nstL := nstL_1 137 rfl rfl
theorem im_X1_init : (Jvm.Cond.instanceMethod ({ cls := "BestPair$Diary", name := "<init>", desc := "()V" } : Jvm.MethodName)) ∈ wAll := wAll_1 138 rfl rfl
theorem cd_X1_init : (Jvm.Cond.code ({ cls := "BestPair$Diary", name := "<init>", desc := "()V" } : Jvm.MethodName) prog_3_method_1_code (1 : Nat) (Option.none : Option Jvm.ClassFile.FieldType)) ∈ wAll := wAll_1 139 rfl rfl
theorem ml_X1_3 : (Jvm.Cond.methodLink "BestPair$Diary" (3 : Nat) ({ cls := "java/lang/Object", name := "<init>", desc := "()V" } : Jvm.MethodName)) ∈ wAll := wAll_1 140 rfl rfl
theorem fl_X1_11 : (Jvm.Cond.fieldLink "BestPair$Diary" (11 : Nat) "BestPair$Diary" "places" "[I") ∈ wAll := wAll_1 141 rfl rfl
theorem fl_X1_15 : (Jvm.Cond.fieldLink "BestPair$Diary" (15 : Nat) "BestPair$Diary" "seen" "[I") ∈ wAll := wAll_1 142 rfl rfl
theorem fl_X1_18 : (Jvm.Cond.fieldLink "BestPair$Diary" (18 : Nat) "BestPair$Diary" "evenings" "I") ∈ wAll := wAll_1 143 rfl rfl
theorem fn_X11_192 : (Jvm.Cond.fieldLinkNest "BestPair" (192 : Nat) "BestPair$Diary" "evenings" "I" "BestPair") ∈ nstL := nstL_1 144 rfl rfl
theorem fl_X1_22 : (Jvm.Cond.fieldLink "BestPair$Diary" (22 : Nat) "BestPair$Diary" "sights" "I") ∈ wAll := wAll_1 145 rfl rfl
theorem fn_X11_317 : (Jvm.Cond.fieldLinkNest "BestPair" (317 : Nat) "BestPair$Diary" "sights" "I" "BestPair") ∈ nstL := nstL_1 146 rfl rfl
theorem fl_X1_25 : (Jvm.Cond.fieldLink "BestPair$Diary" (25 : Nat) "BestPair$Diary" "keptEvenings" "I") ∈ wAll := wAll_1 147 rfl rfl
theorem fl_X1_28 : (Jvm.Cond.fieldLink "BestPair$Diary" (28 : Nat) "BestPair$Diary" "keptSights" "I") ∈ wAll := wAll_1 148 rfl rfl
theorem ml_X11_61 : (Jvm.Cond.methodLink "BestPair" (61 : Nat) ({ cls := "BestPair$Door", name := "<init>", desc := "(LBestPair$People;[LBestPair$Rule;)V" } : Jvm.MethodName)) ∈ wAll := wAll_1 164 rfl rfl
theorem im_X2_init : (Jvm.Cond.instanceMethod ({ cls := "BestPair$Door", name := "<init>", desc := "(LBestPair$People;[LBestPair$Rule;)V" } : Jvm.MethodName)) ∈ wAll := wAll_1 165 rfl rfl
theorem cd_X2_init : (Jvm.Cond.code ({ cls := "BestPair$Door", name := "<init>", desc := "(LBestPair$People;[LBestPair$Rule;)V" } : Jvm.MethodName) prog_4_method_1_code (3 : Nat) (Option.none : Option Jvm.ClassFile.FieldType)) ∈ wAll := wAll_1 166 rfl rfl
theorem ml_X2_3 : (Jvm.Cond.methodLink "BestPair$Door" (3 : Nat) ({ cls := "java/lang/Object", name := "<init>", desc := "()V" } : Jvm.MethodName)) ∈ wAll := wAll_1 167 rfl rfl
theorem ml_X2_26 : (Jvm.Cond.methodLink "BestPair$Door" (26 : Nat) ({ cls := "java/lang/String", name := "length", desc := "()I" } : Jvm.MethodName)) ∈ wAll := wAll_1 169 rfl rfl
theorem im_J0_length_8abf5 : (Jvm.Cond.instanceMethod ({ cls := "java/lang/String", name := "length", desc := "()I" } : Jvm.MethodName)) ∈ wAll := wAll_1 170 rfl rfl
theorem se_J0_length_8abf5 : (Jvm.Cond.selects "java/lang/String" ({ cls := "java/lang/String", name := "length", desc := "()I" } : Jvm.MethodName) ({ cls := "java/lang/String", name := "length", desc := "()I" } : Jvm.MethodName)) ∈ wAll := wAll_1 171 rfl rfl
theorem cd_J0_length_8abf5 : (Jvm.Cond.code ({ cls := "java/lang/String", name := "length", desc := "()I" } : Jvm.MethodName) prog_22_method_54_code (1 : Nat) (Option.some Jvm.ClassFile.FieldType.int)) ∈ wAll := wAll_1 172 rfl rfl
theorem ml_J0_335 : (Jvm.Cond.methodLink "java/lang/String" (335 : Nat) ({ cls := "java/lang/String", name := "coder", desc := "()B" } : Jvm.MethodName)) ∈ wAll := wAll_1 173 rfl rfl
theorem im_J0_coder_7d493 : (Jvm.Cond.instanceMethod ({ cls := "java/lang/String", name := "coder", desc := "()B" } : Jvm.MethodName)) ∈ wAll := wAll_1 174 rfl rfl
theorem se_J0_coder_7d493 : (Jvm.Cond.selects "java/lang/String" ({ cls := "java/lang/String", name := "coder", desc := "()B" } : Jvm.MethodName) ({ cls := "java/lang/String", name := "coder", desc := "()B" } : Jvm.MethodName)) ∈ wAll := wAll_1 175 rfl rfl
theorem cd_J0_coder_7d493 : (Jvm.Cond.code ({ cls := "java/lang/String", name := "coder", desc := "()B" } : Jvm.MethodName) prog_22_method_152_code (1 : Nat) (Option.some Jvm.ClassFile.FieldType.byte)) ∈ wAll := wAll_1 176 rfl rfl
theorem fl_J0_38 : (Jvm.Cond.fieldLink "java/lang/String" (38 : Nat) "java/lang/String" "COMPACT_STRINGS" "Z") ∈ wAll := wAll_1 177 rfl rfl
theorem fl_X2_35 : (Jvm.Cond.fieldLink "BestPair$Door" (35 : Nat) "BestPair$Door" "people" "LBestPair$People;") ∈ wAll := wAll_1 179 rfl rfl
theorem fn_X3_27 : (Jvm.Cond.fieldLinkNest "BestPair$Dream" (27 : Nat) "BestPair$Door" "people" "LBestPair$People;" "BestPair") ∈ nstL := nstL_1 180 rfl rfl
theorem fl_X2_39 : (Jvm.Cond.fieldLink "BestPair$Door" (39 : Nat) "BestPair$Door" "rules" "[LBestPair$Rule;") ∈ wAll := wAll_1 181 rfl rfl
theorem fl_X2_9 : (Jvm.Cond.fieldLink "BestPair$Door" (9 : Nat) "BestPair$Door" "size" "[I") ∈ wAll := wAll_1 182 rfl rfl
theorem fn_X3_33 : (Jvm.Cond.fieldLinkNest "BestPair$Dream" (33 : Nat) "BestPair$Door" "size" "[I" "BestPair") ∈ nstL := nstL_1 183 rfl rfl
theorem fl_X2_15 : (Jvm.Cond.fieldLink "BestPair$Door" (15 : Nat) "BestPair$Door" "worth" "[I") ∈ wAll := wAll_1 184 rfl rfl
theorem fn_X3_50 : (Jvm.Cond.fieldLinkNest "BestPair$Dream" (50 : Nat) "BestPair$Door" "worth" "[I" "BestPair") ∈ nstL := nstL_1 185 rfl rfl
theorem fn_X0_99 : (Jvm.Cond.fieldLinkNest "BestPair$Contest" (99 : Nat) "BestPair$Door" "worth" "[I" "BestPair") ∈ nstL := nstL_1 186 rfl rfl
theorem fl_X2_18 : (Jvm.Cond.fieldLink "BestPair$Door" (18 : Nat) "BestPair$Door" "desires" "[I") ∈ wAll := wAll_1 187 rfl rfl
theorem fl_X2_21 : (Jvm.Cond.fieldLink "BestPair$Door" (21 : Nat) "BestPair$Door" "picks" "[I") ∈ wAll := wAll_1 188 rfl rfl
theorem fl_X2_32 : (Jvm.Cond.fieldLink "BestPair$Door" (32 : Nat) "BestPair$Door" "letters" "[I") ∈ wAll := wAll_1 189 rfl rfl
theorem ml_X11_70 : (Jvm.Cond.methodLink "BestPair" (70 : Nat) ({ cls := "BestPair$Leaving", name := "<init>", desc := "(LBestPair$Door;)V" } : Jvm.MethodName)) ∈ wAll := wAll_1 208 rfl rfl
theorem im_X5_init : (Jvm.Cond.instanceMethod ({ cls := "BestPair$Leaving", name := "<init>", desc := "(LBestPair$Door;)V" } : Jvm.MethodName)) ∈ wAll := wAll_1 209 rfl rfl
theorem cd_X5_init : (Jvm.Cond.code ({ cls := "BestPair$Leaving", name := "<init>", desc := "(LBestPair$Door;)V" } : Jvm.MethodName) prog_7_method_1_code (2 : Nat) (Option.none : Option Jvm.ClassFile.FieldType)) ∈ wAll := wAll_1 210 rfl rfl
theorem ml_X5_3 : (Jvm.Cond.methodLink "BestPair$Leaving" (3 : Nat) ({ cls := "java/lang/Object", name := "<init>", desc := "()V" } : Jvm.MethodName)) ∈ wAll := wAll_1 211 rfl rfl
theorem fl_X5_24 : (Jvm.Cond.fieldLink "BestPair$Leaving" (24 : Nat) "BestPair$Leaving" "door" "LBestPair$Door;") ∈ wAll := wAll_1 212 rfl rfl
theorem fl_X5_9 : (Jvm.Cond.fieldLink "BestPair$Leaving" (9 : Nat) "BestPair$Leaving" "row" "[I") ∈ wAll := wAll_1 213 rfl rfl
theorem fn_X9_44 : (Jvm.Cond.fieldLinkNest "BestPair$Stand" (44 : Nat) "BestPair$Leaving" "row" "[I" "BestPair") ∈ nstL := nstL_1 214 rfl rfl
theorem fn_X4_93 : (Jvm.Cond.fieldLinkNest "BestPair$Future" (93 : Nat) "BestPair$Leaving" "row" "[I" "BestPair") ∈ nstL := nstL_1 215 rfl rfl
theorem fn_X0_96 : (Jvm.Cond.fieldLinkNest "BestPair$Contest" (96 : Nat) "BestPair$Leaving" "row" "[I" "BestPair") ∈ nstL := nstL_1 216 rfl rfl
theorem fl_X5_34 : (Jvm.Cond.fieldLink "BestPair$Leaving" (34 : Nat) "BestPair$Leaving" "many" "I") ∈ wAll := wAll_1 217 rfl rfl
theorem fn_X9_41 : (Jvm.Cond.fieldLinkNest "BestPair$Stand" (41 : Nat) "BestPair$Leaving" "many" "I" "BestPair") ∈ nstL := nstL_1 218 rfl rfl
theorem fn_X4_92 : (Jvm.Cond.fieldLinkNest "BestPair$Future" (92 : Nat) "BestPair$Leaving" "many" "I" "BestPair") ∈ nstL := nstL_1 219 rfl rfl
theorem fn_X0_95 : (Jvm.Cond.fieldLinkNest "BestPair$Contest" (95 : Nat) "BestPair$Leaving" "many" "I" "BestPair") ∈ nstL := nstL_1 220 rfl rfl
theorem fn_X11_286 : (Jvm.Cond.fieldLinkNest "BestPair" (286 : Nat) "BestPair$Leaving" "many" "I" "BestPair") ∈ nstL := nstL_1 221 rfl rfl
theorem fl_X5_15 : (Jvm.Cond.fieldLink "BestPair$Leaving" (15 : Nat) "BestPair$Leaving" "took" "[I") ∈ wAll := wAll_1 222 rfl rfl
theorem fn_X9_47 : (Jvm.Cond.fieldLinkNest "BestPair$Stand" (47 : Nat) "BestPair$Leaving" "took" "[I" "BestPair") ∈ nstL := nstL_1 223 rfl rfl
theorem fn_X4_96 : (Jvm.Cond.fieldLinkNest "BestPair$Future" (96 : Nat) "BestPair$Leaving" "took" "[I" "BestPair") ∈ nstL := nstL_1 224 rfl rfl
theorem fn_X11_221 : (Jvm.Cond.fieldLinkNest "BestPair" (221 : Nat) "BestPair$Leaving" "took" "[I" "BestPair") ∈ nstL := nstL_1 225 rfl rfl
theorem fl_X5_18 : (Jvm.Cond.fieldLink "BestPair$Leaving" (18 : Nat) "BestPair$Leaving" "standing" "[I") ∈ wAll := wAll_1 226 rfl rfl
theorem fl_X5_21 : (Jvm.Cond.fieldLink "BestPair$Leaving" (21 : Nat) "BestPair$Leaving" "sums" "[I") ∈ wAll := wAll_1 227 rfl rfl
theorem ml_X11_79 : (Jvm.Cond.methodLink "BestPair" (79 : Nat) ({ cls := "BestPair$Contest", name := "<init>", desc := "(LBestPair$People;LBestPair$Stand;LBestPair$Door;LBestPair$Leaving;)V" } : Jvm.MethodName)) ∈ wAll := wAll_2 3 rfl rfl
theorem im_X0_init : (Jvm.Cond.instanceMethod ({ cls := "BestPair$Contest", name := "<init>", desc := "(LBestPair$People;LBestPair$Stand;LBestPair$Door;LBestPair$Leaving;)V" } : Jvm.MethodName)) ∈ wAll := wAll_2 4 rfl rfl
theorem cd_X0_init : (Jvm.Cond.code ({ cls := "BestPair$Contest", name := "<init>", desc := "(LBestPair$People;LBestPair$Stand;LBestPair$Door;LBestPair$Leaving;)V" } : Jvm.MethodName) prog_2_method_1_code (5 : Nat) (Option.none : Option Jvm.ClassFile.FieldType)) ∈ wAll := wAll_2 5 rfl rfl
theorem ml_X0_3 : (Jvm.Cond.methodLink "BestPair$Contest" (3 : Nat) ({ cls := "java/lang/Object", name := "<init>", desc := "()V" } : Jvm.MethodName)) ∈ wAll := wAll_2 6 rfl rfl
theorem fl_X0_18 : (Jvm.Cond.fieldLink "BestPair$Contest" (18 : Nat) "BestPair$Contest" "people" "LBestPair$People;") ∈ wAll := wAll_2 7 rfl rfl
theorem fl_X0_22 : (Jvm.Cond.fieldLink "BestPair$Contest" (22 : Nat) "BestPair$Contest" "stand" "LBestPair$Stand;") ∈ wAll := wAll_2 8 rfl rfl
theorem fl_X0_26 : (Jvm.Cond.fieldLink "BestPair$Contest" (26 : Nat) "BestPair$Contest" "door" "LBestPair$Door;") ∈ wAll := wAll_2 9 rfl rfl
theorem fl_X0_30 : (Jvm.Cond.fieldLink "BestPair$Contest" (30 : Nat) "BestPair$Contest" "leaving" "LBestPair$Leaving;") ∈ wAll := wAll_2 10 rfl rfl
theorem fl_X0_9 : (Jvm.Cond.fieldLink "BestPair$Contest" (9 : Nat) "BestPair$Contest" "seats" "[I") ∈ wAll := wAll_2 11 rfl rfl
theorem fl_X0_34 : (Jvm.Cond.fieldLink "BestPair$Contest" (34 : Nat) "BestPair$Contest" "many" "I") ∈ wAll := wAll_2 12 rfl rfl
theorem fl_X0_15 : (Jvm.Cond.fieldLink "BestPair$Contest" (15 : Nat) "BestPair$Contest" "payoffs" "[I") ∈ wAll := wAll_2 13 rfl rfl
theorem ml_X11_88 : (Jvm.Cond.methodLink "BestPair" (88 : Nat) ({ cls := "BestPair$Dream", name := "<init>", desc := "(LBestPair$Door;)V" } : Jvm.MethodName)) ∈ wAll := wAll_2 31 rfl rfl
theorem im_X3_init : (Jvm.Cond.instanceMethod ({ cls := "BestPair$Dream", name := "<init>", desc := "(LBestPair$Door;)V" } : Jvm.MethodName)) ∈ wAll := wAll_2 32 rfl rfl
theorem cd_X3_init : (Jvm.Cond.code ({ cls := "BestPair$Dream", name := "<init>", desc := "(LBestPair$Door;)V" } : Jvm.MethodName) prog_5_method_1_code (2 : Nat) (Option.none : Option Jvm.ClassFile.FieldType)) ∈ wAll := wAll_2 33 rfl rfl
theorem ml_X3_3 : (Jvm.Cond.methodLink "BestPair$Dream" (3 : Nat) ({ cls := "java/lang/Object", name := "<init>", desc := "()V" } : Jvm.MethodName)) ∈ wAll := wAll_2 34 rfl rfl
theorem fl_X3_15 : (Jvm.Cond.fieldLink "BestPair$Dream" (15 : Nat) "BestPair$Dream" "door" "LBestPair$Door;") ∈ wAll := wAll_2 35 rfl rfl
theorem fl_X3_9 : (Jvm.Cond.fieldLink "BestPair$Dream" (9 : Nat) "BestPair$Dream" "best" "[I") ∈ wAll := wAll_2 36 rfl rfl
theorem ml_X11_95 : (Jvm.Cond.methodLink "BestPair" (95 : Nat) ({ cls := "BestPair$Future", name := "<init>", desc := "(LBestPair$People;LBestPair$Stand;LBestPair$Leaving;)V" } : Jvm.MethodName)) ∈ wAll := wAll_2 44 rfl rfl
theorem im_X4_init : (Jvm.Cond.instanceMethod ({ cls := "BestPair$Future", name := "<init>", desc := "(LBestPair$People;LBestPair$Stand;LBestPair$Leaving;)V" } : Jvm.MethodName)) ∈ wAll := wAll_2 45 rfl rfl
theorem cd_X4_init : (Jvm.Cond.code ({ cls := "BestPair$Future", name := "<init>", desc := "(LBestPair$People;LBestPair$Stand;LBestPair$Leaving;)V" } : Jvm.MethodName) prog_6_method_1_code (4 : Nat) (Option.none : Option Jvm.ClassFile.FieldType)) ∈ wAll := wAll_2 46 rfl rfl
theorem ml_X4_3 : (Jvm.Cond.methodLink "BestPair$Future" (3 : Nat) ({ cls := "java/lang/Object", name := "<init>", desc := "()V" } : Jvm.MethodName)) ∈ wAll := wAll_2 47 rfl rfl
theorem fl_X4_24 : (Jvm.Cond.fieldLink "BestPair$Future" (24 : Nat) "BestPair$Future" "people" "LBestPair$People;") ∈ wAll := wAll_2 48 rfl rfl
theorem fl_X4_28 : (Jvm.Cond.fieldLink "BestPair$Future" (28 : Nat) "BestPair$Future" "stand" "LBestPair$Stand;") ∈ wAll := wAll_2 49 rfl rfl
theorem fl_X4_32 : (Jvm.Cond.fieldLink "BestPair$Future" (32 : Nat) "BestPair$Future" "leaving" "LBestPair$Leaving;") ∈ wAll := wAll_2 50 rfl rfl
theorem fl_X4_11 : (Jvm.Cond.fieldLink "BestPair$Future" (11 : Nat) "BestPair$Future" "kinds" "[I") ∈ wAll := wAll_2 51 rfl rfl
theorem fl_X4_15 : (Jvm.Cond.fieldLink "BestPair$Future" (15 : Nat) "BestPair$Future" "ways" "[I") ∈ wAll := wAll_2 52 rfl rfl
theorem fl_X4_64 : (Jvm.Cond.fieldLink "BestPair$Future" (64 : Nat) "BestPair$Future" "kindCount" "I") ∈ wAll := wAll_2 53 rfl rfl
theorem fl_X4_18 : (Jvm.Cond.fieldLink "BestPair$Future" (18 : Nat) "BestPair$Future" "steps" "[I") ∈ wAll := wAll_2 54 rfl rfl
theorem fl_X4_21 : (Jvm.Cond.fieldLink "BestPair$Future" (21 : Nat) "BestPair$Future" "queue" "[I") ∈ wAll := wAll_2 55 rfl rfl
theorem fl_X4_105 : (Jvm.Cond.fieldLink "BestPair$Future" (105 : Nat) "BestPair$Future" "queued" "I") ∈ wAll := wAll_2 56 rfl rfl
theorem fl_X11_12 : (Jvm.Cond.fieldLink "BestPair" (12 : Nat) "BestPair" "tape" "LBestPair$Tape;") ∈ wAll := wAll_2 76 rfl rfl
theorem fl_X11_19 : (Jvm.Cond.fieldLink "BestPair" (19 : Nat) "BestPair" "people" "LBestPair$People;") ∈ wAll := wAll_2 77 rfl rfl
theorem fl_X11_23 : (Jvm.Cond.fieldLink "BestPair" (23 : Nat) "BestPair" "draft" "LBestPair$People;") ∈ wAll := wAll_2 78 rfl rfl
theorem fl_X11_31 : (Jvm.Cond.fieldLink "BestPair" (31 : Nat) "BestPair" "ruleReader" "LBestPair$RuleReader;") ∈ wAll := wAll_2 79 rfl rfl
theorem fl_X11_37 : (Jvm.Cond.fieldLink "BestPair" (37 : Nat) "BestPair" "rules" "[LBestPair$Rule;") ∈ wAll := wAll_2 80 rfl rfl
theorem fl_X11_124 : (Jvm.Cond.fieldLink "BestPair" (124 : Nat) "BestPair" "ruleCount" "I") ∈ wAll := wAll_2 81 rfl rfl
theorem fl_X11_45 : (Jvm.Cond.fieldLink "BestPair" (45 : Nat) "BestPair" "stand" "LBestPair$Stand;") ∈ wAll := wAll_2 82 rfl rfl
theorem fl_X11_49 : (Jvm.Cond.fieldLink "BestPair" (49 : Nat) "BestPair" "kept" "LBestPair$Stand;") ∈ wAll := wAll_2 83 rfl rfl
theorem fl_X11_140 : (Jvm.Cond.fieldLink "BestPair" (140 : Nat) "BestPair" "hasImage" "Z") ∈ wAll := wAll_2 84 rfl rfl
theorem fl_X11_55 : (Jvm.Cond.fieldLink "BestPair" (55 : Nat) "BestPair" "diary" "LBestPair$Diary;") ∈ wAll := wAll_2 85 rfl rfl
theorem fl_X11_64 : (Jvm.Cond.fieldLink "BestPair" (64 : Nat) "BestPair" "door" "LBestPair$Door;") ∈ wAll := wAll_2 86 rfl rfl
theorem fl_X11_73 : (Jvm.Cond.fieldLink "BestPair" (73 : Nat) "BestPair" "leaving" "LBestPair$Leaving;") ∈ wAll := wAll_2 87 rfl rfl
theorem fl_X11_82 : (Jvm.Cond.fieldLink "BestPair" (82 : Nat) "BestPair" "contest" "LBestPair$Contest;") ∈ wAll := wAll_2 88 rfl rfl
theorem fl_X11_89 : (Jvm.Cond.fieldLink "BestPair" (89 : Nat) "BestPair" "dreamer" "LBestPair$Dream;") ∈ wAll := wAll_2 89 rfl rfl
theorem fl_X11_98 : (Jvm.Cond.fieldLink "BestPair" (98 : Nat) "BestPair" "future" "LBestPair$Future;") ∈ wAll := wAll_2 90 rfl rfl
theorem fl_X11_264 : (Jvm.Cond.fieldLink "BestPair" (264 : Nat) "BestPair" "drawn" "J") ∈ wAll := wAll_2 91 rfl rfl
theorem ml_L_19 : (Jvm.Cond.methodLink "BestPairLaw" (19 : Nat) ({ cls := "BestPair", name := "feed", desc := "(IIIII)I" } : Jvm.MethodName)) ∈ wAll := wAll_2 125 rfl rfl
theorem im_X11_feed : (Jvm.Cond.instanceMethod ({ cls := "BestPair", name := "feed", desc := "(IIIII)I" } : Jvm.MethodName)) ∈ wAll := wAll_2 126 rfl rfl
theorem se_X11_feed : (Jvm.Cond.selects "BestPair" ({ cls := "BestPair", name := "feed", desc := "(IIIII)I" } : Jvm.MethodName) ({ cls := "BestPair", name := "feed", desc := "(IIIII)I" } : Jvm.MethodName)) ∈ wAll := wAll_2 127 rfl rfl
theorem cd_X11_feed : (Jvm.Cond.code ({ cls := "BestPair", name := "feed", desc := "(IIIII)I" } : Jvm.MethodName) prog_1_method_2_code (7 : Nat) (Option.some Jvm.ClassFile.FieldType.int)) ∈ wAll := wAll_2 128 rfl rfl
theorem ml_X11_102 : (Jvm.Cond.methodLink "BestPair" (102 : Nat) ({ cls := "BestPair$Tape", name := "bytesIn", desc := "(I)I" } : Jvm.MethodName)) ∈ wAll := wAll_2 129 rfl rfl
theorem st_X10_bytesIn : (Jvm.Cond.static ({ cls := "BestPair$Tape", name := "bytesIn", desc := "(I)I" } : Jvm.MethodName)) ∈ wAll := wAll_2 130 rfl rfl
theorem cd_X10_bytesIn : (Jvm.Cond.code ({ cls := "BestPair$Tape", name := "bytesIn", desc := "(I)I" } : Jvm.MethodName) prog_12_method_2_code (3 : Nat) (Option.some Jvm.ClassFile.FieldType.int)) ∈ wAll := wAll_2 131 rfl rfl
theorem ml_X11_110 : (Jvm.Cond.methodLink "BestPair" (110 : Nat) ({ cls := "BestPair$Tape", name := "put", desc := "(I)V" } : Jvm.MethodName)) ∈ wAll := wAll_2 132 rfl rfl
theorem im_X10_put : (Jvm.Cond.instanceMethod ({ cls := "BestPair$Tape", name := "put", desc := "(I)V" } : Jvm.MethodName)) ∈ wAll := wAll_2 133 rfl rfl
theorem se_X10_put : (Jvm.Cond.selects "BestPair$Tape" ({ cls := "BestPair$Tape", name := "put", desc := "(I)V" } : Jvm.MethodName) ({ cls := "BestPair$Tape", name := "put", desc := "(I)V" } : Jvm.MethodName)) ∈ wAll := wAll_2 134 rfl rfl
theorem cd_X10_put : (Jvm.Cond.code ({ cls := "BestPair$Tape", name := "put", desc := "(I)V" } : Jvm.MethodName) prog_12_method_3_code (4 : Nat) (Option.none : Option Jvm.ClassFile.FieldType)) ∈ wAll := wAll_2 135 rfl rfl
theorem ml_L_24 : (Jvm.Cond.methodLink "BestPairLaw" (24 : Nat) ({ cls := "BestPair", name := "end", desc := "(I)Z" } : Jvm.MethodName)) ∈ wAll := wAll_2 136 rfl rfl
theorem im_X11_end : (Jvm.Cond.instanceMethod ({ cls := "BestPair", name := "end", desc := "(I)Z" } : Jvm.MethodName)) ∈ wAll := wAll_2 137 rfl rfl
theorem se_X11_end : (Jvm.Cond.selects "BestPair" ({ cls := "BestPair", name := "end", desc := "(I)Z" } : Jvm.MethodName) ({ cls := "BestPair", name := "end", desc := "(I)Z" } : Jvm.MethodName)) ∈ wAll := wAll_2 138 rfl rfl
theorem cd_X11_end : (Jvm.Cond.code ({ cls := "BestPair", name := "end", desc := "(I)Z" } : Jvm.MethodName) prog_1_method_3_code (2 : Nat) (Option.some Jvm.ClassFile.FieldType.boolean)) ∈ wAll := wAll_2 139 rfl rfl
theorem ml_L_29 : (Jvm.Cond.methodLink "BestPairLaw" (29 : Nat) ({ cls := "BestPair", name := "fault", desc := "(I)I" } : Jvm.MethodName)) ∈ wAll := wAll_2 140 rfl rfl
theorem im_X11_fault : (Jvm.Cond.instanceMethod ({ cls := "BestPair", name := "fault", desc := "(I)I" } : Jvm.MethodName)) ∈ wAll := wAll_2 141 rfl rfl
theorem se_X11_fault : (Jvm.Cond.selects "BestPair" ({ cls := "BestPair", name := "fault", desc := "(I)I" } : Jvm.MethodName) ({ cls := "BestPair", name := "fault", desc := "(I)I" } : Jvm.MethodName)) ∈ wAll := wAll_2 142 rfl rfl
theorem cd_X11_fault : (Jvm.Cond.code ({ cls := "BestPair", name := "fault", desc := "(I)I" } : Jvm.MethodName) prog_1_method_4_code (2 : Nat) (Option.some Jvm.ClassFile.FieldType.int)) ∈ wAll := wAll_2 143 rfl rfl
theorem ml_X11_114 : (Jvm.Cond.methodLink "BestPair" (114 : Nat) ({ cls := "BestPair$People", name := "read", desc := "(LBestPair$Tape;)I" } : Jvm.MethodName)) ∈ wAll := wAll_2 144 rfl rfl
theorem im_X6_read : (Jvm.Cond.instanceMethod ({ cls := "BestPair$People", name := "read", desc := "(LBestPair$Tape;)I" } : Jvm.MethodName)) ∈ wAll := wAll_2 145 rfl rfl
theorem se_X6_read : (Jvm.Cond.selects "BestPair$People" ({ cls := "BestPair$People", name := "read", desc := "(LBestPair$Tape;)I" } : Jvm.MethodName) ({ cls := "BestPair$People", name := "read", desc := "(LBestPair$Tape;)I" } : Jvm.MethodName)) ∈ wAll := wAll_2 146 rfl rfl
theorem cd_X6_read : (Jvm.Cond.code ({ cls := "BestPair$People", name := "read", desc := "(LBestPair$Tape;)I" } : Jvm.MethodName) prog_8_method_5_code (3 : Nat) (Option.some Jvm.ClassFile.FieldType.int)) ∈ wAll := wAll_2 147 rfl rfl
theorem ml_X6_43 : (Jvm.Cond.methodLink "BestPair$People" (43 : Nat) ({ cls := "BestPair$People", name := "readPerson", desc := "(LBestPair$Tape;)Z" } : Jvm.MethodName)) ∈ wAll := wAll_2 148 rfl rfl
theorem im_X6_readPerson : (Jvm.Cond.instanceMethod ({ cls := "BestPair$People", name := "readPerson", desc := "(LBestPair$Tape;)Z" } : Jvm.MethodName)) ∈ wAll := wAll_2 150 rfl rfl
theorem cd_X6_readPerson : (Jvm.Cond.code ({ cls := "BestPair$People", name := "readPerson", desc := "(LBestPair$Tape;)Z" } : Jvm.MethodName) prog_8_method_6_code (5 : Nat) (Option.some Jvm.ClassFile.FieldType.boolean)) ∈ wAll := wAll_2 151 rfl rfl
theorem ml_X6_47 : (Jvm.Cond.methodLink "BestPair$People" (47 : Nat) ({ cls := "BestPair$Tape", name := "pass", desc := "(I)Z" } : Jvm.MethodName)) ∈ wAll := wAll_2 152 rfl rfl
theorem im_X10_pass : (Jvm.Cond.instanceMethod ({ cls := "BestPair$Tape", name := "pass", desc := "(I)Z" } : Jvm.MethodName)) ∈ wAll := wAll_2 153 rfl rfl
theorem se_X10_pass : (Jvm.Cond.selects "BestPair$Tape" ({ cls := "BestPair$Tape", name := "pass", desc := "(I)Z" } : Jvm.MethodName) ({ cls := "BestPair$Tape", name := "pass", desc := "(I)Z" } : Jvm.MethodName)) ∈ wAll := wAll_2 154 rfl rfl
theorem cd_X10_pass : (Jvm.Cond.code ({ cls := "BestPair$Tape", name := "pass", desc := "(I)Z" } : Jvm.MethodName) prog_12_method_5_code (2 : Nat) (Option.some Jvm.ClassFile.FieldType.boolean)) ∈ wAll := wAll_2 155 rfl rfl
theorem ml_X10_22 : (Jvm.Cond.methodLink "BestPair$Tape" (22 : Nat) ({ cls := "BestPair$Tape", name := "next", desc := "()I" } : Jvm.MethodName)) ∈ wAll := wAll_2 156 rfl rfl
theorem im_X10_next : (Jvm.Cond.instanceMethod ({ cls := "BestPair$Tape", name := "next", desc := "()I" } : Jvm.MethodName)) ∈ wAll := wAll_2 157 rfl rfl
theorem se_X10_next : (Jvm.Cond.selects "BestPair$Tape" ({ cls := "BestPair$Tape", name := "next", desc := "()I" } : Jvm.MethodName) ({ cls := "BestPair$Tape", name := "next", desc := "()I" } : Jvm.MethodName)) ∈ wAll := wAll_2 158 rfl rfl
theorem cd_X10_next : (Jvm.Cond.code ({ cls := "BestPair$Tape", name := "next", desc := "()I" } : Jvm.MethodName) prog_12_method_4_code (1 : Nat) (Option.some Jvm.ClassFile.FieldType.int)) ∈ wAll := wAll_2 159 rfl rfl
theorem fn_X6_55 : (Jvm.Cond.fieldLinkNest "BestPair$People" (55 : Nat) "BestPair" "ITEM_WITHOUT" "[I" "BestPair") ∈ nstL := nstL_2 160 rfl rfl
theorem ml_X6_22 : (Jvm.Cond.methodLink "BestPair$People" (22 : Nat) ({ cls := "java/lang/System", name := "arraycopy", desc := "(Ljava/lang/Object;ILjava/lang/Object;II)V" } : Jvm.MethodName)) ∈ wAll := wAll_2 162 rfl rfl
theorem st_java_lang_System_arraycopy : (Jvm.Cond.static ({ cls := "java/lang/System", name := "arraycopy", desc := "(Ljava/lang/Object;ILjava/lang/Object;II)V" } : Jvm.MethodName)) ∈ wAll := wAll_2 163 rfl rfl
theorem nat_arraycopy : (Jvm.Cond.native ({ cls := "java/lang/System", name := "arraycopy", desc := "(Ljava/lang/Object;ILjava/lang/Object;II)V" } : Jvm.MethodName)) ∈ wAll := wAll_2 164 rfl rfl
theorem ml_X6_51 : (Jvm.Cond.methodLink "BestPair$People" (51 : Nat) ({ cls := "BestPair$Tape", name := "next", desc := "()I" } : Jvm.MethodName)) ∈ wAll := wAll_2 166 rfl rfl
theorem mn_X6_60 : (Jvm.Cond.methodLinkNest "BestPair$People" (60 : Nat) ({ cls := "BestPair", name := "indexIn", desc := "(Ljava/lang/String;I)I" } : Jvm.MethodName) "BestPair") ∈ nstL := nstL_2 167 rfl rfl
theorem st_X11_indexIn : (Jvm.Cond.static ({ cls := "BestPair", name := "indexIn", desc := "(Ljava/lang/String;I)I" } : Jvm.MethodName)) ∈ wAll := wAll_2 168 rfl rfl
theorem cd_X11_indexIn : (Jvm.Cond.code ({ cls := "BestPair", name := "indexIn", desc := "(Ljava/lang/String;I)I" } : Jvm.MethodName) prog_1_method_53_code (3 : Nat) (Option.some Jvm.ClassFile.FieldType.int)) ∈ wAll := wAll_2 169 rfl rfl
theorem ml_X11_362 : (Jvm.Cond.methodLink "BestPair" (362 : Nat) ({ cls := "java/lang/String", name := "length", desc := "()I" } : Jvm.MethodName)) ∈ wAll := wAll_2 170 rfl rfl
theorem ml_X11_366 : (Jvm.Cond.methodLink "BestPair" (366 : Nat) ({ cls := "java/lang/String", name := "charAt", desc := "(I)C" } : Jvm.MethodName)) ∈ wAll := wAll_2 171 rfl rfl
theorem im_J0_charAt_5068e : (Jvm.Cond.instanceMethod ({ cls := "java/lang/String", name := "charAt", desc := "(I)C" } : Jvm.MethodName)) ∈ wAll := wAll_2 172 rfl rfl
theorem se_J0_charAt_5068e : (Jvm.Cond.selects "java/lang/String" ({ cls := "java/lang/String", name := "charAt", desc := "(I)C" } : Jvm.MethodName) ({ cls := "java/lang/String", name := "charAt", desc := "(I)C" } : Jvm.MethodName)) ∈ wAll := wAll_2 173 rfl rfl
theorem cd_J0_charAt_5068e : (Jvm.Cond.code ({ cls := "java/lang/String", name := "charAt", desc := "(I)C" } : Jvm.MethodName) prog_22_method_56_code (2 : Nat) (Option.some Jvm.ClassFile.FieldType.char)) ∈ wAll := wAll_2 174 rfl rfl
theorem ml_J0_492 : (Jvm.Cond.methodLink "java/lang/String" (492 : Nat) ({ cls := "java/lang/String", name := "isLatin1", desc := "()Z" } : Jvm.MethodName)) ∈ wAll := wAll_2 175 rfl rfl
theorem im_J0_isLatin1_aae02 : (Jvm.Cond.instanceMethod ({ cls := "java/lang/String", name := "isLatin1", desc := "()Z" } : Jvm.MethodName)) ∈ wAll := wAll_2 176 rfl rfl
theorem se_J0_isLatin1_aae02 : (Jvm.Cond.selects "java/lang/String" ({ cls := "java/lang/String", name := "isLatin1", desc := "()Z" } : Jvm.MethodName) ({ cls := "java/lang/String", name := "isLatin1", desc := "()Z" } : Jvm.MethodName)) ∈ wAll := wAll_2 177 rfl rfl
theorem cd_J0_isLatin1_aae02 : (Jvm.Cond.code ({ cls := "java/lang/String", name := "isLatin1", desc := "()Z" } : Jvm.MethodName) prog_22_method_154_code (1 : Nat) (Option.some Jvm.ClassFile.FieldType.boolean)) ∈ wAll := wAll_2 178 rfl rfl
theorem ml_J0_495 : (Jvm.Cond.methodLink "java/lang/String" (495 : Nat) ({ cls := "java/lang/StringLatin1", name := "charAt", desc := "([BI)C" } : Jvm.MethodName)) ∈ wAll := wAll_2 179 rfl rfl
theorem st_J1_charAt_3b067 : (Jvm.Cond.static ({ cls := "java/lang/StringLatin1", name := "charAt", desc := "([BI)C" } : Jvm.MethodName)) ∈ wAll := wAll_2 180 rfl rfl
theorem cd_J1_charAt_3b067 : (Jvm.Cond.code ({ cls := "java/lang/StringLatin1", name := "charAt", desc := "([BI)C" } : Jvm.MethodName) prog_23_method_2_code (2 : Nat) (Option.some Jvm.ClassFile.FieldType.char)) ∈ wAll := wAll_2 181 rfl rfl
theorem ml_J1_9 : (Jvm.Cond.methodLink "java/lang/StringLatin1" (9 : Nat) ({ cls := "java/lang/String", name := "checkIndex", desc := "(II)V" } : Jvm.MethodName)) ∈ wAll := wAll_2 182 rfl rfl
theorem st_J0_checkIndex_df160 : (Jvm.Cond.static ({ cls := "java/lang/String", name := "checkIndex", desc := "(II)V" } : Jvm.MethodName)) ∈ wAll := wAll_2 183 rfl rfl
theorem cd_J0_checkIndex_df160 : (Jvm.Cond.code ({ cls := "java/lang/String", name := "checkIndex", desc := "(II)V" } : Jvm.MethodName) prog_22_method_155_code (2 : Nat) (Option.none : Option Jvm.ClassFile.FieldType)) ∈ wAll := wAll_2 184 rfl rfl
theorem fl_J0_1053 : (Jvm.Cond.fieldLink "java/lang/String" (1053 : Nat) "jdk/internal/util/Preconditions" "SIOOBE_FORMATTER" "Ljava/util/function/BiFunction;") ∈ wAll := wAll_2 185 rfl rfl
theorem ml_J0_1059 : (Jvm.Cond.methodLink "java/lang/String" (1059 : Nat) ({ cls := "jdk/internal/util/Preconditions", name := "checkIndex", desc := "(IILjava/util/function/BiFunction;)I" } : Jvm.MethodName)) ∈ wAll := wAll_2 187 rfl rfl
theorem st_J3_checkIndex_8e157 : (Jvm.Cond.static ({ cls := "jdk/internal/util/Preconditions", name := "checkIndex", desc := "(IILjava/util/function/BiFunction;)I" } : Jvm.MethodName)) ∈ wAll := wAll_2 188 rfl rfl
theorem cd_J3_checkIndex_8e157 : (Jvm.Cond.code ({ cls := "jdk/internal/util/Preconditions", name := "checkIndex", desc := "(IILjava/util/function/BiFunction;)I" } : Jvm.MethodName) prog_31_method_11_code (3 : Nat) (Option.some Jvm.ClassFile.FieldType.int)) ∈ wAll := wAll_2 189 rfl rfl
theorem ml_J0_498 : (Jvm.Cond.methodLink "java/lang/String" (498 : Nat) ({ cls := "java/lang/StringUTF16", name := "charAt", desc := "([BI)C" } : Jvm.MethodName)) ∈ wAll := wAll_2 190 rfl rfl
theorem st_J2_charAt_3b067 : (Jvm.Cond.static ({ cls := "java/lang/StringUTF16", name := "charAt", desc := "([BI)C" } : Jvm.MethodName)) ∈ wAll := wAll_2 191 rfl rfl
theorem cd_J2_charAt_3b067 : (Jvm.Cond.code ({ cls := "java/lang/StringUTF16", name := "charAt", desc := "([BI)C" } : Jvm.MethodName) prog_24_method_83_code (2 : Nat) (Option.some Jvm.ClassFile.FieldType.char)) ∈ wAll := wAll_2 192 rfl rfl
theorem ml_J2_67 : (Jvm.Cond.methodLink "java/lang/StringUTF16" (67 : Nat) ({ cls := "java/lang/StringUTF16", name := "checkIndex", desc := "(I[B)V" } : Jvm.MethodName)) ∈ wAll := wAll_2 193 rfl rfl
theorem st_J2_checkIndex_2214a : (Jvm.Cond.static ({ cls := "java/lang/StringUTF16", name := "checkIndex", desc := "(I[B)V" } : Jvm.MethodName)) ∈ wAll := wAll_2 194 rfl rfl
theorem cd_J2_checkIndex_2214a : (Jvm.Cond.code ({ cls := "java/lang/StringUTF16", name := "checkIndex", desc := "(I[B)V" } : Jvm.MethodName) prog_24_method_91_code (2 : Nat) (Option.none : Option Jvm.ClassFile.FieldType)) ∈ wAll := wAll_2 195 rfl rfl
theorem ml_J2_48 : (Jvm.Cond.methodLink "java/lang/StringUTF16" (48 : Nat) ({ cls := "java/lang/StringUTF16", name := "length", desc := "([B)I" } : Jvm.MethodName)) ∈ wAll := wAll_2 196 rfl rfl
theorem st_J2_length_9d52b : (Jvm.Cond.static ({ cls := "java/lang/StringUTF16", name := "length", desc := "([B)I" } : Jvm.MethodName)) ∈ wAll := wAll_2 197 rfl rfl
theorem cd_J2_length_9d52b : (Jvm.Cond.code ({ cls := "java/lang/StringUTF16", name := "length", desc := "([B)I" } : Jvm.MethodName) prog_24_method_6_code (1 : Nat) (Option.some Jvm.ClassFile.FieldType.int)) ∈ wAll := wAll_2 198 rfl rfl
theorem ml_J2_414 : (Jvm.Cond.methodLink "java/lang/StringUTF16" (414 : Nat) ({ cls := "java/lang/String", name := "checkIndex", desc := "(II)V" } : Jvm.MethodName)) ∈ wAll := wAll_2 199 rfl rfl
theorem ml_J2_71 : (Jvm.Cond.methodLink "java/lang/StringUTF16" (71 : Nat) ({ cls := "java/lang/StringUTF16", name := "getChar", desc := "([BI)C" } : Jvm.MethodName)) ∈ wAll := wAll_2 200 rfl rfl
theorem st_J2_getChar_3b067 : (Jvm.Cond.static ({ cls := "java/lang/StringUTF16", name := "getChar", desc := "([BI)C" } : Jvm.MethodName)) ∈ wAll := wAll_2 201 rfl rfl
theorem cd_J2_getChar_3b067 : (Jvm.Cond.code ({ cls := "java/lang/StringUTF16", name := "getChar", desc := "([BI)C" } : Jvm.MethodName) prog_24_method_5_code (2 : Nat) (Option.some Jvm.ClassFile.FieldType.char)) ∈ wAll := wAll_2 202 rfl rfl
theorem fl_J2_44 : (Jvm.Cond.fieldLink "java/lang/StringUTF16" (44 : Nat) "java/lang/StringUTF16" "$assertionsDisabled" "Z") ∈ wAll := wAll_2 203 rfl rfl
theorem fl_J2_59 : (Jvm.Cond.fieldLink "java/lang/StringUTF16" (59 : Nat) "java/lang/StringUTF16" "HI_BYTE_SHIFT" "I") ∈ wAll := wAll_2 205 rfl rfl
theorem fl_J2_63 : (Jvm.Cond.fieldLink "java/lang/StringUTF16" (63 : Nat) "java/lang/StringUTF16" "LO_BYTE_SHIFT" "I") ∈ wAll := wAll_2 207 rfl rfl
theorem mn_X6_64 : (Jvm.Cond.methodLinkNest "BestPair$People" (64 : Nat) ({ cls := "BestPair", name := "isIn", desc := "(II)Z" } : Jvm.MethodName) "BestPair") ∈ nstL := nstL_2 209 rfl rfl
theorem st_X11_isIn : (Jvm.Cond.static ({ cls := "BestPair", name := "isIn", desc := "(II)Z" } : Jvm.MethodName)) ∈ wAll := wAll_2 210 rfl rfl
theorem cd_X11_isIn : (Jvm.Cond.code ({ cls := "BestPair", name := "isIn", desc := "(II)Z" } : Jvm.MethodName) prog_1_method_51_code (2 : Nat) (Option.some Jvm.ClassFile.FieldType.boolean)) ∈ wAll := wAll_2 211 rfl rfl
theorem ml_X6_68 : (Jvm.Cond.methodLink "BestPair$People" (68 : Nat) ({ cls := "BestPair$People", name := "readItem", desc := "(LBestPair$Tape;I)Z" } : Jvm.MethodName)) ∈ wAll := wAll_2 212 rfl rfl
theorem im_X6_readItem : (Jvm.Cond.instanceMethod ({ cls := "BestPair$People", name := "readItem", desc := "(LBestPair$Tape;I)Z" } : Jvm.MethodName)) ∈ wAll := wAll_2 214 rfl rfl
theorem cd_X6_readItem : (Jvm.Cond.code ({ cls := "BestPair$People", name := "readItem", desc := "(LBestPair$Tape;I)Z" } : Jvm.MethodName) prog_8_method_7_code (4 : Nat) (Option.some Jvm.ClassFile.FieldType.boolean)) ∈ wAll := wAll_2 215 rfl rfl
theorem ml_X6_72 : (Jvm.Cond.methodLink "BestPair$People" (72 : Nat) ({ cls := "BestPair$Tape", name := "readNumber", desc := "(I)I" } : Jvm.MethodName)) ∈ wAll := wAll_2 216 rfl rfl
theorem im_X10_readNumber : (Jvm.Cond.instanceMethod ({ cls := "BestPair$Tape", name := "readNumber", desc := "(I)I" } : Jvm.MethodName)) ∈ wAll := wAll_2 217 rfl rfl
theorem se_X10_readNumber : (Jvm.Cond.selects "BestPair$Tape" ({ cls := "BestPair$Tape", name := "readNumber", desc := "(I)I" } : Jvm.MethodName) ({ cls := "BestPair$Tape", name := "readNumber", desc := "(I)I" } : Jvm.MethodName)) ∈ wAll := wAll_2 218 rfl rfl
theorem cd_X10_readNumber : (Jvm.Cond.code ({ cls := "BestPair$Tape", name := "readNumber", desc := "(I)I" } : Jvm.MethodName) prog_12_method_6_code (5 : Nat) (Option.some Jvm.ClassFile.FieldType.int)) ∈ wAll := wAll_2 219 rfl rfl
theorem mn_X10_26 : (Jvm.Cond.methodLinkNest "BestPair$Tape" (26 : Nat) ({ cls := "BestPair", name := "isDigit", desc := "(I)Z" } : Jvm.MethodName) "BestPair") ∈ nstL := nstL_2 220 rfl rfl
theorem st_X11_isDigit : (Jvm.Cond.static ({ cls := "BestPair", name := "isDigit", desc := "(I)Z" } : Jvm.MethodName)) ∈ wAll := wAll_2 221 rfl rfl
theorem cd_X11_isDigit : (Jvm.Cond.code ({ cls := "BestPair", name := "isDigit", desc := "(I)Z" } : Jvm.MethodName) prog_1_method_52_code (1 : Nat) (Option.some Jvm.ClassFile.FieldType.boolean)) ∈ wAll := wAll_2 222 rfl rfl
theorem fn_X6_76 : (Jvm.Cond.fieldLinkNest "BestPair$People" (76 : Nat) "BestPair" "ITEM_LEAST" "[I" "BestPair") ∈ nstL := nstL_2 223 rfl rfl
theorem fn_X6_79 : (Jvm.Cond.fieldLinkNest "BestPair$People" (79 : Nat) "BestPair" "ITEM_MOST" "[I" "BestPair") ∈ nstL := nstL_2 225 rfl rfl
theorem ml_X11_118 : (Jvm.Cond.methodLink "BestPair" (118 : Nat) ({ cls := "BestPair$RuleReader", name := "read", desc := "()I" } : Jvm.MethodName)) ∈ wAll := wAll_2 227 rfl rfl
theorem im_X8_read : (Jvm.Cond.instanceMethod ({ cls := "BestPair$RuleReader", name := "read", desc := "()I" } : Jvm.MethodName)) ∈ wAll := wAll_2 228 rfl rfl
theorem se_X8_read : (Jvm.Cond.selects "BestPair$RuleReader" ({ cls := "BestPair$RuleReader", name := "read", desc := "()I" } : Jvm.MethodName) ({ cls := "BestPair$RuleReader", name := "read", desc := "()I" } : Jvm.MethodName)) ∈ wAll := wAll_2 229 rfl rfl
theorem cd_X8_read : (Jvm.Cond.code ({ cls := "BestPair$RuleReader", name := "read", desc := "()I" } : Jvm.MethodName) prog_10_method_2_code (2 : Nat) (Option.some Jvm.ClassFile.FieldType.int)) ∈ wAll := wAll_2 230 rfl rfl
theorem ml_X8_28 : (Jvm.Cond.methodLink "BestPair$RuleReader" (28 : Nat) ({ cls := "BestPair$RuleReader", name := "readClause", desc := "()Z" } : Jvm.MethodName)) ∈ wAll := wAll_2 231 rfl rfl
theorem im_X8_readClause : (Jvm.Cond.instanceMethod ({ cls := "BestPair$RuleReader", name := "readClause", desc := "()Z" } : Jvm.MethodName)) ∈ wAll := wAll_2 233 rfl rfl
theorem cd_X8_readClause : (Jvm.Cond.code ({ cls := "BestPair$RuleReader", name := "readClause", desc := "()Z" } : Jvm.MethodName) prog_10_method_4_code (2 : Nat) (Option.some Jvm.ClassFile.FieldType.boolean)) ∈ wAll := wAll_2 234 rfl rfl
theorem ml_X8_36 : (Jvm.Cond.methodLink "BestPair$RuleReader" (36 : Nat) ({ cls := "BestPair$Tape", name := "pass", desc := "(I)Z" } : Jvm.MethodName)) ∈ wAll := wAll_2 235 rfl rfl
theorem ml_X8_40 : (Jvm.Cond.methodLink "BestPair$RuleReader" (40 : Nat) ({ cls := "BestPair$Tape", name := "next", desc := "()I" } : Jvm.MethodName)) ∈ wAll := wAll_2 236 rfl rfl
theorem ml_X8_44 : (Jvm.Cond.methodLink "BestPair$RuleReader" (44 : Nat) ({ cls := "BestPair$RuleReader", name := "readCondition", desc := "(I)Z" } : Jvm.MethodName)) ∈ wAll := wAll_2 237 rfl rfl
theorem im_X8_readCondition : (Jvm.Cond.instanceMethod ({ cls := "BestPair$RuleReader", name := "readCondition", desc := "(I)Z" } : Jvm.MethodName)) ∈ wAll := wAll_2 239 rfl rfl
theorem cd_X8_readCondition : (Jvm.Cond.code ({ cls := "BestPair$RuleReader", name := "readCondition", desc := "(I)Z" } : Jvm.MethodName) prog_10_method_6_code (2 : Nat) (Option.some Jvm.ClassFile.FieldType.boolean)) ∈ wAll := wAll_3 0 rfl rfl
theorem ml_X8_65 : (Jvm.Cond.methodLink "BestPair$RuleReader" (65 : Nat) ({ cls := "BestPair$RuleReader", name := "readTruth", desc := "(I)Z" } : Jvm.MethodName)) ∈ wAll := wAll_3 1 rfl rfl
theorem im_X8_readTruth : (Jvm.Cond.instanceMethod ({ cls := "BestPair$RuleReader", name := "readTruth", desc := "(I)Z" } : Jvm.MethodName)) ∈ wAll := wAll_3 3 rfl rfl
theorem cd_X8_readTruth : (Jvm.Cond.code ({ cls := "BestPair$RuleReader", name := "readTruth", desc := "(I)Z" } : Jvm.MethodName) prog_10_method_8_code (2 : Nat) (Option.some Jvm.ClassFile.FieldType.boolean)) ∈ wAll := wAll_3 4 rfl rfl
theorem ml_X8_68 : (Jvm.Cond.methodLink "BestPair$RuleReader" (68 : Nat) ({ cls := "BestPair$RuleReader", name := "readUnit", desc := "(I)Z" } : Jvm.MethodName)) ∈ wAll := wAll_3 5 rfl rfl
theorem im_X8_readUnit : (Jvm.Cond.instanceMethod ({ cls := "BestPair$RuleReader", name := "readUnit", desc := "(I)Z" } : Jvm.MethodName)) ∈ wAll := wAll_3 7 rfl rfl
theorem cd_X8_readUnit : (Jvm.Cond.code ({ cls := "BestPair$RuleReader", name := "readUnit", desc := "(I)Z" } : Jvm.MethodName) prog_10_method_10_code (3 : Nat) (Option.some Jvm.ClassFile.FieldType.boolean)) ∈ wAll := wAll_3 8 rfl rfl
theorem ml_X8_50 : (Jvm.Cond.methodLink "BestPair$RuleReader" (50 : Nat) ({ cls := "BestPair$RuleReader", name := "readSum", desc := "(I)Z" } : Jvm.MethodName)) ∈ wAll := wAll_3 9 rfl rfl
theorem im_X8_readSum : (Jvm.Cond.instanceMethod ({ cls := "BestPair$RuleReader", name := "readSum", desc := "(I)Z" } : Jvm.MethodName)) ∈ wAll := wAll_3 11 rfl rfl
theorem cd_X8_readSum : (Jvm.Cond.code ({ cls := "BestPair$RuleReader", name := "readSum", desc := "(I)Z" } : Jvm.MethodName) prog_10_method_13_code (4 : Nat) (Option.some Jvm.ClassFile.FieldType.boolean)) ∈ wAll := wAll_3 12 rfl rfl
theorem ml_X8_71 : (Jvm.Cond.methodLink "BestPair$RuleReader" (71 : Nat) ({ cls := "BestPair$RuleReader", name := "readTerm", desc := "(I)Z" } : Jvm.MethodName)) ∈ wAll := wAll_3 13 rfl rfl
theorem im_X8_readTerm : (Jvm.Cond.instanceMethod ({ cls := "BestPair$RuleReader", name := "readTerm", desc := "(I)Z" } : Jvm.MethodName)) ∈ wAll := wAll_3 15 rfl rfl
theorem cd_X8_readTerm : (Jvm.Cond.code ({ cls := "BestPair$RuleReader", name := "readTerm", desc := "(I)Z" } : Jvm.MethodName) prog_10_method_14_code (4 : Nat) (Option.some Jvm.ClassFile.FieldType.boolean)) ∈ wAll := wAll_3 16 rfl rfl
theorem ml_X8_74 : (Jvm.Cond.methodLink "BestPair$RuleReader" (74 : Nat) ({ cls := "BestPair$RuleReader", name := "readAtom", desc := "(I)Z" } : Jvm.MethodName)) ∈ wAll := wAll_3 17 rfl rfl
theorem im_X8_readAtom : (Jvm.Cond.instanceMethod ({ cls := "BestPair$RuleReader", name := "readAtom", desc := "(I)Z" } : Jvm.MethodName)) ∈ wAll := wAll_3 19 rfl rfl
theorem cd_X8_readAtom : (Jvm.Cond.code ({ cls := "BestPair$RuleReader", name := "readAtom", desc := "(I)Z" } : Jvm.MethodName) prog_10_method_15_code (4 : Nat) (Option.some Jvm.ClassFile.FieldType.boolean)) ∈ wAll := wAll_3 20 rfl rfl
theorem mn_X8_77 : (Jvm.Cond.methodLinkNest "BestPair$RuleReader" (77 : Nat) ({ cls := "BestPair", name := "isDigit", desc := "(I)Z" } : Jvm.MethodName) "BestPair") ∈ nstL := nstL_3 21 rfl rfl
theorem ml_X8_80 : (Jvm.Cond.methodLink "BestPair$RuleReader" (80 : Nat) ({ cls := "BestPair$Tape", name := "readNumber", desc := "(I)I" } : Jvm.MethodName)) ∈ wAll := wAll_3 22 rfl rfl
theorem ml_X8_32 : (Jvm.Cond.methodLink "BestPair$RuleReader" (32 : Nat) ({ cls := "BestPair$RuleReader", name := "write", desc := "(I)V" } : Jvm.MethodName)) ∈ wAll := wAll_3 23 rfl rfl
theorem im_X8_write : (Jvm.Cond.instanceMethod ({ cls := "BestPair$RuleReader", name := "write", desc := "(I)V" } : Jvm.MethodName)) ∈ wAll := wAll_3 25 rfl rfl
theorem cd_X8_write : (Jvm.Cond.code ({ cls := "BestPair$RuleReader", name := "write", desc := "(I)V" } : Jvm.MethodName) prog_10_method_3_code (2 : Nat) (Option.none : Option Jvm.ClassFile.FieldType)) ∈ wAll := wAll_3 26 rfl rfl
theorem mn_X8_86 : (Jvm.Cond.methodLinkNest "BestPair$RuleReader" (86 : Nat) ({ cls := "BestPair", name := "indexIn", desc := "(Ljava/lang/String;I)I" } : Jvm.MethodName) "BestPair") ∈ nstL := nstL_3 28 rfl rfl
theorem ml_X8_56 : (Jvm.Cond.methodLink "BestPair$RuleReader" (56 : Nat) ({ cls := "BestPair$RuleReader", name := "readRelation", desc := "(I)Z" } : Jvm.MethodName)) ∈ wAll := wAll_3 29 rfl rfl
theorem im_X8_readRelation : (Jvm.Cond.instanceMethod ({ cls := "BestPair$RuleReader", name := "readRelation", desc := "(I)Z" } : Jvm.MethodName)) ∈ wAll := wAll_3 31 rfl rfl
theorem cd_X8_readRelation : (Jvm.Cond.code ({ cls := "BestPair$RuleReader", name := "readRelation", desc := "(I)Z" } : Jvm.MethodName) prog_10_method_12_code (3 : Nat) (Option.some Jvm.ClassFile.FieldType.boolean)) ∈ wAll := wAll_3 32 rfl rfl
theorem ml_X8_53 : (Jvm.Cond.methodLink "BestPair$RuleReader" (53 : Nat) ({ cls := "BestPair$RuleReader", name := "isRelation", desc := "(I)Z" } : Jvm.MethodName)) ∈ wAll := wAll_3 33 rfl rfl
theorem st_X8_isRelation : (Jvm.Cond.static ({ cls := "BestPair$RuleReader", name := "isRelation", desc := "(I)Z" } : Jvm.MethodName)) ∈ wAll := wAll_3 34 rfl rfl
theorem cd_X8_isRelation : (Jvm.Cond.code ({ cls := "BestPair$RuleReader", name := "isRelation", desc := "(I)Z" } : Jvm.MethodName) prog_10_method_11_code (1 : Nat) (Option.some Jvm.ClassFile.FieldType.boolean)) ∈ wAll := wAll_3 35 rfl rfl
theorem ml_X8_59 : (Jvm.Cond.methodLink "BestPair$RuleReader" (59 : Nat) ({ cls := "BestPair$RuleReader", name := "readMoreUnits", desc := "(I)Z" } : Jvm.MethodName)) ∈ wAll := wAll_3 36 rfl rfl
theorem im_X8_readMoreUnits : (Jvm.Cond.instanceMethod ({ cls := "BestPair$RuleReader", name := "readMoreUnits", desc := "(I)Z" } : Jvm.MethodName)) ∈ wAll := wAll_3 38 rfl rfl
theorem cd_X8_readMoreUnits : (Jvm.Cond.code ({ cls := "BestPair$RuleReader", name := "readMoreUnits", desc := "(I)Z" } : Jvm.MethodName) prog_10_method_9_code (3 : Nat) (Option.some Jvm.ClassFile.FieldType.boolean)) ∈ wAll := wAll_3 39 rfl rfl
theorem ml_X8_62 : (Jvm.Cond.methodLink "BestPair$RuleReader" (62 : Nat) ({ cls := "BestPair$RuleReader", name := "readMoreTruths", desc := "(I)Z" } : Jvm.MethodName)) ∈ wAll := wAll_3 40 rfl rfl
theorem im_X8_readMoreTruths : (Jvm.Cond.instanceMethod ({ cls := "BestPair$RuleReader", name := "readMoreTruths", desc := "(I)Z" } : Jvm.MethodName)) ∈ wAll := wAll_3 42 rfl rfl
theorem cd_X8_readMoreTruths : (Jvm.Cond.code ({ cls := "BestPair$RuleReader", name := "readMoreTruths", desc := "(I)Z" } : Jvm.MethodName) prog_10_method_7_code (3 : Nat) (Option.some Jvm.ClassFile.FieldType.boolean)) ∈ wAll := wAll_3 43 rfl rfl
theorem ml_X8_47 : (Jvm.Cond.methodLink "BestPair$RuleReader" (47 : Nat) ({ cls := "BestPair$RuleReader", name := "readAnswer", desc := "()Z" } : Jvm.MethodName)) ∈ wAll := wAll_3 44 rfl rfl
theorem im_X8_readAnswer : (Jvm.Cond.instanceMethod ({ cls := "BestPair$RuleReader", name := "readAnswer", desc := "()Z" } : Jvm.MethodName)) ∈ wAll := wAll_3 46 rfl rfl
theorem cd_X8_readAnswer : (Jvm.Cond.code ({ cls := "BestPair$RuleReader", name := "readAnswer", desc := "()Z" } : Jvm.MethodName) prog_10_method_5_code (1 : Nat) (Option.some Jvm.ClassFile.FieldType.boolean)) ∈ wAll := wAll_3 47 rfl rfl
theorem ml_L_34 : (Jvm.Cond.methodLink "BestPairLaw" (34 : Nat) ({ cls := "BestPair", name := "text", desc := "(I)I" } : Jvm.MethodName)) ∈ wAll := wAll_3 48 rfl rfl
theorem im_X11_text : (Jvm.Cond.instanceMethod ({ cls := "BestPair", name := "text", desc := "(I)I" } : Jvm.MethodName)) ∈ wAll := wAll_3 49 rfl rfl
theorem se_X11_text : (Jvm.Cond.selects "BestPair" ({ cls := "BestPair", name := "text", desc := "(I)I" } : Jvm.MethodName) ({ cls := "BestPair", name := "text", desc := "(I)I" } : Jvm.MethodName)) ∈ wAll := wAll_3 50 rfl rfl
theorem cd_X11_text : (Jvm.Cond.code ({ cls := "BestPair", name := "text", desc := "(I)I" } : Jvm.MethodName) prog_1_method_5_code (2 : Nat) (Option.some Jvm.ClassFile.FieldType.int)) ∈ wAll := wAll_3 51 rfl rfl
theorem ml_X11_121 : (Jvm.Cond.methodLink "BestPair" (121 : Nat) ({ cls := "BestPair", name := "takePeople", desc := "()I" } : Jvm.MethodName)) ∈ wAll := wAll_3 52 rfl rfl
theorem im_X11_takePeople : (Jvm.Cond.instanceMethod ({ cls := "BestPair", name := "takePeople", desc := "()I" } : Jvm.MethodName)) ∈ wAll := wAll_3 54 rfl rfl
theorem cd_X11_takePeople : (Jvm.Cond.code ({ cls := "BestPair", name := "takePeople", desc := "()I" } : Jvm.MethodName) prog_1_method_6_code (1 : Nat) (Option.some Jvm.ClassFile.FieldType.int)) ∈ wAll := wAll_3 55 rfl rfl
theorem ml_X11_130 : (Jvm.Cond.methodLink "BestPair" (130 : Nat) ({ cls := "BestPair$People", name := "copy", desc := "(LBestPair$People;)V" } : Jvm.MethodName)) ∈ wAll := wAll_3 56 rfl rfl
theorem im_X6_copy : (Jvm.Cond.instanceMethod ({ cls := "BestPair$People", name := "copy", desc := "(LBestPair$People;)V" } : Jvm.MethodName)) ∈ wAll := wAll_3 57 rfl rfl
theorem se_X6_copy : (Jvm.Cond.selects "BestPair$People" ({ cls := "BestPair$People", name := "copy", desc := "(LBestPair$People;)V" } : Jvm.MethodName) ({ cls := "BestPair$People", name := "copy", desc := "(LBestPair$People;)V" } : Jvm.MethodName)) ∈ wAll := wAll_3 58 rfl rfl
theorem cd_X6_copy : (Jvm.Cond.code ({ cls := "BestPair$People", name := "copy", desc := "(LBestPair$People;)V" } : Jvm.MethodName) prog_8_method_4_code (2 : Nat) (Option.none : Option Jvm.ClassFile.FieldType)) ∈ wAll := wAll_3 59 rfl rfl
theorem ml_X6_28 : (Jvm.Cond.methodLink "BestPair$People" (28 : Nat) ({ cls := "java/util/Arrays", name := "fill", desc := "([II)V" } : Jvm.MethodName)) ∈ wAll := wAll_3 60 rfl rfl
theorem st_J7_fill_53178 : (Jvm.Cond.static ({ cls := "java/util/Arrays", name := "fill", desc := "([II)V" } : Jvm.MethodName)) ∈ wAll := wAll_3 61 rfl rfl
theorem cd_J7_fill_53178 : (Jvm.Cond.code ({ cls := "java/util/Arrays", name := "fill", desc := "([II)V" } : Jvm.MethodName) prog_29_method_103_code (4 : Nat) (Option.none : Option Jvm.ClassFile.FieldType)) ∈ wAll := wAll_3 62 rfl rfl
theorem ml_X11_134 : (Jvm.Cond.methodLink "BestPair" (134 : Nat) ({ cls := "BestPair$Stand", name := "begin", desc := "(LBestPair$People;)V" } : Jvm.MethodName)) ∈ wAll := wAll_3 63 rfl rfl
theorem im_X9_begin : (Jvm.Cond.instanceMethod ({ cls := "BestPair$Stand", name := "begin", desc := "(LBestPair$People;)V" } : Jvm.MethodName)) ∈ wAll := wAll_3 64 rfl rfl
theorem se_X9_begin : (Jvm.Cond.selects "BestPair$Stand" ({ cls := "BestPair$Stand", name := "begin", desc := "(LBestPair$People;)V" } : Jvm.MethodName) ({ cls := "BestPair$Stand", name := "begin", desc := "(LBestPair$People;)V" } : Jvm.MethodName)) ∈ wAll := wAll_3 65 rfl rfl
theorem cd_X9_begin : (Jvm.Cond.code ({ cls := "BestPair$Stand", name := "begin", desc := "(LBestPair$People;)V" } : Jvm.MethodName) prog_11_method_2_code (4 : Nat) (Option.none : Option Jvm.ClassFile.FieldType)) ∈ wAll := wAll_3 66 rfl rfl
theorem ml_X9_27 : (Jvm.Cond.methodLink "BestPair$Stand" (27 : Nat) ({ cls := "BestPair$People", name := "item", desc := "(II)I" } : Jvm.MethodName)) ∈ wAll := wAll_3 67 rfl rfl
theorem im_X6_item : (Jvm.Cond.instanceMethod ({ cls := "BestPair$People", name := "item", desc := "(II)I" } : Jvm.MethodName)) ∈ wAll := wAll_3 68 rfl rfl
theorem se_X6_item : (Jvm.Cond.selects "BestPair$People" ({ cls := "BestPair$People", name := "item", desc := "(II)I" } : Jvm.MethodName) ({ cls := "BestPair$People", name := "item", desc := "(II)I" } : Jvm.MethodName)) ∈ wAll := wAll_3 69 rfl rfl
theorem cd_X6_item : (Jvm.Cond.code ({ cls := "BestPair$People", name := "item", desc := "(II)I" } : Jvm.MethodName) prog_8_method_2_code (3 : Nat) (Option.some Jvm.ClassFile.FieldType.int)) ∈ wAll := wAll_3 70 rfl rfl
theorem ml_X11_137 : (Jvm.Cond.methodLink "BestPair" (137 : Nat) ({ cls := "BestPair$Diary", name := "clear", desc := "()V" } : Jvm.MethodName)) ∈ wAll := wAll_3 71 rfl rfl
theorem im_X1_clear : (Jvm.Cond.instanceMethod ({ cls := "BestPair$Diary", name := "clear", desc := "()V" } : Jvm.MethodName)) ∈ wAll := wAll_3 72 rfl rfl
theorem se_X1_clear : (Jvm.Cond.selects "BestPair$Diary" ({ cls := "BestPair$Diary", name := "clear", desc := "()V" } : Jvm.MethodName) ({ cls := "BestPair$Diary", name := "clear", desc := "()V" } : Jvm.MethodName)) ∈ wAll := wAll_3 73 rfl rfl
theorem cd_X1_clear : (Jvm.Cond.code ({ cls := "BestPair$Diary", name := "clear", desc := "()V" } : Jvm.MethodName) prog_3_method_2_code (1 : Nat) (Option.none : Option Jvm.ClassFile.FieldType)) ∈ wAll := wAll_3 74 rfl rfl
theorem ml_X11_127 : (Jvm.Cond.methodLink "BestPair" (127 : Nat) ({ cls := "BestPair", name := "takeRule", desc := "()I" } : Jvm.MethodName)) ∈ wAll := wAll_3 75 rfl rfl
theorem im_X11_takeRule : (Jvm.Cond.instanceMethod ({ cls := "BestPair", name := "takeRule", desc := "()I" } : Jvm.MethodName)) ∈ wAll := wAll_3 77 rfl rfl
theorem cd_X11_takeRule : (Jvm.Cond.code ({ cls := "BestPair", name := "takeRule", desc := "()I" } : Jvm.MethodName) prog_1_method_7_code (1 : Nat) (Option.some Jvm.ClassFile.FieldType.int)) ∈ wAll := wAll_3 78 rfl rfl
theorem ml_X11_147 : (Jvm.Cond.methodLink "BestPair" (147 : Nat) ({ cls := "BestPair$Rule", name := "keep", desc := "(LBestPair$RuleReader;)V" } : Jvm.MethodName)) ∈ wAll := wAll_3 79 rfl rfl
theorem im_X7_keep : (Jvm.Cond.instanceMethod ({ cls := "BestPair$Rule", name := "keep", desc := "(LBestPair$RuleReader;)V" } : Jvm.MethodName)) ∈ wAll := wAll_3 80 rfl rfl
theorem se_X7_keep : (Jvm.Cond.selects "BestPair$Rule" ({ cls := "BestPair$Rule", name := "keep", desc := "(LBestPair$RuleReader;)V" } : Jvm.MethodName) ({ cls := "BestPair$Rule", name := "keep", desc := "(LBestPair$RuleReader;)V" } : Jvm.MethodName)) ∈ wAll := wAll_3 81 rfl rfl
theorem cd_X7_keep : (Jvm.Cond.code ({ cls := "BestPair$Rule", name := "keep", desc := "(LBestPair$RuleReader;)V" } : Jvm.MethodName) prog_9_method_2_code (2 : Nat) (Option.none : Option Jvm.ClassFile.FieldType)) ∈ wAll := wAll_3 82 rfl rfl
theorem ml_X7_26 : (Jvm.Cond.methodLink "BestPair$Rule" (26 : Nat) ({ cls := "java/lang/System", name := "arraycopy", desc := "(Ljava/lang/Object;ILjava/lang/Object;II)V" } : Jvm.MethodName)) ∈ wAll := wAll_3 83 rfl rfl
theorem ml_L_48 : (Jvm.Cond.methodLink "BestPairLaw" (48 : Nat) ({ cls := "BestPair", name := "pair", desc := "(II)I" } : Jvm.MethodName)) ∈ wAll := wAll_3 84 rfl rfl
theorem im_X11_pair : (Jvm.Cond.instanceMethod ({ cls := "BestPair", name := "pair", desc := "(II)I" } : Jvm.MethodName)) ∈ wAll := wAll_3 85 rfl rfl
theorem se_X11_pair : (Jvm.Cond.selects "BestPair" ({ cls := "BestPair", name := "pair", desc := "(II)I" } : Jvm.MethodName) ({ cls := "BestPair", name := "pair", desc := "(II)I" } : Jvm.MethodName)) ∈ wAll := wAll_3 86 rfl rfl
theorem cd_X11_pair : (Jvm.Cond.code ({ cls := "BestPair", name := "pair", desc := "(II)I" } : Jvm.MethodName) prog_1_method_9_code (3 : Nat) (Option.some Jvm.ClassFile.FieldType.int)) ∈ wAll := wAll_3 87 rfl rfl
theorem ml_X11_151 : (Jvm.Cond.methodLink "BestPair" (151 : Nat) ({ cls := "BestPair", name := "isKnown", desc := "(I)Z" } : Jvm.MethodName)) ∈ wAll := wAll_3 88 rfl rfl
theorem im_X11_isKnown : (Jvm.Cond.instanceMethod ({ cls := "BestPair", name := "isKnown", desc := "(I)Z" } : Jvm.MethodName)) ∈ wAll := wAll_3 90 rfl rfl
theorem cd_X11_isKnown : (Jvm.Cond.code ({ cls := "BestPair", name := "isKnown", desc := "(I)Z" } : Jvm.MethodName) prog_1_method_46_code (2 : Nat) (Option.some Jvm.ClassFile.FieldType.boolean)) ∈ wAll := wAll_3 91 rfl rfl
theorem ml_X11_162 : (Jvm.Cond.methodLink "BestPair" (162 : Nat) ({ cls := "BestPair$People", name := "item", desc := "(II)I" } : Jvm.MethodName)) ∈ wAll := wAll_3 92 rfl rfl
theorem ml_L_52 : (Jvm.Cond.methodLink "BestPairLaw" (52 : Nat) ({ cls := "BestPair", name := "fits", desc := "(II)I" } : Jvm.MethodName)) ∈ wAll := wAll_3 93 rfl rfl
theorem im_X11_fits : (Jvm.Cond.instanceMethod ({ cls := "BestPair", name := "fits", desc := "(II)I" } : Jvm.MethodName)) ∈ wAll := wAll_3 94 rfl rfl
theorem se_X11_fits : (Jvm.Cond.selects "BestPair" ({ cls := "BestPair", name := "fits", desc := "(II)I" } : Jvm.MethodName) ({ cls := "BestPair", name := "fits", desc := "(II)I" } : Jvm.MethodName)) ∈ wAll := wAll_3 95 rfl rfl
theorem cd_X11_fits : (Jvm.Cond.code ({ cls := "BestPair", name := "fits", desc := "(II)I" } : Jvm.MethodName) prog_1_method_10_code (3 : Nat) (Option.some Jvm.ClassFile.FieldType.int)) ∈ wAll := wAll_3 96 rfl rfl
theorem ml_X11_178 : (Jvm.Cond.methodLink "BestPair" (178 : Nat) ({ cls := "BestPair$People", name := "canWear", desc := "(II)Z" } : Jvm.MethodName)) ∈ wAll := wAll_3 97 rfl rfl
theorem im_X6_canWear : (Jvm.Cond.instanceMethod ({ cls := "BestPair$People", name := "canWear", desc := "(II)Z" } : Jvm.MethodName)) ∈ wAll := wAll_3 98 rfl rfl
theorem se_X6_canWear : (Jvm.Cond.selects "BestPair$People" ({ cls := "BestPair$People", name := "canWear", desc := "(II)Z" } : Jvm.MethodName) ({ cls := "BestPair$People", name := "canWear", desc := "(II)Z" } : Jvm.MethodName)) ∈ wAll := wAll_3 99 rfl rfl
theorem cd_X6_canWear : (Jvm.Cond.code ({ cls := "BestPair$People", name := "canWear", desc := "(II)Z" } : Jvm.MethodName) prog_8_method_3_code (4 : Nat) (Option.some Jvm.ClassFile.FieldType.boolean)) ∈ wAll := wAll_3 100 rfl rfl
theorem ml_X6_18 : (Jvm.Cond.methodLink "BestPair$People" (18 : Nat) ({ cls := "BestPair$People", name := "item", desc := "(II)I" } : Jvm.MethodName)) ∈ wAll := wAll_3 101 rfl rfl
theorem ml_L_56 : (Jvm.Cond.methodLink "BestPairLaw" (56 : Nat) ({ cls := "BestPair", name := "rule", desc := "(II)Z" } : Jvm.MethodName)) ∈ wAll := wAll_3 102 rfl rfl
theorem im_X11_rule : (Jvm.Cond.instanceMethod ({ cls := "BestPair", name := "rule", desc := "(II)Z" } : Jvm.MethodName)) ∈ wAll := wAll_3 103 rfl rfl
theorem se_X11_rule : (Jvm.Cond.selects "BestPair" ({ cls := "BestPair", name := "rule", desc := "(II)Z" } : Jvm.MethodName) ({ cls := "BestPair", name := "rule", desc := "(II)Z" } : Jvm.MethodName)) ∈ wAll := wAll_3 104 rfl rfl
theorem cd_X11_rule : (Jvm.Cond.code ({ cls := "BestPair", name := "rule", desc := "(II)Z" } : Jvm.MethodName) prog_1_method_11_code (3 : Nat) (Option.some Jvm.ClassFile.FieldType.boolean)) ∈ wAll := wAll_3 105 rfl rfl
theorem ml_L_61 : (Jvm.Cond.methodLink "BestPairLaw" (61 : Nat) ({ cls := "BestPair", name := "evening", desc := "(III)I" } : Jvm.MethodName)) ∈ wAll := wAll_3 106 rfl rfl
theorem im_X11_evening : (Jvm.Cond.instanceMethod ({ cls := "BestPair", name := "evening", desc := "(III)I" } : Jvm.MethodName)) ∈ wAll := wAll_3 107 rfl rfl
theorem se_X11_evening : (Jvm.Cond.selects "BestPair" ({ cls := "BestPair", name := "evening", desc := "(III)I" } : Jvm.MethodName) ({ cls := "BestPair", name := "evening", desc := "(III)I" } : Jvm.MethodName)) ∈ wAll := wAll_3 108 rfl rfl
theorem cd_X11_evening : (Jvm.Cond.code ({ cls := "BestPair", name := "evening", desc := "(III)I" } : Jvm.MethodName) prog_1_method_12_code (4 : Nat) (Option.some Jvm.ClassFile.FieldType.int)) ∈ wAll := wAll_3 109 rfl rfl
theorem ml_X11_182 : (Jvm.Cond.methodLink "BestPair" (182 : Nat) ({ cls := "BestPair", name := "isParty", desc := "(II)Z" } : Jvm.MethodName)) ∈ wAll := wAll_3 110 rfl rfl
theorem im_X11_isParty : (Jvm.Cond.instanceMethod ({ cls := "BestPair", name := "isParty", desc := "(II)Z" } : Jvm.MethodName)) ∈ wAll := wAll_3 112 rfl rfl
theorem cd_X11_isParty : (Jvm.Cond.code ({ cls := "BestPair", name := "isParty", desc := "(II)Z" } : Jvm.MethodName) prog_1_method_49_code (3 : Nat) (Option.some Jvm.ClassFile.FieldType.boolean)) ∈ wAll := wAll_3 113 rfl rfl
theorem ml_X11_280 : (Jvm.Cond.methodLink "BestPair" (280 : Nat) ({ cls := "BestPair", name := "everybody", desc := "()I" } : Jvm.MethodName)) ∈ wAll := wAll_3 114 rfl rfl
theorem im_X11_everybody : (Jvm.Cond.instanceMethod ({ cls := "BestPair", name := "everybody", desc := "()I" } : Jvm.MethodName)) ∈ wAll := wAll_3 116 rfl rfl
theorem cd_X11_everybody : (Jvm.Cond.code ({ cls := "BestPair", name := "everybody", desc := "()I" } : Jvm.MethodName) prog_1_method_48_code (1 : Nat) (Option.some Jvm.ClassFile.FieldType.int)) ∈ wAll := wAll_3 117 rfl rfl
theorem ml_X11_185 : (Jvm.Cond.methodLink "BestPair" (185 : Nat) ({ cls := "BestPair$Leaving", name := "readOrder", desc := "(II)Z" } : Jvm.MethodName)) ∈ wAll := wAll_3 118 rfl rfl
theorem im_X5_readOrder : (Jvm.Cond.instanceMethod ({ cls := "BestPair$Leaving", name := "readOrder", desc := "(II)Z" } : Jvm.MethodName)) ∈ wAll := wAll_3 119 rfl rfl
theorem se_X5_readOrder : (Jvm.Cond.selects "BestPair$Leaving" ({ cls := "BestPair$Leaving", name := "readOrder", desc := "(II)Z" } : Jvm.MethodName) ({ cls := "BestPair$Leaving", name := "readOrder", desc := "(II)Z" } : Jvm.MethodName)) ∈ wAll := wAll_3 120 rfl rfl
theorem cd_X5_readOrder : (Jvm.Cond.code ({ cls := "BestPair$Leaving", name := "readOrder", desc := "(II)Z" } : Jvm.MethodName) prog_7_method_2_code (7 : Nat) (Option.some Jvm.ClassFile.FieldType.boolean)) ∈ wAll := wAll_3 121 rfl rfl
theorem ml_X5_28 : (Jvm.Cond.methodLink "BestPair$Leaving" (28 : Nat) ({ cls := "java/lang/Integer", name := "bitCount", desc := "(I)I" } : Jvm.MethodName)) ∈ wAll := wAll_3 122 rfl rfl
theorem st_J6_bitCount_0f7a4 : (Jvm.Cond.static ({ cls := "java/lang/Integer", name := "bitCount", desc := "(I)I" } : Jvm.MethodName)) ∈ wAll := wAll_3 123 rfl rfl
theorem cd_J6_bitCount_0f7a4 : (Jvm.Cond.code ({ cls := "java/lang/Integer", name := "bitCount", desc := "(I)I" } : Jvm.MethodName) prog_19_method_49_code (1 : Nat) (Option.some Jvm.ClassFile.FieldType.int)) ∈ wAll := wAll_3 124 rfl rfl
theorem kc_J6_265 : (Jvm.Cond.constant "java/lang/Integer" (265 : Nat) (1431655765 : Int32)) ∈ wAll := wAll_3 125 rfl rfl
theorem kc_J6_266 : (Jvm.Cond.constant "java/lang/Integer" (266 : Nat) (858993459 : Int32)) ∈ wAll := wAll_3 126 rfl rfl
theorem kc_J6_267 : (Jvm.Cond.constant "java/lang/Integer" (267 : Nat) (252645135 : Int32)) ∈ wAll := wAll_3 127 rfl rfl
theorem ml_X11_188 : (Jvm.Cond.methodLink "BestPair" (188 : Nat) ({ cls := "BestPair", name := "holdEvening", desc := "(II)V" } : Jvm.MethodName)) ∈ wAll := wAll_3 128 rfl rfl
theorem im_X11_holdEvening : (Jvm.Cond.instanceMethod ({ cls := "BestPair", name := "holdEvening", desc := "(II)V" } : Jvm.MethodName)) ∈ wAll := wAll_3 130 rfl rfl
theorem cd_X11_holdEvening : (Jvm.Cond.code ({ cls := "BestPair", name := "holdEvening", desc := "(II)V" } : Jvm.MethodName) prog_1_method_13_code (4 : Nat) (Option.none : Option Jvm.ClassFile.FieldType)) ∈ wAll := wAll_3 131 rfl rfl
theorem ml_X11_195 : (Jvm.Cond.methodLink "BestPair" (195 : Nat) ({ cls := "BestPair", name := "openDoor", desc := "(II)I" } : Jvm.MethodName)) ∈ wAll := wAll_3 132 rfl rfl
theorem im_X11_openDoor : (Jvm.Cond.instanceMethod ({ cls := "BestPair", name := "openDoor", desc := "(II)I" } : Jvm.MethodName)) ∈ wAll := wAll_3 134 rfl rfl
theorem cd_X11_openDoor : (Jvm.Cond.code ({ cls := "BestPair", name := "openDoor", desc := "(II)I" } : Jvm.MethodName) prog_1_method_14_code (3 : Nat) (Option.some Jvm.ClassFile.FieldType.int)) ∈ wAll := wAll_3 135 rfl rfl
theorem ml_X11_211 : (Jvm.Cond.methodLink "BestPair" (211 : Nat) ({ cls := "BestPair$Door", name := "open", desc := "(LBestPair$Stand;)V" } : Jvm.MethodName)) ∈ wAll := wAll_3 136 rfl rfl
theorem im_X2_open : (Jvm.Cond.instanceMethod ({ cls := "BestPair$Door", name := "open", desc := "(LBestPair$Stand;)V" } : Jvm.MethodName)) ∈ wAll := wAll_3 137 rfl rfl
theorem se_X2_open : (Jvm.Cond.selects "BestPair$Door" ({ cls := "BestPair$Door", name := "open", desc := "(LBestPair$Stand;)V" } : Jvm.MethodName) ({ cls := "BestPair$Door", name := "open", desc := "(LBestPair$Stand;)V" } : Jvm.MethodName)) ∈ wAll := wAll_3 138 rfl rfl
theorem cd_X2_open : (Jvm.Cond.code ({ cls := "BestPair$Door", name := "open", desc := "(LBestPair$Stand;)V" } : Jvm.MethodName) prog_4_method_2_code (3 : Nat) (Option.none : Option Jvm.ClassFile.FieldType)) ∈ wAll := wAll_3 139 rfl rfl
theorem ml_X2_43 : (Jvm.Cond.methodLink "BestPair$Door" (43 : Nat) ({ cls := "BestPair$People", name := "item", desc := "(II)I" } : Jvm.MethodName)) ∈ wAll := wAll_3 140 rfl rfl
theorem ml_X2_52 : (Jvm.Cond.methodLink "BestPair$Door" (52 : Nat) ({ cls := "BestPair$Door", name := "forget", desc := "()V" } : Jvm.MethodName)) ∈ wAll := wAll_3 141 rfl rfl
theorem im_X2_forget : (Jvm.Cond.instanceMethod ({ cls := "BestPair$Door", name := "forget", desc := "()V" } : Jvm.MethodName)) ∈ wAll := wAll_3 143 rfl rfl
theorem cd_X2_forget : (Jvm.Cond.code ({ cls := "BestPair$Door", name := "forget", desc := "()V" } : Jvm.MethodName) prog_4_method_3_code (1 : Nat) (Option.none : Option Jvm.ClassFile.FieldType)) ∈ wAll := wAll_3 144 rfl rfl
theorem ml_X2_55 : (Jvm.Cond.methodLink "BestPair$Door" (55 : Nat) ({ cls := "java/util/Arrays", name := "fill", desc := "([II)V" } : Jvm.MethodName)) ∈ wAll := wAll_3 145 rfl rfl
theorem ml_X11_214 : (Jvm.Cond.methodLink "BestPair" (214 : Nat) ({ cls := "BestPair$Stand", name := "pairsAt", desc := "(II)I" } : Jvm.MethodName)) ∈ wAll := wAll_3 146 rfl rfl
theorem im_X9_pairsAt : (Jvm.Cond.instanceMethod ({ cls := "BestPair$Stand", name := "pairsAt", desc := "(II)I" } : Jvm.MethodName)) ∈ wAll := wAll_3 147 rfl rfl
theorem se_X9_pairsAt : (Jvm.Cond.selects "BestPair$Stand" ({ cls := "BestPair$Stand", name := "pairsAt", desc := "(II)I" } : Jvm.MethodName) ({ cls := "BestPair$Stand", name := "pairsAt", desc := "(II)I" } : Jvm.MethodName)) ∈ wAll := wAll_3 148 rfl rfl
theorem cd_X9_pairsAt : (Jvm.Cond.code ({ cls := "BestPair$Stand", name := "pairsAt", desc := "(II)I" } : Jvm.MethodName) prog_11_method_4_code (7 : Nat) (Option.some Jvm.ClassFile.FieldType.int)) ∈ wAll := wAll_3 149 rfl rfl
theorem mn_X9_37 : (Jvm.Cond.methodLinkNest "BestPair$Stand" (37 : Nat) ({ cls := "BestPair", name := "isIn", desc := "(II)Z" } : Jvm.MethodName) "BestPair") ∈ nstL := nstL_3 150 rfl rfl
theorem ml_X11_198 : (Jvm.Cond.methodLink "BestPair" (198 : Nat) ({ cls := "BestPair$Leaving", name := "begin", desc := "(I)V" } : Jvm.MethodName)) ∈ wAll := wAll_3 151 rfl rfl
theorem im_X5_begin : (Jvm.Cond.instanceMethod ({ cls := "BestPair$Leaving", name := "begin", desc := "(I)V" } : Jvm.MethodName)) ∈ wAll := wAll_3 152 rfl rfl
theorem se_X5_begin : (Jvm.Cond.selects "BestPair$Leaving" ({ cls := "BestPair$Leaving", name := "begin", desc := "(I)V" } : Jvm.MethodName) ({ cls := "BestPair$Leaving", name := "begin", desc := "(I)V" } : Jvm.MethodName)) ∈ wAll := wAll_3 153 rfl rfl
theorem cd_X5_begin : (Jvm.Cond.code ({ cls := "BestPair$Leaving", name := "begin", desc := "(I)V" } : Jvm.MethodName) prog_7_method_9_code (2 : Nat) (Option.none : Option Jvm.ClassFile.FieldType)) ∈ wAll := wAll_3 154 rfl rfl
theorem ml_X11_200 : (Jvm.Cond.methodLink "BestPair" (200 : Nat) ({ cls := "BestPair$Leaving", name := "go", desc := "(I)V" } : Jvm.MethodName)) ∈ wAll := wAll_3 155 rfl rfl
theorem im_X5_go : (Jvm.Cond.instanceMethod ({ cls := "BestPair$Leaving", name := "go", desc := "(I)V" } : Jvm.MethodName)) ∈ wAll := wAll_3 156 rfl rfl
theorem se_X5_go : (Jvm.Cond.selects "BestPair$Leaving" ({ cls := "BestPair$Leaving", name := "go", desc := "(I)V" } : Jvm.MethodName) ({ cls := "BestPair$Leaving", name := "go", desc := "(I)V" } : Jvm.MethodName)) ∈ wAll := wAll_3 157 rfl rfl
theorem cd_X5_go : (Jvm.Cond.code ({ cls := "BestPair$Leaving", name := "go", desc := "(I)V" } : Jvm.MethodName) prog_7_method_10_code (5 : Nat) (Option.none : Option Jvm.ClassFile.FieldType)) ∈ wAll := wAll_3 158 rfl rfl
theorem ml_X5_50 : (Jvm.Cond.methodLink "BestPair$Leaving" (50 : Nat) ({ cls := "BestPair$Door", name := "pick", desc := "(II)I" } : Jvm.MethodName)) ∈ wAll := wAll_3 159 rfl rfl
theorem im_X2_pick : (Jvm.Cond.instanceMethod ({ cls := "BestPair$Door", name := "pick", desc := "(II)I" } : Jvm.MethodName)) ∈ wAll := wAll_3 160 rfl rfl
theorem se_X2_pick : (Jvm.Cond.selects "BestPair$Door" ({ cls := "BestPair$Door", name := "pick", desc := "(II)I" } : Jvm.MethodName) ({ cls := "BestPair$Door", name := "pick", desc := "(II)I" } : Jvm.MethodName)) ∈ wAll := wAll_3 161 rfl rfl
theorem cd_X2_pick : (Jvm.Cond.code ({ cls := "BestPair$Door", name := "pick", desc := "(II)I" } : Jvm.MethodName) prog_4_method_6_code (9 : Nat) (Option.some Jvm.ClassFile.FieldType.int)) ∈ wAll := wAll_3 162 rfl rfl
theorem ml_X2_61 : (Jvm.Cond.methodLink "BestPair$Door" (61 : Nat) ({ cls := "java/lang/Integer", name := "bitCount", desc := "(I)I" } : Jvm.MethodName)) ∈ wAll := wAll_3 163 rfl rfl
theorem mn_X2_67 : (Jvm.Cond.methodLinkNest "BestPair$Door" (67 : Nat) ({ cls := "BestPair", name := "isIn", desc := "(II)Z" } : Jvm.MethodName) "BestPair") ∈ nstL := nstL_3 164 rfl rfl
theorem ml_X2_71 : (Jvm.Cond.methodLink "BestPair$Door" (71 : Nat) ({ cls := "BestPair$Door", name := "desire", desc := "(III)I" } : Jvm.MethodName)) ∈ wAll := wAll_3 165 rfl rfl
theorem im_X2_desire : (Jvm.Cond.instanceMethod ({ cls := "BestPair$Door", name := "desire", desc := "(III)I" } : Jvm.MethodName)) ∈ wAll := wAll_3 167 rfl rfl
theorem cd_X2_desire : (Jvm.Cond.code ({ cls := "BestPair$Door", name := "desire", desc := "(III)I" } : Jvm.MethodName) prog_4_method_8_code (7 : Nat) (Option.some Jvm.ClassFile.FieldType.int)) ∈ wAll := wAll_3 168 rfl rfl
theorem ml_X2_78 : (Jvm.Cond.methodLink "BestPair$Door" (78 : Nat) ({ cls := "BestPair$People", name := "canWear", desc := "(II)Z" } : Jvm.MethodName)) ∈ wAll := wAll_3 169 rfl rfl
theorem ml_X2_81 : (Jvm.Cond.methodLink "BestPair$Door" (81 : Nat) ({ cls := "BestPair$Rule", name := "value", desc := "([I)I" } : Jvm.MethodName)) ∈ wAll := wAll_3 170 rfl rfl
theorem im_X7_value : (Jvm.Cond.instanceMethod ({ cls := "BestPair$Rule", name := "value", desc := "([I)I" } : Jvm.MethodName)) ∈ wAll := wAll_3 171 rfl rfl
theorem se_X7_value : (Jvm.Cond.selects "BestPair$Rule" ({ cls := "BestPair$Rule", name := "value", desc := "([I)I" } : Jvm.MethodName) ({ cls := "BestPair$Rule", name := "value", desc := "([I)I" } : Jvm.MethodName)) ∈ wAll := wAll_3 172 rfl rfl
theorem cd_X7_value : (Jvm.Cond.code ({ cls := "BestPair$Rule", name := "value", desc := "([I)I" } : Jvm.MethodName) prog_9_method_3_code (5 : Nat) (Option.some Jvm.ClassFile.FieldType.int)) ∈ wAll := wAll_3 173 rfl rfl
theorem ml_X7_32 : (Jvm.Cond.methodLink "BestPair$Rule" (32 : Nat) ({ cls := "BestPair$Rule", name := "endOfClause", desc := "(I)I" } : Jvm.MethodName)) ∈ wAll := wAll_3 174 rfl rfl
theorem im_X7_endOfClause : (Jvm.Cond.instanceMethod ({ cls := "BestPair$Rule", name := "endOfClause", desc := "(I)I" } : Jvm.MethodName)) ∈ wAll := wAll_3 176 rfl rfl
theorem cd_X7_endOfClause : (Jvm.Cond.code ({ cls := "BestPair$Rule", name := "endOfClause", desc := "(I)I" } : Jvm.MethodName) prog_9_method_4_code (3 : Nat) (Option.some Jvm.ClassFile.FieldType.int)) ∈ wAll := wAll_3 177 rfl rfl
theorem ml_X7_36 : (Jvm.Cond.methodLink "BestPair$Rule" (36 : Nat) ({ cls := "BestPair$Rule", name := "reckon", desc := "(III)I" } : Jvm.MethodName)) ∈ wAll := wAll_3 178 rfl rfl
theorem st_X7_reckon : (Jvm.Cond.static ({ cls := "BestPair$Rule", name := "reckon", desc := "(III)I" } : Jvm.MethodName)) ∈ wAll := wAll_3 179 rfl rfl
theorem cd_X7_reckon : (Jvm.Cond.code ({ cls := "BestPair$Rule", name := "reckon", desc := "(III)I" } : Jvm.MethodName) prog_9_method_5_code (5 : Nat) (Option.some Jvm.ClassFile.FieldType.int)) ∈ wAll := wAll_3 180 rfl rfl
theorem kl_X7_40 : (Jvm.Cond.constantLong "BestPair$Rule" (40 : Nat) (1000000 : Int64)) ∈ wAll := wAll_3 181 rfl rfl
theorem kc_X7_42 : (Jvm.Cond.constant "BestPair$Rule" (42 : Nat) (1000000 : Int32)) ∈ wAll := wAll_3 182 rfl rfl
theorem kl_X7_43 : (Jvm.Cond.constantLong "BestPair$Rule" (43 : Nat) (-1000000 : Int64)) ∈ wAll := wAll_3 183 rfl rfl
theorem kc_X7_45 : (Jvm.Cond.constant "BestPair$Rule" (45 : Nat) (-1000000 : Int32)) ∈ wAll := wAll_3 184 rfl rfl
theorem ml_X2_87 : (Jvm.Cond.methodLink "BestPair$Door" (87 : Nat) ({ cls := "java/lang/Math", name := "max", desc := "(II)I" } : Jvm.MethodName)) ∈ wAll := wAll_3 185 rfl rfl
theorem st_J9_max_7cf53 : (Jvm.Cond.static ({ cls := "java/lang/Math", name := "max", desc := "(II)I" } : Jvm.MethodName)) ∈ wAll := wAll_3 186 rfl rfl
theorem cd_J9_max_7cf53 : (Jvm.Cond.code ({ cls := "java/lang/Math", name := "max", desc := "(II)I" } : Jvm.MethodName) prog_20_method_65_code (2 : Nat) (Option.some Jvm.ClassFile.FieldType.int)) ∈ wAll := wAll_3 187 rfl rfl
theorem ml_X11_203 : (Jvm.Cond.methodLink "BestPair" (203 : Nat) ({ cls := "BestPair$Stand", name := "settle", desc := "(IILBestPair$Leaving;LBestPair$People;)V" } : Jvm.MethodName)) ∈ wAll := wAll_3 188 rfl rfl
theorem im_X9_settle : (Jvm.Cond.instanceMethod ({ cls := "BestPair$Stand", name := "settle", desc := "(IILBestPair$Leaving;LBestPair$People;)V" } : Jvm.MethodName)) ∈ wAll := wAll_3 189 rfl rfl
theorem se_X9_settle : (Jvm.Cond.selects "BestPair$Stand" ({ cls := "BestPair$Stand", name := "settle", desc := "(IILBestPair$Leaving;LBestPair$People;)V" } : Jvm.MethodName) ({ cls := "BestPair$Stand", name := "settle", desc := "(IILBestPair$Leaving;LBestPair$People;)V" } : Jvm.MethodName)) ∈ wAll := wAll_3 190 rfl rfl
theorem cd_X9_settle : (Jvm.Cond.code ({ cls := "BestPair$Stand", name := "settle", desc := "(IILBestPair$Leaving;LBestPair$People;)V" } : Jvm.MethodName) prog_11_method_5_code (8 : Nat) (Option.none : Option Jvm.ClassFile.FieldType)) ∈ wAll := wAll_3 191 rfl rfl
theorem ml_X9_50 : (Jvm.Cond.methodLink "BestPair$Stand" (50 : Nat) ({ cls := "java/lang/Math", name := "max", desc := "(II)I" } : Jvm.MethodName)) ∈ wAll := wAll_3 192 rfl rfl
theorem ml_X11_207 : (Jvm.Cond.methodLink "BestPair" (207 : Nat) ({ cls := "BestPair$Diary", name := "write", desc := "(LBestPair$Stand;)V" } : Jvm.MethodName)) ∈ wAll := wAll_3 193 rfl rfl
theorem im_X1_write : (Jvm.Cond.instanceMethod ({ cls := "BestPair$Diary", name := "write", desc := "(LBestPair$Stand;)V" } : Jvm.MethodName)) ∈ wAll := wAll_3 194 rfl rfl
theorem se_X1_write : (Jvm.Cond.selects "BestPair$Diary" ({ cls := "BestPair$Diary", name := "write", desc := "(LBestPair$Stand;)V" } : Jvm.MethodName) ({ cls := "BestPair$Diary", name := "write", desc := "(LBestPair$Stand;)V" } : Jvm.MethodName)) ∈ wAll := wAll_3 195 rfl rfl
theorem cd_X1_write : (Jvm.Cond.code ({ cls := "BestPair$Diary", name := "write", desc := "(LBestPair$Stand;)V" } : Jvm.MethodName) prog_3_method_5_code (2 : Nat) (Option.none : Option Jvm.ClassFile.FieldType)) ∈ wAll := wAll_3 196 rfl rfl
theorem ml_X1_36 : (Jvm.Cond.methodLink "BestPair$Diary" (36 : Nat) ({ cls := "java/lang/System", name := "arraycopy", desc := "(Ljava/lang/Object;ILjava/lang/Object;II)V" } : Jvm.MethodName)) ∈ wAll := wAll_3 197 rfl rfl
theorem ml_L_66 : (Jvm.Cond.methodLink "BestPairLaw" (66 : Nat) ({ cls := "BestPair", name := "tried", desc := "(IIII)I" } : Jvm.MethodName)) ∈ wAll := wAll_3 198 rfl rfl
theorem im_X11_tried : (Jvm.Cond.instanceMethod ({ cls := "BestPair", name := "tried", desc := "(IIII)I" } : Jvm.MethodName)) ∈ wAll := wAll_3 199 rfl rfl
theorem se_X11_tried : (Jvm.Cond.selects "BestPair" ({ cls := "BestPair", name := "tried", desc := "(IIII)I" } : Jvm.MethodName) ({ cls := "BestPair", name := "tried", desc := "(IIII)I" } : Jvm.MethodName)) ∈ wAll := wAll_3 200 rfl rfl
theorem cd_X11_tried : (Jvm.Cond.code ({ cls := "BestPair", name := "tried", desc := "(IIII)I" } : Jvm.MethodName) prog_1_method_15_code (5 : Nat) (Option.some Jvm.ClassFile.FieldType.int)) ∈ wAll := wAll_3 201 rfl rfl
theorem ml_X11_217 : (Jvm.Cond.methodLink "BestPair" (217 : Nat) ({ cls := "BestPair", name := "isGuest", desc := "(II)Z" } : Jvm.MethodName)) ∈ wAll := wAll_3 202 rfl rfl
theorem im_X11_isGuest : (Jvm.Cond.instanceMethod ({ cls := "BestPair", name := "isGuest", desc := "(II)Z" } : Jvm.MethodName)) ∈ wAll := wAll_3 204 rfl rfl
theorem cd_X11_isGuest : (Jvm.Cond.code ({ cls := "BestPair", name := "isGuest", desc := "(II)Z" } : Jvm.MethodName) prog_1_method_50_code (3 : Nat) (Option.some Jvm.ClassFile.FieldType.boolean)) ∈ wAll := wAll_3 205 rfl rfl
theorem ml_X11_247 : (Jvm.Cond.methodLink "BestPair" (247 : Nat) ({ cls := "BestPair", name := "isIn", desc := "(II)Z" } : Jvm.MethodName)) ∈ wAll := wAll_3 206 rfl rfl
theorem kc_X11_220 : (Jvm.Cond.constant "BestPair" (220 : Nat) (-1000000 : Int32)) ∈ wAll := wAll_3 207 rfl rfl
theorem ml_L_71 : (Jvm.Cond.methodLink "BestPairLaw" (71 : Nat) ({ cls := "BestPair", name := "orders", desc := "(IIII)I" } : Jvm.MethodName)) ∈ wAll := wAll_3 208 rfl rfl
theorem im_X11_orders : (Jvm.Cond.instanceMethod ({ cls := "BestPair", name := "orders", desc := "(IIII)I" } : Jvm.MethodName)) ∈ wAll := wAll_3 209 rfl rfl
theorem se_X11_orders : (Jvm.Cond.selects "BestPair" ({ cls := "BestPair", name := "orders", desc := "(IIII)I" } : Jvm.MethodName) ({ cls := "BestPair", name := "orders", desc := "(IIII)I" } : Jvm.MethodName)) ∈ wAll := wAll_3 210 rfl rfl
theorem cd_X11_orders : (Jvm.Cond.code ({ cls := "BestPair", name := "orders", desc := "(IIII)I" } : Jvm.MethodName) prog_1_method_16_code (5 : Nat) (Option.some Jvm.ClassFile.FieldType.int)) ∈ wAll := wAll_3 211 rfl rfl
theorem ml_X11_224 : (Jvm.Cond.methodLink "BestPair" (224 : Nat) ({ cls := "BestPair", name := "isKnownOrNone", desc := "(I)Z" } : Jvm.MethodName)) ∈ wAll := wAll_3 212 rfl rfl
theorem im_X11_isKnownOrNone : (Jvm.Cond.instanceMethod ({ cls := "BestPair", name := "isKnownOrNone", desc := "(I)Z" } : Jvm.MethodName)) ∈ wAll := wAll_3 214 rfl rfl
theorem cd_X11_isKnownOrNone : (Jvm.Cond.code ({ cls := "BestPair", name := "isKnownOrNone", desc := "(I)Z" } : Jvm.MethodName) prog_1_method_47_code (2 : Nat) (Option.some Jvm.ClassFile.FieldType.boolean)) ∈ wAll := wAll_3 215 rfl rfl
theorem ml_X11_227 : (Jvm.Cond.methodLink "BestPair" (227 : Nat) ({ cls := "BestPair$Leaving", name := "countOrders", desc := "(IIII)I" } : Jvm.MethodName)) ∈ wAll := wAll_3 216 rfl rfl
theorem im_X5_countOrders : (Jvm.Cond.instanceMethod ({ cls := "BestPair$Leaving", name := "countOrders", desc := "(IIII)I" } : Jvm.MethodName)) ∈ wAll := wAll_3 217 rfl rfl
theorem se_X5_countOrders : (Jvm.Cond.selects "BestPair$Leaving" ({ cls := "BestPair$Leaving", name := "countOrders", desc := "(IIII)I" } : Jvm.MethodName) ({ cls := "BestPair$Leaving", name := "countOrders", desc := "(IIII)I" } : Jvm.MethodName)) ∈ wAll := wAll_3 218 rfl rfl
theorem cd_X5_countOrders : (Jvm.Cond.code ({ cls := "BestPair$Leaving", name := "countOrders", desc := "(IIII)I" } : Jvm.MethodName) prog_7_method_14_code (9 : Nat) (Option.some Jvm.ClassFile.FieldType.int)) ∈ wAll := wAll_3 219 rfl rfl
theorem ml_X5_68 : (Jvm.Cond.methodLink "BestPair$Leaving" (68 : Nat) ({ cls := "BestPair$Leaving", name := "first", desc := "(II)I" } : Jvm.MethodName)) ∈ wAll := wAll_3 220 rfl rfl
theorem im_X5_first : (Jvm.Cond.instanceMethod ({ cls := "BestPair$Leaving", name := "first", desc := "(II)I" } : Jvm.MethodName)) ∈ wAll := wAll_3 221 rfl rfl
theorem se_X5_first : (Jvm.Cond.selects "BestPair$Leaving" ({ cls := "BestPair$Leaving", name := "first", desc := "(II)I" } : Jvm.MethodName) ({ cls := "BestPair$Leaving", name := "first", desc := "(II)I" } : Jvm.MethodName)) ∈ wAll := wAll_3 222 rfl rfl
theorem cd_X5_first : (Jvm.Cond.code ({ cls := "BestPair$Leaving", name := "first", desc := "(II)I" } : Jvm.MethodName) prog_7_method_11_code (3 : Nat) (Option.some Jvm.ClassFile.FieldType.int)) ∈ wAll := wAll_3 223 rfl rfl
theorem ml_X5_56 : (Jvm.Cond.methodLink "BestPair$Leaving" (56 : Nat) ({ cls := "BestPair$Leaving", name := "lowest", desc := "(I)V" } : Jvm.MethodName)) ∈ wAll := wAll_3 224 rfl rfl
theorem im_X5_lowest : (Jvm.Cond.instanceMethod ({ cls := "BestPair$Leaving", name := "lowest", desc := "(I)V" } : Jvm.MethodName)) ∈ wAll := wAll_3 225 rfl rfl
theorem se_X5_lowest : (Jvm.Cond.selects "BestPair$Leaving" ({ cls := "BestPair$Leaving", name := "lowest", desc := "(I)V" } : Jvm.MethodName) ({ cls := "BestPair$Leaving", name := "lowest", desc := "(I)V" } : Jvm.MethodName)) ∈ wAll := wAll_3 226 rfl rfl
theorem cd_X5_lowest : (Jvm.Cond.code ({ cls := "BestPair$Leaving", name := "lowest", desc := "(I)V" } : Jvm.MethodName) prog_7_method_3_code (3 : Nat) (Option.none : Option Jvm.ClassFile.FieldType)) ∈ wAll := wAll_3 227 rfl rfl
theorem mn_X5_38 : (Jvm.Cond.methodLinkNest "BestPair$Leaving" (38 : Nat) ({ cls := "BestPair", name := "isIn", desc := "(II)Z" } : Jvm.MethodName) "BestPair") ∈ nstL := nstL_3 228 rfl rfl
theorem ml_X5_42 : (Jvm.Cond.methodLink "BestPair$Leaving" (42 : Nat) ({ cls := "BestPair$Leaving", name := "add", desc := "(I)V" } : Jvm.MethodName)) ∈ wAll := wAll_3 229 rfl rfl
theorem im_X5_add : (Jvm.Cond.instanceMethod ({ cls := "BestPair$Leaving", name := "add", desc := "(I)V" } : Jvm.MethodName)) ∈ wAll := wAll_3 230 rfl rfl
theorem se_X5_add : (Jvm.Cond.selects "BestPair$Leaving" ({ cls := "BestPair$Leaving", name := "add", desc := "(I)V" } : Jvm.MethodName) ({ cls := "BestPair$Leaving", name := "add", desc := "(I)V" } : Jvm.MethodName)) ∈ wAll := wAll_3 231 rfl rfl
theorem cd_X5_add : (Jvm.Cond.code ({ cls := "BestPair$Leaving", name := "add", desc := "(I)V" } : Jvm.MethodName) prog_7_method_4_code (2 : Nat) (Option.none : Option Jvm.ClassFile.FieldType)) ∈ wAll := wAll_3 232 rfl rfl
theorem ml_X5_59 : (Jvm.Cond.methodLink "BestPair$Leaving" (59 : Nat) ({ cls := "BestPair$Leaving", name := "begin", desc := "(I)V" } : Jvm.MethodName)) ∈ wAll := wAll_3 233 rfl rfl
theorem fn_X5_62 : (Jvm.Cond.fieldLinkNest "BestPair$Leaving" (62 : Nat) "BestPair" "ORDERS_OF" "[I" "BestPair") ∈ nstL := nstL_3 234 rfl rfl
theorem ml_X5_71 : (Jvm.Cond.methodLink "BestPair$Leaving" (71 : Nat) ({ cls := "BestPair$Leaving", name := "go", desc := "(I)V" } : Jvm.MethodName)) ∈ wAll := wAll_3 236 rfl rfl
theorem ml_X5_74 : (Jvm.Cond.methodLink "BestPair$Leaving" (74 : Nat) ({ cls := "BestPair$Leaving", name := "advance", desc := "()I" } : Jvm.MethodName)) ∈ wAll := wAll_3 237 rfl rfl
theorem im_X5_advance : (Jvm.Cond.instanceMethod ({ cls := "BestPair$Leaving", name := "advance", desc := "()I" } : Jvm.MethodName)) ∈ wAll := wAll_3 238 rfl rfl
theorem se_X5_advance : (Jvm.Cond.selects "BestPair$Leaving" ({ cls := "BestPair$Leaving", name := "advance", desc := "()I" } : Jvm.MethodName) ({ cls := "BestPair$Leaving", name := "advance", desc := "()I" } : Jvm.MethodName)) ∈ wAll := wAll_3 239 rfl rfl
theorem cd_X5_advance : (Jvm.Cond.code ({ cls := "BestPair$Leaving", name := "advance", desc := "()I" } : Jvm.MethodName) prog_7_method_6_code (5 : Nat) (Option.some Jvm.ClassFile.FieldType.int)) ∈ wAll := wAll_4 0 rfl rfl
theorem ml_X5_46 : (Jvm.Cond.methodLink "BestPair$Leaving" (46 : Nat) ({ cls := "BestPair$Leaving", name := "exchange", desc := "(II)V" } : Jvm.MethodName)) ∈ wAll := wAll_4 1 rfl rfl
theorem im_X5_exchange : (Jvm.Cond.instanceMethod ({ cls := "BestPair$Leaving", name := "exchange", desc := "(II)V" } : Jvm.MethodName)) ∈ wAll := wAll_4 2 rfl rfl
theorem se_X5_exchange : (Jvm.Cond.selects "BestPair$Leaving" ({ cls := "BestPair$Leaving", name := "exchange", desc := "(II)V" } : Jvm.MethodName) ({ cls := "BestPair$Leaving", name := "exchange", desc := "(II)V" } : Jvm.MethodName)) ∈ wAll := wAll_4 3 rfl rfl
theorem cd_X5_exchange : (Jvm.Cond.code ({ cls := "BestPair$Leaving", name := "exchange", desc := "(II)V" } : Jvm.MethodName) prog_7_method_5_code (4 : Nat) (Option.none : Option Jvm.ClassFile.FieldType)) ∈ wAll := wAll_4 4 rfl rfl
theorem ml_L_75 : (Jvm.Cond.methodLink "BestPairLaw" (75 : Nat) ({ cls := "BestPair", name := "worst", desc := "(III)I" } : Jvm.MethodName)) ∈ wAll := wAll_4 5 rfl rfl
theorem im_X11_worst : (Jvm.Cond.instanceMethod ({ cls := "BestPair", name := "worst", desc := "(III)I" } : Jvm.MethodName)) ∈ wAll := wAll_4 6 rfl rfl
theorem se_X11_worst : (Jvm.Cond.selects "BestPair" ({ cls := "BestPair", name := "worst", desc := "(III)I" } : Jvm.MethodName) ({ cls := "BestPair", name := "worst", desc := "(III)I" } : Jvm.MethodName)) ∈ wAll := wAll_4 7 rfl rfl
theorem cd_X11_worst : (Jvm.Cond.code ({ cls := "BestPair", name := "worst", desc := "(III)I" } : Jvm.MethodName) prog_1_method_17_code (4 : Nat) (Option.some Jvm.ClassFile.FieldType.int)) ∈ wAll := wAll_4 8 rfl rfl
theorem ml_X11_231 : (Jvm.Cond.methodLink "BestPair" (231 : Nat) ({ cls := "BestPair$Leaving", name := "worstPlace", desc := "(III)I" } : Jvm.MethodName)) ∈ wAll := wAll_4 9 rfl rfl
theorem im_X5_worstPlace : (Jvm.Cond.instanceMethod ({ cls := "BestPair$Leaving", name := "worstPlace", desc := "(III)I" } : Jvm.MethodName)) ∈ wAll := wAll_4 10 rfl rfl
theorem se_X5_worstPlace : (Jvm.Cond.selects "BestPair$Leaving" ({ cls := "BestPair$Leaving", name := "worstPlace", desc := "(III)I" } : Jvm.MethodName) ({ cls := "BestPair$Leaving", name := "worstPlace", desc := "(III)I" } : Jvm.MethodName)) ∈ wAll := wAll_4 11 rfl rfl
theorem cd_X5_worstPlace : (Jvm.Cond.code ({ cls := "BestPair$Leaving", name := "worstPlace", desc := "(III)I" } : Jvm.MethodName) prog_7_method_15_code (8 : Nat) (Option.some Jvm.ClassFile.FieldType.int)) ∈ wAll := wAll_4 12 rfl rfl
theorem ml_X5_78 : (Jvm.Cond.methodLink "BestPair$Leaving" (78 : Nat) ({ cls := "java/util/Arrays", name := "fill", desc := "([II)V" } : Jvm.MethodName)) ∈ wAll := wAll_4 13 rfl rfl
theorem ml_X5_84 : (Jvm.Cond.methodLink "BestPair$Leaving" (84 : Nat) ({ cls := "BestPair$Leaving", name := "placeOf", desc := "(I)I" } : Jvm.MethodName)) ∈ wAll := wAll_4 14 rfl rfl
theorem im_X5_placeOf : (Jvm.Cond.instanceMethod ({ cls := "BestPair$Leaving", name := "placeOf", desc := "(I)I" } : Jvm.MethodName)) ∈ wAll := wAll_4 15 rfl rfl
theorem se_X5_placeOf : (Jvm.Cond.selects "BestPair$Leaving" ({ cls := "BestPair$Leaving", name := "placeOf", desc := "(I)I" } : Jvm.MethodName) ({ cls := "BestPair$Leaving", name := "placeOf", desc := "(I)I" } : Jvm.MethodName)) ∈ wAll := wAll_4 16 rfl rfl
theorem cd_X5_placeOf : (Jvm.Cond.code ({ cls := "BestPair$Leaving", name := "placeOf", desc := "(I)I" } : Jvm.MethodName) prog_7_method_8_code (3 : Nat) (Option.some Jvm.ClassFile.FieldType.int)) ∈ wAll := wAll_4 17 rfl rfl
theorem ml_X5_87 : (Jvm.Cond.methodLink "BestPair$Leaving" (87 : Nat) ({ cls := "BestPair$Leaving", name := "worthOf", desc := "(I)I" } : Jvm.MethodName)) ∈ wAll := wAll_4 18 rfl rfl
theorem im_X5_worthOf : (Jvm.Cond.instanceMethod ({ cls := "BestPair$Leaving", name := "worthOf", desc := "(I)I" } : Jvm.MethodName)) ∈ wAll := wAll_4 19 rfl rfl
theorem se_X5_worthOf : (Jvm.Cond.selects "BestPair$Leaving" ({ cls := "BestPair$Leaving", name := "worthOf", desc := "(I)I" } : Jvm.MethodName) ({ cls := "BestPair$Leaving", name := "worthOf", desc := "(I)I" } : Jvm.MethodName)) ∈ wAll := wAll_4 20 rfl rfl
theorem cd_X5_worthOf : (Jvm.Cond.code ({ cls := "BestPair$Leaving", name := "worthOf", desc := "(I)I" } : Jvm.MethodName) prog_7_method_13_code (2 : Nat) (Option.some Jvm.ClassFile.FieldType.int)) ∈ wAll := wAll_4 21 rfl rfl
theorem ml_X5_65 : (Jvm.Cond.methodLink "BestPair$Leaving" (65 : Nat) ({ cls := "BestPair$Door", name := "worthOf", desc := "(I)I" } : Jvm.MethodName)) ∈ wAll := wAll_4 22 rfl rfl
theorem im_X2_worthOf : (Jvm.Cond.instanceMethod ({ cls := "BestPair$Door", name := "worthOf", desc := "(I)I" } : Jvm.MethodName)) ∈ wAll := wAll_4 23 rfl rfl
theorem se_X2_worthOf : (Jvm.Cond.selects "BestPair$Door" ({ cls := "BestPair$Door", name := "worthOf", desc := "(I)I" } : Jvm.MethodName) ({ cls := "BestPair$Door", name := "worthOf", desc := "(I)I" } : Jvm.MethodName)) ∈ wAll := wAll_4 24 rfl rfl
theorem cd_X2_worthOf : (Jvm.Cond.code ({ cls := "BestPair$Door", name := "worthOf", desc := "(I)I" } : Jvm.MethodName) prog_4_method_5_code (2 : Nat) (Option.some Jvm.ClassFile.FieldType.int)) ∈ wAll := wAll_4 25 rfl rfl
theorem ml_L_79 : (Jvm.Cond.methodLink "BestPairLaw" (79 : Nat) ({ cls := "BestPair", name := "host", desc := "(IIII)I" } : Jvm.MethodName)) ∈ wAll := wAll_4 26 rfl rfl
theorem im_X11_host : (Jvm.Cond.instanceMethod ({ cls := "BestPair", name := "host", desc := "(IIII)I" } : Jvm.MethodName)) ∈ wAll := wAll_4 27 rfl rfl
theorem se_X11_host : (Jvm.Cond.selects "BestPair" ({ cls := "BestPair", name := "host", desc := "(IIII)I" } : Jvm.MethodName) ({ cls := "BestPair", name := "host", desc := "(IIII)I" } : Jvm.MethodName)) ∈ wAll := wAll_4 28 rfl rfl
theorem cd_X11_host : (Jvm.Cond.code ({ cls := "BestPair", name := "host", desc := "(IIII)I" } : Jvm.MethodName) prog_1_method_18_code (12 : Nat) (Option.some Jvm.ClassFile.FieldType.int)) ∈ wAll := wAll_4 29 rfl rfl
theorem ml_X11_235 : (Jvm.Cond.methodLink "BestPair" (235 : Nat) ({ cls := "BestPair$Leaving", name := "first", desc := "(II)I" } : Jvm.MethodName)) ∈ wAll := wAll_4 30 rfl rfl
theorem ml_X11_238 : (Jvm.Cond.methodLink "BestPair" (238 : Nat) ({ cls := "BestPair$Leaving", name := "much", desc := "(I)I" } : Jvm.MethodName)) ∈ wAll := wAll_4 31 rfl rfl
theorem im_X5_much : (Jvm.Cond.instanceMethod ({ cls := "BestPair$Leaving", name := "much", desc := "(I)I" } : Jvm.MethodName)) ∈ wAll := wAll_4 32 rfl rfl
theorem se_X5_much : (Jvm.Cond.selects "BestPair$Leaving" ({ cls := "BestPair$Leaving", name := "much", desc := "(I)I" } : Jvm.MethodName) ({ cls := "BestPair$Leaving", name := "much", desc := "(I)I" } : Jvm.MethodName)) ∈ wAll := wAll_4 33 rfl rfl
theorem cd_X5_much : (Jvm.Cond.code ({ cls := "BestPair$Leaving", name := "much", desc := "(I)I" } : Jvm.MethodName) prog_7_method_16_code (9 : Nat) (Option.some Jvm.ClassFile.FieldType.int)) ∈ wAll := wAll_4 34 rfl rfl
theorem ml_X5_88 : (Jvm.Cond.methodLink "BestPair$Leaving" (88 : Nat) ({ cls := "java/lang/Math", name := "min", desc := "(II)I" } : Jvm.MethodName)) ∈ wAll := wAll_4 35 rfl rfl
theorem st_J9_min_7cf53 : (Jvm.Cond.static ({ cls := "java/lang/Math", name := "min", desc := "(II)I" } : Jvm.MethodName)) ∈ wAll := wAll_4 36 rfl rfl
theorem cd_J9_min_7cf53 : (Jvm.Cond.code ({ cls := "java/lang/Math", name := "min", desc := "(II)I" } : Jvm.MethodName) prog_20_method_69_code (2 : Nat) (Option.some Jvm.ClassFile.FieldType.int)) ∈ wAll := wAll_4 37 rfl rfl
theorem ml_X11_241 : (Jvm.Cond.methodLink "BestPair" (241 : Nat) ({ cls := "BestPair$Leaving", name := "number", desc := "()I" } : Jvm.MethodName)) ∈ wAll := wAll_4 38 rfl rfl
theorem im_X5_number : (Jvm.Cond.instanceMethod ({ cls := "BestPair$Leaving", name := "number", desc := "()I" } : Jvm.MethodName)) ∈ wAll := wAll_4 39 rfl rfl
theorem se_X5_number : (Jvm.Cond.selects "BestPair$Leaving" ({ cls := "BestPair$Leaving", name := "number", desc := "()I" } : Jvm.MethodName) ({ cls := "BestPair$Leaving", name := "number", desc := "()I" } : Jvm.MethodName)) ∈ wAll := wAll_4 40 rfl rfl
theorem cd_X5_number : (Jvm.Cond.code ({ cls := "BestPair$Leaving", name := "number", desc := "()I" } : Jvm.MethodName) prog_7_method_7_code (3 : Nat) (Option.some Jvm.ClassFile.FieldType.int)) ∈ wAll := wAll_4 41 rfl rfl
theorem ml_X11_244 : (Jvm.Cond.methodLink "BestPair" (244 : Nat) ({ cls := "BestPair$Leaving", name := "advance", desc := "()I" } : Jvm.MethodName)) ∈ wAll := wAll_4 42 rfl rfl
theorem ml_L_83 : (Jvm.Cond.methodLink "BestPairLaw" (83 : Nat) ({ cls := "BestPair", name := "hide", desc := "(IIIII)I" } : Jvm.MethodName)) ∈ wAll := wAll_4 43 rfl rfl
theorem im_X11_hide : (Jvm.Cond.instanceMethod ({ cls := "BestPair", name := "hide", desc := "(IIIII)I" } : Jvm.MethodName)) ∈ wAll := wAll_4 44 rfl rfl
theorem se_X11_hide : (Jvm.Cond.selects "BestPair" ({ cls := "BestPair", name := "hide", desc := "(IIIII)I" } : Jvm.MethodName) ({ cls := "BestPair", name := "hide", desc := "(IIIII)I" } : Jvm.MethodName)) ∈ wAll := wAll_4 45 rfl rfl
theorem cd_X11_hide : (Jvm.Cond.code ({ cls := "BestPair", name := "hide", desc := "(IIIII)I" } : Jvm.MethodName) prog_1_method_19_code (9 : Nat) (Option.some Jvm.ClassFile.FieldType.int)) ∈ wAll := wAll_4 46 rfl rfl
theorem ml_L_87 : (Jvm.Cond.methodLink "BestPairLaw" (87 : Nat) ({ cls := "BestPair", name := "rests", desc := "(IIII)I" } : Jvm.MethodName)) ∈ wAll := wAll_4 47 rfl rfl
theorem im_X11_rests : (Jvm.Cond.instanceMethod ({ cls := "BestPair", name := "rests", desc := "(IIII)I" } : Jvm.MethodName)) ∈ wAll := wAll_4 48 rfl rfl
theorem se_X11_rests : (Jvm.Cond.selects "BestPair" ({ cls := "BestPair", name := "rests", desc := "(IIII)I" } : Jvm.MethodName) ({ cls := "BestPair", name := "rests", desc := "(IIII)I" } : Jvm.MethodName)) ∈ wAll := wAll_4 49 rfl rfl
theorem cd_X11_rests : (Jvm.Cond.code ({ cls := "BestPair", name := "rests", desc := "(IIII)I" } : Jvm.MethodName) prog_1_method_20_code (5 : Nat) (Option.some Jvm.ClassFile.FieldType.int)) ∈ wAll := wAll_4 50 rfl rfl
theorem ml_X11_250 : (Jvm.Cond.methodLink "BestPair" (250 : Nat) ({ cls := "java/lang/Integer", name := "bitCount", desc := "(I)I" } : Jvm.MethodName)) ∈ wAll := wAll_4 51 rfl rfl
theorem ml_X11_255 : (Jvm.Cond.methodLink "BestPair" (255 : Nat) ({ cls := "BestPair$Contest", name := "seat", desc := "(I)V" } : Jvm.MethodName)) ∈ wAll := wAll_4 52 rfl rfl
theorem im_X0_seat : (Jvm.Cond.instanceMethod ({ cls := "BestPair$Contest", name := "seat", desc := "(I)V" } : Jvm.MethodName)) ∈ wAll := wAll_4 53 rfl rfl
theorem se_X0_seat : (Jvm.Cond.selects "BestPair$Contest" ({ cls := "BestPair$Contest", name := "seat", desc := "(I)V" } : Jvm.MethodName) ({ cls := "BestPair$Contest", name := "seat", desc := "(I)V" } : Jvm.MethodName)) ∈ wAll := wAll_4 54 rfl rfl
theorem cd_X0_seat : (Jvm.Cond.code ({ cls := "BestPair$Contest", name := "seat", desc := "(I)V" } : Jvm.MethodName) prog_2_method_2_code (3 : Nat) (Option.none : Option Jvm.ClassFile.FieldType)) ∈ wAll := wAll_4 55 rfl rfl
theorem mn_X0_38 : (Jvm.Cond.methodLinkNest "BestPair$Contest" (38 : Nat) ({ cls := "BestPair", name := "isIn", desc := "(II)Z" } : Jvm.MethodName) "BestPair") ∈ nstL := nstL_4 56 rfl rfl
theorem ml_X11_258 : (Jvm.Cond.methodLink "BestPair" (258 : Nat) ({ cls := "BestPair$Contest", name := "findRest", desc := "(III)I" } : Jvm.MethodName)) ∈ wAll := wAll_4 57 rfl rfl
theorem im_X0_findRest : (Jvm.Cond.instanceMethod ({ cls := "BestPair$Contest", name := "findRest", desc := "(III)I" } : Jvm.MethodName)) ∈ wAll := wAll_4 58 rfl rfl
theorem se_X0_findRest : (Jvm.Cond.selects "BestPair$Contest" ({ cls := "BestPair$Contest", name := "findRest", desc := "(III)I" } : Jvm.MethodName) ({ cls := "BestPair$Contest", name := "findRest", desc := "(III)I" } : Jvm.MethodName)) ∈ wAll := wAll_4 59 rfl rfl
theorem cd_X0_findRest : (Jvm.Cond.code ({ cls := "BestPair$Contest", name := "findRest", desc := "(III)I" } : Jvm.MethodName) prog_2_method_3_code (7 : Nat) (Option.some Jvm.ClassFile.FieldType.int)) ∈ wAll := wAll_4 60 rfl rfl
theorem ml_X0_42 : (Jvm.Cond.methodLink "BestPair$Contest" (42 : Nat) ({ cls := "java/lang/Math", name := "min", desc := "(II)I" } : Jvm.MethodName)) ∈ wAll := wAll_4 61 rfl rfl
theorem ml_X0_48 : (Jvm.Cond.methodLink "BestPair$Contest" (48 : Nat) ({ cls := "BestPair$Contest", name := "isTold", desc := "(II)Z" } : Jvm.MethodName)) ∈ wAll := wAll_4 62 rfl rfl
theorem im_X0_isTold : (Jvm.Cond.instanceMethod ({ cls := "BestPair$Contest", name := "isTold", desc := "(II)Z" } : Jvm.MethodName)) ∈ wAll := wAll_4 64 rfl rfl
theorem cd_X0_isTold : (Jvm.Cond.code ({ cls := "BestPair$Contest", name := "isTold", desc := "(II)Z" } : Jvm.MethodName) prog_2_method_6_code (4 : Nat) (Option.some Jvm.ClassFile.FieldType.boolean)) ∈ wAll := wAll_4 65 rfl rfl
theorem ml_X0_62 : (Jvm.Cond.methodLink "BestPair$Contest" (62 : Nat) ({ cls := "BestPair$Contest", name := "roundOf", desc := "(II)I" } : Jvm.MethodName)) ∈ wAll := wAll_4 66 rfl rfl
theorem im_X0_roundOf : (Jvm.Cond.instanceMethod ({ cls := "BestPair$Contest", name := "roundOf", desc := "(II)I" } : Jvm.MethodName)) ∈ wAll := wAll_4 68 rfl rfl
theorem cd_X0_roundOf : (Jvm.Cond.code ({ cls := "BestPair$Contest", name := "roundOf", desc := "(II)I" } : Jvm.MethodName) prog_2_method_5_code (3 : Nat) (Option.some Jvm.ClassFile.FieldType.int)) ∈ wAll := wAll_4 69 rfl rfl
theorem ml_X0_58 : (Jvm.Cond.methodLink "BestPair$Contest" (58 : Nat) ({ cls := "BestPair$Contest", name := "shiftOf", desc := "(I)I" } : Jvm.MethodName)) ∈ wAll := wAll_4 70 rfl rfl
theorem im_X0_shiftOf : (Jvm.Cond.instanceMethod ({ cls := "BestPair$Contest", name := "shiftOf", desc := "(I)I" } : Jvm.MethodName)) ∈ wAll := wAll_4 72 rfl rfl
theorem cd_X0_shiftOf : (Jvm.Cond.code ({ cls := "BestPair$Contest", name := "shiftOf", desc := "(I)I" } : Jvm.MethodName) prog_2_method_4_code (2 : Nat) (Option.some Jvm.ClassFile.FieldType.int)) ∈ wAll := wAll_4 73 rfl rfl
theorem ml_X0_51 : (Jvm.Cond.methodLink "BestPair$Contest" (51 : Nat) ({ cls := "BestPair$Contest", name := "rise", desc := "(III)V" } : Jvm.MethodName)) ∈ wAll := wAll_4 74 rfl rfl
theorem im_X0_rise : (Jvm.Cond.instanceMethod ({ cls := "BestPair$Contest", name := "rise", desc := "(III)V" } : Jvm.MethodName)) ∈ wAll := wAll_4 76 rfl rfl
theorem cd_X0_rise : (Jvm.Cond.code ({ cls := "BestPair$Contest", name := "rise", desc := "(III)V" } : Jvm.MethodName) prog_2_method_7_code (6 : Nat) (Option.none : Option Jvm.ClassFile.FieldType)) ∈ wAll := wAll_4 77 rfl rfl
theorem ml_X0_65 : (Jvm.Cond.methodLink "BestPair$Contest" (65 : Nat) ({ cls := "BestPair$Leaving", name := "lowest", desc := "(I)V" } : Jvm.MethodName)) ∈ wAll := wAll_4 78 rfl rfl
theorem ml_X0_71 : (Jvm.Cond.methodLink "BestPair$Contest" (71 : Nat) ({ cls := "BestPair$Leaving", name := "add", desc := "(I)V" } : Jvm.MethodName)) ∈ wAll := wAll_4 79 rfl rfl
theorem ml_X0_74 : (Jvm.Cond.methodLink "BestPair$Contest" (74 : Nat) ({ cls := "BestPair$Leaving", name := "begin", desc := "(I)V" } : Jvm.MethodName)) ∈ wAll := wAll_4 80 rfl rfl
theorem ml_X0_77 : (Jvm.Cond.methodLink "BestPair$Contest" (77 : Nat) ({ cls := "BestPair$Leaving", name := "go", desc := "(I)V" } : Jvm.MethodName)) ∈ wAll := wAll_4 81 rfl rfl
theorem ml_X0_80 : (Jvm.Cond.methodLink "BestPair$Contest" (80 : Nat) ({ cls := "BestPair$People", name := "item", desc := "(II)I" } : Jvm.MethodName)) ∈ wAll := wAll_4 82 rfl rfl
theorem ml_X0_85 : (Jvm.Cond.methodLink "BestPair$Contest" (85 : Nat) ({ cls := "BestPair$Leaving", name := "worthOf", desc := "(I)I" } : Jvm.MethodName)) ∈ wAll := wAll_4 83 rfl rfl
theorem ml_X0_55 : (Jvm.Cond.methodLink "BestPair$Contest" (55 : Nat) ({ cls := "BestPair$Contest", name := "isRest", desc := "(II)Z" } : Jvm.MethodName)) ∈ wAll := wAll_4 84 rfl rfl
theorem im_X0_isRest : (Jvm.Cond.instanceMethod ({ cls := "BestPair$Contest", name := "isRest", desc := "(II)Z" } : Jvm.MethodName)) ∈ wAll := wAll_4 86 rfl rfl
theorem cd_X0_isRest : (Jvm.Cond.code ({ cls := "BestPair$Contest", name := "isRest", desc := "(II)Z" } : Jvm.MethodName) prog_2_method_8_code (7 : Nat) (Option.some Jvm.ClassFile.FieldType.boolean)) ∈ wAll := wAll_4 87 rfl rfl
theorem ml_L_91 : (Jvm.Cond.methodLink "BestPairLaw" (91 : Nat) ({ cls := "BestPair", name := "quiet", desc := "(II)I" } : Jvm.MethodName)) ∈ wAll := wAll_4 88 rfl rfl
theorem im_X11_quiet : (Jvm.Cond.instanceMethod ({ cls := "BestPair", name := "quiet", desc := "(II)I" } : Jvm.MethodName)) ∈ wAll := wAll_4 89 rfl rfl
theorem se_X11_quiet : (Jvm.Cond.selects "BestPair" ({ cls := "BestPair", name := "quiet", desc := "(II)I" } : Jvm.MethodName) ({ cls := "BestPair", name := "quiet", desc := "(II)I" } : Jvm.MethodName)) ∈ wAll := wAll_4 90 rfl rfl
theorem cd_X11_quiet : (Jvm.Cond.code ({ cls := "BestPair", name := "quiet", desc := "(II)I" } : Jvm.MethodName) prog_1_method_21_code (3 : Nat) (Option.some Jvm.ClassFile.FieldType.int)) ∈ wAll := wAll_4 91 rfl rfl
theorem ml_X11_261 : (Jvm.Cond.methodLink "BestPair" (261 : Nat) ({ cls := "BestPair$Contest", name := "findQuiet", desc := "(II)I" } : Jvm.MethodName)) ∈ wAll := wAll_4 92 rfl rfl
theorem im_X0_findQuiet : (Jvm.Cond.instanceMethod ({ cls := "BestPair$Contest", name := "findQuiet", desc := "(II)I" } : Jvm.MethodName)) ∈ wAll := wAll_4 93 rfl rfl
theorem se_X0_findQuiet : (Jvm.Cond.selects "BestPair$Contest" ({ cls := "BestPair$Contest", name := "findQuiet", desc := "(II)I" } : Jvm.MethodName) ({ cls := "BestPair$Contest", name := "findQuiet", desc := "(II)I" } : Jvm.MethodName)) ∈ wAll := wAll_4 94 rfl rfl
theorem cd_X0_findQuiet : (Jvm.Cond.code ({ cls := "BestPair$Contest", name := "findQuiet", desc := "(II)I" } : Jvm.MethodName) prog_2_method_9_code (5 : Nat) (Option.some Jvm.ClassFile.FieldType.int)) ∈ wAll := wAll_4 95 rfl rfl
theorem ml_X0_88 : (Jvm.Cond.methodLink "BestPair$Contest" (88 : Nat) ({ cls := "BestPair$Contest", name := "come", desc := "(II)V" } : Jvm.MethodName)) ∈ wAll := wAll_4 96 rfl rfl
theorem im_X0_come : (Jvm.Cond.instanceMethod ({ cls := "BestPair$Contest", name := "come", desc := "(II)V" } : Jvm.MethodName)) ∈ wAll := wAll_4 98 rfl rfl
theorem cd_X0_come : (Jvm.Cond.code ({ cls := "BestPair$Contest", name := "come", desc := "(II)V" } : Jvm.MethodName) prog_2_method_10_code (6 : Nat) (Option.none : Option Jvm.ClassFile.FieldType)) ∈ wAll := wAll_4 99 rfl rfl
theorem ml_X0_104 : (Jvm.Cond.methodLink "BestPair$Contest" (104 : Nat) ({ cls := "BestPair$Contest", name := "comesIn", desc := "(IZ)I" } : Jvm.MethodName)) ∈ wAll := wAll_4 100 rfl rfl
theorem im_X0_comesIn : (Jvm.Cond.instanceMethod ({ cls := "BestPair$Contest", name := "comesIn", desc := "(IZ)I" } : Jvm.MethodName)) ∈ wAll := wAll_4 102 rfl rfl
theorem cd_X0_comesIn : (Jvm.Cond.code ({ cls := "BestPair$Contest", name := "comesIn", desc := "(IZ)I" } : Jvm.MethodName) prog_2_method_11_code (3 : Nat) (Option.some Jvm.ClassFile.FieldType.int)) ∈ wAll := wAll_4 103 rfl rfl
theorem mn_X0_108 : (Jvm.Cond.methodLinkNest "BestPair$Contest" (108 : Nat) ({ cls := "BestPair$Door", name := "forget", desc := "()V" } : Jvm.MethodName) "BestPair") ∈ nstL := nstL_4 104 rfl rfl
theorem ml_X0_92 : (Jvm.Cond.methodLink "BestPair$Contest" (92 : Nat) ({ cls := "BestPair$Contest", name := "isQuiet", desc := "(II)Z" } : Jvm.MethodName)) ∈ wAll := wAll_4 105 rfl rfl
theorem im_X0_isQuiet : (Jvm.Cond.instanceMethod ({ cls := "BestPair$Contest", name := "isQuiet", desc := "(II)Z" } : Jvm.MethodName)) ∈ wAll := wAll_4 107 rfl rfl
theorem cd_X0_isQuiet : (Jvm.Cond.code ({ cls := "BestPair$Contest", name := "isQuiet", desc := "(II)Z" } : Jvm.MethodName) prog_2_method_12_code (5 : Nat) (Option.some Jvm.ClassFile.FieldType.boolean)) ∈ wAll := wAll_4 108 rfl rfl
theorem ml_L_97 : (Jvm.Cond.methodLink "BestPairLaw" (97 : Nat) ({ cls := "BestPair", name := "year", desc := "(IJ)I" } : Jvm.MethodName)) ∈ wAll := wAll_4 109 rfl rfl
theorem im_X11_year : (Jvm.Cond.instanceMethod ({ cls := "BestPair", name := "year", desc := "(IJ)I" } : Jvm.MethodName)) ∈ wAll := wAll_4 110 rfl rfl
theorem se_X11_year : (Jvm.Cond.selects "BestPair" ({ cls := "BestPair", name := "year", desc := "(IJ)I" } : Jvm.MethodName) ({ cls := "BestPair", name := "year", desc := "(IJ)I" } : Jvm.MethodName)) ∈ wAll := wAll_4 111 rfl rfl
theorem cd_X11_year : (Jvm.Cond.code ({ cls := "BestPair", name := "year", desc := "(IJ)I" } : Jvm.MethodName) prog_1_method_22_code (7 : Nat) (Option.some Jvm.ClassFile.FieldType.int)) ∈ wAll := wAll_4 112 rfl rfl
theorem ml_X11_268 : (Jvm.Cond.methodLink "BestPair" (268 : Nat) ({ cls := "BestPair", name := "draw", desc := "(I)I" } : Jvm.MethodName)) ∈ wAll := wAll_4 113 rfl rfl
theorem im_X11_draw : (Jvm.Cond.instanceMethod ({ cls := "BestPair", name := "draw", desc := "(I)I" } : Jvm.MethodName)) ∈ wAll := wAll_4 115 rfl rfl
theorem cd_X11_draw : (Jvm.Cond.code ({ cls := "BestPair", name := "draw", desc := "(I)I" } : Jvm.MethodName) prog_1_method_25_code (2 : Nat) (Option.some Jvm.ClassFile.FieldType.int)) ∈ wAll := wAll_4 116 rfl rfl
theorem kl_X11_290 : (Jvm.Cond.constantLong "BestPair" (290 : Nat) (6364136223846793005 : Int64)) ∈ wAll := wAll_4 117 rfl rfl
theorem kl_X11_292 : (Jvm.Cond.constantLong "BestPair" (292 : Nat) (1442695040888963407 : Int64)) ∈ wAll := wAll_4 118 rfl rfl
theorem ml_X11_271 : (Jvm.Cond.methodLink "BestPair" (271 : Nat) ({ cls := "BestPair", name := "drawGuests", desc := "()I" } : Jvm.MethodName)) ∈ wAll := wAll_4 119 rfl rfl
theorem im_X11_drawGuests : (Jvm.Cond.instanceMethod ({ cls := "BestPair", name := "drawGuests", desc := "()I" } : Jvm.MethodName)) ∈ wAll := wAll_4 121 rfl rfl
theorem cd_X11_drawGuests : (Jvm.Cond.code ({ cls := "BestPair", name := "drawGuests", desc := "()I" } : Jvm.MethodName) prog_1_method_23_code (3 : Nat) (Option.some Jvm.ClassFile.FieldType.int)) ∈ wAll := wAll_4 122 rfl rfl
theorem ml_X11_274 : (Jvm.Cond.methodLink "BestPair" (274 : Nat) ({ cls := "BestPair", name := "drawOrder", desc := "(I)V" } : Jvm.MethodName)) ∈ wAll := wAll_4 123 rfl rfl
theorem im_X11_drawOrder : (Jvm.Cond.instanceMethod ({ cls := "BestPair", name := "drawOrder", desc := "(I)V" } : Jvm.MethodName)) ∈ wAll := wAll_4 125 rfl rfl
theorem cd_X11_drawOrder : (Jvm.Cond.code ({ cls := "BestPair", name := "drawOrder", desc := "(I)V" } : Jvm.MethodName) prog_1_method_24_code (3 : Nat) (Option.none : Option Jvm.ClassFile.FieldType)) ∈ wAll := wAll_4 126 rfl rfl
theorem ml_X11_283 : (Jvm.Cond.methodLink "BestPair" (283 : Nat) ({ cls := "BestPair$Leaving", name := "lowest", desc := "(I)V" } : Jvm.MethodName)) ∈ wAll := wAll_4 127 rfl rfl
theorem ml_X11_287 : (Jvm.Cond.methodLink "BestPair" (287 : Nat) ({ cls := "BestPair$Leaving", name := "exchange", desc := "(II)V" } : Jvm.MethodName)) ∈ wAll := wAll_4 128 rfl rfl
theorem ml_X11_277 : (Jvm.Cond.methodLink "BestPair" (277 : Nat) ({ cls := "BestPair$Stand", name := "bare", desc := "(I)I" } : Jvm.MethodName)) ∈ wAll := wAll_4 129 rfl rfl
theorem im_X9_bare : (Jvm.Cond.instanceMethod ({ cls := "BestPair$Stand", name := "bare", desc := "(I)I" } : Jvm.MethodName)) ∈ wAll := wAll_4 130 rfl rfl
theorem se_X9_bare : (Jvm.Cond.selects "BestPair$Stand" ({ cls := "BestPair$Stand", name := "bare", desc := "(I)I" } : Jvm.MethodName) ({ cls := "BestPair$Stand", name := "bare", desc := "(I)I" } : Jvm.MethodName)) ∈ wAll := wAll_4 131 rfl rfl
theorem cd_X9_bare : (Jvm.Cond.code ({ cls := "BestPair$Stand", name := "bare", desc := "(I)I" } : Jvm.MethodName) prog_11_method_6_code (4 : Nat) (Option.some Jvm.ClassFile.FieldType.int)) ∈ wAll := wAll_4 132 rfl rfl
theorem ml_L_102 : (Jvm.Cond.methodLink "BestPairLaw" (102 : Nat) ({ cls := "BestPair", name := "likely", desc := "(III)I" } : Jvm.MethodName)) ∈ wAll := wAll_4 133 rfl rfl
theorem im_X11_likely : (Jvm.Cond.instanceMethod ({ cls := "BestPair", name := "likely", desc := "(III)I" } : Jvm.MethodName)) ∈ wAll := wAll_4 134 rfl rfl
theorem se_X11_likely : (Jvm.Cond.selects "BestPair" ({ cls := "BestPair", name := "likely", desc := "(III)I" } : Jvm.MethodName) ({ cls := "BestPair", name := "likely", desc := "(III)I" } : Jvm.MethodName)) ∈ wAll := wAll_4 135 rfl rfl
theorem cd_X11_likely : (Jvm.Cond.code ({ cls := "BestPair", name := "likely", desc := "(III)I" } : Jvm.MethodName) prog_1_method_26_code (4 : Nat) (Option.some Jvm.ClassFile.FieldType.int)) ∈ wAll := wAll_4 136 rfl rfl
theorem ml_X11_294 : (Jvm.Cond.methodLink "BestPair" (294 : Nat) ({ cls := "BestPair$Future", name := "chance", desc := "(III)I" } : Jvm.MethodName)) ∈ wAll := wAll_4 137 rfl rfl
theorem im_X4_chance : (Jvm.Cond.instanceMethod ({ cls := "BestPair$Future", name := "chance", desc := "(III)I" } : Jvm.MethodName)) ∈ wAll := wAll_4 138 rfl rfl
theorem se_X4_chance : (Jvm.Cond.selects "BestPair$Future" ({ cls := "BestPair$Future", name := "chance", desc := "(III)I" } : Jvm.MethodName) ({ cls := "BestPair$Future", name := "chance", desc := "(III)I" } : Jvm.MethodName)) ∈ wAll := wAll_4 139 rfl rfl
theorem cd_X4_chance : (Jvm.Cond.code ({ cls := "BestPair$Future", name := "chance", desc := "(III)I" } : Jvm.MethodName) prog_6_method_5_code (9 : Nat) (Option.some Jvm.ClassFile.FieldType.int)) ∈ wAll := wAll_4 140 rfl rfl
theorem kc_X4_53 : (Jvm.Cond.constant "BestPair$Future" (53 : Nat) (1000000000 : Int32)) ∈ wAll := wAll_4 141 rfl rfl
theorem ml_X4_54 : (Jvm.Cond.methodLink "BestPair$Future" (54 : Nat) ({ cls := "BestPair$Future", name := "findKinds", desc := "()I" } : Jvm.MethodName)) ∈ wAll := wAll_4 142 rfl rfl
theorem im_X4_findKinds : (Jvm.Cond.instanceMethod ({ cls := "BestPair$Future", name := "findKinds", desc := "()I" } : Jvm.MethodName)) ∈ wAll := wAll_4 144 rfl rfl
theorem cd_X4_findKinds : (Jvm.Cond.code ({ cls := "BestPair$Future", name := "findKinds", desc := "()I" } : Jvm.MethodName) prog_6_method_6_code (4 : Nat) (Option.some Jvm.ClassFile.FieldType.int)) ∈ wAll := wAll_4 145 rfl rfl
theorem ml_X4_70 : (Jvm.Cond.methodLink "BestPair$Future" (70 : Nat) ({ cls := "BestPair$Future", name := "pairsAround", desc := "()I" } : Jvm.MethodName)) ∈ wAll := wAll_4 146 rfl rfl
theorem im_X4_pairsAround : (Jvm.Cond.instanceMethod ({ cls := "BestPair$Future", name := "pairsAround", desc := "()I" } : Jvm.MethodName)) ∈ wAll := wAll_4 148 rfl rfl
theorem cd_X4_pairsAround : (Jvm.Cond.code ({ cls := "BestPair$Future", name := "pairsAround", desc := "()I" } : Jvm.MethodName) prog_6_method_4_code (3 : Nat) (Option.some Jvm.ClassFile.FieldType.int)) ∈ wAll := wAll_4 149 rfl rfl
theorem ml_X4_73 : (Jvm.Cond.methodLink "BestPair$Future" (73 : Nat) ({ cls := "BestPair$Leaving", name := "first", desc := "(II)I" } : Jvm.MethodName)) ∈ wAll := wAll_4 150 rfl rfl
theorem ml_X4_78 : (Jvm.Cond.methodLink "BestPair$Future" (78 : Nat) ({ cls := "BestPair$Leaving", name := "go", desc := "(I)V" } : Jvm.MethodName)) ∈ wAll := wAll_4 151 rfl rfl
theorem ml_X4_82 : (Jvm.Cond.methodLink "BestPair$Future" (82 : Nat) ({ cls := "BestPair$Future", name := "stateBehind", desc := "(I)I" } : Jvm.MethodName)) ∈ wAll := wAll_4 152 rfl rfl
theorem im_X4_stateBehind : (Jvm.Cond.instanceMethod ({ cls := "BestPair$Future", name := "stateBehind", desc := "(I)I" } : Jvm.MethodName)) ∈ wAll := wAll_4 154 rfl rfl
theorem cd_X4_stateBehind : (Jvm.Cond.code ({ cls := "BestPair$Future", name := "stateBehind", desc := "(I)I" } : Jvm.MethodName) prog_6_method_8_code (5 : Nat) (Option.some Jvm.ClassFile.FieldType.int)) ∈ wAll := wAll_4 155 rfl rfl
theorem ml_X4_67 : (Jvm.Cond.methodLink "BestPair$Future" (67 : Nat) ({ cls := "BestPair$Future", name := "pairIn", desc := "(II)I" } : Jvm.MethodName)) ∈ wAll := wAll_4 156 rfl rfl
theorem st_X4_pairIn : (Jvm.Cond.static ({ cls := "BestPair$Future", name := "pairIn", desc := "(II)I" } : Jvm.MethodName)) ∈ wAll := wAll_4 157 rfl rfl
theorem cd_X4_pairIn : (Jvm.Cond.code ({ cls := "BestPair$Future", name := "pairIn", desc := "(II)I" } : Jvm.MethodName) prog_6_method_2_code (2 : Nat) (Option.some Jvm.ClassFile.FieldType.int)) ∈ wAll := wAll_4 158 rfl rfl
theorem fl_X4_36 : (Jvm.Cond.fieldLink "BestPair$Future" (36 : Nat) "BestPair$Future" "FIVES" "[I") ∈ wAll := wAll_4 159 rfl rfl
theorem ml_X4_86 : (Jvm.Cond.methodLink "BestPair$Future" (86 : Nat) ({ cls := "BestPair$Future", name := "addKind", desc := "(I)V" } : Jvm.MethodName)) ∈ wAll := wAll_4 161 rfl rfl
theorem im_X4_addKind : (Jvm.Cond.instanceMethod ({ cls := "BestPair$Future", name := "addKind", desc := "(I)V" } : Jvm.MethodName)) ∈ wAll := wAll_4 163 rfl rfl
theorem cd_X4_addKind : (Jvm.Cond.code ({ cls := "BestPair$Future", name := "addKind", desc := "(I)V" } : Jvm.MethodName) prog_6_method_7_code (3 : Nat) (Option.none : Option Jvm.ClassFile.FieldType)) ∈ wAll := wAll_4 164 rfl rfl
theorem ml_X4_89 : (Jvm.Cond.methodLink "BestPair$Future" (89 : Nat) ({ cls := "BestPair$Leaving", name := "advance", desc := "()I" } : Jvm.MethodName)) ∈ wAll := wAll_4 165 rfl rfl
theorem ml_X4_58 : (Jvm.Cond.methodLink "BestPair$Future" (58 : Nat) ({ cls := "java/lang/Math", name := "max", desc := "(II)I" } : Jvm.MethodName)) ∈ wAll := wAll_4 166 rfl rfl
theorem ml_L_106 : (Jvm.Cond.methodLink "BestPairLaw" (106 : Nat) ({ cls := "BestPair", name := "cobbler", desc := "(IIIII)I" } : Jvm.MethodName)) ∈ wAll := wAll_4 167 rfl rfl
theorem im_X11_cobbler : (Jvm.Cond.instanceMethod ({ cls := "BestPair", name := "cobbler", desc := "(IIIII)I" } : Jvm.MethodName)) ∈ wAll := wAll_4 168 rfl rfl
theorem se_X11_cobbler : (Jvm.Cond.selects "BestPair" ({ cls := "BestPair", name := "cobbler", desc := "(IIIII)I" } : Jvm.MethodName) ({ cls := "BestPair", name := "cobbler", desc := "(IIIII)I" } : Jvm.MethodName)) ∈ wAll := wAll_4 169 rfl rfl
theorem cd_X11_cobbler : (Jvm.Cond.code ({ cls := "BestPair", name := "cobbler", desc := "(IIIII)I" } : Jvm.MethodName) prog_1_method_27_code (11 : Nat) (Option.some Jvm.ClassFile.FieldType.int)) ∈ wAll := wAll_4 170 rfl rfl
theorem ml_X11_297 : (Jvm.Cond.methodLink "BestPair" (297 : Nat) ({ cls := "BestPair$Door", name := "replace", desc := "(III)V" } : Jvm.MethodName)) ∈ wAll := wAll_4 171 rfl rfl
theorem im_X2_replace : (Jvm.Cond.instanceMethod ({ cls := "BestPair$Door", name := "replace", desc := "(III)V" } : Jvm.MethodName)) ∈ wAll := wAll_4 172 rfl rfl
theorem se_X2_replace : (Jvm.Cond.selects "BestPair$Door" ({ cls := "BestPair$Door", name := "replace", desc := "(III)V" } : Jvm.MethodName) ({ cls := "BestPair$Door", name := "replace", desc := "(III)V" } : Jvm.MethodName)) ∈ wAll := wAll_4 173 rfl rfl
theorem cd_X2_replace : (Jvm.Cond.code ({ cls := "BestPair$Door", name := "replace", desc := "(III)V" } : Jvm.MethodName) prog_4_method_4_code (7 : Nat) (Option.none : Option Jvm.ClassFile.FieldType)) ∈ wAll := wAll_4 174 rfl rfl
theorem ml_X11_301 : (Jvm.Cond.methodLink "BestPair" (301 : Nat) ({ cls := "BestPair$Door", name := "isEverTaken", desc := "(II)Z" } : Jvm.MethodName)) ∈ wAll := wAll_4 175 rfl rfl
theorem im_X2_isEverTaken : (Jvm.Cond.instanceMethod ({ cls := "BestPair$Door", name := "isEverTaken", desc := "(II)Z" } : Jvm.MethodName)) ∈ wAll := wAll_4 176 rfl rfl
theorem se_X2_isEverTaken : (Jvm.Cond.selects "BestPair$Door" ({ cls := "BestPair$Door", name := "isEverTaken", desc := "(II)Z" } : Jvm.MethodName) ({ cls := "BestPair$Door", name := "isEverTaken", desc := "(II)Z" } : Jvm.MethodName)) ∈ wAll := wAll_4 177 rfl rfl
theorem cd_X2_isEverTaken : (Jvm.Cond.code ({ cls := "BestPair$Door", name := "isEverTaken", desc := "(II)Z" } : Jvm.MethodName) prog_4_method_7_code (4 : Nat) (Option.some Jvm.ClassFile.FieldType.boolean)) ∈ wAll := wAll_4 178 rfl rfl
theorem ml_L_110 : (Jvm.Cond.methodLink "BestPairLaw" (110 : Nat) ({ cls := "BestPair", name := "odd", desc := "(III)I" } : Jvm.MethodName)) ∈ wAll := wAll_4 179 rfl rfl
theorem im_X11_odd : (Jvm.Cond.instanceMethod ({ cls := "BestPair", name := "odd", desc := "(III)I" } : Jvm.MethodName)) ∈ wAll := wAll_4 180 rfl rfl
theorem se_X11_odd : (Jvm.Cond.selects "BestPair" ({ cls := "BestPair", name := "odd", desc := "(III)I" } : Jvm.MethodName) ({ cls := "BestPair", name := "odd", desc := "(III)I" } : Jvm.MethodName)) ∈ wAll := wAll_4 181 rfl rfl
theorem cd_X11_odd : (Jvm.Cond.code ({ cls := "BestPair", name := "odd", desc := "(III)I" } : Jvm.MethodName) prog_1_method_28_code (7 : Nat) (Option.some Jvm.ClassFile.FieldType.int)) ∈ wAll := wAll_4 182 rfl rfl
theorem ml_X11_304 : (Jvm.Cond.methodLink "BestPair" (304 : Nat) ({ cls := "BestPair", name := "isMixedRow", desc := "(II)Z" } : Jvm.MethodName)) ∈ wAll := wAll_4 183 rfl rfl
theorem st_X11_isMixedRow : (Jvm.Cond.static ({ cls := "BestPair", name := "isMixedRow", desc := "(II)Z" } : Jvm.MethodName)) ∈ wAll := wAll_4 184 rfl rfl
theorem cd_X11_isMixedRow : (Jvm.Cond.code ({ cls := "BestPair", name := "isMixedRow", desc := "(II)Z" } : Jvm.MethodName) prog_1_method_30_code (4 : Nat) (Option.some Jvm.ClassFile.FieldType.boolean)) ∈ wAll := wAll_4 185 rfl rfl
theorem fl_X11_314 : (Jvm.Cond.fieldLink "BestPair" (314 : Nat) "BestPair" "TENS" "[I") ∈ wAll := wAll_4 186 rfl rfl
theorem ml_X11_307 : (Jvm.Cond.methodLink "BestPair" (307 : Nat) ({ cls := "BestPair", name := "rightOf", desc := "(III)I" } : Jvm.MethodName)) ∈ wAll := wAll_4 188 rfl rfl
theorem st_X11_rightOf : (Jvm.Cond.static ({ cls := "BestPair", name := "rightOf", desc := "(III)I" } : Jvm.MethodName)) ∈ wAll := wAll_4 189 rfl rfl
theorem cd_X11_rightOf : (Jvm.Cond.code ({ cls := "BestPair", name := "rightOf", desc := "(III)I" } : Jvm.MethodName) prog_1_method_29_code (3 : Nat) (Option.some Jvm.ClassFile.FieldType.int)) ∈ wAll := wAll_4 190 rfl rfl
theorem ml_X11_310 : (Jvm.Cond.methodLink "BestPair" (310 : Nat) ({ cls := "BestPair", name := "isLowestOfRing", desc := "(III)Z" } : Jvm.MethodName)) ∈ wAll := wAll_4 191 rfl rfl
theorem st_X11_isLowestOfRing : (Jvm.Cond.static ({ cls := "BestPair", name := "isLowestOfRing", desc := "(III)Z" } : Jvm.MethodName)) ∈ wAll := wAll_4 192 rfl rfl
theorem cd_X11_isLowestOfRing : (Jvm.Cond.code ({ cls := "BestPair", name := "isLowestOfRing", desc := "(III)Z" } : Jvm.MethodName) prog_1_method_31_code (5 : Nat) (Option.some Jvm.ClassFile.FieldType.boolean)) ∈ wAll := wAll_4 193 rfl rfl
theorem ml_L_114 : (Jvm.Cond.methodLink "BestPairLaw" (114 : Nat) ({ cls := "BestPair", name := "sight", desc := "(III)I" } : Jvm.MethodName)) ∈ wAll := wAll_4 194 rfl rfl
theorem im_X11_sight : (Jvm.Cond.instanceMethod ({ cls := "BestPair", name := "sight", desc := "(III)I" } : Jvm.MethodName)) ∈ wAll := wAll_4 195 rfl rfl
theorem se_X11_sight : (Jvm.Cond.selects "BestPair" ({ cls := "BestPair", name := "sight", desc := "(III)I" } : Jvm.MethodName) ({ cls := "BestPair", name := "sight", desc := "(III)I" } : Jvm.MethodName)) ∈ wAll := wAll_4 196 rfl rfl
theorem cd_X11_sight : (Jvm.Cond.code ({ cls := "BestPair", name := "sight", desc := "(III)I" } : Jvm.MethodName) prog_1_method_32_code (5 : Nat) (Option.some Jvm.ClassFile.FieldType.int)) ∈ wAll := wAll_4 197 rfl rfl
theorem ml_X11_320 : (Jvm.Cond.methodLink "BestPair" (320 : Nat) ({ cls := "BestPair$Diary", name := "addSight", desc := "(III)V" } : Jvm.MethodName)) ∈ wAll := wAll_4 198 rfl rfl
theorem im_X1_addSight : (Jvm.Cond.instanceMethod ({ cls := "BestPair$Diary", name := "addSight", desc := "(III)V" } : Jvm.MethodName)) ∈ wAll := wAll_4 199 rfl rfl
theorem se_X1_addSight : (Jvm.Cond.selects "BestPair$Diary" ({ cls := "BestPair$Diary", name := "addSight", desc := "(III)V" } : Jvm.MethodName) ({ cls := "BestPair$Diary", name := "addSight", desc := "(III)V" } : Jvm.MethodName)) ∈ wAll := wAll_4 200 rfl rfl
theorem cd_X1_addSight : (Jvm.Cond.code ({ cls := "BestPair$Diary", name := "addSight", desc := "(III)V" } : Jvm.MethodName) prog_3_method_8_code (4 : Nat) (Option.none : Option Jvm.ClassFile.FieldType)) ∈ wAll := wAll_4 201 rfl rfl
theorem ml_L_118 : (Jvm.Cond.methodLink "BestPairLaw" (118 : Nat) ({ cls := "BestPair", name := "agree", desc := "()I" } : Jvm.MethodName)) ∈ wAll := wAll_4 202 rfl rfl
theorem im_X11_agree : (Jvm.Cond.instanceMethod ({ cls := "BestPair", name := "agree", desc := "()I" } : Jvm.MethodName)) ∈ wAll := wAll_4 203 rfl rfl
theorem se_X11_agree : (Jvm.Cond.selects "BestPair" ({ cls := "BestPair", name := "agree", desc := "()I" } : Jvm.MethodName) ({ cls := "BestPair", name := "agree", desc := "()I" } : Jvm.MethodName)) ∈ wAll := wAll_4 204 rfl rfl
theorem cd_X11_agree : (Jvm.Cond.code ({ cls := "BestPair", name := "agree", desc := "()I" } : Jvm.MethodName) prog_1_method_33_code (3 : Nat) (Option.some Jvm.ClassFile.FieldType.int)) ∈ wAll := wAll_4 205 rfl rfl
theorem ml_X11_323 : (Jvm.Cond.methodLink "BestPair" (323 : Nat) ({ cls := "BestPair$Diary", name := "isSeenAlways", desc := "(II)Z" } : Jvm.MethodName)) ∈ wAll := wAll_4 206 rfl rfl
theorem im_X1_isSeenAlways : (Jvm.Cond.instanceMethod ({ cls := "BestPair$Diary", name := "isSeenAlways", desc := "(II)Z" } : Jvm.MethodName)) ∈ wAll := wAll_4 207 rfl rfl
theorem se_X1_isSeenAlways : (Jvm.Cond.selects "BestPair$Diary" ({ cls := "BestPair$Diary", name := "isSeenAlways", desc := "(II)Z" } : Jvm.MethodName) ({ cls := "BestPair$Diary", name := "isSeenAlways", desc := "(II)Z" } : Jvm.MethodName)) ∈ wAll := wAll_4 208 rfl rfl
theorem cd_X1_isSeenAlways : (Jvm.Cond.code ({ cls := "BestPair$Diary", name := "isSeenAlways", desc := "(II)Z" } : Jvm.MethodName) prog_3_method_9_code (4 : Nat) (Option.some Jvm.ClassFile.FieldType.boolean)) ∈ wAll := wAll_4 209 rfl rfl
theorem ml_X1_42 : (Jvm.Cond.methodLink "BestPair$Diary" (42 : Nat) ({ cls := "BestPair$Diary", name := "placeOf", desc := "(II)I" } : Jvm.MethodName)) ∈ wAll := wAll_4 210 rfl rfl
theorem im_X1_placeOf : (Jvm.Cond.instanceMethod ({ cls := "BestPair$Diary", name := "placeOf", desc := "(II)I" } : Jvm.MethodName)) ∈ wAll := wAll_4 211 rfl rfl
theorem se_X1_placeOf : (Jvm.Cond.selects "BestPair$Diary" ({ cls := "BestPair$Diary", name := "placeOf", desc := "(II)I" } : Jvm.MethodName) ({ cls := "BestPair$Diary", name := "placeOf", desc := "(II)I" } : Jvm.MethodName)) ∈ wAll := wAll_4 212 rfl rfl
theorem cd_X1_placeOf : (Jvm.Cond.code ({ cls := "BestPair$Diary", name := "placeOf", desc := "(II)I" } : Jvm.MethodName) prog_3_method_6_code (3 : Nat) (Option.some Jvm.ClassFile.FieldType.int)) ∈ wAll := wAll_4 213 rfl rfl
theorem ml_L_122 : (Jvm.Cond.methodLink "BestPairLaw" (122 : Nat) ({ cls := "BestPair", name := "been", desc := "(II)I" } : Jvm.MethodName)) ∈ wAll := wAll_4 214 rfl rfl
theorem im_X11_been : (Jvm.Cond.instanceMethod ({ cls := "BestPair", name := "been", desc := "(II)I" } : Jvm.MethodName)) ∈ wAll := wAll_4 215 rfl rfl
theorem se_X11_been : (Jvm.Cond.selects "BestPair" ({ cls := "BestPair", name := "been", desc := "(II)I" } : Jvm.MethodName) ({ cls := "BestPair", name := "been", desc := "(II)I" } : Jvm.MethodName)) ∈ wAll := wAll_4 216 rfl rfl
theorem cd_X11_been : (Jvm.Cond.code ({ cls := "BestPair", name := "been", desc := "(II)I" } : Jvm.MethodName) prog_1_method_34_code (3 : Nat) (Option.some Jvm.ClassFile.FieldType.int)) ∈ wAll := wAll_4 217 rfl rfl
theorem ml_X11_326 : (Jvm.Cond.methodLink "BestPair" (326 : Nat) ({ cls := "BestPair$Diary", name := "placesOf", desc := "(I)I" } : Jvm.MethodName)) ∈ wAll := wAll_4 218 rfl rfl
theorem im_X1_placesOf : (Jvm.Cond.instanceMethod ({ cls := "BestPair$Diary", name := "placesOf", desc := "(I)I" } : Jvm.MethodName)) ∈ wAll := wAll_4 219 rfl rfl
theorem se_X1_placesOf : (Jvm.Cond.selects "BestPair$Diary" ({ cls := "BestPair$Diary", name := "placesOf", desc := "(I)I" } : Jvm.MethodName) ({ cls := "BestPair$Diary", name := "placesOf", desc := "(I)I" } : Jvm.MethodName)) ∈ wAll := wAll_4 220 rfl rfl
theorem cd_X1_placesOf : (Jvm.Cond.code ({ cls := "BestPair$Diary", name := "placesOf", desc := "(I)I" } : Jvm.MethodName) prog_3_method_7_code (4 : Nat) (Option.some Jvm.ClassFile.FieldType.int)) ∈ wAll := wAll_4 221 rfl rfl
theorem ml_X1_46 : (Jvm.Cond.methodLink "BestPair$Diary" (46 : Nat) ({ cls := "java/lang/Integer", name := "bitCount", desc := "(I)I" } : Jvm.MethodName)) ∈ wAll := wAll_4 222 rfl rfl
theorem ml_X11_329 : (Jvm.Cond.methodLink "BestPair" (329 : Nat) ({ cls := "BestPair$Diary", name := "placeOf", desc := "(II)I" } : Jvm.MethodName)) ∈ wAll := wAll_4 223 rfl rfl
theorem ml_L_126 : (Jvm.Cond.methodLink "BestPairLaw" (126 : Nat) ({ cls := "BestPair", name := "left", desc := "(III)I" } : Jvm.MethodName)) ∈ wAll := wAll_4 224 rfl rfl
theorem im_X11_left : (Jvm.Cond.instanceMethod ({ cls := "BestPair", name := "left", desc := "(III)I" } : Jvm.MethodName)) ∈ wAll := wAll_4 225 rfl rfl
theorem se_X11_left : (Jvm.Cond.selects "BestPair" ({ cls := "BestPair", name := "left", desc := "(III)I" } : Jvm.MethodName) ({ cls := "BestPair", name := "left", desc := "(III)I" } : Jvm.MethodName)) ∈ wAll := wAll_4 226 rfl rfl
theorem cd_X11_left : (Jvm.Cond.code ({ cls := "BestPair", name := "left", desc := "(III)I" } : Jvm.MethodName) prog_1_method_35_code (10 : Nat) (Option.some Jvm.ClassFile.FieldType.int)) ∈ wAll := wAll_4 227 rfl rfl
theorem ml_X11_332 : (Jvm.Cond.methodLink "BestPair" (332 : Nat) ({ cls := "BestPair$Leaving", name := "rest", desc := "()I" } : Jvm.MethodName)) ∈ wAll := wAll_4 228 rfl rfl
theorem im_X5_rest : (Jvm.Cond.instanceMethod ({ cls := "BestPair$Leaving", name := "rest", desc := "()I" } : Jvm.MethodName)) ∈ wAll := wAll_4 229 rfl rfl
theorem se_X5_rest : (Jvm.Cond.selects "BestPair$Leaving" ({ cls := "BestPair$Leaving", name := "rest", desc := "()I" } : Jvm.MethodName) ({ cls := "BestPair$Leaving", name := "rest", desc := "()I" } : Jvm.MethodName)) ∈ wAll := wAll_4 230 rfl rfl
theorem cd_X5_rest : (Jvm.Cond.code ({ cls := "BestPair$Leaving", name := "rest", desc := "()I" } : Jvm.MethodName) prog_7_method_12_code (1 : Nat) (Option.some Jvm.ClassFile.FieldType.int)) ∈ wAll := wAll_4 231 rfl rfl
theorem ml_L_130 : (Jvm.Cond.methodLink "BestPairLaw" (130 : Nat) ({ cls := "BestPair", name := "swap", desc := "(IIIII)I" } : Jvm.MethodName)) ∈ wAll := wAll_4 232 rfl rfl
theorem im_X11_swap : (Jvm.Cond.instanceMethod ({ cls := "BestPair", name := "swap", desc := "(IIIII)I" } : Jvm.MethodName)) ∈ wAll := wAll_4 233 rfl rfl
theorem se_X11_swap : (Jvm.Cond.selects "BestPair" ({ cls := "BestPair", name := "swap", desc := "(IIIII)I" } : Jvm.MethodName) ({ cls := "BestPair", name := "swap", desc := "(IIIII)I" } : Jvm.MethodName)) ∈ wAll := wAll_4 234 rfl rfl
theorem cd_X11_swap : (Jvm.Cond.code ({ cls := "BestPair", name := "swap", desc := "(IIIII)I" } : Jvm.MethodName) prog_1_method_36_code (7 : Nat) (Option.some Jvm.ClassFile.FieldType.int)) ∈ wAll := wAll_4 235 rfl rfl
theorem ml_X11_335 : (Jvm.Cond.methodLink "BestPair" (335 : Nat) ({ cls := "BestPair$Leaving", name := "worthOf", desc := "(I)I" } : Jvm.MethodName)) ∈ wAll := wAll_4 236 rfl rfl
theorem ml_X11_338 : (Jvm.Cond.methodLink "BestPair" (338 : Nat) ({ cls := "BestPair$Leaving", name := "placeOf", desc := "(I)I" } : Jvm.MethodName)) ∈ wAll := wAll_4 237 rfl rfl
theorem ml_L_134 : (Jvm.Cond.methodLink "BestPairLaw" (134 : Nat) ({ cls := "BestPair", name := "dream", desc := "(III)I" } : Jvm.MethodName)) ∈ wAll := wAll_4 238 rfl rfl
theorem im_X11_dream : (Jvm.Cond.instanceMethod ({ cls := "BestPair", name := "dream", desc := "(III)I" } : Jvm.MethodName)) ∈ wAll := wAll_4 239 rfl rfl
theorem se_X11_dream : (Jvm.Cond.selects "BestPair" ({ cls := "BestPair", name := "dream", desc := "(III)I" } : Jvm.MethodName) ({ cls := "BestPair", name := "dream", desc := "(III)I" } : Jvm.MethodName)) ∈ wAll := wAll_5 0 rfl rfl
theorem cd_X11_dream : (Jvm.Cond.code ({ cls := "BestPair", name := "dream", desc := "(III)I" } : Jvm.MethodName) prog_1_method_37_code (6 : Nat) (Option.some Jvm.ClassFile.FieldType.int)) ∈ wAll := wAll_5 1 rfl rfl
theorem ml_X11_340 : (Jvm.Cond.methodLink "BestPair" (340 : Nat) ({ cls := "BestPair$Dream", name := "greatest", desc := "(II)I" } : Jvm.MethodName)) ∈ wAll := wAll_5 2 rfl rfl
theorem im_X3_greatest : (Jvm.Cond.instanceMethod ({ cls := "BestPair$Dream", name := "greatest", desc := "(II)I" } : Jvm.MethodName)) ∈ wAll := wAll_5 3 rfl rfl
theorem se_X3_greatest : (Jvm.Cond.selects "BestPair$Dream" ({ cls := "BestPair$Dream", name := "greatest", desc := "(II)I" } : Jvm.MethodName) ({ cls := "BestPair$Dream", name := "greatest", desc := "(II)I" } : Jvm.MethodName)) ∈ wAll := wAll_5 4 rfl rfl
theorem cd_X3_greatest : (Jvm.Cond.code ({ cls := "BestPair$Dream", name := "greatest", desc := "(II)I" } : Jvm.MethodName) prog_5_method_2_code (6 : Nat) (Option.some Jvm.ClassFile.FieldType.int)) ∈ wAll := wAll_5 5 rfl rfl
theorem mn_X3_19 : (Jvm.Cond.methodLinkNest "BestPair$Dream" (19 : Nat) ({ cls := "BestPair", name := "isIn", desc := "(II)Z" } : Jvm.MethodName) "BestPair") ∈ nstL := nstL_5 6 rfl rfl
theorem ml_X3_23 : (Jvm.Cond.methodLink "BestPair$Dream" (23 : Nat) ({ cls := "BestPair$Dream", name := "bestOf", desc := "(III)I" } : Jvm.MethodName)) ∈ wAll := wAll_5 7 rfl rfl
theorem im_X3_bestOf : (Jvm.Cond.instanceMethod ({ cls := "BestPair$Dream", name := "bestOf", desc := "(III)I" } : Jvm.MethodName)) ∈ wAll := wAll_5 9 rfl rfl
theorem cd_X3_bestOf : (Jvm.Cond.code ({ cls := "BestPair$Dream", name := "bestOf", desc := "(III)I" } : Jvm.MethodName) prog_5_method_3_code (6 : Nat) (Option.some Jvm.ClassFile.FieldType.int)) ∈ wAll := wAll_5 10 rfl rfl
theorem ml_X3_36 : (Jvm.Cond.methodLink "BestPair$Dream" (36 : Nat) ({ cls := "BestPair$People", name := "canWear", desc := "(II)Z" } : Jvm.MethodName)) ∈ wAll := wAll_5 11 rfl rfl
theorem ml_X3_41 : (Jvm.Cond.methodLink "BestPair$Dream" (41 : Nat) ({ cls := "BestPair$Dream", name := "worthWith", desc := "(III)I" } : Jvm.MethodName)) ∈ wAll := wAll_5 12 rfl rfl
theorem im_X3_worthWith : (Jvm.Cond.instanceMethod ({ cls := "BestPair$Dream", name := "worthWith", desc := "(III)I" } : Jvm.MethodName)) ∈ wAll := wAll_5 14 rfl rfl
theorem cd_X3_worthWith : (Jvm.Cond.code ({ cls := "BestPair$Dream", name := "worthWith", desc := "(III)I" } : Jvm.MethodName) prog_5_method_4_code (4 : Nat) (Option.some Jvm.ClassFile.FieldType.int)) ∈ wAll := wAll_5 15 rfl rfl
theorem ml_X3_44 : (Jvm.Cond.methodLink "BestPair$Dream" (44 : Nat) ({ cls := "java/lang/Math", name := "max", desc := "(II)I" } : Jvm.MethodName)) ∈ wAll := wAll_5 16 rfl rfl
theorem ml_X11_343 : (Jvm.Cond.methodLink "BestPair" (343 : Nat) ({ cls := "BestPair$Dream", name := "pairOf", desc := "(III)I" } : Jvm.MethodName)) ∈ wAll := wAll_5 17 rfl rfl
theorem im_X3_pairOf : (Jvm.Cond.instanceMethod ({ cls := "BestPair$Dream", name := "pairOf", desc := "(III)I" } : Jvm.MethodName)) ∈ wAll := wAll_5 18 rfl rfl
theorem se_X3_pairOf : (Jvm.Cond.selects "BestPair$Dream" ({ cls := "BestPair$Dream", name := "pairOf", desc := "(III)I" } : Jvm.MethodName) ({ cls := "BestPair$Dream", name := "pairOf", desc := "(III)I" } : Jvm.MethodName)) ∈ wAll := wAll_5 19 rfl rfl
theorem cd_X3_pairOf : (Jvm.Cond.code ({ cls := "BestPair$Dream", name := "pairOf", desc := "(III)I" } : Jvm.MethodName) prog_5_method_5_code (8 : Nat) (Option.some Jvm.ClassFile.FieldType.int)) ∈ wAll := wAll_5 20 rfl rfl
theorem ml_X3_53 : (Jvm.Cond.methodLink "BestPair$Dream" (53 : Nat) ({ cls := "java/lang/Integer", name := "bitCount", desc := "(I)I" } : Jvm.MethodName)) ∈ wAll := wAll_5 21 rfl rfl
theorem ml_X3_59 : (Jvm.Cond.methodLink "BestPair$Dream" (59 : Nat) ({ cls := "BestPair$Dream", name := "lowestOf", desc := "(III)I" } : Jvm.MethodName)) ∈ wAll := wAll_5 22 rfl rfl
theorem im_X3_lowestOf : (Jvm.Cond.instanceMethod ({ cls := "BestPair$Dream", name := "lowestOf", desc := "(III)I" } : Jvm.MethodName)) ∈ wAll := wAll_5 24 rfl rfl
theorem cd_X3_lowestOf : (Jvm.Cond.code ({ cls := "BestPair$Dream", name := "lowestOf", desc := "(III)I" } : Jvm.MethodName) prog_5_method_6_code (5 : Nat) (Option.some Jvm.ClassFile.FieldType.int)) ∈ wAll := wAll_5 25 rfl rfl
theorem ml_L_138 : (Jvm.Cond.methodLink "BestPairLaw" (138 : Nat) ({ cls := "BestPair", name := "bring", desc := "(II)I" } : Jvm.MethodName)) ∈ wAll := wAll_5 26 rfl rfl
theorem im_X11_bring : (Jvm.Cond.instanceMethod ({ cls := "BestPair", name := "bring", desc := "(II)I" } : Jvm.MethodName)) ∈ wAll := wAll_5 27 rfl rfl
theorem se_X11_bring : (Jvm.Cond.selects "BestPair" ({ cls := "BestPair", name := "bring", desc := "(II)I" } : Jvm.MethodName) ({ cls := "BestPair", name := "bring", desc := "(II)I" } : Jvm.MethodName)) ∈ wAll := wAll_5 28 rfl rfl
theorem cd_X11_bring : (Jvm.Cond.code ({ cls := "BestPair", name := "bring", desc := "(II)I" } : Jvm.MethodName) prog_1_method_38_code (3 : Nat) (Option.some Jvm.ClassFile.FieldType.int)) ∈ wAll := wAll_5 29 rfl rfl
theorem ml_X11_346 : (Jvm.Cond.methodLink "BestPair" (346 : Nat) ({ cls := "BestPair$Future", name := "fewest", desc := "(II)I" } : Jvm.MethodName)) ∈ wAll := wAll_5 30 rfl rfl
theorem im_X4_fewest : (Jvm.Cond.instanceMethod ({ cls := "BestPair$Future", name := "fewest", desc := "(II)I" } : Jvm.MethodName)) ∈ wAll := wAll_5 31 rfl rfl
theorem se_X4_fewest : (Jvm.Cond.selects "BestPair$Future" ({ cls := "BestPair$Future", name := "fewest", desc := "(II)I" } : Jvm.MethodName) ({ cls := "BestPair$Future", name := "fewest", desc := "(II)I" } : Jvm.MethodName)) ∈ wAll := wAll_5 32 rfl rfl
theorem cd_X4_fewest : (Jvm.Cond.code ({ cls := "BestPair$Future", name := "fewest", desc := "(II)I" } : Jvm.MethodName) prog_6_method_9_code (6 : Nat) (Option.some Jvm.ClassFile.FieldType.int)) ∈ wAll := wAll_5 33 rfl rfl
theorem ml_X4_99 : (Jvm.Cond.methodLink "BestPair$Future" (99 : Nat) ({ cls := "java/util/Arrays", name := "fill", desc := "([II)V" } : Jvm.MethodName)) ∈ wAll := wAll_5 34 rfl rfl
theorem ml_X4_108 : (Jvm.Cond.methodLink "BestPair$Future" (108 : Nat) ({ cls := "BestPair$Future", name := "stateNow", desc := "()I" } : Jvm.MethodName)) ∈ wAll := wAll_5 35 rfl rfl
theorem im_X4_stateNow : (Jvm.Cond.instanceMethod ({ cls := "BestPair$Future", name := "stateNow", desc := "()I" } : Jvm.MethodName)) ∈ wAll := wAll_5 37 rfl rfl
theorem cd_X4_stateNow : (Jvm.Cond.code ({ cls := "BestPair$Future", name := "stateNow", desc := "()I" } : Jvm.MethodName) prog_6_method_3_code (3 : Nat) (Option.some Jvm.ClassFile.FieldType.int)) ∈ wAll := wAll_5 38 rfl rfl
theorem ml_X4_111 : (Jvm.Cond.methodLink "BestPair$Future" (111 : Nat) ({ cls := "BestPair$Future", name := "reach", desc := "(II)V" } : Jvm.MethodName)) ∈ wAll := wAll_5 39 rfl rfl
theorem im_X4_reach : (Jvm.Cond.instanceMethod ({ cls := "BestPair$Future", name := "reach", desc := "(II)V" } : Jvm.MethodName)) ∈ wAll := wAll_5 41 rfl rfl
theorem cd_X4_reach : (Jvm.Cond.code ({ cls := "BestPair$Future", name := "reach", desc := "(II)V" } : Jvm.MethodName) prog_6_method_10_code (3 : Nat) (Option.none : Option Jvm.ClassFile.FieldType)) ∈ wAll := wAll_5 42 rfl rfl
theorem ml_X4_115 : (Jvm.Cond.methodLink "BestPair$Future" (115 : Nat) ({ cls := "BestPair$Future", name := "spread", desc := "(II)V" } : Jvm.MethodName)) ∈ wAll := wAll_5 43 rfl rfl
theorem im_X4_spread : (Jvm.Cond.instanceMethod ({ cls := "BestPair$Future", name := "spread", desc := "(II)V" } : Jvm.MethodName)) ∈ wAll := wAll_5 45 rfl rfl
theorem cd_X4_spread : (Jvm.Cond.code ({ cls := "BestPair$Future", name := "spread", desc := "(II)V" } : Jvm.MethodName) prog_6_method_11_code (6 : Nat) (Option.none : Option Jvm.ClassFile.FieldType)) ∈ wAll := wAll_5 46 rfl rfl
theorem ml_X4_118 : (Jvm.Cond.methodLink "BestPair$Future" (118 : Nat) ({ cls := "BestPair$Future", name := "pairsFor", desc := "(II)I" } : Jvm.MethodName)) ∈ wAll := wAll_5 47 rfl rfl
theorem im_X4_pairsFor : (Jvm.Cond.instanceMethod ({ cls := "BestPair$Future", name := "pairsFor", desc := "(II)I" } : Jvm.MethodName)) ∈ wAll := wAll_5 49 rfl rfl
theorem cd_X4_pairsFor : (Jvm.Cond.code ({ cls := "BestPair$Future", name := "pairsFor", desc := "(II)I" } : Jvm.MethodName) prog_6_method_12_code (6 : Nat) (Option.some Jvm.ClassFile.FieldType.int)) ∈ wAll := wAll_5 50 rfl rfl
theorem mn_X4_121 : (Jvm.Cond.methodLinkNest "BestPair$Future" (121 : Nat) ({ cls := "BestPair", name := "isIn", desc := "(II)Z" } : Jvm.MethodName) "BestPair") ∈ nstL := nstL_5 51 rfl rfl
theorem ml_L_142 : (Jvm.Cond.methodLink "BestPairLaw" (142 : Nat) ({ cls := "BestPair", name := "steady", desc := "()I" } : Jvm.MethodName)) ∈ wAll := wAll_5 52 rfl rfl
theorem im_X11_steady : (Jvm.Cond.instanceMethod ({ cls := "BestPair", name := "steady", desc := "()I" } : Jvm.MethodName)) ∈ wAll := wAll_5 53 rfl rfl
theorem se_X11_steady : (Jvm.Cond.selects "BestPair" ({ cls := "BestPair", name := "steady", desc := "()I" } : Jvm.MethodName) ({ cls := "BestPair", name := "steady", desc := "()I" } : Jvm.MethodName)) ∈ wAll := wAll_5 54 rfl rfl
theorem cd_X11_steady : (Jvm.Cond.code ({ cls := "BestPair", name := "steady", desc := "()I" } : Jvm.MethodName) prog_1_method_39_code (5 : Nat) (Option.some Jvm.ClassFile.FieldType.int)) ∈ wAll := wAll_5 55 rfl rfl
theorem ml_L_146 : (Jvm.Cond.methodLink "BestPairLaw" (146 : Nat) ({ cls := "BestPair", name := "lost", desc := "()I" } : Jvm.MethodName)) ∈ wAll := wAll_5 56 rfl rfl
theorem im_X11_lost : (Jvm.Cond.instanceMethod ({ cls := "BestPair", name := "lost", desc := "()I" } : Jvm.MethodName)) ∈ wAll := wAll_5 57 rfl rfl
theorem se_X11_lost : (Jvm.Cond.selects "BestPair" ({ cls := "BestPair", name := "lost", desc := "()I" } : Jvm.MethodName) ({ cls := "BestPair", name := "lost", desc := "()I" } : Jvm.MethodName)) ∈ wAll := wAll_5 58 rfl rfl
theorem cd_X11_lost : (Jvm.Cond.code ({ cls := "BestPair", name := "lost", desc := "()I" } : Jvm.MethodName) prog_1_method_40_code (3 : Nat) (Option.some Jvm.ClassFile.FieldType.int)) ∈ wAll := wAll_5 59 rfl rfl
theorem ml_L_150 : (Jvm.Cond.methodLink "BestPairLaw" (150 : Nat) ({ cls := "BestPair", name := "envy", desc := "(I)I" } : Jvm.MethodName)) ∈ wAll := wAll_5 60 rfl rfl
theorem im_X11_envy : (Jvm.Cond.instanceMethod ({ cls := "BestPair", name := "envy", desc := "(I)I" } : Jvm.MethodName)) ∈ wAll := wAll_5 61 rfl rfl
theorem se_X11_envy : (Jvm.Cond.selects "BestPair" ({ cls := "BestPair", name := "envy", desc := "(I)I" } : Jvm.MethodName) ({ cls := "BestPair", name := "envy", desc := "(I)I" } : Jvm.MethodName)) ∈ wAll := wAll_5 62 rfl rfl
theorem cd_X11_envy : (Jvm.Cond.code ({ cls := "BestPair", name := "envy", desc := "(I)I" } : Jvm.MethodName) prog_1_method_41_code (5 : Nat) (Option.some Jvm.ClassFile.FieldType.int)) ∈ wAll := wAll_5 63 rfl rfl
theorem ml_X11_349 : (Jvm.Cond.methodLink "BestPair" (349 : Nat) ({ cls := "BestPair", name := "hasEnvy", desc := "(II)Z" } : Jvm.MethodName)) ∈ wAll := wAll_5 64 rfl rfl
theorem im_X11_hasEnvy : (Jvm.Cond.instanceMethod ({ cls := "BestPair", name := "hasEnvy", desc := "(II)Z" } : Jvm.MethodName)) ∈ wAll := wAll_5 66 rfl rfl
theorem cd_X11_hasEnvy : (Jvm.Cond.code ({ cls := "BestPair", name := "hasEnvy", desc := "(II)Z" } : Jvm.MethodName) prog_1_method_42_code (5 : Nat) (Option.some Jvm.ClassFile.FieldType.boolean)) ∈ wAll := wAll_5 67 rfl rfl
theorem ml_L_154 : (Jvm.Cond.methodLink "BestPairLaw" (154 : Nat) ({ cls := "BestPair", name := "image", desc := "()I" } : Jvm.MethodName)) ∈ wAll := wAll_5 68 rfl rfl
theorem im_X11_image : (Jvm.Cond.instanceMethod ({ cls := "BestPair", name := "image", desc := "()I" } : Jvm.MethodName)) ∈ wAll := wAll_5 69 rfl rfl
theorem se_X11_image : (Jvm.Cond.selects "BestPair" ({ cls := "BestPair", name := "image", desc := "()I" } : Jvm.MethodName) ({ cls := "BestPair", name := "image", desc := "()I" } : Jvm.MethodName)) ∈ wAll := wAll_5 70 rfl rfl
theorem cd_X11_image : (Jvm.Cond.code ({ cls := "BestPair", name := "image", desc := "()I" } : Jvm.MethodName) prog_1_method_43_code (1 : Nat) (Option.some Jvm.ClassFile.FieldType.int)) ∈ wAll := wAll_5 71 rfl rfl
theorem ml_X11_352 : (Jvm.Cond.methodLink "BestPair" (352 : Nat) ({ cls := "BestPair$Stand", name := "copy", desc := "(LBestPair$Stand;)V" } : Jvm.MethodName)) ∈ wAll := wAll_5 72 rfl rfl
theorem im_X9_copy : (Jvm.Cond.instanceMethod ({ cls := "BestPair$Stand", name := "copy", desc := "(LBestPair$Stand;)V" } : Jvm.MethodName)) ∈ wAll := wAll_5 73 rfl rfl
theorem se_X9_copy : (Jvm.Cond.selects "BestPair$Stand" ({ cls := "BestPair$Stand", name := "copy", desc := "(LBestPair$Stand;)V" } : Jvm.MethodName) ({ cls := "BestPair$Stand", name := "copy", desc := "(LBestPair$Stand;)V" } : Jvm.MethodName)) ∈ wAll := wAll_5 74 rfl rfl
theorem cd_X9_copy : (Jvm.Cond.code ({ cls := "BestPair$Stand", name := "copy", desc := "(LBestPair$Stand;)V" } : Jvm.MethodName) prog_11_method_3_code (2 : Nat) (Option.none : Option Jvm.ClassFile.FieldType)) ∈ wAll := wAll_5 75 rfl rfl
theorem ml_X9_31 : (Jvm.Cond.methodLink "BestPair$Stand" (31 : Nat) ({ cls := "java/lang/System", name := "arraycopy", desc := "(Ljava/lang/Object;ILjava/lang/Object;II)V" } : Jvm.MethodName)) ∈ wAll := wAll_5 76 rfl rfl
theorem ml_X11_354 : (Jvm.Cond.methodLink "BestPair" (354 : Nat) ({ cls := "BestPair$Diary", name := "keep", desc := "()V" } : Jvm.MethodName)) ∈ wAll := wAll_5 77 rfl rfl
theorem im_X1_keep : (Jvm.Cond.instanceMethod ({ cls := "BestPair$Diary", name := "keep", desc := "()V" } : Jvm.MethodName)) ∈ wAll := wAll_5 78 rfl rfl
theorem se_X1_keep : (Jvm.Cond.selects "BestPair$Diary" ({ cls := "BestPair$Diary", name := "keep", desc := "()V" } : Jvm.MethodName) ({ cls := "BestPair$Diary", name := "keep", desc := "()V" } : Jvm.MethodName)) ∈ wAll := wAll_5 79 rfl rfl
theorem cd_X1_keep : (Jvm.Cond.code ({ cls := "BestPair$Diary", name := "keep", desc := "()V" } : Jvm.MethodName) prog_3_method_3_code (1 : Nat) (Option.none : Option Jvm.ClassFile.FieldType)) ∈ wAll := wAll_5 80 rfl rfl
theorem ml_L_158 : (Jvm.Cond.methodLink "BestPairLaw" (158 : Nat) ({ cls := "BestPair", name := "back", desc := "()I" } : Jvm.MethodName)) ∈ wAll := wAll_5 81 rfl rfl
theorem im_X11_back : (Jvm.Cond.instanceMethod ({ cls := "BestPair", name := "back", desc := "()I" } : Jvm.MethodName)) ∈ wAll := wAll_5 82 rfl rfl
theorem se_X11_back : (Jvm.Cond.selects "BestPair" ({ cls := "BestPair", name := "back", desc := "()I" } : Jvm.MethodName) ({ cls := "BestPair", name := "back", desc := "()I" } : Jvm.MethodName)) ∈ wAll := wAll_5 83 rfl rfl
theorem cd_X11_back : (Jvm.Cond.code ({ cls := "BestPair", name := "back", desc := "()I" } : Jvm.MethodName) prog_1_method_44_code (1 : Nat) (Option.some Jvm.ClassFile.FieldType.int)) ∈ wAll := wAll_5 84 rfl rfl
theorem ml_X11_356 : (Jvm.Cond.methodLink "BestPair" (356 : Nat) ({ cls := "BestPair$Diary", name := "restore", desc := "()V" } : Jvm.MethodName)) ∈ wAll := wAll_5 85 rfl rfl
theorem im_X1_restore : (Jvm.Cond.instanceMethod ({ cls := "BestPair$Diary", name := "restore", desc := "()V" } : Jvm.MethodName)) ∈ wAll := wAll_5 86 rfl rfl
theorem se_X1_restore : (Jvm.Cond.selects "BestPair$Diary" ({ cls := "BestPair$Diary", name := "restore", desc := "()V" } : Jvm.MethodName) ({ cls := "BestPair$Diary", name := "restore", desc := "()V" } : Jvm.MethodName)) ∈ wAll := wAll_5 87 rfl rfl
theorem cd_X1_restore : (Jvm.Cond.code ({ cls := "BestPair$Diary", name := "restore", desc := "()V" } : Jvm.MethodName) prog_3_method_4_code (1 : Nat) (Option.none : Option Jvm.ClassFile.FieldType)) ∈ wAll := wAll_5 88 rfl rfl
theorem ml_L_162 : (Jvm.Cond.methodLink "BestPairLaw" (162 : Nat) ({ cls := "BestPair", name := "count", desc := "(I)I" } : Jvm.MethodName)) ∈ wAll := wAll_5 89 rfl rfl
theorem im_X11_count : (Jvm.Cond.instanceMethod ({ cls := "BestPair", name := "count", desc := "(I)I" } : Jvm.MethodName)) ∈ wAll := wAll_5 90 rfl rfl
theorem se_X11_count : (Jvm.Cond.selects "BestPair" ({ cls := "BestPair", name := "count", desc := "(I)I" } : Jvm.MethodName) ({ cls := "BestPair", name := "count", desc := "(I)I" } : Jvm.MethodName)) ∈ wAll := wAll_5 91 rfl rfl
theorem cd_X11_count : (Jvm.Cond.code ({ cls := "BestPair", name := "count", desc := "(I)I" } : Jvm.MethodName) prog_1_method_45_code (2 : Nat) (Option.some Jvm.ClassFile.FieldType.int)) ∈ wAll := wAll_5 92 rfl rfl
theorem ml_X11_359 : (Jvm.Cond.methodLink "BestPair" (359 : Nat) ({ cls := "BestPair$Stand", name := "alone", desc := "()I" } : Jvm.MethodName)) ∈ wAll := wAll_5 93 rfl rfl
theorem im_X9_alone : (Jvm.Cond.instanceMethod ({ cls := "BestPair$Stand", name := "alone", desc := "()I" } : Jvm.MethodName)) ∈ wAll := wAll_5 94 rfl rfl
theorem se_X9_alone : (Jvm.Cond.selects "BestPair$Stand" ({ cls := "BestPair$Stand", name := "alone", desc := "()I" } : Jvm.MethodName) ({ cls := "BestPair$Stand", name := "alone", desc := "()I" } : Jvm.MethodName)) ∈ wAll := wAll_5 95 rfl rfl
theorem cd_X9_alone : (Jvm.Cond.code ({ cls := "BestPair$Stand", name := "alone", desc := "()I" } : Jvm.MethodName) prog_11_method_7_code (3 : Nat) (Option.some Jvm.ClassFile.FieldType.int)) ∈ wAll := wAll_5 96 rfl rfl
theorem ml_L_38 : (Jvm.Cond.methodLink "BestPairLaw" (38 : Nat) ({ cls := "BestPairLaw", name := "person", desc := "(LBestPair;II[J)I" } : Jvm.MethodName)) ∈ wAll := wAll_5 97 rfl rfl
theorem st_L_person : (Jvm.Cond.static ({ cls := "BestPairLaw", name := "person", desc := "(LBestPair;II[J)I" } : Jvm.MethodName)) ∈ wAll := wAll_5 98 rfl rfl
theorem ml_L_7 : (Jvm.Cond.methodLink "BestPairLaw" (7 : Nat) ({ cls := "BestPair", name := "person", desc := "(II)I" } : Jvm.MethodName)) ∈ wAll := wAll_5 101 rfl rfl
theorem im_X11_person : (Jvm.Cond.instanceMethod ({ cls := "BestPair", name := "person", desc := "(II)I" } : Jvm.MethodName)) ∈ wAll := wAll_5 102 rfl rfl
theorem se_X11_person : (Jvm.Cond.selects "BestPair" ({ cls := "BestPair", name := "person", desc := "(II)I" } : Jvm.MethodName) ({ cls := "BestPair", name := "person", desc := "(II)I" } : Jvm.MethodName)) ∈ wAll := wAll_5 103 rfl rfl
theorem cd_X11_person : (Jvm.Cond.code ({ cls := "BestPair", name := "person", desc := "(II)I" } : Jvm.MethodName) prog_1_method_8_code (3 : Nat) (Option.some Jvm.ClassFile.FieldType.int)) ∈ wAll := wAll_5 104 rfl rfl
theorem fl_X11_155 : (Jvm.Cond.fieldLink "BestPair" (155 : Nat) "BestPair" "TOLD_ITEMS" "[I") ∈ wAll := wAll_5 105 rfl rfl
theorem nat_fillInStackTrace : (Jvm.Cond.native ({ cls := "java/lang/Throwable", name := "fillInStackTrace", desc := "(I)Ljava/lang/Throwable;" } : Jvm.MethodName)) ∈ wAll := wAll_5 145 rfl rfl
theorem ml_X11_161 : (Jvm.Cond.methodLink "BestPair" (161 : Nat) ({ cls := "java/util/NoSuchElementException", name := "<init>", desc := "()V" } : Jvm.MethodName)) ∈ wAll := wAll_5 146 rfl rfl
theorem ml_L_18 : (Jvm.Cond.methodLink "BestPairLaw" (18 : Nat) ({ cls := "BestPairModel", name := "<init>", desc := "()V" } : Jvm.MethodName)) ∈ wAll := wAll_5 170 rfl rfl
theorem im_X12_init : (Jvm.Cond.instanceMethod ({ cls := "BestPairModel", name := "<init>", desc := "()V" } : Jvm.MethodName)) ∈ wAll := wAll_5 171 rfl rfl
theorem cd_X12_init : (Jvm.Cond.code ({ cls := "BestPairModel", name := "<init>", desc := "()V" } : Jvm.MethodName) prog_14_method_1_code (1 : Nat) (Option.none : Option Jvm.ClassFile.FieldType)) ∈ wAll := wAll_5 172 rfl rfl
theorem ml_X12_1 : (Jvm.Cond.methodLink "BestPairModel" (1 : Nat) ({ cls := "java/lang/Object", name := "<init>", desc := "()V" } : Jvm.MethodName)) ∈ wAll := wAll_5 173 rfl rfl
theorem fl_X12_120 : (Jvm.Cond.fieldLink "BestPairModel" (120 : Nat) "BestPairModel" "thrown" "I") ∈ wAll := wAll_5 177 rfl rfl
theorem fl_X12_9 : (Jvm.Cond.fieldLink "BestPairModel" (9 : Nat) "BestPairModel" "tape" "[B") ∈ wAll := wAll_5 178 rfl rfl
theorem fl_X12_13 : (Jvm.Cond.fieldLink "BestPairModel" (13 : Nat) "BestPairModel" "texts" "[B") ∈ wAll := wAll_5 179 rfl rfl
theorem fl_X12_16 : (Jvm.Cond.fieldLink "BestPairModel" (16 : Nat) "BestPairModel" "textLong" "[I") ∈ wAll := wAll_5 180 rfl rfl
theorem fl_X12_20 : (Jvm.Cond.fieldLink "BestPairModel" (20 : Nat) "BestPairModel" "letters" "[I") ∈ wAll := wAll_5 181 rfl rfl
theorem fl_X12_23 : (Jvm.Cond.fieldLink "BestPairModel" (23 : Nat) "BestPairModel" "text" "[B") ∈ wAll := wAll_5 182 rfl rfl
theorem fl_X12_134 : (Jvm.Cond.fieldLink "BestPairModel" (134 : Nat) "BestPairModel" "length" "I") ∈ wAll := wAll_5 183 rfl rfl
theorem fl_X12_278 : (Jvm.Cond.fieldLink "BestPairModel" (278 : Nat) "BestPairModel" "ruleMany" "I") ∈ wAll := wAll_5 184 rfl rfl
theorem fl_X12_150 : (Jvm.Cond.fieldLink "BestPairModel" (150 : Nat) "BestPairModel" "begins" "I") ∈ wAll := wAll_5 185 rfl rfl
theorem fl_X12_147 : (Jvm.Cond.fieldLink "BestPairModel" (147 : Nat) "BestPairModel" "ends" "I") ∈ wAll := wAll_5 186 rfl rfl
theorem fl_X12_144 : (Jvm.Cond.fieldLink "BestPairModel" (144 : Nat) "BestPairModel" "at" "I") ∈ wAll := wAll_5 187 rfl rfl
theorem fl_X12_153 : (Jvm.Cond.fieldLink "BestPairModel" (153 : Nat) "BestPairModel" "fault" "I") ∈ wAll := wAll_5 188 rfl rfl
theorem fl_X12_156 : (Jvm.Cond.fieldLink "BestPairModel" (156 : Nat) "BestPairModel" "deep" "I") ∈ wAll := wAll_5 189 rfl rfl
theorem fl_X12_226 : (Jvm.Cond.fieldLink "BestPairModel" (226 : Nat) "BestPairModel" "label" "I") ∈ wAll := wAll_5 190 rfl rfl
theorem fl_X12_229 : (Jvm.Cond.fieldLink "BestPairModel" (229 : Nat) "BestPairModel" "found" "I") ∈ wAll := wAll_5 191 rfl rfl
theorem fl_X12_28 : (Jvm.Cond.fieldLink "BestPairModel" (28 : Nat) "BestPairModel" "labels" "Ljava/lang/String;") ∈ wAll := wAll_5 192 rfl rfl
theorem fl_X12_34 : (Jvm.Cond.fieldLink "BestPairModel" (34 : Nat) "BestPairModel" "allowed" "Ljava/lang/String;") ∈ wAll := wAll_5 193 rfl rfl
theorem fl_X12_39 : (Jvm.Cond.fieldLink "BestPairModel" (39 : Nat) "BestPairModel" "items" "Ljava/lang/String;") ∈ wAll := wAll_5 194 rfl rfl
theorem fl_X12_222 : (Jvm.Cond.fieldLink "BestPairModel" (222 : Nat) "BestPairModel" "hasFound" "Z") ∈ wAll := wAll_5 195 rfl rfl
theorem fl_X12_42 : (Jvm.Cond.fieldLink "BestPairModel" (42 : Nat) "BestPairModel" "of" "[I") ∈ wAll := wAll_5 196 rfl rfl
theorem fl_X12_283 : (Jvm.Cond.fieldLink "BestPairModel" (283 : Nat) "BestPairModel" "people" "I") ∈ wAll := wAll_5 197 rfl rfl
theorem fl_X12_266 : (Jvm.Cond.fieldLink "BestPairModel" (266 : Nat) "BestPairModel" "peopleRead" "I") ∈ wAll := wAll_5 198 rfl rfl
theorem fl_X12_45 : (Jvm.Cond.fieldLink "BestPairModel" (45 : Nat) "BestPairModel" "wears" "[I") ∈ wAll := wAll_5 199 rfl rfl
theorem fl_X12_48 : (Jvm.Cond.fieldLink "BestPairModel" (48 : Nat) "BestPairModel" "where" "[I") ∈ wAll := wAll_5 200 rfl rfl
theorem fl_X12_51 : (Jvm.Cond.fieldLink "BestPairModel" (51 : Nat) "BestPairModel" "size" "[I") ∈ wAll := wAll_5 201 rfl rfl
theorem fl_X12_54 : (Jvm.Cond.fieldLink "BestPairModel" (54 : Nat) "BestPairModel" "worth" "[I") ∈ wAll := wAll_5 202 rfl rfl
theorem fl_X12_57 : (Jvm.Cond.fieldLink "BestPairModel" (57 : Nat) "BestPairModel" "ruleOf" "[I") ∈ wAll := wAll_5 203 rfl rfl
theorem fl_X12_60 : (Jvm.Cond.fieldLink "BestPairModel" (60 : Nat) "BestPairModel" "order" "[I") ∈ wAll := wAll_5 204 rfl rfl
theorem fl_X12_63 : (Jvm.Cond.fieldLink "BestPairModel" (63 : Nat) "BestPairModel" "took" "[I") ∈ wAll := wAll_5 205 rfl rfl
theorem fl_X12_321 : (Jvm.Cond.fieldLink "BestPairModel" (321 : Nat) "BestPairModel" "orderMany" "I") ∈ wAll := wAll_5 206 rfl rfl
theorem fl_X12_318 : (Jvm.Cond.fieldLink "BestPairModel" (318 : Nat) "BestPairModel" "left" "I") ∈ wAll := wAll_5 207 rfl rfl
theorem fl_X12_66 : (Jvm.Cond.fieldLink "BestPairModel" (66 : Nat) "BestPairModel" "diary" "[I") ∈ wAll := wAll_5 208 rfl rfl
theorem fl_X12_286 : (Jvm.Cond.fieldLink "BestPairModel" (286 : Nat) "BestPairModel" "evenings" "I") ∈ wAll := wAll_5 209 rfl rfl
theorem fl_X12_69 : (Jvm.Cond.fieldLink "BestPairModel" (69 : Nat) "BestPairModel" "ways" "[I") ∈ wAll := wAll_5 210 rfl rfl
theorem fl_X12_353 : (Jvm.Cond.fieldLink "BestPairModel" (353 : Nat) "BestPairModel" "wayMany" "I") ∈ wAll := wAll_5 211 rfl rfl
theorem fl_X12_72 : (Jvm.Cond.fieldLink "BestPairModel" (72 : Nat) "BestPairModel" "sums" "[I") ∈ wAll := wAll_5 212 rfl rfl
theorem fl_X12_75 : (Jvm.Cond.fieldLink "BestPairModel" (75 : Nat) "BestPairModel" "rounds" "[I") ∈ wAll := wAll_5 213 rfl rfl
theorem fl_X12_78 : (Jvm.Cond.fieldLink "BestPairModel" (78 : Nat) "BestPairModel" "keptWorth" "[I") ∈ wAll := wAll_5 214 rfl rfl
theorem fl_X12_397 : (Jvm.Cond.fieldLink "BestPairModel" (397 : Nat) "BestPairModel" "x" "J") ∈ wAll := wAll_5 215 rfl rfl
theorem fl_X12_81 : (Jvm.Cond.fieldLink "BestPairModel" (81 : Nat) "BestPairModel" "parts" "[I") ∈ wAll := wAll_5 216 rfl rfl
theorem fl_X12_84 : (Jvm.Cond.fieldLink "BestPairModel" (84 : Nat) "BestPairModel" "partsThen" "[I") ∈ wAll := wAll_5 217 rfl rfl
theorem fl_X12_87 : (Jvm.Cond.fieldLink "BestPairModel" (87 : Nat) "BestPairModel" "keptWhere" "[I") ∈ wAll := wAll_5 218 rfl rfl
theorem fl_X12_90 : (Jvm.Cond.fieldLink "BestPairModel" (90 : Nat) "BestPairModel" "keptWears" "[I") ∈ wAll := wAll_5 219 rfl rfl
theorem fl_X12_93 : (Jvm.Cond.fieldLink "BestPairModel" (93 : Nat) "BestPairModel" "shoe" "[I") ∈ wAll := wAll_5 220 rfl rfl
theorem fl_X12_96 : (Jvm.Cond.fieldLink "BestPairModel" (96 : Nat) "BestPairModel" "meetings" "[I") ∈ wAll := wAll_5 221 rfl rfl
theorem fl_X12_425 : (Jvm.Cond.fieldLink "BestPairModel" (425 : Nat) "BestPairModel" "grew" "Z") ∈ wAll := wAll_5 222 rfl rfl
theorem fl_X12_99 : (Jvm.Cond.fieldLink "BestPairModel" (99 : Nat) "BestPairModel" "rowNow" "[I") ∈ wAll := wAll_5 223 rfl rfl
theorem fl_X12_102 : (Jvm.Cond.fieldLink "BestPairModel" (102 : Nat) "BestPairModel" "sightEvening" "[I") ∈ wAll := wAll_5 224 rfl rfl
theorem fl_X12_105 : (Jvm.Cond.fieldLink "BestPairModel" (105 : Nat) "BestPairModel" "sightWhere" "[I") ∈ wAll := wAll_5 225 rfl rfl
theorem fl_X12_108 : (Jvm.Cond.fieldLink "BestPairModel" (108 : Nat) "BestPairModel" "sightSize" "[I") ∈ wAll := wAll_5 226 rfl rfl
theorem fl_X12_289 : (Jvm.Cond.fieldLink "BestPairModel" (289 : Nat) "BestPairModel" "sights" "I") ∈ wAll := wAll_5 227 rfl rfl
theorem fl_X12_111 : (Jvm.Cond.fieldLink "BestPairModel" (111 : Nat) "BestPairModel" "dreams" "[I") ∈ wAll := wAll_5 228 rfl rfl
theorem fl_X12_114 : (Jvm.Cond.fieldLink "BestPairModel" (114 : Nat) "BestPairModel" "bestDreams" "[I") ∈ wAll := wAll_5 229 rfl rfl
theorem fl_X12_440 : (Jvm.Cond.fieldLink "BestPairModel" (440 : Nat) "BestPairModel" "dreamWorth" "I") ∈ wAll := wAll_5 230 rfl rfl
theorem fl_X12_117 : (Jvm.Cond.fieldLink "BestPairModel" (117 : Nat) "BestPairModel" "image" "[I") ∈ wAll := wAll_5 231 rfl rfl
theorem fl_X12_462 : (Jvm.Cond.fieldLink "BestPairModel" (462 : Nat) "BestPairModel" "imageEvenings" "I") ∈ wAll := wAll_5 232 rfl rfl
theorem fl_X12_465 : (Jvm.Cond.fieldLink "BestPairModel" (465 : Nat) "BestPairModel" "imageSights" "I") ∈ wAll := wAll_5 233 rfl rfl
theorem fl_X12_292 : (Jvm.Cond.fieldLink "BestPairModel" (292 : Nat) "BestPairModel" "hasImage" "Z") ∈ wAll := wAll_5 234 rfl rfl
theorem ml_L_44 : (Jvm.Cond.methodLink "BestPairLaw" (44 : Nat) ({ cls := "BestPairModel", name := "thrown", desc := "()I" } : Jvm.MethodName)) ∈ wAll := wAll_6 112 rfl rfl
theorem im_X12_thrown : (Jvm.Cond.instanceMethod ({ cls := "BestPairModel", name := "thrown", desc := "()I" } : Jvm.MethodName)) ∈ wAll := wAll_6 113 rfl rfl
theorem se_X12_thrown : (Jvm.Cond.selects "BestPairModel" ({ cls := "BestPairModel", name := "thrown", desc := "()I" } : Jvm.MethodName) ({ cls := "BestPairModel", name := "thrown", desc := "()I" } : Jvm.MethodName)) ∈ wAll := wAll_6 114 rfl rfl
theorem cd_X12_thrown : (Jvm.Cond.code ({ cls := "BestPairModel", name := "thrown", desc := "()I" } : Jvm.MethodName) prog_14_method_2_code (1 : Nat) (Option.some Jvm.ClassFile.FieldType.int)) ∈ wAll := wAll_6 115 rfl rfl
theorem ml_L_23 : (Jvm.Cond.methodLink "BestPairLaw" (23 : Nat) ({ cls := "BestPairModel", name := "feed", desc := "(IIIII)I" } : Jvm.MethodName)) ∈ wAll := wAll_6 116 rfl rfl
theorem im_X12_feed : (Jvm.Cond.instanceMethod ({ cls := "BestPairModel", name := "feed", desc := "(IIIII)I" } : Jvm.MethodName)) ∈ wAll := wAll_6 117 rfl rfl
theorem se_X12_feed : (Jvm.Cond.selects "BestPairModel" ({ cls := "BestPairModel", name := "feed", desc := "(IIIII)I" } : Jvm.MethodName) ({ cls := "BestPairModel", name := "feed", desc := "(IIIII)I" } : Jvm.MethodName)) ∈ wAll := wAll_6 118 rfl rfl
theorem cd_X12_feed : (Jvm.Cond.code ({ cls := "BestPairModel", name := "feed", desc := "(IIIII)I" } : Jvm.MethodName) prog_14_method_8_code (6 : Nat) (Option.some Jvm.ClassFile.FieldType.int)) ∈ wAll := wAll_6 119 rfl rfl
theorem ml_X12_136 : (Jvm.Cond.methodLink "BestPairModel" (136 : Nat) ({ cls := "BestPairModel", name := "bytesIn", desc := "(I)I" } : Jvm.MethodName)) ∈ wAll := wAll_6 120 rfl rfl
theorem st_X12_bytesIn : (Jvm.Cond.static ({ cls := "BestPairModel", name := "bytesIn", desc := "(I)I" } : Jvm.MethodName)) ∈ wAll := wAll_6 121 rfl rfl
theorem cd_X12_bytesIn : (Jvm.Cond.code ({ cls := "BestPairModel", name := "bytesIn", desc := "(I)I" } : Jvm.MethodName) prog_14_method_6_code (3 : Nat) (Option.some Jvm.ClassFile.FieldType.int)) ∈ wAll := wAll_6 122 rfl rfl
theorem ml_X12_140 : (Jvm.Cond.methodLink "BestPairModel" (140 : Nat) ({ cls := "BestPairModel", name := "put", desc := "(I)V" } : Jvm.MethodName)) ∈ wAll := wAll_6 123 rfl rfl
theorem im_X12_put : (Jvm.Cond.instanceMethod ({ cls := "BestPairModel", name := "put", desc := "(I)V" } : Jvm.MethodName)) ∈ wAll := wAll_6 125 rfl rfl
theorem cd_X12_put : (Jvm.Cond.code ({ cls := "BestPairModel", name := "put", desc := "(I)V" } : Jvm.MethodName) prog_14_method_7_code (3 : Nat) (Option.none : Option Jvm.ClassFile.FieldType)) ∈ wAll := wAll_6 126 rfl rfl
theorem ml_L_28 : (Jvm.Cond.methodLink "BestPairLaw" (28 : Nat) ({ cls := "BestPairModel", name := "end", desc := "(I)Z" } : Jvm.MethodName)) ∈ wAll := wAll_6 127 rfl rfl
theorem im_X12_end : (Jvm.Cond.instanceMethod ({ cls := "BestPairModel", name := "end", desc := "(I)Z" } : Jvm.MethodName)) ∈ wAll := wAll_6 128 rfl rfl
theorem se_X12_end : (Jvm.Cond.selects "BestPairModel" ({ cls := "BestPairModel", name := "end", desc := "(I)Z" } : Jvm.MethodName) ({ cls := "BestPairModel", name := "end", desc := "(I)Z" } : Jvm.MethodName)) ∈ wAll := wAll_6 129 rfl rfl
theorem cd_X12_end : (Jvm.Cond.code ({ cls := "BestPairModel", name := "end", desc := "(I)Z" } : Jvm.MethodName) prog_14_method_9_code (2 : Nat) (Option.some Jvm.ClassFile.FieldType.boolean)) ∈ wAll := wAll_6 130 rfl rfl
theorem ml_L_33 : (Jvm.Cond.methodLink "BestPairLaw" (33 : Nat) ({ cls := "BestPairModel", name := "fault", desc := "(I)I" } : Jvm.MethodName)) ∈ wAll := wAll_6 131 rfl rfl
theorem im_X12_fault : (Jvm.Cond.instanceMethod ({ cls := "BestPairModel", name := "fault", desc := "(I)I" } : Jvm.MethodName)) ∈ wAll := wAll_6 132 rfl rfl
theorem se_X12_fault : (Jvm.Cond.selects "BestPairModel" ({ cls := "BestPairModel", name := "fault", desc := "(I)I" } : Jvm.MethodName) ({ cls := "BestPairModel", name := "fault", desc := "(I)I" } : Jvm.MethodName)) ∈ wAll := wAll_6 133 rfl rfl
theorem cd_X12_fault : (Jvm.Cond.code ({ cls := "BestPairModel", name := "fault", desc := "(I)I" } : Jvm.MethodName) prog_14_method_34_code (2 : Nat) (Option.some Jvm.ClassFile.FieldType.int)) ∈ wAll := wAll_6 134 rfl rfl
theorem ml_X12_247 : (Jvm.Cond.methodLink "BestPairModel" (247 : Nat) ({ cls := "BestPairModel", name := "isIn", desc := "(JJJ)Z" } : Jvm.MethodName)) ∈ wAll := wAll_6 135 rfl rfl
theorem st_X12_isIn : (Jvm.Cond.static ({ cls := "BestPairModel", name := "isIn", desc := "(JJJ)Z" } : Jvm.MethodName)) ∈ wAll := wAll_6 136 rfl rfl
theorem cd_X12_isIn : (Jvm.Cond.code ({ cls := "BestPairModel", name := "isIn", desc := "(JJJ)Z" } : Jvm.MethodName) prog_14_method_3_code (6 : Nat) (Option.some Jvm.ClassFile.FieldType.boolean)) ∈ wAll := wAll_6 137 rfl rfl
theorem ml_X12_272 : (Jvm.Cond.methodLink "BestPairModel" (272 : Nat) ({ cls := "BestPairModel", name := "readPeople", desc := "()V" } : Jvm.MethodName)) ∈ wAll := wAll_6 138 rfl rfl
theorem im_X12_readPeople : (Jvm.Cond.instanceMethod ({ cls := "BestPairModel", name := "readPeople", desc := "()V" } : Jvm.MethodName)) ∈ wAll := wAll_6 140 rfl rfl
theorem cd_X12_readPeople : (Jvm.Cond.code ({ cls := "BestPairModel", name := "readPeople", desc := "()V" } : Jvm.MethodName) prog_14_method_33_code (2 : Nat) (Option.none : Option Jvm.ClassFile.FieldType)) ∈ wAll := wAll_6 141 rfl rfl
theorem ml_X12_232 : (Jvm.Cond.methodLink "BestPairModel" (232 : Nat) ({ cls := "BestPairModel", name := "opens", desc := "([BII)V" } : Jvm.MethodName)) ∈ wAll := wAll_6 142 rfl rfl
theorem im_X12_opens : (Jvm.Cond.instanceMethod ({ cls := "BestPairModel", name := "opens", desc := "([BII)V" } : Jvm.MethodName)) ∈ wAll := wAll_6 144 rfl rfl
theorem cd_X12_opens : (Jvm.Cond.code ({ cls := "BestPairModel", name := "opens", desc := "([BII)V" } : Jvm.MethodName) prog_14_method_25_code (4 : Nat) (Option.none : Option Jvm.ClassFile.FieldType)) ∈ wAll := wAll_6 145 rfl rfl
theorem ml_X12_269 : (Jvm.Cond.methodLink "BestPairModel" (269 : Nat) ({ cls := "BestPairModel", name := "readPerson", desc := "(I)V" } : Jvm.MethodName)) ∈ wAll := wAll_6 146 rfl rfl
theorem im_X12_readPerson : (Jvm.Cond.instanceMethod ({ cls := "BestPairModel", name := "readPerson", desc := "(I)V" } : Jvm.MethodName)) ∈ wAll := wAll_6 148 rfl rfl
theorem cd_X12_readPerson : (Jvm.Cond.code ({ cls := "BestPairModel", name := "readPerson", desc := "(I)V" } : Jvm.MethodName) prog_14_method_32_code (5 : Nat) (Option.none : Option Jvm.ClassFile.FieldType)) ∈ wAll := wAll_6 149 rfl rfl
theorem ml_X12_251 : (Jvm.Cond.methodLink "BestPairModel" (251 : Nat) ({ cls := "BestPairModel", name := "usual", desc := "(I)I" } : Jvm.MethodName)) ∈ wAll := wAll_6 150 rfl rfl
theorem st_X12_usual : (Jvm.Cond.static ({ cls := "BestPairModel", name := "usual", desc := "(I)I" } : Jvm.MethodName)) ∈ wAll := wAll_6 151 rfl rfl
theorem cd_X12_usual : (Jvm.Cond.code ({ cls := "BestPairModel", name := "usual", desc := "(I)I" } : Jvm.MethodName) prog_14_method_28_code (1 : Nat) (Option.some Jvm.ClassFile.FieldType.int)) ∈ wAll := wAll_6 152 rfl rfl
theorem ml_X12_189 : (Jvm.Cond.methodLink "BestPairModel" (189 : Nat) ({ cls := "BestPairModel", name := "takes", desc := "(I)Z" } : Jvm.MethodName)) ∈ wAll := wAll_6 153 rfl rfl
theorem im_X12_takes : (Jvm.Cond.instanceMethod ({ cls := "BestPairModel", name := "takes", desc := "(I)Z" } : Jvm.MethodName)) ∈ wAll := wAll_6 155 rfl rfl
theorem cd_X12_takes : (Jvm.Cond.code ({ cls := "BestPairModel", name := "takes", desc := "(I)Z" } : Jvm.MethodName) prog_14_method_13_code (2 : Nat) (Option.some Jvm.ClassFile.FieldType.boolean)) ∈ wAll := wAll_6 156 rfl rfl
theorem ml_X12_163 : (Jvm.Cond.methodLink "BestPairModel" (163 : Nat) ({ cls := "BestPairModel", name := "look", desc := "()I" } : Jvm.MethodName)) ∈ wAll := wAll_6 157 rfl rfl
theorem im_X12_look : (Jvm.Cond.instanceMethod ({ cls := "BestPairModel", name := "look", desc := "()I" } : Jvm.MethodName)) ∈ wAll := wAll_6 159 rfl rfl
theorem cd_X12_look : (Jvm.Cond.code ({ cls := "BestPairModel", name := "look", desc := "()I" } : Jvm.MethodName) prog_14_method_10_code (1 : Nat) (Option.some Jvm.ClassFile.FieldType.int)) ∈ wAll := wAll_6 160 rfl rfl
theorem ml_X12_159 : (Jvm.Cond.methodLink "BestPairModel" (159 : Nat) ({ cls := "BestPairModel", name := "fails", desc := "()Z" } : Jvm.MethodName)) ∈ wAll := wAll_6 161 rfl rfl
theorem im_X12_fails : (Jvm.Cond.instanceMethod ({ cls := "BestPairModel", name := "fails", desc := "()Z" } : Jvm.MethodName)) ∈ wAll := wAll_6 163 rfl rfl
theorem cd_X12_fails : (Jvm.Cond.code ({ cls := "BestPairModel", name := "fails", desc := "()Z" } : Jvm.MethodName) prog_14_method_11_code (1 : Nat) (Option.some Jvm.ClassFile.FieldType.boolean)) ∈ wAll := wAll_6 164 rfl rfl
theorem ml_X12_254 : (Jvm.Cond.methodLink "BestPairModel" (254 : Nat) ({ cls := "BestPairModel", name := "placeOf", desc := "(Ljava/lang/String;I)I" } : Jvm.MethodName)) ∈ wAll := wAll_6 165 rfl rfl
theorem st_X12_placeOf : (Jvm.Cond.static ({ cls := "BestPairModel", name := "placeOf", desc := "(Ljava/lang/String;I)I" } : Jvm.MethodName)) ∈ wAll := wAll_6 166 rfl rfl
theorem cd_X12_placeOf : (Jvm.Cond.code ({ cls := "BestPairModel", name := "placeOf", desc := "(Ljava/lang/String;I)I" } : Jvm.MethodName) prog_14_method_31_code (3 : Nat) (Option.some Jvm.ClassFile.FieldType.int)) ∈ wAll := wAll_6 167 rfl rfl
theorem ml_X12_124 : (Jvm.Cond.methodLink "BestPairModel" (124 : Nat) ({ cls := "java/lang/String", name := "length", desc := "()I" } : Jvm.MethodName)) ∈ wAll := wAll_6 168 rfl rfl
theorem ml_X12_130 : (Jvm.Cond.methodLink "BestPairModel" (130 : Nat) ({ cls := "java/lang/String", name := "charAt", desc := "(I)C" } : Jvm.MethodName)) ∈ wAll := wAll_6 169 rfl rfl
theorem ml_X12_258 : (Jvm.Cond.methodLink "BestPairModel" (258 : Nat) ({ cls := "BestPairModel", name := "has", desc := "(II)Z" } : Jvm.MethodName)) ∈ wAll := wAll_6 170 rfl rfl
theorem st_X12_has : (Jvm.Cond.static ({ cls := "BestPairModel", name := "has", desc := "(II)Z" } : Jvm.MethodName)) ∈ wAll := wAll_6 171 rfl rfl
theorem cd_X12_has : (Jvm.Cond.code ({ cls := "BestPairModel", name := "has", desc := "(II)Z" } : Jvm.MethodName) prog_14_method_4_code (2 : Nat) (Option.some Jvm.ClassFile.FieldType.boolean)) ∈ wAll := wAll_6 172 rfl rfl
theorem ml_X12_262 : (Jvm.Cond.methodLink "BestPairModel" (262 : Nat) ({ cls := "BestPairModel", name := "readItem", desc := "(II)V" } : Jvm.MethodName)) ∈ wAll := wAll_6 173 rfl rfl
theorem im_X12_readItem : (Jvm.Cond.instanceMethod ({ cls := "BestPairModel", name := "readItem", desc := "(II)V" } : Jvm.MethodName)) ∈ wAll := wAll_6 175 rfl rfl
theorem cd_X12_readItem : (Jvm.Cond.code ({ cls := "BestPairModel", name := "readItem", desc := "(II)V" } : Jvm.MethodName) prog_14_method_30_code (5 : Nat) (Option.none : Option Jvm.ClassFile.FieldType)) ∈ wAll := wAll_6 176 rfl rfl
theorem ml_X12_193 : (Jvm.Cond.methodLink "BestPairModel" (193 : Nat) ({ cls := "BestPairModel", name := "isDigit", desc := "()Z" } : Jvm.MethodName)) ∈ wAll := wAll_6 177 rfl rfl
theorem im_X12_isDigit : (Jvm.Cond.instanceMethod ({ cls := "BestPairModel", name := "isDigit", desc := "()Z" } : Jvm.MethodName)) ∈ wAll := wAll_6 179 rfl rfl
theorem cd_X12_isDigit : (Jvm.Cond.code ({ cls := "BestPairModel", name := "isDigit", desc := "()Z" } : Jvm.MethodName) prog_14_method_14_code (1 : Nat) (Option.some Jvm.ClassFile.FieldType.boolean)) ∈ wAll := wAll_6 180 rfl rfl
theorem ml_X12_239 : (Jvm.Cond.methodLink "BestPairModel" (239 : Nat) ({ cls := "BestPairModel", name := "here", desc := "()I" } : Jvm.MethodName)) ∈ wAll := wAll_6 181 rfl rfl
theorem im_X12_here : (Jvm.Cond.instanceMethod ({ cls := "BestPairModel", name := "here", desc := "()I" } : Jvm.MethodName)) ∈ wAll := wAll_6 183 rfl rfl
theorem cd_X12_here : (Jvm.Cond.code ({ cls := "BestPairModel", name := "here", desc := "()I" } : Jvm.MethodName) prog_14_method_27_code (1 : Nat) (Option.some Jvm.ClassFile.FieldType.int)) ∈ wAll := wAll_6 184 rfl rfl
theorem kl_X12_242 : (Jvm.Cond.constantLong "BestPairModel" (242 : Nat) (20 : Int64)) ∈ wAll := wAll_6 185 rfl rfl
theorem ml_X12_244 : (Jvm.Cond.methodLink "BestPairModel" (244 : Nat) ({ cls := "BestPairModel", name := "mostOf", desc := "(I)I" } : Jvm.MethodName)) ∈ wAll := wAll_6 186 rfl rfl
theorem st_X12_mostOf : (Jvm.Cond.static ({ cls := "BestPairModel", name := "mostOf", desc := "(I)I" } : Jvm.MethodName)) ∈ wAll := wAll_6 187 rfl rfl
theorem cd_X12_mostOf : (Jvm.Cond.code ({ cls := "BestPairModel", name := "mostOf", desc := "(I)I" } : Jvm.MethodName) prog_14_method_29_code (1 : Nat) (Option.some Jvm.ClassFile.FieldType.int)) ∈ wAll := wAll_6 188 rfl rfl
theorem ml_X12_275 : (Jvm.Cond.methodLink "BestPairModel" (275 : Nat) ({ cls := "BestPairModel", name := "goThrough", desc := "([BII)V" } : Jvm.MethodName)) ∈ wAll := wAll_6 189 rfl rfl
theorem im_X12_goThrough : (Jvm.Cond.instanceMethod ({ cls := "BestPairModel", name := "goThrough", desc := "([BII)V" } : Jvm.MethodName)) ∈ wAll := wAll_6 191 rfl rfl
theorem cd_X12_goThrough : (Jvm.Cond.code ({ cls := "BestPairModel", name := "goThrough", desc := "([BII)V" } : Jvm.MethodName) prog_14_method_26_code (4 : Nat) (Option.none : Option Jvm.ClassFile.FieldType)) ∈ wAll := wAll_6 192 rfl rfl
theorem ml_X12_236 : (Jvm.Cond.methodLink "BestPairModel" (236 : Nat) ({ cls := "BestPairModel", name := "clause", desc := "()V" } : Jvm.MethodName)) ∈ wAll := wAll_6 193 rfl rfl
theorem im_X12_clause : (Jvm.Cond.instanceMethod ({ cls := "BestPairModel", name := "clause", desc := "()V" } : Jvm.MethodName)) ∈ wAll := wAll_6 195 rfl rfl
theorem cd_X12_clause : (Jvm.Cond.code ({ cls := "BestPairModel", name := "clause", desc := "()V" } : Jvm.MethodName) prog_14_method_24_code (5 : Nat) (Option.none : Option Jvm.ClassFile.FieldType)) ∈ wAll := wAll_6 196 rfl rfl
theorem ml_X12_179 : (Jvm.Cond.methodLink "BestPairModel" (179 : Nat) ({ cls := "BestPairModel", name := "isAmong", desc := "(Ljava/lang/String;I)Z" } : Jvm.MethodName)) ∈ wAll := wAll_6 197 rfl rfl
theorem st_X12_isAmong : (Jvm.Cond.static ({ cls := "BestPairModel", name := "isAmong", desc := "(Ljava/lang/String;I)Z" } : Jvm.MethodName)) ∈ wAll := wAll_6 198 rfl rfl
theorem cd_X12_isAmong : (Jvm.Cond.code ({ cls := "BestPairModel", name := "isAmong", desc := "(Ljava/lang/String;I)Z" } : Jvm.MethodName) prog_14_method_5_code (3 : Nat) (Option.some Jvm.ClassFile.FieldType.boolean)) ∈ wAll := wAll_6 199 rfl rfl
theorem ml_X12_212 : (Jvm.Cond.methodLink "BestPairModel" (212 : Nat) ({ cls := "BestPairModel", name := "condition", desc := "(ZI)Z" } : Jvm.MethodName)) ∈ wAll := wAll_6 200 rfl rfl
theorem im_X12_condition : (Jvm.Cond.instanceMethod ({ cls := "BestPairModel", name := "condition", desc := "(ZI)Z" } : Jvm.MethodName)) ∈ wAll := wAll_6 202 rfl rfl
theorem cd_X12_condition : (Jvm.Cond.code ({ cls := "BestPairModel", name := "condition", desc := "(ZI)Z" } : Jvm.MethodName) prog_14_method_23_code (5 : Nat) (Option.some Jvm.ClassFile.FieldType.boolean)) ∈ wAll := wAll_6 203 rfl rfl
theorem ml_X12_219 : (Jvm.Cond.methodLink "BestPairModel" (219 : Nat) ({ cls := "BestPairModel", name := "part", desc := "(ZI)Z" } : Jvm.MethodName)) ∈ wAll := wAll_6 204 rfl rfl
theorem im_X12_part : (Jvm.Cond.instanceMethod ({ cls := "BestPairModel", name := "part", desc := "(ZI)Z" } : Jvm.MethodName)) ∈ wAll := wAll_6 206 rfl rfl
theorem cd_X12_part : (Jvm.Cond.code ({ cls := "BestPairModel", name := "part", desc := "(ZI)Z" } : Jvm.MethodName) prog_14_method_22_code (5 : Nat) (Option.some Jvm.ClassFile.FieldType.boolean)) ∈ wAll := wAll_6 207 rfl rfl
theorem ml_X12_216 : (Jvm.Cond.methodLink "BestPairModel" (216 : Nat) ({ cls := "BestPairModel", name := "compares", desc := "(ZI)Z" } : Jvm.MethodName)) ∈ wAll := wAll_6 208 rfl rfl
theorem im_X12_compares : (Jvm.Cond.instanceMethod ({ cls := "BestPairModel", name := "compares", desc := "(ZI)Z" } : Jvm.MethodName)) ∈ wAll := wAll_6 210 rfl rfl
theorem cd_X12_compares : (Jvm.Cond.code ({ cls := "BestPairModel", name := "compares", desc := "(ZI)Z" } : Jvm.MethodName) prog_14_method_20_code (6 : Nat) (Option.some Jvm.ClassFile.FieldType.boolean)) ∈ wAll := wAll_6 211 rfl rfl
theorem ml_X12_186 : (Jvm.Cond.methodLink "BestPairModel" (186 : Nat) ({ cls := "BestPairModel", name := "sum", desc := "()I" } : Jvm.MethodName)) ∈ wAll := wAll_6 212 rfl rfl
theorem im_X12_sum : (Jvm.Cond.instanceMethod ({ cls := "BestPairModel", name := "sum", desc := "()I" } : Jvm.MethodName)) ∈ wAll := wAll_6 214 rfl rfl
theorem cd_X12_sum : (Jvm.Cond.code ({ cls := "BestPairModel", name := "sum", desc := "()I" } : Jvm.MethodName) prog_14_method_18_code (5 : Nat) (Option.some Jvm.ClassFile.FieldType.int)) ∈ wAll := wAll_6 215 rfl rfl
theorem ml_X12_203 : (Jvm.Cond.methodLink "BestPairModel" (203 : Nat) ({ cls := "BestPairModel", name := "term", desc := "()I" } : Jvm.MethodName)) ∈ wAll := wAll_6 216 rfl rfl
theorem im_X12_term : (Jvm.Cond.instanceMethod ({ cls := "BestPairModel", name := "term", desc := "()I" } : Jvm.MethodName)) ∈ wAll := wAll_6 218 rfl rfl
theorem cd_X12_term : (Jvm.Cond.code ({ cls := "BestPairModel", name := "term", desc := "()I" } : Jvm.MethodName) prog_14_method_17_code (5 : Nat) (Option.some Jvm.ClassFile.FieldType.int)) ∈ wAll := wAll_6 219 rfl rfl
theorem ml_X12_196 : (Jvm.Cond.methodLink "BestPairModel" (196 : Nat) ({ cls := "BestPairModel", name := "atom", desc := "()I" } : Jvm.MethodName)) ∈ wAll := wAll_6 220 rfl rfl
theorem im_X12_atom : (Jvm.Cond.instanceMethod ({ cls := "BestPairModel", name := "atom", desc := "()I" } : Jvm.MethodName)) ∈ wAll := wAll_6 222 rfl rfl
theorem cd_X12_atom : (Jvm.Cond.code ({ cls := "BestPairModel", name := "atom", desc := "()I" } : Jvm.MethodName) prog_14_method_16_code (4 : Nat) (Option.some Jvm.ClassFile.FieldType.int)) ∈ wAll := wAll_6 223 rfl rfl
theorem ml_X12_183 : (Jvm.Cond.methodLink "BestPairModel" (183 : Nat) ({ cls := "BestPairModel", name := "goesIn", desc := "()Z" } : Jvm.MethodName)) ∈ wAll := wAll_6 224 rfl rfl
theorem im_X12_goesIn : (Jvm.Cond.instanceMethod ({ cls := "BestPairModel", name := "goesIn", desc := "()Z" } : Jvm.MethodName)) ∈ wAll := wAll_6 226 rfl rfl
theorem cd_X12_goesIn : (Jvm.Cond.code ({ cls := "BestPairModel", name := "goesIn", desc := "()Z" } : Jvm.MethodName) prog_14_method_12_code (1 : Nat) (Option.some Jvm.ClassFile.FieldType.boolean)) ∈ wAll := wAll_6 227 rfl rfl
theorem ml_X12_199 : (Jvm.Cond.methodLink "BestPairModel" (199 : Nat) ({ cls := "BestPairModel", name := "within", desc := "(J)I" } : Jvm.MethodName)) ∈ wAll := wAll_6 228 rfl rfl
theorem st_X12_within : (Jvm.Cond.static ({ cls := "BestPairModel", name := "within", desc := "(J)I" } : Jvm.MethodName)) ∈ wAll := wAll_6 229 rfl rfl
theorem cd_X12_within : (Jvm.Cond.code ({ cls := "BestPairModel", name := "within", desc := "(J)I" } : Jvm.MethodName) prog_14_method_15_code (2 : Nat) (Option.some Jvm.ClassFile.FieldType.int)) ∈ wAll := wAll_6 230 rfl rfl
theorem kl_X12_166 : (Jvm.Cond.constantLong "BestPairModel" (166 : Nat) (-1000000 : Int64)) ∈ wAll := wAll_6 231 rfl rfl
theorem kl_X12_168 : (Jvm.Cond.constantLong "BestPairModel" (168 : Nat) (1000000 : Int64)) ∈ wAll := wAll_6 232 rfl rfl
theorem ml_X12_170 : (Jvm.Cond.methodLink "BestPairModel" (170 : Nat) ({ cls := "java/lang/Math", name := "min", desc := "(JJ)J" } : Jvm.MethodName)) ∈ wAll := wAll_6 233 rfl rfl
theorem st_J9_min_f86c9 : (Jvm.Cond.static ({ cls := "java/lang/Math", name := "min", desc := "(JJ)J" } : Jvm.MethodName)) ∈ wAll := wAll_6 234 rfl rfl
theorem cd_J9_min_f86c9 : (Jvm.Cond.code ({ cls := "java/lang/Math", name := "min", desc := "(JJ)J" } : Jvm.MethodName) prog_20_method_70_code (4 : Nat) (Option.some Jvm.ClassFile.FieldType.long)) ∈ wAll := wAll_6 235 rfl rfl
theorem ml_X12_176 : (Jvm.Cond.methodLink "BestPairModel" (176 : Nat) ({ cls := "java/lang/Math", name := "max", desc := "(JJ)J" } : Jvm.MethodName)) ∈ wAll := wAll_6 236 rfl rfl
theorem st_J9_max_f86c9 : (Jvm.Cond.static ({ cls := "java/lang/Math", name := "max", desc := "(JJ)J" } : Jvm.MethodName)) ∈ wAll := wAll_6 237 rfl rfl
theorem cd_J9_max_f86c9 : (Jvm.Cond.code ({ cls := "java/lang/Math", name := "max", desc := "(JJ)J" } : Jvm.MethodName) prog_20_method_66_code (4 : Nat) (Option.some Jvm.ClassFile.FieldType.long)) ∈ wAll := wAll_6 238 rfl rfl
theorem ml_X12_206 : (Jvm.Cond.methodLink "BestPairModel" (206 : Nat) ({ cls := "BestPairModel", name := "isSign", desc := "(I)Z" } : Jvm.MethodName)) ∈ wAll := wAll_6 239 rfl rfl
theorem st_X12_isSign : (Jvm.Cond.static ({ cls := "BestPairModel", name := "isSign", desc := "(I)Z" } : Jvm.MethodName)) ∈ wAll := wAll_7 0 rfl rfl
theorem cd_X12_isSign : (Jvm.Cond.code ({ cls := "BestPairModel", name := "isSign", desc := "(I)Z" } : Jvm.MethodName) prog_14_method_19_code (1 : Nat) (Option.some Jvm.ClassFile.FieldType.boolean)) ∈ wAll := wAll_7 1 rfl rfl
theorem ml_X12_209 : (Jvm.Cond.methodLink "BestPairModel" (209 : Nat) ({ cls := "BestPairModel", name := "unit", desc := "()Z" } : Jvm.MethodName)) ∈ wAll := wAll_7 2 rfl rfl
theorem im_X12_unit : (Jvm.Cond.instanceMethod ({ cls := "BestPairModel", name := "unit", desc := "()Z" } : Jvm.MethodName)) ∈ wAll := wAll_7 4 rfl rfl
theorem cd_X12_unit : (Jvm.Cond.code ({ cls := "BestPairModel", name := "unit", desc := "()Z" } : Jvm.MethodName) prog_14_method_21_code (3 : Nat) (Option.some Jvm.ClassFile.FieldType.boolean)) ∈ wAll := wAll_7 5 rfl rfl
theorem ml_L_37 : (Jvm.Cond.methodLink "BestPairLaw" (37 : Nat) ({ cls := "BestPairModel", name := "text", desc := "(I)I" } : Jvm.MethodName)) ∈ wAll := wAll_7 6 rfl rfl
theorem im_X12_text : (Jvm.Cond.instanceMethod ({ cls := "BestPairModel", name := "text", desc := "(I)I" } : Jvm.MethodName)) ∈ wAll := wAll_7 7 rfl rfl
theorem se_X12_text : (Jvm.Cond.selects "BestPairModel" ({ cls := "BestPairModel", name := "text", desc := "(I)I" } : Jvm.MethodName) ({ cls := "BestPairModel", name := "text", desc := "(I)I" } : Jvm.MethodName)) ∈ wAll := wAll_7 8 rfl rfl
theorem cd_X12_text : (Jvm.Cond.code ({ cls := "BestPairModel", name := "text", desc := "(I)I" } : Jvm.MethodName) prog_14_method_35_code (4 : Nat) (Option.some Jvm.ClassFile.FieldType.int)) ∈ wAll := wAll_7 9 rfl rfl
theorem ml_X12_281 : (Jvm.Cond.methodLink "BestPairModel" (281 : Nat) ({ cls := "BestPairModel", name := "fault", desc := "(I)I" } : Jvm.MethodName)) ∈ wAll := wAll_7 10 rfl rfl
theorem ml_L_43 : (Jvm.Cond.methodLink "BestPairLaw" (43 : Nat) ({ cls := "BestPairModel", name := "person", desc := "(II)I" } : Jvm.MethodName)) ∈ wAll := wAll_7 11 rfl rfl
theorem im_X12_person : (Jvm.Cond.instanceMethod ({ cls := "BestPairModel", name := "person", desc := "(II)I" } : Jvm.MethodName)) ∈ wAll := wAll_7 12 rfl rfl
theorem se_X12_person : (Jvm.Cond.selects "BestPairModel" ({ cls := "BestPairModel", name := "person", desc := "(II)I" } : Jvm.MethodName) ({ cls := "BestPairModel", name := "person", desc := "(II)I" } : Jvm.MethodName)) ∈ wAll := wAll_7 13 rfl rfl
theorem cd_X12_person : (Jvm.Cond.code ({ cls := "BestPairModel", name := "person", desc := "(II)I" } : Jvm.MethodName) prog_14_method_38_code (3 : Nat) (Option.some Jvm.ClassFile.FieldType.int)) ∈ wAll := wAll_7 14 rfl rfl
theorem ml_X12_295 : (Jvm.Cond.methodLink "BestPairModel" (295 : Nat) ({ cls := "BestPairModel", name := "isPerson", desc := "(I)Z" } : Jvm.MethodName)) ∈ wAll := wAll_7 15 rfl rfl
theorem im_X12_isPerson : (Jvm.Cond.instanceMethod ({ cls := "BestPairModel", name := "isPerson", desc := "(I)Z" } : Jvm.MethodName)) ∈ wAll := wAll_7 17 rfl rfl
theorem cd_X12_isPerson : (Jvm.Cond.code ({ cls := "BestPairModel", name := "isPerson", desc := "(I)Z" } : Jvm.MethodName) prog_14_method_37_code (2 : Nat) (Option.some Jvm.ClassFile.FieldType.boolean)) ∈ wAll := wAll_7 18 rfl rfl
theorem kl_X12_298 : (Jvm.Cond.constantLong "BestPairModel" (298 : Nat) (6 : Int64)) ∈ wAll := wAll_7 19 rfl rfl
theorem ml_X12_300 : (Jvm.Cond.methodLink "BestPairModel" (300 : Nat) ({ cls := "BestPairModel", name := "partOf", desc := "(II)I" } : Jvm.MethodName)) ∈ wAll := wAll_7 20 rfl rfl
theorem im_X12_partOf : (Jvm.Cond.instanceMethod ({ cls := "BestPairModel", name := "partOf", desc := "(II)I" } : Jvm.MethodName)) ∈ wAll := wAll_7 22 rfl rfl
theorem cd_X12_partOf : (Jvm.Cond.code ({ cls := "BestPairModel", name := "partOf", desc := "(II)I" } : Jvm.MethodName) prog_14_method_36_code (3 : Nat) (Option.some Jvm.ClassFile.FieldType.int)) ∈ wAll := wAll_7 23 rfl rfl
theorem ml_L_51 : (Jvm.Cond.methodLink "BestPairLaw" (51 : Nat) ({ cls := "BestPairModel", name := "pair", desc := "(II)I" } : Jvm.MethodName)) ∈ wAll := wAll_7 24 rfl rfl
theorem im_X12_pair : (Jvm.Cond.instanceMethod ({ cls := "BestPairModel", name := "pair", desc := "(II)I" } : Jvm.MethodName)) ∈ wAll := wAll_7 25 rfl rfl
theorem se_X12_pair : (Jvm.Cond.selects "BestPairModel" ({ cls := "BestPairModel", name := "pair", desc := "(II)I" } : Jvm.MethodName) ({ cls := "BestPairModel", name := "pair", desc := "(II)I" } : Jvm.MethodName)) ∈ wAll := wAll_7 26 rfl rfl
theorem cd_X12_pair : (Jvm.Cond.code ({ cls := "BestPairModel", name := "pair", desc := "(II)I" } : Jvm.MethodName) prog_14_method_39_code (3 : Nat) (Option.some Jvm.ClassFile.FieldType.int)) ∈ wAll := wAll_7 27 rfl rfl
theorem kl_X12_304 : (Jvm.Cond.constantLong "BestPairModel" (304 : Nat) (2 : Int64)) ∈ wAll := wAll_7 28 rfl rfl
theorem ml_L_55 : (Jvm.Cond.methodLink "BestPairLaw" (55 : Nat) ({ cls := "BestPairModel", name := "fits", desc := "(II)I" } : Jvm.MethodName)) ∈ wAll := wAll_7 29 rfl rfl
theorem im_X12_fits : (Jvm.Cond.instanceMethod ({ cls := "BestPairModel", name := "fits", desc := "(II)I" } : Jvm.MethodName)) ∈ wAll := wAll_7 30 rfl rfl
theorem se_X12_fits : (Jvm.Cond.selects "BestPairModel" ({ cls := "BestPairModel", name := "fits", desc := "(II)I" } : Jvm.MethodName) ({ cls := "BestPairModel", name := "fits", desc := "(II)I" } : Jvm.MethodName)) ∈ wAll := wAll_7 31 rfl rfl
theorem cd_X12_fits : (Jvm.Cond.code ({ cls := "BestPairModel", name := "fits", desc := "(II)I" } : Jvm.MethodName) prog_14_method_41_code (3 : Nat) (Option.some Jvm.ClassFile.FieldType.int)) ∈ wAll := wAll_7 32 rfl rfl
theorem ml_X12_306 : (Jvm.Cond.methodLink "BestPairModel" (306 : Nat) ({ cls := "BestPairModel", name := "doesFit", desc := "(II)Z" } : Jvm.MethodName)) ∈ wAll := wAll_7 33 rfl rfl
theorem im_X12_doesFit : (Jvm.Cond.instanceMethod ({ cls := "BestPairModel", name := "doesFit", desc := "(II)Z" } : Jvm.MethodName)) ∈ wAll := wAll_7 35 rfl rfl
theorem cd_X12_doesFit : (Jvm.Cond.code ({ cls := "BestPairModel", name := "doesFit", desc := "(II)Z" } : Jvm.MethodName) prog_14_method_40_code (3 : Nat) (Option.some Jvm.ClassFile.FieldType.boolean)) ∈ wAll := wAll_7 36 rfl rfl
theorem ml_L_60 : (Jvm.Cond.methodLink "BestPairLaw" (60 : Nat) ({ cls := "BestPairModel", name := "rule", desc := "(II)Z" } : Jvm.MethodName)) ∈ wAll := wAll_7 37 rfl rfl
theorem im_X12_rule : (Jvm.Cond.instanceMethod ({ cls := "BestPairModel", name := "rule", desc := "(II)Z" } : Jvm.MethodName)) ∈ wAll := wAll_7 38 rfl rfl
theorem se_X12_rule : (Jvm.Cond.selects "BestPairModel" ({ cls := "BestPairModel", name := "rule", desc := "(II)Z" } : Jvm.MethodName) ({ cls := "BestPairModel", name := "rule", desc := "(II)Z" } : Jvm.MethodName)) ∈ wAll := wAll_7 39 rfl rfl
theorem cd_X12_rule : (Jvm.Cond.code ({ cls := "BestPairModel", name := "rule", desc := "(II)Z" } : Jvm.MethodName) prog_14_method_42_code (3 : Nat) (Option.some Jvm.ClassFile.FieldType.boolean)) ∈ wAll := wAll_7 40 rfl rfl
theorem ml_L_65 : (Jvm.Cond.methodLink "BestPairLaw" (65 : Nat) ({ cls := "BestPairModel", name := "evening", desc := "(III)I" } : Jvm.MethodName)) ∈ wAll := wAll_7 41 rfl rfl
theorem im_X12_evening : (Jvm.Cond.instanceMethod ({ cls := "BestPairModel", name := "evening", desc := "(III)I" } : Jvm.MethodName)) ∈ wAll := wAll_7 42 rfl rfl
theorem se_X12_evening : (Jvm.Cond.selects "BestPairModel" ({ cls := "BestPairModel", name := "evening", desc := "(III)I" } : Jvm.MethodName) ({ cls := "BestPairModel", name := "evening", desc := "(III)I" } : Jvm.MethodName)) ∈ wAll := wAll_7 43 rfl rfl
theorem cd_X12_evening : (Jvm.Cond.code ({ cls := "BestPairModel", name := "evening", desc := "(III)I" } : Jvm.MethodName) prog_14_method_52_code (4 : Nat) (Option.some Jvm.ClassFile.FieldType.int)) ∈ wAll := wAll_7 44 rfl rfl
theorem ml_X12_343 : (Jvm.Cond.methodLink "BestPairModel" (343 : Nat) ({ cls := "BestPairModel", name := "isVisit", desc := "(II)Z" } : Jvm.MethodName)) ∈ wAll := wAll_7 45 rfl rfl
theorem im_X12_isVisit : (Jvm.Cond.instanceMethod ({ cls := "BestPairModel", name := "isVisit", desc := "(II)Z" } : Jvm.MethodName)) ∈ wAll := wAll_7 47 rfl rfl
theorem cd_X12_isVisit : (Jvm.Cond.code ({ cls := "BestPairModel", name := "isVisit", desc := "(II)Z" } : Jvm.MethodName) prog_14_method_50_code (3 : Nat) (Option.some Jvm.ClassFile.FieldType.boolean)) ∈ wAll := wAll_7 48 rfl rfl
theorem ml_X12_329 : (Jvm.Cond.methodLink "BestPairModel" (329 : Nat) ({ cls := "BestPairModel", name := "isHouse", desc := "(I)Z" } : Jvm.MethodName)) ∈ wAll := wAll_7 49 rfl rfl
theorem st_X12_isHouse : (Jvm.Cond.static ({ cls := "BestPairModel", name := "isHouse", desc := "(I)Z" } : Jvm.MethodName)) ∈ wAll := wAll_7 50 rfl rfl
theorem cd_X12_isHouse : (Jvm.Cond.code ({ cls := "BestPairModel", name := "isHouse", desc := "(I)Z" } : Jvm.MethodName) prog_14_method_48_code (1 : Nat) (Option.some Jvm.ClassFile.FieldType.boolean)) ∈ wAll := wAll_7 51 rfl rfl
theorem kl_X12_327 : (Jvm.Cond.constantLong "BestPairModel" (327 : Nat) (3 : Int64)) ∈ wAll := wAll_7 52 rfl rfl
theorem ml_X12_332 : (Jvm.Cond.methodLink "BestPairModel" (332 : Nat) ({ cls := "BestPairModel", name := "areGuests", desc := "(I)Z" } : Jvm.MethodName)) ∈ wAll := wAll_7 53 rfl rfl
theorem im_X12_areGuests : (Jvm.Cond.instanceMethod ({ cls := "BestPairModel", name := "areGuests", desc := "(I)Z" } : Jvm.MethodName)) ∈ wAll := wAll_7 55 rfl rfl
theorem cd_X12_areGuests : (Jvm.Cond.code ({ cls := "BestPairModel", name := "areGuests", desc := "(I)Z" } : Jvm.MethodName) prog_14_method_47_code (2 : Nat) (Option.some Jvm.ClassFile.FieldType.boolean)) ∈ wAll := wAll_7 56 rfl rfl
theorem ml_X12_346 : (Jvm.Cond.methodLink "BestPairModel" (346 : Nat) ({ cls := "BestPairModel", name := "layOrder", desc := "(II)Z" } : Jvm.MethodName)) ∈ wAll := wAll_7 57 rfl rfl
theorem im_X12_layOrder : (Jvm.Cond.instanceMethod ({ cls := "BestPairModel", name := "layOrder", desc := "(II)Z" } : Jvm.MethodName)) ∈ wAll := wAll_7 59 rfl rfl
theorem cd_X12_layOrder : (Jvm.Cond.code ({ cls := "BestPairModel", name := "layOrder", desc := "(II)Z" } : Jvm.MethodName) prog_14_method_49_code (6 : Nat) (Option.some Jvm.ClassFile.FieldType.boolean)) ∈ wAll := wAll_7 60 rfl rfl
theorem ml_X12_309 : (Jvm.Cond.methodLink "BestPairModel" (309 : Nat) ({ cls := "java/lang/Integer", name := "bitCount", desc := "(I)I" } : Jvm.MethodName)) ∈ wAll := wAll_7 61 rfl rfl
theorem ml_X12_349 : (Jvm.Cond.methodLink "BestPairModel" (349 : Nat) ({ cls := "BestPairModel", name := "visits", desc := "(II)V" } : Jvm.MethodName)) ∈ wAll := wAll_7 62 rfl rfl
theorem im_X12_visits : (Jvm.Cond.instanceMethod ({ cls := "BestPairModel", name := "visits", desc := "(II)V" } : Jvm.MethodName)) ∈ wAll := wAll_7 64 rfl rfl
theorem cd_X12_visits : (Jvm.Cond.code ({ cls := "BestPairModel", name := "visits", desc := "(II)V" } : Jvm.MethodName) prog_14_method_51_code (4 : Nat) (Option.none : Option Jvm.ClassFile.FieldType)) ∈ wAll := wAll_7 65 rfl rfl
theorem ml_X12_335 : (Jvm.Cond.methodLink "BestPairModel" (335 : Nat) ({ cls := "BestPairModel", name := "doorOf", desc := "(II)I" } : Jvm.MethodName)) ∈ wAll := wAll_7 66 rfl rfl
theorem im_X12_doorOf : (Jvm.Cond.instanceMethod ({ cls := "BestPairModel", name := "doorOf", desc := "(II)I" } : Jvm.MethodName)) ∈ wAll := wAll_7 68 rfl rfl
theorem cd_X12_doorOf : (Jvm.Cond.code ({ cls := "BestPairModel", name := "doorOf", desc := "(II)I" } : Jvm.MethodName) prog_14_method_46_code (5 : Nat) (Option.some Jvm.ClassFile.FieldType.int)) ∈ wAll := wAll_7 69 rfl rfl
theorem ml_X12_338 : (Jvm.Cond.methodLink "BestPairModel" (338 : Nat) ({ cls := "BestPairModel", name := "go", desc := "(I)V" } : Jvm.MethodName)) ∈ wAll := wAll_7 70 rfl rfl
theorem im_X12_go : (Jvm.Cond.instanceMethod ({ cls := "BestPairModel", name := "go", desc := "(I)V" } : Jvm.MethodName)) ∈ wAll := wAll_7 72 rfl rfl
theorem cd_X12_go : (Jvm.Cond.code ({ cls := "BestPairModel", name := "go", desc := "(I)V" } : Jvm.MethodName) prog_14_method_45_code (4 : Nat) (Option.none : Option Jvm.ClassFile.FieldType)) ∈ wAll := wAll_7 73 rfl rfl
theorem ml_X12_324 : (Jvm.Cond.methodLink "BestPairModel" (324 : Nat) ({ cls := "BestPairModel", name := "takesOf", desc := "(II)I" } : Jvm.MethodName)) ∈ wAll := wAll_7 74 rfl rfl
theorem im_X12_takesOf : (Jvm.Cond.instanceMethod ({ cls := "BestPairModel", name := "takesOf", desc := "(II)I" } : Jvm.MethodName)) ∈ wAll := wAll_7 76 rfl rfl
theorem cd_X12_takesOf : (Jvm.Cond.code ({ cls := "BestPairModel", name := "takesOf", desc := "(II)I" } : Jvm.MethodName) prog_14_method_44_code (7 : Nat) (Option.some Jvm.ClassFile.FieldType.int)) ∈ wAll := wAll_7 77 rfl rfl
theorem ml_X12_314 : (Jvm.Cond.methodLink "BestPairModel" (314 : Nat) ({ cls := "BestPairModel", name := "liking", desc := "(III)I" } : Jvm.MethodName)) ∈ wAll := wAll_7 78 rfl rfl
theorem im_X12_liking : (Jvm.Cond.instanceMethod ({ cls := "BestPairModel", name := "liking", desc := "(III)I" } : Jvm.MethodName)) ∈ wAll := wAll_7 80 rfl rfl
theorem cd_X12_liking : (Jvm.Cond.code ({ cls := "BestPairModel", name := "liking", desc := "(III)I" } : Jvm.MethodName) prog_14_method_43_code (4 : Nat) (Option.some Jvm.ClassFile.FieldType.int)) ∈ wAll := wAll_7 81 rfl rfl
theorem ml_X12_341 : (Jvm.Cond.methodLink "BestPairModel" (341 : Nat) ({ cls := "java/lang/Math", name := "max", desc := "(II)I" } : Jvm.MethodName)) ∈ wAll := wAll_7 82 rfl rfl
theorem ml_L_70 : (Jvm.Cond.methodLink "BestPairLaw" (70 : Nat) ({ cls := "BestPairModel", name := "tried", desc := "(IIII)I" } : Jvm.MethodName)) ∈ wAll := wAll_7 83 rfl rfl
theorem im_X12_tried : (Jvm.Cond.instanceMethod ({ cls := "BestPairModel", name := "tried", desc := "(IIII)I" } : Jvm.MethodName)) ∈ wAll := wAll_7 84 rfl rfl
theorem se_X12_tried : (Jvm.Cond.selects "BestPairModel" ({ cls := "BestPairModel", name := "tried", desc := "(IIII)I" } : Jvm.MethodName) ({ cls := "BestPairModel", name := "tried", desc := "(IIII)I" } : Jvm.MethodName)) ∈ wAll := wAll_7 85 rfl rfl
theorem cd_X12_tried : (Jvm.Cond.code ({ cls := "BestPairModel", name := "tried", desc := "(IIII)I" } : Jvm.MethodName) prog_14_method_53_code (5 : Nat) (Option.some Jvm.ClassFile.FieldType.int)) ∈ wAll := wAll_7 86 rfl rfl
theorem kc_X12_352 : (Jvm.Cond.constant "BestPairModel" (352 : Nat) (-1000000 : Int32)) ∈ wAll := wAll_7 87 rfl rfl
theorem ml_L_74 : (Jvm.Cond.methodLink "BestPairLaw" (74 : Nat) ({ cls := "BestPairModel", name := "orders", desc := "(IIII)I" } : Jvm.MethodName)) ∈ wAll := wAll_7 88 rfl rfl
theorem im_X12_orders : (Jvm.Cond.instanceMethod ({ cls := "BestPairModel", name := "orders", desc := "(IIII)I" } : Jvm.MethodName)) ∈ wAll := wAll_7 89 rfl rfl
theorem se_X12_orders : (Jvm.Cond.selects "BestPairModel" ({ cls := "BestPairModel", name := "orders", desc := "(IIII)I" } : Jvm.MethodName) ({ cls := "BestPairModel", name := "orders", desc := "(IIII)I" } : Jvm.MethodName)) ∈ wAll := wAll_7 90 rfl rfl
theorem cd_X12_orders : (Jvm.Cond.code ({ cls := "BestPairModel", name := "orders", desc := "(IIII)I" } : Jvm.MethodName) prog_14_method_59_code (7 : Nat) (Option.some Jvm.ClassFile.FieldType.int)) ∈ wAll := wAll_7 91 rfl rfl
theorem ml_X12_360 : (Jvm.Cond.methodLink "BestPairModel" (360 : Nat) ({ cls := "BestPairModel", name := "isGuest", desc := "(III)Z" } : Jvm.MethodName)) ∈ wAll := wAll_7 92 rfl rfl
theorem im_X12_isGuest : (Jvm.Cond.instanceMethod ({ cls := "BestPairModel", name := "isGuest", desc := "(III)Z" } : Jvm.MethodName)) ∈ wAll := wAll_7 94 rfl rfl
theorem cd_X12_isGuest : (Jvm.Cond.code ({ cls := "BestPairModel", name := "isGuest", desc := "(III)Z" } : Jvm.MethodName) prog_14_method_57_code (4 : Nat) (Option.some Jvm.ClassFile.FieldType.boolean)) ∈ wAll := wAll_7 95 rfl rfl
theorem ml_X12_364 : (Jvm.Cond.methodLink "BestPairModel" (364 : Nat) ({ cls := "BestPairModel", name := "isPair", desc := "(I)Z" } : Jvm.MethodName)) ∈ wAll := wAll_7 96 rfl rfl
theorem im_X12_isPair : (Jvm.Cond.instanceMethod ({ cls := "BestPairModel", name := "isPair", desc := "(I)Z" } : Jvm.MethodName)) ∈ wAll := wAll_7 98 rfl rfl
theorem cd_X12_isPair : (Jvm.Cond.code ({ cls := "BestPairModel", name := "isPair", desc := "(I)Z" } : Jvm.MethodName) prog_14_method_58_code (2 : Nat) (Option.some Jvm.ClassFile.FieldType.boolean)) ∈ wAll := wAll_7 99 rfl rfl
theorem ml_X12_367 : (Jvm.Cond.methodLink "BestPairModel" (367 : Nat) ({ cls := "BestPairModel", name := "allWays", desc := "(I)V" } : Jvm.MethodName)) ∈ wAll := wAll_7 100 rfl rfl
theorem im_X12_allWays : (Jvm.Cond.instanceMethod ({ cls := "BestPairModel", name := "allWays", desc := "(I)V" } : Jvm.MethodName)) ∈ wAll := wAll_7 102 rfl rfl
theorem cd_X12_allWays : (Jvm.Cond.code ({ cls := "BestPairModel", name := "allWays", desc := "(I)V" } : Jvm.MethodName) prog_14_method_55_code (2 : Nat) (Option.none : Option Jvm.ClassFile.FieldType)) ∈ wAll := wAll_7 103 rfl rfl
theorem ml_X12_356 : (Jvm.Cond.methodLink "BestPairModel" (356 : Nat) ({ cls := "BestPairModel", name := "layWays", desc := "(III)V" } : Jvm.MethodName)) ∈ wAll := wAll_7 104 rfl rfl
theorem im_X12_layWays : (Jvm.Cond.instanceMethod ({ cls := "BestPairModel", name := "layWays", desc := "(III)V" } : Jvm.MethodName)) ∈ wAll := wAll_7 106 rfl rfl
theorem cd_X12_layWays : (Jvm.Cond.code ({ cls := "BestPairModel", name := "layWays", desc := "(III)V" } : Jvm.MethodName) prog_14_method_54_code (5 : Nat) (Option.none : Option Jvm.ClassFile.FieldType)) ∈ wAll := wAll_7 107 rfl rfl
theorem ml_X12_370 : (Jvm.Cond.methodLink "BestPairModel" (370 : Nat) ({ cls := "BestPairModel", name := "goWay", desc := "(III)V" } : Jvm.MethodName)) ∈ wAll := wAll_7 108 rfl rfl
theorem im_X12_goWay : (Jvm.Cond.instanceMethod ({ cls := "BestPairModel", name := "goWay", desc := "(III)V" } : Jvm.MethodName)) ∈ wAll := wAll_7 110 rfl rfl
theorem cd_X12_goWay : (Jvm.Cond.code ({ cls := "BestPairModel", name := "goWay", desc := "(III)V" } : Jvm.MethodName) prog_14_method_56_code (5 : Nat) (Option.none : Option Jvm.ClassFile.FieldType)) ∈ wAll := wAll_7 111 rfl rfl
theorem ml_L_78 : (Jvm.Cond.methodLink "BestPairLaw" (78 : Nat) ({ cls := "BestPairModel", name := "worst", desc := "(III)I" } : Jvm.MethodName)) ∈ wAll := wAll_7 112 rfl rfl
theorem im_X12_worst : (Jvm.Cond.instanceMethod ({ cls := "BestPairModel", name := "worst", desc := "(III)I" } : Jvm.MethodName)) ∈ wAll := wAll_7 113 rfl rfl
theorem se_X12_worst : (Jvm.Cond.selects "BestPairModel" ({ cls := "BestPairModel", name := "worst", desc := "(III)I" } : Jvm.MethodName) ({ cls := "BestPairModel", name := "worst", desc := "(III)I" } : Jvm.MethodName)) ∈ wAll := wAll_7 114 rfl rfl
theorem cd_X12_worst : (Jvm.Cond.code ({ cls := "BestPairModel", name := "worst", desc := "(III)I" } : Jvm.MethodName) prog_14_method_61_code (6 : Nat) (Option.some Jvm.ClassFile.FieldType.int)) ∈ wAll := wAll_7 115 rfl rfl
theorem ml_X12_373 : (Jvm.Cond.methodLink "BestPairModel" (373 : Nat) ({ cls := "BestPairModel", name := "worthOf", desc := "(I)I" } : Jvm.MethodName)) ∈ wAll := wAll_7 116 rfl rfl
theorem im_X12_worthOf : (Jvm.Cond.instanceMethod ({ cls := "BestPairModel", name := "worthOf", desc := "(I)I" } : Jvm.MethodName)) ∈ wAll := wAll_7 118 rfl rfl
theorem cd_X12_worthOf : (Jvm.Cond.code ({ cls := "BestPairModel", name := "worthOf", desc := "(I)I" } : Jvm.MethodName) prog_14_method_60_code (2 : Nat) (Option.some Jvm.ClassFile.FieldType.int)) ∈ wAll := wAll_7 119 rfl rfl
theorem ml_L_82 : (Jvm.Cond.methodLink "BestPairLaw" (82 : Nat) ({ cls := "BestPairModel", name := "host", desc := "(IIII)I" } : Jvm.MethodName)) ∈ wAll := wAll_7 120 rfl rfl
theorem im_X12_host : (Jvm.Cond.instanceMethod ({ cls := "BestPairModel", name := "host", desc := "(IIII)I" } : Jvm.MethodName)) ∈ wAll := wAll_7 121 rfl rfl
theorem se_X12_host : (Jvm.Cond.selects "BestPairModel" ({ cls := "BestPairModel", name := "host", desc := "(IIII)I" } : Jvm.MethodName) ({ cls := "BestPairModel", name := "host", desc := "(IIII)I" } : Jvm.MethodName)) ∈ wAll := wAll_7 122 rfl rfl
theorem cd_X12_host : (Jvm.Cond.code ({ cls := "BestPairModel", name := "host", desc := "(IIII)I" } : Jvm.MethodName) prog_14_method_63_code (9 : Nat) (Option.some Jvm.ClassFile.FieldType.int)) ∈ wAll := wAll_7 123 rfl rfl
theorem ml_X12_379 : (Jvm.Cond.methodLink "BestPairModel" (379 : Nat) ({ cls := "BestPairModel", name := "hostCounts", desc := "(I)I" } : Jvm.MethodName)) ∈ wAll := wAll_7 124 rfl rfl
theorem im_X12_hostCounts : (Jvm.Cond.instanceMethod ({ cls := "BestPairModel", name := "hostCounts", desc := "(I)I" } : Jvm.MethodName)) ∈ wAll := wAll_7 126 rfl rfl
theorem cd_X12_hostCounts : (Jvm.Cond.code ({ cls := "BestPairModel", name := "hostCounts", desc := "(I)I" } : Jvm.MethodName) prog_14_method_62_code (8 : Nat) (Option.some Jvm.ClassFile.FieldType.int)) ∈ wAll := wAll_7 127 rfl rfl
theorem kc_X12_376 : (Jvm.Cond.constant "BestPairModel" (376 : Nat) (1000000000 : Int32)) ∈ wAll := wAll_7 128 rfl rfl
theorem ml_X12_377 : (Jvm.Cond.methodLink "BestPairModel" (377 : Nat) ({ cls := "java/lang/Math", name := "min", desc := "(II)I" } : Jvm.MethodName)) ∈ wAll := wAll_7 129 rfl rfl
theorem ml_L_86 : (Jvm.Cond.methodLink "BestPairLaw" (86 : Nat) ({ cls := "BestPairModel", name := "hide", desc := "(IIIII)I" } : Jvm.MethodName)) ∈ wAll := wAll_7 130 rfl rfl
theorem im_X12_hide : (Jvm.Cond.instanceMethod ({ cls := "BestPairModel", name := "hide", desc := "(IIIII)I" } : Jvm.MethodName)) ∈ wAll := wAll_7 131 rfl rfl
theorem se_X12_hide : (Jvm.Cond.selects "BestPairModel" ({ cls := "BestPairModel", name := "hide", desc := "(IIIII)I" } : Jvm.MethodName) ({ cls := "BestPairModel", name := "hide", desc := "(IIIII)I" } : Jvm.MethodName)) ∈ wAll := wAll_7 132 rfl rfl
theorem cd_X12_hide : (Jvm.Cond.code ({ cls := "BestPairModel", name := "hide", desc := "(IIIII)I" } : Jvm.MethodName) prog_14_method_64_code (9 : Nat) (Option.some Jvm.ClassFile.FieldType.int)) ∈ wAll := wAll_7 133 rfl rfl
theorem ml_L_90 : (Jvm.Cond.methodLink "BestPairLaw" (90 : Nat) ({ cls := "BestPairModel", name := "rests", desc := "(IIII)I" } : Jvm.MethodName)) ∈ wAll := wAll_7 134 rfl rfl
theorem im_X12_rests : (Jvm.Cond.instanceMethod ({ cls := "BestPairModel", name := "rests", desc := "(IIII)I" } : Jvm.MethodName)) ∈ wAll := wAll_7 135 rfl rfl
theorem se_X12_rests : (Jvm.Cond.selects "BestPairModel" ({ cls := "BestPairModel", name := "rests", desc := "(IIII)I" } : Jvm.MethodName) ({ cls := "BestPairModel", name := "rests", desc := "(IIII)I" } : Jvm.MethodName)) ∈ wAll := wAll_7 136 rfl rfl
theorem cd_X12_rests : (Jvm.Cond.code ({ cls := "BestPairModel", name := "rests", desc := "(IIII)I" } : Jvm.MethodName) prog_14_method_69_code (7 : Nat) (Option.some Jvm.ClassFile.FieldType.int)) ∈ wAll := wAll_7 137 rfl rfl
theorem ml_X12_388 : (Jvm.Cond.methodLink "BestPairModel" (388 : Nat) ({ cls := "BestPairModel", name := "layRounds", desc := "(III)Z" } : Jvm.MethodName)) ∈ wAll := wAll_7 138 rfl rfl
theorem im_X12_layRounds : (Jvm.Cond.instanceMethod ({ cls := "BestPairModel", name := "layRounds", desc := "(III)Z" } : Jvm.MethodName)) ∈ wAll := wAll_7 140 rfl rfl
theorem cd_X12_layRounds : (Jvm.Cond.code ({ cls := "BestPairModel", name := "layRounds", desc := "(III)Z" } : Jvm.MethodName) prog_14_method_68_code (6 : Nat) (Option.some Jvm.ClassFile.FieldType.boolean)) ∈ wAll := wAll_7 141 rfl rfl
theorem ml_X12_391 : (Jvm.Cond.methodLink "BestPairModel" (391 : Nat) ({ cls := "BestPairModel", name := "isRest", desc := "(III)Z" } : Jvm.MethodName)) ∈ wAll := wAll_7 142 rfl rfl
theorem im_X12_isRest : (Jvm.Cond.instanceMethod ({ cls := "BestPairModel", name := "isRest", desc := "(III)Z" } : Jvm.MethodName)) ∈ wAll := wAll_7 144 rfl rfl
theorem cd_X12_isRest : (Jvm.Cond.code ({ cls := "BestPairModel", name := "isRest", desc := "(III)Z" } : Jvm.MethodName) prog_14_method_67_code (9 : Nat) (Option.some Jvm.ClassFile.FieldType.boolean)) ∈ wAll := wAll_7 145 rfl rfl
theorem ml_X12_385 : (Jvm.Cond.methodLink "BestPairModel" (385 : Nat) ({ cls := "BestPairModel", name := "gainOf", desc := "(III)I" } : Jvm.MethodName)) ∈ wAll := wAll_7 146 rfl rfl
theorem im_X12_gainOf : (Jvm.Cond.instanceMethod ({ cls := "BestPairModel", name := "gainOf", desc := "(III)I" } : Jvm.MethodName)) ∈ wAll := wAll_7 148 rfl rfl
theorem cd_X12_gainOf : (Jvm.Cond.code ({ cls := "BestPairModel", name := "gainOf", desc := "(III)I" } : Jvm.MethodName) prog_14_method_66_code (4 : Nat) (Option.some Jvm.ClassFile.FieldType.int)) ∈ wAll := wAll_7 149 rfl rfl
theorem ml_X12_382 : (Jvm.Cond.methodLink "BestPairModel" (382 : Nat) ({ cls := "BestPairModel", name := "orderByRounds", desc := "(I)V" } : Jvm.MethodName)) ∈ wAll := wAll_7 150 rfl rfl
theorem im_X12_orderByRounds : (Jvm.Cond.instanceMethod ({ cls := "BestPairModel", name := "orderByRounds", desc := "(I)V" } : Jvm.MethodName)) ∈ wAll := wAll_7 152 rfl rfl
theorem cd_X12_orderByRounds : (Jvm.Cond.code ({ cls := "BestPairModel", name := "orderByRounds", desc := "(I)V" } : Jvm.MethodName) prog_14_method_65_code (4 : Nat) (Option.none : Option Jvm.ClassFile.FieldType)) ∈ wAll := wAll_7 153 rfl rfl
theorem ml_L_94 : (Jvm.Cond.methodLink "BestPairLaw" (94 : Nat) ({ cls := "BestPairModel", name := "quiet", desc := "(II)I" } : Jvm.MethodName)) ∈ wAll := wAll_7 154 rfl rfl
theorem im_X12_quiet : (Jvm.Cond.instanceMethod ({ cls := "BestPairModel", name := "quiet", desc := "(II)I" } : Jvm.MethodName)) ∈ wAll := wAll_7 155 rfl rfl
theorem se_X12_quiet : (Jvm.Cond.selects "BestPairModel" ({ cls := "BestPairModel", name := "quiet", desc := "(II)I" } : Jvm.MethodName) ({ cls := "BestPairModel", name := "quiet", desc := "(II)I" } : Jvm.MethodName)) ∈ wAll := wAll_7 156 rfl rfl
theorem cd_X12_quiet : (Jvm.Cond.code ({ cls := "BestPairModel", name := "quiet", desc := "(II)I" } : Jvm.MethodName) prog_14_method_71_code (7 : Nat) (Option.some Jvm.ClassFile.FieldType.int)) ∈ wAll := wAll_7 157 rfl rfl
theorem ml_X12_394 : (Jvm.Cond.methodLink "BestPairModel" (394 : Nat) ({ cls := "BestPairModel", name := "hasComing", desc := "(III)I" } : Jvm.MethodName)) ∈ wAll := wAll_7 158 rfl rfl
theorem im_X12_hasComing : (Jvm.Cond.instanceMethod ({ cls := "BestPairModel", name := "hasComing", desc := "(III)I" } : Jvm.MethodName)) ∈ wAll := wAll_7 160 rfl rfl
theorem cd_X12_hasComing : (Jvm.Cond.code ({ cls := "BestPairModel", name := "hasComing", desc := "(III)I" } : Jvm.MethodName) prog_14_method_70_code (6 : Nat) (Option.some Jvm.ClassFile.FieldType.int)) ∈ wAll := wAll_7 161 rfl rfl
theorem ml_L_101 : (Jvm.Cond.methodLink "BestPairLaw" (101 : Nat) ({ cls := "BestPairModel", name := "year", desc := "(IJ)I" } : Jvm.MethodName)) ∈ wAll := wAll_7 162 rfl rfl
theorem im_X12_year : (Jvm.Cond.instanceMethod ({ cls := "BestPairModel", name := "year", desc := "(IJ)I" } : Jvm.MethodName)) ∈ wAll := wAll_7 163 rfl rfl
theorem se_X12_year : (Jvm.Cond.selects "BestPairModel" ({ cls := "BestPairModel", name := "year", desc := "(IJ)I" } : Jvm.MethodName) ({ cls := "BestPairModel", name := "year", desc := "(IJ)I" } : Jvm.MethodName)) ∈ wAll := wAll_7 164 rfl rfl
theorem cd_X12_year : (Jvm.Cond.code ({ cls := "BestPairModel", name := "year", desc := "(IJ)I" } : Jvm.MethodName) prog_14_method_73_code (10 : Nat) (Option.some Jvm.ClassFile.FieldType.int)) ∈ wAll := wAll_7 165 rfl rfl
theorem kl_X12_405 : (Jvm.Cond.constantLong "BestPairModel" (405 : Nat) (60 : Int64)) ∈ wAll := wAll_7 166 rfl rfl
theorem ml_X12_407 : (Jvm.Cond.methodLink "BestPairModel" (407 : Nat) ({ cls := "BestPairModel", name := "draw", desc := "(I)I" } : Jvm.MethodName)) ∈ wAll := wAll_7 167 rfl rfl
theorem im_X12_draw : (Jvm.Cond.instanceMethod ({ cls := "BestPairModel", name := "draw", desc := "(I)I" } : Jvm.MethodName)) ∈ wAll := wAll_7 169 rfl rfl
theorem cd_X12_draw : (Jvm.Cond.code ({ cls := "BestPairModel", name := "draw", desc := "(I)I" } : Jvm.MethodName) prog_14_method_72_code (2 : Nat) (Option.some Jvm.ClassFile.FieldType.int)) ∈ wAll := wAll_7 170 rfl rfl
theorem kl_X12_401 : (Jvm.Cond.constantLong "BestPairModel" (401 : Nat) (6364136223846793005 : Int64)) ∈ wAll := wAll_7 171 rfl rfl
theorem kl_X12_403 : (Jvm.Cond.constantLong "BestPairModel" (403 : Nat) (1442695040888963407 : Int64)) ∈ wAll := wAll_7 172 rfl rfl
theorem ml_L_105 : (Jvm.Cond.methodLink "BestPairLaw" (105 : Nat) ({ cls := "BestPairModel", name := "likely", desc := "(III)I" } : Jvm.MethodName)) ∈ wAll := wAll_7 173 rfl rfl
theorem im_X12_likely : (Jvm.Cond.instanceMethod ({ cls := "BestPairModel", name := "likely", desc := "(III)I" } : Jvm.MethodName)) ∈ wAll := wAll_7 174 rfl rfl
theorem se_X12_likely : (Jvm.Cond.selects "BestPairModel" ({ cls := "BestPairModel", name := "likely", desc := "(III)I" } : Jvm.MethodName) ({ cls := "BestPairModel", name := "likely", desc := "(III)I" } : Jvm.MethodName)) ∈ wAll := wAll_7 175 rfl rfl
theorem cd_X12_likely : (Jvm.Cond.code ({ cls := "BestPairModel", name := "likely", desc := "(III)I" } : Jvm.MethodName) prog_14_method_77_code (9 : Nat) (Option.some Jvm.ClassFile.FieldType.int)) ∈ wAll := wAll_7 176 rfl rfl
theorem ml_X12_413 : (Jvm.Cond.methodLink "BestPairModel" (413 : Nat) ({ cls := "BestPairModel", name := "havingNow", desc := "()I" } : Jvm.MethodName)) ∈ wAll := wAll_7 177 rfl rfl
theorem im_X12_havingNow : (Jvm.Cond.instanceMethod ({ cls := "BestPairModel", name := "havingNow", desc := "()I" } : Jvm.MethodName)) ∈ wAll := wAll_7 179 rfl rfl
theorem cd_X12_havingNow : (Jvm.Cond.code ({ cls := "BestPairModel", name := "havingNow", desc := "()I" } : Jvm.MethodName) prog_14_method_74_code (3 : Nat) (Option.some Jvm.ClassFile.FieldType.int)) ∈ wAll := wAll_7 180 rfl rfl
theorem ml_X12_416 : (Jvm.Cond.methodLink "BestPairModel" (416 : Nat) ({ cls := "BestPairModel", name := "spread", desc := "(II)V" } : Jvm.MethodName)) ∈ wAll := wAll_7 181 rfl rfl
theorem im_X12_spread : (Jvm.Cond.instanceMethod ({ cls := "BestPairModel", name := "spread", desc := "(II)V" } : Jvm.MethodName)) ∈ wAll := wAll_7 183 rfl rfl
theorem cd_X12_spread : (Jvm.Cond.code ({ cls := "BestPairModel", name := "spread", desc := "(II)V" } : Jvm.MethodName) prog_14_method_76_code (7 : Nat) (Option.none : Option Jvm.ClassFile.FieldType)) ∈ wAll := wAll_7 184 rfl rfl
theorem ml_X12_410 : (Jvm.Cond.methodLink "BestPairModel" (410 : Nat) ({ cls := "BestPairModel", name := "have", desc := "(I)V" } : Jvm.MethodName)) ∈ wAll := wAll_7 185 rfl rfl
theorem im_X12_have : (Jvm.Cond.instanceMethod ({ cls := "BestPairModel", name := "have", desc := "(I)V" } : Jvm.MethodName)) ∈ wAll := wAll_7 187 rfl rfl
theorem cd_X12_have : (Jvm.Cond.code ({ cls := "BestPairModel", name := "have", desc := "(I)V" } : Jvm.MethodName) prog_14_method_75_code (4 : Nat) (Option.none : Option Jvm.ClassFile.FieldType)) ∈ wAll := wAll_7 188 rfl rfl
theorem ml_L_109 : (Jvm.Cond.methodLink "BestPairLaw" (109 : Nat) ({ cls := "BestPairModel", name := "cobbler", desc := "(IIIII)I" } : Jvm.MethodName)) ∈ wAll := wAll_7 189 rfl rfl
theorem im_X12_cobbler : (Jvm.Cond.instanceMethod ({ cls := "BestPairModel", name := "cobbler", desc := "(IIIII)I" } : Jvm.MethodName)) ∈ wAll := wAll_7 190 rfl rfl
theorem se_X12_cobbler : (Jvm.Cond.selects "BestPairModel" ({ cls := "BestPairModel", name := "cobbler", desc := "(IIIII)I" } : Jvm.MethodName) ({ cls := "BestPairModel", name := "cobbler", desc := "(IIIII)I" } : Jvm.MethodName)) ∈ wAll := wAll_7 191 rfl rfl
theorem cd_X12_cobbler : (Jvm.Cond.code ({ cls := "BestPairModel", name := "cobbler", desc := "(IIIII)I" } : Jvm.MethodName) prog_14_method_78_code (14 : Nat) (Option.some Jvm.ClassFile.FieldType.int)) ∈ wAll := wAll_7 192 rfl rfl
theorem kl_X12_419 : (Jvm.Cond.constantLong "BestPairModel" (419 : Nat) (99 : Int64)) ∈ wAll := wAll_7 193 rfl rfl
theorem ml_L_113 : (Jvm.Cond.methodLink "BestPairLaw" (113 : Nat) ({ cls := "BestPairModel", name := "odd", desc := "(III)I" } : Jvm.MethodName)) ∈ wAll := wAll_7 194 rfl rfl
theorem im_X12_odd : (Jvm.Cond.instanceMethod ({ cls := "BestPairModel", name := "odd", desc := "(III)I" } : Jvm.MethodName)) ∈ wAll := wAll_7 195 rfl rfl
theorem se_X12_odd : (Jvm.Cond.selects "BestPairModel" ({ cls := "BestPairModel", name := "odd", desc := "(III)I" } : Jvm.MethodName) ({ cls := "BestPairModel", name := "odd", desc := "(III)I" } : Jvm.MethodName)) ∈ wAll := wAll_7 196 rfl rfl
theorem cd_X12_odd : (Jvm.Cond.code ({ cls := "BestPairModel", name := "odd", desc := "(III)I" } : Jvm.MethodName) prog_14_method_81_code (11 : Nat) (Option.some Jvm.ClassFile.FieldType.int)) ∈ wAll := wAll_7 197 rfl rfl
theorem kl_X12_432 : (Jvm.Cond.constantLong "BestPairModel" (432 : Nat) (5 : Int64)) ∈ wAll := wAll_7 198 rfl rfl
theorem ml_X12_421 : (Jvm.Cond.methodLink "BestPairModel" (421 : Nat) ({ cls := "BestPairModel", name := "rowOf", desc := "([II)I" } : Jvm.MethodName)) ∈ wAll := wAll_7 199 rfl rfl
theorem st_X12_rowOf : (Jvm.Cond.static ({ cls := "BestPairModel", name := "rowOf", desc := "([II)I" } : Jvm.MethodName)) ∈ wAll := wAll_7 200 rfl rfl
theorem cd_X12_rowOf : (Jvm.Cond.code ({ cls := "BestPairModel", name := "rowOf", desc := "([II)I" } : Jvm.MethodName) prog_14_method_79_code (4 : Nat) (Option.some Jvm.ClassFile.FieldType.int)) ∈ wAll := wAll_7 201 rfl rfl
theorem ml_X12_428 : (Jvm.Cond.methodLink "BestPairModel" (428 : Nat) ({ cls := "BestPairModel", name := "giveRound", desc := "(IIII[II)V" } : Jvm.MethodName)) ∈ wAll := wAll_7 202 rfl rfl
theorem im_X12_giveRound : (Jvm.Cond.instanceMethod ({ cls := "BestPairModel", name := "giveRound", desc := "(IIII[II)V" } : Jvm.MethodName)) ∈ wAll := wAll_7 204 rfl rfl
theorem cd_X12_giveRound : (Jvm.Cond.code ({ cls := "BestPairModel", name := "giveRound", desc := "(IIII[II)V" } : Jvm.MethodName) prog_14_method_80_code (8 : Nat) (Option.none : Option Jvm.ClassFile.FieldType)) ∈ wAll := wAll_7 205 rfl rfl
theorem ml_L_117 : (Jvm.Cond.methodLink "BestPairLaw" (117 : Nat) ({ cls := "BestPairModel", name := "sight", desc := "(III)I" } : Jvm.MethodName)) ∈ wAll := wAll_7 206 rfl rfl
theorem im_X12_sight : (Jvm.Cond.instanceMethod ({ cls := "BestPairModel", name := "sight", desc := "(III)I" } : Jvm.MethodName)) ∈ wAll := wAll_7 207 rfl rfl
theorem se_X12_sight : (Jvm.Cond.selects "BestPairModel" ({ cls := "BestPairModel", name := "sight", desc := "(III)I" } : Jvm.MethodName) ({ cls := "BestPairModel", name := "sight", desc := "(III)I" } : Jvm.MethodName)) ∈ wAll := wAll_7 208 rfl rfl
theorem cd_X12_sight : (Jvm.Cond.code ({ cls := "BestPairModel", name := "sight", desc := "(III)I" } : Jvm.MethodName) prog_14_method_82_code (4 : Nat) (Option.some Jvm.ClassFile.FieldType.int)) ∈ wAll := wAll_7 209 rfl rfl
theorem kl_X12_434 : (Jvm.Cond.constantLong "BestPairModel" (434 : Nat) (10 : Int64)) ∈ wAll := wAll_7 210 rfl rfl
theorem kl_X12_436 : (Jvm.Cond.constantLong "BestPairModel" (436 : Nat) (13 : Int64)) ∈ wAll := wAll_7 211 rfl rfl
theorem kl_X12_438 : (Jvm.Cond.constantLong "BestPairModel" (438 : Nat) (50 : Int64)) ∈ wAll := wAll_7 212 rfl rfl
theorem ml_L_121 : (Jvm.Cond.methodLink "BestPairLaw" (121 : Nat) ({ cls := "BestPairModel", name := "agree", desc := "()I" } : Jvm.MethodName)) ∈ wAll := wAll_7 213 rfl rfl
theorem im_X12_agree : (Jvm.Cond.instanceMethod ({ cls := "BestPairModel", name := "agree", desc := "()I" } : Jvm.MethodName)) ∈ wAll := wAll_7 214 rfl rfl
theorem se_X12_agree : (Jvm.Cond.selects "BestPairModel" ({ cls := "BestPairModel", name := "agree", desc := "()I" } : Jvm.MethodName) ({ cls := "BestPairModel", name := "agree", desc := "()I" } : Jvm.MethodName)) ∈ wAll := wAll_7 215 rfl rfl
theorem cd_X12_agree : (Jvm.Cond.code ({ cls := "BestPairModel", name := "agree", desc := "()I" } : Jvm.MethodName) prog_14_method_83_code (5 : Nat) (Option.some Jvm.ClassFile.FieldType.int)) ∈ wAll := wAll_7 216 rfl rfl
theorem ml_L_125 : (Jvm.Cond.methodLink "BestPairLaw" (125 : Nat) ({ cls := "BestPairModel", name := "been", desc := "(II)I" } : Jvm.MethodName)) ∈ wAll := wAll_7 217 rfl rfl
theorem im_X12_been : (Jvm.Cond.instanceMethod ({ cls := "BestPairModel", name := "been", desc := "(II)I" } : Jvm.MethodName)) ∈ wAll := wAll_7 218 rfl rfl
theorem se_X12_been : (Jvm.Cond.selects "BestPairModel" ({ cls := "BestPairModel", name := "been", desc := "(II)I" } : Jvm.MethodName) ({ cls := "BestPairModel", name := "been", desc := "(II)I" } : Jvm.MethodName)) ∈ wAll := wAll_7 219 rfl rfl
theorem cd_X12_been : (Jvm.Cond.code ({ cls := "BestPairModel", name := "been", desc := "(II)I" } : Jvm.MethodName) prog_14_method_84_code (5 : Nat) (Option.some Jvm.ClassFile.FieldType.int)) ∈ wAll := wAll_7 220 rfl rfl
theorem ml_L_129 : (Jvm.Cond.methodLink "BestPairLaw" (129 : Nat) ({ cls := "BestPairModel", name := "left", desc := "(III)I" } : Jvm.MethodName)) ∈ wAll := wAll_7 221 rfl rfl
theorem im_X12_left : (Jvm.Cond.instanceMethod ({ cls := "BestPairModel", name := "left", desc := "(III)I" } : Jvm.MethodName)) ∈ wAll := wAll_7 222 rfl rfl
theorem se_X12_left : (Jvm.Cond.selects "BestPairModel" ({ cls := "BestPairModel", name := "left", desc := "(III)I" } : Jvm.MethodName) ({ cls := "BestPairModel", name := "left", desc := "(III)I" } : Jvm.MethodName)) ∈ wAll := wAll_7 223 rfl rfl
theorem cd_X12_left : (Jvm.Cond.code ({ cls := "BestPairModel", name := "left", desc := "(III)I" } : Jvm.MethodName) prog_14_method_85_code (7 : Nat) (Option.some Jvm.ClassFile.FieldType.int)) ∈ wAll := wAll_7 224 rfl rfl
theorem ml_L_133 : (Jvm.Cond.methodLink "BestPairLaw" (133 : Nat) ({ cls := "BestPairModel", name := "swap", desc := "(IIIII)I" } : Jvm.MethodName)) ∈ wAll := wAll_7 225 rfl rfl
theorem im_X12_swap : (Jvm.Cond.instanceMethod ({ cls := "BestPairModel", name := "swap", desc := "(IIIII)I" } : Jvm.MethodName)) ∈ wAll := wAll_7 226 rfl rfl
theorem se_X12_swap : (Jvm.Cond.selects "BestPairModel" ({ cls := "BestPairModel", name := "swap", desc := "(IIIII)I" } : Jvm.MethodName) ({ cls := "BestPairModel", name := "swap", desc := "(IIIII)I" } : Jvm.MethodName)) ∈ wAll := wAll_7 227 rfl rfl
theorem cd_X12_swap : (Jvm.Cond.code ({ cls := "BestPairModel", name := "swap", desc := "(IIIII)I" } : Jvm.MethodName) prog_14_method_86_code (8 : Nat) (Option.some Jvm.ClassFile.FieldType.int)) ∈ wAll := wAll_7 228 rfl rfl
theorem ml_L_137 : (Jvm.Cond.methodLink "BestPairLaw" (137 : Nat) ({ cls := "BestPairModel", name := "dream", desc := "(III)I" } : Jvm.MethodName)) ∈ wAll := wAll_7 229 rfl rfl
theorem im_X12_dream : (Jvm.Cond.instanceMethod ({ cls := "BestPairModel", name := "dream", desc := "(III)I" } : Jvm.MethodName)) ∈ wAll := wAll_7 230 rfl rfl
theorem se_X12_dream : (Jvm.Cond.selects "BestPairModel" ({ cls := "BestPairModel", name := "dream", desc := "(III)I" } : Jvm.MethodName) ({ cls := "BestPairModel", name := "dream", desc := "(III)I" } : Jvm.MethodName)) ∈ wAll := wAll_7 231 rfl rfl
theorem cd_X12_dream : (Jvm.Cond.code ({ cls := "BestPairModel", name := "dream", desc := "(III)I" } : Jvm.MethodName) prog_14_method_88_code (4 : Nat) (Option.some Jvm.ClassFile.FieldType.int)) ∈ wAll := wAll_7 232 rfl rfl
theorem ml_X12_443 : (Jvm.Cond.methodLink "BestPairModel" (443 : Nat) ({ cls := "BestPairModel", name := "goDream", desc := "(IIII)V" } : Jvm.MethodName)) ∈ wAll := wAll_7 233 rfl rfl
theorem im_X12_goDream : (Jvm.Cond.instanceMethod ({ cls := "BestPairModel", name := "goDream", desc := "(IIII)V" } : Jvm.MethodName)) ∈ wAll := wAll_7 235 rfl rfl
theorem cd_X12_goDream : (Jvm.Cond.code ({ cls := "BestPairModel", name := "goDream", desc := "(IIII)V" } : Jvm.MethodName) prog_14_method_87_code (6 : Nat) (Option.none : Option Jvm.ClassFile.FieldType)) ∈ wAll := wAll_7 236 rfl rfl
theorem ml_L_141 : (Jvm.Cond.methodLink "BestPairLaw" (141 : Nat) ({ cls := "BestPairModel", name := "bring", desc := "(II)I" } : Jvm.MethodName)) ∈ wAll := wAll_7 237 rfl rfl
theorem im_X12_bring : (Jvm.Cond.instanceMethod ({ cls := "BestPairModel", name := "bring", desc := "(II)I" } : Jvm.MethodName)) ∈ wAll := wAll_7 238 rfl rfl
theorem se_X12_bring : (Jvm.Cond.selects "BestPairModel" ({ cls := "BestPairModel", name := "bring", desc := "(II)I" } : Jvm.MethodName) ({ cls := "BestPairModel", name := "bring", desc := "(II)I" } : Jvm.MethodName)) ∈ wAll := wAll_7 239 rfl rfl
theorem cd_X12_bring : (Jvm.Cond.code ({ cls := "BestPairModel", name := "bring", desc := "(II)I" } : Jvm.MethodName) prog_14_method_93_code (8 : Nat) (Option.some Jvm.ClassFile.FieldType.int)) ∈ wAll := wAll_8 0 rfl rfl
theorem ml_X12_447 : (Jvm.Cond.methodLink "BestPairModel" (447 : Nat) ({ cls := "BestPairModel", name := "keepHaving", desc := "()V" } : Jvm.MethodName)) ∈ wAll := wAll_8 1 rfl rfl
theorem im_X12_keepHaving : (Jvm.Cond.instanceMethod ({ cls := "BestPairModel", name := "keepHaving", desc := "()V" } : Jvm.MethodName)) ∈ wAll := wAll_8 3 rfl rfl
theorem cd_X12_keepHaving : (Jvm.Cond.code ({ cls := "BestPairModel", name := "keepHaving", desc := "()V" } : Jvm.MethodName) prog_14_method_89_code (2 : Nat) (Option.none : Option Jvm.ClassFile.FieldType)) ∈ wAll := wAll_8 4 rfl rfl
theorem ml_X12_450 : (Jvm.Cond.methodLink "BestPairModel" (450 : Nat) ({ cls := "BestPairModel", name := "hadBy", desc := "(II)I" } : Jvm.MethodName)) ∈ wAll := wAll_8 5 rfl rfl
theorem im_X12_hadBy : (Jvm.Cond.instanceMethod ({ cls := "BestPairModel", name := "hadBy", desc := "(II)I" } : Jvm.MethodName)) ∈ wAll := wAll_8 7 rfl rfl
theorem cd_X12_hadBy : (Jvm.Cond.code ({ cls := "BestPairModel", name := "hadBy", desc := "(II)I" } : Jvm.MethodName) prog_14_method_92_code (5 : Nat) (Option.some Jvm.ClassFile.FieldType.int)) ∈ wAll := wAll_8 8 rfl rfl
theorem ml_X12_453 : (Jvm.Cond.methodLink "BestPairModel" (453 : Nat) ({ cls := "BestPairModel", name := "comes", desc := "(III)Z" } : Jvm.MethodName)) ∈ wAll := wAll_8 9 rfl rfl
theorem im_X12_comes : (Jvm.Cond.instanceMethod ({ cls := "BestPairModel", name := "comes", desc := "(III)Z" } : Jvm.MethodName)) ∈ wAll := wAll_8 11 rfl rfl
theorem cd_X12_comes : (Jvm.Cond.code ({ cls := "BestPairModel", name := "comes", desc := "(III)Z" } : Jvm.MethodName) prog_14_method_91_code (7 : Nat) (Option.some Jvm.ClassFile.FieldType.boolean)) ∈ wAll := wAll_8 12 rfl rfl
theorem ml_X12_456 : (Jvm.Cond.methodLink "BestPairModel" (456 : Nat) ({ cls := "BestPairModel", name := "putBackHaving", desc := "()V" } : Jvm.MethodName)) ∈ wAll := wAll_8 13 rfl rfl
theorem im_X12_putBackHaving : (Jvm.Cond.instanceMethod ({ cls := "BestPairModel", name := "putBackHaving", desc := "()V" } : Jvm.MethodName)) ∈ wAll := wAll_8 15 rfl rfl
theorem cd_X12_putBackHaving : (Jvm.Cond.code ({ cls := "BestPairModel", name := "putBackHaving", desc := "()V" } : Jvm.MethodName) prog_14_method_90_code (2 : Nat) (Option.none : Option Jvm.ClassFile.FieldType)) ∈ wAll := wAll_8 16 rfl rfl
theorem ml_L_145 : (Jvm.Cond.methodLink "BestPairLaw" (145 : Nat) ({ cls := "BestPairModel", name := "steady", desc := "()I" } : Jvm.MethodName)) ∈ wAll := wAll_8 17 rfl rfl
theorem im_X12_steady : (Jvm.Cond.instanceMethod ({ cls := "BestPairModel", name := "steady", desc := "()I" } : Jvm.MethodName)) ∈ wAll := wAll_8 18 rfl rfl
theorem se_X12_steady : (Jvm.Cond.selects "BestPairModel" ({ cls := "BestPairModel", name := "steady", desc := "()I" } : Jvm.MethodName) ({ cls := "BestPairModel", name := "steady", desc := "()I" } : Jvm.MethodName)) ∈ wAll := wAll_8 19 rfl rfl
theorem cd_X12_steady : (Jvm.Cond.code ({ cls := "BestPairModel", name := "steady", desc := "()I" } : Jvm.MethodName) prog_14_method_94_code (4 : Nat) (Option.some Jvm.ClassFile.FieldType.int)) ∈ wAll := wAll_8 20 rfl rfl
theorem ml_L_149 : (Jvm.Cond.methodLink "BestPairLaw" (149 : Nat) ({ cls := "BestPairModel", name := "lost", desc := "()I" } : Jvm.MethodName)) ∈ wAll := wAll_8 21 rfl rfl
theorem im_X12_lost : (Jvm.Cond.instanceMethod ({ cls := "BestPairModel", name := "lost", desc := "()I" } : Jvm.MethodName)) ∈ wAll := wAll_8 22 rfl rfl
theorem se_X12_lost : (Jvm.Cond.selects "BestPairModel" ({ cls := "BestPairModel", name := "lost", desc := "()I" } : Jvm.MethodName) ({ cls := "BestPairModel", name := "lost", desc := "()I" } : Jvm.MethodName)) ∈ wAll := wAll_8 23 rfl rfl
theorem cd_X12_lost : (Jvm.Cond.code ({ cls := "BestPairModel", name := "lost", desc := "()I" } : Jvm.MethodName) prog_14_method_95_code (3 : Nat) (Option.some Jvm.ClassFile.FieldType.int)) ∈ wAll := wAll_8 24 rfl rfl
theorem ml_L_153 : (Jvm.Cond.methodLink "BestPairLaw" (153 : Nat) ({ cls := "BestPairModel", name := "envy", desc := "(I)I" } : Jvm.MethodName)) ∈ wAll := wAll_8 25 rfl rfl
theorem im_X12_envy : (Jvm.Cond.instanceMethod ({ cls := "BestPairModel", name := "envy", desc := "(I)I" } : Jvm.MethodName)) ∈ wAll := wAll_8 26 rfl rfl
theorem se_X12_envy : (Jvm.Cond.selects "BestPairModel" ({ cls := "BestPairModel", name := "envy", desc := "(I)I" } : Jvm.MethodName) ({ cls := "BestPairModel", name := "envy", desc := "(I)I" } : Jvm.MethodName)) ∈ wAll := wAll_8 27 rfl rfl
theorem cd_X12_envy : (Jvm.Cond.code ({ cls := "BestPairModel", name := "envy", desc := "(I)I" } : Jvm.MethodName) prog_14_method_97_code (5 : Nat) (Option.some Jvm.ClassFile.FieldType.int)) ∈ wAll := wAll_8 28 rfl rfl
theorem ml_X12_459 : (Jvm.Cond.methodLink "BestPairModel" (459 : Nat) ({ cls := "BestPairModel", name := "doesEnvy", desc := "(II)Z" } : Jvm.MethodName)) ∈ wAll := wAll_8 29 rfl rfl
theorem im_X12_doesEnvy : (Jvm.Cond.instanceMethod ({ cls := "BestPairModel", name := "doesEnvy", desc := "(II)Z" } : Jvm.MethodName)) ∈ wAll := wAll_8 31 rfl rfl
theorem cd_X12_doesEnvy : (Jvm.Cond.code ({ cls := "BestPairModel", name := "doesEnvy", desc := "(II)Z" } : Jvm.MethodName) prog_14_method_96_code (3 : Nat) (Option.some Jvm.ClassFile.FieldType.boolean)) ∈ wAll := wAll_8 32 rfl rfl
theorem ml_L_157 : (Jvm.Cond.methodLink "BestPairLaw" (157 : Nat) ({ cls := "BestPairModel", name := "image", desc := "()I" } : Jvm.MethodName)) ∈ wAll := wAll_8 33 rfl rfl
theorem im_X12_image : (Jvm.Cond.instanceMethod ({ cls := "BestPairModel", name := "image", desc := "()I" } : Jvm.MethodName)) ∈ wAll := wAll_8 34 rfl rfl
theorem se_X12_image : (Jvm.Cond.selects "BestPairModel" ({ cls := "BestPairModel", name := "image", desc := "()I" } : Jvm.MethodName) ({ cls := "BestPairModel", name := "image", desc := "()I" } : Jvm.MethodName)) ∈ wAll := wAll_8 35 rfl rfl
theorem cd_X12_image : (Jvm.Cond.code ({ cls := "BestPairModel", name := "image", desc := "()I" } : Jvm.MethodName) prog_14_method_98_code (3 : Nat) (Option.some Jvm.ClassFile.FieldType.int)) ∈ wAll := wAll_8 36 rfl rfl
theorem ml_L_161 : (Jvm.Cond.methodLink "BestPairLaw" (161 : Nat) ({ cls := "BestPairModel", name := "back", desc := "()I" } : Jvm.MethodName)) ∈ wAll := wAll_8 37 rfl rfl
theorem im_X12_back : (Jvm.Cond.instanceMethod ({ cls := "BestPairModel", name := "back", desc := "()I" } : Jvm.MethodName)) ∈ wAll := wAll_8 38 rfl rfl
theorem se_X12_back : (Jvm.Cond.selects "BestPairModel" ({ cls := "BestPairModel", name := "back", desc := "()I" } : Jvm.MethodName) ({ cls := "BestPairModel", name := "back", desc := "()I" } : Jvm.MethodName)) ∈ wAll := wAll_8 39 rfl rfl
theorem cd_X12_back : (Jvm.Cond.code ({ cls := "BestPairModel", name := "back", desc := "()I" } : Jvm.MethodName) prog_14_method_99_code (3 : Nat) (Option.some Jvm.ClassFile.FieldType.int)) ∈ wAll := wAll_8 40 rfl rfl
theorem ml_L_165 : (Jvm.Cond.methodLink "BestPairLaw" (165 : Nat) ({ cls := "BestPairModel", name := "count", desc := "(I)I" } : Jvm.MethodName)) ∈ wAll := wAll_8 41 rfl rfl
theorem im_X12_count : (Jvm.Cond.instanceMethod ({ cls := "BestPairModel", name := "count", desc := "(I)I" } : Jvm.MethodName)) ∈ wAll := wAll_8 42 rfl rfl
theorem se_X12_count : (Jvm.Cond.selects "BestPairModel" ({ cls := "BestPairModel", name := "count", desc := "(I)I" } : Jvm.MethodName) ({ cls := "BestPairModel", name := "count", desc := "(I)I" } : Jvm.MethodName)) ∈ wAll := wAll_8 43 rfl rfl
theorem cd_X12_count : (Jvm.Cond.code ({ cls := "BestPairModel", name := "count", desc := "(I)I" } : Jvm.MethodName) prog_14_method_100_code (4 : Nat) (Option.some Jvm.ClassFile.FieldType.int)) ∈ wAll := wAll_8 44 rfl rfl
theorem kl_L_95 : (Jvm.Cond.constantLong "BestPairLaw" (95 : Nat) (4294967295 : Int64)) ∈ wAll := wAll_8 45 rfl rfl
theorem fl_J0_9 : (Jvm.Cond.fieldLink "java/lang/String" (9 : Nat) "java/lang/String" "value" "[B") ∈ wAll := wAll_8 64 rfl rfl
theorem fl_J0_15 : (Jvm.Cond.fieldLink "java/lang/String" (15 : Nat) "java/lang/String" "coder" "B") ∈ wAll := wAll_8 65 rfl rfl
theorem se_X6_readPerson : Cond.selects "BestPair$People" (⟨"BestPair$People", "readPerson", "(LBestPair$Tape;)Z"⟩ : MethodName) (⟨"BestPair$People", "readPerson", "(LBestPair$Tape;)Z"⟩ : MethodName) ∈ wAll := wAll_priv 0 rfl rfl
theorem se_X6_readItem : Cond.selects "BestPair$People" (⟨"BestPair$People", "readItem", "(LBestPair$Tape;I)Z"⟩ : MethodName) (⟨"BestPair$People", "readItem", "(LBestPair$Tape;I)Z"⟩ : MethodName) ∈ wAll := wAll_priv 1 rfl rfl
theorem se_X8_readClause : Cond.selects "BestPair$RuleReader" (⟨"BestPair$RuleReader", "readClause", "()Z"⟩ : MethodName) (⟨"BestPair$RuleReader", "readClause", "()Z"⟩ : MethodName) ∈ wAll := wAll_priv 2 rfl rfl
theorem se_X8_readCondition : Cond.selects "BestPair$RuleReader" (⟨"BestPair$RuleReader", "readCondition", "(I)Z"⟩ : MethodName) (⟨"BestPair$RuleReader", "readCondition", "(I)Z"⟩ : MethodName) ∈ wAll := wAll_priv 3 rfl rfl
theorem se_X8_readTruth : Cond.selects "BestPair$RuleReader" (⟨"BestPair$RuleReader", "readTruth", "(I)Z"⟩ : MethodName) (⟨"BestPair$RuleReader", "readTruth", "(I)Z"⟩ : MethodName) ∈ wAll := wAll_priv 4 rfl rfl
theorem se_X8_readUnit : Cond.selects "BestPair$RuleReader" (⟨"BestPair$RuleReader", "readUnit", "(I)Z"⟩ : MethodName) (⟨"BestPair$RuleReader", "readUnit", "(I)Z"⟩ : MethodName) ∈ wAll := wAll_priv 5 rfl rfl
theorem se_X8_readSum : Cond.selects "BestPair$RuleReader" (⟨"BestPair$RuleReader", "readSum", "(I)Z"⟩ : MethodName) (⟨"BestPair$RuleReader", "readSum", "(I)Z"⟩ : MethodName) ∈ wAll := wAll_priv 6 rfl rfl
theorem se_X8_readTerm : Cond.selects "BestPair$RuleReader" (⟨"BestPair$RuleReader", "readTerm", "(I)Z"⟩ : MethodName) (⟨"BestPair$RuleReader", "readTerm", "(I)Z"⟩ : MethodName) ∈ wAll := wAll_priv 7 rfl rfl
theorem se_X8_readAtom : Cond.selects "BestPair$RuleReader" (⟨"BestPair$RuleReader", "readAtom", "(I)Z"⟩ : MethodName) (⟨"BestPair$RuleReader", "readAtom", "(I)Z"⟩ : MethodName) ∈ wAll := wAll_priv 8 rfl rfl
theorem se_X8_write : Cond.selects "BestPair$RuleReader" (⟨"BestPair$RuleReader", "write", "(I)V"⟩ : MethodName) (⟨"BestPair$RuleReader", "write", "(I)V"⟩ : MethodName) ∈ wAll := wAll_priv 9 rfl rfl
theorem se_X8_readRelation : Cond.selects "BestPair$RuleReader" (⟨"BestPair$RuleReader", "readRelation", "(I)Z"⟩ : MethodName) (⟨"BestPair$RuleReader", "readRelation", "(I)Z"⟩ : MethodName) ∈ wAll := wAll_priv 10 rfl rfl
theorem se_X8_readMoreUnits : Cond.selects "BestPair$RuleReader" (⟨"BestPair$RuleReader", "readMoreUnits", "(I)Z"⟩ : MethodName) (⟨"BestPair$RuleReader", "readMoreUnits", "(I)Z"⟩ : MethodName) ∈ wAll := wAll_priv 11 rfl rfl
theorem se_X8_readMoreTruths : Cond.selects "BestPair$RuleReader" (⟨"BestPair$RuleReader", "readMoreTruths", "(I)Z"⟩ : MethodName) (⟨"BestPair$RuleReader", "readMoreTruths", "(I)Z"⟩ : MethodName) ∈ wAll := wAll_priv 12 rfl rfl
theorem se_X8_readAnswer : Cond.selects "BestPair$RuleReader" (⟨"BestPair$RuleReader", "readAnswer", "()Z"⟩ : MethodName) (⟨"BestPair$RuleReader", "readAnswer", "()Z"⟩ : MethodName) ∈ wAll := wAll_priv 13 rfl rfl
theorem se_X11_takePeople : Cond.selects "BestPair" (⟨"BestPair", "takePeople", "()I"⟩ : MethodName) (⟨"BestPair", "takePeople", "()I"⟩ : MethodName) ∈ wAll := wAll_priv 14 rfl rfl
theorem se_X11_takeRule : Cond.selects "BestPair" (⟨"BestPair", "takeRule", "()I"⟩ : MethodName) (⟨"BestPair", "takeRule", "()I"⟩ : MethodName) ∈ wAll := wAll_priv 15 rfl rfl
theorem se_X11_isKnown : Cond.selects "BestPair" (⟨"BestPair", "isKnown", "(I)Z"⟩ : MethodName) (⟨"BestPair", "isKnown", "(I)Z"⟩ : MethodName) ∈ wAll := wAll_priv 16 rfl rfl
theorem se_X11_isParty : Cond.selects "BestPair" (⟨"BestPair", "isParty", "(II)Z"⟩ : MethodName) (⟨"BestPair", "isParty", "(II)Z"⟩ : MethodName) ∈ wAll := wAll_priv 17 rfl rfl
theorem se_X11_everybody : Cond.selects "BestPair" (⟨"BestPair", "everybody", "()I"⟩ : MethodName) (⟨"BestPair", "everybody", "()I"⟩ : MethodName) ∈ wAll := wAll_priv 18 rfl rfl
theorem se_X11_holdEvening : Cond.selects "BestPair" (⟨"BestPair", "holdEvening", "(II)V"⟩ : MethodName) (⟨"BestPair", "holdEvening", "(II)V"⟩ : MethodName) ∈ wAll := wAll_priv 19 rfl rfl
theorem se_X11_openDoor : Cond.selects "BestPair" (⟨"BestPair", "openDoor", "(II)I"⟩ : MethodName) (⟨"BestPair", "openDoor", "(II)I"⟩ : MethodName) ∈ wAll := wAll_priv 20 rfl rfl
theorem se_X2_forget : Cond.selects "BestPair$Door" (⟨"BestPair$Door", "forget", "()V"⟩ : MethodName) (⟨"BestPair$Door", "forget", "()V"⟩ : MethodName) ∈ wAll := wAll_priv 21 rfl rfl
theorem se_X2_desire : Cond.selects "BestPair$Door" (⟨"BestPair$Door", "desire", "(III)I"⟩ : MethodName) (⟨"BestPair$Door", "desire", "(III)I"⟩ : MethodName) ∈ wAll := wAll_priv 22 rfl rfl
theorem se_X7_endOfClause : Cond.selects "BestPair$Rule" (⟨"BestPair$Rule", "endOfClause", "(I)I"⟩ : MethodName) (⟨"BestPair$Rule", "endOfClause", "(I)I"⟩ : MethodName) ∈ wAll := wAll_priv 23 rfl rfl
theorem se_X11_isGuest : Cond.selects "BestPair" (⟨"BestPair", "isGuest", "(II)Z"⟩ : MethodName) (⟨"BestPair", "isGuest", "(II)Z"⟩ : MethodName) ∈ wAll := wAll_priv 24 rfl rfl
theorem se_X11_isKnownOrNone : Cond.selects "BestPair" (⟨"BestPair", "isKnownOrNone", "(I)Z"⟩ : MethodName) (⟨"BestPair", "isKnownOrNone", "(I)Z"⟩ : MethodName) ∈ wAll := wAll_priv 25 rfl rfl
theorem se_X0_isTold : Cond.selects "BestPair$Contest" (⟨"BestPair$Contest", "isTold", "(II)Z"⟩ : MethodName) (⟨"BestPair$Contest", "isTold", "(II)Z"⟩ : MethodName) ∈ wAll := wAll_priv 26 rfl rfl
theorem se_X0_roundOf : Cond.selects "BestPair$Contest" (⟨"BestPair$Contest", "roundOf", "(II)I"⟩ : MethodName) (⟨"BestPair$Contest", "roundOf", "(II)I"⟩ : MethodName) ∈ wAll := wAll_priv 27 rfl rfl
theorem se_X0_shiftOf : Cond.selects "BestPair$Contest" (⟨"BestPair$Contest", "shiftOf", "(I)I"⟩ : MethodName) (⟨"BestPair$Contest", "shiftOf", "(I)I"⟩ : MethodName) ∈ wAll := wAll_priv 28 rfl rfl
theorem se_X0_rise : Cond.selects "BestPair$Contest" (⟨"BestPair$Contest", "rise", "(III)V"⟩ : MethodName) (⟨"BestPair$Contest", "rise", "(III)V"⟩ : MethodName) ∈ wAll := wAll_priv 29 rfl rfl
theorem se_X0_isRest : Cond.selects "BestPair$Contest" (⟨"BestPair$Contest", "isRest", "(II)Z"⟩ : MethodName) (⟨"BestPair$Contest", "isRest", "(II)Z"⟩ : MethodName) ∈ wAll := wAll_priv 30 rfl rfl
theorem se_X0_come : Cond.selects "BestPair$Contest" (⟨"BestPair$Contest", "come", "(II)V"⟩ : MethodName) (⟨"BestPair$Contest", "come", "(II)V"⟩ : MethodName) ∈ wAll := wAll_priv 31 rfl rfl
theorem se_X0_comesIn : Cond.selects "BestPair$Contest" (⟨"BestPair$Contest", "comesIn", "(IZ)I"⟩ : MethodName) (⟨"BestPair$Contest", "comesIn", "(IZ)I"⟩ : MethodName) ∈ wAll := wAll_priv 32 rfl rfl
theorem se_X0_isQuiet : Cond.selects "BestPair$Contest" (⟨"BestPair$Contest", "isQuiet", "(II)Z"⟩ : MethodName) (⟨"BestPair$Contest", "isQuiet", "(II)Z"⟩ : MethodName) ∈ wAll := wAll_priv 33 rfl rfl
theorem se_X11_draw : Cond.selects "BestPair" (⟨"BestPair", "draw", "(I)I"⟩ : MethodName) (⟨"BestPair", "draw", "(I)I"⟩ : MethodName) ∈ wAll := wAll_priv 34 rfl rfl
theorem se_X11_drawGuests : Cond.selects "BestPair" (⟨"BestPair", "drawGuests", "()I"⟩ : MethodName) (⟨"BestPair", "drawGuests", "()I"⟩ : MethodName) ∈ wAll := wAll_priv 35 rfl rfl
theorem se_X11_drawOrder : Cond.selects "BestPair" (⟨"BestPair", "drawOrder", "(I)V"⟩ : MethodName) (⟨"BestPair", "drawOrder", "(I)V"⟩ : MethodName) ∈ wAll := wAll_priv 36 rfl rfl
theorem se_X4_findKinds : Cond.selects "BestPair$Future" (⟨"BestPair$Future", "findKinds", "()I"⟩ : MethodName) (⟨"BestPair$Future", "findKinds", "()I"⟩ : MethodName) ∈ wAll := wAll_priv 37 rfl rfl
theorem se_X4_pairsAround : Cond.selects "BestPair$Future" (⟨"BestPair$Future", "pairsAround", "()I"⟩ : MethodName) (⟨"BestPair$Future", "pairsAround", "()I"⟩ : MethodName) ∈ wAll := wAll_priv 38 rfl rfl
theorem se_X4_stateBehind : Cond.selects "BestPair$Future" (⟨"BestPair$Future", "stateBehind", "(I)I"⟩ : MethodName) (⟨"BestPair$Future", "stateBehind", "(I)I"⟩ : MethodName) ∈ wAll := wAll_priv 39 rfl rfl
theorem se_X4_addKind : Cond.selects "BestPair$Future" (⟨"BestPair$Future", "addKind", "(I)V"⟩ : MethodName) (⟨"BestPair$Future", "addKind", "(I)V"⟩ : MethodName) ∈ wAll := wAll_priv 40 rfl rfl
theorem se_X3_bestOf : Cond.selects "BestPair$Dream" (⟨"BestPair$Dream", "bestOf", "(III)I"⟩ : MethodName) (⟨"BestPair$Dream", "bestOf", "(III)I"⟩ : MethodName) ∈ wAll := wAll_priv 41 rfl rfl
theorem se_X3_worthWith : Cond.selects "BestPair$Dream" (⟨"BestPair$Dream", "worthWith", "(III)I"⟩ : MethodName) (⟨"BestPair$Dream", "worthWith", "(III)I"⟩ : MethodName) ∈ wAll := wAll_priv 42 rfl rfl
theorem se_X3_lowestOf : Cond.selects "BestPair$Dream" (⟨"BestPair$Dream", "lowestOf", "(III)I"⟩ : MethodName) (⟨"BestPair$Dream", "lowestOf", "(III)I"⟩ : MethodName) ∈ wAll := wAll_priv 43 rfl rfl
theorem se_X4_stateNow : Cond.selects "BestPair$Future" (⟨"BestPair$Future", "stateNow", "()I"⟩ : MethodName) (⟨"BestPair$Future", "stateNow", "()I"⟩ : MethodName) ∈ wAll := wAll_priv 44 rfl rfl
theorem se_X4_reach : Cond.selects "BestPair$Future" (⟨"BestPair$Future", "reach", "(II)V"⟩ : MethodName) (⟨"BestPair$Future", "reach", "(II)V"⟩ : MethodName) ∈ wAll := wAll_priv 45 rfl rfl
theorem se_X4_spread : Cond.selects "BestPair$Future" (⟨"BestPair$Future", "spread", "(II)V"⟩ : MethodName) (⟨"BestPair$Future", "spread", "(II)V"⟩ : MethodName) ∈ wAll := wAll_priv 46 rfl rfl
theorem se_X4_pairsFor : Cond.selects "BestPair$Future" (⟨"BestPair$Future", "pairsFor", "(II)I"⟩ : MethodName) (⟨"BestPair$Future", "pairsFor", "(II)I"⟩ : MethodName) ∈ wAll := wAll_priv 47 rfl rfl
theorem se_X11_hasEnvy : Cond.selects "BestPair" (⟨"BestPair", "hasEnvy", "(II)Z"⟩ : MethodName) (⟨"BestPair", "hasEnvy", "(II)Z"⟩ : MethodName) ∈ wAll := wAll_priv 48 rfl rfl
theorem se_X12_put : Cond.selects "BestPairModel" (⟨"BestPairModel", "put", "(I)V"⟩ : MethodName) (⟨"BestPairModel", "put", "(I)V"⟩ : MethodName) ∈ wAll := wAll_priv 50 rfl rfl
theorem se_X12_readPeople : Cond.selects "BestPairModel" (⟨"BestPairModel", "readPeople", "()V"⟩ : MethodName) (⟨"BestPairModel", "readPeople", "()V"⟩ : MethodName) ∈ wAll := wAll_priv 51 rfl rfl
theorem se_X12_opens : Cond.selects "BestPairModel" (⟨"BestPairModel", "opens", "([BII)V"⟩ : MethodName) (⟨"BestPairModel", "opens", "([BII)V"⟩ : MethodName) ∈ wAll := wAll_priv 52 rfl rfl
theorem se_X12_readPerson : Cond.selects "BestPairModel" (⟨"BestPairModel", "readPerson", "(I)V"⟩ : MethodName) (⟨"BestPairModel", "readPerson", "(I)V"⟩ : MethodName) ∈ wAll := wAll_priv 53 rfl rfl
theorem se_X12_takes : Cond.selects "BestPairModel" (⟨"BestPairModel", "takes", "(I)Z"⟩ : MethodName) (⟨"BestPairModel", "takes", "(I)Z"⟩ : MethodName) ∈ wAll := wAll_priv 54 rfl rfl
theorem se_X12_look : Cond.selects "BestPairModel" (⟨"BestPairModel", "look", "()I"⟩ : MethodName) (⟨"BestPairModel", "look", "()I"⟩ : MethodName) ∈ wAll := wAll_priv 55 rfl rfl
theorem se_X12_fails : Cond.selects "BestPairModel" (⟨"BestPairModel", "fails", "()Z"⟩ : MethodName) (⟨"BestPairModel", "fails", "()Z"⟩ : MethodName) ∈ wAll := wAll_priv 56 rfl rfl
theorem se_X12_readItem : Cond.selects "BestPairModel" (⟨"BestPairModel", "readItem", "(II)V"⟩ : MethodName) (⟨"BestPairModel", "readItem", "(II)V"⟩ : MethodName) ∈ wAll := wAll_priv 57 rfl rfl
theorem se_X12_isDigit : Cond.selects "BestPairModel" (⟨"BestPairModel", "isDigit", "()Z"⟩ : MethodName) (⟨"BestPairModel", "isDigit", "()Z"⟩ : MethodName) ∈ wAll := wAll_priv 58 rfl rfl
theorem se_X12_here : Cond.selects "BestPairModel" (⟨"BestPairModel", "here", "()I"⟩ : MethodName) (⟨"BestPairModel", "here", "()I"⟩ : MethodName) ∈ wAll := wAll_priv 59 rfl rfl
theorem se_X12_goThrough : Cond.selects "BestPairModel" (⟨"BestPairModel", "goThrough", "([BII)V"⟩ : MethodName) (⟨"BestPairModel", "goThrough", "([BII)V"⟩ : MethodName) ∈ wAll := wAll_priv 60 rfl rfl
theorem se_X12_clause : Cond.selects "BestPairModel" (⟨"BestPairModel", "clause", "()V"⟩ : MethodName) (⟨"BestPairModel", "clause", "()V"⟩ : MethodName) ∈ wAll := wAll_priv 61 rfl rfl
theorem se_X12_condition : Cond.selects "BestPairModel" (⟨"BestPairModel", "condition", "(ZI)Z"⟩ : MethodName) (⟨"BestPairModel", "condition", "(ZI)Z"⟩ : MethodName) ∈ wAll := wAll_priv 62 rfl rfl
theorem se_X12_part : Cond.selects "BestPairModel" (⟨"BestPairModel", "part", "(ZI)Z"⟩ : MethodName) (⟨"BestPairModel", "part", "(ZI)Z"⟩ : MethodName) ∈ wAll := wAll_priv 63 rfl rfl
theorem se_X12_compares : Cond.selects "BestPairModel" (⟨"BestPairModel", "compares", "(ZI)Z"⟩ : MethodName) (⟨"BestPairModel", "compares", "(ZI)Z"⟩ : MethodName) ∈ wAll := wAll_priv 64 rfl rfl
theorem se_X12_sum : Cond.selects "BestPairModel" (⟨"BestPairModel", "sum", "()I"⟩ : MethodName) (⟨"BestPairModel", "sum", "()I"⟩ : MethodName) ∈ wAll := wAll_priv 65 rfl rfl
theorem se_X12_term : Cond.selects "BestPairModel" (⟨"BestPairModel", "term", "()I"⟩ : MethodName) (⟨"BestPairModel", "term", "()I"⟩ : MethodName) ∈ wAll := wAll_priv 66 rfl rfl
theorem se_X12_atom : Cond.selects "BestPairModel" (⟨"BestPairModel", "atom", "()I"⟩ : MethodName) (⟨"BestPairModel", "atom", "()I"⟩ : MethodName) ∈ wAll := wAll_priv 67 rfl rfl
theorem se_X12_goesIn : Cond.selects "BestPairModel" (⟨"BestPairModel", "goesIn", "()Z"⟩ : MethodName) (⟨"BestPairModel", "goesIn", "()Z"⟩ : MethodName) ∈ wAll := wAll_priv 68 rfl rfl
theorem se_X12_unit : Cond.selects "BestPairModel" (⟨"BestPairModel", "unit", "()Z"⟩ : MethodName) (⟨"BestPairModel", "unit", "()Z"⟩ : MethodName) ∈ wAll := wAll_priv 69 rfl rfl
theorem se_X12_isPerson : Cond.selects "BestPairModel" (⟨"BestPairModel", "isPerson", "(I)Z"⟩ : MethodName) (⟨"BestPairModel", "isPerson", "(I)Z"⟩ : MethodName) ∈ wAll := wAll_priv 70 rfl rfl
theorem se_X12_partOf : Cond.selects "BestPairModel" (⟨"BestPairModel", "partOf", "(II)I"⟩ : MethodName) (⟨"BestPairModel", "partOf", "(II)I"⟩ : MethodName) ∈ wAll := wAll_priv 71 rfl rfl
theorem se_X12_doesFit : Cond.selects "BestPairModel" (⟨"BestPairModel", "doesFit", "(II)Z"⟩ : MethodName) (⟨"BestPairModel", "doesFit", "(II)Z"⟩ : MethodName) ∈ wAll := wAll_priv 72 rfl rfl
theorem se_X12_isVisit : Cond.selects "BestPairModel" (⟨"BestPairModel", "isVisit", "(II)Z"⟩ : MethodName) (⟨"BestPairModel", "isVisit", "(II)Z"⟩ : MethodName) ∈ wAll := wAll_priv 73 rfl rfl
theorem se_X12_areGuests : Cond.selects "BestPairModel" (⟨"BestPairModel", "areGuests", "(I)Z"⟩ : MethodName) (⟨"BestPairModel", "areGuests", "(I)Z"⟩ : MethodName) ∈ wAll := wAll_priv 74 rfl rfl
theorem se_X12_layOrder : Cond.selects "BestPairModel" (⟨"BestPairModel", "layOrder", "(II)Z"⟩ : MethodName) (⟨"BestPairModel", "layOrder", "(II)Z"⟩ : MethodName) ∈ wAll := wAll_priv 75 rfl rfl
theorem se_X12_visits : Cond.selects "BestPairModel" (⟨"BestPairModel", "visits", "(II)V"⟩ : MethodName) (⟨"BestPairModel", "visits", "(II)V"⟩ : MethodName) ∈ wAll := wAll_priv 76 rfl rfl
theorem se_X12_doorOf : Cond.selects "BestPairModel" (⟨"BestPairModel", "doorOf", "(II)I"⟩ : MethodName) (⟨"BestPairModel", "doorOf", "(II)I"⟩ : MethodName) ∈ wAll := wAll_priv 77 rfl rfl
theorem se_X12_go : Cond.selects "BestPairModel" (⟨"BestPairModel", "go", "(I)V"⟩ : MethodName) (⟨"BestPairModel", "go", "(I)V"⟩ : MethodName) ∈ wAll := wAll_priv 78 rfl rfl
theorem se_X12_takesOf : Cond.selects "BestPairModel" (⟨"BestPairModel", "takesOf", "(II)I"⟩ : MethodName) (⟨"BestPairModel", "takesOf", "(II)I"⟩ : MethodName) ∈ wAll := wAll_priv 79 rfl rfl
theorem se_X12_liking : Cond.selects "BestPairModel" (⟨"BestPairModel", "liking", "(III)I"⟩ : MethodName) (⟨"BestPairModel", "liking", "(III)I"⟩ : MethodName) ∈ wAll := wAll_priv 80 rfl rfl
theorem se_X12_isGuest : Cond.selects "BestPairModel" (⟨"BestPairModel", "isGuest", "(III)Z"⟩ : MethodName) (⟨"BestPairModel", "isGuest", "(III)Z"⟩ : MethodName) ∈ wAll := wAll_priv 81 rfl rfl
theorem se_X12_isPair : Cond.selects "BestPairModel" (⟨"BestPairModel", "isPair", "(I)Z"⟩ : MethodName) (⟨"BestPairModel", "isPair", "(I)Z"⟩ : MethodName) ∈ wAll := wAll_priv 82 rfl rfl
theorem se_X12_allWays : Cond.selects "BestPairModel" (⟨"BestPairModel", "allWays", "(I)V"⟩ : MethodName) (⟨"BestPairModel", "allWays", "(I)V"⟩ : MethodName) ∈ wAll := wAll_priv 83 rfl rfl
theorem se_X12_layWays : Cond.selects "BestPairModel" (⟨"BestPairModel", "layWays", "(III)V"⟩ : MethodName) (⟨"BestPairModel", "layWays", "(III)V"⟩ : MethodName) ∈ wAll := wAll_priv 84 rfl rfl
theorem se_X12_goWay : Cond.selects "BestPairModel" (⟨"BestPairModel", "goWay", "(III)V"⟩ : MethodName) (⟨"BestPairModel", "goWay", "(III)V"⟩ : MethodName) ∈ wAll := wAll_priv 85 rfl rfl
theorem se_X12_worthOf : Cond.selects "BestPairModel" (⟨"BestPairModel", "worthOf", "(I)I"⟩ : MethodName) (⟨"BestPairModel", "worthOf", "(I)I"⟩ : MethodName) ∈ wAll := wAll_priv 86 rfl rfl
theorem se_X12_hostCounts : Cond.selects "BestPairModel" (⟨"BestPairModel", "hostCounts", "(I)I"⟩ : MethodName) (⟨"BestPairModel", "hostCounts", "(I)I"⟩ : MethodName) ∈ wAll := wAll_priv 87 rfl rfl
theorem se_X12_layRounds : Cond.selects "BestPairModel" (⟨"BestPairModel", "layRounds", "(III)Z"⟩ : MethodName) (⟨"BestPairModel", "layRounds", "(III)Z"⟩ : MethodName) ∈ wAll := wAll_priv 88 rfl rfl
theorem se_X12_isRest : Cond.selects "BestPairModel" (⟨"BestPairModel", "isRest", "(III)Z"⟩ : MethodName) (⟨"BestPairModel", "isRest", "(III)Z"⟩ : MethodName) ∈ wAll := wAll_priv 89 rfl rfl
theorem se_X12_gainOf : Cond.selects "BestPairModel" (⟨"BestPairModel", "gainOf", "(III)I"⟩ : MethodName) (⟨"BestPairModel", "gainOf", "(III)I"⟩ : MethodName) ∈ wAll := wAll_priv 90 rfl rfl
theorem se_X12_orderByRounds : Cond.selects "BestPairModel" (⟨"BestPairModel", "orderByRounds", "(I)V"⟩ : MethodName) (⟨"BestPairModel", "orderByRounds", "(I)V"⟩ : MethodName) ∈ wAll := wAll_priv 91 rfl rfl
theorem se_X12_hasComing : Cond.selects "BestPairModel" (⟨"BestPairModel", "hasComing", "(III)I"⟩ : MethodName) (⟨"BestPairModel", "hasComing", "(III)I"⟩ : MethodName) ∈ wAll := wAll_priv 92 rfl rfl
theorem se_X12_draw : Cond.selects "BestPairModel" (⟨"BestPairModel", "draw", "(I)I"⟩ : MethodName) (⟨"BestPairModel", "draw", "(I)I"⟩ : MethodName) ∈ wAll := wAll_priv 93 rfl rfl
theorem se_X12_havingNow : Cond.selects "BestPairModel" (⟨"BestPairModel", "havingNow", "()I"⟩ : MethodName) (⟨"BestPairModel", "havingNow", "()I"⟩ : MethodName) ∈ wAll := wAll_priv 94 rfl rfl
theorem se_X12_spread : Cond.selects "BestPairModel" (⟨"BestPairModel", "spread", "(II)V"⟩ : MethodName) (⟨"BestPairModel", "spread", "(II)V"⟩ : MethodName) ∈ wAll := wAll_priv 95 rfl rfl
theorem se_X12_have : Cond.selects "BestPairModel" (⟨"BestPairModel", "have", "(I)V"⟩ : MethodName) (⟨"BestPairModel", "have", "(I)V"⟩ : MethodName) ∈ wAll := wAll_priv 96 rfl rfl
theorem se_X12_giveRound : Cond.selects "BestPairModel" (⟨"BestPairModel", "giveRound", "(IIII[II)V"⟩ : MethodName) (⟨"BestPairModel", "giveRound", "(IIII[II)V"⟩ : MethodName) ∈ wAll := wAll_priv 97 rfl rfl
theorem se_X12_goDream : Cond.selects "BestPairModel" (⟨"BestPairModel", "goDream", "(IIII)V"⟩ : MethodName) (⟨"BestPairModel", "goDream", "(IIII)V"⟩ : MethodName) ∈ wAll := wAll_priv 98 rfl rfl
theorem se_X12_keepHaving : Cond.selects "BestPairModel" (⟨"BestPairModel", "keepHaving", "()V"⟩ : MethodName) (⟨"BestPairModel", "keepHaving", "()V"⟩ : MethodName) ∈ wAll := wAll_priv 99 rfl rfl
theorem se_X12_hadBy : Cond.selects "BestPairModel" (⟨"BestPairModel", "hadBy", "(II)I"⟩ : MethodName) (⟨"BestPairModel", "hadBy", "(II)I"⟩ : MethodName) ∈ wAll := wAll_priv 100 rfl rfl
theorem se_X12_comes : Cond.selects "BestPairModel" (⟨"BestPairModel", "comes", "(III)Z"⟩ : MethodName) (⟨"BestPairModel", "comes", "(III)Z"⟩ : MethodName) ∈ wAll := wAll_priv 101 rfl rfl
theorem se_X12_putBackHaving : Cond.selects "BestPairModel" (⟨"BestPairModel", "putBackHaving", "()V"⟩ : MethodName) (⟨"BestPairModel", "putBackHaving", "()V"⟩ : MethodName) ∈ wAll := wAll_priv 102 rfl rfl
theorem se_X12_doesEnvy : Cond.selects "BestPairModel" (⟨"BestPairModel", "doesEnvy", "(II)Z"⟩ : MethodName) (⟨"BestPairModel", "doesEnvy", "(II)Z"⟩ : MethodName) ∈ wAll := wAll_priv 103 rfl rfl
theorem iw_X0_p : u_ws RX0 TX0 7 = ([254, 256, 258, 260, 262, 264, 266] : List Nat).filterMap (fun i => tables_1[i]?) := by decide +kernel
theorem iw_X0 : ∀ w ∈ u_ws RX0 TX0 7, w ∈ wAll := fun w h => by
  have hg := List.all_eq_true.mp (show (u_ws RX0 TX0 7).all goodWord = true by decide +kernel) w h
  rw [iw_X0_p] at h
  obtain ⟨i, -, hi⟩ := List.mem_filterMap.mp h
  exact wAll_of i hi hg
theorem iw_X1_p : u_ws RX1 TX1 6 = ([149, 151, 153, 155, 157, 159] : List Nat).filterMap (fun i => tables_1[i]?) := by decide +kernel
theorem iw_X1 : ∀ w ∈ u_ws RX1 TX1 6, w ∈ wAll := fun w h => by
  have hg := List.all_eq_true.mp (show (u_ws RX1 TX1 6).all goodWord = true by decide +kernel) w h
  rw [iw_X1_p] at h
  obtain ⟨i, -, hi⟩ := List.mem_filterMap.mp h
  exact wAll_of i hi hg
theorem iw_X2_p : u_ws RX2 TX2 7 = ([190, 192, 194, 196, 198, 200, 202] : List Nat).filterMap (fun i => tables_1[i]?) := by decide +kernel
theorem iw_X2 : ∀ w ∈ u_ws RX2 TX2 7, w ∈ wAll := fun w h => by
  have hg := List.all_eq_true.mp (show (u_ws RX2 TX2 7).all goodWord = true by decide +kernel) w h
  rw [iw_X2_p] at h
  obtain ⟨i, -, hi⟩ := List.mem_filterMap.mp h
  exact wAll_of i hi hg
theorem iw_X3_p : u_ws RX3 TX3 2 = ([277, 279] : List Nat).filterMap (fun i => tables_1[i]?) := by decide +kernel
theorem iw_X3 : ∀ w ∈ u_ws RX3 TX3 2, w ∈ wAll := fun w h => by
  have hg := List.all_eq_true.mp (show (u_ws RX3 TX3 2).all goodWord = true by decide +kernel) w h
  rw [iw_X3_p] at h
  obtain ⟨i, -, hi⟩ := List.mem_filterMap.mp h
  exact wAll_of i hi hg
theorem iw_X4_p : u_ws RX4 TX4 9 = ([297, 299, 301, 303, 305, 307, 309, 311, 313] : List Nat).filterMap (fun i => tables_1[i]?) := by decide +kernel
theorem iw_X4 : ∀ w ∈ u_ws RX4 TX4 9, w ∈ wAll := fun w h => by
  have hg := List.all_eq_true.mp (show (u_ws RX4 TX4 9).all goodWord = true by decide +kernel) w h
  rw [iw_X4_p] at h
  obtain ⟨i, -, hi⟩ := List.mem_filterMap.mp h
  exact wAll_of i hi hg
theorem iw_X5_p : u_ws RX5 TX5 6 = ([228, 230, 232, 234, 236, 238] : List Nat).filterMap (fun i => tables_1[i]?) := by decide +kernel
theorem iw_X5 : ∀ w ∈ u_ws RX5 TX5 6, w ∈ wAll := fun w h => by
  have hg := List.all_eq_true.mp (show (u_ws RX5 TX5 6).all goodWord = true by decide +kernel) w h
  rw [iw_X5_p] at h
  obtain ⟨i, -, hi⟩ := List.mem_filterMap.mp h
  exact wAll_of i hi hg
theorem iw_X6_p : u_ws RX6 TX6 3 = ([68, 70, 72] : List Nat).filterMap (fun i => tables_1[i]?) := by decide +kernel
theorem iw_X6 : ∀ w ∈ u_ws RX6 TX6 3, w ∈ wAll := fun w h => by
  have hg := List.all_eq_true.mp (show (u_ws RX6 TX6 3).all goodWord = true by decide +kernel) w h
  rw [iw_X6_p] at h
  obtain ⟨i, -, hi⟩ := List.mem_filterMap.mp h
  exact wAll_of i hi hg
theorem iw_X7_p : u_ws RX7 TX7 3 = ([104, 106, 108] : List Nat).filterMap (fun i => tables_1[i]?) := by decide +kernel
theorem iw_X7 : ∀ w ∈ u_ws RX7 TX7 3, w ∈ wAll := fun w h => by
  have hg := List.all_eq_true.mp (show (u_ws RX7 TX7 3).all goodWord = true by decide +kernel) w h
  rw [iw_X7_p] at h
  obtain ⟨i, -, hi⟩ := List.mem_filterMap.mp h
  exact wAll_of i hi hg
theorem iw_X8_p : u_ws RX8 TX8 3 = ([87, 89, 91] : List Nat).filterMap (fun i => tables_1[i]?) := by decide +kernel
theorem iw_X8 : ∀ w ∈ u_ws RX8 TX8 3, w ∈ wAll := fun w h => by
  have hg := List.all_eq_true.mp (show (u_ws RX8 TX8 3).all goodWord = true by decide +kernel) w h
  rw [iw_X8_p] at h
  obtain ⟨i, -, hi⟩ := List.mem_filterMap.mp h
  exact wAll_of i hi hg
theorem iw_X9_p : u_ws RX9 TX9 3 = ([128, 130, 132] : List Nat).filterMap (fun i => tables_1[i]?) := by decide +kernel
theorem iw_X9 : ∀ w ∈ u_ws RX9 TX9 3, w ∈ wAll := fun w h => by
  have hg := List.all_eq_true.mp (show (u_ws RX9 TX9 3).all goodWord = true by decide +kernel) w h
  rw [iw_X9_p] at h
  obtain ⟨i, -, hi⟩ := List.mem_filterMap.mp h
  exact wAll_of i hi hg
theorem iw_X10_p : u_ws RX10 TX10 3 = ([46, 48, 50] : List Nat).filterMap (fun i => tables_1[i]?) := by decide +kernel
theorem iw_X10 : ∀ w ∈ u_ws RX10 TX10 3, w ∈ wAll := fun w h => by
  have hg := List.all_eq_true.mp (show (u_ws RX10 TX10 3).all goodWord = true by decide +kernel) w h
  rw [iw_X10_p] at h
  obtain ⟨i, -, hi⟩ := List.mem_filterMap.mp h
  exact wAll_of i hi hg
theorem iw_X11_p : u_ws RX11 TX11 16 = ([332, 334, 336, 338, 340, 342, 344, 346, 348, 350, 352, 354, 356, 358, 360, 362] : List Nat).filterMap (fun i => tables_1[i]?) := by decide +kernel
theorem iw_X11 : ∀ w ∈ u_ws RX11 TX11 16, w ∈ wAll := fun w h => by
  have hg := List.all_eq_true.mp (show (u_ws RX11 TX11 16).all goodWord = true by decide +kernel) w h
  rw [iw_X11_p] at h
  obtain ⟨i, -, hi⟩ := List.mem_filterMap.mp h
  exact wAll_of i hi hg
theorem iw_X12_p : u_ws RX12 TX12 58 = ([1195, 1197, 1199, 1201, 1203, 1205, 1207, 1209, 1211, 1213, 1215, 1217, 1219, 1221, 1223, 1225, 1227, 1229, 1231, 1233, 1235, 1237, 1239, 1241, 1243, 1245, 1247, 1249, 1251, 1253, 1255, 1257, 1259, 1261, 1263, 1265, 1267, 1269, 1271, 1273, 1275, 1277, 1279, 1281, 1283, 1285, 1287, 1289, 1291, 1293, 1295, 1297, 1299, 1301, 1303, 1305, 1307, 1309] : List Nat).filterMap (fun i => tables_1[i]?) := by decide +kernel
theorem iw_X12 : ∀ w ∈ u_ws RX12 TX12 58, w ∈ wAll := fun w h => by
  have hg := List.all_eq_true.mp (show (u_ws RX12 TX12 58).all goodWord = true by decide +kernel) w h
  rw [iw_X12_p] at h
  obtain ⟨i, -, hi⟩ := List.mem_filterMap.mp h
  exact wAll_of i hi hg
