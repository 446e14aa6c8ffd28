abbrev bMa_max : ByteArray := prog_10_method_65_code
def yMa_max : MethodName := ⟨RMa, "max", "(II)I"⟩
abbrev bMa_min : ByteArray := prog_10_method_69_code
def yMa_min : MethodName := ⟨RMa, "min", "(II)I"⟩
theorem dMa_max_0 : decode bMa_max 0 = .ok (.iload_n 0, 1) := by decide +kernel
theorem dMa_max_1 : decode bMa_max 1 = .ok (.iload_n 1, 1) := by decide +kernel
theorem dMa_max_2 : decode bMa_max 2 = .ok (.if_icmp .lt 7, 3) := by decide +kernel
theorem dMa_max_5 : decode bMa_max 5 = .ok (.iload_n 0, 1) := by decide +kernel
theorem dMa_max_6 : decode bMa_max 6 = .ok (.goto 4, 3) := by decide +kernel
theorem dMa_max_9 : decode bMa_max 9 = .ok (.iload_n 1, 1) := by decide +kernel
theorem dMa_max_10 : decode bMa_max 10 = .ok (.ireturn, 1) := by decide +kernel
abbrev wMa_max : List Cond := Cond.code yMa_max bMa_max 2 (some .int)   :: tbl
theorem kcMa_max : Cond.code yMa_max bMa_max 2 (some .int) ∈ tbl := tb2 11 (by decide +kernel) (by decide +kernel)
theorem ktMa_max : Cond.static yMa_max ∈ tbl := tb2 10 (by decide +kernel) (by decide +kernel)
theorem dMa_min_0 : decode bMa_min 0 = .ok (.iload_n 0, 1) := by decide +kernel
theorem dMa_min_1 : decode bMa_min 1 = .ok (.iload_n 1, 1) := by decide +kernel
theorem dMa_min_2 : decode bMa_min 2 = .ok (.if_icmp .gt 7, 3) := by decide +kernel
theorem dMa_min_5 : decode bMa_min 5 = .ok (.iload_n 0, 1) := by decide +kernel
theorem dMa_min_6 : decode bMa_min 6 = .ok (.goto 4, 3) := by decide +kernel
theorem dMa_min_9 : decode bMa_min 9 = .ok (.iload_n 1, 1) := by decide +kernel
theorem dMa_min_10 : decode bMa_min 10 = .ok (.ireturn, 1) := by decide +kernel
abbrev wMa_min : List Cond := Cond.code yMa_min bMa_min 2 (some .int)   :: tbl
theorem kcMa_min : Cond.code yMa_min bMa_min 2 (some .int) ∈ tbl := tb2 8 (by decide +kernel) (by decide +kernel)
theorem ktMa_min : Cond.static yMa_min ∈ tbl := tb2 7 (by decide +kernel) (by decide +kernel)
abbrev bIn_bitCount : ByteArray := prog_9_method_49_code
def yIn_bitCount : MethodName := ⟨RIn, "bitCount", "(I)I"⟩
theorem dIn_bitCount_0 : decode bIn_bitCount 0 = .ok (.iload_n 0, 1) := by decide +kernel
theorem dIn_bitCount_1 : decode bIn_bitCount 1 = .ok (.iload_n 0, 1) := by decide +kernel
theorem dIn_bitCount_2 : decode bIn_bitCount 2 = .ok (.iconst 1, 1) := by decide +kernel
theorem dIn_bitCount_3 : decode bIn_bitCount 3 = .ok (.iushr, 1) := by decide +kernel
theorem dIn_bitCount_4 : decode bIn_bitCount 4 = .ok (.ldc_w 265, 3) := by decide +kernel
theorem dIn_bitCount_7 : decode bIn_bitCount 7 = .ok (.iand, 1) := by decide +kernel
theorem dIn_bitCount_8 : decode bIn_bitCount 8 = .ok (.isub, 1) := by decide +kernel
theorem dIn_bitCount_9 : decode bIn_bitCount 9 = .ok (.istore_n 0, 1) := by decide +kernel
theorem dIn_bitCount_10 : decode bIn_bitCount 10 = .ok (.iload_n 0, 1) := by decide +kernel
theorem dIn_bitCount_11 : decode bIn_bitCount 11 = .ok (.ldc_w 266, 3) := by decide +kernel
theorem dIn_bitCount_14 : decode bIn_bitCount 14 = .ok (.iand, 1) := by decide +kernel
theorem dIn_bitCount_15 : decode bIn_bitCount 15 = .ok (.iload_n 0, 1) := by decide +kernel
theorem dIn_bitCount_16 : decode bIn_bitCount 16 = .ok (.iconst 2, 1) := by decide +kernel
theorem dIn_bitCount_17 : decode bIn_bitCount 17 = .ok (.iushr, 1) := by decide +kernel
theorem dIn_bitCount_18 : decode bIn_bitCount 18 = .ok (.ldc_w 266, 3) := by decide +kernel
theorem dIn_bitCount_21 : decode bIn_bitCount 21 = .ok (.iand, 1) := by decide +kernel
theorem dIn_bitCount_22 : decode bIn_bitCount 22 = .ok (.iadd, 1) := by decide +kernel
theorem dIn_bitCount_23 : decode bIn_bitCount 23 = .ok (.istore_n 0, 1) := by decide +kernel
theorem dIn_bitCount_24 : decode bIn_bitCount 24 = .ok (.iload_n 0, 1) := by decide +kernel
theorem dIn_bitCount_25 : decode bIn_bitCount 25 = .ok (.iload_n 0, 1) := by decide +kernel
theorem dIn_bitCount_26 : decode bIn_bitCount 26 = .ok (.iconst 4, 1) := by decide +kernel
theorem dIn_bitCount_27 : decode bIn_bitCount 27 = .ok (.iushr, 1) := by decide +kernel
theorem dIn_bitCount_28 : decode bIn_bitCount 28 = .ok (.iadd, 1) := by decide +kernel
theorem dIn_bitCount_29 : decode bIn_bitCount 29 = .ok (.ldc_w 267, 3) := by decide +kernel
theorem dIn_bitCount_32 : decode bIn_bitCount 32 = .ok (.iand, 1) := by decide +kernel
theorem dIn_bitCount_33 : decode bIn_bitCount 33 = .ok (.istore_n 0, 1) := by decide +kernel
theorem dIn_bitCount_34 : decode bIn_bitCount 34 = .ok (.iload_n 0, 1) := by decide +kernel
theorem dIn_bitCount_35 : decode bIn_bitCount 35 = .ok (.iload_n 0, 1) := by decide +kernel
theorem dIn_bitCount_36 : decode bIn_bitCount 36 = .ok (.bipush 8, 2) := by decide +kernel
theorem dIn_bitCount_38 : decode bIn_bitCount 38 = .ok (.iushr, 1) := by decide +kernel
theorem dIn_bitCount_39 : decode bIn_bitCount 39 = .ok (.iadd, 1) := by decide +kernel
theorem dIn_bitCount_40 : decode bIn_bitCount 40 = .ok (.istore_n 0, 1) := by decide +kernel
theorem dIn_bitCount_41 : decode bIn_bitCount 41 = .ok (.iload_n 0, 1) := by decide +kernel
theorem dIn_bitCount_42 : decode bIn_bitCount 42 = .ok (.iload_n 0, 1) := by decide +kernel
theorem dIn_bitCount_43 : decode bIn_bitCount 43 = .ok (.bipush 16, 2) := by decide +kernel
theorem dIn_bitCount_45 : decode bIn_bitCount 45 = .ok (.iushr, 1) := by decide +kernel
theorem dIn_bitCount_46 : decode bIn_bitCount 46 = .ok (.iadd, 1) := by decide +kernel
theorem dIn_bitCount_47 : decode bIn_bitCount 47 = .ok (.istore_n 0, 1) := by decide +kernel
theorem dIn_bitCount_48 : decode bIn_bitCount 48 = .ok (.iload_n 0, 1) := by decide +kernel
theorem dIn_bitCount_49 : decode bIn_bitCount 49 = .ok (.bipush 63, 2) := by decide +kernel
theorem dIn_bitCount_51 : decode bIn_bitCount 51 = .ok (.iand, 1) := by decide +kernel
theorem dIn_bitCount_52 : decode bIn_bitCount 52 = .ok (.ireturn, 1) := by decide +kernel
abbrev wIn_bitCount : List Cond := Cond.code yIn_bitCount bIn_bitCount 1 (some .int)   :: tbl
theorem kcIn_bitCount : Cond.code yIn_bitCount bIn_bitCount 1 (some .int) ∈ tbl := tb2 97 (by decide +kernel) (by decide +kernel)
theorem ktIn_bitCount : Cond.static yIn_bitCount ∈ tbl := tb2 96 (by decide +kernel) (by decide +kernel)
theorem kfIn_265 : Cond.constant RIn 265 (1431655765) ∈ tbl := tb2 98 (by decide +kernel) (by decide +kernel)
theorem kfIn_266 : Cond.constant RIn 266 (858993459) ∈ tbl := tb2 99 (by decide +kernel) (by decide +kernel)
theorem kfIn_267 : Cond.constant RIn 267 (252645135) ∈ tbl := tb2 100 (by decide +kernel) (by decide +kernel)
abbrev bBo_init : ByteArray := prog_2_method_1_code
def yBo_init : MethodName := ⟨RBo, "<init>", "()V"⟩
abbrev bBo_assign : ByteArray := prog_2_method_2_code
def yBo_assign : MethodName := ⟨RBo, "assign", "(IIIII)V"⟩
abbrev bBo_become : ByteArray := prog_2_method_3_code
def yBo_become : MethodName := ⟨RBo, "become", "(LBoxedPages$Box;)V"⟩
abbrev bBo_shrinkToNothing : ByteArray := prog_2_method_4_code
def yBo_shrinkToNothing : MethodName := ⟨RBo, "shrinkToNothing", "()V"⟩
abbrev bBo_widen : ByteArray := prog_2_method_5_code
def yBo_widen : MethodName := ⟨RBo, "widen", "(LBoxedPages$Box;)V"⟩
abbrev bBo_meets : ByteArray := prog_2_method_6_code
def yBo_meets : MethodName := ⟨RBo, "meets", "(LBoxedPages$Box;)Z"⟩
abbrev bBo_holds : ByteArray := prog_2_method_7_code
def yBo_holds : MethodName := ⟨RBo, "holds", "(LBoxedPages$Box;)Z"⟩
abbrev bBo_isSame : ByteArray := prog_2_method_8_code
def yBo_isSame : MethodName := ⟨RBo, "isSame", "(LBoxedPages$Box;)Z"⟩
abbrev bBo_precedes : ByteArray := prog_2_method_9_code
def yBo_precedes : MethodName := ⟨RBo, "precedes", "(LBoxedPages$Box;)Z"⟩
abbrev bBo_area : ByteArray := prog_2_method_10_code
def yBo_area : MethodName := ⟨RBo, "area", "()J"⟩
abbrev bBo_rim : ByteArray := prog_2_method_11_code
def yBo_rim : MethodName := ⟨RBo, "rim", "()J"⟩
abbrev bBo_areaWith : ByteArray := prog_2_method_12_code
def yBo_areaWith : MethodName := ⟨RBo, "areaWith", "(LBoxedPages$Box;)J"⟩
abbrev bBo_squareFrom : ByteArray := prog_2_method_13_code
def yBo_squareFrom : MethodName := ⟨RBo, "squareFrom", "(II)J"⟩
theorem dBo_init_0 : decode bBo_init 0 = .ok (.aload_n 0, 1) := by decide +kernel
theorem dBo_init_1 : decode bBo_init 1 = .ok (.invokespecial 3, 3) := by decide +kernel
theorem dBo_init_4 : decode bBo_init 4 = .ok (.return_, 1) := by decide +kernel
abbrev wBo_init : List Cond := Cond.code yBo_init bBo_init 1 none   :: tbl
theorem kcBo_init : Cond.code yBo_init bBo_init 1 none ∈ tbl := tb1 57 (by decide +kernel) (by decide +kernel)
theorem kiBo_init : Cond.instanceMethod yBo_init ∈ tbl := tb1 56 (by decide +kernel) (by decide +kernel)
theorem dBo_assign_0 : decode bBo_assign 0 = .ok (.aload_n 0, 1) := by decide +kernel
theorem dBo_assign_1 : decode bBo_assign 1 = .ok (.iload_n 1, 1) := by decide +kernel
theorem dBo_assign_2 : decode bBo_assign 2 = .ok (.putfield 9, 3) := by decide +kernel
theorem dBo_assign_5 : decode bBo_assign 5 = .ok (.aload_n 0, 1) := by decide +kernel
theorem dBo_assign_6 : decode bBo_assign 6 = .ok (.iload_n 2, 1) := by decide +kernel
theorem dBo_assign_7 : decode bBo_assign 7 = .ok (.putfield 15, 3) := by decide +kernel
theorem dBo_assign_10 : decode bBo_assign 10 = .ok (.aload_n 0, 1) := by decide +kernel
theorem dBo_assign_11 : decode bBo_assign 11 = .ok (.iload_n 3, 1) := by decide +kernel
theorem dBo_assign_12 : decode bBo_assign 12 = .ok (.putfield 18, 3) := by decide +kernel
theorem dBo_assign_15 : decode bBo_assign 15 = .ok (.aload_n 0, 1) := by decide +kernel
theorem dBo_assign_16 : decode bBo_assign 16 = .ok (.iload 4, 2) := by decide +kernel
theorem dBo_assign_18 : decode bBo_assign 18 = .ok (.putfield 21, 3) := by decide +kernel
theorem dBo_assign_21 : decode bBo_assign 21 = .ok (.aload_n 0, 1) := by decide +kernel
theorem dBo_assign_22 : decode bBo_assign 22 = .ok (.iload 5, 2) := by decide +kernel
theorem dBo_assign_24 : decode bBo_assign 24 = .ok (.putfield 24, 3) := by decide +kernel
theorem dBo_assign_27 : decode bBo_assign 27 = .ok (.return_, 1) := by decide +kernel
abbrev wBo_assign : List Cond := Cond.code yBo_assign bBo_assign 6 none   :: tbl
theorem kcBo_assign : Cond.code yBo_assign bBo_assign 6 none ∈ tbl := tb1 229 (by decide +kernel) (by decide +kernel)
theorem kiBo_assign : Cond.instanceMethod yBo_assign ∈ tbl := tb1 227 (by decide +kernel) (by decide +kernel)
theorem ksBo_assign : Cond.selects yBo_assign.cls yBo_assign yBo_assign ∈ tbl := tb1 228 (by decide +kernel) (by decide +kernel)
theorem dBo_become_0 : decode bBo_become 0 = .ok (.aload_n 0, 1) := by decide +kernel
theorem dBo_become_1 : decode bBo_become 1 = .ok (.aload_n 1, 1) := by decide +kernel
theorem dBo_become_2 : decode bBo_become 2 = .ok (.getfield 9, 3) := by decide +kernel
theorem dBo_become_5 : decode bBo_become 5 = .ok (.putfield 9, 3) := by decide +kernel
theorem dBo_become_8 : decode bBo_become 8 = .ok (.aload_n 0, 1) := by decide +kernel
theorem dBo_become_9 : decode bBo_become 9 = .ok (.aload_n 1, 1) := by decide +kernel
theorem dBo_become_10 : decode bBo_become 10 = .ok (.getfield 15, 3) := by decide +kernel
theorem dBo_become_13 : decode bBo_become 13 = .ok (.putfield 15, 3) := by decide +kernel
theorem dBo_become_16 : decode bBo_become 16 = .ok (.aload_n 0, 1) := by decide +kernel
theorem dBo_become_17 : decode bBo_become 17 = .ok (.aload_n 1, 1) := by decide +kernel
theorem dBo_become_18 : decode bBo_become 18 = .ok (.getfield 18, 3) := by decide +kernel
theorem dBo_become_21 : decode bBo_become 21 = .ok (.putfield 18, 3) := by decide +kernel
theorem dBo_become_24 : decode bBo_become 24 = .ok (.aload_n 0, 1) := by decide +kernel
theorem dBo_become_25 : decode bBo_become 25 = .ok (.aload_n 1, 1) := by decide +kernel
theorem dBo_become_26 : decode bBo_become 26 = .ok (.getfield 21, 3) := by decide +kernel
theorem dBo_become_29 : decode bBo_become 29 = .ok (.putfield 21, 3) := by decide +kernel
theorem dBo_become_32 : decode bBo_become 32 = .ok (.aload_n 0, 1) := by decide +kernel
theorem dBo_become_33 : decode bBo_become 33 = .ok (.aload_n 1, 1) := by decide +kernel
theorem dBo_become_34 : decode bBo_become 34 = .ok (.getfield 24, 3) := by decide +kernel
theorem dBo_become_37 : decode bBo_become 37 = .ok (.putfield 24, 3) := by decide +kernel
theorem dBo_become_40 : decode bBo_become 40 = .ok (.return_, 1) := by decide +kernel
abbrev wBo_become : List Cond := Cond.code yBo_become bBo_become 2 none   :: tbl
theorem kcBo_become : Cond.code yBo_become bBo_become 2 none ∈ tbl := tb2 34 (by decide +kernel) (by decide +kernel)
theorem kiBo_become : Cond.instanceMethod yBo_become ∈ tbl := tb2 32 (by decide +kernel) (by decide +kernel)
theorem ksBo_become : Cond.selects yBo_become.cls yBo_become yBo_become ∈ tbl := tb2 33 (by decide +kernel) (by decide +kernel)
theorem dBo_shrinkToNothing_0 : decode bBo_shrinkToNothing 0 = .ok (.aload_n 0, 1) := by decide +kernel
theorem dBo_shrinkToNothing_1 : decode bBo_shrinkToNothing 1 = .ok (.ldc 27, 2) := by decide +kernel
theorem dBo_shrinkToNothing_3 : decode bBo_shrinkToNothing 3 = .ok (.putfield 9, 3) := by decide +kernel
theorem dBo_shrinkToNothing_6 : decode bBo_shrinkToNothing 6 = .ok (.aload_n 0, 1) := by decide +kernel
theorem dBo_shrinkToNothing_7 : decode bBo_shrinkToNothing 7 = .ok (.ldc 27, 2) := by decide +kernel
theorem dBo_shrinkToNothing_9 : decode bBo_shrinkToNothing 9 = .ok (.putfield 15, 3) := by decide +kernel
theorem dBo_shrinkToNothing_12 : decode bBo_shrinkToNothing 12 = .ok (.aload_n 0, 1) := by decide +kernel
theorem dBo_shrinkToNothing_13 : decode bBo_shrinkToNothing 13 = .ok (.ldc 28, 2) := by decide +kernel
theorem dBo_shrinkToNothing_15 : decode bBo_shrinkToNothing 15 = .ok (.putfield 18, 3) := by decide +kernel
theorem dBo_shrinkToNothing_18 : decode bBo_shrinkToNothing 18 = .ok (.aload_n 0, 1) := by decide +kernel
theorem dBo_shrinkToNothing_19 : decode bBo_shrinkToNothing 19 = .ok (.ldc 28, 2) := by decide +kernel
theorem dBo_shrinkToNothing_21 : decode bBo_shrinkToNothing 21 = .ok (.putfield 21, 3) := by decide +kernel
theorem dBo_shrinkToNothing_24 : decode bBo_shrinkToNothing 24 = .ok (.return_, 1) := by decide +kernel
abbrev wBo_shrinkToNothing : List Cond := Cond.code yBo_shrinkToNothing bBo_shrinkToNothing 1 none   :: tbl
theorem kcBo_shrinkToNothing : Cond.code yBo_shrinkToNothing bBo_shrinkToNothing 1 none ∈ tbl := tb2 58 (by decide +kernel) (by decide +kernel)
theorem kiBo_shrinkToNothing : Cond.instanceMethod yBo_shrinkToNothing ∈ tbl := tb2 56 (by decide +kernel) (by decide +kernel)
theorem ksBo_shrinkToNothing : Cond.selects yBo_shrinkToNothing.cls yBo_shrinkToNothing yBo_shrinkToNothing ∈ tbl := tb2 57 (by decide +kernel) (by decide +kernel)
theorem dBo_widen_0 : decode bBo_widen 0 = .ok (.aload_n 0, 1) := by decide +kernel
theorem dBo_widen_1 : decode bBo_widen 1 = .ok (.aload_n 1, 1) := by decide +kernel
theorem dBo_widen_2 : decode bBo_widen 2 = .ok (.getfield 9, 3) := by decide +kernel
theorem dBo_widen_5 : decode bBo_widen 5 = .ok (.aload_n 0, 1) := by decide +kernel
theorem dBo_widen_6 : decode bBo_widen 6 = .ok (.getfield 9, 3) := by decide +kernel
theorem dBo_widen_9 : decode bBo_widen 9 = .ok (.if_icmp .ge 10, 3) := by decide +kernel
theorem dBo_widen_12 : decode bBo_widen 12 = .ok (.aload_n 1, 1) := by decide +kernel
theorem dBo_widen_13 : decode bBo_widen 13 = .ok (.getfield 9, 3) := by decide +kernel
theorem dBo_widen_16 : decode bBo_widen 16 = .ok (.goto 7, 3) := by decide +kernel
theorem dBo_widen_19 : decode bBo_widen 19 = .ok (.aload_n 0, 1) := by decide +kernel
theorem dBo_widen_20 : decode bBo_widen 20 = .ok (.getfield 9, 3) := by decide +kernel
theorem dBo_widen_23 : decode bBo_widen 23 = .ok (.putfield 9, 3) := by decide +kernel
theorem dBo_widen_26 : decode bBo_widen 26 = .ok (.aload_n 0, 1) := by decide +kernel
theorem dBo_widen_27 : decode bBo_widen 27 = .ok (.aload_n 1, 1) := by decide +kernel
theorem dBo_widen_28 : decode bBo_widen 28 = .ok (.getfield 15, 3) := by decide +kernel
theorem dBo_widen_31 : decode bBo_widen 31 = .ok (.aload_n 0, 1) := by decide +kernel
theorem dBo_widen_32 : decode bBo_widen 32 = .ok (.getfield 15, 3) := by decide +kernel
theorem dBo_widen_35 : decode bBo_widen 35 = .ok (.if_icmp .ge 10, 3) := by decide +kernel
theorem dBo_widen_38 : decode bBo_widen 38 = .ok (.aload_n 1, 1) := by decide +kernel
theorem dBo_widen_39 : decode bBo_widen 39 = .ok (.getfield 15, 3) := by decide +kernel
theorem dBo_widen_42 : decode bBo_widen 42 = .ok (.goto 7, 3) := by decide +kernel
theorem dBo_widen_45 : decode bBo_widen 45 = .ok (.aload_n 0, 1) := by decide +kernel
theorem dBo_widen_46 : decode bBo_widen 46 = .ok (.getfield 15, 3) := by decide +kernel
theorem dBo_widen_49 : decode bBo_widen 49 = .ok (.putfield 15, 3) := by decide +kernel
theorem dBo_widen_52 : decode bBo_widen 52 = .ok (.aload_n 0, 1) := by decide +kernel
theorem dBo_widen_53 : decode bBo_widen 53 = .ok (.aload_n 1, 1) := by decide +kernel
theorem dBo_widen_54 : decode bBo_widen 54 = .ok (.getfield 18, 3) := by decide +kernel
theorem dBo_widen_57 : decode bBo_widen 57 = .ok (.aload_n 0, 1) := by decide +kernel
theorem dBo_widen_58 : decode bBo_widen 58 = .ok (.getfield 18, 3) := by decide +kernel
theorem dBo_widen_61 : decode bBo_widen 61 = .ok (.if_icmp .le 10, 3) := by decide +kernel
theorem dBo_widen_64 : decode bBo_widen 64 = .ok (.aload_n 1, 1) := by decide +kernel
theorem dBo_widen_65 : decode bBo_widen 65 = .ok (.getfield 18, 3) := by decide +kernel
theorem dBo_widen_68 : decode bBo_widen 68 = .ok (.goto 7, 3) := by decide +kernel
theorem dBo_widen_71 : decode bBo_widen 71 = .ok (.aload_n 0, 1) := by decide +kernel
theorem dBo_widen_72 : decode bBo_widen 72 = .ok (.getfield 18, 3) := by decide +kernel
theorem dBo_widen_75 : decode bBo_widen 75 = .ok (.putfield 18, 3) := by decide +kernel
theorem dBo_widen_78 : decode bBo_widen 78 = .ok (.aload_n 0, 1) := by decide +kernel
theorem dBo_widen_79 : decode bBo_widen 79 = .ok (.aload_n 1, 1) := by decide +kernel
theorem dBo_widen_80 : decode bBo_widen 80 = .ok (.getfield 21, 3) := by decide +kernel
theorem dBo_widen_83 : decode bBo_widen 83 = .ok (.aload_n 0, 1) := by decide +kernel
theorem dBo_widen_84 : decode bBo_widen 84 = .ok (.getfield 21, 3) := by decide +kernel
theorem dBo_widen_87 : decode bBo_widen 87 = .ok (.if_icmp .le 10, 3) := by decide +kernel
theorem dBo_widen_90 : decode bBo_widen 90 = .ok (.aload_n 1, 1) := by decide +kernel
theorem dBo_widen_91 : decode bBo_widen 91 = .ok (.getfield 21, 3) := by decide +kernel
theorem dBo_widen_94 : decode bBo_widen 94 = .ok (.goto 7, 3) := by decide +kernel
theorem dBo_widen_97 : decode bBo_widen 97 = .ok (.aload_n 0, 1) := by decide +kernel
theorem dBo_widen_98 : decode bBo_widen 98 = .ok (.getfield 21, 3) := by decide +kernel
theorem dBo_widen_101 : decode bBo_widen 101 = .ok (.putfield 21, 3) := by decide +kernel
theorem dBo_widen_104 : decode bBo_widen 104 = .ok (.return_, 1) := by decide +kernel
abbrev wBo_widen : List Cond := Cond.code yBo_widen bBo_widen 2 none   :: tbl
theorem kcBo_widen : Cond.code yBo_widen bBo_widen 2 none ∈ tbl := tb2 64 (by decide +kernel) (by decide +kernel)
theorem kiBo_widen : Cond.instanceMethod yBo_widen ∈ tbl := tb2 62 (by decide +kernel) (by decide +kernel)
theorem ksBo_widen : Cond.selects yBo_widen.cls yBo_widen yBo_widen ∈ tbl := tb2 63 (by decide +kernel) (by decide +kernel)
theorem dBo_meets_0 : decode bBo_meets 0 = .ok (.aload_n 0, 1) := by decide +kernel
theorem dBo_meets_1 : decode bBo_meets 1 = .ok (.getfield 9, 3) := by decide +kernel
theorem dBo_meets_4 : decode bBo_meets 4 = .ok (.aload_n 1, 1) := by decide +kernel
theorem dBo_meets_5 : decode bBo_meets 5 = .ok (.getfield 18, 3) := by decide +kernel
theorem dBo_meets_8 : decode bBo_meets 8 = .ok (.if_icmp .gt 40, 3) := by decide +kernel
theorem dBo_meets_11 : decode bBo_meets 11 = .ok (.aload_n 1, 1) := by decide +kernel
theorem dBo_meets_12 : decode bBo_meets 12 = .ok (.getfield 9, 3) := by decide +kernel
theorem dBo_meets_15 : decode bBo_meets 15 = .ok (.aload_n 0, 1) := by decide +kernel
theorem dBo_meets_16 : decode bBo_meets 16 = .ok (.getfield 18, 3) := by decide +kernel
theorem dBo_meets_19 : decode bBo_meets 19 = .ok (.if_icmp .gt 29, 3) := by decide +kernel
theorem dBo_meets_22 : decode bBo_meets 22 = .ok (.aload_n 0, 1) := by decide +kernel
theorem dBo_meets_23 : decode bBo_meets 23 = .ok (.getfield 15, 3) := by decide +kernel
theorem dBo_meets_26 : decode bBo_meets 26 = .ok (.aload_n 1, 1) := by decide +kernel
theorem dBo_meets_27 : decode bBo_meets 27 = .ok (.getfield 21, 3) := by decide +kernel
theorem dBo_meets_30 : decode bBo_meets 30 = .ok (.if_icmp .gt 18, 3) := by decide +kernel
theorem dBo_meets_33 : decode bBo_meets 33 = .ok (.aload_n 1, 1) := by decide +kernel
theorem dBo_meets_34 : decode bBo_meets 34 = .ok (.getfield 15, 3) := by decide +kernel
theorem dBo_meets_37 : decode bBo_meets 37 = .ok (.aload_n 0, 1) := by decide +kernel
theorem dBo_meets_38 : decode bBo_meets 38 = .ok (.getfield 21, 3) := by decide +kernel
theorem dBo_meets_41 : decode bBo_meets 41 = .ok (.if_icmp .gt 7, 3) := by decide +kernel
theorem dBo_meets_44 : decode bBo_meets 44 = .ok (.iconst 1, 1) := by decide +kernel
theorem dBo_meets_45 : decode bBo_meets 45 = .ok (.goto 4, 3) := by decide +kernel
theorem dBo_meets_48 : decode bBo_meets 48 = .ok (.iconst 0, 1) := by decide +kernel
theorem dBo_meets_49 : decode bBo_meets 49 = .ok (.ireturn, 1) := by decide +kernel
abbrev wBo_meets : List Cond := Cond.code yBo_meets bBo_meets 2 (some .boolean)   :: tbl
theorem kcBo_meets : Cond.code yBo_meets bBo_meets 2 (some .boolean) ∈ tbl := tb2 210 (by decide +kernel) (by decide +kernel)
theorem kiBo_meets : Cond.instanceMethod yBo_meets ∈ tbl := tb2 208 (by decide +kernel) (by decide +kernel)
theorem ksBo_meets : Cond.selects yBo_meets.cls yBo_meets yBo_meets ∈ tbl := tb2 209 (by decide +kernel) (by decide +kernel)
theorem dBo_holds_0 : decode bBo_holds 0 = .ok (.aload_n 0, 1) := by decide +kernel
theorem dBo_holds_1 : decode bBo_holds 1 = .ok (.getfield 9, 3) := by decide +kernel
theorem dBo_holds_4 : decode bBo_holds 4 = .ok (.aload_n 1, 1) := by decide +kernel
theorem dBo_holds_5 : decode bBo_holds 5 = .ok (.getfield 9, 3) := by decide +kernel
theorem dBo_holds_8 : decode bBo_holds 8 = .ok (.if_icmp .gt 40, 3) := by decide +kernel
theorem dBo_holds_11 : decode bBo_holds 11 = .ok (.aload_n 1, 1) := by decide +kernel
theorem dBo_holds_12 : decode bBo_holds 12 = .ok (.getfield 18, 3) := by decide +kernel
theorem dBo_holds_15 : decode bBo_holds 15 = .ok (.aload_n 0, 1) := by decide +kernel
theorem dBo_holds_16 : decode bBo_holds 16 = .ok (.getfield 18, 3) := by decide +kernel
theorem dBo_holds_19 : decode bBo_holds 19 = .ok (.if_icmp .gt 29, 3) := by decide +kernel
theorem dBo_holds_22 : decode bBo_holds 22 = .ok (.aload_n 0, 1) := by decide +kernel
theorem dBo_holds_23 : decode bBo_holds 23 = .ok (.getfield 15, 3) := by decide +kernel
theorem dBo_holds_26 : decode bBo_holds 26 = .ok (.aload_n 1, 1) := by decide +kernel
theorem dBo_holds_27 : decode bBo_holds 27 = .ok (.getfield 15, 3) := by decide +kernel
theorem dBo_holds_30 : decode bBo_holds 30 = .ok (.if_icmp .gt 18, 3) := by decide +kernel
theorem dBo_holds_33 : decode bBo_holds 33 = .ok (.aload_n 1, 1) := by decide +kernel
theorem dBo_holds_34 : decode bBo_holds 34 = .ok (.getfield 21, 3) := by decide +kernel
theorem dBo_holds_37 : decode bBo_holds 37 = .ok (.aload_n 0, 1) := by decide +kernel
theorem dBo_holds_38 : decode bBo_holds 38 = .ok (.getfield 21, 3) := by decide +kernel
theorem dBo_holds_41 : decode bBo_holds 41 = .ok (.if_icmp .gt 7, 3) := by decide +kernel
theorem dBo_holds_44 : decode bBo_holds 44 = .ok (.iconst 1, 1) := by decide +kernel
theorem dBo_holds_45 : decode bBo_holds 45 = .ok (.goto 4, 3) := by decide +kernel
theorem dBo_holds_48 : decode bBo_holds 48 = .ok (.iconst 0, 1) := by decide +kernel
theorem dBo_holds_49 : decode bBo_holds 49 = .ok (.ireturn, 1) := by decide +kernel
abbrev wBo_holds : List Cond := Cond.code yBo_holds bBo_holds 2 (some .boolean)   :: tbl
theorem kcBo_holds : Cond.code yBo_holds bBo_holds 2 (some .boolean) ∈ tbl := tb2 181 (by decide +kernel) (by decide +kernel)
theorem kiBo_holds : Cond.instanceMethod yBo_holds ∈ tbl := tb2 179 (by decide +kernel) (by decide +kernel)
theorem ksBo_holds : Cond.selects yBo_holds.cls yBo_holds yBo_holds ∈ tbl := tb2 180 (by decide +kernel) (by decide +kernel)
theorem dBo_isSame_0 : decode bBo_isSame 0 = .ok (.aload_n 0, 1) := by decide +kernel
theorem dBo_isSame_1 : decode bBo_isSame 1 = .ok (.getfield 9, 3) := by decide +kernel
theorem dBo_isSame_4 : decode bBo_isSame 4 = .ok (.aload_n 1, 1) := by decide +kernel
theorem dBo_isSame_5 : decode bBo_isSame 5 = .ok (.getfield 9, 3) := by decide +kernel
theorem dBo_isSame_8 : decode bBo_isSame 8 = .ok (.if_icmp .ne 51, 3) := by decide +kernel
theorem dBo_isSame_11 : decode bBo_isSame 11 = .ok (.aload_n 0, 1) := by decide +kernel
theorem dBo_isSame_12 : decode bBo_isSame 12 = .ok (.getfield 15, 3) := by decide +kernel
theorem dBo_isSame_15 : decode bBo_isSame 15 = .ok (.aload_n 1, 1) := by decide +kernel
theorem dBo_isSame_16 : decode bBo_isSame 16 = .ok (.getfield 15, 3) := by decide +kernel
theorem dBo_isSame_19 : decode bBo_isSame 19 = .ok (.if_icmp .ne 40, 3) := by decide +kernel
theorem dBo_isSame_22 : decode bBo_isSame 22 = .ok (.aload_n 0, 1) := by decide +kernel
theorem dBo_isSame_23 : decode bBo_isSame 23 = .ok (.getfield 18, 3) := by decide +kernel
theorem dBo_isSame_26 : decode bBo_isSame 26 = .ok (.aload_n 1, 1) := by decide +kernel
theorem dBo_isSame_27 : decode bBo_isSame 27 = .ok (.getfield 18, 3) := by decide +kernel
theorem dBo_isSame_30 : decode bBo_isSame 30 = .ok (.if_icmp .ne 29, 3) := by decide +kernel
theorem dBo_isSame_33 : decode bBo_isSame 33 = .ok (.aload_n 0, 1) := by decide +kernel
theorem dBo_isSame_34 : decode bBo_isSame 34 = .ok (.getfield 21, 3) := by decide +kernel
theorem dBo_isSame_37 : decode bBo_isSame 37 = .ok (.aload_n 1, 1) := by decide +kernel
theorem dBo_isSame_38 : decode bBo_isSame 38 = .ok (.getfield 21, 3) := by decide +kernel
theorem dBo_isSame_41 : decode bBo_isSame 41 = .ok (.if_icmp .ne 18, 3) := by decide +kernel
theorem dBo_isSame_44 : decode bBo_isSame 44 = .ok (.aload_n 0, 1) := by decide +kernel
theorem dBo_isSame_45 : decode bBo_isSame 45 = .ok (.getfield 24, 3) := by decide +kernel
theorem dBo_isSame_48 : decode bBo_isSame 48 = .ok (.aload_n 1, 1) := by decide +kernel
theorem dBo_isSame_49 : decode bBo_isSame 49 = .ok (.getfield 24, 3) := by decide +kernel
theorem dBo_isSame_52 : decode bBo_isSame 52 = .ok (.if_icmp .ne 7, 3) := by decide +kernel
theorem dBo_isSame_55 : decode bBo_isSame 55 = .ok (.iconst 1, 1) := by decide +kernel
theorem dBo_isSame_56 : decode bBo_isSame 56 = .ok (.goto 4, 3) := by decide +kernel
theorem dBo_isSame_59 : decode bBo_isSame 59 = .ok (.iconst 0, 1) := by decide +kernel
theorem dBo_isSame_60 : decode bBo_isSame 60 = .ok (.ireturn, 1) := by decide +kernel
abbrev wBo_isSame : List Cond := Cond.code yBo_isSame bBo_isSame 2 (some .boolean)   :: tbl
theorem kcBo_isSame : Cond.code yBo_isSame bBo_isSame 2 (some .boolean) ∈ tbl := tb2 68 (by decide +kernel) (by decide +kernel)
theorem kiBo_isSame : Cond.instanceMethod yBo_isSame ∈ tbl := tb2 66 (by decide +kernel) (by decide +kernel)
theorem ksBo_isSame : Cond.selects yBo_isSame.cls yBo_isSame yBo_isSame ∈ tbl := tb2 67 (by decide +kernel) (by decide +kernel)
theorem dBo_precedes_0 : decode bBo_precedes 0 = .ok (.aload_n 0, 1) := by decide +kernel
theorem dBo_precedes_1 : decode bBo_precedes 1 = .ok (.getfield 9, 3) := by decide +kernel
theorem dBo_precedes_4 : decode bBo_precedes 4 = .ok (.aload_n 1, 1) := by decide +kernel
theorem dBo_precedes_5 : decode bBo_precedes 5 = .ok (.getfield 9, 3) := by decide +kernel
theorem dBo_precedes_8 : decode bBo_precedes 8 = .ok (.if_icmp .eq 20, 3) := by decide +kernel
theorem dBo_precedes_11 : decode bBo_precedes 11 = .ok (.aload_n 0, 1) := by decide +kernel
theorem dBo_precedes_12 : decode bBo_precedes 12 = .ok (.getfield 9, 3) := by decide +kernel
theorem dBo_precedes_15 : decode bBo_precedes 15 = .ok (.aload_n 1, 1) := by decide +kernel
theorem dBo_precedes_16 : decode bBo_precedes 16 = .ok (.getfield 9, 3) := by decide +kernel
theorem dBo_precedes_19 : decode bBo_precedes 19 = .ok (.if_icmp .ge 7, 3) := by decide +kernel
theorem dBo_precedes_22 : decode bBo_precedes 22 = .ok (.iconst 1, 1) := by decide +kernel
theorem dBo_precedes_23 : decode bBo_precedes 23 = .ok (.goto 4, 3) := by decide +kernel
theorem dBo_precedes_26 : decode bBo_precedes 26 = .ok (.iconst 0, 1) := by decide +kernel
theorem dBo_precedes_27 : decode bBo_precedes 27 = .ok (.ireturn, 1) := by decide +kernel
theorem dBo_precedes_28 : decode bBo_precedes 28 = .ok (.aload_n 0, 1) := by decide +kernel
theorem dBo_precedes_29 : decode bBo_precedes 29 = .ok (.getfield 15, 3) := by decide +kernel
theorem dBo_precedes_32 : decode bBo_precedes 32 = .ok (.aload_n 1, 1) := by decide +kernel
theorem dBo_precedes_33 : decode bBo_precedes 33 = .ok (.getfield 15, 3) := by decide +kernel
theorem dBo_precedes_36 : decode bBo_precedes 36 = .ok (.if_icmp .eq 20, 3) := by decide +kernel
theorem dBo_precedes_39 : decode bBo_precedes 39 = .ok (.aload_n 0, 1) := by decide +kernel
theorem dBo_precedes_40 : decode bBo_precedes 40 = .ok (.getfield 15, 3) := by decide +kernel
theorem dBo_precedes_43 : decode bBo_precedes 43 = .ok (.aload_n 1, 1) := by decide +kernel
theorem dBo_precedes_44 : decode bBo_precedes 44 = .ok (.getfield 15, 3) := by decide +kernel
theorem dBo_precedes_47 : decode bBo_precedes 47 = .ok (.if_icmp .ge 7, 3) := by decide +kernel
theorem dBo_precedes_50 : decode bBo_precedes 50 = .ok (.iconst 1, 1) := by decide +kernel
theorem dBo_precedes_51 : decode bBo_precedes 51 = .ok (.goto 4, 3) := by decide +kernel
theorem dBo_precedes_54 : decode bBo_precedes 54 = .ok (.iconst 0, 1) := by decide +kernel
theorem dBo_precedes_55 : decode bBo_precedes 55 = .ok (.ireturn, 1) := by decide +kernel
theorem dBo_precedes_56 : decode bBo_precedes 56 = .ok (.aload_n 0, 1) := by decide +kernel
theorem dBo_precedes_57 : decode bBo_precedes 57 = .ok (.getfield 18, 3) := by decide +kernel
theorem dBo_precedes_60 : decode bBo_precedes 60 = .ok (.aload_n 1, 1) := by decide +kernel
theorem dBo_precedes_61 : decode bBo_precedes 61 = .ok (.getfield 18, 3) := by decide +kernel
theorem dBo_precedes_64 : decode bBo_precedes 64 = .ok (.if_icmp .eq 20, 3) := by decide +kernel
theorem dBo_precedes_67 : decode bBo_precedes 67 = .ok (.aload_n 0, 1) := by decide +kernel
theorem dBo_precedes_68 : decode bBo_precedes 68 = .ok (.getfield 18, 3) := by decide +kernel
theorem dBo_precedes_71 : decode bBo_precedes 71 = .ok (.aload_n 1, 1) := by decide +kernel
theorem dBo_precedes_72 : decode bBo_precedes 72 = .ok (.getfield 18, 3) := by decide +kernel
theorem dBo_precedes_75 : decode bBo_precedes 75 = .ok (.if_icmp .ge 7, 3) := by decide +kernel
theorem dBo_precedes_78 : decode bBo_precedes 78 = .ok (.iconst 1, 1) := by decide +kernel
theorem dBo_precedes_79 : decode bBo_precedes 79 = .ok (.goto 4, 3) := by decide +kernel
theorem dBo_precedes_82 : decode bBo_precedes 82 = .ok (.iconst 0, 1) := by decide +kernel
theorem dBo_precedes_83 : decode bBo_precedes 83 = .ok (.ireturn, 1) := by decide +kernel
theorem dBo_precedes_84 : decode bBo_precedes 84 = .ok (.aload_n 0, 1) := by decide +kernel
theorem dBo_precedes_85 : decode bBo_precedes 85 = .ok (.getfield 21, 3) := by decide +kernel
theorem dBo_precedes_88 : decode bBo_precedes 88 = .ok (.aload_n 1, 1) := by decide +kernel
theorem dBo_precedes_89 : decode bBo_precedes 89 = .ok (.getfield 21, 3) := by decide +kernel
theorem dBo_precedes_92 : decode bBo_precedes 92 = .ok (.if_icmp .eq 20, 3) := by decide +kernel
theorem dBo_precedes_95 : decode bBo_precedes 95 = .ok (.aload_n 0, 1) := by decide +kernel
theorem dBo_precedes_96 : decode bBo_precedes 96 = .ok (.getfield 21, 3) := by decide +kernel
theorem dBo_precedes_99 : decode bBo_precedes 99 = .ok (.aload_n 1, 1) := by decide +kernel
theorem dBo_precedes_100 : decode bBo_precedes 100 = .ok (.getfield 21, 3) := by decide +kernel
theorem dBo_precedes_103 : decode bBo_precedes 103 = .ok (.if_icmp .ge 7, 3) := by decide +kernel
theorem dBo_precedes_106 : decode bBo_precedes 106 = .ok (.iconst 1, 1) := by decide +kernel
theorem dBo_precedes_107 : decode bBo_precedes 107 = .ok (.goto 4, 3) := by decide +kernel
theorem dBo_precedes_110 : decode bBo_precedes 110 = .ok (.iconst 0, 1) := by decide +kernel
theorem dBo_precedes_111 : decode bBo_precedes 111 = .ok (.ireturn, 1) := by decide +kernel
theorem dBo_precedes_112 : decode bBo_precedes 112 = .ok (.aload_n 0, 1) := by decide +kernel
theorem dBo_precedes_113 : decode bBo_precedes 113 = .ok (.getfield 24, 3) := by decide +kernel
theorem dBo_precedes_116 : decode bBo_precedes 116 = .ok (.aload_n 1, 1) := by decide +kernel
theorem dBo_precedes_117 : decode bBo_precedes 117 = .ok (.getfield 24, 3) := by decide +kernel
theorem dBo_precedes_120 : decode bBo_precedes 120 = .ok (.if_icmp .ge 7, 3) := by decide +kernel
theorem dBo_precedes_123 : decode bBo_precedes 123 = .ok (.iconst 1, 1) := by decide +kernel
theorem dBo_precedes_124 : decode bBo_precedes 124 = .ok (.goto 4, 3) := by decide +kernel
theorem dBo_precedes_127 : decode bBo_precedes 127 = .ok (.iconst 0, 1) := by decide +kernel
theorem dBo_precedes_128 : decode bBo_precedes 128 = .ok (.ireturn, 1) := by decide +kernel
abbrev wBo_precedes : List Cond := Cond.code yBo_precedes bBo_precedes 2 (some .boolean)   :: tbl
theorem kcBo_precedes : Cond.code yBo_precedes bBo_precedes 2 (some .boolean) ∈ tbl := tb2 218 (by decide +kernel) (by decide +kernel)
theorem kiBo_precedes : Cond.instanceMethod yBo_precedes ∈ tbl := tb2 216 (by decide +kernel) (by decide +kernel)
theorem ksBo_precedes : Cond.selects yBo_precedes.cls yBo_precedes yBo_precedes ∈ tbl := tb2 217 (by decide +kernel) (by decide +kernel)
theorem dBo_area_0 : decode bBo_area 0 = .ok (.aload_n 0, 1) := by decide +kernel
theorem dBo_area_1 : decode bBo_area 1 = .ok (.getfield 18, 3) := by decide +kernel
theorem dBo_area_4 : decode bBo_area 4 = .ok (.i2l, 1) := by decide +kernel
theorem dBo_area_5 : decode bBo_area 5 = .ok (.aload_n 0, 1) := by decide +kernel
theorem dBo_area_6 : decode bBo_area 6 = .ok (.getfield 9, 3) := by decide +kernel
theorem dBo_area_9 : decode bBo_area 9 = .ok (.i2l, 1) := by decide +kernel
theorem dBo_area_10 : decode bBo_area 10 = .ok (.lsub, 1) := by decide +kernel
theorem dBo_area_11 : decode bBo_area 11 = .ok (.aload_n 0, 1) := by decide +kernel
theorem dBo_area_12 : decode bBo_area 12 = .ok (.getfield 21, 3) := by decide +kernel
theorem dBo_area_15 : decode bBo_area 15 = .ok (.i2l, 1) := by decide +kernel
theorem dBo_area_16 : decode bBo_area 16 = .ok (.aload_n 0, 1) := by decide +kernel
theorem dBo_area_17 : decode bBo_area 17 = .ok (.getfield 15, 3) := by decide +kernel
theorem dBo_area_20 : decode bBo_area 20 = .ok (.i2l, 1) := by decide +kernel
theorem dBo_area_21 : decode bBo_area 21 = .ok (.lsub, 1) := by decide +kernel
theorem dBo_area_22 : decode bBo_area 22 = .ok (.lmul, 1) := by decide +kernel
theorem dBo_area_23 : decode bBo_area 23 = .ok (.lreturn, 1) := by decide +kernel
abbrev wBo_area : List Cond := Cond.code yBo_area bBo_area 1 (some .long)   :: tbl
theorem kcBo_area : Cond.code yBo_area bBo_area 1 (some .long) ∈ tbl := tb2 20 (by decide +kernel) (by decide +kernel)
theorem kiBo_area : Cond.instanceMethod yBo_area ∈ tbl := tb2 18 (by decide +kernel) (by decide +kernel)
theorem ksBo_area : Cond.selects yBo_area.cls yBo_area yBo_area ∈ tbl := tb2 19 (by decide +kernel) (by decide +kernel)
theorem dBo_rim_0 : decode bBo_rim 0 = .ok (.aload_n 0, 1) := by decide +kernel
theorem dBo_rim_1 : decode bBo_rim 1 = .ok (.getfield 18, 3) := by decide +kernel
theorem dBo_rim_4 : decode bBo_rim 4 = .ok (.i2l, 1) := by decide +kernel
theorem dBo_rim_5 : decode bBo_rim 5 = .ok (.aload_n 0, 1) := by decide +kernel
theorem dBo_rim_6 : decode bBo_rim 6 = .ok (.getfield 9, 3) := by decide +kernel
theorem dBo_rim_9 : decode bBo_rim 9 = .ok (.i2l, 1) := by decide +kernel
theorem dBo_rim_10 : decode bBo_rim 10 = .ok (.lsub, 1) := by decide +kernel
theorem dBo_rim_11 : decode bBo_rim 11 = .ok (.aload_n 0, 1) := by decide +kernel
theorem dBo_rim_12 : decode bBo_rim 12 = .ok (.getfield 21, 3) := by decide +kernel
theorem dBo_rim_15 : decode bBo_rim 15 = .ok (.i2l, 1) := by decide +kernel
theorem dBo_rim_16 : decode bBo_rim 16 = .ok (.aload_n 0, 1) := by decide +kernel
theorem dBo_rim_17 : decode bBo_rim 17 = .ok (.getfield 15, 3) := by decide +kernel
theorem dBo_rim_20 : decode bBo_rim 20 = .ok (.i2l, 1) := by decide +kernel
theorem dBo_rim_21 : decode bBo_rim 21 = .ok (.lsub, 1) := by decide +kernel
theorem dBo_rim_22 : decode bBo_rim 22 = .ok (.ladd, 1) := by decide +kernel
theorem dBo_rim_23 : decode bBo_rim 23 = .ok (.lreturn, 1) := by decide +kernel
abbrev wBo_rim : List Cond := Cond.code yBo_rim bBo_rim 1 (some .long)   :: tbl
theorem kcBo_rim : Cond.code yBo_rim bBo_rim 1 (some .long) ∈ tbl := tb2 105 (by decide +kernel) (by decide +kernel)
theorem kiBo_rim : Cond.instanceMethod yBo_rim ∈ tbl := tb2 103 (by decide +kernel) (by decide +kernel)
theorem ksBo_rim : Cond.selects yBo_rim.cls yBo_rim yBo_rim ∈ tbl := tb2 104 (by decide +kernel) (by decide +kernel)
theorem dBo_areaWith_0 : decode bBo_areaWith 0 = .ok (.aload_n 0, 1) := by decide +kernel
theorem dBo_areaWith_1 : decode bBo_areaWith 1 = .ok (.getfield 18, 3) := by decide +kernel
theorem dBo_areaWith_4 : decode bBo_areaWith 4 = .ok (.aload_n 1, 1) := by decide +kernel
theorem dBo_areaWith_5 : decode bBo_areaWith 5 = .ok (.getfield 18, 3) := by decide +kernel
theorem dBo_areaWith_8 : decode bBo_areaWith 8 = .ok (.invokestatic 29, 3) := by decide +kernel
theorem dBo_areaWith_11 : decode bBo_areaWith 11 = .ok (.i2l, 1) := by decide +kernel
theorem dBo_areaWith_12 : decode bBo_areaWith 12 = .ok (.aload_n 0, 1) := by decide +kernel
theorem dBo_areaWith_13 : decode bBo_areaWith 13 = .ok (.getfield 9, 3) := by decide +kernel
theorem dBo_areaWith_16 : decode bBo_areaWith 16 = .ok (.aload_n 1, 1) := by decide +kernel
theorem dBo_areaWith_17 : decode bBo_areaWith 17 = .ok (.getfield 9, 3) := by decide +kernel
theorem dBo_areaWith_20 : decode bBo_areaWith 20 = .ok (.invokestatic 35, 3) := by decide +kernel
theorem dBo_areaWith_23 : decode bBo_areaWith 23 = .ok (.i2l, 1) := by decide +kernel
theorem dBo_areaWith_24 : decode bBo_areaWith 24 = .ok (.lsub, 1) := by decide +kernel
theorem dBo_areaWith_25 : decode bBo_areaWith 25 = .ok (.lstore_n 2, 1) := by decide +kernel
theorem dBo_areaWith_26 : decode bBo_areaWith 26 = .ok (.aload_n 0, 1) := by decide +kernel
theorem dBo_areaWith_27 : decode bBo_areaWith 27 = .ok (.getfield 21, 3) := by decide +kernel
theorem dBo_areaWith_30 : decode bBo_areaWith 30 = .ok (.aload_n 1, 1) := by decide +kernel
theorem dBo_areaWith_31 : decode bBo_areaWith 31 = .ok (.getfield 21, 3) := by decide +kernel
theorem dBo_areaWith_34 : decode bBo_areaWith 34 = .ok (.invokestatic 29, 3) := by decide +kernel
theorem dBo_areaWith_37 : decode bBo_areaWith 37 = .ok (.i2l, 1) := by decide +kernel
theorem dBo_areaWith_38 : decode bBo_areaWith 38 = .ok (.aload_n 0, 1) := by decide +kernel
theorem dBo_areaWith_39 : decode bBo_areaWith 39 = .ok (.getfield 15, 3) := by decide +kernel
theorem dBo_areaWith_42 : decode bBo_areaWith 42 = .ok (.aload_n 1, 1) := by decide +kernel
theorem dBo_areaWith_43 : decode bBo_areaWith 43 = .ok (.getfield 15, 3) := by decide +kernel
theorem dBo_areaWith_46 : decode bBo_areaWith 46 = .ok (.invokestatic 35, 3) := by decide +kernel
theorem dBo_areaWith_49 : decode bBo_areaWith 49 = .ok (.i2l, 1) := by decide +kernel
theorem dBo_areaWith_50 : decode bBo_areaWith 50 = .ok (.lsub, 1) := by decide +kernel
theorem dBo_areaWith_51 : decode bBo_areaWith 51 = .ok (.lstore 4, 2) := by decide +kernel
theorem dBo_areaWith_53 : decode bBo_areaWith 53 = .ok (.lload_n 2, 1) := by decide +kernel
theorem dBo_areaWith_54 : decode bBo_areaWith 54 = .ok (.lload 4, 2) := by decide +kernel
theorem dBo_areaWith_56 : decode bBo_areaWith 56 = .ok (.lmul, 1) := by decide +kernel
theorem dBo_areaWith_57 : decode bBo_areaWith 57 = .ok (.lreturn, 1) := by decide +kernel
abbrev wBo_areaWith : List Cond := Cond.code yBo_areaWith bBo_areaWith 6 (some .long)   :: tbl
theorem kcBo_areaWith : Cond.code yBo_areaWith bBo_areaWith 6 (some .long) ∈ tbl := tb2 24 (by decide +kernel) (by decide +kernel)
theorem kiBo_areaWith : Cond.instanceMethod yBo_areaWith ∈ tbl := tb2 22 (by decide +kernel) (by decide +kernel)
theorem ksBo_areaWith : Cond.selects yBo_areaWith.cls yBo_areaWith yBo_areaWith ∈ tbl := tb2 23 (by decide +kernel) (by decide +kernel)
theorem dBo_squareFrom_0 : decode bBo_squareFrom 0 = .ok (.iload_n 1, 1) := by decide +kernel
theorem dBo_squareFrom_1 : decode bBo_squareFrom 1 = .ok (.aload_n 0, 1) := by decide +kernel
theorem dBo_squareFrom_2 : decode bBo_squareFrom 2 = .ok (.getfield 9, 3) := by decide +kernel
theorem dBo_squareFrom_5 : decode bBo_squareFrom 5 = .ok (.if_icmp .ge 14, 3) := by decide +kernel
theorem dBo_squareFrom_8 : decode bBo_squareFrom 8 = .ok (.aload_n 0, 1) := by decide +kernel
theorem dBo_squareFrom_9 : decode bBo_squareFrom 9 = .ok (.getfield 9, 3) := by decide +kernel
theorem dBo_squareFrom_12 : decode bBo_squareFrom 12 = .ok (.i2l, 1) := by decide +kernel
theorem dBo_squareFrom_13 : decode bBo_squareFrom 13 = .ok (.iload_n 1, 1) := by decide +kernel
theorem dBo_squareFrom_14 : decode bBo_squareFrom 14 = .ok (.i2l, 1) := by decide +kernel
theorem dBo_squareFrom_15 : decode bBo_squareFrom 15 = .ok (.lsub, 1) := by decide +kernel
theorem dBo_squareFrom_16 : decode bBo_squareFrom 16 = .ok (.goto 23, 3) := by decide +kernel
theorem dBo_squareFrom_19 : decode bBo_squareFrom 19 = .ok (.iload_n 1, 1) := by decide +kernel
theorem dBo_squareFrom_20 : decode bBo_squareFrom 20 = .ok (.aload_n 0, 1) := by decide +kernel
theorem dBo_squareFrom_21 : decode bBo_squareFrom 21 = .ok (.getfield 18, 3) := by decide +kernel
theorem dBo_squareFrom_24 : decode bBo_squareFrom 24 = .ok (.if_icmp .le 14, 3) := by decide +kernel
theorem dBo_squareFrom_27 : decode bBo_squareFrom 27 = .ok (.iload_n 1, 1) := by decide +kernel
theorem dBo_squareFrom_28 : decode bBo_squareFrom 28 = .ok (.i2l, 1) := by decide +kernel
theorem dBo_squareFrom_29 : decode bBo_squareFrom 29 = .ok (.aload_n 0, 1) := by decide +kernel
theorem dBo_squareFrom_30 : decode bBo_squareFrom 30 = .ok (.getfield 18, 3) := by decide +kernel
theorem dBo_squareFrom_33 : decode bBo_squareFrom 33 = .ok (.i2l, 1) := by decide +kernel
theorem dBo_squareFrom_34 : decode bBo_squareFrom 34 = .ok (.lsub, 1) := by decide +kernel
theorem dBo_squareFrom_35 : decode bBo_squareFrom 35 = .ok (.goto 4, 3) := by decide +kernel
theorem dBo_squareFrom_38 : decode bBo_squareFrom 38 = .ok (.lconst 0, 1) := by decide +kernel
theorem dBo_squareFrom_39 : decode bBo_squareFrom 39 = .ok (.lstore_n 3, 1) := by decide +kernel
theorem dBo_squareFrom_40 : decode bBo_squareFrom 40 = .ok (.iload_n 2, 1) := by decide +kernel
theorem dBo_squareFrom_41 : decode bBo_squareFrom 41 = .ok (.aload_n 0, 1) := by decide +kernel
theorem dBo_squareFrom_42 : decode bBo_squareFrom 42 = .ok (.getfield 15, 3) := by decide +kernel
theorem dBo_squareFrom_45 : decode bBo_squareFrom 45 = .ok (.if_icmp .ge 14, 3) := by decide +kernel
theorem dBo_squareFrom_48 : decode bBo_squareFrom 48 = .ok (.aload_n 0, 1) := by decide +kernel
theorem dBo_squareFrom_49 : decode bBo_squareFrom 49 = .ok (.getfield 15, 3) := by decide +kernel
theorem dBo_squareFrom_52 : decode bBo_squareFrom 52 = .ok (.i2l, 1) := by decide +kernel
theorem dBo_squareFrom_53 : decode bBo_squareFrom 53 = .ok (.iload_n 2, 1) := by decide +kernel
theorem dBo_squareFrom_54 : decode bBo_squareFrom 54 = .ok (.i2l, 1) := by decide +kernel
theorem dBo_squareFrom_55 : decode bBo_squareFrom 55 = .ok (.lsub, 1) := by decide +kernel
theorem dBo_squareFrom_56 : decode bBo_squareFrom 56 = .ok (.goto 23, 3) := by decide +kernel
theorem dBo_squareFrom_59 : decode bBo_squareFrom 59 = .ok (.iload_n 2, 1) := by decide +kernel
theorem dBo_squareFrom_60 : decode bBo_squareFrom 60 = .ok (.aload_n 0, 1) := by decide +kernel
theorem dBo_squareFrom_61 : decode bBo_squareFrom 61 = .ok (.getfield 21, 3) := by decide +kernel
theorem dBo_squareFrom_64 : decode bBo_squareFrom 64 = .ok (.if_icmp .le 14, 3) := by decide +kernel
theorem dBo_squareFrom_67 : decode bBo_squareFrom 67 = .ok (.iload_n 2, 1) := by decide +kernel
theorem dBo_squareFrom_68 : decode bBo_squareFrom 68 = .ok (.i2l, 1) := by decide +kernel
theorem dBo_squareFrom_69 : decode bBo_squareFrom 69 = .ok (.aload_n 0, 1) := by decide +kernel
theorem dBo_squareFrom_70 : decode bBo_squareFrom 70 = .ok (.getfield 21, 3) := by decide +kernel
theorem dBo_squareFrom_73 : decode bBo_squareFrom 73 = .ok (.i2l, 1) := by decide +kernel
theorem dBo_squareFrom_74 : decode bBo_squareFrom 74 = .ok (.lsub, 1) := by decide +kernel
theorem dBo_squareFrom_75 : decode bBo_squareFrom 75 = .ok (.goto 4, 3) := by decide +kernel
theorem dBo_squareFrom_78 : decode bBo_squareFrom 78 = .ok (.lconst 0, 1) := by decide +kernel
theorem dBo_squareFrom_79 : decode bBo_squareFrom 79 = .ok (.lstore 5, 2) := by decide +kernel
theorem dBo_squareFrom_81 : decode bBo_squareFrom 81 = .ok (.lload_n 3, 1) := by decide +kernel
theorem dBo_squareFrom_82 : decode bBo_squareFrom 82 = .ok (.lload_n 3, 1) := by decide +kernel
theorem dBo_squareFrom_83 : decode bBo_squareFrom 83 = .ok (.lmul, 1) := by decide +kernel
theorem dBo_squareFrom_84 : decode bBo_squareFrom 84 = .ok (.lload 5, 2) := by decide +kernel
theorem dBo_squareFrom_86 : decode bBo_squareFrom 86 = .ok (.lload 5, 2) := by decide +kernel
theorem dBo_squareFrom_88 : decode bBo_squareFrom 88 = .ok (.lmul, 1) := by decide +kernel
theorem dBo_squareFrom_89 : decode bBo_squareFrom 89 = .ok (.ladd, 1) := by decide +kernel
theorem dBo_squareFrom_90 : decode bBo_squareFrom 90 = .ok (.lreturn, 1) := by decide +kernel
abbrev wBo_squareFrom : List Cond := Cond.code yBo_squareFrom bBo_squareFrom 7 (some .long)   :: tbl
theorem kcBo_squareFrom : Cond.code yBo_squareFrom bBo_squareFrom 7 (some .long) ∈ tbl := tb3 63 (by decide +kernel) (by decide +kernel)
theorem kiBo_squareFrom : Cond.instanceMethod yBo_squareFrom ∈ tbl := tb3 61 (by decide +kernel) (by decide +kernel)
theorem ksBo_squareFrom : Cond.selects yBo_squareFrom.cls yBo_squareFrom yBo_squareFrom ∈ tbl := tb3 62 (by decide +kernel) (by decide +kernel)
theorem kfBo_9 : Cond.fieldLink RBo 9 (TBo 0).1 (TBo 0).2.1 (TBo 0).2.2.1 ∈ tbl := tb1 59 (by decide +kernel) (by decide +kernel)
theorem kfBo_15 : Cond.fieldLink RBo 15 (TBo 1).1 (TBo 1).2.1 (TBo 1).2.2.1 ∈ tbl := tb1 62 (by decide +kernel) (by decide +kernel)
theorem kfBo_18 : Cond.fieldLink RBo 18 (TBo 2).1 (TBo 2).2.1 (TBo 2).2.2.1 ∈ tbl := tb1 65 (by decide +kernel) (by decide +kernel)
theorem kfBo_21 : Cond.fieldLink RBo 21 (TBo 3).1 (TBo 3).2.1 (TBo 3).2.2.1 ∈ tbl := tb1 68 (by decide +kernel) (by decide +kernel)
theorem kfBo_24 : Cond.fieldLink RBo 24 (TBo 4).1 (TBo 4).2.1 (TBo 4).2.2.1 ∈ tbl := tb1 71 (by decide +kernel) (by decide +kernel)
theorem kfBo_27 : Cond.constant RBo 27 (2000000000) ∈ tbl := tb2 59 (by decide +kernel) (by decide +kernel)
theorem kfBo_28 : Cond.constant RBo 28 (-2000000000) ∈ tbl := tb2 60 (by decide +kernel) (by decide +kernel)
