abbrev bFa_init : ByteArray := prog_1_method_1_code
def yFa_init : MethodName := ⟨RFa, "<init>", "()V"⟩
abbrev bFa_insert : ByteArray := prog_1_method_2_code
def yFa_insert : MethodName := ⟨RFa, "insert", "(IIIII)I"⟩
abbrev bFa_delete : ByteArray := prog_1_method_3_code
def yFa_delete : MethodName := ⟨RFa, "delete", "(IIIII)I"⟩
abbrev bFa_take : ByteArray := prog_1_method_4_code
def yFa_take : MethodName := ⟨RFa, "take", "(IIII)I"⟩
abbrev bFa_cut : ByteArray := prog_1_method_5_code
def yFa_cut : MethodName := ⟨RFa, "cut", "(I)Z"⟩
abbrev bFa_stop : ByteArray := prog_1_method_6_code
def yFa_stop : MethodName := ⟨RFa, "stop", "()Z"⟩
abbrev bFa_start : ByteArray := prog_1_method_7_code
def yFa_start : MethodName := ⟨RFa, "start", "()Z"⟩
abbrev bFa_up : ByteArray := prog_1_method_8_code
def yFa_up : MethodName := ⟨RFa, "up", "()Z"⟩
abbrev bFa_size : ByteArray := prog_1_method_9_code
def yFa_size : MethodName := ⟨RFa, "size", "()I"⟩
abbrev bFa_count : ByteArray := prog_1_method_10_code
def yFa_count : MethodName := ⟨RFa, "count", "(IIII)I"⟩
abbrev bFa_within : ByteArray := prog_1_method_11_code
def yFa_within : MethodName := ⟨RFa, "within", "(IIII)I"⟩
abbrev bFa_pick : ByteArray := prog_1_method_12_code
def yFa_pick : MethodName := ⟨RFa, "pick", "(IIIII)I"⟩
abbrev bFa_distance : ByteArray := prog_1_method_13_code
def yFa_distance : MethodName := ⟨RFa, "distance", "(II)J"⟩
abbrev bFa_nearest : ByteArray := prog_1_method_14_code
def yFa_nearest : MethodName := ⟨RFa, "nearest", "(II)I"⟩
abbrev bFa_around : ByteArray := prog_1_method_15_code
def yFa_around : MethodName := ⟨RFa, "around", "(I)I"⟩
abbrev bFa_sound : ByteArray := prog_1_method_16_code
def yFa_sound : MethodName := ⟨RFa, "sound", "()Z"⟩
abbrev bFa_frugal : ByteArray := prog_1_method_17_code
def yFa_frugal : MethodName := ⟨RFa, "frugal", "()Z"⟩
abbrev bFa_isName : ByteArray := prog_1_method_18_code
def yFa_isName : MethodName := ⟨RFa, "isName", "(I)Z"⟩
abbrev bFa_isCoordinate : ByteArray := prog_1_method_19_code
def yFa_isCoordinate : MethodName := ⟨RFa, "isCoordinate", "(I)Z"⟩
abbrev bFa_isRectangle : ByteArray := prog_1_method_20_code
def yFa_isRectangle : MethodName := ⟨RFa, "isRectangle", "(IIII)Z"⟩
abbrev bFa_searchWindow : ByteArray := prog_1_method_21_code
def yFa_searchWindow : MethodName := ⟨RFa, "searchWindow", "(IIII)V"⟩
abbrev bFa_noteThrift : ByteArray := prog_1_method_22_code
def yFa_noteThrift : MethodName := ⟨RFa, "noteThrift", "()V"⟩
abbrev bFa_searchPoint : ByteArray := prog_1_method_23_code
def yFa_searchPoint : MethodName := ⟨RFa, "searchPoint", "(II)V"⟩
abbrev bFa_settle : ByteArray := prog_1_method_24_code
def yFa_settle : MethodName := ⟨RFa, "settle", "(I)I"⟩
abbrev bFa_losePower : ByteArray := prog_1_method_25_code
def yFa_losePower : MethodName := ⟨RFa, "losePower", "()V"⟩
theorem dFa_init_0 : decode bFa_init 0 = .ok (.aload_n 0, 1) := by decide +kernel
theorem dFa_init_1 : decode bFa_init 1 = .ok (.invokespecial 3, 3) := by decide +kernel
theorem dFa_init_4 : decode bFa_init 4 = .ok (.aload_n 0, 1) := by decide +kernel
theorem dFa_init_5 : decode bFa_init 5 = .ok (.new 9, 3) := by decide +kernel
theorem dFa_init_8 : decode bFa_init 8 = .ok (.dup, 1) := by decide +kernel
theorem dFa_init_9 : decode bFa_init 9 = .ok (.invokespecial 11, 3) := by decide +kernel
theorem dFa_init_12 : decode bFa_init 12 = .ok (.putfield 12, 3) := by decide +kernel
theorem dFa_init_15 : decode bFa_init 15 = .ok (.aload_n 0, 1) := by decide +kernel
theorem dFa_init_16 : decode bFa_init 16 = .ok (.new 16, 3) := by decide +kernel
theorem dFa_init_19 : decode bFa_init 19 = .ok (.dup, 1) := by decide +kernel
theorem dFa_init_20 : decode bFa_init 20 = .ok (.invokespecial 18, 3) := by decide +kernel
theorem dFa_init_23 : decode bFa_init 23 = .ok (.putfield 19, 3) := by decide +kernel
theorem dFa_init_26 : decode bFa_init 26 = .ok (.aload_n 0, 1) := by decide +kernel
theorem dFa_init_27 : decode bFa_init 27 = .ok (.new 23, 3) := by decide +kernel
theorem dFa_init_30 : decode bFa_init 30 = .ok (.dup, 1) := by decide +kernel
theorem dFa_init_31 : decode bFa_init 31 = .ok (.invokespecial 25, 3) := by decide +kernel
theorem dFa_init_34 : decode bFa_init 34 = .ok (.putfield 26, 3) := by decide +kernel
theorem dFa_init_37 : decode bFa_init 37 = .ok (.aload_n 0, 1) := by decide +kernel
theorem dFa_init_38 : decode bFa_init 38 = .ok (.new 30, 3) := by decide +kernel
theorem dFa_init_41 : decode bFa_init 41 = .ok (.dup, 1) := by decide +kernel
theorem dFa_init_42 : decode bFa_init 42 = .ok (.invokespecial 32, 3) := by decide +kernel
theorem dFa_init_45 : decode bFa_init 45 = .ok (.putfield 33, 3) := by decide +kernel
theorem dFa_init_48 : decode bFa_init 48 = .ok (.aload_n 0, 1) := by decide +kernel
theorem dFa_init_49 : decode bFa_init 49 = .ok (.iconst 1, 1) := by decide +kernel
theorem dFa_init_50 : decode bFa_init 50 = .ok (.putfield 37, 3) := by decide +kernel
theorem dFa_init_53 : decode bFa_init 53 = .ok (.aload_n 0, 1) := by decide +kernel
theorem dFa_init_54 : decode bFa_init 54 = .ok (.iconst 1, 1) := by decide +kernel
theorem dFa_init_55 : decode bFa_init 55 = .ok (.putfield 41, 3) := by decide +kernel
theorem dFa_init_58 : decode bFa_init 58 = .ok (.aload_n 0, 1) := by decide +kernel
theorem dFa_init_59 : decode bFa_init 59 = .ok (.iconst (-1), 1) := by decide +kernel
theorem dFa_init_60 : decode bFa_init 60 = .ok (.putfield 44, 3) := by decide +kernel
theorem dFa_init_63 : decode bFa_init 63 = .ok (.return_, 1) := by decide +kernel
abbrev wFa_init : List Cond := Cond.code yFa_init bFa_init 1 none   :: tbl
theorem kcFa_init : Cond.code yFa_init bFa_init 1 none ∈ tbl := tb1 15 (by decide +kernel) (by decide +kernel)
theorem kiFa_init : Cond.instanceMethod yFa_init ∈ tbl := tb1 14 (by decide +kernel) (by decide +kernel)
theorem dFa_insert_0 : decode bFa_insert 0 = .ok (.aload_n 0, 1) := by decide +kernel
theorem dFa_insert_1 : decode bFa_insert 1 = .ok (.getfield 37, 3) := by decide +kernel
theorem dFa_insert_4 : decode bFa_insert 4 = .ok (.ifCond .ne 6, 3) := by decide +kernel
theorem dFa_insert_7 : decode bFa_insert 7 = .ok (.bipush (-3), 2) := by decide +kernel
theorem dFa_insert_9 : decode bFa_insert 9 = .ok (.ireturn, 1) := by decide +kernel
theorem dFa_insert_10 : decode bFa_insert 10 = .ok (.iload_n 1, 1) := by decide +kernel
theorem dFa_insert_11 : decode bFa_insert 11 = .ok (.invokestatic 48, 3) := by decide +kernel
theorem dFa_insert_14 : decode bFa_insert 14 = .ok (.ifCond .eq 15, 3) := by decide +kernel
theorem dFa_insert_17 : decode bFa_insert 17 = .ok (.iload_n 2, 1) := by decide +kernel
theorem dFa_insert_18 : decode bFa_insert 18 = .ok (.iload_n 3, 1) := by decide +kernel
theorem dFa_insert_19 : decode bFa_insert 19 = .ok (.iload 4, 2) := by decide +kernel
theorem dFa_insert_21 : decode bFa_insert 21 = .ok (.iload 5, 2) := by decide +kernel
theorem dFa_insert_23 : decode bFa_insert 23 = .ok (.invokestatic 52, 3) := by decide +kernel
theorem dFa_insert_26 : decode bFa_insert 26 = .ok (.ifCond .ne 5, 3) := by decide +kernel
theorem dFa_insert_29 : decode bFa_insert 29 = .ok (.iconst (-1), 1) := by decide +kernel
theorem dFa_insert_30 : decode bFa_insert 30 = .ok (.ireturn, 1) := by decide +kernel
theorem dFa_insert_31 : decode bFa_insert 31 = .ok (.aload_n 0, 1) := by decide +kernel
theorem dFa_insert_32 : decode bFa_insert 32 = .ok (.getfield 19, 3) := by decide +kernel
theorem dFa_insert_35 : decode bFa_insert 35 = .ok (.getfield 56, 3) := by decide +kernel
theorem dFa_insert_38 : decode bFa_insert 38 = .ok (.bipush 40, 2) := by decide +kernel
theorem dFa_insert_40 : decode bFa_insert 40 = .ok (.if_icmp .lt 6, 3) := by decide +kernel
theorem dFa_insert_43 : decode bFa_insert 43 = .ok (.bipush (-2), 2) := by decide +kernel
theorem dFa_insert_45 : decode bFa_insert 45 = .ok (.ireturn, 1) := by decide +kernel
theorem dFa_insert_46 : decode bFa_insert 46 = .ok (.aload_n 0, 1) := by decide +kernel
theorem dFa_insert_47 : decode bFa_insert 47 = .ok (.getfield 33, 3) := by decide +kernel
theorem dFa_insert_50 : decode bFa_insert 50 = .ok (.iload_n 2, 1) := by decide +kernel
theorem dFa_insert_51 : decode bFa_insert 51 = .ok (.iload_n 3, 1) := by decide +kernel
theorem dFa_insert_52 : decode bFa_insert 52 = .ok (.iload 4, 2) := by decide +kernel
theorem dFa_insert_54 : decode bFa_insert 54 = .ok (.iload 5, 2) := by decide +kernel
theorem dFa_insert_56 : decode bFa_insert 56 = .ok (.iload_n 1, 1) := by decide +kernel
theorem dFa_insert_57 : decode bFa_insert 57 = .ok (.invokevirtual 59, 3) := by decide +kernel
theorem dFa_insert_60 : decode bFa_insert 60 = .ok (.aload_n 0, 1) := by decide +kernel
theorem dFa_insert_61 : decode bFa_insert 61 = .ok (.getfield 19, 3) := by decide +kernel
theorem dFa_insert_64 : decode bFa_insert 64 = .ok (.aload_n 0, 1) := by decide +kernel
theorem dFa_insert_65 : decode bFa_insert 65 = .ok (.getfield 33, 3) := by decide +kernel
theorem dFa_insert_68 : decode bFa_insert 68 = .ok (.invokevirtual 63, 3) := by decide +kernel
theorem dFa_insert_71 : decode bFa_insert 71 = .ok (.aload_n 0, 1) := by decide +kernel
theorem dFa_insert_72 : decode bFa_insert 72 = .ok (.aload_n 0, 1) := by decide +kernel
theorem dFa_insert_73 : decode bFa_insert 73 = .ok (.getfield 19, 3) := by decide +kernel
theorem dFa_insert_76 : decode bFa_insert 76 = .ok (.getfield 56, 3) := by decide +kernel
theorem dFa_insert_79 : decode bFa_insert 79 = .ok (.invokevirtual 67, 3) := by decide +kernel
theorem dFa_insert_82 : decode bFa_insert 82 = .ok (.ireturn, 1) := by decide +kernel
abbrev wFa_insert : List Cond := Cond.code yFa_insert bFa_insert 6 (some .int)   :: tbl
theorem kcFa_insert : Cond.code yFa_insert bFa_insert 6 (some .int) ∈ tbl := tb1 214 (by decide +kernel) (by decide +kernel)
theorem kiFa_insert : Cond.instanceMethod yFa_insert ∈ tbl := tb1 212 (by decide +kernel) (by decide +kernel)
theorem ksFa_insert : Cond.selects yFa_insert.cls yFa_insert yFa_insert ∈ tbl := tb1 213 (by decide +kernel) (by decide +kernel)
theorem dFa_delete_0 : decode bFa_delete 0 = .ok (.aload_n 0, 1) := by decide +kernel
theorem dFa_delete_1 : decode bFa_delete 1 = .ok (.getfield 37, 3) := by decide +kernel
theorem dFa_delete_4 : decode bFa_delete 4 = .ok (.ifCond .ne 6, 3) := by decide +kernel
theorem dFa_delete_7 : decode bFa_delete 7 = .ok (.bipush (-3), 2) := by decide +kernel
theorem dFa_delete_9 : decode bFa_delete 9 = .ok (.ireturn, 1) := by decide +kernel
theorem dFa_delete_10 : decode bFa_delete 10 = .ok (.iload_n 1, 1) := by decide +kernel
theorem dFa_delete_11 : decode bFa_delete 11 = .ok (.invokestatic 48, 3) := by decide +kernel
theorem dFa_delete_14 : decode bFa_delete 14 = .ok (.ifCond .eq 15, 3) := by decide +kernel
theorem dFa_delete_17 : decode bFa_delete 17 = .ok (.iload_n 2, 1) := by decide +kernel
theorem dFa_delete_18 : decode bFa_delete 18 = .ok (.iload_n 3, 1) := by decide +kernel
theorem dFa_delete_19 : decode bFa_delete 19 = .ok (.iload 4, 2) := by decide +kernel
theorem dFa_delete_21 : decode bFa_delete 21 = .ok (.iload 5, 2) := by decide +kernel
theorem dFa_delete_23 : decode bFa_delete 23 = .ok (.invokestatic 52, 3) := by decide +kernel
theorem dFa_delete_26 : decode bFa_delete 26 = .ok (.ifCond .ne 5, 3) := by decide +kernel
theorem dFa_delete_29 : decode bFa_delete 29 = .ok (.iconst (-1), 1) := by decide +kernel
theorem dFa_delete_30 : decode bFa_delete 30 = .ok (.ireturn, 1) := by decide +kernel
theorem dFa_delete_31 : decode bFa_delete 31 = .ok (.aload_n 0, 1) := by decide +kernel
theorem dFa_delete_32 : decode bFa_delete 32 = .ok (.getfield 33, 3) := by decide +kernel
theorem dFa_delete_35 : decode bFa_delete 35 = .ok (.iload_n 2, 1) := by decide +kernel
theorem dFa_delete_36 : decode bFa_delete 36 = .ok (.iload_n 3, 1) := by decide +kernel
theorem dFa_delete_37 : decode bFa_delete 37 = .ok (.iload 4, 2) := by decide +kernel
theorem dFa_delete_39 : decode bFa_delete 39 = .ok (.iload 5, 2) := by decide +kernel
theorem dFa_delete_41 : decode bFa_delete 41 = .ok (.iload_n 1, 1) := by decide +kernel
theorem dFa_delete_42 : decode bFa_delete 42 = .ok (.invokevirtual 59, 3) := by decide +kernel
theorem dFa_delete_45 : decode bFa_delete 45 = .ok (.aload_n 0, 1) := by decide +kernel
theorem dFa_delete_46 : decode bFa_delete 46 = .ok (.getfield 19, 3) := by decide +kernel
theorem dFa_delete_49 : decode bFa_delete 49 = .ok (.aload_n 0, 1) := by decide +kernel
theorem dFa_delete_50 : decode bFa_delete 50 = .ok (.getfield 33, 3) := by decide +kernel
theorem dFa_delete_53 : decode bFa_delete 53 = .ok (.invokevirtual 71, 3) := by decide +kernel
theorem dFa_delete_56 : decode bFa_delete 56 = .ok (.ifCond .eq 17, 3) := by decide +kernel
theorem dFa_delete_59 : decode bFa_delete 59 = .ok (.aload_n 0, 1) := by decide +kernel
theorem dFa_delete_60 : decode bFa_delete 60 = .ok (.aload_n 0, 1) := by decide +kernel
theorem dFa_delete_61 : decode bFa_delete 61 = .ok (.getfield 19, 3) := by decide +kernel
theorem dFa_delete_64 : decode bFa_delete 64 = .ok (.getfield 56, 3) := by decide +kernel
theorem dFa_delete_67 : decode bFa_delete 67 = .ok (.invokevirtual 67, 3) := by decide +kernel
theorem dFa_delete_70 : decode bFa_delete 70 = .ok (.goto 4, 3) := by decide +kernel
theorem dFa_delete_73 : decode bFa_delete 73 = .ok (.iconst (-1), 1) := by decide +kernel
theorem dFa_delete_74 : decode bFa_delete 74 = .ok (.ireturn, 1) := by decide +kernel
abbrev wFa_delete : List Cond := Cond.code yFa_delete bFa_delete 6 (some .int)   :: tbl
theorem kcFa_delete : Cond.code yFa_delete bFa_delete 6 (some .int) ∈ tbl := tb2 170 (by decide +kernel) (by decide +kernel)
theorem kiFa_delete : Cond.instanceMethod yFa_delete ∈ tbl := tb2 168 (by decide +kernel) (by decide +kernel)
theorem ksFa_delete : Cond.selects yFa_delete.cls yFa_delete yFa_delete ∈ tbl := tb2 169 (by decide +kernel) (by decide +kernel)
theorem dFa_take_0 : decode bFa_take 0 = .ok (.aload_n 0, 1) := by decide +kernel
theorem dFa_take_1 : decode bFa_take 1 = .ok (.getfield 37, 3) := by decide +kernel
theorem dFa_take_4 : decode bFa_take 4 = .ok (.ifCond .ne 6, 3) := by decide +kernel
theorem dFa_take_7 : decode bFa_take 7 = .ok (.bipush (-3), 2) := by decide +kernel
theorem dFa_take_9 : decode bFa_take 9 = .ok (.ireturn, 1) := by decide +kernel
theorem dFa_take_10 : decode bFa_take 10 = .ok (.iload_n 1, 1) := by decide +kernel
theorem dFa_take_11 : decode bFa_take 11 = .ok (.iload_n 2, 1) := by decide +kernel
theorem dFa_take_12 : decode bFa_take 12 = .ok (.iload_n 3, 1) := by decide +kernel
theorem dFa_take_13 : decode bFa_take 13 = .ok (.iload 4, 2) := by decide +kernel
theorem dFa_take_15 : decode bFa_take 15 = .ok (.invokestatic 52, 3) := by decide +kernel
theorem dFa_take_18 : decode bFa_take 18 = .ok (.ifCond .ne 5, 3) := by decide +kernel
theorem dFa_take_21 : decode bFa_take 21 = .ok (.iconst (-1), 1) := by decide +kernel
theorem dFa_take_22 : decode bFa_take 22 = .ok (.ireturn, 1) := by decide +kernel
theorem dFa_take_23 : decode bFa_take 23 = .ok (.aload_n 0, 1) := by decide +kernel
theorem dFa_take_24 : decode bFa_take 24 = .ok (.iload_n 1, 1) := by decide +kernel
theorem dFa_take_25 : decode bFa_take 25 = .ok (.iload_n 2, 1) := by decide +kernel
theorem dFa_take_26 : decode bFa_take 26 = .ok (.iload_n 3, 1) := by decide +kernel
theorem dFa_take_27 : decode bFa_take 27 = .ok (.iload 4, 2) := by decide +kernel
theorem dFa_take_29 : decode bFa_take 29 = .ok (.invokevirtual 75, 3) := by decide +kernel
theorem dFa_take_32 : decode bFa_take 32 = .ok (.aload_n 0, 1) := by decide +kernel
theorem dFa_take_33 : decode bFa_take 33 = .ok (.getfield 26, 3) := by decide +kernel
theorem dFa_take_36 : decode bFa_take 36 = .ok (.getfield 79, 3) := by decide +kernel
theorem dFa_take_39 : decode bFa_take 39 = .ok (.ifCond .ne 5, 3) := by decide +kernel
theorem dFa_take_42 : decode bFa_take 42 = .ok (.iconst (-1), 1) := by decide +kernel
theorem dFa_take_43 : decode bFa_take 43 = .ok (.ireturn, 1) := by decide +kernel
theorem dFa_take_44 : decode bFa_take 44 = .ok (.aload_n 0, 1) := by decide +kernel
theorem dFa_take_45 : decode bFa_take 45 = .ok (.getfield 26, 3) := by decide +kernel
theorem dFa_take_48 : decode bFa_take 48 = .ok (.getfield 82, 3) := by decide +kernel
theorem dFa_take_51 : decode bFa_take 51 = .ok (.iconst 0, 1) := by decide +kernel
theorem dFa_take_52 : decode bFa_take 52 = .ok (.aaload, 1) := by decide +kernel
theorem dFa_take_53 : decode bFa_take 53 = .ok (.astore 5, 2) := by decide +kernel
theorem dFa_take_55 : decode bFa_take 55 = .ok (.aload_n 0, 1) := by decide +kernel
theorem dFa_take_56 : decode bFa_take 56 = .ok (.getfield 19, 3) := by decide +kernel
theorem dFa_take_59 : decode bFa_take 59 = .ok (.aload 5, 2) := by decide +kernel
theorem dFa_take_61 : decode bFa_take 61 = .ok (.invokevirtual 71, 3) := by decide +kernel
theorem dFa_take_64 : decode bFa_take 64 = .ok (.ifCond .eq 15, 3) := by decide +kernel
theorem dFa_take_67 : decode bFa_take 67 = .ok (.aload_n 0, 1) := by decide +kernel
theorem dFa_take_68 : decode bFa_take 68 = .ok (.aload 5, 2) := by decide +kernel
theorem dFa_take_70 : decode bFa_take 70 = .ok (.getfield 86, 3) := by decide +kernel
theorem dFa_take_73 : decode bFa_take 73 = .ok (.invokevirtual 67, 3) := by decide +kernel
theorem dFa_take_76 : decode bFa_take 76 = .ok (.goto 4, 3) := by decide +kernel
theorem dFa_take_79 : decode bFa_take 79 = .ok (.iconst (-1), 1) := by decide +kernel
theorem dFa_take_80 : decode bFa_take 80 = .ok (.ireturn, 1) := by decide +kernel
abbrev wFa_take : List Cond := Cond.code yFa_take bFa_take 6 (some .int)   :: tbl
theorem kcFa_take : Cond.code yFa_take bFa_take 6 (some .int) ∈ tbl := tb2 185 (by decide +kernel) (by decide +kernel)
theorem kiFa_take : Cond.instanceMethod yFa_take ∈ tbl := tb2 183 (by decide +kernel) (by decide +kernel)
theorem ksFa_take : Cond.selects yFa_take.cls yFa_take yFa_take ∈ tbl := tb2 184 (by decide +kernel) (by decide +kernel)
theorem dFa_cut_0 : decode bFa_cut 0 = .ok (.iload_n 1, 1) := by decide +kernel
theorem dFa_cut_1 : decode bFa_cut 1 = .ok (.iconst (-1), 1) := by decide +kernel
theorem dFa_cut_2 : decode bFa_cut 2 = .ok (.if_icmp .lt 8, 3) := by decide +kernel
theorem dFa_cut_5 : decode bFa_cut 5 = .ok (.iload_n 1, 1) := by decide +kernel
theorem dFa_cut_6 : decode bFa_cut 6 = .ok (.iconst 5, 1) := by decide +kernel
theorem dFa_cut_7 : decode bFa_cut 7 = .ok (.if_icmp .le 5, 3) := by decide +kernel
theorem dFa_cut_10 : decode bFa_cut 10 = .ok (.iconst 0, 1) := by decide +kernel
theorem dFa_cut_11 : decode bFa_cut 11 = .ok (.ireturn, 1) := by decide +kernel
theorem dFa_cut_12 : decode bFa_cut 12 = .ok (.aload_n 0, 1) := by decide +kernel
theorem dFa_cut_13 : decode bFa_cut 13 = .ok (.iload_n 1, 1) := by decide +kernel
theorem dFa_cut_14 : decode bFa_cut 14 = .ok (.putfield 44, 3) := by decide +kernel
theorem dFa_cut_17 : decode bFa_cut 17 = .ok (.iconst 1, 1) := by decide +kernel
theorem dFa_cut_18 : decode bFa_cut 18 = .ok (.ireturn, 1) := by decide +kernel
abbrev wFa_cut : List Cond := Cond.code yFa_cut bFa_cut 2 (some .boolean)   :: tbl
theorem kcFa_cut : Cond.code yFa_cut bFa_cut 2 (some .boolean) ∈ tbl := tb2 223 (by decide +kernel) (by decide +kernel)
theorem kiFa_cut : Cond.instanceMethod yFa_cut ∈ tbl := tb2 221 (by decide +kernel) (by decide +kernel)
theorem ksFa_cut : Cond.selects yFa_cut.cls yFa_cut yFa_cut ∈ tbl := tb2 222 (by decide +kernel) (by decide +kernel)
theorem dFa_stop_0 : decode bFa_stop 0 = .ok (.aload_n 0, 1) := by decide +kernel
theorem dFa_stop_1 : decode bFa_stop 1 = .ok (.getfield 37, 3) := by decide +kernel
theorem dFa_stop_4 : decode bFa_stop 4 = .ok (.ifCond .ne 5, 3) := by decide +kernel
theorem dFa_stop_7 : decode bFa_stop 7 = .ok (.iconst 0, 1) := by decide +kernel
theorem dFa_stop_8 : decode bFa_stop 8 = .ok (.ireturn, 1) := by decide +kernel
theorem dFa_stop_9 : decode bFa_stop 9 = .ok (.aload_n 0, 1) := by decide +kernel
theorem dFa_stop_10 : decode bFa_stop 10 = .ok (.invokevirtual 89, 3) := by decide +kernel
theorem dFa_stop_13 : decode bFa_stop 13 = .ok (.iconst 1, 1) := by decide +kernel
theorem dFa_stop_14 : decode bFa_stop 14 = .ok (.ireturn, 1) := by decide +kernel
abbrev wFa_stop : List Cond := Cond.code yFa_stop bFa_stop 1 (some .boolean)   :: tbl
theorem kcFa_stop : Cond.code yFa_stop bFa_stop 1 (some .boolean) ∈ tbl := tb2 227 (by decide +kernel) (by decide +kernel)
theorem kiFa_stop : Cond.instanceMethod yFa_stop ∈ tbl := tb2 225 (by decide +kernel) (by decide +kernel)
theorem ksFa_stop : Cond.selects yFa_stop.cls yFa_stop yFa_stop ∈ tbl := tb2 226 (by decide +kernel) (by decide +kernel)
theorem dFa_start_0 : decode bFa_start 0 = .ok (.aload_n 0, 1) := by decide +kernel
theorem dFa_start_1 : decode bFa_start 1 = .ok (.getfield 37, 3) := by decide +kernel
theorem dFa_start_4 : decode bFa_start 4 = .ok (.ifCond .eq 5, 3) := by decide +kernel
theorem dFa_start_7 : decode bFa_start 7 = .ok (.iconst 0, 1) := by decide +kernel
theorem dFa_start_8 : decode bFa_start 8 = .ok (.ireturn, 1) := by decide +kernel
theorem dFa_start_9 : decode bFa_start 9 = .ok (.aload_n 0, 1) := by decide +kernel
theorem dFa_start_10 : decode bFa_start 10 = .ok (.getfield 12, 3) := by decide +kernel
theorem dFa_start_13 : decode bFa_start 13 = .ok (.invokevirtual 92, 3) := by decide +kernel
theorem dFa_start_16 : decode bFa_start 16 = .ok (.aload_n 0, 1) := by decide +kernel
theorem dFa_start_17 : decode bFa_start 17 = .ok (.getfield 19, 3) := by decide +kernel
theorem dFa_start_20 : decode bFa_start 20 = .ok (.aload_n 0, 1) := by decide +kernel
theorem dFa_start_21 : decode bFa_start 21 = .ok (.getfield 12, 3) := by decide +kernel
theorem dFa_start_24 : decode bFa_start 24 = .ok (.invokevirtual 95, 3) := by decide +kernel
theorem dFa_start_27 : decode bFa_start 27 = .ok (.aload_n 0, 1) := by decide +kernel
theorem dFa_start_28 : decode bFa_start 28 = .ok (.iconst 1, 1) := by decide +kernel
theorem dFa_start_29 : decode bFa_start 29 = .ok (.putfield 37, 3) := by decide +kernel
theorem dFa_start_32 : decode bFa_start 32 = .ok (.iconst 1, 1) := by decide +kernel
theorem dFa_start_33 : decode bFa_start 33 = .ok (.ireturn, 1) := by decide +kernel
abbrev wFa_start : List Cond := Cond.code yFa_start bFa_start 1 (some .boolean)   :: tbl
theorem kcFa_start : Cond.code yFa_start bFa_start 1 (some .boolean) ∈ tbl := tb2 231 (by decide +kernel) (by decide +kernel)
theorem kiFa_start : Cond.instanceMethod yFa_start ∈ tbl := tb2 229 (by decide +kernel) (by decide +kernel)
theorem ksFa_start : Cond.selects yFa_start.cls yFa_start yFa_start ∈ tbl := tb2 230 (by decide +kernel) (by decide +kernel)
theorem dFa_up_0 : decode bFa_up 0 = .ok (.aload_n 0, 1) := by decide +kernel
theorem dFa_up_1 : decode bFa_up 1 = .ok (.getfield 37, 3) := by decide +kernel
theorem dFa_up_4 : decode bFa_up 4 = .ok (.ireturn, 1) := by decide +kernel
abbrev wFa_up : List Cond := Cond.code yFa_up bFa_up 1 (some .boolean)   :: tbl
theorem kcFa_up : Cond.code yFa_up bFa_up 1 (some .boolean) ∈ tbl := tb3 10 (by decide +kernel) (by decide +kernel)
theorem kiFa_up : Cond.instanceMethod yFa_up ∈ tbl := tb3 8 (by decide +kernel) (by decide +kernel)
theorem ksFa_up : Cond.selects yFa_up.cls yFa_up yFa_up ∈ tbl := tb3 9 (by decide +kernel) (by decide +kernel)
theorem dFa_size_0 : decode bFa_size 0 = .ok (.aload_n 0, 1) := by decide +kernel
theorem dFa_size_1 : decode bFa_size 1 = .ok (.getfield 37, 3) := by decide +kernel
theorem dFa_size_4 : decode bFa_size 4 = .ok (.ifCond .eq 13, 3) := by decide +kernel
theorem dFa_size_7 : decode bFa_size 7 = .ok (.aload_n 0, 1) := by decide +kernel
theorem dFa_size_8 : decode bFa_size 8 = .ok (.getfield 19, 3) := by decide +kernel
theorem dFa_size_11 : decode bFa_size 11 = .ok (.getfield 56, 3) := by decide +kernel
theorem dFa_size_14 : decode bFa_size 14 = .ok (.goto 5, 3) := by decide +kernel
theorem dFa_size_17 : decode bFa_size 17 = .ok (.bipush (-3), 2) := by decide +kernel
theorem dFa_size_19 : decode bFa_size 19 = .ok (.ireturn, 1) := by decide +kernel
abbrev wFa_size : List Cond := Cond.code yFa_size bFa_size 1 (some .int)   :: tbl
theorem kcFa_size : Cond.code yFa_size bFa_size 1 (some .int) ∈ tbl := tb3 14 (by decide +kernel) (by decide +kernel)
theorem kiFa_size : Cond.instanceMethod yFa_size ∈ tbl := tb3 12 (by decide +kernel) (by decide +kernel)
theorem ksFa_size : Cond.selects yFa_size.cls yFa_size yFa_size ∈ tbl := tb3 13 (by decide +kernel) (by decide +kernel)
theorem dFa_count_0 : decode bFa_count 0 = .ok (.aload_n 0, 1) := by decide +kernel
theorem dFa_count_1 : decode bFa_count 1 = .ok (.getfield 37, 3) := by decide +kernel
theorem dFa_count_4 : decode bFa_count 4 = .ok (.ifCond .ne 6, 3) := by decide +kernel
theorem dFa_count_7 : decode bFa_count 7 = .ok (.bipush (-3), 2) := by decide +kernel
theorem dFa_count_9 : decode bFa_count 9 = .ok (.ireturn, 1) := by decide +kernel
theorem dFa_count_10 : decode bFa_count 10 = .ok (.iload_n 1, 1) := by decide +kernel
theorem dFa_count_11 : decode bFa_count 11 = .ok (.iload_n 2, 1) := by decide +kernel
theorem dFa_count_12 : decode bFa_count 12 = .ok (.iload_n 3, 1) := by decide +kernel
theorem dFa_count_13 : decode bFa_count 13 = .ok (.iload 4, 2) := by decide +kernel
theorem dFa_count_15 : decode bFa_count 15 = .ok (.invokestatic 52, 3) := by decide +kernel
theorem dFa_count_18 : decode bFa_count 18 = .ok (.ifCond .ne 5, 3) := by decide +kernel
theorem dFa_count_21 : decode bFa_count 21 = .ok (.iconst (-1), 1) := by decide +kernel
theorem dFa_count_22 : decode bFa_count 22 = .ok (.ireturn, 1) := by decide +kernel
theorem dFa_count_23 : decode bFa_count 23 = .ok (.aload_n 0, 1) := by decide +kernel
theorem dFa_count_24 : decode bFa_count 24 = .ok (.iload_n 1, 1) := by decide +kernel
theorem dFa_count_25 : decode bFa_count 25 = .ok (.iload_n 2, 1) := by decide +kernel
theorem dFa_count_26 : decode bFa_count 26 = .ok (.iload_n 3, 1) := by decide +kernel
theorem dFa_count_27 : decode bFa_count 27 = .ok (.iload 4, 2) := by decide +kernel
theorem dFa_count_29 : decode bFa_count 29 = .ok (.invokevirtual 75, 3) := by decide +kernel
theorem dFa_count_32 : decode bFa_count 32 = .ok (.aload_n 0, 1) := by decide +kernel
theorem dFa_count_33 : decode bFa_count 33 = .ok (.invokevirtual 99, 3) := by decide +kernel
theorem dFa_count_36 : decode bFa_count 36 = .ok (.aload_n 0, 1) := by decide +kernel
theorem dFa_count_37 : decode bFa_count 37 = .ok (.getfield 26, 3) := by decide +kernel
theorem dFa_count_40 : decode bFa_count 40 = .ok (.getfield 79, 3) := by decide +kernel
theorem dFa_count_43 : decode bFa_count 43 = .ok (.ireturn, 1) := by decide +kernel
abbrev wFa_count : List Cond := Cond.code yFa_count bFa_count 5 (some .int)   :: tbl
theorem kcFa_count : Cond.code yFa_count bFa_count 5 (some .int) ∈ tbl := tb3 18 (by decide +kernel) (by decide +kernel)
theorem kiFa_count : Cond.instanceMethod yFa_count ∈ tbl := tb3 16 (by decide +kernel) (by decide +kernel)
theorem ksFa_count : Cond.selects yFa_count.cls yFa_count yFa_count ∈ tbl := tb3 17 (by decide +kernel) (by decide +kernel)
theorem dFa_within_0 : decode bFa_within 0 = .ok (.aload_n 0, 1) := by decide +kernel
theorem dFa_within_1 : decode bFa_within 1 = .ok (.getfield 37, 3) := by decide +kernel
theorem dFa_within_4 : decode bFa_within 4 = .ok (.ifCond .ne 6, 3) := by decide +kernel
theorem dFa_within_7 : decode bFa_within 7 = .ok (.bipush (-3), 2) := by decide +kernel
theorem dFa_within_9 : decode bFa_within 9 = .ok (.ireturn, 1) := by decide +kernel
theorem dFa_within_10 : decode bFa_within 10 = .ok (.iload_n 1, 1) := by decide +kernel
theorem dFa_within_11 : decode bFa_within 11 = .ok (.iload_n 2, 1) := by decide +kernel
theorem dFa_within_12 : decode bFa_within 12 = .ok (.iload_n 3, 1) := by decide +kernel
theorem dFa_within_13 : decode bFa_within 13 = .ok (.iload 4, 2) := by decide +kernel
theorem dFa_within_15 : decode bFa_within 15 = .ok (.invokestatic 52, 3) := by decide +kernel
theorem dFa_within_18 : decode bFa_within 18 = .ok (.ifCond .ne 5, 3) := by decide +kernel
theorem dFa_within_21 : decode bFa_within 21 = .ok (.iconst (-1), 1) := by decide +kernel
theorem dFa_within_22 : decode bFa_within 22 = .ok (.ireturn, 1) := by decide +kernel
theorem dFa_within_23 : decode bFa_within 23 = .ok (.aload_n 0, 1) := by decide +kernel
theorem dFa_within_24 : decode bFa_within 24 = .ok (.iload_n 1, 1) := by decide +kernel
theorem dFa_within_25 : decode bFa_within 25 = .ok (.iload_n 2, 1) := by decide +kernel
theorem dFa_within_26 : decode bFa_within 26 = .ok (.iload_n 3, 1) := by decide +kernel
theorem dFa_within_27 : decode bFa_within 27 = .ok (.iload 4, 2) := by decide +kernel
theorem dFa_within_29 : decode bFa_within 29 = .ok (.invokevirtual 75, 3) := by decide +kernel
theorem dFa_within_32 : decode bFa_within 32 = .ok (.aload_n 0, 1) := by decide +kernel
theorem dFa_within_33 : decode bFa_within 33 = .ok (.invokevirtual 99, 3) := by decide +kernel
theorem dFa_within_36 : decode bFa_within 36 = .ok (.aload_n 0, 1) := by decide +kernel
theorem dFa_within_37 : decode bFa_within 37 = .ok (.getfield 26, 3) := by decide +kernel
theorem dFa_within_40 : decode bFa_within 40 = .ok (.aload_n 0, 1) := by decide +kernel
theorem dFa_within_41 : decode bFa_within 41 = .ok (.getfield 33, 3) := by decide +kernel
theorem dFa_within_44 : decode bFa_within 44 = .ok (.invokevirtual 102, 3) := by decide +kernel
theorem dFa_within_47 : decode bFa_within 47 = .ok (.ireturn, 1) := by decide +kernel
abbrev wFa_within : List Cond := Cond.code yFa_within bFa_within 5 (some .int)   :: tbl
theorem kcFa_within : Cond.code yFa_within bFa_within 5 (some .int) ∈ tbl := tb3 31 (by decide +kernel) (by decide +kernel)
theorem kiFa_within : Cond.instanceMethod yFa_within ∈ tbl := tb3 29 (by decide +kernel) (by decide +kernel)
theorem ksFa_within : Cond.selects yFa_within.cls yFa_within yFa_within ∈ tbl := tb3 30 (by decide +kernel) (by decide +kernel)
theorem dFa_pick_0 : decode bFa_pick 0 = .ok (.aload_n 0, 1) := by decide +kernel
theorem dFa_pick_1 : decode bFa_pick 1 = .ok (.getfield 37, 3) := by decide +kernel
theorem dFa_pick_4 : decode bFa_pick 4 = .ok (.ifCond .ne 6, 3) := by decide +kernel
theorem dFa_pick_7 : decode bFa_pick 7 = .ok (.bipush (-3), 2) := by decide +kernel
theorem dFa_pick_9 : decode bFa_pick 9 = .ok (.ireturn, 1) := by decide +kernel
theorem dFa_pick_10 : decode bFa_pick 10 = .ok (.iload_n 1, 1) := by decide +kernel
theorem dFa_pick_11 : decode bFa_pick 11 = .ok (.iload_n 2, 1) := by decide +kernel
theorem dFa_pick_12 : decode bFa_pick 12 = .ok (.iload_n 3, 1) := by decide +kernel
theorem dFa_pick_13 : decode bFa_pick 13 = .ok (.iload 4, 2) := by decide +kernel
theorem dFa_pick_15 : decode bFa_pick 15 = .ok (.invokestatic 52, 3) := by decide +kernel
theorem dFa_pick_18 : decode bFa_pick 18 = .ok (.ifCond .ne 5, 3) := by decide +kernel
theorem dFa_pick_21 : decode bFa_pick 21 = .ok (.iconst (-1), 1) := by decide +kernel
theorem dFa_pick_22 : decode bFa_pick 22 = .ok (.ireturn, 1) := by decide +kernel
theorem dFa_pick_23 : decode bFa_pick 23 = .ok (.aload_n 0, 1) := by decide +kernel
theorem dFa_pick_24 : decode bFa_pick 24 = .ok (.iload_n 1, 1) := by decide +kernel
theorem dFa_pick_25 : decode bFa_pick 25 = .ok (.iload_n 2, 1) := by decide +kernel
theorem dFa_pick_26 : decode bFa_pick 26 = .ok (.iload_n 3, 1) := by decide +kernel
theorem dFa_pick_27 : decode bFa_pick 27 = .ok (.iload 4, 2) := by decide +kernel
theorem dFa_pick_29 : decode bFa_pick 29 = .ok (.invokevirtual 75, 3) := by decide +kernel
theorem dFa_pick_32 : decode bFa_pick 32 = .ok (.iload 5, 2) := by decide +kernel
theorem dFa_pick_34 : decode bFa_pick 34 = .ok (.ifCond .lt 15, 3) := by decide +kernel
theorem dFa_pick_37 : decode bFa_pick 37 = .ok (.iload 5, 2) := by decide +kernel
theorem dFa_pick_39 : decode bFa_pick 39 = .ok (.aload_n 0, 1) := by decide +kernel
theorem dFa_pick_40 : decode bFa_pick 40 = .ok (.getfield 26, 3) := by decide +kernel
theorem dFa_pick_43 : decode bFa_pick 43 = .ok (.getfield 79, 3) := by decide +kernel
theorem dFa_pick_46 : decode bFa_pick 46 = .ok (.if_icmp .lt 5, 3) := by decide +kernel
theorem dFa_pick_49 : decode bFa_pick 49 = .ok (.iconst (-1), 1) := by decide +kernel
theorem dFa_pick_50 : decode bFa_pick 50 = .ok (.ireturn, 1) := by decide +kernel
theorem dFa_pick_51 : decode bFa_pick 51 = .ok (.aload_n 0, 1) := by decide +kernel
theorem dFa_pick_52 : decode bFa_pick 52 = .ok (.invokevirtual 99, 3) := by decide +kernel
theorem dFa_pick_55 : decode bFa_pick 55 = .ok (.aload_n 0, 1) := by decide +kernel
theorem dFa_pick_56 : decode bFa_pick 56 = .ok (.getfield 26, 3) := by decide +kernel
theorem dFa_pick_59 : decode bFa_pick 59 = .ok (.getfield 82, 3) := by decide +kernel
theorem dFa_pick_62 : decode bFa_pick 62 = .ok (.iload 5, 2) := by decide +kernel
theorem dFa_pick_64 : decode bFa_pick 64 = .ok (.aaload, 1) := by decide +kernel
theorem dFa_pick_65 : decode bFa_pick 65 = .ok (.getfield 86, 3) := by decide +kernel
theorem dFa_pick_68 : decode bFa_pick 68 = .ok (.ireturn, 1) := by decide +kernel
abbrev wFa_pick : List Cond := Cond.code yFa_pick bFa_pick 6 (some .int)   :: tbl
theorem kcFa_pick : Cond.code yFa_pick bFa_pick 6 (some .int) ∈ tbl := tb3 40 (by decide +kernel) (by decide +kernel)
theorem kiFa_pick : Cond.instanceMethod yFa_pick ∈ tbl := tb3 38 (by decide +kernel) (by decide +kernel)
theorem ksFa_pick : Cond.selects yFa_pick.cls yFa_pick yFa_pick ∈ tbl := tb3 39 (by decide +kernel) (by decide +kernel)
theorem dFa_distance_0 : decode bFa_distance 0 = .ok (.aload_n 0, 1) := by decide +kernel
theorem dFa_distance_1 : decode bFa_distance 1 = .ok (.getfield 37, 3) := by decide +kernel
theorem dFa_distance_4 : decode bFa_distance 4 = .ok (.ifCond .ne 7, 3) := by decide +kernel
theorem dFa_distance_7 : decode bFa_distance 7 = .ok (.ldc2_w 106, 3) := by decide +kernel
theorem dFa_distance_10 : decode bFa_distance 10 = .ok (.lreturn, 1) := by decide +kernel
theorem dFa_distance_11 : decode bFa_distance 11 = .ok (.iload_n 1, 1) := by decide +kernel
theorem dFa_distance_12 : decode bFa_distance 12 = .ok (.invokestatic 108, 3) := by decide +kernel
theorem dFa_distance_15 : decode bFa_distance 15 = .ok (.ifCond .eq 20, 3) := by decide +kernel
theorem dFa_distance_18 : decode bFa_distance 18 = .ok (.iload_n 2, 1) := by decide +kernel
theorem dFa_distance_19 : decode bFa_distance 19 = .ok (.invokestatic 108, 3) := by decide +kernel
theorem dFa_distance_22 : decode bFa_distance 22 = .ok (.ifCond .eq 13, 3) := by decide +kernel
theorem dFa_distance_25 : decode bFa_distance 25 = .ok (.aload_n 0, 1) := by decide +kernel
theorem dFa_distance_26 : decode bFa_distance 26 = .ok (.getfield 19, 3) := by decide +kernel
theorem dFa_distance_29 : decode bFa_distance 29 = .ok (.getfield 56, 3) := by decide +kernel
theorem dFa_distance_32 : decode bFa_distance 32 = .ok (.ifCond .ne 7, 3) := by decide +kernel
theorem dFa_distance_35 : decode bFa_distance 35 = .ok (.ldc2_w 111, 3) := by decide +kernel
theorem dFa_distance_38 : decode bFa_distance 38 = .ok (.lreturn, 1) := by decide +kernel
theorem dFa_distance_39 : decode bFa_distance 39 = .ok (.aload_n 0, 1) := by decide +kernel
theorem dFa_distance_40 : decode bFa_distance 40 = .ok (.iload_n 1, 1) := by decide +kernel
theorem dFa_distance_41 : decode bFa_distance 41 = .ok (.iload_n 2, 1) := by decide +kernel
theorem dFa_distance_42 : decode bFa_distance 42 = .ok (.invokevirtual 113, 3) := by decide +kernel
theorem dFa_distance_45 : decode bFa_distance 45 = .ok (.aload_n 0, 1) := by decide +kernel
theorem dFa_distance_46 : decode bFa_distance 46 = .ok (.getfield 26, 3) := by decide +kernel
theorem dFa_distance_49 : decode bFa_distance 49 = .ok (.getfield 117, 3) := by decide +kernel
theorem dFa_distance_52 : decode bFa_distance 52 = .ok (.lreturn, 1) := by decide +kernel
abbrev wFa_distance : List Cond := Cond.code yFa_distance bFa_distance 3 (some .long)   :: tbl
theorem kcFa_distance : Cond.code yFa_distance bFa_distance 3 (some .long) ∈ tbl := tb3 44 (by decide +kernel) (by decide +kernel)
theorem kiFa_distance : Cond.instanceMethod yFa_distance ∈ tbl := tb3 42 (by decide +kernel) (by decide +kernel)
theorem ksFa_distance : Cond.selects yFa_distance.cls yFa_distance yFa_distance ∈ tbl := tb3 43 (by decide +kernel) (by decide +kernel)
theorem dFa_nearest_0 : decode bFa_nearest 0 = .ok (.aload_n 0, 1) := by decide +kernel
theorem dFa_nearest_1 : decode bFa_nearest 1 = .ok (.getfield 37, 3) := by decide +kernel
theorem dFa_nearest_4 : decode bFa_nearest 4 = .ok (.ifCond .ne 6, 3) := by decide +kernel
theorem dFa_nearest_7 : decode bFa_nearest 7 = .ok (.bipush (-3), 2) := by decide +kernel
theorem dFa_nearest_9 : decode bFa_nearest 9 = .ok (.ireturn, 1) := by decide +kernel
theorem dFa_nearest_10 : decode bFa_nearest 10 = .ok (.iload_n 1, 1) := by decide +kernel
theorem dFa_nearest_11 : decode bFa_nearest 11 = .ok (.invokestatic 108, 3) := by decide +kernel
theorem dFa_nearest_14 : decode bFa_nearest 14 = .ok (.ifCond .eq 20, 3) := by decide +kernel
theorem dFa_nearest_17 : decode bFa_nearest 17 = .ok (.iload_n 2, 1) := by decide +kernel
theorem dFa_nearest_18 : decode bFa_nearest 18 = .ok (.invokestatic 108, 3) := by decide +kernel
theorem dFa_nearest_21 : decode bFa_nearest 21 = .ok (.ifCond .eq 13, 3) := by decide +kernel
theorem dFa_nearest_24 : decode bFa_nearest 24 = .ok (.aload_n 0, 1) := by decide +kernel
theorem dFa_nearest_25 : decode bFa_nearest 25 = .ok (.getfield 19, 3) := by decide +kernel
theorem dFa_nearest_28 : decode bFa_nearest 28 = .ok (.getfield 56, 3) := by decide +kernel
theorem dFa_nearest_31 : decode bFa_nearest 31 = .ok (.ifCond .ne 5, 3) := by decide +kernel
theorem dFa_nearest_34 : decode bFa_nearest 34 = .ok (.iconst (-1), 1) := by decide +kernel
theorem dFa_nearest_35 : decode bFa_nearest 35 = .ok (.ireturn, 1) := by decide +kernel
theorem dFa_nearest_36 : decode bFa_nearest 36 = .ok (.aload_n 0, 1) := by decide +kernel
theorem dFa_nearest_37 : decode bFa_nearest 37 = .ok (.iload_n 1, 1) := by decide +kernel
theorem dFa_nearest_38 : decode bFa_nearest 38 = .ok (.iload_n 2, 1) := by decide +kernel
theorem dFa_nearest_39 : decode bFa_nearest 39 = .ok (.invokevirtual 113, 3) := by decide +kernel
theorem dFa_nearest_42 : decode bFa_nearest 42 = .ok (.aload_n 0, 1) := by decide +kernel
theorem dFa_nearest_43 : decode bFa_nearest 43 = .ok (.getfield 26, 3) := by decide +kernel
theorem dFa_nearest_46 : decode bFa_nearest 46 = .ok (.getfield 121, 3) := by decide +kernel
theorem dFa_nearest_49 : decode bFa_nearest 49 = .ok (.getfield 86, 3) := by decide +kernel
theorem dFa_nearest_52 : decode bFa_nearest 52 = .ok (.ireturn, 1) := by decide +kernel
abbrev wFa_nearest : List Cond := Cond.code yFa_nearest bFa_nearest 3 (some .int)   :: tbl
theorem kcFa_nearest : Cond.code yFa_nearest bFa_nearest 3 (some .int) ∈ tbl := tb3 75 (by decide +kernel) (by decide +kernel)
theorem kiFa_nearest : Cond.instanceMethod yFa_nearest ∈ tbl := tb3 73 (by decide +kernel) (by decide +kernel)
theorem ksFa_nearest : Cond.selects yFa_nearest.cls yFa_nearest yFa_nearest ∈ tbl := tb3 74 (by decide +kernel) (by decide +kernel)
theorem dFa_around_0 : decode bFa_around 0 = .ok (.aload_n 0, 1) := by decide +kernel
theorem dFa_around_1 : decode bFa_around 1 = .ok (.getfield 37, 3) := by decide +kernel
theorem dFa_around_4 : decode bFa_around 4 = .ok (.ifCond .eq 13, 3) := by decide +kernel
theorem dFa_around_7 : decode bFa_around 7 = .ok (.aload_n 0, 1) := by decide +kernel
theorem dFa_around_8 : decode bFa_around 8 = .ok (.getfield 19, 3) := by decide +kernel
theorem dFa_around_11 : decode bFa_around 11 = .ok (.getfield 56, 3) := by decide +kernel
theorem dFa_around_14 : decode bFa_around 14 = .ok (.ifCond .ne 6, 3) := by decide +kernel
theorem dFa_around_17 : decode bFa_around 17 = .ok (.ldc 124, 2) := by decide +kernel
theorem dFa_around_19 : decode bFa_around 19 = .ok (.ireturn, 1) := by decide +kernel
theorem dFa_around_20 : decode bFa_around 20 = .ok (.aload_n 0, 1) := by decide +kernel
theorem dFa_around_21 : decode bFa_around 21 = .ok (.getfield 19, 3) := by decide +kernel
theorem dFa_around_24 : decode bFa_around 24 = .ok (.aload_n 0, 1) := by decide +kernel
theorem dFa_around_25 : decode bFa_around 25 = .ok (.getfield 19, 3) := by decide +kernel
theorem dFa_around_28 : decode bFa_around 28 = .ok (.getfield 125, 3) := by decide +kernel
theorem dFa_around_31 : decode bFa_around 31 = .ok (.invokevirtual 128, 3) := by decide +kernel
theorem dFa_around_34 : decode bFa_around 34 = .ok (.iconst (-1), 1) := by decide +kernel
theorem dFa_around_35 : decode bFa_around 35 = .ok (.aload_n 0, 1) := by decide +kernel
theorem dFa_around_36 : decode bFa_around 36 = .ok (.getfield 33, 3) := by decide +kernel
theorem dFa_around_39 : decode bFa_around 39 = .ok (.invokevirtual 132, 3) := by decide +kernel
theorem dFa_around_42 : decode bFa_around 42 = .ok (.iload_n 1, 1) := by decide +kernel
theorem dFa_around_43 : decode bFa_around 43 = .ok (.tableswitch 61 0 3 #[29, 37, 45, 53], 29) := by decide +kernel
theorem dFa_around_72 : decode bFa_around 72 = .ok (.aload_n 0, 1) := by decide +kernel
theorem dFa_around_73 : decode bFa_around 73 = .ok (.getfield 33, 3) := by decide +kernel
theorem dFa_around_76 : decode bFa_around 76 = .ok (.getfield 138, 3) := by decide +kernel
theorem dFa_around_79 : decode bFa_around 79 = .ok (.ireturn, 1) := by decide +kernel
theorem dFa_around_80 : decode bFa_around 80 = .ok (.aload_n 0, 1) := by decide +kernel
theorem dFa_around_81 : decode bFa_around 81 = .ok (.getfield 33, 3) := by decide +kernel
theorem dFa_around_84 : decode bFa_around 84 = .ok (.getfield 141, 3) := by decide +kernel
theorem dFa_around_87 : decode bFa_around 87 = .ok (.ireturn, 1) := by decide +kernel
theorem dFa_around_88 : decode bFa_around 88 = .ok (.aload_n 0, 1) := by decide +kernel
theorem dFa_around_89 : decode bFa_around 89 = .ok (.getfield 33, 3) := by decide +kernel
theorem dFa_around_92 : decode bFa_around 92 = .ok (.getfield 144, 3) := by decide +kernel
theorem dFa_around_95 : decode bFa_around 95 = .ok (.ireturn, 1) := by decide +kernel
theorem dFa_around_96 : decode bFa_around 96 = .ok (.aload_n 0, 1) := by decide +kernel
theorem dFa_around_97 : decode bFa_around 97 = .ok (.getfield 33, 3) := by decide +kernel
theorem dFa_around_100 : decode bFa_around 100 = .ok (.getfield 147, 3) := by decide +kernel
theorem dFa_around_103 : decode bFa_around 103 = .ok (.ireturn, 1) := by decide +kernel
theorem dFa_around_104 : decode bFa_around 104 = .ok (.ldc 124, 2) := by decide +kernel
theorem dFa_around_106 : decode bFa_around 106 = .ok (.ireturn, 1) := by decide +kernel
abbrev wFa_around : List Cond := Cond.code yFa_around bFa_around 2 (some .int)   :: tbl
theorem kcFa_around : Cond.code yFa_around bFa_around 2 (some .int) ∈ tbl := tb3 79 (by decide +kernel) (by decide +kernel)
theorem kiFa_around : Cond.instanceMethod yFa_around ∈ tbl := tb3 77 (by decide +kernel) (by decide +kernel)
theorem ksFa_around : Cond.selects yFa_around.cls yFa_around yFa_around ∈ tbl := tb3 78 (by decide +kernel) (by decide +kernel)
theorem dFa_sound_0 : decode bFa_sound 0 = .ok (.aload_n 0, 1) := by decide +kernel
theorem dFa_sound_1 : decode bFa_sound 1 = .ok (.getfield 37, 3) := by decide +kernel
theorem dFa_sound_4 : decode bFa_sound 4 = .ok (.ifCond .eq 17, 3) := by decide +kernel
theorem dFa_sound_7 : decode bFa_sound 7 = .ok (.aload_n 0, 1) := by decide +kernel
theorem dFa_sound_8 : decode bFa_sound 8 = .ok (.getfield 19, 3) := by decide +kernel
theorem dFa_sound_11 : decode bFa_sound 11 = .ok (.invokevirtual 150, 3) := by decide +kernel
theorem dFa_sound_14 : decode bFa_sound 14 = .ok (.ifCond .eq 7, 3) := by decide +kernel
theorem dFa_sound_17 : decode bFa_sound 17 = .ok (.iconst 1, 1) := by decide +kernel
theorem dFa_sound_18 : decode bFa_sound 18 = .ok (.goto 4, 3) := by decide +kernel
theorem dFa_sound_21 : decode bFa_sound 21 = .ok (.iconst 0, 1) := by decide +kernel
theorem dFa_sound_22 : decode bFa_sound 22 = .ok (.ireturn, 1) := by decide +kernel
abbrev wFa_sound : List Cond := Cond.code yFa_sound bFa_sound 1 (some .boolean)   :: tbl
theorem kcFa_sound : Cond.code yFa_sound bFa_sound 1 (some .boolean) ∈ tbl := tb3 86 (by decide +kernel) (by decide +kernel)
theorem kiFa_sound : Cond.instanceMethod yFa_sound ∈ tbl := tb3 84 (by decide +kernel) (by decide +kernel)
theorem ksFa_sound : Cond.selects yFa_sound.cls yFa_sound yFa_sound ∈ tbl := tb3 85 (by decide +kernel) (by decide +kernel)
theorem dFa_frugal_0 : decode bFa_frugal 0 = .ok (.aload_n 0, 1) := by decide +kernel
theorem dFa_frugal_1 : decode bFa_frugal 1 = .ok (.getfield 41, 3) := by decide +kernel
theorem dFa_frugal_4 : decode bFa_frugal 4 = .ok (.ireturn, 1) := by decide +kernel
abbrev wFa_frugal : List Cond := Cond.code yFa_frugal bFa_frugal 1 (some .boolean)   :: tbl
theorem kcFa_frugal : Cond.code yFa_frugal bFa_frugal 1 (some .boolean) ∈ tbl := tb3 97 (by decide +kernel) (by decide +kernel)
theorem kiFa_frugal : Cond.instanceMethod yFa_frugal ∈ tbl := tb3 95 (by decide +kernel) (by decide +kernel)
theorem ksFa_frugal : Cond.selects yFa_frugal.cls yFa_frugal yFa_frugal ∈ tbl := tb3 96 (by decide +kernel) (by decide +kernel)
theorem dFa_isName_0 : decode bFa_isName 0 = .ok (.iload_n 0, 1) := by decide +kernel
theorem dFa_isName_1 : decode bFa_isName 1 = .ok (.ifCond .lt 14, 3) := by decide +kernel
theorem dFa_isName_4 : decode bFa_isName 4 = .ok (.iload_n 0, 1) := by decide +kernel
theorem dFa_isName_5 : decode bFa_isName 5 = .ok (.sipush 999, 3) := by decide +kernel
theorem dFa_isName_8 : decode bFa_isName 8 = .ok (.if_icmp .gt 7, 3) := by decide +kernel
theorem dFa_isName_11 : decode bFa_isName 11 = .ok (.iconst 1, 1) := by decide +kernel
theorem dFa_isName_12 : decode bFa_isName 12 = .ok (.goto 4, 3) := by decide +kernel
theorem dFa_isName_15 : decode bFa_isName 15 = .ok (.iconst 0, 1) := by decide +kernel
theorem dFa_isName_16 : decode bFa_isName 16 = .ok (.ireturn, 1) := by decide +kernel
abbrev wFa_isName : List Cond := Cond.code yFa_isName bFa_isName 1 (some .boolean)   :: tbl
theorem kcFa_isName : Cond.code yFa_isName bFa_isName 1 (some .boolean) ∈ tbl := tb1 217 (by decide +kernel) (by decide +kernel)
theorem ktFa_isName : Cond.static yFa_isName ∈ tbl := tb1 216 (by decide +kernel) (by decide +kernel)
theorem dFa_isCoordinate_0 : decode bFa_isCoordinate 0 = .ok (.iload_n 0, 1) := by decide +kernel
theorem dFa_isCoordinate_1 : decode bFa_isCoordinate 1 = .ok (.ldc 154, 2) := by decide +kernel
theorem dFa_isCoordinate_3 : decode bFa_isCoordinate 3 = .ok (.if_icmp .lt 13, 3) := by decide +kernel
theorem dFa_isCoordinate_6 : decode bFa_isCoordinate 6 = .ok (.iload_n 0, 1) := by decide +kernel
theorem dFa_isCoordinate_7 : decode bFa_isCoordinate 7 = .ok (.ldc 155, 2) := by decide +kernel
theorem dFa_isCoordinate_9 : decode bFa_isCoordinate 9 = .ok (.if_icmp .gt 7, 3) := by decide +kernel
theorem dFa_isCoordinate_12 : decode bFa_isCoordinate 12 = .ok (.iconst 1, 1) := by decide +kernel
theorem dFa_isCoordinate_13 : decode bFa_isCoordinate 13 = .ok (.goto 4, 3) := by decide +kernel
theorem dFa_isCoordinate_16 : decode bFa_isCoordinate 16 = .ok (.iconst 0, 1) := by decide +kernel
theorem dFa_isCoordinate_17 : decode bFa_isCoordinate 17 = .ok (.ireturn, 1) := by decide +kernel
abbrev wFa_isCoordinate : List Cond := Cond.code yFa_isCoordinate bFa_isCoordinate 1 (some .boolean)   :: tbl
theorem kcFa_isCoordinate : Cond.code yFa_isCoordinate bFa_isCoordinate 1 (some .boolean) ∈ tbl := tb1 223 (by decide +kernel) (by decide +kernel)
theorem ktFa_isCoordinate : Cond.static yFa_isCoordinate ∈ tbl := tb1 222 (by decide +kernel) (by decide +kernel)
theorem dFa_isRectangle_0 : decode bFa_isRectangle 0 = .ok (.iload_n 0, 1) := by decide +kernel
theorem dFa_isRectangle_1 : decode bFa_isRectangle 1 = .ok (.invokestatic 108, 3) := by decide +kernel
theorem dFa_isRectangle_4 : decode bFa_isRectangle 4 = .ok (.ifCond .eq 38, 3) := by decide +kernel
theorem dFa_isRectangle_7 : decode bFa_isRectangle 7 = .ok (.iload_n 1, 1) := by decide +kernel
theorem dFa_isRectangle_8 : decode bFa_isRectangle 8 = .ok (.invokestatic 108, 3) := by decide +kernel
theorem dFa_isRectangle_11 : decode bFa_isRectangle 11 = .ok (.ifCond .eq 31, 3) := by decide +kernel
theorem dFa_isRectangle_14 : decode bFa_isRectangle 14 = .ok (.iload_n 2, 1) := by decide +kernel
theorem dFa_isRectangle_15 : decode bFa_isRectangle 15 = .ok (.invokestatic 108, 3) := by decide +kernel
theorem dFa_isRectangle_18 : decode bFa_isRectangle 18 = .ok (.ifCond .eq 24, 3) := by decide +kernel
theorem dFa_isRectangle_21 : decode bFa_isRectangle 21 = .ok (.iload_n 3, 1) := by decide +kernel
theorem dFa_isRectangle_22 : decode bFa_isRectangle 22 = .ok (.invokestatic 108, 3) := by decide +kernel
theorem dFa_isRectangle_25 : decode bFa_isRectangle 25 = .ok (.ifCond .eq 17, 3) := by decide +kernel
theorem dFa_isRectangle_28 : decode bFa_isRectangle 28 = .ok (.iload_n 0, 1) := by decide +kernel
theorem dFa_isRectangle_29 : decode bFa_isRectangle 29 = .ok (.iload_n 2, 1) := by decide +kernel
theorem dFa_isRectangle_30 : decode bFa_isRectangle 30 = .ok (.if_icmp .gt 12, 3) := by decide +kernel
theorem dFa_isRectangle_33 : decode bFa_isRectangle 33 = .ok (.iload_n 1, 1) := by decide +kernel
theorem dFa_isRectangle_34 : decode bFa_isRectangle 34 = .ok (.iload_n 3, 1) := by decide +kernel
theorem dFa_isRectangle_35 : decode bFa_isRectangle 35 = .ok (.if_icmp .gt 7, 3) := by decide +kernel
theorem dFa_isRectangle_38 : decode bFa_isRectangle 38 = .ok (.iconst 1, 1) := by decide +kernel
theorem dFa_isRectangle_39 : decode bFa_isRectangle 39 = .ok (.goto 4, 3) := by decide +kernel
theorem dFa_isRectangle_42 : decode bFa_isRectangle 42 = .ok (.iconst 0, 1) := by decide +kernel
theorem dFa_isRectangle_43 : decode bFa_isRectangle 43 = .ok (.ireturn, 1) := by decide +kernel
abbrev wFa_isRectangle : List Cond := Cond.code yFa_isRectangle bFa_isRectangle 4 (some .boolean)   :: tbl
theorem kcFa_isRectangle : Cond.code yFa_isRectangle bFa_isRectangle 4 (some .boolean) ∈ tbl := tb1 220 (by decide +kernel) (by decide +kernel)
theorem ktFa_isRectangle : Cond.static yFa_isRectangle ∈ tbl := tb1 219 (by decide +kernel) (by decide +kernel)
theorem dFa_searchWindow_0 : decode bFa_searchWindow 0 = .ok (.aload_n 0, 1) := by decide +kernel
theorem dFa_searchWindow_1 : decode bFa_searchWindow 1 = .ok (.getfield 33, 3) := by decide +kernel
theorem dFa_searchWindow_4 : decode bFa_searchWindow 4 = .ok (.iload_n 1, 1) := by decide +kernel
theorem dFa_searchWindow_5 : decode bFa_searchWindow 5 = .ok (.iload_n 2, 1) := by decide +kernel
theorem dFa_searchWindow_6 : decode bFa_searchWindow 6 = .ok (.iload_n 3, 1) := by decide +kernel
theorem dFa_searchWindow_7 : decode bFa_searchWindow 7 = .ok (.iload 4, 2) := by decide +kernel
theorem dFa_searchWindow_9 : decode bFa_searchWindow 9 = .ok (.iconst 0, 1) := by decide +kernel
theorem dFa_searchWindow_10 : decode bFa_searchWindow 10 = .ok (.invokevirtual 59, 3) := by decide +kernel
theorem dFa_searchWindow_13 : decode bFa_searchWindow 13 = .ok (.aload_n 0, 1) := by decide +kernel
theorem dFa_searchWindow_14 : decode bFa_searchWindow 14 = .ok (.getfield 26, 3) := by decide +kernel
theorem dFa_searchWindow_17 : decode bFa_searchWindow 17 = .ok (.aload_n 0, 1) := by decide +kernel
theorem dFa_searchWindow_18 : decode bFa_searchWindow 18 = .ok (.getfield 19, 3) := by decide +kernel
theorem dFa_searchWindow_21 : decode bFa_searchWindow 21 = .ok (.aload_n 0, 1) := by decide +kernel
theorem dFa_searchWindow_22 : decode bFa_searchWindow 22 = .ok (.getfield 33, 3) := by decide +kernel
theorem dFa_searchWindow_25 : decode bFa_searchWindow 25 = .ok (.invokevirtual 156, 3) := by decide +kernel
theorem dFa_searchWindow_28 : decode bFa_searchWindow 28 = .ok (.return_, 1) := by decide +kernel
abbrev wFa_searchWindow : List Cond := Cond.code yFa_searchWindow bFa_searchWindow 5 none   :: tbl
theorem kcFa_searchWindow : Cond.code yFa_searchWindow bFa_searchWindow 5 none ∈ tbl := tb2 189 (by decide +kernel) (by decide +kernel)
theorem kiFa_searchWindow : Cond.instanceMethod yFa_searchWindow ∈ tbl := tb2 188 (by decide +kernel) (by decide +kernel)
theorem ksFa_searchWindow : Cond.selects yFa_searchWindow.cls yFa_searchWindow yFa_searchWindow ∈ tbl := tb0 16 (by decide +kernel) (by decide +kernel)
theorem dFa_noteThrift_0 : decode bFa_noteThrift 0 = .ok (.aload_n 0, 1) := by decide +kernel
theorem dFa_noteThrift_1 : decode bFa_noteThrift 1 = .ok (.aload_n 0, 1) := by decide +kernel
theorem dFa_noteThrift_2 : decode bFa_noteThrift 2 = .ok (.getfield 26, 3) := by decide +kernel
theorem dFa_noteThrift_5 : decode bFa_noteThrift 5 = .ok (.aload_n 0, 1) := by decide +kernel
theorem dFa_noteThrift_6 : decode bFa_noteThrift 6 = .ok (.getfield 19, 3) := by decide +kernel
theorem dFa_noteThrift_9 : decode bFa_noteThrift 9 = .ok (.aload_n 0, 1) := by decide +kernel
theorem dFa_noteThrift_10 : decode bFa_noteThrift 10 = .ok (.getfield 33, 3) := by decide +kernel
theorem dFa_noteThrift_13 : decode bFa_noteThrift 13 = .ok (.invokevirtual 160, 3) := by decide +kernel
theorem dFa_noteThrift_16 : decode bFa_noteThrift 16 = .ok (.putfield 41, 3) := by decide +kernel
theorem dFa_noteThrift_19 : decode bFa_noteThrift 19 = .ok (.return_, 1) := by decide +kernel
abbrev wFa_noteThrift : List Cond := Cond.code yFa_noteThrift bFa_noteThrift 1 none   :: tbl
theorem kcFa_noteThrift : Cond.code yFa_noteThrift bFa_noteThrift 1 none ∈ tbl := tb3 22 (by decide +kernel) (by decide +kernel)
theorem kiFa_noteThrift : Cond.instanceMethod yFa_noteThrift ∈ tbl := tb3 21 (by decide +kernel) (by decide +kernel)
theorem ksFa_noteThrift : Cond.selects yFa_noteThrift.cls yFa_noteThrift yFa_noteThrift ∈ tbl := tb0 21 (by decide +kernel) (by decide +kernel)
theorem dFa_searchPoint_0 : decode bFa_searchPoint 0 = .ok (.aload_n 0, 1) := by decide +kernel
theorem dFa_searchPoint_1 : decode bFa_searchPoint 1 = .ok (.getfield 26, 3) := by decide +kernel
theorem dFa_searchPoint_4 : decode bFa_searchPoint 4 = .ok (.aload_n 0, 1) := by decide +kernel
theorem dFa_searchPoint_5 : decode bFa_searchPoint 5 = .ok (.getfield 19, 3) := by decide +kernel
theorem dFa_searchPoint_8 : decode bFa_searchPoint 8 = .ok (.iload_n 1, 1) := by decide +kernel
theorem dFa_searchPoint_9 : decode bFa_searchPoint 9 = .ok (.iload_n 2, 1) := by decide +kernel
theorem dFa_searchPoint_10 : decode bFa_searchPoint 10 = .ok (.invokevirtual 164, 3) := by decide +kernel
theorem dFa_searchPoint_13 : decode bFa_searchPoint 13 = .ok (.aload_n 0, 1) := by decide +kernel
theorem dFa_searchPoint_14 : decode bFa_searchPoint 14 = .ok (.aload_n 0, 1) := by decide +kernel
theorem dFa_searchPoint_15 : decode bFa_searchPoint 15 = .ok (.getfield 26, 3) := by decide +kernel
theorem dFa_searchPoint_18 : decode bFa_searchPoint 18 = .ok (.aload_n 0, 1) := by decide +kernel
theorem dFa_searchPoint_19 : decode bFa_searchPoint 19 = .ok (.getfield 19, 3) := by decide +kernel
theorem dFa_searchPoint_22 : decode bFa_searchPoint 22 = .ok (.iload_n 1, 1) := by decide +kernel
theorem dFa_searchPoint_23 : decode bFa_searchPoint 23 = .ok (.iload_n 2, 1) := by decide +kernel
theorem dFa_searchPoint_24 : decode bFa_searchPoint 24 = .ok (.invokevirtual 168, 3) := by decide +kernel
theorem dFa_searchPoint_27 : decode bFa_searchPoint 27 = .ok (.putfield 41, 3) := by decide +kernel
theorem dFa_searchPoint_30 : decode bFa_searchPoint 30 = .ok (.return_, 1) := by decide +kernel
abbrev wFa_searchPoint : List Cond := Cond.code yFa_searchPoint bFa_searchPoint 3 none   :: tbl
theorem kcFa_searchPoint : Cond.code yFa_searchPoint bFa_searchPoint 3 none ∈ tbl := tb3 50 (by decide +kernel) (by decide +kernel)
theorem kiFa_searchPoint : Cond.instanceMethod yFa_searchPoint ∈ tbl := tb3 49 (by decide +kernel) (by decide +kernel)
theorem ksFa_searchPoint : Cond.selects yFa_searchPoint.cls yFa_searchPoint yFa_searchPoint ∈ tbl := tb0 22 (by decide +kernel) (by decide +kernel)
theorem dFa_settle_0 : decode bFa_settle 0 = .ok (.aload_n 0, 1) := by decide +kernel
theorem dFa_settle_1 : decode bFa_settle 1 = .ok (.getfield 44, 3) := by decide +kernel
theorem dFa_settle_4 : decode bFa_settle 4 = .ok (.istore_n 2, 1) := by decide +kernel
theorem dFa_settle_5 : decode bFa_settle 5 = .ok (.aload_n 0, 1) := by decide +kernel
theorem dFa_settle_6 : decode bFa_settle 6 = .ok (.iconst (-1), 1) := by decide +kernel
theorem dFa_settle_7 : decode bFa_settle 7 = .ok (.putfield 44, 3) := by decide +kernel
theorem dFa_settle_10 : decode bFa_settle 10 = .ok (.aload_n 0, 1) := by decide +kernel
theorem dFa_settle_11 : decode bFa_settle 11 = .ok (.getfield 12, 3) := by decide +kernel
theorem dFa_settle_14 : decode bFa_settle 14 = .ok (.aload_n 0, 1) := by decide +kernel
theorem dFa_settle_15 : decode bFa_settle 15 = .ok (.getfield 19, 3) := by decide +kernel
theorem dFa_settle_18 : decode bFa_settle 18 = .ok (.iload_n 2, 1) := by decide +kernel
theorem dFa_settle_19 : decode bFa_settle 19 = .ok (.invokevirtual 172, 3) := by decide +kernel
theorem dFa_settle_22 : decode bFa_settle 22 = .ok (.ifCond .eq 12, 3) := by decide +kernel
theorem dFa_settle_25 : decode bFa_settle 25 = .ok (.aload_n 0, 1) := by decide +kernel
theorem dFa_settle_26 : decode bFa_settle 26 = .ok (.getfield 19, 3) := by decide +kernel
theorem dFa_settle_29 : decode bFa_settle 29 = .ok (.invokevirtual 176, 3) := by decide +kernel
theorem dFa_settle_32 : decode bFa_settle 32 = .ok (.iload_n 1, 1) := by decide +kernel
theorem dFa_settle_33 : decode bFa_settle 33 = .ok (.ireturn, 1) := by decide +kernel
theorem dFa_settle_34 : decode bFa_settle 34 = .ok (.aload_n 0, 1) := by decide +kernel
theorem dFa_settle_35 : decode bFa_settle 35 = .ok (.invokevirtual 89, 3) := by decide +kernel
theorem dFa_settle_38 : decode bFa_settle 38 = .ok (.bipush (-4), 2) := by decide +kernel
theorem dFa_settle_40 : decode bFa_settle 40 = .ok (.ireturn, 1) := by decide +kernel
abbrev wFa_settle : List Cond := Cond.code yFa_settle bFa_settle 3 (some .int)   :: tbl
theorem kcFa_settle : Cond.code yFa_settle bFa_settle 3 (some .int) ∈ tbl := tb2 117 (by decide +kernel) (by decide +kernel)
theorem kiFa_settle : Cond.instanceMethod yFa_settle ∈ tbl := tb2 116 (by decide +kernel) (by decide +kernel)
theorem ksFa_settle : Cond.selects yFa_settle.cls yFa_settle yFa_settle ∈ tbl := tb0 11 (by decide +kernel) (by decide +kernel)
theorem dFa_losePower_0 : decode bFa_losePower 0 = .ok (.aload_n 0, 1) := by decide +kernel
theorem dFa_losePower_1 : decode bFa_losePower 1 = .ok (.getfield 19, 3) := by decide +kernel
theorem dFa_losePower_4 : decode bFa_losePower 4 = .ok (.invokevirtual 179, 3) := by decide +kernel
theorem dFa_losePower_7 : decode bFa_losePower 7 = .ok (.aload_n 0, 1) := by decide +kernel
theorem dFa_losePower_8 : decode bFa_losePower 8 = .ok (.iconst 0, 1) := by decide +kernel
theorem dFa_losePower_9 : decode bFa_losePower 9 = .ok (.putfield 37, 3) := by decide +kernel
theorem dFa_losePower_12 : decode bFa_losePower 12 = .ok (.return_, 1) := by decide +kernel
abbrev wFa_losePower : List Cond := Cond.code yFa_losePower bFa_losePower 1 none   :: tbl
theorem kcFa_losePower : Cond.code yFa_losePower bFa_losePower 1 none ∈ tbl := tb2 161 (by decide +kernel) (by decide +kernel)
theorem kiFa_losePower : Cond.instanceMethod yFa_losePower ∈ tbl := tb2 160 (by decide +kernel) (by decide +kernel)
theorem ksFa_losePower : Cond.selects yFa_losePower.cls yFa_losePower yFa_losePower ∈ tbl := tb0 15 (by decide +kernel) (by decide +kernel)
theorem kfFa_12 : Cond.fieldLink RFa 12 (TFa 0).1 (TFa 0).2.1 (TFa 0).2.2.1 ∈ tbl := tb1 189 (by decide +kernel) (by decide +kernel)
theorem kfFa_19 : Cond.fieldLink RFa 19 (TFa 1).1 (TFa 1).2.1 (TFa 1).2.2.1 ∈ tbl := tb1 190 (by decide +kernel) (by decide +kernel)
theorem kfFa_26 : Cond.fieldLink RFa 26 (TFa 2).1 (TFa 2).2.1 (TFa 2).2.2.1 ∈ tbl := tb1 191 (by decide +kernel) (by decide +kernel)
theorem kfFa_33 : Cond.fieldLink RFa 33 (TFa 3).1 (TFa 3).2.1 (TFa 3).2.2.1 ∈ tbl := tb1 192 (by decide +kernel) (by decide +kernel)
theorem kfFa_37 : Cond.fieldLink RFa 37 (TFa 4).1 (TFa 4).2.1 (TFa 4).2.2.1 ∈ tbl := tb1 193 (by decide +kernel) (by decide +kernel)
theorem kfFa_41 : Cond.fieldLink RFa 41 (TFa 5).1 (TFa 5).2.1 (TFa 5).2.2.1 ∈ tbl := tb1 194 (by decide +kernel) (by decide +kernel)
theorem kfFa_44 : Cond.fieldLink RFa 44 (TFa 6).1 (TFa 6).2.1 (TFa 6).2.2.1 ∈ tbl := tb1 195 (by decide +kernel) (by decide +kernel)
theorem kfFa_56 : Cond.fieldLink RFa 56 (TTr 1).1 (TTr 1).2.1 (TTr 1).2.2.1 ∈ tbl := tb1 118 (by decide +kernel) (by decide +kernel)
theorem kfFa_79 : Cond.fieldLink RFa 79 (TSe 1).1 (TSe 1).2.1 (TSe 1).2.2.1 ∈ tbl := tb1 154 (by decide +kernel) (by decide +kernel)
theorem kfFa_82 : Cond.fieldLink RFa 82 (TSe 0).1 (TSe 0).2.1 (TSe 0).2.2.1 ∈ tbl := tb1 152 (by decide +kernel) (by decide +kernel)
theorem kfFa_86 : Cond.fieldLink RFa 86 (TBo 4).1 (TBo 4).2.1 (TBo 4).2.2.1 ∈ tbl := tb1 73 (by decide +kernel) (by decide +kernel)
theorem kfFa_106 : Cond.constantLong RFa 106 (-3) ∈ tbl := tb3 45 (by decide +kernel) (by decide +kernel)
theorem kfFa_111 : Cond.constantLong RFa 111 (-1) ∈ tbl := tb3 46 (by decide +kernel) (by decide +kernel)
theorem kfFa_117 : Cond.fieldLink RFa 117 (TSe 3).1 (TSe 3).2.1 (TSe 3).2.2.1 ∈ tbl := tb1 158 (by decide +kernel) (by decide +kernel)
theorem kfFa_121 : Cond.fieldLink RFa 121 (TSe 2).1 (TSe 2).2.1 (TSe 2).2.2.1 ∈ tbl := tb1 156 (by decide +kernel) (by decide +kernel)
theorem kfFa_124 : Cond.constant RFa 124 (2000000000) ∈ tbl := tb3 80 (by decide +kernel) (by decide +kernel)
theorem kfFa_125 : Cond.fieldLink RFa 125 (TTr 0).1 (TTr 0).2.1 (TTr 0).2.2.1 ∈ tbl := tb1 117 (by decide +kernel) (by decide +kernel)
theorem kfFa_138 : Cond.fieldLink RFa 138 (TBo 0).1 (TBo 0).2.1 (TBo 0).2.2.1 ∈ tbl := tb1 61 (by decide +kernel) (by decide +kernel)
theorem kfFa_141 : Cond.fieldLink RFa 141 (TBo 1).1 (TBo 1).2.1 (TBo 1).2.2.1 ∈ tbl := tb1 64 (by decide +kernel) (by decide +kernel)
theorem kfFa_144 : Cond.fieldLink RFa 144 (TBo 2).1 (TBo 2).2.1 (TBo 2).2.2.1 ∈ tbl := tb1 67 (by decide +kernel) (by decide +kernel)
theorem kfFa_147 : Cond.fieldLink RFa 147 (TBo 3).1 (TBo 3).2.1 (TBo 3).2.2.1 ∈ tbl := tb1 70 (by decide +kernel) (by decide +kernel)
theorem kfFa_154 : Cond.constant RFa 154 (-1000000000) ∈ tbl := tb1 224 (by decide +kernel) (by decide +kernel)
theorem kfFa_155 : Cond.constant RFa 155 (1000000000) ∈ tbl := tb1 225 (by decide +kernel) (by decide +kernel)
