abbrev bDi_init : ByteArray := prog_3_method_1_code
def yDi_init : MethodName := ⟨RDi, "<init>", "()V"⟩
abbrev bDi_keep : ByteArray := prog_3_method_2_code
def yDi_keep : MethodName := ⟨RDi, "keep", "(LBoxedPages$Tree;I)Z"⟩
abbrev bDi_recover : ByteArray := prog_3_method_3_code
def yDi_recover : MethodName := ⟨RDi, "recover", "()V"⟩
abbrev bDi_writeLog : ByteArray := prog_3_method_4_code
def yDi_writeLog : MethodName := ⟨RDi, "writeLog", "(LBoxedPages$Tree;I)V"⟩
abbrev bDi_writePlaces : ByteArray := prog_3_method_5_code
def yDi_writePlaces : MethodName := ⟨RDi, "writePlaces", "(I)V"⟩
abbrev bDi_emptyLog : ByteArray := prog_3_method_6_code
def yDi_emptyLog : MethodName := ⟨RDi, "emptyLog", "()V"⟩
theorem dDi_init_0 : decode bDi_init 0 = .ok (.aload_n 0, 1) := by decide +kernel
theorem dDi_init_1 : decode bDi_init 1 = .ok (.invokespecial 3, 3) := by decide +kernel
theorem dDi_init_4 : decode bDi_init 4 = .ok (.aload_n 0, 1) := by decide +kernel
theorem dDi_init_5 : decode bDi_init 5 = .ok (.bipush 40, 2) := by decide +kernel
theorem dDi_init_7 : decode bDi_init 7 = .ok (.bipush 27, 2) := by decide +kernel
theorem dDi_init_9 : decode bDi_init 9 = .ok (.multianewarray 9 2, 4) := by decide +kernel
theorem dDi_init_13 : decode bDi_init 13 = .ok (.putfield 11, 3) := by decide +kernel
theorem dDi_init_16 : decode bDi_init 16 = .ok (.aload_n 0, 1) := by decide +kernel
theorem dDi_init_17 : decode bDi_init 17 = .ok (.bipush 40, 2) := by decide +kernel
theorem dDi_init_19 : decode bDi_init 19 = .ok (.bipush 27, 2) := by decide +kernel
theorem dDi_init_21 : decode bDi_init 21 = .ok (.multianewarray 9 2, 4) := by decide +kernel
theorem dDi_init_25 : decode bDi_init 25 = .ok (.putfield 16, 3) := by decide +kernel
theorem dDi_init_28 : decode bDi_init 28 = .ok (.aload_n 0, 1) := by decide +kernel
theorem dDi_init_29 : decode bDi_init 29 = .ok (.bipush 40, 2) := by decide +kernel
theorem dDi_init_31 : decode bDi_init 31 = .ok (.newarray .int, 2) := by decide +kernel
theorem dDi_init_33 : decode bDi_init 33 = .ok (.putfield 19, 3) := by decide +kernel
theorem dDi_init_36 : decode bDi_init 36 = .ok (.aload_n 0, 1) := by decide +kernel
theorem dDi_init_37 : decode bDi_init 37 = .ok (.getfield 11, 3) := by decide +kernel
theorem dDi_init_40 : decode bDi_init 40 = .ok (.iconst 0, 1) := by decide +kernel
theorem dDi_init_41 : decode bDi_init 41 = .ok (.aaload, 1) := by decide +kernel
theorem dDi_init_42 : decode bDi_init 42 = .ok (.iconst 0, 1) := by decide +kernel
theorem dDi_init_43 : decode bDi_init 43 = .ok (.iconst 1, 1) := by decide +kernel
theorem dDi_init_44 : decode bDi_init 44 = .ok (.iastore, 1) := by decide +kernel
theorem dDi_init_45 : decode bDi_init 45 = .ok (.aload_n 0, 1) := by decide +kernel
theorem dDi_init_46 : decode bDi_init 46 = .ok (.getfield 11, 3) := by decide +kernel
theorem dDi_init_49 : decode bDi_init 49 = .ok (.iconst 1, 1) := by decide +kernel
theorem dDi_init_50 : decode bDi_init 50 = .ok (.aaload, 1) := by decide +kernel
theorem dDi_init_51 : decode bDi_init 51 = .ok (.iconst 0, 1) := by decide +kernel
theorem dDi_init_52 : decode bDi_init 52 = .ok (.iconst 1, 1) := by decide +kernel
theorem dDi_init_53 : decode bDi_init 53 = .ok (.iastore, 1) := by decide +kernel
theorem dDi_init_54 : decode bDi_init 54 = .ok (.return_, 1) := by decide +kernel
abbrev wDi_init : List Cond := Cond.code yDi_init bDi_init 1 none   :: tbl
theorem kcDi_init : Cond.code yDi_init bDi_init 1 none ∈ tbl := tb1 23 (by decide +kernel) (by decide +kernel)
theorem kiDi_init : Cond.instanceMethod yDi_init ∈ tbl := tb1 22 (by decide +kernel) (by decide +kernel)
theorem dDi_keep_0 : decode bDi_keep 0 = .ok (.iload_n 2, 1) := by decide +kernel
theorem dDi_keep_1 : decode bDi_keep 1 = .ok (.ifCond .ne 5, 3) := by decide +kernel
theorem dDi_keep_4 : decode bDi_keep 4 = .ok (.iconst 0, 1) := by decide +kernel
theorem dDi_keep_5 : decode bDi_keep 5 = .ok (.ireturn, 1) := by decide +kernel
theorem dDi_keep_6 : decode bDi_keep 6 = .ok (.aload_n 1, 1) := by decide +kernel
theorem dDi_keep_7 : decode bDi_keep 7 = .ok (.invokevirtual 23, 3) := by decide +kernel
theorem dDi_keep_10 : decode bDi_keep 10 = .ok (.istore_n 3, 1) := by decide +kernel
theorem dDi_keep_11 : decode bDi_keep 11 = .ok (.aload_n 0, 1) := by decide +kernel
theorem dDi_keep_12 : decode bDi_keep 12 = .ok (.aload_n 1, 1) := by decide +kernel
theorem dDi_keep_13 : decode bDi_keep 13 = .ok (.iload_n 2, 1) := by decide +kernel
theorem dDi_keep_14 : decode bDi_keep 14 = .ok (.iconst 1, 1) := by decide +kernel
theorem dDi_keep_15 : decode bDi_keep 15 = .ok (.if_icmp .ne 9, 3) := by decide +kernel
theorem dDi_keep_18 : decode bDi_keep 18 = .ok (.iload_n 3, 1) := by decide +kernel
theorem dDi_keep_19 : decode bDi_keep 19 = .ok (.iconst 2, 1) := by decide +kernel
theorem dDi_keep_20 : decode bDi_keep 20 = .ok (.idiv, 1) := by decide +kernel
theorem dDi_keep_21 : decode bDi_keep 21 = .ok (.goto 4, 3) := by decide +kernel
theorem dDi_keep_24 : decode bDi_keep 24 = .ok (.iload_n 3, 1) := by decide +kernel
theorem dDi_keep_25 : decode bDi_keep 25 = .ok (.invokevirtual 29, 3) := by decide +kernel
theorem dDi_keep_28 : decode bDi_keep 28 = .ok (.iload_n 2, 1) := by decide +kernel
theorem dDi_keep_29 : decode bDi_keep 29 = .ok (.iconst 1, 1) := by decide +kernel
theorem dDi_keep_30 : decode bDi_keep 30 = .ok (.if_icmp .eq 8, 3) := by decide +kernel
theorem dDi_keep_33 : decode bDi_keep 33 = .ok (.iload_n 2, 1) := by decide +kernel
theorem dDi_keep_34 : decode bDi_keep 34 = .ok (.iconst 2, 1) := by decide +kernel
theorem dDi_keep_35 : decode bDi_keep 35 = .ok (.if_icmp .ne 5, 3) := by decide +kernel
theorem dDi_keep_38 : decode bDi_keep 38 = .ok (.iconst 0, 1) := by decide +kernel
theorem dDi_keep_39 : decode bDi_keep 39 = .ok (.ireturn, 1) := by decide +kernel
theorem dDi_keep_40 : decode bDi_keep 40 = .ok (.aload_n 0, 1) := by decide +kernel
theorem dDi_keep_41 : decode bDi_keep 41 = .ok (.iconst 1, 1) := by decide +kernel
theorem dDi_keep_42 : decode bDi_keep 42 = .ok (.putfield 33, 3) := by decide +kernel
theorem dDi_keep_45 : decode bDi_keep 45 = .ok (.iload_n 2, 1) := by decide +kernel
theorem dDi_keep_46 : decode bDi_keep 46 = .ok (.iconst 3, 1) := by decide +kernel
theorem dDi_keep_47 : decode bDi_keep 47 = .ok (.if_icmp .ne 5, 3) := by decide +kernel
theorem dDi_keep_50 : decode bDi_keep 50 = .ok (.iconst 0, 1) := by decide +kernel
theorem dDi_keep_51 : decode bDi_keep 51 = .ok (.ireturn, 1) := by decide +kernel
theorem dDi_keep_52 : decode bDi_keep 52 = .ok (.aload_n 0, 1) := by decide +kernel
theorem dDi_keep_53 : decode bDi_keep 53 = .ok (.iload_n 2, 1) := by decide +kernel
theorem dDi_keep_54 : decode bDi_keep 54 = .ok (.iconst 4, 1) := by decide +kernel
theorem dDi_keep_55 : decode bDi_keep 55 = .ok (.if_icmp .ne 7, 3) := by decide +kernel
theorem dDi_keep_58 : decode bDi_keep 58 = .ok (.iconst 1, 1) := by decide +kernel
theorem dDi_keep_59 : decode bDi_keep 59 = .ok (.goto 7, 3) := by decide +kernel
theorem dDi_keep_62 : decode bDi_keep 62 = .ok (.aload_n 0, 1) := by decide +kernel
theorem dDi_keep_63 : decode bDi_keep 63 = .ok (.getfield 37, 3) := by decide +kernel
theorem dDi_keep_66 : decode bDi_keep 66 = .ok (.invokevirtual 41, 3) := by decide +kernel
theorem dDi_keep_69 : decode bDi_keep 69 = .ok (.iload_n 2, 1) := by decide +kernel
theorem dDi_keep_70 : decode bDi_keep 70 = .ok (.iconst 4, 1) := by decide +kernel
theorem dDi_keep_71 : decode bDi_keep 71 = .ok (.if_icmp .eq 8, 3) := by decide +kernel
theorem dDi_keep_74 : decode bDi_keep 74 = .ok (.iload_n 2, 1) := by decide +kernel
theorem dDi_keep_75 : decode bDi_keep 75 = .ok (.iconst 5, 1) := by decide +kernel
theorem dDi_keep_76 : decode bDi_keep 76 = .ok (.if_icmp .ne 5, 3) := by decide +kernel
theorem dDi_keep_79 : decode bDi_keep 79 = .ok (.iconst 0, 1) := by decide +kernel
theorem dDi_keep_80 : decode bDi_keep 80 = .ok (.ireturn, 1) := by decide +kernel
theorem dDi_keep_81 : decode bDi_keep 81 = .ok (.aload_n 0, 1) := by decide +kernel
theorem dDi_keep_82 : decode bDi_keep 82 = .ok (.invokevirtual 45, 3) := by decide +kernel
theorem dDi_keep_85 : decode bDi_keep 85 = .ok (.iconst 1, 1) := by decide +kernel
theorem dDi_keep_86 : decode bDi_keep 86 = .ok (.ireturn, 1) := by decide +kernel
abbrev wDi_keep : List Cond := Cond.code yDi_keep bDi_keep 4 (some .boolean)   :: tbl
theorem kcDi_keep : Cond.code yDi_keep bDi_keep 4 (some .boolean) ∈ tbl := tb2 121 (by decide +kernel) (by decide +kernel)
theorem kiDi_keep : Cond.instanceMethod yDi_keep ∈ tbl := tb2 119 (by decide +kernel) (by decide +kernel)
theorem ksDi_keep : Cond.selects yDi_keep.cls yDi_keep yDi_keep ∈ tbl := tb2 120 (by decide +kernel) (by decide +kernel)
theorem dDi_recover_0 : decode bDi_recover 0 = .ok (.aload_n 0, 1) := by decide +kernel
theorem dDi_recover_1 : decode bDi_recover 1 = .ok (.getfield 33, 3) := by decide +kernel
theorem dDi_recover_4 : decode bDi_recover 4 = .ok (.ifCond .eq 11, 3) := by decide +kernel
theorem dDi_recover_7 : decode bDi_recover 7 = .ok (.aload_n 0, 1) := by decide +kernel
theorem dDi_recover_8 : decode bDi_recover 8 = .ok (.aload_n 0, 1) := by decide +kernel
theorem dDi_recover_9 : decode bDi_recover 9 = .ok (.getfield 37, 3) := by decide +kernel
theorem dDi_recover_12 : decode bDi_recover 12 = .ok (.invokevirtual 41, 3) := by decide +kernel
theorem dDi_recover_15 : decode bDi_recover 15 = .ok (.aload_n 0, 1) := by decide +kernel
theorem dDi_recover_16 : decode bDi_recover 16 = .ok (.invokevirtual 45, 3) := by decide +kernel
theorem dDi_recover_19 : decode bDi_recover 19 = .ok (.return_, 1) := by decide +kernel
abbrev wDi_recover : List Cond := Cond.code yDi_recover bDi_recover 1 none   :: tbl
theorem kcDi_recover : Cond.code yDi_recover bDi_recover 1 none ∈ tbl := tb2 235 (by decide +kernel) (by decide +kernel)
theorem kiDi_recover : Cond.instanceMethod yDi_recover ∈ tbl := tb2 233 (by decide +kernel) (by decide +kernel)
theorem ksDi_recover : Cond.selects yDi_recover.cls yDi_recover yDi_recover ∈ tbl := tb2 234 (by decide +kernel) (by decide +kernel)
theorem dDi_writeLog_0 : decode bDi_writeLog 0 = .ok (.iconst 0, 1) := by decide +kernel
theorem dDi_writeLog_1 : decode bDi_writeLog 1 = .ok (.istore_n 3, 1) := by decide +kernel
theorem dDi_writeLog_2 : decode bDi_writeLog 2 = .ok (.iload_n 3, 1) := by decide +kernel
theorem dDi_writeLog_3 : decode bDi_writeLog 3 = .ok (.bipush 40, 2) := by decide +kernel
theorem dDi_writeLog_5 : decode bDi_writeLog 5 = .ok (.if_icmp .ge 59, 3) := by decide +kernel
theorem dDi_writeLog_8 : decode bDi_writeLog 8 = .ok (.aload_n 0, 1) := by decide +kernel
theorem dDi_writeLog_9 : decode bDi_writeLog 9 = .ok (.getfield 37, 3) := by decide +kernel
theorem dDi_writeLog_12 : decode bDi_writeLog 12 = .ok (.iload_n 2, 1) := by decide +kernel
theorem dDi_writeLog_13 : decode bDi_writeLog 13 = .ok (.if_icmp .ge 51, 3) := by decide +kernel
theorem dDi_writeLog_16 : decode bDi_writeLog 16 = .ok (.aload_n 1, 1) := by decide +kernel
theorem dDi_writeLog_17 : decode bDi_writeLog 17 = .ok (.iload_n 3, 1) := by decide +kernel
theorem dDi_writeLog_18 : decode bDi_writeLog 18 = .ok (.invokevirtual 48, 3) := by decide +kernel
theorem dDi_writeLog_21 : decode bDi_writeLog 21 = .ok (.ifCond .eq 37, 3) := by decide +kernel
theorem dDi_writeLog_24 : decode bDi_writeLog 24 = .ok (.aload_n 1, 1) := by decide +kernel
theorem dDi_writeLog_25 : decode bDi_writeLog 25 = .ok (.iload_n 3, 1) := by decide +kernel
theorem dDi_writeLog_26 : decode bDi_writeLog 26 = .ok (.aload_n 0, 1) := by decide +kernel
theorem dDi_writeLog_27 : decode bDi_writeLog 27 = .ok (.getfield 16, 3) := by decide +kernel
theorem dDi_writeLog_30 : decode bDi_writeLog 30 = .ok (.aload_n 0, 1) := by decide +kernel
theorem dDi_writeLog_31 : decode bDi_writeLog 31 = .ok (.getfield 37, 3) := by decide +kernel
theorem dDi_writeLog_34 : decode bDi_writeLog 34 = .ok (.aaload, 1) := by decide +kernel
theorem dDi_writeLog_35 : decode bDi_writeLog 35 = .ok (.invokevirtual 52, 3) := by decide +kernel
theorem dDi_writeLog_38 : decode bDi_writeLog 38 = .ok (.aload_n 0, 1) := by decide +kernel
theorem dDi_writeLog_39 : decode bDi_writeLog 39 = .ok (.getfield 19, 3) := by decide +kernel
theorem dDi_writeLog_42 : decode bDi_writeLog 42 = .ok (.aload_n 0, 1) := by decide +kernel
theorem dDi_writeLog_43 : decode bDi_writeLog 43 = .ok (.getfield 37, 3) := by decide +kernel
theorem dDi_writeLog_46 : decode bDi_writeLog 46 = .ok (.iload_n 3, 1) := by decide +kernel
theorem dDi_writeLog_47 : decode bDi_writeLog 47 = .ok (.iastore, 1) := by decide +kernel
theorem dDi_writeLog_48 : decode bDi_writeLog 48 = .ok (.aload_n 0, 1) := by decide +kernel
theorem dDi_writeLog_49 : decode bDi_writeLog 49 = .ok (.dup, 1) := by decide +kernel
theorem dDi_writeLog_50 : decode bDi_writeLog 50 = .ok (.getfield 37, 3) := by decide +kernel
theorem dDi_writeLog_53 : decode bDi_writeLog 53 = .ok (.iconst 1, 1) := by decide +kernel
theorem dDi_writeLog_54 : decode bDi_writeLog 54 = .ok (.iadd, 1) := by decide +kernel
theorem dDi_writeLog_55 : decode bDi_writeLog 55 = .ok (.putfield 37, 3) := by decide +kernel
theorem dDi_writeLog_58 : decode bDi_writeLog 58 = .ok (.iinc 3 1, 3) := by decide +kernel
theorem dDi_writeLog_61 : decode bDi_writeLog 61 = .ok (.goto (-59), 3) := by decide +kernel
theorem dDi_writeLog_64 : decode bDi_writeLog 64 = .ok (.return_, 1) := by decide +kernel
abbrev wDi_writeLog : List Cond := Cond.code yDi_writeLog bDi_writeLog 4 none   :: tbl
theorem kcDi_writeLog : Cond.code yDi_writeLog bDi_writeLog 4 none ∈ tbl := tb2 133 (by decide +kernel) (by decide +kernel)
theorem kiDi_writeLog : Cond.instanceMethod yDi_writeLog ∈ tbl := tb2 132 (by decide +kernel) (by decide +kernel)
theorem ksDi_writeLog : Cond.selects yDi_writeLog.cls yDi_writeLog yDi_writeLog ∈ tbl := tb0 12 (by decide +kernel) (by decide +kernel)
theorem dDi_writePlaces_0 : decode bDi_writePlaces 0 = .ok (.iconst 0, 1) := by decide +kernel
theorem dDi_writePlaces_1 : decode bDi_writePlaces 1 = .ok (.istore_n 2, 1) := by decide +kernel
theorem dDi_writePlaces_2 : decode bDi_writePlaces 2 = .ok (.iload_n 2, 1) := by decide +kernel
theorem dDi_writePlaces_3 : decode bDi_writePlaces 3 = .ok (.aload_n 0, 1) := by decide +kernel
theorem dDi_writePlaces_4 : decode bDi_writePlaces 4 = .ok (.getfield 37, 3) := by decide +kernel
theorem dDi_writePlaces_7 : decode bDi_writePlaces 7 = .ok (.if_icmp .ge 38, 3) := by decide +kernel
theorem dDi_writePlaces_10 : decode bDi_writePlaces 10 = .ok (.iload_n 2, 1) := by decide +kernel
theorem dDi_writePlaces_11 : decode bDi_writePlaces 11 = .ok (.iload_n 1, 1) := by decide +kernel
theorem dDi_writePlaces_12 : decode bDi_writePlaces 12 = .ok (.if_icmp .ge 33, 3) := by decide +kernel
theorem dDi_writePlaces_15 : decode bDi_writePlaces 15 = .ok (.aload_n 0, 1) := by decide +kernel
theorem dDi_writePlaces_16 : decode bDi_writePlaces 16 = .ok (.getfield 16, 3) := by decide +kernel
theorem dDi_writePlaces_19 : decode bDi_writePlaces 19 = .ok (.iload_n 2, 1) := by decide +kernel
theorem dDi_writePlaces_20 : decode bDi_writePlaces 20 = .ok (.aaload, 1) := by decide +kernel
theorem dDi_writePlaces_21 : decode bDi_writePlaces 21 = .ok (.iconst 0, 1) := by decide +kernel
theorem dDi_writePlaces_22 : decode bDi_writePlaces 22 = .ok (.aload_n 0, 1) := by decide +kernel
theorem dDi_writePlaces_23 : decode bDi_writePlaces 23 = .ok (.getfield 11, 3) := by decide +kernel
theorem dDi_writePlaces_26 : decode bDi_writePlaces 26 = .ok (.aload_n 0, 1) := by decide +kernel
theorem dDi_writePlaces_27 : decode bDi_writePlaces 27 = .ok (.getfield 19, 3) := by decide +kernel
theorem dDi_writePlaces_30 : decode bDi_writePlaces 30 = .ok (.iload_n 2, 1) := by decide +kernel
theorem dDi_writePlaces_31 : decode bDi_writePlaces 31 = .ok (.iaload, 1) := by decide +kernel
theorem dDi_writePlaces_32 : decode bDi_writePlaces 32 = .ok (.aaload, 1) := by decide +kernel
theorem dDi_writePlaces_33 : decode bDi_writePlaces 33 = .ok (.iconst 0, 1) := by decide +kernel
theorem dDi_writePlaces_34 : decode bDi_writePlaces 34 = .ok (.bipush 27, 2) := by decide +kernel
theorem dDi_writePlaces_36 : decode bDi_writePlaces 36 = .ok (.invokestatic 56, 3) := by decide +kernel
theorem dDi_writePlaces_39 : decode bDi_writePlaces 39 = .ok (.iinc 2 1, 3) := by decide +kernel
theorem dDi_writePlaces_42 : decode bDi_writePlaces 42 = .ok (.goto (-40), 3) := by decide +kernel
theorem dDi_writePlaces_45 : decode bDi_writePlaces 45 = .ok (.return_, 1) := by decide +kernel
abbrev wDi_writePlaces : List Cond := Cond.code yDi_writePlaces bDi_writePlaces 3 none   :: tbl
theorem kcDi_writePlaces : Cond.code yDi_writePlaces bDi_writePlaces 3 none ∈ tbl := tb2 146 (by decide +kernel) (by decide +kernel)
theorem kiDi_writePlaces : Cond.instanceMethod yDi_writePlaces ∈ tbl := tb2 145 (by decide +kernel) (by decide +kernel)
theorem ksDi_writePlaces : Cond.selects yDi_writePlaces.cls yDi_writePlaces yDi_writePlaces ∈ tbl := tb0 13 (by decide +kernel) (by decide +kernel)
theorem dDi_emptyLog_0 : decode bDi_emptyLog 0 = .ok (.aload_n 0, 1) := by decide +kernel
theorem dDi_emptyLog_1 : decode bDi_emptyLog 1 = .ok (.iconst 0, 1) := by decide +kernel
theorem dDi_emptyLog_2 : decode bDi_emptyLog 2 = .ok (.putfield 37, 3) := by decide +kernel
theorem dDi_emptyLog_5 : decode bDi_emptyLog 5 = .ok (.aload_n 0, 1) := by decide +kernel
theorem dDi_emptyLog_6 : decode bDi_emptyLog 6 = .ok (.iconst 0, 1) := by decide +kernel
theorem dDi_emptyLog_7 : decode bDi_emptyLog 7 = .ok (.putfield 33, 3) := by decide +kernel
theorem dDi_emptyLog_10 : decode bDi_emptyLog 10 = .ok (.return_, 1) := by decide +kernel
abbrev wDi_emptyLog : List Cond := Cond.code yDi_emptyLog bDi_emptyLog 1 none   :: tbl
theorem kcDi_emptyLog : Cond.code yDi_emptyLog bDi_emptyLog 1 none ∈ tbl := tb2 153 (by decide +kernel) (by decide +kernel)
theorem kiDi_emptyLog : Cond.instanceMethod yDi_emptyLog ∈ tbl := tb2 152 (by decide +kernel) (by decide +kernel)
theorem ksDi_emptyLog : Cond.selects yDi_emptyLog.cls yDi_emptyLog yDi_emptyLog ∈ tbl := tb0 14 (by decide +kernel) (by decide +kernel)
theorem kfDi_11 : Cond.fieldLink RDi 11 (TDi 0).1 (TDi 0).2.1 (TDi 0).2.2.1 ∈ tbl := tb1 27 (by decide +kernel) (by decide +kernel)
theorem kfDi_16 : Cond.fieldLink RDi 16 (TDi 1).1 (TDi 1).2.1 (TDi 1).2.2.1 ∈ tbl := tb1 29 (by decide +kernel) (by decide +kernel)
theorem kfDi_19 : Cond.fieldLink RDi 19 (TDi 2).1 (TDi 2).2.1 (TDi 2).2.2.1 ∈ tbl := tb1 30 (by decide +kernel) (by decide +kernel)
theorem kfDi_33 : Cond.fieldLink RDi 33 (TDi 4).1 (TDi 4).2.1 (TDi 4).2.2.1 ∈ tbl := tb1 32 (by decide +kernel) (by decide +kernel)
theorem kfDi_37 : Cond.fieldLink RDi 37 (TDi 3).1 (TDi 3).2.1 (TDi 3).2.2.1 ∈ tbl := tb1 31 (by decide +kernel) (by decide +kernel)
