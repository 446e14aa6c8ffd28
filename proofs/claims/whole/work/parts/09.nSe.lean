abbrev bSe_init : ByteArray := prog_5_method_1_code
def ySe_init : MethodName := ⟨RSe, "<init>", "()V"⟩
abbrev bSe_gather : ByteArray := prog_5_method_2_code
def ySe_gather : MethodName := ⟨RSe, "gather", "(LBoxedPages$Tree;LBoxedPages$Box;)V"⟩
abbrev bSe_approach : ByteArray := prog_5_method_3_code
def ySe_approach : MethodName := ⟨RSe, "approach", "(LBoxedPages$Tree;II)V"⟩
abbrev bSe_hitsInside : ByteArray := prog_5_method_4_code
def ySe_hitsInside : MethodName := ⟨RSe, "hitsInside", "(LBoxedPages$Box;)I"⟩
abbrev bSe_lookedOnlyWhereMet : ByteArray := prog_5_method_5_code
def ySe_lookedOnlyWhereMet : MethodName := ⟨RSe, "lookedOnlyWhereMet", "(LBoxedPages$Tree;LBoxedPages$Box;)Z"⟩
abbrev bSe_lookedNoFarther : ByteArray := prog_5_method_6_code
def ySe_lookedNoFarther : MethodName := ⟨RSe, "lookedNoFarther", "(LBoxedPages$Tree;II)Z"⟩
abbrev bSe_begin : ByteArray := prog_5_method_7_code
def ySe_begin : MethodName := ⟨RSe, "begin", "(I)V"⟩
abbrev bSe_await : ByteArray := prog_5_method_8_code
def ySe_await : MethodName := ⟨RSe, "await", "(IJ)V"⟩
abbrev bSe_lookInto : ByteArray := prog_5_method_9_code
def ySe_lookInto : MethodName := ⟨RSe, "lookInto", "(LBoxedPages$Tree;I)LBoxedPages$Page;"⟩
abbrev bSe_nearestWaiting : ByteArray := prog_5_method_10_code
def ySe_nearestWaiting : MethodName := ⟨RSe, "nearestWaiting", "()I"⟩
abbrev bSe_keepInOrder : ByteArray := prog_5_method_11_code
def ySe_keepInOrder : MethodName := ⟨RSe, "keepInOrder", "(LBoxedPages$Box;)V"⟩
abbrev bSe_keepCloser : ByteArray := prog_5_method_12_code
def ySe_keepCloser : MethodName := ⟨RSe, "keepCloser", "(LBoxedPages$Box;J)V"⟩
theorem dSe_init_0 : decode bSe_init 0 = .ok (.aload_n 0, 1) := by decide +kernel
theorem dSe_init_1 : decode bSe_init 1 = .ok (.invokespecial 3, 3) := by decide +kernel
theorem dSe_init_4 : decode bSe_init 4 = .ok (.aload_n 0, 1) := by decide +kernel
theorem dSe_init_5 : decode bSe_init 5 = .ok (.bipush 40, 2) := by decide +kernel
theorem dSe_init_7 : decode bSe_init 7 = .ok (.anewarray 9, 3) := by decide +kernel
theorem dSe_init_10 : decode bSe_init 10 = .ok (.putfield 11, 3) := by decide +kernel
theorem dSe_init_13 : decode bSe_init 13 = .ok (.aload_n 0, 1) := by decide +kernel
theorem dSe_init_14 : decode bSe_init 14 = .ok (.new 9, 3) := by decide +kernel
theorem dSe_init_17 : decode bSe_init 17 = .ok (.dup, 1) := by decide +kernel
theorem dSe_init_18 : decode bSe_init 18 = .ok (.invokespecial 17, 3) := by decide +kernel
theorem dSe_init_21 : decode bSe_init 21 = .ok (.putfield 18, 3) := by decide +kernel
theorem dSe_init_24 : decode bSe_init 24 = .ok (.aload_n 0, 1) := by decide +kernel
theorem dSe_init_25 : decode bSe_init 25 = .ok (.bipush 40, 2) := by decide +kernel
theorem dSe_init_27 : decode bSe_init 27 = .ok (.newarray .int, 2) := by decide +kernel
theorem dSe_init_29 : decode bSe_init 29 = .ok (.putfield 22, 3) := by decide +kernel
theorem dSe_init_32 : decode bSe_init 32 = .ok (.aload_n 0, 1) := by decide +kernel
theorem dSe_init_33 : decode bSe_init 33 = .ok (.bipush 40, 2) := by decide +kernel
theorem dSe_init_35 : decode bSe_init 35 = .ok (.newarray .long, 2) := by decide +kernel
theorem dSe_init_37 : decode bSe_init 37 = .ok (.putfield 26, 3) := by decide +kernel
theorem dSe_init_40 : decode bSe_init 40 = .ok (.aload_n 0, 1) := by decide +kernel
theorem dSe_init_41 : decode bSe_init 41 = .ok (.bipush 40, 2) := by decide +kernel
theorem dSe_init_43 : decode bSe_init 43 = .ok (.newarray .int, 2) := by decide +kernel
theorem dSe_init_45 : decode bSe_init 45 = .ok (.putfield 30, 3) := by decide +kernel
theorem dSe_init_48 : decode bSe_init 48 = .ok (.aload_n 0, 1) := by decide +kernel
theorem dSe_init_49 : decode bSe_init 49 = .ok (.new 9, 3) := by decide +kernel
theorem dSe_init_52 : decode bSe_init 52 = .ok (.dup, 1) := by decide +kernel
theorem dSe_init_53 : decode bSe_init 53 = .ok (.invokespecial 17, 3) := by decide +kernel
theorem dSe_init_56 : decode bSe_init 56 = .ok (.putfield 33, 3) := by decide +kernel
theorem dSe_init_59 : decode bSe_init 59 = .ok (.iconst 0, 1) := by decide +kernel
theorem dSe_init_60 : decode bSe_init 60 = .ok (.istore_n 1, 1) := by decide +kernel
theorem dSe_init_61 : decode bSe_init 61 = .ok (.iload_n 1, 1) := by decide +kernel
theorem dSe_init_62 : decode bSe_init 62 = .ok (.bipush 40, 2) := by decide +kernel
theorem dSe_init_64 : decode bSe_init 64 = .ok (.if_icmp .ge 22, 3) := by decide +kernel
theorem dSe_init_67 : decode bSe_init 67 = .ok (.aload_n 0, 1) := by decide +kernel
theorem dSe_init_68 : decode bSe_init 68 = .ok (.getfield 11, 3) := by decide +kernel
theorem dSe_init_71 : decode bSe_init 71 = .ok (.iload_n 1, 1) := by decide +kernel
theorem dSe_init_72 : decode bSe_init 72 = .ok (.new 9, 3) := by decide +kernel
theorem dSe_init_75 : decode bSe_init 75 = .ok (.dup, 1) := by decide +kernel
theorem dSe_init_76 : decode bSe_init 76 = .ok (.invokespecial 17, 3) := by decide +kernel
theorem dSe_init_79 : decode bSe_init 79 = .ok (.aastore, 1) := by decide +kernel
theorem dSe_init_80 : decode bSe_init 80 = .ok (.iinc 1 1, 3) := by decide +kernel
theorem dSe_init_83 : decode bSe_init 83 = .ok (.goto (-22), 3) := by decide +kernel
theorem dSe_init_86 : decode bSe_init 86 = .ok (.return_, 1) := by decide +kernel
abbrev wSe_init : List Cond := Cond.code ySe_init bSe_init 2 none   :: tbl
theorem kcSe_init : Cond.code ySe_init bSe_init 2 none ∈ tbl := tb1 147 (by decide +kernel) (by decide +kernel)
theorem kiSe_init : Cond.instanceMethod ySe_init ∈ tbl := tb1 146 (by decide +kernel) (by decide +kernel)
theorem dSe_gather_0 : decode bSe_gather 0 = .ok (.aload_n 0, 1) := by decide +kernel
theorem dSe_gather_1 : decode bSe_gather 1 = .ok (.iconst 0, 1) := by decide +kernel
theorem dSe_gather_2 : decode bSe_gather 2 = .ok (.putfield 36, 3) := by decide +kernel
theorem dSe_gather_5 : decode bSe_gather 5 = .ok (.aload_n 0, 1) := by decide +kernel
theorem dSe_gather_6 : decode bSe_gather 6 = .ok (.aload_n 1, 1) := by decide +kernel
theorem dSe_gather_7 : decode bSe_gather 7 = .ok (.getfield 40, 3) := by decide +kernel
theorem dSe_gather_10 : decode bSe_gather 10 = .ok (.invokevirtual 45, 3) := by decide +kernel
theorem dSe_gather_13 : decode bSe_gather 13 = .ok (.iconst 0, 1) := by decide +kernel
theorem dSe_gather_14 : decode bSe_gather 14 = .ok (.istore_n 3, 1) := by decide +kernel
theorem dSe_gather_15 : decode bSe_gather 15 = .ok (.iload_n 3, 1) := by decide +kernel
theorem dSe_gather_16 : decode bSe_gather 16 = .ok (.bipush 40, 2) := by decide +kernel
theorem dSe_gather_18 : decode bSe_gather 18 = .ok (.if_icmp .ge 98, 3) := by decide +kernel
theorem dSe_gather_21 : decode bSe_gather 21 = .ok (.aload_n 0, 1) := by decide +kernel
theorem dSe_gather_22 : decode bSe_gather 22 = .ok (.getfield 49, 3) := by decide +kernel
theorem dSe_gather_25 : decode bSe_gather 25 = .ok (.ifCond .le 91, 3) := by decide +kernel
theorem dSe_gather_28 : decode bSe_gather 28 = .ok (.aload_n 0, 1) := by decide +kernel
theorem dSe_gather_29 : decode bSe_gather 29 = .ok (.aload_n 1, 1) := by decide +kernel
theorem dSe_gather_30 : decode bSe_gather 30 = .ok (.aload_n 0, 1) := by decide +kernel
theorem dSe_gather_31 : decode bSe_gather 31 = .ok (.getfield 49, 3) := by decide +kernel
theorem dSe_gather_34 : decode bSe_gather 34 = .ok (.iconst 1, 1) := by decide +kernel
theorem dSe_gather_35 : decode bSe_gather 35 = .ok (.isub, 1) := by decide +kernel
theorem dSe_gather_36 : decode bSe_gather 36 = .ok (.invokevirtual 52, 3) := by decide +kernel
theorem dSe_gather_39 : decode bSe_gather 39 = .ok (.astore 4, 2) := by decide +kernel
theorem dSe_gather_41 : decode bSe_gather 41 = .ok (.iconst 0, 1) := by decide +kernel
theorem dSe_gather_42 : decode bSe_gather 42 = .ok (.istore 5, 2) := by decide +kernel
theorem dSe_gather_44 : decode bSe_gather 44 = .ok (.iload 5, 2) := by decide +kernel
theorem dSe_gather_46 : decode bSe_gather 46 = .ok (.aload 4, 2) := by decide +kernel
theorem dSe_gather_48 : decode bSe_gather 48 = .ok (.getfield 56, 3) := by decide +kernel
theorem dSe_gather_51 : decode bSe_gather 51 = .ok (.if_icmp .ge 59, 3) := by decide +kernel
theorem dSe_gather_54 : decode bSe_gather 54 = .ok (.aload 4, 2) := by decide +kernel
theorem dSe_gather_56 : decode bSe_gather 56 = .ok (.getfield 61, 3) := by decide +kernel
theorem dSe_gather_59 : decode bSe_gather 59 = .ok (.iload 5, 2) := by decide +kernel
theorem dSe_gather_61 : decode bSe_gather 61 = .ok (.aaload, 1) := by decide +kernel
theorem dSe_gather_62 : decode bSe_gather 62 = .ok (.astore 6, 2) := by decide +kernel
theorem dSe_gather_64 : decode bSe_gather 64 = .ok (.aload 6, 2) := by decide +kernel
theorem dSe_gather_66 : decode bSe_gather 66 = .ok (.aload_n 2, 1) := by decide +kernel
theorem dSe_gather_67 : decode bSe_gather 67 = .ok (.invokevirtual 64, 3) := by decide +kernel
theorem dSe_gather_70 : decode bSe_gather 70 = .ok (.ifCond .ne 6, 3) := by decide +kernel
theorem dSe_gather_73 : decode bSe_gather 73 = .ok (.goto 31, 3) := by decide +kernel
theorem dSe_gather_76 : decode bSe_gather 76 = .ok (.aload 4, 2) := by decide +kernel
theorem dSe_gather_78 : decode bSe_gather 78 = .ok (.getfield 68, 3) := by decide +kernel
theorem dSe_gather_81 : decode bSe_gather 81 = .ok (.iconst 1, 1) := by decide +kernel
theorem dSe_gather_82 : decode bSe_gather 82 = .ok (.if_icmp .ne 12, 3) := by decide +kernel
theorem dSe_gather_85 : decode bSe_gather 85 = .ok (.aload_n 0, 1) := by decide +kernel
theorem dSe_gather_86 : decode bSe_gather 86 = .ok (.aload 6, 2) := by decide +kernel
theorem dSe_gather_88 : decode bSe_gather 88 = .ok (.invokevirtual 71, 3) := by decide +kernel
theorem dSe_gather_91 : decode bSe_gather 91 = .ok (.goto 13, 3) := by decide +kernel
theorem dSe_gather_94 : decode bSe_gather 94 = .ok (.aload_n 0, 1) := by decide +kernel
theorem dSe_gather_95 : decode bSe_gather 95 = .ok (.aload 6, 2) := by decide +kernel
theorem dSe_gather_97 : decode bSe_gather 97 = .ok (.getfield 75, 3) := by decide +kernel
theorem dSe_gather_100 : decode bSe_gather 100 = .ok (.lconst 0, 1) := by decide +kernel
theorem dSe_gather_101 : decode bSe_gather 101 = .ok (.invokevirtual 78, 3) := by decide +kernel
theorem dSe_gather_104 : decode bSe_gather 104 = .ok (.iinc 5 1, 3) := by decide +kernel
theorem dSe_gather_107 : decode bSe_gather 107 = .ok (.goto (-63), 3) := by decide +kernel
theorem dSe_gather_110 : decode bSe_gather 110 = .ok (.iinc 3 1, 3) := by decide +kernel
theorem dSe_gather_113 : decode bSe_gather 113 = .ok (.goto (-98), 3) := by decide +kernel
theorem dSe_gather_116 : decode bSe_gather 116 = .ok (.return_, 1) := by decide +kernel
abbrev wSe_gather : List Cond := Cond.code ySe_gather bSe_gather 7 none   :: tbl
theorem kcSe_gather : Cond.code ySe_gather bSe_gather 7 none ∈ tbl := tb2 193 (by decide +kernel) (by decide +kernel)
theorem kiSe_gather : Cond.instanceMethod ySe_gather ∈ tbl := tb2 191 (by decide +kernel) (by decide +kernel)
theorem ksSe_gather : Cond.selects ySe_gather.cls ySe_gather ySe_gather ∈ tbl := tb2 192 (by decide +kernel) (by decide +kernel)
theorem dSe_approach_0 : decode bSe_approach 0 = .ok (.aload_n 0, 1) := by decide +kernel
theorem dSe_approach_1 : decode bSe_approach 1 = .ok (.ldc2_w 82, 3) := by decide +kernel
theorem dSe_approach_4 : decode bSe_approach 4 = .ok (.putfield 84, 3) := by decide +kernel
theorem dSe_approach_7 : decode bSe_approach 7 = .ok (.aload_n 0, 1) := by decide +kernel
theorem dSe_approach_8 : decode bSe_approach 8 = .ok (.aload_n 1, 1) := by decide +kernel
theorem dSe_approach_9 : decode bSe_approach 9 = .ok (.getfield 40, 3) := by decide +kernel
theorem dSe_approach_12 : decode bSe_approach 12 = .ok (.invokevirtual 45, 3) := by decide +kernel
theorem dSe_approach_15 : decode bSe_approach 15 = .ok (.iconst 0, 1) := by decide +kernel
theorem dSe_approach_16 : decode bSe_approach 16 = .ok (.istore 4, 2) := by decide +kernel
theorem dSe_approach_18 : decode bSe_approach 18 = .ok (.iload 4, 2) := by decide +kernel
theorem dSe_approach_20 : decode bSe_approach 20 = .ok (.bipush 40, 2) := by decide +kernel
theorem dSe_approach_22 : decode bSe_approach 22 = .ok (.if_icmp .ge 116, 3) := by decide +kernel
theorem dSe_approach_25 : decode bSe_approach 25 = .ok (.aload_n 0, 1) := by decide +kernel
theorem dSe_approach_26 : decode bSe_approach 26 = .ok (.getfield 49, 3) := by decide +kernel
theorem dSe_approach_29 : decode bSe_approach 29 = .ok (.ifCond .le 109, 3) := by decide +kernel
theorem dSe_approach_32 : decode bSe_approach 32 = .ok (.aload_n 0, 1) := by decide +kernel
theorem dSe_approach_33 : decode bSe_approach 33 = .ok (.invokevirtual 88, 3) := by decide +kernel
theorem dSe_approach_36 : decode bSe_approach 36 = .ok (.istore 5, 2) := by decide +kernel
theorem dSe_approach_38 : decode bSe_approach 38 = .ok (.aload_n 0, 1) := by decide +kernel
theorem dSe_approach_39 : decode bSe_approach 39 = .ok (.getfield 26, 3) := by decide +kernel
theorem dSe_approach_42 : decode bSe_approach 42 = .ok (.iload 5, 2) := by decide +kernel
theorem dSe_approach_44 : decode bSe_approach 44 = .ok (.laload, 1) := by decide +kernel
theorem dSe_approach_45 : decode bSe_approach 45 = .ok (.aload_n 0, 1) := by decide +kernel
theorem dSe_approach_46 : decode bSe_approach 46 = .ok (.getfield 84, 3) := by decide +kernel
theorem dSe_approach_49 : decode bSe_approach 49 = .ok (.lcmp, 1) := by decide +kernel
theorem dSe_approach_50 : decode bSe_approach 50 = .ok (.ifCond .le 4, 3) := by decide +kernel
theorem dSe_approach_53 : decode bSe_approach 53 = .ok (.return_, 1) := by decide +kernel
theorem dSe_approach_54 : decode bSe_approach 54 = .ok (.aload_n 0, 1) := by decide +kernel
theorem dSe_approach_55 : decode bSe_approach 55 = .ok (.aload_n 1, 1) := by decide +kernel
theorem dSe_approach_56 : decode bSe_approach 56 = .ok (.iload 5, 2) := by decide +kernel
theorem dSe_approach_58 : decode bSe_approach 58 = .ok (.invokevirtual 52, 3) := by decide +kernel
theorem dSe_approach_61 : decode bSe_approach 61 = .ok (.astore 6, 2) := by decide +kernel
theorem dSe_approach_63 : decode bSe_approach 63 = .ok (.iconst 0, 1) := by decide +kernel
theorem dSe_approach_64 : decode bSe_approach 64 = .ok (.istore 7, 2) := by decide +kernel
theorem dSe_approach_66 : decode bSe_approach 66 = .ok (.iload 7, 2) := by decide +kernel
theorem dSe_approach_68 : decode bSe_approach 68 = .ok (.aload 6, 2) := by decide +kernel
theorem dSe_approach_70 : decode bSe_approach 70 = .ok (.getfield 56, 3) := by decide +kernel
theorem dSe_approach_73 : decode bSe_approach 73 = .ok (.if_icmp .ge 59, 3) := by decide +kernel
theorem dSe_approach_76 : decode bSe_approach 76 = .ok (.aload 6, 2) := by decide +kernel
theorem dSe_approach_78 : decode bSe_approach 78 = .ok (.getfield 61, 3) := by decide +kernel
theorem dSe_approach_81 : decode bSe_approach 81 = .ok (.iload 7, 2) := by decide +kernel
theorem dSe_approach_83 : decode bSe_approach 83 = .ok (.aaload, 1) := by decide +kernel
theorem dSe_approach_84 : decode bSe_approach 84 = .ok (.astore 8, 2) := by decide +kernel
theorem dSe_approach_86 : decode bSe_approach 86 = .ok (.aload 8, 2) := by decide +kernel
theorem dSe_approach_88 : decode bSe_approach 88 = .ok (.iload_n 2, 1) := by decide +kernel
theorem dSe_approach_89 : decode bSe_approach 89 = .ok (.iload_n 3, 1) := by decide +kernel
theorem dSe_approach_90 : decode bSe_approach 90 = .ok (.invokevirtual 92, 3) := by decide +kernel
theorem dSe_approach_93 : decode bSe_approach 93 = .ok (.lstore 9, 2) := by decide +kernel
theorem dSe_approach_95 : decode bSe_approach 95 = .ok (.aload 6, 2) := by decide +kernel
theorem dSe_approach_97 : decode bSe_approach 97 = .ok (.getfield 68, 3) := by decide +kernel
theorem dSe_approach_100 : decode bSe_approach 100 = .ok (.iconst 1, 1) := by decide +kernel
theorem dSe_approach_101 : decode bSe_approach 101 = .ok (.if_icmp .ne 14, 3) := by decide +kernel
theorem dSe_approach_104 : decode bSe_approach 104 = .ok (.aload_n 0, 1) := by decide +kernel
theorem dSe_approach_105 : decode bSe_approach 105 = .ok (.aload 8, 2) := by decide +kernel
theorem dSe_approach_107 : decode bSe_approach 107 = .ok (.lload 9, 2) := by decide +kernel
theorem dSe_approach_109 : decode bSe_approach 109 = .ok (.invokevirtual 96, 3) := by decide +kernel
theorem dSe_approach_112 : decode bSe_approach 112 = .ok (.goto 14, 3) := by decide +kernel
theorem dSe_approach_115 : decode bSe_approach 115 = .ok (.aload_n 0, 1) := by decide +kernel
theorem dSe_approach_116 : decode bSe_approach 116 = .ok (.aload 8, 2) := by decide +kernel
theorem dSe_approach_118 : decode bSe_approach 118 = .ok (.getfield 75, 3) := by decide +kernel
theorem dSe_approach_121 : decode bSe_approach 121 = .ok (.lload 9, 2) := by decide +kernel
theorem dSe_approach_123 : decode bSe_approach 123 = .ok (.invokevirtual 78, 3) := by decide +kernel
theorem dSe_approach_126 : decode bSe_approach 126 = .ok (.iinc 7 1, 3) := by decide +kernel
theorem dSe_approach_129 : decode bSe_approach 129 = .ok (.goto (-63), 3) := by decide +kernel
theorem dSe_approach_132 : decode bSe_approach 132 = .ok (.iinc 4 1, 3) := by decide +kernel
theorem dSe_approach_135 : decode bSe_approach 135 = .ok (.goto (-117), 3) := by decide +kernel
theorem dSe_approach_138 : decode bSe_approach 138 = .ok (.return_, 1) := by decide +kernel
abbrev wSe_approach : List Cond := Cond.code ySe_approach bSe_approach 11 none   :: tbl
theorem kcSe_approach : Cond.code ySe_approach bSe_approach 11 none ∈ tbl := tb3 54 (by decide +kernel) (by decide +kernel)
theorem kiSe_approach : Cond.instanceMethod ySe_approach ∈ tbl := tb3 52 (by decide +kernel) (by decide +kernel)
theorem ksSe_approach : Cond.selects ySe_approach.cls ySe_approach ySe_approach ∈ tbl := tb3 53 (by decide +kernel) (by decide +kernel)
theorem dSe_hitsInside_0 : decode bSe_hitsInside 0 = .ok (.iconst 0, 1) := by decide +kernel
theorem dSe_hitsInside_1 : decode bSe_hitsInside 1 = .ok (.istore_n 2, 1) := by decide +kernel
theorem dSe_hitsInside_2 : decode bSe_hitsInside 2 = .ok (.iconst 0, 1) := by decide +kernel
theorem dSe_hitsInside_3 : decode bSe_hitsInside 3 = .ok (.istore_n 3, 1) := by decide +kernel
theorem dSe_hitsInside_4 : decode bSe_hitsInside 4 = .ok (.iload_n 3, 1) := by decide +kernel
theorem dSe_hitsInside_5 : decode bSe_hitsInside 5 = .ok (.aload_n 0, 1) := by decide +kernel
theorem dSe_hitsInside_6 : decode bSe_hitsInside 6 = .ok (.getfield 36, 3) := by decide +kernel
theorem dSe_hitsInside_9 : decode bSe_hitsInside 9 = .ok (.if_icmp .ge 30, 3) := by decide +kernel
theorem dSe_hitsInside_12 : decode bSe_hitsInside 12 = .ok (.iload_n 2, 1) := by decide +kernel
theorem dSe_hitsInside_13 : decode bSe_hitsInside 13 = .ok (.aload_n 1, 1) := by decide +kernel
theorem dSe_hitsInside_14 : decode bSe_hitsInside 14 = .ok (.aload_n 0, 1) := by decide +kernel
theorem dSe_hitsInside_15 : decode bSe_hitsInside 15 = .ok (.getfield 11, 3) := by decide +kernel
theorem dSe_hitsInside_18 : decode bSe_hitsInside 18 = .ok (.iload_n 3, 1) := by decide +kernel
theorem dSe_hitsInside_19 : decode bSe_hitsInside 19 = .ok (.aaload, 1) := by decide +kernel
theorem dSe_hitsInside_20 : decode bSe_hitsInside 20 = .ok (.invokevirtual 100, 3) := by decide +kernel
theorem dSe_hitsInside_23 : decode bSe_hitsInside 23 = .ok (.ifCond .eq 7, 3) := by decide +kernel
theorem dSe_hitsInside_26 : decode bSe_hitsInside 26 = .ok (.iconst 1, 1) := by decide +kernel
theorem dSe_hitsInside_27 : decode bSe_hitsInside 27 = .ok (.goto 4, 3) := by decide +kernel
theorem dSe_hitsInside_30 : decode bSe_hitsInside 30 = .ok (.iconst 0, 1) := by decide +kernel
theorem dSe_hitsInside_31 : decode bSe_hitsInside 31 = .ok (.iadd, 1) := by decide +kernel
theorem dSe_hitsInside_32 : decode bSe_hitsInside 32 = .ok (.istore_n 2, 1) := by decide +kernel
theorem dSe_hitsInside_33 : decode bSe_hitsInside 33 = .ok (.iinc 3 1, 3) := by decide +kernel
theorem dSe_hitsInside_36 : decode bSe_hitsInside 36 = .ok (.goto (-32), 3) := by decide +kernel
theorem dSe_hitsInside_39 : decode bSe_hitsInside 39 = .ok (.iload_n 2, 1) := by decide +kernel
theorem dSe_hitsInside_40 : decode bSe_hitsInside 40 = .ok (.ireturn, 1) := by decide +kernel
abbrev wSe_hitsInside : List Cond := Cond.code ySe_hitsInside bSe_hitsInside 4 (some .int)   :: tbl
theorem kcSe_hitsInside : Cond.code ySe_hitsInside bSe_hitsInside 4 (some .int) ∈ tbl := tb3 35 (by decide +kernel) (by decide +kernel)
theorem kiSe_hitsInside : Cond.instanceMethod ySe_hitsInside ∈ tbl := tb3 33 (by decide +kernel) (by decide +kernel)
theorem ksSe_hitsInside : Cond.selects ySe_hitsInside.cls ySe_hitsInside ySe_hitsInside ∈ tbl := tb3 34 (by decide +kernel) (by decide +kernel)
theorem dSe_lookedOnlyWhereMet_0 : decode bSe_lookedOnlyWhereMet 0 = .ok (.iconst 0, 1) := by decide +kernel
theorem dSe_lookedOnlyWhereMet_1 : decode bSe_lookedOnlyWhereMet 1 = .ok (.istore_n 3, 1) := by decide +kernel
theorem dSe_lookedOnlyWhereMet_2 : decode bSe_lookedOnlyWhereMet 2 = .ok (.iload_n 3, 1) := by decide +kernel
theorem dSe_lookedOnlyWhereMet_3 : decode bSe_lookedOnlyWhereMet 3 = .ok (.aload_n 0, 1) := by decide +kernel
theorem dSe_lookedOnlyWhereMet_4 : decode bSe_lookedOnlyWhereMet 4 = .ok (.getfield 103, 3) := by decide +kernel
theorem dSe_lookedOnlyWhereMet_7 : decode bSe_lookedOnlyWhereMet 7 = .ok (.if_icmp .ge 53, 3) := by decide +kernel
theorem dSe_lookedOnlyWhereMet_10 : decode bSe_lookedOnlyWhereMet 10 = .ok (.aload_n 1, 1) := by decide +kernel
theorem dSe_lookedOnlyWhereMet_11 : decode bSe_lookedOnlyWhereMet 11 = .ok (.aload_n 0, 1) := by decide +kernel
theorem dSe_lookedOnlyWhereMet_12 : decode bSe_lookedOnlyWhereMet 12 = .ok (.getfield 30, 3) := by decide +kernel
theorem dSe_lookedOnlyWhereMet_15 : decode bSe_lookedOnlyWhereMet 15 = .ok (.iload_n 3, 1) := by decide +kernel
theorem dSe_lookedOnlyWhereMet_16 : decode bSe_lookedOnlyWhereMet 16 = .ok (.iaload, 1) := by decide +kernel
theorem dSe_lookedOnlyWhereMet_17 : decode bSe_lookedOnlyWhereMet 17 = .ok (.invokevirtual 106, 3) := by decide +kernel
theorem dSe_lookedOnlyWhereMet_20 : decode bSe_lookedOnlyWhereMet 20 = .ok (.iconst (-1), 1) := by decide +kernel
theorem dSe_lookedOnlyWhereMet_21 : decode bSe_lookedOnlyWhereMet 21 = .ok (.aload_n 0, 1) := by decide +kernel
theorem dSe_lookedOnlyWhereMet_22 : decode bSe_lookedOnlyWhereMet 22 = .ok (.getfield 33, 3) := by decide +kernel
theorem dSe_lookedOnlyWhereMet_25 : decode bSe_lookedOnlyWhereMet 25 = .ok (.invokevirtual 110, 3) := by decide +kernel
theorem dSe_lookedOnlyWhereMet_28 : decode bSe_lookedOnlyWhereMet 28 = .ok (.aload_n 0, 1) := by decide +kernel
theorem dSe_lookedOnlyWhereMet_29 : decode bSe_lookedOnlyWhereMet 29 = .ok (.getfield 30, 3) := by decide +kernel
theorem dSe_lookedOnlyWhereMet_32 : decode bSe_lookedOnlyWhereMet 32 = .ok (.iload_n 3, 1) := by decide +kernel
theorem dSe_lookedOnlyWhereMet_33 : decode bSe_lookedOnlyWhereMet 33 = .ok (.iaload, 1) := by decide +kernel
theorem dSe_lookedOnlyWhereMet_34 : decode bSe_lookedOnlyWhereMet 34 = .ok (.aload_n 1, 1) := by decide +kernel
theorem dSe_lookedOnlyWhereMet_35 : decode bSe_lookedOnlyWhereMet 35 = .ok (.getfield 40, 3) := by decide +kernel
theorem dSe_lookedOnlyWhereMet_38 : decode bSe_lookedOnlyWhereMet 38 = .ok (.if_icmp .eq 16, 3) := by decide +kernel
theorem dSe_lookedOnlyWhereMet_41 : decode bSe_lookedOnlyWhereMet 41 = .ok (.aload_n 0, 1) := by decide +kernel
theorem dSe_lookedOnlyWhereMet_42 : decode bSe_lookedOnlyWhereMet 42 = .ok (.getfield 33, 3) := by decide +kernel
theorem dSe_lookedOnlyWhereMet_45 : decode bSe_lookedOnlyWhereMet 45 = .ok (.aload_n 2, 1) := by decide +kernel
theorem dSe_lookedOnlyWhereMet_46 : decode bSe_lookedOnlyWhereMet 46 = .ok (.invokevirtual 64, 3) := by decide +kernel
theorem dSe_lookedOnlyWhereMet_49 : decode bSe_lookedOnlyWhereMet 49 = .ok (.ifCond .ne 5, 3) := by decide +kernel
theorem dSe_lookedOnlyWhereMet_52 : decode bSe_lookedOnlyWhereMet 52 = .ok (.iconst 0, 1) := by decide +kernel
theorem dSe_lookedOnlyWhereMet_53 : decode bSe_lookedOnlyWhereMet 53 = .ok (.ireturn, 1) := by decide +kernel
theorem dSe_lookedOnlyWhereMet_54 : decode bSe_lookedOnlyWhereMet 54 = .ok (.iinc 3 1, 3) := by decide +kernel
theorem dSe_lookedOnlyWhereMet_57 : decode bSe_lookedOnlyWhereMet 57 = .ok (.goto (-55), 3) := by decide +kernel
theorem dSe_lookedOnlyWhereMet_60 : decode bSe_lookedOnlyWhereMet 60 = .ok (.iconst 1, 1) := by decide +kernel
theorem dSe_lookedOnlyWhereMet_61 : decode bSe_lookedOnlyWhereMet 61 = .ok (.ireturn, 1) := by decide +kernel
abbrev wSe_lookedOnlyWhereMet : List Cond := Cond.code ySe_lookedOnlyWhereMet bSe_lookedOnlyWhereMet 4 (some .boolean)   :: tbl
theorem kcSe_lookedOnlyWhereMet : Cond.code ySe_lookedOnlyWhereMet bSe_lookedOnlyWhereMet 4 (some .boolean) ∈ tbl := tb3 26 (by decide +kernel) (by decide +kernel)
theorem kiSe_lookedOnlyWhereMet : Cond.instanceMethod ySe_lookedOnlyWhereMet ∈ tbl := tb3 24 (by decide +kernel) (by decide +kernel)
theorem ksSe_lookedOnlyWhereMet : Cond.selects ySe_lookedOnlyWhereMet.cls ySe_lookedOnlyWhereMet ySe_lookedOnlyWhereMet ∈ tbl := tb3 25 (by decide +kernel) (by decide +kernel)
theorem dSe_lookedNoFarther_0 : decode bSe_lookedNoFarther 0 = .ok (.iconst 0, 1) := by decide +kernel
theorem dSe_lookedNoFarther_1 : decode bSe_lookedNoFarther 1 = .ok (.istore 4, 2) := by decide +kernel
theorem dSe_lookedNoFarther_3 : decode bSe_lookedNoFarther 3 = .ok (.iload 4, 2) := by decide +kernel
theorem dSe_lookedNoFarther_5 : decode bSe_lookedNoFarther 5 = .ok (.aload_n 0, 1) := by decide +kernel
theorem dSe_lookedNoFarther_6 : decode bSe_lookedNoFarther 6 = .ok (.getfield 103, 3) := by decide +kernel
theorem dSe_lookedNoFarther_9 : decode bSe_lookedNoFarther 9 = .ok (.if_icmp .ge 61, 3) := by decide +kernel
theorem dSe_lookedNoFarther_12 : decode bSe_lookedNoFarther 12 = .ok (.aload_n 1, 1) := by decide +kernel
theorem dSe_lookedNoFarther_13 : decode bSe_lookedNoFarther 13 = .ok (.aload_n 0, 1) := by decide +kernel
theorem dSe_lookedNoFarther_14 : decode bSe_lookedNoFarther 14 = .ok (.getfield 30, 3) := by decide +kernel
theorem dSe_lookedNoFarther_17 : decode bSe_lookedNoFarther 17 = .ok (.iload 4, 2) := by decide +kernel
theorem dSe_lookedNoFarther_19 : decode bSe_lookedNoFarther 19 = .ok (.iaload, 1) := by decide +kernel
theorem dSe_lookedNoFarther_20 : decode bSe_lookedNoFarther 20 = .ok (.invokevirtual 106, 3) := by decide +kernel
theorem dSe_lookedNoFarther_23 : decode bSe_lookedNoFarther 23 = .ok (.iconst (-1), 1) := by decide +kernel
theorem dSe_lookedNoFarther_24 : decode bSe_lookedNoFarther 24 = .ok (.aload_n 0, 1) := by decide +kernel
theorem dSe_lookedNoFarther_25 : decode bSe_lookedNoFarther 25 = .ok (.getfield 33, 3) := by decide +kernel
theorem dSe_lookedNoFarther_28 : decode bSe_lookedNoFarther 28 = .ok (.invokevirtual 110, 3) := by decide +kernel
theorem dSe_lookedNoFarther_31 : decode bSe_lookedNoFarther 31 = .ok (.aload_n 0, 1) := by decide +kernel
theorem dSe_lookedNoFarther_32 : decode bSe_lookedNoFarther 32 = .ok (.getfield 30, 3) := by decide +kernel
theorem dSe_lookedNoFarther_35 : decode bSe_lookedNoFarther 35 = .ok (.iload 4, 2) := by decide +kernel
theorem dSe_lookedNoFarther_37 : decode bSe_lookedNoFarther 37 = .ok (.iaload, 1) := by decide +kernel
theorem dSe_lookedNoFarther_38 : decode bSe_lookedNoFarther 38 = .ok (.aload_n 1, 1) := by decide +kernel
theorem dSe_lookedNoFarther_39 : decode bSe_lookedNoFarther 39 = .ok (.getfield 40, 3) := by decide +kernel
theorem dSe_lookedNoFarther_42 : decode bSe_lookedNoFarther 42 = .ok (.if_icmp .eq 22, 3) := by decide +kernel
theorem dSe_lookedNoFarther_45 : decode bSe_lookedNoFarther 45 = .ok (.aload_n 0, 1) := by decide +kernel
theorem dSe_lookedNoFarther_46 : decode bSe_lookedNoFarther 46 = .ok (.getfield 33, 3) := by decide +kernel
theorem dSe_lookedNoFarther_49 : decode bSe_lookedNoFarther 49 = .ok (.iload_n 2, 1) := by decide +kernel
theorem dSe_lookedNoFarther_50 : decode bSe_lookedNoFarther 50 = .ok (.iload_n 3, 1) := by decide +kernel
theorem dSe_lookedNoFarther_51 : decode bSe_lookedNoFarther 51 = .ok (.invokevirtual 92, 3) := by decide +kernel
theorem dSe_lookedNoFarther_54 : decode bSe_lookedNoFarther 54 = .ok (.aload_n 0, 1) := by decide +kernel
theorem dSe_lookedNoFarther_55 : decode bSe_lookedNoFarther 55 = .ok (.getfield 84, 3) := by decide +kernel
theorem dSe_lookedNoFarther_58 : decode bSe_lookedNoFarther 58 = .ok (.lcmp, 1) := by decide +kernel
theorem dSe_lookedNoFarther_59 : decode bSe_lookedNoFarther 59 = .ok (.ifCond .le 5, 3) := by decide +kernel
theorem dSe_lookedNoFarther_62 : decode bSe_lookedNoFarther 62 = .ok (.iconst 0, 1) := by decide +kernel
theorem dSe_lookedNoFarther_63 : decode bSe_lookedNoFarther 63 = .ok (.ireturn, 1) := by decide +kernel
theorem dSe_lookedNoFarther_64 : decode bSe_lookedNoFarther 64 = .ok (.iinc 4 1, 3) := by decide +kernel
theorem dSe_lookedNoFarther_67 : decode bSe_lookedNoFarther 67 = .ok (.goto (-64), 3) := by decide +kernel
theorem dSe_lookedNoFarther_70 : decode bSe_lookedNoFarther 70 = .ok (.iconst 1, 1) := by decide +kernel
theorem dSe_lookedNoFarther_71 : decode bSe_lookedNoFarther 71 = .ok (.ireturn, 1) := by decide +kernel
abbrev wSe_lookedNoFarther : List Cond := Cond.code ySe_lookedNoFarther bSe_lookedNoFarther 5 (some .boolean)   :: tbl
theorem kcSe_lookedNoFarther : Cond.code ySe_lookedNoFarther bSe_lookedNoFarther 5 (some .boolean) ∈ tbl := tb3 71 (by decide +kernel) (by decide +kernel)
theorem kiSe_lookedNoFarther : Cond.instanceMethod ySe_lookedNoFarther ∈ tbl := tb3 69 (by decide +kernel) (by decide +kernel)
theorem ksSe_lookedNoFarther : Cond.selects ySe_lookedNoFarther.cls ySe_lookedNoFarther ySe_lookedNoFarther ∈ tbl := tb3 70 (by decide +kernel) (by decide +kernel)
theorem dSe_begin_0 : decode bSe_begin 0 = .ok (.aload_n 0, 1) := by decide +kernel
theorem dSe_begin_1 : decode bSe_begin 1 = .ok (.iconst 0, 1) := by decide +kernel
theorem dSe_begin_2 : decode bSe_begin 2 = .ok (.putfield 49, 3) := by decide +kernel
theorem dSe_begin_5 : decode bSe_begin 5 = .ok (.aload_n 0, 1) := by decide +kernel
theorem dSe_begin_6 : decode bSe_begin 6 = .ok (.iconst 0, 1) := by decide +kernel
theorem dSe_begin_7 : decode bSe_begin 7 = .ok (.putfield 103, 3) := by decide +kernel
theorem dSe_begin_10 : decode bSe_begin 10 = .ok (.aload_n 0, 1) := by decide +kernel
theorem dSe_begin_11 : decode bSe_begin 11 = .ok (.iload_n 1, 1) := by decide +kernel
theorem dSe_begin_12 : decode bSe_begin 12 = .ok (.lconst 0, 1) := by decide +kernel
theorem dSe_begin_13 : decode bSe_begin 13 = .ok (.invokevirtual 78, 3) := by decide +kernel
theorem dSe_begin_16 : decode bSe_begin 16 = .ok (.return_, 1) := by decide +kernel
abbrev wSe_begin : List Cond := Cond.code ySe_begin bSe_begin 2 none   :: tbl
theorem kcSe_begin : Cond.code ySe_begin bSe_begin 2 none ∈ tbl := tb2 197 (by decide +kernel) (by decide +kernel)
theorem kiSe_begin : Cond.instanceMethod ySe_begin ∈ tbl := tb2 196 (by decide +kernel) (by decide +kernel)
theorem ksSe_begin : Cond.selects ySe_begin.cls ySe_begin ySe_begin ∈ tbl := tb0 17 (by decide +kernel) (by decide +kernel)
theorem dSe_await_0 : decode bSe_await 0 = .ok (.aload_n 0, 1) := by decide +kernel
theorem dSe_await_1 : decode bSe_await 1 = .ok (.getfield 49, 3) := by decide +kernel
theorem dSe_await_4 : decode bSe_await 4 = .ok (.bipush 40, 2) := by decide +kernel
theorem dSe_await_6 : decode bSe_await 6 = .ok (.if_icmp .ge 33, 3) := by decide +kernel
theorem dSe_await_9 : decode bSe_await 9 = .ok (.aload_n 0, 1) := by decide +kernel
theorem dSe_await_10 : decode bSe_await 10 = .ok (.getfield 22, 3) := by decide +kernel
theorem dSe_await_13 : decode bSe_await 13 = .ok (.aload_n 0, 1) := by decide +kernel
theorem dSe_await_14 : decode bSe_await 14 = .ok (.getfield 49, 3) := by decide +kernel
theorem dSe_await_17 : decode bSe_await 17 = .ok (.iload_n 1, 1) := by decide +kernel
theorem dSe_await_18 : decode bSe_await 18 = .ok (.iastore, 1) := by decide +kernel
theorem dSe_await_19 : decode bSe_await 19 = .ok (.aload_n 0, 1) := by decide +kernel
theorem dSe_await_20 : decode bSe_await 20 = .ok (.getfield 26, 3) := by decide +kernel
theorem dSe_await_23 : decode bSe_await 23 = .ok (.aload_n 0, 1) := by decide +kernel
theorem dSe_await_24 : decode bSe_await 24 = .ok (.getfield 49, 3) := by decide +kernel
theorem dSe_await_27 : decode bSe_await 27 = .ok (.lload_n 2, 1) := by decide +kernel
theorem dSe_await_28 : decode bSe_await 28 = .ok (.lastore, 1) := by decide +kernel
theorem dSe_await_29 : decode bSe_await 29 = .ok (.aload_n 0, 1) := by decide +kernel
theorem dSe_await_30 : decode bSe_await 30 = .ok (.dup, 1) := by decide +kernel
theorem dSe_await_31 : decode bSe_await 31 = .ok (.getfield 49, 3) := by decide +kernel
theorem dSe_await_34 : decode bSe_await 34 = .ok (.iconst 1, 1) := by decide +kernel
theorem dSe_await_35 : decode bSe_await 35 = .ok (.iadd, 1) := by decide +kernel
theorem dSe_await_36 : decode bSe_await 36 = .ok (.putfield 49, 3) := by decide +kernel
theorem dSe_await_39 : decode bSe_await 39 = .ok (.return_, 1) := by decide +kernel
abbrev wSe_await : List Cond := Cond.code ySe_await bSe_await 4 none   :: tbl
theorem kcSe_await : Cond.code ySe_await bSe_await 4 none ∈ tbl := tb2 201 (by decide +kernel) (by decide +kernel)
theorem kiSe_await : Cond.instanceMethod ySe_await ∈ tbl := tb2 200 (by decide +kernel) (by decide +kernel)
theorem ksSe_await : Cond.selects ySe_await.cls ySe_await ySe_await ∈ tbl := tb0 18 (by decide +kernel) (by decide +kernel)
theorem dSe_lookInto_0 : decode bSe_lookInto 0 = .ok (.aload_n 0, 1) := by decide +kernel
theorem dSe_lookInto_1 : decode bSe_lookInto 1 = .ok (.getfield 22, 3) := by decide +kernel
theorem dSe_lookInto_4 : decode bSe_lookInto 4 = .ok (.iload_n 2, 1) := by decide +kernel
theorem dSe_lookInto_5 : decode bSe_lookInto 5 = .ok (.iaload, 1) := by decide +kernel
theorem dSe_lookInto_6 : decode bSe_lookInto 6 = .ok (.istore_n 3, 1) := by decide +kernel
theorem dSe_lookInto_7 : decode bSe_lookInto 7 = .ok (.aload_n 0, 1) := by decide +kernel
theorem dSe_lookInto_8 : decode bSe_lookInto 8 = .ok (.dup, 1) := by decide +kernel
theorem dSe_lookInto_9 : decode bSe_lookInto 9 = .ok (.getfield 49, 3) := by decide +kernel
theorem dSe_lookInto_12 : decode bSe_lookInto 12 = .ok (.iconst 1, 1) := by decide +kernel
theorem dSe_lookInto_13 : decode bSe_lookInto 13 = .ok (.isub, 1) := by decide +kernel
theorem dSe_lookInto_14 : decode bSe_lookInto 14 = .ok (.putfield 49, 3) := by decide +kernel
theorem dSe_lookInto_17 : decode bSe_lookInto 17 = .ok (.aload_n 0, 1) := by decide +kernel
theorem dSe_lookInto_18 : decode bSe_lookInto 18 = .ok (.getfield 22, 3) := by decide +kernel
theorem dSe_lookInto_21 : decode bSe_lookInto 21 = .ok (.iload_n 2, 1) := by decide +kernel
theorem dSe_lookInto_22 : decode bSe_lookInto 22 = .ok (.aload_n 0, 1) := by decide +kernel
theorem dSe_lookInto_23 : decode bSe_lookInto 23 = .ok (.getfield 22, 3) := by decide +kernel
theorem dSe_lookInto_26 : decode bSe_lookInto 26 = .ok (.aload_n 0, 1) := by decide +kernel
theorem dSe_lookInto_27 : decode bSe_lookInto 27 = .ok (.getfield 49, 3) := by decide +kernel
theorem dSe_lookInto_30 : decode bSe_lookInto 30 = .ok (.iaload, 1) := by decide +kernel
theorem dSe_lookInto_31 : decode bSe_lookInto 31 = .ok (.iastore, 1) := by decide +kernel
theorem dSe_lookInto_32 : decode bSe_lookInto 32 = .ok (.aload_n 0, 1) := by decide +kernel
theorem dSe_lookInto_33 : decode bSe_lookInto 33 = .ok (.getfield 26, 3) := by decide +kernel
theorem dSe_lookInto_36 : decode bSe_lookInto 36 = .ok (.iload_n 2, 1) := by decide +kernel
theorem dSe_lookInto_37 : decode bSe_lookInto 37 = .ok (.aload_n 0, 1) := by decide +kernel
theorem dSe_lookInto_38 : decode bSe_lookInto 38 = .ok (.getfield 26, 3) := by decide +kernel
theorem dSe_lookInto_41 : decode bSe_lookInto 41 = .ok (.aload_n 0, 1) := by decide +kernel
theorem dSe_lookInto_42 : decode bSe_lookInto 42 = .ok (.getfield 49, 3) := by decide +kernel
theorem dSe_lookInto_45 : decode bSe_lookInto 45 = .ok (.laload, 1) := by decide +kernel
theorem dSe_lookInto_46 : decode bSe_lookInto 46 = .ok (.lastore, 1) := by decide +kernel
theorem dSe_lookInto_47 : decode bSe_lookInto 47 = .ok (.aload_n 0, 1) := by decide +kernel
theorem dSe_lookInto_48 : decode bSe_lookInto 48 = .ok (.getfield 30, 3) := by decide +kernel
theorem dSe_lookInto_51 : decode bSe_lookInto 51 = .ok (.aload_n 0, 1) := by decide +kernel
theorem dSe_lookInto_52 : decode bSe_lookInto 52 = .ok (.getfield 103, 3) := by decide +kernel
theorem dSe_lookInto_55 : decode bSe_lookInto 55 = .ok (.iload_n 3, 1) := by decide +kernel
theorem dSe_lookInto_56 : decode bSe_lookInto 56 = .ok (.iastore, 1) := by decide +kernel
theorem dSe_lookInto_57 : decode bSe_lookInto 57 = .ok (.aload_n 0, 1) := by decide +kernel
theorem dSe_lookInto_58 : decode bSe_lookInto 58 = .ok (.dup, 1) := by decide +kernel
theorem dSe_lookInto_59 : decode bSe_lookInto 59 = .ok (.getfield 103, 3) := by decide +kernel
theorem dSe_lookInto_62 : decode bSe_lookInto 62 = .ok (.iconst 1, 1) := by decide +kernel
theorem dSe_lookInto_63 : decode bSe_lookInto 63 = .ok (.iadd, 1) := by decide +kernel
theorem dSe_lookInto_64 : decode bSe_lookInto 64 = .ok (.putfield 103, 3) := by decide +kernel
theorem dSe_lookInto_67 : decode bSe_lookInto 67 = .ok (.aload_n 1, 1) := by decide +kernel
theorem dSe_lookInto_68 : decode bSe_lookInto 68 = .ok (.iload_n 3, 1) := by decide +kernel
theorem dSe_lookInto_69 : decode bSe_lookInto 69 = .ok (.invokevirtual 106, 3) := by decide +kernel
theorem dSe_lookInto_72 : decode bSe_lookInto 72 = .ok (.areturn, 1) := by decide +kernel
abbrev wSe_lookInto : List Cond := Cond.code ySe_lookInto bSe_lookInto 4 (some (.object "BoxedPages$Page"))   :: tbl
theorem kcSe_lookInto : Cond.code ySe_lookInto bSe_lookInto 4 (some (.object "BoxedPages$Page")) ∈ tbl := tb2 205 (by decide +kernel) (by decide +kernel)
theorem kiSe_lookInto : Cond.instanceMethod ySe_lookInto ∈ tbl := tb2 204 (by decide +kernel) (by decide +kernel)
theorem ksSe_lookInto : Cond.selects ySe_lookInto.cls ySe_lookInto ySe_lookInto ∈ tbl := tb0 19 (by decide +kernel) (by decide +kernel)
theorem dSe_nearestWaiting_0 : decode bSe_nearestWaiting 0 = .ok (.iconst 0, 1) := by decide +kernel
theorem dSe_nearestWaiting_1 : decode bSe_nearestWaiting 1 = .ok (.istore_n 1, 1) := by decide +kernel
theorem dSe_nearestWaiting_2 : decode bSe_nearestWaiting 2 = .ok (.iconst 1, 1) := by decide +kernel
theorem dSe_nearestWaiting_3 : decode bSe_nearestWaiting 3 = .ok (.istore_n 2, 1) := by decide +kernel
theorem dSe_nearestWaiting_4 : decode bSe_nearestWaiting 4 = .ok (.iload_n 2, 1) := by decide +kernel
theorem dSe_nearestWaiting_5 : decode bSe_nearestWaiting 5 = .ok (.aload_n 0, 1) := by decide +kernel
theorem dSe_nearestWaiting_6 : decode bSe_nearestWaiting 6 = .ok (.getfield 49, 3) := by decide +kernel
theorem dSe_nearestWaiting_9 : decode bSe_nearestWaiting 9 = .ok (.if_icmp .ge 27, 3) := by decide +kernel
theorem dSe_nearestWaiting_12 : decode bSe_nearestWaiting 12 = .ok (.aload_n 0, 1) := by decide +kernel
theorem dSe_nearestWaiting_13 : decode bSe_nearestWaiting 13 = .ok (.getfield 26, 3) := by decide +kernel
theorem dSe_nearestWaiting_16 : decode bSe_nearestWaiting 16 = .ok (.iload_n 2, 1) := by decide +kernel
theorem dSe_nearestWaiting_17 : decode bSe_nearestWaiting 17 = .ok (.laload, 1) := by decide +kernel
theorem dSe_nearestWaiting_18 : decode bSe_nearestWaiting 18 = .ok (.aload_n 0, 1) := by decide +kernel
theorem dSe_nearestWaiting_19 : decode bSe_nearestWaiting 19 = .ok (.getfield 26, 3) := by decide +kernel
theorem dSe_nearestWaiting_22 : decode bSe_nearestWaiting 22 = .ok (.iload_n 1, 1) := by decide +kernel
theorem dSe_nearestWaiting_23 : decode bSe_nearestWaiting 23 = .ok (.laload, 1) := by decide +kernel
theorem dSe_nearestWaiting_24 : decode bSe_nearestWaiting 24 = .ok (.lcmp, 1) := by decide +kernel
theorem dSe_nearestWaiting_25 : decode bSe_nearestWaiting 25 = .ok (.ifCond .ge 5, 3) := by decide +kernel
theorem dSe_nearestWaiting_28 : decode bSe_nearestWaiting 28 = .ok (.iload_n 2, 1) := by decide +kernel
theorem dSe_nearestWaiting_29 : decode bSe_nearestWaiting 29 = .ok (.istore_n 1, 1) := by decide +kernel
theorem dSe_nearestWaiting_30 : decode bSe_nearestWaiting 30 = .ok (.iinc 2 1, 3) := by decide +kernel
theorem dSe_nearestWaiting_33 : decode bSe_nearestWaiting 33 = .ok (.goto (-29), 3) := by decide +kernel
theorem dSe_nearestWaiting_36 : decode bSe_nearestWaiting 36 = .ok (.iload_n 1, 1) := by decide +kernel
theorem dSe_nearestWaiting_37 : decode bSe_nearestWaiting 37 = .ok (.ireturn, 1) := by decide +kernel
abbrev wSe_nearestWaiting : List Cond := Cond.code ySe_nearestWaiting bSe_nearestWaiting 3 (some .int)   :: tbl
theorem kcSe_nearestWaiting : Cond.code ySe_nearestWaiting bSe_nearestWaiting 3 (some .int) ∈ tbl := tb3 59 (by decide +kernel) (by decide +kernel)
theorem kiSe_nearestWaiting : Cond.instanceMethod ySe_nearestWaiting ∈ tbl := tb3 58 (by decide +kernel) (by decide +kernel)
theorem ksSe_nearestWaiting : Cond.selects ySe_nearestWaiting.cls ySe_nearestWaiting ySe_nearestWaiting ∈ tbl := tb0 23 (by decide +kernel) (by decide +kernel)
theorem dSe_keepInOrder_0 : decode bSe_keepInOrder 0 = .ok (.aload_n 0, 1) := by decide +kernel
theorem dSe_keepInOrder_1 : decode bSe_keepInOrder 1 = .ok (.getfield 36, 3) := by decide +kernel
theorem dSe_keepInOrder_4 : decode bSe_keepInOrder 4 = .ok (.bipush 40, 2) := by decide +kernel
theorem dSe_keepInOrder_6 : decode bSe_keepInOrder 6 = .ok (.if_icmp .lt 4, 3) := by decide +kernel
theorem dSe_keepInOrder_9 : decode bSe_keepInOrder 9 = .ok (.return_, 1) := by decide +kernel
theorem dSe_keepInOrder_10 : decode bSe_keepInOrder 10 = .ok (.aload_n 0, 1) := by decide +kernel
theorem dSe_keepInOrder_11 : decode bSe_keepInOrder 11 = .ok (.getfield 36, 3) := by decide +kernel
theorem dSe_keepInOrder_14 : decode bSe_keepInOrder 14 = .ok (.istore_n 2, 1) := by decide +kernel
theorem dSe_keepInOrder_15 : decode bSe_keepInOrder 15 = .ok (.iload_n 2, 1) := by decide +kernel
theorem dSe_keepInOrder_16 : decode bSe_keepInOrder 16 = .ok (.ifCond .le 41, 3) := by decide +kernel
theorem dSe_keepInOrder_19 : decode bSe_keepInOrder 19 = .ok (.aload_n 1, 1) := by decide +kernel
theorem dSe_keepInOrder_20 : decode bSe_keepInOrder 20 = .ok (.aload_n 0, 1) := by decide +kernel
theorem dSe_keepInOrder_21 : decode bSe_keepInOrder 21 = .ok (.getfield 11, 3) := by decide +kernel
theorem dSe_keepInOrder_24 : decode bSe_keepInOrder 24 = .ok (.iload_n 2, 1) := by decide +kernel
theorem dSe_keepInOrder_25 : decode bSe_keepInOrder 25 = .ok (.iconst 1, 1) := by decide +kernel
theorem dSe_keepInOrder_26 : decode bSe_keepInOrder 26 = .ok (.isub, 1) := by decide +kernel
theorem dSe_keepInOrder_27 : decode bSe_keepInOrder 27 = .ok (.aaload, 1) := by decide +kernel
theorem dSe_keepInOrder_28 : decode bSe_keepInOrder 28 = .ok (.invokevirtual 113, 3) := by decide +kernel
theorem dSe_keepInOrder_31 : decode bSe_keepInOrder 31 = .ok (.ifCond .eq 26, 3) := by decide +kernel
theorem dSe_keepInOrder_34 : decode bSe_keepInOrder 34 = .ok (.aload_n 0, 1) := by decide +kernel
theorem dSe_keepInOrder_35 : decode bSe_keepInOrder 35 = .ok (.getfield 11, 3) := by decide +kernel
theorem dSe_keepInOrder_38 : decode bSe_keepInOrder 38 = .ok (.iload_n 2, 1) := by decide +kernel
theorem dSe_keepInOrder_39 : decode bSe_keepInOrder 39 = .ok (.aaload, 1) := by decide +kernel
theorem dSe_keepInOrder_40 : decode bSe_keepInOrder 40 = .ok (.aload_n 0, 1) := by decide +kernel
theorem dSe_keepInOrder_41 : decode bSe_keepInOrder 41 = .ok (.getfield 11, 3) := by decide +kernel
theorem dSe_keepInOrder_44 : decode bSe_keepInOrder 44 = .ok (.iload_n 2, 1) := by decide +kernel
theorem dSe_keepInOrder_45 : decode bSe_keepInOrder 45 = .ok (.iconst 1, 1) := by decide +kernel
theorem dSe_keepInOrder_46 : decode bSe_keepInOrder 46 = .ok (.isub, 1) := by decide +kernel
theorem dSe_keepInOrder_47 : decode bSe_keepInOrder 47 = .ok (.aaload, 1) := by decide +kernel
theorem dSe_keepInOrder_48 : decode bSe_keepInOrder 48 = .ok (.invokevirtual 116, 3) := by decide +kernel
theorem dSe_keepInOrder_51 : decode bSe_keepInOrder 51 = .ok (.iinc 2 (-1), 3) := by decide +kernel
theorem dSe_keepInOrder_54 : decode bSe_keepInOrder 54 = .ok (.goto (-39), 3) := by decide +kernel
theorem dSe_keepInOrder_57 : decode bSe_keepInOrder 57 = .ok (.aload_n 0, 1) := by decide +kernel
theorem dSe_keepInOrder_58 : decode bSe_keepInOrder 58 = .ok (.getfield 11, 3) := by decide +kernel
theorem dSe_keepInOrder_61 : decode bSe_keepInOrder 61 = .ok (.iload_n 2, 1) := by decide +kernel
theorem dSe_keepInOrder_62 : decode bSe_keepInOrder 62 = .ok (.aaload, 1) := by decide +kernel
theorem dSe_keepInOrder_63 : decode bSe_keepInOrder 63 = .ok (.aload_n 1, 1) := by decide +kernel
theorem dSe_keepInOrder_64 : decode bSe_keepInOrder 64 = .ok (.invokevirtual 116, 3) := by decide +kernel
theorem dSe_keepInOrder_67 : decode bSe_keepInOrder 67 = .ok (.aload_n 0, 1) := by decide +kernel
theorem dSe_keepInOrder_68 : decode bSe_keepInOrder 68 = .ok (.dup, 1) := by decide +kernel
theorem dSe_keepInOrder_69 : decode bSe_keepInOrder 69 = .ok (.getfield 36, 3) := by decide +kernel
theorem dSe_keepInOrder_72 : decode bSe_keepInOrder 72 = .ok (.iconst 1, 1) := by decide +kernel
theorem dSe_keepInOrder_73 : decode bSe_keepInOrder 73 = .ok (.iadd, 1) := by decide +kernel
theorem dSe_keepInOrder_74 : decode bSe_keepInOrder 74 = .ok (.putfield 36, 3) := by decide +kernel
theorem dSe_keepInOrder_77 : decode bSe_keepInOrder 77 = .ok (.return_, 1) := by decide +kernel
abbrev wSe_keepInOrder : List Cond := Cond.code ySe_keepInOrder bSe_keepInOrder 3 none   :: tbl
theorem kcSe_keepInOrder : Cond.code ySe_keepInOrder bSe_keepInOrder 3 none ∈ tbl := tb2 214 (by decide +kernel) (by decide +kernel)
theorem kiSe_keepInOrder : Cond.instanceMethod ySe_keepInOrder ∈ tbl := tb2 213 (by decide +kernel) (by decide +kernel)
theorem ksSe_keepInOrder : Cond.selects ySe_keepInOrder.cls ySe_keepInOrder ySe_keepInOrder ∈ tbl := tb0 20 (by decide +kernel) (by decide +kernel)
theorem dSe_keepCloser_0 : decode bSe_keepCloser 0 = .ok (.lload_n 2, 1) := by decide +kernel
theorem dSe_keepCloser_1 : decode bSe_keepCloser 1 = .ok (.aload_n 0, 1) := by decide +kernel
theorem dSe_keepCloser_2 : decode bSe_keepCloser 2 = .ok (.getfield 84, 3) := by decide +kernel
theorem dSe_keepCloser_5 : decode bSe_keepCloser 5 = .ok (.lcmp, 1) := by decide +kernel
theorem dSe_keepCloser_6 : decode bSe_keepCloser 6 = .ok (.ifCond .lt 23, 3) := by decide +kernel
theorem dSe_keepCloser_9 : decode bSe_keepCloser 9 = .ok (.lload_n 2, 1) := by decide +kernel
theorem dSe_keepCloser_10 : decode bSe_keepCloser 10 = .ok (.aload_n 0, 1) := by decide +kernel
theorem dSe_keepCloser_11 : decode bSe_keepCloser 11 = .ok (.getfield 84, 3) := by decide +kernel
theorem dSe_keepCloser_14 : decode bSe_keepCloser 14 = .ok (.lcmp, 1) := by decide +kernel
theorem dSe_keepCloser_15 : decode bSe_keepCloser 15 = .ok (.ifCond .ne 27, 3) := by decide +kernel
theorem dSe_keepCloser_18 : decode bSe_keepCloser 18 = .ok (.aload_n 1, 1) := by decide +kernel
theorem dSe_keepCloser_19 : decode bSe_keepCloser 19 = .ok (.aload_n 0, 1) := by decide +kernel
theorem dSe_keepCloser_20 : decode bSe_keepCloser 20 = .ok (.getfield 18, 3) := by decide +kernel
theorem dSe_keepCloser_23 : decode bSe_keepCloser 23 = .ok (.invokevirtual 113, 3) := by decide +kernel
theorem dSe_keepCloser_26 : decode bSe_keepCloser 26 = .ok (.ifCond .eq 16, 3) := by decide +kernel
theorem dSe_keepCloser_29 : decode bSe_keepCloser 29 = .ok (.aload_n 0, 1) := by decide +kernel
theorem dSe_keepCloser_30 : decode bSe_keepCloser 30 = .ok (.getfield 18, 3) := by decide +kernel
theorem dSe_keepCloser_33 : decode bSe_keepCloser 33 = .ok (.aload_n 1, 1) := by decide +kernel
theorem dSe_keepCloser_34 : decode bSe_keepCloser 34 = .ok (.invokevirtual 116, 3) := by decide +kernel
theorem dSe_keepCloser_37 : decode bSe_keepCloser 37 = .ok (.aload_n 0, 1) := by decide +kernel
theorem dSe_keepCloser_38 : decode bSe_keepCloser 38 = .ok (.lload_n 2, 1) := by decide +kernel
theorem dSe_keepCloser_39 : decode bSe_keepCloser 39 = .ok (.putfield 84, 3) := by decide +kernel
theorem dSe_keepCloser_42 : decode bSe_keepCloser 42 = .ok (.return_, 1) := by decide +kernel
abbrev wSe_keepCloser : List Cond := Cond.code ySe_keepCloser bSe_keepCloser 4 none   :: tbl
theorem kcSe_keepCloser : Cond.code ySe_keepCloser bSe_keepCloser 4 none ∈ tbl := tb3 67 (by decide +kernel) (by decide +kernel)
theorem kiSe_keepCloser : Cond.instanceMethod ySe_keepCloser ∈ tbl := tb3 66 (by decide +kernel) (by decide +kernel)
theorem ksSe_keepCloser : Cond.selects ySe_keepCloser.cls ySe_keepCloser ySe_keepCloser ∈ tbl := tb0 24 (by decide +kernel) (by decide +kernel)
theorem kfSe_11 : Cond.fieldLink RSe 11 (TSe 0).1 (TSe 0).2.1 (TSe 0).2.2.1 ∈ tbl := tb1 151 (by decide +kernel) (by decide +kernel)
theorem kfSe_18 : Cond.fieldLink RSe 18 (TSe 2).1 (TSe 2).2.1 (TSe 2).2.2.1 ∈ tbl := tb1 155 (by decide +kernel) (by decide +kernel)
theorem kfSe_22 : Cond.fieldLink RSe 22 (TSe 4).1 (TSe 4).2.1 (TSe 4).2.2.1 ∈ tbl := tb1 159 (by decide +kernel) (by decide +kernel)
theorem kfSe_26 : Cond.fieldLink RSe 26 (TSe 5).1 (TSe 5).2.1 (TSe 5).2.2.1 ∈ tbl := tb1 160 (by decide +kernel) (by decide +kernel)
theorem kfSe_30 : Cond.fieldLink RSe 30 (TSe 7).1 (TSe 7).2.1 (TSe 7).2.2.1 ∈ tbl := tb1 162 (by decide +kernel) (by decide +kernel)
theorem kfSe_33 : Cond.fieldLink RSe 33 (TSe 9).1 (TSe 9).2.1 (TSe 9).2.2.1 ∈ tbl := tb1 164 (by decide +kernel) (by decide +kernel)
theorem kfSe_36 : Cond.fieldLink RSe 36 (TSe 1).1 (TSe 1).2.1 (TSe 1).2.2.1 ∈ tbl := tb1 153 (by decide +kernel) (by decide +kernel)
theorem kfSe_40 : Cond.fieldLink RSe 40 (TTr 0).1 (TTr 0).2.1 (TTr 0).2.2.1 ∈ tbl := tb1 116 (by decide +kernel) (by decide +kernel)
theorem kfSe_49 : Cond.fieldLink RSe 49 (TSe 6).1 (TSe 6).2.1 (TSe 6).2.2.1 ∈ tbl := tb1 161 (by decide +kernel) (by decide +kernel)
theorem kfSe_56 : Cond.fieldLink RSe 56 (TPa 1).1 (TPa 1).2.1 (TPa 1).2.2.1 ∈ tbl := tb1 99 (by decide +kernel) (by decide +kernel)
theorem kfSe_61 : Cond.fieldLink RSe 61 (TPa 3).1 (TPa 3).2.1 (TPa 3).2.2.1 ∈ tbl := tb1 104 (by decide +kernel) (by decide +kernel)
theorem kfSe_68 : Cond.fieldLink RSe 68 (TPa 0).1 (TPa 0).2.1 (TPa 0).2.2.1 ∈ tbl := tb1 97 (by decide +kernel) (by decide +kernel)
theorem kfSe_75 : Cond.fieldLink RSe 75 (TBo 4).1 (TBo 4).2.1 (TBo 4).2.2.1 ∈ tbl := tb1 72 (by decide +kernel) (by decide +kernel)
theorem kfSe_82 : Cond.constantLong RSe 82 (9223372036854775807) ∈ tbl := tb3 55 (by decide +kernel) (by decide +kernel)
theorem kfSe_84 : Cond.fieldLink RSe 84 (TSe 3).1 (TSe 3).2.1 (TSe 3).2.2.1 ∈ tbl := tb1 157 (by decide +kernel) (by decide +kernel)
theorem kfSe_103 : Cond.fieldLink RSe 103 (TSe 8).1 (TSe 8).2.1 (TSe 8).2.2.1 ∈ tbl := tb1 163 (by decide +kernel) (by decide +kernel)
