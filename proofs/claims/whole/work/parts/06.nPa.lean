abbrev bPa_init : ByteArray := prog_4_method_1_code
def yPa_init : MethodName := ⟨RPa, "<init>", "()V"⟩
abbrev bPa_open : ByteArray := prog_4_method_2_code
def yPa_open : MethodName := ⟨RPa, "open", "(I)V"⟩
abbrev bPa_add : ByteArray := prog_4_method_3_code
def yPa_add : MethodName := ⟨RPa, "add", "(LBoxedPages$Box;)V"⟩
abbrev bPa_drop : ByteArray := prog_4_method_4_code
def yPa_drop : MethodName := ⟨RPa, "drop", "(I)V"⟩
abbrev bPa_frame : ByteArray := prog_4_method_5_code
def yPa_frame : MethodName := ⟨RPa, "frame", "(ILBoxedPages$Box;)V"⟩
abbrev bPa_slotThatGrowsLeast : ByteArray := prog_4_method_6_code
def yPa_slotThatGrowsLeast : MethodName := ⟨RPa, "slotThatGrowsLeast", "(LBoxedPages$Box;)I"⟩
abbrev bPa_bestPartner : ByteArray := prog_4_method_7_code
def yPa_bestPartner : MethodName := ⟨RPa, "bestPartner", "(I)I"⟩
abbrev bPa_writeTo : ByteArray := prog_4_method_8_code
def yPa_writeTo : MethodName := ⟨RPa, "writeTo", "([I)V"⟩
abbrev bPa_readFrom : ByteArray := prog_4_method_9_code
def yPa_readFrom : MethodName := ⟨RPa, "readFrom", "([I)V"⟩
theorem dPa_init_0 : decode bPa_init 0 = .ok (.aload_n 0, 1) := by decide +kernel
theorem dPa_init_1 : decode bPa_init 1 = .ok (.invokespecial 3, 3) := by decide +kernel
theorem dPa_init_4 : decode bPa_init 4 = .ok (.aload_n 0, 1) := by decide +kernel
theorem dPa_init_5 : decode bPa_init 5 = .ok (.bipush 6, 2) := by decide +kernel
theorem dPa_init_7 : decode bPa_init 7 = .ok (.anewarray 9, 3) := by decide +kernel
theorem dPa_init_10 : decode bPa_init 10 = .ok (.putfield 11, 3) := by decide +kernel
theorem dPa_init_13 : decode bPa_init 13 = .ok (.iconst 0, 1) := by decide +kernel
theorem dPa_init_14 : decode bPa_init 14 = .ok (.istore_n 1, 1) := by decide +kernel
theorem dPa_init_15 : decode bPa_init 15 = .ok (.iload_n 1, 1) := by decide +kernel
theorem dPa_init_16 : decode bPa_init 16 = .ok (.aload_n 0, 1) := by decide +kernel
theorem dPa_init_17 : decode bPa_init 17 = .ok (.getfield 11, 3) := by decide +kernel
theorem dPa_init_20 : decode bPa_init 20 = .ok (.arraylength, 1) := by decide +kernel
theorem dPa_init_21 : decode bPa_init 21 = .ok (.if_icmp .ge 22, 3) := by decide +kernel
theorem dPa_init_24 : decode bPa_init 24 = .ok (.aload_n 0, 1) := by decide +kernel
theorem dPa_init_25 : decode bPa_init 25 = .ok (.getfield 11, 3) := by decide +kernel
theorem dPa_init_28 : decode bPa_init 28 = .ok (.iload_n 1, 1) := by decide +kernel
theorem dPa_init_29 : decode bPa_init 29 = .ok (.new 9, 3) := by decide +kernel
theorem dPa_init_32 : decode bPa_init 32 = .ok (.dup, 1) := by decide +kernel
theorem dPa_init_33 : decode bPa_init 33 = .ok (.invokespecial 17, 3) := by decide +kernel
theorem dPa_init_36 : decode bPa_init 36 = .ok (.aastore, 1) := by decide +kernel
theorem dPa_init_37 : decode bPa_init 37 = .ok (.iinc 1 1, 3) := by decide +kernel
theorem dPa_init_40 : decode bPa_init 40 = .ok (.goto (-25), 3) := by decide +kernel
theorem dPa_init_43 : decode bPa_init 43 = .ok (.return_, 1) := by decide +kernel
abbrev wPa_init : List Cond := Cond.code yPa_init bPa_init 2 none   :: tbl
theorem kcPa_init : Cond.code yPa_init bPa_init 2 none ∈ tbl := tb1 90 (by decide +kernel) (by decide +kernel)
theorem kiPa_init : Cond.instanceMethod yPa_init ∈ tbl := tb1 89 (by decide +kernel) (by decide +kernel)
theorem dPa_open_0 : decode bPa_open 0 = .ok (.aload_n 0, 1) := by decide +kernel
theorem dPa_open_1 : decode bPa_open 1 = .ok (.iload_n 1, 1) := by decide +kernel
theorem dPa_open_2 : decode bPa_open 2 = .ok (.putfield 18, 3) := by decide +kernel
theorem dPa_open_5 : decode bPa_open 5 = .ok (.aload_n 0, 1) := by decide +kernel
theorem dPa_open_6 : decode bPa_open 6 = .ok (.iconst 0, 1) := by decide +kernel
theorem dPa_open_7 : decode bPa_open 7 = .ok (.putfield 22, 3) := by decide +kernel
theorem dPa_open_10 : decode bPa_open 10 = .ok (.aload_n 0, 1) := by decide +kernel
theorem dPa_open_11 : decode bPa_open 11 = .ok (.iconst 1, 1) := by decide +kernel
theorem dPa_open_12 : decode bPa_open 12 = .ok (.putfield 25, 3) := by decide +kernel
theorem dPa_open_15 : decode bPa_open 15 = .ok (.return_, 1) := by decide +kernel
abbrev wPa_open : List Cond := Cond.code yPa_open bPa_open 2 none   :: tbl
theorem kcPa_open : Cond.code yPa_open bPa_open 2 none ∈ tbl := tb2 81 (by decide +kernel) (by decide +kernel)
theorem kiPa_open : Cond.instanceMethod yPa_open ∈ tbl := tb2 79 (by decide +kernel) (by decide +kernel)
theorem ksPa_open : Cond.selects yPa_open.cls yPa_open yPa_open ∈ tbl := tb2 80 (by decide +kernel) (by decide +kernel)
theorem dPa_add_0 : decode bPa_add 0 = .ok (.aload_n 0, 1) := by decide +kernel
theorem dPa_add_1 : decode bPa_add 1 = .ok (.getfield 22, 3) := by decide +kernel
theorem dPa_add_4 : decode bPa_add 4 = .ok (.aload_n 0, 1) := by decide +kernel
theorem dPa_add_5 : decode bPa_add 5 = .ok (.getfield 11, 3) := by decide +kernel
theorem dPa_add_8 : decode bPa_add 8 = .ok (.arraylength, 1) := by decide +kernel
theorem dPa_add_9 : decode bPa_add 9 = .ok (.if_icmp .ge 31, 3) := by decide +kernel
theorem dPa_add_12 : decode bPa_add 12 = .ok (.aload_n 0, 1) := by decide +kernel
theorem dPa_add_13 : decode bPa_add 13 = .ok (.getfield 11, 3) := by decide +kernel
theorem dPa_add_16 : decode bPa_add 16 = .ok (.aload_n 0, 1) := by decide +kernel
theorem dPa_add_17 : decode bPa_add 17 = .ok (.getfield 22, 3) := by decide +kernel
theorem dPa_add_20 : decode bPa_add 20 = .ok (.aaload, 1) := by decide +kernel
theorem dPa_add_21 : decode bPa_add 21 = .ok (.aload_n 1, 1) := by decide +kernel
theorem dPa_add_22 : decode bPa_add 22 = .ok (.invokevirtual 29, 3) := by decide +kernel
theorem dPa_add_25 : decode bPa_add 25 = .ok (.aload_n 0, 1) := by decide +kernel
theorem dPa_add_26 : decode bPa_add 26 = .ok (.dup, 1) := by decide +kernel
theorem dPa_add_27 : decode bPa_add 27 = .ok (.getfield 22, 3) := by decide +kernel
theorem dPa_add_30 : decode bPa_add 30 = .ok (.iconst 1, 1) := by decide +kernel
theorem dPa_add_31 : decode bPa_add 31 = .ok (.iadd, 1) := by decide +kernel
theorem dPa_add_32 : decode bPa_add 32 = .ok (.putfield 22, 3) := by decide +kernel
theorem dPa_add_35 : decode bPa_add 35 = .ok (.aload_n 0, 1) := by decide +kernel
theorem dPa_add_36 : decode bPa_add 36 = .ok (.iconst 1, 1) := by decide +kernel
theorem dPa_add_37 : decode bPa_add 37 = .ok (.putfield 25, 3) := by decide +kernel
theorem dPa_add_40 : decode bPa_add 40 = .ok (.return_, 1) := by decide +kernel
abbrev wPa_add : List Cond := Cond.code yPa_add bPa_add 2 none   :: tbl
theorem kcPa_add : Cond.code yPa_add bPa_add 2 none ∈ tbl := tb2 30 (by decide +kernel) (by decide +kernel)
theorem kiPa_add : Cond.instanceMethod yPa_add ∈ tbl := tb2 28 (by decide +kernel) (by decide +kernel)
theorem ksPa_add : Cond.selects yPa_add.cls yPa_add yPa_add ∈ tbl := tb2 29 (by decide +kernel) (by decide +kernel)
theorem dPa_drop_0 : decode bPa_drop 0 = .ok (.iload_n 1, 1) := by decide +kernel
theorem dPa_drop_1 : decode bPa_drop 1 = .ok (.ifCond .lt 44, 3) := by decide +kernel
theorem dPa_drop_4 : decode bPa_drop 4 = .ok (.iload_n 1, 1) := by decide +kernel
theorem dPa_drop_5 : decode bPa_drop 5 = .ok (.aload_n 0, 1) := by decide +kernel
theorem dPa_drop_6 : decode bPa_drop 6 = .ok (.getfield 22, 3) := by decide +kernel
theorem dPa_drop_9 : decode bPa_drop 9 = .ok (.if_icmp .ge 36, 3) := by decide +kernel
theorem dPa_drop_12 : decode bPa_drop 12 = .ok (.aload_n 0, 1) := by decide +kernel
theorem dPa_drop_13 : decode bPa_drop 13 = .ok (.dup, 1) := by decide +kernel
theorem dPa_drop_14 : decode bPa_drop 14 = .ok (.getfield 22, 3) := by decide +kernel
theorem dPa_drop_17 : decode bPa_drop 17 = .ok (.iconst 1, 1) := by decide +kernel
theorem dPa_drop_18 : decode bPa_drop 18 = .ok (.isub, 1) := by decide +kernel
theorem dPa_drop_19 : decode bPa_drop 19 = .ok (.putfield 22, 3) := by decide +kernel
theorem dPa_drop_22 : decode bPa_drop 22 = .ok (.aload_n 0, 1) := by decide +kernel
theorem dPa_drop_23 : decode bPa_drop 23 = .ok (.getfield 11, 3) := by decide +kernel
theorem dPa_drop_26 : decode bPa_drop 26 = .ok (.iload_n 1, 1) := by decide +kernel
theorem dPa_drop_27 : decode bPa_drop 27 = .ok (.aaload, 1) := by decide +kernel
theorem dPa_drop_28 : decode bPa_drop 28 = .ok (.aload_n 0, 1) := by decide +kernel
theorem dPa_drop_29 : decode bPa_drop 29 = .ok (.getfield 11, 3) := by decide +kernel
theorem dPa_drop_32 : decode bPa_drop 32 = .ok (.aload_n 0, 1) := by decide +kernel
theorem dPa_drop_33 : decode bPa_drop 33 = .ok (.getfield 22, 3) := by decide +kernel
theorem dPa_drop_36 : decode bPa_drop 36 = .ok (.aaload, 1) := by decide +kernel
theorem dPa_drop_37 : decode bPa_drop 37 = .ok (.invokevirtual 29, 3) := by decide +kernel
theorem dPa_drop_40 : decode bPa_drop 40 = .ok (.aload_n 0, 1) := by decide +kernel
theorem dPa_drop_41 : decode bPa_drop 41 = .ok (.iconst 1, 1) := by decide +kernel
theorem dPa_drop_42 : decode bPa_drop 42 = .ok (.putfield 25, 3) := by decide +kernel
theorem dPa_drop_45 : decode bPa_drop 45 = .ok (.return_, 1) := by decide +kernel
abbrev wPa_drop : List Cond := Cond.code yPa_drop bPa_drop 2 none   :: tbl
theorem kcPa_drop : Cond.code yPa_drop bPa_drop 2 none ∈ tbl := tb2 85 (by decide +kernel) (by decide +kernel)
theorem kiPa_drop : Cond.instanceMethod yPa_drop ∈ tbl := tb2 83 (by decide +kernel) (by decide +kernel)
theorem ksPa_drop : Cond.selects yPa_drop.cls yPa_drop yPa_drop ∈ tbl := tb2 84 (by decide +kernel) (by decide +kernel)
theorem dPa_frame_0 : decode bPa_frame 0 = .ok (.aload_n 2, 1) := by decide +kernel
theorem dPa_frame_1 : decode bPa_frame 1 = .ok (.invokevirtual 33, 3) := by decide +kernel
theorem dPa_frame_4 : decode bPa_frame 4 = .ok (.iconst 0, 1) := by decide +kernel
theorem dPa_frame_5 : decode bPa_frame 5 = .ok (.istore_n 3, 1) := by decide +kernel
theorem dPa_frame_6 : decode bPa_frame 6 = .ok (.iload_n 3, 1) := by decide +kernel
theorem dPa_frame_7 : decode bPa_frame 7 = .ok (.aload_n 0, 1) := by decide +kernel
theorem dPa_frame_8 : decode bPa_frame 8 = .ok (.getfield 22, 3) := by decide +kernel
theorem dPa_frame_11 : decode bPa_frame 11 = .ok (.if_icmp .ge 28, 3) := by decide +kernel
theorem dPa_frame_14 : decode bPa_frame 14 = .ok (.iload_n 1, 1) := by decide +kernel
theorem dPa_frame_15 : decode bPa_frame 15 = .ok (.iload_n 3, 1) := by decide +kernel
theorem dPa_frame_16 : decode bPa_frame 16 = .ok (.ishr, 1) := by decide +kernel
theorem dPa_frame_17 : decode bPa_frame 17 = .ok (.iconst 1, 1) := by decide +kernel
theorem dPa_frame_18 : decode bPa_frame 18 = .ok (.iand, 1) := by decide +kernel
theorem dPa_frame_19 : decode bPa_frame 19 = .ok (.iconst 1, 1) := by decide +kernel
theorem dPa_frame_20 : decode bPa_frame 20 = .ok (.if_icmp .ne 13, 3) := by decide +kernel
theorem dPa_frame_23 : decode bPa_frame 23 = .ok (.aload_n 2, 1) := by decide +kernel
theorem dPa_frame_24 : decode bPa_frame 24 = .ok (.aload_n 0, 1) := by decide +kernel
theorem dPa_frame_25 : decode bPa_frame 25 = .ok (.getfield 11, 3) := by decide +kernel
theorem dPa_frame_28 : decode bPa_frame 28 = .ok (.iload_n 3, 1) := by decide +kernel
theorem dPa_frame_29 : decode bPa_frame 29 = .ok (.aaload, 1) := by decide +kernel
theorem dPa_frame_30 : decode bPa_frame 30 = .ok (.invokevirtual 36, 3) := by decide +kernel
theorem dPa_frame_33 : decode bPa_frame 33 = .ok (.iinc 3 1, 3) := by decide +kernel
theorem dPa_frame_36 : decode bPa_frame 36 = .ok (.goto (-30), 3) := by decide +kernel
theorem dPa_frame_39 : decode bPa_frame 39 = .ok (.return_, 1) := by decide +kernel
abbrev wPa_frame : List Cond := Cond.code yPa_frame bPa_frame 4 none   :: tbl
theorem kcPa_frame : Cond.code yPa_frame bPa_frame 4 none ∈ tbl := tb2 54 (by decide +kernel) (by decide +kernel)
theorem kiPa_frame : Cond.instanceMethod yPa_frame ∈ tbl := tb2 52 (by decide +kernel) (by decide +kernel)
theorem ksPa_frame : Cond.selects yPa_frame.cls yPa_frame yPa_frame ∈ tbl := tb2 53 (by decide +kernel) (by decide +kernel)
theorem dPa_slotThatGrowsLeast_0 : decode bPa_slotThatGrowsLeast 0 = .ok (.iconst 0, 1) := by decide +kernel
theorem dPa_slotThatGrowsLeast_1 : decode bPa_slotThatGrowsLeast 1 = .ok (.istore_n 2, 1) := by decide +kernel
theorem dPa_slotThatGrowsLeast_2 : decode bPa_slotThatGrowsLeast 2 = .ok (.ldc2_w 39, 3) := by decide +kernel
theorem dPa_slotThatGrowsLeast_5 : decode bPa_slotThatGrowsLeast 5 = .ok (.lstore_n 3, 1) := by decide +kernel
theorem dPa_slotThatGrowsLeast_6 : decode bPa_slotThatGrowsLeast 6 = .ok (.ldc2_w 39, 3) := by decide +kernel
theorem dPa_slotThatGrowsLeast_9 : decode bPa_slotThatGrowsLeast 9 = .ok (.lstore 5, 2) := by decide +kernel
theorem dPa_slotThatGrowsLeast_11 : decode bPa_slotThatGrowsLeast 11 = .ok (.iconst 0, 1) := by decide +kernel
theorem dPa_slotThatGrowsLeast_12 : decode bPa_slotThatGrowsLeast 12 = .ok (.istore 7, 2) := by decide +kernel
theorem dPa_slotThatGrowsLeast_14 : decode bPa_slotThatGrowsLeast 14 = .ok (.iload 7, 2) := by decide +kernel
theorem dPa_slotThatGrowsLeast_16 : decode bPa_slotThatGrowsLeast 16 = .ok (.aload_n 0, 1) := by decide +kernel
theorem dPa_slotThatGrowsLeast_17 : decode bPa_slotThatGrowsLeast 17 = .ok (.getfield 22, 3) := by decide +kernel
theorem dPa_slotThatGrowsLeast_20 : decode bPa_slotThatGrowsLeast 20 = .ok (.if_icmp .ge 69, 3) := by decide +kernel
theorem dPa_slotThatGrowsLeast_23 : decode bPa_slotThatGrowsLeast 23 = .ok (.aload_n 0, 1) := by decide +kernel
theorem dPa_slotThatGrowsLeast_24 : decode bPa_slotThatGrowsLeast 24 = .ok (.getfield 11, 3) := by decide +kernel
theorem dPa_slotThatGrowsLeast_27 : decode bPa_slotThatGrowsLeast 27 = .ok (.iload 7, 2) := by decide +kernel
theorem dPa_slotThatGrowsLeast_29 : decode bPa_slotThatGrowsLeast 29 = .ok (.aaload, 1) := by decide +kernel
theorem dPa_slotThatGrowsLeast_30 : decode bPa_slotThatGrowsLeast 30 = .ok (.invokevirtual 41, 3) := by decide +kernel
theorem dPa_slotThatGrowsLeast_33 : decode bPa_slotThatGrowsLeast 33 = .ok (.lstore 8, 2) := by decide +kernel
theorem dPa_slotThatGrowsLeast_35 : decode bPa_slotThatGrowsLeast 35 = .ok (.aload_n 0, 1) := by decide +kernel
theorem dPa_slotThatGrowsLeast_36 : decode bPa_slotThatGrowsLeast 36 = .ok (.getfield 11, 3) := by decide +kernel
theorem dPa_slotThatGrowsLeast_39 : decode bPa_slotThatGrowsLeast 39 = .ok (.iload 7, 2) := by decide +kernel
theorem dPa_slotThatGrowsLeast_41 : decode bPa_slotThatGrowsLeast 41 = .ok (.aaload, 1) := by decide +kernel
theorem dPa_slotThatGrowsLeast_42 : decode bPa_slotThatGrowsLeast 42 = .ok (.aload_n 1, 1) := by decide +kernel
theorem dPa_slotThatGrowsLeast_43 : decode bPa_slotThatGrowsLeast 43 = .ok (.invokevirtual 45, 3) := by decide +kernel
theorem dPa_slotThatGrowsLeast_46 : decode bPa_slotThatGrowsLeast 46 = .ok (.lload 8, 2) := by decide +kernel
theorem dPa_slotThatGrowsLeast_48 : decode bPa_slotThatGrowsLeast 48 = .ok (.lsub, 1) := by decide +kernel
theorem dPa_slotThatGrowsLeast_49 : decode bPa_slotThatGrowsLeast 49 = .ok (.lstore 10, 2) := by decide +kernel
theorem dPa_slotThatGrowsLeast_51 : decode bPa_slotThatGrowsLeast 51 = .ok (.lload 10, 2) := by decide +kernel
theorem dPa_slotThatGrowsLeast_53 : decode bPa_slotThatGrowsLeast 53 = .ok (.lload_n 3, 1) := by decide +kernel
theorem dPa_slotThatGrowsLeast_54 : decode bPa_slotThatGrowsLeast 54 = .ok (.lcmp, 1) := by decide +kernel
theorem dPa_slotThatGrowsLeast_55 : decode bPa_slotThatGrowsLeast 55 = .ok (.ifCond .lt 18, 3) := by decide +kernel
theorem dPa_slotThatGrowsLeast_58 : decode bPa_slotThatGrowsLeast 58 = .ok (.lload 10, 2) := by decide +kernel
theorem dPa_slotThatGrowsLeast_60 : decode bPa_slotThatGrowsLeast 60 = .ok (.lload_n 3, 1) := by decide +kernel
theorem dPa_slotThatGrowsLeast_61 : decode bPa_slotThatGrowsLeast 61 = .ok (.lcmp, 1) := by decide +kernel
theorem dPa_slotThatGrowsLeast_62 : decode bPa_slotThatGrowsLeast 62 = .ok (.ifCond .ne 21, 3) := by decide +kernel
theorem dPa_slotThatGrowsLeast_65 : decode bPa_slotThatGrowsLeast 65 = .ok (.lload 8, 2) := by decide +kernel
theorem dPa_slotThatGrowsLeast_67 : decode bPa_slotThatGrowsLeast 67 = .ok (.lload 5, 2) := by decide +kernel
theorem dPa_slotThatGrowsLeast_69 : decode bPa_slotThatGrowsLeast 69 = .ok (.lcmp, 1) := by decide +kernel
theorem dPa_slotThatGrowsLeast_70 : decode bPa_slotThatGrowsLeast 70 = .ok (.ifCond .ge 13, 3) := by decide +kernel
theorem dPa_slotThatGrowsLeast_73 : decode bPa_slotThatGrowsLeast 73 = .ok (.iload 7, 2) := by decide +kernel
theorem dPa_slotThatGrowsLeast_75 : decode bPa_slotThatGrowsLeast 75 = .ok (.istore_n 2, 1) := by decide +kernel
theorem dPa_slotThatGrowsLeast_76 : decode bPa_slotThatGrowsLeast 76 = .ok (.lload 10, 2) := by decide +kernel
theorem dPa_slotThatGrowsLeast_78 : decode bPa_slotThatGrowsLeast 78 = .ok (.lstore_n 3, 1) := by decide +kernel
theorem dPa_slotThatGrowsLeast_79 : decode bPa_slotThatGrowsLeast 79 = .ok (.lload 8, 2) := by decide +kernel
theorem dPa_slotThatGrowsLeast_81 : decode bPa_slotThatGrowsLeast 81 = .ok (.lstore 5, 2) := by decide +kernel
theorem dPa_slotThatGrowsLeast_83 : decode bPa_slotThatGrowsLeast 83 = .ok (.iinc 7 1, 3) := by decide +kernel
theorem dPa_slotThatGrowsLeast_86 : decode bPa_slotThatGrowsLeast 86 = .ok (.goto (-72), 3) := by decide +kernel
theorem dPa_slotThatGrowsLeast_89 : decode bPa_slotThatGrowsLeast 89 = .ok (.iload_n 2, 1) := by decide +kernel
theorem dPa_slotThatGrowsLeast_90 : decode bPa_slotThatGrowsLeast 90 = .ok (.ireturn, 1) := by decide +kernel
abbrev wPa_slotThatGrowsLeast : List Cond := Cond.code yPa_slotThatGrowsLeast bPa_slotThatGrowsLeast 12 (some .int)   :: tbl
theorem kcPa_slotThatGrowsLeast : Cond.code yPa_slotThatGrowsLeast bPa_slotThatGrowsLeast 12 (some .int) ∈ tbl := tb2 15 (by decide +kernel) (by decide +kernel)
theorem kiPa_slotThatGrowsLeast : Cond.instanceMethod yPa_slotThatGrowsLeast ∈ tbl := tb2 13 (by decide +kernel) (by decide +kernel)
theorem ksPa_slotThatGrowsLeast : Cond.selects yPa_slotThatGrowsLeast.cls yPa_slotThatGrowsLeast yPa_slotThatGrowsLeast ∈ tbl := tb2 14 (by decide +kernel) (by decide +kernel)
theorem dPa_bestPartner_0 : decode bPa_bestPartner 0 = .ok (.iload_n 1, 1) := by decide +kernel
theorem dPa_bestPartner_1 : decode bPa_bestPartner 1 = .ok (.istore_n 2, 1) := by decide +kernel
theorem dPa_bestPartner_2 : decode bPa_bestPartner 2 = .ok (.ldc2_w 39, 3) := by decide +kernel
theorem dPa_bestPartner_5 : decode bPa_bestPartner 5 = .ok (.lstore_n 3, 1) := by decide +kernel
theorem dPa_bestPartner_6 : decode bPa_bestPartner 6 = .ok (.iconst 0, 1) := by decide +kernel
theorem dPa_bestPartner_7 : decode bPa_bestPartner 7 = .ok (.istore 5, 2) := by decide +kernel
theorem dPa_bestPartner_9 : decode bPa_bestPartner 9 = .ok (.iload 5, 2) := by decide +kernel
theorem dPa_bestPartner_11 : decode bPa_bestPartner 11 = .ok (.aload_n 0, 1) := by decide +kernel
theorem dPa_bestPartner_12 : decode bPa_bestPartner 12 = .ok (.getfield 22, 3) := by decide +kernel
theorem dPa_bestPartner_15 : decode bPa_bestPartner 15 = .ok (.if_icmp .ge 46, 3) := by decide +kernel
theorem dPa_bestPartner_18 : decode bPa_bestPartner 18 = .ok (.aload_n 0, 1) := by decide +kernel
theorem dPa_bestPartner_19 : decode bPa_bestPartner 19 = .ok (.getfield 11, 3) := by decide +kernel
theorem dPa_bestPartner_22 : decode bPa_bestPartner 22 = .ok (.iload 5, 2) := by decide +kernel
theorem dPa_bestPartner_24 : decode bPa_bestPartner 24 = .ok (.aaload, 1) := by decide +kernel
theorem dPa_bestPartner_25 : decode bPa_bestPartner 25 = .ok (.aload_n 0, 1) := by decide +kernel
theorem dPa_bestPartner_26 : decode bPa_bestPartner 26 = .ok (.getfield 11, 3) := by decide +kernel
theorem dPa_bestPartner_29 : decode bPa_bestPartner 29 = .ok (.iload_n 1, 1) := by decide +kernel
theorem dPa_bestPartner_30 : decode bPa_bestPartner 30 = .ok (.aaload, 1) := by decide +kernel
theorem dPa_bestPartner_31 : decode bPa_bestPartner 31 = .ok (.invokevirtual 45, 3) := by decide +kernel
theorem dPa_bestPartner_34 : decode bPa_bestPartner 34 = .ok (.lstore 6, 2) := by decide +kernel
theorem dPa_bestPartner_36 : decode bPa_bestPartner 36 = .ok (.iload 5, 2) := by decide +kernel
theorem dPa_bestPartner_38 : decode bPa_bestPartner 38 = .ok (.iload_n 1, 1) := by decide +kernel
theorem dPa_bestPartner_39 : decode bPa_bestPartner 39 = .ok (.if_icmp .eq 16, 3) := by decide +kernel
theorem dPa_bestPartner_42 : decode bPa_bestPartner 42 = .ok (.lload 6, 2) := by decide +kernel
theorem dPa_bestPartner_44 : decode bPa_bestPartner 44 = .ok (.lload_n 3, 1) := by decide +kernel
theorem dPa_bestPartner_45 : decode bPa_bestPartner 45 = .ok (.lcmp, 1) := by decide +kernel
theorem dPa_bestPartner_46 : decode bPa_bestPartner 46 = .ok (.ifCond .ge 9, 3) := by decide +kernel
theorem dPa_bestPartner_49 : decode bPa_bestPartner 49 = .ok (.iload 5, 2) := by decide +kernel
theorem dPa_bestPartner_51 : decode bPa_bestPartner 51 = .ok (.istore_n 2, 1) := by decide +kernel
theorem dPa_bestPartner_52 : decode bPa_bestPartner 52 = .ok (.lload 6, 2) := by decide +kernel
theorem dPa_bestPartner_54 : decode bPa_bestPartner 54 = .ok (.lstore_n 3, 1) := by decide +kernel
theorem dPa_bestPartner_55 : decode bPa_bestPartner 55 = .ok (.iinc 5 1, 3) := by decide +kernel
theorem dPa_bestPartner_58 : decode bPa_bestPartner 58 = .ok (.goto (-49), 3) := by decide +kernel
theorem dPa_bestPartner_61 : decode bPa_bestPartner 61 = .ok (.iload_n 2, 1) := by decide +kernel
theorem dPa_bestPartner_62 : decode bPa_bestPartner 62 = .ok (.ireturn, 1) := by decide +kernel
abbrev wPa_bestPartner : List Cond := Cond.code yPa_bestPartner bPa_bestPartner 8 (some .int)   :: tbl
theorem kcPa_bestPartner : Cond.code yPa_bestPartner bPa_bestPartner 8 (some .int) ∈ tbl := tb2 73 (by decide +kernel) (by decide +kernel)
theorem kiPa_bestPartner : Cond.instanceMethod yPa_bestPartner ∈ tbl := tb2 71 (by decide +kernel) (by decide +kernel)
theorem ksPa_bestPartner : Cond.selects yPa_bestPartner.cls yPa_bestPartner yPa_bestPartner ∈ tbl := tb2 72 (by decide +kernel) (by decide +kernel)
theorem dPa_writeTo_0 : decode bPa_writeTo 0 = .ok (.aload_n 1, 1) := by decide +kernel
theorem dPa_writeTo_1 : decode bPa_writeTo 1 = .ok (.iconst 0, 1) := by decide +kernel
theorem dPa_writeTo_2 : decode bPa_writeTo 2 = .ok (.aload_n 0, 1) := by decide +kernel
theorem dPa_writeTo_3 : decode bPa_writeTo 3 = .ok (.getfield 18, 3) := by decide +kernel
theorem dPa_writeTo_6 : decode bPa_writeTo 6 = .ok (.iastore, 1) := by decide +kernel
theorem dPa_writeTo_7 : decode bPa_writeTo 7 = .ok (.aload_n 1, 1) := by decide +kernel
theorem dPa_writeTo_8 : decode bPa_writeTo 8 = .ok (.iconst 1, 1) := by decide +kernel
theorem dPa_writeTo_9 : decode bPa_writeTo 9 = .ok (.aload_n 0, 1) := by decide +kernel
theorem dPa_writeTo_10 : decode bPa_writeTo 10 = .ok (.getfield 22, 3) := by decide +kernel
theorem dPa_writeTo_13 : decode bPa_writeTo 13 = .ok (.iastore, 1) := by decide +kernel
theorem dPa_writeTo_14 : decode bPa_writeTo 14 = .ok (.iconst 0, 1) := by decide +kernel
theorem dPa_writeTo_15 : decode bPa_writeTo 15 = .ok (.istore_n 2, 1) := by decide +kernel
theorem dPa_writeTo_16 : decode bPa_writeTo 16 = .ok (.iload_n 2, 1) := by decide +kernel
theorem dPa_writeTo_17 : decode bPa_writeTo 17 = .ok (.aload_n 0, 1) := by decide +kernel
theorem dPa_writeTo_18 : decode bPa_writeTo 18 = .ok (.getfield 22, 3) := by decide +kernel
theorem dPa_writeTo_21 : decode bPa_writeTo 21 = .ok (.if_icmp .ge 88, 3) := by decide +kernel
theorem dPa_writeTo_24 : decode bPa_writeTo 24 = .ok (.iload_n 2, 1) := by decide +kernel
theorem dPa_writeTo_25 : decode bPa_writeTo 25 = .ok (.iconst 5, 1) := by decide +kernel
theorem dPa_writeTo_26 : decode bPa_writeTo 26 = .ok (.if_icmp .ge 83, 3) := by decide +kernel
theorem dPa_writeTo_29 : decode bPa_writeTo 29 = .ok (.iconst 2, 1) := by decide +kernel
theorem dPa_writeTo_30 : decode bPa_writeTo 30 = .ok (.iload_n 2, 1) := by decide +kernel
theorem dPa_writeTo_31 : decode bPa_writeTo 31 = .ok (.iconst 5, 1) := by decide +kernel
theorem dPa_writeTo_32 : decode bPa_writeTo 32 = .ok (.imul, 1) := by decide +kernel
theorem dPa_writeTo_33 : decode bPa_writeTo 33 = .ok (.iadd, 1) := by decide +kernel
theorem dPa_writeTo_34 : decode bPa_writeTo 34 = .ok (.istore_n 3, 1) := by decide +kernel
theorem dPa_writeTo_35 : decode bPa_writeTo 35 = .ok (.aload_n 1, 1) := by decide +kernel
theorem dPa_writeTo_36 : decode bPa_writeTo 36 = .ok (.iload_n 3, 1) := by decide +kernel
theorem dPa_writeTo_37 : decode bPa_writeTo 37 = .ok (.aload_n 0, 1) := by decide +kernel
theorem dPa_writeTo_38 : decode bPa_writeTo 38 = .ok (.getfield 11, 3) := by decide +kernel
theorem dPa_writeTo_41 : decode bPa_writeTo 41 = .ok (.iload_n 2, 1) := by decide +kernel
theorem dPa_writeTo_42 : decode bPa_writeTo 42 = .ok (.aaload, 1) := by decide +kernel
theorem dPa_writeTo_43 : decode bPa_writeTo 43 = .ok (.getfield 49, 3) := by decide +kernel
theorem dPa_writeTo_46 : decode bPa_writeTo 46 = .ok (.iastore, 1) := by decide +kernel
theorem dPa_writeTo_47 : decode bPa_writeTo 47 = .ok (.aload_n 1, 1) := by decide +kernel
theorem dPa_writeTo_48 : decode bPa_writeTo 48 = .ok (.iload_n 3, 1) := by decide +kernel
theorem dPa_writeTo_49 : decode bPa_writeTo 49 = .ok (.iconst 1, 1) := by decide +kernel
theorem dPa_writeTo_50 : decode bPa_writeTo 50 = .ok (.iadd, 1) := by decide +kernel
theorem dPa_writeTo_51 : decode bPa_writeTo 51 = .ok (.aload_n 0, 1) := by decide +kernel
theorem dPa_writeTo_52 : decode bPa_writeTo 52 = .ok (.getfield 11, 3) := by decide +kernel
theorem dPa_writeTo_55 : decode bPa_writeTo 55 = .ok (.iload_n 2, 1) := by decide +kernel
theorem dPa_writeTo_56 : decode bPa_writeTo 56 = .ok (.aaload, 1) := by decide +kernel
theorem dPa_writeTo_57 : decode bPa_writeTo 57 = .ok (.getfield 52, 3) := by decide +kernel
theorem dPa_writeTo_60 : decode bPa_writeTo 60 = .ok (.iastore, 1) := by decide +kernel
theorem dPa_writeTo_61 : decode bPa_writeTo 61 = .ok (.aload_n 1, 1) := by decide +kernel
theorem dPa_writeTo_62 : decode bPa_writeTo 62 = .ok (.iload_n 3, 1) := by decide +kernel
theorem dPa_writeTo_63 : decode bPa_writeTo 63 = .ok (.iconst 2, 1) := by decide +kernel
theorem dPa_writeTo_64 : decode bPa_writeTo 64 = .ok (.iadd, 1) := by decide +kernel
theorem dPa_writeTo_65 : decode bPa_writeTo 65 = .ok (.aload_n 0, 1) := by decide +kernel
theorem dPa_writeTo_66 : decode bPa_writeTo 66 = .ok (.getfield 11, 3) := by decide +kernel
theorem dPa_writeTo_69 : decode bPa_writeTo 69 = .ok (.iload_n 2, 1) := by decide +kernel
theorem dPa_writeTo_70 : decode bPa_writeTo 70 = .ok (.aaload, 1) := by decide +kernel
theorem dPa_writeTo_71 : decode bPa_writeTo 71 = .ok (.getfield 55, 3) := by decide +kernel
theorem dPa_writeTo_74 : decode bPa_writeTo 74 = .ok (.iastore, 1) := by decide +kernel
theorem dPa_writeTo_75 : decode bPa_writeTo 75 = .ok (.aload_n 1, 1) := by decide +kernel
theorem dPa_writeTo_76 : decode bPa_writeTo 76 = .ok (.iload_n 3, 1) := by decide +kernel
theorem dPa_writeTo_77 : decode bPa_writeTo 77 = .ok (.iconst 3, 1) := by decide +kernel
theorem dPa_writeTo_78 : decode bPa_writeTo 78 = .ok (.iadd, 1) := by decide +kernel
theorem dPa_writeTo_79 : decode bPa_writeTo 79 = .ok (.aload_n 0, 1) := by decide +kernel
theorem dPa_writeTo_80 : decode bPa_writeTo 80 = .ok (.getfield 11, 3) := by decide +kernel
theorem dPa_writeTo_83 : decode bPa_writeTo 83 = .ok (.iload_n 2, 1) := by decide +kernel
theorem dPa_writeTo_84 : decode bPa_writeTo 84 = .ok (.aaload, 1) := by decide +kernel
theorem dPa_writeTo_85 : decode bPa_writeTo 85 = .ok (.getfield 58, 3) := by decide +kernel
theorem dPa_writeTo_88 : decode bPa_writeTo 88 = .ok (.iastore, 1) := by decide +kernel
theorem dPa_writeTo_89 : decode bPa_writeTo 89 = .ok (.aload_n 1, 1) := by decide +kernel
theorem dPa_writeTo_90 : decode bPa_writeTo 90 = .ok (.iload_n 3, 1) := by decide +kernel
theorem dPa_writeTo_91 : decode bPa_writeTo 91 = .ok (.iconst 4, 1) := by decide +kernel
theorem dPa_writeTo_92 : decode bPa_writeTo 92 = .ok (.iadd, 1) := by decide +kernel
theorem dPa_writeTo_93 : decode bPa_writeTo 93 = .ok (.aload_n 0, 1) := by decide +kernel
theorem dPa_writeTo_94 : decode bPa_writeTo 94 = .ok (.getfield 11, 3) := by decide +kernel
theorem dPa_writeTo_97 : decode bPa_writeTo 97 = .ok (.iload_n 2, 1) := by decide +kernel
theorem dPa_writeTo_98 : decode bPa_writeTo 98 = .ok (.aaload, 1) := by decide +kernel
theorem dPa_writeTo_99 : decode bPa_writeTo 99 = .ok (.getfield 61, 3) := by decide +kernel
theorem dPa_writeTo_102 : decode bPa_writeTo 102 = .ok (.iastore, 1) := by decide +kernel
theorem dPa_writeTo_103 : decode bPa_writeTo 103 = .ok (.iinc 2 1, 3) := by decide +kernel
theorem dPa_writeTo_106 : decode bPa_writeTo 106 = .ok (.goto (-90), 3) := by decide +kernel
theorem dPa_writeTo_109 : decode bPa_writeTo 109 = .ok (.return_, 1) := by decide +kernel
abbrev wPa_writeTo : List Cond := Cond.code yPa_writeTo bPa_writeTo 4 none   :: tbl
theorem kcPa_writeTo : Cond.code yPa_writeTo bPa_writeTo 4 none ∈ tbl := tb2 142 (by decide +kernel) (by decide +kernel)
theorem kiPa_writeTo : Cond.instanceMethod yPa_writeTo ∈ tbl := tb2 140 (by decide +kernel) (by decide +kernel)
theorem ksPa_writeTo : Cond.selects yPa_writeTo.cls yPa_writeTo yPa_writeTo ∈ tbl := tb2 141 (by decide +kernel) (by decide +kernel)
theorem dPa_readFrom_0 : decode bPa_readFrom 0 = .ok (.aload_n 0, 1) := by decide +kernel
theorem dPa_readFrom_1 : decode bPa_readFrom 1 = .ok (.aload_n 1, 1) := by decide +kernel
theorem dPa_readFrom_2 : decode bPa_readFrom 2 = .ok (.iconst 0, 1) := by decide +kernel
theorem dPa_readFrom_3 : decode bPa_readFrom 3 = .ok (.iaload, 1) := by decide +kernel
theorem dPa_readFrom_4 : decode bPa_readFrom 4 = .ok (.putfield 18, 3) := by decide +kernel
theorem dPa_readFrom_7 : decode bPa_readFrom 7 = .ok (.aload_n 0, 1) := by decide +kernel
theorem dPa_readFrom_8 : decode bPa_readFrom 8 = .ok (.iconst 0, 1) := by decide +kernel
theorem dPa_readFrom_9 : decode bPa_readFrom 9 = .ok (.aload_n 1, 1) := by decide +kernel
theorem dPa_readFrom_10 : decode bPa_readFrom 10 = .ok (.iconst 1, 1) := by decide +kernel
theorem dPa_readFrom_11 : decode bPa_readFrom 11 = .ok (.iaload, 1) := by decide +kernel
theorem dPa_readFrom_12 : decode bPa_readFrom 12 = .ok (.iconst 5, 1) := by decide +kernel
theorem dPa_readFrom_13 : decode bPa_readFrom 13 = .ok (.invokestatic 64, 3) := by decide +kernel
theorem dPa_readFrom_16 : decode bPa_readFrom 16 = .ok (.invokestatic 70, 3) := by decide +kernel
theorem dPa_readFrom_19 : decode bPa_readFrom 19 = .ok (.putfield 22, 3) := by decide +kernel
theorem dPa_readFrom_22 : decode bPa_readFrom 22 = .ok (.aload_n 0, 1) := by decide +kernel
theorem dPa_readFrom_23 : decode bPa_readFrom 23 = .ok (.iconst 0, 1) := by decide +kernel
theorem dPa_readFrom_24 : decode bPa_readFrom 24 = .ok (.putfield 25, 3) := by decide +kernel
theorem dPa_readFrom_27 : decode bPa_readFrom 27 = .ok (.iconst 0, 1) := by decide +kernel
theorem dPa_readFrom_28 : decode bPa_readFrom 28 = .ok (.istore_n 2, 1) := by decide +kernel
theorem dPa_readFrom_29 : decode bPa_readFrom 29 = .ok (.iload_n 2, 1) := by decide +kernel
theorem dPa_readFrom_30 : decode bPa_readFrom 30 = .ok (.aload_n 0, 1) := by decide +kernel
theorem dPa_readFrom_31 : decode bPa_readFrom 31 = .ok (.getfield 22, 3) := by decide +kernel
theorem dPa_readFrom_34 : decode bPa_readFrom 34 = .ok (.if_icmp .ge 47, 3) := by decide +kernel
theorem dPa_readFrom_37 : decode bPa_readFrom 37 = .ok (.iconst 2, 1) := by decide +kernel
theorem dPa_readFrom_38 : decode bPa_readFrom 38 = .ok (.iload_n 2, 1) := by decide +kernel
theorem dPa_readFrom_39 : decode bPa_readFrom 39 = .ok (.iconst 5, 1) := by decide +kernel
theorem dPa_readFrom_40 : decode bPa_readFrom 40 = .ok (.imul, 1) := by decide +kernel
theorem dPa_readFrom_41 : decode bPa_readFrom 41 = .ok (.iadd, 1) := by decide +kernel
theorem dPa_readFrom_42 : decode bPa_readFrom 42 = .ok (.istore_n 3, 1) := by decide +kernel
theorem dPa_readFrom_43 : decode bPa_readFrom 43 = .ok (.aload_n 0, 1) := by decide +kernel
theorem dPa_readFrom_44 : decode bPa_readFrom 44 = .ok (.getfield 11, 3) := by decide +kernel
theorem dPa_readFrom_47 : decode bPa_readFrom 47 = .ok (.iload_n 2, 1) := by decide +kernel
theorem dPa_readFrom_48 : decode bPa_readFrom 48 = .ok (.aaload, 1) := by decide +kernel
theorem dPa_readFrom_49 : decode bPa_readFrom 49 = .ok (.aload_n 1, 1) := by decide +kernel
theorem dPa_readFrom_50 : decode bPa_readFrom 50 = .ok (.iload_n 3, 1) := by decide +kernel
theorem dPa_readFrom_51 : decode bPa_readFrom 51 = .ok (.iaload, 1) := by decide +kernel
theorem dPa_readFrom_52 : decode bPa_readFrom 52 = .ok (.aload_n 1, 1) := by decide +kernel
theorem dPa_readFrom_53 : decode bPa_readFrom 53 = .ok (.iload_n 3, 1) := by decide +kernel
theorem dPa_readFrom_54 : decode bPa_readFrom 54 = .ok (.iconst 1, 1) := by decide +kernel
theorem dPa_readFrom_55 : decode bPa_readFrom 55 = .ok (.iadd, 1) := by decide +kernel
theorem dPa_readFrom_56 : decode bPa_readFrom 56 = .ok (.iaload, 1) := by decide +kernel
theorem dPa_readFrom_57 : decode bPa_readFrom 57 = .ok (.aload_n 1, 1) := by decide +kernel
theorem dPa_readFrom_58 : decode bPa_readFrom 58 = .ok (.iload_n 3, 1) := by decide +kernel
theorem dPa_readFrom_59 : decode bPa_readFrom 59 = .ok (.iconst 2, 1) := by decide +kernel
theorem dPa_readFrom_60 : decode bPa_readFrom 60 = .ok (.iadd, 1) := by decide +kernel
theorem dPa_readFrom_61 : decode bPa_readFrom 61 = .ok (.iaload, 1) := by decide +kernel
theorem dPa_readFrom_62 : decode bPa_readFrom 62 = .ok (.aload_n 1, 1) := by decide +kernel
theorem dPa_readFrom_63 : decode bPa_readFrom 63 = .ok (.iload_n 3, 1) := by decide +kernel
theorem dPa_readFrom_64 : decode bPa_readFrom 64 = .ok (.iconst 3, 1) := by decide +kernel
theorem dPa_readFrom_65 : decode bPa_readFrom 65 = .ok (.iadd, 1) := by decide +kernel
theorem dPa_readFrom_66 : decode bPa_readFrom 66 = .ok (.iaload, 1) := by decide +kernel
theorem dPa_readFrom_67 : decode bPa_readFrom 67 = .ok (.aload_n 1, 1) := by decide +kernel
theorem dPa_readFrom_68 : decode bPa_readFrom 68 = .ok (.iload_n 3, 1) := by decide +kernel
theorem dPa_readFrom_69 : decode bPa_readFrom 69 = .ok (.iconst 4, 1) := by decide +kernel
theorem dPa_readFrom_70 : decode bPa_readFrom 70 = .ok (.iadd, 1) := by decide +kernel
theorem dPa_readFrom_71 : decode bPa_readFrom 71 = .ok (.iaload, 1) := by decide +kernel
theorem dPa_readFrom_72 : decode bPa_readFrom 72 = .ok (.invokevirtual 73, 3) := by decide +kernel
theorem dPa_readFrom_75 : decode bPa_readFrom 75 = .ok (.iinc 2 1, 3) := by decide +kernel
theorem dPa_readFrom_78 : decode bPa_readFrom 78 = .ok (.goto (-49), 3) := by decide +kernel
theorem dPa_readFrom_81 : decode bPa_readFrom 81 = .ok (.return_, 1) := by decide +kernel
abbrev wPa_readFrom : List Cond := Cond.code yPa_readFrom bPa_readFrom 4 none   :: tbl
theorem kcPa_readFrom : Cond.code yPa_readFrom bPa_readFrom 4 none ∈ tbl := tb3 3 (by decide +kernel) (by decide +kernel)
theorem kiPa_readFrom : Cond.instanceMethod yPa_readFrom ∈ tbl := tb3 1 (by decide +kernel) (by decide +kernel)
theorem ksPa_readFrom : Cond.selects yPa_readFrom.cls yPa_readFrom yPa_readFrom ∈ tbl := tb3 2 (by decide +kernel) (by decide +kernel)
theorem kfPa_11 : Cond.fieldLink RPa 11 (TPa 3).1 (TPa 3).2.1 (TPa 3).2.2.1 ∈ tbl := tb1 103 (by decide +kernel) (by decide +kernel)
theorem kfPa_18 : Cond.fieldLink RPa 18 (TPa 0).1 (TPa 0).2.1 (TPa 0).2.2.1 ∈ tbl := tb1 96 (by decide +kernel) (by decide +kernel)
theorem kfPa_22 : Cond.fieldLink RPa 22 (TPa 1).1 (TPa 1).2.1 (TPa 1).2.2.1 ∈ tbl := tb1 98 (by decide +kernel) (by decide +kernel)
theorem kfPa_25 : Cond.fieldLink RPa 25 (TPa 2).1 (TPa 2).2.1 (TPa 2).2.2.1 ∈ tbl := tb1 101 (by decide +kernel) (by decide +kernel)
theorem kfPa_39 : Cond.constantLong RPa 39 (9223372036854775807) ∈ tbl := tb2 16 (by decide +kernel) (by decide +kernel)
theorem kfPa_49 : Cond.fieldLink RPa 49 (TBo 0).1 (TBo 0).2.1 (TBo 0).2.2.1 ∈ tbl := tb1 60 (by decide +kernel) (by decide +kernel)
theorem kfPa_52 : Cond.fieldLink RPa 52 (TBo 1).1 (TBo 1).2.1 (TBo 1).2.2.1 ∈ tbl := tb1 63 (by decide +kernel) (by decide +kernel)
theorem kfPa_55 : Cond.fieldLink RPa 55 (TBo 2).1 (TBo 2).2.1 (TBo 2).2.2.1 ∈ tbl := tb1 66 (by decide +kernel) (by decide +kernel)
theorem kfPa_58 : Cond.fieldLink RPa 58 (TBo 3).1 (TBo 3).2.1 (TBo 3).2.2.1 ∈ tbl := tb1 69 (by decide +kernel) (by decide +kernel)
theorem kfPa_61 : Cond.fieldLink RPa 61 (TBo 4).1 (TBo 4).2.1 (TBo 4).2.2.1 ∈ tbl := tb1 74 (by decide +kernel) (by decide +kernel)
