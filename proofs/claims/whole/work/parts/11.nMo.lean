abbrev bMo_init : ByteArray := prog_8_method_1_code
def yMo_init : MethodName := ⟨RMo, "<init>", "()V"⟩
abbrev bMo_far : ByteArray := prog_8_method_2_code
def yMo_far : MethodName := ⟨RMo, "far", "(I)Z"⟩
abbrev bMo_bad : ByteArray := prog_8_method_3_code
def yMo_bad : MethodName := ⟨RMo, "bad", "(IIII)Z"⟩
abbrev bMo_badName : ByteArray := prog_8_method_4_code
def yMo_badName : MethodName := ⟨RMo, "badName", "(I)Z"⟩
abbrev bMo_part : ByteArray := prog_8_method_5_code
def yMo_part : MethodName := ⟨RMo, "part", "(II)I"⟩
abbrev bMo_before : ByteArray := prog_8_method_6_code
def yMo_before : MethodName := ⟨RMo, "before", "(II)Z"⟩
abbrev bMo_set : ByteArray := prog_8_method_7_code
def yMo_set : MethodName := ⟨RMo, "set", "(III)V"⟩
abbrev bMo_ended : ByteArray := prog_8_method_8_code
def yMo_ended : MethodName := ⟨RMo, "ended", "(I)I"⟩
abbrev bMo_counts : ByteArray := prog_8_method_9_code
def yMo_counts : MethodName := ⟨RMo, "counts", "()Z"⟩
abbrev bMo_insert : ByteArray := prog_8_method_10_code
def yMo_insert : MethodName := ⟨RMo, "insert", "(IIIII)I"⟩
abbrev bMo_remove : ByteArray := prog_8_method_11_code
def yMo_remove : MethodName := ⟨RMo, "remove", "(I)V"⟩
abbrev bMo_is : ByteArray := prog_8_method_12_code
def yMo_is : MethodName := ⟨RMo, "is", "(IIIII)Z"⟩
abbrev bMo_delete : ByteArray := prog_8_method_13_code
def yMo_delete : MethodName := ⟨RMo, "delete", "(IIIII)I"⟩
abbrev bMo_meets : ByteArray := prog_8_method_14_code
def yMo_meets : MethodName := ⟨RMo, "meets", "(IIIII)Z"⟩
abbrev bMo_meeting : ByteArray := prog_8_method_15_code
def yMo_meeting : MethodName := ⟨RMo, "meeting", "(IIIII)I"⟩
abbrev bMo_take : ByteArray := prog_8_method_16_code
def yMo_take : MethodName := ⟨RMo, "take", "(IIII)I"⟩
abbrev bMo_cut : ByteArray := prog_8_method_17_code
def yMo_cut : MethodName := ⟨RMo, "cut", "(I)Z"⟩
abbrev bMo_stop : ByteArray := prog_8_method_18_code
def yMo_stop : MethodName := ⟨RMo, "stop", "()Z"⟩
abbrev bMo_start : ByteArray := prog_8_method_19_code
def yMo_start : MethodName := ⟨RMo, "start", "()Z"⟩
abbrev bMo_up : ByteArray := prog_8_method_20_code
def yMo_up : MethodName := ⟨RMo, "up", "()Z"⟩
abbrev bMo_size : ByteArray := prog_8_method_21_code
def yMo_size : MethodName := ⟨RMo, "size", "()I"⟩
abbrev bMo_count : ByteArray := prog_8_method_22_code
def yMo_count : MethodName := ⟨RMo, "count", "(IIII)I"⟩
abbrev bMo_within : ByteArray := prog_8_method_23_code
def yMo_within : MethodName := ⟨RMo, "within", "(IIII)I"⟩
abbrev bMo_pick : ByteArray := prog_8_method_24_code
def yMo_pick : MethodName := ⟨RMo, "pick", "(IIIII)I"⟩
abbrev bMo_off : ByteArray := prog_8_method_25_code
def yMo_off : MethodName := ⟨RMo, "off", "(III)J"⟩
abbrev bMo_farFrom : ByteArray := prog_8_method_26_code
def yMo_farFrom : MethodName := ⟨RMo, "farFrom", "(III)J"⟩
abbrev bMo_nearestOne : ByteArray := prog_8_method_27_code
def yMo_nearestOne : MethodName := ⟨RMo, "nearestOne", "(II)I"⟩
abbrev bMo_distance : ByteArray := prog_8_method_28_code
def yMo_distance : MethodName := ⟨RMo, "distance", "(II)J"⟩
abbrev bMo_nearest : ByteArray := prog_8_method_29_code
def yMo_nearest : MethodName := ⟨RMo, "nearest", "(II)I"⟩
abbrev bMo_around : ByteArray := prog_8_method_30_code
def yMo_around : MethodName := ⟨RMo, "around", "(I)I"⟩
abbrev bMo_sound : ByteArray := prog_8_method_31_code
def yMo_sound : MethodName := ⟨RMo, "sound", "()Z"⟩
abbrev bMo_frugal : ByteArray := prog_8_method_32_code
def yMo_frugal : MethodName := ⟨RMo, "frugal", "()Z"⟩
theorem dMo_init_0 : decode bMo_init 0 = .ok (.aload_n 0, 1) := by decide +kernel
theorem dMo_init_1 : decode bMo_init 1 = .ok (.invokespecial 1, 3) := by decide +kernel
theorem dMo_init_4 : decode bMo_init 4 = .ok (.aload_n 0, 1) := by decide +kernel
theorem dMo_init_5 : decode bMo_init 5 = .ok (.iconst 1, 1) := by decide +kernel
theorem dMo_init_6 : decode bMo_init 6 = .ok (.putfield 7, 3) := by decide +kernel
theorem dMo_init_9 : decode bMo_init 9 = .ok (.aload_n 0, 1) := by decide +kernel
theorem dMo_init_10 : decode bMo_init 10 = .ok (.iconst (-1), 1) := by decide +kernel
theorem dMo_init_11 : decode bMo_init 11 = .ok (.putfield 13, 3) := by decide +kernel
theorem dMo_init_14 : decode bMo_init 14 = .ok (.aload_n 0, 1) := by decide +kernel
theorem dMo_init_15 : decode bMo_init 15 = .ok (.sipush 205, 3) := by decide +kernel
theorem dMo_init_18 : decode bMo_init 18 = .ok (.newarray .int, 2) := by decide +kernel
theorem dMo_init_20 : decode bMo_init 20 = .ok (.putfield 17, 3) := by decide +kernel
theorem dMo_init_23 : decode bMo_init 23 = .ok (.return_, 1) := by decide +kernel
abbrev wMo_init : List Cond := Cond.code yMo_init bMo_init 1 none   :: tbl
theorem kcMo_init : Cond.code yMo_init bMo_init 1 none ∈ tbl := tb3 102 (by decide +kernel) (by decide +kernel)
theorem kiMo_init : Cond.instanceMethod yMo_init ∈ tbl := tb3 101 (by decide +kernel) (by decide +kernel)
theorem dMo_far_0 : decode bMo_far 0 = .ok (.iload_n 0, 1) := by decide +kernel
theorem dMo_far_1 : decode bMo_far 1 = .ok (.ldc 21, 2) := by decide +kernel
theorem dMo_far_3 : decode bMo_far 3 = .ok (.if_icmp .lt 9, 3) := by decide +kernel
theorem dMo_far_6 : decode bMo_far 6 = .ok (.iload_n 0, 1) := by decide +kernel
theorem dMo_far_7 : decode bMo_far 7 = .ok (.ldc 22, 2) := by decide +kernel
theorem dMo_far_9 : decode bMo_far 9 = .ok (.if_icmp .le 7, 3) := by decide +kernel
theorem dMo_far_12 : decode bMo_far 12 = .ok (.iconst 1, 1) := by decide +kernel
theorem dMo_far_13 : decode bMo_far 13 = .ok (.goto 4, 3) := by decide +kernel
theorem dMo_far_16 : decode bMo_far 16 = .ok (.iconst 0, 1) := by decide +kernel
theorem dMo_far_17 : decode bMo_far 17 = .ok (.ireturn, 1) := by decide +kernel
abbrev wMo_far : List Cond := Cond.code yMo_far bMo_far 1 (some .boolean)   :: tbl
theorem kcMo_far : Cond.code yMo_far bMo_far 1 (some .boolean) ∈ tbl := tb3 129 (by decide +kernel) (by decide +kernel)
theorem ktMo_far : Cond.static yMo_far ∈ tbl := tb3 128 (by decide +kernel) (by decide +kernel)
theorem dMo_bad_0 : decode bMo_bad 0 = .ok (.iload_n 0, 1) := by decide +kernel
theorem dMo_bad_1 : decode bMo_bad 1 = .ok (.invokestatic 23, 3) := by decide +kernel
theorem dMo_bad_4 : decode bMo_bad 4 = .ok (.ifCond .ne 34, 3) := by decide +kernel
theorem dMo_bad_7 : decode bMo_bad 7 = .ok (.iload_n 1, 1) := by decide +kernel
theorem dMo_bad_8 : decode bMo_bad 8 = .ok (.invokestatic 23, 3) := by decide +kernel
theorem dMo_bad_11 : decode bMo_bad 11 = .ok (.ifCond .ne 27, 3) := by decide +kernel
theorem dMo_bad_14 : decode bMo_bad 14 = .ok (.iload_n 2, 1) := by decide +kernel
theorem dMo_bad_15 : decode bMo_bad 15 = .ok (.invokestatic 23, 3) := by decide +kernel
theorem dMo_bad_18 : decode bMo_bad 18 = .ok (.ifCond .ne 20, 3) := by decide +kernel
theorem dMo_bad_21 : decode bMo_bad 21 = .ok (.iload_n 3, 1) := by decide +kernel
theorem dMo_bad_22 : decode bMo_bad 22 = .ok (.invokestatic 23, 3) := by decide +kernel
theorem dMo_bad_25 : decode bMo_bad 25 = .ok (.ifCond .ne 13, 3) := by decide +kernel
theorem dMo_bad_28 : decode bMo_bad 28 = .ok (.iload_n 0, 1) := by decide +kernel
theorem dMo_bad_29 : decode bMo_bad 29 = .ok (.iload_n 2, 1) := by decide +kernel
theorem dMo_bad_30 : decode bMo_bad 30 = .ok (.if_icmp .gt 8, 3) := by decide +kernel
theorem dMo_bad_33 : decode bMo_bad 33 = .ok (.iload_n 1, 1) := by decide +kernel
theorem dMo_bad_34 : decode bMo_bad 34 = .ok (.iload_n 3, 1) := by decide +kernel
theorem dMo_bad_35 : decode bMo_bad 35 = .ok (.if_icmp .le 7, 3) := by decide +kernel
theorem dMo_bad_38 : decode bMo_bad 38 = .ok (.iconst 1, 1) := by decide +kernel
theorem dMo_bad_39 : decode bMo_bad 39 = .ok (.goto 4, 3) := by decide +kernel
theorem dMo_bad_42 : decode bMo_bad 42 = .ok (.iconst 0, 1) := by decide +kernel
theorem dMo_bad_43 : decode bMo_bad 43 = .ok (.ireturn, 1) := by decide +kernel
abbrev wMo_bad : List Cond := Cond.code yMo_bad bMo_bad 4 (some .boolean)   :: tbl
theorem kcMo_bad : Cond.code yMo_bad bMo_bad 4 (some .boolean) ∈ tbl := tb3 126 (by decide +kernel) (by decide +kernel)
theorem ktMo_bad : Cond.static yMo_bad ∈ tbl := tb3 125 (by decide +kernel) (by decide +kernel)
theorem dMo_badName_0 : decode bMo_badName 0 = .ok (.iload_n 0, 1) := by decide +kernel
theorem dMo_badName_1 : decode bMo_badName 1 = .ok (.ifCond .lt 10, 3) := by decide +kernel
theorem dMo_badName_4 : decode bMo_badName 4 = .ok (.iload_n 0, 1) := by decide +kernel
theorem dMo_badName_5 : decode bMo_badName 5 = .ok (.sipush 999, 3) := by decide +kernel
theorem dMo_badName_8 : decode bMo_badName 8 = .ok (.if_icmp .le 7, 3) := by decide +kernel
theorem dMo_badName_11 : decode bMo_badName 11 = .ok (.iconst 1, 1) := by decide +kernel
theorem dMo_badName_12 : decode bMo_badName 12 = .ok (.goto 4, 3) := by decide +kernel
theorem dMo_badName_15 : decode bMo_badName 15 = .ok (.iconst 0, 1) := by decide +kernel
theorem dMo_badName_16 : decode bMo_badName 16 = .ok (.ireturn, 1) := by decide +kernel
abbrev wMo_badName : List Cond := Cond.code yMo_badName bMo_badName 1 (some .boolean)   :: tbl
theorem kcMo_badName : Cond.code yMo_badName bMo_badName 1 (some .boolean) ∈ tbl := tb3 123 (by decide +kernel) (by decide +kernel)
theorem ktMo_badName : Cond.static yMo_badName ∈ tbl := tb3 122 (by decide +kernel) (by decide +kernel)
theorem dMo_part_0 : decode bMo_part 0 = .ok (.iload_n 2, 1) := by decide +kernel
theorem dMo_part_1 : decode bMo_part 1 = .ok (.iconst 4, 1) := by decide +kernel
theorem dMo_part_2 : decode bMo_part 2 = .ok (.if_icmp .ge 18, 3) := by decide +kernel
theorem dMo_part_5 : decode bMo_part 5 = .ok (.aload_n 0, 1) := by decide +kernel
theorem dMo_part_6 : decode bMo_part 6 = .ok (.getfield 17, 3) := by decide +kernel
theorem dMo_part_9 : decode bMo_part 9 = .ok (.iconst 5, 1) := by decide +kernel
theorem dMo_part_10 : decode bMo_part 10 = .ok (.iload_n 1, 1) := by decide +kernel
theorem dMo_part_11 : decode bMo_part 11 = .ok (.imul, 1) := by decide +kernel
theorem dMo_part_12 : decode bMo_part 12 = .ok (.iconst 1, 1) := by decide +kernel
theorem dMo_part_13 : decode bMo_part 13 = .ok (.iadd, 1) := by decide +kernel
theorem dMo_part_14 : decode bMo_part 14 = .ok (.iload_n 2, 1) := by decide +kernel
theorem dMo_part_15 : decode bMo_part 15 = .ok (.iadd, 1) := by decide +kernel
theorem dMo_part_16 : decode bMo_part 16 = .ok (.iaload, 1) := by decide +kernel
theorem dMo_part_17 : decode bMo_part 17 = .ok (.goto 11, 3) := by decide +kernel
theorem dMo_part_20 : decode bMo_part 20 = .ok (.aload_n 0, 1) := by decide +kernel
theorem dMo_part_21 : decode bMo_part 21 = .ok (.getfield 17, 3) := by decide +kernel
theorem dMo_part_24 : decode bMo_part 24 = .ok (.iconst 5, 1) := by decide +kernel
theorem dMo_part_25 : decode bMo_part 25 = .ok (.iload_n 1, 1) := by decide +kernel
theorem dMo_part_26 : decode bMo_part 26 = .ok (.imul, 1) := by decide +kernel
theorem dMo_part_27 : decode bMo_part 27 = .ok (.iaload, 1) := by decide +kernel
theorem dMo_part_28 : decode bMo_part 28 = .ok (.ireturn, 1) := by decide +kernel
abbrev wMo_part : List Cond := Cond.code yMo_part bMo_part 3 (some .int)   :: tbl
theorem kcMo_part : Cond.code yMo_part bMo_part 3 (some .int) ∈ tbl := tb3 147 (by decide +kernel) (by decide +kernel)
theorem kiMo_part : Cond.instanceMethod yMo_part ∈ tbl := tb3 146 (by decide +kernel) (by decide +kernel)
theorem ksMo_part : Cond.selects yMo_part.cls yMo_part yMo_part ∈ tbl := tb0 28 (by decide +kernel) (by decide +kernel)
theorem dMo_before_0 : decode bMo_before 0 = .ok (.iconst 0, 1) := by decide +kernel
theorem dMo_before_1 : decode bMo_before 1 = .ok (.istore_n 3, 1) := by decide +kernel
theorem dMo_before_2 : decode bMo_before 2 = .ok (.iload_n 3, 1) := by decide +kernel
theorem dMo_before_3 : decode bMo_before 3 = .ok (.iconst 5, 1) := by decide +kernel
theorem dMo_before_4 : decode bMo_before 4 = .ok (.if_icmp .ge 45, 3) := by decide +kernel
theorem dMo_before_7 : decode bMo_before 7 = .ok (.aload_n 0, 1) := by decide +kernel
theorem dMo_before_8 : decode bMo_before 8 = .ok (.iload_n 1, 1) := by decide +kernel
theorem dMo_before_9 : decode bMo_before 9 = .ok (.iload_n 3, 1) := by decide +kernel
theorem dMo_before_10 : decode bMo_before 10 = .ok (.invokevirtual 27, 3) := by decide +kernel
theorem dMo_before_13 : decode bMo_before 13 = .ok (.aload_n 0, 1) := by decide +kernel
theorem dMo_before_14 : decode bMo_before 14 = .ok (.iload_n 2, 1) := by decide +kernel
theorem dMo_before_15 : decode bMo_before 15 = .ok (.iload_n 3, 1) := by decide +kernel
theorem dMo_before_16 : decode bMo_before 16 = .ok (.invokevirtual 27, 3) := by decide +kernel
theorem dMo_before_19 : decode bMo_before 19 = .ok (.if_icmp .eq 24, 3) := by decide +kernel
theorem dMo_before_22 : decode bMo_before 22 = .ok (.aload_n 0, 1) := by decide +kernel
theorem dMo_before_23 : decode bMo_before 23 = .ok (.iload_n 1, 1) := by decide +kernel
theorem dMo_before_24 : decode bMo_before 24 = .ok (.iload_n 3, 1) := by decide +kernel
theorem dMo_before_25 : decode bMo_before 25 = .ok (.invokevirtual 27, 3) := by decide +kernel
theorem dMo_before_28 : decode bMo_before 28 = .ok (.aload_n 0, 1) := by decide +kernel
theorem dMo_before_29 : decode bMo_before 29 = .ok (.iload_n 2, 1) := by decide +kernel
theorem dMo_before_30 : decode bMo_before 30 = .ok (.iload_n 3, 1) := by decide +kernel
theorem dMo_before_31 : decode bMo_before 31 = .ok (.invokevirtual 27, 3) := by decide +kernel
theorem dMo_before_34 : decode bMo_before 34 = .ok (.if_icmp .ge 7, 3) := by decide +kernel
theorem dMo_before_37 : decode bMo_before 37 = .ok (.iconst 1, 1) := by decide +kernel
theorem dMo_before_38 : decode bMo_before 38 = .ok (.goto 4, 3) := by decide +kernel
theorem dMo_before_41 : decode bMo_before 41 = .ok (.iconst 0, 1) := by decide +kernel
theorem dMo_before_42 : decode bMo_before 42 = .ok (.ireturn, 1) := by decide +kernel
theorem dMo_before_43 : decode bMo_before 43 = .ok (.iinc 3 1, 3) := by decide +kernel
theorem dMo_before_46 : decode bMo_before 46 = .ok (.goto (-44), 3) := by decide +kernel
theorem dMo_before_49 : decode bMo_before 49 = .ok (.iconst 0, 1) := by decide +kernel
theorem dMo_before_50 : decode bMo_before 50 = .ok (.ireturn, 1) := by decide +kernel
abbrev wMo_before : List Cond := Cond.code yMo_before bMo_before 4 (some .boolean)   :: tbl
theorem kcMo_before : Cond.code yMo_before bMo_before 4 (some .boolean) ∈ tbl := tb3 143 (by decide +kernel) (by decide +kernel)
theorem kiMo_before : Cond.instanceMethod yMo_before ∈ tbl := tb3 142 (by decide +kernel) (by decide +kernel)
theorem ksMo_before : Cond.selects yMo_before.cls yMo_before yMo_before ∈ tbl := tb0 27 (by decide +kernel) (by decide +kernel)
theorem dMo_set_0 : decode bMo_set 0 = .ok (.aload_n 0, 1) := by decide +kernel
theorem dMo_set_1 : decode bMo_set 1 = .ok (.getfield 17, 3) := by decide +kernel
theorem dMo_set_4 : decode bMo_set 4 = .ok (.iconst 5, 1) := by decide +kernel
theorem dMo_set_5 : decode bMo_set 5 = .ok (.iload_n 1, 1) := by decide +kernel
theorem dMo_set_6 : decode bMo_set 6 = .ok (.imul, 1) := by decide +kernel
theorem dMo_set_7 : decode bMo_set 7 = .ok (.iload_n 2, 1) := by decide +kernel
theorem dMo_set_8 : decode bMo_set 8 = .ok (.iadd, 1) := by decide +kernel
theorem dMo_set_9 : decode bMo_set 9 = .ok (.iload_n 3, 1) := by decide +kernel
theorem dMo_set_10 : decode bMo_set 10 = .ok (.iastore, 1) := by decide +kernel
theorem dMo_set_11 : decode bMo_set 11 = .ok (.return_, 1) := by decide +kernel
abbrev wMo_set : List Cond := Cond.code yMo_set bMo_set 4 none   :: tbl
theorem kcMo_set : Cond.code yMo_set bMo_set 4 none ∈ tbl := tb3 139 (by decide +kernel) (by decide +kernel)
theorem kiMo_set : Cond.instanceMethod yMo_set ∈ tbl := tb3 138 (by decide +kernel) (by decide +kernel)
theorem ksMo_set : Cond.selects yMo_set.cls yMo_set yMo_set ∈ tbl := tb0 26 (by decide +kernel) (by decide +kernel)
theorem dMo_ended_0 : decode bMo_ended 0 = .ok (.aload_n 0, 1) := by decide +kernel
theorem dMo_ended_1 : decode bMo_ended 1 = .ok (.getfield 13, 3) := by decide +kernel
theorem dMo_ended_4 : decode bMo_ended 4 = .ok (.ifCond .ge 5, 3) := by decide +kernel
theorem dMo_ended_7 : decode bMo_ended 7 = .ok (.iload_n 1, 1) := by decide +kernel
theorem dMo_ended_8 : decode bMo_ended 8 = .ok (.ireturn, 1) := by decide +kernel
theorem dMo_ended_9 : decode bMo_ended 9 = .ok (.aload_n 0, 1) := by decide +kernel
theorem dMo_ended_10 : decode bMo_ended 10 = .ok (.iconst (-1), 1) := by decide +kernel
theorem dMo_ended_11 : decode bMo_ended 11 = .ok (.putfield 13, 3) := by decide +kernel
theorem dMo_ended_14 : decode bMo_ended 14 = .ok (.aload_n 0, 1) := by decide +kernel
theorem dMo_ended_15 : decode bMo_ended 15 = .ok (.iconst 0, 1) := by decide +kernel
theorem dMo_ended_16 : decode bMo_ended 16 = .ok (.putfield 7, 3) := by decide +kernel
theorem dMo_ended_19 : decode bMo_ended 19 = .ok (.bipush (-4), 2) := by decide +kernel
theorem dMo_ended_21 : decode bMo_ended 21 = .ok (.ireturn, 1) := by decide +kernel
abbrev wMo_ended : List Cond := Cond.code yMo_ended bMo_ended 2 (some .int)   :: tbl
theorem kcMo_ended : Cond.code yMo_ended bMo_ended 2 (some .int) ∈ tbl := tb3 151 (by decide +kernel) (by decide +kernel)
theorem kiMo_ended : Cond.instanceMethod yMo_ended ∈ tbl := tb3 150 (by decide +kernel) (by decide +kernel)
theorem ksMo_ended : Cond.selects yMo_ended.cls yMo_ended yMo_ended ∈ tbl := tb0 29 (by decide +kernel) (by decide +kernel)
theorem dMo_counts_0 : decode bMo_counts 0 = .ok (.aload_n 0, 1) := by decide +kernel
theorem dMo_counts_1 : decode bMo_counts 1 = .ok (.getfield 13, 3) := by decide +kernel
theorem dMo_counts_4 : decode bMo_counts 4 = .ok (.ifCond .lt 11, 3) := by decide +kernel
theorem dMo_counts_7 : decode bMo_counts 7 = .ok (.aload_n 0, 1) := by decide +kernel
theorem dMo_counts_8 : decode bMo_counts 8 = .ok (.getfield 13, 3) := by decide +kernel
theorem dMo_counts_11 : decode bMo_counts 11 = .ok (.iconst 3, 1) := by decide +kernel
theorem dMo_counts_12 : decode bMo_counts 12 = .ok (.if_icmp .lt 7, 3) := by decide +kernel
theorem dMo_counts_15 : decode bMo_counts 15 = .ok (.iconst 1, 1) := by decide +kernel
theorem dMo_counts_16 : decode bMo_counts 16 = .ok (.goto 4, 3) := by decide +kernel
theorem dMo_counts_19 : decode bMo_counts 19 = .ok (.iconst 0, 1) := by decide +kernel
theorem dMo_counts_20 : decode bMo_counts 20 = .ok (.ireturn, 1) := by decide +kernel
abbrev wMo_counts : List Cond := Cond.code yMo_counts bMo_counts 1 (some .boolean)   :: tbl
theorem kcMo_counts : Cond.code yMo_counts bMo_counts 1 (some .boolean) ∈ tbl := tb3 135 (by decide +kernel) (by decide +kernel)
theorem kiMo_counts : Cond.instanceMethod yMo_counts ∈ tbl := tb3 134 (by decide +kernel) (by decide +kernel)
theorem ksMo_counts : Cond.selects yMo_counts.cls yMo_counts yMo_counts ∈ tbl := tb0 25 (by decide +kernel) (by decide +kernel)
theorem dMo_insert_0 : decode bMo_insert 0 = .ok (.aload_n 0, 1) := by decide +kernel
theorem dMo_insert_1 : decode bMo_insert 1 = .ok (.getfield 7, 3) := by decide +kernel
theorem dMo_insert_4 : decode bMo_insert 4 = .ok (.ifCond .ne 6, 3) := by decide +kernel
theorem dMo_insert_7 : decode bMo_insert 7 = .ok (.bipush (-3), 2) := by decide +kernel
theorem dMo_insert_9 : decode bMo_insert 9 = .ok (.ireturn, 1) := by decide +kernel
theorem dMo_insert_10 : decode bMo_insert 10 = .ok (.iload_n 1, 1) := by decide +kernel
theorem dMo_insert_11 : decode bMo_insert 11 = .ok (.invokestatic 31, 3) := by decide +kernel
theorem dMo_insert_14 : decode bMo_insert 14 = .ok (.ifCond .ne 15, 3) := by decide +kernel
theorem dMo_insert_17 : decode bMo_insert 17 = .ok (.iload_n 2, 1) := by decide +kernel
theorem dMo_insert_18 : decode bMo_insert 18 = .ok (.iload_n 3, 1) := by decide +kernel
theorem dMo_insert_19 : decode bMo_insert 19 = .ok (.iload 4, 2) := by decide +kernel
theorem dMo_insert_21 : decode bMo_insert 21 = .ok (.iload 5, 2) := by decide +kernel
theorem dMo_insert_23 : decode bMo_insert 23 = .ok (.invokestatic 34, 3) := by decide +kernel
theorem dMo_insert_26 : decode bMo_insert 26 = .ok (.ifCond .eq 5, 3) := by decide +kernel
theorem dMo_insert_29 : decode bMo_insert 29 = .ok (.iconst (-1), 1) := by decide +kernel
theorem dMo_insert_30 : decode bMo_insert 30 = .ok (.ireturn, 1) := by decide +kernel
theorem dMo_insert_31 : decode bMo_insert 31 = .ok (.aload_n 0, 1) := by decide +kernel
theorem dMo_insert_32 : decode bMo_insert 32 = .ok (.getfield 38, 3) := by decide +kernel
theorem dMo_insert_35 : decode bMo_insert 35 = .ok (.bipush 40, 2) := by decide +kernel
theorem dMo_insert_37 : decode bMo_insert 37 = .ok (.if_icmp .ne 6, 3) := by decide +kernel
theorem dMo_insert_40 : decode bMo_insert 40 = .ok (.bipush (-2), 2) := by decide +kernel
theorem dMo_insert_42 : decode bMo_insert 42 = .ok (.ireturn, 1) := by decide +kernel
theorem dMo_insert_43 : decode bMo_insert 43 = .ok (.aload_n 0, 1) := by decide +kernel
theorem dMo_insert_44 : decode bMo_insert 44 = .ok (.invokevirtual 41, 3) := by decide +kernel
theorem dMo_insert_47 : decode bMo_insert 47 = .ok (.ifCond .eq 158, 3) := by decide +kernel
theorem dMo_insert_50 : decode bMo_insert 50 = .ok (.aload_n 0, 1) := by decide +kernel
theorem dMo_insert_51 : decode bMo_insert 51 = .ok (.aload_n 0, 1) := by decide +kernel
theorem dMo_insert_52 : decode bMo_insert 52 = .ok (.getfield 38, 3) := by decide +kernel
theorem dMo_insert_55 : decode bMo_insert 55 = .ok (.iconst 0, 1) := by decide +kernel
theorem dMo_insert_56 : decode bMo_insert 56 = .ok (.iload_n 1, 1) := by decide +kernel
theorem dMo_insert_57 : decode bMo_insert 57 = .ok (.invokevirtual 45, 3) := by decide +kernel
theorem dMo_insert_60 : decode bMo_insert 60 = .ok (.aload_n 0, 1) := by decide +kernel
theorem dMo_insert_61 : decode bMo_insert 61 = .ok (.aload_n 0, 1) := by decide +kernel
theorem dMo_insert_62 : decode bMo_insert 62 = .ok (.getfield 38, 3) := by decide +kernel
theorem dMo_insert_65 : decode bMo_insert 65 = .ok (.iconst 1, 1) := by decide +kernel
theorem dMo_insert_66 : decode bMo_insert 66 = .ok (.iload_n 2, 1) := by decide +kernel
theorem dMo_insert_67 : decode bMo_insert 67 = .ok (.invokevirtual 45, 3) := by decide +kernel
theorem dMo_insert_70 : decode bMo_insert 70 = .ok (.aload_n 0, 1) := by decide +kernel
theorem dMo_insert_71 : decode bMo_insert 71 = .ok (.aload_n 0, 1) := by decide +kernel
theorem dMo_insert_72 : decode bMo_insert 72 = .ok (.getfield 38, 3) := by decide +kernel
theorem dMo_insert_75 : decode bMo_insert 75 = .ok (.iconst 2, 1) := by decide +kernel
theorem dMo_insert_76 : decode bMo_insert 76 = .ok (.iload_n 3, 1) := by decide +kernel
theorem dMo_insert_77 : decode bMo_insert 77 = .ok (.invokevirtual 45, 3) := by decide +kernel
theorem dMo_insert_80 : decode bMo_insert 80 = .ok (.aload_n 0, 1) := by decide +kernel
theorem dMo_insert_81 : decode bMo_insert 81 = .ok (.aload_n 0, 1) := by decide +kernel
theorem dMo_insert_82 : decode bMo_insert 82 = .ok (.getfield 38, 3) := by decide +kernel
theorem dMo_insert_85 : decode bMo_insert 85 = .ok (.iconst 3, 1) := by decide +kernel
theorem dMo_insert_86 : decode bMo_insert 86 = .ok (.iload 4, 2) := by decide +kernel
theorem dMo_insert_88 : decode bMo_insert 88 = .ok (.invokevirtual 45, 3) := by decide +kernel
theorem dMo_insert_91 : decode bMo_insert 91 = .ok (.aload_n 0, 1) := by decide +kernel
theorem dMo_insert_92 : decode bMo_insert 92 = .ok (.aload_n 0, 1) := by decide +kernel
theorem dMo_insert_93 : decode bMo_insert 93 = .ok (.getfield 38, 3) := by decide +kernel
theorem dMo_insert_96 : decode bMo_insert 96 = .ok (.iconst 4, 1) := by decide +kernel
theorem dMo_insert_97 : decode bMo_insert 97 = .ok (.iload 5, 2) := by decide +kernel
theorem dMo_insert_99 : decode bMo_insert 99 = .ok (.invokevirtual 45, 3) := by decide +kernel
theorem dMo_insert_102 : decode bMo_insert 102 = .ok (.aload_n 0, 1) := by decide +kernel
theorem dMo_insert_103 : decode bMo_insert 103 = .ok (.getfield 38, 3) := by decide +kernel
theorem dMo_insert_106 : decode bMo_insert 106 = .ok (.istore 6, 2) := by decide +kernel
theorem dMo_insert_108 : decode bMo_insert 108 = .ok (.aload_n 0, 1) := by decide +kernel
theorem dMo_insert_109 : decode bMo_insert 109 = .ok (.dup, 1) := by decide +kernel
theorem dMo_insert_110 : decode bMo_insert 110 = .ok (.getfield 38, 3) := by decide +kernel
theorem dMo_insert_113 : decode bMo_insert 113 = .ok (.iconst 1, 1) := by decide +kernel
theorem dMo_insert_114 : decode bMo_insert 114 = .ok (.iadd, 1) := by decide +kernel
theorem dMo_insert_115 : decode bMo_insert 115 = .ok (.putfield 38, 3) := by decide +kernel
theorem dMo_insert_118 : decode bMo_insert 118 = .ok (.iload 6, 2) := by decide +kernel
theorem dMo_insert_120 : decode bMo_insert 120 = .ok (.ifCond .le 85, 3) := by decide +kernel
theorem dMo_insert_123 : decode bMo_insert 123 = .ok (.aload_n 0, 1) := by decide +kernel
theorem dMo_insert_124 : decode bMo_insert 124 = .ok (.iload 6, 2) := by decide +kernel
theorem dMo_insert_126 : decode bMo_insert 126 = .ok (.iload 6, 2) := by decide +kernel
theorem dMo_insert_128 : decode bMo_insert 128 = .ok (.iconst 1, 1) := by decide +kernel
theorem dMo_insert_129 : decode bMo_insert 129 = .ok (.isub, 1) := by decide +kernel
theorem dMo_insert_130 : decode bMo_insert 130 = .ok (.invokevirtual 49, 3) := by decide +kernel
theorem dMo_insert_133 : decode bMo_insert 133 = .ok (.ifCond .eq 72, 3) := by decide +kernel
theorem dMo_insert_136 : decode bMo_insert 136 = .ok (.iconst 0, 1) := by decide +kernel
theorem dMo_insert_137 : decode bMo_insert 137 = .ok (.istore 7, 2) := by decide +kernel
theorem dMo_insert_139 : decode bMo_insert 139 = .ok (.iload 7, 2) := by decide +kernel
theorem dMo_insert_141 : decode bMo_insert 141 = .ok (.iconst 5, 1) := by decide +kernel
theorem dMo_insert_142 : decode bMo_insert 142 = .ok (.if_icmp .ge 57, 3) := by decide +kernel
theorem dMo_insert_145 : decode bMo_insert 145 = .ok (.aload_n 0, 1) := by decide +kernel
theorem dMo_insert_146 : decode bMo_insert 146 = .ok (.getfield 17, 3) := by decide +kernel
theorem dMo_insert_149 : decode bMo_insert 149 = .ok (.iconst 5, 1) := by decide +kernel
theorem dMo_insert_150 : decode bMo_insert 150 = .ok (.iload 6, 2) := by decide +kernel
theorem dMo_insert_152 : decode bMo_insert 152 = .ok (.imul, 1) := by decide +kernel
theorem dMo_insert_153 : decode bMo_insert 153 = .ok (.iload 7, 2) := by decide +kernel
theorem dMo_insert_155 : decode bMo_insert 155 = .ok (.iadd, 1) := by decide +kernel
theorem dMo_insert_156 : decode bMo_insert 156 = .ok (.iaload, 1) := by decide +kernel
theorem dMo_insert_157 : decode bMo_insert 157 = .ok (.istore 8, 2) := by decide +kernel
theorem dMo_insert_159 : decode bMo_insert 159 = .ok (.aload_n 0, 1) := by decide +kernel
theorem dMo_insert_160 : decode bMo_insert 160 = .ok (.iload 6, 2) := by decide +kernel
theorem dMo_insert_162 : decode bMo_insert 162 = .ok (.iload 7, 2) := by decide +kernel
theorem dMo_insert_164 : decode bMo_insert 164 = .ok (.aload_n 0, 1) := by decide +kernel
theorem dMo_insert_165 : decode bMo_insert 165 = .ok (.getfield 17, 3) := by decide +kernel
theorem dMo_insert_168 : decode bMo_insert 168 = .ok (.iconst 5, 1) := by decide +kernel
theorem dMo_insert_169 : decode bMo_insert 169 = .ok (.iload 6, 2) := by decide +kernel
theorem dMo_insert_171 : decode bMo_insert 171 = .ok (.imul, 1) := by decide +kernel
theorem dMo_insert_172 : decode bMo_insert 172 = .ok (.iconst 5, 1) := by decide +kernel
theorem dMo_insert_173 : decode bMo_insert 173 = .ok (.isub, 1) := by decide +kernel
theorem dMo_insert_174 : decode bMo_insert 174 = .ok (.iload 7, 2) := by decide +kernel
theorem dMo_insert_176 : decode bMo_insert 176 = .ok (.iadd, 1) := by decide +kernel
theorem dMo_insert_177 : decode bMo_insert 177 = .ok (.iaload, 1) := by decide +kernel
theorem dMo_insert_178 : decode bMo_insert 178 = .ok (.invokevirtual 45, 3) := by decide +kernel
theorem dMo_insert_181 : decode bMo_insert 181 = .ok (.aload_n 0, 1) := by decide +kernel
theorem dMo_insert_182 : decode bMo_insert 182 = .ok (.iload 6, 2) := by decide +kernel
theorem dMo_insert_184 : decode bMo_insert 184 = .ok (.iconst 1, 1) := by decide +kernel
theorem dMo_insert_185 : decode bMo_insert 185 = .ok (.isub, 1) := by decide +kernel
theorem dMo_insert_186 : decode bMo_insert 186 = .ok (.iload 7, 2) := by decide +kernel
theorem dMo_insert_188 : decode bMo_insert 188 = .ok (.iload 8, 2) := by decide +kernel
theorem dMo_insert_190 : decode bMo_insert 190 = .ok (.invokevirtual 45, 3) := by decide +kernel
theorem dMo_insert_193 : decode bMo_insert 193 = .ok (.iinc 7 1, 3) := by decide +kernel
theorem dMo_insert_196 : decode bMo_insert 196 = .ok (.goto (-57), 3) := by decide +kernel
theorem dMo_insert_199 : decode bMo_insert 199 = .ok (.iinc 6 (-1), 3) := by decide +kernel
theorem dMo_insert_202 : decode bMo_insert 202 = .ok (.goto (-84), 3) := by decide +kernel
theorem dMo_insert_205 : decode bMo_insert 205 = .ok (.aload_n 0, 1) := by decide +kernel
theorem dMo_insert_206 : decode bMo_insert 206 = .ok (.aload_n 0, 1) := by decide +kernel
theorem dMo_insert_207 : decode bMo_insert 207 = .ok (.getfield 38, 3) := by decide +kernel
theorem dMo_insert_210 : decode bMo_insert 210 = .ok (.invokevirtual 53, 3) := by decide +kernel
theorem dMo_insert_213 : decode bMo_insert 213 = .ok (.ireturn, 1) := by decide +kernel
abbrev wMo_insert : List Cond := Cond.code yMo_insert bMo_insert 9 (some .int)   :: tbl
theorem kcMo_insert : Cond.code yMo_insert bMo_insert 9 (some .int) ∈ tbl := tb3 120 (by decide +kernel) (by decide +kernel)
theorem kiMo_insert : Cond.instanceMethod yMo_insert ∈ tbl := tb3 118 (by decide +kernel) (by decide +kernel)
theorem ksMo_insert : Cond.selects yMo_insert.cls yMo_insert yMo_insert ∈ tbl := tb3 119 (by decide +kernel) (by decide +kernel)
theorem dMo_remove_0 : decode bMo_remove 0 = .ok (.aload_n 0, 1) := by decide +kernel
theorem dMo_remove_1 : decode bMo_remove 1 = .ok (.dup, 1) := by decide +kernel
theorem dMo_remove_2 : decode bMo_remove 2 = .ok (.getfield 38, 3) := by decide +kernel
theorem dMo_remove_5 : decode bMo_remove 5 = .ok (.iconst 1, 1) := by decide +kernel
theorem dMo_remove_6 : decode bMo_remove 6 = .ok (.isub, 1) := by decide +kernel
theorem dMo_remove_7 : decode bMo_remove 7 = .ok (.putfield 38, 3) := by decide +kernel
theorem dMo_remove_10 : decode bMo_remove 10 = .ok (.iconst 5, 1) := by decide +kernel
theorem dMo_remove_11 : decode bMo_remove 11 = .ok (.iload_n 1, 1) := by decide +kernel
theorem dMo_remove_12 : decode bMo_remove 12 = .ok (.imul, 1) := by decide +kernel
theorem dMo_remove_13 : decode bMo_remove 13 = .ok (.istore_n 2, 1) := by decide +kernel
theorem dMo_remove_14 : decode bMo_remove 14 = .ok (.iload_n 2, 1) := by decide +kernel
theorem dMo_remove_15 : decode bMo_remove 15 = .ok (.iconst 5, 1) := by decide +kernel
theorem dMo_remove_16 : decode bMo_remove 16 = .ok (.aload_n 0, 1) := by decide +kernel
theorem dMo_remove_17 : decode bMo_remove 17 = .ok (.getfield 38, 3) := by decide +kernel
theorem dMo_remove_20 : decode bMo_remove 20 = .ok (.imul, 1) := by decide +kernel
theorem dMo_remove_21 : decode bMo_remove 21 = .ok (.if_icmp .ge 23, 3) := by decide +kernel
theorem dMo_remove_24 : decode bMo_remove 24 = .ok (.aload_n 0, 1) := by decide +kernel
theorem dMo_remove_25 : decode bMo_remove 25 = .ok (.getfield 17, 3) := by decide +kernel
theorem dMo_remove_28 : decode bMo_remove 28 = .ok (.iload_n 2, 1) := by decide +kernel
theorem dMo_remove_29 : decode bMo_remove 29 = .ok (.aload_n 0, 1) := by decide +kernel
theorem dMo_remove_30 : decode bMo_remove 30 = .ok (.getfield 17, 3) := by decide +kernel
theorem dMo_remove_33 : decode bMo_remove 33 = .ok (.iload_n 2, 1) := by decide +kernel
theorem dMo_remove_34 : decode bMo_remove 34 = .ok (.iconst 5, 1) := by decide +kernel
theorem dMo_remove_35 : decode bMo_remove 35 = .ok (.iadd, 1) := by decide +kernel
theorem dMo_remove_36 : decode bMo_remove 36 = .ok (.iaload, 1) := by decide +kernel
theorem dMo_remove_37 : decode bMo_remove 37 = .ok (.iastore, 1) := by decide +kernel
theorem dMo_remove_38 : decode bMo_remove 38 = .ok (.iinc 2 1, 3) := by decide +kernel
theorem dMo_remove_41 : decode bMo_remove 41 = .ok (.goto (-27), 3) := by decide +kernel
theorem dMo_remove_44 : decode bMo_remove 44 = .ok (.return_, 1) := by decide +kernel
abbrev wMo_remove : List Cond := Cond.code yMo_remove bMo_remove 3 none   :: tbl
theorem kcMo_remove : Cond.code yMo_remove bMo_remove 3 none ∈ tbl := tb3 163 (by decide +kernel) (by decide +kernel)
theorem kiMo_remove : Cond.instanceMethod yMo_remove ∈ tbl := tb3 162 (by decide +kernel) (by decide +kernel)
theorem ksMo_remove : Cond.selects yMo_remove.cls yMo_remove yMo_remove ∈ tbl := tb0 31 (by decide +kernel) (by decide +kernel)
theorem dMo_is_0 : decode bMo_is 0 = .ok (.aload_n 0, 1) := by decide +kernel
theorem dMo_is_1 : decode bMo_is 1 = .ok (.iload_n 1, 1) := by decide +kernel
theorem dMo_is_2 : decode bMo_is 2 = .ok (.iconst 0, 1) := by decide +kernel
theorem dMo_is_3 : decode bMo_is 3 = .ok (.invokevirtual 27, 3) := by decide +kernel
theorem dMo_is_6 : decode bMo_is 6 = .ok (.iload_n 2, 1) := by decide +kernel
theorem dMo_is_7 : decode bMo_is 7 = .ok (.if_icmp .ne 39, 3) := by decide +kernel
theorem dMo_is_10 : decode bMo_is 10 = .ok (.aload_n 0, 1) := by decide +kernel
theorem dMo_is_11 : decode bMo_is 11 = .ok (.iload_n 1, 1) := by decide +kernel
theorem dMo_is_12 : decode bMo_is 12 = .ok (.iconst 1, 1) := by decide +kernel
theorem dMo_is_13 : decode bMo_is 13 = .ok (.invokevirtual 27, 3) := by decide +kernel
theorem dMo_is_16 : decode bMo_is 16 = .ok (.iload_n 3, 1) := by decide +kernel
theorem dMo_is_17 : decode bMo_is 17 = .ok (.if_icmp .ne 29, 3) := by decide +kernel
theorem dMo_is_20 : decode bMo_is 20 = .ok (.aload_n 0, 1) := by decide +kernel
theorem dMo_is_21 : decode bMo_is 21 = .ok (.iload_n 1, 1) := by decide +kernel
theorem dMo_is_22 : decode bMo_is 22 = .ok (.iconst 2, 1) := by decide +kernel
theorem dMo_is_23 : decode bMo_is 23 = .ok (.invokevirtual 27, 3) := by decide +kernel
theorem dMo_is_26 : decode bMo_is 26 = .ok (.iload 4, 2) := by decide +kernel
theorem dMo_is_28 : decode bMo_is 28 = .ok (.if_icmp .ne 18, 3) := by decide +kernel
theorem dMo_is_31 : decode bMo_is 31 = .ok (.aload_n 0, 1) := by decide +kernel
theorem dMo_is_32 : decode bMo_is 32 = .ok (.iload_n 1, 1) := by decide +kernel
theorem dMo_is_33 : decode bMo_is 33 = .ok (.iconst 3, 1) := by decide +kernel
theorem dMo_is_34 : decode bMo_is 34 = .ok (.invokevirtual 27, 3) := by decide +kernel
theorem dMo_is_37 : decode bMo_is 37 = .ok (.iload 5, 2) := by decide +kernel
theorem dMo_is_39 : decode bMo_is 39 = .ok (.if_icmp .ne 7, 3) := by decide +kernel
theorem dMo_is_42 : decode bMo_is 42 = .ok (.iconst 1, 1) := by decide +kernel
theorem dMo_is_43 : decode bMo_is 43 = .ok (.goto 4, 3) := by decide +kernel
theorem dMo_is_46 : decode bMo_is 46 = .ok (.iconst 0, 1) := by decide +kernel
theorem dMo_is_47 : decode bMo_is 47 = .ok (.ireturn, 1) := by decide +kernel
abbrev wMo_is : List Cond := Cond.code yMo_is bMo_is 6 (some .boolean)   :: tbl
theorem kcMo_is : Cond.code yMo_is bMo_is 6 (some .boolean) ∈ tbl := tb3 159 (by decide +kernel) (by decide +kernel)
theorem kiMo_is : Cond.instanceMethod yMo_is ∈ tbl := tb3 158 (by decide +kernel) (by decide +kernel)
theorem ksMo_is : Cond.selects yMo_is.cls yMo_is yMo_is ∈ tbl := tb0 30 (by decide +kernel) (by decide +kernel)
theorem dMo_delete_0 : decode bMo_delete 0 = .ok (.aload_n 0, 1) := by decide +kernel
theorem dMo_delete_1 : decode bMo_delete 1 = .ok (.getfield 7, 3) := by decide +kernel
theorem dMo_delete_4 : decode bMo_delete 4 = .ok (.ifCond .ne 6, 3) := by decide +kernel
theorem dMo_delete_7 : decode bMo_delete 7 = .ok (.bipush (-3), 2) := by decide +kernel
theorem dMo_delete_9 : decode bMo_delete 9 = .ok (.ireturn, 1) := by decide +kernel
theorem dMo_delete_10 : decode bMo_delete 10 = .ok (.iconst (-1), 1) := by decide +kernel
theorem dMo_delete_11 : decode bMo_delete 11 = .ok (.istore 6, 2) := by decide +kernel
theorem dMo_delete_13 : decode bMo_delete 13 = .ok (.iconst 0, 1) := by decide +kernel
theorem dMo_delete_14 : decode bMo_delete 14 = .ok (.istore 7, 2) := by decide +kernel
theorem dMo_delete_16 : decode bMo_delete 16 = .ok (.iload 7, 2) := by decide +kernel
theorem dMo_delete_18 : decode bMo_delete 18 = .ok (.aload_n 0, 1) := by decide +kernel
theorem dMo_delete_19 : decode bMo_delete 19 = .ok (.getfield 38, 3) := by decide +kernel
theorem dMo_delete_22 : decode bMo_delete 22 = .ok (.if_icmp .ge 46, 3) := by decide +kernel
theorem dMo_delete_25 : decode bMo_delete 25 = .ok (.aload_n 0, 1) := by decide +kernel
theorem dMo_delete_26 : decode bMo_delete 26 = .ok (.getfield 17, 3) := by decide +kernel
theorem dMo_delete_29 : decode bMo_delete 29 = .ok (.iconst 5, 1) := by decide +kernel
theorem dMo_delete_30 : decode bMo_delete 30 = .ok (.iload 7, 2) := by decide +kernel
theorem dMo_delete_32 : decode bMo_delete 32 = .ok (.imul, 1) := by decide +kernel
theorem dMo_delete_33 : decode bMo_delete 33 = .ok (.iaload, 1) := by decide +kernel
theorem dMo_delete_34 : decode bMo_delete 34 = .ok (.iload_n 1, 1) := by decide +kernel
theorem dMo_delete_35 : decode bMo_delete 35 = .ok (.if_icmp .ne 23, 3) := by decide +kernel
theorem dMo_delete_38 : decode bMo_delete 38 = .ok (.aload_n 0, 1) := by decide +kernel
theorem dMo_delete_39 : decode bMo_delete 39 = .ok (.iload 7, 2) := by decide +kernel
theorem dMo_delete_41 : decode bMo_delete 41 = .ok (.iload_n 2, 1) := by decide +kernel
theorem dMo_delete_42 : decode bMo_delete 42 = .ok (.iload_n 3, 1) := by decide +kernel
theorem dMo_delete_43 : decode bMo_delete 43 = .ok (.iload 4, 2) := by decide +kernel
theorem dMo_delete_45 : decode bMo_delete 45 = .ok (.iload 5, 2) := by decide +kernel
theorem dMo_delete_47 : decode bMo_delete 47 = .ok (.invokevirtual 57, 3) := by decide +kernel
theorem dMo_delete_50 : decode bMo_delete 50 = .ok (.ifCond .eq 8, 3) := by decide +kernel
theorem dMo_delete_53 : decode bMo_delete 53 = .ok (.iload 7, 2) := by decide +kernel
theorem dMo_delete_55 : decode bMo_delete 55 = .ok (.goto 5, 3) := by decide +kernel
theorem dMo_delete_58 : decode bMo_delete 58 = .ok (.iload 6, 2) := by decide +kernel
theorem dMo_delete_60 : decode bMo_delete 60 = .ok (.istore 6, 2) := by decide +kernel
theorem dMo_delete_62 : decode bMo_delete 62 = .ok (.iinc 7 1, 3) := by decide +kernel
theorem dMo_delete_65 : decode bMo_delete 65 = .ok (.goto (-49), 3) := by decide +kernel
theorem dMo_delete_68 : decode bMo_delete 68 = .ok (.iload 6, 2) := by decide +kernel
theorem dMo_delete_70 : decode bMo_delete 70 = .ok (.ifCond .ge 5, 3) := by decide +kernel
theorem dMo_delete_73 : decode bMo_delete 73 = .ok (.iconst (-1), 1) := by decide +kernel
theorem dMo_delete_74 : decode bMo_delete 74 = .ok (.ireturn, 1) := by decide +kernel
theorem dMo_delete_75 : decode bMo_delete 75 = .ok (.aload_n 0, 1) := by decide +kernel
theorem dMo_delete_76 : decode bMo_delete 76 = .ok (.invokevirtual 41, 3) := by decide +kernel
theorem dMo_delete_79 : decode bMo_delete 79 = .ok (.ifCond .eq 9, 3) := by decide +kernel
theorem dMo_delete_82 : decode bMo_delete 82 = .ok (.aload_n 0, 1) := by decide +kernel
theorem dMo_delete_83 : decode bMo_delete 83 = .ok (.iload 6, 2) := by decide +kernel
theorem dMo_delete_85 : decode bMo_delete 85 = .ok (.invokevirtual 61, 3) := by decide +kernel
theorem dMo_delete_88 : decode bMo_delete 88 = .ok (.aload_n 0, 1) := by decide +kernel
theorem dMo_delete_89 : decode bMo_delete 89 = .ok (.aload_n 0, 1) := by decide +kernel
theorem dMo_delete_90 : decode bMo_delete 90 = .ok (.getfield 38, 3) := by decide +kernel
theorem dMo_delete_93 : decode bMo_delete 93 = .ok (.invokevirtual 53, 3) := by decide +kernel
theorem dMo_delete_96 : decode bMo_delete 96 = .ok (.ireturn, 1) := by decide +kernel
abbrev wMo_delete : List Cond := Cond.code yMo_delete bMo_delete 8 (some .int)   :: tbl
theorem kcMo_delete : Cond.code yMo_delete bMo_delete 8 (some .int) ∈ tbl := tb3 155 (by decide +kernel) (by decide +kernel)
theorem kiMo_delete : Cond.instanceMethod yMo_delete ∈ tbl := tb3 153 (by decide +kernel) (by decide +kernel)
theorem ksMo_delete : Cond.selects yMo_delete.cls yMo_delete yMo_delete ∈ tbl := tb3 154 (by decide +kernel) (by decide +kernel)
theorem dMo_meets_0 : decode bMo_meets 0 = .ok (.aload_n 0, 1) := by decide +kernel
theorem dMo_meets_1 : decode bMo_meets 1 = .ok (.iload_n 1, 1) := by decide +kernel
theorem dMo_meets_2 : decode bMo_meets 2 = .ok (.iconst 0, 1) := by decide +kernel
theorem dMo_meets_3 : decode bMo_meets 3 = .ok (.invokevirtual 27, 3) := by decide +kernel
theorem dMo_meets_6 : decode bMo_meets 6 = .ok (.iload 4, 2) := by decide +kernel
theorem dMo_meets_8 : decode bMo_meets 8 = .ok (.if_icmp .gt 38, 3) := by decide +kernel
theorem dMo_meets_11 : decode bMo_meets 11 = .ok (.aload_n 0, 1) := by decide +kernel
theorem dMo_meets_12 : decode bMo_meets 12 = .ok (.iload_n 1, 1) := by decide +kernel
theorem dMo_meets_13 : decode bMo_meets 13 = .ok (.iconst 2, 1) := by decide +kernel
theorem dMo_meets_14 : decode bMo_meets 14 = .ok (.invokevirtual 27, 3) := by decide +kernel
theorem dMo_meets_17 : decode bMo_meets 17 = .ok (.iload_n 2, 1) := by decide +kernel
theorem dMo_meets_18 : decode bMo_meets 18 = .ok (.if_icmp .lt 28, 3) := by decide +kernel
theorem dMo_meets_21 : decode bMo_meets 21 = .ok (.aload_n 0, 1) := by decide +kernel
theorem dMo_meets_22 : decode bMo_meets 22 = .ok (.iload_n 1, 1) := by decide +kernel
theorem dMo_meets_23 : decode bMo_meets 23 = .ok (.iconst 1, 1) := by decide +kernel
theorem dMo_meets_24 : decode bMo_meets 24 = .ok (.invokevirtual 27, 3) := by decide +kernel
theorem dMo_meets_27 : decode bMo_meets 27 = .ok (.iload 5, 2) := by decide +kernel
theorem dMo_meets_29 : decode bMo_meets 29 = .ok (.if_icmp .gt 17, 3) := by decide +kernel
theorem dMo_meets_32 : decode bMo_meets 32 = .ok (.aload_n 0, 1) := by decide +kernel
theorem dMo_meets_33 : decode bMo_meets 33 = .ok (.iload_n 1, 1) := by decide +kernel
theorem dMo_meets_34 : decode bMo_meets 34 = .ok (.iconst 3, 1) := by decide +kernel
theorem dMo_meets_35 : decode bMo_meets 35 = .ok (.invokevirtual 27, 3) := by decide +kernel
theorem dMo_meets_38 : decode bMo_meets 38 = .ok (.iload_n 3, 1) := by decide +kernel
theorem dMo_meets_39 : decode bMo_meets 39 = .ok (.if_icmp .lt 7, 3) := by decide +kernel
theorem dMo_meets_42 : decode bMo_meets 42 = .ok (.iconst 1, 1) := by decide +kernel
theorem dMo_meets_43 : decode bMo_meets 43 = .ok (.goto 4, 3) := by decide +kernel
theorem dMo_meets_46 : decode bMo_meets 46 = .ok (.iconst 0, 1) := by decide +kernel
theorem dMo_meets_47 : decode bMo_meets 47 = .ok (.ireturn, 1) := by decide +kernel
abbrev wMo_meets : List Cond := Cond.code yMo_meets bMo_meets 6 (some .boolean)   :: tbl
theorem kcMo_meets : Cond.code yMo_meets bMo_meets 6 (some .boolean) ∈ tbl := tb3 175 (by decide +kernel) (by decide +kernel)
theorem kiMo_meets : Cond.instanceMethod yMo_meets ∈ tbl := tb3 174 (by decide +kernel) (by decide +kernel)
theorem ksMo_meets : Cond.selects yMo_meets.cls yMo_meets yMo_meets ∈ tbl := tb0 33 (by decide +kernel) (by decide +kernel)
theorem dMo_meeting_0 : decode bMo_meeting 0 = .ok (.iload 5, 2) := by decide +kernel
theorem dMo_meeting_2 : decode bMo_meeting 2 = .ok (.istore 6, 2) := by decide +kernel
theorem dMo_meeting_4 : decode bMo_meeting 4 = .ok (.iconst 0, 1) := by decide +kernel
theorem dMo_meeting_5 : decode bMo_meeting 5 = .ok (.istore 7, 2) := by decide +kernel
theorem dMo_meeting_7 : decode bMo_meeting 7 = .ok (.iload 7, 2) := by decide +kernel
theorem dMo_meeting_9 : decode bMo_meeting 9 = .ok (.aload_n 0, 1) := by decide +kernel
theorem dMo_meeting_10 : decode bMo_meeting 10 = .ok (.getfield 38, 3) := by decide +kernel
theorem dMo_meeting_13 : decode bMo_meeting 13 = .ok (.if_icmp .ge 39, 3) := by decide +kernel
theorem dMo_meeting_16 : decode bMo_meeting 16 = .ok (.iload 5, 2) := by decide +kernel
theorem dMo_meeting_18 : decode bMo_meeting 18 = .ok (.ifCond .lt 34, 3) := by decide +kernel
theorem dMo_meeting_21 : decode bMo_meeting 21 = .ok (.aload_n 0, 1) := by decide +kernel
theorem dMo_meeting_22 : decode bMo_meeting 22 = .ok (.iload 7, 2) := by decide +kernel
theorem dMo_meeting_24 : decode bMo_meeting 24 = .ok (.iload_n 1, 1) := by decide +kernel
theorem dMo_meeting_25 : decode bMo_meeting 25 = .ok (.iload_n 2, 1) := by decide +kernel
theorem dMo_meeting_26 : decode bMo_meeting 26 = .ok (.iload_n 3, 1) := by decide +kernel
theorem dMo_meeting_27 : decode bMo_meeting 27 = .ok (.iload 4, 2) := by decide +kernel
theorem dMo_meeting_29 : decode bMo_meeting 29 = .ok (.invokevirtual 65, 3) := by decide +kernel
theorem dMo_meeting_32 : decode bMo_meeting 32 = .ok (.ifCond .eq 14, 3) := by decide +kernel
theorem dMo_meeting_35 : decode bMo_meeting 35 = .ok (.iload 6, 2) := by decide +kernel
theorem dMo_meeting_37 : decode bMo_meeting 37 = .ok (.ifCond .ne 6, 3) := by decide +kernel
theorem dMo_meeting_40 : decode bMo_meeting 40 = .ok (.iload 7, 2) := by decide +kernel
theorem dMo_meeting_42 : decode bMo_meeting 42 = .ok (.ireturn, 1) := by decide +kernel
theorem dMo_meeting_43 : decode bMo_meeting 43 = .ok (.iinc 6 (-1), 3) := by decide +kernel
theorem dMo_meeting_46 : decode bMo_meeting 46 = .ok (.iinc 7 1, 3) := by decide +kernel
theorem dMo_meeting_49 : decode bMo_meeting 49 = .ok (.goto (-42), 3) := by decide +kernel
theorem dMo_meeting_52 : decode bMo_meeting 52 = .ok (.iconst (-1), 1) := by decide +kernel
theorem dMo_meeting_53 : decode bMo_meeting 53 = .ok (.ireturn, 1) := by decide +kernel
abbrev wMo_meeting : List Cond := Cond.code yMo_meeting bMo_meeting 8 (some .int)   :: tbl
theorem kcMo_meeting : Cond.code yMo_meeting bMo_meeting 8 (some .int) ∈ tbl := tb3 171 (by decide +kernel) (by decide +kernel)
theorem kiMo_meeting : Cond.instanceMethod yMo_meeting ∈ tbl := tb3 170 (by decide +kernel) (by decide +kernel)
theorem ksMo_meeting : Cond.selects yMo_meeting.cls yMo_meeting yMo_meeting ∈ tbl := tb0 32 (by decide +kernel) (by decide +kernel)
theorem dMo_take_0 : decode bMo_take 0 = .ok (.aload_n 0, 1) := by decide +kernel
theorem dMo_take_1 : decode bMo_take 1 = .ok (.getfield 7, 3) := by decide +kernel
theorem dMo_take_4 : decode bMo_take 4 = .ok (.ifCond .ne 6, 3) := by decide +kernel
theorem dMo_take_7 : decode bMo_take 7 = .ok (.bipush (-3), 2) := by decide +kernel
theorem dMo_take_9 : decode bMo_take 9 = .ok (.ireturn, 1) := by decide +kernel
theorem dMo_take_10 : decode bMo_take 10 = .ok (.iload_n 1, 1) := by decide +kernel
theorem dMo_take_11 : decode bMo_take 11 = .ok (.iload_n 2, 1) := by decide +kernel
theorem dMo_take_12 : decode bMo_take 12 = .ok (.iload_n 3, 1) := by decide +kernel
theorem dMo_take_13 : decode bMo_take 13 = .ok (.iload 4, 2) := by decide +kernel
theorem dMo_take_15 : decode bMo_take 15 = .ok (.invokestatic 34, 3) := by decide +kernel
theorem dMo_take_18 : decode bMo_take 18 = .ok (.ifCond .eq 7, 3) := by decide +kernel
theorem dMo_take_21 : decode bMo_take 21 = .ok (.iconst (-1), 1) := by decide +kernel
theorem dMo_take_22 : decode bMo_take 22 = .ok (.goto 13, 3) := by decide +kernel
theorem dMo_take_25 : decode bMo_take 25 = .ok (.aload_n 0, 1) := by decide +kernel
theorem dMo_take_26 : decode bMo_take 26 = .ok (.iload_n 1, 1) := by decide +kernel
theorem dMo_take_27 : decode bMo_take 27 = .ok (.iload_n 2, 1) := by decide +kernel
theorem dMo_take_28 : decode bMo_take 28 = .ok (.iload_n 3, 1) := by decide +kernel
theorem dMo_take_29 : decode bMo_take 29 = .ok (.iload 4, 2) := by decide +kernel
theorem dMo_take_31 : decode bMo_take 31 = .ok (.iconst 0, 1) := by decide +kernel
theorem dMo_take_32 : decode bMo_take 32 = .ok (.invokevirtual 68, 3) := by decide +kernel
theorem dMo_take_35 : decode bMo_take 35 = .ok (.istore 5, 2) := by decide +kernel
theorem dMo_take_37 : decode bMo_take 37 = .ok (.iload 5, 2) := by decide +kernel
theorem dMo_take_39 : decode bMo_take 39 = .ok (.ifCond .ge 5, 3) := by decide +kernel
theorem dMo_take_42 : decode bMo_take 42 = .ok (.iconst (-1), 1) := by decide +kernel
theorem dMo_take_43 : decode bMo_take 43 = .ok (.ireturn, 1) := by decide +kernel
theorem dMo_take_44 : decode bMo_take 44 = .ok (.aload_n 0, 1) := by decide +kernel
theorem dMo_take_45 : decode bMo_take 45 = .ok (.getfield 17, 3) := by decide +kernel
theorem dMo_take_48 : decode bMo_take 48 = .ok (.iconst 5, 1) := by decide +kernel
theorem dMo_take_49 : decode bMo_take 49 = .ok (.iload 5, 2) := by decide +kernel
theorem dMo_take_51 : decode bMo_take 51 = .ok (.imul, 1) := by decide +kernel
theorem dMo_take_52 : decode bMo_take 52 = .ok (.iaload, 1) := by decide +kernel
theorem dMo_take_53 : decode bMo_take 53 = .ok (.istore 6, 2) := by decide +kernel
theorem dMo_take_55 : decode bMo_take 55 = .ok (.aload_n 0, 1) := by decide +kernel
theorem dMo_take_56 : decode bMo_take 56 = .ok (.invokevirtual 41, 3) := by decide +kernel
theorem dMo_take_59 : decode bMo_take 59 = .ok (.ifCond .eq 9, 3) := by decide +kernel
theorem dMo_take_62 : decode bMo_take 62 = .ok (.aload_n 0, 1) := by decide +kernel
theorem dMo_take_63 : decode bMo_take 63 = .ok (.iload 5, 2) := by decide +kernel
theorem dMo_take_65 : decode bMo_take 65 = .ok (.invokevirtual 61, 3) := by decide +kernel
theorem dMo_take_68 : decode bMo_take 68 = .ok (.aload_n 0, 1) := by decide +kernel
theorem dMo_take_69 : decode bMo_take 69 = .ok (.iload 6, 2) := by decide +kernel
theorem dMo_take_71 : decode bMo_take 71 = .ok (.invokevirtual 53, 3) := by decide +kernel
theorem dMo_take_74 : decode bMo_take 74 = .ok (.ireturn, 1) := by decide +kernel
abbrev wMo_take : List Cond := Cond.code yMo_take bMo_take 7 (some .int)   :: tbl
theorem kcMo_take : Cond.code yMo_take bMo_take 7 (some .int) ∈ tbl := tb3 167 (by decide +kernel) (by decide +kernel)
theorem kiMo_take : Cond.instanceMethod yMo_take ∈ tbl := tb3 165 (by decide +kernel) (by decide +kernel)
theorem ksMo_take : Cond.selects yMo_take.cls yMo_take yMo_take ∈ tbl := tb3 166 (by decide +kernel) (by decide +kernel)
theorem dMo_cut_0 : decode bMo_cut 0 = .ok (.iload_n 1, 1) := by decide +kernel
theorem dMo_cut_1 : decode bMo_cut 1 = .ok (.iconst (-1), 1) := by decide +kernel
theorem dMo_cut_2 : decode bMo_cut 2 = .ok (.if_icmp .lt 8, 3) := by decide +kernel
theorem dMo_cut_5 : decode bMo_cut 5 = .ok (.iload_n 1, 1) := by decide +kernel
theorem dMo_cut_6 : decode bMo_cut 6 = .ok (.iconst 5, 1) := by decide +kernel
theorem dMo_cut_7 : decode bMo_cut 7 = .ok (.if_icmp .le 5, 3) := by decide +kernel
theorem dMo_cut_10 : decode bMo_cut 10 = .ok (.iconst 0, 1) := by decide +kernel
theorem dMo_cut_11 : decode bMo_cut 11 = .ok (.ireturn, 1) := by decide +kernel
theorem dMo_cut_12 : decode bMo_cut 12 = .ok (.aload_n 0, 1) := by decide +kernel
theorem dMo_cut_13 : decode bMo_cut 13 = .ok (.iload_n 1, 1) := by decide +kernel
theorem dMo_cut_14 : decode bMo_cut 14 = .ok (.putfield 13, 3) := by decide +kernel
theorem dMo_cut_17 : decode bMo_cut 17 = .ok (.iconst 1, 1) := by decide +kernel
theorem dMo_cut_18 : decode bMo_cut 18 = .ok (.ireturn, 1) := by decide +kernel
abbrev wMo_cut : List Cond := Cond.code yMo_cut bMo_cut 2 (some .boolean)   :: tbl
theorem kcMo_cut : Cond.code yMo_cut bMo_cut 2 (some .boolean) ∈ tbl := tb3 179 (by decide +kernel) (by decide +kernel)
theorem kiMo_cut : Cond.instanceMethod yMo_cut ∈ tbl := tb3 177 (by decide +kernel) (by decide +kernel)
theorem ksMo_cut : Cond.selects yMo_cut.cls yMo_cut yMo_cut ∈ tbl := tb3 178 (by decide +kernel) (by decide +kernel)
theorem dMo_stop_0 : decode bMo_stop 0 = .ok (.aload_n 0, 1) := by decide +kernel
theorem dMo_stop_1 : decode bMo_stop 1 = .ok (.getfield 7, 3) := by decide +kernel
theorem dMo_stop_4 : decode bMo_stop 4 = .ok (.ifCond .ne 5, 3) := by decide +kernel
theorem dMo_stop_7 : decode bMo_stop 7 = .ok (.iconst 0, 1) := by decide +kernel
theorem dMo_stop_8 : decode bMo_stop 8 = .ok (.ireturn, 1) := by decide +kernel
theorem dMo_stop_9 : decode bMo_stop 9 = .ok (.aload_n 0, 1) := by decide +kernel
theorem dMo_stop_10 : decode bMo_stop 10 = .ok (.iconst 0, 1) := by decide +kernel
theorem dMo_stop_11 : decode bMo_stop 11 = .ok (.putfield 7, 3) := by decide +kernel
theorem dMo_stop_14 : decode bMo_stop 14 = .ok (.iconst 1, 1) := by decide +kernel
theorem dMo_stop_15 : decode bMo_stop 15 = .ok (.ireturn, 1) := by decide +kernel
abbrev wMo_stop : List Cond := Cond.code yMo_stop bMo_stop 1 (some .boolean)   :: tbl
theorem kcMo_stop : Cond.code yMo_stop bMo_stop 1 (some .boolean) ∈ tbl := tb3 183 (by decide +kernel) (by decide +kernel)
theorem kiMo_stop : Cond.instanceMethod yMo_stop ∈ tbl := tb3 181 (by decide +kernel) (by decide +kernel)
theorem ksMo_stop : Cond.selects yMo_stop.cls yMo_stop yMo_stop ∈ tbl := tb3 182 (by decide +kernel) (by decide +kernel)
theorem dMo_start_0 : decode bMo_start 0 = .ok (.aload_n 0, 1) := by decide +kernel
theorem dMo_start_1 : decode bMo_start 1 = .ok (.getfield 7, 3) := by decide +kernel
theorem dMo_start_4 : decode bMo_start 4 = .ok (.ifCond .eq 5, 3) := by decide +kernel
theorem dMo_start_7 : decode bMo_start 7 = .ok (.iconst 0, 1) := by decide +kernel
theorem dMo_start_8 : decode bMo_start 8 = .ok (.ireturn, 1) := by decide +kernel
theorem dMo_start_9 : decode bMo_start 9 = .ok (.aload_n 0, 1) := by decide +kernel
theorem dMo_start_10 : decode bMo_start 10 = .ok (.iconst 1, 1) := by decide +kernel
theorem dMo_start_11 : decode bMo_start 11 = .ok (.putfield 7, 3) := by decide +kernel
theorem dMo_start_14 : decode bMo_start 14 = .ok (.iconst 1, 1) := by decide +kernel
theorem dMo_start_15 : decode bMo_start 15 = .ok (.ireturn, 1) := by decide +kernel
abbrev wMo_start : List Cond := Cond.code yMo_start bMo_start 1 (some .boolean)   :: tbl
theorem kcMo_start : Cond.code yMo_start bMo_start 1 (some .boolean) ∈ tbl := tb3 187 (by decide +kernel) (by decide +kernel)
theorem kiMo_start : Cond.instanceMethod yMo_start ∈ tbl := tb3 185 (by decide +kernel) (by decide +kernel)
theorem ksMo_start : Cond.selects yMo_start.cls yMo_start yMo_start ∈ tbl := tb3 186 (by decide +kernel) (by decide +kernel)
theorem dMo_up_0 : decode bMo_up 0 = .ok (.aload_n 0, 1) := by decide +kernel
theorem dMo_up_1 : decode bMo_up 1 = .ok (.getfield 7, 3) := by decide +kernel
theorem dMo_up_4 : decode bMo_up 4 = .ok (.ireturn, 1) := by decide +kernel
abbrev wMo_up : List Cond := Cond.code yMo_up bMo_up 1 (some .boolean)   :: tbl
theorem kcMo_up : Cond.code yMo_up bMo_up 1 (some .boolean) ∈ tbl := tb3 191 (by decide +kernel) (by decide +kernel)
theorem kiMo_up : Cond.instanceMethod yMo_up ∈ tbl := tb3 189 (by decide +kernel) (by decide +kernel)
theorem ksMo_up : Cond.selects yMo_up.cls yMo_up yMo_up ∈ tbl := tb3 190 (by decide +kernel) (by decide +kernel)
theorem dMo_size_0 : decode bMo_size 0 = .ok (.aload_n 0, 1) := by decide +kernel
theorem dMo_size_1 : decode bMo_size 1 = .ok (.getfield 7, 3) := by decide +kernel
theorem dMo_size_4 : decode bMo_size 4 = .ok (.ifCond .eq 10, 3) := by decide +kernel
theorem dMo_size_7 : decode bMo_size 7 = .ok (.aload_n 0, 1) := by decide +kernel
theorem dMo_size_8 : decode bMo_size 8 = .ok (.getfield 38, 3) := by decide +kernel
theorem dMo_size_11 : decode bMo_size 11 = .ok (.goto 5, 3) := by decide +kernel
theorem dMo_size_14 : decode bMo_size 14 = .ok (.bipush (-3), 2) := by decide +kernel
theorem dMo_size_16 : decode bMo_size 16 = .ok (.ireturn, 1) := by decide +kernel
abbrev wMo_size : List Cond := Cond.code yMo_size bMo_size 1 (some .int)   :: tbl
theorem kcMo_size : Cond.code yMo_size bMo_size 1 (some .int) ∈ tbl := tb3 195 (by decide +kernel) (by decide +kernel)
theorem kiMo_size : Cond.instanceMethod yMo_size ∈ tbl := tb3 193 (by decide +kernel) (by decide +kernel)
theorem ksMo_size : Cond.selects yMo_size.cls yMo_size yMo_size ∈ tbl := tb3 194 (by decide +kernel) (by decide +kernel)
theorem dMo_count_0 : decode bMo_count 0 = .ok (.aload_n 0, 1) := by decide +kernel
theorem dMo_count_1 : decode bMo_count 1 = .ok (.getfield 7, 3) := by decide +kernel
theorem dMo_count_4 : decode bMo_count 4 = .ok (.ifCond .ne 6, 3) := by decide +kernel
theorem dMo_count_7 : decode bMo_count 7 = .ok (.bipush (-3), 2) := by decide +kernel
theorem dMo_count_9 : decode bMo_count 9 = .ok (.ireturn, 1) := by decide +kernel
theorem dMo_count_10 : decode bMo_count 10 = .ok (.iload_n 1, 1) := by decide +kernel
theorem dMo_count_11 : decode bMo_count 11 = .ok (.iload_n 2, 1) := by decide +kernel
theorem dMo_count_12 : decode bMo_count 12 = .ok (.iload_n 3, 1) := by decide +kernel
theorem dMo_count_13 : decode bMo_count 13 = .ok (.iload 4, 2) := by decide +kernel
theorem dMo_count_15 : decode bMo_count 15 = .ok (.invokestatic 34, 3) := by decide +kernel
theorem dMo_count_18 : decode bMo_count 18 = .ok (.ifCond .eq 5, 3) := by decide +kernel
theorem dMo_count_21 : decode bMo_count 21 = .ok (.iconst (-1), 1) := by decide +kernel
theorem dMo_count_22 : decode bMo_count 22 = .ok (.ireturn, 1) := by decide +kernel
theorem dMo_count_23 : decode bMo_count 23 = .ok (.iconst 0, 1) := by decide +kernel
theorem dMo_count_24 : decode bMo_count 24 = .ok (.istore 5, 2) := by decide +kernel
theorem dMo_count_26 : decode bMo_count 26 = .ok (.iconst 0, 1) := by decide +kernel
theorem dMo_count_27 : decode bMo_count 27 = .ok (.istore 6, 2) := by decide +kernel
theorem dMo_count_29 : decode bMo_count 29 = .ok (.iload 6, 2) := by decide +kernel
theorem dMo_count_31 : decode bMo_count 31 = .ok (.aload_n 0, 1) := by decide +kernel
theorem dMo_count_32 : decode bMo_count 32 = .ok (.getfield 38, 3) := by decide +kernel
theorem dMo_count_35 : decode bMo_count 35 = .ok (.if_icmp .ge 34, 3) := by decide +kernel
theorem dMo_count_38 : decode bMo_count 38 = .ok (.aload_n 0, 1) := by decide +kernel
theorem dMo_count_39 : decode bMo_count 39 = .ok (.iload 6, 2) := by decide +kernel
theorem dMo_count_41 : decode bMo_count 41 = .ok (.iload_n 1, 1) := by decide +kernel
theorem dMo_count_42 : decode bMo_count 42 = .ok (.iload_n 2, 1) := by decide +kernel
theorem dMo_count_43 : decode bMo_count 43 = .ok (.iload_n 3, 1) := by decide +kernel
theorem dMo_count_44 : decode bMo_count 44 = .ok (.iload 4, 2) := by decide +kernel
theorem dMo_count_46 : decode bMo_count 46 = .ok (.invokevirtual 65, 3) := by decide +kernel
theorem dMo_count_49 : decode bMo_count 49 = .ok (.ifCond .eq 10, 3) := by decide +kernel
theorem dMo_count_52 : decode bMo_count 52 = .ok (.iload 5, 2) := by decide +kernel
theorem dMo_count_54 : decode bMo_count 54 = .ok (.iconst 1, 1) := by decide +kernel
theorem dMo_count_55 : decode bMo_count 55 = .ok (.iadd, 1) := by decide +kernel
theorem dMo_count_56 : decode bMo_count 56 = .ok (.goto 5, 3) := by decide +kernel
theorem dMo_count_59 : decode bMo_count 59 = .ok (.iload 5, 2) := by decide +kernel
theorem dMo_count_61 : decode bMo_count 61 = .ok (.istore 5, 2) := by decide +kernel
theorem dMo_count_63 : decode bMo_count 63 = .ok (.iinc 6 1, 3) := by decide +kernel
theorem dMo_count_66 : decode bMo_count 66 = .ok (.goto (-37), 3) := by decide +kernel
theorem dMo_count_69 : decode bMo_count 69 = .ok (.iload 5, 2) := by decide +kernel
theorem dMo_count_71 : decode bMo_count 71 = .ok (.ireturn, 1) := by decide +kernel
abbrev wMo_count : List Cond := Cond.code yMo_count bMo_count 7 (some .int)   :: tbl
theorem kcMo_count : Cond.code yMo_count bMo_count 7 (some .int) ∈ tbl := tb3 199 (by decide +kernel) (by decide +kernel)
theorem kiMo_count : Cond.instanceMethod yMo_count ∈ tbl := tb3 197 (by decide +kernel) (by decide +kernel)
theorem ksMo_count : Cond.selects yMo_count.cls yMo_count yMo_count ∈ tbl := tb3 198 (by decide +kernel) (by decide +kernel)
theorem dMo_within_0 : decode bMo_within 0 = .ok (.aload_n 0, 1) := by decide +kernel
theorem dMo_within_1 : decode bMo_within 1 = .ok (.getfield 7, 3) := by decide +kernel
theorem dMo_within_4 : decode bMo_within 4 = .ok (.ifCond .ne 6, 3) := by decide +kernel
theorem dMo_within_7 : decode bMo_within 7 = .ok (.bipush (-3), 2) := by decide +kernel
theorem dMo_within_9 : decode bMo_within 9 = .ok (.ireturn, 1) := by decide +kernel
theorem dMo_within_10 : decode bMo_within 10 = .ok (.iload_n 1, 1) := by decide +kernel
theorem dMo_within_11 : decode bMo_within 11 = .ok (.iload_n 2, 1) := by decide +kernel
theorem dMo_within_12 : decode bMo_within 12 = .ok (.iload_n 3, 1) := by decide +kernel
theorem dMo_within_13 : decode bMo_within 13 = .ok (.iload 4, 2) := by decide +kernel
theorem dMo_within_15 : decode bMo_within 15 = .ok (.invokestatic 34, 3) := by decide +kernel
theorem dMo_within_18 : decode bMo_within 18 = .ok (.ifCond .eq 5, 3) := by decide +kernel
theorem dMo_within_21 : decode bMo_within 21 = .ok (.iconst (-1), 1) := by decide +kernel
theorem dMo_within_22 : decode bMo_within 22 = .ok (.ireturn, 1) := by decide +kernel
theorem dMo_within_23 : decode bMo_within 23 = .ok (.iconst 0, 1) := by decide +kernel
theorem dMo_within_24 : decode bMo_within 24 = .ok (.istore 5, 2) := by decide +kernel
theorem dMo_within_26 : decode bMo_within 26 = .ok (.iconst 0, 1) := by decide +kernel
theorem dMo_within_27 : decode bMo_within 27 = .ok (.istore 6, 2) := by decide +kernel
theorem dMo_within_29 : decode bMo_within 29 = .ok (.iload 6, 2) := by decide +kernel
theorem dMo_within_31 : decode bMo_within 31 = .ok (.aload_n 0, 1) := by decide +kernel
theorem dMo_within_32 : decode bMo_within 32 = .ok (.getfield 38, 3) := by decide +kernel
theorem dMo_within_35 : decode bMo_within 35 = .ok (.if_icmp .ge 65, 3) := by decide +kernel
theorem dMo_within_38 : decode bMo_within 38 = .ok (.aload_n 0, 1) := by decide +kernel
theorem dMo_within_39 : decode bMo_within 39 = .ok (.iload 6, 2) := by decide +kernel
theorem dMo_within_41 : decode bMo_within 41 = .ok (.iconst 0, 1) := by decide +kernel
theorem dMo_within_42 : decode bMo_within 42 = .ok (.invokevirtual 27, 3) := by decide +kernel
theorem dMo_within_45 : decode bMo_within 45 = .ok (.iload_n 1, 1) := by decide +kernel
theorem dMo_within_46 : decode bMo_within 46 = .ok (.if_icmp .lt 44, 3) := by decide +kernel
theorem dMo_within_49 : decode bMo_within 49 = .ok (.aload_n 0, 1) := by decide +kernel
theorem dMo_within_50 : decode bMo_within 50 = .ok (.iload 6, 2) := by decide +kernel
theorem dMo_within_52 : decode bMo_within 52 = .ok (.iconst 1, 1) := by decide +kernel
theorem dMo_within_53 : decode bMo_within 53 = .ok (.invokevirtual 27, 3) := by decide +kernel
theorem dMo_within_56 : decode bMo_within 56 = .ok (.iload_n 2, 1) := by decide +kernel
theorem dMo_within_57 : decode bMo_within 57 = .ok (.if_icmp .lt 33, 3) := by decide +kernel
theorem dMo_within_60 : decode bMo_within 60 = .ok (.aload_n 0, 1) := by decide +kernel
theorem dMo_within_61 : decode bMo_within 61 = .ok (.iload 6, 2) := by decide +kernel
theorem dMo_within_63 : decode bMo_within 63 = .ok (.iconst 2, 1) := by decide +kernel
theorem dMo_within_64 : decode bMo_within 64 = .ok (.invokevirtual 27, 3) := by decide +kernel
theorem dMo_within_67 : decode bMo_within 67 = .ok (.iload_n 3, 1) := by decide +kernel
theorem dMo_within_68 : decode bMo_within 68 = .ok (.if_icmp .gt 22, 3) := by decide +kernel
theorem dMo_within_71 : decode bMo_within 71 = .ok (.aload_n 0, 1) := by decide +kernel
theorem dMo_within_72 : decode bMo_within 72 = .ok (.iload 6, 2) := by decide +kernel
theorem dMo_within_74 : decode bMo_within 74 = .ok (.iconst 3, 1) := by decide +kernel
theorem dMo_within_75 : decode bMo_within 75 = .ok (.invokevirtual 27, 3) := by decide +kernel
theorem dMo_within_78 : decode bMo_within 78 = .ok (.iload 4, 2) := by decide +kernel
theorem dMo_within_80 : decode bMo_within 80 = .ok (.if_icmp .gt 10, 3) := by decide +kernel
theorem dMo_within_83 : decode bMo_within 83 = .ok (.iload 5, 2) := by decide +kernel
theorem dMo_within_85 : decode bMo_within 85 = .ok (.iconst 1, 1) := by decide +kernel
theorem dMo_within_86 : decode bMo_within 86 = .ok (.iadd, 1) := by decide +kernel
theorem dMo_within_87 : decode bMo_within 87 = .ok (.goto 5, 3) := by decide +kernel
theorem dMo_within_90 : decode bMo_within 90 = .ok (.iload 5, 2) := by decide +kernel
theorem dMo_within_92 : decode bMo_within 92 = .ok (.istore 5, 2) := by decide +kernel
theorem dMo_within_94 : decode bMo_within 94 = .ok (.iinc 6 1, 3) := by decide +kernel
theorem dMo_within_97 : decode bMo_within 97 = .ok (.goto (-68), 3) := by decide +kernel
theorem dMo_within_100 : decode bMo_within 100 = .ok (.iload 5, 2) := by decide +kernel
theorem dMo_within_102 : decode bMo_within 102 = .ok (.ireturn, 1) := by decide +kernel
abbrev wMo_within : List Cond := Cond.code yMo_within bMo_within 7 (some .int)   :: tbl
theorem kcMo_within : Cond.code yMo_within bMo_within 7 (some .int) ∈ tbl := tb3 203 (by decide +kernel) (by decide +kernel)
theorem kiMo_within : Cond.instanceMethod yMo_within ∈ tbl := tb3 201 (by decide +kernel) (by decide +kernel)
theorem ksMo_within : Cond.selects yMo_within.cls yMo_within yMo_within ∈ tbl := tb3 202 (by decide +kernel) (by decide +kernel)
theorem dMo_pick_0 : decode bMo_pick 0 = .ok (.aload_n 0, 1) := by decide +kernel
theorem dMo_pick_1 : decode bMo_pick 1 = .ok (.getfield 7, 3) := by decide +kernel
theorem dMo_pick_4 : decode bMo_pick 4 = .ok (.ifCond .ne 6, 3) := by decide +kernel
theorem dMo_pick_7 : decode bMo_pick 7 = .ok (.bipush (-3), 2) := by decide +kernel
theorem dMo_pick_9 : decode bMo_pick 9 = .ok (.ireturn, 1) := by decide +kernel
theorem dMo_pick_10 : decode bMo_pick 10 = .ok (.iload_n 1, 1) := by decide +kernel
theorem dMo_pick_11 : decode bMo_pick 11 = .ok (.iload_n 2, 1) := by decide +kernel
theorem dMo_pick_12 : decode bMo_pick 12 = .ok (.iload_n 3, 1) := by decide +kernel
theorem dMo_pick_13 : decode bMo_pick 13 = .ok (.iload 4, 2) := by decide +kernel
theorem dMo_pick_15 : decode bMo_pick 15 = .ok (.invokestatic 34, 3) := by decide +kernel
theorem dMo_pick_18 : decode bMo_pick 18 = .ok (.ifCond .eq 7, 3) := by decide +kernel
theorem dMo_pick_21 : decode bMo_pick 21 = .ok (.iconst (-1), 1) := by decide +kernel
theorem dMo_pick_22 : decode bMo_pick 22 = .ok (.goto 14, 3) := by decide +kernel
theorem dMo_pick_25 : decode bMo_pick 25 = .ok (.aload_n 0, 1) := by decide +kernel
theorem dMo_pick_26 : decode bMo_pick 26 = .ok (.iload_n 1, 1) := by decide +kernel
theorem dMo_pick_27 : decode bMo_pick 27 = .ok (.iload_n 2, 1) := by decide +kernel
theorem dMo_pick_28 : decode bMo_pick 28 = .ok (.iload_n 3, 1) := by decide +kernel
theorem dMo_pick_29 : decode bMo_pick 29 = .ok (.iload 4, 2) := by decide +kernel
theorem dMo_pick_31 : decode bMo_pick 31 = .ok (.iload 5, 2) := by decide +kernel
theorem dMo_pick_33 : decode bMo_pick 33 = .ok (.invokevirtual 68, 3) := by decide +kernel
theorem dMo_pick_36 : decode bMo_pick 36 = .ok (.istore 6, 2) := by decide +kernel
theorem dMo_pick_38 : decode bMo_pick 38 = .ok (.iload 6, 2) := by decide +kernel
theorem dMo_pick_40 : decode bMo_pick 40 = .ok (.ifCond .ge 7, 3) := by decide +kernel
theorem dMo_pick_43 : decode bMo_pick 43 = .ok (.iconst (-1), 1) := by decide +kernel
theorem dMo_pick_44 : decode bMo_pick 44 = .ok (.goto 12, 3) := by decide +kernel
theorem dMo_pick_47 : decode bMo_pick 47 = .ok (.aload_n 0, 1) := by decide +kernel
theorem dMo_pick_48 : decode bMo_pick 48 = .ok (.getfield 17, 3) := by decide +kernel
theorem dMo_pick_51 : decode bMo_pick 51 = .ok (.iconst 5, 1) := by decide +kernel
theorem dMo_pick_52 : decode bMo_pick 52 = .ok (.iload 6, 2) := by decide +kernel
theorem dMo_pick_54 : decode bMo_pick 54 = .ok (.imul, 1) := by decide +kernel
theorem dMo_pick_55 : decode bMo_pick 55 = .ok (.iaload, 1) := by decide +kernel
theorem dMo_pick_56 : decode bMo_pick 56 = .ok (.ireturn, 1) := by decide +kernel
abbrev wMo_pick : List Cond := Cond.code yMo_pick bMo_pick 7 (some .int)   :: tbl
theorem kcMo_pick : Cond.code yMo_pick bMo_pick 7 (some .int) ∈ tbl := tb3 207 (by decide +kernel) (by decide +kernel)
theorem kiMo_pick : Cond.instanceMethod yMo_pick ∈ tbl := tb3 205 (by decide +kernel) (by decide +kernel)
theorem ksMo_pick : Cond.selects yMo_pick.cls yMo_pick yMo_pick ∈ tbl := tb3 206 (by decide +kernel) (by decide +kernel)
theorem dMo_off_0 : decode bMo_off 0 = .ok (.iload_n 0, 1) := by decide +kernel
theorem dMo_off_1 : decode bMo_off 1 = .ok (.iload_n 1, 1) := by decide +kernel
theorem dMo_off_2 : decode bMo_off 2 = .ok (.if_icmp .ge 11, 3) := by decide +kernel
theorem dMo_off_5 : decode bMo_off 5 = .ok (.iload_n 1, 1) := by decide +kernel
theorem dMo_off_6 : decode bMo_off 6 = .ok (.i2l, 1) := by decide +kernel
theorem dMo_off_7 : decode bMo_off 7 = .ok (.iload_n 0, 1) := by decide +kernel
theorem dMo_off_8 : decode bMo_off 8 = .ok (.i2l, 1) := by decide +kernel
theorem dMo_off_9 : decode bMo_off 9 = .ok (.lsub, 1) := by decide +kernel
theorem dMo_off_10 : decode bMo_off 10 = .ok (.goto 17, 3) := by decide +kernel
theorem dMo_off_13 : decode bMo_off 13 = .ok (.iload_n 0, 1) := by decide +kernel
theorem dMo_off_14 : decode bMo_off 14 = .ok (.iload_n 2, 1) := by decide +kernel
theorem dMo_off_15 : decode bMo_off 15 = .ok (.if_icmp .le 11, 3) := by decide +kernel
theorem dMo_off_18 : decode bMo_off 18 = .ok (.iload_n 0, 1) := by decide +kernel
theorem dMo_off_19 : decode bMo_off 19 = .ok (.i2l, 1) := by decide +kernel
theorem dMo_off_20 : decode bMo_off 20 = .ok (.iload_n 2, 1) := by decide +kernel
theorem dMo_off_21 : decode bMo_off 21 = .ok (.i2l, 1) := by decide +kernel
theorem dMo_off_22 : decode bMo_off 22 = .ok (.lsub, 1) := by decide +kernel
theorem dMo_off_23 : decode bMo_off 23 = .ok (.goto 4, 3) := by decide +kernel
theorem dMo_off_26 : decode bMo_off 26 = .ok (.lconst 0, 1) := by decide +kernel
theorem dMo_off_27 : decode bMo_off 27 = .ok (.lreturn, 1) := by decide +kernel
abbrev wMo_off : List Cond := Cond.code yMo_off bMo_off 3 (some .long)   :: tbl
theorem kcMo_off : Cond.code yMo_off bMo_off 3 (some .long) ∈ tbl := tb3 223 (by decide +kernel) (by decide +kernel)
theorem ktMo_off : Cond.static yMo_off ∈ tbl := tb3 222 (by decide +kernel) (by decide +kernel)
theorem dMo_farFrom_0 : decode bMo_farFrom 0 = .ok (.iload_n 2, 1) := by decide +kernel
theorem dMo_farFrom_1 : decode bMo_farFrom 1 = .ok (.aload_n 0, 1) := by decide +kernel
theorem dMo_farFrom_2 : decode bMo_farFrom 2 = .ok (.iload_n 1, 1) := by decide +kernel
theorem dMo_farFrom_3 : decode bMo_farFrom 3 = .ok (.iconst 0, 1) := by decide +kernel
theorem dMo_farFrom_4 : decode bMo_farFrom 4 = .ok (.invokevirtual 27, 3) := by decide +kernel
theorem dMo_farFrom_7 : decode bMo_farFrom 7 = .ok (.aload_n 0, 1) := by decide +kernel
theorem dMo_farFrom_8 : decode bMo_farFrom 8 = .ok (.iload_n 1, 1) := by decide +kernel
theorem dMo_farFrom_9 : decode bMo_farFrom 9 = .ok (.iconst 2, 1) := by decide +kernel
theorem dMo_farFrom_10 : decode bMo_farFrom 10 = .ok (.invokevirtual 27, 3) := by decide +kernel
theorem dMo_farFrom_13 : decode bMo_farFrom 13 = .ok (.invokestatic 72, 3) := by decide +kernel
theorem dMo_farFrom_16 : decode bMo_farFrom 16 = .ok (.lstore 4, 2) := by decide +kernel
theorem dMo_farFrom_18 : decode bMo_farFrom 18 = .ok (.iload_n 3, 1) := by decide +kernel
theorem dMo_farFrom_19 : decode bMo_farFrom 19 = .ok (.aload_n 0, 1) := by decide +kernel
theorem dMo_farFrom_20 : decode bMo_farFrom 20 = .ok (.iload_n 1, 1) := by decide +kernel
theorem dMo_farFrom_21 : decode bMo_farFrom 21 = .ok (.iconst 1, 1) := by decide +kernel
theorem dMo_farFrom_22 : decode bMo_farFrom 22 = .ok (.invokevirtual 27, 3) := by decide +kernel
theorem dMo_farFrom_25 : decode bMo_farFrom 25 = .ok (.aload_n 0, 1) := by decide +kernel
theorem dMo_farFrom_26 : decode bMo_farFrom 26 = .ok (.iload_n 1, 1) := by decide +kernel
theorem dMo_farFrom_27 : decode bMo_farFrom 27 = .ok (.iconst 3, 1) := by decide +kernel
theorem dMo_farFrom_28 : decode bMo_farFrom 28 = .ok (.invokevirtual 27, 3) := by decide +kernel
theorem dMo_farFrom_31 : decode bMo_farFrom 31 = .ok (.invokestatic 72, 3) := by decide +kernel
theorem dMo_farFrom_34 : decode bMo_farFrom 34 = .ok (.lstore 6, 2) := by decide +kernel
theorem dMo_farFrom_36 : decode bMo_farFrom 36 = .ok (.lload 4, 2) := by decide +kernel
theorem dMo_farFrom_38 : decode bMo_farFrom 38 = .ok (.lload 4, 2) := by decide +kernel
theorem dMo_farFrom_40 : decode bMo_farFrom 40 = .ok (.lmul, 1) := by decide +kernel
theorem dMo_farFrom_41 : decode bMo_farFrom 41 = .ok (.lload 6, 2) := by decide +kernel
theorem dMo_farFrom_43 : decode bMo_farFrom 43 = .ok (.lload 6, 2) := by decide +kernel
theorem dMo_farFrom_45 : decode bMo_farFrom 45 = .ok (.lmul, 1) := by decide +kernel
theorem dMo_farFrom_46 : decode bMo_farFrom 46 = .ok (.ladd, 1) := by decide +kernel
theorem dMo_farFrom_47 : decode bMo_farFrom 47 = .ok (.lreturn, 1) := by decide +kernel
abbrev wMo_farFrom : List Cond := Cond.code yMo_farFrom bMo_farFrom 8 (some .long)   :: tbl
theorem kcMo_farFrom : Cond.code yMo_farFrom bMo_farFrom 8 (some .long) ∈ tbl := tb3 220 (by decide +kernel) (by decide +kernel)
theorem kiMo_farFrom : Cond.instanceMethod yMo_farFrom ∈ tbl := tb3 219 (by decide +kernel) (by decide +kernel)
theorem ksMo_farFrom : Cond.selects yMo_farFrom.cls yMo_farFrom yMo_farFrom ∈ tbl := tb0 35 (by decide +kernel) (by decide +kernel)
theorem dMo_nearestOne_0 : decode bMo_nearestOne 0 = .ok (.iconst (-1), 1) := by decide +kernel
theorem dMo_nearestOne_1 : decode bMo_nearestOne 1 = .ok (.istore_n 3, 1) := by decide +kernel
theorem dMo_nearestOne_2 : decode bMo_nearestOne 2 = .ok (.iconst 0, 1) := by decide +kernel
theorem dMo_nearestOne_3 : decode bMo_nearestOne 3 = .ok (.istore 4, 2) := by decide +kernel
theorem dMo_nearestOne_5 : decode bMo_nearestOne 5 = .ok (.iload 4, 2) := by decide +kernel
theorem dMo_nearestOne_7 : decode bMo_nearestOne 7 = .ok (.aload_n 0, 1) := by decide +kernel
theorem dMo_nearestOne_8 : decode bMo_nearestOne 8 = .ok (.getfield 38, 3) := by decide +kernel
theorem dMo_nearestOne_11 : decode bMo_nearestOne 11 = .ok (.if_icmp .ge 53, 3) := by decide +kernel
theorem dMo_nearestOne_14 : decode bMo_nearestOne 14 = .ok (.iload_n 1, 1) := by decide +kernel
theorem dMo_nearestOne_15 : decode bMo_nearestOne 15 = .ok (.invokestatic 23, 3) := by decide +kernel
theorem dMo_nearestOne_18 : decode bMo_nearestOne 18 = .ok (.ifCond .ne 46, 3) := by decide +kernel
theorem dMo_nearestOne_21 : decode bMo_nearestOne 21 = .ok (.iload_n 2, 1) := by decide +kernel
theorem dMo_nearestOne_22 : decode bMo_nearestOne 22 = .ok (.invokestatic 23, 3) := by decide +kernel
theorem dMo_nearestOne_25 : decode bMo_nearestOne 25 = .ok (.ifCond .ne 39, 3) := by decide +kernel
theorem dMo_nearestOne_28 : decode bMo_nearestOne 28 = .ok (.iload_n 3, 1) := by decide +kernel
theorem dMo_nearestOne_29 : decode bMo_nearestOne 29 = .ok (.ifCond .lt 22, 3) := by decide +kernel
theorem dMo_nearestOne_32 : decode bMo_nearestOne 32 = .ok (.aload_n 0, 1) := by decide +kernel
theorem dMo_nearestOne_33 : decode bMo_nearestOne 33 = .ok (.iload 4, 2) := by decide +kernel
theorem dMo_nearestOne_35 : decode bMo_nearestOne 35 = .ok (.iload_n 1, 1) := by decide +kernel
theorem dMo_nearestOne_36 : decode bMo_nearestOne 36 = .ok (.iload_n 2, 1) := by decide +kernel
theorem dMo_nearestOne_37 : decode bMo_nearestOne 37 = .ok (.invokevirtual 76, 3) := by decide +kernel
theorem dMo_nearestOne_40 : decode bMo_nearestOne 40 = .ok (.aload_n 0, 1) := by decide +kernel
theorem dMo_nearestOne_41 : decode bMo_nearestOne 41 = .ok (.iload_n 3, 1) := by decide +kernel
theorem dMo_nearestOne_42 : decode bMo_nearestOne 42 = .ok (.iload_n 1, 1) := by decide +kernel
theorem dMo_nearestOne_43 : decode bMo_nearestOne 43 = .ok (.iload_n 2, 1) := by decide +kernel
theorem dMo_nearestOne_44 : decode bMo_nearestOne 44 = .ok (.invokevirtual 76, 3) := by decide +kernel
theorem dMo_nearestOne_47 : decode bMo_nearestOne 47 = .ok (.lcmp, 1) := by decide +kernel
theorem dMo_nearestOne_48 : decode bMo_nearestOne 48 = .ok (.ifCond .ge 8, 3) := by decide +kernel
theorem dMo_nearestOne_51 : decode bMo_nearestOne 51 = .ok (.iload 4, 2) := by decide +kernel
theorem dMo_nearestOne_53 : decode bMo_nearestOne 53 = .ok (.goto 4, 3) := by decide +kernel
theorem dMo_nearestOne_56 : decode bMo_nearestOne 56 = .ok (.iload_n 3, 1) := by decide +kernel
theorem dMo_nearestOne_57 : decode bMo_nearestOne 57 = .ok (.istore_n 3, 1) := by decide +kernel
theorem dMo_nearestOne_58 : decode bMo_nearestOne 58 = .ok (.iinc 4 1, 3) := by decide +kernel
theorem dMo_nearestOne_61 : decode bMo_nearestOne 61 = .ok (.goto (-56), 3) := by decide +kernel
theorem dMo_nearestOne_64 : decode bMo_nearestOne 64 = .ok (.iload_n 3, 1) := by decide +kernel
theorem dMo_nearestOne_65 : decode bMo_nearestOne 65 = .ok (.ireturn, 1) := by decide +kernel
abbrev wMo_nearestOne : List Cond := Cond.code yMo_nearestOne bMo_nearestOne 5 (some .int)   :: tbl
theorem kcMo_nearestOne : Cond.code yMo_nearestOne bMo_nearestOne 5 (some .int) ∈ tbl := tb3 216 (by decide +kernel) (by decide +kernel)
theorem kiMo_nearestOne : Cond.instanceMethod yMo_nearestOne ∈ tbl := tb3 215 (by decide +kernel) (by decide +kernel)
theorem ksMo_nearestOne : Cond.selects yMo_nearestOne.cls yMo_nearestOne yMo_nearestOne ∈ tbl := tb0 34 (by decide +kernel) (by decide +kernel)
theorem dMo_distance_0 : decode bMo_distance 0 = .ok (.aload_n 0, 1) := by decide +kernel
theorem dMo_distance_1 : decode bMo_distance 1 = .ok (.getfield 7, 3) := by decide +kernel
theorem dMo_distance_4 : decode bMo_distance 4 = .ok (.ifCond .ne 7, 3) := by decide +kernel
theorem dMo_distance_7 : decode bMo_distance 7 = .ok (.ldc2_w 79, 3) := by decide +kernel
theorem dMo_distance_10 : decode bMo_distance 10 = .ok (.lreturn, 1) := by decide +kernel
theorem dMo_distance_11 : decode bMo_distance 11 = .ok (.aload_n 0, 1) := by decide +kernel
theorem dMo_distance_12 : decode bMo_distance 12 = .ok (.iload_n 1, 1) := by decide +kernel
theorem dMo_distance_13 : decode bMo_distance 13 = .ok (.iload_n 2, 1) := by decide +kernel
theorem dMo_distance_14 : decode bMo_distance 14 = .ok (.invokevirtual 81, 3) := by decide +kernel
theorem dMo_distance_17 : decode bMo_distance 17 = .ok (.istore_n 3, 1) := by decide +kernel
theorem dMo_distance_18 : decode bMo_distance 18 = .ok (.iload_n 3, 1) := by decide +kernel
theorem dMo_distance_19 : decode bMo_distance 19 = .ok (.ifCond .ge 9, 3) := by decide +kernel
theorem dMo_distance_22 : decode bMo_distance 22 = .ok (.ldc2_w 84, 3) := by decide +kernel
theorem dMo_distance_25 : decode bMo_distance 25 = .ok (.goto 10, 3) := by decide +kernel
theorem dMo_distance_28 : decode bMo_distance 28 = .ok (.aload_n 0, 1) := by decide +kernel
theorem dMo_distance_29 : decode bMo_distance 29 = .ok (.iload_n 3, 1) := by decide +kernel
theorem dMo_distance_30 : decode bMo_distance 30 = .ok (.iload_n 1, 1) := by decide +kernel
theorem dMo_distance_31 : decode bMo_distance 31 = .ok (.iload_n 2, 1) := by decide +kernel
theorem dMo_distance_32 : decode bMo_distance 32 = .ok (.invokevirtual 76, 3) := by decide +kernel
theorem dMo_distance_35 : decode bMo_distance 35 = .ok (.lreturn, 1) := by decide +kernel
abbrev wMo_distance : List Cond := Cond.code yMo_distance bMo_distance 4 (some .long)   :: tbl
theorem kcMo_distance : Cond.code yMo_distance bMo_distance 4 (some .long) ∈ tbl := tb3 211 (by decide +kernel) (by decide +kernel)
theorem kiMo_distance : Cond.instanceMethod yMo_distance ∈ tbl := tb3 209 (by decide +kernel) (by decide +kernel)
theorem ksMo_distance : Cond.selects yMo_distance.cls yMo_distance yMo_distance ∈ tbl := tb3 210 (by decide +kernel) (by decide +kernel)
theorem dMo_nearest_0 : decode bMo_nearest 0 = .ok (.aload_n 0, 1) := by decide +kernel
theorem dMo_nearest_1 : decode bMo_nearest 1 = .ok (.getfield 7, 3) := by decide +kernel
theorem dMo_nearest_4 : decode bMo_nearest 4 = .ok (.ifCond .ne 6, 3) := by decide +kernel
theorem dMo_nearest_7 : decode bMo_nearest 7 = .ok (.bipush (-3), 2) := by decide +kernel
theorem dMo_nearest_9 : decode bMo_nearest 9 = .ok (.ireturn, 1) := by decide +kernel
theorem dMo_nearest_10 : decode bMo_nearest 10 = .ok (.aload_n 0, 1) := by decide +kernel
theorem dMo_nearest_11 : decode bMo_nearest 11 = .ok (.iload_n 1, 1) := by decide +kernel
theorem dMo_nearest_12 : decode bMo_nearest 12 = .ok (.iload_n 2, 1) := by decide +kernel
theorem dMo_nearest_13 : decode bMo_nearest 13 = .ok (.invokevirtual 81, 3) := by decide +kernel
theorem dMo_nearest_16 : decode bMo_nearest 16 = .ok (.istore_n 3, 1) := by decide +kernel
theorem dMo_nearest_17 : decode bMo_nearest 17 = .ok (.iload_n 3, 1) := by decide +kernel
theorem dMo_nearest_18 : decode bMo_nearest 18 = .ok (.ifCond .ge 7, 3) := by decide +kernel
theorem dMo_nearest_21 : decode bMo_nearest 21 = .ok (.iconst (-1), 1) := by decide +kernel
theorem dMo_nearest_22 : decode bMo_nearest 22 = .ok (.goto 11, 3) := by decide +kernel
theorem dMo_nearest_25 : decode bMo_nearest 25 = .ok (.aload_n 0, 1) := by decide +kernel
theorem dMo_nearest_26 : decode bMo_nearest 26 = .ok (.getfield 17, 3) := by decide +kernel
theorem dMo_nearest_29 : decode bMo_nearest 29 = .ok (.iconst 5, 1) := by decide +kernel
theorem dMo_nearest_30 : decode bMo_nearest 30 = .ok (.iload_n 3, 1) := by decide +kernel
theorem dMo_nearest_31 : decode bMo_nearest 31 = .ok (.imul, 1) := by decide +kernel
theorem dMo_nearest_32 : decode bMo_nearest 32 = .ok (.iaload, 1) := by decide +kernel
theorem dMo_nearest_33 : decode bMo_nearest 33 = .ok (.ireturn, 1) := by decide +kernel
abbrev wMo_nearest : List Cond := Cond.code yMo_nearest bMo_nearest 4 (some .int)   :: tbl
theorem kcMo_nearest : Cond.code yMo_nearest bMo_nearest 4 (some .int) ∈ tbl := tb3 228 (by decide +kernel) (by decide +kernel)
theorem kiMo_nearest : Cond.instanceMethod yMo_nearest ∈ tbl := tb3 226 (by decide +kernel) (by decide +kernel)
theorem ksMo_nearest : Cond.selects yMo_nearest.cls yMo_nearest yMo_nearest ∈ tbl := tb3 227 (by decide +kernel) (by decide +kernel)
theorem dMo_around_0 : decode bMo_around 0 = .ok (.aload_n 0, 1) := by decide +kernel
theorem dMo_around_1 : decode bMo_around 1 = .ok (.getfield 7, 3) := by decide +kernel
theorem dMo_around_4 : decode bMo_around 4 = .ok (.ifCond .eq 19, 3) := by decide +kernel
theorem dMo_around_7 : decode bMo_around 7 = .ok (.aload_n 0, 1) := by decide +kernel
theorem dMo_around_8 : decode bMo_around 8 = .ok (.getfield 38, 3) := by decide +kernel
theorem dMo_around_11 : decode bMo_around 11 = .ok (.ifCond .eq 12, 3) := by decide +kernel
theorem dMo_around_14 : decode bMo_around 14 = .ok (.iload_n 1, 1) := by decide +kernel
theorem dMo_around_15 : decode bMo_around 15 = .ok (.ifCond .lt 8, 3) := by decide +kernel
theorem dMo_around_18 : decode bMo_around 18 = .ok (.iload_n 1, 1) := by decide +kernel
theorem dMo_around_19 : decode bMo_around 19 = .ok (.iconst 3, 1) := by decide +kernel
theorem dMo_around_20 : decode bMo_around 20 = .ok (.if_icmp .le 6, 3) := by decide +kernel
theorem dMo_around_23 : decode bMo_around 23 = .ok (.ldc 86, 2) := by decide +kernel
theorem dMo_around_25 : decode bMo_around 25 = .ok (.ireturn, 1) := by decide +kernel
theorem dMo_around_26 : decode bMo_around 26 = .ok (.aload_n 0, 1) := by decide +kernel
theorem dMo_around_27 : decode bMo_around 27 = .ok (.iconst 0, 1) := by decide +kernel
theorem dMo_around_28 : decode bMo_around 28 = .ok (.iload_n 1, 1) := by decide +kernel
theorem dMo_around_29 : decode bMo_around 29 = .ok (.invokevirtual 27, 3) := by decide +kernel
theorem dMo_around_32 : decode bMo_around 32 = .ok (.istore_n 2, 1) := by decide +kernel
theorem dMo_around_33 : decode bMo_around 33 = .ok (.iconst 1, 1) := by decide +kernel
theorem dMo_around_34 : decode bMo_around 34 = .ok (.istore_n 3, 1) := by decide +kernel
theorem dMo_around_35 : decode bMo_around 35 = .ok (.iload_n 3, 1) := by decide +kernel
theorem dMo_around_36 : decode bMo_around 36 = .ok (.aload_n 0, 1) := by decide +kernel
theorem dMo_around_37 : decode bMo_around 37 = .ok (.getfield 38, 3) := by decide +kernel
theorem dMo_around_40 : decode bMo_around 40 = .ok (.if_icmp .ge 50, 3) := by decide +kernel
theorem dMo_around_43 : decode bMo_around 43 = .ok (.aload_n 0, 1) := by decide +kernel
theorem dMo_around_44 : decode bMo_around 44 = .ok (.iload_n 3, 1) := by decide +kernel
theorem dMo_around_45 : decode bMo_around 45 = .ok (.iload_n 1, 1) := by decide +kernel
theorem dMo_around_46 : decode bMo_around 46 = .ok (.invokevirtual 27, 3) := by decide +kernel
theorem dMo_around_49 : decode bMo_around 49 = .ok (.istore 4, 2) := by decide +kernel
theorem dMo_around_51 : decode bMo_around 51 = .ok (.iload_n 1, 1) := by decide +kernel
theorem dMo_around_52 : decode bMo_around 52 = .ok (.iconst 2, 1) := by decide +kernel
theorem dMo_around_53 : decode bMo_around 53 = .ok (.if_icmp .ge 18, 3) := by decide +kernel
theorem dMo_around_56 : decode bMo_around 56 = .ok (.iload 4, 2) := by decide +kernel
theorem dMo_around_58 : decode bMo_around 58 = .ok (.iload_n 2, 1) := by decide +kernel
theorem dMo_around_59 : decode bMo_around 59 = .ok (.if_icmp .ge 8, 3) := by decide +kernel
theorem dMo_around_62 : decode bMo_around 62 = .ok (.iload 4, 2) := by decide +kernel
theorem dMo_around_64 : decode bMo_around 64 = .ok (.goto 19, 3) := by decide +kernel
theorem dMo_around_67 : decode bMo_around 67 = .ok (.iload_n 2, 1) := by decide +kernel
theorem dMo_around_68 : decode bMo_around 68 = .ok (.goto 15, 3) := by decide +kernel
theorem dMo_around_71 : decode bMo_around 71 = .ok (.iload 4, 2) := by decide +kernel
theorem dMo_around_73 : decode bMo_around 73 = .ok (.iload_n 2, 1) := by decide +kernel
theorem dMo_around_74 : decode bMo_around 74 = .ok (.if_icmp .le 8, 3) := by decide +kernel
theorem dMo_around_77 : decode bMo_around 77 = .ok (.iload 4, 2) := by decide +kernel
theorem dMo_around_79 : decode bMo_around 79 = .ok (.goto 4, 3) := by decide +kernel
theorem dMo_around_82 : decode bMo_around 82 = .ok (.iload_n 2, 1) := by decide +kernel
theorem dMo_around_83 : decode bMo_around 83 = .ok (.istore_n 2, 1) := by decide +kernel
theorem dMo_around_84 : decode bMo_around 84 = .ok (.iinc 3 1, 3) := by decide +kernel
theorem dMo_around_87 : decode bMo_around 87 = .ok (.goto (-52), 3) := by decide +kernel
theorem dMo_around_90 : decode bMo_around 90 = .ok (.iload_n 2, 1) := by decide +kernel
theorem dMo_around_91 : decode bMo_around 91 = .ok (.ireturn, 1) := by decide +kernel
abbrev wMo_around : List Cond := Cond.code yMo_around bMo_around 5 (some .int)   :: tbl
theorem kcMo_around : Cond.code yMo_around bMo_around 5 (some .int) ∈ tbl := tb3 232 (by decide +kernel) (by decide +kernel)
theorem kiMo_around : Cond.instanceMethod yMo_around ∈ tbl := tb3 230 (by decide +kernel) (by decide +kernel)
theorem ksMo_around : Cond.selects yMo_around.cls yMo_around yMo_around ∈ tbl := tb3 231 (by decide +kernel) (by decide +kernel)
theorem dMo_sound_0 : decode bMo_sound 0 = .ok (.aload_n 0, 1) := by decide +kernel
theorem dMo_sound_1 : decode bMo_sound 1 = .ok (.getfield 7, 3) := by decide +kernel
theorem dMo_sound_4 : decode bMo_sound 4 = .ok (.ireturn, 1) := by decide +kernel
abbrev wMo_sound : List Cond := Cond.code yMo_sound bMo_sound 1 (some .boolean)   :: tbl
theorem kcMo_sound : Cond.code yMo_sound bMo_sound 1 (some .boolean) ∈ tbl := tb3 237 (by decide +kernel) (by decide +kernel)
theorem kiMo_sound : Cond.instanceMethod yMo_sound ∈ tbl := tb3 235 (by decide +kernel) (by decide +kernel)
theorem ksMo_sound : Cond.selects yMo_sound.cls yMo_sound yMo_sound ∈ tbl := tb3 236 (by decide +kernel) (by decide +kernel)
theorem dMo_frugal_0 : decode bMo_frugal 0 = .ok (.iconst 1, 1) := by decide +kernel
theorem dMo_frugal_1 : decode bMo_frugal 1 = .ok (.ireturn, 1) := by decide +kernel
abbrev wMo_frugal : List Cond := Cond.code yMo_frugal bMo_frugal 1 (some .boolean)   :: tbl
theorem kcMo_frugal : Cond.code yMo_frugal bMo_frugal 1 (some .boolean) ∈ tbl := tb4 1 (by decide +kernel) (by decide +kernel)
theorem kiMo_frugal : Cond.instanceMethod yMo_frugal ∈ tbl := tb3 239 (by decide +kernel) (by decide +kernel)
theorem ksMo_frugal : Cond.selects yMo_frugal.cls yMo_frugal yMo_frugal ∈ tbl := tb4 0 (by decide +kernel) (by decide +kernel)
theorem kfMo_7 : Cond.fieldLink RMo 7 (TMo 0).1 (TMo 0).2.1 (TMo 0).2.2.1 ∈ tbl := tb3 104 (by decide +kernel) (by decide +kernel)
theorem kfMo_13 : Cond.fieldLink RMo 13 (TMo 1).1 (TMo 1).2.1 (TMo 1).2.2.1 ∈ tbl := tb3 105 (by decide +kernel) (by decide +kernel)
theorem kfMo_17 : Cond.fieldLink RMo 17 (TMo 3).1 (TMo 3).2.1 (TMo 3).2.2.1 ∈ tbl := tb3 107 (by decide +kernel) (by decide +kernel)
theorem kfMo_21 : Cond.constant RMo 21 (-1000000000) ∈ tbl := tb3 130 (by decide +kernel) (by decide +kernel)
theorem kfMo_22 : Cond.constant RMo 22 (1000000000) ∈ tbl := tb3 131 (by decide +kernel) (by decide +kernel)
theorem kfMo_38 : Cond.fieldLink RMo 38 (TMo 2).1 (TMo 2).2.1 (TMo 2).2.2.1 ∈ tbl := tb3 106 (by decide +kernel) (by decide +kernel)
theorem kfMo_79 : Cond.constantLong RMo 79 (-3) ∈ tbl := tb3 212 (by decide +kernel) (by decide +kernel)
theorem kfMo_84 : Cond.constantLong RMo 84 (-1) ∈ tbl := tb3 224 (by decide +kernel) (by decide +kernel)
theorem kfMo_86 : Cond.constant RMo 86 (2000000000) ∈ tbl := tb3 233 (by decide +kernel) (by decide +kernel)
