abbrev bTr_init : ByteArray := prog_6_method_1_code
def yTr_init : MethodName := ⟨RTr, "<init>", "()V"⟩
abbrev bTr_at : ByteArray := prog_6_method_2_code
def yTr_at : MethodName := ⟨RTr, "at", "(I)LBoxedPages$Page;"⟩
abbrev bTr_plant : ByteArray := prog_6_method_3_code
def yTr_plant : MethodName := ⟨RTr, "plant", "(LBoxedPages$Box;)V"⟩
abbrev bTr_uproot : ByteArray := prog_6_method_4_code
def yTr_uproot : MethodName := ⟨RTr, "uproot", "(LBoxedPages$Box;)Z"⟩
abbrev bTr_isWhole : ByteArray := prog_6_method_5_code
def yTr_isWhole : MethodName := ⟨RTr, "isWhole", "()Z"⟩
abbrev bTr_changedPages : ByteArray := prog_6_method_6_code
def yTr_changedPages : MethodName := ⟨RTr, "changedPages", "()I"⟩
abbrev bTr_isChanged : ByteArray := prog_6_method_7_code
def yTr_isChanged : MethodName := ⟨RTr, "isChanged", "(I)Z"⟩
abbrev bTr_markUnchanged : ByteArray := prog_6_method_8_code
def yTr_markUnchanged : MethodName := ⟨RTr, "markUnchanged", "()V"⟩
abbrev bTr_writePage : ByteArray := prog_6_method_9_code
def yTr_writePage : MethodName := ⟨RTr, "writePage", "(I[I)V"⟩
abbrev bTr_readFrom : ByteArray := prog_6_method_10_code
def yTr_readFrom : MethodName := ⟨RTr, "readFrom", "(LBoxedPages$Disk;)V"⟩
abbrev bTr_forget : ByteArray := prog_6_method_11_code
def yTr_forget : MethodName := ⟨RTr, "forget", "()V"⟩
abbrev bTr_writeHeader : ByteArray := prog_6_method_12_code
def yTr_writeHeader : MethodName := ⟨RTr, "writeHeader", "(II)V"⟩
abbrev bTr_lowestDepth : ByteArray := prog_6_method_13_code
def yTr_lowestDepth : MethodName := ⟨RTr, "lowestDepth", "()I"⟩
abbrev bTr_descend : ByteArray := prog_6_method_14_code
def yTr_descend : MethodName := ⟨RTr, "descend", "(LBoxedPages$Box;)I"⟩
abbrev bTr_seek : ByteArray := prog_6_method_15_code
def yTr_seek : MethodName := ⟨RTr, "seek", "(LBoxedPages$Tree;LBoxedPages$Box;II)Z"⟩
abbrev bTr_climb : ByteArray := prog_6_method_16_code
def yTr_climb : MethodName := ⟨RTr, "climb", "(I)V"⟩
abbrev bTr_mend : ByteArray := prog_6_method_17_code
def yTr_mend : MethodName := ⟨RTr, "mend", "(LBoxedPages$Page;I)V"⟩
abbrev bTr_tellFrame : ByteArray := prog_6_method_18_code
def yTr_tellFrame : MethodName := ⟨RTr, "tellFrame", "(LBoxedPages$Page;I)V"⟩
abbrev bTr_hang : ByteArray := prog_6_method_19_code
def yTr_hang : MethodName := ⟨RTr, "hang", "(LBoxedPages$Page;I)V"⟩
abbrev bTr_merge : ByteArray := prog_6_method_20_code
def yTr_merge : MethodName := ⟨RTr, "merge", "(LBoxedPages$Page;II)V"⟩
abbrev bTr_moveOut : ByteArray := prog_6_method_21_code
def yTr_moveOut : MethodName := ⟨RTr, "moveOut", "(LBoxedPages$Page;ILBoxedPages$Page;)V"⟩
abbrev bTr_bestDivision : ByteArray := prog_6_method_22_code
def yTr_bestDivision : MethodName := ⟨RTr, "bestDivision", "(LBoxedPages$Page;)I"⟩
abbrev bTr_openPage : ByteArray := prog_6_method_23_code
def yTr_openPage : MethodName := ⟨RTr, "openPage", "(I)I"⟩
abbrev bTr_entriesBelow : ByteArray := prog_6_method_24_code
def yTr_entriesBelow : MethodName := ⟨RTr, "entriesBelow", "(LBoxedPages$Tree;II)I"⟩
theorem dTr_init_0 : decode bTr_init 0 = .ok (.aload_n 0, 1) := by decide +kernel
theorem dTr_init_1 : decode bTr_init 1 = .ok (.invokespecial 3, 3) := by decide +kernel
theorem dTr_init_4 : decode bTr_init 4 = .ok (.aload_n 0, 1) := by decide +kernel
theorem dTr_init_5 : decode bTr_init 5 = .ok (.bipush 40, 2) := by decide +kernel
theorem dTr_init_7 : decode bTr_init 7 = .ok (.anewarray 9, 3) := by decide +kernel
theorem dTr_init_10 : decode bTr_init 10 = .ok (.putfield 11, 3) := by decide +kernel
theorem dTr_init_13 : decode bTr_init 13 = .ok (.aload_n 0, 1) := by decide +kernel
theorem dTr_init_14 : decode bTr_init 14 = .ok (.iconst 4, 1) := by decide +kernel
theorem dTr_init_15 : decode bTr_init 15 = .ok (.newarray .int, 2) := by decide +kernel
theorem dTr_init_17 : decode bTr_init 17 = .ok (.putfield 17, 3) := by decide +kernel
theorem dTr_init_20 : decode bTr_init 20 = .ok (.aload_n 0, 1) := by decide +kernel
theorem dTr_init_21 : decode bTr_init 21 = .ok (.iconst 4, 1) := by decide +kernel
theorem dTr_init_22 : decode bTr_init 22 = .ok (.newarray .int, 2) := by decide +kernel
theorem dTr_init_24 : decode bTr_init 24 = .ok (.putfield 21, 3) := by decide +kernel
theorem dTr_init_27 : decode bTr_init 27 = .ok (.aload_n 0, 1) := by decide +kernel
theorem dTr_init_28 : decode bTr_init 28 = .ok (.new 24, 3) := by decide +kernel
theorem dTr_init_31 : decode bTr_init 31 = .ok (.dup, 1) := by decide +kernel
theorem dTr_init_32 : decode bTr_init 32 = .ok (.invokespecial 26, 3) := by decide +kernel
theorem dTr_init_35 : decode bTr_init 35 = .ok (.putfield 27, 3) := by decide +kernel
theorem dTr_init_38 : decode bTr_init 38 = .ok (.aload_n 0, 1) := by decide +kernel
theorem dTr_init_39 : decode bTr_init 39 = .ok (.new 24, 3) := by decide +kernel
theorem dTr_init_42 : decode bTr_init 42 = .ok (.dup, 1) := by decide +kernel
theorem dTr_init_43 : decode bTr_init 43 = .ok (.invokespecial 26, 3) := by decide +kernel
theorem dTr_init_46 : decode bTr_init 46 = .ok (.putfield 31, 3) := by decide +kernel
theorem dTr_init_49 : decode bTr_init 49 = .ok (.iconst 0, 1) := by decide +kernel
theorem dTr_init_50 : decode bTr_init 50 = .ok (.istore_n 1, 1) := by decide +kernel
theorem dTr_init_51 : decode bTr_init 51 = .ok (.iload_n 1, 1) := by decide +kernel
theorem dTr_init_52 : decode bTr_init 52 = .ok (.bipush 40, 2) := by decide +kernel
theorem dTr_init_54 : decode bTr_init 54 = .ok (.if_icmp .ge 22, 3) := by decide +kernel
theorem dTr_init_57 : decode bTr_init 57 = .ok (.aload_n 0, 1) := by decide +kernel
theorem dTr_init_58 : decode bTr_init 58 = .ok (.getfield 11, 3) := by decide +kernel
theorem dTr_init_61 : decode bTr_init 61 = .ok (.iload_n 1, 1) := by decide +kernel
theorem dTr_init_62 : decode bTr_init 62 = .ok (.new 9, 3) := by decide +kernel
theorem dTr_init_65 : decode bTr_init 65 = .ok (.dup, 1) := by decide +kernel
theorem dTr_init_66 : decode bTr_init 66 = .ok (.invokespecial 34, 3) := by decide +kernel
theorem dTr_init_69 : decode bTr_init 69 = .ok (.aastore, 1) := by decide +kernel
theorem dTr_init_70 : decode bTr_init 70 = .ok (.iinc 1 1, 3) := by decide +kernel
theorem dTr_init_73 : decode bTr_init 73 = .ok (.goto (-22), 3) := by decide +kernel
theorem dTr_init_76 : decode bTr_init 76 = .ok (.aload_n 0, 1) := by decide +kernel
theorem dTr_init_77 : decode bTr_init 77 = .ok (.getfield 11, 3) := by decide +kernel
theorem dTr_init_80 : decode bTr_init 80 = .ok (.iconst 1, 1) := by decide +kernel
theorem dTr_init_81 : decode bTr_init 81 = .ok (.aaload, 1) := by decide +kernel
theorem dTr_init_82 : decode bTr_init 82 = .ok (.iconst 1, 1) := by decide +kernel
theorem dTr_init_83 : decode bTr_init 83 = .ok (.putfield 35, 3) := by decide +kernel
theorem dTr_init_86 : decode bTr_init 86 = .ok (.aload_n 0, 1) := by decide +kernel
theorem dTr_init_87 : decode bTr_init 87 = .ok (.iconst 1, 1) := by decide +kernel
theorem dTr_init_88 : decode bTr_init 88 = .ok (.putfield 39, 3) := by decide +kernel
theorem dTr_init_91 : decode bTr_init 91 = .ok (.return_, 1) := by decide +kernel
abbrev wTr_init : List Cond := Cond.code yTr_init bTr_init 2 none   :: tbl
theorem kcTr_init : Cond.code yTr_init bTr_init 2 none ∈ tbl := tb1 49 (by decide +kernel) (by decide +kernel)
theorem kiTr_init : Cond.instanceMethod yTr_init ∈ tbl := tb1 48 (by decide +kernel) (by decide +kernel)
theorem dTr_at_0 : decode bTr_at 0 = .ok (.aload_n 0, 1) := by decide +kernel
theorem dTr_at_1 : decode bTr_at 1 = .ok (.getfield 11, 3) := by decide +kernel
theorem dTr_at_4 : decode bTr_at 4 = .ok (.iload_n 1, 1) := by decide +kernel
theorem dTr_at_5 : decode bTr_at 5 = .ok (.ifCond .le 13, 3) := by decide +kernel
theorem dTr_at_8 : decode bTr_at 8 = .ok (.iload_n 1, 1) := by decide +kernel
theorem dTr_at_9 : decode bTr_at 9 = .ok (.bipush 40, 2) := by decide +kernel
theorem dTr_at_11 : decode bTr_at 11 = .ok (.if_icmp .ge 7, 3) := by decide +kernel
theorem dTr_at_14 : decode bTr_at 14 = .ok (.iload_n 1, 1) := by decide +kernel
theorem dTr_at_15 : decode bTr_at 15 = .ok (.goto 4, 3) := by decide +kernel
theorem dTr_at_18 : decode bTr_at 18 = .ok (.iconst 0, 1) := by decide +kernel
theorem dTr_at_19 : decode bTr_at 19 = .ok (.aaload, 1) := by decide +kernel
theorem dTr_at_20 : decode bTr_at 20 = .ok (.areturn, 1) := by decide +kernel
abbrev wTr_at : List Cond := Cond.code yTr_at bTr_at 2 (some (.object "BoxedPages$Page"))   :: tbl
theorem kcTr_at : Cond.code yTr_at bTr_at 2 (some (.object "BoxedPages$Page")) ∈ tbl := tb2 5 (by decide +kernel) (by decide +kernel)
theorem kiTr_at : Cond.instanceMethod yTr_at ∈ tbl := tb2 3 (by decide +kernel) (by decide +kernel)
theorem ksTr_at : Cond.selects yTr_at.cls yTr_at yTr_at ∈ tbl := tb2 4 (by decide +kernel) (by decide +kernel)
theorem dTr_plant_0 : decode bTr_plant 0 = .ok (.aload_n 0, 1) := by decide +kernel
theorem dTr_plant_1 : decode bTr_plant 1 = .ok (.aload_n 1, 1) := by decide +kernel
theorem dTr_plant_2 : decode bTr_plant 2 = .ok (.invokevirtual 42, 3) := by decide +kernel
theorem dTr_plant_5 : decode bTr_plant 5 = .ok (.istore_n 2, 1) := by decide +kernel
theorem dTr_plant_6 : decode bTr_plant 6 = .ok (.aload_n 0, 1) := by decide +kernel
theorem dTr_plant_7 : decode bTr_plant 7 = .ok (.aload_n 0, 1) := by decide +kernel
theorem dTr_plant_8 : decode bTr_plant 8 = .ok (.getfield 17, 3) := by decide +kernel
theorem dTr_plant_11 : decode bTr_plant 11 = .ok (.iload_n 2, 1) := by decide +kernel
theorem dTr_plant_12 : decode bTr_plant 12 = .ok (.iaload, 1) := by decide +kernel
theorem dTr_plant_13 : decode bTr_plant 13 = .ok (.invokevirtual 46, 3) := by decide +kernel
theorem dTr_plant_16 : decode bTr_plant 16 = .ok (.aload_n 1, 1) := by decide +kernel
theorem dTr_plant_17 : decode bTr_plant 17 = .ok (.invokevirtual 50, 3) := by decide +kernel
theorem dTr_plant_20 : decode bTr_plant 20 = .ok (.aload_n 0, 1) := by decide +kernel
theorem dTr_plant_21 : decode bTr_plant 21 = .ok (.aload_n 0, 1) := by decide +kernel
theorem dTr_plant_22 : decode bTr_plant 22 = .ok (.getfield 39, 3) := by decide +kernel
theorem dTr_plant_25 : decode bTr_plant 25 = .ok (.aload_n 0, 1) := by decide +kernel
theorem dTr_plant_26 : decode bTr_plant 26 = .ok (.getfield 54, 3) := by decide +kernel
theorem dTr_plant_29 : decode bTr_plant 29 = .ok (.iconst 1, 1) := by decide +kernel
theorem dTr_plant_30 : decode bTr_plant 30 = .ok (.iadd, 1) := by decide +kernel
theorem dTr_plant_31 : decode bTr_plant 31 = .ok (.invokevirtual 57, 3) := by decide +kernel
theorem dTr_plant_34 : decode bTr_plant 34 = .ok (.aload_n 0, 1) := by decide +kernel
theorem dTr_plant_35 : decode bTr_plant 35 = .ok (.iload_n 2, 1) := by decide +kernel
theorem dTr_plant_36 : decode bTr_plant 36 = .ok (.invokevirtual 61, 3) := by decide +kernel
theorem dTr_plant_39 : decode bTr_plant 39 = .ok (.return_, 1) := by decide +kernel
abbrev wTr_plant : List Cond := Cond.code yTr_plant bTr_plant 3 none   :: tbl
theorem kcTr_plant : Cond.code yTr_plant bTr_plant 3 none ∈ tbl := tb1 233 (by decide +kernel) (by decide +kernel)
theorem kiTr_plant : Cond.instanceMethod yTr_plant ∈ tbl := tb1 231 (by decide +kernel) (by decide +kernel)
theorem ksTr_plant : Cond.selects yTr_plant.cls yTr_plant yTr_plant ∈ tbl := tb1 232 (by decide +kernel) (by decide +kernel)
theorem dTr_uproot_0 : decode bTr_uproot 0 = .ok (.aload_n 0, 1) := by decide +kernel
theorem dTr_uproot_1 : decode bTr_uproot 1 = .ok (.aload_n 1, 1) := by decide +kernel
theorem dTr_uproot_2 : decode bTr_uproot 2 = .ok (.aload_n 0, 1) := by decide +kernel
theorem dTr_uproot_3 : decode bTr_uproot 3 = .ok (.getfield 39, 3) := by decide +kernel
theorem dTr_uproot_6 : decode bTr_uproot 6 = .ok (.iconst 0, 1) := by decide +kernel
theorem dTr_uproot_7 : decode bTr_uproot 7 = .ok (.invokestatic 65, 3) := by decide +kernel
theorem dTr_uproot_10 : decode bTr_uproot 10 = .ok (.ifCond .ne 5, 3) := by decide +kernel
theorem dTr_uproot_13 : decode bTr_uproot 13 = .ok (.iconst 0, 1) := by decide +kernel
theorem dTr_uproot_14 : decode bTr_uproot 14 = .ok (.ireturn, 1) := by decide +kernel
theorem dTr_uproot_15 : decode bTr_uproot 15 = .ok (.aload_n 0, 1) := by decide +kernel
theorem dTr_uproot_16 : decode bTr_uproot 16 = .ok (.invokevirtual 69, 3) := by decide +kernel
theorem dTr_uproot_19 : decode bTr_uproot 19 = .ok (.istore_n 2, 1) := by decide +kernel
theorem dTr_uproot_20 : decode bTr_uproot 20 = .ok (.aload_n 0, 1) := by decide +kernel
theorem dTr_uproot_21 : decode bTr_uproot 21 = .ok (.aload_n 0, 1) := by decide +kernel
theorem dTr_uproot_22 : decode bTr_uproot 22 = .ok (.getfield 17, 3) := by decide +kernel
theorem dTr_uproot_25 : decode bTr_uproot 25 = .ok (.iload_n 2, 1) := by decide +kernel
theorem dTr_uproot_26 : decode bTr_uproot 26 = .ok (.iaload, 1) := by decide +kernel
theorem dTr_uproot_27 : decode bTr_uproot 27 = .ok (.invokevirtual 46, 3) := by decide +kernel
theorem dTr_uproot_30 : decode bTr_uproot 30 = .ok (.aload_n 0, 1) := by decide +kernel
theorem dTr_uproot_31 : decode bTr_uproot 31 = .ok (.getfield 21, 3) := by decide +kernel
theorem dTr_uproot_34 : decode bTr_uproot 34 = .ok (.iload_n 2, 1) := by decide +kernel
theorem dTr_uproot_35 : decode bTr_uproot 35 = .ok (.iaload, 1) := by decide +kernel
theorem dTr_uproot_36 : decode bTr_uproot 36 = .ok (.invokevirtual 73, 3) := by decide +kernel
theorem dTr_uproot_39 : decode bTr_uproot 39 = .ok (.aload_n 0, 1) := by decide +kernel
theorem dTr_uproot_40 : decode bTr_uproot 40 = .ok (.aload_n 0, 1) := by decide +kernel
theorem dTr_uproot_41 : decode bTr_uproot 41 = .ok (.getfield 39, 3) := by decide +kernel
theorem dTr_uproot_44 : decode bTr_uproot 44 = .ok (.aload_n 0, 1) := by decide +kernel
theorem dTr_uproot_45 : decode bTr_uproot 45 = .ok (.getfield 54, 3) := by decide +kernel
theorem dTr_uproot_48 : decode bTr_uproot 48 = .ok (.iconst 1, 1) := by decide +kernel
theorem dTr_uproot_49 : decode bTr_uproot 49 = .ok (.isub, 1) := by decide +kernel
theorem dTr_uproot_50 : decode bTr_uproot 50 = .ok (.invokevirtual 57, 3) := by decide +kernel
theorem dTr_uproot_53 : decode bTr_uproot 53 = .ok (.aload_n 0, 1) := by decide +kernel
theorem dTr_uproot_54 : decode bTr_uproot 54 = .ok (.iload_n 2, 1) := by decide +kernel
theorem dTr_uproot_55 : decode bTr_uproot 55 = .ok (.invokevirtual 61, 3) := by decide +kernel
theorem dTr_uproot_58 : decode bTr_uproot 58 = .ok (.iconst 1, 1) := by decide +kernel
theorem dTr_uproot_59 : decode bTr_uproot 59 = .ok (.ireturn, 1) := by decide +kernel
abbrev wTr_uproot : List Cond := Cond.code yTr_uproot bTr_uproot 3 (some .boolean)   :: tbl
theorem kcTr_uproot : Cond.code yTr_uproot bTr_uproot 3 (some .boolean) ∈ tbl := tb2 174 (by decide +kernel) (by decide +kernel)
theorem kiTr_uproot : Cond.instanceMethod yTr_uproot ∈ tbl := tb2 172 (by decide +kernel) (by decide +kernel)
theorem ksTr_uproot : Cond.selects yTr_uproot.cls yTr_uproot yTr_uproot ∈ tbl := tb2 173 (by decide +kernel) (by decide +kernel)
theorem dTr_isWhole_0 : decode bTr_isWhole 0 = .ok (.aload_n 0, 1) := by decide +kernel
theorem dTr_isWhole_1 : decode bTr_isWhole 1 = .ok (.aload_n 0, 1) := by decide +kernel
theorem dTr_isWhole_2 : decode bTr_isWhole 2 = .ok (.getfield 39, 3) := by decide +kernel
theorem dTr_isWhole_5 : decode bTr_isWhole 5 = .ok (.invokevirtual 46, 3) := by decide +kernel
theorem dTr_isWhole_8 : decode bTr_isWhole 8 = .ok (.getfield 35, 3) := by decide +kernel
theorem dTr_isWhole_11 : decode bTr_isWhole 11 = .ok (.istore_n 1, 1) := by decide +kernel
theorem dTr_isWhole_12 : decode bTr_isWhole 12 = .ok (.iload_n 1, 1) := by decide +kernel
theorem dTr_isWhole_13 : decode bTr_isWhole 13 = .ok (.iconst 1, 1) := by decide +kernel
theorem dTr_isWhole_14 : decode bTr_isWhole 14 = .ok (.if_icmp .lt 28, 3) := by decide +kernel
theorem dTr_isWhole_17 : decode bTr_isWhole 17 = .ok (.iload_n 1, 1) := by decide +kernel
theorem dTr_isWhole_18 : decode bTr_isWhole 18 = .ok (.iconst 4, 1) := by decide +kernel
theorem dTr_isWhole_19 : decode bTr_isWhole 19 = .ok (.if_icmp .gt 23, 3) := by decide +kernel
theorem dTr_isWhole_22 : decode bTr_isWhole 22 = .ok (.aload_n 0, 1) := by decide +kernel
theorem dTr_isWhole_23 : decode bTr_isWhole 23 = .ok (.aload_n 0, 1) := by decide +kernel
theorem dTr_isWhole_24 : decode bTr_isWhole 24 = .ok (.getfield 39, 3) := by decide +kernel
theorem dTr_isWhole_27 : decode bTr_isWhole 27 = .ok (.iload_n 1, 1) := by decide +kernel
theorem dTr_isWhole_28 : decode bTr_isWhole 28 = .ok (.invokestatic 76, 3) := by decide +kernel
theorem dTr_isWhole_31 : decode bTr_isWhole 31 = .ok (.aload_n 0, 1) := by decide +kernel
theorem dTr_isWhole_32 : decode bTr_isWhole 32 = .ok (.getfield 54, 3) := by decide +kernel
theorem dTr_isWhole_35 : decode bTr_isWhole 35 = .ok (.if_icmp .ne 7, 3) := by decide +kernel
theorem dTr_isWhole_38 : decode bTr_isWhole 38 = .ok (.iconst 1, 1) := by decide +kernel
theorem dTr_isWhole_39 : decode bTr_isWhole 39 = .ok (.goto 4, 3) := by decide +kernel
theorem dTr_isWhole_42 : decode bTr_isWhole 42 = .ok (.iconst 0, 1) := by decide +kernel
theorem dTr_isWhole_43 : decode bTr_isWhole 43 = .ok (.ireturn, 1) := by decide +kernel
abbrev wTr_isWhole : List Cond := Cond.code yTr_isWhole bTr_isWhole 2 (some .boolean)   :: tbl
theorem kcTr_isWhole : Cond.code yTr_isWhole bTr_isWhole 2 (some .boolean) ∈ tbl := tb3 90 (by decide +kernel) (by decide +kernel)
theorem kiTr_isWhole : Cond.instanceMethod yTr_isWhole ∈ tbl := tb3 88 (by decide +kernel) (by decide +kernel)
theorem ksTr_isWhole : Cond.selects yTr_isWhole.cls yTr_isWhole yTr_isWhole ∈ tbl := tb3 89 (by decide +kernel) (by decide +kernel)
theorem dTr_changedPages_0 : decode bTr_changedPages 0 = .ok (.iconst 0, 1) := by decide +kernel
theorem dTr_changedPages_1 : decode bTr_changedPages 1 = .ok (.istore_n 1, 1) := by decide +kernel
theorem dTr_changedPages_2 : decode bTr_changedPages 2 = .ok (.iconst 0, 1) := by decide +kernel
theorem dTr_changedPages_3 : decode bTr_changedPages 3 = .ok (.istore_n 2, 1) := by decide +kernel
theorem dTr_changedPages_4 : decode bTr_changedPages 4 = .ok (.iload_n 2, 1) := by decide +kernel
theorem dTr_changedPages_5 : decode bTr_changedPages 5 = .ok (.bipush 40, 2) := by decide +kernel
theorem dTr_changedPages_7 : decode bTr_changedPages 7 = .ok (.if_icmp .ge 25, 3) := by decide +kernel
theorem dTr_changedPages_10 : decode bTr_changedPages 10 = .ok (.iload_n 1, 1) := by decide +kernel
theorem dTr_changedPages_11 : decode bTr_changedPages 11 = .ok (.aload_n 0, 1) := by decide +kernel
theorem dTr_changedPages_12 : decode bTr_changedPages 12 = .ok (.iload_n 2, 1) := by decide +kernel
theorem dTr_changedPages_13 : decode bTr_changedPages 13 = .ok (.invokevirtual 80, 3) := by decide +kernel
theorem dTr_changedPages_16 : decode bTr_changedPages 16 = .ok (.ifCond .eq 7, 3) := by decide +kernel
theorem dTr_changedPages_19 : decode bTr_changedPages 19 = .ok (.iconst 1, 1) := by decide +kernel
theorem dTr_changedPages_20 : decode bTr_changedPages 20 = .ok (.goto 4, 3) := by decide +kernel
theorem dTr_changedPages_23 : decode bTr_changedPages 23 = .ok (.iconst 0, 1) := by decide +kernel
theorem dTr_changedPages_24 : decode bTr_changedPages 24 = .ok (.iadd, 1) := by decide +kernel
theorem dTr_changedPages_25 : decode bTr_changedPages 25 = .ok (.istore_n 1, 1) := by decide +kernel
theorem dTr_changedPages_26 : decode bTr_changedPages 26 = .ok (.iinc 2 1, 3) := by decide +kernel
theorem dTr_changedPages_29 : decode bTr_changedPages 29 = .ok (.goto (-25), 3) := by decide +kernel
theorem dTr_changedPages_32 : decode bTr_changedPages 32 = .ok (.iload_n 1, 1) := by decide +kernel
theorem dTr_changedPages_33 : decode bTr_changedPages 33 = .ok (.ireturn, 1) := by decide +kernel
abbrev wTr_changedPages : List Cond := Cond.code yTr_changedPages bTr_changedPages 3 (some .int)   :: tbl
theorem kcTr_changedPages : Cond.code yTr_changedPages bTr_changedPages 3 (some .int) ∈ tbl := tb2 125 (by decide +kernel) (by decide +kernel)
theorem kiTr_changedPages : Cond.instanceMethod yTr_changedPages ∈ tbl := tb2 123 (by decide +kernel) (by decide +kernel)
theorem ksTr_changedPages : Cond.selects yTr_changedPages.cls yTr_changedPages yTr_changedPages ∈ tbl := tb2 124 (by decide +kernel) (by decide +kernel)
theorem dTr_isChanged_0 : decode bTr_isChanged 0 = .ok (.iload_n 1, 1) := by decide +kernel
theorem dTr_isChanged_1 : decode bTr_isChanged 1 = .ok (.ifCond .ne 10, 3) := by decide +kernel
theorem dTr_isChanged_4 : decode bTr_isChanged 4 = .ok (.aload_n 0, 1) := by decide +kernel
theorem dTr_isChanged_5 : decode bTr_isChanged 5 = .ok (.getfield 84, 3) := by decide +kernel
theorem dTr_isChanged_8 : decode bTr_isChanged 8 = .ok (.goto 11, 3) := by decide +kernel
theorem dTr_isChanged_11 : decode bTr_isChanged 11 = .ok (.aload_n 0, 1) := by decide +kernel
theorem dTr_isChanged_12 : decode bTr_isChanged 12 = .ok (.iload_n 1, 1) := by decide +kernel
theorem dTr_isChanged_13 : decode bTr_isChanged 13 = .ok (.invokevirtual 46, 3) := by decide +kernel
theorem dTr_isChanged_16 : decode bTr_isChanged 16 = .ok (.getfield 88, 3) := by decide +kernel
theorem dTr_isChanged_19 : decode bTr_isChanged 19 = .ok (.ireturn, 1) := by decide +kernel
abbrev wTr_isChanged : List Cond := Cond.code yTr_isChanged bTr_isChanged 2 (some .boolean)   :: tbl
theorem kcTr_isChanged : Cond.code yTr_isChanged bTr_isChanged 2 (some .boolean) ∈ tbl := tb2 129 (by decide +kernel) (by decide +kernel)
theorem kiTr_isChanged : Cond.instanceMethod yTr_isChanged ∈ tbl := tb2 127 (by decide +kernel) (by decide +kernel)
theorem ksTr_isChanged : Cond.selects yTr_isChanged.cls yTr_isChanged yTr_isChanged ∈ tbl := tb2 128 (by decide +kernel) (by decide +kernel)
theorem dTr_markUnchanged_0 : decode bTr_markUnchanged 0 = .ok (.aload_n 0, 1) := by decide +kernel
theorem dTr_markUnchanged_1 : decode bTr_markUnchanged 1 = .ok (.iconst 0, 1) := by decide +kernel
theorem dTr_markUnchanged_2 : decode bTr_markUnchanged 2 = .ok (.putfield 84, 3) := by decide +kernel
theorem dTr_markUnchanged_5 : decode bTr_markUnchanged 5 = .ok (.iconst 0, 1) := by decide +kernel
theorem dTr_markUnchanged_6 : decode bTr_markUnchanged 6 = .ok (.istore_n 1, 1) := by decide +kernel
theorem dTr_markUnchanged_7 : decode bTr_markUnchanged 7 = .ok (.iload_n 1, 1) := by decide +kernel
theorem dTr_markUnchanged_8 : decode bTr_markUnchanged 8 = .ok (.bipush 40, 2) := by decide +kernel
theorem dTr_markUnchanged_10 : decode bTr_markUnchanged 10 = .ok (.if_icmp .ge 19, 3) := by decide +kernel
theorem dTr_markUnchanged_13 : decode bTr_markUnchanged 13 = .ok (.aload_n 0, 1) := by decide +kernel
theorem dTr_markUnchanged_14 : decode bTr_markUnchanged 14 = .ok (.getfield 11, 3) := by decide +kernel
theorem dTr_markUnchanged_17 : decode bTr_markUnchanged 17 = .ok (.iload_n 1, 1) := by decide +kernel
theorem dTr_markUnchanged_18 : decode bTr_markUnchanged 18 = .ok (.aaload, 1) := by decide +kernel
theorem dTr_markUnchanged_19 : decode bTr_markUnchanged 19 = .ok (.iconst 0, 1) := by decide +kernel
theorem dTr_markUnchanged_20 : decode bTr_markUnchanged 20 = .ok (.putfield 88, 3) := by decide +kernel
theorem dTr_markUnchanged_23 : decode bTr_markUnchanged 23 = .ok (.iinc 1 1, 3) := by decide +kernel
theorem dTr_markUnchanged_26 : decode bTr_markUnchanged 26 = .ok (.goto (-19), 3) := by decide +kernel
theorem dTr_markUnchanged_29 : decode bTr_markUnchanged 29 = .ok (.return_, 1) := by decide +kernel
abbrev wTr_markUnchanged : List Cond := Cond.code yTr_markUnchanged bTr_markUnchanged 2 none   :: tbl
theorem kcTr_markUnchanged : Cond.code yTr_markUnchanged bTr_markUnchanged 2 none ∈ tbl := tb2 157 (by decide +kernel) (by decide +kernel)
theorem kiTr_markUnchanged : Cond.instanceMethod yTr_markUnchanged ∈ tbl := tb2 155 (by decide +kernel) (by decide +kernel)
theorem ksTr_markUnchanged : Cond.selects yTr_markUnchanged.cls yTr_markUnchanged yTr_markUnchanged ∈ tbl := tb2 156 (by decide +kernel) (by decide +kernel)
theorem dTr_writePage_0 : decode bTr_writePage 0 = .ok (.iload_n 1, 1) := by decide +kernel
theorem dTr_writePage_1 : decode bTr_writePage 1 = .ok (.ifCond .ne 20, 3) := by decide +kernel
theorem dTr_writePage_4 : decode bTr_writePage 4 = .ok (.aload_n 2, 1) := by decide +kernel
theorem dTr_writePage_5 : decode bTr_writePage 5 = .ok (.iconst 0, 1) := by decide +kernel
theorem dTr_writePage_6 : decode bTr_writePage 6 = .ok (.aload_n 0, 1) := by decide +kernel
theorem dTr_writePage_7 : decode bTr_writePage 7 = .ok (.getfield 39, 3) := by decide +kernel
theorem dTr_writePage_10 : decode bTr_writePage 10 = .ok (.iastore, 1) := by decide +kernel
theorem dTr_writePage_11 : decode bTr_writePage 11 = .ok (.aload_n 2, 1) := by decide +kernel
theorem dTr_writePage_12 : decode bTr_writePage 12 = .ok (.iconst 1, 1) := by decide +kernel
theorem dTr_writePage_13 : decode bTr_writePage 13 = .ok (.aload_n 0, 1) := by decide +kernel
theorem dTr_writePage_14 : decode bTr_writePage 14 = .ok (.getfield 54, 3) := by decide +kernel
theorem dTr_writePage_17 : decode bTr_writePage 17 = .ok (.iastore, 1) := by decide +kernel
theorem dTr_writePage_18 : decode bTr_writePage 18 = .ok (.goto 12, 3) := by decide +kernel
theorem dTr_writePage_21 : decode bTr_writePage 21 = .ok (.aload_n 0, 1) := by decide +kernel
theorem dTr_writePage_22 : decode bTr_writePage 22 = .ok (.iload_n 1, 1) := by decide +kernel
theorem dTr_writePage_23 : decode bTr_writePage 23 = .ok (.invokevirtual 46, 3) := by decide +kernel
theorem dTr_writePage_26 : decode bTr_writePage 26 = .ok (.aload_n 2, 1) := by decide +kernel
theorem dTr_writePage_27 : decode bTr_writePage 27 = .ok (.invokevirtual 91, 3) := by decide +kernel
theorem dTr_writePage_30 : decode bTr_writePage 30 = .ok (.return_, 1) := by decide +kernel
abbrev wTr_writePage : List Cond := Cond.code yTr_writePage bTr_writePage 3 none   :: tbl
theorem kcTr_writePage : Cond.code yTr_writePage bTr_writePage 3 none ∈ tbl := tb2 138 (by decide +kernel) (by decide +kernel)
theorem kiTr_writePage : Cond.instanceMethod yTr_writePage ∈ tbl := tb2 136 (by decide +kernel) (by decide +kernel)
theorem ksTr_writePage : Cond.selects yTr_writePage.cls yTr_writePage yTr_writePage ∈ tbl := tb2 137 (by decide +kernel) (by decide +kernel)
theorem dTr_readFrom_0 : decode bTr_readFrom 0 = .ok (.aload_n 0, 1) := by decide +kernel
theorem dTr_readFrom_1 : decode bTr_readFrom 1 = .ok (.aload_n 1, 1) := by decide +kernel
theorem dTr_readFrom_2 : decode bTr_readFrom 2 = .ok (.getfield 95, 3) := by decide +kernel
theorem dTr_readFrom_5 : decode bTr_readFrom 5 = .ok (.iconst 0, 1) := by decide +kernel
theorem dTr_readFrom_6 : decode bTr_readFrom 6 = .ok (.aaload, 1) := by decide +kernel
theorem dTr_readFrom_7 : decode bTr_readFrom 7 = .ok (.iconst 0, 1) := by decide +kernel
theorem dTr_readFrom_8 : decode bTr_readFrom 8 = .ok (.iaload, 1) := by decide +kernel
theorem dTr_readFrom_9 : decode bTr_readFrom 9 = .ok (.putfield 39, 3) := by decide +kernel
theorem dTr_readFrom_12 : decode bTr_readFrom 12 = .ok (.aload_n 0, 1) := by decide +kernel
theorem dTr_readFrom_13 : decode bTr_readFrom 13 = .ok (.aload_n 1, 1) := by decide +kernel
theorem dTr_readFrom_14 : decode bTr_readFrom 14 = .ok (.getfield 95, 3) := by decide +kernel
theorem dTr_readFrom_17 : decode bTr_readFrom 17 = .ok (.iconst 0, 1) := by decide +kernel
theorem dTr_readFrom_18 : decode bTr_readFrom 18 = .ok (.aaload, 1) := by decide +kernel
theorem dTr_readFrom_19 : decode bTr_readFrom 19 = .ok (.iconst 1, 1) := by decide +kernel
theorem dTr_readFrom_20 : decode bTr_readFrom 20 = .ok (.iaload, 1) := by decide +kernel
theorem dTr_readFrom_21 : decode bTr_readFrom 21 = .ok (.putfield 54, 3) := by decide +kernel
theorem dTr_readFrom_24 : decode bTr_readFrom 24 = .ok (.aload_n 0, 1) := by decide +kernel
theorem dTr_readFrom_25 : decode bTr_readFrom 25 = .ok (.iconst 0, 1) := by decide +kernel
theorem dTr_readFrom_26 : decode bTr_readFrom 26 = .ok (.putfield 84, 3) := by decide +kernel
theorem dTr_readFrom_29 : decode bTr_readFrom 29 = .ok (.iconst 1, 1) := by decide +kernel
theorem dTr_readFrom_30 : decode bTr_readFrom 30 = .ok (.istore_n 2, 1) := by decide +kernel
theorem dTr_readFrom_31 : decode bTr_readFrom 31 = .ok (.iload_n 2, 1) := by decide +kernel
theorem dTr_readFrom_32 : decode bTr_readFrom 32 = .ok (.bipush 40, 2) := by decide +kernel
theorem dTr_readFrom_34 : decode bTr_readFrom 34 = .ok (.if_icmp .ge 24, 3) := by decide +kernel
theorem dTr_readFrom_37 : decode bTr_readFrom 37 = .ok (.aload_n 0, 1) := by decide +kernel
theorem dTr_readFrom_38 : decode bTr_readFrom 38 = .ok (.getfield 11, 3) := by decide +kernel
theorem dTr_readFrom_41 : decode bTr_readFrom 41 = .ok (.iload_n 2, 1) := by decide +kernel
theorem dTr_readFrom_42 : decode bTr_readFrom 42 = .ok (.aaload, 1) := by decide +kernel
theorem dTr_readFrom_43 : decode bTr_readFrom 43 = .ok (.aload_n 1, 1) := by decide +kernel
theorem dTr_readFrom_44 : decode bTr_readFrom 44 = .ok (.getfield 95, 3) := by decide +kernel
theorem dTr_readFrom_47 : decode bTr_readFrom 47 = .ok (.iload_n 2, 1) := by decide +kernel
theorem dTr_readFrom_48 : decode bTr_readFrom 48 = .ok (.aaload, 1) := by decide +kernel
theorem dTr_readFrom_49 : decode bTr_readFrom 49 = .ok (.invokevirtual 101, 3) := by decide +kernel
theorem dTr_readFrom_52 : decode bTr_readFrom 52 = .ok (.iinc 2 1, 3) := by decide +kernel
theorem dTr_readFrom_55 : decode bTr_readFrom 55 = .ok (.goto (-24), 3) := by decide +kernel
theorem dTr_readFrom_58 : decode bTr_readFrom 58 = .ok (.return_, 1) := by decide +kernel
abbrev wTr_readFrom : List Cond := Cond.code yTr_readFrom bTr_readFrom 3 none   :: tbl
theorem kcTr_readFrom : Cond.code yTr_readFrom bTr_readFrom 3 none ∈ tbl := tb2 239 (by decide +kernel) (by decide +kernel)
theorem kiTr_readFrom : Cond.instanceMethod yTr_readFrom ∈ tbl := tb2 237 (by decide +kernel) (by decide +kernel)
theorem ksTr_readFrom : Cond.selects yTr_readFrom.cls yTr_readFrom yTr_readFrom ∈ tbl := tb2 238 (by decide +kernel) (by decide +kernel)
theorem dTr_forget_0 : decode bTr_forget 0 = .ok (.aload_n 0, 1) := by decide +kernel
theorem dTr_forget_1 : decode bTr_forget 1 = .ok (.iconst 0, 1) := by decide +kernel
theorem dTr_forget_2 : decode bTr_forget 2 = .ok (.putfield 39, 3) := by decide +kernel
theorem dTr_forget_5 : decode bTr_forget 5 = .ok (.aload_n 0, 1) := by decide +kernel
theorem dTr_forget_6 : decode bTr_forget 6 = .ok (.iconst 0, 1) := by decide +kernel
theorem dTr_forget_7 : decode bTr_forget 7 = .ok (.putfield 54, 3) := by decide +kernel
theorem dTr_forget_10 : decode bTr_forget 10 = .ok (.iconst 0, 1) := by decide +kernel
theorem dTr_forget_11 : decode bTr_forget 11 = .ok (.istore_n 1, 1) := by decide +kernel
theorem dTr_forget_12 : decode bTr_forget 12 = .ok (.iload_n 1, 1) := by decide +kernel
theorem dTr_forget_13 : decode bTr_forget 13 = .ok (.bipush 40, 2) := by decide +kernel
theorem dTr_forget_15 : decode bTr_forget 15 = .ok (.if_icmp .ge 19, 3) := by decide +kernel
theorem dTr_forget_18 : decode bTr_forget 18 = .ok (.aload_n 0, 1) := by decide +kernel
theorem dTr_forget_19 : decode bTr_forget 19 = .ok (.getfield 11, 3) := by decide +kernel
theorem dTr_forget_22 : decode bTr_forget 22 = .ok (.iload_n 1, 1) := by decide +kernel
theorem dTr_forget_23 : decode bTr_forget 23 = .ok (.aaload, 1) := by decide +kernel
theorem dTr_forget_24 : decode bTr_forget 24 = .ok (.iconst 0, 1) := by decide +kernel
theorem dTr_forget_25 : decode bTr_forget 25 = .ok (.invokevirtual 104, 3) := by decide +kernel
theorem dTr_forget_28 : decode bTr_forget 28 = .ok (.iinc 1 1, 3) := by decide +kernel
theorem dTr_forget_31 : decode bTr_forget 31 = .ok (.goto (-19), 3) := by decide +kernel
theorem dTr_forget_34 : decode bTr_forget 34 = .ok (.aload_n 0, 1) := by decide +kernel
theorem dTr_forget_35 : decode bTr_forget 35 = .ok (.invokevirtual 107, 3) := by decide +kernel
theorem dTr_forget_38 : decode bTr_forget 38 = .ok (.return_, 1) := by decide +kernel
abbrev wTr_forget : List Cond := Cond.code yTr_forget bTr_forget 2 none   :: tbl
theorem kcTr_forget : Cond.code yTr_forget bTr_forget 2 none ∈ tbl := tb2 165 (by decide +kernel) (by decide +kernel)
theorem kiTr_forget : Cond.instanceMethod yTr_forget ∈ tbl := tb2 163 (by decide +kernel) (by decide +kernel)
theorem ksTr_forget : Cond.selects yTr_forget.cls yTr_forget yTr_forget ∈ tbl := tb2 164 (by decide +kernel) (by decide +kernel)
theorem dTr_writeHeader_0 : decode bTr_writeHeader 0 = .ok (.aload_n 0, 1) := by decide +kernel
theorem dTr_writeHeader_1 : decode bTr_writeHeader 1 = .ok (.iload_n 1, 1) := by decide +kernel
theorem dTr_writeHeader_2 : decode bTr_writeHeader 2 = .ok (.putfield 39, 3) := by decide +kernel
theorem dTr_writeHeader_5 : decode bTr_writeHeader 5 = .ok (.aload_n 0, 1) := by decide +kernel
theorem dTr_writeHeader_6 : decode bTr_writeHeader 6 = .ok (.iload_n 2, 1) := by decide +kernel
theorem dTr_writeHeader_7 : decode bTr_writeHeader 7 = .ok (.putfield 54, 3) := by decide +kernel
theorem dTr_writeHeader_10 : decode bTr_writeHeader 10 = .ok (.aload_n 0, 1) := by decide +kernel
theorem dTr_writeHeader_11 : decode bTr_writeHeader 11 = .ok (.iconst 1, 1) := by decide +kernel
theorem dTr_writeHeader_12 : decode bTr_writeHeader 12 = .ok (.putfield 84, 3) := by decide +kernel
theorem dTr_writeHeader_15 : decode bTr_writeHeader 15 = .ok (.return_, 1) := by decide +kernel
abbrev wTr_writeHeader : List Cond := Cond.code yTr_writeHeader bTr_writeHeader 3 none   :: tbl
theorem kcTr_writeHeader : Cond.code yTr_writeHeader bTr_writeHeader 3 none ∈ tbl := tb2 38 (by decide +kernel) (by decide +kernel)
theorem kiTr_writeHeader : Cond.instanceMethod yTr_writeHeader ∈ tbl := tb2 37 (by decide +kernel) (by decide +kernel)
theorem ksTr_writeHeader : Cond.selects yTr_writeHeader.cls yTr_writeHeader yTr_writeHeader ∈ tbl := tb0 2 (by decide +kernel) (by decide +kernel)
theorem dTr_lowestDepth_0 : decode bTr_lowestDepth 0 = .ok (.iconst 0, 1) := by decide +kernel
theorem dTr_lowestDepth_1 : decode bTr_lowestDepth 1 = .ok (.aload_n 0, 1) := by decide +kernel
theorem dTr_lowestDepth_2 : decode bTr_lowestDepth 2 = .ok (.aload_n 0, 1) := by decide +kernel
theorem dTr_lowestDepth_3 : decode bTr_lowestDepth 3 = .ok (.getfield 39, 3) := by decide +kernel
theorem dTr_lowestDepth_6 : decode bTr_lowestDepth 6 = .ok (.invokevirtual 46, 3) := by decide +kernel
theorem dTr_lowestDepth_9 : decode bTr_lowestDepth 9 = .ok (.getfield 35, 3) := by decide +kernel
theorem dTr_lowestDepth_12 : decode bTr_lowestDepth 12 = .ok (.iconst 1, 1) := by decide +kernel
theorem dTr_lowestDepth_13 : decode bTr_lowestDepth 13 = .ok (.isub, 1) := by decide +kernel
theorem dTr_lowestDepth_14 : decode bTr_lowestDepth 14 = .ok (.iconst 3, 1) := by decide +kernel
theorem dTr_lowestDepth_15 : decode bTr_lowestDepth 15 = .ok (.invokestatic 110, 3) := by decide +kernel
theorem dTr_lowestDepth_18 : decode bTr_lowestDepth 18 = .ok (.invokestatic 116, 3) := by decide +kernel
theorem dTr_lowestDepth_21 : decode bTr_lowestDepth 21 = .ok (.ireturn, 1) := by decide +kernel
abbrev wTr_lowestDepth : List Cond := Cond.code yTr_lowestDepth bTr_lowestDepth 1 (some .int)   :: tbl
theorem kcTr_lowestDepth : Cond.code yTr_lowestDepth bTr_lowestDepth 1 (some .int) ∈ tbl := tb2 1 (by decide +kernel) (by decide +kernel)
theorem kiTr_lowestDepth : Cond.instanceMethod yTr_lowestDepth ∈ tbl := tb2 0 (by decide +kernel) (by decide +kernel)
theorem ksTr_lowestDepth : Cond.selects yTr_lowestDepth.cls yTr_lowestDepth yTr_lowestDepth ∈ tbl := tb0 1 (by decide +kernel) (by decide +kernel)
theorem dTr_descend_0 : decode bTr_descend 0 = .ok (.aload_n 0, 1) := by decide +kernel
theorem dTr_descend_1 : decode bTr_descend 1 = .ok (.invokevirtual 69, 3) := by decide +kernel
theorem dTr_descend_4 : decode bTr_descend 4 = .ok (.istore_n 2, 1) := by decide +kernel
theorem dTr_descend_5 : decode bTr_descend 5 = .ok (.aload_n 0, 1) := by decide +kernel
theorem dTr_descend_6 : decode bTr_descend 6 = .ok (.getfield 17, 3) := by decide +kernel
theorem dTr_descend_9 : decode bTr_descend 9 = .ok (.iconst 0, 1) := by decide +kernel
theorem dTr_descend_10 : decode bTr_descend 10 = .ok (.aload_n 0, 1) := by decide +kernel
theorem dTr_descend_11 : decode bTr_descend 11 = .ok (.getfield 39, 3) := by decide +kernel
theorem dTr_descend_14 : decode bTr_descend 14 = .ok (.iastore, 1) := by decide +kernel
theorem dTr_descend_15 : decode bTr_descend 15 = .ok (.iconst 0, 1) := by decide +kernel
theorem dTr_descend_16 : decode bTr_descend 16 = .ok (.istore_n 3, 1) := by decide +kernel
theorem dTr_descend_17 : decode bTr_descend 17 = .ok (.iload_n 3, 1) := by decide +kernel
theorem dTr_descend_18 : decode bTr_descend 18 = .ok (.iload_n 2, 1) := by decide +kernel
theorem dTr_descend_19 : decode bTr_descend 19 = .ok (.if_icmp .ge 56, 3) := by decide +kernel
theorem dTr_descend_22 : decode bTr_descend 22 = .ok (.aload_n 0, 1) := by decide +kernel
theorem dTr_descend_23 : decode bTr_descend 23 = .ok (.aload_n 0, 1) := by decide +kernel
theorem dTr_descend_24 : decode bTr_descend 24 = .ok (.getfield 17, 3) := by decide +kernel
theorem dTr_descend_27 : decode bTr_descend 27 = .ok (.iload_n 3, 1) := by decide +kernel
theorem dTr_descend_28 : decode bTr_descend 28 = .ok (.iaload, 1) := by decide +kernel
theorem dTr_descend_29 : decode bTr_descend 29 = .ok (.invokevirtual 46, 3) := by decide +kernel
theorem dTr_descend_32 : decode bTr_descend 32 = .ok (.astore 4, 2) := by decide +kernel
theorem dTr_descend_34 : decode bTr_descend 34 = .ok (.aload_n 0, 1) := by decide +kernel
theorem dTr_descend_35 : decode bTr_descend 35 = .ok (.getfield 21, 3) := by decide +kernel
theorem dTr_descend_38 : decode bTr_descend 38 = .ok (.iload_n 3, 1) := by decide +kernel
theorem dTr_descend_39 : decode bTr_descend 39 = .ok (.aload 4, 2) := by decide +kernel
theorem dTr_descend_41 : decode bTr_descend 41 = .ok (.aload_n 1, 1) := by decide +kernel
theorem dTr_descend_42 : decode bTr_descend 42 = .ok (.invokevirtual 119, 3) := by decide +kernel
theorem dTr_descend_45 : decode bTr_descend 45 = .ok (.iastore, 1) := by decide +kernel
theorem dTr_descend_46 : decode bTr_descend 46 = .ok (.aload_n 0, 1) := by decide +kernel
theorem dTr_descend_47 : decode bTr_descend 47 = .ok (.getfield 17, 3) := by decide +kernel
theorem dTr_descend_50 : decode bTr_descend 50 = .ok (.iload_n 3, 1) := by decide +kernel
theorem dTr_descend_51 : decode bTr_descend 51 = .ok (.iconst 1, 1) := by decide +kernel
theorem dTr_descend_52 : decode bTr_descend 52 = .ok (.iadd, 1) := by decide +kernel
theorem dTr_descend_53 : decode bTr_descend 53 = .ok (.aload 4, 2) := by decide +kernel
theorem dTr_descend_55 : decode bTr_descend 55 = .ok (.getfield 122, 3) := by decide +kernel
theorem dTr_descend_58 : decode bTr_descend 58 = .ok (.aload_n 0, 1) := by decide +kernel
theorem dTr_descend_59 : decode bTr_descend 59 = .ok (.getfield 21, 3) := by decide +kernel
theorem dTr_descend_62 : decode bTr_descend 62 = .ok (.iload_n 3, 1) := by decide +kernel
theorem dTr_descend_63 : decode bTr_descend 63 = .ok (.iaload, 1) := by decide +kernel
theorem dTr_descend_64 : decode bTr_descend 64 = .ok (.aaload, 1) := by decide +kernel
theorem dTr_descend_65 : decode bTr_descend 65 = .ok (.getfield 126, 3) := by decide +kernel
theorem dTr_descend_68 : decode bTr_descend 68 = .ok (.iastore, 1) := by decide +kernel
theorem dTr_descend_69 : decode bTr_descend 69 = .ok (.iinc 3 1, 3) := by decide +kernel
theorem dTr_descend_72 : decode bTr_descend 72 = .ok (.goto (-55), 3) := by decide +kernel
theorem dTr_descend_75 : decode bTr_descend 75 = .ok (.iload_n 2, 1) := by decide +kernel
theorem dTr_descend_76 : decode bTr_descend 76 = .ok (.ireturn, 1) := by decide +kernel
abbrev wTr_descend : List Cond := Cond.code yTr_descend bTr_descend 5 (some .int)   :: tbl
theorem kcTr_descend : Cond.code yTr_descend bTr_descend 5 (some .int) ∈ tbl := tb1 237 (by decide +kernel) (by decide +kernel)
theorem kiTr_descend : Cond.instanceMethod yTr_descend ∈ tbl := tb1 236 (by decide +kernel) (by decide +kernel)
theorem ksTr_descend : Cond.selects yTr_descend.cls yTr_descend yTr_descend ∈ tbl := tb0 0 (by decide +kernel) (by decide +kernel)
theorem dTr_seek_0 : decode bTr_seek 0 = .ok (.iload_n 3, 1) := by decide +kernel
theorem dTr_seek_1 : decode bTr_seek 1 = .ok (.iconst 4, 1) := by decide +kernel
theorem dTr_seek_2 : decode bTr_seek 2 = .ok (.if_icmp .lt 5, 3) := by decide +kernel
theorem dTr_seek_5 : decode bTr_seek 5 = .ok (.iconst 0, 1) := by decide +kernel
theorem dTr_seek_6 : decode bTr_seek 6 = .ok (.ireturn, 1) := by decide +kernel
theorem dTr_seek_7 : decode bTr_seek 7 = .ok (.aload_n 0, 1) := by decide +kernel
theorem dTr_seek_8 : decode bTr_seek 8 = .ok (.iload_n 2, 1) := by decide +kernel
theorem dTr_seek_9 : decode bTr_seek 9 = .ok (.invokevirtual 46, 3) := by decide +kernel
theorem dTr_seek_12 : decode bTr_seek 12 = .ok (.astore 4, 2) := by decide +kernel
theorem dTr_seek_14 : decode bTr_seek 14 = .ok (.aload_n 0, 1) := by decide +kernel
theorem dTr_seek_15 : decode bTr_seek 15 = .ok (.getfield 17, 3) := by decide +kernel
theorem dTr_seek_18 : decode bTr_seek 18 = .ok (.iload_n 3, 1) := by decide +kernel
theorem dTr_seek_19 : decode bTr_seek 19 = .ok (.iload_n 2, 1) := by decide +kernel
theorem dTr_seek_20 : decode bTr_seek 20 = .ok (.iastore, 1) := by decide +kernel
theorem dTr_seek_21 : decode bTr_seek 21 = .ok (.iconst 0, 1) := by decide +kernel
theorem dTr_seek_22 : decode bTr_seek 22 = .ok (.istore 5, 2) := by decide +kernel
theorem dTr_seek_24 : decode bTr_seek 24 = .ok (.iload 5, 2) := by decide +kernel
theorem dTr_seek_26 : decode bTr_seek 26 = .ok (.aload 4, 2) := by decide +kernel
theorem dTr_seek_28 : decode bTr_seek 28 = .ok (.getfield 129, 3) := by decide +kernel
theorem dTr_seek_31 : decode bTr_seek 31 = .ok (.if_icmp .ge 75, 3) := by decide +kernel
theorem dTr_seek_34 : decode bTr_seek 34 = .ok (.aload 4, 2) := by decide +kernel
theorem dTr_seek_36 : decode bTr_seek 36 = .ok (.getfield 122, 3) := by decide +kernel
theorem dTr_seek_39 : decode bTr_seek 39 = .ok (.iload 5, 2) := by decide +kernel
theorem dTr_seek_41 : decode bTr_seek 41 = .ok (.aaload, 1) := by decide +kernel
theorem dTr_seek_42 : decode bTr_seek 42 = .ok (.astore 6, 2) := by decide +kernel
theorem dTr_seek_44 : decode bTr_seek 44 = .ok (.aload_n 0, 1) := by decide +kernel
theorem dTr_seek_45 : decode bTr_seek 45 = .ok (.getfield 21, 3) := by decide +kernel
theorem dTr_seek_48 : decode bTr_seek 48 = .ok (.iload_n 3, 1) := by decide +kernel
theorem dTr_seek_49 : decode bTr_seek 49 = .ok (.iload 5, 2) := by decide +kernel
theorem dTr_seek_51 : decode bTr_seek 51 = .ok (.iastore, 1) := by decide +kernel
theorem dTr_seek_52 : decode bTr_seek 52 = .ok (.aload 4, 2) := by decide +kernel
theorem dTr_seek_54 : decode bTr_seek 54 = .ok (.getfield 35, 3) := by decide +kernel
theorem dTr_seek_57 : decode bTr_seek 57 = .ok (.iconst 1, 1) := by decide +kernel
theorem dTr_seek_58 : decode bTr_seek 58 = .ok (.if_icmp .ne 15, 3) := by decide +kernel
theorem dTr_seek_61 : decode bTr_seek 61 = .ok (.aload 6, 2) := by decide +kernel
theorem dTr_seek_63 : decode bTr_seek 63 = .ok (.aload_n 1, 1) := by decide +kernel
theorem dTr_seek_64 : decode bTr_seek 64 = .ok (.invokevirtual 132, 3) := by decide +kernel
theorem dTr_seek_67 : decode bTr_seek 67 = .ok (.ifCond .eq 33, 3) := by decide +kernel
theorem dTr_seek_70 : decode bTr_seek 70 = .ok (.goto 28, 3) := by decide +kernel
theorem dTr_seek_73 : decode bTr_seek 73 = .ok (.aload 6, 2) := by decide +kernel
theorem dTr_seek_75 : decode bTr_seek 75 = .ok (.aload_n 1, 1) := by decide +kernel
theorem dTr_seek_76 : decode bTr_seek 76 = .ok (.invokevirtual 136, 3) := by decide +kernel
theorem dTr_seek_79 : decode bTr_seek 79 = .ok (.ifCond .eq 21, 3) := by decide +kernel
theorem dTr_seek_82 : decode bTr_seek 82 = .ok (.aload_n 0, 1) := by decide +kernel
theorem dTr_seek_83 : decode bTr_seek 83 = .ok (.aload_n 1, 1) := by decide +kernel
theorem dTr_seek_84 : decode bTr_seek 84 = .ok (.aload 6, 2) := by decide +kernel
theorem dTr_seek_86 : decode bTr_seek 86 = .ok (.getfield 126, 3) := by decide +kernel
theorem dTr_seek_89 : decode bTr_seek 89 = .ok (.iload_n 3, 1) := by decide +kernel
theorem dTr_seek_90 : decode bTr_seek 90 = .ok (.iconst 1, 1) := by decide +kernel
theorem dTr_seek_91 : decode bTr_seek 91 = .ok (.iadd, 1) := by decide +kernel
theorem dTr_seek_92 : decode bTr_seek 92 = .ok (.invokestatic 65, 3) := by decide +kernel
theorem dTr_seek_95 : decode bTr_seek 95 = .ok (.ifCond .eq 5, 3) := by decide +kernel
theorem dTr_seek_98 : decode bTr_seek 98 = .ok (.iconst 1, 1) := by decide +kernel
theorem dTr_seek_99 : decode bTr_seek 99 = .ok (.ireturn, 1) := by decide +kernel
theorem dTr_seek_100 : decode bTr_seek 100 = .ok (.iinc 5 1, 3) := by decide +kernel
theorem dTr_seek_103 : decode bTr_seek 103 = .ok (.goto (-79), 3) := by decide +kernel
theorem dTr_seek_106 : decode bTr_seek 106 = .ok (.iconst 0, 1) := by decide +kernel
theorem dTr_seek_107 : decode bTr_seek 107 = .ok (.ireturn, 1) := by decide +kernel
abbrev wTr_seek : List Cond := Cond.code yTr_seek bTr_seek 7 (some .boolean)   :: tbl
theorem kcTr_seek : Cond.code yTr_seek bTr_seek 7 (some .boolean) ∈ tbl := tb2 177 (by decide +kernel) (by decide +kernel)
theorem ktTr_seek : Cond.static yTr_seek ∈ tbl := tb2 176 (by decide +kernel) (by decide +kernel)
theorem dTr_climb_0 : decode bTr_climb 0 = .ok (.iload_n 1, 1) := by decide +kernel
theorem dTr_climb_1 : decode bTr_climb 1 = .ok (.iconst 1, 1) := by decide +kernel
theorem dTr_climb_2 : decode bTr_climb 2 = .ok (.isub, 1) := by decide +kernel
theorem dTr_climb_3 : decode bTr_climb 3 = .ok (.istore_n 2, 1) := by decide +kernel
theorem dTr_climb_4 : decode bTr_climb 4 = .ok (.iload_n 2, 1) := by decide +kernel
theorem dTr_climb_5 : decode bTr_climb 5 = .ok (.ifCond .lt 29, 3) := by decide +kernel
theorem dTr_climb_8 : decode bTr_climb 8 = .ok (.aload_n 0, 1) := by decide +kernel
theorem dTr_climb_9 : decode bTr_climb 9 = .ok (.aload_n 0, 1) := by decide +kernel
theorem dTr_climb_10 : decode bTr_climb 10 = .ok (.aload_n 0, 1) := by decide +kernel
theorem dTr_climb_11 : decode bTr_climb 11 = .ok (.getfield 17, 3) := by decide +kernel
theorem dTr_climb_14 : decode bTr_climb 14 = .ok (.iload_n 2, 1) := by decide +kernel
theorem dTr_climb_15 : decode bTr_climb 15 = .ok (.iaload, 1) := by decide +kernel
theorem dTr_climb_16 : decode bTr_climb 16 = .ok (.invokevirtual 46, 3) := by decide +kernel
theorem dTr_climb_19 : decode bTr_climb 19 = .ok (.aload_n 0, 1) := by decide +kernel
theorem dTr_climb_20 : decode bTr_climb 20 = .ok (.getfield 21, 3) := by decide +kernel
theorem dTr_climb_23 : decode bTr_climb 23 = .ok (.iload_n 2, 1) := by decide +kernel
theorem dTr_climb_24 : decode bTr_climb 24 = .ok (.iaload, 1) := by decide +kernel
theorem dTr_climb_25 : decode bTr_climb 25 = .ok (.invokevirtual 139, 3) := by decide +kernel
theorem dTr_climb_28 : decode bTr_climb 28 = .ok (.iinc 2 (-1), 3) := by decide +kernel
theorem dTr_climb_31 : decode bTr_climb 31 = .ok (.goto (-27), 3) := by decide +kernel
theorem dTr_climb_34 : decode bTr_climb 34 = .ok (.aload_n 0, 1) := by decide +kernel
theorem dTr_climb_35 : decode bTr_climb 35 = .ok (.aload_n 0, 1) := by decide +kernel
theorem dTr_climb_36 : decode bTr_climb 36 = .ok (.getfield 39, 3) := by decide +kernel
theorem dTr_climb_39 : decode bTr_climb 39 = .ok (.invokevirtual 46, 3) := by decide +kernel
theorem dTr_climb_42 : decode bTr_climb 42 = .ok (.astore_n 2, 1) := by decide +kernel
theorem dTr_climb_43 : decode bTr_climb 43 = .ok (.aload_n 2, 1) := by decide +kernel
theorem dTr_climb_44 : decode bTr_climb 44 = .ok (.getfield 129, 3) := by decide +kernel
theorem dTr_climb_47 : decode bTr_climb 47 = .ok (.iconst 5, 1) := by decide +kernel
theorem dTr_climb_48 : decode bTr_climb 48 = .ok (.if_icmp .le 49, 3) := by decide +kernel
theorem dTr_climb_51 : decode bTr_climb 51 = .ok (.aload_n 0, 1) := by decide +kernel
theorem dTr_climb_52 : decode bTr_climb 52 = .ok (.aload_n 2, 1) := by decide +kernel
theorem dTr_climb_53 : decode bTr_climb 53 = .ok (.getfield 35, 3) := by decide +kernel
theorem dTr_climb_56 : decode bTr_climb 56 = .ok (.iconst 1, 1) := by decide +kernel
theorem dTr_climb_57 : decode bTr_climb 57 = .ok (.iadd, 1) := by decide +kernel
theorem dTr_climb_58 : decode bTr_climb 58 = .ok (.invokevirtual 143, 3) := by decide +kernel
theorem dTr_climb_61 : decode bTr_climb 61 = .ok (.istore_n 3, 1) := by decide +kernel
theorem dTr_climb_62 : decode bTr_climb 62 = .ok (.aload_n 0, 1) := by decide +kernel
theorem dTr_climb_63 : decode bTr_climb 63 = .ok (.aload_n 0, 1) := by decide +kernel
theorem dTr_climb_64 : decode bTr_climb 64 = .ok (.iload_n 3, 1) := by decide +kernel
theorem dTr_climb_65 : decode bTr_climb 65 = .ok (.invokevirtual 46, 3) := by decide +kernel
theorem dTr_climb_68 : decode bTr_climb 68 = .ok (.aload_n 0, 1) := by decide +kernel
theorem dTr_climb_69 : decode bTr_climb 69 = .ok (.getfield 39, 3) := by decide +kernel
theorem dTr_climb_72 : decode bTr_climb 72 = .ok (.invokevirtual 147, 3) := by decide +kernel
theorem dTr_climb_75 : decode bTr_climb 75 = .ok (.aload_n 0, 1) := by decide +kernel
theorem dTr_climb_76 : decode bTr_climb 76 = .ok (.aload_n 0, 1) := by decide +kernel
theorem dTr_climb_77 : decode bTr_climb 77 = .ok (.iload_n 3, 1) := by decide +kernel
theorem dTr_climb_78 : decode bTr_climb 78 = .ok (.invokevirtual 46, 3) := by decide +kernel
theorem dTr_climb_81 : decode bTr_climb 81 = .ok (.iconst 0, 1) := by decide +kernel
theorem dTr_climb_82 : decode bTr_climb 82 = .ok (.invokevirtual 139, 3) := by decide +kernel
theorem dTr_climb_85 : decode bTr_climb 85 = .ok (.aload_n 0, 1) := by decide +kernel
theorem dTr_climb_86 : decode bTr_climb 86 = .ok (.iload_n 3, 1) := by decide +kernel
theorem dTr_climb_87 : decode bTr_climb 87 = .ok (.aload_n 0, 1) := by decide +kernel
theorem dTr_climb_88 : decode bTr_climb 88 = .ok (.getfield 54, 3) := by decide +kernel
theorem dTr_climb_91 : decode bTr_climb 91 = .ok (.invokevirtual 57, 3) := by decide +kernel
theorem dTr_climb_94 : decode bTr_climb 94 = .ok (.goto 41, 3) := by decide +kernel
theorem dTr_climb_97 : decode bTr_climb 97 = .ok (.aload_n 2, 1) := by decide +kernel
theorem dTr_climb_98 : decode bTr_climb 98 = .ok (.getfield 35, 3) := by decide +kernel
theorem dTr_climb_101 : decode bTr_climb 101 = .ok (.iconst 1, 1) := by decide +kernel
theorem dTr_climb_102 : decode bTr_climb 102 = .ok (.if_icmp .le 33, 3) := by decide +kernel
theorem dTr_climb_105 : decode bTr_climb 105 = .ok (.aload_n 2, 1) := by decide +kernel
theorem dTr_climb_106 : decode bTr_climb 106 = .ok (.getfield 129, 3) := by decide +kernel
theorem dTr_climb_109 : decode bTr_climb 109 = .ok (.iconst 1, 1) := by decide +kernel
theorem dTr_climb_110 : decode bTr_climb 110 = .ok (.if_icmp .ne 25, 3) := by decide +kernel
theorem dTr_climb_113 : decode bTr_climb 113 = .ok (.aload_n 0, 1) := by decide +kernel
theorem dTr_climb_114 : decode bTr_climb 114 = .ok (.aload_n 2, 1) := by decide +kernel
theorem dTr_climb_115 : decode bTr_climb 115 = .ok (.getfield 122, 3) := by decide +kernel
theorem dTr_climb_118 : decode bTr_climb 118 = .ok (.iconst 0, 1) := by decide +kernel
theorem dTr_climb_119 : decode bTr_climb 119 = .ok (.aaload, 1) := by decide +kernel
theorem dTr_climb_120 : decode bTr_climb 120 = .ok (.getfield 126, 3) := by decide +kernel
theorem dTr_climb_123 : decode bTr_climb 123 = .ok (.aload_n 0, 1) := by decide +kernel
theorem dTr_climb_124 : decode bTr_climb 124 = .ok (.getfield 54, 3) := by decide +kernel
theorem dTr_climb_127 : decode bTr_climb 127 = .ok (.invokevirtual 57, 3) := by decide +kernel
theorem dTr_climb_130 : decode bTr_climb 130 = .ok (.aload_n 2, 1) := by decide +kernel
theorem dTr_climb_131 : decode bTr_climb 131 = .ok (.iconst 0, 1) := by decide +kernel
theorem dTr_climb_132 : decode bTr_climb 132 = .ok (.invokevirtual 104, 3) := by decide +kernel
theorem dTr_climb_135 : decode bTr_climb 135 = .ok (.return_, 1) := by decide +kernel
abbrev wTr_climb : List Cond := Cond.code yTr_climb bTr_climb 4 none   :: tbl
theorem kcTr_climb : Cond.code yTr_climb bTr_climb 4 none ∈ tbl := tb2 42 (by decide +kernel) (by decide +kernel)
theorem kiTr_climb : Cond.instanceMethod yTr_climb ∈ tbl := tb2 41 (by decide +kernel) (by decide +kernel)
theorem ksTr_climb : Cond.selects yTr_climb.cls yTr_climb yTr_climb ∈ tbl := tb0 3 (by decide +kernel) (by decide +kernel)
theorem dTr_mend_0 : decode bTr_mend 0 = .ok (.aload_n 0, 1) := by decide +kernel
theorem dTr_mend_1 : decode bTr_mend 1 = .ok (.aload_n 1, 1) := by decide +kernel
theorem dTr_mend_2 : decode bTr_mend 2 = .ok (.iload_n 2, 1) := by decide +kernel
theorem dTr_mend_3 : decode bTr_mend 3 = .ok (.invokevirtual 150, 3) := by decide +kernel
theorem dTr_mend_6 : decode bTr_mend 6 = .ok (.iload_n 2, 1) := by decide +kernel
theorem dTr_mend_7 : decode bTr_mend 7 = .ok (.istore_n 3, 1) := by decide +kernel
theorem dTr_mend_8 : decode bTr_mend 8 = .ok (.aload_n 0, 1) := by decide +kernel
theorem dTr_mend_9 : decode bTr_mend 9 = .ok (.aload_n 1, 1) := by decide +kernel
theorem dTr_mend_10 : decode bTr_mend 10 = .ok (.getfield 122, 3) := by decide +kernel
theorem dTr_mend_13 : decode bTr_mend 13 = .ok (.iload_n 2, 1) := by decide +kernel
theorem dTr_mend_14 : decode bTr_mend 14 = .ok (.aaload, 1) := by decide +kernel
theorem dTr_mend_15 : decode bTr_mend 15 = .ok (.getfield 126, 3) := by decide +kernel
theorem dTr_mend_18 : decode bTr_mend 18 = .ok (.invokevirtual 46, 3) := by decide +kernel
theorem dTr_mend_21 : decode bTr_mend 21 = .ok (.getfield 129, 3) := by decide +kernel
theorem dTr_mend_24 : decode bTr_mend 24 = .ok (.iconst 2, 1) := by decide +kernel
theorem dTr_mend_25 : decode bTr_mend 25 = .ok (.if_icmp .ge 29, 3) := by decide +kernel
theorem dTr_mend_28 : decode bTr_mend 28 = .ok (.aload_n 1, 1) := by decide +kernel
theorem dTr_mend_29 : decode bTr_mend 29 = .ok (.iload_n 2, 1) := by decide +kernel
theorem dTr_mend_30 : decode bTr_mend 30 = .ok (.invokevirtual 153, 3) := by decide +kernel
theorem dTr_mend_33 : decode bTr_mend 33 = .ok (.istore 4, 2) := by decide +kernel
theorem dTr_mend_35 : decode bTr_mend 35 = .ok (.iload_n 2, 1) := by decide +kernel
theorem dTr_mend_36 : decode bTr_mend 36 = .ok (.iload 4, 2) := by decide +kernel
theorem dTr_mend_38 : decode bTr_mend 38 = .ok (.invokestatic 110, 3) := by decide +kernel
theorem dTr_mend_41 : decode bTr_mend 41 = .ok (.istore_n 3, 1) := by decide +kernel
theorem dTr_mend_42 : decode bTr_mend 42 = .ok (.aload_n 0, 1) := by decide +kernel
theorem dTr_mend_43 : decode bTr_mend 43 = .ok (.aload_n 1, 1) := by decide +kernel
theorem dTr_mend_44 : decode bTr_mend 44 = .ok (.iload_n 3, 1) := by decide +kernel
theorem dTr_mend_45 : decode bTr_mend 45 = .ok (.iload_n 2, 1) := by decide +kernel
theorem dTr_mend_46 : decode bTr_mend 46 = .ok (.iload 4, 2) := by decide +kernel
theorem dTr_mend_48 : decode bTr_mend 48 = .ok (.invokestatic 116, 3) := by decide +kernel
theorem dTr_mend_51 : decode bTr_mend 51 = .ok (.invokevirtual 156, 3) := by decide +kernel
theorem dTr_mend_54 : decode bTr_mend 54 = .ok (.aload_n 0, 1) := by decide +kernel
theorem dTr_mend_55 : decode bTr_mend 55 = .ok (.aload_n 1, 1) := by decide +kernel
theorem dTr_mend_56 : decode bTr_mend 56 = .ok (.getfield 122, 3) := by decide +kernel
theorem dTr_mend_59 : decode bTr_mend 59 = .ok (.iload_n 3, 1) := by decide +kernel
theorem dTr_mend_60 : decode bTr_mend 60 = .ok (.aaload, 1) := by decide +kernel
theorem dTr_mend_61 : decode bTr_mend 61 = .ok (.getfield 126, 3) := by decide +kernel
theorem dTr_mend_64 : decode bTr_mend 64 = .ok (.invokevirtual 46, 3) := by decide +kernel
theorem dTr_mend_67 : decode bTr_mend 67 = .ok (.astore 4, 2) := by decide +kernel
theorem dTr_mend_69 : decode bTr_mend 69 = .ok (.aload 4, 2) := by decide +kernel
theorem dTr_mend_71 : decode bTr_mend 71 = .ok (.getfield 129, 3) := by decide +kernel
theorem dTr_mend_74 : decode bTr_mend 74 = .ok (.iconst 5, 1) := by decide +kernel
theorem dTr_mend_75 : decode bTr_mend 75 = .ok (.if_icmp .le 39, 3) := by decide +kernel
theorem dTr_mend_78 : decode bTr_mend 78 = .ok (.aload_n 0, 1) := by decide +kernel
theorem dTr_mend_79 : decode bTr_mend 79 = .ok (.aload 4, 2) := by decide +kernel
theorem dTr_mend_81 : decode bTr_mend 81 = .ok (.getfield 35, 3) := by decide +kernel
theorem dTr_mend_84 : decode bTr_mend 84 = .ok (.invokevirtual 143, 3) := by decide +kernel
theorem dTr_mend_87 : decode bTr_mend 87 = .ok (.istore 5, 2) := by decide +kernel
theorem dTr_mend_89 : decode bTr_mend 89 = .ok (.aload_n 0, 1) := by decide +kernel
theorem dTr_mend_90 : decode bTr_mend 90 = .ok (.aload 4, 2) := by decide +kernel
theorem dTr_mend_92 : decode bTr_mend 92 = .ok (.aload_n 0, 1) := by decide +kernel
theorem dTr_mend_93 : decode bTr_mend 93 = .ok (.aload 4, 2) := by decide +kernel
theorem dTr_mend_95 : decode bTr_mend 95 = .ok (.invokevirtual 160, 3) := by decide +kernel
theorem dTr_mend_98 : decode bTr_mend 98 = .ok (.aload_n 0, 1) := by decide +kernel
theorem dTr_mend_99 : decode bTr_mend 99 = .ok (.iload 5, 2) := by decide +kernel
theorem dTr_mend_101 : decode bTr_mend 101 = .ok (.invokevirtual 46, 3) := by decide +kernel
theorem dTr_mend_104 : decode bTr_mend 104 = .ok (.invokevirtual 164, 3) := by decide +kernel
theorem dTr_mend_107 : decode bTr_mend 107 = .ok (.aload_n 0, 1) := by decide +kernel
theorem dTr_mend_108 : decode bTr_mend 108 = .ok (.aload_n 1, 1) := by decide +kernel
theorem dTr_mend_109 : decode bTr_mend 109 = .ok (.iload 5, 2) := by decide +kernel
theorem dTr_mend_111 : decode bTr_mend 111 = .ok (.invokevirtual 147, 3) := by decide +kernel
theorem dTr_mend_114 : decode bTr_mend 114 = .ok (.aload_n 0, 1) := by decide +kernel
theorem dTr_mend_115 : decode bTr_mend 115 = .ok (.aload_n 1, 1) := by decide +kernel
theorem dTr_mend_116 : decode bTr_mend 116 = .ok (.iload_n 3, 1) := by decide +kernel
theorem dTr_mend_117 : decode bTr_mend 117 = .ok (.invokevirtual 150, 3) := by decide +kernel
theorem dTr_mend_120 : decode bTr_mend 120 = .ok (.return_, 1) := by decide +kernel
abbrev wTr_mend : List Cond := Cond.code yTr_mend bTr_mend 6 none   :: tbl
theorem kcTr_mend : Cond.code yTr_mend bTr_mend 6 none ∈ tbl := tb2 46 (by decide +kernel) (by decide +kernel)
theorem kiTr_mend : Cond.instanceMethod yTr_mend ∈ tbl := tb2 45 (by decide +kernel) (by decide +kernel)
theorem ksTr_mend : Cond.selects yTr_mend.cls yTr_mend yTr_mend ∈ tbl := tb0 4 (by decide +kernel) (by decide +kernel)
theorem dTr_tellFrame_0 : decode bTr_tellFrame 0 = .ok (.aload_n 1, 1) := by decide +kernel
theorem dTr_tellFrame_1 : decode bTr_tellFrame 1 = .ok (.getfield 122, 3) := by decide +kernel
theorem dTr_tellFrame_4 : decode bTr_tellFrame 4 = .ok (.iload_n 2, 1) := by decide +kernel
theorem dTr_tellFrame_5 : decode bTr_tellFrame 5 = .ok (.aaload, 1) := by decide +kernel
theorem dTr_tellFrame_6 : decode bTr_tellFrame 6 = .ok (.astore_n 3, 1) := by decide +kernel
theorem dTr_tellFrame_7 : decode bTr_tellFrame 7 = .ok (.aload_n 0, 1) := by decide +kernel
theorem dTr_tellFrame_8 : decode bTr_tellFrame 8 = .ok (.getfield 27, 3) := by decide +kernel
theorem dTr_tellFrame_11 : decode bTr_tellFrame 11 = .ok (.aload_n 3, 1) := by decide +kernel
theorem dTr_tellFrame_12 : decode bTr_tellFrame 12 = .ok (.getfield 126, 3) := by decide +kernel
theorem dTr_tellFrame_15 : decode bTr_tellFrame 15 = .ok (.putfield 126, 3) := by decide +kernel
theorem dTr_tellFrame_18 : decode bTr_tellFrame 18 = .ok (.aload_n 0, 1) := by decide +kernel
theorem dTr_tellFrame_19 : decode bTr_tellFrame 19 = .ok (.aload_n 3, 1) := by decide +kernel
theorem dTr_tellFrame_20 : decode bTr_tellFrame 20 = .ok (.getfield 126, 3) := by decide +kernel
theorem dTr_tellFrame_23 : decode bTr_tellFrame 23 = .ok (.invokevirtual 46, 3) := by decide +kernel
theorem dTr_tellFrame_26 : decode bTr_tellFrame 26 = .ok (.iconst (-1), 1) := by decide +kernel
theorem dTr_tellFrame_27 : decode bTr_tellFrame 27 = .ok (.aload_n 0, 1) := by decide +kernel
theorem dTr_tellFrame_28 : decode bTr_tellFrame 28 = .ok (.getfield 27, 3) := by decide +kernel
theorem dTr_tellFrame_31 : decode bTr_tellFrame 31 = .ok (.invokevirtual 168, 3) := by decide +kernel
theorem dTr_tellFrame_34 : decode bTr_tellFrame 34 = .ok (.aload_n 3, 1) := by decide +kernel
theorem dTr_tellFrame_35 : decode bTr_tellFrame 35 = .ok (.aload_n 0, 1) := by decide +kernel
theorem dTr_tellFrame_36 : decode bTr_tellFrame 36 = .ok (.getfield 27, 3) := by decide +kernel
theorem dTr_tellFrame_39 : decode bTr_tellFrame 39 = .ok (.invokevirtual 132, 3) := by decide +kernel
theorem dTr_tellFrame_42 : decode bTr_tellFrame 42 = .ok (.ifCond .ne 16, 3) := by decide +kernel
theorem dTr_tellFrame_45 : decode bTr_tellFrame 45 = .ok (.aload_n 3, 1) := by decide +kernel
theorem dTr_tellFrame_46 : decode bTr_tellFrame 46 = .ok (.aload_n 0, 1) := by decide +kernel
theorem dTr_tellFrame_47 : decode bTr_tellFrame 47 = .ok (.getfield 27, 3) := by decide +kernel
theorem dTr_tellFrame_50 : decode bTr_tellFrame 50 = .ok (.invokevirtual 171, 3) := by decide +kernel
theorem dTr_tellFrame_53 : decode bTr_tellFrame 53 = .ok (.aload_n 1, 1) := by decide +kernel
theorem dTr_tellFrame_54 : decode bTr_tellFrame 54 = .ok (.iconst 1, 1) := by decide +kernel
theorem dTr_tellFrame_55 : decode bTr_tellFrame 55 = .ok (.putfield 88, 3) := by decide +kernel
theorem dTr_tellFrame_58 : decode bTr_tellFrame 58 = .ok (.return_, 1) := by decide +kernel
abbrev wTr_tellFrame : List Cond := Cond.code yTr_tellFrame bTr_tellFrame 4 none   :: tbl
theorem kcTr_tellFrame : Cond.code yTr_tellFrame bTr_tellFrame 4 none ∈ tbl := tb2 50 (by decide +kernel) (by decide +kernel)
theorem kiTr_tellFrame : Cond.instanceMethod yTr_tellFrame ∈ tbl := tb2 49 (by decide +kernel) (by decide +kernel)
theorem ksTr_tellFrame : Cond.selects yTr_tellFrame.cls yTr_tellFrame yTr_tellFrame ∈ tbl := tb0 5 (by decide +kernel) (by decide +kernel)
theorem dTr_hang_0 : decode bTr_hang 0 = .ok (.aload_n 0, 1) := by decide +kernel
theorem dTr_hang_1 : decode bTr_hang 1 = .ok (.getfield 27, 3) := by decide +kernel
theorem dTr_hang_4 : decode bTr_hang 4 = .ok (.iload_n 2, 1) := by decide +kernel
theorem dTr_hang_5 : decode bTr_hang 5 = .ok (.putfield 126, 3) := by decide +kernel
theorem dTr_hang_8 : decode bTr_hang 8 = .ok (.aload_n 0, 1) := by decide +kernel
theorem dTr_hang_9 : decode bTr_hang 9 = .ok (.iload_n 2, 1) := by decide +kernel
theorem dTr_hang_10 : decode bTr_hang 10 = .ok (.invokevirtual 46, 3) := by decide +kernel
theorem dTr_hang_13 : decode bTr_hang 13 = .ok (.iconst (-1), 1) := by decide +kernel
theorem dTr_hang_14 : decode bTr_hang 14 = .ok (.aload_n 0, 1) := by decide +kernel
theorem dTr_hang_15 : decode bTr_hang 15 = .ok (.getfield 27, 3) := by decide +kernel
theorem dTr_hang_18 : decode bTr_hang 18 = .ok (.invokevirtual 168, 3) := by decide +kernel
theorem dTr_hang_21 : decode bTr_hang 21 = .ok (.aload_n 1, 1) := by decide +kernel
theorem dTr_hang_22 : decode bTr_hang 22 = .ok (.aload_n 0, 1) := by decide +kernel
theorem dTr_hang_23 : decode bTr_hang 23 = .ok (.getfield 27, 3) := by decide +kernel
theorem dTr_hang_26 : decode bTr_hang 26 = .ok (.invokevirtual 50, 3) := by decide +kernel
theorem dTr_hang_29 : decode bTr_hang 29 = .ok (.return_, 1) := by decide +kernel
abbrev wTr_hang : List Cond := Cond.code yTr_hang bTr_hang 3 none   :: tbl
theorem kcTr_hang : Cond.code yTr_hang bTr_hang 3 none ∈ tbl := tb2 113 (by decide +kernel) (by decide +kernel)
theorem kiTr_hang : Cond.instanceMethod yTr_hang ∈ tbl := tb2 112 (by decide +kernel) (by decide +kernel)
theorem ksTr_hang : Cond.selects yTr_hang.cls yTr_hang yTr_hang ∈ tbl := tb0 10 (by decide +kernel) (by decide +kernel)
theorem dTr_merge_0 : decode bTr_merge 0 = .ok (.iload_n 2, 1) := by decide +kernel
theorem dTr_merge_1 : decode bTr_merge 1 = .ok (.iload_n 3, 1) := by decide +kernel
theorem dTr_merge_2 : decode bTr_merge 2 = .ok (.if_icmp .ne 4, 3) := by decide +kernel
theorem dTr_merge_5 : decode bTr_merge 5 = .ok (.return_, 1) := by decide +kernel
theorem dTr_merge_6 : decode bTr_merge 6 = .ok (.aload_n 0, 1) := by decide +kernel
theorem dTr_merge_7 : decode bTr_merge 7 = .ok (.aload_n 1, 1) := by decide +kernel
theorem dTr_merge_8 : decode bTr_merge 8 = .ok (.getfield 122, 3) := by decide +kernel
theorem dTr_merge_11 : decode bTr_merge 11 = .ok (.iload_n 2, 1) := by decide +kernel
theorem dTr_merge_12 : decode bTr_merge 12 = .ok (.aaload, 1) := by decide +kernel
theorem dTr_merge_13 : decode bTr_merge 13 = .ok (.getfield 126, 3) := by decide +kernel
theorem dTr_merge_16 : decode bTr_merge 16 = .ok (.invokevirtual 46, 3) := by decide +kernel
theorem dTr_merge_19 : decode bTr_merge 19 = .ok (.astore 4, 2) := by decide +kernel
theorem dTr_merge_21 : decode bTr_merge 21 = .ok (.aload_n 0, 1) := by decide +kernel
theorem dTr_merge_22 : decode bTr_merge 22 = .ok (.aload_n 1, 1) := by decide +kernel
theorem dTr_merge_23 : decode bTr_merge 23 = .ok (.getfield 122, 3) := by decide +kernel
theorem dTr_merge_26 : decode bTr_merge 26 = .ok (.iload_n 3, 1) := by decide +kernel
theorem dTr_merge_27 : decode bTr_merge 27 = .ok (.aaload, 1) := by decide +kernel
theorem dTr_merge_28 : decode bTr_merge 28 = .ok (.getfield 126, 3) := by decide +kernel
theorem dTr_merge_31 : decode bTr_merge 31 = .ok (.invokevirtual 46, 3) := by decide +kernel
theorem dTr_merge_34 : decode bTr_merge 34 = .ok (.astore 5, 2) := by decide +kernel
theorem dTr_merge_36 : decode bTr_merge 36 = .ok (.iconst 0, 1) := by decide +kernel
theorem dTr_merge_37 : decode bTr_merge 37 = .ok (.istore 6, 2) := by decide +kernel
theorem dTr_merge_39 : decode bTr_merge 39 = .ok (.iload 6, 2) := by decide +kernel
theorem dTr_merge_41 : decode bTr_merge 41 = .ok (.aload 5, 2) := by decide +kernel
theorem dTr_merge_43 : decode bTr_merge 43 = .ok (.getfield 129, 3) := by decide +kernel
theorem dTr_merge_46 : decode bTr_merge 46 = .ok (.if_icmp .ge 22, 3) := by decide +kernel
theorem dTr_merge_49 : decode bTr_merge 49 = .ok (.aload 4, 2) := by decide +kernel
theorem dTr_merge_51 : decode bTr_merge 51 = .ok (.aload 5, 2) := by decide +kernel
theorem dTr_merge_53 : decode bTr_merge 53 = .ok (.getfield 122, 3) := by decide +kernel
theorem dTr_merge_56 : decode bTr_merge 56 = .ok (.iload 6, 2) := by decide +kernel
theorem dTr_merge_58 : decode bTr_merge 58 = .ok (.aaload, 1) := by decide +kernel
theorem dTr_merge_59 : decode bTr_merge 59 = .ok (.invokevirtual 50, 3) := by decide +kernel
theorem dTr_merge_62 : decode bTr_merge 62 = .ok (.iinc 6 1, 3) := by decide +kernel
theorem dTr_merge_65 : decode bTr_merge 65 = .ok (.goto (-26), 3) := by decide +kernel
theorem dTr_merge_68 : decode bTr_merge 68 = .ok (.aload 5, 2) := by decide +kernel
theorem dTr_merge_70 : decode bTr_merge 70 = .ok (.iconst 0, 1) := by decide +kernel
theorem dTr_merge_71 : decode bTr_merge 71 = .ok (.invokevirtual 104, 3) := by decide +kernel
theorem dTr_merge_74 : decode bTr_merge 74 = .ok (.aload_n 1, 1) := by decide +kernel
theorem dTr_merge_75 : decode bTr_merge 75 = .ok (.iload_n 3, 1) := by decide +kernel
theorem dTr_merge_76 : decode bTr_merge 76 = .ok (.invokevirtual 73, 3) := by decide +kernel
theorem dTr_merge_79 : decode bTr_merge 79 = .ok (.return_, 1) := by decide +kernel
abbrev wTr_merge : List Cond := Cond.code yTr_merge bTr_merge 7 none   :: tbl
theorem kcTr_merge : Cond.code yTr_merge bTr_merge 7 none ∈ tbl := tb2 77 (by decide +kernel) (by decide +kernel)
theorem kiTr_merge : Cond.instanceMethod yTr_merge ∈ tbl := tb2 76 (by decide +kernel) (by decide +kernel)
theorem ksTr_merge : Cond.selects yTr_merge.cls yTr_merge yTr_merge ∈ tbl := tb0 6 (by decide +kernel) (by decide +kernel)
theorem dTr_moveOut_0 : decode bTr_moveOut 0 = .ok (.aload_n 1, 1) := by decide +kernel
theorem dTr_moveOut_1 : decode bTr_moveOut 1 = .ok (.getfield 129, 3) := by decide +kernel
theorem dTr_moveOut_4 : decode bTr_moveOut 4 = .ok (.iconst 1, 1) := by decide +kernel
theorem dTr_moveOut_5 : decode bTr_moveOut 5 = .ok (.isub, 1) := by decide +kernel
theorem dTr_moveOut_6 : decode bTr_moveOut 6 = .ok (.istore 4, 2) := by decide +kernel
theorem dTr_moveOut_8 : decode bTr_moveOut 8 = .ok (.iload 4, 2) := by decide +kernel
theorem dTr_moveOut_10 : decode bTr_moveOut 10 = .ok (.ifCond .lt 36, 3) := by decide +kernel
theorem dTr_moveOut_13 : decode bTr_moveOut 13 = .ok (.iload_n 2, 1) := by decide +kernel
theorem dTr_moveOut_14 : decode bTr_moveOut 14 = .ok (.iload 4, 2) := by decide +kernel
theorem dTr_moveOut_16 : decode bTr_moveOut 16 = .ok (.ishr, 1) := by decide +kernel
theorem dTr_moveOut_17 : decode bTr_moveOut 17 = .ok (.iconst 1, 1) := by decide +kernel
theorem dTr_moveOut_18 : decode bTr_moveOut 18 = .ok (.iand, 1) := by decide +kernel
theorem dTr_moveOut_19 : decode bTr_moveOut 19 = .ok (.iconst 1, 1) := by decide +kernel
theorem dTr_moveOut_20 : decode bTr_moveOut 20 = .ok (.if_icmp .ne 20, 3) := by decide +kernel
theorem dTr_moveOut_23 : decode bTr_moveOut 23 = .ok (.aload_n 3, 1) := by decide +kernel
theorem dTr_moveOut_24 : decode bTr_moveOut 24 = .ok (.aload_n 1, 1) := by decide +kernel
theorem dTr_moveOut_25 : decode bTr_moveOut 25 = .ok (.getfield 122, 3) := by decide +kernel
theorem dTr_moveOut_28 : decode bTr_moveOut 28 = .ok (.iload 4, 2) := by decide +kernel
theorem dTr_moveOut_30 : decode bTr_moveOut 30 = .ok (.aaload, 1) := by decide +kernel
theorem dTr_moveOut_31 : decode bTr_moveOut 31 = .ok (.invokevirtual 50, 3) := by decide +kernel
theorem dTr_moveOut_34 : decode bTr_moveOut 34 = .ok (.aload_n 1, 1) := by decide +kernel
theorem dTr_moveOut_35 : decode bTr_moveOut 35 = .ok (.iload 4, 2) := by decide +kernel
theorem dTr_moveOut_37 : decode bTr_moveOut 37 = .ok (.invokevirtual 73, 3) := by decide +kernel
theorem dTr_moveOut_40 : decode bTr_moveOut 40 = .ok (.iinc 4 (-1), 3) := by decide +kernel
theorem dTr_moveOut_43 : decode bTr_moveOut 43 = .ok (.goto (-35), 3) := by decide +kernel
theorem dTr_moveOut_46 : decode bTr_moveOut 46 = .ok (.return_, 1) := by decide +kernel
abbrev wTr_moveOut : List Cond := Cond.code yTr_moveOut bTr_moveOut 5 none   :: tbl
theorem kcTr_moveOut : Cond.code yTr_moveOut bTr_moveOut 5 none ∈ tbl := tb2 109 (by decide +kernel) (by decide +kernel)
theorem kiTr_moveOut : Cond.instanceMethod yTr_moveOut ∈ tbl := tb2 108 (by decide +kernel) (by decide +kernel)
theorem ksTr_moveOut : Cond.selects yTr_moveOut.cls yTr_moveOut yTr_moveOut ∈ tbl := tb0 9 (by decide +kernel) (by decide +kernel)
theorem dTr_bestDivision_0 : decode bTr_bestDivision 0 = .ok (.iconst 3, 1) := by decide +kernel
theorem dTr_bestDivision_1 : decode bTr_bestDivision 1 = .ok (.istore_n 2, 1) := by decide +kernel
theorem dTr_bestDivision_2 : decode bTr_bestDivision 2 = .ok (.ldc2_w 174, 3) := by decide +kernel
theorem dTr_bestDivision_5 : decode bTr_bestDivision 5 = .ok (.lstore_n 3, 1) := by decide +kernel
theorem dTr_bestDivision_6 : decode bTr_bestDivision 6 = .ok (.ldc2_w 174, 3) := by decide +kernel
theorem dTr_bestDivision_9 : decode bTr_bestDivision 9 = .ok (.lstore 5, 2) := by decide +kernel
theorem dTr_bestDivision_11 : decode bTr_bestDivision 11 = .ok (.iconst 1, 1) := by decide +kernel
theorem dTr_bestDivision_12 : decode bTr_bestDivision 12 = .ok (.istore 7, 2) := by decide +kernel
theorem dTr_bestDivision_14 : decode bTr_bestDivision 14 = .ok (.iload 7, 2) := by decide +kernel
theorem dTr_bestDivision_16 : decode bTr_bestDivision 16 = .ok (.bipush 32, 2) := by decide +kernel
theorem dTr_bestDivision_18 : decode bTr_bestDivision 18 = .ok (.if_icmp .ge 124, 3) := by decide +kernel
theorem dTr_bestDivision_21 : decode bTr_bestDivision 21 = .ok (.iload 7, 2) := by decide +kernel
theorem dTr_bestDivision_23 : decode bTr_bestDivision 23 = .ok (.invokestatic 176, 3) := by decide +kernel
theorem dTr_bestDivision_26 : decode bTr_bestDivision 26 = .ok (.istore 8, 2) := by decide +kernel
theorem dTr_bestDivision_28 : decode bTr_bestDivision 28 = .ok (.iload 8, 2) := by decide +kernel
theorem dTr_bestDivision_30 : decode bTr_bestDivision 30 = .ok (.iconst 2, 1) := by decide +kernel
theorem dTr_bestDivision_31 : decode bTr_bestDivision 31 = .ok (.if_icmp .lt 105, 3) := by decide +kernel
theorem dTr_bestDivision_34 : decode bTr_bestDivision 34 = .ok (.aload_n 1, 1) := by decide +kernel
theorem dTr_bestDivision_35 : decode bTr_bestDivision 35 = .ok (.getfield 129, 3) := by decide +kernel
theorem dTr_bestDivision_38 : decode bTr_bestDivision 38 = .ok (.iload 8, 2) := by decide +kernel
theorem dTr_bestDivision_40 : decode bTr_bestDivision 40 = .ok (.isub, 1) := by decide +kernel
theorem dTr_bestDivision_41 : decode bTr_bestDivision 41 = .ok (.iconst 2, 1) := by decide +kernel
theorem dTr_bestDivision_42 : decode bTr_bestDivision 42 = .ok (.if_icmp .ge 6, 3) := by decide +kernel
theorem dTr_bestDivision_45 : decode bTr_bestDivision 45 = .ok (.goto 91, 3) := by decide +kernel
theorem dTr_bestDivision_48 : decode bTr_bestDivision 48 = .ok (.aload_n 1, 1) := by decide +kernel
theorem dTr_bestDivision_49 : decode bTr_bestDivision 49 = .ok (.iload 7, 2) := by decide +kernel
theorem dTr_bestDivision_51 : decode bTr_bestDivision 51 = .ok (.aload_n 0, 1) := by decide +kernel
theorem dTr_bestDivision_52 : decode bTr_bestDivision 52 = .ok (.getfield 27, 3) := by decide +kernel
theorem dTr_bestDivision_55 : decode bTr_bestDivision 55 = .ok (.invokevirtual 168, 3) := by decide +kernel
theorem dTr_bestDivision_58 : decode bTr_bestDivision 58 = .ok (.aload_n 1, 1) := by decide +kernel
theorem dTr_bestDivision_59 : decode bTr_bestDivision 59 = .ok (.iload 7, 2) := by decide +kernel
theorem dTr_bestDivision_61 : decode bTr_bestDivision 61 = .ok (.iconst (-1), 1) := by decide +kernel
theorem dTr_bestDivision_62 : decode bTr_bestDivision 62 = .ok (.ixor, 1) := by decide +kernel
theorem dTr_bestDivision_63 : decode bTr_bestDivision 63 = .ok (.aload_n 0, 1) := by decide +kernel
theorem dTr_bestDivision_64 : decode bTr_bestDivision 64 = .ok (.getfield 31, 3) := by decide +kernel
theorem dTr_bestDivision_67 : decode bTr_bestDivision 67 = .ok (.invokevirtual 168, 3) := by decide +kernel
theorem dTr_bestDivision_70 : decode bTr_bestDivision 70 = .ok (.aload_n 0, 1) := by decide +kernel
theorem dTr_bestDivision_71 : decode bTr_bestDivision 71 = .ok (.getfield 27, 3) := by decide +kernel
theorem dTr_bestDivision_74 : decode bTr_bestDivision 74 = .ok (.invokevirtual 181, 3) := by decide +kernel
theorem dTr_bestDivision_77 : decode bTr_bestDivision 77 = .ok (.aload_n 0, 1) := by decide +kernel
theorem dTr_bestDivision_78 : decode bTr_bestDivision 78 = .ok (.getfield 31, 3) := by decide +kernel
theorem dTr_bestDivision_81 : decode bTr_bestDivision 81 = .ok (.invokevirtual 181, 3) := by decide +kernel
theorem dTr_bestDivision_84 : decode bTr_bestDivision 84 = .ok (.ladd, 1) := by decide +kernel
theorem dTr_bestDivision_85 : decode bTr_bestDivision 85 = .ok (.lstore 9, 2) := by decide +kernel
theorem dTr_bestDivision_87 : decode bTr_bestDivision 87 = .ok (.aload_n 0, 1) := by decide +kernel
theorem dTr_bestDivision_88 : decode bTr_bestDivision 88 = .ok (.getfield 27, 3) := by decide +kernel
theorem dTr_bestDivision_91 : decode bTr_bestDivision 91 = .ok (.invokevirtual 185, 3) := by decide +kernel
theorem dTr_bestDivision_94 : decode bTr_bestDivision 94 = .ok (.aload_n 0, 1) := by decide +kernel
theorem dTr_bestDivision_95 : decode bTr_bestDivision 95 = .ok (.getfield 31, 3) := by decide +kernel
theorem dTr_bestDivision_98 : decode bTr_bestDivision 98 = .ok (.invokevirtual 185, 3) := by decide +kernel
theorem dTr_bestDivision_101 : decode bTr_bestDivision 101 = .ok (.ladd, 1) := by decide +kernel
theorem dTr_bestDivision_102 : decode bTr_bestDivision 102 = .ok (.lstore 11, 2) := by decide +kernel
theorem dTr_bestDivision_104 : decode bTr_bestDivision 104 = .ok (.lload 9, 2) := by decide +kernel
theorem dTr_bestDivision_106 : decode bTr_bestDivision 106 = .ok (.lload_n 3, 1) := by decide +kernel
theorem dTr_bestDivision_107 : decode bTr_bestDivision 107 = .ok (.lcmp, 1) := by decide +kernel
theorem dTr_bestDivision_108 : decode bTr_bestDivision 108 = .ok (.ifCond .lt 18, 3) := by decide +kernel
theorem dTr_bestDivision_111 : decode bTr_bestDivision 111 = .ok (.lload 9, 2) := by decide +kernel
theorem dTr_bestDivision_113 : decode bTr_bestDivision 113 = .ok (.lload_n 3, 1) := by decide +kernel
theorem dTr_bestDivision_114 : decode bTr_bestDivision 114 = .ok (.lcmp, 1) := by decide +kernel
theorem dTr_bestDivision_115 : decode bTr_bestDivision 115 = .ok (.ifCond .ne 21, 3) := by decide +kernel
theorem dTr_bestDivision_118 : decode bTr_bestDivision 118 = .ok (.lload 11, 2) := by decide +kernel
theorem dTr_bestDivision_120 : decode bTr_bestDivision 120 = .ok (.lload 5, 2) := by decide +kernel
theorem dTr_bestDivision_122 : decode bTr_bestDivision 122 = .ok (.lcmp, 1) := by decide +kernel
theorem dTr_bestDivision_123 : decode bTr_bestDivision 123 = .ok (.ifCond .ge 13, 3) := by decide +kernel
theorem dTr_bestDivision_126 : decode bTr_bestDivision 126 = .ok (.iload 7, 2) := by decide +kernel
theorem dTr_bestDivision_128 : decode bTr_bestDivision 128 = .ok (.istore_n 2, 1) := by decide +kernel
theorem dTr_bestDivision_129 : decode bTr_bestDivision 129 = .ok (.lload 9, 2) := by decide +kernel
theorem dTr_bestDivision_131 : decode bTr_bestDivision 131 = .ok (.lstore_n 3, 1) := by decide +kernel
theorem dTr_bestDivision_132 : decode bTr_bestDivision 132 = .ok (.lload 11, 2) := by decide +kernel
theorem dTr_bestDivision_134 : decode bTr_bestDivision 134 = .ok (.lstore 5, 2) := by decide +kernel
theorem dTr_bestDivision_136 : decode bTr_bestDivision 136 = .ok (.iinc 7 1, 3) := by decide +kernel
theorem dTr_bestDivision_139 : decode bTr_bestDivision 139 = .ok (.goto (-125), 3) := by decide +kernel
theorem dTr_bestDivision_142 : decode bTr_bestDivision 142 = .ok (.iload_n 2, 1) := by decide +kernel
theorem dTr_bestDivision_143 : decode bTr_bestDivision 143 = .ok (.ireturn, 1) := by decide +kernel
abbrev wTr_bestDivision : List Cond := Cond.code yTr_bestDivision bTr_bestDivision 13 (some .int)   :: tbl
theorem kcTr_bestDivision : Cond.code yTr_bestDivision bTr_bestDivision 13 (some .int) ∈ tbl := tb2 93 (by decide +kernel) (by decide +kernel)
theorem kiTr_bestDivision : Cond.instanceMethod yTr_bestDivision ∈ tbl := tb2 92 (by decide +kernel) (by decide +kernel)
theorem ksTr_bestDivision : Cond.selects yTr_bestDivision.cls yTr_bestDivision yTr_bestDivision ∈ tbl := tb0 8 (by decide +kernel) (by decide +kernel)
theorem dTr_openPage_0 : decode bTr_openPage 0 = .ok (.iconst 1, 1) := by decide +kernel
theorem dTr_openPage_1 : decode bTr_openPage 1 = .ok (.istore_n 2, 1) := by decide +kernel
theorem dTr_openPage_2 : decode bTr_openPage 2 = .ok (.iload_n 2, 1) := by decide +kernel
theorem dTr_openPage_3 : decode bTr_openPage 3 = .ok (.bipush 40, 2) := by decide +kernel
theorem dTr_openPage_5 : decode bTr_openPage 5 = .ok (.if_icmp .ge 33, 3) := by decide +kernel
theorem dTr_openPage_8 : decode bTr_openPage 8 = .ok (.aload_n 0, 1) := by decide +kernel
theorem dTr_openPage_9 : decode bTr_openPage 9 = .ok (.getfield 11, 3) := by decide +kernel
theorem dTr_openPage_12 : decode bTr_openPage 12 = .ok (.iload_n 2, 1) := by decide +kernel
theorem dTr_openPage_13 : decode bTr_openPage 13 = .ok (.aaload, 1) := by decide +kernel
theorem dTr_openPage_14 : decode bTr_openPage 14 = .ok (.getfield 35, 3) := by decide +kernel
theorem dTr_openPage_17 : decode bTr_openPage 17 = .ok (.ifCond .ne 15, 3) := by decide +kernel
theorem dTr_openPage_20 : decode bTr_openPage 20 = .ok (.aload_n 0, 1) := by decide +kernel
theorem dTr_openPage_21 : decode bTr_openPage 21 = .ok (.getfield 11, 3) := by decide +kernel
theorem dTr_openPage_24 : decode bTr_openPage 24 = .ok (.iload_n 2, 1) := by decide +kernel
theorem dTr_openPage_25 : decode bTr_openPage 25 = .ok (.aaload, 1) := by decide +kernel
theorem dTr_openPage_26 : decode bTr_openPage 26 = .ok (.iload_n 1, 1) := by decide +kernel
theorem dTr_openPage_27 : decode bTr_openPage 27 = .ok (.invokevirtual 104, 3) := by decide +kernel
theorem dTr_openPage_30 : decode bTr_openPage 30 = .ok (.iload_n 2, 1) := by decide +kernel
theorem dTr_openPage_31 : decode bTr_openPage 31 = .ok (.ireturn, 1) := by decide +kernel
theorem dTr_openPage_32 : decode bTr_openPage 32 = .ok (.iinc 2 1, 3) := by decide +kernel
theorem dTr_openPage_35 : decode bTr_openPage 35 = .ok (.goto (-33), 3) := by decide +kernel
theorem dTr_openPage_38 : decode bTr_openPage 38 = .ok (.iconst 0, 1) := by decide +kernel
theorem dTr_openPage_39 : decode bTr_openPage 39 = .ok (.ireturn, 1) := by decide +kernel
abbrev wTr_openPage : List Cond := Cond.code yTr_openPage bTr_openPage 3 (some .int)   :: tbl
theorem kcTr_openPage : Cond.code yTr_openPage bTr_openPage 3 (some .int) ∈ tbl := tb2 89 (by decide +kernel) (by decide +kernel)
theorem kiTr_openPage : Cond.instanceMethod yTr_openPage ∈ tbl := tb2 88 (by decide +kernel) (by decide +kernel)
theorem ksTr_openPage : Cond.selects yTr_openPage.cls yTr_openPage yTr_openPage ∈ tbl := tb0 7 (by decide +kernel) (by decide +kernel)
theorem dTr_entriesBelow_0 : decode bTr_entriesBelow 0 = .ok (.aload_n 0, 1) := by decide +kernel
theorem dTr_entriesBelow_1 : decode bTr_entriesBelow 1 = .ok (.iload_n 1, 1) := by decide +kernel
theorem dTr_entriesBelow_2 : decode bTr_entriesBelow 2 = .ok (.invokevirtual 46, 3) := by decide +kernel
theorem dTr_entriesBelow_5 : decode bTr_entriesBelow 5 = .ok (.astore_n 3, 1) := by decide +kernel
theorem dTr_entriesBelow_6 : decode bTr_entriesBelow 6 = .ok (.iload_n 2, 1) := by decide +kernel
theorem dTr_entriesBelow_7 : decode bTr_entriesBelow 7 = .ok (.iconst 1, 1) := by decide +kernel
theorem dTr_entriesBelow_8 : decode bTr_entriesBelow 8 = .ok (.if_icmp .lt 35, 3) := by decide +kernel
theorem dTr_entriesBelow_11 : decode bTr_entriesBelow 11 = .ok (.aload_n 3, 1) := by decide +kernel
theorem dTr_entriesBelow_12 : decode bTr_entriesBelow 12 = .ok (.getfield 35, 3) := by decide +kernel
theorem dTr_entriesBelow_15 : decode bTr_entriesBelow 15 = .ok (.iload_n 2, 1) := by decide +kernel
theorem dTr_entriesBelow_16 : decode bTr_entriesBelow 16 = .ok (.if_icmp .ne 27, 3) := by decide +kernel
theorem dTr_entriesBelow_19 : decode bTr_entriesBelow 19 = .ok (.aload_n 3, 1) := by decide +kernel
theorem dTr_entriesBelow_20 : decode bTr_entriesBelow 20 = .ok (.getfield 129, 3) := by decide +kernel
theorem dTr_entriesBelow_23 : decode bTr_entriesBelow 23 = .ok (.iconst 5, 1) := by decide +kernel
theorem dTr_entriesBelow_24 : decode bTr_entriesBelow 24 = .ok (.if_icmp .gt 19, 3) := by decide +kernel
theorem dTr_entriesBelow_27 : decode bTr_entriesBelow 27 = .ok (.iload_n 1, 1) := by decide +kernel
theorem dTr_entriesBelow_28 : decode bTr_entriesBelow 28 = .ok (.aload_n 0, 1) := by decide +kernel
theorem dTr_entriesBelow_29 : decode bTr_entriesBelow 29 = .ok (.getfield 39, 3) := by decide +kernel
theorem dTr_entriesBelow_32 : decode bTr_entriesBelow 32 = .ok (.if_icmp .eq 13, 3) := by decide +kernel
theorem dTr_entriesBelow_35 : decode bTr_entriesBelow 35 = .ok (.aload_n 3, 1) := by decide +kernel
theorem dTr_entriesBelow_36 : decode bTr_entriesBelow 36 = .ok (.getfield 129, 3) := by decide +kernel
theorem dTr_entriesBelow_39 : decode bTr_entriesBelow 39 = .ok (.iconst 2, 1) := by decide +kernel
theorem dTr_entriesBelow_40 : decode bTr_entriesBelow 40 = .ok (.if_icmp .ge 5, 3) := by decide +kernel
theorem dTr_entriesBelow_43 : decode bTr_entriesBelow 43 = .ok (.iconst (-1), 1) := by decide +kernel
theorem dTr_entriesBelow_44 : decode bTr_entriesBelow 44 = .ok (.ireturn, 1) := by decide +kernel
theorem dTr_entriesBelow_45 : decode bTr_entriesBelow 45 = .ok (.iload_n 2, 1) := by decide +kernel
theorem dTr_entriesBelow_46 : decode bTr_entriesBelow 46 = .ok (.iconst 1, 1) := by decide +kernel
theorem dTr_entriesBelow_47 : decode bTr_entriesBelow 47 = .ok (.if_icmp .ne 8, 3) := by decide +kernel
theorem dTr_entriesBelow_50 : decode bTr_entriesBelow 50 = .ok (.aload_n 3, 1) := by decide +kernel
theorem dTr_entriesBelow_51 : decode bTr_entriesBelow 51 = .ok (.getfield 129, 3) := by decide +kernel
theorem dTr_entriesBelow_54 : decode bTr_entriesBelow 54 = .ok (.ireturn, 1) := by decide +kernel
theorem dTr_entriesBelow_55 : decode bTr_entriesBelow 55 = .ok (.iconst 0, 1) := by decide +kernel
theorem dTr_entriesBelow_56 : decode bTr_entriesBelow 56 = .ok (.istore 4, 2) := by decide +kernel
theorem dTr_entriesBelow_58 : decode bTr_entriesBelow 58 = .ok (.iconst 0, 1) := by decide +kernel
theorem dTr_entriesBelow_59 : decode bTr_entriesBelow 59 = .ok (.istore 5, 2) := by decide +kernel
theorem dTr_entriesBelow_61 : decode bTr_entriesBelow 61 = .ok (.iload 5, 2) := by decide +kernel
theorem dTr_entriesBelow_63 : decode bTr_entriesBelow 63 = .ok (.aload_n 3, 1) := by decide +kernel
theorem dTr_entriesBelow_64 : decode bTr_entriesBelow 64 = .ok (.getfield 129, 3) := by decide +kernel
theorem dTr_entriesBelow_67 : decode bTr_entriesBelow 67 = .ok (.if_icmp .ge 91, 3) := by decide +kernel
theorem dTr_entriesBelow_70 : decode bTr_entriesBelow 70 = .ok (.aload_n 3, 1) := by decide +kernel
theorem dTr_entriesBelow_71 : decode bTr_entriesBelow 71 = .ok (.getfield 122, 3) := by decide +kernel
theorem dTr_entriesBelow_74 : decode bTr_entriesBelow 74 = .ok (.iload 5, 2) := by decide +kernel
theorem dTr_entriesBelow_76 : decode bTr_entriesBelow 76 = .ok (.aaload, 1) := by decide +kernel
theorem dTr_entriesBelow_77 : decode bTr_entriesBelow 77 = .ok (.astore 6, 2) := by decide +kernel
theorem dTr_entriesBelow_79 : decode bTr_entriesBelow 79 = .ok (.aload_n 0, 1) := by decide +kernel
theorem dTr_entriesBelow_80 : decode bTr_entriesBelow 80 = .ok (.getfield 27, 3) := by decide +kernel
theorem dTr_entriesBelow_83 : decode bTr_entriesBelow 83 = .ok (.aload 6, 2) := by decide +kernel
theorem dTr_entriesBelow_85 : decode bTr_entriesBelow 85 = .ok (.getfield 126, 3) := by decide +kernel
theorem dTr_entriesBelow_88 : decode bTr_entriesBelow 88 = .ok (.putfield 126, 3) := by decide +kernel
theorem dTr_entriesBelow_91 : decode bTr_entriesBelow 91 = .ok (.aload_n 0, 1) := by decide +kernel
theorem dTr_entriesBelow_92 : decode bTr_entriesBelow 92 = .ok (.aload 6, 2) := by decide +kernel
theorem dTr_entriesBelow_94 : decode bTr_entriesBelow 94 = .ok (.getfield 126, 3) := by decide +kernel
theorem dTr_entriesBelow_97 : decode bTr_entriesBelow 97 = .ok (.invokevirtual 46, 3) := by decide +kernel
theorem dTr_entriesBelow_100 : decode bTr_entriesBelow 100 = .ok (.iconst (-1), 1) := by decide +kernel
theorem dTr_entriesBelow_101 : decode bTr_entriesBelow 101 = .ok (.aload_n 0, 1) := by decide +kernel
theorem dTr_entriesBelow_102 : decode bTr_entriesBelow 102 = .ok (.getfield 27, 3) := by decide +kernel
theorem dTr_entriesBelow_105 : decode bTr_entriesBelow 105 = .ok (.invokevirtual 168, 3) := by decide +kernel
theorem dTr_entriesBelow_108 : decode bTr_entriesBelow 108 = .ok (.aload 6, 2) := by decide +kernel
theorem dTr_entriesBelow_110 : decode bTr_entriesBelow 110 = .ok (.aload_n 0, 1) := by decide +kernel
theorem dTr_entriesBelow_111 : decode bTr_entriesBelow 111 = .ok (.getfield 27, 3) := by decide +kernel
theorem dTr_entriesBelow_114 : decode bTr_entriesBelow 114 = .ok (.invokevirtual 132, 3) := by decide +kernel
theorem dTr_entriesBelow_117 : decode bTr_entriesBelow 117 = .ok (.ifCond .eq 18, 3) := by decide +kernel
theorem dTr_entriesBelow_120 : decode bTr_entriesBelow 120 = .ok (.aload_n 0, 1) := by decide +kernel
theorem dTr_entriesBelow_121 : decode bTr_entriesBelow 121 = .ok (.aload 6, 2) := by decide +kernel
theorem dTr_entriesBelow_123 : decode bTr_entriesBelow 123 = .ok (.getfield 126, 3) := by decide +kernel
theorem dTr_entriesBelow_126 : decode bTr_entriesBelow 126 = .ok (.iload_n 2, 1) := by decide +kernel
theorem dTr_entriesBelow_127 : decode bTr_entriesBelow 127 = .ok (.iconst 1, 1) := by decide +kernel
theorem dTr_entriesBelow_128 : decode bTr_entriesBelow 128 = .ok (.isub, 1) := by decide +kernel
theorem dTr_entriesBelow_129 : decode bTr_entriesBelow 129 = .ok (.invokestatic 76, 3) := by decide +kernel
theorem dTr_entriesBelow_132 : decode bTr_entriesBelow 132 = .ok (.goto 4, 3) := by decide +kernel
theorem dTr_entriesBelow_135 : decode bTr_entriesBelow 135 = .ok (.iconst (-1), 1) := by decide +kernel
theorem dTr_entriesBelow_136 : decode bTr_entriesBelow 136 = .ok (.istore 7, 2) := by decide +kernel
theorem dTr_entriesBelow_138 : decode bTr_entriesBelow 138 = .ok (.iload 7, 2) := by decide +kernel
theorem dTr_entriesBelow_140 : decode bTr_entriesBelow 140 = .ok (.ifCond .ge 5, 3) := by decide +kernel
theorem dTr_entriesBelow_143 : decode bTr_entriesBelow 143 = .ok (.iconst (-1), 1) := by decide +kernel
theorem dTr_entriesBelow_144 : decode bTr_entriesBelow 144 = .ok (.ireturn, 1) := by decide +kernel
theorem dTr_entriesBelow_145 : decode bTr_entriesBelow 145 = .ok (.iload 4, 2) := by decide +kernel
theorem dTr_entriesBelow_147 : decode bTr_entriesBelow 147 = .ok (.iload 7, 2) := by decide +kernel
theorem dTr_entriesBelow_149 : decode bTr_entriesBelow 149 = .ok (.iadd, 1) := by decide +kernel
theorem dTr_entriesBelow_150 : decode bTr_entriesBelow 150 = .ok (.istore 4, 2) := by decide +kernel
theorem dTr_entriesBelow_152 : decode bTr_entriesBelow 152 = .ok (.iinc 5 1, 3) := by decide +kernel
theorem dTr_entriesBelow_155 : decode bTr_entriesBelow 155 = .ok (.goto (-94), 3) := by decide +kernel
theorem dTr_entriesBelow_158 : decode bTr_entriesBelow 158 = .ok (.iload 4, 2) := by decide +kernel
theorem dTr_entriesBelow_160 : decode bTr_entriesBelow 160 = .ok (.ireturn, 1) := by decide +kernel
abbrev wTr_entriesBelow : List Cond := Cond.code yTr_entriesBelow bTr_entriesBelow 8 (some .int)   :: tbl
theorem kcTr_entriesBelow : Cond.code yTr_entriesBelow bTr_entriesBelow 8 (some .int) ∈ tbl := tb3 93 (by decide +kernel) (by decide +kernel)
theorem ktTr_entriesBelow : Cond.static yTr_entriesBelow ∈ tbl := tb3 92 (by decide +kernel) (by decide +kernel)
theorem kfTr_11 : Cond.fieldLink RTr 11 (TTr 3).1 (TTr 3).2.1 (TTr 3).2.2.1 ∈ tbl := tb1 121 (by decide +kernel) (by decide +kernel)
theorem kfTr_17 : Cond.fieldLink RTr 17 (TTr 4).1 (TTr 4).2.1 (TTr 4).2.2.1 ∈ tbl := tb1 122 (by decide +kernel) (by decide +kernel)
theorem kfTr_21 : Cond.fieldLink RTr 21 (TTr 5).1 (TTr 5).2.1 (TTr 5).2.2.1 ∈ tbl := tb1 123 (by decide +kernel) (by decide +kernel)
theorem kfTr_27 : Cond.fieldLink RTr 27 (TTr 6).1 (TTr 6).2.1 (TTr 6).2.2.1 ∈ tbl := tb1 124 (by decide +kernel) (by decide +kernel)
theorem kfTr_31 : Cond.fieldLink RTr 31 (TTr 7).1 (TTr 7).2.1 (TTr 7).2.2.1 ∈ tbl := tb1 125 (by decide +kernel) (by decide +kernel)
theorem kfTr_35 : Cond.fieldLink RTr 35 (TPa 0).1 (TPa 0).2.1 (TPa 0).2.2.1 ∈ tbl := tb1 95 (by decide +kernel) (by decide +kernel)
theorem kfTr_39 : Cond.fieldLink RTr 39 (TTr 0).1 (TTr 0).2.1 (TTr 0).2.2.1 ∈ tbl := tb1 115 (by decide +kernel) (by decide +kernel)
theorem kfTr_54 : Cond.fieldLink RTr 54 (TTr 1).1 (TTr 1).2.1 (TTr 1).2.2.1 ∈ tbl := tb1 119 (by decide +kernel) (by decide +kernel)
theorem kfTr_84 : Cond.fieldLink RTr 84 (TTr 2).1 (TTr 2).2.1 (TTr 2).2.2.1 ∈ tbl := tb1 120 (by decide +kernel) (by decide +kernel)
theorem kfTr_88 : Cond.fieldLink RTr 88 (TPa 2).1 (TPa 2).2.1 (TPa 2).2.2.1 ∈ tbl := tb1 102 (by decide +kernel) (by decide +kernel)
theorem kfTr_95 : Cond.fieldLink RTr 95 (TDi 0).1 (TDi 0).2.1 (TDi 0).2.2.1 ∈ tbl := tb1 28 (by decide +kernel) (by decide +kernel)
theorem kfTr_122 : Cond.fieldLink RTr 122 (TPa 3).1 (TPa 3).2.1 (TPa 3).2.2.1 ∈ tbl := tb1 105 (by decide +kernel) (by decide +kernel)
theorem kfTr_126 : Cond.fieldLink RTr 126 (TBo 4).1 (TBo 4).2.1 (TBo 4).2.2.1 ∈ tbl := tb1 75 (by decide +kernel) (by decide +kernel)
theorem kfTr_129 : Cond.fieldLink RTr 129 (TPa 1).1 (TPa 1).2.1 (TPa 1).2.2.1 ∈ tbl := tb1 100 (by decide +kernel) (by decide +kernel)
theorem kfTr_174 : Cond.constantLong RTr 174 (9223372036854775807) ∈ tbl := tb2 94 (by decide +kernel) (by decide +kernel)
