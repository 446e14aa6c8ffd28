section
-- ===== PART A: goes FIRST, ahead of the names: the tables' words, and 'selects' of the private methods out of them =====
/-- a private method of a class that the tables say can be made, by its rows of tables_1 -/
def lw_okq (q : MethodName × Nat) : Prop := (q.1.cls ≠ "java/lang/invoke/MethodHandle" ∧ q.1.cls ≠ "java/lang/invoke/VarHandle") ∧ Cond.instantiable q.1.cls q.2 ∈ tables_1 ∧ Cond.privateMethod q.1 ∈ tables_1 ∧ Cond.instanceMethod q.1 ∈ tables_1
theorem lw_p0 : lw_okq (⟨"BoxedPages$Tree", "descend", "(LBoxedPages$Box;)I"⟩, 8) := ⟨⟨by decide +kernel, by decide +kernel⟩, List.mem_of_getElem? (i := 46) (by decide +kernel), List.mem_of_getElem? (i := 235) (by decide +kernel), List.mem_of_getElem? (i := 236) (by decide +kernel)⟩
theorem lw_p1 : lw_okq (⟨"BoxedPages$Tree", "lowestDepth", "()I"⟩, 8) := ⟨⟨by decide +kernel, by decide +kernel⟩, List.mem_of_getElem? (i := 46) (by decide +kernel), List.mem_of_getElem? (i := 239) (by decide +kernel), List.mem_of_getElem? (i := 240) (by decide +kernel)⟩
theorem lw_p2 : lw_okq (⟨"BoxedPages$Tree", "writeHeader", "(II)V"⟩, 8) := ⟨⟨by decide +kernel, by decide +kernel⟩, List.mem_of_getElem? (i := 46) (by decide +kernel), List.mem_of_getElem? (i := 276) (by decide +kernel), List.mem_of_getElem? (i := 277) (by decide +kernel)⟩
theorem lw_p3 : lw_okq (⟨"BoxedPages$Tree", "climb", "(I)V"⟩, 8) := ⟨⟨by decide +kernel, by decide +kernel⟩, List.mem_of_getElem? (i := 46) (by decide +kernel), List.mem_of_getElem? (i := 280) (by decide +kernel), List.mem_of_getElem? (i := 281) (by decide +kernel)⟩
theorem lw_p4 : lw_okq (⟨"BoxedPages$Tree", "mend", "(LBoxedPages$Page;I)V"⟩, 8) := ⟨⟨by decide +kernel, by decide +kernel⟩, List.mem_of_getElem? (i := 46) (by decide +kernel), List.mem_of_getElem? (i := 284) (by decide +kernel), List.mem_of_getElem? (i := 285) (by decide +kernel)⟩
theorem lw_p5 : lw_okq (⟨"BoxedPages$Tree", "tellFrame", "(LBoxedPages$Page;I)V"⟩, 8) := ⟨⟨by decide +kernel, by decide +kernel⟩, List.mem_of_getElem? (i := 46) (by decide +kernel), List.mem_of_getElem? (i := 288) (by decide +kernel), List.mem_of_getElem? (i := 289) (by decide +kernel)⟩
theorem lw_p6 : lw_okq (⟨"BoxedPages$Tree", "merge", "(LBoxedPages$Page;II)V"⟩, 8) := ⟨⟨by decide +kernel, by decide +kernel⟩, List.mem_of_getElem? (i := 46) (by decide +kernel), List.mem_of_getElem? (i := 315) (by decide +kernel), List.mem_of_getElem? (i := 316) (by decide +kernel)⟩
theorem lw_p7 : lw_okq (⟨"BoxedPages$Tree", "openPage", "(I)I"⟩, 8) := ⟨⟨by decide +kernel, by decide +kernel⟩, List.mem_of_getElem? (i := 46) (by decide +kernel), List.mem_of_getElem? (i := 327) (by decide +kernel), List.mem_of_getElem? (i := 328) (by decide +kernel)⟩
theorem lw_p8 : lw_okq (⟨"BoxedPages$Tree", "bestDivision", "(LBoxedPages$Page;)I"⟩, 8) := ⟨⟨by decide +kernel, by decide +kernel⟩, List.mem_of_getElem? (i := 46) (by decide +kernel), List.mem_of_getElem? (i := 331) (by decide +kernel), List.mem_of_getElem? (i := 332) (by decide +kernel)⟩
theorem lw_p9 : lw_okq (⟨"BoxedPages$Tree", "moveOut", "(LBoxedPages$Page;ILBoxedPages$Page;)V"⟩, 8) := ⟨⟨by decide +kernel, by decide +kernel⟩, List.mem_of_getElem? (i := 46) (by decide +kernel), List.mem_of_getElem? (i := 347) (by decide +kernel), List.mem_of_getElem? (i := 348) (by decide +kernel)⟩
theorem lw_p10 : lw_okq (⟨"BoxedPages$Tree", "hang", "(LBoxedPages$Page;I)V"⟩, 8) := ⟨⟨by decide +kernel, by decide +kernel⟩, List.mem_of_getElem? (i := 46) (by decide +kernel), List.mem_of_getElem? (i := 351) (by decide +kernel), List.mem_of_getElem? (i := 352) (by decide +kernel)⟩
theorem lw_p11 : lw_okq (⟨"BoxedPages", "settle", "(I)I"⟩, 7) := ⟨⟨by decide +kernel, by decide +kernel⟩, List.mem_of_getElem? (i := 12) (by decide +kernel), List.mem_of_getElem? (i := 355) (by decide +kernel), List.mem_of_getElem? (i := 356) (by decide +kernel)⟩
theorem lw_p12 : lw_okq (⟨"BoxedPages$Disk", "writeLog", "(LBoxedPages$Tree;I)V"⟩, 5) := ⟨⟨by decide +kernel, by decide +kernel⟩, List.mem_of_getElem? (i := 20) (by decide +kernel), List.mem_of_getElem? (i := 371) (by decide +kernel), List.mem_of_getElem? (i := 372) (by decide +kernel)⟩
theorem lw_p13 : lw_okq (⟨"BoxedPages$Disk", "writePlaces", "(I)V"⟩, 5) := ⟨⟨by decide +kernel, by decide +kernel⟩, List.mem_of_getElem? (i := 20) (by decide +kernel), List.mem_of_getElem? (i := 384) (by decide +kernel), List.mem_of_getElem? (i := 385) (by decide +kernel)⟩
theorem lw_p14 : lw_okq (⟨"BoxedPages$Disk", "emptyLog", "()V"⟩, 5) := ⟨⟨by decide +kernel, by decide +kernel⟩, List.mem_of_getElem? (i := 20) (by decide +kernel), List.mem_of_getElem? (i := 391) (by decide +kernel), List.mem_of_getElem? (i := 392) (by decide +kernel)⟩
theorem lw_p15 : lw_okq (⟨"BoxedPages", "losePower", "()V"⟩, 7) := ⟨⟨by decide +kernel, by decide +kernel⟩, List.mem_of_getElem? (i := 12) (by decide +kernel), List.mem_of_getElem? (i := 399) (by decide +kernel), List.mem_of_getElem? (i := 400) (by decide +kernel)⟩
def lw_privs_1 : List (MethodName × Nat) := [(⟨"BoxedPages$Tree", "descend", "(LBoxedPages$Box;)I"⟩, 8), (⟨"BoxedPages$Tree", "lowestDepth", "()I"⟩, 8), (⟨"BoxedPages$Tree", "writeHeader", "(II)V"⟩, 8), (⟨"BoxedPages$Tree", "climb", "(I)V"⟩, 8), (⟨"BoxedPages$Tree", "mend", "(LBoxedPages$Page;I)V"⟩, 8), (⟨"BoxedPages$Tree", "tellFrame", "(LBoxedPages$Page;I)V"⟩, 8), (⟨"BoxedPages$Tree", "merge", "(LBoxedPages$Page;II)V"⟩, 8), (⟨"BoxedPages$Tree", "openPage", "(I)I"⟩, 8), (⟨"BoxedPages$Tree", "bestDivision", "(LBoxedPages$Page;)I"⟩, 8), (⟨"BoxedPages$Tree", "moveOut", "(LBoxedPages$Page;ILBoxedPages$Page;)V"⟩, 8), (⟨"BoxedPages$Tree", "hang", "(LBoxedPages$Page;I)V"⟩, 8), (⟨"BoxedPages", "settle", "(I)I"⟩, 7), (⟨"BoxedPages$Disk", "writeLog", "(LBoxedPages$Tree;I)V"⟩, 5), (⟨"BoxedPages$Disk", "writePlaces", "(I)V"⟩, 5), (⟨"BoxedPages$Disk", "emptyLog", "()V"⟩, 5), (⟨"BoxedPages", "losePower", "()V"⟩, 7)]
theorem lw_r1 : ∀ q ∈ lw_privs_1, lw_okq q := List.forall_mem_cons.mpr ⟨lw_p0, List.forall_mem_cons.mpr ⟨lw_p1, List.forall_mem_cons.mpr ⟨lw_p2, List.forall_mem_cons.mpr ⟨lw_p3, List.forall_mem_cons.mpr ⟨lw_p4, List.forall_mem_cons.mpr ⟨lw_p5, List.forall_mem_cons.mpr ⟨lw_p6, List.forall_mem_cons.mpr ⟨lw_p7, List.forall_mem_cons.mpr ⟨lw_p8, List.forall_mem_cons.mpr ⟨lw_p9, List.forall_mem_cons.mpr ⟨lw_p10, List.forall_mem_cons.mpr ⟨lw_p11, List.forall_mem_cons.mpr ⟨lw_p12, List.forall_mem_cons.mpr ⟨lw_p13, List.forall_mem_cons.mpr ⟨lw_p14, List.forall_mem_cons.mpr ⟨lw_p15, fun _ h => absurd h List.not_mem_nil⟩⟩⟩⟩⟩⟩⟩⟩⟩⟩⟩⟩⟩⟩⟩⟩
theorem lw_p16 : lw_okq (⟨"BoxedPages", "searchWindow", "(IIII)V"⟩, 7) := ⟨⟨by decide +kernel, by decide +kernel⟩, List.mem_of_getElem? (i := 12) (by decide +kernel), List.mem_of_getElem? (i := 427) (by decide +kernel), List.mem_of_getElem? (i := 428) (by decide +kernel)⟩
theorem lw_p17 : lw_okq (⟨"BoxedPages$Search", "begin", "(I)V"⟩, 10) := ⟨⟨by decide +kernel, by decide +kernel⟩, List.mem_of_getElem? (i := 144) (by decide +kernel), List.mem_of_getElem? (i := 435) (by decide +kernel), List.mem_of_getElem? (i := 436) (by decide +kernel)⟩
theorem lw_p18 : lw_okq (⟨"BoxedPages$Search", "await", "(IJ)V"⟩, 10) := ⟨⟨by decide +kernel, by decide +kernel⟩, List.mem_of_getElem? (i := 144) (by decide +kernel), List.mem_of_getElem? (i := 439) (by decide +kernel), List.mem_of_getElem? (i := 440) (by decide +kernel)⟩
theorem lw_p19 : lw_okq (⟨"BoxedPages$Search", "lookInto", "(LBoxedPages$Tree;I)LBoxedPages$Page;"⟩, 10) := ⟨⟨by decide +kernel, by decide +kernel⟩, List.mem_of_getElem? (i := 144) (by decide +kernel), List.mem_of_getElem? (i := 443) (by decide +kernel), List.mem_of_getElem? (i := 444) (by decide +kernel)⟩
theorem lw_p20 : lw_okq (⟨"BoxedPages$Search", "keepInOrder", "(LBoxedPages$Box;)V"⟩, 10) := ⟨⟨by decide +kernel, by decide +kernel⟩, List.mem_of_getElem? (i := 144) (by decide +kernel), List.mem_of_getElem? (i := 452) (by decide +kernel), List.mem_of_getElem? (i := 453) (by decide +kernel)⟩
theorem lw_p21 : lw_okq (⟨"BoxedPages", "noteThrift", "()V"⟩, 7) := ⟨⟨by decide +kernel, by decide +kernel⟩, List.mem_of_getElem? (i := 12) (by decide +kernel), List.mem_of_getElem? (i := 500) (by decide +kernel), List.mem_of_getElem? (i := 501) (by decide +kernel)⟩
theorem lw_p22 : lw_okq (⟨"BoxedPages", "searchPoint", "(II)V"⟩, 7) := ⟨⟨by decide +kernel, by decide +kernel⟩, List.mem_of_getElem? (i := 12) (by decide +kernel), List.mem_of_getElem? (i := 528) (by decide +kernel), List.mem_of_getElem? (i := 529) (by decide +kernel)⟩
theorem lw_p23 : lw_okq (⟨"BoxedPages$Search", "nearestWaiting", "()I"⟩, 10) := ⟨⟨by decide +kernel, by decide +kernel⟩, List.mem_of_getElem? (i := 144) (by decide +kernel), List.mem_of_getElem? (i := 537) (by decide +kernel), List.mem_of_getElem? (i := 538) (by decide +kernel)⟩
theorem lw_p24 : lw_okq (⟨"BoxedPages$Search", "keepCloser", "(LBoxedPages$Box;J)V"⟩, 10) := ⟨⟨by decide +kernel, by decide +kernel⟩, List.mem_of_getElem? (i := 144) (by decide +kernel), List.mem_of_getElem? (i := 545) (by decide +kernel), List.mem_of_getElem? (i := 546) (by decide +kernel)⟩
theorem lw_p25 : lw_okq (⟨"BoxedPagesModel", "counts", "()Z"⟩, 4) := ⟨⟨by decide +kernel, by decide +kernel⟩, List.mem_of_getElem? (i := 579) (by decide +kernel), List.mem_of_getElem? (i := 613) (by decide +kernel), List.mem_of_getElem? (i := 614) (by decide +kernel)⟩
theorem lw_p26 : lw_okq (⟨"BoxedPagesModel", "set", "(III)V"⟩, 4) := ⟨⟨by decide +kernel, by decide +kernel⟩, List.mem_of_getElem? (i := 579) (by decide +kernel), List.mem_of_getElem? (i := 617) (by decide +kernel), List.mem_of_getElem? (i := 618) (by decide +kernel)⟩
theorem lw_p27 : lw_okq (⟨"BoxedPagesModel", "before", "(II)Z"⟩, 4) := ⟨⟨by decide +kernel, by decide +kernel⟩, List.mem_of_getElem? (i := 579) (by decide +kernel), List.mem_of_getElem? (i := 621) (by decide +kernel), List.mem_of_getElem? (i := 622) (by decide +kernel)⟩
theorem lw_p28 : lw_okq (⟨"BoxedPagesModel", "part", "(II)I"⟩, 4) := ⟨⟨by decide +kernel, by decide +kernel⟩, List.mem_of_getElem? (i := 579) (by decide +kernel), List.mem_of_getElem? (i := 625) (by decide +kernel), List.mem_of_getElem? (i := 626) (by decide +kernel)⟩
theorem lw_p29 : lw_okq (⟨"BoxedPagesModel", "ended", "(I)I"⟩, 4) := ⟨⟨by decide +kernel, by decide +kernel⟩, List.mem_of_getElem? (i := 579) (by decide +kernel), List.mem_of_getElem? (i := 629) (by decide +kernel), List.mem_of_getElem? (i := 630) (by decide +kernel)⟩
theorem lw_p30 : lw_okq (⟨"BoxedPagesModel", "is", "(IIIII)Z"⟩, 4) := ⟨⟨by decide +kernel, by decide +kernel⟩, List.mem_of_getElem? (i := 579) (by decide +kernel), List.mem_of_getElem? (i := 637) (by decide +kernel), List.mem_of_getElem? (i := 638) (by decide +kernel)⟩
theorem lw_p31 : lw_okq (⟨"BoxedPagesModel", "remove", "(I)V"⟩, 4) := ⟨⟨by decide +kernel, by decide +kernel⟩, List.mem_of_getElem? (i := 579) (by decide +kernel), List.mem_of_getElem? (i := 641) (by decide +kernel), List.mem_of_getElem? (i := 642) (by decide +kernel)⟩
def lw_privs_2 : List (MethodName × Nat) := [(⟨"BoxedPages", "searchWindow", "(IIII)V"⟩, 7), (⟨"BoxedPages$Search", "begin", "(I)V"⟩, 10), (⟨"BoxedPages$Search", "await", "(IJ)V"⟩, 10), (⟨"BoxedPages$Search", "lookInto", "(LBoxedPages$Tree;I)LBoxedPages$Page;"⟩, 10), (⟨"BoxedPages$Search", "keepInOrder", "(LBoxedPages$Box;)V"⟩, 10), (⟨"BoxedPages", "noteThrift", "()V"⟩, 7), (⟨"BoxedPages", "searchPoint", "(II)V"⟩, 7), (⟨"BoxedPages$Search", "nearestWaiting", "()I"⟩, 10), (⟨"BoxedPages$Search", "keepCloser", "(LBoxedPages$Box;J)V"⟩, 10), (⟨"BoxedPagesModel", "counts", "()Z"⟩, 4), (⟨"BoxedPagesModel", "set", "(III)V"⟩, 4), (⟨"BoxedPagesModel", "before", "(II)Z"⟩, 4), (⟨"BoxedPagesModel", "part", "(II)I"⟩, 4), (⟨"BoxedPagesModel", "ended", "(I)I"⟩, 4), (⟨"BoxedPagesModel", "is", "(IIIII)Z"⟩, 4), (⟨"BoxedPagesModel", "remove", "(I)V"⟩, 4)]
theorem lw_r2 : ∀ q ∈ lw_privs_2, lw_okq q := List.forall_mem_cons.mpr ⟨lw_p16, List.forall_mem_cons.mpr ⟨lw_p17, List.forall_mem_cons.mpr ⟨lw_p18, List.forall_mem_cons.mpr ⟨lw_p19, List.forall_mem_cons.mpr ⟨lw_p20, List.forall_mem_cons.mpr ⟨lw_p21, List.forall_mem_cons.mpr ⟨lw_p22, List.forall_mem_cons.mpr ⟨lw_p23, List.forall_mem_cons.mpr ⟨lw_p24, List.forall_mem_cons.mpr ⟨lw_p25, List.forall_mem_cons.mpr ⟨lw_p26, List.forall_mem_cons.mpr ⟨lw_p27, List.forall_mem_cons.mpr ⟨lw_p28, List.forall_mem_cons.mpr ⟨lw_p29, List.forall_mem_cons.mpr ⟨lw_p30, List.forall_mem_cons.mpr ⟨lw_p31, fun _ h => absurd h List.not_mem_nil⟩⟩⟩⟩⟩⟩⟩⟩⟩⟩⟩⟩⟩⟩⟩⟩
theorem lw_p32 : lw_okq (⟨"BoxedPagesModel", "meeting", "(IIIII)I"⟩, 4) := ⟨⟨by decide +kernel, by decide +kernel⟩, List.mem_of_getElem? (i := 579) (by decide +kernel), List.mem_of_getElem? (i := 649) (by decide +kernel), List.mem_of_getElem? (i := 650) (by decide +kernel)⟩
theorem lw_p33 : lw_okq (⟨"BoxedPagesModel", "meets", "(IIIII)Z"⟩, 4) := ⟨⟨by decide +kernel, by decide +kernel⟩, List.mem_of_getElem? (i := 579) (by decide +kernel), List.mem_of_getElem? (i := 653) (by decide +kernel), List.mem_of_getElem? (i := 654) (by decide +kernel)⟩
theorem lw_p34 : lw_okq (⟨"BoxedPagesModel", "nearestOne", "(II)I"⟩, 4) := ⟨⟨by decide +kernel, by decide +kernel⟩, List.mem_of_getElem? (i := 579) (by decide +kernel), List.mem_of_getElem? (i := 694) (by decide +kernel), List.mem_of_getElem? (i := 695) (by decide +kernel)⟩
theorem lw_p35 : lw_okq (⟨"BoxedPagesModel", "farFrom", "(III)J"⟩, 4) := ⟨⟨by decide +kernel, by decide +kernel⟩, List.mem_of_getElem? (i := 579) (by decide +kernel), List.mem_of_getElem? (i := 698) (by decide +kernel), List.mem_of_getElem? (i := 699) (by decide +kernel)⟩
def lw_privs_3 : List (MethodName × Nat) := [(⟨"BoxedPagesModel", "meeting", "(IIIII)I"⟩, 4), (⟨"BoxedPagesModel", "meets", "(IIIII)Z"⟩, 4), (⟨"BoxedPagesModel", "nearestOne", "(II)I"⟩, 4), (⟨"BoxedPagesModel", "farFrom", "(III)J"⟩, 4)]
theorem lw_r3 : ∀ q ∈ lw_privs_3, lw_okq q := List.forall_mem_cons.mpr ⟨lw_p32, List.forall_mem_cons.mpr ⟨lw_p33, List.forall_mem_cons.mpr ⟨lw_p34, List.forall_mem_cons.mpr ⟨lw_p35, fun _ h => absurd h List.not_mem_nil⟩⟩⟩⟩
def lw_privs : List (MethodName × Nat) := lw_privs_1 ++ (lw_privs_2 ++ (lw_privs_3))
def lw_tbl : List Cond := k2_sels lw_privs ++ tables_1
theorem lw_privs_ok : ∀ q ∈ lw_privs, lw_okq q := by
  show ∀ q ∈ lw_privs_1 ++ (lw_privs_2 ++ (lw_privs_3)), lw_okq q
  exact List.forall_mem_append.mpr ⟨lw_r1, List.forall_mem_append.mpr ⟨lw_r2, lw_r3⟩⟩
/-- the words that go from method to method -/
def tbl : List Cond := lw_tbl.filter goodWord
theorem tb0 {w : Cond} (i : Nat) (h : (k2_sels lw_privs)[i]? = some w) (g : goodWord w = true) : w ∈ tbl := List.mem_filter.mpr ⟨List.mem_append_left _ (List.mem_of_getElem? h), g⟩
theorem tb1 {w : Cond} (i : Nat) (h : tables_1_1[i]? = some w) (g : goodWord w = true) : w ∈ tbl := List.mem_filter.mpr ⟨List.mem_append_right _ (List.mem_append_left _ (List.mem_of_getElem? h)), g⟩
theorem tb2 {w : Cond} (i : Nat) (h : tables_1_2[i]? = some w) (g : goodWord w = true) : w ∈ tbl := List.mem_filter.mpr ⟨List.mem_append_right _ (List.mem_append_right _ (List.mem_append_left _ (List.mem_of_getElem? h))), g⟩
theorem tb3 {w : Cond} (i : Nat) (h : tables_1_3[i]? = some w) (g : goodWord w = true) : w ∈ tbl := List.mem_filter.mpr ⟨List.mem_append_right _ (List.mem_append_right _ (List.mem_append_right _ (List.mem_append_left _ (List.mem_of_getElem? h)))), g⟩
theorem tb4 {w : Cond} (i : Nat) (h : tables_1_4[i]? = some w) (g : goodWord w = true) : w ∈ tbl := List.mem_filter.mpr ⟨List.mem_append_right _ (List.mem_append_right _ (List.mem_append_right _ (List.mem_append_right _ (List.mem_of_getElem? h)))), g⟩
theorem tb_good : ∀ w ∈ tbl, goodWord w = true := fun w h => (List.mem_filter.mp h).2
end
section
/-! MY OWN LAYER. A world of numbered cells: the references never change, the ints and longs are a memory. VG: the machine's judgement with heap, locals and written places hidden. -/
abbrev Xt := Program × Launch × Env × Room × State × MethodId × Array Value × List Frame × Method × Code
abbrev xP (X : Xt) : Program := X.1
abbrev xL (X : Xt) : Launch := X.2.1
abbrev xE (X : Xt) : Env := X.2.2.1
abbrev xR (X : Xt) : Room := X.2.2.2.1
abbrev xS (X : Xt) : State := X.2.2.2.2.1
abbrev xM (X : Xt) : MethodId := X.2.2.2.2.2.1
abbrev xA (X : Xt) : Array Value := X.2.2.2.2.2.2.1
abbrev xB (X : Xt) : List Frame := X.2.2.2.2.2.2.2.1
abbrev xMe (X : Xt) : Method := X.2.2.2.2.2.2.2.2.1
abbrev xC (X : Xt) : Code := X.2.2.2.2.2.2.2.2.2
/-- the locals, by their places -/
def lh (ls : Array Slot) (n : Nat) (lv : List (Option Value)) : Prop := ls.size = n ∧ lv_wf ls ∧ ∀ (i : Nat) (v : Value), lv[i]? = some (some v) → ls[i]? = some (.val v)
theorem lh_at {ls : Array Slot} {n : Nat} {lv : List (Option Value)} (h : lh ls n lv) {i : Nat} {v : Value} (e : lv[i]? = some (some v)) : ls[i]? = some (.val v) := h.2.2 i v e
def kl (lv : List (Option Value)) : List (Nat × Value) := (List.range lv.length).filterMap (fun j => (lv[j]?).bind (fun o => o.map (fun v => (j, v))))
theorem kl_mem {lv : List (Option Value)} {j : Nat} {v : Value} : (j, v) ∈ kl lv ↔ lv[j]? = some (some v) := by
  unfold kl
  rw [List.mem_filterMap]
  constructor
  · rintro ⟨a, -, h⟩
    cases hl : lv[a]? with
    | none => simp [hl] at h
    | some o =>
      cases o with
      | none => simp [hl] at h
      | some w =>
        simp [hl] at h
        obtain ⟨rfl, rfl⟩ := h
        exact hl
  · intro h
    exact ⟨j, List.mem_range.mpr (List.getElem?_eq_some_iff.mp h).1, by simp [h]⟩
theorem lh_has {ls : Array Slot} {n : Nat} {lv : List (Option Value)} (h : lh ls n lv) : lv_has ls n (kl lv) := ⟨h.1, h.2.1, fun q hq => h.2.2 q.1 q.2 (kl_mem.mp hq)⟩
/-- the place before holds no long -/
def nl (lv : List (Option Value)) (i : Nat) : Bool := match i with
  | 0 => true
  | j + 1 => match lv[j]? with
    | some (some v) => v.category != 2
    | _ => true
theorem nl_at {lv : List (Option Value)} {i j : Nat} {w : Value} (hb : nl lv i = true) (hj : lv[j]? = some (some w)) (h : j + 1 = i) : ¬ w.category = 2 := by
  subst h
  simp only [nl, hj] at hb
  simpa using hb
theorem lh_st1 {ls : Array Slot} {n i : Nat} {v : Value} {lv : List (Option Value)} (h : lv_has ls n ((i, v) :: (kl lv).filter (fun q => !(q.1 == i) && !(q.1 + 1 == i && q.2.category == 2)))) (hb : nl lv i = true) : lh ls n (lv.set i (some v)) := by
  refine ⟨h.1, h.2.1, fun j w hj => ?_⟩
  by_cases hji : j = i
  · subst hji
    by_cases hl : j < lv.length
    · rw [List.getElem?_set_self hl] at hj
      cases hj
      exact h.2.2 (j, v) List.mem_cons_self
    · rw [List.getElem?_eq_none (by simpa using Nat.le_of_not_lt hl)] at hj
      cases hj
  · rw [List.getElem?_set_ne (Ne.symm hji)] at hj
    refine h.2.2 (j, w) (List.mem_cons_of_mem _ (List.mem_filter.mpr ⟨kl_mem.mpr hj, ?_⟩))
    have h2 := nl_at (w := w) hb hj
    by_cases hq : j + 1 = i
    · simp [hji, h2 hq]
    · simp [hji, hq]
theorem lh_st2 {ls : Array Slot} {n i : Nat} {v : Value} {lv : List (Option Value)} (h : lv_has ls n ((i, v) :: (kl lv).filter (fun q => !(q.1 == i) && (!(q.1 == i + 1) && !(q.1 + 1 == i && q.2.category == 2))))) (hb : nl lv i = true) : lh ls n ((lv.set i (some v)).set (i + 1) none) := by
  refine ⟨h.1, h.2.1, fun j w hj => ?_⟩
  by_cases hj1 : j = i + 1
  · subst hj1
    by_cases hl : i + 1 < (lv.set i (some v)).length
    · rw [List.getElem?_set_self hl] at hj
      cases hj
    · rw [List.getElem?_eq_none (by simpa using Nat.le_of_not_lt hl)] at hj
      cases hj
  rw [List.getElem?_set_ne (Ne.symm hj1)] at hj
  by_cases hji : j = i
  · subst hji
    by_cases hl : j < lv.length
    · rw [List.getElem?_set_self hl] at hj
      cases hj
      exact h.2.2 (j, v) List.mem_cons_self
    · rw [List.getElem?_eq_none (by simpa using Nat.le_of_not_lt hl)] at hj
      cases hj
  · rw [List.getElem?_set_ne (Ne.symm hji)] at hj
    refine h.2.2 (j, w) (List.mem_cons_of_mem _ (List.mem_filter.mpr ⟨kl_mem.mpr hj, ?_⟩))
    have h2 := nl_at (w := w) hb hj
    by_cases hq : j + 1 = i
    · simp [hji, hj1, h2 hq]
    · simp [hji, hj1, hq]
/-- the locals of a method's entry -/
def lo (L : List (Nat × Value)) (i : Nat) : Option Value := match L with
  | [] => none
  | q :: t => if q.1 = i then some q.2 else lo t i
theorem lo_mem {i : Nat} {v : Value} : ∀ {L : List (Nat × Value)}, lo L i = some v → (i, v) ∈ L
  | [], h => by simp [lo] at h
  | q :: t, h => by
    unfold lo at h
    by_cases hq : q.1 = i
    · rw [if_pos hq] at h
      cases h
      rw [← hq]
      exact List.mem_cons_self
    · rw [if_neg hq] at h
      exact List.mem_cons_of_mem _ (lo_mem h)
theorem lh_entry {ls : Array Slot} {n : Nat} {L : List (Nat × Value)} (h : lv_has ls n L) : lh ls n ((List.range n).map (lo L)) := by
  refine ⟨h.1, h.2.1, fun j w hj => ?_⟩
  rw [List.getElem?_map] at hj
  cases hr : (List.range n)[j]? with
  | none => rw [hr] at hj; cases hj
  | some k =>
    have hk : j = k := by
      obtain ⟨h1, h2⟩ := List.getElem?_eq_some_iff.mp hr
      simpa using h2
    subst hk
    rw [hr] at hj
    exact h.2.2 (j, w) (lo_mem (Option.some.inj hj))
/-- the judgement -/
def VG (X : Xt) (A : Nat → Prop) (n cells slots : Nat) (Q : State → Prop) (I : Heap → Prop) (pc : Nat) (lv : List (Option Value)) (st : List Value) : Prop :=
  ∀ (H : Heap) (locs : List Loc) (ls : Array Slot), I H → va_S A (xS X).heap H locs → lh ls n lv → W (xP X) (xL X) (xE X) (xR X) (xS X) (xM X) (xA X) (xB X) (xMe X) (xC X) H locs cells slots Q (F0 (xM X) pc ls st)
def VB (X : Xt) (cc : ByteArray) : Prop := (xP X).tables.exec = Jvm.exec ∧ (xC X).code = cc
section VROWS
variable {X : Xt} {A : Nat → Prop} {n cells slots : Nat} {Q : State → Prop} {I : Heap → Prop} {pc : Nat} {lv : List (Option Value)} {st : List Value} {cc : ByteArray}
theorem v_iconst (B : VB X cc) {z : Int} (d : decode cc pc = .ok (.iconst z, 1)) {v : Int32} (hv : Int32.ofInt z = v) (k : VG X A n cells slots Q I (pc + 1) lv (.int v :: st)) : VG X A n cells slots Q I pc lv st := fun H locs ls hI hS hl => lv_iconst B.1 B.2 d hv (k H locs ls hI hS hl)
theorem v_bipush (B : VB X cc) {z : Int} (d : decode cc pc = .ok (.bipush z, 2)) {v : Int32} (hv : (Int8.ofInt z).toInt32 = v) (k : VG X A n cells slots Q I (pc + 2) lv (.int v :: st)) : VG X A n cells slots Q I pc lv st := fun H locs ls hI hS hl => lv_bipush B.1 B.2 d hv (k H locs ls hI hS hl)
theorem v_sipush (B : VB X cc) {z : Int} (d : decode cc pc = .ok (.sipush z, 3)) {v : Int32} (hv : (Int16.ofInt z).toInt32 = v) (k : VG X A n cells slots Q I (pc + 3) lv (.int v :: st)) : VG X A n cells slots Q I pc lv st := fun H locs ls hI hS hl => lv_sipush B.1 B.2 d hv (k H locs ls hI hS hl)
theorem v_lconst (B : VB X cc) {z : Fin 2} (d : decode cc pc = .ok (.lconst z, 1)) {v : Int64} (hv : Int64.ofNat (z : Nat) = v) (k : VG X A n cells slots Q I (pc + 1) lv (.long v :: st)) : VG X A n cells slots Q I pc lv st := fun H locs ls hI hS hl => lv_lconst B.1 B.2 d hv (k H locs ls hI hS hl)
theorem v_iload_n (B : VB X cc) {i : Fin 4} (d : decode cc pc = .ok (.iload_n i, 1)) {x : Int32} (h : lv[(i : Nat)]? = some (some (.int x))) (k : VG X A n cells slots Q I (pc + 1) lv (.int x :: st)) : VG X A n cells slots Q I pc lv st := fun H locs ls hI hS hl => lv_iload_n B.1 B.2 d rfl (lh_at hl h) (k H locs ls hI hS hl)
theorem v_iload (B : VB X cc) {i : Nat} (d : decode cc pc = .ok (.iload i, 2)) {x : Int32} (h : lv[i]? = some (some (.int x))) (k : VG X A n cells slots Q I (pc + 2) lv (.int x :: st)) : VG X A n cells slots Q I pc lv st := fun H locs ls hI hS hl => lv_iload B.1 B.2 d (lh_at hl h) (k H locs ls hI hS hl)
theorem v_lload_n (B : VB X cc) {i : Fin 4} (d : decode cc pc = .ok (.lload_n i, 1)) {x : Int64} (h : lv[(i : Nat)]? = some (some (.long x))) (k : VG X A n cells slots Q I (pc + 1) lv (.long x :: st)) : VG X A n cells slots Q I pc lv st := fun H locs ls hI hS hl => lv_lload_n B.1 B.2 d rfl (lh_at hl h) (k H locs ls hI hS hl)
theorem v_lload (B : VB X cc) {i : Nat} (d : decode cc pc = .ok (.lload i, 2)) {x : Int64} (h : lv[i]? = some (some (.long x))) (k : VG X A n cells slots Q I (pc + 2) lv (.long x :: st)) : VG X A n cells slots Q I pc lv st := fun H locs ls hI hS hl => lv_lload B.1 B.2 d (lh_at hl h) (k H locs ls hI hS hl)
theorem v_aload_n (B : VB X cc) {i : Fin 4} (d : decode cc pc = .ok (.aload_n i, 1)) {x : Nat} (h : lv[(i : Nat)]? = some (some (.ref x))) (k : VG X A n cells slots Q I (pc + 1) lv (.ref x :: st)) : VG X A n cells slots Q I pc lv st := fun H locs ls hI hS hl => lv_aload_n B.1 B.2 d rfl (lh_at hl h) (k H locs ls hI hS hl)
theorem v_aload (B : VB X cc) {i : Nat} (d : decode cc pc = .ok (.aload i, 2)) {x : Nat} (h : lv[i]? = some (some (.ref x))) (k : VG X A n cells slots Q I (pc + 2) lv (.ref x :: st)) : VG X A n cells slots Q I pc lv st := fun H locs ls hI hS hl => lv_aload B.1 B.2 d (lh_at hl h) (k H locs ls hI hS hl)
theorem v_istore_n (B : VB X cc) {i : Fin 4} (d : decode cc pc = .ok (.istore_n i, 1)) {x : Int32} (hb : nl lv (i : Nat) = true) (hn : (i : Nat) < n) {lv' : List (Option Value)} (hl' : lv.set (i : Nat) (some (.int x)) = lv') (k : VG X A n cells slots Q I (pc + 1) lv' st) : VG X A n cells slots Q I pc lv (.int x :: st) := fun H locs ls hI hS hl => lv_istore_n B.1 B.2 d rfl (lh_has hl) hn rfl (fun ls' h' => k H locs ls' hI hS (hl' ▸ lh_st1 h' hb))
theorem v_istore (B : VB X cc) {i : Nat} (d : decode cc pc = .ok (.istore i, 2)) {x : Int32} (hb : nl lv i = true) (hn : i < n) {lv' : List (Option Value)} (hl' : lv.set i (some (.int x)) = lv') (k : VG X A n cells slots Q I (pc + 2) lv' st) : VG X A n cells slots Q I pc lv (.int x :: st) := fun H locs ls hI hS hl => lv_istore B.1 B.2 d (lh_has hl) hn rfl (fun ls' h' => k H locs ls' hI hS (hl' ▸ lh_st1 h' hb))
theorem v_astore_n (B : VB X cc) {i : Fin 4} (d : decode cc pc = .ok (.astore_n i, 1)) {x : Nat} (hb : nl lv (i : Nat) = true) (hn : (i : Nat) < n) {lv' : List (Option Value)} (hl' : lv.set (i : Nat) (some (.ref x)) = lv') (k : VG X A n cells slots Q I (pc + 1) lv' st) : VG X A n cells slots Q I pc lv (.ref x :: st) := fun H locs ls hI hS hl => lv_astore_n B.1 B.2 d rfl (lh_has hl) hn rfl (fun ls' h' => k H locs ls' hI hS (hl' ▸ lh_st1 h' hb))
theorem v_astore (B : VB X cc) {i : Nat} (d : decode cc pc = .ok (.astore i, 2)) {x : Nat} (hb : nl lv i = true) (hn : i < n) {lv' : List (Option Value)} (hl' : lv.set i (some (.ref x)) = lv') (k : VG X A n cells slots Q I (pc + 2) lv' st) : VG X A n cells slots Q I pc lv (.ref x :: st) := fun H locs ls hI hS hl => lv_astore B.1 B.2 d (lh_has hl) hn rfl (fun ls' h' => k H locs ls' hI hS (hl' ▸ lh_st1 h' hb))
theorem v_lstore_n (B : VB X cc) {i : Fin 4} (d : decode cc pc = .ok (.lstore_n i, 1)) {x : Int64} (hb : nl lv (i : Nat) = true) (hn : (i : Nat) + 1 < n) {lv' : List (Option Value)} (hl' : (lv.set (i : Nat) (some (.long x))).set ((i : Nat) + 1) none = lv') (k : VG X A n cells slots Q I (pc + 1) lv' st) : VG X A n cells slots Q I pc lv (.long x :: st) := fun H locs ls hI hS hl => lv_lstore_n B.1 B.2 d rfl (lh_has hl) hn rfl (fun ls' h' => k H locs ls' hI hS (hl' ▸ lh_st2 h' hb))
theorem v_lstore (B : VB X cc) {i : Nat} (d : decode cc pc = .ok (.lstore i, 2)) {x : Int64} (hb : nl lv i = true) (hn : i + 1 < n) {lv' : List (Option Value)} (hl' : (lv.set i (some (.long x))).set (i + 1) none = lv') (k : VG X A n cells slots Q I (pc + 2) lv' st) : VG X A n cells slots Q I pc lv (.long x :: st) := fun H locs ls hI hS hl => lv_lstore B.1 B.2 d (lh_has hl) hn rfl (fun ls' h' => k H locs ls' hI hS (hl' ▸ lh_st2 h' hb))
theorem v_iinc (B : VB X cc) {i : Nat} {z : Int} (d : decode cc pc = .ok (.iinc i z, 3)) {x y : Int32} (h : lv[i]? = some (some (.int x))) (hy : x + Int32.ofInt z = y) (hb : nl lv i = true) (hn : i < n) {lv' : List (Option Value)} (hl' : lv.set i (some (.int y)) = lv') (k : VG X A n cells slots Q I (pc + 3) lv' st) : VG X A n cells slots Q I pc lv st := fun H locs ls hI hS hl => by
  obtain ⟨q, hq⟩ := List.getElem?_of_mem (kl_mem.mpr h)
  exact lv_iinc B.1 B.2 d (lh_has hl) hq hy hn rfl (fun ls' h' => k H locs ls' hI hS (hl' ▸ lh_st1 h' hb))
theorem v_iadd (B : VB X cc) {x y : Int32} (d : decode cc pc = .ok (.iadd, 1)) (k : VG X A n cells slots Q I (pc + 1) lv (.int (x + y) :: st)) : VG X A n cells slots Q I pc lv (.int y :: .int x :: st) := fun H locs ls hI hS hl => lv_iadd B.1 B.2 d (k H locs ls hI hS hl)
theorem v_isub (B : VB X cc) {x y : Int32} (d : decode cc pc = .ok (.isub, 1)) (k : VG X A n cells slots Q I (pc + 1) lv (.int (x - y) :: st)) : VG X A n cells slots Q I pc lv (.int y :: .int x :: st) := fun H locs ls hI hS hl => lv_isub B.1 B.2 d (k H locs ls hI hS hl)
theorem v_imul (B : VB X cc) {x y : Int32} (d : decode cc pc = .ok (.imul, 1)) (k : VG X A n cells slots Q I (pc + 1) lv (.int (x * y) :: st)) : VG X A n cells slots Q I pc lv (.int y :: .int x :: st) := fun H locs ls hI hS hl => lv_imul B.1 B.2 d (k H locs ls hI hS hl)
theorem v_idiv (B : VB X cc) {x y : Int32} (d : decode cc pc = .ok (.idiv, 1)) (hne : ¬ y = 0) (k : VG X A n cells slots Q I (pc + 1) lv (.int (x / y) :: st)) : VG X A n cells slots Q I pc lv (.int y :: .int x :: st) := fun H locs ls hI hS hl => lv_idiv B.1 B.2 d hne (k H locs ls hI hS hl)
theorem v_iand (B : VB X cc) {x y : Int32} (d : decode cc pc = .ok (.iand, 1)) (k : VG X A n cells slots Q I (pc + 1) lv (.int (x &&& y) :: st)) : VG X A n cells slots Q I pc lv (.int y :: .int x :: st) := fun H locs ls hI hS hl => lv_iand B.1 B.2 d (k H locs ls hI hS hl)
theorem v_ixor (B : VB X cc) {x y : Int32} (d : decode cc pc = .ok (.ixor, 1)) (k : VG X A n cells slots Q I (pc + 1) lv (.int (x ^^^ y) :: st)) : VG X A n cells slots Q I pc lv (.int y :: .int x :: st) := fun H locs ls hI hS hl => lv_ixor B.1 B.2 d (k H locs ls hI hS hl)
theorem v_ishr (B : VB X cc) {x y : Int32} (d : decode cc pc = .ok (.ishr, 1)) (k : VG X A n cells slots Q I (pc + 1) lv (.int (x >>> (y &&& 31)) :: st)) : VG X A n cells slots Q I pc lv (.int y :: .int x :: st) := fun H locs ls hI hS hl => lv_ishr B.1 B.2 d (k H locs ls hI hS hl)
theorem v_ishl (B : VB X cc) {x y : Int32} (d : decode cc pc = .ok (.ishl, 1)) (k : VG X A n cells slots Q I (pc + 1) lv (.int (x <<< (y &&& 31)) :: st)) : VG X A n cells slots Q I pc lv (.int y :: .int x :: st) := fun H locs ls hI hS hl => lv_ishl B.1 B.2 d (k H locs ls hI hS hl)
theorem v_ineg (B : VB X cc) {x : Int32} (d : decode cc pc = .ok (.ineg, 1)) (k : VG X A n cells slots Q I (pc + 1) lv (.int (-x) :: st)) : VG X A n cells slots Q I pc lv (.int x :: st) := fun H locs ls hI hS hl => lv_ineg B.1 B.2 d (k H locs ls hI hS hl)
theorem v_ladd (B : VB X cc) {x y : Int64} (d : decode cc pc = .ok (.ladd, 1)) (k : VG X A n cells slots Q I (pc + 1) lv (.long (x + y) :: st)) : VG X A n cells slots Q I pc lv (.long y :: .long x :: st) := fun H locs ls hI hS hl => lv_ladd B.1 B.2 d (k H locs ls hI hS hl)
theorem v_lsub (B : VB X cc) {x y : Int64} (d : decode cc pc = .ok (.lsub, 1)) (k : VG X A n cells slots Q I (pc + 1) lv (.long (x - y) :: st)) : VG X A n cells slots Q I pc lv (.long y :: .long x :: st) := fun H locs ls hI hS hl => lv_lsub B.1 B.2 d (k H locs ls hI hS hl)
theorem v_lmul (B : VB X cc) {x y : Int64} (d : decode cc pc = .ok (.lmul, 1)) (k : VG X A n cells slots Q I (pc + 1) lv (.long (x * y) :: st)) : VG X A n cells slots Q I pc lv (.long y :: .long x :: st) := fun H locs ls hI hS hl => lv_lmul B.1 B.2 d (k H locs ls hI hS hl)
theorem v_lcmp (B : VB X cc) {x y : Int64} (d : decode cc pc = .ok (.lcmp, 1)) (k : VG X A n cells slots Q I (pc + 1) lv (.int (lg_cmp x y) :: st)) : VG X A n cells slots Q I pc lv (.long y :: .long x :: st) := fun H locs ls hI hS hl => W.lcmp B.1 B.2 d (k H locs ls hI hS hl)
theorem v_i2l (B : VB X cc) {x : Int32} (d : decode cc pc = .ok (.i2l, 1)) (k : VG X A n cells slots Q I (pc + 1) lv (.long x.toInt64 :: st)) : VG X A n cells slots Q I pc lv (.int x :: st) := fun H locs ls hI hS hl => lv_i2l B.1 B.2 d rfl (k H locs ls hI hS hl)
theorem v_dup (B : VB X cc) {va : Value} (d : decode cc pc = .ok (.dup, 1)) (hc : va.category = 1) (k : VG X A n cells slots Q I (pc + 1) lv (va :: va :: st)) : VG X A n cells slots Q I pc lv (va :: st) := fun H locs ls hI hS hl => lv_dup B.1 B.2 d hc (k H locs ls hI hS hl)
theorem v_dup_x1 (B : VB X cc) {va vb : Value} (d : decode cc pc = .ok (.dup_x1, 1)) (hc : va.category = 1) (hc2 : vb.category = 1) (k : VG X A n cells slots Q I (pc + 1) lv (va :: vb :: va :: st)) : VG X A n cells slots Q I pc lv (va :: vb :: st) := fun H locs ls hI hS hl => lv_dup_x1 B.1 B.2 d hc hc2 (k H locs ls hI hS hl)
theorem v_dup2_11 (B : VB X cc) {va vb : Value} (d : decode cc pc = .ok (.dup2, 1)) (hc : va.category = 1) (hc2 : vb.category = 1) (k : VG X A n cells slots Q I (pc + 1) lv (va :: vb :: va :: vb :: st)) : VG X A n cells slots Q I pc lv (va :: vb :: st) := fun H locs ls hI hS hl => lv_dup2_11 B.1 B.2 d hc hc2 (k H locs ls hI hS hl)
theorem v_pop (B : VB X cc) {va : Value} (d : decode cc pc = .ok (.pop, 1)) (hc : va.category = 1) (k : VG X A n cells slots Q I (pc + 1) lv st) : VG X A n cells slots Q I pc lv (va :: st) := fun H locs ls hI hS hl => lv_pop B.1 B.2 d hc (k H locs ls hI hS hl)
theorem v_goto (B : VB X cc) {off : Int} (t : Nat) (d : decode cc pc = .ok (.goto off, 3)) (ht : (pc : Int) + off = (t : Int)) (k : VG X A n cells slots Q I t lv st) : VG X A n cells slots Q I pc lv st := fun H locs ls hI hS hl => lv_goto B.1 B.2 d ht (k H locs ls hI hS hl)
theorem v_if_eq (B : VB X cc) {x : Int32} {off : Int} (t : Nat) (d : decode cc pc = .ok (.ifCond .eq off, 3)) (ht : (pc : Int) + off = (t : Int)) (kt : x = 0 → VG X A n cells slots Q I t lv st) (kf : ¬ x = 0 → VG X A n cells slots Q I (pc + 3) lv st) : VG X A n cells slots Q I pc lv (.int x :: st) := fun H locs ls hI hS hl => lv_if_eq B.1 B.2 d ht (fun h => kt h H locs ls hI hS hl) (fun h => kf h H locs ls hI hS hl)
theorem v_if_ne (B : VB X cc) {x : Int32} {off : Int} (t : Nat) (d : decode cc pc = .ok (.ifCond .ne off, 3)) (ht : (pc : Int) + off = (t : Int)) (kt : ¬ x = 0 → VG X A n cells slots Q I t lv st) (kf : x = 0 → VG X A n cells slots Q I (pc + 3) lv st) : VG X A n cells slots Q I pc lv (.int x :: st) := fun H locs ls hI hS hl => lv_if_ne B.1 B.2 d ht (fun h => kt h H locs ls hI hS hl) (fun h => kf h H locs ls hI hS hl)
theorem v_if_lt (B : VB X cc) {x : Int32} {off : Int} (t : Nat) (d : decode cc pc = .ok (.ifCond .lt off, 3)) (ht : (pc : Int) + off = (t : Int)) (kt : x < 0 → VG X A n cells slots Q I t lv st) (kf : ¬ x < 0 → VG X A n cells slots Q I (pc + 3) lv st) : VG X A n cells slots Q I pc lv (.int x :: st) := fun H locs ls hI hS hl => lv_if_lt B.1 B.2 d ht (fun h => kt h H locs ls hI hS hl) (fun h => kf h H locs ls hI hS hl)
theorem v_if_ge (B : VB X cc) {x : Int32} {off : Int} (t : Nat) (d : decode cc pc = .ok (.ifCond .ge off, 3)) (ht : (pc : Int) + off = (t : Int)) (kt : 0 ≤ x → VG X A n cells slots Q I t lv st) (kf : ¬ 0 ≤ x → VG X A n cells slots Q I (pc + 3) lv st) : VG X A n cells slots Q I pc lv (.int x :: st) := fun H locs ls hI hS hl => lv_if_ge B.1 B.2 d ht (fun h => kt h H locs ls hI hS hl) (fun h => kf h H locs ls hI hS hl)
theorem v_if_gt (B : VB X cc) {x : Int32} {off : Int} (t : Nat) (d : decode cc pc = .ok (.ifCond .gt off, 3)) (ht : (pc : Int) + off = (t : Int)) (kt : 0 < x → VG X A n cells slots Q I t lv st) (kf : ¬ 0 < x → VG X A n cells slots Q I (pc + 3) lv st) : VG X A n cells slots Q I pc lv (.int x :: st) := fun H locs ls hI hS hl => lv_if_gt B.1 B.2 d ht (fun h => kt h H locs ls hI hS hl) (fun h => kf h H locs ls hI hS hl)
theorem v_if_le (B : VB X cc) {x : Int32} {off : Int} (t : Nat) (d : decode cc pc = .ok (.ifCond .le off, 3)) (ht : (pc : Int) + off = (t : Int)) (kt : x ≤ 0 → VG X A n cells slots Q I t lv st) (kf : ¬ x ≤ 0 → VG X A n cells slots Q I (pc + 3) lv st) : VG X A n cells slots Q I pc lv (.int x :: st) := fun H locs ls hI hS hl => lv_if_le B.1 B.2 d ht (fun h => kt h H locs ls hI hS hl) (fun h => kf h H locs ls hI hS hl)
theorem v_icmp_eq (B : VB X cc) {x y : Int32} {off : Int} (t : Nat) (d : decode cc pc = .ok (.if_icmp .eq off, 3)) (ht : (pc : Int) + off = (t : Int)) (kt : x = y → VG X A n cells slots Q I t lv st) (kf : ¬ x = y → VG X A n cells slots Q I (pc + 3) lv st) : VG X A n cells slots Q I pc lv (.int y :: .int x :: st) := fun H locs ls hI hS hl => lv_icmp_eq B.1 B.2 d ht (fun h => kt h H locs ls hI hS hl) (fun h => kf h H locs ls hI hS hl)
theorem v_icmp_ne (B : VB X cc) {x y : Int32} {off : Int} (t : Nat) (d : decode cc pc = .ok (.if_icmp .ne off, 3)) (ht : (pc : Int) + off = (t : Int)) (kt : ¬ x = y → VG X A n cells slots Q I t lv st) (kf : x = y → VG X A n cells slots Q I (pc + 3) lv st) : VG X A n cells slots Q I pc lv (.int y :: .int x :: st) := fun H locs ls hI hS hl => lv_icmp_ne B.1 B.2 d ht (fun h => kt h H locs ls hI hS hl) (fun h => kf h H locs ls hI hS hl)
theorem v_icmp_lt (B : VB X cc) {x y : Int32} {off : Int} (t : Nat) (d : decode cc pc = .ok (.if_icmp .lt off, 3)) (ht : (pc : Int) + off = (t : Int)) (kt : x < y → VG X A n cells slots Q I t lv st) (kf : ¬ x < y → VG X A n cells slots Q I (pc + 3) lv st) : VG X A n cells slots Q I pc lv (.int y :: .int x :: st) := fun H locs ls hI hS hl => lv_icmp_lt B.1 B.2 d ht (fun h => kt h H locs ls hI hS hl) (fun h => kf h H locs ls hI hS hl)
theorem v_icmp_ge (B : VB X cc) {x y : Int32} {off : Int} (t : Nat) (d : decode cc pc = .ok (.if_icmp .ge off, 3)) (ht : (pc : Int) + off = (t : Int)) (kt : y ≤ x → VG X A n cells slots Q I t lv st) (kf : ¬ y ≤ x → VG X A n cells slots Q I (pc + 3) lv st) : VG X A n cells slots Q I pc lv (.int y :: .int x :: st) := fun H locs ls hI hS hl => lv_icmp_ge B.1 B.2 d ht (fun h => kt h H locs ls hI hS hl) (fun h => kf h H locs ls hI hS hl)
theorem v_icmp_gt (B : VB X cc) {x y : Int32} {off : Int} (t : Nat) (d : decode cc pc = .ok (.if_icmp .gt off, 3)) (ht : (pc : Int) + off = (t : Int)) (kt : y < x → VG X A n cells slots Q I t lv st) (kf : ¬ y < x → VG X A n cells slots Q I (pc + 3) lv st) : VG X A n cells slots Q I pc lv (.int y :: .int x :: st) := fun H locs ls hI hS hl => lv_icmp_gt B.1 B.2 d ht (fun h => kt h H locs ls hI hS hl) (fun h => kf h H locs ls hI hS hl)
theorem v_icmp_le (B : VB X cc) {x y : Int32} {off : Int} (t : Nat) (d : decode cc pc = .ok (.if_icmp .le off, 3)) (ht : (pc : Int) + off = (t : Int)) (kt : x ≤ y → VG X A n cells slots Q I t lv st) (kf : ¬ x ≤ y → VG X A n cells slots Q I (pc + 3) lv st) : VG X A n cells slots Q I pc lv (.int y :: .int x :: st) := fun H locs ls hI hS hl => lv_icmp_le B.1 B.2 d ht (fun h => kt h H locs ls hI hS hl) (fun h => kf h H locs ls hI hS hl)
/-- fewer locals are needed from here on -/
theorem v_lv {lv' : List (Option Value)} (h : ∀ (i : Nat) (v : Value), lv'[i]? = some (some v) → lv[i]? = some (some v)) (k : VG X A n cells slots Q I pc lv' st) : VG X A n cells slots Q I pc lv st := fun H locs ls hI hS hl => k H locs ls hI hS ⟨hl.1, hl.2.1, fun i v e => hl.2.2 i v (h i v e)⟩
theorem v_I {I' : Heap → Prop} (h : ∀ H, I H → I' H) (k : VG X A n cells slots Q I' pc lv st) : VG X A n cells slots Q I pc lv st := fun H locs ls hI hS hl => k H locs ls (h H hI) hS hl
end VROWS
end
section
/-! WORLDS OF NUMBERED CELLS. Y: the tables' numbers, the classes, the array classes, the addresses by number, how many, and the form of each cell over its ints and its longs. -/
abbrev Mu : Type := (Nat → Nat → Int32) × (Nat → Nat → Int64)
abbrev Yt : Type := va_G × List vw_C × List (ClassId × FieldType) × (Nat → Nat) × Nat × (Nat → (Nat → Int32) → (Nat → Int64) → va_E)
abbrev yD (Y : Yt) : va_G := Y.1
abbrev yC (Y : Yt) : List vw_C := Y.2.1
abbrev yT (Y : Yt) : List (ClassId × FieldType) := Y.2.2.1
abbrev ad (Y : Yt) : Nat → Nat := Y.2.2.2.1
abbrev yN (Y : Yt) : Nat := Y.2.2.2.2.1
abbrev sh (Y : Yt) : Nat → (Nat → Int32) → (Nat → Int64) → va_E := Y.2.2.2.2.2
def yW (Y : Yt) (μ : Mu) : va_W := (List.range (yN Y)).map (fun i => (ad Y i, sh Y i (μ.1 i) (μ.2 i)))
def yA (Y : Yt) : Nat → Prop := fun q => ∃ i, i < yN Y ∧ q = ad Y i
def yI (Y : Yt) (μ : Mu) (H : Heap) : Prop := va_P (yD Y) (yC Y) (yW Y μ) H
/-- the addresses are apart -/
def yO (Y : Yt) : Prop := ∀ i j, i < yN Y → j < yN Y → ad Y i = ad Y j → i = j
theorem yW_get {Y : Yt} {i : Nat} (μ : Mu) (h : i < yN Y) : (yW Y μ)[i]? = some (ad Y i, sh Y i (μ.1 i) (μ.2 i)) := by
  unfold yW
  rw [List.getElem?_map, List.getElem?_range h]
  rfl
theorem yW_in {Y : Yt} {μ : Mu} {k : Nat} {q : Nat × va_E} (h : (yW Y μ)[k]? = some q) : k < yN Y ∧ q = (ad Y k, sh Y k (μ.1 k) (μ.2 k)) := by
  have hk : k < yN Y := by
    have h1 := (List.getElem?_eq_some_iff.mp h).1
    simpa [yW] using h1
  rw [yW_get μ hk] at h
  exact ⟨hk, (Option.some.inj h).symm⟩
theorem yW_D {Y : Yt} (hO : yO Y) (μ : Mu) : va_D (yA Y) (yW Y μ) := by
  refine ⟨fun i j p q hi hj hpq => ?_, fun k q hk => ?_⟩
  · obtain ⟨h1, rfl⟩ := yW_in hi
    obtain ⟨h2, rfl⟩ := yW_in hj
    exact hO i j h1 h2 hpq
  · obtain ⟨h1, rfl⟩ := yW_in hk
    exact ⟨k, h1, rfl⟩
theorem yW_set {Y : Yt} {μ μ' : Mu} {i : Nat} {e : va_E} (hi : i < yN Y) (h1 : sh Y i (μ'.1 i) (μ'.2 i) = e) (h2 : ∀ j, j ≠ i → μ'.1 j = μ.1 j ∧ μ'.2 j = μ.2 j) : (yW Y μ).set i (ad Y i, e) = yW Y μ' := by
  refine List.ext_getElem? fun k => ?_
  have hlen : (yW Y μ).length = yN Y := by simp [yW]
  by_cases hk : k < yN Y
  · rw [yW_get μ' hk]
    by_cases hki : k = i
    · subst hki
      rw [List.getElem?_set_self (by rw [hlen]; exact hk), h1]
    · rw [List.getElem?_set_ne (Ne.symm hki), yW_get μ hk, (h2 k hki).1, (h2 k hki).2]
  · rw [List.getElem?_eq_none (by rw [List.length_set, hlen]; omega), List.getElem?_eq_none (by simp [yW]; omega)]
/-- writes: an int, a long, at a place of a cell -/
def wi (μ : Mu) (i k : Nat) (x : Int32) : Mu := (fun a => if a = i then upd (μ.1 i) k x else μ.1 a, μ.2)
def wl (μ : Mu) (i k : Nat) (x : Int64) : Mu := (μ.1, fun a => if a = i then vp_updL (μ.2 i) k x else μ.2 a)
def wr (μ : Mu) (i : Nat) (f : Nat → Int32) : Mu := (fun a => if a = i then f else μ.1 a, μ.2)
theorem wi_self (μ : Mu) (i k : Nat) (x : Int32) : (wi μ i k x).1 i = upd (μ.1 i) k x := by simp [wi]
theorem wi_ne (μ : Mu) {i j : Nat} (k : Nat) (x : Int32) (h : j ≠ i) : (wi μ i k x).1 j = μ.1 j := by simp [wi, h]
theorem wl_self (μ : Mu) (i k : Nat) (x : Int64) : (wl μ i k x).2 i = vp_updL (μ.2 i) k x := by simp [wl]
theorem wl_ne (μ : Mu) {i j : Nat} (k : Nat) (x : Int64) (h : j ≠ i) : (wl μ i k x).2 j = μ.2 j := by simp [wl, h]
theorem wr_self (μ : Mu) (i : Nat) (f : Nat → Int32) : (wr μ i f).1 i = f := by simp [wr]
theorem wr_ne (μ : Mu) {i j : Nat} (f : Nat → Int32) (h : j ≠ i) : (wr μ i f).1 j = μ.1 j := by simp [wr, h]
/-- cell i is an object of class ci with these fields; an array -/
def Ob (Y : Yt) (i ci : Nat) (F : (Nat → Int32) → (Nat → Int64) → List Value) : Prop := i < yN Y ∧ ∀ m lm, sh Y i m lm = .inr (ci, F m lm)
def AI (Y : Yt) (i z : Nat) : Prop := i < yN Y ∧ ∃ (cA : ClassId) (t0 : Nat), (yT Y)[t0]? = some (cA, .int) ∧ ∀ m lm, sh Y i m lm = .inl (cA, z, .inl m)
def AL (Y : Yt) (i z : Nat) : Prop := i < yN Y ∧ ∃ (cA : ClassId) (t0 : Nat), (yT Y)[t0]? = some (cA, .long) ∧ ∀ m lm, sh Y i m lm = .inl (cA, z, .inr (.inl lm))
/-- an array of references: the cells that it names (never null) -/
def AR (Y : Yt) (i z : Nat) (f : Nat → Nat) : Prop := i < yN Y ∧ ∃ (cA : ClassId) (t0 : Nat) (ty : FieldType), (yT Y)[t0]? = some (cA, ty) ∧ refKind ty = true ∧ ∀ m lm, sh Y i m lm = .inl (cA, z, .inr (.inr (.inr (.inr (fun j => some (ad Y (f j)))))))
/-- what a method has at hand: the machine, its code, its tables, the world's tables -/
def VC (X : Xt) (Y : Yt) (l : Launch) (rm : Room) (cc : ByteArray) (n : Nat) (ret : Option FieldType) (ws : List Cond) (own : String) : Prop :=
  (xP X).tables.exec = Jvm.exec ∧ (xC X).code = cc ∧ (xC X).maxLocals = n ∧ (xS X).vm.findClass own = some (xM X).cls ∧ (∀ w ∈ ws, w.before (xA X) (xS X) = true) ∧ (xMe X).sig.returnType = ret ∧ (xMe X).locks = false ∧ va_K (yD Y) (yC Y) (yT Y) (xS X) ∧ yO Y ∧ xL X = l ∧ xR X = rm
theorem VC.B {X : Xt} {Y : Yt} {l : Launch} {rm : Room} {cc : ByteArray} {n : Nat} {ret : Option FieldType} {ws : List Cond} {own : String} (C : VC X Y l rm cc n ret ws own) : VB X cc := ⟨C.1, C.2.1⟩
/-- a contract: with these arguments and this memory the method answers r and leaves the memory μ', as Post says -/
def yP (Y : Yt) (av : List Value) (μ : Mu) : Array Value → State → Prop := va_Pc av (fun U => yI Y μ U.heap ∧ va_K (yD Y) (yC Y) (yT Y) U)
def yQ (Y : Yt) (Post : Option Value → Mu → Prop) : Array Value → State → Outcome → State → Prop := fun _ st oc t => (∃ (r : Option Value) (μ' : Mu), oc = .returned r ∧ Post r μ' ∧ yI Y μ' t.heap) ∧ va_F (yA Y) st t
def Ct (l : Launch) (Y : Yt) (y : MethodName) (ws : List Cond) (rm : Room) (av : List Value) (μ : Mu) (Post : Option Value → Mu → Prop) : Prop := Met l y ws rm (yP Y av μ) (yQ Y Post) 0 0 (yA Y)
/-- the kinds of ends: just this answer and this memory; nothing, an int, a long, a cell, and of it and the memory something -/
def PE (r0 : Option Value) (μ0 : Mu) : Option Value → Mu → Prop := fun r μ => r = r0 ∧ μ = μ0
def PV (P : Mu → Prop) : Option Value → Mu → Prop := fun r μ => r = none ∧ P μ
def PI (P : Int32 → Mu → Prop) : Option Value → Mu → Prop := fun r μ => ∃ x : Int32, r = some (.int x) ∧ P x μ
def PL (P : Int64 → Mu → Prop) : Option Value → Mu → Prop := fun r μ => ∃ x : Int64, r = some (.long x) ∧ P x μ
abbrev VQ (X : Xt) (Y : Yt) (Post : Option Value → Mu → Prop) : State → Prop := MQ (xB X) (yQ Y Post) (xA X) (xS X) 0 0 (yA Y)
theorem ct_of {l : Launch} {Y : Yt} {y : MethodName} {ws ws' : List Cond} {rm : Room} {av : List Value} {μ : Mu} {Post : Option Value → Mu → Prop} {cc : ByteArray} {n : Nat} {ret : Option FieldType} (hO : yO Y) (hy : plainName y.cls = true) (hw : ws = Cond.code y cc n ret :: ws') (hn : (lg_sl av).length ≤ n) {lv : List (Option Value)} (hlv : (List.range n).map (lo (lv_args 0 av)) = lv)
    (body : ∀ X : Xt, VC X Y l rm cc n ret ws y.cls → VG X (yA Y) n 0 0 (VQ X Y Post) (yI Y μ) 0 lv []) : Ct l Y y ws rm av μ Post := by
  refine Met.ofW (cc := cc) (maxL := n) (ret := ret) hy hw ?_
  intro p e s m args below meth c s₁ B hml hv
  obtain ⟨rfl, hI, hK⟩ := hv
  have hts := atoms_spec (ws := ws) B.pre
  have hown : s.vm.findClass y.cls = some m.cls := findClass_of_methodNamed B.named
  have hl := lv_entry av (n := n) hn
  rw [lg_entry_eq]
  subst hlv
  exact body (p, l, e, (headSpec ws rm).room, s, m, av.toArray, below, meth, c) ⟨B.exec, B.bytes, hml, hown, hts, B.returns, B.notSynchronized, hK, hO, rfl, rfl⟩ s.heap [] _ hI va_S.rf (lh_entry hl)
/-- a weaker end -/
theorem Ct.weaken {l : Launch} {Y : Yt} {y : MethodName} {ws : List Cond} {rm : Room} {av : List Value} {μ : Mu} {P P' : Option Value → Mu → Prop} (h : Ct l Y y ws rm av μ P) (hP : ∀ r μ', P r μ' → P' r μ') : Ct l Y y ws rm av μ P' := by
  intro p e ha hc hk s m args below hf hap hPc ht
  obtain ⟨k, o, h1, h2, h3, ⟨⟨⟨r, μ', e1, e2, e3⟩, hF⟩, hfr⟩⟩ := h p e ha hc hk s m args below hf hap hPc ht
  exact ⟨k, o, h1, h2, h3, ⟨⟨⟨r, μ', e1, hP r μ' e2, e3⟩, hF⟩, hfr⟩⟩
section WROWS
variable {X : Xt} {Y : Yt} {n cells slots : Nat} {Q : State → Prop} {μ : Mu} {pc : Nat} {lv : List (Option Value)} {st : List Value} {l : Launch} {rm : Room} {cc : ByteArray} {ret : Option FieldType} {ws : List Cond} {own : String} {TB : List Cond} {z : Cond}
theorem v_ldc (C : VC X Y l rm cc n ret (z :: TB) own) {A : Nat → Prop} {I : Heap → Prop} {idx : Nat} {v : Int32} (hw : Cond.constant own idx v ∈ TB) (d : decode cc pc = .ok (.ldc idx, 2)) (k : VG X A n cells slots Q I (pc + 2) lv (.int v :: st)) : VG X A n cells slots Q I pc lv st := fun H locs ls hI hS hl => lv_ldc C.1 C.2.1 C.2.2.2.1 (C.2.2.2.2.1 _ (List.mem_cons_of_mem _ hw)) d (k H locs ls hI hS hl)
theorem v_ldc2 (C : VC X Y l rm cc n ret (z :: TB) own) {A : Nat → Prop} {I : Heap → Prop} {idx : Nat} {v : Int64} (hw : Cond.constantLong own idx v ∈ TB) (d : decode cc pc = .ok (.ldc2_w idx, 3)) (k : VG X A n cells slots Q I (pc + 3) lv (.long v :: st)) : VG X A n cells slots Q I pc lv st := fun H locs ls hI hS hl => lv_ldc2 C.1 C.2.1 C.2.2.2.1 (C.2.2.2.2.1 _ (List.mem_cons_of_mem _ hw)) d (k H locs ls hI hS hl)
/-- a class of the world, with its tables -/
def Kl (Y : Yt) (ws : List Cond) (ci : Nat) (Cn : String) (T : u_T) (N : Nat) (ty : Nat → FieldType) : Prop := (yC Y)[ci]? = some (Cn, T, N) ∧ (∀ w ∈ u_ws Cn T N, w ∈ ws) ∧ (∀ k, k < N → parseFieldDescriptor (T k).2.2.1 = some (ty k)) ∧ ∀ a, a < N → ∀ b, b < N → a ≠ b → (T a).2.1 ≠ (T b).2.1
theorem v_get (C : VC X Y l rm cc n ret (z :: TB) own) {ci N : Nat} {Cn : String} {T : u_T} {ty : Nat → FieldType} (K : Kl Y (z :: TB) ci Cn T N ty) {i : Nat} {F : (Nat → Int32) → (Nat → Int64) → List Value} (ho : Ob Y i ci F) (k : Nat) {idx : Nat} (d : decode cc pc = .ok (.getfield idx, 3)) (hw : Cond.fieldLink own idx (T k).1 (T k).2.1 (T k).2.2.1 ∈ TB) (hk : k < N) {v : Value} (hv : (F (μ.1 i) (μ.2 i))[k]? = some v)
    (kk : VG X (yA Y) n cells slots Q (yI Y μ) (pc + 3) lv (v :: st)) : VG X (yA Y) n cells slots Q (yI Y μ) pc lv (.ref (ad Y i) :: st) := by
  intro H locs ls hI hS hl
  exact va_get (D := yD Y) (ci := ci) C.1 C.2.1 C.2.2.2.2.1 K.2.1 C.2.2.2.1 C.2.2.2.2.2.2.2.1 hI i (by rw [yW_get μ ho.1, ho.2]) K.1 k hk (C.2.2.2.2.1 _ (List.mem_cons_of_mem _ hw)) (fun _ h => h) hv d (kk H locs ls hI hS hl)
theorem v_puti (C : VC X Y l rm cc n ret (z :: TB) own) {ci N : Nat} {Cn : String} {T : u_T} {ty : Nat → FieldType} (K : Kl Y (z :: TB) ci Cn T N ty) {i : Nat} {F : (Nat → Int32) → (Nat → Int64) → List Value} (ho : Ob Y i ci F) (k : Nat) {idx : Nat} (d : decode cc pc = .ok (.putfield idx, 3)) (hw : Cond.fieldLink own idx (T k).1 (T k).2.1 (T k).2.2.1 ∈ TB) (hk : k < N) (hfin : (T k).2.2.2 = false) {x : Int32} (hn : narrow (ty k) (.int x) = .int x) (hfit : fits (ty k) (.int x) = true) (hF : ∀ m lm, F (upd m k x) lm = (F m lm).set k (.int x)) (hl : ∀ m lm, k < (F m lm).length)
    (kk : VG X (yA Y) n cells slots Q (yI Y (wi μ i k x)) (pc + 3) lv st) : VG X (yA Y) n cells slots Q (yI Y μ) pc lv (.int x :: .ref (ad Y i) :: st) := by
  intro H locs ls hI hS hlv
  refine va_put (D := yD Y) (ci := ci) (ty := ty k) C.1 C.2.1 C.2.2.2.2.1 K.2.1 ty K.2.2.1 K.2.2.2 C.2.2.2.1 C.2.2.2.2.2.2.2.1 hI (yW_D C.2.2.2.2.2.2.2.2.1 μ) hS i (by rw [yW_get μ ho.1, ho.2]) K.1 k hk (C.2.2.2.2.1 _ (List.mem_cons_of_mem _ hw)) (fun _ h => h) hfin (K.2.2.1 k hk) hn hfit (hl _ _) d (fun H1 locs1 hP1 _ hS1 => ?_)
  rw [yW_set (μ := μ) (μ' := wi μ i k x) ho.1 (by rw [wi_self, ho.2, hF]; rfl) (fun j hj => ⟨wi_ne μ k x hj, rfl⟩)] at hP1
  exact kk H1 locs1 ls hP1 hS1 hlv
theorem v_putl (C : VC X Y l rm cc n ret (z :: TB) own) {ci N : Nat} {Cn : String} {T : u_T} {ty : Nat → FieldType} (K : Kl Y (z :: TB) ci Cn T N ty) {i : Nat} {F : (Nat → Int32) → (Nat → Int64) → List Value} (ho : Ob Y i ci F) (k : Nat) {idx : Nat} (d : decode cc pc = .ok (.putfield idx, 3)) (hw : Cond.fieldLink own idx (T k).1 (T k).2.1 (T k).2.2.1 ∈ TB) (hk : k < N) (hfin : (T k).2.2.2 = false) {x : Int64} (hn : narrow (ty k) (.long x) = .long x) (hfit : fits (ty k) (.long x) = true) (hF : ∀ m lm, F m (vp_updL lm k x) = (F m lm).set k (.long x)) (hl : ∀ m lm, k < (F m lm).length)
    (kk : VG X (yA Y) n cells slots Q (yI Y (wl μ i k x)) (pc + 3) lv st) : VG X (yA Y) n cells slots Q (yI Y μ) pc lv (.long x :: .ref (ad Y i) :: st) := by
  intro H locs ls hI hS hlv
  refine va_put (D := yD Y) (ci := ci) (ty := ty k) C.1 C.2.1 C.2.2.2.2.1 K.2.1 ty K.2.2.1 K.2.2.2 C.2.2.2.1 C.2.2.2.2.2.2.2.1 hI (yW_D C.2.2.2.2.2.2.2.2.1 μ) hS i (by rw [yW_get μ ho.1, ho.2]) K.1 k hk (C.2.2.2.2.1 _ (List.mem_cons_of_mem _ hw)) (fun _ h => h) hfin (K.2.2.1 k hk) hn hfit (hl _ _) d (fun H1 locs1 hP1 _ hS1 => ?_)
  rw [yW_set (μ := μ) (μ' := wl μ i k x) ho.1 (by rw [wl_self, ho.2, hF]; rfl) (fun j hj => ⟨rfl, wl_ne μ k x hj⟩)] at hP1
  exact kk H1 locs1 ls hP1 hS1 hlv
theorem v_iald (C : VC X Y l rm cc n ret ws own) {i z : Nat} (ha : AI Y i z) (j : Nat) (d : decode cc pc = .ok (.iaload, 1)) {x : Int32} (hx : x = nI j) (hj : j < z) (hz : z < 2 ^ 31) (kk : VG X (yA Y) n cells slots Q (yI Y μ) (pc + 1) lv (.int (μ.1 i j) :: st)) : VG X (yA Y) n cells slots Q (yI Y μ) pc lv (.int x :: .ref (ad Y i) :: st) := by
  intro H locs ls hI hS hl
  obtain ⟨hi, cA, t0, ht, hs⟩ := ha
  subst hx
  refine va_iald C.1 C.2.1 C.2.2.2.2.2.2.2.1 hI i t0 (by rw [yW_get μ hi, hs]) ht (vp_in_nI hj hz) d ?_
  rw [nI_clamp (Nat.lt_trans hj hz)]
  exact kk H locs ls hI hS hl
theorem v_lald (C : VC X Y l rm cc n ret ws own) {i z : Nat} (ha : AL Y i z) (j : Nat) (d : decode cc pc = .ok (.laload, 1)) {x : Int32} (hx : x = nI j) (hj : j < z) (hz : z < 2 ^ 31) (kk : VG X (yA Y) n cells slots Q (yI Y μ) (pc + 1) lv (.long (μ.2 i j) :: st)) : VG X (yA Y) n cells slots Q (yI Y μ) pc lv (.int x :: .ref (ad Y i) :: st) := by
  intro H locs ls hI hS hl
  obtain ⟨hi, cA, t0, ht, hs⟩ := ha
  subst hx
  refine va_lald C.1 C.2.1 C.2.2.2.2.2.2.2.1 hI i t0 (by rw [yW_get μ hi, hs]) ht (vp_in_nI hj hz) d ?_
  rw [nI_clamp (Nat.lt_trans hj hz)]
  exact kk H locs ls hI hS hl
theorem v_iast (C : VC X Y l rm cc n ret ws own) {i z : Nat} (ha : AI Y i z) (j : Nat) (d : decode cc pc = .ok (.iastore, 1)) {x v : Int32} (hx : x = nI j) (hj : j < z) (hz : z < 2 ^ 31) (kk : VG X (yA Y) n cells slots Q (yI Y (wi μ i j v)) (pc + 1) lv st) : VG X (yA Y) n cells slots Q (yI Y μ) pc lv (.int v :: .int x :: .ref (ad Y i) :: st) := by
  intro H locs ls hI hS hl
  obtain ⟨hi, cA, t0, ht, hs⟩ := ha
  subst hx
  refine va_iast C.1 C.2.1 C.2.2.2.2.2.2.2.1 hI (yW_D C.2.2.2.2.2.2.2.2.1 μ) hS i t0 (by rw [yW_get μ hi, hs]) ht (vp_in_nI hj hz) d (fun H1 locs1 hP1 _ hS1 => ?_)
  rw [nI_clamp (Nat.lt_trans hj hz)] at hP1
  rw [yW_set (μ := μ) (μ' := wi μ i j v) hi (by rw [wi_self, hs]) (fun a h => ⟨wi_ne μ j v h, rfl⟩)] at hP1
  exact kk H1 locs1 ls hP1 hS1 hl
theorem v_last (C : VC X Y l rm cc n ret ws own) {i z : Nat} (ha : AL Y i z) (j : Nat) (d : decode cc pc = .ok (.lastore, 1)) {x : Int32} {v : Int64} (hx : x = nI j) (hj : j < z) (hz : z < 2 ^ 31) (kk : VG X (yA Y) n cells slots Q (yI Y (wl μ i j v)) (pc + 1) lv st) : VG X (yA Y) n cells slots Q (yI Y μ) pc lv (.long v :: .int x :: .ref (ad Y i) :: st) := by
  intro H locs ls hI hS hl
  obtain ⟨hi, cA, t0, ht, hs⟩ := ha
  subst hx
  refine va_last C.1 C.2.1 C.2.2.2.2.2.2.2.1 hI (yW_D C.2.2.2.2.2.2.2.2.1 μ) hS i t0 (by rw [yW_get μ hi, hs]) ht (vp_in_nI hj hz) d (fun H1 locs1 hP1 _ hS1 => ?_)
  rw [nI_clamp (Nat.lt_trans hj hz)] at hP1
  rw [yW_set (μ := μ) (μ' := wl μ i j v) hi (by rw [wl_self, hs]) (fun a h => ⟨rfl, wl_ne μ j v h⟩)] at hP1
  exact kk H1 locs1 ls hP1 hS1 hl
theorem v_aald (C : VC X Y l rm cc n ret ws own) {i z : Nat} {f : Nat → Nat} (ha : AR Y i z f) (j : Nat) (d : decode cc pc = .ok (.aaload, 1)) {x : Int32} (hx : x = nI j) (hj : j < z) (hz : z < 2 ^ 31) (kk : VG X (yA Y) n cells slots Q (yI Y μ) (pc + 1) lv (.ref (ad Y (f j)) :: st)) : VG X (yA Y) n cells slots Q (yI Y μ) pc lv (.int x :: .ref (ad Y i) :: st) := by
  intro H locs ls hI hS hl
  obtain ⟨hi, cA, t0, ty, ht, hk, hs⟩ := ha
  subst hx
  have h1 : (yW Y μ)[i]? = some (ad Y i, .inl (cA, z, .inr (.inr (.inr (.inr (fun j => some (ad Y (f j)))))))) := by rw [yW_get μ hi, hs]
  have hc := nI_clamp (Nat.lt_trans hj hz)
  exact W.aald (v := .ref (ad Y (f j))) (ty := ty) C.1 C.2.1 (hI i _ h1) (((C.2.2.2.2.2.2.2.1).2 t0 _ ht).1 z (fun j => .ref (ad Y (f j)))) hk (fun q => by cases q) (by show ¬ (nI j < 0 ∨ (arrV _ _ _).slots.size ≤ _); rw [arrV_size]; exact vp_in_nI hj hz) (by show (arrV _ _ _).slots[_]? = _; rw [hc, arrV_read _ _ hj]; rfl) rfl rfl d (kk H locs ls hI hS hl)
theorem v_alenR (C : VC X Y l rm cc n ret ws own) {i z : Nat} {f : Nat → Nat} (ha : AR Y i z f) (d : decode cc pc = .ok (.arraylength, 1)) (kk : VG X (yA Y) n cells slots Q (yI Y μ) (pc + 1) lv (.int (nI z) :: st)) : VG X (yA Y) n cells slots Q (yI Y μ) pc lv (.ref (ad Y i) :: st) := by
  intro H locs ls hI hS hl
  obtain ⟨hi, cA, t0, ty, ht, hk, hs⟩ := ha
  have h1 := yW_get μ hi
  rw [hs] at h1
  exact va_alen C.1 C.2.1 C.2.2.2.2.2.2.2.1 hI i t0 h1 ht rfl d (kk H locs ls hI hS hl)
theorem v_alenI (C : VC X Y l rm cc n ret ws own) {i z : Nat} (ha : AI Y i z) (d : decode cc pc = .ok (.arraylength, 1)) (kk : VG X (yA Y) n cells slots Q (yI Y μ) (pc + 1) lv (.int (nI z) :: st)) : VG X (yA Y) n cells slots Q (yI Y μ) pc lv (.ref (ad Y i) :: st) := by
  intro H locs ls hI hS hl
  obtain ⟨hi, cA, t0, ht, hs⟩ := ha
  have h1 := yW_get μ hi
  rw [hs] at h1
  exact va_alen C.1 C.2.1 C.2.2.2.2.2.2.2.1 hI i t0 h1 ht rfl d (kk H locs ls hI hS hl)
theorem v_iret (C : VC X Y l rm cc n ret ws own) {Post : Option Value → Mu → Prop} {v : Int32} (hr : ret = some .int) (d : decode cc pc = .ok (.ireturn, 1)) (e : Post (some (Value.int v)) μ) : VG X (yA Y) n 0 0 (VQ X Y Post) (yI Y μ) pc lv [.int v] := by
  subst hr
  intro H locs ls hI hS hl
  exact W.iret C.1 C.2.1 C.2.2.2.2.2.1 (fun t ht hW => ⟨⟨_, μ, rfl, e, by rw [ht]; exact hI⟩, hS.F ht⟩) hS.2.2 d (hlocks := C.2.2.2.2.2.2.1)
theorem v_zret (C : VC X Y l rm cc n ret ws own) {Post : Option Value → Mu → Prop} {v : Int32} {ty : FieldType} (hr : ret = some ty) (hn : narrow ty (.int v) = .int v) (d : decode cc pc = .ok (.ireturn, 1)) (e : Post (some (Value.int v)) μ) : VG X (yA Y) n 0 0 (VQ X Y Post) (yI Y μ) pc lv [.int v] := by
  subst hr
  intro H locs ls hI hS hl
  exact W.zret C.1 C.2.1 C.2.2.2.2.2.1 hn (fun t ht hW => ⟨⟨_, μ, rfl, e, by rw [ht]; exact hI⟩, hS.F ht⟩) hS.2.2 d (hlocks := C.2.2.2.2.2.2.1)
theorem v_lret (C : VC X Y l rm cc n ret ws own) {Post : Option Value → Mu → Prop} {v : Int64} (hr : ret = some .long) (d : decode cc pc = .ok (.lreturn, 1)) (e : Post (some (Value.long v)) μ) : VG X (yA Y) n 0 0 (VQ X Y Post) (yI Y μ) pc lv [.long v] := by
  subst hr
  intro H locs ls hI hS hl
  exact W.lret C.1 C.2.1 C.2.2.2.2.2.1 (fun t ht hW => ⟨⟨_, μ, rfl, e, by rw [ht]; exact hI⟩, hS.F ht⟩) hS.2.2 d (hlocks := C.2.2.2.2.2.2.1)
theorem v_aret (C : VC X Y l rm cc n ret ws own) {Post : Option Value → Mu → Prop} {a : Nat} {nm : String} (hr : ret = some (.object nm)) (d : decode cc pc = .ok (.areturn, 1)) (e : Post (some (Value.ref a)) μ) : VG X (yA Y) n 0 0 (VQ X Y Post) (yI Y μ) pc lv [.ref a] := by
  subst hr
  intro H locs ls hI hS hl
  exact W.aret C.1 C.2.1 C.2.2.2.2.2.1 (Or.inl ⟨nm, rfl⟩) (Or.inr ⟨a, rfl⟩) (fun t ht hW => ⟨⟨_, μ, rfl, e, by rw [ht]; exact hI⟩, hS.F ht⟩) hS.2.2 d (hlocks := C.2.2.2.2.2.2.1)
theorem v_vret (C : VC X Y l rm cc n ret ws own) {Post : Option Value → Mu → Prop} (hr : ret = none) (d : decode cc pc = .ok (.return_, 1)) (e : Post (none) μ) : VG X (yA Y) n 0 0 (VQ X Y Post) (yI Y μ) pc lv [] := by
  subst hr
  intro H locs ls hI hS hl
  exact W.vret C.1 C.2.1 C.2.2.2.2.2.1 (fun t ht hW => ⟨⟨_, μ, rfl, e, by rw [ht]; exact hI⟩, hS.F ht⟩) hS.2.2 d (hlocks := C.2.2.2.2.2.2.1)
/-- behind a call -/
theorem v_run {Post : Option Value → Mu → Prop} {A : Nat → Prop} {stR : List Value} (hr : ∀ (H : Heap) (locs : List Loc) (ls : Array Slot), yI Y μ H → lh ls n lv → ∃ a, va_Run (xP X) (xL X) (xE X) (xR X) (xS X) (xM X) (xA X) (xB X) (xMe X) (xC X) H locs cells slots 0 0 (F0 (xM X) pc ls st) stR (yQ Y Post a) (yA Y)) (hA : ∀ q, yA Y q → A q) (kk : ∀ (r : Option Value) (μ' : Mu), Post r μ' → VG X A n cells slots Q (yI Y μ') (pc + 3) lv (r.toList ++ stR)) : VG X A n cells slots Q (yI Y μ) pc lv st := by
  intro H locs ls hI hS hl
  obtain ⟨a, hrun⟩ := hr H locs ls hI hl
  intro T hT XX
  obtain ⟨v, st₀, t, T', L, h0, X', hL, e1, e2, ⟨⟨r, μ', hv, hpost, hb⟩, hz, hk⟩, stp⟩ := hrun T hT XX
  cases hv
  rw [h0] at hz hk
  obtain ⟨t2, a1, b1⟩ := kk _ μ' hpost T'.heap (locs ++ L) ls (by rw [e1]; exact hb)
    ⟨Nat.le_trans hS.1 (by rw [e1]; exact hz), fun q h1 h2 => by rw [e1, hk q (Nat.lt_of_lt_of_le h1 hS.1) (fun z => h2 (hA q z))]; exact hS.2.1 q h1 h2, fun q hq => by
      rcases List.mem_append.mp hq with h | h
      · exact hS.2.2 q h
      · exact hA _ (hL q h)⟩ hl T' rfl X'
  exact ⟨t2, stp t2 a1, b1⟩
theorem yP_blind {av : List Value} : FrameBlind (yP Y av μ) := fun a U g mk q => by
  obtain ⟨q0, q1, q2⟩ := q
  exact ⟨q0, q1, va_K.moved (u := U) (U := U.calling g mk a) (Vm.Alike.refl U.vm) q2⟩
/-- the words that a call needs; all tables' words are at hand in every method -/
def TBok (TB : List Cond) : Prop := ∀ w ∈ TB, (w.onTables && w.keeps) = true ∨ ∃ ty, w = .arrayClass ty
def Lk (TB : List Cond) (own : String) (idx : Nat) (y : MethodName) (b : ByteArray) (mL : Nat) (rt : Option FieldType) (k : Nat) : Prop := Cond.methodLink own idx y ∈ TB ∧ Cond.initialized y.cls ∈ TB ∧ Cond.code y b mL rt ∈ TB ∧ y.cls ≠ "java/lang/invoke/MethodHandle" ∧ y.cls ≠ "java/lang/invoke/VarHandle" ∧ (parseMethodDescriptor y.desc).map (fun d => d.parameters.length) = some k
theorem goodTB {TB : List Cond} (hT : TBok TB) {z w : Cond} (hw : w ∈ TB) : GoodIn (z :: TB) (w :: TB) := fun q hq => by
  rcases List.mem_cons.mp hq with rfl | h
  · exact ⟨List.mem_cons_of_mem _ hw, hT _ hw⟩
  · exact ⟨List.mem_cons_of_mem _ h, hT _ h⟩
variable {idx mL k : Nat} {y : MethodName} {b : ByteArray} {rt : Option FieldType} {rmy : Room} {As stR : List Value} {Post : Option Value → Mu → Prop}
theorem callB_tb (C : VC X Y l rm cc n ret (z :: TB) own) (hT : TBok TB) (hL : Lk TB own idx y b mL rt k) (h1 : rmy.cells = 0) (h2 : rmy.slots = 0) (hR : rmy.frames + 1 ≤ rm.frames ∧ 8 + (mL + 11) + rmy.locals ≤ rm.locals) : CallB (xR X) (xS X) (xA X) own idx y b mL rt (Cond.code y b mL rt :: TB) rmy 0 0 k := by
  obtain ⟨l1, l2, l3, l4⟩ := hL
  have ht := C.2.2.2.2.1
  have hrm : xR X = rm := C.2.2.2.2.2.2.2.2.2.2
  refine callB_of k ht (goodTB hT l3) rfl h1 h2 (ht _ (List.mem_cons_of_mem _ l2)) (ht _ (List.mem_cons_of_mem _ l1)) l4 ?_
  rw [hrm]
  exact hR
theorem v_callV (C : VC X Y l rm cc n ret (z :: TB) own) (hT : TBok TB) (hL : Lk TB own idx y b mL rt k) (h1 : Cond.instanceMethod y ∈ TB) (h2 : Cond.selects y.cls y y ∈ TB) (d : decode cc pc = .ok (.invokevirtual idx, 3)) {i ci N : Nat} {F : (Nat → Int32) → (Nat → Int64) → List Value} {T : u_T} (ho : Ob Y i ci F) (hcl : (yC Y)[ci]? = some (y.cls, T, N)) (hc : Ct l Y y (Cond.code y b mL rt :: TB) rmy (.ref (ad Y i) :: As) μ Post) (h3 : rmy.cells = 0) (h4 : rmy.slots = 0) (hR : rmy.frames + 1 ≤ rm.frames ∧ 8 + (mL + 11) + rmy.locals ≤ rm.locals) (hn : As.length = k) (hst : st = As.reverse ++ .ref (ad Y i) :: stR) (hW : (stR.map fun v => v.category).sum ≤ 8) (hcs : cells ≤ rm.cells ∧ slots ≤ rm.slots)
    (kk : ∀ (r : Option Value) (μ' : Mu), Post r μ' → VG X (yA Y) n cells slots Q (yI Y μ') (pc + 3) lv (r.toList ++ stR)) : VG X (yA Y) n cells slots Q (yI Y μ) pc lv st := by
  have hl0 : xL X = l := C.2.2.2.2.2.2.2.2.2.1
  have hrm : xR X = rm := C.2.2.2.2.2.2.2.2.2.2
  have ht := C.2.2.2.2.1
  refine v_run (fun H locs ls hI hlv => ⟨_, va_runV (As := As) (rest := stR) ⟨C.1, C.2.1, C.2.2.1, C.2.2.2.1, ht⟩ (by rw [hl0]; exact hc) ⟨callB_tb C hT hL h3 h4 hR, ht _ (List.mem_cons_of_mem _ h1), ht _ (List.mem_cons_of_mem _ h2)⟩ ⟨yP_blind, va_recv (q := (y.cls, T, N)) C.2.2.2.2.2.2.2.1 hI hcl (q0 := i) (by rw [yW_get μ ho.1, ho.2]), fun U hU hW => ⟨rfl, by rw [hU]; exact hI, va_K.moved hW.alike C.2.2.2.2.2.2.2.1⟩⟩ rfl hn hlv.1 hst (lv_room hW) d (by rw [hrm]; exact hcs)⟩) (fun _ h => h) kk
theorem v_callS (C : VC X Y l rm cc n ret (z :: TB) own) (hT : TBok TB) (hL : Lk TB own idx y b mL rt k) (h1 : Cond.static y ∈ TB) (d : decode cc pc = .ok (.invokestatic idx, 3)) (hc : Ct l Y y (Cond.code y b mL rt :: TB) rmy As μ Post) (h3 : rmy.cells = 0) (h4 : rmy.slots = 0) (hR : rmy.frames + 1 ≤ rm.frames ∧ 8 + (mL + 11) + rmy.locals ≤ rm.locals) (hn : As.length = k) (hst : st = As.reverse ++ stR) (hW : (stR.map fun v => v.category).sum ≤ 8) (hcs : cells ≤ rm.cells ∧ slots ≤ rm.slots)
    (kk : ∀ (r : Option Value) (μ' : Mu), Post r μ' → VG X (yA Y) n cells slots Q (yI Y μ') (pc + 3) lv (r.toList ++ stR)) : VG X (yA Y) n cells slots Q (yI Y μ) pc lv st := by
  have hl0 : xL X = l := C.2.2.2.2.2.2.2.2.2.1
  have hrm : xR X = rm := C.2.2.2.2.2.2.2.2.2.2
  have ht := C.2.2.2.2.1
  refine v_run (fun H locs ls hI hlv => ⟨_, va_runS (As := As) (rest := stR) ⟨C.1, C.2.1, C.2.2.1, C.2.2.2.1, ht⟩ (by rw [hl0]; exact hc) ⟨callB_tb C hT hL h3 h4 hR, ht _ (List.mem_cons_of_mem _ h1)⟩ ⟨yP_blind, fun U hU hW => ⟨rfl, by rw [hU]; exact hI, va_K.moved hW.alike C.2.2.2.2.2.2.2.1⟩⟩ rfl hn hlv.1 hst (lv_room hW) d (by rw [hrm]; exact hcs)⟩) (fun _ h => h) kk
/-- what stands on the stack behind a call, by the kind of its end -/
theorem kE {r0 : Option Value} {μ0 : Mu} {A : Nat → Prop} {stR' : List Value} (hs : r0.toList ++ stR = stR') (kk : VG X A n cells slots Q (yI Y μ0) pc lv stR') : ∀ (r : Option Value) (μ' : Mu), PE r0 μ0 r μ' → VG X A n cells slots Q (yI Y μ') pc lv (r.toList ++ stR) := by
  rintro r μ' ⟨rfl, rfl⟩
  rw [hs]
  exact kk
theorem kV {P : Mu → Prop} {A : Nat → Prop} (kk : ∀ μ', P μ' → VG X A n cells slots Q (yI Y μ') pc lv stR) : ∀ (r : Option Value) (μ' : Mu), PV P r μ' → VG X A n cells slots Q (yI Y μ') pc lv (r.toList ++ stR) := by
  rintro r μ' ⟨rfl, h⟩
  exact kk μ' h
theorem kI {P : Int32 → Mu → Prop} {A : Nat → Prop} (kk : ∀ x μ', P x μ' → VG X A n cells slots Q (yI Y μ') pc lv (.int x :: stR)) : ∀ (r : Option Value) (μ' : Mu), PI P r μ' → VG X A n cells slots Q (yI Y μ') pc lv (r.toList ++ stR) := by
  rintro r μ' ⟨x, rfl, h⟩
  exact kk x μ' h
theorem kL {P : Int64 → Mu → Prop} {A : Nat → Prop} (kk : ∀ x μ', P x μ' → VG X A n cells slots Q (yI Y μ') pc lv (.long x :: stR)) : ∀ (r : Option Value) (μ' : Mu), PL P r μ' → VG X A n cells slots Q (yI Y μ') pc lv (r.toList ++ stR) := by
  rintro r μ' ⟨x, rfl, h⟩
  exact kk x μ' h
end WROWS
end
section
def RBo : String := "BoxedPages$Box"
def RDi : String := "BoxedPages$Disk"
def RPa : String := "BoxedPages$Page"
def RSe : String := "BoxedPages$Search"
def RTr : String := "BoxedPages$Tree"
def RFa : String := "BoxedPages"
def RMo : String := "BoxedPagesModel"
def RIn : String := "java/lang/Integer"
def RMa : String := "java/lang/Math"
def RSy : String := "java/lang/System"
def RLa : String := "BoxedPagesLaw"
def ROb : String := "java/lang/Object"
def TBo : u_T := fun k => match k with
  | 0 => ("BoxedPages$Box", "x1", "I", false)
  | 1 => ("BoxedPages$Box", "y1", "I", false)
  | 2 => ("BoxedPages$Box", "x2", "I", false)
  | 3 => ("BoxedPages$Box", "y2", "I", false)
  | _ => ("BoxedPages$Box", "below", "I", false)
def tBo : Nat → FieldType := fun k => match k with
  | 0 => .int
  | 1 => .int
  | 2 => .int
  | 3 => .int
  | _ => .int
theorem nmBo : ∀ a, a < 5 → ∀ b, b < 5 → a ≠ b → (TBo a).2.1 ≠ (TBo b).2.1 := by decide +kernel
theorem tyBo : ∀ k, k < 5 → parseFieldDescriptor (TBo k).2.2.1 = some (tBo k) := by decide +kernel
theorem usBo : ∀ w ∈ u_ws RBo TBo 5, w ∈ tbl := fun w h => List.mem_filter.mpr ⟨(by decide +kernel : ∀ w ∈ u_ws RBo TBo 5, w ∈ lw_tbl) w h, (by decide +kernel : ∀ w ∈ u_ws RBo TBo 5, goodWord w = true) w h⟩
def TDi : u_T := fun k => match k with
  | 0 => ("BoxedPages$Disk", "places", "[[I", true)
  | 1 => ("BoxedPages$Disk", "log", "[[I", true)
  | 2 => ("BoxedPages$Disk", "loggedPage", "[I", true)
  | 3 => ("BoxedPages$Disk", "logged", "I", false)
  | _ => ("BoxedPages$Disk", "marked", "Z", false)
def tDi : Nat → FieldType := fun k => match k with
  | 0 => .array (.array .int)
  | 1 => .array (.array .int)
  | 2 => .array .int
  | 3 => .int
  | _ => .boolean
theorem nmDi : ∀ a, a < 5 → ∀ b, b < 5 → a ≠ b → (TDi a).2.1 ≠ (TDi b).2.1 := by decide +kernel
theorem tyDi : ∀ k, k < 5 → parseFieldDescriptor (TDi k).2.2.1 = some (tDi k) := by decide +kernel
theorem usDi : ∀ w ∈ u_ws RDi TDi 5, w ∈ tbl := fun w h => List.mem_filter.mpr ⟨(by decide +kernel : ∀ w ∈ u_ws RDi TDi 5, w ∈ lw_tbl) w h, (by decide +kernel : ∀ w ∈ u_ws RDi TDi 5, goodWord w = true) w h⟩
def TPa : u_T := fun k => match k with
  | 0 => ("BoxedPages$Page", "level", "I", false)
  | 1 => ("BoxedPages$Page", "used", "I", false)
  | 2 => ("BoxedPages$Page", "changed", "Z", false)
  | _ => ("BoxedPages$Page", "boxes", "[LBoxedPages$Box;", true)
def tPa : Nat → FieldType := fun k => match k with
  | 0 => .int
  | 1 => .int
  | 2 => .boolean
  | _ => .array (.object "BoxedPages$Box")
theorem nmPa : ∀ a, a < 4 → ∀ b, b < 4 → a ≠ b → (TPa a).2.1 ≠ (TPa b).2.1 := by decide +kernel
theorem tyPa : ∀ k, k < 4 → parseFieldDescriptor (TPa k).2.2.1 = some (tPa k) := by decide +kernel
theorem usPa : ∀ w ∈ u_ws RPa TPa 4, w ∈ tbl := fun w h => List.mem_filter.mpr ⟨(by decide +kernel : ∀ w ∈ u_ws RPa TPa 4, w ∈ lw_tbl) w h, (by decide +kernel : ∀ w ∈ u_ws RPa TPa 4, goodWord w = true) w h⟩
def TSe : u_T := fun k => match k with
  | 0 => ("BoxedPages$Search", "found", "[LBoxedPages$Box;", true)
  | 1 => ("BoxedPages$Search", "hits", "I", false)
  | 2 => ("BoxedPages$Search", "closest", "LBoxedPages$Box;", true)
  | 3 => ("BoxedPages$Search", "least", "J", false)
  | 4 => ("BoxedPages$Search", "waiting", "[I", true)
  | 5 => ("BoxedPages$Search", "squares", "[J", true)
  | 6 => ("BoxedPages$Search", "queued", "I", false)
  | 7 => ("BoxedPages$Search", "looked", "[I", true)
  | 8 => ("BoxedPages$Search", "looks", "I", false)
  | _ => ("BoxedPages$Search", "frame", "LBoxedPages$Box;", true)
def tSe : Nat → FieldType := fun k => match k with
  | 0 => .array (.object "BoxedPages$Box")
  | 1 => .int
  | 2 => .object "BoxedPages$Box"
  | 3 => .long
  | 4 => .array .int
  | 5 => .array .long
  | 6 => .int
  | 7 => .array .int
  | 8 => .int
  | _ => .object "BoxedPages$Box"
theorem nmSe : ∀ a, a < 10 → ∀ b, b < 10 → a ≠ b → (TSe a).2.1 ≠ (TSe b).2.1 := by decide +kernel
theorem tySe : ∀ k, k < 10 → parseFieldDescriptor (TSe k).2.2.1 = some (tSe k) := by decide +kernel
theorem usSe : ∀ w ∈ u_ws RSe TSe 10, w ∈ tbl := fun w h => List.mem_filter.mpr ⟨(by decide +kernel : ∀ w ∈ u_ws RSe TSe 10, w ∈ lw_tbl) w h, (by decide +kernel : ∀ w ∈ u_ws RSe TSe 10, goodWord w = true) w h⟩
def TTr : u_T := fun k => match k with
  | 0 => ("BoxedPages$Tree", "root", "I", false)
  | 1 => ("BoxedPages$Tree", "entries", "I", false)
  | 2 => ("BoxedPages$Tree", "headerChanged", "Z", false)
  | 3 => ("BoxedPages$Tree", "pages", "[LBoxedPages$Page;", true)
  | 4 => ("BoxedPages$Tree", "trail", "[I", true)
  | 5 => ("BoxedPages$Tree", "turns", "[I", true)
  | 6 => ("BoxedPages$Tree", "frame", "LBoxedPages$Box;", true)
  | _ => ("BoxedPages$Tree", "rest", "LBoxedPages$Box;", true)
def tTr : Nat → FieldType := fun k => match k with
  | 0 => .int
  | 1 => .int
  | 2 => .boolean
  | 3 => .array (.object "BoxedPages$Page")
  | 4 => .array .int
  | 5 => .array .int
  | 6 => .object "BoxedPages$Box"
  | _ => .object "BoxedPages$Box"
theorem nmTr : ∀ a, a < 8 → ∀ b, b < 8 → a ≠ b → (TTr a).2.1 ≠ (TTr b).2.1 := by decide +kernel
theorem tyTr : ∀ k, k < 8 → parseFieldDescriptor (TTr k).2.2.1 = some (tTr k) := by decide +kernel
theorem usTr : ∀ w ∈ u_ws RTr TTr 8, w ∈ tbl := fun w h => List.mem_filter.mpr ⟨(by decide +kernel : ∀ w ∈ u_ws RTr TTr 8, w ∈ lw_tbl) w h, (by decide +kernel : ∀ w ∈ u_ws RTr TTr 8, goodWord w = true) w h⟩
def TFa : u_T := fun k => match k with
  | 0 => ("BoxedPages", "disk", "LBoxedPages$Disk;", true)
  | 1 => ("BoxedPages", "tree", "LBoxedPages$Tree;", true)
  | 2 => ("BoxedPages", "search", "LBoxedPages$Search;", true)
  | 3 => ("BoxedPages", "asked", "LBoxedPages$Box;", true)
  | 4 => ("BoxedPages", "running", "Z", false)
  | 5 => ("BoxedPages", "thrifty", "Z", false)
  | _ => ("BoxedPages", "nextCut", "I", false)
def tFa : Nat → FieldType := fun k => match k with
  | 0 => .object "BoxedPages$Disk"
  | 1 => .object "BoxedPages$Tree"
  | 2 => .object "BoxedPages$Search"
  | 3 => .object "BoxedPages$Box"
  | 4 => .boolean
  | 5 => .boolean
  | _ => .int
theorem nmFa : ∀ a, a < 7 → ∀ b, b < 7 → a ≠ b → (TFa a).2.1 ≠ (TFa b).2.1 := by decide +kernel
theorem tyFa : ∀ k, k < 7 → parseFieldDescriptor (TFa k).2.2.1 = some (tFa k) := by decide +kernel
theorem usFa : ∀ w ∈ u_ws RFa TFa 7, w ∈ tbl := fun w h => List.mem_filter.mpr ⟨(by decide +kernel : ∀ w ∈ u_ws RFa TFa 7, w ∈ lw_tbl) w h, (by decide +kernel : ∀ w ∈ u_ws RFa TFa 7, goodWord w = true) w h⟩
def TMo : u_T := fun k => match k with
  | 0 => ("BoxedPagesModel", "isUp", "Z", false)
  | 1 => ("BoxedPagesModel", "cut", "I", false)
  | 2 => ("BoxedPagesModel", "many", "I", false)
  | _ => ("BoxedPagesModel", "entry", "[I", true)
def tMo : Nat → FieldType := fun k => match k with
  | 0 => .boolean
  | 1 => .int
  | 2 => .int
  | _ => .array .int
theorem nmMo : ∀ a, a < 4 → ∀ b, b < 4 → a ≠ b → (TMo a).2.1 ≠ (TMo b).2.1 := by decide +kernel
theorem tyMo : ∀ k, k < 4 → parseFieldDescriptor (TMo k).2.2.1 = some (tMo k) := by decide +kernel
theorem usMo : ∀ w ∈ u_ws RMo TMo 4, w ∈ tbl := fun w h => List.mem_filter.mpr ⟨(by decide +kernel : ∀ w ∈ u_ws RMo TMo 4, w ∈ lw_tbl) w h, (by decide +kernel : ∀ w ∈ u_ws RMo TMo 4, goodWord w = true) w h⟩
abbrev cls : List vw_C := [(RBo, TBo, 5), (RDi, TDi, 5), (RPa, TPa, 4), (RSe, TSe, 10), (RTr, TTr, 8), (RFa, TFa, 7), (RMo, TMo, 4)]
theorem tbok : TBok tbl := fun w h => good_of_word (tb_good w h)
theorem klBo {Y : Yt} {z : Cond} (h : yC Y = cls) : Kl Y (z :: tbl) 0 RBo TBo 5 tBo := ⟨by rw [h]; rfl, fun w hw => List.mem_cons_of_mem _ (usBo w hw), tyBo, nmBo⟩
theorem klDi {Y : Yt} {z : Cond} (h : yC Y = cls) : Kl Y (z :: tbl) 1 RDi TDi 5 tDi := ⟨by rw [h]; rfl, fun w hw => List.mem_cons_of_mem _ (usDi w hw), tyDi, nmDi⟩
theorem klPa {Y : Yt} {z : Cond} (h : yC Y = cls) : Kl Y (z :: tbl) 2 RPa TPa 4 tPa := ⟨by rw [h]; rfl, fun w hw => List.mem_cons_of_mem _ (usPa w hw), tyPa, nmPa⟩
theorem klSe {Y : Yt} {z : Cond} (h : yC Y = cls) : Kl Y (z :: tbl) 3 RSe TSe 10 tSe := ⟨by rw [h]; rfl, fun w hw => List.mem_cons_of_mem _ (usSe w hw), tySe, nmSe⟩
theorem klTr {Y : Yt} {z : Cond} (h : yC Y = cls) : Kl Y (z :: tbl) 4 RTr TTr 8 tTr := ⟨by rw [h]; rfl, fun w hw => List.mem_cons_of_mem _ (usTr w hw), tyTr, nmTr⟩
theorem klFa {Y : Yt} {z : Cond} (h : yC Y = cls) : Kl Y (z :: tbl) 5 RFa TFa 7 tFa := ⟨by rw [h]; rfl, fun w hw => List.mem_cons_of_mem _ (usFa w hw), tyFa, nmFa⟩
theorem klMo {Y : Yt} {z : Cond} (h : yC Y = cls) : Kl Y (z :: tbl) 6 RMo TMo 4 tMo := ⟨by rw [h]; rfl, fun w hw => List.mem_cons_of_mem _ (usMo w hw), tyMo, nmMo⟩
end
section
abbrev bMa_max : ByteArray := prog_10_method_65_code
def yMa_max : MethodName := ⟨RMa, "max", "(II)I"⟩
abbrev bMa_min : ByteArray := prog_10_method_69_code
def yMa_min : MethodName := ⟨RMa, "min", "(II)I"⟩
theorem dMa_max_0 : decode bMa_max 0 = .ok (.iload_n 0, 1) := by decide +kernel
theorem dMa_max_1 : decode bMa_max 1 = .ok (.iload_n 1, 1) := by decide +kernel
theorem dMa_max_2 : decode bMa_max 2 = .ok (.if_icmp .lt 7, 3) := by decide +kernel
theorem dMa_max_5 : decode bMa_max 5 = .ok (.iload_n 0, 1) := by decide +kernel
theorem dMa_max_6 : decode bMa_max 6 = .ok (.goto 4, 3) := by decide +kernel
theorem dMa_max_9 : decode bMa_max 9 = .ok (.iload_n 1, 1) := by decide +kernel
theorem dMa_max_10 : decode bMa_max 10 = .ok (.ireturn, 1) := by decide +kernel
abbrev wMa_max : List Cond := Cond.code yMa_max bMa_max 2 (some .int)   :: tbl
theorem kcMa_max : Cond.code yMa_max bMa_max 2 (some .int) ∈ tbl := tb2 11 (by decide +kernel) (by decide +kernel)
theorem ktMa_max : Cond.static yMa_max ∈ tbl := tb2 10 (by decide +kernel) (by decide +kernel)
theorem dMa_min_0 : decode bMa_min 0 = .ok (.iload_n 0, 1) := by decide +kernel
theorem dMa_min_1 : decode bMa_min 1 = .ok (.iload_n 1, 1) := by decide +kernel
theorem dMa_min_2 : decode bMa_min 2 = .ok (.if_icmp .gt 7, 3) := by decide +kernel
theorem dMa_min_5 : decode bMa_min 5 = .ok (.iload_n 0, 1) := by decide +kernel
theorem dMa_min_6 : decode bMa_min 6 = .ok (.goto 4, 3) := by decide +kernel
theorem dMa_min_9 : decode bMa_min 9 = .ok (.iload_n 1, 1) := by decide +kernel
theorem dMa_min_10 : decode bMa_min 10 = .ok (.ireturn, 1) := by decide +kernel
abbrev wMa_min : List Cond := Cond.code yMa_min bMa_min 2 (some .int)   :: tbl
theorem kcMa_min : Cond.code yMa_min bMa_min 2 (some .int) ∈ tbl := tb2 8 (by decide +kernel) (by decide +kernel)
theorem ktMa_min : Cond.static yMa_min ∈ tbl := tb2 7 (by decide +kernel) (by decide +kernel)
abbrev bIn_bitCount : ByteArray := prog_9_method_49_code
def yIn_bitCount : MethodName := ⟨RIn, "bitCount", "(I)I"⟩
theorem dIn_bitCount_0 : decode bIn_bitCount 0 = .ok (.iload_n 0, 1) := by decide +kernel
theorem dIn_bitCount_1 : decode bIn_bitCount 1 = .ok (.iload_n 0, 1) := by decide +kernel
theorem dIn_bitCount_2 : decode bIn_bitCount 2 = .ok (.iconst 1, 1) := by decide +kernel
theorem dIn_bitCount_3 : decode bIn_bitCount 3 = .ok (.iushr, 1) := by decide +kernel
theorem dIn_bitCount_4 : decode bIn_bitCount 4 = .ok (.ldc_w 265, 3) := by decide +kernel
theorem dIn_bitCount_7 : decode bIn_bitCount 7 = .ok (.iand, 1) := by decide +kernel
theorem dIn_bitCount_8 : decode bIn_bitCount 8 = .ok (.isub, 1) := by decide +kernel
theorem dIn_bitCount_9 : decode bIn_bitCount 9 = .ok (.istore_n 0, 1) := by decide +kernel
theorem dIn_bitCount_10 : decode bIn_bitCount 10 = .ok (.iload_n 0, 1) := by decide +kernel
theorem dIn_bitCount_11 : decode bIn_bitCount 11 = .ok (.ldc_w 266, 3) := by decide +kernel
theorem dIn_bitCount_14 : decode bIn_bitCount 14 = .ok (.iand, 1) := by decide +kernel
theorem dIn_bitCount_15 : decode bIn_bitCount 15 = .ok (.iload_n 0, 1) := by decide +kernel
theorem dIn_bitCount_16 : decode bIn_bitCount 16 = .ok (.iconst 2, 1) := by decide +kernel
theorem dIn_bitCount_17 : decode bIn_bitCount 17 = .ok (.iushr, 1) := by decide +kernel
theorem dIn_bitCount_18 : decode bIn_bitCount 18 = .ok (.ldc_w 266, 3) := by decide +kernel
theorem dIn_bitCount_21 : decode bIn_bitCount 21 = .ok (.iand, 1) := by decide +kernel
theorem dIn_bitCount_22 : decode bIn_bitCount 22 = .ok (.iadd, 1) := by decide +kernel
theorem dIn_bitCount_23 : decode bIn_bitCount 23 = .ok (.istore_n 0, 1) := by decide +kernel
theorem dIn_bitCount_24 : decode bIn_bitCount 24 = .ok (.iload_n 0, 1) := by decide +kernel
theorem dIn_bitCount_25 : decode bIn_bitCount 25 = .ok (.iload_n 0, 1) := by decide +kernel
theorem dIn_bitCount_26 : decode bIn_bitCount 26 = .ok (.iconst 4, 1) := by decide +kernel
theorem dIn_bitCount_27 : decode bIn_bitCount 27 = .ok (.iushr, 1) := by decide +kernel
theorem dIn_bitCount_28 : decode bIn_bitCount 28 = .ok (.iadd, 1) := by decide +kernel
theorem dIn_bitCount_29 : decode bIn_bitCount 29 = .ok (.ldc_w 267, 3) := by decide +kernel
theorem dIn_bitCount_32 : decode bIn_bitCount 32 = .ok (.iand, 1) := by decide +kernel
theorem dIn_bitCount_33 : decode bIn_bitCount 33 = .ok (.istore_n 0, 1) := by decide +kernel
theorem dIn_bitCount_34 : decode bIn_bitCount 34 = .ok (.iload_n 0, 1) := by decide +kernel
theorem dIn_bitCount_35 : decode bIn_bitCount 35 = .ok (.iload_n 0, 1) := by decide +kernel
theorem dIn_bitCount_36 : decode bIn_bitCount 36 = .ok (.bipush 8, 2) := by decide +kernel
theorem dIn_bitCount_38 : decode bIn_bitCount 38 = .ok (.iushr, 1) := by decide +kernel
theorem dIn_bitCount_39 : decode bIn_bitCount 39 = .ok (.iadd, 1) := by decide +kernel
theorem dIn_bitCount_40 : decode bIn_bitCount 40 = .ok (.istore_n 0, 1) := by decide +kernel
theorem dIn_bitCount_41 : decode bIn_bitCount 41 = .ok (.iload_n 0, 1) := by decide +kernel
theorem dIn_bitCount_42 : decode bIn_bitCount 42 = .ok (.iload_n 0, 1) := by decide +kernel
theorem dIn_bitCount_43 : decode bIn_bitCount 43 = .ok (.bipush 16, 2) := by decide +kernel
theorem dIn_bitCount_45 : decode bIn_bitCount 45 = .ok (.iushr, 1) := by decide +kernel
theorem dIn_bitCount_46 : decode bIn_bitCount 46 = .ok (.iadd, 1) := by decide +kernel
theorem dIn_bitCount_47 : decode bIn_bitCount 47 = .ok (.istore_n 0, 1) := by decide +kernel
theorem dIn_bitCount_48 : decode bIn_bitCount 48 = .ok (.iload_n 0, 1) := by decide +kernel
theorem dIn_bitCount_49 : decode bIn_bitCount 49 = .ok (.bipush 63, 2) := by decide +kernel
theorem dIn_bitCount_51 : decode bIn_bitCount 51 = .ok (.iand, 1) := by decide +kernel
theorem dIn_bitCount_52 : decode bIn_bitCount 52 = .ok (.ireturn, 1) := by decide +kernel
abbrev wIn_bitCount : List Cond := Cond.code yIn_bitCount bIn_bitCount 1 (some .int)   :: tbl
theorem kcIn_bitCount : Cond.code yIn_bitCount bIn_bitCount 1 (some .int) ∈ tbl := tb2 97 (by decide +kernel) (by decide +kernel)
theorem ktIn_bitCount : Cond.static yIn_bitCount ∈ tbl := tb2 96 (by decide +kernel) (by decide +kernel)
theorem kfIn_265 : Cond.constant RIn 265 (1431655765) ∈ tbl := tb2 98 (by decide +kernel) (by decide +kernel)
theorem kfIn_266 : Cond.constant RIn 266 (858993459) ∈ tbl := tb2 99 (by decide +kernel) (by decide +kernel)
theorem kfIn_267 : Cond.constant RIn 267 (252645135) ∈ tbl := tb2 100 (by decide +kernel) (by decide +kernel)
abbrev bBo_init : ByteArray := prog_2_method_1_code
def yBo_init : MethodName := ⟨RBo, "<init>", "()V"⟩
abbrev bBo_assign : ByteArray := prog_2_method_2_code
def yBo_assign : MethodName := ⟨RBo, "assign", "(IIIII)V"⟩
abbrev bBo_become : ByteArray := prog_2_method_3_code
def yBo_become : MethodName := ⟨RBo, "become", "(LBoxedPages$Box;)V"⟩
abbrev bBo_shrinkToNothing : ByteArray := prog_2_method_4_code
def yBo_shrinkToNothing : MethodName := ⟨RBo, "shrinkToNothing", "()V"⟩
abbrev bBo_widen : ByteArray := prog_2_method_5_code
def yBo_widen : MethodName := ⟨RBo, "widen", "(LBoxedPages$Box;)V"⟩
abbrev bBo_meets : ByteArray := prog_2_method_6_code
def yBo_meets : MethodName := ⟨RBo, "meets", "(LBoxedPages$Box;)Z"⟩
abbrev bBo_holds : ByteArray := prog_2_method_7_code
def yBo_holds : MethodName := ⟨RBo, "holds", "(LBoxedPages$Box;)Z"⟩
abbrev bBo_isSame : ByteArray := prog_2_method_8_code
def yBo_isSame : MethodName := ⟨RBo, "isSame", "(LBoxedPages$Box;)Z"⟩
abbrev bBo_precedes : ByteArray := prog_2_method_9_code
def yBo_precedes : MethodName := ⟨RBo, "precedes", "(LBoxedPages$Box;)Z"⟩
abbrev bBo_area : ByteArray := prog_2_method_10_code
def yBo_area : MethodName := ⟨RBo, "area", "()J"⟩
abbrev bBo_rim : ByteArray := prog_2_method_11_code
def yBo_rim : MethodName := ⟨RBo, "rim", "()J"⟩
abbrev bBo_areaWith : ByteArray := prog_2_method_12_code
def yBo_areaWith : MethodName := ⟨RBo, "areaWith", "(LBoxedPages$Box;)J"⟩
abbrev bBo_squareFrom : ByteArray := prog_2_method_13_code
def yBo_squareFrom : MethodName := ⟨RBo, "squareFrom", "(II)J"⟩
theorem dBo_init_0 : decode bBo_init 0 = .ok (.aload_n 0, 1) := by decide +kernel
theorem dBo_init_1 : decode bBo_init 1 = .ok (.invokespecial 3, 3) := by decide +kernel
theorem dBo_init_4 : decode bBo_init 4 = .ok (.return_, 1) := by decide +kernel
abbrev wBo_init : List Cond := Cond.code yBo_init bBo_init 1 none   :: tbl
theorem kcBo_init : Cond.code yBo_init bBo_init 1 none ∈ tbl := tb1 57 (by decide +kernel) (by decide +kernel)
theorem kiBo_init : Cond.instanceMethod yBo_init ∈ tbl := tb1 56 (by decide +kernel) (by decide +kernel)
theorem dBo_assign_0 : decode bBo_assign 0 = .ok (.aload_n 0, 1) := by decide +kernel
theorem dBo_assign_1 : decode bBo_assign 1 = .ok (.iload_n 1, 1) := by decide +kernel
theorem dBo_assign_2 : decode bBo_assign 2 = .ok (.putfield 9, 3) := by decide +kernel
theorem dBo_assign_5 : decode bBo_assign 5 = .ok (.aload_n 0, 1) := by decide +kernel
theorem dBo_assign_6 : decode bBo_assign 6 = .ok (.iload_n 2, 1) := by decide +kernel
theorem dBo_assign_7 : decode bBo_assign 7 = .ok (.putfield 15, 3) := by decide +kernel
theorem dBo_assign_10 : decode bBo_assign 10 = .ok (.aload_n 0, 1) := by decide +kernel
theorem dBo_assign_11 : decode bBo_assign 11 = .ok (.iload_n 3, 1) := by decide +kernel
theorem dBo_assign_12 : decode bBo_assign 12 = .ok (.putfield 18, 3) := by decide +kernel
theorem dBo_assign_15 : decode bBo_assign 15 = .ok (.aload_n 0, 1) := by decide +kernel
theorem dBo_assign_16 : decode bBo_assign 16 = .ok (.iload 4, 2) := by decide +kernel
theorem dBo_assign_18 : decode bBo_assign 18 = .ok (.putfield 21, 3) := by decide +kernel
theorem dBo_assign_21 : decode bBo_assign 21 = .ok (.aload_n 0, 1) := by decide +kernel
theorem dBo_assign_22 : decode bBo_assign 22 = .ok (.iload 5, 2) := by decide +kernel
theorem dBo_assign_24 : decode bBo_assign 24 = .ok (.putfield 24, 3) := by decide +kernel
theorem dBo_assign_27 : decode bBo_assign 27 = .ok (.return_, 1) := by decide +kernel
abbrev wBo_assign : List Cond := Cond.code yBo_assign bBo_assign 6 none   :: tbl
theorem kcBo_assign : Cond.code yBo_assign bBo_assign 6 none ∈ tbl := tb1 229 (by decide +kernel) (by decide +kernel)
theorem kiBo_assign : Cond.instanceMethod yBo_assign ∈ tbl := tb1 227 (by decide +kernel) (by decide +kernel)
theorem ksBo_assign : Cond.selects yBo_assign.cls yBo_assign yBo_assign ∈ tbl := tb1 228 (by decide +kernel) (by decide +kernel)
theorem dBo_become_0 : decode bBo_become 0 = .ok (.aload_n 0, 1) := by decide +kernel
theorem dBo_become_1 : decode bBo_become 1 = .ok (.aload_n 1, 1) := by decide +kernel
theorem dBo_become_2 : decode bBo_become 2 = .ok (.getfield 9, 3) := by decide +kernel
theorem dBo_become_5 : decode bBo_become 5 = .ok (.putfield 9, 3) := by decide +kernel
theorem dBo_become_8 : decode bBo_become 8 = .ok (.aload_n 0, 1) := by decide +kernel
theorem dBo_become_9 : decode bBo_become 9 = .ok (.aload_n 1, 1) := by decide +kernel
theorem dBo_become_10 : decode bBo_become 10 = .ok (.getfield 15, 3) := by decide +kernel
theorem dBo_become_13 : decode bBo_become 13 = .ok (.putfield 15, 3) := by decide +kernel
theorem dBo_become_16 : decode bBo_become 16 = .ok (.aload_n 0, 1) := by decide +kernel
theorem dBo_become_17 : decode bBo_become 17 = .ok (.aload_n 1, 1) := by decide +kernel
theorem dBo_become_18 : decode bBo_become 18 = .ok (.getfield 18, 3) := by decide +kernel
theorem dBo_become_21 : decode bBo_become 21 = .ok (.putfield 18, 3) := by decide +kernel
theorem dBo_become_24 : decode bBo_become 24 = .ok (.aload_n 0, 1) := by decide +kernel
theorem dBo_become_25 : decode bBo_become 25 = .ok (.aload_n 1, 1) := by decide +kernel
theorem dBo_become_26 : decode bBo_become 26 = .ok (.getfield 21, 3) := by decide +kernel
theorem dBo_become_29 : decode bBo_become 29 = .ok (.putfield 21, 3) := by decide +kernel
theorem dBo_become_32 : decode bBo_become 32 = .ok (.aload_n 0, 1) := by decide +kernel
theorem dBo_become_33 : decode bBo_become 33 = .ok (.aload_n 1, 1) := by decide +kernel
theorem dBo_become_34 : decode bBo_become 34 = .ok (.getfield 24, 3) := by decide +kernel
theorem dBo_become_37 : decode bBo_become 37 = .ok (.putfield 24, 3) := by decide +kernel
theorem dBo_become_40 : decode bBo_become 40 = .ok (.return_, 1) := by decide +kernel
abbrev wBo_become : List Cond := Cond.code yBo_become bBo_become 2 none   :: tbl
theorem kcBo_become : Cond.code yBo_become bBo_become 2 none ∈ tbl := tb2 34 (by decide +kernel) (by decide +kernel)
theorem kiBo_become : Cond.instanceMethod yBo_become ∈ tbl := tb2 32 (by decide +kernel) (by decide +kernel)
theorem ksBo_become : Cond.selects yBo_become.cls yBo_become yBo_become ∈ tbl := tb2 33 (by decide +kernel) (by decide +kernel)
theorem dBo_shrinkToNothing_0 : decode bBo_shrinkToNothing 0 = .ok (.aload_n 0, 1) := by decide +kernel
theorem dBo_shrinkToNothing_1 : decode bBo_shrinkToNothing 1 = .ok (.ldc 27, 2) := by decide +kernel
theorem dBo_shrinkToNothing_3 : decode bBo_shrinkToNothing 3 = .ok (.putfield 9, 3) := by decide +kernel
theorem dBo_shrinkToNothing_6 : decode bBo_shrinkToNothing 6 = .ok (.aload_n 0, 1) := by decide +kernel
theorem dBo_shrinkToNothing_7 : decode bBo_shrinkToNothing 7 = .ok (.ldc 27, 2) := by decide +kernel
theorem dBo_shrinkToNothing_9 : decode bBo_shrinkToNothing 9 = .ok (.putfield 15, 3) := by decide +kernel
theorem dBo_shrinkToNothing_12 : decode bBo_shrinkToNothing 12 = .ok (.aload_n 0, 1) := by decide +kernel
theorem dBo_shrinkToNothing_13 : decode bBo_shrinkToNothing 13 = .ok (.ldc 28, 2) := by decide +kernel
theorem dBo_shrinkToNothing_15 : decode bBo_shrinkToNothing 15 = .ok (.putfield 18, 3) := by decide +kernel
theorem dBo_shrinkToNothing_18 : decode bBo_shrinkToNothing 18 = .ok (.aload_n 0, 1) := by decide +kernel
theorem dBo_shrinkToNothing_19 : decode bBo_shrinkToNothing 19 = .ok (.ldc 28, 2) := by decide +kernel
theorem dBo_shrinkToNothing_21 : decode bBo_shrinkToNothing 21 = .ok (.putfield 21, 3) := by decide +kernel
theorem dBo_shrinkToNothing_24 : decode bBo_shrinkToNothing 24 = .ok (.return_, 1) := by decide +kernel
abbrev wBo_shrinkToNothing : List Cond := Cond.code yBo_shrinkToNothing bBo_shrinkToNothing 1 none   :: tbl
theorem kcBo_shrinkToNothing : Cond.code yBo_shrinkToNothing bBo_shrinkToNothing 1 none ∈ tbl := tb2 58 (by decide +kernel) (by decide +kernel)
theorem kiBo_shrinkToNothing : Cond.instanceMethod yBo_shrinkToNothing ∈ tbl := tb2 56 (by decide +kernel) (by decide +kernel)
theorem ksBo_shrinkToNothing : Cond.selects yBo_shrinkToNothing.cls yBo_shrinkToNothing yBo_shrinkToNothing ∈ tbl := tb2 57 (by decide +kernel) (by decide +kernel)
theorem dBo_widen_0 : decode bBo_widen 0 = .ok (.aload_n 0, 1) := by decide +kernel
theorem dBo_widen_1 : decode bBo_widen 1 = .ok (.aload_n 1, 1) := by decide +kernel
theorem dBo_widen_2 : decode bBo_widen 2 = .ok (.getfield 9, 3) := by decide +kernel
theorem dBo_widen_5 : decode bBo_widen 5 = .ok (.aload_n 0, 1) := by decide +kernel
theorem dBo_widen_6 : decode bBo_widen 6 = .ok (.getfield 9, 3) := by decide +kernel
theorem dBo_widen_9 : decode bBo_widen 9 = .ok (.if_icmp .ge 10, 3) := by decide +kernel
theorem dBo_widen_12 : decode bBo_widen 12 = .ok (.aload_n 1, 1) := by decide +kernel
theorem dBo_widen_13 : decode bBo_widen 13 = .ok (.getfield 9, 3) := by decide +kernel
theorem dBo_widen_16 : decode bBo_widen 16 = .ok (.goto 7, 3) := by decide +kernel
theorem dBo_widen_19 : decode bBo_widen 19 = .ok (.aload_n 0, 1) := by decide +kernel
theorem dBo_widen_20 : decode bBo_widen 20 = .ok (.getfield 9, 3) := by decide +kernel
theorem dBo_widen_23 : decode bBo_widen 23 = .ok (.putfield 9, 3) := by decide +kernel
theorem dBo_widen_26 : decode bBo_widen 26 = .ok (.aload_n 0, 1) := by decide +kernel
theorem dBo_widen_27 : decode bBo_widen 27 = .ok (.aload_n 1, 1) := by decide +kernel
theorem dBo_widen_28 : decode bBo_widen 28 = .ok (.getfield 15, 3) := by decide +kernel
theorem dBo_widen_31 : decode bBo_widen 31 = .ok (.aload_n 0, 1) := by decide +kernel
theorem dBo_widen_32 : decode bBo_widen 32 = .ok (.getfield 15, 3) := by decide +kernel
theorem dBo_widen_35 : decode bBo_widen 35 = .ok (.if_icmp .ge 10, 3) := by decide +kernel
theorem dBo_widen_38 : decode bBo_widen 38 = .ok (.aload_n 1, 1) := by decide +kernel
theorem dBo_widen_39 : decode bBo_widen 39 = .ok (.getfield 15, 3) := by decide +kernel
theorem dBo_widen_42 : decode bBo_widen 42 = .ok (.goto 7, 3) := by decide +kernel
theorem dBo_widen_45 : decode bBo_widen 45 = .ok (.aload_n 0, 1) := by decide +kernel
theorem dBo_widen_46 : decode bBo_widen 46 = .ok (.getfield 15, 3) := by decide +kernel
theorem dBo_widen_49 : decode bBo_widen 49 = .ok (.putfield 15, 3) := by decide +kernel
theorem dBo_widen_52 : decode bBo_widen 52 = .ok (.aload_n 0, 1) := by decide +kernel
theorem dBo_widen_53 : decode bBo_widen 53 = .ok (.aload_n 1, 1) := by decide +kernel
theorem dBo_widen_54 : decode bBo_widen 54 = .ok (.getfield 18, 3) := by decide +kernel
theorem dBo_widen_57 : decode bBo_widen 57 = .ok (.aload_n 0, 1) := by decide +kernel
theorem dBo_widen_58 : decode bBo_widen 58 = .ok (.getfield 18, 3) := by decide +kernel
theorem dBo_widen_61 : decode bBo_widen 61 = .ok (.if_icmp .le 10, 3) := by decide +kernel
theorem dBo_widen_64 : decode bBo_widen 64 = .ok (.aload_n 1, 1) := by decide +kernel
theorem dBo_widen_65 : decode bBo_widen 65 = .ok (.getfield 18, 3) := by decide +kernel
theorem dBo_widen_68 : decode bBo_widen 68 = .ok (.goto 7, 3) := by decide +kernel
theorem dBo_widen_71 : decode bBo_widen 71 = .ok (.aload_n 0, 1) := by decide +kernel
theorem dBo_widen_72 : decode bBo_widen 72 = .ok (.getfield 18, 3) := by decide +kernel
theorem dBo_widen_75 : decode bBo_widen 75 = .ok (.putfield 18, 3) := by decide +kernel
theorem dBo_widen_78 : decode bBo_widen 78 = .ok (.aload_n 0, 1) := by decide +kernel
theorem dBo_widen_79 : decode bBo_widen 79 = .ok (.aload_n 1, 1) := by decide +kernel
theorem dBo_widen_80 : decode bBo_widen 80 = .ok (.getfield 21, 3) := by decide +kernel
theorem dBo_widen_83 : decode bBo_widen 83 = .ok (.aload_n 0, 1) := by decide +kernel
theorem dBo_widen_84 : decode bBo_widen 84 = .ok (.getfield 21, 3) := by decide +kernel
theorem dBo_widen_87 : decode bBo_widen 87 = .ok (.if_icmp .le 10, 3) := by decide +kernel
theorem dBo_widen_90 : decode bBo_widen 90 = .ok (.aload_n 1, 1) := by decide +kernel
theorem dBo_widen_91 : decode bBo_widen 91 = .ok (.getfield 21, 3) := by decide +kernel
theorem dBo_widen_94 : decode bBo_widen 94 = .ok (.goto 7, 3) := by decide +kernel
theorem dBo_widen_97 : decode bBo_widen 97 = .ok (.aload_n 0, 1) := by decide +kernel
theorem dBo_widen_98 : decode bBo_widen 98 = .ok (.getfield 21, 3) := by decide +kernel
theorem dBo_widen_101 : decode bBo_widen 101 = .ok (.putfield 21, 3) := by decide +kernel
theorem dBo_widen_104 : decode bBo_widen 104 = .ok (.return_, 1) := by decide +kernel
abbrev wBo_widen : List Cond := Cond.code yBo_widen bBo_widen 2 none   :: tbl
theorem kcBo_widen : Cond.code yBo_widen bBo_widen 2 none ∈ tbl := tb2 64 (by decide +kernel) (by decide +kernel)
theorem kiBo_widen : Cond.instanceMethod yBo_widen ∈ tbl := tb2 62 (by decide +kernel) (by decide +kernel)
theorem ksBo_widen : Cond.selects yBo_widen.cls yBo_widen yBo_widen ∈ tbl := tb2 63 (by decide +kernel) (by decide +kernel)
theorem dBo_meets_0 : decode bBo_meets 0 = .ok (.aload_n 0, 1) := by decide +kernel
theorem dBo_meets_1 : decode bBo_meets 1 = .ok (.getfield 9, 3) := by decide +kernel
theorem dBo_meets_4 : decode bBo_meets 4 = .ok (.aload_n 1, 1) := by decide +kernel
theorem dBo_meets_5 : decode bBo_meets 5 = .ok (.getfield 18, 3) := by decide +kernel
theorem dBo_meets_8 : decode bBo_meets 8 = .ok (.if_icmp .gt 40, 3) := by decide +kernel
theorem dBo_meets_11 : decode bBo_meets 11 = .ok (.aload_n 1, 1) := by decide +kernel
theorem dBo_meets_12 : decode bBo_meets 12 = .ok (.getfield 9, 3) := by decide +kernel
theorem dBo_meets_15 : decode bBo_meets 15 = .ok (.aload_n 0, 1) := by decide +kernel
theorem dBo_meets_16 : decode bBo_meets 16 = .ok (.getfield 18, 3) := by decide +kernel
theorem dBo_meets_19 : decode bBo_meets 19 = .ok (.if_icmp .gt 29, 3) := by decide +kernel
theorem dBo_meets_22 : decode bBo_meets 22 = .ok (.aload_n 0, 1) := by decide +kernel
theorem dBo_meets_23 : decode bBo_meets 23 = .ok (.getfield 15, 3) := by decide +kernel
theorem dBo_meets_26 : decode bBo_meets 26 = .ok (.aload_n 1, 1) := by decide +kernel
theorem dBo_meets_27 : decode bBo_meets 27 = .ok (.getfield 21, 3) := by decide +kernel
theorem dBo_meets_30 : decode bBo_meets 30 = .ok (.if_icmp .gt 18, 3) := by decide +kernel
theorem dBo_meets_33 : decode bBo_meets 33 = .ok (.aload_n 1, 1) := by decide +kernel
theorem dBo_meets_34 : decode bBo_meets 34 = .ok (.getfield 15, 3) := by decide +kernel
theorem dBo_meets_37 : decode bBo_meets 37 = .ok (.aload_n 0, 1) := by decide +kernel
theorem dBo_meets_38 : decode bBo_meets 38 = .ok (.getfield 21, 3) := by decide +kernel
theorem dBo_meets_41 : decode bBo_meets 41 = .ok (.if_icmp .gt 7, 3) := by decide +kernel
theorem dBo_meets_44 : decode bBo_meets 44 = .ok (.iconst 1, 1) := by decide +kernel
theorem dBo_meets_45 : decode bBo_meets 45 = .ok (.goto 4, 3) := by decide +kernel
theorem dBo_meets_48 : decode bBo_meets 48 = .ok (.iconst 0, 1) := by decide +kernel
theorem dBo_meets_49 : decode bBo_meets 49 = .ok (.ireturn, 1) := by decide +kernel
abbrev wBo_meets : List Cond := Cond.code yBo_meets bBo_meets 2 (some .boolean)   :: tbl
theorem kcBo_meets : Cond.code yBo_meets bBo_meets 2 (some .boolean) ∈ tbl := tb2 210 (by decide +kernel) (by decide +kernel)
theorem kiBo_meets : Cond.instanceMethod yBo_meets ∈ tbl := tb2 208 (by decide +kernel) (by decide +kernel)
theorem ksBo_meets : Cond.selects yBo_meets.cls yBo_meets yBo_meets ∈ tbl := tb2 209 (by decide +kernel) (by decide +kernel)
theorem dBo_holds_0 : decode bBo_holds 0 = .ok (.aload_n 0, 1) := by decide +kernel
theorem dBo_holds_1 : decode bBo_holds 1 = .ok (.getfield 9, 3) := by decide +kernel
theorem dBo_holds_4 : decode bBo_holds 4 = .ok (.aload_n 1, 1) := by decide +kernel
theorem dBo_holds_5 : decode bBo_holds 5 = .ok (.getfield 9, 3) := by decide +kernel
theorem dBo_holds_8 : decode bBo_holds 8 = .ok (.if_icmp .gt 40, 3) := by decide +kernel
theorem dBo_holds_11 : decode bBo_holds 11 = .ok (.aload_n 1, 1) := by decide +kernel
theorem dBo_holds_12 : decode bBo_holds 12 = .ok (.getfield 18, 3) := by decide +kernel
theorem dBo_holds_15 : decode bBo_holds 15 = .ok (.aload_n 0, 1) := by decide +kernel
theorem dBo_holds_16 : decode bBo_holds 16 = .ok (.getfield 18, 3) := by decide +kernel
theorem dBo_holds_19 : decode bBo_holds 19 = .ok (.if_icmp .gt 29, 3) := by decide +kernel
theorem dBo_holds_22 : decode bBo_holds 22 = .ok (.aload_n 0, 1) := by decide +kernel
theorem dBo_holds_23 : decode bBo_holds 23 = .ok (.getfield 15, 3) := by decide +kernel
theorem dBo_holds_26 : decode bBo_holds 26 = .ok (.aload_n 1, 1) := by decide +kernel
theorem dBo_holds_27 : decode bBo_holds 27 = .ok (.getfield 15, 3) := by decide +kernel
theorem dBo_holds_30 : decode bBo_holds 30 = .ok (.if_icmp .gt 18, 3) := by decide +kernel
theorem dBo_holds_33 : decode bBo_holds 33 = .ok (.aload_n 1, 1) := by decide +kernel
theorem dBo_holds_34 : decode bBo_holds 34 = .ok (.getfield 21, 3) := by decide +kernel
theorem dBo_holds_37 : decode bBo_holds 37 = .ok (.aload_n 0, 1) := by decide +kernel
theorem dBo_holds_38 : decode bBo_holds 38 = .ok (.getfield 21, 3) := by decide +kernel
theorem dBo_holds_41 : decode bBo_holds 41 = .ok (.if_icmp .gt 7, 3) := by decide +kernel
theorem dBo_holds_44 : decode bBo_holds 44 = .ok (.iconst 1, 1) := by decide +kernel
theorem dBo_holds_45 : decode bBo_holds 45 = .ok (.goto 4, 3) := by decide +kernel
theorem dBo_holds_48 : decode bBo_holds 48 = .ok (.iconst 0, 1) := by decide +kernel
theorem dBo_holds_49 : decode bBo_holds 49 = .ok (.ireturn, 1) := by decide +kernel
abbrev wBo_holds : List Cond := Cond.code yBo_holds bBo_holds 2 (some .boolean)   :: tbl
theorem kcBo_holds : Cond.code yBo_holds bBo_holds 2 (some .boolean) ∈ tbl := tb2 181 (by decide +kernel) (by decide +kernel)
theorem kiBo_holds : Cond.instanceMethod yBo_holds ∈ tbl := tb2 179 (by decide +kernel) (by decide +kernel)
theorem ksBo_holds : Cond.selects yBo_holds.cls yBo_holds yBo_holds ∈ tbl := tb2 180 (by decide +kernel) (by decide +kernel)
theorem dBo_isSame_0 : decode bBo_isSame 0 = .ok (.aload_n 0, 1) := by decide +kernel
theorem dBo_isSame_1 : decode bBo_isSame 1 = .ok (.getfield 9, 3) := by decide +kernel
theorem dBo_isSame_4 : decode bBo_isSame 4 = .ok (.aload_n 1, 1) := by decide +kernel
theorem dBo_isSame_5 : decode bBo_isSame 5 = .ok (.getfield 9, 3) := by decide +kernel
theorem dBo_isSame_8 : decode bBo_isSame 8 = .ok (.if_icmp .ne 51, 3) := by decide +kernel
theorem dBo_isSame_11 : decode bBo_isSame 11 = .ok (.aload_n 0, 1) := by decide +kernel
theorem dBo_isSame_12 : decode bBo_isSame 12 = .ok (.getfield 15, 3) := by decide +kernel
theorem dBo_isSame_15 : decode bBo_isSame 15 = .ok (.aload_n 1, 1) := by decide +kernel
theorem dBo_isSame_16 : decode bBo_isSame 16 = .ok (.getfield 15, 3) := by decide +kernel
theorem dBo_isSame_19 : decode bBo_isSame 19 = .ok (.if_icmp .ne 40, 3) := by decide +kernel
theorem dBo_isSame_22 : decode bBo_isSame 22 = .ok (.aload_n 0, 1) := by decide +kernel
theorem dBo_isSame_23 : decode bBo_isSame 23 = .ok (.getfield 18, 3) := by decide +kernel
theorem dBo_isSame_26 : decode bBo_isSame 26 = .ok (.aload_n 1, 1) := by decide +kernel
theorem dBo_isSame_27 : decode bBo_isSame 27 = .ok (.getfield 18, 3) := by decide +kernel
theorem dBo_isSame_30 : decode bBo_isSame 30 = .ok (.if_icmp .ne 29, 3) := by decide +kernel
theorem dBo_isSame_33 : decode bBo_isSame 33 = .ok (.aload_n 0, 1) := by decide +kernel
theorem dBo_isSame_34 : decode bBo_isSame 34 = .ok (.getfield 21, 3) := by decide +kernel
theorem dBo_isSame_37 : decode bBo_isSame 37 = .ok (.aload_n 1, 1) := by decide +kernel
theorem dBo_isSame_38 : decode bBo_isSame 38 = .ok (.getfield 21, 3) := by decide +kernel
theorem dBo_isSame_41 : decode bBo_isSame 41 = .ok (.if_icmp .ne 18, 3) := by decide +kernel
theorem dBo_isSame_44 : decode bBo_isSame 44 = .ok (.aload_n 0, 1) := by decide +kernel
theorem dBo_isSame_45 : decode bBo_isSame 45 = .ok (.getfield 24, 3) := by decide +kernel
theorem dBo_isSame_48 : decode bBo_isSame 48 = .ok (.aload_n 1, 1) := by decide +kernel
theorem dBo_isSame_49 : decode bBo_isSame 49 = .ok (.getfield 24, 3) := by decide +kernel
theorem dBo_isSame_52 : decode bBo_isSame 52 = .ok (.if_icmp .ne 7, 3) := by decide +kernel
theorem dBo_isSame_55 : decode bBo_isSame 55 = .ok (.iconst 1, 1) := by decide +kernel
theorem dBo_isSame_56 : decode bBo_isSame 56 = .ok (.goto 4, 3) := by decide +kernel
theorem dBo_isSame_59 : decode bBo_isSame 59 = .ok (.iconst 0, 1) := by decide +kernel
theorem dBo_isSame_60 : decode bBo_isSame 60 = .ok (.ireturn, 1) := by decide +kernel
abbrev wBo_isSame : List Cond := Cond.code yBo_isSame bBo_isSame 2 (some .boolean)   :: tbl
theorem kcBo_isSame : Cond.code yBo_isSame bBo_isSame 2 (some .boolean) ∈ tbl := tb2 68 (by decide +kernel) (by decide +kernel)
theorem kiBo_isSame : Cond.instanceMethod yBo_isSame ∈ tbl := tb2 66 (by decide +kernel) (by decide +kernel)
theorem ksBo_isSame : Cond.selects yBo_isSame.cls yBo_isSame yBo_isSame ∈ tbl := tb2 67 (by decide +kernel) (by decide +kernel)
theorem dBo_precedes_0 : decode bBo_precedes 0 = .ok (.aload_n 0, 1) := by decide +kernel
theorem dBo_precedes_1 : decode bBo_precedes 1 = .ok (.getfield 9, 3) := by decide +kernel
theorem dBo_precedes_4 : decode bBo_precedes 4 = .ok (.aload_n 1, 1) := by decide +kernel
theorem dBo_precedes_5 : decode bBo_precedes 5 = .ok (.getfield 9, 3) := by decide +kernel
theorem dBo_precedes_8 : decode bBo_precedes 8 = .ok (.if_icmp .eq 20, 3) := by decide +kernel
theorem dBo_precedes_11 : decode bBo_precedes 11 = .ok (.aload_n 0, 1) := by decide +kernel
theorem dBo_precedes_12 : decode bBo_precedes 12 = .ok (.getfield 9, 3) := by decide +kernel
theorem dBo_precedes_15 : decode bBo_precedes 15 = .ok (.aload_n 1, 1) := by decide +kernel
theorem dBo_precedes_16 : decode bBo_precedes 16 = .ok (.getfield 9, 3) := by decide +kernel
theorem dBo_precedes_19 : decode bBo_precedes 19 = .ok (.if_icmp .ge 7, 3) := by decide +kernel
theorem dBo_precedes_22 : decode bBo_precedes 22 = .ok (.iconst 1, 1) := by decide +kernel
theorem dBo_precedes_23 : decode bBo_precedes 23 = .ok (.goto 4, 3) := by decide +kernel
theorem dBo_precedes_26 : decode bBo_precedes 26 = .ok (.iconst 0, 1) := by decide +kernel
theorem dBo_precedes_27 : decode bBo_precedes 27 = .ok (.ireturn, 1) := by decide +kernel
theorem dBo_precedes_28 : decode bBo_precedes 28 = .ok (.aload_n 0, 1) := by decide +kernel
theorem dBo_precedes_29 : decode bBo_precedes 29 = .ok (.getfield 15, 3) := by decide +kernel
theorem dBo_precedes_32 : decode bBo_precedes 32 = .ok (.aload_n 1, 1) := by decide +kernel
theorem dBo_precedes_33 : decode bBo_precedes 33 = .ok (.getfield 15, 3) := by decide +kernel
theorem dBo_precedes_36 : decode bBo_precedes 36 = .ok (.if_icmp .eq 20, 3) := by decide +kernel
theorem dBo_precedes_39 : decode bBo_precedes 39 = .ok (.aload_n 0, 1) := by decide +kernel
theorem dBo_precedes_40 : decode bBo_precedes 40 = .ok (.getfield 15, 3) := by decide +kernel
theorem dBo_precedes_43 : decode bBo_precedes 43 = .ok (.aload_n 1, 1) := by decide +kernel
theorem dBo_precedes_44 : decode bBo_precedes 44 = .ok (.getfield 15, 3) := by decide +kernel
theorem dBo_precedes_47 : decode bBo_precedes 47 = .ok (.if_icmp .ge 7, 3) := by decide +kernel
theorem dBo_precedes_50 : decode bBo_precedes 50 = .ok (.iconst 1, 1) := by decide +kernel
theorem dBo_precedes_51 : decode bBo_precedes 51 = .ok (.goto 4, 3) := by decide +kernel
theorem dBo_precedes_54 : decode bBo_precedes 54 = .ok (.iconst 0, 1) := by decide +kernel
theorem dBo_precedes_55 : decode bBo_precedes 55 = .ok (.ireturn, 1) := by decide +kernel
theorem dBo_precedes_56 : decode bBo_precedes 56 = .ok (.aload_n 0, 1) := by decide +kernel
theorem dBo_precedes_57 : decode bBo_precedes 57 = .ok (.getfield 18, 3) := by decide +kernel
theorem dBo_precedes_60 : decode bBo_precedes 60 = .ok (.aload_n 1, 1) := by decide +kernel
theorem dBo_precedes_61 : decode bBo_precedes 61 = .ok (.getfield 18, 3) := by decide +kernel
theorem dBo_precedes_64 : decode bBo_precedes 64 = .ok (.if_icmp .eq 20, 3) := by decide +kernel
theorem dBo_precedes_67 : decode bBo_precedes 67 = .ok (.aload_n 0, 1) := by decide +kernel
theorem dBo_precedes_68 : decode bBo_precedes 68 = .ok (.getfield 18, 3) := by decide +kernel
theorem dBo_precedes_71 : decode bBo_precedes 71 = .ok (.aload_n 1, 1) := by decide +kernel
theorem dBo_precedes_72 : decode bBo_precedes 72 = .ok (.getfield 18, 3) := by decide +kernel
theorem dBo_precedes_75 : decode bBo_precedes 75 = .ok (.if_icmp .ge 7, 3) := by decide +kernel
theorem dBo_precedes_78 : decode bBo_precedes 78 = .ok (.iconst 1, 1) := by decide +kernel
theorem dBo_precedes_79 : decode bBo_precedes 79 = .ok (.goto 4, 3) := by decide +kernel
theorem dBo_precedes_82 : decode bBo_precedes 82 = .ok (.iconst 0, 1) := by decide +kernel
theorem dBo_precedes_83 : decode bBo_precedes 83 = .ok (.ireturn, 1) := by decide +kernel
theorem dBo_precedes_84 : decode bBo_precedes 84 = .ok (.aload_n 0, 1) := by decide +kernel
theorem dBo_precedes_85 : decode bBo_precedes 85 = .ok (.getfield 21, 3) := by decide +kernel
theorem dBo_precedes_88 : decode bBo_precedes 88 = .ok (.aload_n 1, 1) := by decide +kernel
theorem dBo_precedes_89 : decode bBo_precedes 89 = .ok (.getfield 21, 3) := by decide +kernel
theorem dBo_precedes_92 : decode bBo_precedes 92 = .ok (.if_icmp .eq 20, 3) := by decide +kernel
theorem dBo_precedes_95 : decode bBo_precedes 95 = .ok (.aload_n 0, 1) := by decide +kernel
theorem dBo_precedes_96 : decode bBo_precedes 96 = .ok (.getfield 21, 3) := by decide +kernel
theorem dBo_precedes_99 : decode bBo_precedes 99 = .ok (.aload_n 1, 1) := by decide +kernel
theorem dBo_precedes_100 : decode bBo_precedes 100 = .ok (.getfield 21, 3) := by decide +kernel
theorem dBo_precedes_103 : decode bBo_precedes 103 = .ok (.if_icmp .ge 7, 3) := by decide +kernel
theorem dBo_precedes_106 : decode bBo_precedes 106 = .ok (.iconst 1, 1) := by decide +kernel
theorem dBo_precedes_107 : decode bBo_precedes 107 = .ok (.goto 4, 3) := by decide +kernel
theorem dBo_precedes_110 : decode bBo_precedes 110 = .ok (.iconst 0, 1) := by decide +kernel
theorem dBo_precedes_111 : decode bBo_precedes 111 = .ok (.ireturn, 1) := by decide +kernel
theorem dBo_precedes_112 : decode bBo_precedes 112 = .ok (.aload_n 0, 1) := by decide +kernel
theorem dBo_precedes_113 : decode bBo_precedes 113 = .ok (.getfield 24, 3) := by decide +kernel
theorem dBo_precedes_116 : decode bBo_precedes 116 = .ok (.aload_n 1, 1) := by decide +kernel
theorem dBo_precedes_117 : decode bBo_precedes 117 = .ok (.getfield 24, 3) := by decide +kernel
theorem dBo_precedes_120 : decode bBo_precedes 120 = .ok (.if_icmp .ge 7, 3) := by decide +kernel
theorem dBo_precedes_123 : decode bBo_precedes 123 = .ok (.iconst 1, 1) := by decide +kernel
theorem dBo_precedes_124 : decode bBo_precedes 124 = .ok (.goto 4, 3) := by decide +kernel
theorem dBo_precedes_127 : decode bBo_precedes 127 = .ok (.iconst 0, 1) := by decide +kernel
theorem dBo_precedes_128 : decode bBo_precedes 128 = .ok (.ireturn, 1) := by decide +kernel
abbrev wBo_precedes : List Cond := Cond.code yBo_precedes bBo_precedes 2 (some .boolean)   :: tbl
theorem kcBo_precedes : Cond.code yBo_precedes bBo_precedes 2 (some .boolean) ∈ tbl := tb2 218 (by decide +kernel) (by decide +kernel)
theorem kiBo_precedes : Cond.instanceMethod yBo_precedes ∈ tbl := tb2 216 (by decide +kernel) (by decide +kernel)
theorem ksBo_precedes : Cond.selects yBo_precedes.cls yBo_precedes yBo_precedes ∈ tbl := tb2 217 (by decide +kernel) (by decide +kernel)
theorem dBo_area_0 : decode bBo_area 0 = .ok (.aload_n 0, 1) := by decide +kernel
theorem dBo_area_1 : decode bBo_area 1 = .ok (.getfield 18, 3) := by decide +kernel
theorem dBo_area_4 : decode bBo_area 4 = .ok (.i2l, 1) := by decide +kernel
theorem dBo_area_5 : decode bBo_area 5 = .ok (.aload_n 0, 1) := by decide +kernel
theorem dBo_area_6 : decode bBo_area 6 = .ok (.getfield 9, 3) := by decide +kernel
theorem dBo_area_9 : decode bBo_area 9 = .ok (.i2l, 1) := by decide +kernel
theorem dBo_area_10 : decode bBo_area 10 = .ok (.lsub, 1) := by decide +kernel
theorem dBo_area_11 : decode bBo_area 11 = .ok (.aload_n 0, 1) := by decide +kernel
theorem dBo_area_12 : decode bBo_area 12 = .ok (.getfield 21, 3) := by decide +kernel
theorem dBo_area_15 : decode bBo_area 15 = .ok (.i2l, 1) := by decide +kernel
theorem dBo_area_16 : decode bBo_area 16 = .ok (.aload_n 0, 1) := by decide +kernel
theorem dBo_area_17 : decode bBo_area 17 = .ok (.getfield 15, 3) := by decide +kernel
theorem dBo_area_20 : decode bBo_area 20 = .ok (.i2l, 1) := by decide +kernel
theorem dBo_area_21 : decode bBo_area 21 = .ok (.lsub, 1) := by decide +kernel
theorem dBo_area_22 : decode bBo_area 22 = .ok (.lmul, 1) := by decide +kernel
theorem dBo_area_23 : decode bBo_area 23 = .ok (.lreturn, 1) := by decide +kernel
abbrev wBo_area : List Cond := Cond.code yBo_area bBo_area 1 (some .long)   :: tbl
theorem kcBo_area : Cond.code yBo_area bBo_area 1 (some .long) ∈ tbl := tb2 20 (by decide +kernel) (by decide +kernel)
theorem kiBo_area : Cond.instanceMethod yBo_area ∈ tbl := tb2 18 (by decide +kernel) (by decide +kernel)
theorem ksBo_area : Cond.selects yBo_area.cls yBo_area yBo_area ∈ tbl := tb2 19 (by decide +kernel) (by decide +kernel)
theorem dBo_rim_0 : decode bBo_rim 0 = .ok (.aload_n 0, 1) := by decide +kernel
theorem dBo_rim_1 : decode bBo_rim 1 = .ok (.getfield 18, 3) := by decide +kernel
theorem dBo_rim_4 : decode bBo_rim 4 = .ok (.i2l, 1) := by decide +kernel
theorem dBo_rim_5 : decode bBo_rim 5 = .ok (.aload_n 0, 1) := by decide +kernel
theorem dBo_rim_6 : decode bBo_rim 6 = .ok (.getfield 9, 3) := by decide +kernel
theorem dBo_rim_9 : decode bBo_rim 9 = .ok (.i2l, 1) := by decide +kernel
theorem dBo_rim_10 : decode bBo_rim 10 = .ok (.lsub, 1) := by decide +kernel
theorem dBo_rim_11 : decode bBo_rim 11 = .ok (.aload_n 0, 1) := by decide +kernel
theorem dBo_rim_12 : decode bBo_rim 12 = .ok (.getfield 21, 3) := by decide +kernel
theorem dBo_rim_15 : decode bBo_rim 15 = .ok (.i2l, 1) := by decide +kernel
theorem dBo_rim_16 : decode bBo_rim 16 = .ok (.aload_n 0, 1) := by decide +kernel
theorem dBo_rim_17 : decode bBo_rim 17 = .ok (.getfield 15, 3) := by decide +kernel
theorem dBo_rim_20 : decode bBo_rim 20 = .ok (.i2l, 1) := by decide +kernel
theorem dBo_rim_21 : decode bBo_rim 21 = .ok (.lsub, 1) := by decide +kernel
theorem dBo_rim_22 : decode bBo_rim 22 = .ok (.ladd, 1) := by decide +kernel
theorem dBo_rim_23 : decode bBo_rim 23 = .ok (.lreturn, 1) := by decide +kernel
abbrev wBo_rim : List Cond := Cond.code yBo_rim bBo_rim 1 (some .long)   :: tbl
theorem kcBo_rim : Cond.code yBo_rim bBo_rim 1 (some .long) ∈ tbl := tb2 105 (by decide +kernel) (by decide +kernel)
theorem kiBo_rim : Cond.instanceMethod yBo_rim ∈ tbl := tb2 103 (by decide +kernel) (by decide +kernel)
theorem ksBo_rim : Cond.selects yBo_rim.cls yBo_rim yBo_rim ∈ tbl := tb2 104 (by decide +kernel) (by decide +kernel)
theorem dBo_areaWith_0 : decode bBo_areaWith 0 = .ok (.aload_n 0, 1) := by decide +kernel
theorem dBo_areaWith_1 : decode bBo_areaWith 1 = .ok (.getfield 18, 3) := by decide +kernel
theorem dBo_areaWith_4 : decode bBo_areaWith 4 = .ok (.aload_n 1, 1) := by decide +kernel
theorem dBo_areaWith_5 : decode bBo_areaWith 5 = .ok (.getfield 18, 3) := by decide +kernel
theorem dBo_areaWith_8 : decode bBo_areaWith 8 = .ok (.invokestatic 29, 3) := by decide +kernel
theorem dBo_areaWith_11 : decode bBo_areaWith 11 = .ok (.i2l, 1) := by decide +kernel
theorem dBo_areaWith_12 : decode bBo_areaWith 12 = .ok (.aload_n 0, 1) := by decide +kernel
theorem dBo_areaWith_13 : decode bBo_areaWith 13 = .ok (.getfield 9, 3) := by decide +kernel
theorem dBo_areaWith_16 : decode bBo_areaWith 16 = .ok (.aload_n 1, 1) := by decide +kernel
theorem dBo_areaWith_17 : decode bBo_areaWith 17 = .ok (.getfield 9, 3) := by decide +kernel
theorem dBo_areaWith_20 : decode bBo_areaWith 20 = .ok (.invokestatic 35, 3) := by decide +kernel
theorem dBo_areaWith_23 : decode bBo_areaWith 23 = .ok (.i2l, 1) := by decide +kernel
theorem dBo_areaWith_24 : decode bBo_areaWith 24 = .ok (.lsub, 1) := by decide +kernel
theorem dBo_areaWith_25 : decode bBo_areaWith 25 = .ok (.lstore_n 2, 1) := by decide +kernel
theorem dBo_areaWith_26 : decode bBo_areaWith 26 = .ok (.aload_n 0, 1) := by decide +kernel
theorem dBo_areaWith_27 : decode bBo_areaWith 27 = .ok (.getfield 21, 3) := by decide +kernel
theorem dBo_areaWith_30 : decode bBo_areaWith 30 = .ok (.aload_n 1, 1) := by decide +kernel
theorem dBo_areaWith_31 : decode bBo_areaWith 31 = .ok (.getfield 21, 3) := by decide +kernel
theorem dBo_areaWith_34 : decode bBo_areaWith 34 = .ok (.invokestatic 29, 3) := by decide +kernel
theorem dBo_areaWith_37 : decode bBo_areaWith 37 = .ok (.i2l, 1) := by decide +kernel
theorem dBo_areaWith_38 : decode bBo_areaWith 38 = .ok (.aload_n 0, 1) := by decide +kernel
theorem dBo_areaWith_39 : decode bBo_areaWith 39 = .ok (.getfield 15, 3) := by decide +kernel
theorem dBo_areaWith_42 : decode bBo_areaWith 42 = .ok (.aload_n 1, 1) := by decide +kernel
theorem dBo_areaWith_43 : decode bBo_areaWith 43 = .ok (.getfield 15, 3) := by decide +kernel
theorem dBo_areaWith_46 : decode bBo_areaWith 46 = .ok (.invokestatic 35, 3) := by decide +kernel
theorem dBo_areaWith_49 : decode bBo_areaWith 49 = .ok (.i2l, 1) := by decide +kernel
theorem dBo_areaWith_50 : decode bBo_areaWith 50 = .ok (.lsub, 1) := by decide +kernel
theorem dBo_areaWith_51 : decode bBo_areaWith 51 = .ok (.lstore 4, 2) := by decide +kernel
theorem dBo_areaWith_53 : decode bBo_areaWith 53 = .ok (.lload_n 2, 1) := by decide +kernel
theorem dBo_areaWith_54 : decode bBo_areaWith 54 = .ok (.lload 4, 2) := by decide +kernel
theorem dBo_areaWith_56 : decode bBo_areaWith 56 = .ok (.lmul, 1) := by decide +kernel
theorem dBo_areaWith_57 : decode bBo_areaWith 57 = .ok (.lreturn, 1) := by decide +kernel
abbrev wBo_areaWith : List Cond := Cond.code yBo_areaWith bBo_areaWith 6 (some .long)   :: tbl
theorem kcBo_areaWith : Cond.code yBo_areaWith bBo_areaWith 6 (some .long) ∈ tbl := tb2 24 (by decide +kernel) (by decide +kernel)
theorem kiBo_areaWith : Cond.instanceMethod yBo_areaWith ∈ tbl := tb2 22 (by decide +kernel) (by decide +kernel)
theorem ksBo_areaWith : Cond.selects yBo_areaWith.cls yBo_areaWith yBo_areaWith ∈ tbl := tb2 23 (by decide +kernel) (by decide +kernel)
theorem dBo_squareFrom_0 : decode bBo_squareFrom 0 = .ok (.iload_n 1, 1) := by decide +kernel
theorem dBo_squareFrom_1 : decode bBo_squareFrom 1 = .ok (.aload_n 0, 1) := by decide +kernel
theorem dBo_squareFrom_2 : decode bBo_squareFrom 2 = .ok (.getfield 9, 3) := by decide +kernel
theorem dBo_squareFrom_5 : decode bBo_squareFrom 5 = .ok (.if_icmp .ge 14, 3) := by decide +kernel
theorem dBo_squareFrom_8 : decode bBo_squareFrom 8 = .ok (.aload_n 0, 1) := by decide +kernel
theorem dBo_squareFrom_9 : decode bBo_squareFrom 9 = .ok (.getfield 9, 3) := by decide +kernel
theorem dBo_squareFrom_12 : decode bBo_squareFrom 12 = .ok (.i2l, 1) := by decide +kernel
theorem dBo_squareFrom_13 : decode bBo_squareFrom 13 = .ok (.iload_n 1, 1) := by decide +kernel
theorem dBo_squareFrom_14 : decode bBo_squareFrom 14 = .ok (.i2l, 1) := by decide +kernel
theorem dBo_squareFrom_15 : decode bBo_squareFrom 15 = .ok (.lsub, 1) := by decide +kernel
theorem dBo_squareFrom_16 : decode bBo_squareFrom 16 = .ok (.goto 23, 3) := by decide +kernel
theorem dBo_squareFrom_19 : decode bBo_squareFrom 19 = .ok (.iload_n 1, 1) := by decide +kernel
theorem dBo_squareFrom_20 : decode bBo_squareFrom 20 = .ok (.aload_n 0, 1) := by decide +kernel
theorem dBo_squareFrom_21 : decode bBo_squareFrom 21 = .ok (.getfield 18, 3) := by decide +kernel
theorem dBo_squareFrom_24 : decode bBo_squareFrom 24 = .ok (.if_icmp .le 14, 3) := by decide +kernel
theorem dBo_squareFrom_27 : decode bBo_squareFrom 27 = .ok (.iload_n 1, 1) := by decide +kernel
theorem dBo_squareFrom_28 : decode bBo_squareFrom 28 = .ok (.i2l, 1) := by decide +kernel
theorem dBo_squareFrom_29 : decode bBo_squareFrom 29 = .ok (.aload_n 0, 1) := by decide +kernel
theorem dBo_squareFrom_30 : decode bBo_squareFrom 30 = .ok (.getfield 18, 3) := by decide +kernel
theorem dBo_squareFrom_33 : decode bBo_squareFrom 33 = .ok (.i2l, 1) := by decide +kernel
theorem dBo_squareFrom_34 : decode bBo_squareFrom 34 = .ok (.lsub, 1) := by decide +kernel
theorem dBo_squareFrom_35 : decode bBo_squareFrom 35 = .ok (.goto 4, 3) := by decide +kernel
theorem dBo_squareFrom_38 : decode bBo_squareFrom 38 = .ok (.lconst 0, 1) := by decide +kernel
theorem dBo_squareFrom_39 : decode bBo_squareFrom 39 = .ok (.lstore_n 3, 1) := by decide +kernel
theorem dBo_squareFrom_40 : decode bBo_squareFrom 40 = .ok (.iload_n 2, 1) := by decide +kernel
theorem dBo_squareFrom_41 : decode bBo_squareFrom 41 = .ok (.aload_n 0, 1) := by decide +kernel
theorem dBo_squareFrom_42 : decode bBo_squareFrom 42 = .ok (.getfield 15, 3) := by decide +kernel
theorem dBo_squareFrom_45 : decode bBo_squareFrom 45 = .ok (.if_icmp .ge 14, 3) := by decide +kernel
theorem dBo_squareFrom_48 : decode bBo_squareFrom 48 = .ok (.aload_n 0, 1) := by decide +kernel
theorem dBo_squareFrom_49 : decode bBo_squareFrom 49 = .ok (.getfield 15, 3) := by decide +kernel
theorem dBo_squareFrom_52 : decode bBo_squareFrom 52 = .ok (.i2l, 1) := by decide +kernel
theorem dBo_squareFrom_53 : decode bBo_squareFrom 53 = .ok (.iload_n 2, 1) := by decide +kernel
theorem dBo_squareFrom_54 : decode bBo_squareFrom 54 = .ok (.i2l, 1) := by decide +kernel
theorem dBo_squareFrom_55 : decode bBo_squareFrom 55 = .ok (.lsub, 1) := by decide +kernel
theorem dBo_squareFrom_56 : decode bBo_squareFrom 56 = .ok (.goto 23, 3) := by decide +kernel
theorem dBo_squareFrom_59 : decode bBo_squareFrom 59 = .ok (.iload_n 2, 1) := by decide +kernel
theorem dBo_squareFrom_60 : decode bBo_squareFrom 60 = .ok (.aload_n 0, 1) := by decide +kernel
theorem dBo_squareFrom_61 : decode bBo_squareFrom 61 = .ok (.getfield 21, 3) := by decide +kernel
theorem dBo_squareFrom_64 : decode bBo_squareFrom 64 = .ok (.if_icmp .le 14, 3) := by decide +kernel
theorem dBo_squareFrom_67 : decode bBo_squareFrom 67 = .ok (.iload_n 2, 1) := by decide +kernel
theorem dBo_squareFrom_68 : decode bBo_squareFrom 68 = .ok (.i2l, 1) := by decide +kernel
theorem dBo_squareFrom_69 : decode bBo_squareFrom 69 = .ok (.aload_n 0, 1) := by decide +kernel
theorem dBo_squareFrom_70 : decode bBo_squareFrom 70 = .ok (.getfield 21, 3) := by decide +kernel
theorem dBo_squareFrom_73 : decode bBo_squareFrom 73 = .ok (.i2l, 1) := by decide +kernel
theorem dBo_squareFrom_74 : decode bBo_squareFrom 74 = .ok (.lsub, 1) := by decide +kernel
theorem dBo_squareFrom_75 : decode bBo_squareFrom 75 = .ok (.goto 4, 3) := by decide +kernel
theorem dBo_squareFrom_78 : decode bBo_squareFrom 78 = .ok (.lconst 0, 1) := by decide +kernel
theorem dBo_squareFrom_79 : decode bBo_squareFrom 79 = .ok (.lstore 5, 2) := by decide +kernel
theorem dBo_squareFrom_81 : decode bBo_squareFrom 81 = .ok (.lload_n 3, 1) := by decide +kernel
theorem dBo_squareFrom_82 : decode bBo_squareFrom 82 = .ok (.lload_n 3, 1) := by decide +kernel
theorem dBo_squareFrom_83 : decode bBo_squareFrom 83 = .ok (.lmul, 1) := by decide +kernel
theorem dBo_squareFrom_84 : decode bBo_squareFrom 84 = .ok (.lload 5, 2) := by decide +kernel
theorem dBo_squareFrom_86 : decode bBo_squareFrom 86 = .ok (.lload 5, 2) := by decide +kernel
theorem dBo_squareFrom_88 : decode bBo_squareFrom 88 = .ok (.lmul, 1) := by decide +kernel
theorem dBo_squareFrom_89 : decode bBo_squareFrom 89 = .ok (.ladd, 1) := by decide +kernel
theorem dBo_squareFrom_90 : decode bBo_squareFrom 90 = .ok (.lreturn, 1) := by decide +kernel
abbrev wBo_squareFrom : List Cond := Cond.code yBo_squareFrom bBo_squareFrom 7 (some .long)   :: tbl
theorem kcBo_squareFrom : Cond.code yBo_squareFrom bBo_squareFrom 7 (some .long) ∈ tbl := tb3 63 (by decide +kernel) (by decide +kernel)
theorem kiBo_squareFrom : Cond.instanceMethod yBo_squareFrom ∈ tbl := tb3 61 (by decide +kernel) (by decide +kernel)
theorem ksBo_squareFrom : Cond.selects yBo_squareFrom.cls yBo_squareFrom yBo_squareFrom ∈ tbl := tb3 62 (by decide +kernel) (by decide +kernel)
theorem kfBo_9 : Cond.fieldLink RBo 9 (TBo 0).1 (TBo 0).2.1 (TBo 0).2.2.1 ∈ tbl := tb1 59 (by decide +kernel) (by decide +kernel)
theorem kfBo_15 : Cond.fieldLink RBo 15 (TBo 1).1 (TBo 1).2.1 (TBo 1).2.2.1 ∈ tbl := tb1 62 (by decide +kernel) (by decide +kernel)
theorem kfBo_18 : Cond.fieldLink RBo 18 (TBo 2).1 (TBo 2).2.1 (TBo 2).2.2.1 ∈ tbl := tb1 65 (by decide +kernel) (by decide +kernel)
theorem kfBo_21 : Cond.fieldLink RBo 21 (TBo 3).1 (TBo 3).2.1 (TBo 3).2.2.1 ∈ tbl := tb1 68 (by decide +kernel) (by decide +kernel)
theorem kfBo_24 : Cond.fieldLink RBo 24 (TBo 4).1 (TBo 4).2.1 (TBo 4).2.2.1 ∈ tbl := tb1 71 (by decide +kernel) (by decide +kernel)
theorem kfBo_27 : Cond.constant RBo 27 (2000000000) ∈ tbl := tb2 59 (by decide +kernel) (by decide +kernel)
theorem kfBo_28 : Cond.constant RBo 28 (-2000000000) ∈ tbl := tb2 60 (by decide +kernel) (by decide +kernel)
end
section
abbrev bPa_init : ByteArray := prog_4_method_1_code
def yPa_init : MethodName := ⟨RPa, "<init>", "()V"⟩
abbrev bPa_open : ByteArray := prog_4_method_2_code
def yPa_open : MethodName := ⟨RPa, "open", "(I)V"⟩
abbrev bPa_add : ByteArray := prog_4_method_3_code
def yPa_add : MethodName := ⟨RPa, "add", "(LBoxedPages$Box;)V"⟩
abbrev bPa_drop : ByteArray := prog_4_method_4_code
def yPa_drop : MethodName := ⟨RPa, "drop", "(I)V"⟩
abbrev bPa_frame : ByteArray := prog_4_method_5_code
def yPa_frame : MethodName := ⟨RPa, "frame", "(ILBoxedPages$Box;)V"⟩
abbrev bPa_slotThatGrowsLeast : ByteArray := prog_4_method_6_code
def yPa_slotThatGrowsLeast : MethodName := ⟨RPa, "slotThatGrowsLeast", "(LBoxedPages$Box;)I"⟩
abbrev bPa_bestPartner : ByteArray := prog_4_method_7_code
def yPa_bestPartner : MethodName := ⟨RPa, "bestPartner", "(I)I"⟩
abbrev bPa_writeTo : ByteArray := prog_4_method_8_code
def yPa_writeTo : MethodName := ⟨RPa, "writeTo", "([I)V"⟩
abbrev bPa_readFrom : ByteArray := prog_4_method_9_code
def yPa_readFrom : MethodName := ⟨RPa, "readFrom", "([I)V"⟩
theorem dPa_init_0 : decode bPa_init 0 = .ok (.aload_n 0, 1) := by decide +kernel
theorem dPa_init_1 : decode bPa_init 1 = .ok (.invokespecial 3, 3) := by decide +kernel
theorem dPa_init_4 : decode bPa_init 4 = .ok (.aload_n 0, 1) := by decide +kernel
theorem dPa_init_5 : decode bPa_init 5 = .ok (.bipush 6, 2) := by decide +kernel
theorem dPa_init_7 : decode bPa_init 7 = .ok (.anewarray 9, 3) := by decide +kernel
theorem dPa_init_10 : decode bPa_init 10 = .ok (.putfield 11, 3) := by decide +kernel
theorem dPa_init_13 : decode bPa_init 13 = .ok (.iconst 0, 1) := by decide +kernel
theorem dPa_init_14 : decode bPa_init 14 = .ok (.istore_n 1, 1) := by decide +kernel
theorem dPa_init_15 : decode bPa_init 15 = .ok (.iload_n 1, 1) := by decide +kernel
theorem dPa_init_16 : decode bPa_init 16 = .ok (.aload_n 0, 1) := by decide +kernel
theorem dPa_init_17 : decode bPa_init 17 = .ok (.getfield 11, 3) := by decide +kernel
theorem dPa_init_20 : decode bPa_init 20 = .ok (.arraylength, 1) := by decide +kernel
theorem dPa_init_21 : decode bPa_init 21 = .ok (.if_icmp .ge 22, 3) := by decide +kernel
theorem dPa_init_24 : decode bPa_init 24 = .ok (.aload_n 0, 1) := by decide +kernel
theorem dPa_init_25 : decode bPa_init 25 = .ok (.getfield 11, 3) := by decide +kernel
theorem dPa_init_28 : decode bPa_init 28 = .ok (.iload_n 1, 1) := by decide +kernel
theorem dPa_init_29 : decode bPa_init 29 = .ok (.new 9, 3) := by decide +kernel
theorem dPa_init_32 : decode bPa_init 32 = .ok (.dup, 1) := by decide +kernel
theorem dPa_init_33 : decode bPa_init 33 = .ok (.invokespecial 17, 3) := by decide +kernel
theorem dPa_init_36 : decode bPa_init 36 = .ok (.aastore, 1) := by decide +kernel
theorem dPa_init_37 : decode bPa_init 37 = .ok (.iinc 1 1, 3) := by decide +kernel
theorem dPa_init_40 : decode bPa_init 40 = .ok (.goto (-25), 3) := by decide +kernel
theorem dPa_init_43 : decode bPa_init 43 = .ok (.return_, 1) := by decide +kernel
abbrev wPa_init : List Cond := Cond.code yPa_init bPa_init 2 none   :: tbl
theorem kcPa_init : Cond.code yPa_init bPa_init 2 none ∈ tbl := tb1 90 (by decide +kernel) (by decide +kernel)
theorem kiPa_init : Cond.instanceMethod yPa_init ∈ tbl := tb1 89 (by decide +kernel) (by decide +kernel)
theorem dPa_open_0 : decode bPa_open 0 = .ok (.aload_n 0, 1) := by decide +kernel
theorem dPa_open_1 : decode bPa_open 1 = .ok (.iload_n 1, 1) := by decide +kernel
theorem dPa_open_2 : decode bPa_open 2 = .ok (.putfield 18, 3) := by decide +kernel
theorem dPa_open_5 : decode bPa_open 5 = .ok (.aload_n 0, 1) := by decide +kernel
theorem dPa_open_6 : decode bPa_open 6 = .ok (.iconst 0, 1) := by decide +kernel
theorem dPa_open_7 : decode bPa_open 7 = .ok (.putfield 22, 3) := by decide +kernel
theorem dPa_open_10 : decode bPa_open 10 = .ok (.aload_n 0, 1) := by decide +kernel
theorem dPa_open_11 : decode bPa_open 11 = .ok (.iconst 1, 1) := by decide +kernel
theorem dPa_open_12 : decode bPa_open 12 = .ok (.putfield 25, 3) := by decide +kernel
theorem dPa_open_15 : decode bPa_open 15 = .ok (.return_, 1) := by decide +kernel
abbrev wPa_open : List Cond := Cond.code yPa_open bPa_open 2 none   :: tbl
theorem kcPa_open : Cond.code yPa_open bPa_open 2 none ∈ tbl := tb2 81 (by decide +kernel) (by decide +kernel)
theorem kiPa_open : Cond.instanceMethod yPa_open ∈ tbl := tb2 79 (by decide +kernel) (by decide +kernel)
theorem ksPa_open : Cond.selects yPa_open.cls yPa_open yPa_open ∈ tbl := tb2 80 (by decide +kernel) (by decide +kernel)
theorem dPa_add_0 : decode bPa_add 0 = .ok (.aload_n 0, 1) := by decide +kernel
theorem dPa_add_1 : decode bPa_add 1 = .ok (.getfield 22, 3) := by decide +kernel
theorem dPa_add_4 : decode bPa_add 4 = .ok (.aload_n 0, 1) := by decide +kernel
theorem dPa_add_5 : decode bPa_add 5 = .ok (.getfield 11, 3) := by decide +kernel
theorem dPa_add_8 : decode bPa_add 8 = .ok (.arraylength, 1) := by decide +kernel
theorem dPa_add_9 : decode bPa_add 9 = .ok (.if_icmp .ge 31, 3) := by decide +kernel
theorem dPa_add_12 : decode bPa_add 12 = .ok (.aload_n 0, 1) := by decide +kernel
theorem dPa_add_13 : decode bPa_add 13 = .ok (.getfield 11, 3) := by decide +kernel
theorem dPa_add_16 : decode bPa_add 16 = .ok (.aload_n 0, 1) := by decide +kernel
theorem dPa_add_17 : decode bPa_add 17 = .ok (.getfield 22, 3) := by decide +kernel
theorem dPa_add_20 : decode bPa_add 20 = .ok (.aaload, 1) := by decide +kernel
theorem dPa_add_21 : decode bPa_add 21 = .ok (.aload_n 1, 1) := by decide +kernel
theorem dPa_add_22 : decode bPa_add 22 = .ok (.invokevirtual 29, 3) := by decide +kernel
theorem dPa_add_25 : decode bPa_add 25 = .ok (.aload_n 0, 1) := by decide +kernel
theorem dPa_add_26 : decode bPa_add 26 = .ok (.dup, 1) := by decide +kernel
theorem dPa_add_27 : decode bPa_add 27 = .ok (.getfield 22, 3) := by decide +kernel
theorem dPa_add_30 : decode bPa_add 30 = .ok (.iconst 1, 1) := by decide +kernel
theorem dPa_add_31 : decode bPa_add 31 = .ok (.iadd, 1) := by decide +kernel
theorem dPa_add_32 : decode bPa_add 32 = .ok (.putfield 22, 3) := by decide +kernel
theorem dPa_add_35 : decode bPa_add 35 = .ok (.aload_n 0, 1) := by decide +kernel
theorem dPa_add_36 : decode bPa_add 36 = .ok (.iconst 1, 1) := by decide +kernel
theorem dPa_add_37 : decode bPa_add 37 = .ok (.putfield 25, 3) := by decide +kernel
theorem dPa_add_40 : decode bPa_add 40 = .ok (.return_, 1) := by decide +kernel
abbrev wPa_add : List Cond := Cond.code yPa_add bPa_add 2 none   :: tbl
theorem kcPa_add : Cond.code yPa_add bPa_add 2 none ∈ tbl := tb2 30 (by decide +kernel) (by decide +kernel)
theorem kiPa_add : Cond.instanceMethod yPa_add ∈ tbl := tb2 28 (by decide +kernel) (by decide +kernel)
theorem ksPa_add : Cond.selects yPa_add.cls yPa_add yPa_add ∈ tbl := tb2 29 (by decide +kernel) (by decide +kernel)
theorem dPa_drop_0 : decode bPa_drop 0 = .ok (.iload_n 1, 1) := by decide +kernel
theorem dPa_drop_1 : decode bPa_drop 1 = .ok (.ifCond .lt 44, 3) := by decide +kernel
theorem dPa_drop_4 : decode bPa_drop 4 = .ok (.iload_n 1, 1) := by decide +kernel
theorem dPa_drop_5 : decode bPa_drop 5 = .ok (.aload_n 0, 1) := by decide +kernel
theorem dPa_drop_6 : decode bPa_drop 6 = .ok (.getfield 22, 3) := by decide +kernel
theorem dPa_drop_9 : decode bPa_drop 9 = .ok (.if_icmp .ge 36, 3) := by decide +kernel
theorem dPa_drop_12 : decode bPa_drop 12 = .ok (.aload_n 0, 1) := by decide +kernel
theorem dPa_drop_13 : decode bPa_drop 13 = .ok (.dup, 1) := by decide +kernel
theorem dPa_drop_14 : decode bPa_drop 14 = .ok (.getfield 22, 3) := by decide +kernel
theorem dPa_drop_17 : decode bPa_drop 17 = .ok (.iconst 1, 1) := by decide +kernel
theorem dPa_drop_18 : decode bPa_drop 18 = .ok (.isub, 1) := by decide +kernel
theorem dPa_drop_19 : decode bPa_drop 19 = .ok (.putfield 22, 3) := by decide +kernel
theorem dPa_drop_22 : decode bPa_drop 22 = .ok (.aload_n 0, 1) := by decide +kernel
theorem dPa_drop_23 : decode bPa_drop 23 = .ok (.getfield 11, 3) := by decide +kernel
theorem dPa_drop_26 : decode bPa_drop 26 = .ok (.iload_n 1, 1) := by decide +kernel
theorem dPa_drop_27 : decode bPa_drop 27 = .ok (.aaload, 1) := by decide +kernel
theorem dPa_drop_28 : decode bPa_drop 28 = .ok (.aload_n 0, 1) := by decide +kernel
theorem dPa_drop_29 : decode bPa_drop 29 = .ok (.getfield 11, 3) := by decide +kernel
theorem dPa_drop_32 : decode bPa_drop 32 = .ok (.aload_n 0, 1) := by decide +kernel
theorem dPa_drop_33 : decode bPa_drop 33 = .ok (.getfield 22, 3) := by decide +kernel
theorem dPa_drop_36 : decode bPa_drop 36 = .ok (.aaload, 1) := by decide +kernel
theorem dPa_drop_37 : decode bPa_drop 37 = .ok (.invokevirtual 29, 3) := by decide +kernel
theorem dPa_drop_40 : decode bPa_drop 40 = .ok (.aload_n 0, 1) := by decide +kernel
theorem dPa_drop_41 : decode bPa_drop 41 = .ok (.iconst 1, 1) := by decide +kernel
theorem dPa_drop_42 : decode bPa_drop 42 = .ok (.putfield 25, 3) := by decide +kernel
theorem dPa_drop_45 : decode bPa_drop 45 = .ok (.return_, 1) := by decide +kernel
abbrev wPa_drop : List Cond := Cond.code yPa_drop bPa_drop 2 none   :: tbl
theorem kcPa_drop : Cond.code yPa_drop bPa_drop 2 none ∈ tbl := tb2 85 (by decide +kernel) (by decide +kernel)
theorem kiPa_drop : Cond.instanceMethod yPa_drop ∈ tbl := tb2 83 (by decide +kernel) (by decide +kernel)
theorem ksPa_drop : Cond.selects yPa_drop.cls yPa_drop yPa_drop ∈ tbl := tb2 84 (by decide +kernel) (by decide +kernel)
theorem dPa_frame_0 : decode bPa_frame 0 = .ok (.aload_n 2, 1) := by decide +kernel
theorem dPa_frame_1 : decode bPa_frame 1 = .ok (.invokevirtual 33, 3) := by decide +kernel
theorem dPa_frame_4 : decode bPa_frame 4 = .ok (.iconst 0, 1) := by decide +kernel
theorem dPa_frame_5 : decode bPa_frame 5 = .ok (.istore_n 3, 1) := by decide +kernel
theorem dPa_frame_6 : decode bPa_frame 6 = .ok (.iload_n 3, 1) := by decide +kernel
theorem dPa_frame_7 : decode bPa_frame 7 = .ok (.aload_n 0, 1) := by decide +kernel
theorem dPa_frame_8 : decode bPa_frame 8 = .ok (.getfield 22, 3) := by decide +kernel
theorem dPa_frame_11 : decode bPa_frame 11 = .ok (.if_icmp .ge 28, 3) := by decide +kernel
theorem dPa_frame_14 : decode bPa_frame 14 = .ok (.iload_n 1, 1) := by decide +kernel
theorem dPa_frame_15 : decode bPa_frame 15 = .ok (.iload_n 3, 1) := by decide +kernel
theorem dPa_frame_16 : decode bPa_frame 16 = .ok (.ishr, 1) := by decide +kernel
theorem dPa_frame_17 : decode bPa_frame 17 = .ok (.iconst 1, 1) := by decide +kernel
theorem dPa_frame_18 : decode bPa_frame 18 = .ok (.iand, 1) := by decide +kernel
theorem dPa_frame_19 : decode bPa_frame 19 = .ok (.iconst 1, 1) := by decide +kernel
theorem dPa_frame_20 : decode bPa_frame 20 = .ok (.if_icmp .ne 13, 3) := by decide +kernel
theorem dPa_frame_23 : decode bPa_frame 23 = .ok (.aload_n 2, 1) := by decide +kernel
theorem dPa_frame_24 : decode bPa_frame 24 = .ok (.aload_n 0, 1) := by decide +kernel
theorem dPa_frame_25 : decode bPa_frame 25 = .ok (.getfield 11, 3) := by decide +kernel
theorem dPa_frame_28 : decode bPa_frame 28 = .ok (.iload_n 3, 1) := by decide +kernel
theorem dPa_frame_29 : decode bPa_frame 29 = .ok (.aaload, 1) := by decide +kernel
theorem dPa_frame_30 : decode bPa_frame 30 = .ok (.invokevirtual 36, 3) := by decide +kernel
theorem dPa_frame_33 : decode bPa_frame 33 = .ok (.iinc 3 1, 3) := by decide +kernel
theorem dPa_frame_36 : decode bPa_frame 36 = .ok (.goto (-30), 3) := by decide +kernel
theorem dPa_frame_39 : decode bPa_frame 39 = .ok (.return_, 1) := by decide +kernel
abbrev wPa_frame : List Cond := Cond.code yPa_frame bPa_frame 4 none   :: tbl
theorem kcPa_frame : Cond.code yPa_frame bPa_frame 4 none ∈ tbl := tb2 54 (by decide +kernel) (by decide +kernel)
theorem kiPa_frame : Cond.instanceMethod yPa_frame ∈ tbl := tb2 52 (by decide +kernel) (by decide +kernel)
theorem ksPa_frame : Cond.selects yPa_frame.cls yPa_frame yPa_frame ∈ tbl := tb2 53 (by decide +kernel) (by decide +kernel)
theorem dPa_slotThatGrowsLeast_0 : decode bPa_slotThatGrowsLeast 0 = .ok (.iconst 0, 1) := by decide +kernel
theorem dPa_slotThatGrowsLeast_1 : decode bPa_slotThatGrowsLeast 1 = .ok (.istore_n 2, 1) := by decide +kernel
theorem dPa_slotThatGrowsLeast_2 : decode bPa_slotThatGrowsLeast 2 = .ok (.ldc2_w 39, 3) := by decide +kernel
theorem dPa_slotThatGrowsLeast_5 : decode bPa_slotThatGrowsLeast 5 = .ok (.lstore_n 3, 1) := by decide +kernel
theorem dPa_slotThatGrowsLeast_6 : decode bPa_slotThatGrowsLeast 6 = .ok (.ldc2_w 39, 3) := by decide +kernel
theorem dPa_slotThatGrowsLeast_9 : decode bPa_slotThatGrowsLeast 9 = .ok (.lstore 5, 2) := by decide +kernel
theorem dPa_slotThatGrowsLeast_11 : decode bPa_slotThatGrowsLeast 11 = .ok (.iconst 0, 1) := by decide +kernel
theorem dPa_slotThatGrowsLeast_12 : decode bPa_slotThatGrowsLeast 12 = .ok (.istore 7, 2) := by decide +kernel
theorem dPa_slotThatGrowsLeast_14 : decode bPa_slotThatGrowsLeast 14 = .ok (.iload 7, 2) := by decide +kernel
theorem dPa_slotThatGrowsLeast_16 : decode bPa_slotThatGrowsLeast 16 = .ok (.aload_n 0, 1) := by decide +kernel
theorem dPa_slotThatGrowsLeast_17 : decode bPa_slotThatGrowsLeast 17 = .ok (.getfield 22, 3) := by decide +kernel
theorem dPa_slotThatGrowsLeast_20 : decode bPa_slotThatGrowsLeast 20 = .ok (.if_icmp .ge 69, 3) := by decide +kernel
theorem dPa_slotThatGrowsLeast_23 : decode bPa_slotThatGrowsLeast 23 = .ok (.aload_n 0, 1) := by decide +kernel
theorem dPa_slotThatGrowsLeast_24 : decode bPa_slotThatGrowsLeast 24 = .ok (.getfield 11, 3) := by decide +kernel
theorem dPa_slotThatGrowsLeast_27 : decode bPa_slotThatGrowsLeast 27 = .ok (.iload 7, 2) := by decide +kernel
theorem dPa_slotThatGrowsLeast_29 : decode bPa_slotThatGrowsLeast 29 = .ok (.aaload, 1) := by decide +kernel
theorem dPa_slotThatGrowsLeast_30 : decode bPa_slotThatGrowsLeast 30 = .ok (.invokevirtual 41, 3) := by decide +kernel
theorem dPa_slotThatGrowsLeast_33 : decode bPa_slotThatGrowsLeast 33 = .ok (.lstore 8, 2) := by decide +kernel
theorem dPa_slotThatGrowsLeast_35 : decode bPa_slotThatGrowsLeast 35 = .ok (.aload_n 0, 1) := by decide +kernel
theorem dPa_slotThatGrowsLeast_36 : decode bPa_slotThatGrowsLeast 36 = .ok (.getfield 11, 3) := by decide +kernel
theorem dPa_slotThatGrowsLeast_39 : decode bPa_slotThatGrowsLeast 39 = .ok (.iload 7, 2) := by decide +kernel
theorem dPa_slotThatGrowsLeast_41 : decode bPa_slotThatGrowsLeast 41 = .ok (.aaload, 1) := by decide +kernel
theorem dPa_slotThatGrowsLeast_42 : decode bPa_slotThatGrowsLeast 42 = .ok (.aload_n 1, 1) := by decide +kernel
theorem dPa_slotThatGrowsLeast_43 : decode bPa_slotThatGrowsLeast 43 = .ok (.invokevirtual 45, 3) := by decide +kernel
theorem dPa_slotThatGrowsLeast_46 : decode bPa_slotThatGrowsLeast 46 = .ok (.lload 8, 2) := by decide +kernel
theorem dPa_slotThatGrowsLeast_48 : decode bPa_slotThatGrowsLeast 48 = .ok (.lsub, 1) := by decide +kernel
theorem dPa_slotThatGrowsLeast_49 : decode bPa_slotThatGrowsLeast 49 = .ok (.lstore 10, 2) := by decide +kernel
theorem dPa_slotThatGrowsLeast_51 : decode bPa_slotThatGrowsLeast 51 = .ok (.lload 10, 2) := by decide +kernel
theorem dPa_slotThatGrowsLeast_53 : decode bPa_slotThatGrowsLeast 53 = .ok (.lload_n 3, 1) := by decide +kernel
theorem dPa_slotThatGrowsLeast_54 : decode bPa_slotThatGrowsLeast 54 = .ok (.lcmp, 1) := by decide +kernel
theorem dPa_slotThatGrowsLeast_55 : decode bPa_slotThatGrowsLeast 55 = .ok (.ifCond .lt 18, 3) := by decide +kernel
theorem dPa_slotThatGrowsLeast_58 : decode bPa_slotThatGrowsLeast 58 = .ok (.lload 10, 2) := by decide +kernel
theorem dPa_slotThatGrowsLeast_60 : decode bPa_slotThatGrowsLeast 60 = .ok (.lload_n 3, 1) := by decide +kernel
theorem dPa_slotThatGrowsLeast_61 : decode bPa_slotThatGrowsLeast 61 = .ok (.lcmp, 1) := by decide +kernel
theorem dPa_slotThatGrowsLeast_62 : decode bPa_slotThatGrowsLeast 62 = .ok (.ifCond .ne 21, 3) := by decide +kernel
theorem dPa_slotThatGrowsLeast_65 : decode bPa_slotThatGrowsLeast 65 = .ok (.lload 8, 2) := by decide +kernel
theorem dPa_slotThatGrowsLeast_67 : decode bPa_slotThatGrowsLeast 67 = .ok (.lload 5, 2) := by decide +kernel
theorem dPa_slotThatGrowsLeast_69 : decode bPa_slotThatGrowsLeast 69 = .ok (.lcmp, 1) := by decide +kernel
theorem dPa_slotThatGrowsLeast_70 : decode bPa_slotThatGrowsLeast 70 = .ok (.ifCond .ge 13, 3) := by decide +kernel
theorem dPa_slotThatGrowsLeast_73 : decode bPa_slotThatGrowsLeast 73 = .ok (.iload 7, 2) := by decide +kernel
theorem dPa_slotThatGrowsLeast_75 : decode bPa_slotThatGrowsLeast 75 = .ok (.istore_n 2, 1) := by decide +kernel
theorem dPa_slotThatGrowsLeast_76 : decode bPa_slotThatGrowsLeast 76 = .ok (.lload 10, 2) := by decide +kernel
theorem dPa_slotThatGrowsLeast_78 : decode bPa_slotThatGrowsLeast 78 = .ok (.lstore_n 3, 1) := by decide +kernel
theorem dPa_slotThatGrowsLeast_79 : decode bPa_slotThatGrowsLeast 79 = .ok (.lload 8, 2) := by decide +kernel
theorem dPa_slotThatGrowsLeast_81 : decode bPa_slotThatGrowsLeast 81 = .ok (.lstore 5, 2) := by decide +kernel
theorem dPa_slotThatGrowsLeast_83 : decode bPa_slotThatGrowsLeast 83 = .ok (.iinc 7 1, 3) := by decide +kernel
theorem dPa_slotThatGrowsLeast_86 : decode bPa_slotThatGrowsLeast 86 = .ok (.goto (-72), 3) := by decide +kernel
theorem dPa_slotThatGrowsLeast_89 : decode bPa_slotThatGrowsLeast 89 = .ok (.iload_n 2, 1) := by decide +kernel
theorem dPa_slotThatGrowsLeast_90 : decode bPa_slotThatGrowsLeast 90 = .ok (.ireturn, 1) := by decide +kernel
abbrev wPa_slotThatGrowsLeast : List Cond := Cond.code yPa_slotThatGrowsLeast bPa_slotThatGrowsLeast 12 (some .int)   :: tbl
theorem kcPa_slotThatGrowsLeast : Cond.code yPa_slotThatGrowsLeast bPa_slotThatGrowsLeast 12 (some .int) ∈ tbl := tb2 15 (by decide +kernel) (by decide +kernel)
theorem kiPa_slotThatGrowsLeast : Cond.instanceMethod yPa_slotThatGrowsLeast ∈ tbl := tb2 13 (by decide +kernel) (by decide +kernel)
theorem ksPa_slotThatGrowsLeast : Cond.selects yPa_slotThatGrowsLeast.cls yPa_slotThatGrowsLeast yPa_slotThatGrowsLeast ∈ tbl := tb2 14 (by decide +kernel) (by decide +kernel)
theorem dPa_bestPartner_0 : decode bPa_bestPartner 0 = .ok (.iload_n 1, 1) := by decide +kernel
theorem dPa_bestPartner_1 : decode bPa_bestPartner 1 = .ok (.istore_n 2, 1) := by decide +kernel
theorem dPa_bestPartner_2 : decode bPa_bestPartner 2 = .ok (.ldc2_w 39, 3) := by decide +kernel
theorem dPa_bestPartner_5 : decode bPa_bestPartner 5 = .ok (.lstore_n 3, 1) := by decide +kernel
theorem dPa_bestPartner_6 : decode bPa_bestPartner 6 = .ok (.iconst 0, 1) := by decide +kernel
theorem dPa_bestPartner_7 : decode bPa_bestPartner 7 = .ok (.istore 5, 2) := by decide +kernel
theorem dPa_bestPartner_9 : decode bPa_bestPartner 9 = .ok (.iload 5, 2) := by decide +kernel
theorem dPa_bestPartner_11 : decode bPa_bestPartner 11 = .ok (.aload_n 0, 1) := by decide +kernel
theorem dPa_bestPartner_12 : decode bPa_bestPartner 12 = .ok (.getfield 22, 3) := by decide +kernel
theorem dPa_bestPartner_15 : decode bPa_bestPartner 15 = .ok (.if_icmp .ge 46, 3) := by decide +kernel
theorem dPa_bestPartner_18 : decode bPa_bestPartner 18 = .ok (.aload_n 0, 1) := by decide +kernel
theorem dPa_bestPartner_19 : decode bPa_bestPartner 19 = .ok (.getfield 11, 3) := by decide +kernel
theorem dPa_bestPartner_22 : decode bPa_bestPartner 22 = .ok (.iload 5, 2) := by decide +kernel
theorem dPa_bestPartner_24 : decode bPa_bestPartner 24 = .ok (.aaload, 1) := by decide +kernel
theorem dPa_bestPartner_25 : decode bPa_bestPartner 25 = .ok (.aload_n 0, 1) := by decide +kernel
theorem dPa_bestPartner_26 : decode bPa_bestPartner 26 = .ok (.getfield 11, 3) := by decide +kernel
theorem dPa_bestPartner_29 : decode bPa_bestPartner 29 = .ok (.iload_n 1, 1) := by decide +kernel
theorem dPa_bestPartner_30 : decode bPa_bestPartner 30 = .ok (.aaload, 1) := by decide +kernel
theorem dPa_bestPartner_31 : decode bPa_bestPartner 31 = .ok (.invokevirtual 45, 3) := by decide +kernel
theorem dPa_bestPartner_34 : decode bPa_bestPartner 34 = .ok (.lstore 6, 2) := by decide +kernel
theorem dPa_bestPartner_36 : decode bPa_bestPartner 36 = .ok (.iload 5, 2) := by decide +kernel
theorem dPa_bestPartner_38 : decode bPa_bestPartner 38 = .ok (.iload_n 1, 1) := by decide +kernel
theorem dPa_bestPartner_39 : decode bPa_bestPartner 39 = .ok (.if_icmp .eq 16, 3) := by decide +kernel
theorem dPa_bestPartner_42 : decode bPa_bestPartner 42 = .ok (.lload 6, 2) := by decide +kernel
theorem dPa_bestPartner_44 : decode bPa_bestPartner 44 = .ok (.lload_n 3, 1) := by decide +kernel
theorem dPa_bestPartner_45 : decode bPa_bestPartner 45 = .ok (.lcmp, 1) := by decide +kernel
theorem dPa_bestPartner_46 : decode bPa_bestPartner 46 = .ok (.ifCond .ge 9, 3) := by decide +kernel
theorem dPa_bestPartner_49 : decode bPa_bestPartner 49 = .ok (.iload 5, 2) := by decide +kernel
theorem dPa_bestPartner_51 : decode bPa_bestPartner 51 = .ok (.istore_n 2, 1) := by decide +kernel
theorem dPa_bestPartner_52 : decode bPa_bestPartner 52 = .ok (.lload 6, 2) := by decide +kernel
theorem dPa_bestPartner_54 : decode bPa_bestPartner 54 = .ok (.lstore_n 3, 1) := by decide +kernel
theorem dPa_bestPartner_55 : decode bPa_bestPartner 55 = .ok (.iinc 5 1, 3) := by decide +kernel
theorem dPa_bestPartner_58 : decode bPa_bestPartner 58 = .ok (.goto (-49), 3) := by decide +kernel
theorem dPa_bestPartner_61 : decode bPa_bestPartner 61 = .ok (.iload_n 2, 1) := by decide +kernel
theorem dPa_bestPartner_62 : decode bPa_bestPartner 62 = .ok (.ireturn, 1) := by decide +kernel
abbrev wPa_bestPartner : List Cond := Cond.code yPa_bestPartner bPa_bestPartner 8 (some .int)   :: tbl
theorem kcPa_bestPartner : Cond.code yPa_bestPartner bPa_bestPartner 8 (some .int) ∈ tbl := tb2 73 (by decide +kernel) (by decide +kernel)
theorem kiPa_bestPartner : Cond.instanceMethod yPa_bestPartner ∈ tbl := tb2 71 (by decide +kernel) (by decide +kernel)
theorem ksPa_bestPartner : Cond.selects yPa_bestPartner.cls yPa_bestPartner yPa_bestPartner ∈ tbl := tb2 72 (by decide +kernel) (by decide +kernel)
theorem dPa_writeTo_0 : decode bPa_writeTo 0 = .ok (.aload_n 1, 1) := by decide +kernel
theorem dPa_writeTo_1 : decode bPa_writeTo 1 = .ok (.iconst 0, 1) := by decide +kernel
theorem dPa_writeTo_2 : decode bPa_writeTo 2 = .ok (.aload_n 0, 1) := by decide +kernel
theorem dPa_writeTo_3 : decode bPa_writeTo 3 = .ok (.getfield 18, 3) := by decide +kernel
theorem dPa_writeTo_6 : decode bPa_writeTo 6 = .ok (.iastore, 1) := by decide +kernel
theorem dPa_writeTo_7 : decode bPa_writeTo 7 = .ok (.aload_n 1, 1) := by decide +kernel
theorem dPa_writeTo_8 : decode bPa_writeTo 8 = .ok (.iconst 1, 1) := by decide +kernel
theorem dPa_writeTo_9 : decode bPa_writeTo 9 = .ok (.aload_n 0, 1) := by decide +kernel
theorem dPa_writeTo_10 : decode bPa_writeTo 10 = .ok (.getfield 22, 3) := by decide +kernel
theorem dPa_writeTo_13 : decode bPa_writeTo 13 = .ok (.iastore, 1) := by decide +kernel
theorem dPa_writeTo_14 : decode bPa_writeTo 14 = .ok (.iconst 0, 1) := by decide +kernel
theorem dPa_writeTo_15 : decode bPa_writeTo 15 = .ok (.istore_n 2, 1) := by decide +kernel
theorem dPa_writeTo_16 : decode bPa_writeTo 16 = .ok (.iload_n 2, 1) := by decide +kernel
theorem dPa_writeTo_17 : decode bPa_writeTo 17 = .ok (.aload_n 0, 1) := by decide +kernel
theorem dPa_writeTo_18 : decode bPa_writeTo 18 = .ok (.getfield 22, 3) := by decide +kernel
theorem dPa_writeTo_21 : decode bPa_writeTo 21 = .ok (.if_icmp .ge 88, 3) := by decide +kernel
theorem dPa_writeTo_24 : decode bPa_writeTo 24 = .ok (.iload_n 2, 1) := by decide +kernel
theorem dPa_writeTo_25 : decode bPa_writeTo 25 = .ok (.iconst 5, 1) := by decide +kernel
theorem dPa_writeTo_26 : decode bPa_writeTo 26 = .ok (.if_icmp .ge 83, 3) := by decide +kernel
theorem dPa_writeTo_29 : decode bPa_writeTo 29 = .ok (.iconst 2, 1) := by decide +kernel
theorem dPa_writeTo_30 : decode bPa_writeTo 30 = .ok (.iload_n 2, 1) := by decide +kernel
theorem dPa_writeTo_31 : decode bPa_writeTo 31 = .ok (.iconst 5, 1) := by decide +kernel
theorem dPa_writeTo_32 : decode bPa_writeTo 32 = .ok (.imul, 1) := by decide +kernel
theorem dPa_writeTo_33 : decode bPa_writeTo 33 = .ok (.iadd, 1) := by decide +kernel
theorem dPa_writeTo_34 : decode bPa_writeTo 34 = .ok (.istore_n 3, 1) := by decide +kernel
theorem dPa_writeTo_35 : decode bPa_writeTo 35 = .ok (.aload_n 1, 1) := by decide +kernel
theorem dPa_writeTo_36 : decode bPa_writeTo 36 = .ok (.iload_n 3, 1) := by decide +kernel
theorem dPa_writeTo_37 : decode bPa_writeTo 37 = .ok (.aload_n 0, 1) := by decide +kernel
theorem dPa_writeTo_38 : decode bPa_writeTo 38 = .ok (.getfield 11, 3) := by decide +kernel
theorem dPa_writeTo_41 : decode bPa_writeTo 41 = .ok (.iload_n 2, 1) := by decide +kernel
theorem dPa_writeTo_42 : decode bPa_writeTo 42 = .ok (.aaload, 1) := by decide +kernel
theorem dPa_writeTo_43 : decode bPa_writeTo 43 = .ok (.getfield 49, 3) := by decide +kernel
theorem dPa_writeTo_46 : decode bPa_writeTo 46 = .ok (.iastore, 1) := by decide +kernel
theorem dPa_writeTo_47 : decode bPa_writeTo 47 = .ok (.aload_n 1, 1) := by decide +kernel
theorem dPa_writeTo_48 : decode bPa_writeTo 48 = .ok (.iload_n 3, 1) := by decide +kernel
theorem dPa_writeTo_49 : decode bPa_writeTo 49 = .ok (.iconst 1, 1) := by decide +kernel
theorem dPa_writeTo_50 : decode bPa_writeTo 50 = .ok (.iadd, 1) := by decide +kernel
theorem dPa_writeTo_51 : decode bPa_writeTo 51 = .ok (.aload_n 0, 1) := by decide +kernel
theorem dPa_writeTo_52 : decode bPa_writeTo 52 = .ok (.getfield 11, 3) := by decide +kernel
theorem dPa_writeTo_55 : decode bPa_writeTo 55 = .ok (.iload_n 2, 1) := by decide +kernel
theorem dPa_writeTo_56 : decode bPa_writeTo 56 = .ok (.aaload, 1) := by decide +kernel
theorem dPa_writeTo_57 : decode bPa_writeTo 57 = .ok (.getfield 52, 3) := by decide +kernel
theorem dPa_writeTo_60 : decode bPa_writeTo 60 = .ok (.iastore, 1) := by decide +kernel
theorem dPa_writeTo_61 : decode bPa_writeTo 61 = .ok (.aload_n 1, 1) := by decide +kernel
theorem dPa_writeTo_62 : decode bPa_writeTo 62 = .ok (.iload_n 3, 1) := by decide +kernel
theorem dPa_writeTo_63 : decode bPa_writeTo 63 = .ok (.iconst 2, 1) := by decide +kernel
theorem dPa_writeTo_64 : decode bPa_writeTo 64 = .ok (.iadd, 1) := by decide +kernel
theorem dPa_writeTo_65 : decode bPa_writeTo 65 = .ok (.aload_n 0, 1) := by decide +kernel
theorem dPa_writeTo_66 : decode bPa_writeTo 66 = .ok (.getfield 11, 3) := by decide +kernel
theorem dPa_writeTo_69 : decode bPa_writeTo 69 = .ok (.iload_n 2, 1) := by decide +kernel
theorem dPa_writeTo_70 : decode bPa_writeTo 70 = .ok (.aaload, 1) := by decide +kernel
theorem dPa_writeTo_71 : decode bPa_writeTo 71 = .ok (.getfield 55, 3) := by decide +kernel
theorem dPa_writeTo_74 : decode bPa_writeTo 74 = .ok (.iastore, 1) := by decide +kernel
theorem dPa_writeTo_75 : decode bPa_writeTo 75 = .ok (.aload_n 1, 1) := by decide +kernel
theorem dPa_writeTo_76 : decode bPa_writeTo 76 = .ok (.iload_n 3, 1) := by decide +kernel
theorem dPa_writeTo_77 : decode bPa_writeTo 77 = .ok (.iconst 3, 1) := by decide +kernel
theorem dPa_writeTo_78 : decode bPa_writeTo 78 = .ok (.iadd, 1) := by decide +kernel
theorem dPa_writeTo_79 : decode bPa_writeTo 79 = .ok (.aload_n 0, 1) := by decide +kernel
theorem dPa_writeTo_80 : decode bPa_writeTo 80 = .ok (.getfield 11, 3) := by decide +kernel
theorem dPa_writeTo_83 : decode bPa_writeTo 83 = .ok (.iload_n 2, 1) := by decide +kernel
theorem dPa_writeTo_84 : decode bPa_writeTo 84 = .ok (.aaload, 1) := by decide +kernel
theorem dPa_writeTo_85 : decode bPa_writeTo 85 = .ok (.getfield 58, 3) := by decide +kernel
theorem dPa_writeTo_88 : decode bPa_writeTo 88 = .ok (.iastore, 1) := by decide +kernel
theorem dPa_writeTo_89 : decode bPa_writeTo 89 = .ok (.aload_n 1, 1) := by decide +kernel
theorem dPa_writeTo_90 : decode bPa_writeTo 90 = .ok (.iload_n 3, 1) := by decide +kernel
theorem dPa_writeTo_91 : decode bPa_writeTo 91 = .ok (.iconst 4, 1) := by decide +kernel
theorem dPa_writeTo_92 : decode bPa_writeTo 92 = .ok (.iadd, 1) := by decide +kernel
theorem dPa_writeTo_93 : decode bPa_writeTo 93 = .ok (.aload_n 0, 1) := by decide +kernel
theorem dPa_writeTo_94 : decode bPa_writeTo 94 = .ok (.getfield 11, 3) := by decide +kernel
theorem dPa_writeTo_97 : decode bPa_writeTo 97 = .ok (.iload_n 2, 1) := by decide +kernel
theorem dPa_writeTo_98 : decode bPa_writeTo 98 = .ok (.aaload, 1) := by decide +kernel
theorem dPa_writeTo_99 : decode bPa_writeTo 99 = .ok (.getfield 61, 3) := by decide +kernel
theorem dPa_writeTo_102 : decode bPa_writeTo 102 = .ok (.iastore, 1) := by decide +kernel
theorem dPa_writeTo_103 : decode bPa_writeTo 103 = .ok (.iinc 2 1, 3) := by decide +kernel
theorem dPa_writeTo_106 : decode bPa_writeTo 106 = .ok (.goto (-90), 3) := by decide +kernel
theorem dPa_writeTo_109 : decode bPa_writeTo 109 = .ok (.return_, 1) := by decide +kernel
abbrev wPa_writeTo : List Cond := Cond.code yPa_writeTo bPa_writeTo 4 none   :: tbl
theorem kcPa_writeTo : Cond.code yPa_writeTo bPa_writeTo 4 none ∈ tbl := tb2 142 (by decide +kernel) (by decide +kernel)
theorem kiPa_writeTo : Cond.instanceMethod yPa_writeTo ∈ tbl := tb2 140 (by decide +kernel) (by decide +kernel)
theorem ksPa_writeTo : Cond.selects yPa_writeTo.cls yPa_writeTo yPa_writeTo ∈ tbl := tb2 141 (by decide +kernel) (by decide +kernel)
theorem dPa_readFrom_0 : decode bPa_readFrom 0 = .ok (.aload_n 0, 1) := by decide +kernel
theorem dPa_readFrom_1 : decode bPa_readFrom 1 = .ok (.aload_n 1, 1) := by decide +kernel
theorem dPa_readFrom_2 : decode bPa_readFrom 2 = .ok (.iconst 0, 1) := by decide +kernel
theorem dPa_readFrom_3 : decode bPa_readFrom 3 = .ok (.iaload, 1) := by decide +kernel
theorem dPa_readFrom_4 : decode bPa_readFrom 4 = .ok (.putfield 18, 3) := by decide +kernel
theorem dPa_readFrom_7 : decode bPa_readFrom 7 = .ok (.aload_n 0, 1) := by decide +kernel
theorem dPa_readFrom_8 : decode bPa_readFrom 8 = .ok (.iconst 0, 1) := by decide +kernel
theorem dPa_readFrom_9 : decode bPa_readFrom 9 = .ok (.aload_n 1, 1) := by decide +kernel
theorem dPa_readFrom_10 : decode bPa_readFrom 10 = .ok (.iconst 1, 1) := by decide +kernel
theorem dPa_readFrom_11 : decode bPa_readFrom 11 = .ok (.iaload, 1) := by decide +kernel
theorem dPa_readFrom_12 : decode bPa_readFrom 12 = .ok (.iconst 5, 1) := by decide +kernel
theorem dPa_readFrom_13 : decode bPa_readFrom 13 = .ok (.invokestatic 64, 3) := by decide +kernel
theorem dPa_readFrom_16 : decode bPa_readFrom 16 = .ok (.invokestatic 70, 3) := by decide +kernel
theorem dPa_readFrom_19 : decode bPa_readFrom 19 = .ok (.putfield 22, 3) := by decide +kernel
theorem dPa_readFrom_22 : decode bPa_readFrom 22 = .ok (.aload_n 0, 1) := by decide +kernel
theorem dPa_readFrom_23 : decode bPa_readFrom 23 = .ok (.iconst 0, 1) := by decide +kernel
theorem dPa_readFrom_24 : decode bPa_readFrom 24 = .ok (.putfield 25, 3) := by decide +kernel
theorem dPa_readFrom_27 : decode bPa_readFrom 27 = .ok (.iconst 0, 1) := by decide +kernel
theorem dPa_readFrom_28 : decode bPa_readFrom 28 = .ok (.istore_n 2, 1) := by decide +kernel
theorem dPa_readFrom_29 : decode bPa_readFrom 29 = .ok (.iload_n 2, 1) := by decide +kernel
theorem dPa_readFrom_30 : decode bPa_readFrom 30 = .ok (.aload_n 0, 1) := by decide +kernel
theorem dPa_readFrom_31 : decode bPa_readFrom 31 = .ok (.getfield 22, 3) := by decide +kernel
theorem dPa_readFrom_34 : decode bPa_readFrom 34 = .ok (.if_icmp .ge 47, 3) := by decide +kernel
theorem dPa_readFrom_37 : decode bPa_readFrom 37 = .ok (.iconst 2, 1) := by decide +kernel
theorem dPa_readFrom_38 : decode bPa_readFrom 38 = .ok (.iload_n 2, 1) := by decide +kernel
theorem dPa_readFrom_39 : decode bPa_readFrom 39 = .ok (.iconst 5, 1) := by decide +kernel
theorem dPa_readFrom_40 : decode bPa_readFrom 40 = .ok (.imul, 1) := by decide +kernel
theorem dPa_readFrom_41 : decode bPa_readFrom 41 = .ok (.iadd, 1) := by decide +kernel
theorem dPa_readFrom_42 : decode bPa_readFrom 42 = .ok (.istore_n 3, 1) := by decide +kernel
theorem dPa_readFrom_43 : decode bPa_readFrom 43 = .ok (.aload_n 0, 1) := by decide +kernel
theorem dPa_readFrom_44 : decode bPa_readFrom 44 = .ok (.getfield 11, 3) := by decide +kernel
theorem dPa_readFrom_47 : decode bPa_readFrom 47 = .ok (.iload_n 2, 1) := by decide +kernel
theorem dPa_readFrom_48 : decode bPa_readFrom 48 = .ok (.aaload, 1) := by decide +kernel
theorem dPa_readFrom_49 : decode bPa_readFrom 49 = .ok (.aload_n 1, 1) := by decide +kernel
theorem dPa_readFrom_50 : decode bPa_readFrom 50 = .ok (.iload_n 3, 1) := by decide +kernel
theorem dPa_readFrom_51 : decode bPa_readFrom 51 = .ok (.iaload, 1) := by decide +kernel
theorem dPa_readFrom_52 : decode bPa_readFrom 52 = .ok (.aload_n 1, 1) := by decide +kernel
theorem dPa_readFrom_53 : decode bPa_readFrom 53 = .ok (.iload_n 3, 1) := by decide +kernel
theorem dPa_readFrom_54 : decode bPa_readFrom 54 = .ok (.iconst 1, 1) := by decide +kernel
theorem dPa_readFrom_55 : decode bPa_readFrom 55 = .ok (.iadd, 1) := by decide +kernel
theorem dPa_readFrom_56 : decode bPa_readFrom 56 = .ok (.iaload, 1) := by decide +kernel
theorem dPa_readFrom_57 : decode bPa_readFrom 57 = .ok (.aload_n 1, 1) := by decide +kernel
theorem dPa_readFrom_58 : decode bPa_readFrom 58 = .ok (.iload_n 3, 1) := by decide +kernel
theorem dPa_readFrom_59 : decode bPa_readFrom 59 = .ok (.iconst 2, 1) := by decide +kernel
theorem dPa_readFrom_60 : decode bPa_readFrom 60 = .ok (.iadd, 1) := by decide +kernel
theorem dPa_readFrom_61 : decode bPa_readFrom 61 = .ok (.iaload, 1) := by decide +kernel
theorem dPa_readFrom_62 : decode bPa_readFrom 62 = .ok (.aload_n 1, 1) := by decide +kernel
theorem dPa_readFrom_63 : decode bPa_readFrom 63 = .ok (.iload_n 3, 1) := by decide +kernel
theorem dPa_readFrom_64 : decode bPa_readFrom 64 = .ok (.iconst 3, 1) := by decide +kernel
theorem dPa_readFrom_65 : decode bPa_readFrom 65 = .ok (.iadd, 1) := by decide +kernel
theorem dPa_readFrom_66 : decode bPa_readFrom 66 = .ok (.iaload, 1) := by decide +kernel
theorem dPa_readFrom_67 : decode bPa_readFrom 67 = .ok (.aload_n 1, 1) := by decide +kernel
theorem dPa_readFrom_68 : decode bPa_readFrom 68 = .ok (.iload_n 3, 1) := by decide +kernel
theorem dPa_readFrom_69 : decode bPa_readFrom 69 = .ok (.iconst 4, 1) := by decide +kernel
theorem dPa_readFrom_70 : decode bPa_readFrom 70 = .ok (.iadd, 1) := by decide +kernel
theorem dPa_readFrom_71 : decode bPa_readFrom 71 = .ok (.iaload, 1) := by decide +kernel
theorem dPa_readFrom_72 : decode bPa_readFrom 72 = .ok (.invokevirtual 73, 3) := by decide +kernel
theorem dPa_readFrom_75 : decode bPa_readFrom 75 = .ok (.iinc 2 1, 3) := by decide +kernel
theorem dPa_readFrom_78 : decode bPa_readFrom 78 = .ok (.goto (-49), 3) := by decide +kernel
theorem dPa_readFrom_81 : decode bPa_readFrom 81 = .ok (.return_, 1) := by decide +kernel
abbrev wPa_readFrom : List Cond := Cond.code yPa_readFrom bPa_readFrom 4 none   :: tbl
theorem kcPa_readFrom : Cond.code yPa_readFrom bPa_readFrom 4 none ∈ tbl := tb3 3 (by decide +kernel) (by decide +kernel)
theorem kiPa_readFrom : Cond.instanceMethod yPa_readFrom ∈ tbl := tb3 1 (by decide +kernel) (by decide +kernel)
theorem ksPa_readFrom : Cond.selects yPa_readFrom.cls yPa_readFrom yPa_readFrom ∈ tbl := tb3 2 (by decide +kernel) (by decide +kernel)
theorem kfPa_11 : Cond.fieldLink RPa 11 (TPa 3).1 (TPa 3).2.1 (TPa 3).2.2.1 ∈ tbl := tb1 103 (by decide +kernel) (by decide +kernel)
theorem kfPa_18 : Cond.fieldLink RPa 18 (TPa 0).1 (TPa 0).2.1 (TPa 0).2.2.1 ∈ tbl := tb1 96 (by decide +kernel) (by decide +kernel)
theorem kfPa_22 : Cond.fieldLink RPa 22 (TPa 1).1 (TPa 1).2.1 (TPa 1).2.2.1 ∈ tbl := tb1 98 (by decide +kernel) (by decide +kernel)
theorem kfPa_25 : Cond.fieldLink RPa 25 (TPa 2).1 (TPa 2).2.1 (TPa 2).2.2.1 ∈ tbl := tb1 101 (by decide +kernel) (by decide +kernel)
theorem kfPa_39 : Cond.constantLong RPa 39 (9223372036854775807) ∈ tbl := tb2 16 (by decide +kernel) (by decide +kernel)
theorem kfPa_49 : Cond.fieldLink RPa 49 (TBo 0).1 (TBo 0).2.1 (TBo 0).2.2.1 ∈ tbl := tb1 60 (by decide +kernel) (by decide +kernel)
theorem kfPa_52 : Cond.fieldLink RPa 52 (TBo 1).1 (TBo 1).2.1 (TBo 1).2.2.1 ∈ tbl := tb1 63 (by decide +kernel) (by decide +kernel)
theorem kfPa_55 : Cond.fieldLink RPa 55 (TBo 2).1 (TBo 2).2.1 (TBo 2).2.2.1 ∈ tbl := tb1 66 (by decide +kernel) (by decide +kernel)
theorem kfPa_58 : Cond.fieldLink RPa 58 (TBo 3).1 (TBo 3).2.1 (TBo 3).2.2.1 ∈ tbl := tb1 69 (by decide +kernel) (by decide +kernel)
theorem kfPa_61 : Cond.fieldLink RPa 61 (TBo 4).1 (TBo 4).2.1 (TBo 4).2.2.1 ∈ tbl := tb1 74 (by decide +kernel) (by decide +kernel)
end
section
abbrev bTr_init : ByteArray := prog_6_method_1_code
def yTr_init : MethodName := ⟨RTr, "<init>", "()V"⟩
abbrev bTr_at : ByteArray := prog_6_method_2_code
def yTr_at : MethodName := ⟨RTr, "at", "(I)LBoxedPages$Page;"⟩
abbrev bTr_plant : ByteArray := prog_6_method_3_code
def yTr_plant : MethodName := ⟨RTr, "plant", "(LBoxedPages$Box;)V"⟩
abbrev bTr_uproot : ByteArray := prog_6_method_4_code
def yTr_uproot : MethodName := ⟨RTr, "uproot", "(LBoxedPages$Box;)Z"⟩
abbrev bTr_isWhole : ByteArray := prog_6_method_5_code
def yTr_isWhole : MethodName := ⟨RTr, "isWhole", "()Z"⟩
abbrev bTr_changedPages : ByteArray := prog_6_method_6_code
def yTr_changedPages : MethodName := ⟨RTr, "changedPages", "()I"⟩
abbrev bTr_isChanged : ByteArray := prog_6_method_7_code
def yTr_isChanged : MethodName := ⟨RTr, "isChanged", "(I)Z"⟩
abbrev bTr_markUnchanged : ByteArray := prog_6_method_8_code
def yTr_markUnchanged : MethodName := ⟨RTr, "markUnchanged", "()V"⟩
abbrev bTr_writePage : ByteArray := prog_6_method_9_code
def yTr_writePage : MethodName := ⟨RTr, "writePage", "(I[I)V"⟩
abbrev bTr_readFrom : ByteArray := prog_6_method_10_code
def yTr_readFrom : MethodName := ⟨RTr, "readFrom", "(LBoxedPages$Disk;)V"⟩
abbrev bTr_forget : ByteArray := prog_6_method_11_code
def yTr_forget : MethodName := ⟨RTr, "forget", "()V"⟩
abbrev bTr_writeHeader : ByteArray := prog_6_method_12_code
def yTr_writeHeader : MethodName := ⟨RTr, "writeHeader", "(II)V"⟩
abbrev bTr_lowestDepth : ByteArray := prog_6_method_13_code
def yTr_lowestDepth : MethodName := ⟨RTr, "lowestDepth", "()I"⟩
abbrev bTr_descend : ByteArray := prog_6_method_14_code
def yTr_descend : MethodName := ⟨RTr, "descend", "(LBoxedPages$Box;)I"⟩
abbrev bTr_seek : ByteArray := prog_6_method_15_code
def yTr_seek : MethodName := ⟨RTr, "seek", "(LBoxedPages$Tree;LBoxedPages$Box;II)Z"⟩
abbrev bTr_climb : ByteArray := prog_6_method_16_code
def yTr_climb : MethodName := ⟨RTr, "climb", "(I)V"⟩
abbrev bTr_mend : ByteArray := prog_6_method_17_code
def yTr_mend : MethodName := ⟨RTr, "mend", "(LBoxedPages$Page;I)V"⟩
abbrev bTr_tellFrame : ByteArray := prog_6_method_18_code
def yTr_tellFrame : MethodName := ⟨RTr, "tellFrame", "(LBoxedPages$Page;I)V"⟩
abbrev bTr_hang : ByteArray := prog_6_method_19_code
def yTr_hang : MethodName := ⟨RTr, "hang", "(LBoxedPages$Page;I)V"⟩
abbrev bTr_merge : ByteArray := prog_6_method_20_code
def yTr_merge : MethodName := ⟨RTr, "merge", "(LBoxedPages$Page;II)V"⟩
abbrev bTr_moveOut : ByteArray := prog_6_method_21_code
def yTr_moveOut : MethodName := ⟨RTr, "moveOut", "(LBoxedPages$Page;ILBoxedPages$Page;)V"⟩
abbrev bTr_bestDivision : ByteArray := prog_6_method_22_code
def yTr_bestDivision : MethodName := ⟨RTr, "bestDivision", "(LBoxedPages$Page;)I"⟩
abbrev bTr_openPage : ByteArray := prog_6_method_23_code
def yTr_openPage : MethodName := ⟨RTr, "openPage", "(I)I"⟩
abbrev bTr_entriesBelow : ByteArray := prog_6_method_24_code
def yTr_entriesBelow : MethodName := ⟨RTr, "entriesBelow", "(LBoxedPages$Tree;II)I"⟩
theorem dTr_init_0 : decode bTr_init 0 = .ok (.aload_n 0, 1) := by decide +kernel
theorem dTr_init_1 : decode bTr_init 1 = .ok (.invokespecial 3, 3) := by decide +kernel
theorem dTr_init_4 : decode bTr_init 4 = .ok (.aload_n 0, 1) := by decide +kernel
theorem dTr_init_5 : decode bTr_init 5 = .ok (.bipush 40, 2) := by decide +kernel
theorem dTr_init_7 : decode bTr_init 7 = .ok (.anewarray 9, 3) := by decide +kernel
theorem dTr_init_10 : decode bTr_init 10 = .ok (.putfield 11, 3) := by decide +kernel
theorem dTr_init_13 : decode bTr_init 13 = .ok (.aload_n 0, 1) := by decide +kernel
theorem dTr_init_14 : decode bTr_init 14 = .ok (.iconst 4, 1) := by decide +kernel
theorem dTr_init_15 : decode bTr_init 15 = .ok (.newarray .int, 2) := by decide +kernel
theorem dTr_init_17 : decode bTr_init 17 = .ok (.putfield 17, 3) := by decide +kernel
theorem dTr_init_20 : decode bTr_init 20 = .ok (.aload_n 0, 1) := by decide +kernel
theorem dTr_init_21 : decode bTr_init 21 = .ok (.iconst 4, 1) := by decide +kernel
theorem dTr_init_22 : decode bTr_init 22 = .ok (.newarray .int, 2) := by decide +kernel
theorem dTr_init_24 : decode bTr_init 24 = .ok (.putfield 21, 3) := by decide +kernel
theorem dTr_init_27 : decode bTr_init 27 = .ok (.aload_n 0, 1) := by decide +kernel
theorem dTr_init_28 : decode bTr_init 28 = .ok (.new 24, 3) := by decide +kernel
theorem dTr_init_31 : decode bTr_init 31 = .ok (.dup, 1) := by decide +kernel
theorem dTr_init_32 : decode bTr_init 32 = .ok (.invokespecial 26, 3) := by decide +kernel
theorem dTr_init_35 : decode bTr_init 35 = .ok (.putfield 27, 3) := by decide +kernel
theorem dTr_init_38 : decode bTr_init 38 = .ok (.aload_n 0, 1) := by decide +kernel
theorem dTr_init_39 : decode bTr_init 39 = .ok (.new 24, 3) := by decide +kernel
theorem dTr_init_42 : decode bTr_init 42 = .ok (.dup, 1) := by decide +kernel
theorem dTr_init_43 : decode bTr_init 43 = .ok (.invokespecial 26, 3) := by decide +kernel
theorem dTr_init_46 : decode bTr_init 46 = .ok (.putfield 31, 3) := by decide +kernel
theorem dTr_init_49 : decode bTr_init 49 = .ok (.iconst 0, 1) := by decide +kernel
theorem dTr_init_50 : decode bTr_init 50 = .ok (.istore_n 1, 1) := by decide +kernel
theorem dTr_init_51 : decode bTr_init 51 = .ok (.iload_n 1, 1) := by decide +kernel
theorem dTr_init_52 : decode bTr_init 52 = .ok (.bipush 40, 2) := by decide +kernel
theorem dTr_init_54 : decode bTr_init 54 = .ok (.if_icmp .ge 22, 3) := by decide +kernel
theorem dTr_init_57 : decode bTr_init 57 = .ok (.aload_n 0, 1) := by decide +kernel
theorem dTr_init_58 : decode bTr_init 58 = .ok (.getfield 11, 3) := by decide +kernel
theorem dTr_init_61 : decode bTr_init 61 = .ok (.iload_n 1, 1) := by decide +kernel
theorem dTr_init_62 : decode bTr_init 62 = .ok (.new 9, 3) := by decide +kernel
theorem dTr_init_65 : decode bTr_init 65 = .ok (.dup, 1) := by decide +kernel
theorem dTr_init_66 : decode bTr_init 66 = .ok (.invokespecial 34, 3) := by decide +kernel
theorem dTr_init_69 : decode bTr_init 69 = .ok (.aastore, 1) := by decide +kernel
theorem dTr_init_70 : decode bTr_init 70 = .ok (.iinc 1 1, 3) := by decide +kernel
theorem dTr_init_73 : decode bTr_init 73 = .ok (.goto (-22), 3) := by decide +kernel
theorem dTr_init_76 : decode bTr_init 76 = .ok (.aload_n 0, 1) := by decide +kernel
theorem dTr_init_77 : decode bTr_init 77 = .ok (.getfield 11, 3) := by decide +kernel
theorem dTr_init_80 : decode bTr_init 80 = .ok (.iconst 1, 1) := by decide +kernel
theorem dTr_init_81 : decode bTr_init 81 = .ok (.aaload, 1) := by decide +kernel
theorem dTr_init_82 : decode bTr_init 82 = .ok (.iconst 1, 1) := by decide +kernel
theorem dTr_init_83 : decode bTr_init 83 = .ok (.putfield 35, 3) := by decide +kernel
theorem dTr_init_86 : decode bTr_init 86 = .ok (.aload_n 0, 1) := by decide +kernel
theorem dTr_init_87 : decode bTr_init 87 = .ok (.iconst 1, 1) := by decide +kernel
theorem dTr_init_88 : decode bTr_init 88 = .ok (.putfield 39, 3) := by decide +kernel
theorem dTr_init_91 : decode bTr_init 91 = .ok (.return_, 1) := by decide +kernel
abbrev wTr_init : List Cond := Cond.code yTr_init bTr_init 2 none   :: tbl
theorem kcTr_init : Cond.code yTr_init bTr_init 2 none ∈ tbl := tb1 49 (by decide +kernel) (by decide +kernel)
theorem kiTr_init : Cond.instanceMethod yTr_init ∈ tbl := tb1 48 (by decide +kernel) (by decide +kernel)
theorem dTr_at_0 : decode bTr_at 0 = .ok (.aload_n 0, 1) := by decide +kernel
theorem dTr_at_1 : decode bTr_at 1 = .ok (.getfield 11, 3) := by decide +kernel
theorem dTr_at_4 : decode bTr_at 4 = .ok (.iload_n 1, 1) := by decide +kernel
theorem dTr_at_5 : decode bTr_at 5 = .ok (.ifCond .le 13, 3) := by decide +kernel
theorem dTr_at_8 : decode bTr_at 8 = .ok (.iload_n 1, 1) := by decide +kernel
theorem dTr_at_9 : decode bTr_at 9 = .ok (.bipush 40, 2) := by decide +kernel
theorem dTr_at_11 : decode bTr_at 11 = .ok (.if_icmp .ge 7, 3) := by decide +kernel
theorem dTr_at_14 : decode bTr_at 14 = .ok (.iload_n 1, 1) := by decide +kernel
theorem dTr_at_15 : decode bTr_at 15 = .ok (.goto 4, 3) := by decide +kernel
theorem dTr_at_18 : decode bTr_at 18 = .ok (.iconst 0, 1) := by decide +kernel
theorem dTr_at_19 : decode bTr_at 19 = .ok (.aaload, 1) := by decide +kernel
theorem dTr_at_20 : decode bTr_at 20 = .ok (.areturn, 1) := by decide +kernel
abbrev wTr_at : List Cond := Cond.code yTr_at bTr_at 2 (some (.object "BoxedPages$Page"))   :: tbl
theorem kcTr_at : Cond.code yTr_at bTr_at 2 (some (.object "BoxedPages$Page")) ∈ tbl := tb2 5 (by decide +kernel) (by decide +kernel)
theorem kiTr_at : Cond.instanceMethod yTr_at ∈ tbl := tb2 3 (by decide +kernel) (by decide +kernel)
theorem ksTr_at : Cond.selects yTr_at.cls yTr_at yTr_at ∈ tbl := tb2 4 (by decide +kernel) (by decide +kernel)
theorem dTr_plant_0 : decode bTr_plant 0 = .ok (.aload_n 0, 1) := by decide +kernel
theorem dTr_plant_1 : decode bTr_plant 1 = .ok (.aload_n 1, 1) := by decide +kernel
theorem dTr_plant_2 : decode bTr_plant 2 = .ok (.invokevirtual 42, 3) := by decide +kernel
theorem dTr_plant_5 : decode bTr_plant 5 = .ok (.istore_n 2, 1) := by decide +kernel
theorem dTr_plant_6 : decode bTr_plant 6 = .ok (.aload_n 0, 1) := by decide +kernel
theorem dTr_plant_7 : decode bTr_plant 7 = .ok (.aload_n 0, 1) := by decide +kernel
theorem dTr_plant_8 : decode bTr_plant 8 = .ok (.getfield 17, 3) := by decide +kernel
theorem dTr_plant_11 : decode bTr_plant 11 = .ok (.iload_n 2, 1) := by decide +kernel
theorem dTr_plant_12 : decode bTr_plant 12 = .ok (.iaload, 1) := by decide +kernel
theorem dTr_plant_13 : decode bTr_plant 13 = .ok (.invokevirtual 46, 3) := by decide +kernel
theorem dTr_plant_16 : decode bTr_plant 16 = .ok (.aload_n 1, 1) := by decide +kernel
theorem dTr_plant_17 : decode bTr_plant 17 = .ok (.invokevirtual 50, 3) := by decide +kernel
theorem dTr_plant_20 : decode bTr_plant 20 = .ok (.aload_n 0, 1) := by decide +kernel
theorem dTr_plant_21 : decode bTr_plant 21 = .ok (.aload_n 0, 1) := by decide +kernel
theorem dTr_plant_22 : decode bTr_plant 22 = .ok (.getfield 39, 3) := by decide +kernel
theorem dTr_plant_25 : decode bTr_plant 25 = .ok (.aload_n 0, 1) := by decide +kernel
theorem dTr_plant_26 : decode bTr_plant 26 = .ok (.getfield 54, 3) := by decide +kernel
theorem dTr_plant_29 : decode bTr_plant 29 = .ok (.iconst 1, 1) := by decide +kernel
theorem dTr_plant_30 : decode bTr_plant 30 = .ok (.iadd, 1) := by decide +kernel
theorem dTr_plant_31 : decode bTr_plant 31 = .ok (.invokevirtual 57, 3) := by decide +kernel
theorem dTr_plant_34 : decode bTr_plant 34 = .ok (.aload_n 0, 1) := by decide +kernel
theorem dTr_plant_35 : decode bTr_plant 35 = .ok (.iload_n 2, 1) := by decide +kernel
theorem dTr_plant_36 : decode bTr_plant 36 = .ok (.invokevirtual 61, 3) := by decide +kernel
theorem dTr_plant_39 : decode bTr_plant 39 = .ok (.return_, 1) := by decide +kernel
abbrev wTr_plant : List Cond := Cond.code yTr_plant bTr_plant 3 none   :: tbl
theorem kcTr_plant : Cond.code yTr_plant bTr_plant 3 none ∈ tbl := tb1 233 (by decide +kernel) (by decide +kernel)
theorem kiTr_plant : Cond.instanceMethod yTr_plant ∈ tbl := tb1 231 (by decide +kernel) (by decide +kernel)
theorem ksTr_plant : Cond.selects yTr_plant.cls yTr_plant yTr_plant ∈ tbl := tb1 232 (by decide +kernel) (by decide +kernel)
theorem dTr_uproot_0 : decode bTr_uproot 0 = .ok (.aload_n 0, 1) := by decide +kernel
theorem dTr_uproot_1 : decode bTr_uproot 1 = .ok (.aload_n 1, 1) := by decide +kernel
theorem dTr_uproot_2 : decode bTr_uproot 2 = .ok (.aload_n 0, 1) := by decide +kernel
theorem dTr_uproot_3 : decode bTr_uproot 3 = .ok (.getfield 39, 3) := by decide +kernel
theorem dTr_uproot_6 : decode bTr_uproot 6 = .ok (.iconst 0, 1) := by decide +kernel
theorem dTr_uproot_7 : decode bTr_uproot 7 = .ok (.invokestatic 65, 3) := by decide +kernel
theorem dTr_uproot_10 : decode bTr_uproot 10 = .ok (.ifCond .ne 5, 3) := by decide +kernel
theorem dTr_uproot_13 : decode bTr_uproot 13 = .ok (.iconst 0, 1) := by decide +kernel
theorem dTr_uproot_14 : decode bTr_uproot 14 = .ok (.ireturn, 1) := by decide +kernel
theorem dTr_uproot_15 : decode bTr_uproot 15 = .ok (.aload_n 0, 1) := by decide +kernel
theorem dTr_uproot_16 : decode bTr_uproot 16 = .ok (.invokevirtual 69, 3) := by decide +kernel
theorem dTr_uproot_19 : decode bTr_uproot 19 = .ok (.istore_n 2, 1) := by decide +kernel
theorem dTr_uproot_20 : decode bTr_uproot 20 = .ok (.aload_n 0, 1) := by decide +kernel
theorem dTr_uproot_21 : decode bTr_uproot 21 = .ok (.aload_n 0, 1) := by decide +kernel
theorem dTr_uproot_22 : decode bTr_uproot 22 = .ok (.getfield 17, 3) := by decide +kernel
theorem dTr_uproot_25 : decode bTr_uproot 25 = .ok (.iload_n 2, 1) := by decide +kernel
theorem dTr_uproot_26 : decode bTr_uproot 26 = .ok (.iaload, 1) := by decide +kernel
theorem dTr_uproot_27 : decode bTr_uproot 27 = .ok (.invokevirtual 46, 3) := by decide +kernel
theorem dTr_uproot_30 : decode bTr_uproot 30 = .ok (.aload_n 0, 1) := by decide +kernel
theorem dTr_uproot_31 : decode bTr_uproot 31 = .ok (.getfield 21, 3) := by decide +kernel
theorem dTr_uproot_34 : decode bTr_uproot 34 = .ok (.iload_n 2, 1) := by decide +kernel
theorem dTr_uproot_35 : decode bTr_uproot 35 = .ok (.iaload, 1) := by decide +kernel
theorem dTr_uproot_36 : decode bTr_uproot 36 = .ok (.invokevirtual 73, 3) := by decide +kernel
theorem dTr_uproot_39 : decode bTr_uproot 39 = .ok (.aload_n 0, 1) := by decide +kernel
theorem dTr_uproot_40 : decode bTr_uproot 40 = .ok (.aload_n 0, 1) := by decide +kernel
theorem dTr_uproot_41 : decode bTr_uproot 41 = .ok (.getfield 39, 3) := by decide +kernel
theorem dTr_uproot_44 : decode bTr_uproot 44 = .ok (.aload_n 0, 1) := by decide +kernel
theorem dTr_uproot_45 : decode bTr_uproot 45 = .ok (.getfield 54, 3) := by decide +kernel
theorem dTr_uproot_48 : decode bTr_uproot 48 = .ok (.iconst 1, 1) := by decide +kernel
theorem dTr_uproot_49 : decode bTr_uproot 49 = .ok (.isub, 1) := by decide +kernel
theorem dTr_uproot_50 : decode bTr_uproot 50 = .ok (.invokevirtual 57, 3) := by decide +kernel
theorem dTr_uproot_53 : decode bTr_uproot 53 = .ok (.aload_n 0, 1) := by decide +kernel
theorem dTr_uproot_54 : decode bTr_uproot 54 = .ok (.iload_n 2, 1) := by decide +kernel
theorem dTr_uproot_55 : decode bTr_uproot 55 = .ok (.invokevirtual 61, 3) := by decide +kernel
theorem dTr_uproot_58 : decode bTr_uproot 58 = .ok (.iconst 1, 1) := by decide +kernel
theorem dTr_uproot_59 : decode bTr_uproot 59 = .ok (.ireturn, 1) := by decide +kernel
abbrev wTr_uproot : List Cond := Cond.code yTr_uproot bTr_uproot 3 (some .boolean)   :: tbl
theorem kcTr_uproot : Cond.code yTr_uproot bTr_uproot 3 (some .boolean) ∈ tbl := tb2 174 (by decide +kernel) (by decide +kernel)
theorem kiTr_uproot : Cond.instanceMethod yTr_uproot ∈ tbl := tb2 172 (by decide +kernel) (by decide +kernel)
theorem ksTr_uproot : Cond.selects yTr_uproot.cls yTr_uproot yTr_uproot ∈ tbl := tb2 173 (by decide +kernel) (by decide +kernel)
theorem dTr_isWhole_0 : decode bTr_isWhole 0 = .ok (.aload_n 0, 1) := by decide +kernel
theorem dTr_isWhole_1 : decode bTr_isWhole 1 = .ok (.aload_n 0, 1) := by decide +kernel
theorem dTr_isWhole_2 : decode bTr_isWhole 2 = .ok (.getfield 39, 3) := by decide +kernel
theorem dTr_isWhole_5 : decode bTr_isWhole 5 = .ok (.invokevirtual 46, 3) := by decide +kernel
theorem dTr_isWhole_8 : decode bTr_isWhole 8 = .ok (.getfield 35, 3) := by decide +kernel
theorem dTr_isWhole_11 : decode bTr_isWhole 11 = .ok (.istore_n 1, 1) := by decide +kernel
theorem dTr_isWhole_12 : decode bTr_isWhole 12 = .ok (.iload_n 1, 1) := by decide +kernel
theorem dTr_isWhole_13 : decode bTr_isWhole 13 = .ok (.iconst 1, 1) := by decide +kernel
theorem dTr_isWhole_14 : decode bTr_isWhole 14 = .ok (.if_icmp .lt 28, 3) := by decide +kernel
theorem dTr_isWhole_17 : decode bTr_isWhole 17 = .ok (.iload_n 1, 1) := by decide +kernel
theorem dTr_isWhole_18 : decode bTr_isWhole 18 = .ok (.iconst 4, 1) := by decide +kernel
theorem dTr_isWhole_19 : decode bTr_isWhole 19 = .ok (.if_icmp .gt 23, 3) := by decide +kernel
theorem dTr_isWhole_22 : decode bTr_isWhole 22 = .ok (.aload_n 0, 1) := by decide +kernel
theorem dTr_isWhole_23 : decode bTr_isWhole 23 = .ok (.aload_n 0, 1) := by decide +kernel
theorem dTr_isWhole_24 : decode bTr_isWhole 24 = .ok (.getfield 39, 3) := by decide +kernel
theorem dTr_isWhole_27 : decode bTr_isWhole 27 = .ok (.iload_n 1, 1) := by decide +kernel
theorem dTr_isWhole_28 : decode bTr_isWhole 28 = .ok (.invokestatic 76, 3) := by decide +kernel
theorem dTr_isWhole_31 : decode bTr_isWhole 31 = .ok (.aload_n 0, 1) := by decide +kernel
theorem dTr_isWhole_32 : decode bTr_isWhole 32 = .ok (.getfield 54, 3) := by decide +kernel
theorem dTr_isWhole_35 : decode bTr_isWhole 35 = .ok (.if_icmp .ne 7, 3) := by decide +kernel
theorem dTr_isWhole_38 : decode bTr_isWhole 38 = .ok (.iconst 1, 1) := by decide +kernel
theorem dTr_isWhole_39 : decode bTr_isWhole 39 = .ok (.goto 4, 3) := by decide +kernel
theorem dTr_isWhole_42 : decode bTr_isWhole 42 = .ok (.iconst 0, 1) := by decide +kernel
theorem dTr_isWhole_43 : decode bTr_isWhole 43 = .ok (.ireturn, 1) := by decide +kernel
abbrev wTr_isWhole : List Cond := Cond.code yTr_isWhole bTr_isWhole 2 (some .boolean)   :: tbl
theorem kcTr_isWhole : Cond.code yTr_isWhole bTr_isWhole 2 (some .boolean) ∈ tbl := tb3 90 (by decide +kernel) (by decide +kernel)
theorem kiTr_isWhole : Cond.instanceMethod yTr_isWhole ∈ tbl := tb3 88 (by decide +kernel) (by decide +kernel)
theorem ksTr_isWhole : Cond.selects yTr_isWhole.cls yTr_isWhole yTr_isWhole ∈ tbl := tb3 89 (by decide +kernel) (by decide +kernel)
theorem dTr_changedPages_0 : decode bTr_changedPages 0 = .ok (.iconst 0, 1) := by decide +kernel
theorem dTr_changedPages_1 : decode bTr_changedPages 1 = .ok (.istore_n 1, 1) := by decide +kernel
theorem dTr_changedPages_2 : decode bTr_changedPages 2 = .ok (.iconst 0, 1) := by decide +kernel
theorem dTr_changedPages_3 : decode bTr_changedPages 3 = .ok (.istore_n 2, 1) := by decide +kernel
theorem dTr_changedPages_4 : decode bTr_changedPages 4 = .ok (.iload_n 2, 1) := by decide +kernel
theorem dTr_changedPages_5 : decode bTr_changedPages 5 = .ok (.bipush 40, 2) := by decide +kernel
theorem dTr_changedPages_7 : decode bTr_changedPages 7 = .ok (.if_icmp .ge 25, 3) := by decide +kernel
theorem dTr_changedPages_10 : decode bTr_changedPages 10 = .ok (.iload_n 1, 1) := by decide +kernel
theorem dTr_changedPages_11 : decode bTr_changedPages 11 = .ok (.aload_n 0, 1) := by decide +kernel
theorem dTr_changedPages_12 : decode bTr_changedPages 12 = .ok (.iload_n 2, 1) := by decide +kernel
theorem dTr_changedPages_13 : decode bTr_changedPages 13 = .ok (.invokevirtual 80, 3) := by decide +kernel
theorem dTr_changedPages_16 : decode bTr_changedPages 16 = .ok (.ifCond .eq 7, 3) := by decide +kernel
theorem dTr_changedPages_19 : decode bTr_changedPages 19 = .ok (.iconst 1, 1) := by decide +kernel
theorem dTr_changedPages_20 : decode bTr_changedPages 20 = .ok (.goto 4, 3) := by decide +kernel
theorem dTr_changedPages_23 : decode bTr_changedPages 23 = .ok (.iconst 0, 1) := by decide +kernel
theorem dTr_changedPages_24 : decode bTr_changedPages 24 = .ok (.iadd, 1) := by decide +kernel
theorem dTr_changedPages_25 : decode bTr_changedPages 25 = .ok (.istore_n 1, 1) := by decide +kernel
theorem dTr_changedPages_26 : decode bTr_changedPages 26 = .ok (.iinc 2 1, 3) := by decide +kernel
theorem dTr_changedPages_29 : decode bTr_changedPages 29 = .ok (.goto (-25), 3) := by decide +kernel
theorem dTr_changedPages_32 : decode bTr_changedPages 32 = .ok (.iload_n 1, 1) := by decide +kernel
theorem dTr_changedPages_33 : decode bTr_changedPages 33 = .ok (.ireturn, 1) := by decide +kernel
abbrev wTr_changedPages : List Cond := Cond.code yTr_changedPages bTr_changedPages 3 (some .int)   :: tbl
theorem kcTr_changedPages : Cond.code yTr_changedPages bTr_changedPages 3 (some .int) ∈ tbl := tb2 125 (by decide +kernel) (by decide +kernel)
theorem kiTr_changedPages : Cond.instanceMethod yTr_changedPages ∈ tbl := tb2 123 (by decide +kernel) (by decide +kernel)
theorem ksTr_changedPages : Cond.selects yTr_changedPages.cls yTr_changedPages yTr_changedPages ∈ tbl := tb2 124 (by decide +kernel) (by decide +kernel)
theorem dTr_isChanged_0 : decode bTr_isChanged 0 = .ok (.iload_n 1, 1) := by decide +kernel
theorem dTr_isChanged_1 : decode bTr_isChanged 1 = .ok (.ifCond .ne 10, 3) := by decide +kernel
theorem dTr_isChanged_4 : decode bTr_isChanged 4 = .ok (.aload_n 0, 1) := by decide +kernel
theorem dTr_isChanged_5 : decode bTr_isChanged 5 = .ok (.getfield 84, 3) := by decide +kernel
theorem dTr_isChanged_8 : decode bTr_isChanged 8 = .ok (.goto 11, 3) := by decide +kernel
theorem dTr_isChanged_11 : decode bTr_isChanged 11 = .ok (.aload_n 0, 1) := by decide +kernel
theorem dTr_isChanged_12 : decode bTr_isChanged 12 = .ok (.iload_n 1, 1) := by decide +kernel
theorem dTr_isChanged_13 : decode bTr_isChanged 13 = .ok (.invokevirtual 46, 3) := by decide +kernel
theorem dTr_isChanged_16 : decode bTr_isChanged 16 = .ok (.getfield 88, 3) := by decide +kernel
theorem dTr_isChanged_19 : decode bTr_isChanged 19 = .ok (.ireturn, 1) := by decide +kernel
abbrev wTr_isChanged : List Cond := Cond.code yTr_isChanged bTr_isChanged 2 (some .boolean)   :: tbl
theorem kcTr_isChanged : Cond.code yTr_isChanged bTr_isChanged 2 (some .boolean) ∈ tbl := tb2 129 (by decide +kernel) (by decide +kernel)
theorem kiTr_isChanged : Cond.instanceMethod yTr_isChanged ∈ tbl := tb2 127 (by decide +kernel) (by decide +kernel)
theorem ksTr_isChanged : Cond.selects yTr_isChanged.cls yTr_isChanged yTr_isChanged ∈ tbl := tb2 128 (by decide +kernel) (by decide +kernel)
theorem dTr_markUnchanged_0 : decode bTr_markUnchanged 0 = .ok (.aload_n 0, 1) := by decide +kernel
theorem dTr_markUnchanged_1 : decode bTr_markUnchanged 1 = .ok (.iconst 0, 1) := by decide +kernel
theorem dTr_markUnchanged_2 : decode bTr_markUnchanged 2 = .ok (.putfield 84, 3) := by decide +kernel
theorem dTr_markUnchanged_5 : decode bTr_markUnchanged 5 = .ok (.iconst 0, 1) := by decide +kernel
theorem dTr_markUnchanged_6 : decode bTr_markUnchanged 6 = .ok (.istore_n 1, 1) := by decide +kernel
theorem dTr_markUnchanged_7 : decode bTr_markUnchanged 7 = .ok (.iload_n 1, 1) := by decide +kernel
theorem dTr_markUnchanged_8 : decode bTr_markUnchanged 8 = .ok (.bipush 40, 2) := by decide +kernel
theorem dTr_markUnchanged_10 : decode bTr_markUnchanged 10 = .ok (.if_icmp .ge 19, 3) := by decide +kernel
theorem dTr_markUnchanged_13 : decode bTr_markUnchanged 13 = .ok (.aload_n 0, 1) := by decide +kernel
theorem dTr_markUnchanged_14 : decode bTr_markUnchanged 14 = .ok (.getfield 11, 3) := by decide +kernel
theorem dTr_markUnchanged_17 : decode bTr_markUnchanged 17 = .ok (.iload_n 1, 1) := by decide +kernel
theorem dTr_markUnchanged_18 : decode bTr_markUnchanged 18 = .ok (.aaload, 1) := by decide +kernel
theorem dTr_markUnchanged_19 : decode bTr_markUnchanged 19 = .ok (.iconst 0, 1) := by decide +kernel
theorem dTr_markUnchanged_20 : decode bTr_markUnchanged 20 = .ok (.putfield 88, 3) := by decide +kernel
theorem dTr_markUnchanged_23 : decode bTr_markUnchanged 23 = .ok (.iinc 1 1, 3) := by decide +kernel
theorem dTr_markUnchanged_26 : decode bTr_markUnchanged 26 = .ok (.goto (-19), 3) := by decide +kernel
theorem dTr_markUnchanged_29 : decode bTr_markUnchanged 29 = .ok (.return_, 1) := by decide +kernel
abbrev wTr_markUnchanged : List Cond := Cond.code yTr_markUnchanged bTr_markUnchanged 2 none   :: tbl
theorem kcTr_markUnchanged : Cond.code yTr_markUnchanged bTr_markUnchanged 2 none ∈ tbl := tb2 157 (by decide +kernel) (by decide +kernel)
theorem kiTr_markUnchanged : Cond.instanceMethod yTr_markUnchanged ∈ tbl := tb2 155 (by decide +kernel) (by decide +kernel)
theorem ksTr_markUnchanged : Cond.selects yTr_markUnchanged.cls yTr_markUnchanged yTr_markUnchanged ∈ tbl := tb2 156 (by decide +kernel) (by decide +kernel)
theorem dTr_writePage_0 : decode bTr_writePage 0 = .ok (.iload_n 1, 1) := by decide +kernel
theorem dTr_writePage_1 : decode bTr_writePage 1 = .ok (.ifCond .ne 20, 3) := by decide +kernel
theorem dTr_writePage_4 : decode bTr_writePage 4 = .ok (.aload_n 2, 1) := by decide +kernel
theorem dTr_writePage_5 : decode bTr_writePage 5 = .ok (.iconst 0, 1) := by decide +kernel
theorem dTr_writePage_6 : decode bTr_writePage 6 = .ok (.aload_n 0, 1) := by decide +kernel
theorem dTr_writePage_7 : decode bTr_writePage 7 = .ok (.getfield 39, 3) := by decide +kernel
theorem dTr_writePage_10 : decode bTr_writePage 10 = .ok (.iastore, 1) := by decide +kernel
theorem dTr_writePage_11 : decode bTr_writePage 11 = .ok (.aload_n 2, 1) := by decide +kernel
theorem dTr_writePage_12 : decode bTr_writePage 12 = .ok (.iconst 1, 1) := by decide +kernel
theorem dTr_writePage_13 : decode bTr_writePage 13 = .ok (.aload_n 0, 1) := by decide +kernel
theorem dTr_writePage_14 : decode bTr_writePage 14 = .ok (.getfield 54, 3) := by decide +kernel
theorem dTr_writePage_17 : decode bTr_writePage 17 = .ok (.iastore, 1) := by decide +kernel
theorem dTr_writePage_18 : decode bTr_writePage 18 = .ok (.goto 12, 3) := by decide +kernel
theorem dTr_writePage_21 : decode bTr_writePage 21 = .ok (.aload_n 0, 1) := by decide +kernel
theorem dTr_writePage_22 : decode bTr_writePage 22 = .ok (.iload_n 1, 1) := by decide +kernel
theorem dTr_writePage_23 : decode bTr_writePage 23 = .ok (.invokevirtual 46, 3) := by decide +kernel
theorem dTr_writePage_26 : decode bTr_writePage 26 = .ok (.aload_n 2, 1) := by decide +kernel
theorem dTr_writePage_27 : decode bTr_writePage 27 = .ok (.invokevirtual 91, 3) := by decide +kernel
theorem dTr_writePage_30 : decode bTr_writePage 30 = .ok (.return_, 1) := by decide +kernel
abbrev wTr_writePage : List Cond := Cond.code yTr_writePage bTr_writePage 3 none   :: tbl
theorem kcTr_writePage : Cond.code yTr_writePage bTr_writePage 3 none ∈ tbl := tb2 138 (by decide +kernel) (by decide +kernel)
theorem kiTr_writePage : Cond.instanceMethod yTr_writePage ∈ tbl := tb2 136 (by decide +kernel) (by decide +kernel)
theorem ksTr_writePage : Cond.selects yTr_writePage.cls yTr_writePage yTr_writePage ∈ tbl := tb2 137 (by decide +kernel) (by decide +kernel)
theorem dTr_readFrom_0 : decode bTr_readFrom 0 = .ok (.aload_n 0, 1) := by decide +kernel
theorem dTr_readFrom_1 : decode bTr_readFrom 1 = .ok (.aload_n 1, 1) := by decide +kernel
theorem dTr_readFrom_2 : decode bTr_readFrom 2 = .ok (.getfield 95, 3) := by decide +kernel
theorem dTr_readFrom_5 : decode bTr_readFrom 5 = .ok (.iconst 0, 1) := by decide +kernel
theorem dTr_readFrom_6 : decode bTr_readFrom 6 = .ok (.aaload, 1) := by decide +kernel
theorem dTr_readFrom_7 : decode bTr_readFrom 7 = .ok (.iconst 0, 1) := by decide +kernel
theorem dTr_readFrom_8 : decode bTr_readFrom 8 = .ok (.iaload, 1) := by decide +kernel
theorem dTr_readFrom_9 : decode bTr_readFrom 9 = .ok (.putfield 39, 3) := by decide +kernel
theorem dTr_readFrom_12 : decode bTr_readFrom 12 = .ok (.aload_n 0, 1) := by decide +kernel
theorem dTr_readFrom_13 : decode bTr_readFrom 13 = .ok (.aload_n 1, 1) := by decide +kernel
theorem dTr_readFrom_14 : decode bTr_readFrom 14 = .ok (.getfield 95, 3) := by decide +kernel
theorem dTr_readFrom_17 : decode bTr_readFrom 17 = .ok (.iconst 0, 1) := by decide +kernel
theorem dTr_readFrom_18 : decode bTr_readFrom 18 = .ok (.aaload, 1) := by decide +kernel
theorem dTr_readFrom_19 : decode bTr_readFrom 19 = .ok (.iconst 1, 1) := by decide +kernel
theorem dTr_readFrom_20 : decode bTr_readFrom 20 = .ok (.iaload, 1) := by decide +kernel
theorem dTr_readFrom_21 : decode bTr_readFrom 21 = .ok (.putfield 54, 3) := by decide +kernel
theorem dTr_readFrom_24 : decode bTr_readFrom 24 = .ok (.aload_n 0, 1) := by decide +kernel
theorem dTr_readFrom_25 : decode bTr_readFrom 25 = .ok (.iconst 0, 1) := by decide +kernel
theorem dTr_readFrom_26 : decode bTr_readFrom 26 = .ok (.putfield 84, 3) := by decide +kernel
theorem dTr_readFrom_29 : decode bTr_readFrom 29 = .ok (.iconst 1, 1) := by decide +kernel
theorem dTr_readFrom_30 : decode bTr_readFrom 30 = .ok (.istore_n 2, 1) := by decide +kernel
theorem dTr_readFrom_31 : decode bTr_readFrom 31 = .ok (.iload_n 2, 1) := by decide +kernel
theorem dTr_readFrom_32 : decode bTr_readFrom 32 = .ok (.bipush 40, 2) := by decide +kernel
theorem dTr_readFrom_34 : decode bTr_readFrom 34 = .ok (.if_icmp .ge 24, 3) := by decide +kernel
theorem dTr_readFrom_37 : decode bTr_readFrom 37 = .ok (.aload_n 0, 1) := by decide +kernel
theorem dTr_readFrom_38 : decode bTr_readFrom 38 = .ok (.getfield 11, 3) := by decide +kernel
theorem dTr_readFrom_41 : decode bTr_readFrom 41 = .ok (.iload_n 2, 1) := by decide +kernel
theorem dTr_readFrom_42 : decode bTr_readFrom 42 = .ok (.aaload, 1) := by decide +kernel
theorem dTr_readFrom_43 : decode bTr_readFrom 43 = .ok (.aload_n 1, 1) := by decide +kernel
theorem dTr_readFrom_44 : decode bTr_readFrom 44 = .ok (.getfield 95, 3) := by decide +kernel
theorem dTr_readFrom_47 : decode bTr_readFrom 47 = .ok (.iload_n 2, 1) := by decide +kernel
theorem dTr_readFrom_48 : decode bTr_readFrom 48 = .ok (.aaload, 1) := by decide +kernel
theorem dTr_readFrom_49 : decode bTr_readFrom 49 = .ok (.invokevirtual 101, 3) := by decide +kernel
theorem dTr_readFrom_52 : decode bTr_readFrom 52 = .ok (.iinc 2 1, 3) := by decide +kernel
theorem dTr_readFrom_55 : decode bTr_readFrom 55 = .ok (.goto (-24), 3) := by decide +kernel
theorem dTr_readFrom_58 : decode bTr_readFrom 58 = .ok (.return_, 1) := by decide +kernel
abbrev wTr_readFrom : List Cond := Cond.code yTr_readFrom bTr_readFrom 3 none   :: tbl
theorem kcTr_readFrom : Cond.code yTr_readFrom bTr_readFrom 3 none ∈ tbl := tb2 239 (by decide +kernel) (by decide +kernel)
theorem kiTr_readFrom : Cond.instanceMethod yTr_readFrom ∈ tbl := tb2 237 (by decide +kernel) (by decide +kernel)
theorem ksTr_readFrom : Cond.selects yTr_readFrom.cls yTr_readFrom yTr_readFrom ∈ tbl := tb2 238 (by decide +kernel) (by decide +kernel)
theorem dTr_forget_0 : decode bTr_forget 0 = .ok (.aload_n 0, 1) := by decide +kernel
theorem dTr_forget_1 : decode bTr_forget 1 = .ok (.iconst 0, 1) := by decide +kernel
theorem dTr_forget_2 : decode bTr_forget 2 = .ok (.putfield 39, 3) := by decide +kernel
theorem dTr_forget_5 : decode bTr_forget 5 = .ok (.aload_n 0, 1) := by decide +kernel
theorem dTr_forget_6 : decode bTr_forget 6 = .ok (.iconst 0, 1) := by decide +kernel
theorem dTr_forget_7 : decode bTr_forget 7 = .ok (.putfield 54, 3) := by decide +kernel
theorem dTr_forget_10 : decode bTr_forget 10 = .ok (.iconst 0, 1) := by decide +kernel
theorem dTr_forget_11 : decode bTr_forget 11 = .ok (.istore_n 1, 1) := by decide +kernel
theorem dTr_forget_12 : decode bTr_forget 12 = .ok (.iload_n 1, 1) := by decide +kernel
theorem dTr_forget_13 : decode bTr_forget 13 = .ok (.bipush 40, 2) := by decide +kernel
theorem dTr_forget_15 : decode bTr_forget 15 = .ok (.if_icmp .ge 19, 3) := by decide +kernel
theorem dTr_forget_18 : decode bTr_forget 18 = .ok (.aload_n 0, 1) := by decide +kernel
theorem dTr_forget_19 : decode bTr_forget 19 = .ok (.getfield 11, 3) := by decide +kernel
theorem dTr_forget_22 : decode bTr_forget 22 = .ok (.iload_n 1, 1) := by decide +kernel
theorem dTr_forget_23 : decode bTr_forget 23 = .ok (.aaload, 1) := by decide +kernel
theorem dTr_forget_24 : decode bTr_forget 24 = .ok (.iconst 0, 1) := by decide +kernel
theorem dTr_forget_25 : decode bTr_forget 25 = .ok (.invokevirtual 104, 3) := by decide +kernel
theorem dTr_forget_28 : decode bTr_forget 28 = .ok (.iinc 1 1, 3) := by decide +kernel
theorem dTr_forget_31 : decode bTr_forget 31 = .ok (.goto (-19), 3) := by decide +kernel
theorem dTr_forget_34 : decode bTr_forget 34 = .ok (.aload_n 0, 1) := by decide +kernel
theorem dTr_forget_35 : decode bTr_forget 35 = .ok (.invokevirtual 107, 3) := by decide +kernel
theorem dTr_forget_38 : decode bTr_forget 38 = .ok (.return_, 1) := by decide +kernel
abbrev wTr_forget : List Cond := Cond.code yTr_forget bTr_forget 2 none   :: tbl
theorem kcTr_forget : Cond.code yTr_forget bTr_forget 2 none ∈ tbl := tb2 165 (by decide +kernel) (by decide +kernel)
theorem kiTr_forget : Cond.instanceMethod yTr_forget ∈ tbl := tb2 163 (by decide +kernel) (by decide +kernel)
theorem ksTr_forget : Cond.selects yTr_forget.cls yTr_forget yTr_forget ∈ tbl := tb2 164 (by decide +kernel) (by decide +kernel)
theorem dTr_writeHeader_0 : decode bTr_writeHeader 0 = .ok (.aload_n 0, 1) := by decide +kernel
theorem dTr_writeHeader_1 : decode bTr_writeHeader 1 = .ok (.iload_n 1, 1) := by decide +kernel
theorem dTr_writeHeader_2 : decode bTr_writeHeader 2 = .ok (.putfield 39, 3) := by decide +kernel
theorem dTr_writeHeader_5 : decode bTr_writeHeader 5 = .ok (.aload_n 0, 1) := by decide +kernel
theorem dTr_writeHeader_6 : decode bTr_writeHeader 6 = .ok (.iload_n 2, 1) := by decide +kernel
theorem dTr_writeHeader_7 : decode bTr_writeHeader 7 = .ok (.putfield 54, 3) := by decide +kernel
theorem dTr_writeHeader_10 : decode bTr_writeHeader 10 = .ok (.aload_n 0, 1) := by decide +kernel
theorem dTr_writeHeader_11 : decode bTr_writeHeader 11 = .ok (.iconst 1, 1) := by decide +kernel
theorem dTr_writeHeader_12 : decode bTr_writeHeader 12 = .ok (.putfield 84, 3) := by decide +kernel
theorem dTr_writeHeader_15 : decode bTr_writeHeader 15 = .ok (.return_, 1) := by decide +kernel
abbrev wTr_writeHeader : List Cond := Cond.code yTr_writeHeader bTr_writeHeader 3 none   :: tbl
theorem kcTr_writeHeader : Cond.code yTr_writeHeader bTr_writeHeader 3 none ∈ tbl := tb2 38 (by decide +kernel) (by decide +kernel)
theorem kiTr_writeHeader : Cond.instanceMethod yTr_writeHeader ∈ tbl := tb2 37 (by decide +kernel) (by decide +kernel)
theorem ksTr_writeHeader : Cond.selects yTr_writeHeader.cls yTr_writeHeader yTr_writeHeader ∈ tbl := tb0 2 (by decide +kernel) (by decide +kernel)
theorem dTr_lowestDepth_0 : decode bTr_lowestDepth 0 = .ok (.iconst 0, 1) := by decide +kernel
theorem dTr_lowestDepth_1 : decode bTr_lowestDepth 1 = .ok (.aload_n 0, 1) := by decide +kernel
theorem dTr_lowestDepth_2 : decode bTr_lowestDepth 2 = .ok (.aload_n 0, 1) := by decide +kernel
theorem dTr_lowestDepth_3 : decode bTr_lowestDepth 3 = .ok (.getfield 39, 3) := by decide +kernel
theorem dTr_lowestDepth_6 : decode bTr_lowestDepth 6 = .ok (.invokevirtual 46, 3) := by decide +kernel
theorem dTr_lowestDepth_9 : decode bTr_lowestDepth 9 = .ok (.getfield 35, 3) := by decide +kernel
theorem dTr_lowestDepth_12 : decode bTr_lowestDepth 12 = .ok (.iconst 1, 1) := by decide +kernel
theorem dTr_lowestDepth_13 : decode bTr_lowestDepth 13 = .ok (.isub, 1) := by decide +kernel
theorem dTr_lowestDepth_14 : decode bTr_lowestDepth 14 = .ok (.iconst 3, 1) := by decide +kernel
theorem dTr_lowestDepth_15 : decode bTr_lowestDepth 15 = .ok (.invokestatic 110, 3) := by decide +kernel
theorem dTr_lowestDepth_18 : decode bTr_lowestDepth 18 = .ok (.invokestatic 116, 3) := by decide +kernel
theorem dTr_lowestDepth_21 : decode bTr_lowestDepth 21 = .ok (.ireturn, 1) := by decide +kernel
abbrev wTr_lowestDepth : List Cond := Cond.code yTr_lowestDepth bTr_lowestDepth 1 (some .int)   :: tbl
theorem kcTr_lowestDepth : Cond.code yTr_lowestDepth bTr_lowestDepth 1 (some .int) ∈ tbl := tb2 1 (by decide +kernel) (by decide +kernel)
theorem kiTr_lowestDepth : Cond.instanceMethod yTr_lowestDepth ∈ tbl := tb2 0 (by decide +kernel) (by decide +kernel)
theorem ksTr_lowestDepth : Cond.selects yTr_lowestDepth.cls yTr_lowestDepth yTr_lowestDepth ∈ tbl := tb0 1 (by decide +kernel) (by decide +kernel)
theorem dTr_descend_0 : decode bTr_descend 0 = .ok (.aload_n 0, 1) := by decide +kernel
theorem dTr_descend_1 : decode bTr_descend 1 = .ok (.invokevirtual 69, 3) := by decide +kernel
theorem dTr_descend_4 : decode bTr_descend 4 = .ok (.istore_n 2, 1) := by decide +kernel
theorem dTr_descend_5 : decode bTr_descend 5 = .ok (.aload_n 0, 1) := by decide +kernel
theorem dTr_descend_6 : decode bTr_descend 6 = .ok (.getfield 17, 3) := by decide +kernel
theorem dTr_descend_9 : decode bTr_descend 9 = .ok (.iconst 0, 1) := by decide +kernel
theorem dTr_descend_10 : decode bTr_descend 10 = .ok (.aload_n 0, 1) := by decide +kernel
theorem dTr_descend_11 : decode bTr_descend 11 = .ok (.getfield 39, 3) := by decide +kernel
theorem dTr_descend_14 : decode bTr_descend 14 = .ok (.iastore, 1) := by decide +kernel
theorem dTr_descend_15 : decode bTr_descend 15 = .ok (.iconst 0, 1) := by decide +kernel
theorem dTr_descend_16 : decode bTr_descend 16 = .ok (.istore_n 3, 1) := by decide +kernel
theorem dTr_descend_17 : decode bTr_descend 17 = .ok (.iload_n 3, 1) := by decide +kernel
theorem dTr_descend_18 : decode bTr_descend 18 = .ok (.iload_n 2, 1) := by decide +kernel
theorem dTr_descend_19 : decode bTr_descend 19 = .ok (.if_icmp .ge 56, 3) := by decide +kernel
theorem dTr_descend_22 : decode bTr_descend 22 = .ok (.aload_n 0, 1) := by decide +kernel
theorem dTr_descend_23 : decode bTr_descend 23 = .ok (.aload_n 0, 1) := by decide +kernel
theorem dTr_descend_24 : decode bTr_descend 24 = .ok (.getfield 17, 3) := by decide +kernel
theorem dTr_descend_27 : decode bTr_descend 27 = .ok (.iload_n 3, 1) := by decide +kernel
theorem dTr_descend_28 : decode bTr_descend 28 = .ok (.iaload, 1) := by decide +kernel
theorem dTr_descend_29 : decode bTr_descend 29 = .ok (.invokevirtual 46, 3) := by decide +kernel
theorem dTr_descend_32 : decode bTr_descend 32 = .ok (.astore 4, 2) := by decide +kernel
theorem dTr_descend_34 : decode bTr_descend 34 = .ok (.aload_n 0, 1) := by decide +kernel
theorem dTr_descend_35 : decode bTr_descend 35 = .ok (.getfield 21, 3) := by decide +kernel
theorem dTr_descend_38 : decode bTr_descend 38 = .ok (.iload_n 3, 1) := by decide +kernel
theorem dTr_descend_39 : decode bTr_descend 39 = .ok (.aload 4, 2) := by decide +kernel
theorem dTr_descend_41 : decode bTr_descend 41 = .ok (.aload_n 1, 1) := by decide +kernel
theorem dTr_descend_42 : decode bTr_descend 42 = .ok (.invokevirtual 119, 3) := by decide +kernel
theorem dTr_descend_45 : decode bTr_descend 45 = .ok (.iastore, 1) := by decide +kernel
theorem dTr_descend_46 : decode bTr_descend 46 = .ok (.aload_n 0, 1) := by decide +kernel
theorem dTr_descend_47 : decode bTr_descend 47 = .ok (.getfield 17, 3) := by decide +kernel
theorem dTr_descend_50 : decode bTr_descend 50 = .ok (.iload_n 3, 1) := by decide +kernel
theorem dTr_descend_51 : decode bTr_descend 51 = .ok (.iconst 1, 1) := by decide +kernel
theorem dTr_descend_52 : decode bTr_descend 52 = .ok (.iadd, 1) := by decide +kernel
theorem dTr_descend_53 : decode bTr_descend 53 = .ok (.aload 4, 2) := by decide +kernel
theorem dTr_descend_55 : decode bTr_descend 55 = .ok (.getfield 122, 3) := by decide +kernel
theorem dTr_descend_58 : decode bTr_descend 58 = .ok (.aload_n 0, 1) := by decide +kernel
theorem dTr_descend_59 : decode bTr_descend 59 = .ok (.getfield 21, 3) := by decide +kernel
theorem dTr_descend_62 : decode bTr_descend 62 = .ok (.iload_n 3, 1) := by decide +kernel
theorem dTr_descend_63 : decode bTr_descend 63 = .ok (.iaload, 1) := by decide +kernel
theorem dTr_descend_64 : decode bTr_descend 64 = .ok (.aaload, 1) := by decide +kernel
theorem dTr_descend_65 : decode bTr_descend 65 = .ok (.getfield 126, 3) := by decide +kernel
theorem dTr_descend_68 : decode bTr_descend 68 = .ok (.iastore, 1) := by decide +kernel
theorem dTr_descend_69 : decode bTr_descend 69 = .ok (.iinc 3 1, 3) := by decide +kernel
theorem dTr_descend_72 : decode bTr_descend 72 = .ok (.goto (-55), 3) := by decide +kernel
theorem dTr_descend_75 : decode bTr_descend 75 = .ok (.iload_n 2, 1) := by decide +kernel
theorem dTr_descend_76 : decode bTr_descend 76 = .ok (.ireturn, 1) := by decide +kernel
abbrev wTr_descend : List Cond := Cond.code yTr_descend bTr_descend 5 (some .int)   :: tbl
theorem kcTr_descend : Cond.code yTr_descend bTr_descend 5 (some .int) ∈ tbl := tb1 237 (by decide +kernel) (by decide +kernel)
theorem kiTr_descend : Cond.instanceMethod yTr_descend ∈ tbl := tb1 236 (by decide +kernel) (by decide +kernel)
theorem ksTr_descend : Cond.selects yTr_descend.cls yTr_descend yTr_descend ∈ tbl := tb0 0 (by decide +kernel) (by decide +kernel)
theorem dTr_seek_0 : decode bTr_seek 0 = .ok (.iload_n 3, 1) := by decide +kernel
theorem dTr_seek_1 : decode bTr_seek 1 = .ok (.iconst 4, 1) := by decide +kernel
theorem dTr_seek_2 : decode bTr_seek 2 = .ok (.if_icmp .lt 5, 3) := by decide +kernel
theorem dTr_seek_5 : decode bTr_seek 5 = .ok (.iconst 0, 1) := by decide +kernel
theorem dTr_seek_6 : decode bTr_seek 6 = .ok (.ireturn, 1) := by decide +kernel
theorem dTr_seek_7 : decode bTr_seek 7 = .ok (.aload_n 0, 1) := by decide +kernel
theorem dTr_seek_8 : decode bTr_seek 8 = .ok (.iload_n 2, 1) := by decide +kernel
theorem dTr_seek_9 : decode bTr_seek 9 = .ok (.invokevirtual 46, 3) := by decide +kernel
theorem dTr_seek_12 : decode bTr_seek 12 = .ok (.astore 4, 2) := by decide +kernel
theorem dTr_seek_14 : decode bTr_seek 14 = .ok (.aload_n 0, 1) := by decide +kernel
theorem dTr_seek_15 : decode bTr_seek 15 = .ok (.getfield 17, 3) := by decide +kernel
theorem dTr_seek_18 : decode bTr_seek 18 = .ok (.iload_n 3, 1) := by decide +kernel
theorem dTr_seek_19 : decode bTr_seek 19 = .ok (.iload_n 2, 1) := by decide +kernel
theorem dTr_seek_20 : decode bTr_seek 20 = .ok (.iastore, 1) := by decide +kernel
theorem dTr_seek_21 : decode bTr_seek 21 = .ok (.iconst 0, 1) := by decide +kernel
theorem dTr_seek_22 : decode bTr_seek 22 = .ok (.istore 5, 2) := by decide +kernel
theorem dTr_seek_24 : decode bTr_seek 24 = .ok (.iload 5, 2) := by decide +kernel
theorem dTr_seek_26 : decode bTr_seek 26 = .ok (.aload 4, 2) := by decide +kernel
theorem dTr_seek_28 : decode bTr_seek 28 = .ok (.getfield 129, 3) := by decide +kernel
theorem dTr_seek_31 : decode bTr_seek 31 = .ok (.if_icmp .ge 75, 3) := by decide +kernel
theorem dTr_seek_34 : decode bTr_seek 34 = .ok (.aload 4, 2) := by decide +kernel
theorem dTr_seek_36 : decode bTr_seek 36 = .ok (.getfield 122, 3) := by decide +kernel
theorem dTr_seek_39 : decode bTr_seek 39 = .ok (.iload 5, 2) := by decide +kernel
theorem dTr_seek_41 : decode bTr_seek 41 = .ok (.aaload, 1) := by decide +kernel
theorem dTr_seek_42 : decode bTr_seek 42 = .ok (.astore 6, 2) := by decide +kernel
theorem dTr_seek_44 : decode bTr_seek 44 = .ok (.aload_n 0, 1) := by decide +kernel
theorem dTr_seek_45 : decode bTr_seek 45 = .ok (.getfield 21, 3) := by decide +kernel
theorem dTr_seek_48 : decode bTr_seek 48 = .ok (.iload_n 3, 1) := by decide +kernel
theorem dTr_seek_49 : decode bTr_seek 49 = .ok (.iload 5, 2) := by decide +kernel
theorem dTr_seek_51 : decode bTr_seek 51 = .ok (.iastore, 1) := by decide +kernel
theorem dTr_seek_52 : decode bTr_seek 52 = .ok (.aload 4, 2) := by decide +kernel
theorem dTr_seek_54 : decode bTr_seek 54 = .ok (.getfield 35, 3) := by decide +kernel
theorem dTr_seek_57 : decode bTr_seek 57 = .ok (.iconst 1, 1) := by decide +kernel
theorem dTr_seek_58 : decode bTr_seek 58 = .ok (.if_icmp .ne 15, 3) := by decide +kernel
theorem dTr_seek_61 : decode bTr_seek 61 = .ok (.aload 6, 2) := by decide +kernel
theorem dTr_seek_63 : decode bTr_seek 63 = .ok (.aload_n 1, 1) := by decide +kernel
theorem dTr_seek_64 : decode bTr_seek 64 = .ok (.invokevirtual 132, 3) := by decide +kernel
theorem dTr_seek_67 : decode bTr_seek 67 = .ok (.ifCond .eq 33, 3) := by decide +kernel
theorem dTr_seek_70 : decode bTr_seek 70 = .ok (.goto 28, 3) := by decide +kernel
theorem dTr_seek_73 : decode bTr_seek 73 = .ok (.aload 6, 2) := by decide +kernel
theorem dTr_seek_75 : decode bTr_seek 75 = .ok (.aload_n 1, 1) := by decide +kernel
theorem dTr_seek_76 : decode bTr_seek 76 = .ok (.invokevirtual 136, 3) := by decide +kernel
theorem dTr_seek_79 : decode bTr_seek 79 = .ok (.ifCond .eq 21, 3) := by decide +kernel
theorem dTr_seek_82 : decode bTr_seek 82 = .ok (.aload_n 0, 1) := by decide +kernel
theorem dTr_seek_83 : decode bTr_seek 83 = .ok (.aload_n 1, 1) := by decide +kernel
theorem dTr_seek_84 : decode bTr_seek 84 = .ok (.aload 6, 2) := by decide +kernel
theorem dTr_seek_86 : decode bTr_seek 86 = .ok (.getfield 126, 3) := by decide +kernel
theorem dTr_seek_89 : decode bTr_seek 89 = .ok (.iload_n 3, 1) := by decide +kernel
theorem dTr_seek_90 : decode bTr_seek 90 = .ok (.iconst 1, 1) := by decide +kernel
theorem dTr_seek_91 : decode bTr_seek 91 = .ok (.iadd, 1) := by decide +kernel
theorem dTr_seek_92 : decode bTr_seek 92 = .ok (.invokestatic 65, 3) := by decide +kernel
theorem dTr_seek_95 : decode bTr_seek 95 = .ok (.ifCond .eq 5, 3) := by decide +kernel
theorem dTr_seek_98 : decode bTr_seek 98 = .ok (.iconst 1, 1) := by decide +kernel
theorem dTr_seek_99 : decode bTr_seek 99 = .ok (.ireturn, 1) := by decide +kernel
theorem dTr_seek_100 : decode bTr_seek 100 = .ok (.iinc 5 1, 3) := by decide +kernel
theorem dTr_seek_103 : decode bTr_seek 103 = .ok (.goto (-79), 3) := by decide +kernel
theorem dTr_seek_106 : decode bTr_seek 106 = .ok (.iconst 0, 1) := by decide +kernel
theorem dTr_seek_107 : decode bTr_seek 107 = .ok (.ireturn, 1) := by decide +kernel
abbrev wTr_seek : List Cond := Cond.code yTr_seek bTr_seek 7 (some .boolean)   :: tbl
theorem kcTr_seek : Cond.code yTr_seek bTr_seek 7 (some .boolean) ∈ tbl := tb2 177 (by decide +kernel) (by decide +kernel)
theorem ktTr_seek : Cond.static yTr_seek ∈ tbl := tb2 176 (by decide +kernel) (by decide +kernel)
theorem dTr_climb_0 : decode bTr_climb 0 = .ok (.iload_n 1, 1) := by decide +kernel
theorem dTr_climb_1 : decode bTr_climb 1 = .ok (.iconst 1, 1) := by decide +kernel
theorem dTr_climb_2 : decode bTr_climb 2 = .ok (.isub, 1) := by decide +kernel
theorem dTr_climb_3 : decode bTr_climb 3 = .ok (.istore_n 2, 1) := by decide +kernel
theorem dTr_climb_4 : decode bTr_climb 4 = .ok (.iload_n 2, 1) := by decide +kernel
theorem dTr_climb_5 : decode bTr_climb 5 = .ok (.ifCond .lt 29, 3) := by decide +kernel
theorem dTr_climb_8 : decode bTr_climb 8 = .ok (.aload_n 0, 1) := by decide +kernel
theorem dTr_climb_9 : decode bTr_climb 9 = .ok (.aload_n 0, 1) := by decide +kernel
theorem dTr_climb_10 : decode bTr_climb 10 = .ok (.aload_n 0, 1) := by decide +kernel
theorem dTr_climb_11 : decode bTr_climb 11 = .ok (.getfield 17, 3) := by decide +kernel
theorem dTr_climb_14 : decode bTr_climb 14 = .ok (.iload_n 2, 1) := by decide +kernel
theorem dTr_climb_15 : decode bTr_climb 15 = .ok (.iaload, 1) := by decide +kernel
theorem dTr_climb_16 : decode bTr_climb 16 = .ok (.invokevirtual 46, 3) := by decide +kernel
theorem dTr_climb_19 : decode bTr_climb 19 = .ok (.aload_n 0, 1) := by decide +kernel
theorem dTr_climb_20 : decode bTr_climb 20 = .ok (.getfield 21, 3) := by decide +kernel
theorem dTr_climb_23 : decode bTr_climb 23 = .ok (.iload_n 2, 1) := by decide +kernel
theorem dTr_climb_24 : decode bTr_climb 24 = .ok (.iaload, 1) := by decide +kernel
theorem dTr_climb_25 : decode bTr_climb 25 = .ok (.invokevirtual 139, 3) := by decide +kernel
theorem dTr_climb_28 : decode bTr_climb 28 = .ok (.iinc 2 (-1), 3) := by decide +kernel
theorem dTr_climb_31 : decode bTr_climb 31 = .ok (.goto (-27), 3) := by decide +kernel
theorem dTr_climb_34 : decode bTr_climb 34 = .ok (.aload_n 0, 1) := by decide +kernel
theorem dTr_climb_35 : decode bTr_climb 35 = .ok (.aload_n 0, 1) := by decide +kernel
theorem dTr_climb_36 : decode bTr_climb 36 = .ok (.getfield 39, 3) := by decide +kernel
theorem dTr_climb_39 : decode bTr_climb 39 = .ok (.invokevirtual 46, 3) := by decide +kernel
theorem dTr_climb_42 : decode bTr_climb 42 = .ok (.astore_n 2, 1) := by decide +kernel
theorem dTr_climb_43 : decode bTr_climb 43 = .ok (.aload_n 2, 1) := by decide +kernel
theorem dTr_climb_44 : decode bTr_climb 44 = .ok (.getfield 129, 3) := by decide +kernel
theorem dTr_climb_47 : decode bTr_climb 47 = .ok (.iconst 5, 1) := by decide +kernel
theorem dTr_climb_48 : decode bTr_climb 48 = .ok (.if_icmp .le 49, 3) := by decide +kernel
theorem dTr_climb_51 : decode bTr_climb 51 = .ok (.aload_n 0, 1) := by decide +kernel
theorem dTr_climb_52 : decode bTr_climb 52 = .ok (.aload_n 2, 1) := by decide +kernel
theorem dTr_climb_53 : decode bTr_climb 53 = .ok (.getfield 35, 3) := by decide +kernel
theorem dTr_climb_56 : decode bTr_climb 56 = .ok (.iconst 1, 1) := by decide +kernel
theorem dTr_climb_57 : decode bTr_climb 57 = .ok (.iadd, 1) := by decide +kernel
theorem dTr_climb_58 : decode bTr_climb 58 = .ok (.invokevirtual 143, 3) := by decide +kernel
theorem dTr_climb_61 : decode bTr_climb 61 = .ok (.istore_n 3, 1) := by decide +kernel
theorem dTr_climb_62 : decode bTr_climb 62 = .ok (.aload_n 0, 1) := by decide +kernel
theorem dTr_climb_63 : decode bTr_climb 63 = .ok (.aload_n 0, 1) := by decide +kernel
theorem dTr_climb_64 : decode bTr_climb 64 = .ok (.iload_n 3, 1) := by decide +kernel
theorem dTr_climb_65 : decode bTr_climb 65 = .ok (.invokevirtual 46, 3) := by decide +kernel
theorem dTr_climb_68 : decode bTr_climb 68 = .ok (.aload_n 0, 1) := by decide +kernel
theorem dTr_climb_69 : decode bTr_climb 69 = .ok (.getfield 39, 3) := by decide +kernel
theorem dTr_climb_72 : decode bTr_climb 72 = .ok (.invokevirtual 147, 3) := by decide +kernel
theorem dTr_climb_75 : decode bTr_climb 75 = .ok (.aload_n 0, 1) := by decide +kernel
theorem dTr_climb_76 : decode bTr_climb 76 = .ok (.aload_n 0, 1) := by decide +kernel
theorem dTr_climb_77 : decode bTr_climb 77 = .ok (.iload_n 3, 1) := by decide +kernel
theorem dTr_climb_78 : decode bTr_climb 78 = .ok (.invokevirtual 46, 3) := by decide +kernel
theorem dTr_climb_81 : decode bTr_climb 81 = .ok (.iconst 0, 1) := by decide +kernel
theorem dTr_climb_82 : decode bTr_climb 82 = .ok (.invokevirtual 139, 3) := by decide +kernel
theorem dTr_climb_85 : decode bTr_climb 85 = .ok (.aload_n 0, 1) := by decide +kernel
theorem dTr_climb_86 : decode bTr_climb 86 = .ok (.iload_n 3, 1) := by decide +kernel
theorem dTr_climb_87 : decode bTr_climb 87 = .ok (.aload_n 0, 1) := by decide +kernel
theorem dTr_climb_88 : decode bTr_climb 88 = .ok (.getfield 54, 3) := by decide +kernel
theorem dTr_climb_91 : decode bTr_climb 91 = .ok (.invokevirtual 57, 3) := by decide +kernel
theorem dTr_climb_94 : decode bTr_climb 94 = .ok (.goto 41, 3) := by decide +kernel
theorem dTr_climb_97 : decode bTr_climb 97 = .ok (.aload_n 2, 1) := by decide +kernel
theorem dTr_climb_98 : decode bTr_climb 98 = .ok (.getfield 35, 3) := by decide +kernel
theorem dTr_climb_101 : decode bTr_climb 101 = .ok (.iconst 1, 1) := by decide +kernel
theorem dTr_climb_102 : decode bTr_climb 102 = .ok (.if_icmp .le 33, 3) := by decide +kernel
theorem dTr_climb_105 : decode bTr_climb 105 = .ok (.aload_n 2, 1) := by decide +kernel
theorem dTr_climb_106 : decode bTr_climb 106 = .ok (.getfield 129, 3) := by decide +kernel
theorem dTr_climb_109 : decode bTr_climb 109 = .ok (.iconst 1, 1) := by decide +kernel
theorem dTr_climb_110 : decode bTr_climb 110 = .ok (.if_icmp .ne 25, 3) := by decide +kernel
theorem dTr_climb_113 : decode bTr_climb 113 = .ok (.aload_n 0, 1) := by decide +kernel
theorem dTr_climb_114 : decode bTr_climb 114 = .ok (.aload_n 2, 1) := by decide +kernel
theorem dTr_climb_115 : decode bTr_climb 115 = .ok (.getfield 122, 3) := by decide +kernel
theorem dTr_climb_118 : decode bTr_climb 118 = .ok (.iconst 0, 1) := by decide +kernel
theorem dTr_climb_119 : decode bTr_climb 119 = .ok (.aaload, 1) := by decide +kernel
theorem dTr_climb_120 : decode bTr_climb 120 = .ok (.getfield 126, 3) := by decide +kernel
theorem dTr_climb_123 : decode bTr_climb 123 = .ok (.aload_n 0, 1) := by decide +kernel
theorem dTr_climb_124 : decode bTr_climb 124 = .ok (.getfield 54, 3) := by decide +kernel
theorem dTr_climb_127 : decode bTr_climb 127 = .ok (.invokevirtual 57, 3) := by decide +kernel
theorem dTr_climb_130 : decode bTr_climb 130 = .ok (.aload_n 2, 1) := by decide +kernel
theorem dTr_climb_131 : decode bTr_climb 131 = .ok (.iconst 0, 1) := by decide +kernel
theorem dTr_climb_132 : decode bTr_climb 132 = .ok (.invokevirtual 104, 3) := by decide +kernel
theorem dTr_climb_135 : decode bTr_climb 135 = .ok (.return_, 1) := by decide +kernel
abbrev wTr_climb : List Cond := Cond.code yTr_climb bTr_climb 4 none   :: tbl
theorem kcTr_climb : Cond.code yTr_climb bTr_climb 4 none ∈ tbl := tb2 42 (by decide +kernel) (by decide +kernel)
theorem kiTr_climb : Cond.instanceMethod yTr_climb ∈ tbl := tb2 41 (by decide +kernel) (by decide +kernel)
theorem ksTr_climb : Cond.selects yTr_climb.cls yTr_climb yTr_climb ∈ tbl := tb0 3 (by decide +kernel) (by decide +kernel)
theorem dTr_mend_0 : decode bTr_mend 0 = .ok (.aload_n 0, 1) := by decide +kernel
theorem dTr_mend_1 : decode bTr_mend 1 = .ok (.aload_n 1, 1) := by decide +kernel
theorem dTr_mend_2 : decode bTr_mend 2 = .ok (.iload_n 2, 1) := by decide +kernel
theorem dTr_mend_3 : decode bTr_mend 3 = .ok (.invokevirtual 150, 3) := by decide +kernel
theorem dTr_mend_6 : decode bTr_mend 6 = .ok (.iload_n 2, 1) := by decide +kernel
theorem dTr_mend_7 : decode bTr_mend 7 = .ok (.istore_n 3, 1) := by decide +kernel
theorem dTr_mend_8 : decode bTr_mend 8 = .ok (.aload_n 0, 1) := by decide +kernel
theorem dTr_mend_9 : decode bTr_mend 9 = .ok (.aload_n 1, 1) := by decide +kernel
theorem dTr_mend_10 : decode bTr_mend 10 = .ok (.getfield 122, 3) := by decide +kernel
theorem dTr_mend_13 : decode bTr_mend 13 = .ok (.iload_n 2, 1) := by decide +kernel
theorem dTr_mend_14 : decode bTr_mend 14 = .ok (.aaload, 1) := by decide +kernel
theorem dTr_mend_15 : decode bTr_mend 15 = .ok (.getfield 126, 3) := by decide +kernel
theorem dTr_mend_18 : decode bTr_mend 18 = .ok (.invokevirtual 46, 3) := by decide +kernel
theorem dTr_mend_21 : decode bTr_mend 21 = .ok (.getfield 129, 3) := by decide +kernel
theorem dTr_mend_24 : decode bTr_mend 24 = .ok (.iconst 2, 1) := by decide +kernel
theorem dTr_mend_25 : decode bTr_mend 25 = .ok (.if_icmp .ge 29, 3) := by decide +kernel
theorem dTr_mend_28 : decode bTr_mend 28 = .ok (.aload_n 1, 1) := by decide +kernel
theorem dTr_mend_29 : decode bTr_mend 29 = .ok (.iload_n 2, 1) := by decide +kernel
theorem dTr_mend_30 : decode bTr_mend 30 = .ok (.invokevirtual 153, 3) := by decide +kernel
theorem dTr_mend_33 : decode bTr_mend 33 = .ok (.istore 4, 2) := by decide +kernel
theorem dTr_mend_35 : decode bTr_mend 35 = .ok (.iload_n 2, 1) := by decide +kernel
theorem dTr_mend_36 : decode bTr_mend 36 = .ok (.iload 4, 2) := by decide +kernel
theorem dTr_mend_38 : decode bTr_mend 38 = .ok (.invokestatic 110, 3) := by decide +kernel
theorem dTr_mend_41 : decode bTr_mend 41 = .ok (.istore_n 3, 1) := by decide +kernel
theorem dTr_mend_42 : decode bTr_mend 42 = .ok (.aload_n 0, 1) := by decide +kernel
theorem dTr_mend_43 : decode bTr_mend 43 = .ok (.aload_n 1, 1) := by decide +kernel
theorem dTr_mend_44 : decode bTr_mend 44 = .ok (.iload_n 3, 1) := by decide +kernel
theorem dTr_mend_45 : decode bTr_mend 45 = .ok (.iload_n 2, 1) := by decide +kernel
theorem dTr_mend_46 : decode bTr_mend 46 = .ok (.iload 4, 2) := by decide +kernel
theorem dTr_mend_48 : decode bTr_mend 48 = .ok (.invokestatic 116, 3) := by decide +kernel
theorem dTr_mend_51 : decode bTr_mend 51 = .ok (.invokevirtual 156, 3) := by decide +kernel
theorem dTr_mend_54 : decode bTr_mend 54 = .ok (.aload_n 0, 1) := by decide +kernel
theorem dTr_mend_55 : decode bTr_mend 55 = .ok (.aload_n 1, 1) := by decide +kernel
theorem dTr_mend_56 : decode bTr_mend 56 = .ok (.getfield 122, 3) := by decide +kernel
theorem dTr_mend_59 : decode bTr_mend 59 = .ok (.iload_n 3, 1) := by decide +kernel
theorem dTr_mend_60 : decode bTr_mend 60 = .ok (.aaload, 1) := by decide +kernel
theorem dTr_mend_61 : decode bTr_mend 61 = .ok (.getfield 126, 3) := by decide +kernel
theorem dTr_mend_64 : decode bTr_mend 64 = .ok (.invokevirtual 46, 3) := by decide +kernel
theorem dTr_mend_67 : decode bTr_mend 67 = .ok (.astore 4, 2) := by decide +kernel
theorem dTr_mend_69 : decode bTr_mend 69 = .ok (.aload 4, 2) := by decide +kernel
theorem dTr_mend_71 : decode bTr_mend 71 = .ok (.getfield 129, 3) := by decide +kernel
theorem dTr_mend_74 : decode bTr_mend 74 = .ok (.iconst 5, 1) := by decide +kernel
theorem dTr_mend_75 : decode bTr_mend 75 = .ok (.if_icmp .le 39, 3) := by decide +kernel
theorem dTr_mend_78 : decode bTr_mend 78 = .ok (.aload_n 0, 1) := by decide +kernel
theorem dTr_mend_79 : decode bTr_mend 79 = .ok (.aload 4, 2) := by decide +kernel
theorem dTr_mend_81 : decode bTr_mend 81 = .ok (.getfield 35, 3) := by decide +kernel
theorem dTr_mend_84 : decode bTr_mend 84 = .ok (.invokevirtual 143, 3) := by decide +kernel
theorem dTr_mend_87 : decode bTr_mend 87 = .ok (.istore 5, 2) := by decide +kernel
theorem dTr_mend_89 : decode bTr_mend 89 = .ok (.aload_n 0, 1) := by decide +kernel
theorem dTr_mend_90 : decode bTr_mend 90 = .ok (.aload 4, 2) := by decide +kernel
theorem dTr_mend_92 : decode bTr_mend 92 = .ok (.aload_n 0, 1) := by decide +kernel
theorem dTr_mend_93 : decode bTr_mend 93 = .ok (.aload 4, 2) := by decide +kernel
theorem dTr_mend_95 : decode bTr_mend 95 = .ok (.invokevirtual 160, 3) := by decide +kernel
theorem dTr_mend_98 : decode bTr_mend 98 = .ok (.aload_n 0, 1) := by decide +kernel
theorem dTr_mend_99 : decode bTr_mend 99 = .ok (.iload 5, 2) := by decide +kernel
theorem dTr_mend_101 : decode bTr_mend 101 = .ok (.invokevirtual 46, 3) := by decide +kernel
theorem dTr_mend_104 : decode bTr_mend 104 = .ok (.invokevirtual 164, 3) := by decide +kernel
theorem dTr_mend_107 : decode bTr_mend 107 = .ok (.aload_n 0, 1) := by decide +kernel
theorem dTr_mend_108 : decode bTr_mend 108 = .ok (.aload_n 1, 1) := by decide +kernel
theorem dTr_mend_109 : decode bTr_mend 109 = .ok (.iload 5, 2) := by decide +kernel
theorem dTr_mend_111 : decode bTr_mend 111 = .ok (.invokevirtual 147, 3) := by decide +kernel
theorem dTr_mend_114 : decode bTr_mend 114 = .ok (.aload_n 0, 1) := by decide +kernel
theorem dTr_mend_115 : decode bTr_mend 115 = .ok (.aload_n 1, 1) := by decide +kernel
theorem dTr_mend_116 : decode bTr_mend 116 = .ok (.iload_n 3, 1) := by decide +kernel
theorem dTr_mend_117 : decode bTr_mend 117 = .ok (.invokevirtual 150, 3) := by decide +kernel
theorem dTr_mend_120 : decode bTr_mend 120 = .ok (.return_, 1) := by decide +kernel
abbrev wTr_mend : List Cond := Cond.code yTr_mend bTr_mend 6 none   :: tbl
theorem kcTr_mend : Cond.code yTr_mend bTr_mend 6 none ∈ tbl := tb2 46 (by decide +kernel) (by decide +kernel)
theorem kiTr_mend : Cond.instanceMethod yTr_mend ∈ tbl := tb2 45 (by decide +kernel) (by decide +kernel)
theorem ksTr_mend : Cond.selects yTr_mend.cls yTr_mend yTr_mend ∈ tbl := tb0 4 (by decide +kernel) (by decide +kernel)
theorem dTr_tellFrame_0 : decode bTr_tellFrame 0 = .ok (.aload_n 1, 1) := by decide +kernel
theorem dTr_tellFrame_1 : decode bTr_tellFrame 1 = .ok (.getfield 122, 3) := by decide +kernel
theorem dTr_tellFrame_4 : decode bTr_tellFrame 4 = .ok (.iload_n 2, 1) := by decide +kernel
theorem dTr_tellFrame_5 : decode bTr_tellFrame 5 = .ok (.aaload, 1) := by decide +kernel
theorem dTr_tellFrame_6 : decode bTr_tellFrame 6 = .ok (.astore_n 3, 1) := by decide +kernel
theorem dTr_tellFrame_7 : decode bTr_tellFrame 7 = .ok (.aload_n 0, 1) := by decide +kernel
theorem dTr_tellFrame_8 : decode bTr_tellFrame 8 = .ok (.getfield 27, 3) := by decide +kernel
theorem dTr_tellFrame_11 : decode bTr_tellFrame 11 = .ok (.aload_n 3, 1) := by decide +kernel
theorem dTr_tellFrame_12 : decode bTr_tellFrame 12 = .ok (.getfield 126, 3) := by decide +kernel
theorem dTr_tellFrame_15 : decode bTr_tellFrame 15 = .ok (.putfield 126, 3) := by decide +kernel
theorem dTr_tellFrame_18 : decode bTr_tellFrame 18 = .ok (.aload_n 0, 1) := by decide +kernel
theorem dTr_tellFrame_19 : decode bTr_tellFrame 19 = .ok (.aload_n 3, 1) := by decide +kernel
theorem dTr_tellFrame_20 : decode bTr_tellFrame 20 = .ok (.getfield 126, 3) := by decide +kernel
theorem dTr_tellFrame_23 : decode bTr_tellFrame 23 = .ok (.invokevirtual 46, 3) := by decide +kernel
theorem dTr_tellFrame_26 : decode bTr_tellFrame 26 = .ok (.iconst (-1), 1) := by decide +kernel
theorem dTr_tellFrame_27 : decode bTr_tellFrame 27 = .ok (.aload_n 0, 1) := by decide +kernel
theorem dTr_tellFrame_28 : decode bTr_tellFrame 28 = .ok (.getfield 27, 3) := by decide +kernel
theorem dTr_tellFrame_31 : decode bTr_tellFrame 31 = .ok (.invokevirtual 168, 3) := by decide +kernel
theorem dTr_tellFrame_34 : decode bTr_tellFrame 34 = .ok (.aload_n 3, 1) := by decide +kernel
theorem dTr_tellFrame_35 : decode bTr_tellFrame 35 = .ok (.aload_n 0, 1) := by decide +kernel
theorem dTr_tellFrame_36 : decode bTr_tellFrame 36 = .ok (.getfield 27, 3) := by decide +kernel
theorem dTr_tellFrame_39 : decode bTr_tellFrame 39 = .ok (.invokevirtual 132, 3) := by decide +kernel
theorem dTr_tellFrame_42 : decode bTr_tellFrame 42 = .ok (.ifCond .ne 16, 3) := by decide +kernel
theorem dTr_tellFrame_45 : decode bTr_tellFrame 45 = .ok (.aload_n 3, 1) := by decide +kernel
theorem dTr_tellFrame_46 : decode bTr_tellFrame 46 = .ok (.aload_n 0, 1) := by decide +kernel
theorem dTr_tellFrame_47 : decode bTr_tellFrame 47 = .ok (.getfield 27, 3) := by decide +kernel
theorem dTr_tellFrame_50 : decode bTr_tellFrame 50 = .ok (.invokevirtual 171, 3) := by decide +kernel
theorem dTr_tellFrame_53 : decode bTr_tellFrame 53 = .ok (.aload_n 1, 1) := by decide +kernel
theorem dTr_tellFrame_54 : decode bTr_tellFrame 54 = .ok (.iconst 1, 1) := by decide +kernel
theorem dTr_tellFrame_55 : decode bTr_tellFrame 55 = .ok (.putfield 88, 3) := by decide +kernel
theorem dTr_tellFrame_58 : decode bTr_tellFrame 58 = .ok (.return_, 1) := by decide +kernel
abbrev wTr_tellFrame : List Cond := Cond.code yTr_tellFrame bTr_tellFrame 4 none   :: tbl
theorem kcTr_tellFrame : Cond.code yTr_tellFrame bTr_tellFrame 4 none ∈ tbl := tb2 50 (by decide +kernel) (by decide +kernel)
theorem kiTr_tellFrame : Cond.instanceMethod yTr_tellFrame ∈ tbl := tb2 49 (by decide +kernel) (by decide +kernel)
theorem ksTr_tellFrame : Cond.selects yTr_tellFrame.cls yTr_tellFrame yTr_tellFrame ∈ tbl := tb0 5 (by decide +kernel) (by decide +kernel)
theorem dTr_hang_0 : decode bTr_hang 0 = .ok (.aload_n 0, 1) := by decide +kernel
theorem dTr_hang_1 : decode bTr_hang 1 = .ok (.getfield 27, 3) := by decide +kernel
theorem dTr_hang_4 : decode bTr_hang 4 = .ok (.iload_n 2, 1) := by decide +kernel
theorem dTr_hang_5 : decode bTr_hang 5 = .ok (.putfield 126, 3) := by decide +kernel
theorem dTr_hang_8 : decode bTr_hang 8 = .ok (.aload_n 0, 1) := by decide +kernel
theorem dTr_hang_9 : decode bTr_hang 9 = .ok (.iload_n 2, 1) := by decide +kernel
theorem dTr_hang_10 : decode bTr_hang 10 = .ok (.invokevirtual 46, 3) := by decide +kernel
theorem dTr_hang_13 : decode bTr_hang 13 = .ok (.iconst (-1), 1) := by decide +kernel
theorem dTr_hang_14 : decode bTr_hang 14 = .ok (.aload_n 0, 1) := by decide +kernel
theorem dTr_hang_15 : decode bTr_hang 15 = .ok (.getfield 27, 3) := by decide +kernel
theorem dTr_hang_18 : decode bTr_hang 18 = .ok (.invokevirtual 168, 3) := by decide +kernel
theorem dTr_hang_21 : decode bTr_hang 21 = .ok (.aload_n 1, 1) := by decide +kernel
theorem dTr_hang_22 : decode bTr_hang 22 = .ok (.aload_n 0, 1) := by decide +kernel
theorem dTr_hang_23 : decode bTr_hang 23 = .ok (.getfield 27, 3) := by decide +kernel
theorem dTr_hang_26 : decode bTr_hang 26 = .ok (.invokevirtual 50, 3) := by decide +kernel
theorem dTr_hang_29 : decode bTr_hang 29 = .ok (.return_, 1) := by decide +kernel
abbrev wTr_hang : List Cond := Cond.code yTr_hang bTr_hang 3 none   :: tbl
theorem kcTr_hang : Cond.code yTr_hang bTr_hang 3 none ∈ tbl := tb2 113 (by decide +kernel) (by decide +kernel)
theorem kiTr_hang : Cond.instanceMethod yTr_hang ∈ tbl := tb2 112 (by decide +kernel) (by decide +kernel)
theorem ksTr_hang : Cond.selects yTr_hang.cls yTr_hang yTr_hang ∈ tbl := tb0 10 (by decide +kernel) (by decide +kernel)
theorem dTr_merge_0 : decode bTr_merge 0 = .ok (.iload_n 2, 1) := by decide +kernel
theorem dTr_merge_1 : decode bTr_merge 1 = .ok (.iload_n 3, 1) := by decide +kernel
theorem dTr_merge_2 : decode bTr_merge 2 = .ok (.if_icmp .ne 4, 3) := by decide +kernel
theorem dTr_merge_5 : decode bTr_merge 5 = .ok (.return_, 1) := by decide +kernel
theorem dTr_merge_6 : decode bTr_merge 6 = .ok (.aload_n 0, 1) := by decide +kernel
theorem dTr_merge_7 : decode bTr_merge 7 = .ok (.aload_n 1, 1) := by decide +kernel
theorem dTr_merge_8 : decode bTr_merge 8 = .ok (.getfield 122, 3) := by decide +kernel
theorem dTr_merge_11 : decode bTr_merge 11 = .ok (.iload_n 2, 1) := by decide +kernel
theorem dTr_merge_12 : decode bTr_merge 12 = .ok (.aaload, 1) := by decide +kernel
theorem dTr_merge_13 : decode bTr_merge 13 = .ok (.getfield 126, 3) := by decide +kernel
theorem dTr_merge_16 : decode bTr_merge 16 = .ok (.invokevirtual 46, 3) := by decide +kernel
theorem dTr_merge_19 : decode bTr_merge 19 = .ok (.astore 4, 2) := by decide +kernel
theorem dTr_merge_21 : decode bTr_merge 21 = .ok (.aload_n 0, 1) := by decide +kernel
theorem dTr_merge_22 : decode bTr_merge 22 = .ok (.aload_n 1, 1) := by decide +kernel
theorem dTr_merge_23 : decode bTr_merge 23 = .ok (.getfield 122, 3) := by decide +kernel
theorem dTr_merge_26 : decode bTr_merge 26 = .ok (.iload_n 3, 1) := by decide +kernel
theorem dTr_merge_27 : decode bTr_merge 27 = .ok (.aaload, 1) := by decide +kernel
theorem dTr_merge_28 : decode bTr_merge 28 = .ok (.getfield 126, 3) := by decide +kernel
theorem dTr_merge_31 : decode bTr_merge 31 = .ok (.invokevirtual 46, 3) := by decide +kernel
theorem dTr_merge_34 : decode bTr_merge 34 = .ok (.astore 5, 2) := by decide +kernel
theorem dTr_merge_36 : decode bTr_merge 36 = .ok (.iconst 0, 1) := by decide +kernel
theorem dTr_merge_37 : decode bTr_merge 37 = .ok (.istore 6, 2) := by decide +kernel
theorem dTr_merge_39 : decode bTr_merge 39 = .ok (.iload 6, 2) := by decide +kernel
theorem dTr_merge_41 : decode bTr_merge 41 = .ok (.aload 5, 2) := by decide +kernel
theorem dTr_merge_43 : decode bTr_merge 43 = .ok (.getfield 129, 3) := by decide +kernel
theorem dTr_merge_46 : decode bTr_merge 46 = .ok (.if_icmp .ge 22, 3) := by decide +kernel
theorem dTr_merge_49 : decode bTr_merge 49 = .ok (.aload 4, 2) := by decide +kernel
theorem dTr_merge_51 : decode bTr_merge 51 = .ok (.aload 5, 2) := by decide +kernel
theorem dTr_merge_53 : decode bTr_merge 53 = .ok (.getfield 122, 3) := by decide +kernel
theorem dTr_merge_56 : decode bTr_merge 56 = .ok (.iload 6, 2) := by decide +kernel
theorem dTr_merge_58 : decode bTr_merge 58 = .ok (.aaload, 1) := by decide +kernel
theorem dTr_merge_59 : decode bTr_merge 59 = .ok (.invokevirtual 50, 3) := by decide +kernel
theorem dTr_merge_62 : decode bTr_merge 62 = .ok (.iinc 6 1, 3) := by decide +kernel
theorem dTr_merge_65 : decode bTr_merge 65 = .ok (.goto (-26), 3) := by decide +kernel
theorem dTr_merge_68 : decode bTr_merge 68 = .ok (.aload 5, 2) := by decide +kernel
theorem dTr_merge_70 : decode bTr_merge 70 = .ok (.iconst 0, 1) := by decide +kernel
theorem dTr_merge_71 : decode bTr_merge 71 = .ok (.invokevirtual 104, 3) := by decide +kernel
theorem dTr_merge_74 : decode bTr_merge 74 = .ok (.aload_n 1, 1) := by decide +kernel
theorem dTr_merge_75 : decode bTr_merge 75 = .ok (.iload_n 3, 1) := by decide +kernel
theorem dTr_merge_76 : decode bTr_merge 76 = .ok (.invokevirtual 73, 3) := by decide +kernel
theorem dTr_merge_79 : decode bTr_merge 79 = .ok (.return_, 1) := by decide +kernel
abbrev wTr_merge : List Cond := Cond.code yTr_merge bTr_merge 7 none   :: tbl
theorem kcTr_merge : Cond.code yTr_merge bTr_merge 7 none ∈ tbl := tb2 77 (by decide +kernel) (by decide +kernel)
theorem kiTr_merge : Cond.instanceMethod yTr_merge ∈ tbl := tb2 76 (by decide +kernel) (by decide +kernel)
theorem ksTr_merge : Cond.selects yTr_merge.cls yTr_merge yTr_merge ∈ tbl := tb0 6 (by decide +kernel) (by decide +kernel)
theorem dTr_moveOut_0 : decode bTr_moveOut 0 = .ok (.aload_n 1, 1) := by decide +kernel
theorem dTr_moveOut_1 : decode bTr_moveOut 1 = .ok (.getfield 129, 3) := by decide +kernel
theorem dTr_moveOut_4 : decode bTr_moveOut 4 = .ok (.iconst 1, 1) := by decide +kernel
theorem dTr_moveOut_5 : decode bTr_moveOut 5 = .ok (.isub, 1) := by decide +kernel
theorem dTr_moveOut_6 : decode bTr_moveOut 6 = .ok (.istore 4, 2) := by decide +kernel
theorem dTr_moveOut_8 : decode bTr_moveOut 8 = .ok (.iload 4, 2) := by decide +kernel
theorem dTr_moveOut_10 : decode bTr_moveOut 10 = .ok (.ifCond .lt 36, 3) := by decide +kernel
theorem dTr_moveOut_13 : decode bTr_moveOut 13 = .ok (.iload_n 2, 1) := by decide +kernel
theorem dTr_moveOut_14 : decode bTr_moveOut 14 = .ok (.iload 4, 2) := by decide +kernel
theorem dTr_moveOut_16 : decode bTr_moveOut 16 = .ok (.ishr, 1) := by decide +kernel
theorem dTr_moveOut_17 : decode bTr_moveOut 17 = .ok (.iconst 1, 1) := by decide +kernel
theorem dTr_moveOut_18 : decode bTr_moveOut 18 = .ok (.iand, 1) := by decide +kernel
theorem dTr_moveOut_19 : decode bTr_moveOut 19 = .ok (.iconst 1, 1) := by decide +kernel
theorem dTr_moveOut_20 : decode bTr_moveOut 20 = .ok (.if_icmp .ne 20, 3) := by decide +kernel
theorem dTr_moveOut_23 : decode bTr_moveOut 23 = .ok (.aload_n 3, 1) := by decide +kernel
theorem dTr_moveOut_24 : decode bTr_moveOut 24 = .ok (.aload_n 1, 1) := by decide +kernel
theorem dTr_moveOut_25 : decode bTr_moveOut 25 = .ok (.getfield 122, 3) := by decide +kernel
theorem dTr_moveOut_28 : decode bTr_moveOut 28 = .ok (.iload 4, 2) := by decide +kernel
theorem dTr_moveOut_30 : decode bTr_moveOut 30 = .ok (.aaload, 1) := by decide +kernel
theorem dTr_moveOut_31 : decode bTr_moveOut 31 = .ok (.invokevirtual 50, 3) := by decide +kernel
theorem dTr_moveOut_34 : decode bTr_moveOut 34 = .ok (.aload_n 1, 1) := by decide +kernel
theorem dTr_moveOut_35 : decode bTr_moveOut 35 = .ok (.iload 4, 2) := by decide +kernel
theorem dTr_moveOut_37 : decode bTr_moveOut 37 = .ok (.invokevirtual 73, 3) := by decide +kernel
theorem dTr_moveOut_40 : decode bTr_moveOut 40 = .ok (.iinc 4 (-1), 3) := by decide +kernel
theorem dTr_moveOut_43 : decode bTr_moveOut 43 = .ok (.goto (-35), 3) := by decide +kernel
theorem dTr_moveOut_46 : decode bTr_moveOut 46 = .ok (.return_, 1) := by decide +kernel
abbrev wTr_moveOut : List Cond := Cond.code yTr_moveOut bTr_moveOut 5 none   :: tbl
theorem kcTr_moveOut : Cond.code yTr_moveOut bTr_moveOut 5 none ∈ tbl := tb2 109 (by decide +kernel) (by decide +kernel)
theorem kiTr_moveOut : Cond.instanceMethod yTr_moveOut ∈ tbl := tb2 108 (by decide +kernel) (by decide +kernel)
theorem ksTr_moveOut : Cond.selects yTr_moveOut.cls yTr_moveOut yTr_moveOut ∈ tbl := tb0 9 (by decide +kernel) (by decide +kernel)
theorem dTr_bestDivision_0 : decode bTr_bestDivision 0 = .ok (.iconst 3, 1) := by decide +kernel
theorem dTr_bestDivision_1 : decode bTr_bestDivision 1 = .ok (.istore_n 2, 1) := by decide +kernel
theorem dTr_bestDivision_2 : decode bTr_bestDivision 2 = .ok (.ldc2_w 174, 3) := by decide +kernel
theorem dTr_bestDivision_5 : decode bTr_bestDivision 5 = .ok (.lstore_n 3, 1) := by decide +kernel
theorem dTr_bestDivision_6 : decode bTr_bestDivision 6 = .ok (.ldc2_w 174, 3) := by decide +kernel
theorem dTr_bestDivision_9 : decode bTr_bestDivision 9 = .ok (.lstore 5, 2) := by decide +kernel
theorem dTr_bestDivision_11 : decode bTr_bestDivision 11 = .ok (.iconst 1, 1) := by decide +kernel
theorem dTr_bestDivision_12 : decode bTr_bestDivision 12 = .ok (.istore 7, 2) := by decide +kernel
theorem dTr_bestDivision_14 : decode bTr_bestDivision 14 = .ok (.iload 7, 2) := by decide +kernel
theorem dTr_bestDivision_16 : decode bTr_bestDivision 16 = .ok (.bipush 32, 2) := by decide +kernel
theorem dTr_bestDivision_18 : decode bTr_bestDivision 18 = .ok (.if_icmp .ge 124, 3) := by decide +kernel
theorem dTr_bestDivision_21 : decode bTr_bestDivision 21 = .ok (.iload 7, 2) := by decide +kernel
theorem dTr_bestDivision_23 : decode bTr_bestDivision 23 = .ok (.invokestatic 176, 3) := by decide +kernel
theorem dTr_bestDivision_26 : decode bTr_bestDivision 26 = .ok (.istore 8, 2) := by decide +kernel
theorem dTr_bestDivision_28 : decode bTr_bestDivision 28 = .ok (.iload 8, 2) := by decide +kernel
theorem dTr_bestDivision_30 : decode bTr_bestDivision 30 = .ok (.iconst 2, 1) := by decide +kernel
theorem dTr_bestDivision_31 : decode bTr_bestDivision 31 = .ok (.if_icmp .lt 105, 3) := by decide +kernel
theorem dTr_bestDivision_34 : decode bTr_bestDivision 34 = .ok (.aload_n 1, 1) := by decide +kernel
theorem dTr_bestDivision_35 : decode bTr_bestDivision 35 = .ok (.getfield 129, 3) := by decide +kernel
theorem dTr_bestDivision_38 : decode bTr_bestDivision 38 = .ok (.iload 8, 2) := by decide +kernel
theorem dTr_bestDivision_40 : decode bTr_bestDivision 40 = .ok (.isub, 1) := by decide +kernel
theorem dTr_bestDivision_41 : decode bTr_bestDivision 41 = .ok (.iconst 2, 1) := by decide +kernel
theorem dTr_bestDivision_42 : decode bTr_bestDivision 42 = .ok (.if_icmp .ge 6, 3) := by decide +kernel
theorem dTr_bestDivision_45 : decode bTr_bestDivision 45 = .ok (.goto 91, 3) := by decide +kernel
theorem dTr_bestDivision_48 : decode bTr_bestDivision 48 = .ok (.aload_n 1, 1) := by decide +kernel
theorem dTr_bestDivision_49 : decode bTr_bestDivision 49 = .ok (.iload 7, 2) := by decide +kernel
theorem dTr_bestDivision_51 : decode bTr_bestDivision 51 = .ok (.aload_n 0, 1) := by decide +kernel
theorem dTr_bestDivision_52 : decode bTr_bestDivision 52 = .ok (.getfield 27, 3) := by decide +kernel
theorem dTr_bestDivision_55 : decode bTr_bestDivision 55 = .ok (.invokevirtual 168, 3) := by decide +kernel
theorem dTr_bestDivision_58 : decode bTr_bestDivision 58 = .ok (.aload_n 1, 1) := by decide +kernel
theorem dTr_bestDivision_59 : decode bTr_bestDivision 59 = .ok (.iload 7, 2) := by decide +kernel
theorem dTr_bestDivision_61 : decode bTr_bestDivision 61 = .ok (.iconst (-1), 1) := by decide +kernel
theorem dTr_bestDivision_62 : decode bTr_bestDivision 62 = .ok (.ixor, 1) := by decide +kernel
theorem dTr_bestDivision_63 : decode bTr_bestDivision 63 = .ok (.aload_n 0, 1) := by decide +kernel
theorem dTr_bestDivision_64 : decode bTr_bestDivision 64 = .ok (.getfield 31, 3) := by decide +kernel
theorem dTr_bestDivision_67 : decode bTr_bestDivision 67 = .ok (.invokevirtual 168, 3) := by decide +kernel
theorem dTr_bestDivision_70 : decode bTr_bestDivision 70 = .ok (.aload_n 0, 1) := by decide +kernel
theorem dTr_bestDivision_71 : decode bTr_bestDivision 71 = .ok (.getfield 27, 3) := by decide +kernel
theorem dTr_bestDivision_74 : decode bTr_bestDivision 74 = .ok (.invokevirtual 181, 3) := by decide +kernel
theorem dTr_bestDivision_77 : decode bTr_bestDivision 77 = .ok (.aload_n 0, 1) := by decide +kernel
theorem dTr_bestDivision_78 : decode bTr_bestDivision 78 = .ok (.getfield 31, 3) := by decide +kernel
theorem dTr_bestDivision_81 : decode bTr_bestDivision 81 = .ok (.invokevirtual 181, 3) := by decide +kernel
theorem dTr_bestDivision_84 : decode bTr_bestDivision 84 = .ok (.ladd, 1) := by decide +kernel
theorem dTr_bestDivision_85 : decode bTr_bestDivision 85 = .ok (.lstore 9, 2) := by decide +kernel
theorem dTr_bestDivision_87 : decode bTr_bestDivision 87 = .ok (.aload_n 0, 1) := by decide +kernel
theorem dTr_bestDivision_88 : decode bTr_bestDivision 88 = .ok (.getfield 27, 3) := by decide +kernel
theorem dTr_bestDivision_91 : decode bTr_bestDivision 91 = .ok (.invokevirtual 185, 3) := by decide +kernel
theorem dTr_bestDivision_94 : decode bTr_bestDivision 94 = .ok (.aload_n 0, 1) := by decide +kernel
theorem dTr_bestDivision_95 : decode bTr_bestDivision 95 = .ok (.getfield 31, 3) := by decide +kernel
theorem dTr_bestDivision_98 : decode bTr_bestDivision 98 = .ok (.invokevirtual 185, 3) := by decide +kernel
theorem dTr_bestDivision_101 : decode bTr_bestDivision 101 = .ok (.ladd, 1) := by decide +kernel
theorem dTr_bestDivision_102 : decode bTr_bestDivision 102 = .ok (.lstore 11, 2) := by decide +kernel
theorem dTr_bestDivision_104 : decode bTr_bestDivision 104 = .ok (.lload 9, 2) := by decide +kernel
theorem dTr_bestDivision_106 : decode bTr_bestDivision 106 = .ok (.lload_n 3, 1) := by decide +kernel
theorem dTr_bestDivision_107 : decode bTr_bestDivision 107 = .ok (.lcmp, 1) := by decide +kernel
theorem dTr_bestDivision_108 : decode bTr_bestDivision 108 = .ok (.ifCond .lt 18, 3) := by decide +kernel
theorem dTr_bestDivision_111 : decode bTr_bestDivision 111 = .ok (.lload 9, 2) := by decide +kernel
theorem dTr_bestDivision_113 : decode bTr_bestDivision 113 = .ok (.lload_n 3, 1) := by decide +kernel
theorem dTr_bestDivision_114 : decode bTr_bestDivision 114 = .ok (.lcmp, 1) := by decide +kernel
theorem dTr_bestDivision_115 : decode bTr_bestDivision 115 = .ok (.ifCond .ne 21, 3) := by decide +kernel
theorem dTr_bestDivision_118 : decode bTr_bestDivision 118 = .ok (.lload 11, 2) := by decide +kernel
theorem dTr_bestDivision_120 : decode bTr_bestDivision 120 = .ok (.lload 5, 2) := by decide +kernel
theorem dTr_bestDivision_122 : decode bTr_bestDivision 122 = .ok (.lcmp, 1) := by decide +kernel
theorem dTr_bestDivision_123 : decode bTr_bestDivision 123 = .ok (.ifCond .ge 13, 3) := by decide +kernel
theorem dTr_bestDivision_126 : decode bTr_bestDivision 126 = .ok (.iload 7, 2) := by decide +kernel
theorem dTr_bestDivision_128 : decode bTr_bestDivision 128 = .ok (.istore_n 2, 1) := by decide +kernel
theorem dTr_bestDivision_129 : decode bTr_bestDivision 129 = .ok (.lload 9, 2) := by decide +kernel
theorem dTr_bestDivision_131 : decode bTr_bestDivision 131 = .ok (.lstore_n 3, 1) := by decide +kernel
theorem dTr_bestDivision_132 : decode bTr_bestDivision 132 = .ok (.lload 11, 2) := by decide +kernel
theorem dTr_bestDivision_134 : decode bTr_bestDivision 134 = .ok (.lstore 5, 2) := by decide +kernel
theorem dTr_bestDivision_136 : decode bTr_bestDivision 136 = .ok (.iinc 7 1, 3) := by decide +kernel
theorem dTr_bestDivision_139 : decode bTr_bestDivision 139 = .ok (.goto (-125), 3) := by decide +kernel
theorem dTr_bestDivision_142 : decode bTr_bestDivision 142 = .ok (.iload_n 2, 1) := by decide +kernel
theorem dTr_bestDivision_143 : decode bTr_bestDivision 143 = .ok (.ireturn, 1) := by decide +kernel
abbrev wTr_bestDivision : List Cond := Cond.code yTr_bestDivision bTr_bestDivision 13 (some .int)   :: tbl
theorem kcTr_bestDivision : Cond.code yTr_bestDivision bTr_bestDivision 13 (some .int) ∈ tbl := tb2 93 (by decide +kernel) (by decide +kernel)
theorem kiTr_bestDivision : Cond.instanceMethod yTr_bestDivision ∈ tbl := tb2 92 (by decide +kernel) (by decide +kernel)
theorem ksTr_bestDivision : Cond.selects yTr_bestDivision.cls yTr_bestDivision yTr_bestDivision ∈ tbl := tb0 8 (by decide +kernel) (by decide +kernel)
theorem dTr_openPage_0 : decode bTr_openPage 0 = .ok (.iconst 1, 1) := by decide +kernel
theorem dTr_openPage_1 : decode bTr_openPage 1 = .ok (.istore_n 2, 1) := by decide +kernel
theorem dTr_openPage_2 : decode bTr_openPage 2 = .ok (.iload_n 2, 1) := by decide +kernel
theorem dTr_openPage_3 : decode bTr_openPage 3 = .ok (.bipush 40, 2) := by decide +kernel
theorem dTr_openPage_5 : decode bTr_openPage 5 = .ok (.if_icmp .ge 33, 3) := by decide +kernel
theorem dTr_openPage_8 : decode bTr_openPage 8 = .ok (.aload_n 0, 1) := by decide +kernel
theorem dTr_openPage_9 : decode bTr_openPage 9 = .ok (.getfield 11, 3) := by decide +kernel
theorem dTr_openPage_12 : decode bTr_openPage 12 = .ok (.iload_n 2, 1) := by decide +kernel
theorem dTr_openPage_13 : decode bTr_openPage 13 = .ok (.aaload, 1) := by decide +kernel
theorem dTr_openPage_14 : decode bTr_openPage 14 = .ok (.getfield 35, 3) := by decide +kernel
theorem dTr_openPage_17 : decode bTr_openPage 17 = .ok (.ifCond .ne 15, 3) := by decide +kernel
theorem dTr_openPage_20 : decode bTr_openPage 20 = .ok (.aload_n 0, 1) := by decide +kernel
theorem dTr_openPage_21 : decode bTr_openPage 21 = .ok (.getfield 11, 3) := by decide +kernel
theorem dTr_openPage_24 : decode bTr_openPage 24 = .ok (.iload_n 2, 1) := by decide +kernel
theorem dTr_openPage_25 : decode bTr_openPage 25 = .ok (.aaload, 1) := by decide +kernel
theorem dTr_openPage_26 : decode bTr_openPage 26 = .ok (.iload_n 1, 1) := by decide +kernel
theorem dTr_openPage_27 : decode bTr_openPage 27 = .ok (.invokevirtual 104, 3) := by decide +kernel
theorem dTr_openPage_30 : decode bTr_openPage 30 = .ok (.iload_n 2, 1) := by decide +kernel
theorem dTr_openPage_31 : decode bTr_openPage 31 = .ok (.ireturn, 1) := by decide +kernel
theorem dTr_openPage_32 : decode bTr_openPage 32 = .ok (.iinc 2 1, 3) := by decide +kernel
theorem dTr_openPage_35 : decode bTr_openPage 35 = .ok (.goto (-33), 3) := by decide +kernel
theorem dTr_openPage_38 : decode bTr_openPage 38 = .ok (.iconst 0, 1) := by decide +kernel
theorem dTr_openPage_39 : decode bTr_openPage 39 = .ok (.ireturn, 1) := by decide +kernel
abbrev wTr_openPage : List Cond := Cond.code yTr_openPage bTr_openPage 3 (some .int)   :: tbl
theorem kcTr_openPage : Cond.code yTr_openPage bTr_openPage 3 (some .int) ∈ tbl := tb2 89 (by decide +kernel) (by decide +kernel)
theorem kiTr_openPage : Cond.instanceMethod yTr_openPage ∈ tbl := tb2 88 (by decide +kernel) (by decide +kernel)
theorem ksTr_openPage : Cond.selects yTr_openPage.cls yTr_openPage yTr_openPage ∈ tbl := tb0 7 (by decide +kernel) (by decide +kernel)
theorem dTr_entriesBelow_0 : decode bTr_entriesBelow 0 = .ok (.aload_n 0, 1) := by decide +kernel
theorem dTr_entriesBelow_1 : decode bTr_entriesBelow 1 = .ok (.iload_n 1, 1) := by decide +kernel
theorem dTr_entriesBelow_2 : decode bTr_entriesBelow 2 = .ok (.invokevirtual 46, 3) := by decide +kernel
theorem dTr_entriesBelow_5 : decode bTr_entriesBelow 5 = .ok (.astore_n 3, 1) := by decide +kernel
theorem dTr_entriesBelow_6 : decode bTr_entriesBelow 6 = .ok (.iload_n 2, 1) := by decide +kernel
theorem dTr_entriesBelow_7 : decode bTr_entriesBelow 7 = .ok (.iconst 1, 1) := by decide +kernel
theorem dTr_entriesBelow_8 : decode bTr_entriesBelow 8 = .ok (.if_icmp .lt 35, 3) := by decide +kernel
theorem dTr_entriesBelow_11 : decode bTr_entriesBelow 11 = .ok (.aload_n 3, 1) := by decide +kernel
theorem dTr_entriesBelow_12 : decode bTr_entriesBelow 12 = .ok (.getfield 35, 3) := by decide +kernel
theorem dTr_entriesBelow_15 : decode bTr_entriesBelow 15 = .ok (.iload_n 2, 1) := by decide +kernel
theorem dTr_entriesBelow_16 : decode bTr_entriesBelow 16 = .ok (.if_icmp .ne 27, 3) := by decide +kernel
theorem dTr_entriesBelow_19 : decode bTr_entriesBelow 19 = .ok (.aload_n 3, 1) := by decide +kernel
theorem dTr_entriesBelow_20 : decode bTr_entriesBelow 20 = .ok (.getfield 129, 3) := by decide +kernel
theorem dTr_entriesBelow_23 : decode bTr_entriesBelow 23 = .ok (.iconst 5, 1) := by decide +kernel
theorem dTr_entriesBelow_24 : decode bTr_entriesBelow 24 = .ok (.if_icmp .gt 19, 3) := by decide +kernel
theorem dTr_entriesBelow_27 : decode bTr_entriesBelow 27 = .ok (.iload_n 1, 1) := by decide +kernel
theorem dTr_entriesBelow_28 : decode bTr_entriesBelow 28 = .ok (.aload_n 0, 1) := by decide +kernel
theorem dTr_entriesBelow_29 : decode bTr_entriesBelow 29 = .ok (.getfield 39, 3) := by decide +kernel
theorem dTr_entriesBelow_32 : decode bTr_entriesBelow 32 = .ok (.if_icmp .eq 13, 3) := by decide +kernel
theorem dTr_entriesBelow_35 : decode bTr_entriesBelow 35 = .ok (.aload_n 3, 1) := by decide +kernel
theorem dTr_entriesBelow_36 : decode bTr_entriesBelow 36 = .ok (.getfield 129, 3) := by decide +kernel
theorem dTr_entriesBelow_39 : decode bTr_entriesBelow 39 = .ok (.iconst 2, 1) := by decide +kernel
theorem dTr_entriesBelow_40 : decode bTr_entriesBelow 40 = .ok (.if_icmp .ge 5, 3) := by decide +kernel
theorem dTr_entriesBelow_43 : decode bTr_entriesBelow 43 = .ok (.iconst (-1), 1) := by decide +kernel
theorem dTr_entriesBelow_44 : decode bTr_entriesBelow 44 = .ok (.ireturn, 1) := by decide +kernel
theorem dTr_entriesBelow_45 : decode bTr_entriesBelow 45 = .ok (.iload_n 2, 1) := by decide +kernel
theorem dTr_entriesBelow_46 : decode bTr_entriesBelow 46 = .ok (.iconst 1, 1) := by decide +kernel
theorem dTr_entriesBelow_47 : decode bTr_entriesBelow 47 = .ok (.if_icmp .ne 8, 3) := by decide +kernel
theorem dTr_entriesBelow_50 : decode bTr_entriesBelow 50 = .ok (.aload_n 3, 1) := by decide +kernel
theorem dTr_entriesBelow_51 : decode bTr_entriesBelow 51 = .ok (.getfield 129, 3) := by decide +kernel
theorem dTr_entriesBelow_54 : decode bTr_entriesBelow 54 = .ok (.ireturn, 1) := by decide +kernel
theorem dTr_entriesBelow_55 : decode bTr_entriesBelow 55 = .ok (.iconst 0, 1) := by decide +kernel
theorem dTr_entriesBelow_56 : decode bTr_entriesBelow 56 = .ok (.istore 4, 2) := by decide +kernel
theorem dTr_entriesBelow_58 : decode bTr_entriesBelow 58 = .ok (.iconst 0, 1) := by decide +kernel
theorem dTr_entriesBelow_59 : decode bTr_entriesBelow 59 = .ok (.istore 5, 2) := by decide +kernel
theorem dTr_entriesBelow_61 : decode bTr_entriesBelow 61 = .ok (.iload 5, 2) := by decide +kernel
theorem dTr_entriesBelow_63 : decode bTr_entriesBelow 63 = .ok (.aload_n 3, 1) := by decide +kernel
theorem dTr_entriesBelow_64 : decode bTr_entriesBelow 64 = .ok (.getfield 129, 3) := by decide +kernel
theorem dTr_entriesBelow_67 : decode bTr_entriesBelow 67 = .ok (.if_icmp .ge 91, 3) := by decide +kernel
theorem dTr_entriesBelow_70 : decode bTr_entriesBelow 70 = .ok (.aload_n 3, 1) := by decide +kernel
theorem dTr_entriesBelow_71 : decode bTr_entriesBelow 71 = .ok (.getfield 122, 3) := by decide +kernel
theorem dTr_entriesBelow_74 : decode bTr_entriesBelow 74 = .ok (.iload 5, 2) := by decide +kernel
theorem dTr_entriesBelow_76 : decode bTr_entriesBelow 76 = .ok (.aaload, 1) := by decide +kernel
theorem dTr_entriesBelow_77 : decode bTr_entriesBelow 77 = .ok (.astore 6, 2) := by decide +kernel
theorem dTr_entriesBelow_79 : decode bTr_entriesBelow 79 = .ok (.aload_n 0, 1) := by decide +kernel
theorem dTr_entriesBelow_80 : decode bTr_entriesBelow 80 = .ok (.getfield 27, 3) := by decide +kernel
theorem dTr_entriesBelow_83 : decode bTr_entriesBelow 83 = .ok (.aload 6, 2) := by decide +kernel
theorem dTr_entriesBelow_85 : decode bTr_entriesBelow 85 = .ok (.getfield 126, 3) := by decide +kernel
theorem dTr_entriesBelow_88 : decode bTr_entriesBelow 88 = .ok (.putfield 126, 3) := by decide +kernel
theorem dTr_entriesBelow_91 : decode bTr_entriesBelow 91 = .ok (.aload_n 0, 1) := by decide +kernel
theorem dTr_entriesBelow_92 : decode bTr_entriesBelow 92 = .ok (.aload 6, 2) := by decide +kernel
theorem dTr_entriesBelow_94 : decode bTr_entriesBelow 94 = .ok (.getfield 126, 3) := by decide +kernel
theorem dTr_entriesBelow_97 : decode bTr_entriesBelow 97 = .ok (.invokevirtual 46, 3) := by decide +kernel
theorem dTr_entriesBelow_100 : decode bTr_entriesBelow 100 = .ok (.iconst (-1), 1) := by decide +kernel
theorem dTr_entriesBelow_101 : decode bTr_entriesBelow 101 = .ok (.aload_n 0, 1) := by decide +kernel
theorem dTr_entriesBelow_102 : decode bTr_entriesBelow 102 = .ok (.getfield 27, 3) := by decide +kernel
theorem dTr_entriesBelow_105 : decode bTr_entriesBelow 105 = .ok (.invokevirtual 168, 3) := by decide +kernel
theorem dTr_entriesBelow_108 : decode bTr_entriesBelow 108 = .ok (.aload 6, 2) := by decide +kernel
theorem dTr_entriesBelow_110 : decode bTr_entriesBelow 110 = .ok (.aload_n 0, 1) := by decide +kernel
theorem dTr_entriesBelow_111 : decode bTr_entriesBelow 111 = .ok (.getfield 27, 3) := by decide +kernel
theorem dTr_entriesBelow_114 : decode bTr_entriesBelow 114 = .ok (.invokevirtual 132, 3) := by decide +kernel
theorem dTr_entriesBelow_117 : decode bTr_entriesBelow 117 = .ok (.ifCond .eq 18, 3) := by decide +kernel
theorem dTr_entriesBelow_120 : decode bTr_entriesBelow 120 = .ok (.aload_n 0, 1) := by decide +kernel
theorem dTr_entriesBelow_121 : decode bTr_entriesBelow 121 = .ok (.aload 6, 2) := by decide +kernel
theorem dTr_entriesBelow_123 : decode bTr_entriesBelow 123 = .ok (.getfield 126, 3) := by decide +kernel
theorem dTr_entriesBelow_126 : decode bTr_entriesBelow 126 = .ok (.iload_n 2, 1) := by decide +kernel
theorem dTr_entriesBelow_127 : decode bTr_entriesBelow 127 = .ok (.iconst 1, 1) := by decide +kernel
theorem dTr_entriesBelow_128 : decode bTr_entriesBelow 128 = .ok (.isub, 1) := by decide +kernel
theorem dTr_entriesBelow_129 : decode bTr_entriesBelow 129 = .ok (.invokestatic 76, 3) := by decide +kernel
theorem dTr_entriesBelow_132 : decode bTr_entriesBelow 132 = .ok (.goto 4, 3) := by decide +kernel
theorem dTr_entriesBelow_135 : decode bTr_entriesBelow 135 = .ok (.iconst (-1), 1) := by decide +kernel
theorem dTr_entriesBelow_136 : decode bTr_entriesBelow 136 = .ok (.istore 7, 2) := by decide +kernel
theorem dTr_entriesBelow_138 : decode bTr_entriesBelow 138 = .ok (.iload 7, 2) := by decide +kernel
theorem dTr_entriesBelow_140 : decode bTr_entriesBelow 140 = .ok (.ifCond .ge 5, 3) := by decide +kernel
theorem dTr_entriesBelow_143 : decode bTr_entriesBelow 143 = .ok (.iconst (-1), 1) := by decide +kernel
theorem dTr_entriesBelow_144 : decode bTr_entriesBelow 144 = .ok (.ireturn, 1) := by decide +kernel
theorem dTr_entriesBelow_145 : decode bTr_entriesBelow 145 = .ok (.iload 4, 2) := by decide +kernel
theorem dTr_entriesBelow_147 : decode bTr_entriesBelow 147 = .ok (.iload 7, 2) := by decide +kernel
theorem dTr_entriesBelow_149 : decode bTr_entriesBelow 149 = .ok (.iadd, 1) := by decide +kernel
theorem dTr_entriesBelow_150 : decode bTr_entriesBelow 150 = .ok (.istore 4, 2) := by decide +kernel
theorem dTr_entriesBelow_152 : decode bTr_entriesBelow 152 = .ok (.iinc 5 1, 3) := by decide +kernel
theorem dTr_entriesBelow_155 : decode bTr_entriesBelow 155 = .ok (.goto (-94), 3) := by decide +kernel
theorem dTr_entriesBelow_158 : decode bTr_entriesBelow 158 = .ok (.iload 4, 2) := by decide +kernel
theorem dTr_entriesBelow_160 : decode bTr_entriesBelow 160 = .ok (.ireturn, 1) := by decide +kernel
abbrev wTr_entriesBelow : List Cond := Cond.code yTr_entriesBelow bTr_entriesBelow 8 (some .int)   :: tbl
theorem kcTr_entriesBelow : Cond.code yTr_entriesBelow bTr_entriesBelow 8 (some .int) ∈ tbl := tb3 93 (by decide +kernel) (by decide +kernel)
theorem ktTr_entriesBelow : Cond.static yTr_entriesBelow ∈ tbl := tb3 92 (by decide +kernel) (by decide +kernel)
theorem kfTr_11 : Cond.fieldLink RTr 11 (TTr 3).1 (TTr 3).2.1 (TTr 3).2.2.1 ∈ tbl := tb1 121 (by decide +kernel) (by decide +kernel)
theorem kfTr_17 : Cond.fieldLink RTr 17 (TTr 4).1 (TTr 4).2.1 (TTr 4).2.2.1 ∈ tbl := tb1 122 (by decide +kernel) (by decide +kernel)
theorem kfTr_21 : Cond.fieldLink RTr 21 (TTr 5).1 (TTr 5).2.1 (TTr 5).2.2.1 ∈ tbl := tb1 123 (by decide +kernel) (by decide +kernel)
theorem kfTr_27 : Cond.fieldLink RTr 27 (TTr 6).1 (TTr 6).2.1 (TTr 6).2.2.1 ∈ tbl := tb1 124 (by decide +kernel) (by decide +kernel)
theorem kfTr_31 : Cond.fieldLink RTr 31 (TTr 7).1 (TTr 7).2.1 (TTr 7).2.2.1 ∈ tbl := tb1 125 (by decide +kernel) (by decide +kernel)
theorem kfTr_35 : Cond.fieldLink RTr 35 (TPa 0).1 (TPa 0).2.1 (TPa 0).2.2.1 ∈ tbl := tb1 95 (by decide +kernel) (by decide +kernel)
theorem kfTr_39 : Cond.fieldLink RTr 39 (TTr 0).1 (TTr 0).2.1 (TTr 0).2.2.1 ∈ tbl := tb1 115 (by decide +kernel) (by decide +kernel)
theorem kfTr_54 : Cond.fieldLink RTr 54 (TTr 1).1 (TTr 1).2.1 (TTr 1).2.2.1 ∈ tbl := tb1 119 (by decide +kernel) (by decide +kernel)
theorem kfTr_84 : Cond.fieldLink RTr 84 (TTr 2).1 (TTr 2).2.1 (TTr 2).2.2.1 ∈ tbl := tb1 120 (by decide +kernel) (by decide +kernel)
theorem kfTr_88 : Cond.fieldLink RTr 88 (TPa 2).1 (TPa 2).2.1 (TPa 2).2.2.1 ∈ tbl := tb1 102 (by decide +kernel) (by decide +kernel)
theorem kfTr_95 : Cond.fieldLink RTr 95 (TDi 0).1 (TDi 0).2.1 (TDi 0).2.2.1 ∈ tbl := tb1 28 (by decide +kernel) (by decide +kernel)
theorem kfTr_122 : Cond.fieldLink RTr 122 (TPa 3).1 (TPa 3).2.1 (TPa 3).2.2.1 ∈ tbl := tb1 105 (by decide +kernel) (by decide +kernel)
theorem kfTr_126 : Cond.fieldLink RTr 126 (TBo 4).1 (TBo 4).2.1 (TBo 4).2.2.1 ∈ tbl := tb1 75 (by decide +kernel) (by decide +kernel)
theorem kfTr_129 : Cond.fieldLink RTr 129 (TPa 1).1 (TPa 1).2.1 (TPa 1).2.2.1 ∈ tbl := tb1 100 (by decide +kernel) (by decide +kernel)
theorem kfTr_174 : Cond.constantLong RTr 174 (9223372036854775807) ∈ tbl := tb2 94 (by decide +kernel) (by decide +kernel)
end
section
abbrev bDi_init : ByteArray := prog_3_method_1_code
def yDi_init : MethodName := ⟨RDi, "<init>", "()V"⟩
abbrev bDi_keep : ByteArray := prog_3_method_2_code
def yDi_keep : MethodName := ⟨RDi, "keep", "(LBoxedPages$Tree;I)Z"⟩
abbrev bDi_recover : ByteArray := prog_3_method_3_code
def yDi_recover : MethodName := ⟨RDi, "recover", "()V"⟩
abbrev bDi_writeLog : ByteArray := prog_3_method_4_code
def yDi_writeLog : MethodName := ⟨RDi, "writeLog", "(LBoxedPages$Tree;I)V"⟩
abbrev bDi_writePlaces : ByteArray := prog_3_method_5_code
def yDi_writePlaces : MethodName := ⟨RDi, "writePlaces", "(I)V"⟩
abbrev bDi_emptyLog : ByteArray := prog_3_method_6_code
def yDi_emptyLog : MethodName := ⟨RDi, "emptyLog", "()V"⟩
theorem dDi_init_0 : decode bDi_init 0 = .ok (.aload_n 0, 1) := by decide +kernel
theorem dDi_init_1 : decode bDi_init 1 = .ok (.invokespecial 3, 3) := by decide +kernel
theorem dDi_init_4 : decode bDi_init 4 = .ok (.aload_n 0, 1) := by decide +kernel
theorem dDi_init_5 : decode bDi_init 5 = .ok (.bipush 40, 2) := by decide +kernel
theorem dDi_init_7 : decode bDi_init 7 = .ok (.bipush 27, 2) := by decide +kernel
theorem dDi_init_9 : decode bDi_init 9 = .ok (.multianewarray 9 2, 4) := by decide +kernel
theorem dDi_init_13 : decode bDi_init 13 = .ok (.putfield 11, 3) := by decide +kernel
theorem dDi_init_16 : decode bDi_init 16 = .ok (.aload_n 0, 1) := by decide +kernel
theorem dDi_init_17 : decode bDi_init 17 = .ok (.bipush 40, 2) := by decide +kernel
theorem dDi_init_19 : decode bDi_init 19 = .ok (.bipush 27, 2) := by decide +kernel
theorem dDi_init_21 : decode bDi_init 21 = .ok (.multianewarray 9 2, 4) := by decide +kernel
theorem dDi_init_25 : decode bDi_init 25 = .ok (.putfield 16, 3) := by decide +kernel
theorem dDi_init_28 : decode bDi_init 28 = .ok (.aload_n 0, 1) := by decide +kernel
theorem dDi_init_29 : decode bDi_init 29 = .ok (.bipush 40, 2) := by decide +kernel
theorem dDi_init_31 : decode bDi_init 31 = .ok (.newarray .int, 2) := by decide +kernel
theorem dDi_init_33 : decode bDi_init 33 = .ok (.putfield 19, 3) := by decide +kernel
theorem dDi_init_36 : decode bDi_init 36 = .ok (.aload_n 0, 1) := by decide +kernel
theorem dDi_init_37 : decode bDi_init 37 = .ok (.getfield 11, 3) := by decide +kernel
theorem dDi_init_40 : decode bDi_init 40 = .ok (.iconst 0, 1) := by decide +kernel
theorem dDi_init_41 : decode bDi_init 41 = .ok (.aaload, 1) := by decide +kernel
theorem dDi_init_42 : decode bDi_init 42 = .ok (.iconst 0, 1) := by decide +kernel
theorem dDi_init_43 : decode bDi_init 43 = .ok (.iconst 1, 1) := by decide +kernel
theorem dDi_init_44 : decode bDi_init 44 = .ok (.iastore, 1) := by decide +kernel
theorem dDi_init_45 : decode bDi_init 45 = .ok (.aload_n 0, 1) := by decide +kernel
theorem dDi_init_46 : decode bDi_init 46 = .ok (.getfield 11, 3) := by decide +kernel
theorem dDi_init_49 : decode bDi_init 49 = .ok (.iconst 1, 1) := by decide +kernel
theorem dDi_init_50 : decode bDi_init 50 = .ok (.aaload, 1) := by decide +kernel
theorem dDi_init_51 : decode bDi_init 51 = .ok (.iconst 0, 1) := by decide +kernel
theorem dDi_init_52 : decode bDi_init 52 = .ok (.iconst 1, 1) := by decide +kernel
theorem dDi_init_53 : decode bDi_init 53 = .ok (.iastore, 1) := by decide +kernel
theorem dDi_init_54 : decode bDi_init 54 = .ok (.return_, 1) := by decide +kernel
abbrev wDi_init : List Cond := Cond.code yDi_init bDi_init 1 none   :: tbl
theorem kcDi_init : Cond.code yDi_init bDi_init 1 none ∈ tbl := tb1 23 (by decide +kernel) (by decide +kernel)
theorem kiDi_init : Cond.instanceMethod yDi_init ∈ tbl := tb1 22 (by decide +kernel) (by decide +kernel)
theorem dDi_keep_0 : decode bDi_keep 0 = .ok (.iload_n 2, 1) := by decide +kernel
theorem dDi_keep_1 : decode bDi_keep 1 = .ok (.ifCond .ne 5, 3) := by decide +kernel
theorem dDi_keep_4 : decode bDi_keep 4 = .ok (.iconst 0, 1) := by decide +kernel
theorem dDi_keep_5 : decode bDi_keep 5 = .ok (.ireturn, 1) := by decide +kernel
theorem dDi_keep_6 : decode bDi_keep 6 = .ok (.aload_n 1, 1) := by decide +kernel
theorem dDi_keep_7 : decode bDi_keep 7 = .ok (.invokevirtual 23, 3) := by decide +kernel
theorem dDi_keep_10 : decode bDi_keep 10 = .ok (.istore_n 3, 1) := by decide +kernel
theorem dDi_keep_11 : decode bDi_keep 11 = .ok (.aload_n 0, 1) := by decide +kernel
theorem dDi_keep_12 : decode bDi_keep 12 = .ok (.aload_n 1, 1) := by decide +kernel
theorem dDi_keep_13 : decode bDi_keep 13 = .ok (.iload_n 2, 1) := by decide +kernel
theorem dDi_keep_14 : decode bDi_keep 14 = .ok (.iconst 1, 1) := by decide +kernel
theorem dDi_keep_15 : decode bDi_keep 15 = .ok (.if_icmp .ne 9, 3) := by decide +kernel
theorem dDi_keep_18 : decode bDi_keep 18 = .ok (.iload_n 3, 1) := by decide +kernel
theorem dDi_keep_19 : decode bDi_keep 19 = .ok (.iconst 2, 1) := by decide +kernel
theorem dDi_keep_20 : decode bDi_keep 20 = .ok (.idiv, 1) := by decide +kernel
theorem dDi_keep_21 : decode bDi_keep 21 = .ok (.goto 4, 3) := by decide +kernel
theorem dDi_keep_24 : decode bDi_keep 24 = .ok (.iload_n 3, 1) := by decide +kernel
theorem dDi_keep_25 : decode bDi_keep 25 = .ok (.invokevirtual 29, 3) := by decide +kernel
theorem dDi_keep_28 : decode bDi_keep 28 = .ok (.iload_n 2, 1) := by decide +kernel
theorem dDi_keep_29 : decode bDi_keep 29 = .ok (.iconst 1, 1) := by decide +kernel
theorem dDi_keep_30 : decode bDi_keep 30 = .ok (.if_icmp .eq 8, 3) := by decide +kernel
theorem dDi_keep_33 : decode bDi_keep 33 = .ok (.iload_n 2, 1) := by decide +kernel
theorem dDi_keep_34 : decode bDi_keep 34 = .ok (.iconst 2, 1) := by decide +kernel
theorem dDi_keep_35 : decode bDi_keep 35 = .ok (.if_icmp .ne 5, 3) := by decide +kernel
theorem dDi_keep_38 : decode bDi_keep 38 = .ok (.iconst 0, 1) := by decide +kernel
theorem dDi_keep_39 : decode bDi_keep 39 = .ok (.ireturn, 1) := by decide +kernel
theorem dDi_keep_40 : decode bDi_keep 40 = .ok (.aload_n 0, 1) := by decide +kernel
theorem dDi_keep_41 : decode bDi_keep 41 = .ok (.iconst 1, 1) := by decide +kernel
theorem dDi_keep_42 : decode bDi_keep 42 = .ok (.putfield 33, 3) := by decide +kernel
theorem dDi_keep_45 : decode bDi_keep 45 = .ok (.iload_n 2, 1) := by decide +kernel
theorem dDi_keep_46 : decode bDi_keep 46 = .ok (.iconst 3, 1) := by decide +kernel
theorem dDi_keep_47 : decode bDi_keep 47 = .ok (.if_icmp .ne 5, 3) := by decide +kernel
theorem dDi_keep_50 : decode bDi_keep 50 = .ok (.iconst 0, 1) := by decide +kernel
theorem dDi_keep_51 : decode bDi_keep 51 = .ok (.ireturn, 1) := by decide +kernel
theorem dDi_keep_52 : decode bDi_keep 52 = .ok (.aload_n 0, 1) := by decide +kernel
theorem dDi_keep_53 : decode bDi_keep 53 = .ok (.iload_n 2, 1) := by decide +kernel
theorem dDi_keep_54 : decode bDi_keep 54 = .ok (.iconst 4, 1) := by decide +kernel
theorem dDi_keep_55 : decode bDi_keep 55 = .ok (.if_icmp .ne 7, 3) := by decide +kernel
theorem dDi_keep_58 : decode bDi_keep 58 = .ok (.iconst 1, 1) := by decide +kernel
theorem dDi_keep_59 : decode bDi_keep 59 = .ok (.goto 7, 3) := by decide +kernel
theorem dDi_keep_62 : decode bDi_keep 62 = .ok (.aload_n 0, 1) := by decide +kernel
theorem dDi_keep_63 : decode bDi_keep 63 = .ok (.getfield 37, 3) := by decide +kernel
theorem dDi_keep_66 : decode bDi_keep 66 = .ok (.invokevirtual 41, 3) := by decide +kernel
theorem dDi_keep_69 : decode bDi_keep 69 = .ok (.iload_n 2, 1) := by decide +kernel
theorem dDi_keep_70 : decode bDi_keep 70 = .ok (.iconst 4, 1) := by decide +kernel
theorem dDi_keep_71 : decode bDi_keep 71 = .ok (.if_icmp .eq 8, 3) := by decide +kernel
theorem dDi_keep_74 : decode bDi_keep 74 = .ok (.iload_n 2, 1) := by decide +kernel
theorem dDi_keep_75 : decode bDi_keep 75 = .ok (.iconst 5, 1) := by decide +kernel
theorem dDi_keep_76 : decode bDi_keep 76 = .ok (.if_icmp .ne 5, 3) := by decide +kernel
theorem dDi_keep_79 : decode bDi_keep 79 = .ok (.iconst 0, 1) := by decide +kernel
theorem dDi_keep_80 : decode bDi_keep 80 = .ok (.ireturn, 1) := by decide +kernel
theorem dDi_keep_81 : decode bDi_keep 81 = .ok (.aload_n 0, 1) := by decide +kernel
theorem dDi_keep_82 : decode bDi_keep 82 = .ok (.invokevirtual 45, 3) := by decide +kernel
theorem dDi_keep_85 : decode bDi_keep 85 = .ok (.iconst 1, 1) := by decide +kernel
theorem dDi_keep_86 : decode bDi_keep 86 = .ok (.ireturn, 1) := by decide +kernel
abbrev wDi_keep : List Cond := Cond.code yDi_keep bDi_keep 4 (some .boolean)   :: tbl
theorem kcDi_keep : Cond.code yDi_keep bDi_keep 4 (some .boolean) ∈ tbl := tb2 121 (by decide +kernel) (by decide +kernel)
theorem kiDi_keep : Cond.instanceMethod yDi_keep ∈ tbl := tb2 119 (by decide +kernel) (by decide +kernel)
theorem ksDi_keep : Cond.selects yDi_keep.cls yDi_keep yDi_keep ∈ tbl := tb2 120 (by decide +kernel) (by decide +kernel)
theorem dDi_recover_0 : decode bDi_recover 0 = .ok (.aload_n 0, 1) := by decide +kernel
theorem dDi_recover_1 : decode bDi_recover 1 = .ok (.getfield 33, 3) := by decide +kernel
theorem dDi_recover_4 : decode bDi_recover 4 = .ok (.ifCond .eq 11, 3) := by decide +kernel
theorem dDi_recover_7 : decode bDi_recover 7 = .ok (.aload_n 0, 1) := by decide +kernel
theorem dDi_recover_8 : decode bDi_recover 8 = .ok (.aload_n 0, 1) := by decide +kernel
theorem dDi_recover_9 : decode bDi_recover 9 = .ok (.getfield 37, 3) := by decide +kernel
theorem dDi_recover_12 : decode bDi_recover 12 = .ok (.invokevirtual 41, 3) := by decide +kernel
theorem dDi_recover_15 : decode bDi_recover 15 = .ok (.aload_n 0, 1) := by decide +kernel
theorem dDi_recover_16 : decode bDi_recover 16 = .ok (.invokevirtual 45, 3) := by decide +kernel
theorem dDi_recover_19 : decode bDi_recover 19 = .ok (.return_, 1) := by decide +kernel
abbrev wDi_recover : List Cond := Cond.code yDi_recover bDi_recover 1 none   :: tbl
theorem kcDi_recover : Cond.code yDi_recover bDi_recover 1 none ∈ tbl := tb2 235 (by decide +kernel) (by decide +kernel)
theorem kiDi_recover : Cond.instanceMethod yDi_recover ∈ tbl := tb2 233 (by decide +kernel) (by decide +kernel)
theorem ksDi_recover : Cond.selects yDi_recover.cls yDi_recover yDi_recover ∈ tbl := tb2 234 (by decide +kernel) (by decide +kernel)
theorem dDi_writeLog_0 : decode bDi_writeLog 0 = .ok (.iconst 0, 1) := by decide +kernel
theorem dDi_writeLog_1 : decode bDi_writeLog 1 = .ok (.istore_n 3, 1) := by decide +kernel
theorem dDi_writeLog_2 : decode bDi_writeLog 2 = .ok (.iload_n 3, 1) := by decide +kernel
theorem dDi_writeLog_3 : decode bDi_writeLog 3 = .ok (.bipush 40, 2) := by decide +kernel
theorem dDi_writeLog_5 : decode bDi_writeLog 5 = .ok (.if_icmp .ge 59, 3) := by decide +kernel
theorem dDi_writeLog_8 : decode bDi_writeLog 8 = .ok (.aload_n 0, 1) := by decide +kernel
theorem dDi_writeLog_9 : decode bDi_writeLog 9 = .ok (.getfield 37, 3) := by decide +kernel
theorem dDi_writeLog_12 : decode bDi_writeLog 12 = .ok (.iload_n 2, 1) := by decide +kernel
theorem dDi_writeLog_13 : decode bDi_writeLog 13 = .ok (.if_icmp .ge 51, 3) := by decide +kernel
theorem dDi_writeLog_16 : decode bDi_writeLog 16 = .ok (.aload_n 1, 1) := by decide +kernel
theorem dDi_writeLog_17 : decode bDi_writeLog 17 = .ok (.iload_n 3, 1) := by decide +kernel
theorem dDi_writeLog_18 : decode bDi_writeLog 18 = .ok (.invokevirtual 48, 3) := by decide +kernel
theorem dDi_writeLog_21 : decode bDi_writeLog 21 = .ok (.ifCond .eq 37, 3) := by decide +kernel
theorem dDi_writeLog_24 : decode bDi_writeLog 24 = .ok (.aload_n 1, 1) := by decide +kernel
theorem dDi_writeLog_25 : decode bDi_writeLog 25 = .ok (.iload_n 3, 1) := by decide +kernel
theorem dDi_writeLog_26 : decode bDi_writeLog 26 = .ok (.aload_n 0, 1) := by decide +kernel
theorem dDi_writeLog_27 : decode bDi_writeLog 27 = .ok (.getfield 16, 3) := by decide +kernel
theorem dDi_writeLog_30 : decode bDi_writeLog 30 = .ok (.aload_n 0, 1) := by decide +kernel
theorem dDi_writeLog_31 : decode bDi_writeLog 31 = .ok (.getfield 37, 3) := by decide +kernel
theorem dDi_writeLog_34 : decode bDi_writeLog 34 = .ok (.aaload, 1) := by decide +kernel
theorem dDi_writeLog_35 : decode bDi_writeLog 35 = .ok (.invokevirtual 52, 3) := by decide +kernel
theorem dDi_writeLog_38 : decode bDi_writeLog 38 = .ok (.aload_n 0, 1) := by decide +kernel
theorem dDi_writeLog_39 : decode bDi_writeLog 39 = .ok (.getfield 19, 3) := by decide +kernel
theorem dDi_writeLog_42 : decode bDi_writeLog 42 = .ok (.aload_n 0, 1) := by decide +kernel
theorem dDi_writeLog_43 : decode bDi_writeLog 43 = .ok (.getfield 37, 3) := by decide +kernel
theorem dDi_writeLog_46 : decode bDi_writeLog 46 = .ok (.iload_n 3, 1) := by decide +kernel
theorem dDi_writeLog_47 : decode bDi_writeLog 47 = .ok (.iastore, 1) := by decide +kernel
theorem dDi_writeLog_48 : decode bDi_writeLog 48 = .ok (.aload_n 0, 1) := by decide +kernel
theorem dDi_writeLog_49 : decode bDi_writeLog 49 = .ok (.dup, 1) := by decide +kernel
theorem dDi_writeLog_50 : decode bDi_writeLog 50 = .ok (.getfield 37, 3) := by decide +kernel
theorem dDi_writeLog_53 : decode bDi_writeLog 53 = .ok (.iconst 1, 1) := by decide +kernel
theorem dDi_writeLog_54 : decode bDi_writeLog 54 = .ok (.iadd, 1) := by decide +kernel
theorem dDi_writeLog_55 : decode bDi_writeLog 55 = .ok (.putfield 37, 3) := by decide +kernel
theorem dDi_writeLog_58 : decode bDi_writeLog 58 = .ok (.iinc 3 1, 3) := by decide +kernel
theorem dDi_writeLog_61 : decode bDi_writeLog 61 = .ok (.goto (-59), 3) := by decide +kernel
theorem dDi_writeLog_64 : decode bDi_writeLog 64 = .ok (.return_, 1) := by decide +kernel
abbrev wDi_writeLog : List Cond := Cond.code yDi_writeLog bDi_writeLog 4 none   :: tbl
theorem kcDi_writeLog : Cond.code yDi_writeLog bDi_writeLog 4 none ∈ tbl := tb2 133 (by decide +kernel) (by decide +kernel)
theorem kiDi_writeLog : Cond.instanceMethod yDi_writeLog ∈ tbl := tb2 132 (by decide +kernel) (by decide +kernel)
theorem ksDi_writeLog : Cond.selects yDi_writeLog.cls yDi_writeLog yDi_writeLog ∈ tbl := tb0 12 (by decide +kernel) (by decide +kernel)
theorem dDi_writePlaces_0 : decode bDi_writePlaces 0 = .ok (.iconst 0, 1) := by decide +kernel
theorem dDi_writePlaces_1 : decode bDi_writePlaces 1 = .ok (.istore_n 2, 1) := by decide +kernel
theorem dDi_writePlaces_2 : decode bDi_writePlaces 2 = .ok (.iload_n 2, 1) := by decide +kernel
theorem dDi_writePlaces_3 : decode bDi_writePlaces 3 = .ok (.aload_n 0, 1) := by decide +kernel
theorem dDi_writePlaces_4 : decode bDi_writePlaces 4 = .ok (.getfield 37, 3) := by decide +kernel
theorem dDi_writePlaces_7 : decode bDi_writePlaces 7 = .ok (.if_icmp .ge 38, 3) := by decide +kernel
theorem dDi_writePlaces_10 : decode bDi_writePlaces 10 = .ok (.iload_n 2, 1) := by decide +kernel
theorem dDi_writePlaces_11 : decode bDi_writePlaces 11 = .ok (.iload_n 1, 1) := by decide +kernel
theorem dDi_writePlaces_12 : decode bDi_writePlaces 12 = .ok (.if_icmp .ge 33, 3) := by decide +kernel
theorem dDi_writePlaces_15 : decode bDi_writePlaces 15 = .ok (.aload_n 0, 1) := by decide +kernel
theorem dDi_writePlaces_16 : decode bDi_writePlaces 16 = .ok (.getfield 16, 3) := by decide +kernel
theorem dDi_writePlaces_19 : decode bDi_writePlaces 19 = .ok (.iload_n 2, 1) := by decide +kernel
theorem dDi_writePlaces_20 : decode bDi_writePlaces 20 = .ok (.aaload, 1) := by decide +kernel
theorem dDi_writePlaces_21 : decode bDi_writePlaces 21 = .ok (.iconst 0, 1) := by decide +kernel
theorem dDi_writePlaces_22 : decode bDi_writePlaces 22 = .ok (.aload_n 0, 1) := by decide +kernel
theorem dDi_writePlaces_23 : decode bDi_writePlaces 23 = .ok (.getfield 11, 3) := by decide +kernel
theorem dDi_writePlaces_26 : decode bDi_writePlaces 26 = .ok (.aload_n 0, 1) := by decide +kernel
theorem dDi_writePlaces_27 : decode bDi_writePlaces 27 = .ok (.getfield 19, 3) := by decide +kernel
theorem dDi_writePlaces_30 : decode bDi_writePlaces 30 = .ok (.iload_n 2, 1) := by decide +kernel
theorem dDi_writePlaces_31 : decode bDi_writePlaces 31 = .ok (.iaload, 1) := by decide +kernel
theorem dDi_writePlaces_32 : decode bDi_writePlaces 32 = .ok (.aaload, 1) := by decide +kernel
theorem dDi_writePlaces_33 : decode bDi_writePlaces 33 = .ok (.iconst 0, 1) := by decide +kernel
theorem dDi_writePlaces_34 : decode bDi_writePlaces 34 = .ok (.bipush 27, 2) := by decide +kernel
theorem dDi_writePlaces_36 : decode bDi_writePlaces 36 = .ok (.invokestatic 56, 3) := by decide +kernel
theorem dDi_writePlaces_39 : decode bDi_writePlaces 39 = .ok (.iinc 2 1, 3) := by decide +kernel
theorem dDi_writePlaces_42 : decode bDi_writePlaces 42 = .ok (.goto (-40), 3) := by decide +kernel
theorem dDi_writePlaces_45 : decode bDi_writePlaces 45 = .ok (.return_, 1) := by decide +kernel
abbrev wDi_writePlaces : List Cond := Cond.code yDi_writePlaces bDi_writePlaces 3 none   :: tbl
theorem kcDi_writePlaces : Cond.code yDi_writePlaces bDi_writePlaces 3 none ∈ tbl := tb2 146 (by decide +kernel) (by decide +kernel)
theorem kiDi_writePlaces : Cond.instanceMethod yDi_writePlaces ∈ tbl := tb2 145 (by decide +kernel) (by decide +kernel)
theorem ksDi_writePlaces : Cond.selects yDi_writePlaces.cls yDi_writePlaces yDi_writePlaces ∈ tbl := tb0 13 (by decide +kernel) (by decide +kernel)
theorem dDi_emptyLog_0 : decode bDi_emptyLog 0 = .ok (.aload_n 0, 1) := by decide +kernel
theorem dDi_emptyLog_1 : decode bDi_emptyLog 1 = .ok (.iconst 0, 1) := by decide +kernel
theorem dDi_emptyLog_2 : decode bDi_emptyLog 2 = .ok (.putfield 37, 3) := by decide +kernel
theorem dDi_emptyLog_5 : decode bDi_emptyLog 5 = .ok (.aload_n 0, 1) := by decide +kernel
theorem dDi_emptyLog_6 : decode bDi_emptyLog 6 = .ok (.iconst 0, 1) := by decide +kernel
theorem dDi_emptyLog_7 : decode bDi_emptyLog 7 = .ok (.putfield 33, 3) := by decide +kernel
theorem dDi_emptyLog_10 : decode bDi_emptyLog 10 = .ok (.return_, 1) := by decide +kernel
abbrev wDi_emptyLog : List Cond := Cond.code yDi_emptyLog bDi_emptyLog 1 none   :: tbl
theorem kcDi_emptyLog : Cond.code yDi_emptyLog bDi_emptyLog 1 none ∈ tbl := tb2 153 (by decide +kernel) (by decide +kernel)
theorem kiDi_emptyLog : Cond.instanceMethod yDi_emptyLog ∈ tbl := tb2 152 (by decide +kernel) (by decide +kernel)
theorem ksDi_emptyLog : Cond.selects yDi_emptyLog.cls yDi_emptyLog yDi_emptyLog ∈ tbl := tb0 14 (by decide +kernel) (by decide +kernel)
theorem kfDi_11 : Cond.fieldLink RDi 11 (TDi 0).1 (TDi 0).2.1 (TDi 0).2.2.1 ∈ tbl := tb1 27 (by decide +kernel) (by decide +kernel)
theorem kfDi_16 : Cond.fieldLink RDi 16 (TDi 1).1 (TDi 1).2.1 (TDi 1).2.2.1 ∈ tbl := tb1 29 (by decide +kernel) (by decide +kernel)
theorem kfDi_19 : Cond.fieldLink RDi 19 (TDi 2).1 (TDi 2).2.1 (TDi 2).2.2.1 ∈ tbl := tb1 30 (by decide +kernel) (by decide +kernel)
theorem kfDi_33 : Cond.fieldLink RDi 33 (TDi 4).1 (TDi 4).2.1 (TDi 4).2.2.1 ∈ tbl := tb1 32 (by decide +kernel) (by decide +kernel)
theorem kfDi_37 : Cond.fieldLink RDi 37 (TDi 3).1 (TDi 3).2.1 (TDi 3).2.2.1 ∈ tbl := tb1 31 (by decide +kernel) (by decide +kernel)
end
section
abbrev bSe_init : ByteArray := prog_5_method_1_code
def ySe_init : MethodName := ⟨RSe, "<init>", "()V"⟩
abbrev bSe_gather : ByteArray := prog_5_method_2_code
def ySe_gather : MethodName := ⟨RSe, "gather", "(LBoxedPages$Tree;LBoxedPages$Box;)V"⟩
abbrev bSe_approach : ByteArray := prog_5_method_3_code
def ySe_approach : MethodName := ⟨RSe, "approach", "(LBoxedPages$Tree;II)V"⟩
abbrev bSe_hitsInside : ByteArray := prog_5_method_4_code
def ySe_hitsInside : MethodName := ⟨RSe, "hitsInside", "(LBoxedPages$Box;)I"⟩
abbrev bSe_lookedOnlyWhereMet : ByteArray := prog_5_method_5_code
def ySe_lookedOnlyWhereMet : MethodName := ⟨RSe, "lookedOnlyWhereMet", "(LBoxedPages$Tree;LBoxedPages$Box;)Z"⟩
abbrev bSe_lookedNoFarther : ByteArray := prog_5_method_6_code
def ySe_lookedNoFarther : MethodName := ⟨RSe, "lookedNoFarther", "(LBoxedPages$Tree;II)Z"⟩
abbrev bSe_begin : ByteArray := prog_5_method_7_code
def ySe_begin : MethodName := ⟨RSe, "begin", "(I)V"⟩
abbrev bSe_await : ByteArray := prog_5_method_8_code
def ySe_await : MethodName := ⟨RSe, "await", "(IJ)V"⟩
abbrev bSe_lookInto : ByteArray := prog_5_method_9_code
def ySe_lookInto : MethodName := ⟨RSe, "lookInto", "(LBoxedPages$Tree;I)LBoxedPages$Page;"⟩
abbrev bSe_nearestWaiting : ByteArray := prog_5_method_10_code
def ySe_nearestWaiting : MethodName := ⟨RSe, "nearestWaiting", "()I"⟩
abbrev bSe_keepInOrder : ByteArray := prog_5_method_11_code
def ySe_keepInOrder : MethodName := ⟨RSe, "keepInOrder", "(LBoxedPages$Box;)V"⟩
abbrev bSe_keepCloser : ByteArray := prog_5_method_12_code
def ySe_keepCloser : MethodName := ⟨RSe, "keepCloser", "(LBoxedPages$Box;J)V"⟩
theorem dSe_init_0 : decode bSe_init 0 = .ok (.aload_n 0, 1) := by decide +kernel
theorem dSe_init_1 : decode bSe_init 1 = .ok (.invokespecial 3, 3) := by decide +kernel
theorem dSe_init_4 : decode bSe_init 4 = .ok (.aload_n 0, 1) := by decide +kernel
theorem dSe_init_5 : decode bSe_init 5 = .ok (.bipush 40, 2) := by decide +kernel
theorem dSe_init_7 : decode bSe_init 7 = .ok (.anewarray 9, 3) := by decide +kernel
theorem dSe_init_10 : decode bSe_init 10 = .ok (.putfield 11, 3) := by decide +kernel
theorem dSe_init_13 : decode bSe_init 13 = .ok (.aload_n 0, 1) := by decide +kernel
theorem dSe_init_14 : decode bSe_init 14 = .ok (.new 9, 3) := by decide +kernel
theorem dSe_init_17 : decode bSe_init 17 = .ok (.dup, 1) := by decide +kernel
theorem dSe_init_18 : decode bSe_init 18 = .ok (.invokespecial 17, 3) := by decide +kernel
theorem dSe_init_21 : decode bSe_init 21 = .ok (.putfield 18, 3) := by decide +kernel
theorem dSe_init_24 : decode bSe_init 24 = .ok (.aload_n 0, 1) := by decide +kernel
theorem dSe_init_25 : decode bSe_init 25 = .ok (.bipush 40, 2) := by decide +kernel
theorem dSe_init_27 : decode bSe_init 27 = .ok (.newarray .int, 2) := by decide +kernel
theorem dSe_init_29 : decode bSe_init 29 = .ok (.putfield 22, 3) := by decide +kernel
theorem dSe_init_32 : decode bSe_init 32 = .ok (.aload_n 0, 1) := by decide +kernel
theorem dSe_init_33 : decode bSe_init 33 = .ok (.bipush 40, 2) := by decide +kernel
theorem dSe_init_35 : decode bSe_init 35 = .ok (.newarray .long, 2) := by decide +kernel
theorem dSe_init_37 : decode bSe_init 37 = .ok (.putfield 26, 3) := by decide +kernel
theorem dSe_init_40 : decode bSe_init 40 = .ok (.aload_n 0, 1) := by decide +kernel
theorem dSe_init_41 : decode bSe_init 41 = .ok (.bipush 40, 2) := by decide +kernel
theorem dSe_init_43 : decode bSe_init 43 = .ok (.newarray .int, 2) := by decide +kernel
theorem dSe_init_45 : decode bSe_init 45 = .ok (.putfield 30, 3) := by decide +kernel
theorem dSe_init_48 : decode bSe_init 48 = .ok (.aload_n 0, 1) := by decide +kernel
theorem dSe_init_49 : decode bSe_init 49 = .ok (.new 9, 3) := by decide +kernel
theorem dSe_init_52 : decode bSe_init 52 = .ok (.dup, 1) := by decide +kernel
theorem dSe_init_53 : decode bSe_init 53 = .ok (.invokespecial 17, 3) := by decide +kernel
theorem dSe_init_56 : decode bSe_init 56 = .ok (.putfield 33, 3) := by decide +kernel
theorem dSe_init_59 : decode bSe_init 59 = .ok (.iconst 0, 1) := by decide +kernel
theorem dSe_init_60 : decode bSe_init 60 = .ok (.istore_n 1, 1) := by decide +kernel
theorem dSe_init_61 : decode bSe_init 61 = .ok (.iload_n 1, 1) := by decide +kernel
theorem dSe_init_62 : decode bSe_init 62 = .ok (.bipush 40, 2) := by decide +kernel
theorem dSe_init_64 : decode bSe_init 64 = .ok (.if_icmp .ge 22, 3) := by decide +kernel
theorem dSe_init_67 : decode bSe_init 67 = .ok (.aload_n 0, 1) := by decide +kernel
theorem dSe_init_68 : decode bSe_init 68 = .ok (.getfield 11, 3) := by decide +kernel
theorem dSe_init_71 : decode bSe_init 71 = .ok (.iload_n 1, 1) := by decide +kernel
theorem dSe_init_72 : decode bSe_init 72 = .ok (.new 9, 3) := by decide +kernel
theorem dSe_init_75 : decode bSe_init 75 = .ok (.dup, 1) := by decide +kernel
theorem dSe_init_76 : decode bSe_init 76 = .ok (.invokespecial 17, 3) := by decide +kernel
theorem dSe_init_79 : decode bSe_init 79 = .ok (.aastore, 1) := by decide +kernel
theorem dSe_init_80 : decode bSe_init 80 = .ok (.iinc 1 1, 3) := by decide +kernel
theorem dSe_init_83 : decode bSe_init 83 = .ok (.goto (-22), 3) := by decide +kernel
theorem dSe_init_86 : decode bSe_init 86 = .ok (.return_, 1) := by decide +kernel
abbrev wSe_init : List Cond := Cond.code ySe_init bSe_init 2 none   :: tbl
theorem kcSe_init : Cond.code ySe_init bSe_init 2 none ∈ tbl := tb1 147 (by decide +kernel) (by decide +kernel)
theorem kiSe_init : Cond.instanceMethod ySe_init ∈ tbl := tb1 146 (by decide +kernel) (by decide +kernel)
theorem dSe_gather_0 : decode bSe_gather 0 = .ok (.aload_n 0, 1) := by decide +kernel
theorem dSe_gather_1 : decode bSe_gather 1 = .ok (.iconst 0, 1) := by decide +kernel
theorem dSe_gather_2 : decode bSe_gather 2 = .ok (.putfield 36, 3) := by decide +kernel
theorem dSe_gather_5 : decode bSe_gather 5 = .ok (.aload_n 0, 1) := by decide +kernel
theorem dSe_gather_6 : decode bSe_gather 6 = .ok (.aload_n 1, 1) := by decide +kernel
theorem dSe_gather_7 : decode bSe_gather 7 = .ok (.getfield 40, 3) := by decide +kernel
theorem dSe_gather_10 : decode bSe_gather 10 = .ok (.invokevirtual 45, 3) := by decide +kernel
theorem dSe_gather_13 : decode bSe_gather 13 = .ok (.iconst 0, 1) := by decide +kernel
theorem dSe_gather_14 : decode bSe_gather 14 = .ok (.istore_n 3, 1) := by decide +kernel
theorem dSe_gather_15 : decode bSe_gather 15 = .ok (.iload_n 3, 1) := by decide +kernel
theorem dSe_gather_16 : decode bSe_gather 16 = .ok (.bipush 40, 2) := by decide +kernel
theorem dSe_gather_18 : decode bSe_gather 18 = .ok (.if_icmp .ge 98, 3) := by decide +kernel
theorem dSe_gather_21 : decode bSe_gather 21 = .ok (.aload_n 0, 1) := by decide +kernel
theorem dSe_gather_22 : decode bSe_gather 22 = .ok (.getfield 49, 3) := by decide +kernel
theorem dSe_gather_25 : decode bSe_gather 25 = .ok (.ifCond .le 91, 3) := by decide +kernel
theorem dSe_gather_28 : decode bSe_gather 28 = .ok (.aload_n 0, 1) := by decide +kernel
theorem dSe_gather_29 : decode bSe_gather 29 = .ok (.aload_n 1, 1) := by decide +kernel
theorem dSe_gather_30 : decode bSe_gather 30 = .ok (.aload_n 0, 1) := by decide +kernel
theorem dSe_gather_31 : decode bSe_gather 31 = .ok (.getfield 49, 3) := by decide +kernel
theorem dSe_gather_34 : decode bSe_gather 34 = .ok (.iconst 1, 1) := by decide +kernel
theorem dSe_gather_35 : decode bSe_gather 35 = .ok (.isub, 1) := by decide +kernel
theorem dSe_gather_36 : decode bSe_gather 36 = .ok (.invokevirtual 52, 3) := by decide +kernel
theorem dSe_gather_39 : decode bSe_gather 39 = .ok (.astore 4, 2) := by decide +kernel
theorem dSe_gather_41 : decode bSe_gather 41 = .ok (.iconst 0, 1) := by decide +kernel
theorem dSe_gather_42 : decode bSe_gather 42 = .ok (.istore 5, 2) := by decide +kernel
theorem dSe_gather_44 : decode bSe_gather 44 = .ok (.iload 5, 2) := by decide +kernel
theorem dSe_gather_46 : decode bSe_gather 46 = .ok (.aload 4, 2) := by decide +kernel
theorem dSe_gather_48 : decode bSe_gather 48 = .ok (.getfield 56, 3) := by decide +kernel
theorem dSe_gather_51 : decode bSe_gather 51 = .ok (.if_icmp .ge 59, 3) := by decide +kernel
theorem dSe_gather_54 : decode bSe_gather 54 = .ok (.aload 4, 2) := by decide +kernel
theorem dSe_gather_56 : decode bSe_gather 56 = .ok (.getfield 61, 3) := by decide +kernel
theorem dSe_gather_59 : decode bSe_gather 59 = .ok (.iload 5, 2) := by decide +kernel
theorem dSe_gather_61 : decode bSe_gather 61 = .ok (.aaload, 1) := by decide +kernel
theorem dSe_gather_62 : decode bSe_gather 62 = .ok (.astore 6, 2) := by decide +kernel
theorem dSe_gather_64 : decode bSe_gather 64 = .ok (.aload 6, 2) := by decide +kernel
theorem dSe_gather_66 : decode bSe_gather 66 = .ok (.aload_n 2, 1) := by decide +kernel
theorem dSe_gather_67 : decode bSe_gather 67 = .ok (.invokevirtual 64, 3) := by decide +kernel
theorem dSe_gather_70 : decode bSe_gather 70 = .ok (.ifCond .ne 6, 3) := by decide +kernel
theorem dSe_gather_73 : decode bSe_gather 73 = .ok (.goto 31, 3) := by decide +kernel
theorem dSe_gather_76 : decode bSe_gather 76 = .ok (.aload 4, 2) := by decide +kernel
theorem dSe_gather_78 : decode bSe_gather 78 = .ok (.getfield 68, 3) := by decide +kernel
theorem dSe_gather_81 : decode bSe_gather 81 = .ok (.iconst 1, 1) := by decide +kernel
theorem dSe_gather_82 : decode bSe_gather 82 = .ok (.if_icmp .ne 12, 3) := by decide +kernel
theorem dSe_gather_85 : decode bSe_gather 85 = .ok (.aload_n 0, 1) := by decide +kernel
theorem dSe_gather_86 : decode bSe_gather 86 = .ok (.aload 6, 2) := by decide +kernel
theorem dSe_gather_88 : decode bSe_gather 88 = .ok (.invokevirtual 71, 3) := by decide +kernel
theorem dSe_gather_91 : decode bSe_gather 91 = .ok (.goto 13, 3) := by decide +kernel
theorem dSe_gather_94 : decode bSe_gather 94 = .ok (.aload_n 0, 1) := by decide +kernel
theorem dSe_gather_95 : decode bSe_gather 95 = .ok (.aload 6, 2) := by decide +kernel
theorem dSe_gather_97 : decode bSe_gather 97 = .ok (.getfield 75, 3) := by decide +kernel
theorem dSe_gather_100 : decode bSe_gather 100 = .ok (.lconst 0, 1) := by decide +kernel
theorem dSe_gather_101 : decode bSe_gather 101 = .ok (.invokevirtual 78, 3) := by decide +kernel
theorem dSe_gather_104 : decode bSe_gather 104 = .ok (.iinc 5 1, 3) := by decide +kernel
theorem dSe_gather_107 : decode bSe_gather 107 = .ok (.goto (-63), 3) := by decide +kernel
theorem dSe_gather_110 : decode bSe_gather 110 = .ok (.iinc 3 1, 3) := by decide +kernel
theorem dSe_gather_113 : decode bSe_gather 113 = .ok (.goto (-98), 3) := by decide +kernel
theorem dSe_gather_116 : decode bSe_gather 116 = .ok (.return_, 1) := by decide +kernel
abbrev wSe_gather : List Cond := Cond.code ySe_gather bSe_gather 7 none   :: tbl
theorem kcSe_gather : Cond.code ySe_gather bSe_gather 7 none ∈ tbl := tb2 193 (by decide +kernel) (by decide +kernel)
theorem kiSe_gather : Cond.instanceMethod ySe_gather ∈ tbl := tb2 191 (by decide +kernel) (by decide +kernel)
theorem ksSe_gather : Cond.selects ySe_gather.cls ySe_gather ySe_gather ∈ tbl := tb2 192 (by decide +kernel) (by decide +kernel)
theorem dSe_approach_0 : decode bSe_approach 0 = .ok (.aload_n 0, 1) := by decide +kernel
theorem dSe_approach_1 : decode bSe_approach 1 = .ok (.ldc2_w 82, 3) := by decide +kernel
theorem dSe_approach_4 : decode bSe_approach 4 = .ok (.putfield 84, 3) := by decide +kernel
theorem dSe_approach_7 : decode bSe_approach 7 = .ok (.aload_n 0, 1) := by decide +kernel
theorem dSe_approach_8 : decode bSe_approach 8 = .ok (.aload_n 1, 1) := by decide +kernel
theorem dSe_approach_9 : decode bSe_approach 9 = .ok (.getfield 40, 3) := by decide +kernel
theorem dSe_approach_12 : decode bSe_approach 12 = .ok (.invokevirtual 45, 3) := by decide +kernel
theorem dSe_approach_15 : decode bSe_approach 15 = .ok (.iconst 0, 1) := by decide +kernel
theorem dSe_approach_16 : decode bSe_approach 16 = .ok (.istore 4, 2) := by decide +kernel
theorem dSe_approach_18 : decode bSe_approach 18 = .ok (.iload 4, 2) := by decide +kernel
theorem dSe_approach_20 : decode bSe_approach 20 = .ok (.bipush 40, 2) := by decide +kernel
theorem dSe_approach_22 : decode bSe_approach 22 = .ok (.if_icmp .ge 116, 3) := by decide +kernel
theorem dSe_approach_25 : decode bSe_approach 25 = .ok (.aload_n 0, 1) := by decide +kernel
theorem dSe_approach_26 : decode bSe_approach 26 = .ok (.getfield 49, 3) := by decide +kernel
theorem dSe_approach_29 : decode bSe_approach 29 = .ok (.ifCond .le 109, 3) := by decide +kernel
theorem dSe_approach_32 : decode bSe_approach 32 = .ok (.aload_n 0, 1) := by decide +kernel
theorem dSe_approach_33 : decode bSe_approach 33 = .ok (.invokevirtual 88, 3) := by decide +kernel
theorem dSe_approach_36 : decode bSe_approach 36 = .ok (.istore 5, 2) := by decide +kernel
theorem dSe_approach_38 : decode bSe_approach 38 = .ok (.aload_n 0, 1) := by decide +kernel
theorem dSe_approach_39 : decode bSe_approach 39 = .ok (.getfield 26, 3) := by decide +kernel
theorem dSe_approach_42 : decode bSe_approach 42 = .ok (.iload 5, 2) := by decide +kernel
theorem dSe_approach_44 : decode bSe_approach 44 = .ok (.laload, 1) := by decide +kernel
theorem dSe_approach_45 : decode bSe_approach 45 = .ok (.aload_n 0, 1) := by decide +kernel
theorem dSe_approach_46 : decode bSe_approach 46 = .ok (.getfield 84, 3) := by decide +kernel
theorem dSe_approach_49 : decode bSe_approach 49 = .ok (.lcmp, 1) := by decide +kernel
theorem dSe_approach_50 : decode bSe_approach 50 = .ok (.ifCond .le 4, 3) := by decide +kernel
theorem dSe_approach_53 : decode bSe_approach 53 = .ok (.return_, 1) := by decide +kernel
theorem dSe_approach_54 : decode bSe_approach 54 = .ok (.aload_n 0, 1) := by decide +kernel
theorem dSe_approach_55 : decode bSe_approach 55 = .ok (.aload_n 1, 1) := by decide +kernel
theorem dSe_approach_56 : decode bSe_approach 56 = .ok (.iload 5, 2) := by decide +kernel
theorem dSe_approach_58 : decode bSe_approach 58 = .ok (.invokevirtual 52, 3) := by decide +kernel
theorem dSe_approach_61 : decode bSe_approach 61 = .ok (.astore 6, 2) := by decide +kernel
theorem dSe_approach_63 : decode bSe_approach 63 = .ok (.iconst 0, 1) := by decide +kernel
theorem dSe_approach_64 : decode bSe_approach 64 = .ok (.istore 7, 2) := by decide +kernel
theorem dSe_approach_66 : decode bSe_approach 66 = .ok (.iload 7, 2) := by decide +kernel
theorem dSe_approach_68 : decode bSe_approach 68 = .ok (.aload 6, 2) := by decide +kernel
theorem dSe_approach_70 : decode bSe_approach 70 = .ok (.getfield 56, 3) := by decide +kernel
theorem dSe_approach_73 : decode bSe_approach 73 = .ok (.if_icmp .ge 59, 3) := by decide +kernel
theorem dSe_approach_76 : decode bSe_approach 76 = .ok (.aload 6, 2) := by decide +kernel
theorem dSe_approach_78 : decode bSe_approach 78 = .ok (.getfield 61, 3) := by decide +kernel
theorem dSe_approach_81 : decode bSe_approach 81 = .ok (.iload 7, 2) := by decide +kernel
theorem dSe_approach_83 : decode bSe_approach 83 = .ok (.aaload, 1) := by decide +kernel
theorem dSe_approach_84 : decode bSe_approach 84 = .ok (.astore 8, 2) := by decide +kernel
theorem dSe_approach_86 : decode bSe_approach 86 = .ok (.aload 8, 2) := by decide +kernel
theorem dSe_approach_88 : decode bSe_approach 88 = .ok (.iload_n 2, 1) := by decide +kernel
theorem dSe_approach_89 : decode bSe_approach 89 = .ok (.iload_n 3, 1) := by decide +kernel
theorem dSe_approach_90 : decode bSe_approach 90 = .ok (.invokevirtual 92, 3) := by decide +kernel
theorem dSe_approach_93 : decode bSe_approach 93 = .ok (.lstore 9, 2) := by decide +kernel
theorem dSe_approach_95 : decode bSe_approach 95 = .ok (.aload 6, 2) := by decide +kernel
theorem dSe_approach_97 : decode bSe_approach 97 = .ok (.getfield 68, 3) := by decide +kernel
theorem dSe_approach_100 : decode bSe_approach 100 = .ok (.iconst 1, 1) := by decide +kernel
theorem dSe_approach_101 : decode bSe_approach 101 = .ok (.if_icmp .ne 14, 3) := by decide +kernel
theorem dSe_approach_104 : decode bSe_approach 104 = .ok (.aload_n 0, 1) := by decide +kernel
theorem dSe_approach_105 : decode bSe_approach 105 = .ok (.aload 8, 2) := by decide +kernel
theorem dSe_approach_107 : decode bSe_approach 107 = .ok (.lload 9, 2) := by decide +kernel
theorem dSe_approach_109 : decode bSe_approach 109 = .ok (.invokevirtual 96, 3) := by decide +kernel
theorem dSe_approach_112 : decode bSe_approach 112 = .ok (.goto 14, 3) := by decide +kernel
theorem dSe_approach_115 : decode bSe_approach 115 = .ok (.aload_n 0, 1) := by decide +kernel
theorem dSe_approach_116 : decode bSe_approach 116 = .ok (.aload 8, 2) := by decide +kernel
theorem dSe_approach_118 : decode bSe_approach 118 = .ok (.getfield 75, 3) := by decide +kernel
theorem dSe_approach_121 : decode bSe_approach 121 = .ok (.lload 9, 2) := by decide +kernel
theorem dSe_approach_123 : decode bSe_approach 123 = .ok (.invokevirtual 78, 3) := by decide +kernel
theorem dSe_approach_126 : decode bSe_approach 126 = .ok (.iinc 7 1, 3) := by decide +kernel
theorem dSe_approach_129 : decode bSe_approach 129 = .ok (.goto (-63), 3) := by decide +kernel
theorem dSe_approach_132 : decode bSe_approach 132 = .ok (.iinc 4 1, 3) := by decide +kernel
theorem dSe_approach_135 : decode bSe_approach 135 = .ok (.goto (-117), 3) := by decide +kernel
theorem dSe_approach_138 : decode bSe_approach 138 = .ok (.return_, 1) := by decide +kernel
abbrev wSe_approach : List Cond := Cond.code ySe_approach bSe_approach 11 none   :: tbl
theorem kcSe_approach : Cond.code ySe_approach bSe_approach 11 none ∈ tbl := tb3 54 (by decide +kernel) (by decide +kernel)
theorem kiSe_approach : Cond.instanceMethod ySe_approach ∈ tbl := tb3 52 (by decide +kernel) (by decide +kernel)
theorem ksSe_approach : Cond.selects ySe_approach.cls ySe_approach ySe_approach ∈ tbl := tb3 53 (by decide +kernel) (by decide +kernel)
theorem dSe_hitsInside_0 : decode bSe_hitsInside 0 = .ok (.iconst 0, 1) := by decide +kernel
theorem dSe_hitsInside_1 : decode bSe_hitsInside 1 = .ok (.istore_n 2, 1) := by decide +kernel
theorem dSe_hitsInside_2 : decode bSe_hitsInside 2 = .ok (.iconst 0, 1) := by decide +kernel
theorem dSe_hitsInside_3 : decode bSe_hitsInside 3 = .ok (.istore_n 3, 1) := by decide +kernel
theorem dSe_hitsInside_4 : decode bSe_hitsInside 4 = .ok (.iload_n 3, 1) := by decide +kernel
theorem dSe_hitsInside_5 : decode bSe_hitsInside 5 = .ok (.aload_n 0, 1) := by decide +kernel
theorem dSe_hitsInside_6 : decode bSe_hitsInside 6 = .ok (.getfield 36, 3) := by decide +kernel
theorem dSe_hitsInside_9 : decode bSe_hitsInside 9 = .ok (.if_icmp .ge 30, 3) := by decide +kernel
theorem dSe_hitsInside_12 : decode bSe_hitsInside 12 = .ok (.iload_n 2, 1) := by decide +kernel
theorem dSe_hitsInside_13 : decode bSe_hitsInside 13 = .ok (.aload_n 1, 1) := by decide +kernel
theorem dSe_hitsInside_14 : decode bSe_hitsInside 14 = .ok (.aload_n 0, 1) := by decide +kernel
theorem dSe_hitsInside_15 : decode bSe_hitsInside 15 = .ok (.getfield 11, 3) := by decide +kernel
theorem dSe_hitsInside_18 : decode bSe_hitsInside 18 = .ok (.iload_n 3, 1) := by decide +kernel
theorem dSe_hitsInside_19 : decode bSe_hitsInside 19 = .ok (.aaload, 1) := by decide +kernel
theorem dSe_hitsInside_20 : decode bSe_hitsInside 20 = .ok (.invokevirtual 100, 3) := by decide +kernel
theorem dSe_hitsInside_23 : decode bSe_hitsInside 23 = .ok (.ifCond .eq 7, 3) := by decide +kernel
theorem dSe_hitsInside_26 : decode bSe_hitsInside 26 = .ok (.iconst 1, 1) := by decide +kernel
theorem dSe_hitsInside_27 : decode bSe_hitsInside 27 = .ok (.goto 4, 3) := by decide +kernel
theorem dSe_hitsInside_30 : decode bSe_hitsInside 30 = .ok (.iconst 0, 1) := by decide +kernel
theorem dSe_hitsInside_31 : decode bSe_hitsInside 31 = .ok (.iadd, 1) := by decide +kernel
theorem dSe_hitsInside_32 : decode bSe_hitsInside 32 = .ok (.istore_n 2, 1) := by decide +kernel
theorem dSe_hitsInside_33 : decode bSe_hitsInside 33 = .ok (.iinc 3 1, 3) := by decide +kernel
theorem dSe_hitsInside_36 : decode bSe_hitsInside 36 = .ok (.goto (-32), 3) := by decide +kernel
theorem dSe_hitsInside_39 : decode bSe_hitsInside 39 = .ok (.iload_n 2, 1) := by decide +kernel
theorem dSe_hitsInside_40 : decode bSe_hitsInside 40 = .ok (.ireturn, 1) := by decide +kernel
abbrev wSe_hitsInside : List Cond := Cond.code ySe_hitsInside bSe_hitsInside 4 (some .int)   :: tbl
theorem kcSe_hitsInside : Cond.code ySe_hitsInside bSe_hitsInside 4 (some .int) ∈ tbl := tb3 35 (by decide +kernel) (by decide +kernel)
theorem kiSe_hitsInside : Cond.instanceMethod ySe_hitsInside ∈ tbl := tb3 33 (by decide +kernel) (by decide +kernel)
theorem ksSe_hitsInside : Cond.selects ySe_hitsInside.cls ySe_hitsInside ySe_hitsInside ∈ tbl := tb3 34 (by decide +kernel) (by decide +kernel)
theorem dSe_lookedOnlyWhereMet_0 : decode bSe_lookedOnlyWhereMet 0 = .ok (.iconst 0, 1) := by decide +kernel
theorem dSe_lookedOnlyWhereMet_1 : decode bSe_lookedOnlyWhereMet 1 = .ok (.istore_n 3, 1) := by decide +kernel
theorem dSe_lookedOnlyWhereMet_2 : decode bSe_lookedOnlyWhereMet 2 = .ok (.iload_n 3, 1) := by decide +kernel
theorem dSe_lookedOnlyWhereMet_3 : decode bSe_lookedOnlyWhereMet 3 = .ok (.aload_n 0, 1) := by decide +kernel
theorem dSe_lookedOnlyWhereMet_4 : decode bSe_lookedOnlyWhereMet 4 = .ok (.getfield 103, 3) := by decide +kernel
theorem dSe_lookedOnlyWhereMet_7 : decode bSe_lookedOnlyWhereMet 7 = .ok (.if_icmp .ge 53, 3) := by decide +kernel
theorem dSe_lookedOnlyWhereMet_10 : decode bSe_lookedOnlyWhereMet 10 = .ok (.aload_n 1, 1) := by decide +kernel
theorem dSe_lookedOnlyWhereMet_11 : decode bSe_lookedOnlyWhereMet 11 = .ok (.aload_n 0, 1) := by decide +kernel
theorem dSe_lookedOnlyWhereMet_12 : decode bSe_lookedOnlyWhereMet 12 = .ok (.getfield 30, 3) := by decide +kernel
theorem dSe_lookedOnlyWhereMet_15 : decode bSe_lookedOnlyWhereMet 15 = .ok (.iload_n 3, 1) := by decide +kernel
theorem dSe_lookedOnlyWhereMet_16 : decode bSe_lookedOnlyWhereMet 16 = .ok (.iaload, 1) := by decide +kernel
theorem dSe_lookedOnlyWhereMet_17 : decode bSe_lookedOnlyWhereMet 17 = .ok (.invokevirtual 106, 3) := by decide +kernel
theorem dSe_lookedOnlyWhereMet_20 : decode bSe_lookedOnlyWhereMet 20 = .ok (.iconst (-1), 1) := by decide +kernel
theorem dSe_lookedOnlyWhereMet_21 : decode bSe_lookedOnlyWhereMet 21 = .ok (.aload_n 0, 1) := by decide +kernel
theorem dSe_lookedOnlyWhereMet_22 : decode bSe_lookedOnlyWhereMet 22 = .ok (.getfield 33, 3) := by decide +kernel
theorem dSe_lookedOnlyWhereMet_25 : decode bSe_lookedOnlyWhereMet 25 = .ok (.invokevirtual 110, 3) := by decide +kernel
theorem dSe_lookedOnlyWhereMet_28 : decode bSe_lookedOnlyWhereMet 28 = .ok (.aload_n 0, 1) := by decide +kernel
theorem dSe_lookedOnlyWhereMet_29 : decode bSe_lookedOnlyWhereMet 29 = .ok (.getfield 30, 3) := by decide +kernel
theorem dSe_lookedOnlyWhereMet_32 : decode bSe_lookedOnlyWhereMet 32 = .ok (.iload_n 3, 1) := by decide +kernel
theorem dSe_lookedOnlyWhereMet_33 : decode bSe_lookedOnlyWhereMet 33 = .ok (.iaload, 1) := by decide +kernel
theorem dSe_lookedOnlyWhereMet_34 : decode bSe_lookedOnlyWhereMet 34 = .ok (.aload_n 1, 1) := by decide +kernel
theorem dSe_lookedOnlyWhereMet_35 : decode bSe_lookedOnlyWhereMet 35 = .ok (.getfield 40, 3) := by decide +kernel
theorem dSe_lookedOnlyWhereMet_38 : decode bSe_lookedOnlyWhereMet 38 = .ok (.if_icmp .eq 16, 3) := by decide +kernel
theorem dSe_lookedOnlyWhereMet_41 : decode bSe_lookedOnlyWhereMet 41 = .ok (.aload_n 0, 1) := by decide +kernel
theorem dSe_lookedOnlyWhereMet_42 : decode bSe_lookedOnlyWhereMet 42 = .ok (.getfield 33, 3) := by decide +kernel
theorem dSe_lookedOnlyWhereMet_45 : decode bSe_lookedOnlyWhereMet 45 = .ok (.aload_n 2, 1) := by decide +kernel
theorem dSe_lookedOnlyWhereMet_46 : decode bSe_lookedOnlyWhereMet 46 = .ok (.invokevirtual 64, 3) := by decide +kernel
theorem dSe_lookedOnlyWhereMet_49 : decode bSe_lookedOnlyWhereMet 49 = .ok (.ifCond .ne 5, 3) := by decide +kernel
theorem dSe_lookedOnlyWhereMet_52 : decode bSe_lookedOnlyWhereMet 52 = .ok (.iconst 0, 1) := by decide +kernel
theorem dSe_lookedOnlyWhereMet_53 : decode bSe_lookedOnlyWhereMet 53 = .ok (.ireturn, 1) := by decide +kernel
theorem dSe_lookedOnlyWhereMet_54 : decode bSe_lookedOnlyWhereMet 54 = .ok (.iinc 3 1, 3) := by decide +kernel
theorem dSe_lookedOnlyWhereMet_57 : decode bSe_lookedOnlyWhereMet 57 = .ok (.goto (-55), 3) := by decide +kernel
theorem dSe_lookedOnlyWhereMet_60 : decode bSe_lookedOnlyWhereMet 60 = .ok (.iconst 1, 1) := by decide +kernel
theorem dSe_lookedOnlyWhereMet_61 : decode bSe_lookedOnlyWhereMet 61 = .ok (.ireturn, 1) := by decide +kernel
abbrev wSe_lookedOnlyWhereMet : List Cond := Cond.code ySe_lookedOnlyWhereMet bSe_lookedOnlyWhereMet 4 (some .boolean)   :: tbl
theorem kcSe_lookedOnlyWhereMet : Cond.code ySe_lookedOnlyWhereMet bSe_lookedOnlyWhereMet 4 (some .boolean) ∈ tbl := tb3 26 (by decide +kernel) (by decide +kernel)
theorem kiSe_lookedOnlyWhereMet : Cond.instanceMethod ySe_lookedOnlyWhereMet ∈ tbl := tb3 24 (by decide +kernel) (by decide +kernel)
theorem ksSe_lookedOnlyWhereMet : Cond.selects ySe_lookedOnlyWhereMet.cls ySe_lookedOnlyWhereMet ySe_lookedOnlyWhereMet ∈ tbl := tb3 25 (by decide +kernel) (by decide +kernel)
theorem dSe_lookedNoFarther_0 : decode bSe_lookedNoFarther 0 = .ok (.iconst 0, 1) := by decide +kernel
theorem dSe_lookedNoFarther_1 : decode bSe_lookedNoFarther 1 = .ok (.istore 4, 2) := by decide +kernel
theorem dSe_lookedNoFarther_3 : decode bSe_lookedNoFarther 3 = .ok (.iload 4, 2) := by decide +kernel
theorem dSe_lookedNoFarther_5 : decode bSe_lookedNoFarther 5 = .ok (.aload_n 0, 1) := by decide +kernel
theorem dSe_lookedNoFarther_6 : decode bSe_lookedNoFarther 6 = .ok (.getfield 103, 3) := by decide +kernel
theorem dSe_lookedNoFarther_9 : decode bSe_lookedNoFarther 9 = .ok (.if_icmp .ge 61, 3) := by decide +kernel
theorem dSe_lookedNoFarther_12 : decode bSe_lookedNoFarther 12 = .ok (.aload_n 1, 1) := by decide +kernel
theorem dSe_lookedNoFarther_13 : decode bSe_lookedNoFarther 13 = .ok (.aload_n 0, 1) := by decide +kernel
theorem dSe_lookedNoFarther_14 : decode bSe_lookedNoFarther 14 = .ok (.getfield 30, 3) := by decide +kernel
theorem dSe_lookedNoFarther_17 : decode bSe_lookedNoFarther 17 = .ok (.iload 4, 2) := by decide +kernel
theorem dSe_lookedNoFarther_19 : decode bSe_lookedNoFarther 19 = .ok (.iaload, 1) := by decide +kernel
theorem dSe_lookedNoFarther_20 : decode bSe_lookedNoFarther 20 = .ok (.invokevirtual 106, 3) := by decide +kernel
theorem dSe_lookedNoFarther_23 : decode bSe_lookedNoFarther 23 = .ok (.iconst (-1), 1) := by decide +kernel
theorem dSe_lookedNoFarther_24 : decode bSe_lookedNoFarther 24 = .ok (.aload_n 0, 1) := by decide +kernel
theorem dSe_lookedNoFarther_25 : decode bSe_lookedNoFarther 25 = .ok (.getfield 33, 3) := by decide +kernel
theorem dSe_lookedNoFarther_28 : decode bSe_lookedNoFarther 28 = .ok (.invokevirtual 110, 3) := by decide +kernel
theorem dSe_lookedNoFarther_31 : decode bSe_lookedNoFarther 31 = .ok (.aload_n 0, 1) := by decide +kernel
theorem dSe_lookedNoFarther_32 : decode bSe_lookedNoFarther 32 = .ok (.getfield 30, 3) := by decide +kernel
theorem dSe_lookedNoFarther_35 : decode bSe_lookedNoFarther 35 = .ok (.iload 4, 2) := by decide +kernel
theorem dSe_lookedNoFarther_37 : decode bSe_lookedNoFarther 37 = .ok (.iaload, 1) := by decide +kernel
theorem dSe_lookedNoFarther_38 : decode bSe_lookedNoFarther 38 = .ok (.aload_n 1, 1) := by decide +kernel
theorem dSe_lookedNoFarther_39 : decode bSe_lookedNoFarther 39 = .ok (.getfield 40, 3) := by decide +kernel
theorem dSe_lookedNoFarther_42 : decode bSe_lookedNoFarther 42 = .ok (.if_icmp .eq 22, 3) := by decide +kernel
theorem dSe_lookedNoFarther_45 : decode bSe_lookedNoFarther 45 = .ok (.aload_n 0, 1) := by decide +kernel
theorem dSe_lookedNoFarther_46 : decode bSe_lookedNoFarther 46 = .ok (.getfield 33, 3) := by decide +kernel
theorem dSe_lookedNoFarther_49 : decode bSe_lookedNoFarther 49 = .ok (.iload_n 2, 1) := by decide +kernel
theorem dSe_lookedNoFarther_50 : decode bSe_lookedNoFarther 50 = .ok (.iload_n 3, 1) := by decide +kernel
theorem dSe_lookedNoFarther_51 : decode bSe_lookedNoFarther 51 = .ok (.invokevirtual 92, 3) := by decide +kernel
theorem dSe_lookedNoFarther_54 : decode bSe_lookedNoFarther 54 = .ok (.aload_n 0, 1) := by decide +kernel
theorem dSe_lookedNoFarther_55 : decode bSe_lookedNoFarther 55 = .ok (.getfield 84, 3) := by decide +kernel
theorem dSe_lookedNoFarther_58 : decode bSe_lookedNoFarther 58 = .ok (.lcmp, 1) := by decide +kernel
theorem dSe_lookedNoFarther_59 : decode bSe_lookedNoFarther 59 = .ok (.ifCond .le 5, 3) := by decide +kernel
theorem dSe_lookedNoFarther_62 : decode bSe_lookedNoFarther 62 = .ok (.iconst 0, 1) := by decide +kernel
theorem dSe_lookedNoFarther_63 : decode bSe_lookedNoFarther 63 = .ok (.ireturn, 1) := by decide +kernel
theorem dSe_lookedNoFarther_64 : decode bSe_lookedNoFarther 64 = .ok (.iinc 4 1, 3) := by decide +kernel
theorem dSe_lookedNoFarther_67 : decode bSe_lookedNoFarther 67 = .ok (.goto (-64), 3) := by decide +kernel
theorem dSe_lookedNoFarther_70 : decode bSe_lookedNoFarther 70 = .ok (.iconst 1, 1) := by decide +kernel
theorem dSe_lookedNoFarther_71 : decode bSe_lookedNoFarther 71 = .ok (.ireturn, 1) := by decide +kernel
abbrev wSe_lookedNoFarther : List Cond := Cond.code ySe_lookedNoFarther bSe_lookedNoFarther 5 (some .boolean)   :: tbl
theorem kcSe_lookedNoFarther : Cond.code ySe_lookedNoFarther bSe_lookedNoFarther 5 (some .boolean) ∈ tbl := tb3 71 (by decide +kernel) (by decide +kernel)
theorem kiSe_lookedNoFarther : Cond.instanceMethod ySe_lookedNoFarther ∈ tbl := tb3 69 (by decide +kernel) (by decide +kernel)
theorem ksSe_lookedNoFarther : Cond.selects ySe_lookedNoFarther.cls ySe_lookedNoFarther ySe_lookedNoFarther ∈ tbl := tb3 70 (by decide +kernel) (by decide +kernel)
theorem dSe_begin_0 : decode bSe_begin 0 = .ok (.aload_n 0, 1) := by decide +kernel
theorem dSe_begin_1 : decode bSe_begin 1 = .ok (.iconst 0, 1) := by decide +kernel
theorem dSe_begin_2 : decode bSe_begin 2 = .ok (.putfield 49, 3) := by decide +kernel
theorem dSe_begin_5 : decode bSe_begin 5 = .ok (.aload_n 0, 1) := by decide +kernel
theorem dSe_begin_6 : decode bSe_begin 6 = .ok (.iconst 0, 1) := by decide +kernel
theorem dSe_begin_7 : decode bSe_begin 7 = .ok (.putfield 103, 3) := by decide +kernel
theorem dSe_begin_10 : decode bSe_begin 10 = .ok (.aload_n 0, 1) := by decide +kernel
theorem dSe_begin_11 : decode bSe_begin 11 = .ok (.iload_n 1, 1) := by decide +kernel
theorem dSe_begin_12 : decode bSe_begin 12 = .ok (.lconst 0, 1) := by decide +kernel
theorem dSe_begin_13 : decode bSe_begin 13 = .ok (.invokevirtual 78, 3) := by decide +kernel
theorem dSe_begin_16 : decode bSe_begin 16 = .ok (.return_, 1) := by decide +kernel
abbrev wSe_begin : List Cond := Cond.code ySe_begin bSe_begin 2 none   :: tbl
theorem kcSe_begin : Cond.code ySe_begin bSe_begin 2 none ∈ tbl := tb2 197 (by decide +kernel) (by decide +kernel)
theorem kiSe_begin : Cond.instanceMethod ySe_begin ∈ tbl := tb2 196 (by decide +kernel) (by decide +kernel)
theorem ksSe_begin : Cond.selects ySe_begin.cls ySe_begin ySe_begin ∈ tbl := tb0 17 (by decide +kernel) (by decide +kernel)
theorem dSe_await_0 : decode bSe_await 0 = .ok (.aload_n 0, 1) := by decide +kernel
theorem dSe_await_1 : decode bSe_await 1 = .ok (.getfield 49, 3) := by decide +kernel
theorem dSe_await_4 : decode bSe_await 4 = .ok (.bipush 40, 2) := by decide +kernel
theorem dSe_await_6 : decode bSe_await 6 = .ok (.if_icmp .ge 33, 3) := by decide +kernel
theorem dSe_await_9 : decode bSe_await 9 = .ok (.aload_n 0, 1) := by decide +kernel
theorem dSe_await_10 : decode bSe_await 10 = .ok (.getfield 22, 3) := by decide +kernel
theorem dSe_await_13 : decode bSe_await 13 = .ok (.aload_n 0, 1) := by decide +kernel
theorem dSe_await_14 : decode bSe_await 14 = .ok (.getfield 49, 3) := by decide +kernel
theorem dSe_await_17 : decode bSe_await 17 = .ok (.iload_n 1, 1) := by decide +kernel
theorem dSe_await_18 : decode bSe_await 18 = .ok (.iastore, 1) := by decide +kernel
theorem dSe_await_19 : decode bSe_await 19 = .ok (.aload_n 0, 1) := by decide +kernel
theorem dSe_await_20 : decode bSe_await 20 = .ok (.getfield 26, 3) := by decide +kernel
theorem dSe_await_23 : decode bSe_await 23 = .ok (.aload_n 0, 1) := by decide +kernel
theorem dSe_await_24 : decode bSe_await 24 = .ok (.getfield 49, 3) := by decide +kernel
theorem dSe_await_27 : decode bSe_await 27 = .ok (.lload_n 2, 1) := by decide +kernel
theorem dSe_await_28 : decode bSe_await 28 = .ok (.lastore, 1) := by decide +kernel
theorem dSe_await_29 : decode bSe_await 29 = .ok (.aload_n 0, 1) := by decide +kernel
theorem dSe_await_30 : decode bSe_await 30 = .ok (.dup, 1) := by decide +kernel
theorem dSe_await_31 : decode bSe_await 31 = .ok (.getfield 49, 3) := by decide +kernel
theorem dSe_await_34 : decode bSe_await 34 = .ok (.iconst 1, 1) := by decide +kernel
theorem dSe_await_35 : decode bSe_await 35 = .ok (.iadd, 1) := by decide +kernel
theorem dSe_await_36 : decode bSe_await 36 = .ok (.putfield 49, 3) := by decide +kernel
theorem dSe_await_39 : decode bSe_await 39 = .ok (.return_, 1) := by decide +kernel
abbrev wSe_await : List Cond := Cond.code ySe_await bSe_await 4 none   :: tbl
theorem kcSe_await : Cond.code ySe_await bSe_await 4 none ∈ tbl := tb2 201 (by decide +kernel) (by decide +kernel)
theorem kiSe_await : Cond.instanceMethod ySe_await ∈ tbl := tb2 200 (by decide +kernel) (by decide +kernel)
theorem ksSe_await : Cond.selects ySe_await.cls ySe_await ySe_await ∈ tbl := tb0 18 (by decide +kernel) (by decide +kernel)
theorem dSe_lookInto_0 : decode bSe_lookInto 0 = .ok (.aload_n 0, 1) := by decide +kernel
theorem dSe_lookInto_1 : decode bSe_lookInto 1 = .ok (.getfield 22, 3) := by decide +kernel
theorem dSe_lookInto_4 : decode bSe_lookInto 4 = .ok (.iload_n 2, 1) := by decide +kernel
theorem dSe_lookInto_5 : decode bSe_lookInto 5 = .ok (.iaload, 1) := by decide +kernel
theorem dSe_lookInto_6 : decode bSe_lookInto 6 = .ok (.istore_n 3, 1) := by decide +kernel
theorem dSe_lookInto_7 : decode bSe_lookInto 7 = .ok (.aload_n 0, 1) := by decide +kernel
theorem dSe_lookInto_8 : decode bSe_lookInto 8 = .ok (.dup, 1) := by decide +kernel
theorem dSe_lookInto_9 : decode bSe_lookInto 9 = .ok (.getfield 49, 3) := by decide +kernel
theorem dSe_lookInto_12 : decode bSe_lookInto 12 = .ok (.iconst 1, 1) := by decide +kernel
theorem dSe_lookInto_13 : decode bSe_lookInto 13 = .ok (.isub, 1) := by decide +kernel
theorem dSe_lookInto_14 : decode bSe_lookInto 14 = .ok (.putfield 49, 3) := by decide +kernel
theorem dSe_lookInto_17 : decode bSe_lookInto 17 = .ok (.aload_n 0, 1) := by decide +kernel
theorem dSe_lookInto_18 : decode bSe_lookInto 18 = .ok (.getfield 22, 3) := by decide +kernel
theorem dSe_lookInto_21 : decode bSe_lookInto 21 = .ok (.iload_n 2, 1) := by decide +kernel
theorem dSe_lookInto_22 : decode bSe_lookInto 22 = .ok (.aload_n 0, 1) := by decide +kernel
theorem dSe_lookInto_23 : decode bSe_lookInto 23 = .ok (.getfield 22, 3) := by decide +kernel
theorem dSe_lookInto_26 : decode bSe_lookInto 26 = .ok (.aload_n 0, 1) := by decide +kernel
theorem dSe_lookInto_27 : decode bSe_lookInto 27 = .ok (.getfield 49, 3) := by decide +kernel
theorem dSe_lookInto_30 : decode bSe_lookInto 30 = .ok (.iaload, 1) := by decide +kernel
theorem dSe_lookInto_31 : decode bSe_lookInto 31 = .ok (.iastore, 1) := by decide +kernel
theorem dSe_lookInto_32 : decode bSe_lookInto 32 = .ok (.aload_n 0, 1) := by decide +kernel
theorem dSe_lookInto_33 : decode bSe_lookInto 33 = .ok (.getfield 26, 3) := by decide +kernel
theorem dSe_lookInto_36 : decode bSe_lookInto 36 = .ok (.iload_n 2, 1) := by decide +kernel
theorem dSe_lookInto_37 : decode bSe_lookInto 37 = .ok (.aload_n 0, 1) := by decide +kernel
theorem dSe_lookInto_38 : decode bSe_lookInto 38 = .ok (.getfield 26, 3) := by decide +kernel
theorem dSe_lookInto_41 : decode bSe_lookInto 41 = .ok (.aload_n 0, 1) := by decide +kernel
theorem dSe_lookInto_42 : decode bSe_lookInto 42 = .ok (.getfield 49, 3) := by decide +kernel
theorem dSe_lookInto_45 : decode bSe_lookInto 45 = .ok (.laload, 1) := by decide +kernel
theorem dSe_lookInto_46 : decode bSe_lookInto 46 = .ok (.lastore, 1) := by decide +kernel
theorem dSe_lookInto_47 : decode bSe_lookInto 47 = .ok (.aload_n 0, 1) := by decide +kernel
theorem dSe_lookInto_48 : decode bSe_lookInto 48 = .ok (.getfield 30, 3) := by decide +kernel
theorem dSe_lookInto_51 : decode bSe_lookInto 51 = .ok (.aload_n 0, 1) := by decide +kernel
theorem dSe_lookInto_52 : decode bSe_lookInto 52 = .ok (.getfield 103, 3) := by decide +kernel
theorem dSe_lookInto_55 : decode bSe_lookInto 55 = .ok (.iload_n 3, 1) := by decide +kernel
theorem dSe_lookInto_56 : decode bSe_lookInto 56 = .ok (.iastore, 1) := by decide +kernel
theorem dSe_lookInto_57 : decode bSe_lookInto 57 = .ok (.aload_n 0, 1) := by decide +kernel
theorem dSe_lookInto_58 : decode bSe_lookInto 58 = .ok (.dup, 1) := by decide +kernel
theorem dSe_lookInto_59 : decode bSe_lookInto 59 = .ok (.getfield 103, 3) := by decide +kernel
theorem dSe_lookInto_62 : decode bSe_lookInto 62 = .ok (.iconst 1, 1) := by decide +kernel
theorem dSe_lookInto_63 : decode bSe_lookInto 63 = .ok (.iadd, 1) := by decide +kernel
theorem dSe_lookInto_64 : decode bSe_lookInto 64 = .ok (.putfield 103, 3) := by decide +kernel
theorem dSe_lookInto_67 : decode bSe_lookInto 67 = .ok (.aload_n 1, 1) := by decide +kernel
theorem dSe_lookInto_68 : decode bSe_lookInto 68 = .ok (.iload_n 3, 1) := by decide +kernel
theorem dSe_lookInto_69 : decode bSe_lookInto 69 = .ok (.invokevirtual 106, 3) := by decide +kernel
theorem dSe_lookInto_72 : decode bSe_lookInto 72 = .ok (.areturn, 1) := by decide +kernel
abbrev wSe_lookInto : List Cond := Cond.code ySe_lookInto bSe_lookInto 4 (some (.object "BoxedPages$Page"))   :: tbl
theorem kcSe_lookInto : Cond.code ySe_lookInto bSe_lookInto 4 (some (.object "BoxedPages$Page")) ∈ tbl := tb2 205 (by decide +kernel) (by decide +kernel)
theorem kiSe_lookInto : Cond.instanceMethod ySe_lookInto ∈ tbl := tb2 204 (by decide +kernel) (by decide +kernel)
theorem ksSe_lookInto : Cond.selects ySe_lookInto.cls ySe_lookInto ySe_lookInto ∈ tbl := tb0 19 (by decide +kernel) (by decide +kernel)
theorem dSe_nearestWaiting_0 : decode bSe_nearestWaiting 0 = .ok (.iconst 0, 1) := by decide +kernel
theorem dSe_nearestWaiting_1 : decode bSe_nearestWaiting 1 = .ok (.istore_n 1, 1) := by decide +kernel
theorem dSe_nearestWaiting_2 : decode bSe_nearestWaiting 2 = .ok (.iconst 1, 1) := by decide +kernel
theorem dSe_nearestWaiting_3 : decode bSe_nearestWaiting 3 = .ok (.istore_n 2, 1) := by decide +kernel
theorem dSe_nearestWaiting_4 : decode bSe_nearestWaiting 4 = .ok (.iload_n 2, 1) := by decide +kernel
theorem dSe_nearestWaiting_5 : decode bSe_nearestWaiting 5 = .ok (.aload_n 0, 1) := by decide +kernel
theorem dSe_nearestWaiting_6 : decode bSe_nearestWaiting 6 = .ok (.getfield 49, 3) := by decide +kernel
theorem dSe_nearestWaiting_9 : decode bSe_nearestWaiting 9 = .ok (.if_icmp .ge 27, 3) := by decide +kernel
theorem dSe_nearestWaiting_12 : decode bSe_nearestWaiting 12 = .ok (.aload_n 0, 1) := by decide +kernel
theorem dSe_nearestWaiting_13 : decode bSe_nearestWaiting 13 = .ok (.getfield 26, 3) := by decide +kernel
theorem dSe_nearestWaiting_16 : decode bSe_nearestWaiting 16 = .ok (.iload_n 2, 1) := by decide +kernel
theorem dSe_nearestWaiting_17 : decode bSe_nearestWaiting 17 = .ok (.laload, 1) := by decide +kernel
theorem dSe_nearestWaiting_18 : decode bSe_nearestWaiting 18 = .ok (.aload_n 0, 1) := by decide +kernel
theorem dSe_nearestWaiting_19 : decode bSe_nearestWaiting 19 = .ok (.getfield 26, 3) := by decide +kernel
theorem dSe_nearestWaiting_22 : decode bSe_nearestWaiting 22 = .ok (.iload_n 1, 1) := by decide +kernel
theorem dSe_nearestWaiting_23 : decode bSe_nearestWaiting 23 = .ok (.laload, 1) := by decide +kernel
theorem dSe_nearestWaiting_24 : decode bSe_nearestWaiting 24 = .ok (.lcmp, 1) := by decide +kernel
theorem dSe_nearestWaiting_25 : decode bSe_nearestWaiting 25 = .ok (.ifCond .ge 5, 3) := by decide +kernel
theorem dSe_nearestWaiting_28 : decode bSe_nearestWaiting 28 = .ok (.iload_n 2, 1) := by decide +kernel
theorem dSe_nearestWaiting_29 : decode bSe_nearestWaiting 29 = .ok (.istore_n 1, 1) := by decide +kernel
theorem dSe_nearestWaiting_30 : decode bSe_nearestWaiting 30 = .ok (.iinc 2 1, 3) := by decide +kernel
theorem dSe_nearestWaiting_33 : decode bSe_nearestWaiting 33 = .ok (.goto (-29), 3) := by decide +kernel
theorem dSe_nearestWaiting_36 : decode bSe_nearestWaiting 36 = .ok (.iload_n 1, 1) := by decide +kernel
theorem dSe_nearestWaiting_37 : decode bSe_nearestWaiting 37 = .ok (.ireturn, 1) := by decide +kernel
abbrev wSe_nearestWaiting : List Cond := Cond.code ySe_nearestWaiting bSe_nearestWaiting 3 (some .int)   :: tbl
theorem kcSe_nearestWaiting : Cond.code ySe_nearestWaiting bSe_nearestWaiting 3 (some .int) ∈ tbl := tb3 59 (by decide +kernel) (by decide +kernel)
theorem kiSe_nearestWaiting : Cond.instanceMethod ySe_nearestWaiting ∈ tbl := tb3 58 (by decide +kernel) (by decide +kernel)
theorem ksSe_nearestWaiting : Cond.selects ySe_nearestWaiting.cls ySe_nearestWaiting ySe_nearestWaiting ∈ tbl := tb0 23 (by decide +kernel) (by decide +kernel)
theorem dSe_keepInOrder_0 : decode bSe_keepInOrder 0 = .ok (.aload_n 0, 1) := by decide +kernel
theorem dSe_keepInOrder_1 : decode bSe_keepInOrder 1 = .ok (.getfield 36, 3) := by decide +kernel
theorem dSe_keepInOrder_4 : decode bSe_keepInOrder 4 = .ok (.bipush 40, 2) := by decide +kernel
theorem dSe_keepInOrder_6 : decode bSe_keepInOrder 6 = .ok (.if_icmp .lt 4, 3) := by decide +kernel
theorem dSe_keepInOrder_9 : decode bSe_keepInOrder 9 = .ok (.return_, 1) := by decide +kernel
theorem dSe_keepInOrder_10 : decode bSe_keepInOrder 10 = .ok (.aload_n 0, 1) := by decide +kernel
theorem dSe_keepInOrder_11 : decode bSe_keepInOrder 11 = .ok (.getfield 36, 3) := by decide +kernel
theorem dSe_keepInOrder_14 : decode bSe_keepInOrder 14 = .ok (.istore_n 2, 1) := by decide +kernel
theorem dSe_keepInOrder_15 : decode bSe_keepInOrder 15 = .ok (.iload_n 2, 1) := by decide +kernel
theorem dSe_keepInOrder_16 : decode bSe_keepInOrder 16 = .ok (.ifCond .le 41, 3) := by decide +kernel
theorem dSe_keepInOrder_19 : decode bSe_keepInOrder 19 = .ok (.aload_n 1, 1) := by decide +kernel
theorem dSe_keepInOrder_20 : decode bSe_keepInOrder 20 = .ok (.aload_n 0, 1) := by decide +kernel
theorem dSe_keepInOrder_21 : decode bSe_keepInOrder 21 = .ok (.getfield 11, 3) := by decide +kernel
theorem dSe_keepInOrder_24 : decode bSe_keepInOrder 24 = .ok (.iload_n 2, 1) := by decide +kernel
theorem dSe_keepInOrder_25 : decode bSe_keepInOrder 25 = .ok (.iconst 1, 1) := by decide +kernel
theorem dSe_keepInOrder_26 : decode bSe_keepInOrder 26 = .ok (.isub, 1) := by decide +kernel
theorem dSe_keepInOrder_27 : decode bSe_keepInOrder 27 = .ok (.aaload, 1) := by decide +kernel
theorem dSe_keepInOrder_28 : decode bSe_keepInOrder 28 = .ok (.invokevirtual 113, 3) := by decide +kernel
theorem dSe_keepInOrder_31 : decode bSe_keepInOrder 31 = .ok (.ifCond .eq 26, 3) := by decide +kernel
theorem dSe_keepInOrder_34 : decode bSe_keepInOrder 34 = .ok (.aload_n 0, 1) := by decide +kernel
theorem dSe_keepInOrder_35 : decode bSe_keepInOrder 35 = .ok (.getfield 11, 3) := by decide +kernel
theorem dSe_keepInOrder_38 : decode bSe_keepInOrder 38 = .ok (.iload_n 2, 1) := by decide +kernel
theorem dSe_keepInOrder_39 : decode bSe_keepInOrder 39 = .ok (.aaload, 1) := by decide +kernel
theorem dSe_keepInOrder_40 : decode bSe_keepInOrder 40 = .ok (.aload_n 0, 1) := by decide +kernel
theorem dSe_keepInOrder_41 : decode bSe_keepInOrder 41 = .ok (.getfield 11, 3) := by decide +kernel
theorem dSe_keepInOrder_44 : decode bSe_keepInOrder 44 = .ok (.iload_n 2, 1) := by decide +kernel
theorem dSe_keepInOrder_45 : decode bSe_keepInOrder 45 = .ok (.iconst 1, 1) := by decide +kernel
theorem dSe_keepInOrder_46 : decode bSe_keepInOrder 46 = .ok (.isub, 1) := by decide +kernel
theorem dSe_keepInOrder_47 : decode bSe_keepInOrder 47 = .ok (.aaload, 1) := by decide +kernel
theorem dSe_keepInOrder_48 : decode bSe_keepInOrder 48 = .ok (.invokevirtual 116, 3) := by decide +kernel
theorem dSe_keepInOrder_51 : decode bSe_keepInOrder 51 = .ok (.iinc 2 (-1), 3) := by decide +kernel
theorem dSe_keepInOrder_54 : decode bSe_keepInOrder 54 = .ok (.goto (-39), 3) := by decide +kernel
theorem dSe_keepInOrder_57 : decode bSe_keepInOrder 57 = .ok (.aload_n 0, 1) := by decide +kernel
theorem dSe_keepInOrder_58 : decode bSe_keepInOrder 58 = .ok (.getfield 11, 3) := by decide +kernel
theorem dSe_keepInOrder_61 : decode bSe_keepInOrder 61 = .ok (.iload_n 2, 1) := by decide +kernel
theorem dSe_keepInOrder_62 : decode bSe_keepInOrder 62 = .ok (.aaload, 1) := by decide +kernel
theorem dSe_keepInOrder_63 : decode bSe_keepInOrder 63 = .ok (.aload_n 1, 1) := by decide +kernel
theorem dSe_keepInOrder_64 : decode bSe_keepInOrder 64 = .ok (.invokevirtual 116, 3) := by decide +kernel
theorem dSe_keepInOrder_67 : decode bSe_keepInOrder 67 = .ok (.aload_n 0, 1) := by decide +kernel
theorem dSe_keepInOrder_68 : decode bSe_keepInOrder 68 = .ok (.dup, 1) := by decide +kernel
theorem dSe_keepInOrder_69 : decode bSe_keepInOrder 69 = .ok (.getfield 36, 3) := by decide +kernel
theorem dSe_keepInOrder_72 : decode bSe_keepInOrder 72 = .ok (.iconst 1, 1) := by decide +kernel
theorem dSe_keepInOrder_73 : decode bSe_keepInOrder 73 = .ok (.iadd, 1) := by decide +kernel
theorem dSe_keepInOrder_74 : decode bSe_keepInOrder 74 = .ok (.putfield 36, 3) := by decide +kernel
theorem dSe_keepInOrder_77 : decode bSe_keepInOrder 77 = .ok (.return_, 1) := by decide +kernel
abbrev wSe_keepInOrder : List Cond := Cond.code ySe_keepInOrder bSe_keepInOrder 3 none   :: tbl
theorem kcSe_keepInOrder : Cond.code ySe_keepInOrder bSe_keepInOrder 3 none ∈ tbl := tb2 214 (by decide +kernel) (by decide +kernel)
theorem kiSe_keepInOrder : Cond.instanceMethod ySe_keepInOrder ∈ tbl := tb2 213 (by decide +kernel) (by decide +kernel)
theorem ksSe_keepInOrder : Cond.selects ySe_keepInOrder.cls ySe_keepInOrder ySe_keepInOrder ∈ tbl := tb0 20 (by decide +kernel) (by decide +kernel)
theorem dSe_keepCloser_0 : decode bSe_keepCloser 0 = .ok (.lload_n 2, 1) := by decide +kernel
theorem dSe_keepCloser_1 : decode bSe_keepCloser 1 = .ok (.aload_n 0, 1) := by decide +kernel
theorem dSe_keepCloser_2 : decode bSe_keepCloser 2 = .ok (.getfield 84, 3) := by decide +kernel
theorem dSe_keepCloser_5 : decode bSe_keepCloser 5 = .ok (.lcmp, 1) := by decide +kernel
theorem dSe_keepCloser_6 : decode bSe_keepCloser 6 = .ok (.ifCond .lt 23, 3) := by decide +kernel
theorem dSe_keepCloser_9 : decode bSe_keepCloser 9 = .ok (.lload_n 2, 1) := by decide +kernel
theorem dSe_keepCloser_10 : decode bSe_keepCloser 10 = .ok (.aload_n 0, 1) := by decide +kernel
theorem dSe_keepCloser_11 : decode bSe_keepCloser 11 = .ok (.getfield 84, 3) := by decide +kernel
theorem dSe_keepCloser_14 : decode bSe_keepCloser 14 = .ok (.lcmp, 1) := by decide +kernel
theorem dSe_keepCloser_15 : decode bSe_keepCloser 15 = .ok (.ifCond .ne 27, 3) := by decide +kernel
theorem dSe_keepCloser_18 : decode bSe_keepCloser 18 = .ok (.aload_n 1, 1) := by decide +kernel
theorem dSe_keepCloser_19 : decode bSe_keepCloser 19 = .ok (.aload_n 0, 1) := by decide +kernel
theorem dSe_keepCloser_20 : decode bSe_keepCloser 20 = .ok (.getfield 18, 3) := by decide +kernel
theorem dSe_keepCloser_23 : decode bSe_keepCloser 23 = .ok (.invokevirtual 113, 3) := by decide +kernel
theorem dSe_keepCloser_26 : decode bSe_keepCloser 26 = .ok (.ifCond .eq 16, 3) := by decide +kernel
theorem dSe_keepCloser_29 : decode bSe_keepCloser 29 = .ok (.aload_n 0, 1) := by decide +kernel
theorem dSe_keepCloser_30 : decode bSe_keepCloser 30 = .ok (.getfield 18, 3) := by decide +kernel
theorem dSe_keepCloser_33 : decode bSe_keepCloser 33 = .ok (.aload_n 1, 1) := by decide +kernel
theorem dSe_keepCloser_34 : decode bSe_keepCloser 34 = .ok (.invokevirtual 116, 3) := by decide +kernel
theorem dSe_keepCloser_37 : decode bSe_keepCloser 37 = .ok (.aload_n 0, 1) := by decide +kernel
theorem dSe_keepCloser_38 : decode bSe_keepCloser 38 = .ok (.lload_n 2, 1) := by decide +kernel
theorem dSe_keepCloser_39 : decode bSe_keepCloser 39 = .ok (.putfield 84, 3) := by decide +kernel
theorem dSe_keepCloser_42 : decode bSe_keepCloser 42 = .ok (.return_, 1) := by decide +kernel
abbrev wSe_keepCloser : List Cond := Cond.code ySe_keepCloser bSe_keepCloser 4 none   :: tbl
theorem kcSe_keepCloser : Cond.code ySe_keepCloser bSe_keepCloser 4 none ∈ tbl := tb3 67 (by decide +kernel) (by decide +kernel)
theorem kiSe_keepCloser : Cond.instanceMethod ySe_keepCloser ∈ tbl := tb3 66 (by decide +kernel) (by decide +kernel)
theorem ksSe_keepCloser : Cond.selects ySe_keepCloser.cls ySe_keepCloser ySe_keepCloser ∈ tbl := tb0 24 (by decide +kernel) (by decide +kernel)
theorem kfSe_11 : Cond.fieldLink RSe 11 (TSe 0).1 (TSe 0).2.1 (TSe 0).2.2.1 ∈ tbl := tb1 151 (by decide +kernel) (by decide +kernel)
theorem kfSe_18 : Cond.fieldLink RSe 18 (TSe 2).1 (TSe 2).2.1 (TSe 2).2.2.1 ∈ tbl := tb1 155 (by decide +kernel) (by decide +kernel)
theorem kfSe_22 : Cond.fieldLink RSe 22 (TSe 4).1 (TSe 4).2.1 (TSe 4).2.2.1 ∈ tbl := tb1 159 (by decide +kernel) (by decide +kernel)
theorem kfSe_26 : Cond.fieldLink RSe 26 (TSe 5).1 (TSe 5).2.1 (TSe 5).2.2.1 ∈ tbl := tb1 160 (by decide +kernel) (by decide +kernel)
theorem kfSe_30 : Cond.fieldLink RSe 30 (TSe 7).1 (TSe 7).2.1 (TSe 7).2.2.1 ∈ tbl := tb1 162 (by decide +kernel) (by decide +kernel)
theorem kfSe_33 : Cond.fieldLink RSe 33 (TSe 9).1 (TSe 9).2.1 (TSe 9).2.2.1 ∈ tbl := tb1 164 (by decide +kernel) (by decide +kernel)
theorem kfSe_36 : Cond.fieldLink RSe 36 (TSe 1).1 (TSe 1).2.1 (TSe 1).2.2.1 ∈ tbl := tb1 153 (by decide +kernel) (by decide +kernel)
theorem kfSe_40 : Cond.fieldLink RSe 40 (TTr 0).1 (TTr 0).2.1 (TTr 0).2.2.1 ∈ tbl := tb1 116 (by decide +kernel) (by decide +kernel)
theorem kfSe_49 : Cond.fieldLink RSe 49 (TSe 6).1 (TSe 6).2.1 (TSe 6).2.2.1 ∈ tbl := tb1 161 (by decide +kernel) (by decide +kernel)
theorem kfSe_56 : Cond.fieldLink RSe 56 (TPa 1).1 (TPa 1).2.1 (TPa 1).2.2.1 ∈ tbl := tb1 99 (by decide +kernel) (by decide +kernel)
theorem kfSe_61 : Cond.fieldLink RSe 61 (TPa 3).1 (TPa 3).2.1 (TPa 3).2.2.1 ∈ tbl := tb1 104 (by decide +kernel) (by decide +kernel)
theorem kfSe_68 : Cond.fieldLink RSe 68 (TPa 0).1 (TPa 0).2.1 (TPa 0).2.2.1 ∈ tbl := tb1 97 (by decide +kernel) (by decide +kernel)
theorem kfSe_75 : Cond.fieldLink RSe 75 (TBo 4).1 (TBo 4).2.1 (TBo 4).2.2.1 ∈ tbl := tb1 72 (by decide +kernel) (by decide +kernel)
theorem kfSe_82 : Cond.constantLong RSe 82 (9223372036854775807) ∈ tbl := tb3 55 (by decide +kernel) (by decide +kernel)
theorem kfSe_84 : Cond.fieldLink RSe 84 (TSe 3).1 (TSe 3).2.1 (TSe 3).2.2.1 ∈ tbl := tb1 157 (by decide +kernel) (by decide +kernel)
theorem kfSe_103 : Cond.fieldLink RSe 103 (TSe 8).1 (TSe 8).2.1 (TSe 8).2.2.1 ∈ tbl := tb1 163 (by decide +kernel) (by decide +kernel)
end
section
abbrev bFa_init : ByteArray := prog_1_method_1_code
def yFa_init : MethodName := ⟨RFa, "<init>", "()V"⟩
abbrev bFa_insert : ByteArray := prog_1_method_2_code
def yFa_insert : MethodName := ⟨RFa, "insert", "(IIIII)I"⟩
abbrev bFa_delete : ByteArray := prog_1_method_3_code
def yFa_delete : MethodName := ⟨RFa, "delete", "(IIIII)I"⟩
abbrev bFa_take : ByteArray := prog_1_method_4_code
def yFa_take : MethodName := ⟨RFa, "take", "(IIII)I"⟩
abbrev bFa_cut : ByteArray := prog_1_method_5_code
def yFa_cut : MethodName := ⟨RFa, "cut", "(I)Z"⟩
abbrev bFa_stop : ByteArray := prog_1_method_6_code
def yFa_stop : MethodName := ⟨RFa, "stop", "()Z"⟩
abbrev bFa_start : ByteArray := prog_1_method_7_code
def yFa_start : MethodName := ⟨RFa, "start", "()Z"⟩
abbrev bFa_up : ByteArray := prog_1_method_8_code
def yFa_up : MethodName := ⟨RFa, "up", "()Z"⟩
abbrev bFa_size : ByteArray := prog_1_method_9_code
def yFa_size : MethodName := ⟨RFa, "size", "()I"⟩
abbrev bFa_count : ByteArray := prog_1_method_10_code
def yFa_count : MethodName := ⟨RFa, "count", "(IIII)I"⟩
abbrev bFa_within : ByteArray := prog_1_method_11_code
def yFa_within : MethodName := ⟨RFa, "within", "(IIII)I"⟩
abbrev bFa_pick : ByteArray := prog_1_method_12_code
def yFa_pick : MethodName := ⟨RFa, "pick", "(IIIII)I"⟩
abbrev bFa_distance : ByteArray := prog_1_method_13_code
def yFa_distance : MethodName := ⟨RFa, "distance", "(II)J"⟩
abbrev bFa_nearest : ByteArray := prog_1_method_14_code
def yFa_nearest : MethodName := ⟨RFa, "nearest", "(II)I"⟩
abbrev bFa_around : ByteArray := prog_1_method_15_code
def yFa_around : MethodName := ⟨RFa, "around", "(I)I"⟩
abbrev bFa_sound : ByteArray := prog_1_method_16_code
def yFa_sound : MethodName := ⟨RFa, "sound", "()Z"⟩
abbrev bFa_frugal : ByteArray := prog_1_method_17_code
def yFa_frugal : MethodName := ⟨RFa, "frugal", "()Z"⟩
abbrev bFa_isName : ByteArray := prog_1_method_18_code
def yFa_isName : MethodName := ⟨RFa, "isName", "(I)Z"⟩
abbrev bFa_isCoordinate : ByteArray := prog_1_method_19_code
def yFa_isCoordinate : MethodName := ⟨RFa, "isCoordinate", "(I)Z"⟩
abbrev bFa_isRectangle : ByteArray := prog_1_method_20_code
def yFa_isRectangle : MethodName := ⟨RFa, "isRectangle", "(IIII)Z"⟩
abbrev bFa_searchWindow : ByteArray := prog_1_method_21_code
def yFa_searchWindow : MethodName := ⟨RFa, "searchWindow", "(IIII)V"⟩
abbrev bFa_noteThrift : ByteArray := prog_1_method_22_code
def yFa_noteThrift : MethodName := ⟨RFa, "noteThrift", "()V"⟩
abbrev bFa_searchPoint : ByteArray := prog_1_method_23_code
def yFa_searchPoint : MethodName := ⟨RFa, "searchPoint", "(II)V"⟩
abbrev bFa_settle : ByteArray := prog_1_method_24_code
def yFa_settle : MethodName := ⟨RFa, "settle", "(I)I"⟩
abbrev bFa_losePower : ByteArray := prog_1_method_25_code
def yFa_losePower : MethodName := ⟨RFa, "losePower", "()V"⟩
theorem dFa_init_0 : decode bFa_init 0 = .ok (.aload_n 0, 1) := by decide +kernel
theorem dFa_init_1 : decode bFa_init 1 = .ok (.invokespecial 3, 3) := by decide +kernel
theorem dFa_init_4 : decode bFa_init 4 = .ok (.aload_n 0, 1) := by decide +kernel
theorem dFa_init_5 : decode bFa_init 5 = .ok (.new 9, 3) := by decide +kernel
theorem dFa_init_8 : decode bFa_init 8 = .ok (.dup, 1) := by decide +kernel
theorem dFa_init_9 : decode bFa_init 9 = .ok (.invokespecial 11, 3) := by decide +kernel
theorem dFa_init_12 : decode bFa_init 12 = .ok (.putfield 12, 3) := by decide +kernel
theorem dFa_init_15 : decode bFa_init 15 = .ok (.aload_n 0, 1) := by decide +kernel
theorem dFa_init_16 : decode bFa_init 16 = .ok (.new 16, 3) := by decide +kernel
theorem dFa_init_19 : decode bFa_init 19 = .ok (.dup, 1) := by decide +kernel
theorem dFa_init_20 : decode bFa_init 20 = .ok (.invokespecial 18, 3) := by decide +kernel
theorem dFa_init_23 : decode bFa_init 23 = .ok (.putfield 19, 3) := by decide +kernel
theorem dFa_init_26 : decode bFa_init 26 = .ok (.aload_n 0, 1) := by decide +kernel
theorem dFa_init_27 : decode bFa_init 27 = .ok (.new 23, 3) := by decide +kernel
theorem dFa_init_30 : decode bFa_init 30 = .ok (.dup, 1) := by decide +kernel
theorem dFa_init_31 : decode bFa_init 31 = .ok (.invokespecial 25, 3) := by decide +kernel
theorem dFa_init_34 : decode bFa_init 34 = .ok (.putfield 26, 3) := by decide +kernel
theorem dFa_init_37 : decode bFa_init 37 = .ok (.aload_n 0, 1) := by decide +kernel
theorem dFa_init_38 : decode bFa_init 38 = .ok (.new 30, 3) := by decide +kernel
theorem dFa_init_41 : decode bFa_init 41 = .ok (.dup, 1) := by decide +kernel
theorem dFa_init_42 : decode bFa_init 42 = .ok (.invokespecial 32, 3) := by decide +kernel
theorem dFa_init_45 : decode bFa_init 45 = .ok (.putfield 33, 3) := by decide +kernel
theorem dFa_init_48 : decode bFa_init 48 = .ok (.aload_n 0, 1) := by decide +kernel
theorem dFa_init_49 : decode bFa_init 49 = .ok (.iconst 1, 1) := by decide +kernel
theorem dFa_init_50 : decode bFa_init 50 = .ok (.putfield 37, 3) := by decide +kernel
theorem dFa_init_53 : decode bFa_init 53 = .ok (.aload_n 0, 1) := by decide +kernel
theorem dFa_init_54 : decode bFa_init 54 = .ok (.iconst 1, 1) := by decide +kernel
theorem dFa_init_55 : decode bFa_init 55 = .ok (.putfield 41, 3) := by decide +kernel
theorem dFa_init_58 : decode bFa_init 58 = .ok (.aload_n 0, 1) := by decide +kernel
theorem dFa_init_59 : decode bFa_init 59 = .ok (.iconst (-1), 1) := by decide +kernel
theorem dFa_init_60 : decode bFa_init 60 = .ok (.putfield 44, 3) := by decide +kernel
theorem dFa_init_63 : decode bFa_init 63 = .ok (.return_, 1) := by decide +kernel
abbrev wFa_init : List Cond := Cond.code yFa_init bFa_init 1 none   :: tbl
theorem kcFa_init : Cond.code yFa_init bFa_init 1 none ∈ tbl := tb1 15 (by decide +kernel) (by decide +kernel)
theorem kiFa_init : Cond.instanceMethod yFa_init ∈ tbl := tb1 14 (by decide +kernel) (by decide +kernel)
theorem dFa_insert_0 : decode bFa_insert 0 = .ok (.aload_n 0, 1) := by decide +kernel
theorem dFa_insert_1 : decode bFa_insert 1 = .ok (.getfield 37, 3) := by decide +kernel
theorem dFa_insert_4 : decode bFa_insert 4 = .ok (.ifCond .ne 6, 3) := by decide +kernel
theorem dFa_insert_7 : decode bFa_insert 7 = .ok (.bipush (-3), 2) := by decide +kernel
theorem dFa_insert_9 : decode bFa_insert 9 = .ok (.ireturn, 1) := by decide +kernel
theorem dFa_insert_10 : decode bFa_insert 10 = .ok (.iload_n 1, 1) := by decide +kernel
theorem dFa_insert_11 : decode bFa_insert 11 = .ok (.invokestatic 48, 3) := by decide +kernel
theorem dFa_insert_14 : decode bFa_insert 14 = .ok (.ifCond .eq 15, 3) := by decide +kernel
theorem dFa_insert_17 : decode bFa_insert 17 = .ok (.iload_n 2, 1) := by decide +kernel
theorem dFa_insert_18 : decode bFa_insert 18 = .ok (.iload_n 3, 1) := by decide +kernel
theorem dFa_insert_19 : decode bFa_insert 19 = .ok (.iload 4, 2) := by decide +kernel
theorem dFa_insert_21 : decode bFa_insert 21 = .ok (.iload 5, 2) := by decide +kernel
theorem dFa_insert_23 : decode bFa_insert 23 = .ok (.invokestatic 52, 3) := by decide +kernel
theorem dFa_insert_26 : decode bFa_insert 26 = .ok (.ifCond .ne 5, 3) := by decide +kernel
theorem dFa_insert_29 : decode bFa_insert 29 = .ok (.iconst (-1), 1) := by decide +kernel
theorem dFa_insert_30 : decode bFa_insert 30 = .ok (.ireturn, 1) := by decide +kernel
theorem dFa_insert_31 : decode bFa_insert 31 = .ok (.aload_n 0, 1) := by decide +kernel
theorem dFa_insert_32 : decode bFa_insert 32 = .ok (.getfield 19, 3) := by decide +kernel
theorem dFa_insert_35 : decode bFa_insert 35 = .ok (.getfield 56, 3) := by decide +kernel
theorem dFa_insert_38 : decode bFa_insert 38 = .ok (.bipush 40, 2) := by decide +kernel
theorem dFa_insert_40 : decode bFa_insert 40 = .ok (.if_icmp .lt 6, 3) := by decide +kernel
theorem dFa_insert_43 : decode bFa_insert 43 = .ok (.bipush (-2), 2) := by decide +kernel
theorem dFa_insert_45 : decode bFa_insert 45 = .ok (.ireturn, 1) := by decide +kernel
theorem dFa_insert_46 : decode bFa_insert 46 = .ok (.aload_n 0, 1) := by decide +kernel
theorem dFa_insert_47 : decode bFa_insert 47 = .ok (.getfield 33, 3) := by decide +kernel
theorem dFa_insert_50 : decode bFa_insert 50 = .ok (.iload_n 2, 1) := by decide +kernel
theorem dFa_insert_51 : decode bFa_insert 51 = .ok (.iload_n 3, 1) := by decide +kernel
theorem dFa_insert_52 : decode bFa_insert 52 = .ok (.iload 4, 2) := by decide +kernel
theorem dFa_insert_54 : decode bFa_insert 54 = .ok (.iload 5, 2) := by decide +kernel
theorem dFa_insert_56 : decode bFa_insert 56 = .ok (.iload_n 1, 1) := by decide +kernel
theorem dFa_insert_57 : decode bFa_insert 57 = .ok (.invokevirtual 59, 3) := by decide +kernel
theorem dFa_insert_60 : decode bFa_insert 60 = .ok (.aload_n 0, 1) := by decide +kernel
theorem dFa_insert_61 : decode bFa_insert 61 = .ok (.getfield 19, 3) := by decide +kernel
theorem dFa_insert_64 : decode bFa_insert 64 = .ok (.aload_n 0, 1) := by decide +kernel
theorem dFa_insert_65 : decode bFa_insert 65 = .ok (.getfield 33, 3) := by decide +kernel
theorem dFa_insert_68 : decode bFa_insert 68 = .ok (.invokevirtual 63, 3) := by decide +kernel
theorem dFa_insert_71 : decode bFa_insert 71 = .ok (.aload_n 0, 1) := by decide +kernel
theorem dFa_insert_72 : decode bFa_insert 72 = .ok (.aload_n 0, 1) := by decide +kernel
theorem dFa_insert_73 : decode bFa_insert 73 = .ok (.getfield 19, 3) := by decide +kernel
theorem dFa_insert_76 : decode bFa_insert 76 = .ok (.getfield 56, 3) := by decide +kernel
theorem dFa_insert_79 : decode bFa_insert 79 = .ok (.invokevirtual 67, 3) := by decide +kernel
theorem dFa_insert_82 : decode bFa_insert 82 = .ok (.ireturn, 1) := by decide +kernel
abbrev wFa_insert : List Cond := Cond.code yFa_insert bFa_insert 6 (some .int)   :: tbl
theorem kcFa_insert : Cond.code yFa_insert bFa_insert 6 (some .int) ∈ tbl := tb1 214 (by decide +kernel) (by decide +kernel)
theorem kiFa_insert : Cond.instanceMethod yFa_insert ∈ tbl := tb1 212 (by decide +kernel) (by decide +kernel)
theorem ksFa_insert : Cond.selects yFa_insert.cls yFa_insert yFa_insert ∈ tbl := tb1 213 (by decide +kernel) (by decide +kernel)
theorem dFa_delete_0 : decode bFa_delete 0 = .ok (.aload_n 0, 1) := by decide +kernel
theorem dFa_delete_1 : decode bFa_delete 1 = .ok (.getfield 37, 3) := by decide +kernel
theorem dFa_delete_4 : decode bFa_delete 4 = .ok (.ifCond .ne 6, 3) := by decide +kernel
theorem dFa_delete_7 : decode bFa_delete 7 = .ok (.bipush (-3), 2) := by decide +kernel
theorem dFa_delete_9 : decode bFa_delete 9 = .ok (.ireturn, 1) := by decide +kernel
theorem dFa_delete_10 : decode bFa_delete 10 = .ok (.iload_n 1, 1) := by decide +kernel
theorem dFa_delete_11 : decode bFa_delete 11 = .ok (.invokestatic 48, 3) := by decide +kernel
theorem dFa_delete_14 : decode bFa_delete 14 = .ok (.ifCond .eq 15, 3) := by decide +kernel
theorem dFa_delete_17 : decode bFa_delete 17 = .ok (.iload_n 2, 1) := by decide +kernel
theorem dFa_delete_18 : decode bFa_delete 18 = .ok (.iload_n 3, 1) := by decide +kernel
theorem dFa_delete_19 : decode bFa_delete 19 = .ok (.iload 4, 2) := by decide +kernel
theorem dFa_delete_21 : decode bFa_delete 21 = .ok (.iload 5, 2) := by decide +kernel
theorem dFa_delete_23 : decode bFa_delete 23 = .ok (.invokestatic 52, 3) := by decide +kernel
theorem dFa_delete_26 : decode bFa_delete 26 = .ok (.ifCond .ne 5, 3) := by decide +kernel
theorem dFa_delete_29 : decode bFa_delete 29 = .ok (.iconst (-1), 1) := by decide +kernel
theorem dFa_delete_30 : decode bFa_delete 30 = .ok (.ireturn, 1) := by decide +kernel
theorem dFa_delete_31 : decode bFa_delete 31 = .ok (.aload_n 0, 1) := by decide +kernel
theorem dFa_delete_32 : decode bFa_delete 32 = .ok (.getfield 33, 3) := by decide +kernel
theorem dFa_delete_35 : decode bFa_delete 35 = .ok (.iload_n 2, 1) := by decide +kernel
theorem dFa_delete_36 : decode bFa_delete 36 = .ok (.iload_n 3, 1) := by decide +kernel
theorem dFa_delete_37 : decode bFa_delete 37 = .ok (.iload 4, 2) := by decide +kernel
theorem dFa_delete_39 : decode bFa_delete 39 = .ok (.iload 5, 2) := by decide +kernel
theorem dFa_delete_41 : decode bFa_delete 41 = .ok (.iload_n 1, 1) := by decide +kernel
theorem dFa_delete_42 : decode bFa_delete 42 = .ok (.invokevirtual 59, 3) := by decide +kernel
theorem dFa_delete_45 : decode bFa_delete 45 = .ok (.aload_n 0, 1) := by decide +kernel
theorem dFa_delete_46 : decode bFa_delete 46 = .ok (.getfield 19, 3) := by decide +kernel
theorem dFa_delete_49 : decode bFa_delete 49 = .ok (.aload_n 0, 1) := by decide +kernel
theorem dFa_delete_50 : decode bFa_delete 50 = .ok (.getfield 33, 3) := by decide +kernel
theorem dFa_delete_53 : decode bFa_delete 53 = .ok (.invokevirtual 71, 3) := by decide +kernel
theorem dFa_delete_56 : decode bFa_delete 56 = .ok (.ifCond .eq 17, 3) := by decide +kernel
theorem dFa_delete_59 : decode bFa_delete 59 = .ok (.aload_n 0, 1) := by decide +kernel
theorem dFa_delete_60 : decode bFa_delete 60 = .ok (.aload_n 0, 1) := by decide +kernel
theorem dFa_delete_61 : decode bFa_delete 61 = .ok (.getfield 19, 3) := by decide +kernel
theorem dFa_delete_64 : decode bFa_delete 64 = .ok (.getfield 56, 3) := by decide +kernel
theorem dFa_delete_67 : decode bFa_delete 67 = .ok (.invokevirtual 67, 3) := by decide +kernel
theorem dFa_delete_70 : decode bFa_delete 70 = .ok (.goto 4, 3) := by decide +kernel
theorem dFa_delete_73 : decode bFa_delete 73 = .ok (.iconst (-1), 1) := by decide +kernel
theorem dFa_delete_74 : decode bFa_delete 74 = .ok (.ireturn, 1) := by decide +kernel
abbrev wFa_delete : List Cond := Cond.code yFa_delete bFa_delete 6 (some .int)   :: tbl
theorem kcFa_delete : Cond.code yFa_delete bFa_delete 6 (some .int) ∈ tbl := tb2 170 (by decide +kernel) (by decide +kernel)
theorem kiFa_delete : Cond.instanceMethod yFa_delete ∈ tbl := tb2 168 (by decide +kernel) (by decide +kernel)
theorem ksFa_delete : Cond.selects yFa_delete.cls yFa_delete yFa_delete ∈ tbl := tb2 169 (by decide +kernel) (by decide +kernel)
theorem dFa_take_0 : decode bFa_take 0 = .ok (.aload_n 0, 1) := by decide +kernel
theorem dFa_take_1 : decode bFa_take 1 = .ok (.getfield 37, 3) := by decide +kernel
theorem dFa_take_4 : decode bFa_take 4 = .ok (.ifCond .ne 6, 3) := by decide +kernel
theorem dFa_take_7 : decode bFa_take 7 = .ok (.bipush (-3), 2) := by decide +kernel
theorem dFa_take_9 : decode bFa_take 9 = .ok (.ireturn, 1) := by decide +kernel
theorem dFa_take_10 : decode bFa_take 10 = .ok (.iload_n 1, 1) := by decide +kernel
theorem dFa_take_11 : decode bFa_take 11 = .ok (.iload_n 2, 1) := by decide +kernel
theorem dFa_take_12 : decode bFa_take 12 = .ok (.iload_n 3, 1) := by decide +kernel
theorem dFa_take_13 : decode bFa_take 13 = .ok (.iload 4, 2) := by decide +kernel
theorem dFa_take_15 : decode bFa_take 15 = .ok (.invokestatic 52, 3) := by decide +kernel
theorem dFa_take_18 : decode bFa_take 18 = .ok (.ifCond .ne 5, 3) := by decide +kernel
theorem dFa_take_21 : decode bFa_take 21 = .ok (.iconst (-1), 1) := by decide +kernel
theorem dFa_take_22 : decode bFa_take 22 = .ok (.ireturn, 1) := by decide +kernel
theorem dFa_take_23 : decode bFa_take 23 = .ok (.aload_n 0, 1) := by decide +kernel
theorem dFa_take_24 : decode bFa_take 24 = .ok (.iload_n 1, 1) := by decide +kernel
theorem dFa_take_25 : decode bFa_take 25 = .ok (.iload_n 2, 1) := by decide +kernel
theorem dFa_take_26 : decode bFa_take 26 = .ok (.iload_n 3, 1) := by decide +kernel
theorem dFa_take_27 : decode bFa_take 27 = .ok (.iload 4, 2) := by decide +kernel
theorem dFa_take_29 : decode bFa_take 29 = .ok (.invokevirtual 75, 3) := by decide +kernel
theorem dFa_take_32 : decode bFa_take 32 = .ok (.aload_n 0, 1) := by decide +kernel
theorem dFa_take_33 : decode bFa_take 33 = .ok (.getfield 26, 3) := by decide +kernel
theorem dFa_take_36 : decode bFa_take 36 = .ok (.getfield 79, 3) := by decide +kernel
theorem dFa_take_39 : decode bFa_take 39 = .ok (.ifCond .ne 5, 3) := by decide +kernel
theorem dFa_take_42 : decode bFa_take 42 = .ok (.iconst (-1), 1) := by decide +kernel
theorem dFa_take_43 : decode bFa_take 43 = .ok (.ireturn, 1) := by decide +kernel
theorem dFa_take_44 : decode bFa_take 44 = .ok (.aload_n 0, 1) := by decide +kernel
theorem dFa_take_45 : decode bFa_take 45 = .ok (.getfield 26, 3) := by decide +kernel
theorem dFa_take_48 : decode bFa_take 48 = .ok (.getfield 82, 3) := by decide +kernel
theorem dFa_take_51 : decode bFa_take 51 = .ok (.iconst 0, 1) := by decide +kernel
theorem dFa_take_52 : decode bFa_take 52 = .ok (.aaload, 1) := by decide +kernel
theorem dFa_take_53 : decode bFa_take 53 = .ok (.astore 5, 2) := by decide +kernel
theorem dFa_take_55 : decode bFa_take 55 = .ok (.aload_n 0, 1) := by decide +kernel
theorem dFa_take_56 : decode bFa_take 56 = .ok (.getfield 19, 3) := by decide +kernel
theorem dFa_take_59 : decode bFa_take 59 = .ok (.aload 5, 2) := by decide +kernel
theorem dFa_take_61 : decode bFa_take 61 = .ok (.invokevirtual 71, 3) := by decide +kernel
theorem dFa_take_64 : decode bFa_take 64 = .ok (.ifCond .eq 15, 3) := by decide +kernel
theorem dFa_take_67 : decode bFa_take 67 = .ok (.aload_n 0, 1) := by decide +kernel
theorem dFa_take_68 : decode bFa_take 68 = .ok (.aload 5, 2) := by decide +kernel
theorem dFa_take_70 : decode bFa_take 70 = .ok (.getfield 86, 3) := by decide +kernel
theorem dFa_take_73 : decode bFa_take 73 = .ok (.invokevirtual 67, 3) := by decide +kernel
theorem dFa_take_76 : decode bFa_take 76 = .ok (.goto 4, 3) := by decide +kernel
theorem dFa_take_79 : decode bFa_take 79 = .ok (.iconst (-1), 1) := by decide +kernel
theorem dFa_take_80 : decode bFa_take 80 = .ok (.ireturn, 1) := by decide +kernel
abbrev wFa_take : List Cond := Cond.code yFa_take bFa_take 6 (some .int)   :: tbl
theorem kcFa_take : Cond.code yFa_take bFa_take 6 (some .int) ∈ tbl := tb2 185 (by decide +kernel) (by decide +kernel)
theorem kiFa_take : Cond.instanceMethod yFa_take ∈ tbl := tb2 183 (by decide +kernel) (by decide +kernel)
theorem ksFa_take : Cond.selects yFa_take.cls yFa_take yFa_take ∈ tbl := tb2 184 (by decide +kernel) (by decide +kernel)
theorem dFa_cut_0 : decode bFa_cut 0 = .ok (.iload_n 1, 1) := by decide +kernel
theorem dFa_cut_1 : decode bFa_cut 1 = .ok (.iconst (-1), 1) := by decide +kernel
theorem dFa_cut_2 : decode bFa_cut 2 = .ok (.if_icmp .lt 8, 3) := by decide +kernel
theorem dFa_cut_5 : decode bFa_cut 5 = .ok (.iload_n 1, 1) := by decide +kernel
theorem dFa_cut_6 : decode bFa_cut 6 = .ok (.iconst 5, 1) := by decide +kernel
theorem dFa_cut_7 : decode bFa_cut 7 = .ok (.if_icmp .le 5, 3) := by decide +kernel
theorem dFa_cut_10 : decode bFa_cut 10 = .ok (.iconst 0, 1) := by decide +kernel
theorem dFa_cut_11 : decode bFa_cut 11 = .ok (.ireturn, 1) := by decide +kernel
theorem dFa_cut_12 : decode bFa_cut 12 = .ok (.aload_n 0, 1) := by decide +kernel
theorem dFa_cut_13 : decode bFa_cut 13 = .ok (.iload_n 1, 1) := by decide +kernel
theorem dFa_cut_14 : decode bFa_cut 14 = .ok (.putfield 44, 3) := by decide +kernel
theorem dFa_cut_17 : decode bFa_cut 17 = .ok (.iconst 1, 1) := by decide +kernel
theorem dFa_cut_18 : decode bFa_cut 18 = .ok (.ireturn, 1) := by decide +kernel
abbrev wFa_cut : List Cond := Cond.code yFa_cut bFa_cut 2 (some .boolean)   :: tbl
theorem kcFa_cut : Cond.code yFa_cut bFa_cut 2 (some .boolean) ∈ tbl := tb2 223 (by decide +kernel) (by decide +kernel)
theorem kiFa_cut : Cond.instanceMethod yFa_cut ∈ tbl := tb2 221 (by decide +kernel) (by decide +kernel)
theorem ksFa_cut : Cond.selects yFa_cut.cls yFa_cut yFa_cut ∈ tbl := tb2 222 (by decide +kernel) (by decide +kernel)
theorem dFa_stop_0 : decode bFa_stop 0 = .ok (.aload_n 0, 1) := by decide +kernel
theorem dFa_stop_1 : decode bFa_stop 1 = .ok (.getfield 37, 3) := by decide +kernel
theorem dFa_stop_4 : decode bFa_stop 4 = .ok (.ifCond .ne 5, 3) := by decide +kernel
theorem dFa_stop_7 : decode bFa_stop 7 = .ok (.iconst 0, 1) := by decide +kernel
theorem dFa_stop_8 : decode bFa_stop 8 = .ok (.ireturn, 1) := by decide +kernel
theorem dFa_stop_9 : decode bFa_stop 9 = .ok (.aload_n 0, 1) := by decide +kernel
theorem dFa_stop_10 : decode bFa_stop 10 = .ok (.invokevirtual 89, 3) := by decide +kernel
theorem dFa_stop_13 : decode bFa_stop 13 = .ok (.iconst 1, 1) := by decide +kernel
theorem dFa_stop_14 : decode bFa_stop 14 = .ok (.ireturn, 1) := by decide +kernel
abbrev wFa_stop : List Cond := Cond.code yFa_stop bFa_stop 1 (some .boolean)   :: tbl
theorem kcFa_stop : Cond.code yFa_stop bFa_stop 1 (some .boolean) ∈ tbl := tb2 227 (by decide +kernel) (by decide +kernel)
theorem kiFa_stop : Cond.instanceMethod yFa_stop ∈ tbl := tb2 225 (by decide +kernel) (by decide +kernel)
theorem ksFa_stop : Cond.selects yFa_stop.cls yFa_stop yFa_stop ∈ tbl := tb2 226 (by decide +kernel) (by decide +kernel)
theorem dFa_start_0 : decode bFa_start 0 = .ok (.aload_n 0, 1) := by decide +kernel
theorem dFa_start_1 : decode bFa_start 1 = .ok (.getfield 37, 3) := by decide +kernel
theorem dFa_start_4 : decode bFa_start 4 = .ok (.ifCond .eq 5, 3) := by decide +kernel
theorem dFa_start_7 : decode bFa_start 7 = .ok (.iconst 0, 1) := by decide +kernel
theorem dFa_start_8 : decode bFa_start 8 = .ok (.ireturn, 1) := by decide +kernel
theorem dFa_start_9 : decode bFa_start 9 = .ok (.aload_n 0, 1) := by decide +kernel
theorem dFa_start_10 : decode bFa_start 10 = .ok (.getfield 12, 3) := by decide +kernel
theorem dFa_start_13 : decode bFa_start 13 = .ok (.invokevirtual 92, 3) := by decide +kernel
theorem dFa_start_16 : decode bFa_start 16 = .ok (.aload_n 0, 1) := by decide +kernel
theorem dFa_start_17 : decode bFa_start 17 = .ok (.getfield 19, 3) := by decide +kernel
theorem dFa_start_20 : decode bFa_start 20 = .ok (.aload_n 0, 1) := by decide +kernel
theorem dFa_start_21 : decode bFa_start 21 = .ok (.getfield 12, 3) := by decide +kernel
theorem dFa_start_24 : decode bFa_start 24 = .ok (.invokevirtual 95, 3) := by decide +kernel
theorem dFa_start_27 : decode bFa_start 27 = .ok (.aload_n 0, 1) := by decide +kernel
theorem dFa_start_28 : decode bFa_start 28 = .ok (.iconst 1, 1) := by decide +kernel
theorem dFa_start_29 : decode bFa_start 29 = .ok (.putfield 37, 3) := by decide +kernel
theorem dFa_start_32 : decode bFa_start 32 = .ok (.iconst 1, 1) := by decide +kernel
theorem dFa_start_33 : decode bFa_start 33 = .ok (.ireturn, 1) := by decide +kernel
abbrev wFa_start : List Cond := Cond.code yFa_start bFa_start 1 (some .boolean)   :: tbl
theorem kcFa_start : Cond.code yFa_start bFa_start 1 (some .boolean) ∈ tbl := tb2 231 (by decide +kernel) (by decide +kernel)
theorem kiFa_start : Cond.instanceMethod yFa_start ∈ tbl := tb2 229 (by decide +kernel) (by decide +kernel)
theorem ksFa_start : Cond.selects yFa_start.cls yFa_start yFa_start ∈ tbl := tb2 230 (by decide +kernel) (by decide +kernel)
theorem dFa_up_0 : decode bFa_up 0 = .ok (.aload_n 0, 1) := by decide +kernel
theorem dFa_up_1 : decode bFa_up 1 = .ok (.getfield 37, 3) := by decide +kernel
theorem dFa_up_4 : decode bFa_up 4 = .ok (.ireturn, 1) := by decide +kernel
abbrev wFa_up : List Cond := Cond.code yFa_up bFa_up 1 (some .boolean)   :: tbl
theorem kcFa_up : Cond.code yFa_up bFa_up 1 (some .boolean) ∈ tbl := tb3 10 (by decide +kernel) (by decide +kernel)
theorem kiFa_up : Cond.instanceMethod yFa_up ∈ tbl := tb3 8 (by decide +kernel) (by decide +kernel)
theorem ksFa_up : Cond.selects yFa_up.cls yFa_up yFa_up ∈ tbl := tb3 9 (by decide +kernel) (by decide +kernel)
theorem dFa_size_0 : decode bFa_size 0 = .ok (.aload_n 0, 1) := by decide +kernel
theorem dFa_size_1 : decode bFa_size 1 = .ok (.getfield 37, 3) := by decide +kernel
theorem dFa_size_4 : decode bFa_size 4 = .ok (.ifCond .eq 13, 3) := by decide +kernel
theorem dFa_size_7 : decode bFa_size 7 = .ok (.aload_n 0, 1) := by decide +kernel
theorem dFa_size_8 : decode bFa_size 8 = .ok (.getfield 19, 3) := by decide +kernel
theorem dFa_size_11 : decode bFa_size 11 = .ok (.getfield 56, 3) := by decide +kernel
theorem dFa_size_14 : decode bFa_size 14 = .ok (.goto 5, 3) := by decide +kernel
theorem dFa_size_17 : decode bFa_size 17 = .ok (.bipush (-3), 2) := by decide +kernel
theorem dFa_size_19 : decode bFa_size 19 = .ok (.ireturn, 1) := by decide +kernel
abbrev wFa_size : List Cond := Cond.code yFa_size bFa_size 1 (some .int)   :: tbl
theorem kcFa_size : Cond.code yFa_size bFa_size 1 (some .int) ∈ tbl := tb3 14 (by decide +kernel) (by decide +kernel)
theorem kiFa_size : Cond.instanceMethod yFa_size ∈ tbl := tb3 12 (by decide +kernel) (by decide +kernel)
theorem ksFa_size : Cond.selects yFa_size.cls yFa_size yFa_size ∈ tbl := tb3 13 (by decide +kernel) (by decide +kernel)
theorem dFa_count_0 : decode bFa_count 0 = .ok (.aload_n 0, 1) := by decide +kernel
theorem dFa_count_1 : decode bFa_count 1 = .ok (.getfield 37, 3) := by decide +kernel
theorem dFa_count_4 : decode bFa_count 4 = .ok (.ifCond .ne 6, 3) := by decide +kernel
theorem dFa_count_7 : decode bFa_count 7 = .ok (.bipush (-3), 2) := by decide +kernel
theorem dFa_count_9 : decode bFa_count 9 = .ok (.ireturn, 1) := by decide +kernel
theorem dFa_count_10 : decode bFa_count 10 = .ok (.iload_n 1, 1) := by decide +kernel
theorem dFa_count_11 : decode bFa_count 11 = .ok (.iload_n 2, 1) := by decide +kernel
theorem dFa_count_12 : decode bFa_count 12 = .ok (.iload_n 3, 1) := by decide +kernel
theorem dFa_count_13 : decode bFa_count 13 = .ok (.iload 4, 2) := by decide +kernel
theorem dFa_count_15 : decode bFa_count 15 = .ok (.invokestatic 52, 3) := by decide +kernel
theorem dFa_count_18 : decode bFa_count 18 = .ok (.ifCond .ne 5, 3) := by decide +kernel
theorem dFa_count_21 : decode bFa_count 21 = .ok (.iconst (-1), 1) := by decide +kernel
theorem dFa_count_22 : decode bFa_count 22 = .ok (.ireturn, 1) := by decide +kernel
theorem dFa_count_23 : decode bFa_count 23 = .ok (.aload_n 0, 1) := by decide +kernel
theorem dFa_count_24 : decode bFa_count 24 = .ok (.iload_n 1, 1) := by decide +kernel
theorem dFa_count_25 : decode bFa_count 25 = .ok (.iload_n 2, 1) := by decide +kernel
theorem dFa_count_26 : decode bFa_count 26 = .ok (.iload_n 3, 1) := by decide +kernel
theorem dFa_count_27 : decode bFa_count 27 = .ok (.iload 4, 2) := by decide +kernel
theorem dFa_count_29 : decode bFa_count 29 = .ok (.invokevirtual 75, 3) := by decide +kernel
theorem dFa_count_32 : decode bFa_count 32 = .ok (.aload_n 0, 1) := by decide +kernel
theorem dFa_count_33 : decode bFa_count 33 = .ok (.invokevirtual 99, 3) := by decide +kernel
theorem dFa_count_36 : decode bFa_count 36 = .ok (.aload_n 0, 1) := by decide +kernel
theorem dFa_count_37 : decode bFa_count 37 = .ok (.getfield 26, 3) := by decide +kernel
theorem dFa_count_40 : decode bFa_count 40 = .ok (.getfield 79, 3) := by decide +kernel
theorem dFa_count_43 : decode bFa_count 43 = .ok (.ireturn, 1) := by decide +kernel
abbrev wFa_count : List Cond := Cond.code yFa_count bFa_count 5 (some .int)   :: tbl
theorem kcFa_count : Cond.code yFa_count bFa_count 5 (some .int) ∈ tbl := tb3 18 (by decide +kernel) (by decide +kernel)
theorem kiFa_count : Cond.instanceMethod yFa_count ∈ tbl := tb3 16 (by decide +kernel) (by decide +kernel)
theorem ksFa_count : Cond.selects yFa_count.cls yFa_count yFa_count ∈ tbl := tb3 17 (by decide +kernel) (by decide +kernel)
theorem dFa_within_0 : decode bFa_within 0 = .ok (.aload_n 0, 1) := by decide +kernel
theorem dFa_within_1 : decode bFa_within 1 = .ok (.getfield 37, 3) := by decide +kernel
theorem dFa_within_4 : decode bFa_within 4 = .ok (.ifCond .ne 6, 3) := by decide +kernel
theorem dFa_within_7 : decode bFa_within 7 = .ok (.bipush (-3), 2) := by decide +kernel
theorem dFa_within_9 : decode bFa_within 9 = .ok (.ireturn, 1) := by decide +kernel
theorem dFa_within_10 : decode bFa_within 10 = .ok (.iload_n 1, 1) := by decide +kernel
theorem dFa_within_11 : decode bFa_within 11 = .ok (.iload_n 2, 1) := by decide +kernel
theorem dFa_within_12 : decode bFa_within 12 = .ok (.iload_n 3, 1) := by decide +kernel
theorem dFa_within_13 : decode bFa_within 13 = .ok (.iload 4, 2) := by decide +kernel
theorem dFa_within_15 : decode bFa_within 15 = .ok (.invokestatic 52, 3) := by decide +kernel
theorem dFa_within_18 : decode bFa_within 18 = .ok (.ifCond .ne 5, 3) := by decide +kernel
theorem dFa_within_21 : decode bFa_within 21 = .ok (.iconst (-1), 1) := by decide +kernel
theorem dFa_within_22 : decode bFa_within 22 = .ok (.ireturn, 1) := by decide +kernel
theorem dFa_within_23 : decode bFa_within 23 = .ok (.aload_n 0, 1) := by decide +kernel
theorem dFa_within_24 : decode bFa_within 24 = .ok (.iload_n 1, 1) := by decide +kernel
theorem dFa_within_25 : decode bFa_within 25 = .ok (.iload_n 2, 1) := by decide +kernel
theorem dFa_within_26 : decode bFa_within 26 = .ok (.iload_n 3, 1) := by decide +kernel
theorem dFa_within_27 : decode bFa_within 27 = .ok (.iload 4, 2) := by decide +kernel
theorem dFa_within_29 : decode bFa_within 29 = .ok (.invokevirtual 75, 3) := by decide +kernel
theorem dFa_within_32 : decode bFa_within 32 = .ok (.aload_n 0, 1) := by decide +kernel
theorem dFa_within_33 : decode bFa_within 33 = .ok (.invokevirtual 99, 3) := by decide +kernel
theorem dFa_within_36 : decode bFa_within 36 = .ok (.aload_n 0, 1) := by decide +kernel
theorem dFa_within_37 : decode bFa_within 37 = .ok (.getfield 26, 3) := by decide +kernel
theorem dFa_within_40 : decode bFa_within 40 = .ok (.aload_n 0, 1) := by decide +kernel
theorem dFa_within_41 : decode bFa_within 41 = .ok (.getfield 33, 3) := by decide +kernel
theorem dFa_within_44 : decode bFa_within 44 = .ok (.invokevirtual 102, 3) := by decide +kernel
theorem dFa_within_47 : decode bFa_within 47 = .ok (.ireturn, 1) := by decide +kernel
abbrev wFa_within : List Cond := Cond.code yFa_within bFa_within 5 (some .int)   :: tbl
theorem kcFa_within : Cond.code yFa_within bFa_within 5 (some .int) ∈ tbl := tb3 31 (by decide +kernel) (by decide +kernel)
theorem kiFa_within : Cond.instanceMethod yFa_within ∈ tbl := tb3 29 (by decide +kernel) (by decide +kernel)
theorem ksFa_within : Cond.selects yFa_within.cls yFa_within yFa_within ∈ tbl := tb3 30 (by decide +kernel) (by decide +kernel)
theorem dFa_pick_0 : decode bFa_pick 0 = .ok (.aload_n 0, 1) := by decide +kernel
theorem dFa_pick_1 : decode bFa_pick 1 = .ok (.getfield 37, 3) := by decide +kernel
theorem dFa_pick_4 : decode bFa_pick 4 = .ok (.ifCond .ne 6, 3) := by decide +kernel
theorem dFa_pick_7 : decode bFa_pick 7 = .ok (.bipush (-3), 2) := by decide +kernel
theorem dFa_pick_9 : decode bFa_pick 9 = .ok (.ireturn, 1) := by decide +kernel
theorem dFa_pick_10 : decode bFa_pick 10 = .ok (.iload_n 1, 1) := by decide +kernel
theorem dFa_pick_11 : decode bFa_pick 11 = .ok (.iload_n 2, 1) := by decide +kernel
theorem dFa_pick_12 : decode bFa_pick 12 = .ok (.iload_n 3, 1) := by decide +kernel
theorem dFa_pick_13 : decode bFa_pick 13 = .ok (.iload 4, 2) := by decide +kernel
theorem dFa_pick_15 : decode bFa_pick 15 = .ok (.invokestatic 52, 3) := by decide +kernel
theorem dFa_pick_18 : decode bFa_pick 18 = .ok (.ifCond .ne 5, 3) := by decide +kernel
theorem dFa_pick_21 : decode bFa_pick 21 = .ok (.iconst (-1), 1) := by decide +kernel
theorem dFa_pick_22 : decode bFa_pick 22 = .ok (.ireturn, 1) := by decide +kernel
theorem dFa_pick_23 : decode bFa_pick 23 = .ok (.aload_n 0, 1) := by decide +kernel
theorem dFa_pick_24 : decode bFa_pick 24 = .ok (.iload_n 1, 1) := by decide +kernel
theorem dFa_pick_25 : decode bFa_pick 25 = .ok (.iload_n 2, 1) := by decide +kernel
theorem dFa_pick_26 : decode bFa_pick 26 = .ok (.iload_n 3, 1) := by decide +kernel
theorem dFa_pick_27 : decode bFa_pick 27 = .ok (.iload 4, 2) := by decide +kernel
theorem dFa_pick_29 : decode bFa_pick 29 = .ok (.invokevirtual 75, 3) := by decide +kernel
theorem dFa_pick_32 : decode bFa_pick 32 = .ok (.iload 5, 2) := by decide +kernel
theorem dFa_pick_34 : decode bFa_pick 34 = .ok (.ifCond .lt 15, 3) := by decide +kernel
theorem dFa_pick_37 : decode bFa_pick 37 = .ok (.iload 5, 2) := by decide +kernel
theorem dFa_pick_39 : decode bFa_pick 39 = .ok (.aload_n 0, 1) := by decide +kernel
theorem dFa_pick_40 : decode bFa_pick 40 = .ok (.getfield 26, 3) := by decide +kernel
theorem dFa_pick_43 : decode bFa_pick 43 = .ok (.getfield 79, 3) := by decide +kernel
theorem dFa_pick_46 : decode bFa_pick 46 = .ok (.if_icmp .lt 5, 3) := by decide +kernel
theorem dFa_pick_49 : decode bFa_pick 49 = .ok (.iconst (-1), 1) := by decide +kernel
theorem dFa_pick_50 : decode bFa_pick 50 = .ok (.ireturn, 1) := by decide +kernel
theorem dFa_pick_51 : decode bFa_pick 51 = .ok (.aload_n 0, 1) := by decide +kernel
theorem dFa_pick_52 : decode bFa_pick 52 = .ok (.invokevirtual 99, 3) := by decide +kernel
theorem dFa_pick_55 : decode bFa_pick 55 = .ok (.aload_n 0, 1) := by decide +kernel
theorem dFa_pick_56 : decode bFa_pick 56 = .ok (.getfield 26, 3) := by decide +kernel
theorem dFa_pick_59 : decode bFa_pick 59 = .ok (.getfield 82, 3) := by decide +kernel
theorem dFa_pick_62 : decode bFa_pick 62 = .ok (.iload 5, 2) := by decide +kernel
theorem dFa_pick_64 : decode bFa_pick 64 = .ok (.aaload, 1) := by decide +kernel
theorem dFa_pick_65 : decode bFa_pick 65 = .ok (.getfield 86, 3) := by decide +kernel
theorem dFa_pick_68 : decode bFa_pick 68 = .ok (.ireturn, 1) := by decide +kernel
abbrev wFa_pick : List Cond := Cond.code yFa_pick bFa_pick 6 (some .int)   :: tbl
theorem kcFa_pick : Cond.code yFa_pick bFa_pick 6 (some .int) ∈ tbl := tb3 40 (by decide +kernel) (by decide +kernel)
theorem kiFa_pick : Cond.instanceMethod yFa_pick ∈ tbl := tb3 38 (by decide +kernel) (by decide +kernel)
theorem ksFa_pick : Cond.selects yFa_pick.cls yFa_pick yFa_pick ∈ tbl := tb3 39 (by decide +kernel) (by decide +kernel)
theorem dFa_distance_0 : decode bFa_distance 0 = .ok (.aload_n 0, 1) := by decide +kernel
theorem dFa_distance_1 : decode bFa_distance 1 = .ok (.getfield 37, 3) := by decide +kernel
theorem dFa_distance_4 : decode bFa_distance 4 = .ok (.ifCond .ne 7, 3) := by decide +kernel
theorem dFa_distance_7 : decode bFa_distance 7 = .ok (.ldc2_w 106, 3) := by decide +kernel
theorem dFa_distance_10 : decode bFa_distance 10 = .ok (.lreturn, 1) := by decide +kernel
theorem dFa_distance_11 : decode bFa_distance 11 = .ok (.iload_n 1, 1) := by decide +kernel
theorem dFa_distance_12 : decode bFa_distance 12 = .ok (.invokestatic 108, 3) := by decide +kernel
theorem dFa_distance_15 : decode bFa_distance 15 = .ok (.ifCond .eq 20, 3) := by decide +kernel
theorem dFa_distance_18 : decode bFa_distance 18 = .ok (.iload_n 2, 1) := by decide +kernel
theorem dFa_distance_19 : decode bFa_distance 19 = .ok (.invokestatic 108, 3) := by decide +kernel
theorem dFa_distance_22 : decode bFa_distance 22 = .ok (.ifCond .eq 13, 3) := by decide +kernel
theorem dFa_distance_25 : decode bFa_distance 25 = .ok (.aload_n 0, 1) := by decide +kernel
theorem dFa_distance_26 : decode bFa_distance 26 = .ok (.getfield 19, 3) := by decide +kernel
theorem dFa_distance_29 : decode bFa_distance 29 = .ok (.getfield 56, 3) := by decide +kernel
theorem dFa_distance_32 : decode bFa_distance 32 = .ok (.ifCond .ne 7, 3) := by decide +kernel
theorem dFa_distance_35 : decode bFa_distance 35 = .ok (.ldc2_w 111, 3) := by decide +kernel
theorem dFa_distance_38 : decode bFa_distance 38 = .ok (.lreturn, 1) := by decide +kernel
theorem dFa_distance_39 : decode bFa_distance 39 = .ok (.aload_n 0, 1) := by decide +kernel
theorem dFa_distance_40 : decode bFa_distance 40 = .ok (.iload_n 1, 1) := by decide +kernel
theorem dFa_distance_41 : decode bFa_distance 41 = .ok (.iload_n 2, 1) := by decide +kernel
theorem dFa_distance_42 : decode bFa_distance 42 = .ok (.invokevirtual 113, 3) := by decide +kernel
theorem dFa_distance_45 : decode bFa_distance 45 = .ok (.aload_n 0, 1) := by decide +kernel
theorem dFa_distance_46 : decode bFa_distance 46 = .ok (.getfield 26, 3) := by decide +kernel
theorem dFa_distance_49 : decode bFa_distance 49 = .ok (.getfield 117, 3) := by decide +kernel
theorem dFa_distance_52 : decode bFa_distance 52 = .ok (.lreturn, 1) := by decide +kernel
abbrev wFa_distance : List Cond := Cond.code yFa_distance bFa_distance 3 (some .long)   :: tbl
theorem kcFa_distance : Cond.code yFa_distance bFa_distance 3 (some .long) ∈ tbl := tb3 44 (by decide +kernel) (by decide +kernel)
theorem kiFa_distance : Cond.instanceMethod yFa_distance ∈ tbl := tb3 42 (by decide +kernel) (by decide +kernel)
theorem ksFa_distance : Cond.selects yFa_distance.cls yFa_distance yFa_distance ∈ tbl := tb3 43 (by decide +kernel) (by decide +kernel)
theorem dFa_nearest_0 : decode bFa_nearest 0 = .ok (.aload_n 0, 1) := by decide +kernel
theorem dFa_nearest_1 : decode bFa_nearest 1 = .ok (.getfield 37, 3) := by decide +kernel
theorem dFa_nearest_4 : decode bFa_nearest 4 = .ok (.ifCond .ne 6, 3) := by decide +kernel
theorem dFa_nearest_7 : decode bFa_nearest 7 = .ok (.bipush (-3), 2) := by decide +kernel
theorem dFa_nearest_9 : decode bFa_nearest 9 = .ok (.ireturn, 1) := by decide +kernel
theorem dFa_nearest_10 : decode bFa_nearest 10 = .ok (.iload_n 1, 1) := by decide +kernel
theorem dFa_nearest_11 : decode bFa_nearest 11 = .ok (.invokestatic 108, 3) := by decide +kernel
theorem dFa_nearest_14 : decode bFa_nearest 14 = .ok (.ifCond .eq 20, 3) := by decide +kernel
theorem dFa_nearest_17 : decode bFa_nearest 17 = .ok (.iload_n 2, 1) := by decide +kernel
theorem dFa_nearest_18 : decode bFa_nearest 18 = .ok (.invokestatic 108, 3) := by decide +kernel
theorem dFa_nearest_21 : decode bFa_nearest 21 = .ok (.ifCond .eq 13, 3) := by decide +kernel
theorem dFa_nearest_24 : decode bFa_nearest 24 = .ok (.aload_n 0, 1) := by decide +kernel
theorem dFa_nearest_25 : decode bFa_nearest 25 = .ok (.getfield 19, 3) := by decide +kernel
theorem dFa_nearest_28 : decode bFa_nearest 28 = .ok (.getfield 56, 3) := by decide +kernel
theorem dFa_nearest_31 : decode bFa_nearest 31 = .ok (.ifCond .ne 5, 3) := by decide +kernel
theorem dFa_nearest_34 : decode bFa_nearest 34 = .ok (.iconst (-1), 1) := by decide +kernel
theorem dFa_nearest_35 : decode bFa_nearest 35 = .ok (.ireturn, 1) := by decide +kernel
theorem dFa_nearest_36 : decode bFa_nearest 36 = .ok (.aload_n 0, 1) := by decide +kernel
theorem dFa_nearest_37 : decode bFa_nearest 37 = .ok (.iload_n 1, 1) := by decide +kernel
theorem dFa_nearest_38 : decode bFa_nearest 38 = .ok (.iload_n 2, 1) := by decide +kernel
theorem dFa_nearest_39 : decode bFa_nearest 39 = .ok (.invokevirtual 113, 3) := by decide +kernel
theorem dFa_nearest_42 : decode bFa_nearest 42 = .ok (.aload_n 0, 1) := by decide +kernel
theorem dFa_nearest_43 : decode bFa_nearest 43 = .ok (.getfield 26, 3) := by decide +kernel
theorem dFa_nearest_46 : decode bFa_nearest 46 = .ok (.getfield 121, 3) := by decide +kernel
theorem dFa_nearest_49 : decode bFa_nearest 49 = .ok (.getfield 86, 3) := by decide +kernel
theorem dFa_nearest_52 : decode bFa_nearest 52 = .ok (.ireturn, 1) := by decide +kernel
abbrev wFa_nearest : List Cond := Cond.code yFa_nearest bFa_nearest 3 (some .int)   :: tbl
theorem kcFa_nearest : Cond.code yFa_nearest bFa_nearest 3 (some .int) ∈ tbl := tb3 75 (by decide +kernel) (by decide +kernel)
theorem kiFa_nearest : Cond.instanceMethod yFa_nearest ∈ tbl := tb3 73 (by decide +kernel) (by decide +kernel)
theorem ksFa_nearest : Cond.selects yFa_nearest.cls yFa_nearest yFa_nearest ∈ tbl := tb3 74 (by decide +kernel) (by decide +kernel)
theorem dFa_around_0 : decode bFa_around 0 = .ok (.aload_n 0, 1) := by decide +kernel
theorem dFa_around_1 : decode bFa_around 1 = .ok (.getfield 37, 3) := by decide +kernel
theorem dFa_around_4 : decode bFa_around 4 = .ok (.ifCond .eq 13, 3) := by decide +kernel
theorem dFa_around_7 : decode bFa_around 7 = .ok (.aload_n 0, 1) := by decide +kernel
theorem dFa_around_8 : decode bFa_around 8 = .ok (.getfield 19, 3) := by decide +kernel
theorem dFa_around_11 : decode bFa_around 11 = .ok (.getfield 56, 3) := by decide +kernel
theorem dFa_around_14 : decode bFa_around 14 = .ok (.ifCond .ne 6, 3) := by decide +kernel
theorem dFa_around_17 : decode bFa_around 17 = .ok (.ldc 124, 2) := by decide +kernel
theorem dFa_around_19 : decode bFa_around 19 = .ok (.ireturn, 1) := by decide +kernel
theorem dFa_around_20 : decode bFa_around 20 = .ok (.aload_n 0, 1) := by decide +kernel
theorem dFa_around_21 : decode bFa_around 21 = .ok (.getfield 19, 3) := by decide +kernel
theorem dFa_around_24 : decode bFa_around 24 = .ok (.aload_n 0, 1) := by decide +kernel
theorem dFa_around_25 : decode bFa_around 25 = .ok (.getfield 19, 3) := by decide +kernel
theorem dFa_around_28 : decode bFa_around 28 = .ok (.getfield 125, 3) := by decide +kernel
theorem dFa_around_31 : decode bFa_around 31 = .ok (.invokevirtual 128, 3) := by decide +kernel
theorem dFa_around_34 : decode bFa_around 34 = .ok (.iconst (-1), 1) := by decide +kernel
theorem dFa_around_35 : decode bFa_around 35 = .ok (.aload_n 0, 1) := by decide +kernel
theorem dFa_around_36 : decode bFa_around 36 = .ok (.getfield 33, 3) := by decide +kernel
theorem dFa_around_39 : decode bFa_around 39 = .ok (.invokevirtual 132, 3) := by decide +kernel
theorem dFa_around_42 : decode bFa_around 42 = .ok (.iload_n 1, 1) := by decide +kernel
theorem dFa_around_43 : decode bFa_around 43 = .ok (.tableswitch 61 0 3 #[29, 37, 45, 53], 29) := by decide +kernel
theorem dFa_around_72 : decode bFa_around 72 = .ok (.aload_n 0, 1) := by decide +kernel
theorem dFa_around_73 : decode bFa_around 73 = .ok (.getfield 33, 3) := by decide +kernel
theorem dFa_around_76 : decode bFa_around 76 = .ok (.getfield 138, 3) := by decide +kernel
theorem dFa_around_79 : decode bFa_around 79 = .ok (.ireturn, 1) := by decide +kernel
theorem dFa_around_80 : decode bFa_around 80 = .ok (.aload_n 0, 1) := by decide +kernel
theorem dFa_around_81 : decode bFa_around 81 = .ok (.getfield 33, 3) := by decide +kernel
theorem dFa_around_84 : decode bFa_around 84 = .ok (.getfield 141, 3) := by decide +kernel
theorem dFa_around_87 : decode bFa_around 87 = .ok (.ireturn, 1) := by decide +kernel
theorem dFa_around_88 : decode bFa_around 88 = .ok (.aload_n 0, 1) := by decide +kernel
theorem dFa_around_89 : decode bFa_around 89 = .ok (.getfield 33, 3) := by decide +kernel
theorem dFa_around_92 : decode bFa_around 92 = .ok (.getfield 144, 3) := by decide +kernel
theorem dFa_around_95 : decode bFa_around 95 = .ok (.ireturn, 1) := by decide +kernel
theorem dFa_around_96 : decode bFa_around 96 = .ok (.aload_n 0, 1) := by decide +kernel
theorem dFa_around_97 : decode bFa_around 97 = .ok (.getfield 33, 3) := by decide +kernel
theorem dFa_around_100 : decode bFa_around 100 = .ok (.getfield 147, 3) := by decide +kernel
theorem dFa_around_103 : decode bFa_around 103 = .ok (.ireturn, 1) := by decide +kernel
theorem dFa_around_104 : decode bFa_around 104 = .ok (.ldc 124, 2) := by decide +kernel
theorem dFa_around_106 : decode bFa_around 106 = .ok (.ireturn, 1) := by decide +kernel
abbrev wFa_around : List Cond := Cond.code yFa_around bFa_around 2 (some .int)   :: tbl
theorem kcFa_around : Cond.code yFa_around bFa_around 2 (some .int) ∈ tbl := tb3 79 (by decide +kernel) (by decide +kernel)
theorem kiFa_around : Cond.instanceMethod yFa_around ∈ tbl := tb3 77 (by decide +kernel) (by decide +kernel)
theorem ksFa_around : Cond.selects yFa_around.cls yFa_around yFa_around ∈ tbl := tb3 78 (by decide +kernel) (by decide +kernel)
theorem dFa_sound_0 : decode bFa_sound 0 = .ok (.aload_n 0, 1) := by decide +kernel
theorem dFa_sound_1 : decode bFa_sound 1 = .ok (.getfield 37, 3) := by decide +kernel
theorem dFa_sound_4 : decode bFa_sound 4 = .ok (.ifCond .eq 17, 3) := by decide +kernel
theorem dFa_sound_7 : decode bFa_sound 7 = .ok (.aload_n 0, 1) := by decide +kernel
theorem dFa_sound_8 : decode bFa_sound 8 = .ok (.getfield 19, 3) := by decide +kernel
theorem dFa_sound_11 : decode bFa_sound 11 = .ok (.invokevirtual 150, 3) := by decide +kernel
theorem dFa_sound_14 : decode bFa_sound 14 = .ok (.ifCond .eq 7, 3) := by decide +kernel
theorem dFa_sound_17 : decode bFa_sound 17 = .ok (.iconst 1, 1) := by decide +kernel
theorem dFa_sound_18 : decode bFa_sound 18 = .ok (.goto 4, 3) := by decide +kernel
theorem dFa_sound_21 : decode bFa_sound 21 = .ok (.iconst 0, 1) := by decide +kernel
theorem dFa_sound_22 : decode bFa_sound 22 = .ok (.ireturn, 1) := by decide +kernel
abbrev wFa_sound : List Cond := Cond.code yFa_sound bFa_sound 1 (some .boolean)   :: tbl
theorem kcFa_sound : Cond.code yFa_sound bFa_sound 1 (some .boolean) ∈ tbl := tb3 86 (by decide +kernel) (by decide +kernel)
theorem kiFa_sound : Cond.instanceMethod yFa_sound ∈ tbl := tb3 84 (by decide +kernel) (by decide +kernel)
theorem ksFa_sound : Cond.selects yFa_sound.cls yFa_sound yFa_sound ∈ tbl := tb3 85 (by decide +kernel) (by decide +kernel)
theorem dFa_frugal_0 : decode bFa_frugal 0 = .ok (.aload_n 0, 1) := by decide +kernel
theorem dFa_frugal_1 : decode bFa_frugal 1 = .ok (.getfield 41, 3) := by decide +kernel
theorem dFa_frugal_4 : decode bFa_frugal 4 = .ok (.ireturn, 1) := by decide +kernel
abbrev wFa_frugal : List Cond := Cond.code yFa_frugal bFa_frugal 1 (some .boolean)   :: tbl
theorem kcFa_frugal : Cond.code yFa_frugal bFa_frugal 1 (some .boolean) ∈ tbl := tb3 97 (by decide +kernel) (by decide +kernel)
theorem kiFa_frugal : Cond.instanceMethod yFa_frugal ∈ tbl := tb3 95 (by decide +kernel) (by decide +kernel)
theorem ksFa_frugal : Cond.selects yFa_frugal.cls yFa_frugal yFa_frugal ∈ tbl := tb3 96 (by decide +kernel) (by decide +kernel)
theorem dFa_isName_0 : decode bFa_isName 0 = .ok (.iload_n 0, 1) := by decide +kernel
theorem dFa_isName_1 : decode bFa_isName 1 = .ok (.ifCond .lt 14, 3) := by decide +kernel
theorem dFa_isName_4 : decode bFa_isName 4 = .ok (.iload_n 0, 1) := by decide +kernel
theorem dFa_isName_5 : decode bFa_isName 5 = .ok (.sipush 999, 3) := by decide +kernel
theorem dFa_isName_8 : decode bFa_isName 8 = .ok (.if_icmp .gt 7, 3) := by decide +kernel
theorem dFa_isName_11 : decode bFa_isName 11 = .ok (.iconst 1, 1) := by decide +kernel
theorem dFa_isName_12 : decode bFa_isName 12 = .ok (.goto 4, 3) := by decide +kernel
theorem dFa_isName_15 : decode bFa_isName 15 = .ok (.iconst 0, 1) := by decide +kernel
theorem dFa_isName_16 : decode bFa_isName 16 = .ok (.ireturn, 1) := by decide +kernel
abbrev wFa_isName : List Cond := Cond.code yFa_isName bFa_isName 1 (some .boolean)   :: tbl
theorem kcFa_isName : Cond.code yFa_isName bFa_isName 1 (some .boolean) ∈ tbl := tb1 217 (by decide +kernel) (by decide +kernel)
theorem ktFa_isName : Cond.static yFa_isName ∈ tbl := tb1 216 (by decide +kernel) (by decide +kernel)
theorem dFa_isCoordinate_0 : decode bFa_isCoordinate 0 = .ok (.iload_n 0, 1) := by decide +kernel
theorem dFa_isCoordinate_1 : decode bFa_isCoordinate 1 = .ok (.ldc 154, 2) := by decide +kernel
theorem dFa_isCoordinate_3 : decode bFa_isCoordinate 3 = .ok (.if_icmp .lt 13, 3) := by decide +kernel
theorem dFa_isCoordinate_6 : decode bFa_isCoordinate 6 = .ok (.iload_n 0, 1) := by decide +kernel
theorem dFa_isCoordinate_7 : decode bFa_isCoordinate 7 = .ok (.ldc 155, 2) := by decide +kernel
theorem dFa_isCoordinate_9 : decode bFa_isCoordinate 9 = .ok (.if_icmp .gt 7, 3) := by decide +kernel
theorem dFa_isCoordinate_12 : decode bFa_isCoordinate 12 = .ok (.iconst 1, 1) := by decide +kernel
theorem dFa_isCoordinate_13 : decode bFa_isCoordinate 13 = .ok (.goto 4, 3) := by decide +kernel
theorem dFa_isCoordinate_16 : decode bFa_isCoordinate 16 = .ok (.iconst 0, 1) := by decide +kernel
theorem dFa_isCoordinate_17 : decode bFa_isCoordinate 17 = .ok (.ireturn, 1) := by decide +kernel
abbrev wFa_isCoordinate : List Cond := Cond.code yFa_isCoordinate bFa_isCoordinate 1 (some .boolean)   :: tbl
theorem kcFa_isCoordinate : Cond.code yFa_isCoordinate bFa_isCoordinate 1 (some .boolean) ∈ tbl := tb1 223 (by decide +kernel) (by decide +kernel)
theorem ktFa_isCoordinate : Cond.static yFa_isCoordinate ∈ tbl := tb1 222 (by decide +kernel) (by decide +kernel)
theorem dFa_isRectangle_0 : decode bFa_isRectangle 0 = .ok (.iload_n 0, 1) := by decide +kernel
theorem dFa_isRectangle_1 : decode bFa_isRectangle 1 = .ok (.invokestatic 108, 3) := by decide +kernel
theorem dFa_isRectangle_4 : decode bFa_isRectangle 4 = .ok (.ifCond .eq 38, 3) := by decide +kernel
theorem dFa_isRectangle_7 : decode bFa_isRectangle 7 = .ok (.iload_n 1, 1) := by decide +kernel
theorem dFa_isRectangle_8 : decode bFa_isRectangle 8 = .ok (.invokestatic 108, 3) := by decide +kernel
theorem dFa_isRectangle_11 : decode bFa_isRectangle 11 = .ok (.ifCond .eq 31, 3) := by decide +kernel
theorem dFa_isRectangle_14 : decode bFa_isRectangle 14 = .ok (.iload_n 2, 1) := by decide +kernel
theorem dFa_isRectangle_15 : decode bFa_isRectangle 15 = .ok (.invokestatic 108, 3) := by decide +kernel
theorem dFa_isRectangle_18 : decode bFa_isRectangle 18 = .ok (.ifCond .eq 24, 3) := by decide +kernel
theorem dFa_isRectangle_21 : decode bFa_isRectangle 21 = .ok (.iload_n 3, 1) := by decide +kernel
theorem dFa_isRectangle_22 : decode bFa_isRectangle 22 = .ok (.invokestatic 108, 3) := by decide +kernel
theorem dFa_isRectangle_25 : decode bFa_isRectangle 25 = .ok (.ifCond .eq 17, 3) := by decide +kernel
theorem dFa_isRectangle_28 : decode bFa_isRectangle 28 = .ok (.iload_n 0, 1) := by decide +kernel
theorem dFa_isRectangle_29 : decode bFa_isRectangle 29 = .ok (.iload_n 2, 1) := by decide +kernel
theorem dFa_isRectangle_30 : decode bFa_isRectangle 30 = .ok (.if_icmp .gt 12, 3) := by decide +kernel
theorem dFa_isRectangle_33 : decode bFa_isRectangle 33 = .ok (.iload_n 1, 1) := by decide +kernel
theorem dFa_isRectangle_34 : decode bFa_isRectangle 34 = .ok (.iload_n 3, 1) := by decide +kernel
theorem dFa_isRectangle_35 : decode bFa_isRectangle 35 = .ok (.if_icmp .gt 7, 3) := by decide +kernel
theorem dFa_isRectangle_38 : decode bFa_isRectangle 38 = .ok (.iconst 1, 1) := by decide +kernel
theorem dFa_isRectangle_39 : decode bFa_isRectangle 39 = .ok (.goto 4, 3) := by decide +kernel
theorem dFa_isRectangle_42 : decode bFa_isRectangle 42 = .ok (.iconst 0, 1) := by decide +kernel
theorem dFa_isRectangle_43 : decode bFa_isRectangle 43 = .ok (.ireturn, 1) := by decide +kernel
abbrev wFa_isRectangle : List Cond := Cond.code yFa_isRectangle bFa_isRectangle 4 (some .boolean)   :: tbl
theorem kcFa_isRectangle : Cond.code yFa_isRectangle bFa_isRectangle 4 (some .boolean) ∈ tbl := tb1 220 (by decide +kernel) (by decide +kernel)
theorem ktFa_isRectangle : Cond.static yFa_isRectangle ∈ tbl := tb1 219 (by decide +kernel) (by decide +kernel)
theorem dFa_searchWindow_0 : decode bFa_searchWindow 0 = .ok (.aload_n 0, 1) := by decide +kernel
theorem dFa_searchWindow_1 : decode bFa_searchWindow 1 = .ok (.getfield 33, 3) := by decide +kernel
theorem dFa_searchWindow_4 : decode bFa_searchWindow 4 = .ok (.iload_n 1, 1) := by decide +kernel
theorem dFa_searchWindow_5 : decode bFa_searchWindow 5 = .ok (.iload_n 2, 1) := by decide +kernel
theorem dFa_searchWindow_6 : decode bFa_searchWindow 6 = .ok (.iload_n 3, 1) := by decide +kernel
theorem dFa_searchWindow_7 : decode bFa_searchWindow 7 = .ok (.iload 4, 2) := by decide +kernel
theorem dFa_searchWindow_9 : decode bFa_searchWindow 9 = .ok (.iconst 0, 1) := by decide +kernel
theorem dFa_searchWindow_10 : decode bFa_searchWindow 10 = .ok (.invokevirtual 59, 3) := by decide +kernel
theorem dFa_searchWindow_13 : decode bFa_searchWindow 13 = .ok (.aload_n 0, 1) := by decide +kernel
theorem dFa_searchWindow_14 : decode bFa_searchWindow 14 = .ok (.getfield 26, 3) := by decide +kernel
theorem dFa_searchWindow_17 : decode bFa_searchWindow 17 = .ok (.aload_n 0, 1) := by decide +kernel
theorem dFa_searchWindow_18 : decode bFa_searchWindow 18 = .ok (.getfield 19, 3) := by decide +kernel
theorem dFa_searchWindow_21 : decode bFa_searchWindow 21 = .ok (.aload_n 0, 1) := by decide +kernel
theorem dFa_searchWindow_22 : decode bFa_searchWindow 22 = .ok (.getfield 33, 3) := by decide +kernel
theorem dFa_searchWindow_25 : decode bFa_searchWindow 25 = .ok (.invokevirtual 156, 3) := by decide +kernel
theorem dFa_searchWindow_28 : decode bFa_searchWindow 28 = .ok (.return_, 1) := by decide +kernel
abbrev wFa_searchWindow : List Cond := Cond.code yFa_searchWindow bFa_searchWindow 5 none   :: tbl
theorem kcFa_searchWindow : Cond.code yFa_searchWindow bFa_searchWindow 5 none ∈ tbl := tb2 189 (by decide +kernel) (by decide +kernel)
theorem kiFa_searchWindow : Cond.instanceMethod yFa_searchWindow ∈ tbl := tb2 188 (by decide +kernel) (by decide +kernel)
theorem ksFa_searchWindow : Cond.selects yFa_searchWindow.cls yFa_searchWindow yFa_searchWindow ∈ tbl := tb0 16 (by decide +kernel) (by decide +kernel)
theorem dFa_noteThrift_0 : decode bFa_noteThrift 0 = .ok (.aload_n 0, 1) := by decide +kernel
theorem dFa_noteThrift_1 : decode bFa_noteThrift 1 = .ok (.aload_n 0, 1) := by decide +kernel
theorem dFa_noteThrift_2 : decode bFa_noteThrift 2 = .ok (.getfield 26, 3) := by decide +kernel
theorem dFa_noteThrift_5 : decode bFa_noteThrift 5 = .ok (.aload_n 0, 1) := by decide +kernel
theorem dFa_noteThrift_6 : decode bFa_noteThrift 6 = .ok (.getfield 19, 3) := by decide +kernel
theorem dFa_noteThrift_9 : decode bFa_noteThrift 9 = .ok (.aload_n 0, 1) := by decide +kernel
theorem dFa_noteThrift_10 : decode bFa_noteThrift 10 = .ok (.getfield 33, 3) := by decide +kernel
theorem dFa_noteThrift_13 : decode bFa_noteThrift 13 = .ok (.invokevirtual 160, 3) := by decide +kernel
theorem dFa_noteThrift_16 : decode bFa_noteThrift 16 = .ok (.putfield 41, 3) := by decide +kernel
theorem dFa_noteThrift_19 : decode bFa_noteThrift 19 = .ok (.return_, 1) := by decide +kernel
abbrev wFa_noteThrift : List Cond := Cond.code yFa_noteThrift bFa_noteThrift 1 none   :: tbl
theorem kcFa_noteThrift : Cond.code yFa_noteThrift bFa_noteThrift 1 none ∈ tbl := tb3 22 (by decide +kernel) (by decide +kernel)
theorem kiFa_noteThrift : Cond.instanceMethod yFa_noteThrift ∈ tbl := tb3 21 (by decide +kernel) (by decide +kernel)
theorem ksFa_noteThrift : Cond.selects yFa_noteThrift.cls yFa_noteThrift yFa_noteThrift ∈ tbl := tb0 21 (by decide +kernel) (by decide +kernel)
theorem dFa_searchPoint_0 : decode bFa_searchPoint 0 = .ok (.aload_n 0, 1) := by decide +kernel
theorem dFa_searchPoint_1 : decode bFa_searchPoint 1 = .ok (.getfield 26, 3) := by decide +kernel
theorem dFa_searchPoint_4 : decode bFa_searchPoint 4 = .ok (.aload_n 0, 1) := by decide +kernel
theorem dFa_searchPoint_5 : decode bFa_searchPoint 5 = .ok (.getfield 19, 3) := by decide +kernel
theorem dFa_searchPoint_8 : decode bFa_searchPoint 8 = .ok (.iload_n 1, 1) := by decide +kernel
theorem dFa_searchPoint_9 : decode bFa_searchPoint 9 = .ok (.iload_n 2, 1) := by decide +kernel
theorem dFa_searchPoint_10 : decode bFa_searchPoint 10 = .ok (.invokevirtual 164, 3) := by decide +kernel
theorem dFa_searchPoint_13 : decode bFa_searchPoint 13 = .ok (.aload_n 0, 1) := by decide +kernel
theorem dFa_searchPoint_14 : decode bFa_searchPoint 14 = .ok (.aload_n 0, 1) := by decide +kernel
theorem dFa_searchPoint_15 : decode bFa_searchPoint 15 = .ok (.getfield 26, 3) := by decide +kernel
theorem dFa_searchPoint_18 : decode bFa_searchPoint 18 = .ok (.aload_n 0, 1) := by decide +kernel
theorem dFa_searchPoint_19 : decode bFa_searchPoint 19 = .ok (.getfield 19, 3) := by decide +kernel
theorem dFa_searchPoint_22 : decode bFa_searchPoint 22 = .ok (.iload_n 1, 1) := by decide +kernel
theorem dFa_searchPoint_23 : decode bFa_searchPoint 23 = .ok (.iload_n 2, 1) := by decide +kernel
theorem dFa_searchPoint_24 : decode bFa_searchPoint 24 = .ok (.invokevirtual 168, 3) := by decide +kernel
theorem dFa_searchPoint_27 : decode bFa_searchPoint 27 = .ok (.putfield 41, 3) := by decide +kernel
theorem dFa_searchPoint_30 : decode bFa_searchPoint 30 = .ok (.return_, 1) := by decide +kernel
abbrev wFa_searchPoint : List Cond := Cond.code yFa_searchPoint bFa_searchPoint 3 none   :: tbl
theorem kcFa_searchPoint : Cond.code yFa_searchPoint bFa_searchPoint 3 none ∈ tbl := tb3 50 (by decide +kernel) (by decide +kernel)
theorem kiFa_searchPoint : Cond.instanceMethod yFa_searchPoint ∈ tbl := tb3 49 (by decide +kernel) (by decide +kernel)
theorem ksFa_searchPoint : Cond.selects yFa_searchPoint.cls yFa_searchPoint yFa_searchPoint ∈ tbl := tb0 22 (by decide +kernel) (by decide +kernel)
theorem dFa_settle_0 : decode bFa_settle 0 = .ok (.aload_n 0, 1) := by decide +kernel
theorem dFa_settle_1 : decode bFa_settle 1 = .ok (.getfield 44, 3) := by decide +kernel
theorem dFa_settle_4 : decode bFa_settle 4 = .ok (.istore_n 2, 1) := by decide +kernel
theorem dFa_settle_5 : decode bFa_settle 5 = .ok (.aload_n 0, 1) := by decide +kernel
theorem dFa_settle_6 : decode bFa_settle 6 = .ok (.iconst (-1), 1) := by decide +kernel
theorem dFa_settle_7 : decode bFa_settle 7 = .ok (.putfield 44, 3) := by decide +kernel
theorem dFa_settle_10 : decode bFa_settle 10 = .ok (.aload_n 0, 1) := by decide +kernel
theorem dFa_settle_11 : decode bFa_settle 11 = .ok (.getfield 12, 3) := by decide +kernel
theorem dFa_settle_14 : decode bFa_settle 14 = .ok (.aload_n 0, 1) := by decide +kernel
theorem dFa_settle_15 : decode bFa_settle 15 = .ok (.getfield 19, 3) := by decide +kernel
theorem dFa_settle_18 : decode bFa_settle 18 = .ok (.iload_n 2, 1) := by decide +kernel
theorem dFa_settle_19 : decode bFa_settle 19 = .ok (.invokevirtual 172, 3) := by decide +kernel
theorem dFa_settle_22 : decode bFa_settle 22 = .ok (.ifCond .eq 12, 3) := by decide +kernel
theorem dFa_settle_25 : decode bFa_settle 25 = .ok (.aload_n 0, 1) := by decide +kernel
theorem dFa_settle_26 : decode bFa_settle 26 = .ok (.getfield 19, 3) := by decide +kernel
theorem dFa_settle_29 : decode bFa_settle 29 = .ok (.invokevirtual 176, 3) := by decide +kernel
theorem dFa_settle_32 : decode bFa_settle 32 = .ok (.iload_n 1, 1) := by decide +kernel
theorem dFa_settle_33 : decode bFa_settle 33 = .ok (.ireturn, 1) := by decide +kernel
theorem dFa_settle_34 : decode bFa_settle 34 = .ok (.aload_n 0, 1) := by decide +kernel
theorem dFa_settle_35 : decode bFa_settle 35 = .ok (.invokevirtual 89, 3) := by decide +kernel
theorem dFa_settle_38 : decode bFa_settle 38 = .ok (.bipush (-4), 2) := by decide +kernel
theorem dFa_settle_40 : decode bFa_settle 40 = .ok (.ireturn, 1) := by decide +kernel
abbrev wFa_settle : List Cond := Cond.code yFa_settle bFa_settle 3 (some .int)   :: tbl
theorem kcFa_settle : Cond.code yFa_settle bFa_settle 3 (some .int) ∈ tbl := tb2 117 (by decide +kernel) (by decide +kernel)
theorem kiFa_settle : Cond.instanceMethod yFa_settle ∈ tbl := tb2 116 (by decide +kernel) (by decide +kernel)
theorem ksFa_settle : Cond.selects yFa_settle.cls yFa_settle yFa_settle ∈ tbl := tb0 11 (by decide +kernel) (by decide +kernel)
theorem dFa_losePower_0 : decode bFa_losePower 0 = .ok (.aload_n 0, 1) := by decide +kernel
theorem dFa_losePower_1 : decode bFa_losePower 1 = .ok (.getfield 19, 3) := by decide +kernel
theorem dFa_losePower_4 : decode bFa_losePower 4 = .ok (.invokevirtual 179, 3) := by decide +kernel
theorem dFa_losePower_7 : decode bFa_losePower 7 = .ok (.aload_n 0, 1) := by decide +kernel
theorem dFa_losePower_8 : decode bFa_losePower 8 = .ok (.iconst 0, 1) := by decide +kernel
theorem dFa_losePower_9 : decode bFa_losePower 9 = .ok (.putfield 37, 3) := by decide +kernel
theorem dFa_losePower_12 : decode bFa_losePower 12 = .ok (.return_, 1) := by decide +kernel
abbrev wFa_losePower : List Cond := Cond.code yFa_losePower bFa_losePower 1 none   :: tbl
theorem kcFa_losePower : Cond.code yFa_losePower bFa_losePower 1 none ∈ tbl := tb2 161 (by decide +kernel) (by decide +kernel)
theorem kiFa_losePower : Cond.instanceMethod yFa_losePower ∈ tbl := tb2 160 (by decide +kernel) (by decide +kernel)
theorem ksFa_losePower : Cond.selects yFa_losePower.cls yFa_losePower yFa_losePower ∈ tbl := tb0 15 (by decide +kernel) (by decide +kernel)
theorem kfFa_12 : Cond.fieldLink RFa 12 (TFa 0).1 (TFa 0).2.1 (TFa 0).2.2.1 ∈ tbl := tb1 189 (by decide +kernel) (by decide +kernel)
theorem kfFa_19 : Cond.fieldLink RFa 19 (TFa 1).1 (TFa 1).2.1 (TFa 1).2.2.1 ∈ tbl := tb1 190 (by decide +kernel) (by decide +kernel)
theorem kfFa_26 : Cond.fieldLink RFa 26 (TFa 2).1 (TFa 2).2.1 (TFa 2).2.2.1 ∈ tbl := tb1 191 (by decide +kernel) (by decide +kernel)
theorem kfFa_33 : Cond.fieldLink RFa 33 (TFa 3).1 (TFa 3).2.1 (TFa 3).2.2.1 ∈ tbl := tb1 192 (by decide +kernel) (by decide +kernel)
theorem kfFa_37 : Cond.fieldLink RFa 37 (TFa 4).1 (TFa 4).2.1 (TFa 4).2.2.1 ∈ tbl := tb1 193 (by decide +kernel) (by decide +kernel)
theorem kfFa_41 : Cond.fieldLink RFa 41 (TFa 5).1 (TFa 5).2.1 (TFa 5).2.2.1 ∈ tbl := tb1 194 (by decide +kernel) (by decide +kernel)
theorem kfFa_44 : Cond.fieldLink RFa 44 (TFa 6).1 (TFa 6).2.1 (TFa 6).2.2.1 ∈ tbl := tb1 195 (by decide +kernel) (by decide +kernel)
theorem kfFa_56 : Cond.fieldLink RFa 56 (TTr 1).1 (TTr 1).2.1 (TTr 1).2.2.1 ∈ tbl := tb1 118 (by decide +kernel) (by decide +kernel)
theorem kfFa_79 : Cond.fieldLink RFa 79 (TSe 1).1 (TSe 1).2.1 (TSe 1).2.2.1 ∈ tbl := tb1 154 (by decide +kernel) (by decide +kernel)
theorem kfFa_82 : Cond.fieldLink RFa 82 (TSe 0).1 (TSe 0).2.1 (TSe 0).2.2.1 ∈ tbl := tb1 152 (by decide +kernel) (by decide +kernel)
theorem kfFa_86 : Cond.fieldLink RFa 86 (TBo 4).1 (TBo 4).2.1 (TBo 4).2.2.1 ∈ tbl := tb1 73 (by decide +kernel) (by decide +kernel)
theorem kfFa_106 : Cond.constantLong RFa 106 (-3) ∈ tbl := tb3 45 (by decide +kernel) (by decide +kernel)
theorem kfFa_111 : Cond.constantLong RFa 111 (-1) ∈ tbl := tb3 46 (by decide +kernel) (by decide +kernel)
theorem kfFa_117 : Cond.fieldLink RFa 117 (TSe 3).1 (TSe 3).2.1 (TSe 3).2.2.1 ∈ tbl := tb1 158 (by decide +kernel) (by decide +kernel)
theorem kfFa_121 : Cond.fieldLink RFa 121 (TSe 2).1 (TSe 2).2.1 (TSe 2).2.2.1 ∈ tbl := tb1 156 (by decide +kernel) (by decide +kernel)
theorem kfFa_124 : Cond.constant RFa 124 (2000000000) ∈ tbl := tb3 80 (by decide +kernel) (by decide +kernel)
theorem kfFa_125 : Cond.fieldLink RFa 125 (TTr 0).1 (TTr 0).2.1 (TTr 0).2.2.1 ∈ tbl := tb1 117 (by decide +kernel) (by decide +kernel)
theorem kfFa_138 : Cond.fieldLink RFa 138 (TBo 0).1 (TBo 0).2.1 (TBo 0).2.2.1 ∈ tbl := tb1 61 (by decide +kernel) (by decide +kernel)
theorem kfFa_141 : Cond.fieldLink RFa 141 (TBo 1).1 (TBo 1).2.1 (TBo 1).2.2.1 ∈ tbl := tb1 64 (by decide +kernel) (by decide +kernel)
theorem kfFa_144 : Cond.fieldLink RFa 144 (TBo 2).1 (TBo 2).2.1 (TBo 2).2.2.1 ∈ tbl := tb1 67 (by decide +kernel) (by decide +kernel)
theorem kfFa_147 : Cond.fieldLink RFa 147 (TBo 3).1 (TBo 3).2.1 (TBo 3).2.2.1 ∈ tbl := tb1 70 (by decide +kernel) (by decide +kernel)
theorem kfFa_154 : Cond.constant RFa 154 (-1000000000) ∈ tbl := tb1 224 (by decide +kernel) (by decide +kernel)
theorem kfFa_155 : Cond.constant RFa 155 (1000000000) ∈ tbl := tb1 225 (by decide +kernel) (by decide +kernel)
end
section
abbrev bMo_init : ByteArray := prog_8_method_1_code
def yMo_init : MethodName := ⟨RMo, "<init>", "()V"⟩
abbrev bMo_far : ByteArray := prog_8_method_2_code
def yMo_far : MethodName := ⟨RMo, "far", "(I)Z"⟩
abbrev bMo_bad : ByteArray := prog_8_method_3_code
def yMo_bad : MethodName := ⟨RMo, "bad", "(IIII)Z"⟩
abbrev bMo_badName : ByteArray := prog_8_method_4_code
def yMo_badName : MethodName := ⟨RMo, "badName", "(I)Z"⟩
abbrev bMo_part : ByteArray := prog_8_method_5_code
def yMo_part : MethodName := ⟨RMo, "part", "(II)I"⟩
abbrev bMo_before : ByteArray := prog_8_method_6_code
def yMo_before : MethodName := ⟨RMo, "before", "(II)Z"⟩
abbrev bMo_set : ByteArray := prog_8_method_7_code
def yMo_set : MethodName := ⟨RMo, "set", "(III)V"⟩
abbrev bMo_ended : ByteArray := prog_8_method_8_code
def yMo_ended : MethodName := ⟨RMo, "ended", "(I)I"⟩
abbrev bMo_counts : ByteArray := prog_8_method_9_code
def yMo_counts : MethodName := ⟨RMo, "counts", "()Z"⟩
abbrev bMo_insert : ByteArray := prog_8_method_10_code
def yMo_insert : MethodName := ⟨RMo, "insert", "(IIIII)I"⟩
abbrev bMo_remove : ByteArray := prog_8_method_11_code
def yMo_remove : MethodName := ⟨RMo, "remove", "(I)V"⟩
abbrev bMo_is : ByteArray := prog_8_method_12_code
def yMo_is : MethodName := ⟨RMo, "is", "(IIIII)Z"⟩
abbrev bMo_delete : ByteArray := prog_8_method_13_code
def yMo_delete : MethodName := ⟨RMo, "delete", "(IIIII)I"⟩
abbrev bMo_meets : ByteArray := prog_8_method_14_code
def yMo_meets : MethodName := ⟨RMo, "meets", "(IIIII)Z"⟩
abbrev bMo_meeting : ByteArray := prog_8_method_15_code
def yMo_meeting : MethodName := ⟨RMo, "meeting", "(IIIII)I"⟩
abbrev bMo_take : ByteArray := prog_8_method_16_code
def yMo_take : MethodName := ⟨RMo, "take", "(IIII)I"⟩
abbrev bMo_cut : ByteArray := prog_8_method_17_code
def yMo_cut : MethodName := ⟨RMo, "cut", "(I)Z"⟩
abbrev bMo_stop : ByteArray := prog_8_method_18_code
def yMo_stop : MethodName := ⟨RMo, "stop", "()Z"⟩
abbrev bMo_start : ByteArray := prog_8_method_19_code
def yMo_start : MethodName := ⟨RMo, "start", "()Z"⟩
abbrev bMo_up : ByteArray := prog_8_method_20_code
def yMo_up : MethodName := ⟨RMo, "up", "()Z"⟩
abbrev bMo_size : ByteArray := prog_8_method_21_code
def yMo_size : MethodName := ⟨RMo, "size", "()I"⟩
abbrev bMo_count : ByteArray := prog_8_method_22_code
def yMo_count : MethodName := ⟨RMo, "count", "(IIII)I"⟩
abbrev bMo_within : ByteArray := prog_8_method_23_code
def yMo_within : MethodName := ⟨RMo, "within", "(IIII)I"⟩
abbrev bMo_pick : ByteArray := prog_8_method_24_code
def yMo_pick : MethodName := ⟨RMo, "pick", "(IIIII)I"⟩
abbrev bMo_off : ByteArray := prog_8_method_25_code
def yMo_off : MethodName := ⟨RMo, "off", "(III)J"⟩
abbrev bMo_farFrom : ByteArray := prog_8_method_26_code
def yMo_farFrom : MethodName := ⟨RMo, "farFrom", "(III)J"⟩
abbrev bMo_nearestOne : ByteArray := prog_8_method_27_code
def yMo_nearestOne : MethodName := ⟨RMo, "nearestOne", "(II)I"⟩
abbrev bMo_distance : ByteArray := prog_8_method_28_code
def yMo_distance : MethodName := ⟨RMo, "distance", "(II)J"⟩
abbrev bMo_nearest : ByteArray := prog_8_method_29_code
def yMo_nearest : MethodName := ⟨RMo, "nearest", "(II)I"⟩
abbrev bMo_around : ByteArray := prog_8_method_30_code
def yMo_around : MethodName := ⟨RMo, "around", "(I)I"⟩
abbrev bMo_sound : ByteArray := prog_8_method_31_code
def yMo_sound : MethodName := ⟨RMo, "sound", "()Z"⟩
abbrev bMo_frugal : ByteArray := prog_8_method_32_code
def yMo_frugal : MethodName := ⟨RMo, "frugal", "()Z"⟩
theorem dMo_init_0 : decode bMo_init 0 = .ok (.aload_n 0, 1) := by decide +kernel
theorem dMo_init_1 : decode bMo_init 1 = .ok (.invokespecial 1, 3) := by decide +kernel
theorem dMo_init_4 : decode bMo_init 4 = .ok (.aload_n 0, 1) := by decide +kernel
theorem dMo_init_5 : decode bMo_init 5 = .ok (.iconst 1, 1) := by decide +kernel
theorem dMo_init_6 : decode bMo_init 6 = .ok (.putfield 7, 3) := by decide +kernel
theorem dMo_init_9 : decode bMo_init 9 = .ok (.aload_n 0, 1) := by decide +kernel
theorem dMo_init_10 : decode bMo_init 10 = .ok (.iconst (-1), 1) := by decide +kernel
theorem dMo_init_11 : decode bMo_init 11 = .ok (.putfield 13, 3) := by decide +kernel
theorem dMo_init_14 : decode bMo_init 14 = .ok (.aload_n 0, 1) := by decide +kernel
theorem dMo_init_15 : decode bMo_init 15 = .ok (.sipush 205, 3) := by decide +kernel
theorem dMo_init_18 : decode bMo_init 18 = .ok (.newarray .int, 2) := by decide +kernel
theorem dMo_init_20 : decode bMo_init 20 = .ok (.putfield 17, 3) := by decide +kernel
theorem dMo_init_23 : decode bMo_init 23 = .ok (.return_, 1) := by decide +kernel
abbrev wMo_init : List Cond := Cond.code yMo_init bMo_init 1 none   :: tbl
theorem kcMo_init : Cond.code yMo_init bMo_init 1 none ∈ tbl := tb3 102 (by decide +kernel) (by decide +kernel)
theorem kiMo_init : Cond.instanceMethod yMo_init ∈ tbl := tb3 101 (by decide +kernel) (by decide +kernel)
theorem dMo_far_0 : decode bMo_far 0 = .ok (.iload_n 0, 1) := by decide +kernel
theorem dMo_far_1 : decode bMo_far 1 = .ok (.ldc 21, 2) := by decide +kernel
theorem dMo_far_3 : decode bMo_far 3 = .ok (.if_icmp .lt 9, 3) := by decide +kernel
theorem dMo_far_6 : decode bMo_far 6 = .ok (.iload_n 0, 1) := by decide +kernel
theorem dMo_far_7 : decode bMo_far 7 = .ok (.ldc 22, 2) := by decide +kernel
theorem dMo_far_9 : decode bMo_far 9 = .ok (.if_icmp .le 7, 3) := by decide +kernel
theorem dMo_far_12 : decode bMo_far 12 = .ok (.iconst 1, 1) := by decide +kernel
theorem dMo_far_13 : decode bMo_far 13 = .ok (.goto 4, 3) := by decide +kernel
theorem dMo_far_16 : decode bMo_far 16 = .ok (.iconst 0, 1) := by decide +kernel
theorem dMo_far_17 : decode bMo_far 17 = .ok (.ireturn, 1) := by decide +kernel
abbrev wMo_far : List Cond := Cond.code yMo_far bMo_far 1 (some .boolean)   :: tbl
theorem kcMo_far : Cond.code yMo_far bMo_far 1 (some .boolean) ∈ tbl := tb3 129 (by decide +kernel) (by decide +kernel)
theorem ktMo_far : Cond.static yMo_far ∈ tbl := tb3 128 (by decide +kernel) (by decide +kernel)
theorem dMo_bad_0 : decode bMo_bad 0 = .ok (.iload_n 0, 1) := by decide +kernel
theorem dMo_bad_1 : decode bMo_bad 1 = .ok (.invokestatic 23, 3) := by decide +kernel
theorem dMo_bad_4 : decode bMo_bad 4 = .ok (.ifCond .ne 34, 3) := by decide +kernel
theorem dMo_bad_7 : decode bMo_bad 7 = .ok (.iload_n 1, 1) := by decide +kernel
theorem dMo_bad_8 : decode bMo_bad 8 = .ok (.invokestatic 23, 3) := by decide +kernel
theorem dMo_bad_11 : decode bMo_bad 11 = .ok (.ifCond .ne 27, 3) := by decide +kernel
theorem dMo_bad_14 : decode bMo_bad 14 = .ok (.iload_n 2, 1) := by decide +kernel
theorem dMo_bad_15 : decode bMo_bad 15 = .ok (.invokestatic 23, 3) := by decide +kernel
theorem dMo_bad_18 : decode bMo_bad 18 = .ok (.ifCond .ne 20, 3) := by decide +kernel
theorem dMo_bad_21 : decode bMo_bad 21 = .ok (.iload_n 3, 1) := by decide +kernel
theorem dMo_bad_22 : decode bMo_bad 22 = .ok (.invokestatic 23, 3) := by decide +kernel
theorem dMo_bad_25 : decode bMo_bad 25 = .ok (.ifCond .ne 13, 3) := by decide +kernel
theorem dMo_bad_28 : decode bMo_bad 28 = .ok (.iload_n 0, 1) := by decide +kernel
theorem dMo_bad_29 : decode bMo_bad 29 = .ok (.iload_n 2, 1) := by decide +kernel
theorem dMo_bad_30 : decode bMo_bad 30 = .ok (.if_icmp .gt 8, 3) := by decide +kernel
theorem dMo_bad_33 : decode bMo_bad 33 = .ok (.iload_n 1, 1) := by decide +kernel
theorem dMo_bad_34 : decode bMo_bad 34 = .ok (.iload_n 3, 1) := by decide +kernel
theorem dMo_bad_35 : decode bMo_bad 35 = .ok (.if_icmp .le 7, 3) := by decide +kernel
theorem dMo_bad_38 : decode bMo_bad 38 = .ok (.iconst 1, 1) := by decide +kernel
theorem dMo_bad_39 : decode bMo_bad 39 = .ok (.goto 4, 3) := by decide +kernel
theorem dMo_bad_42 : decode bMo_bad 42 = .ok (.iconst 0, 1) := by decide +kernel
theorem dMo_bad_43 : decode bMo_bad 43 = .ok (.ireturn, 1) := by decide +kernel
abbrev wMo_bad : List Cond := Cond.code yMo_bad bMo_bad 4 (some .boolean)   :: tbl
theorem kcMo_bad : Cond.code yMo_bad bMo_bad 4 (some .boolean) ∈ tbl := tb3 126 (by decide +kernel) (by decide +kernel)
theorem ktMo_bad : Cond.static yMo_bad ∈ tbl := tb3 125 (by decide +kernel) (by decide +kernel)
theorem dMo_badName_0 : decode bMo_badName 0 = .ok (.iload_n 0, 1) := by decide +kernel
theorem dMo_badName_1 : decode bMo_badName 1 = .ok (.ifCond .lt 10, 3) := by decide +kernel
theorem dMo_badName_4 : decode bMo_badName 4 = .ok (.iload_n 0, 1) := by decide +kernel
theorem dMo_badName_5 : decode bMo_badName 5 = .ok (.sipush 999, 3) := by decide +kernel
theorem dMo_badName_8 : decode bMo_badName 8 = .ok (.if_icmp .le 7, 3) := by decide +kernel
theorem dMo_badName_11 : decode bMo_badName 11 = .ok (.iconst 1, 1) := by decide +kernel
theorem dMo_badName_12 : decode bMo_badName 12 = .ok (.goto 4, 3) := by decide +kernel
theorem dMo_badName_15 : decode bMo_badName 15 = .ok (.iconst 0, 1) := by decide +kernel
theorem dMo_badName_16 : decode bMo_badName 16 = .ok (.ireturn, 1) := by decide +kernel
abbrev wMo_badName : List Cond := Cond.code yMo_badName bMo_badName 1 (some .boolean)   :: tbl
theorem kcMo_badName : Cond.code yMo_badName bMo_badName 1 (some .boolean) ∈ tbl := tb3 123 (by decide +kernel) (by decide +kernel)
theorem ktMo_badName : Cond.static yMo_badName ∈ tbl := tb3 122 (by decide +kernel) (by decide +kernel)
theorem dMo_part_0 : decode bMo_part 0 = .ok (.iload_n 2, 1) := by decide +kernel
theorem dMo_part_1 : decode bMo_part 1 = .ok (.iconst 4, 1) := by decide +kernel
theorem dMo_part_2 : decode bMo_part 2 = .ok (.if_icmp .ge 18, 3) := by decide +kernel
theorem dMo_part_5 : decode bMo_part 5 = .ok (.aload_n 0, 1) := by decide +kernel
theorem dMo_part_6 : decode bMo_part 6 = .ok (.getfield 17, 3) := by decide +kernel
theorem dMo_part_9 : decode bMo_part 9 = .ok (.iconst 5, 1) := by decide +kernel
theorem dMo_part_10 : decode bMo_part 10 = .ok (.iload_n 1, 1) := by decide +kernel
theorem dMo_part_11 : decode bMo_part 11 = .ok (.imul, 1) := by decide +kernel
theorem dMo_part_12 : decode bMo_part 12 = .ok (.iconst 1, 1) := by decide +kernel
theorem dMo_part_13 : decode bMo_part 13 = .ok (.iadd, 1) := by decide +kernel
theorem dMo_part_14 : decode bMo_part 14 = .ok (.iload_n 2, 1) := by decide +kernel
theorem dMo_part_15 : decode bMo_part 15 = .ok (.iadd, 1) := by decide +kernel
theorem dMo_part_16 : decode bMo_part 16 = .ok (.iaload, 1) := by decide +kernel
theorem dMo_part_17 : decode bMo_part 17 = .ok (.goto 11, 3) := by decide +kernel
theorem dMo_part_20 : decode bMo_part 20 = .ok (.aload_n 0, 1) := by decide +kernel
theorem dMo_part_21 : decode bMo_part 21 = .ok (.getfield 17, 3) := by decide +kernel
theorem dMo_part_24 : decode bMo_part 24 = .ok (.iconst 5, 1) := by decide +kernel
theorem dMo_part_25 : decode bMo_part 25 = .ok (.iload_n 1, 1) := by decide +kernel
theorem dMo_part_26 : decode bMo_part 26 = .ok (.imul, 1) := by decide +kernel
theorem dMo_part_27 : decode bMo_part 27 = .ok (.iaload, 1) := by decide +kernel
theorem dMo_part_28 : decode bMo_part 28 = .ok (.ireturn, 1) := by decide +kernel
abbrev wMo_part : List Cond := Cond.code yMo_part bMo_part 3 (some .int)   :: tbl
theorem kcMo_part : Cond.code yMo_part bMo_part 3 (some .int) ∈ tbl := tb3 147 (by decide +kernel) (by decide +kernel)
theorem kiMo_part : Cond.instanceMethod yMo_part ∈ tbl := tb3 146 (by decide +kernel) (by decide +kernel)
theorem ksMo_part : Cond.selects yMo_part.cls yMo_part yMo_part ∈ tbl := tb0 28 (by decide +kernel) (by decide +kernel)
theorem dMo_before_0 : decode bMo_before 0 = .ok (.iconst 0, 1) := by decide +kernel
theorem dMo_before_1 : decode bMo_before 1 = .ok (.istore_n 3, 1) := by decide +kernel
theorem dMo_before_2 : decode bMo_before 2 = .ok (.iload_n 3, 1) := by decide +kernel
theorem dMo_before_3 : decode bMo_before 3 = .ok (.iconst 5, 1) := by decide +kernel
theorem dMo_before_4 : decode bMo_before 4 = .ok (.if_icmp .ge 45, 3) := by decide +kernel
theorem dMo_before_7 : decode bMo_before 7 = .ok (.aload_n 0, 1) := by decide +kernel
theorem dMo_before_8 : decode bMo_before 8 = .ok (.iload_n 1, 1) := by decide +kernel
theorem dMo_before_9 : decode bMo_before 9 = .ok (.iload_n 3, 1) := by decide +kernel
theorem dMo_before_10 : decode bMo_before 10 = .ok (.invokevirtual 27, 3) := by decide +kernel
theorem dMo_before_13 : decode bMo_before 13 = .ok (.aload_n 0, 1) := by decide +kernel
theorem dMo_before_14 : decode bMo_before 14 = .ok (.iload_n 2, 1) := by decide +kernel
theorem dMo_before_15 : decode bMo_before 15 = .ok (.iload_n 3, 1) := by decide +kernel
theorem dMo_before_16 : decode bMo_before 16 = .ok (.invokevirtual 27, 3) := by decide +kernel
theorem dMo_before_19 : decode bMo_before 19 = .ok (.if_icmp .eq 24, 3) := by decide +kernel
theorem dMo_before_22 : decode bMo_before 22 = .ok (.aload_n 0, 1) := by decide +kernel
theorem dMo_before_23 : decode bMo_before 23 = .ok (.iload_n 1, 1) := by decide +kernel
theorem dMo_before_24 : decode bMo_before 24 = .ok (.iload_n 3, 1) := by decide +kernel
theorem dMo_before_25 : decode bMo_before 25 = .ok (.invokevirtual 27, 3) := by decide +kernel
theorem dMo_before_28 : decode bMo_before 28 = .ok (.aload_n 0, 1) := by decide +kernel
theorem dMo_before_29 : decode bMo_before 29 = .ok (.iload_n 2, 1) := by decide +kernel
theorem dMo_before_30 : decode bMo_before 30 = .ok (.iload_n 3, 1) := by decide +kernel
theorem dMo_before_31 : decode bMo_before 31 = .ok (.invokevirtual 27, 3) := by decide +kernel
theorem dMo_before_34 : decode bMo_before 34 = .ok (.if_icmp .ge 7, 3) := by decide +kernel
theorem dMo_before_37 : decode bMo_before 37 = .ok (.iconst 1, 1) := by decide +kernel
theorem dMo_before_38 : decode bMo_before 38 = .ok (.goto 4, 3) := by decide +kernel
theorem dMo_before_41 : decode bMo_before 41 = .ok (.iconst 0, 1) := by decide +kernel
theorem dMo_before_42 : decode bMo_before 42 = .ok (.ireturn, 1) := by decide +kernel
theorem dMo_before_43 : decode bMo_before 43 = .ok (.iinc 3 1, 3) := by decide +kernel
theorem dMo_before_46 : decode bMo_before 46 = .ok (.goto (-44), 3) := by decide +kernel
theorem dMo_before_49 : decode bMo_before 49 = .ok (.iconst 0, 1) := by decide +kernel
theorem dMo_before_50 : decode bMo_before 50 = .ok (.ireturn, 1) := by decide +kernel
abbrev wMo_before : List Cond := Cond.code yMo_before bMo_before 4 (some .boolean)   :: tbl
theorem kcMo_before : Cond.code yMo_before bMo_before 4 (some .boolean) ∈ tbl := tb3 143 (by decide +kernel) (by decide +kernel)
theorem kiMo_before : Cond.instanceMethod yMo_before ∈ tbl := tb3 142 (by decide +kernel) (by decide +kernel)
theorem ksMo_before : Cond.selects yMo_before.cls yMo_before yMo_before ∈ tbl := tb0 27 (by decide +kernel) (by decide +kernel)
theorem dMo_set_0 : decode bMo_set 0 = .ok (.aload_n 0, 1) := by decide +kernel
theorem dMo_set_1 : decode bMo_set 1 = .ok (.getfield 17, 3) := by decide +kernel
theorem dMo_set_4 : decode bMo_set 4 = .ok (.iconst 5, 1) := by decide +kernel
theorem dMo_set_5 : decode bMo_set 5 = .ok (.iload_n 1, 1) := by decide +kernel
theorem dMo_set_6 : decode bMo_set 6 = .ok (.imul, 1) := by decide +kernel
theorem dMo_set_7 : decode bMo_set 7 = .ok (.iload_n 2, 1) := by decide +kernel
theorem dMo_set_8 : decode bMo_set 8 = .ok (.iadd, 1) := by decide +kernel
theorem dMo_set_9 : decode bMo_set 9 = .ok (.iload_n 3, 1) := by decide +kernel
theorem dMo_set_10 : decode bMo_set 10 = .ok (.iastore, 1) := by decide +kernel
theorem dMo_set_11 : decode bMo_set 11 = .ok (.return_, 1) := by decide +kernel
abbrev wMo_set : List Cond := Cond.code yMo_set bMo_set 4 none   :: tbl
theorem kcMo_set : Cond.code yMo_set bMo_set 4 none ∈ tbl := tb3 139 (by decide +kernel) (by decide +kernel)
theorem kiMo_set : Cond.instanceMethod yMo_set ∈ tbl := tb3 138 (by decide +kernel) (by decide +kernel)
theorem ksMo_set : Cond.selects yMo_set.cls yMo_set yMo_set ∈ tbl := tb0 26 (by decide +kernel) (by decide +kernel)
theorem dMo_ended_0 : decode bMo_ended 0 = .ok (.aload_n 0, 1) := by decide +kernel
theorem dMo_ended_1 : decode bMo_ended 1 = .ok (.getfield 13, 3) := by decide +kernel
theorem dMo_ended_4 : decode bMo_ended 4 = .ok (.ifCond .ge 5, 3) := by decide +kernel
theorem dMo_ended_7 : decode bMo_ended 7 = .ok (.iload_n 1, 1) := by decide +kernel
theorem dMo_ended_8 : decode bMo_ended 8 = .ok (.ireturn, 1) := by decide +kernel
theorem dMo_ended_9 : decode bMo_ended 9 = .ok (.aload_n 0, 1) := by decide +kernel
theorem dMo_ended_10 : decode bMo_ended 10 = .ok (.iconst (-1), 1) := by decide +kernel
theorem dMo_ended_11 : decode bMo_ended 11 = .ok (.putfield 13, 3) := by decide +kernel
theorem dMo_ended_14 : decode bMo_ended 14 = .ok (.aload_n 0, 1) := by decide +kernel
theorem dMo_ended_15 : decode bMo_ended 15 = .ok (.iconst 0, 1) := by decide +kernel
theorem dMo_ended_16 : decode bMo_ended 16 = .ok (.putfield 7, 3) := by decide +kernel
theorem dMo_ended_19 : decode bMo_ended 19 = .ok (.bipush (-4), 2) := by decide +kernel
theorem dMo_ended_21 : decode bMo_ended 21 = .ok (.ireturn, 1) := by decide +kernel
abbrev wMo_ended : List Cond := Cond.code yMo_ended bMo_ended 2 (some .int)   :: tbl
theorem kcMo_ended : Cond.code yMo_ended bMo_ended 2 (some .int) ∈ tbl := tb3 151 (by decide +kernel) (by decide +kernel)
theorem kiMo_ended : Cond.instanceMethod yMo_ended ∈ tbl := tb3 150 (by decide +kernel) (by decide +kernel)
theorem ksMo_ended : Cond.selects yMo_ended.cls yMo_ended yMo_ended ∈ tbl := tb0 29 (by decide +kernel) (by decide +kernel)
theorem dMo_counts_0 : decode bMo_counts 0 = .ok (.aload_n 0, 1) := by decide +kernel
theorem dMo_counts_1 : decode bMo_counts 1 = .ok (.getfield 13, 3) := by decide +kernel
theorem dMo_counts_4 : decode bMo_counts 4 = .ok (.ifCond .lt 11, 3) := by decide +kernel
theorem dMo_counts_7 : decode bMo_counts 7 = .ok (.aload_n 0, 1) := by decide +kernel
theorem dMo_counts_8 : decode bMo_counts 8 = .ok (.getfield 13, 3) := by decide +kernel
theorem dMo_counts_11 : decode bMo_counts 11 = .ok (.iconst 3, 1) := by decide +kernel
theorem dMo_counts_12 : decode bMo_counts 12 = .ok (.if_icmp .lt 7, 3) := by decide +kernel
theorem dMo_counts_15 : decode bMo_counts 15 = .ok (.iconst 1, 1) := by decide +kernel
theorem dMo_counts_16 : decode bMo_counts 16 = .ok (.goto 4, 3) := by decide +kernel
theorem dMo_counts_19 : decode bMo_counts 19 = .ok (.iconst 0, 1) := by decide +kernel
theorem dMo_counts_20 : decode bMo_counts 20 = .ok (.ireturn, 1) := by decide +kernel
abbrev wMo_counts : List Cond := Cond.code yMo_counts bMo_counts 1 (some .boolean)   :: tbl
theorem kcMo_counts : Cond.code yMo_counts bMo_counts 1 (some .boolean) ∈ tbl := tb3 135 (by decide +kernel) (by decide +kernel)
theorem kiMo_counts : Cond.instanceMethod yMo_counts ∈ tbl := tb3 134 (by decide +kernel) (by decide +kernel)
theorem ksMo_counts : Cond.selects yMo_counts.cls yMo_counts yMo_counts ∈ tbl := tb0 25 (by decide +kernel) (by decide +kernel)
theorem dMo_insert_0 : decode bMo_insert 0 = .ok (.aload_n 0, 1) := by decide +kernel
theorem dMo_insert_1 : decode bMo_insert 1 = .ok (.getfield 7, 3) := by decide +kernel
theorem dMo_insert_4 : decode bMo_insert 4 = .ok (.ifCond .ne 6, 3) := by decide +kernel
theorem dMo_insert_7 : decode bMo_insert 7 = .ok (.bipush (-3), 2) := by decide +kernel
theorem dMo_insert_9 : decode bMo_insert 9 = .ok (.ireturn, 1) := by decide +kernel
theorem dMo_insert_10 : decode bMo_insert 10 = .ok (.iload_n 1, 1) := by decide +kernel
theorem dMo_insert_11 : decode bMo_insert 11 = .ok (.invokestatic 31, 3) := by decide +kernel
theorem dMo_insert_14 : decode bMo_insert 14 = .ok (.ifCond .ne 15, 3) := by decide +kernel
theorem dMo_insert_17 : decode bMo_insert 17 = .ok (.iload_n 2, 1) := by decide +kernel
theorem dMo_insert_18 : decode bMo_insert 18 = .ok (.iload_n 3, 1) := by decide +kernel
theorem dMo_insert_19 : decode bMo_insert 19 = .ok (.iload 4, 2) := by decide +kernel
theorem dMo_insert_21 : decode bMo_insert 21 = .ok (.iload 5, 2) := by decide +kernel
theorem dMo_insert_23 : decode bMo_insert 23 = .ok (.invokestatic 34, 3) := by decide +kernel
theorem dMo_insert_26 : decode bMo_insert 26 = .ok (.ifCond .eq 5, 3) := by decide +kernel
theorem dMo_insert_29 : decode bMo_insert 29 = .ok (.iconst (-1), 1) := by decide +kernel
theorem dMo_insert_30 : decode bMo_insert 30 = .ok (.ireturn, 1) := by decide +kernel
theorem dMo_insert_31 : decode bMo_insert 31 = .ok (.aload_n 0, 1) := by decide +kernel
theorem dMo_insert_32 : decode bMo_insert 32 = .ok (.getfield 38, 3) := by decide +kernel
theorem dMo_insert_35 : decode bMo_insert 35 = .ok (.bipush 40, 2) := by decide +kernel
theorem dMo_insert_37 : decode bMo_insert 37 = .ok (.if_icmp .ne 6, 3) := by decide +kernel
theorem dMo_insert_40 : decode bMo_insert 40 = .ok (.bipush (-2), 2) := by decide +kernel
theorem dMo_insert_42 : decode bMo_insert 42 = .ok (.ireturn, 1) := by decide +kernel
theorem dMo_insert_43 : decode bMo_insert 43 = .ok (.aload_n 0, 1) := by decide +kernel
theorem dMo_insert_44 : decode bMo_insert 44 = .ok (.invokevirtual 41, 3) := by decide +kernel
theorem dMo_insert_47 : decode bMo_insert 47 = .ok (.ifCond .eq 158, 3) := by decide +kernel
theorem dMo_insert_50 : decode bMo_insert 50 = .ok (.aload_n 0, 1) := by decide +kernel
theorem dMo_insert_51 : decode bMo_insert 51 = .ok (.aload_n 0, 1) := by decide +kernel
theorem dMo_insert_52 : decode bMo_insert 52 = .ok (.getfield 38, 3) := by decide +kernel
theorem dMo_insert_55 : decode bMo_insert 55 = .ok (.iconst 0, 1) := by decide +kernel
theorem dMo_insert_56 : decode bMo_insert 56 = .ok (.iload_n 1, 1) := by decide +kernel
theorem dMo_insert_57 : decode bMo_insert 57 = .ok (.invokevirtual 45, 3) := by decide +kernel
theorem dMo_insert_60 : decode bMo_insert 60 = .ok (.aload_n 0, 1) := by decide +kernel
theorem dMo_insert_61 : decode bMo_insert 61 = .ok (.aload_n 0, 1) := by decide +kernel
theorem dMo_insert_62 : decode bMo_insert 62 = .ok (.getfield 38, 3) := by decide +kernel
theorem dMo_insert_65 : decode bMo_insert 65 = .ok (.iconst 1, 1) := by decide +kernel
theorem dMo_insert_66 : decode bMo_insert 66 = .ok (.iload_n 2, 1) := by decide +kernel
theorem dMo_insert_67 : decode bMo_insert 67 = .ok (.invokevirtual 45, 3) := by decide +kernel
theorem dMo_insert_70 : decode bMo_insert 70 = .ok (.aload_n 0, 1) := by decide +kernel
theorem dMo_insert_71 : decode bMo_insert 71 = .ok (.aload_n 0, 1) := by decide +kernel
theorem dMo_insert_72 : decode bMo_insert 72 = .ok (.getfield 38, 3) := by decide +kernel
theorem dMo_insert_75 : decode bMo_insert 75 = .ok (.iconst 2, 1) := by decide +kernel
theorem dMo_insert_76 : decode bMo_insert 76 = .ok (.iload_n 3, 1) := by decide +kernel
theorem dMo_insert_77 : decode bMo_insert 77 = .ok (.invokevirtual 45, 3) := by decide +kernel
theorem dMo_insert_80 : decode bMo_insert 80 = .ok (.aload_n 0, 1) := by decide +kernel
theorem dMo_insert_81 : decode bMo_insert 81 = .ok (.aload_n 0, 1) := by decide +kernel
theorem dMo_insert_82 : decode bMo_insert 82 = .ok (.getfield 38, 3) := by decide +kernel
theorem dMo_insert_85 : decode bMo_insert 85 = .ok (.iconst 3, 1) := by decide +kernel
theorem dMo_insert_86 : decode bMo_insert 86 = .ok (.iload 4, 2) := by decide +kernel
theorem dMo_insert_88 : decode bMo_insert 88 = .ok (.invokevirtual 45, 3) := by decide +kernel
theorem dMo_insert_91 : decode bMo_insert 91 = .ok (.aload_n 0, 1) := by decide +kernel
theorem dMo_insert_92 : decode bMo_insert 92 = .ok (.aload_n 0, 1) := by decide +kernel
theorem dMo_insert_93 : decode bMo_insert 93 = .ok (.getfield 38, 3) := by decide +kernel
theorem dMo_insert_96 : decode bMo_insert 96 = .ok (.iconst 4, 1) := by decide +kernel
theorem dMo_insert_97 : decode bMo_insert 97 = .ok (.iload 5, 2) := by decide +kernel
theorem dMo_insert_99 : decode bMo_insert 99 = .ok (.invokevirtual 45, 3) := by decide +kernel
theorem dMo_insert_102 : decode bMo_insert 102 = .ok (.aload_n 0, 1) := by decide +kernel
theorem dMo_insert_103 : decode bMo_insert 103 = .ok (.getfield 38, 3) := by decide +kernel
theorem dMo_insert_106 : decode bMo_insert 106 = .ok (.istore 6, 2) := by decide +kernel
theorem dMo_insert_108 : decode bMo_insert 108 = .ok (.aload_n 0, 1) := by decide +kernel
theorem dMo_insert_109 : decode bMo_insert 109 = .ok (.dup, 1) := by decide +kernel
theorem dMo_insert_110 : decode bMo_insert 110 = .ok (.getfield 38, 3) := by decide +kernel
theorem dMo_insert_113 : decode bMo_insert 113 = .ok (.iconst 1, 1) := by decide +kernel
theorem dMo_insert_114 : decode bMo_insert 114 = .ok (.iadd, 1) := by decide +kernel
theorem dMo_insert_115 : decode bMo_insert 115 = .ok (.putfield 38, 3) := by decide +kernel
theorem dMo_insert_118 : decode bMo_insert 118 = .ok (.iload 6, 2) := by decide +kernel
theorem dMo_insert_120 : decode bMo_insert 120 = .ok (.ifCond .le 85, 3) := by decide +kernel
theorem dMo_insert_123 : decode bMo_insert 123 = .ok (.aload_n 0, 1) := by decide +kernel
theorem dMo_insert_124 : decode bMo_insert 124 = .ok (.iload 6, 2) := by decide +kernel
theorem dMo_insert_126 : decode bMo_insert 126 = .ok (.iload 6, 2) := by decide +kernel
theorem dMo_insert_128 : decode bMo_insert 128 = .ok (.iconst 1, 1) := by decide +kernel
theorem dMo_insert_129 : decode bMo_insert 129 = .ok (.isub, 1) := by decide +kernel
theorem dMo_insert_130 : decode bMo_insert 130 = .ok (.invokevirtual 49, 3) := by decide +kernel
theorem dMo_insert_133 : decode bMo_insert 133 = .ok (.ifCond .eq 72, 3) := by decide +kernel
theorem dMo_insert_136 : decode bMo_insert 136 = .ok (.iconst 0, 1) := by decide +kernel
theorem dMo_insert_137 : decode bMo_insert 137 = .ok (.istore 7, 2) := by decide +kernel
theorem dMo_insert_139 : decode bMo_insert 139 = .ok (.iload 7, 2) := by decide +kernel
theorem dMo_insert_141 : decode bMo_insert 141 = .ok (.iconst 5, 1) := by decide +kernel
theorem dMo_insert_142 : decode bMo_insert 142 = .ok (.if_icmp .ge 57, 3) := by decide +kernel
theorem dMo_insert_145 : decode bMo_insert 145 = .ok (.aload_n 0, 1) := by decide +kernel
theorem dMo_insert_146 : decode bMo_insert 146 = .ok (.getfield 17, 3) := by decide +kernel
theorem dMo_insert_149 : decode bMo_insert 149 = .ok (.iconst 5, 1) := by decide +kernel
theorem dMo_insert_150 : decode bMo_insert 150 = .ok (.iload 6, 2) := by decide +kernel
theorem dMo_insert_152 : decode bMo_insert 152 = .ok (.imul, 1) := by decide +kernel
theorem dMo_insert_153 : decode bMo_insert 153 = .ok (.iload 7, 2) := by decide +kernel
theorem dMo_insert_155 : decode bMo_insert 155 = .ok (.iadd, 1) := by decide +kernel
theorem dMo_insert_156 : decode bMo_insert 156 = .ok (.iaload, 1) := by decide +kernel
theorem dMo_insert_157 : decode bMo_insert 157 = .ok (.istore 8, 2) := by decide +kernel
theorem dMo_insert_159 : decode bMo_insert 159 = .ok (.aload_n 0, 1) := by decide +kernel
theorem dMo_insert_160 : decode bMo_insert 160 = .ok (.iload 6, 2) := by decide +kernel
theorem dMo_insert_162 : decode bMo_insert 162 = .ok (.iload 7, 2) := by decide +kernel
theorem dMo_insert_164 : decode bMo_insert 164 = .ok (.aload_n 0, 1) := by decide +kernel
theorem dMo_insert_165 : decode bMo_insert 165 = .ok (.getfield 17, 3) := by decide +kernel
theorem dMo_insert_168 : decode bMo_insert 168 = .ok (.iconst 5, 1) := by decide +kernel
theorem dMo_insert_169 : decode bMo_insert 169 = .ok (.iload 6, 2) := by decide +kernel
theorem dMo_insert_171 : decode bMo_insert 171 = .ok (.imul, 1) := by decide +kernel
theorem dMo_insert_172 : decode bMo_insert 172 = .ok (.iconst 5, 1) := by decide +kernel
theorem dMo_insert_173 : decode bMo_insert 173 = .ok (.isub, 1) := by decide +kernel
theorem dMo_insert_174 : decode bMo_insert 174 = .ok (.iload 7, 2) := by decide +kernel
theorem dMo_insert_176 : decode bMo_insert 176 = .ok (.iadd, 1) := by decide +kernel
theorem dMo_insert_177 : decode bMo_insert 177 = .ok (.iaload, 1) := by decide +kernel
theorem dMo_insert_178 : decode bMo_insert 178 = .ok (.invokevirtual 45, 3) := by decide +kernel
theorem dMo_insert_181 : decode bMo_insert 181 = .ok (.aload_n 0, 1) := by decide +kernel
theorem dMo_insert_182 : decode bMo_insert 182 = .ok (.iload 6, 2) := by decide +kernel
theorem dMo_insert_184 : decode bMo_insert 184 = .ok (.iconst 1, 1) := by decide +kernel
theorem dMo_insert_185 : decode bMo_insert 185 = .ok (.isub, 1) := by decide +kernel
theorem dMo_insert_186 : decode bMo_insert 186 = .ok (.iload 7, 2) := by decide +kernel
theorem dMo_insert_188 : decode bMo_insert 188 = .ok (.iload 8, 2) := by decide +kernel
theorem dMo_insert_190 : decode bMo_insert 190 = .ok (.invokevirtual 45, 3) := by decide +kernel
theorem dMo_insert_193 : decode bMo_insert 193 = .ok (.iinc 7 1, 3) := by decide +kernel
theorem dMo_insert_196 : decode bMo_insert 196 = .ok (.goto (-57), 3) := by decide +kernel
theorem dMo_insert_199 : decode bMo_insert 199 = .ok (.iinc 6 (-1), 3) := by decide +kernel
theorem dMo_insert_202 : decode bMo_insert 202 = .ok (.goto (-84), 3) := by decide +kernel
theorem dMo_insert_205 : decode bMo_insert 205 = .ok (.aload_n 0, 1) := by decide +kernel
theorem dMo_insert_206 : decode bMo_insert 206 = .ok (.aload_n 0, 1) := by decide +kernel
theorem dMo_insert_207 : decode bMo_insert 207 = .ok (.getfield 38, 3) := by decide +kernel
theorem dMo_insert_210 : decode bMo_insert 210 = .ok (.invokevirtual 53, 3) := by decide +kernel
theorem dMo_insert_213 : decode bMo_insert 213 = .ok (.ireturn, 1) := by decide +kernel
abbrev wMo_insert : List Cond := Cond.code yMo_insert bMo_insert 9 (some .int)   :: tbl
theorem kcMo_insert : Cond.code yMo_insert bMo_insert 9 (some .int) ∈ tbl := tb3 120 (by decide +kernel) (by decide +kernel)
theorem kiMo_insert : Cond.instanceMethod yMo_insert ∈ tbl := tb3 118 (by decide +kernel) (by decide +kernel)
theorem ksMo_insert : Cond.selects yMo_insert.cls yMo_insert yMo_insert ∈ tbl := tb3 119 (by decide +kernel) (by decide +kernel)
theorem dMo_remove_0 : decode bMo_remove 0 = .ok (.aload_n 0, 1) := by decide +kernel
theorem dMo_remove_1 : decode bMo_remove 1 = .ok (.dup, 1) := by decide +kernel
theorem dMo_remove_2 : decode bMo_remove 2 = .ok (.getfield 38, 3) := by decide +kernel
theorem dMo_remove_5 : decode bMo_remove 5 = .ok (.iconst 1, 1) := by decide +kernel
theorem dMo_remove_6 : decode bMo_remove 6 = .ok (.isub, 1) := by decide +kernel
theorem dMo_remove_7 : decode bMo_remove 7 = .ok (.putfield 38, 3) := by decide +kernel
theorem dMo_remove_10 : decode bMo_remove 10 = .ok (.iconst 5, 1) := by decide +kernel
theorem dMo_remove_11 : decode bMo_remove 11 = .ok (.iload_n 1, 1) := by decide +kernel
theorem dMo_remove_12 : decode bMo_remove 12 = .ok (.imul, 1) := by decide +kernel
theorem dMo_remove_13 : decode bMo_remove 13 = .ok (.istore_n 2, 1) := by decide +kernel
theorem dMo_remove_14 : decode bMo_remove 14 = .ok (.iload_n 2, 1) := by decide +kernel
theorem dMo_remove_15 : decode bMo_remove 15 = .ok (.iconst 5, 1) := by decide +kernel
theorem dMo_remove_16 : decode bMo_remove 16 = .ok (.aload_n 0, 1) := by decide +kernel
theorem dMo_remove_17 : decode bMo_remove 17 = .ok (.getfield 38, 3) := by decide +kernel
theorem dMo_remove_20 : decode bMo_remove 20 = .ok (.imul, 1) := by decide +kernel
theorem dMo_remove_21 : decode bMo_remove 21 = .ok (.if_icmp .ge 23, 3) := by decide +kernel
theorem dMo_remove_24 : decode bMo_remove 24 = .ok (.aload_n 0, 1) := by decide +kernel
theorem dMo_remove_25 : decode bMo_remove 25 = .ok (.getfield 17, 3) := by decide +kernel
theorem dMo_remove_28 : decode bMo_remove 28 = .ok (.iload_n 2, 1) := by decide +kernel
theorem dMo_remove_29 : decode bMo_remove 29 = .ok (.aload_n 0, 1) := by decide +kernel
theorem dMo_remove_30 : decode bMo_remove 30 = .ok (.getfield 17, 3) := by decide +kernel
theorem dMo_remove_33 : decode bMo_remove 33 = .ok (.iload_n 2, 1) := by decide +kernel
theorem dMo_remove_34 : decode bMo_remove 34 = .ok (.iconst 5, 1) := by decide +kernel
theorem dMo_remove_35 : decode bMo_remove 35 = .ok (.iadd, 1) := by decide +kernel
theorem dMo_remove_36 : decode bMo_remove 36 = .ok (.iaload, 1) := by decide +kernel
theorem dMo_remove_37 : decode bMo_remove 37 = .ok (.iastore, 1) := by decide +kernel
theorem dMo_remove_38 : decode bMo_remove 38 = .ok (.iinc 2 1, 3) := by decide +kernel
theorem dMo_remove_41 : decode bMo_remove 41 = .ok (.goto (-27), 3) := by decide +kernel
theorem dMo_remove_44 : decode bMo_remove 44 = .ok (.return_, 1) := by decide +kernel
abbrev wMo_remove : List Cond := Cond.code yMo_remove bMo_remove 3 none   :: tbl
theorem kcMo_remove : Cond.code yMo_remove bMo_remove 3 none ∈ tbl := tb3 163 (by decide +kernel) (by decide +kernel)
theorem kiMo_remove : Cond.instanceMethod yMo_remove ∈ tbl := tb3 162 (by decide +kernel) (by decide +kernel)
theorem ksMo_remove : Cond.selects yMo_remove.cls yMo_remove yMo_remove ∈ tbl := tb0 31 (by decide +kernel) (by decide +kernel)
theorem dMo_is_0 : decode bMo_is 0 = .ok (.aload_n 0, 1) := by decide +kernel
theorem dMo_is_1 : decode bMo_is 1 = .ok (.iload_n 1, 1) := by decide +kernel
theorem dMo_is_2 : decode bMo_is 2 = .ok (.iconst 0, 1) := by decide +kernel
theorem dMo_is_3 : decode bMo_is 3 = .ok (.invokevirtual 27, 3) := by decide +kernel
theorem dMo_is_6 : decode bMo_is 6 = .ok (.iload_n 2, 1) := by decide +kernel
theorem dMo_is_7 : decode bMo_is 7 = .ok (.if_icmp .ne 39, 3) := by decide +kernel
theorem dMo_is_10 : decode bMo_is 10 = .ok (.aload_n 0, 1) := by decide +kernel
theorem dMo_is_11 : decode bMo_is 11 = .ok (.iload_n 1, 1) := by decide +kernel
theorem dMo_is_12 : decode bMo_is 12 = .ok (.iconst 1, 1) := by decide +kernel
theorem dMo_is_13 : decode bMo_is 13 = .ok (.invokevirtual 27, 3) := by decide +kernel
theorem dMo_is_16 : decode bMo_is 16 = .ok (.iload_n 3, 1) := by decide +kernel
theorem dMo_is_17 : decode bMo_is 17 = .ok (.if_icmp .ne 29, 3) := by decide +kernel
theorem dMo_is_20 : decode bMo_is 20 = .ok (.aload_n 0, 1) := by decide +kernel
theorem dMo_is_21 : decode bMo_is 21 = .ok (.iload_n 1, 1) := by decide +kernel
theorem dMo_is_22 : decode bMo_is 22 = .ok (.iconst 2, 1) := by decide +kernel
theorem dMo_is_23 : decode bMo_is 23 = .ok (.invokevirtual 27, 3) := by decide +kernel
theorem dMo_is_26 : decode bMo_is 26 = .ok (.iload 4, 2) := by decide +kernel
theorem dMo_is_28 : decode bMo_is 28 = .ok (.if_icmp .ne 18, 3) := by decide +kernel
theorem dMo_is_31 : decode bMo_is 31 = .ok (.aload_n 0, 1) := by decide +kernel
theorem dMo_is_32 : decode bMo_is 32 = .ok (.iload_n 1, 1) := by decide +kernel
theorem dMo_is_33 : decode bMo_is 33 = .ok (.iconst 3, 1) := by decide +kernel
theorem dMo_is_34 : decode bMo_is 34 = .ok (.invokevirtual 27, 3) := by decide +kernel
theorem dMo_is_37 : decode bMo_is 37 = .ok (.iload 5, 2) := by decide +kernel
theorem dMo_is_39 : decode bMo_is 39 = .ok (.if_icmp .ne 7, 3) := by decide +kernel
theorem dMo_is_42 : decode bMo_is 42 = .ok (.iconst 1, 1) := by decide +kernel
theorem dMo_is_43 : decode bMo_is 43 = .ok (.goto 4, 3) := by decide +kernel
theorem dMo_is_46 : decode bMo_is 46 = .ok (.iconst 0, 1) := by decide +kernel
theorem dMo_is_47 : decode bMo_is 47 = .ok (.ireturn, 1) := by decide +kernel
abbrev wMo_is : List Cond := Cond.code yMo_is bMo_is 6 (some .boolean)   :: tbl
theorem kcMo_is : Cond.code yMo_is bMo_is 6 (some .boolean) ∈ tbl := tb3 159 (by decide +kernel) (by decide +kernel)
theorem kiMo_is : Cond.instanceMethod yMo_is ∈ tbl := tb3 158 (by decide +kernel) (by decide +kernel)
theorem ksMo_is : Cond.selects yMo_is.cls yMo_is yMo_is ∈ tbl := tb0 30 (by decide +kernel) (by decide +kernel)
theorem dMo_delete_0 : decode bMo_delete 0 = .ok (.aload_n 0, 1) := by decide +kernel
theorem dMo_delete_1 : decode bMo_delete 1 = .ok (.getfield 7, 3) := by decide +kernel
theorem dMo_delete_4 : decode bMo_delete 4 = .ok (.ifCond .ne 6, 3) := by decide +kernel
theorem dMo_delete_7 : decode bMo_delete 7 = .ok (.bipush (-3), 2) := by decide +kernel
theorem dMo_delete_9 : decode bMo_delete 9 = .ok (.ireturn, 1) := by decide +kernel
theorem dMo_delete_10 : decode bMo_delete 10 = .ok (.iconst (-1), 1) := by decide +kernel
theorem dMo_delete_11 : decode bMo_delete 11 = .ok (.istore 6, 2) := by decide +kernel
theorem dMo_delete_13 : decode bMo_delete 13 = .ok (.iconst 0, 1) := by decide +kernel
theorem dMo_delete_14 : decode bMo_delete 14 = .ok (.istore 7, 2) := by decide +kernel
theorem dMo_delete_16 : decode bMo_delete 16 = .ok (.iload 7, 2) := by decide +kernel
theorem dMo_delete_18 : decode bMo_delete 18 = .ok (.aload_n 0, 1) := by decide +kernel
theorem dMo_delete_19 : decode bMo_delete 19 = .ok (.getfield 38, 3) := by decide +kernel
theorem dMo_delete_22 : decode bMo_delete 22 = .ok (.if_icmp .ge 46, 3) := by decide +kernel
theorem dMo_delete_25 : decode bMo_delete 25 = .ok (.aload_n 0, 1) := by decide +kernel
theorem dMo_delete_26 : decode bMo_delete 26 = .ok (.getfield 17, 3) := by decide +kernel
theorem dMo_delete_29 : decode bMo_delete 29 = .ok (.iconst 5, 1) := by decide +kernel
theorem dMo_delete_30 : decode bMo_delete 30 = .ok (.iload 7, 2) := by decide +kernel
theorem dMo_delete_32 : decode bMo_delete 32 = .ok (.imul, 1) := by decide +kernel
theorem dMo_delete_33 : decode bMo_delete 33 = .ok (.iaload, 1) := by decide +kernel
theorem dMo_delete_34 : decode bMo_delete 34 = .ok (.iload_n 1, 1) := by decide +kernel
theorem dMo_delete_35 : decode bMo_delete 35 = .ok (.if_icmp .ne 23, 3) := by decide +kernel
theorem dMo_delete_38 : decode bMo_delete 38 = .ok (.aload_n 0, 1) := by decide +kernel
theorem dMo_delete_39 : decode bMo_delete 39 = .ok (.iload 7, 2) := by decide +kernel
theorem dMo_delete_41 : decode bMo_delete 41 = .ok (.iload_n 2, 1) := by decide +kernel
theorem dMo_delete_42 : decode bMo_delete 42 = .ok (.iload_n 3, 1) := by decide +kernel
theorem dMo_delete_43 : decode bMo_delete 43 = .ok (.iload 4, 2) := by decide +kernel
theorem dMo_delete_45 : decode bMo_delete 45 = .ok (.iload 5, 2) := by decide +kernel
theorem dMo_delete_47 : decode bMo_delete 47 = .ok (.invokevirtual 57, 3) := by decide +kernel
theorem dMo_delete_50 : decode bMo_delete 50 = .ok (.ifCond .eq 8, 3) := by decide +kernel
theorem dMo_delete_53 : decode bMo_delete 53 = .ok (.iload 7, 2) := by decide +kernel
theorem dMo_delete_55 : decode bMo_delete 55 = .ok (.goto 5, 3) := by decide +kernel
theorem dMo_delete_58 : decode bMo_delete 58 = .ok (.iload 6, 2) := by decide +kernel
theorem dMo_delete_60 : decode bMo_delete 60 = .ok (.istore 6, 2) := by decide +kernel
theorem dMo_delete_62 : decode bMo_delete 62 = .ok (.iinc 7 1, 3) := by decide +kernel
theorem dMo_delete_65 : decode bMo_delete 65 = .ok (.goto (-49), 3) := by decide +kernel
theorem dMo_delete_68 : decode bMo_delete 68 = .ok (.iload 6, 2) := by decide +kernel
theorem dMo_delete_70 : decode bMo_delete 70 = .ok (.ifCond .ge 5, 3) := by decide +kernel
theorem dMo_delete_73 : decode bMo_delete 73 = .ok (.iconst (-1), 1) := by decide +kernel
theorem dMo_delete_74 : decode bMo_delete 74 = .ok (.ireturn, 1) := by decide +kernel
theorem dMo_delete_75 : decode bMo_delete 75 = .ok (.aload_n 0, 1) := by decide +kernel
theorem dMo_delete_76 : decode bMo_delete 76 = .ok (.invokevirtual 41, 3) := by decide +kernel
theorem dMo_delete_79 : decode bMo_delete 79 = .ok (.ifCond .eq 9, 3) := by decide +kernel
theorem dMo_delete_82 : decode bMo_delete 82 = .ok (.aload_n 0, 1) := by decide +kernel
theorem dMo_delete_83 : decode bMo_delete 83 = .ok (.iload 6, 2) := by decide +kernel
theorem dMo_delete_85 : decode bMo_delete 85 = .ok (.invokevirtual 61, 3) := by decide +kernel
theorem dMo_delete_88 : decode bMo_delete 88 = .ok (.aload_n 0, 1) := by decide +kernel
theorem dMo_delete_89 : decode bMo_delete 89 = .ok (.aload_n 0, 1) := by decide +kernel
theorem dMo_delete_90 : decode bMo_delete 90 = .ok (.getfield 38, 3) := by decide +kernel
theorem dMo_delete_93 : decode bMo_delete 93 = .ok (.invokevirtual 53, 3) := by decide +kernel
theorem dMo_delete_96 : decode bMo_delete 96 = .ok (.ireturn, 1) := by decide +kernel
abbrev wMo_delete : List Cond := Cond.code yMo_delete bMo_delete 8 (some .int)   :: tbl
theorem kcMo_delete : Cond.code yMo_delete bMo_delete 8 (some .int) ∈ tbl := tb3 155 (by decide +kernel) (by decide +kernel)
theorem kiMo_delete : Cond.instanceMethod yMo_delete ∈ tbl := tb3 153 (by decide +kernel) (by decide +kernel)
theorem ksMo_delete : Cond.selects yMo_delete.cls yMo_delete yMo_delete ∈ tbl := tb3 154 (by decide +kernel) (by decide +kernel)
theorem dMo_meets_0 : decode bMo_meets 0 = .ok (.aload_n 0, 1) := by decide +kernel
theorem dMo_meets_1 : decode bMo_meets 1 = .ok (.iload_n 1, 1) := by decide +kernel
theorem dMo_meets_2 : decode bMo_meets 2 = .ok (.iconst 0, 1) := by decide +kernel
theorem dMo_meets_3 : decode bMo_meets 3 = .ok (.invokevirtual 27, 3) := by decide +kernel
theorem dMo_meets_6 : decode bMo_meets 6 = .ok (.iload 4, 2) := by decide +kernel
theorem dMo_meets_8 : decode bMo_meets 8 = .ok (.if_icmp .gt 38, 3) := by decide +kernel
theorem dMo_meets_11 : decode bMo_meets 11 = .ok (.aload_n 0, 1) := by decide +kernel
theorem dMo_meets_12 : decode bMo_meets 12 = .ok (.iload_n 1, 1) := by decide +kernel
theorem dMo_meets_13 : decode bMo_meets 13 = .ok (.iconst 2, 1) := by decide +kernel
theorem dMo_meets_14 : decode bMo_meets 14 = .ok (.invokevirtual 27, 3) := by decide +kernel
theorem dMo_meets_17 : decode bMo_meets 17 = .ok (.iload_n 2, 1) := by decide +kernel
theorem dMo_meets_18 : decode bMo_meets 18 = .ok (.if_icmp .lt 28, 3) := by decide +kernel
theorem dMo_meets_21 : decode bMo_meets 21 = .ok (.aload_n 0, 1) := by decide +kernel
theorem dMo_meets_22 : decode bMo_meets 22 = .ok (.iload_n 1, 1) := by decide +kernel
theorem dMo_meets_23 : decode bMo_meets 23 = .ok (.iconst 1, 1) := by decide +kernel
theorem dMo_meets_24 : decode bMo_meets 24 = .ok (.invokevirtual 27, 3) := by decide +kernel
theorem dMo_meets_27 : decode bMo_meets 27 = .ok (.iload 5, 2) := by decide +kernel
theorem dMo_meets_29 : decode bMo_meets 29 = .ok (.if_icmp .gt 17, 3) := by decide +kernel
theorem dMo_meets_32 : decode bMo_meets 32 = .ok (.aload_n 0, 1) := by decide +kernel
theorem dMo_meets_33 : decode bMo_meets 33 = .ok (.iload_n 1, 1) := by decide +kernel
theorem dMo_meets_34 : decode bMo_meets 34 = .ok (.iconst 3, 1) := by decide +kernel
theorem dMo_meets_35 : decode bMo_meets 35 = .ok (.invokevirtual 27, 3) := by decide +kernel
theorem dMo_meets_38 : decode bMo_meets 38 = .ok (.iload_n 3, 1) := by decide +kernel
theorem dMo_meets_39 : decode bMo_meets 39 = .ok (.if_icmp .lt 7, 3) := by decide +kernel
theorem dMo_meets_42 : decode bMo_meets 42 = .ok (.iconst 1, 1) := by decide +kernel
theorem dMo_meets_43 : decode bMo_meets 43 = .ok (.goto 4, 3) := by decide +kernel
theorem dMo_meets_46 : decode bMo_meets 46 = .ok (.iconst 0, 1) := by decide +kernel
theorem dMo_meets_47 : decode bMo_meets 47 = .ok (.ireturn, 1) := by decide +kernel
abbrev wMo_meets : List Cond := Cond.code yMo_meets bMo_meets 6 (some .boolean)   :: tbl
theorem kcMo_meets : Cond.code yMo_meets bMo_meets 6 (some .boolean) ∈ tbl := tb3 175 (by decide +kernel) (by decide +kernel)
theorem kiMo_meets : Cond.instanceMethod yMo_meets ∈ tbl := tb3 174 (by decide +kernel) (by decide +kernel)
theorem ksMo_meets : Cond.selects yMo_meets.cls yMo_meets yMo_meets ∈ tbl := tb0 33 (by decide +kernel) (by decide +kernel)
theorem dMo_meeting_0 : decode bMo_meeting 0 = .ok (.iload 5, 2) := by decide +kernel
theorem dMo_meeting_2 : decode bMo_meeting 2 = .ok (.istore 6, 2) := by decide +kernel
theorem dMo_meeting_4 : decode bMo_meeting 4 = .ok (.iconst 0, 1) := by decide +kernel
theorem dMo_meeting_5 : decode bMo_meeting 5 = .ok (.istore 7, 2) := by decide +kernel
theorem dMo_meeting_7 : decode bMo_meeting 7 = .ok (.iload 7, 2) := by decide +kernel
theorem dMo_meeting_9 : decode bMo_meeting 9 = .ok (.aload_n 0, 1) := by decide +kernel
theorem dMo_meeting_10 : decode bMo_meeting 10 = .ok (.getfield 38, 3) := by decide +kernel
theorem dMo_meeting_13 : decode bMo_meeting 13 = .ok (.if_icmp .ge 39, 3) := by decide +kernel
theorem dMo_meeting_16 : decode bMo_meeting 16 = .ok (.iload 5, 2) := by decide +kernel
theorem dMo_meeting_18 : decode bMo_meeting 18 = .ok (.ifCond .lt 34, 3) := by decide +kernel
theorem dMo_meeting_21 : decode bMo_meeting 21 = .ok (.aload_n 0, 1) := by decide +kernel
theorem dMo_meeting_22 : decode bMo_meeting 22 = .ok (.iload 7, 2) := by decide +kernel
theorem dMo_meeting_24 : decode bMo_meeting 24 = .ok (.iload_n 1, 1) := by decide +kernel
theorem dMo_meeting_25 : decode bMo_meeting 25 = .ok (.iload_n 2, 1) := by decide +kernel
theorem dMo_meeting_26 : decode bMo_meeting 26 = .ok (.iload_n 3, 1) := by decide +kernel
theorem dMo_meeting_27 : decode bMo_meeting 27 = .ok (.iload 4, 2) := by decide +kernel
theorem dMo_meeting_29 : decode bMo_meeting 29 = .ok (.invokevirtual 65, 3) := by decide +kernel
theorem dMo_meeting_32 : decode bMo_meeting 32 = .ok (.ifCond .eq 14, 3) := by decide +kernel
theorem dMo_meeting_35 : decode bMo_meeting 35 = .ok (.iload 6, 2) := by decide +kernel
theorem dMo_meeting_37 : decode bMo_meeting 37 = .ok (.ifCond .ne 6, 3) := by decide +kernel
theorem dMo_meeting_40 : decode bMo_meeting 40 = .ok (.iload 7, 2) := by decide +kernel
theorem dMo_meeting_42 : decode bMo_meeting 42 = .ok (.ireturn, 1) := by decide +kernel
theorem dMo_meeting_43 : decode bMo_meeting 43 = .ok (.iinc 6 (-1), 3) := by decide +kernel
theorem dMo_meeting_46 : decode bMo_meeting 46 = .ok (.iinc 7 1, 3) := by decide +kernel
theorem dMo_meeting_49 : decode bMo_meeting 49 = .ok (.goto (-42), 3) := by decide +kernel
theorem dMo_meeting_52 : decode bMo_meeting 52 = .ok (.iconst (-1), 1) := by decide +kernel
theorem dMo_meeting_53 : decode bMo_meeting 53 = .ok (.ireturn, 1) := by decide +kernel
abbrev wMo_meeting : List Cond := Cond.code yMo_meeting bMo_meeting 8 (some .int)   :: tbl
theorem kcMo_meeting : Cond.code yMo_meeting bMo_meeting 8 (some .int) ∈ tbl := tb3 171 (by decide +kernel) (by decide +kernel)
theorem kiMo_meeting : Cond.instanceMethod yMo_meeting ∈ tbl := tb3 170 (by decide +kernel) (by decide +kernel)
theorem ksMo_meeting : Cond.selects yMo_meeting.cls yMo_meeting yMo_meeting ∈ tbl := tb0 32 (by decide +kernel) (by decide +kernel)
theorem dMo_take_0 : decode bMo_take 0 = .ok (.aload_n 0, 1) := by decide +kernel
theorem dMo_take_1 : decode bMo_take 1 = .ok (.getfield 7, 3) := by decide +kernel
theorem dMo_take_4 : decode bMo_take 4 = .ok (.ifCond .ne 6, 3) := by decide +kernel
theorem dMo_take_7 : decode bMo_take 7 = .ok (.bipush (-3), 2) := by decide +kernel
theorem dMo_take_9 : decode bMo_take 9 = .ok (.ireturn, 1) := by decide +kernel
theorem dMo_take_10 : decode bMo_take 10 = .ok (.iload_n 1, 1) := by decide +kernel
theorem dMo_take_11 : decode bMo_take 11 = .ok (.iload_n 2, 1) := by decide +kernel
theorem dMo_take_12 : decode bMo_take 12 = .ok (.iload_n 3, 1) := by decide +kernel
theorem dMo_take_13 : decode bMo_take 13 = .ok (.iload 4, 2) := by decide +kernel
theorem dMo_take_15 : decode bMo_take 15 = .ok (.invokestatic 34, 3) := by decide +kernel
theorem dMo_take_18 : decode bMo_take 18 = .ok (.ifCond .eq 7, 3) := by decide +kernel
theorem dMo_take_21 : decode bMo_take 21 = .ok (.iconst (-1), 1) := by decide +kernel
theorem dMo_take_22 : decode bMo_take 22 = .ok (.goto 13, 3) := by decide +kernel
theorem dMo_take_25 : decode bMo_take 25 = .ok (.aload_n 0, 1) := by decide +kernel
theorem dMo_take_26 : decode bMo_take 26 = .ok (.iload_n 1, 1) := by decide +kernel
theorem dMo_take_27 : decode bMo_take 27 = .ok (.iload_n 2, 1) := by decide +kernel
theorem dMo_take_28 : decode bMo_take 28 = .ok (.iload_n 3, 1) := by decide +kernel
theorem dMo_take_29 : decode bMo_take 29 = .ok (.iload 4, 2) := by decide +kernel
theorem dMo_take_31 : decode bMo_take 31 = .ok (.iconst 0, 1) := by decide +kernel
theorem dMo_take_32 : decode bMo_take 32 = .ok (.invokevirtual 68, 3) := by decide +kernel
theorem dMo_take_35 : decode bMo_take 35 = .ok (.istore 5, 2) := by decide +kernel
theorem dMo_take_37 : decode bMo_take 37 = .ok (.iload 5, 2) := by decide +kernel
theorem dMo_take_39 : decode bMo_take 39 = .ok (.ifCond .ge 5, 3) := by decide +kernel
theorem dMo_take_42 : decode bMo_take 42 = .ok (.iconst (-1), 1) := by decide +kernel
theorem dMo_take_43 : decode bMo_take 43 = .ok (.ireturn, 1) := by decide +kernel
theorem dMo_take_44 : decode bMo_take 44 = .ok (.aload_n 0, 1) := by decide +kernel
theorem dMo_take_45 : decode bMo_take 45 = .ok (.getfield 17, 3) := by decide +kernel
theorem dMo_take_48 : decode bMo_take 48 = .ok (.iconst 5, 1) := by decide +kernel
theorem dMo_take_49 : decode bMo_take 49 = .ok (.iload 5, 2) := by decide +kernel
theorem dMo_take_51 : decode bMo_take 51 = .ok (.imul, 1) := by decide +kernel
theorem dMo_take_52 : decode bMo_take 52 = .ok (.iaload, 1) := by decide +kernel
theorem dMo_take_53 : decode bMo_take 53 = .ok (.istore 6, 2) := by decide +kernel
theorem dMo_take_55 : decode bMo_take 55 = .ok (.aload_n 0, 1) := by decide +kernel
theorem dMo_take_56 : decode bMo_take 56 = .ok (.invokevirtual 41, 3) := by decide +kernel
theorem dMo_take_59 : decode bMo_take 59 = .ok (.ifCond .eq 9, 3) := by decide +kernel
theorem dMo_take_62 : decode bMo_take 62 = .ok (.aload_n 0, 1) := by decide +kernel
theorem dMo_take_63 : decode bMo_take 63 = .ok (.iload 5, 2) := by decide +kernel
theorem dMo_take_65 : decode bMo_take 65 = .ok (.invokevirtual 61, 3) := by decide +kernel
theorem dMo_take_68 : decode bMo_take 68 = .ok (.aload_n 0, 1) := by decide +kernel
theorem dMo_take_69 : decode bMo_take 69 = .ok (.iload 6, 2) := by decide +kernel
theorem dMo_take_71 : decode bMo_take 71 = .ok (.invokevirtual 53, 3) := by decide +kernel
theorem dMo_take_74 : decode bMo_take 74 = .ok (.ireturn, 1) := by decide +kernel
abbrev wMo_take : List Cond := Cond.code yMo_take bMo_take 7 (some .int)   :: tbl
theorem kcMo_take : Cond.code yMo_take bMo_take 7 (some .int) ∈ tbl := tb3 167 (by decide +kernel) (by decide +kernel)
theorem kiMo_take : Cond.instanceMethod yMo_take ∈ tbl := tb3 165 (by decide +kernel) (by decide +kernel)
theorem ksMo_take : Cond.selects yMo_take.cls yMo_take yMo_take ∈ tbl := tb3 166 (by decide +kernel) (by decide +kernel)
theorem dMo_cut_0 : decode bMo_cut 0 = .ok (.iload_n 1, 1) := by decide +kernel
theorem dMo_cut_1 : decode bMo_cut 1 = .ok (.iconst (-1), 1) := by decide +kernel
theorem dMo_cut_2 : decode bMo_cut 2 = .ok (.if_icmp .lt 8, 3) := by decide +kernel
theorem dMo_cut_5 : decode bMo_cut 5 = .ok (.iload_n 1, 1) := by decide +kernel
theorem dMo_cut_6 : decode bMo_cut 6 = .ok (.iconst 5, 1) := by decide +kernel
theorem dMo_cut_7 : decode bMo_cut 7 = .ok (.if_icmp .le 5, 3) := by decide +kernel
theorem dMo_cut_10 : decode bMo_cut 10 = .ok (.iconst 0, 1) := by decide +kernel
theorem dMo_cut_11 : decode bMo_cut 11 = .ok (.ireturn, 1) := by decide +kernel
theorem dMo_cut_12 : decode bMo_cut 12 = .ok (.aload_n 0, 1) := by decide +kernel
theorem dMo_cut_13 : decode bMo_cut 13 = .ok (.iload_n 1, 1) := by decide +kernel
theorem dMo_cut_14 : decode bMo_cut 14 = .ok (.putfield 13, 3) := by decide +kernel
theorem dMo_cut_17 : decode bMo_cut 17 = .ok (.iconst 1, 1) := by decide +kernel
theorem dMo_cut_18 : decode bMo_cut 18 = .ok (.ireturn, 1) := by decide +kernel
abbrev wMo_cut : List Cond := Cond.code yMo_cut bMo_cut 2 (some .boolean)   :: tbl
theorem kcMo_cut : Cond.code yMo_cut bMo_cut 2 (some .boolean) ∈ tbl := tb3 179 (by decide +kernel) (by decide +kernel)
theorem kiMo_cut : Cond.instanceMethod yMo_cut ∈ tbl := tb3 177 (by decide +kernel) (by decide +kernel)
theorem ksMo_cut : Cond.selects yMo_cut.cls yMo_cut yMo_cut ∈ tbl := tb3 178 (by decide +kernel) (by decide +kernel)
theorem dMo_stop_0 : decode bMo_stop 0 = .ok (.aload_n 0, 1) := by decide +kernel
theorem dMo_stop_1 : decode bMo_stop 1 = .ok (.getfield 7, 3) := by decide +kernel
theorem dMo_stop_4 : decode bMo_stop 4 = .ok (.ifCond .ne 5, 3) := by decide +kernel
theorem dMo_stop_7 : decode bMo_stop 7 = .ok (.iconst 0, 1) := by decide +kernel
theorem dMo_stop_8 : decode bMo_stop 8 = .ok (.ireturn, 1) := by decide +kernel
theorem dMo_stop_9 : decode bMo_stop 9 = .ok (.aload_n 0, 1) := by decide +kernel
theorem dMo_stop_10 : decode bMo_stop 10 = .ok (.iconst 0, 1) := by decide +kernel
theorem dMo_stop_11 : decode bMo_stop 11 = .ok (.putfield 7, 3) := by decide +kernel
theorem dMo_stop_14 : decode bMo_stop 14 = .ok (.iconst 1, 1) := by decide +kernel
theorem dMo_stop_15 : decode bMo_stop 15 = .ok (.ireturn, 1) := by decide +kernel
abbrev wMo_stop : List Cond := Cond.code yMo_stop bMo_stop 1 (some .boolean)   :: tbl
theorem kcMo_stop : Cond.code yMo_stop bMo_stop 1 (some .boolean) ∈ tbl := tb3 183 (by decide +kernel) (by decide +kernel)
theorem kiMo_stop : Cond.instanceMethod yMo_stop ∈ tbl := tb3 181 (by decide +kernel) (by decide +kernel)
theorem ksMo_stop : Cond.selects yMo_stop.cls yMo_stop yMo_stop ∈ tbl := tb3 182 (by decide +kernel) (by decide +kernel)
theorem dMo_start_0 : decode bMo_start 0 = .ok (.aload_n 0, 1) := by decide +kernel
theorem dMo_start_1 : decode bMo_start 1 = .ok (.getfield 7, 3) := by decide +kernel
theorem dMo_start_4 : decode bMo_start 4 = .ok (.ifCond .eq 5, 3) := by decide +kernel
theorem dMo_start_7 : decode bMo_start 7 = .ok (.iconst 0, 1) := by decide +kernel
theorem dMo_start_8 : decode bMo_start 8 = .ok (.ireturn, 1) := by decide +kernel
theorem dMo_start_9 : decode bMo_start 9 = .ok (.aload_n 0, 1) := by decide +kernel
theorem dMo_start_10 : decode bMo_start 10 = .ok (.iconst 1, 1) := by decide +kernel
theorem dMo_start_11 : decode bMo_start 11 = .ok (.putfield 7, 3) := by decide +kernel
theorem dMo_start_14 : decode bMo_start 14 = .ok (.iconst 1, 1) := by decide +kernel
theorem dMo_start_15 : decode bMo_start 15 = .ok (.ireturn, 1) := by decide +kernel
abbrev wMo_start : List Cond := Cond.code yMo_start bMo_start 1 (some .boolean)   :: tbl
theorem kcMo_start : Cond.code yMo_start bMo_start 1 (some .boolean) ∈ tbl := tb3 187 (by decide +kernel) (by decide +kernel)
theorem kiMo_start : Cond.instanceMethod yMo_start ∈ tbl := tb3 185 (by decide +kernel) (by decide +kernel)
theorem ksMo_start : Cond.selects yMo_start.cls yMo_start yMo_start ∈ tbl := tb3 186 (by decide +kernel) (by decide +kernel)
theorem dMo_up_0 : decode bMo_up 0 = .ok (.aload_n 0, 1) := by decide +kernel
theorem dMo_up_1 : decode bMo_up 1 = .ok (.getfield 7, 3) := by decide +kernel
theorem dMo_up_4 : decode bMo_up 4 = .ok (.ireturn, 1) := by decide +kernel
abbrev wMo_up : List Cond := Cond.code yMo_up bMo_up 1 (some .boolean)   :: tbl
theorem kcMo_up : Cond.code yMo_up bMo_up 1 (some .boolean) ∈ tbl := tb3 191 (by decide +kernel) (by decide +kernel)
theorem kiMo_up : Cond.instanceMethod yMo_up ∈ tbl := tb3 189 (by decide +kernel) (by decide +kernel)
theorem ksMo_up : Cond.selects yMo_up.cls yMo_up yMo_up ∈ tbl := tb3 190 (by decide +kernel) (by decide +kernel)
theorem dMo_size_0 : decode bMo_size 0 = .ok (.aload_n 0, 1) := by decide +kernel
theorem dMo_size_1 : decode bMo_size 1 = .ok (.getfield 7, 3) := by decide +kernel
theorem dMo_size_4 : decode bMo_size 4 = .ok (.ifCond .eq 10, 3) := by decide +kernel
theorem dMo_size_7 : decode bMo_size 7 = .ok (.aload_n 0, 1) := by decide +kernel
theorem dMo_size_8 : decode bMo_size 8 = .ok (.getfield 38, 3) := by decide +kernel
theorem dMo_size_11 : decode bMo_size 11 = .ok (.goto 5, 3) := by decide +kernel
theorem dMo_size_14 : decode bMo_size 14 = .ok (.bipush (-3), 2) := by decide +kernel
theorem dMo_size_16 : decode bMo_size 16 = .ok (.ireturn, 1) := by decide +kernel
abbrev wMo_size : List Cond := Cond.code yMo_size bMo_size 1 (some .int)   :: tbl
theorem kcMo_size : Cond.code yMo_size bMo_size 1 (some .int) ∈ tbl := tb3 195 (by decide +kernel) (by decide +kernel)
theorem kiMo_size : Cond.instanceMethod yMo_size ∈ tbl := tb3 193 (by decide +kernel) (by decide +kernel)
theorem ksMo_size : Cond.selects yMo_size.cls yMo_size yMo_size ∈ tbl := tb3 194 (by decide +kernel) (by decide +kernel)
theorem dMo_count_0 : decode bMo_count 0 = .ok (.aload_n 0, 1) := by decide +kernel
theorem dMo_count_1 : decode bMo_count 1 = .ok (.getfield 7, 3) := by decide +kernel
theorem dMo_count_4 : decode bMo_count 4 = .ok (.ifCond .ne 6, 3) := by decide +kernel
theorem dMo_count_7 : decode bMo_count 7 = .ok (.bipush (-3), 2) := by decide +kernel
theorem dMo_count_9 : decode bMo_count 9 = .ok (.ireturn, 1) := by decide +kernel
theorem dMo_count_10 : decode bMo_count 10 = .ok (.iload_n 1, 1) := by decide +kernel
theorem dMo_count_11 : decode bMo_count 11 = .ok (.iload_n 2, 1) := by decide +kernel
theorem dMo_count_12 : decode bMo_count 12 = .ok (.iload_n 3, 1) := by decide +kernel
theorem dMo_count_13 : decode bMo_count 13 = .ok (.iload 4, 2) := by decide +kernel
theorem dMo_count_15 : decode bMo_count 15 = .ok (.invokestatic 34, 3) := by decide +kernel
theorem dMo_count_18 : decode bMo_count 18 = .ok (.ifCond .eq 5, 3) := by decide +kernel
theorem dMo_count_21 : decode bMo_count 21 = .ok (.iconst (-1), 1) := by decide +kernel
theorem dMo_count_22 : decode bMo_count 22 = .ok (.ireturn, 1) := by decide +kernel
theorem dMo_count_23 : decode bMo_count 23 = .ok (.iconst 0, 1) := by decide +kernel
theorem dMo_count_24 : decode bMo_count 24 = .ok (.istore 5, 2) := by decide +kernel
theorem dMo_count_26 : decode bMo_count 26 = .ok (.iconst 0, 1) := by decide +kernel
theorem dMo_count_27 : decode bMo_count 27 = .ok (.istore 6, 2) := by decide +kernel
theorem dMo_count_29 : decode bMo_count 29 = .ok (.iload 6, 2) := by decide +kernel
theorem dMo_count_31 : decode bMo_count 31 = .ok (.aload_n 0, 1) := by decide +kernel
theorem dMo_count_32 : decode bMo_count 32 = .ok (.getfield 38, 3) := by decide +kernel
theorem dMo_count_35 : decode bMo_count 35 = .ok (.if_icmp .ge 34, 3) := by decide +kernel
theorem dMo_count_38 : decode bMo_count 38 = .ok (.aload_n 0, 1) := by decide +kernel
theorem dMo_count_39 : decode bMo_count 39 = .ok (.iload 6, 2) := by decide +kernel
theorem dMo_count_41 : decode bMo_count 41 = .ok (.iload_n 1, 1) := by decide +kernel
theorem dMo_count_42 : decode bMo_count 42 = .ok (.iload_n 2, 1) := by decide +kernel
theorem dMo_count_43 : decode bMo_count 43 = .ok (.iload_n 3, 1) := by decide +kernel
theorem dMo_count_44 : decode bMo_count 44 = .ok (.iload 4, 2) := by decide +kernel
theorem dMo_count_46 : decode bMo_count 46 = .ok (.invokevirtual 65, 3) := by decide +kernel
theorem dMo_count_49 : decode bMo_count 49 = .ok (.ifCond .eq 10, 3) := by decide +kernel
theorem dMo_count_52 : decode bMo_count 52 = .ok (.iload 5, 2) := by decide +kernel
theorem dMo_count_54 : decode bMo_count 54 = .ok (.iconst 1, 1) := by decide +kernel
theorem dMo_count_55 : decode bMo_count 55 = .ok (.iadd, 1) := by decide +kernel
theorem dMo_count_56 : decode bMo_count 56 = .ok (.goto 5, 3) := by decide +kernel
theorem dMo_count_59 : decode bMo_count 59 = .ok (.iload 5, 2) := by decide +kernel
theorem dMo_count_61 : decode bMo_count 61 = .ok (.istore 5, 2) := by decide +kernel
theorem dMo_count_63 : decode bMo_count 63 = .ok (.iinc 6 1, 3) := by decide +kernel
theorem dMo_count_66 : decode bMo_count 66 = .ok (.goto (-37), 3) := by decide +kernel
theorem dMo_count_69 : decode bMo_count 69 = .ok (.iload 5, 2) := by decide +kernel
theorem dMo_count_71 : decode bMo_count 71 = .ok (.ireturn, 1) := by decide +kernel
abbrev wMo_count : List Cond := Cond.code yMo_count bMo_count 7 (some .int)   :: tbl
theorem kcMo_count : Cond.code yMo_count bMo_count 7 (some .int) ∈ tbl := tb3 199 (by decide +kernel) (by decide +kernel)
theorem kiMo_count : Cond.instanceMethod yMo_count ∈ tbl := tb3 197 (by decide +kernel) (by decide +kernel)
theorem ksMo_count : Cond.selects yMo_count.cls yMo_count yMo_count ∈ tbl := tb3 198 (by decide +kernel) (by decide +kernel)
theorem dMo_within_0 : decode bMo_within 0 = .ok (.aload_n 0, 1) := by decide +kernel
theorem dMo_within_1 : decode bMo_within 1 = .ok (.getfield 7, 3) := by decide +kernel
theorem dMo_within_4 : decode bMo_within 4 = .ok (.ifCond .ne 6, 3) := by decide +kernel
theorem dMo_within_7 : decode bMo_within 7 = .ok (.bipush (-3), 2) := by decide +kernel
theorem dMo_within_9 : decode bMo_within 9 = .ok (.ireturn, 1) := by decide +kernel
theorem dMo_within_10 : decode bMo_within 10 = .ok (.iload_n 1, 1) := by decide +kernel
theorem dMo_within_11 : decode bMo_within 11 = .ok (.iload_n 2, 1) := by decide +kernel
theorem dMo_within_12 : decode bMo_within 12 = .ok (.iload_n 3, 1) := by decide +kernel
theorem dMo_within_13 : decode bMo_within 13 = .ok (.iload 4, 2) := by decide +kernel
theorem dMo_within_15 : decode bMo_within 15 = .ok (.invokestatic 34, 3) := by decide +kernel
theorem dMo_within_18 : decode bMo_within 18 = .ok (.ifCond .eq 5, 3) := by decide +kernel
theorem dMo_within_21 : decode bMo_within 21 = .ok (.iconst (-1), 1) := by decide +kernel
theorem dMo_within_22 : decode bMo_within 22 = .ok (.ireturn, 1) := by decide +kernel
theorem dMo_within_23 : decode bMo_within 23 = .ok (.iconst 0, 1) := by decide +kernel
theorem dMo_within_24 : decode bMo_within 24 = .ok (.istore 5, 2) := by decide +kernel
theorem dMo_within_26 : decode bMo_within 26 = .ok (.iconst 0, 1) := by decide +kernel
theorem dMo_within_27 : decode bMo_within 27 = .ok (.istore 6, 2) := by decide +kernel
theorem dMo_within_29 : decode bMo_within 29 = .ok (.iload 6, 2) := by decide +kernel
theorem dMo_within_31 : decode bMo_within 31 = .ok (.aload_n 0, 1) := by decide +kernel
theorem dMo_within_32 : decode bMo_within 32 = .ok (.getfield 38, 3) := by decide +kernel
theorem dMo_within_35 : decode bMo_within 35 = .ok (.if_icmp .ge 65, 3) := by decide +kernel
theorem dMo_within_38 : decode bMo_within 38 = .ok (.aload_n 0, 1) := by decide +kernel
theorem dMo_within_39 : decode bMo_within 39 = .ok (.iload 6, 2) := by decide +kernel
theorem dMo_within_41 : decode bMo_within 41 = .ok (.iconst 0, 1) := by decide +kernel
theorem dMo_within_42 : decode bMo_within 42 = .ok (.invokevirtual 27, 3) := by decide +kernel
theorem dMo_within_45 : decode bMo_within 45 = .ok (.iload_n 1, 1) := by decide +kernel
theorem dMo_within_46 : decode bMo_within 46 = .ok (.if_icmp .lt 44, 3) := by decide +kernel
theorem dMo_within_49 : decode bMo_within 49 = .ok (.aload_n 0, 1) := by decide +kernel
theorem dMo_within_50 : decode bMo_within 50 = .ok (.iload 6, 2) := by decide +kernel
theorem dMo_within_52 : decode bMo_within 52 = .ok (.iconst 1, 1) := by decide +kernel
theorem dMo_within_53 : decode bMo_within 53 = .ok (.invokevirtual 27, 3) := by decide +kernel
theorem dMo_within_56 : decode bMo_within 56 = .ok (.iload_n 2, 1) := by decide +kernel
theorem dMo_within_57 : decode bMo_within 57 = .ok (.if_icmp .lt 33, 3) := by decide +kernel
theorem dMo_within_60 : decode bMo_within 60 = .ok (.aload_n 0, 1) := by decide +kernel
theorem dMo_within_61 : decode bMo_within 61 = .ok (.iload 6, 2) := by decide +kernel
theorem dMo_within_63 : decode bMo_within 63 = .ok (.iconst 2, 1) := by decide +kernel
theorem dMo_within_64 : decode bMo_within 64 = .ok (.invokevirtual 27, 3) := by decide +kernel
theorem dMo_within_67 : decode bMo_within 67 = .ok (.iload_n 3, 1) := by decide +kernel
theorem dMo_within_68 : decode bMo_within 68 = .ok (.if_icmp .gt 22, 3) := by decide +kernel
theorem dMo_within_71 : decode bMo_within 71 = .ok (.aload_n 0, 1) := by decide +kernel
theorem dMo_within_72 : decode bMo_within 72 = .ok (.iload 6, 2) := by decide +kernel
theorem dMo_within_74 : decode bMo_within 74 = .ok (.iconst 3, 1) := by decide +kernel
theorem dMo_within_75 : decode bMo_within 75 = .ok (.invokevirtual 27, 3) := by decide +kernel
theorem dMo_within_78 : decode bMo_within 78 = .ok (.iload 4, 2) := by decide +kernel
theorem dMo_within_80 : decode bMo_within 80 = .ok (.if_icmp .gt 10, 3) := by decide +kernel
theorem dMo_within_83 : decode bMo_within 83 = .ok (.iload 5, 2) := by decide +kernel
theorem dMo_within_85 : decode bMo_within 85 = .ok (.iconst 1, 1) := by decide +kernel
theorem dMo_within_86 : decode bMo_within 86 = .ok (.iadd, 1) := by decide +kernel
theorem dMo_within_87 : decode bMo_within 87 = .ok (.goto 5, 3) := by decide +kernel
theorem dMo_within_90 : decode bMo_within 90 = .ok (.iload 5, 2) := by decide +kernel
theorem dMo_within_92 : decode bMo_within 92 = .ok (.istore 5, 2) := by decide +kernel
theorem dMo_within_94 : decode bMo_within 94 = .ok (.iinc 6 1, 3) := by decide +kernel
theorem dMo_within_97 : decode bMo_within 97 = .ok (.goto (-68), 3) := by decide +kernel
theorem dMo_within_100 : decode bMo_within 100 = .ok (.iload 5, 2) := by decide +kernel
theorem dMo_within_102 : decode bMo_within 102 = .ok (.ireturn, 1) := by decide +kernel
abbrev wMo_within : List Cond := Cond.code yMo_within bMo_within 7 (some .int)   :: tbl
theorem kcMo_within : Cond.code yMo_within bMo_within 7 (some .int) ∈ tbl := tb3 203 (by decide +kernel) (by decide +kernel)
theorem kiMo_within : Cond.instanceMethod yMo_within ∈ tbl := tb3 201 (by decide +kernel) (by decide +kernel)
theorem ksMo_within : Cond.selects yMo_within.cls yMo_within yMo_within ∈ tbl := tb3 202 (by decide +kernel) (by decide +kernel)
theorem dMo_pick_0 : decode bMo_pick 0 = .ok (.aload_n 0, 1) := by decide +kernel
theorem dMo_pick_1 : decode bMo_pick 1 = .ok (.getfield 7, 3) := by decide +kernel
theorem dMo_pick_4 : decode bMo_pick 4 = .ok (.ifCond .ne 6, 3) := by decide +kernel
theorem dMo_pick_7 : decode bMo_pick 7 = .ok (.bipush (-3), 2) := by decide +kernel
theorem dMo_pick_9 : decode bMo_pick 9 = .ok (.ireturn, 1) := by decide +kernel
theorem dMo_pick_10 : decode bMo_pick 10 = .ok (.iload_n 1, 1) := by decide +kernel
theorem dMo_pick_11 : decode bMo_pick 11 = .ok (.iload_n 2, 1) := by decide +kernel
theorem dMo_pick_12 : decode bMo_pick 12 = .ok (.iload_n 3, 1) := by decide +kernel
theorem dMo_pick_13 : decode bMo_pick 13 = .ok (.iload 4, 2) := by decide +kernel
theorem dMo_pick_15 : decode bMo_pick 15 = .ok (.invokestatic 34, 3) := by decide +kernel
theorem dMo_pick_18 : decode bMo_pick 18 = .ok (.ifCond .eq 7, 3) := by decide +kernel
theorem dMo_pick_21 : decode bMo_pick 21 = .ok (.iconst (-1), 1) := by decide +kernel
theorem dMo_pick_22 : decode bMo_pick 22 = .ok (.goto 14, 3) := by decide +kernel
theorem dMo_pick_25 : decode bMo_pick 25 = .ok (.aload_n 0, 1) := by decide +kernel
theorem dMo_pick_26 : decode bMo_pick 26 = .ok (.iload_n 1, 1) := by decide +kernel
theorem dMo_pick_27 : decode bMo_pick 27 = .ok (.iload_n 2, 1) := by decide +kernel
theorem dMo_pick_28 : decode bMo_pick 28 = .ok (.iload_n 3, 1) := by decide +kernel
theorem dMo_pick_29 : decode bMo_pick 29 = .ok (.iload 4, 2) := by decide +kernel
theorem dMo_pick_31 : decode bMo_pick 31 = .ok (.iload 5, 2) := by decide +kernel
theorem dMo_pick_33 : decode bMo_pick 33 = .ok (.invokevirtual 68, 3) := by decide +kernel
theorem dMo_pick_36 : decode bMo_pick 36 = .ok (.istore 6, 2) := by decide +kernel
theorem dMo_pick_38 : decode bMo_pick 38 = .ok (.iload 6, 2) := by decide +kernel
theorem dMo_pick_40 : decode bMo_pick 40 = .ok (.ifCond .ge 7, 3) := by decide +kernel
theorem dMo_pick_43 : decode bMo_pick 43 = .ok (.iconst (-1), 1) := by decide +kernel
theorem dMo_pick_44 : decode bMo_pick 44 = .ok (.goto 12, 3) := by decide +kernel
theorem dMo_pick_47 : decode bMo_pick 47 = .ok (.aload_n 0, 1) := by decide +kernel
theorem dMo_pick_48 : decode bMo_pick 48 = .ok (.getfield 17, 3) := by decide +kernel
theorem dMo_pick_51 : decode bMo_pick 51 = .ok (.iconst 5, 1) := by decide +kernel
theorem dMo_pick_52 : decode bMo_pick 52 = .ok (.iload 6, 2) := by decide +kernel
theorem dMo_pick_54 : decode bMo_pick 54 = .ok (.imul, 1) := by decide +kernel
theorem dMo_pick_55 : decode bMo_pick 55 = .ok (.iaload, 1) := by decide +kernel
theorem dMo_pick_56 : decode bMo_pick 56 = .ok (.ireturn, 1) := by decide +kernel
abbrev wMo_pick : List Cond := Cond.code yMo_pick bMo_pick 7 (some .int)   :: tbl
theorem kcMo_pick : Cond.code yMo_pick bMo_pick 7 (some .int) ∈ tbl := tb3 207 (by decide +kernel) (by decide +kernel)
theorem kiMo_pick : Cond.instanceMethod yMo_pick ∈ tbl := tb3 205 (by decide +kernel) (by decide +kernel)
theorem ksMo_pick : Cond.selects yMo_pick.cls yMo_pick yMo_pick ∈ tbl := tb3 206 (by decide +kernel) (by decide +kernel)
theorem dMo_off_0 : decode bMo_off 0 = .ok (.iload_n 0, 1) := by decide +kernel
theorem dMo_off_1 : decode bMo_off 1 = .ok (.iload_n 1, 1) := by decide +kernel
theorem dMo_off_2 : decode bMo_off 2 = .ok (.if_icmp .ge 11, 3) := by decide +kernel
theorem dMo_off_5 : decode bMo_off 5 = .ok (.iload_n 1, 1) := by decide +kernel
theorem dMo_off_6 : decode bMo_off 6 = .ok (.i2l, 1) := by decide +kernel
theorem dMo_off_7 : decode bMo_off 7 = .ok (.iload_n 0, 1) := by decide +kernel
theorem dMo_off_8 : decode bMo_off 8 = .ok (.i2l, 1) := by decide +kernel
theorem dMo_off_9 : decode bMo_off 9 = .ok (.lsub, 1) := by decide +kernel
theorem dMo_off_10 : decode bMo_off 10 = .ok (.goto 17, 3) := by decide +kernel
theorem dMo_off_13 : decode bMo_off 13 = .ok (.iload_n 0, 1) := by decide +kernel
theorem dMo_off_14 : decode bMo_off 14 = .ok (.iload_n 2, 1) := by decide +kernel
theorem dMo_off_15 : decode bMo_off 15 = .ok (.if_icmp .le 11, 3) := by decide +kernel
theorem dMo_off_18 : decode bMo_off 18 = .ok (.iload_n 0, 1) := by decide +kernel
theorem dMo_off_19 : decode bMo_off 19 = .ok (.i2l, 1) := by decide +kernel
theorem dMo_off_20 : decode bMo_off 20 = .ok (.iload_n 2, 1) := by decide +kernel
theorem dMo_off_21 : decode bMo_off 21 = .ok (.i2l, 1) := by decide +kernel
theorem dMo_off_22 : decode bMo_off 22 = .ok (.lsub, 1) := by decide +kernel
theorem dMo_off_23 : decode bMo_off 23 = .ok (.goto 4, 3) := by decide +kernel
theorem dMo_off_26 : decode bMo_off 26 = .ok (.lconst 0, 1) := by decide +kernel
theorem dMo_off_27 : decode bMo_off 27 = .ok (.lreturn, 1) := by decide +kernel
abbrev wMo_off : List Cond := Cond.code yMo_off bMo_off 3 (some .long)   :: tbl
theorem kcMo_off : Cond.code yMo_off bMo_off 3 (some .long) ∈ tbl := tb3 223 (by decide +kernel) (by decide +kernel)
theorem ktMo_off : Cond.static yMo_off ∈ tbl := tb3 222 (by decide +kernel) (by decide +kernel)
theorem dMo_farFrom_0 : decode bMo_farFrom 0 = .ok (.iload_n 2, 1) := by decide +kernel
theorem dMo_farFrom_1 : decode bMo_farFrom 1 = .ok (.aload_n 0, 1) := by decide +kernel
theorem dMo_farFrom_2 : decode bMo_farFrom 2 = .ok (.iload_n 1, 1) := by decide +kernel
theorem dMo_farFrom_3 : decode bMo_farFrom 3 = .ok (.iconst 0, 1) := by decide +kernel
theorem dMo_farFrom_4 : decode bMo_farFrom 4 = .ok (.invokevirtual 27, 3) := by decide +kernel
theorem dMo_farFrom_7 : decode bMo_farFrom 7 = .ok (.aload_n 0, 1) := by decide +kernel
theorem dMo_farFrom_8 : decode bMo_farFrom 8 = .ok (.iload_n 1, 1) := by decide +kernel
theorem dMo_farFrom_9 : decode bMo_farFrom 9 = .ok (.iconst 2, 1) := by decide +kernel
theorem dMo_farFrom_10 : decode bMo_farFrom 10 = .ok (.invokevirtual 27, 3) := by decide +kernel
theorem dMo_farFrom_13 : decode bMo_farFrom 13 = .ok (.invokestatic 72, 3) := by decide +kernel
theorem dMo_farFrom_16 : decode bMo_farFrom 16 = .ok (.lstore 4, 2) := by decide +kernel
theorem dMo_farFrom_18 : decode bMo_farFrom 18 = .ok (.iload_n 3, 1) := by decide +kernel
theorem dMo_farFrom_19 : decode bMo_farFrom 19 = .ok (.aload_n 0, 1) := by decide +kernel
theorem dMo_farFrom_20 : decode bMo_farFrom 20 = .ok (.iload_n 1, 1) := by decide +kernel
theorem dMo_farFrom_21 : decode bMo_farFrom 21 = .ok (.iconst 1, 1) := by decide +kernel
theorem dMo_farFrom_22 : decode bMo_farFrom 22 = .ok (.invokevirtual 27, 3) := by decide +kernel
theorem dMo_farFrom_25 : decode bMo_farFrom 25 = .ok (.aload_n 0, 1) := by decide +kernel
theorem dMo_farFrom_26 : decode bMo_farFrom 26 = .ok (.iload_n 1, 1) := by decide +kernel
theorem dMo_farFrom_27 : decode bMo_farFrom 27 = .ok (.iconst 3, 1) := by decide +kernel
theorem dMo_farFrom_28 : decode bMo_farFrom 28 = .ok (.invokevirtual 27, 3) := by decide +kernel
theorem dMo_farFrom_31 : decode bMo_farFrom 31 = .ok (.invokestatic 72, 3) := by decide +kernel
theorem dMo_farFrom_34 : decode bMo_farFrom 34 = .ok (.lstore 6, 2) := by decide +kernel
theorem dMo_farFrom_36 : decode bMo_farFrom 36 = .ok (.lload 4, 2) := by decide +kernel
theorem dMo_farFrom_38 : decode bMo_farFrom 38 = .ok (.lload 4, 2) := by decide +kernel
theorem dMo_farFrom_40 : decode bMo_farFrom 40 = .ok (.lmul, 1) := by decide +kernel
theorem dMo_farFrom_41 : decode bMo_farFrom 41 = .ok (.lload 6, 2) := by decide +kernel
theorem dMo_farFrom_43 : decode bMo_farFrom 43 = .ok (.lload 6, 2) := by decide +kernel
theorem dMo_farFrom_45 : decode bMo_farFrom 45 = .ok (.lmul, 1) := by decide +kernel
theorem dMo_farFrom_46 : decode bMo_farFrom 46 = .ok (.ladd, 1) := by decide +kernel
theorem dMo_farFrom_47 : decode bMo_farFrom 47 = .ok (.lreturn, 1) := by decide +kernel
abbrev wMo_farFrom : List Cond := Cond.code yMo_farFrom bMo_farFrom 8 (some .long)   :: tbl
theorem kcMo_farFrom : Cond.code yMo_farFrom bMo_farFrom 8 (some .long) ∈ tbl := tb3 220 (by decide +kernel) (by decide +kernel)
theorem kiMo_farFrom : Cond.instanceMethod yMo_farFrom ∈ tbl := tb3 219 (by decide +kernel) (by decide +kernel)
theorem ksMo_farFrom : Cond.selects yMo_farFrom.cls yMo_farFrom yMo_farFrom ∈ tbl := tb0 35 (by decide +kernel) (by decide +kernel)
theorem dMo_nearestOne_0 : decode bMo_nearestOne 0 = .ok (.iconst (-1), 1) := by decide +kernel
theorem dMo_nearestOne_1 : decode bMo_nearestOne 1 = .ok (.istore_n 3, 1) := by decide +kernel
theorem dMo_nearestOne_2 : decode bMo_nearestOne 2 = .ok (.iconst 0, 1) := by decide +kernel
theorem dMo_nearestOne_3 : decode bMo_nearestOne 3 = .ok (.istore 4, 2) := by decide +kernel
theorem dMo_nearestOne_5 : decode bMo_nearestOne 5 = .ok (.iload 4, 2) := by decide +kernel
theorem dMo_nearestOne_7 : decode bMo_nearestOne 7 = .ok (.aload_n 0, 1) := by decide +kernel
theorem dMo_nearestOne_8 : decode bMo_nearestOne 8 = .ok (.getfield 38, 3) := by decide +kernel
theorem dMo_nearestOne_11 : decode bMo_nearestOne 11 = .ok (.if_icmp .ge 53, 3) := by decide +kernel
theorem dMo_nearestOne_14 : decode bMo_nearestOne 14 = .ok (.iload_n 1, 1) := by decide +kernel
theorem dMo_nearestOne_15 : decode bMo_nearestOne 15 = .ok (.invokestatic 23, 3) := by decide +kernel
theorem dMo_nearestOne_18 : decode bMo_nearestOne 18 = .ok (.ifCond .ne 46, 3) := by decide +kernel
theorem dMo_nearestOne_21 : decode bMo_nearestOne 21 = .ok (.iload_n 2, 1) := by decide +kernel
theorem dMo_nearestOne_22 : decode bMo_nearestOne 22 = .ok (.invokestatic 23, 3) := by decide +kernel
theorem dMo_nearestOne_25 : decode bMo_nearestOne 25 = .ok (.ifCond .ne 39, 3) := by decide +kernel
theorem dMo_nearestOne_28 : decode bMo_nearestOne 28 = .ok (.iload_n 3, 1) := by decide +kernel
theorem dMo_nearestOne_29 : decode bMo_nearestOne 29 = .ok (.ifCond .lt 22, 3) := by decide +kernel
theorem dMo_nearestOne_32 : decode bMo_nearestOne 32 = .ok (.aload_n 0, 1) := by decide +kernel
theorem dMo_nearestOne_33 : decode bMo_nearestOne 33 = .ok (.iload 4, 2) := by decide +kernel
theorem dMo_nearestOne_35 : decode bMo_nearestOne 35 = .ok (.iload_n 1, 1) := by decide +kernel
theorem dMo_nearestOne_36 : decode bMo_nearestOne 36 = .ok (.iload_n 2, 1) := by decide +kernel
theorem dMo_nearestOne_37 : decode bMo_nearestOne 37 = .ok (.invokevirtual 76, 3) := by decide +kernel
theorem dMo_nearestOne_40 : decode bMo_nearestOne 40 = .ok (.aload_n 0, 1) := by decide +kernel
theorem dMo_nearestOne_41 : decode bMo_nearestOne 41 = .ok (.iload_n 3, 1) := by decide +kernel
theorem dMo_nearestOne_42 : decode bMo_nearestOne 42 = .ok (.iload_n 1, 1) := by decide +kernel
theorem dMo_nearestOne_43 : decode bMo_nearestOne 43 = .ok (.iload_n 2, 1) := by decide +kernel
theorem dMo_nearestOne_44 : decode bMo_nearestOne 44 = .ok (.invokevirtual 76, 3) := by decide +kernel
theorem dMo_nearestOne_47 : decode bMo_nearestOne 47 = .ok (.lcmp, 1) := by decide +kernel
theorem dMo_nearestOne_48 : decode bMo_nearestOne 48 = .ok (.ifCond .ge 8, 3) := by decide +kernel
theorem dMo_nearestOne_51 : decode bMo_nearestOne 51 = .ok (.iload 4, 2) := by decide +kernel
theorem dMo_nearestOne_53 : decode bMo_nearestOne 53 = .ok (.goto 4, 3) := by decide +kernel
theorem dMo_nearestOne_56 : decode bMo_nearestOne 56 = .ok (.iload_n 3, 1) := by decide +kernel
theorem dMo_nearestOne_57 : decode bMo_nearestOne 57 = .ok (.istore_n 3, 1) := by decide +kernel
theorem dMo_nearestOne_58 : decode bMo_nearestOne 58 = .ok (.iinc 4 1, 3) := by decide +kernel
theorem dMo_nearestOne_61 : decode bMo_nearestOne 61 = .ok (.goto (-56), 3) := by decide +kernel
theorem dMo_nearestOne_64 : decode bMo_nearestOne 64 = .ok (.iload_n 3, 1) := by decide +kernel
theorem dMo_nearestOne_65 : decode bMo_nearestOne 65 = .ok (.ireturn, 1) := by decide +kernel
abbrev wMo_nearestOne : List Cond := Cond.code yMo_nearestOne bMo_nearestOne 5 (some .int)   :: tbl
theorem kcMo_nearestOne : Cond.code yMo_nearestOne bMo_nearestOne 5 (some .int) ∈ tbl := tb3 216 (by decide +kernel) (by decide +kernel)
theorem kiMo_nearestOne : Cond.instanceMethod yMo_nearestOne ∈ tbl := tb3 215 (by decide +kernel) (by decide +kernel)
theorem ksMo_nearestOne : Cond.selects yMo_nearestOne.cls yMo_nearestOne yMo_nearestOne ∈ tbl := tb0 34 (by decide +kernel) (by decide +kernel)
theorem dMo_distance_0 : decode bMo_distance 0 = .ok (.aload_n 0, 1) := by decide +kernel
theorem dMo_distance_1 : decode bMo_distance 1 = .ok (.getfield 7, 3) := by decide +kernel
theorem dMo_distance_4 : decode bMo_distance 4 = .ok (.ifCond .ne 7, 3) := by decide +kernel
theorem dMo_distance_7 : decode bMo_distance 7 = .ok (.ldc2_w 79, 3) := by decide +kernel
theorem dMo_distance_10 : decode bMo_distance 10 = .ok (.lreturn, 1) := by decide +kernel
theorem dMo_distance_11 : decode bMo_distance 11 = .ok (.aload_n 0, 1) := by decide +kernel
theorem dMo_distance_12 : decode bMo_distance 12 = .ok (.iload_n 1, 1) := by decide +kernel
theorem dMo_distance_13 : decode bMo_distance 13 = .ok (.iload_n 2, 1) := by decide +kernel
theorem dMo_distance_14 : decode bMo_distance 14 = .ok (.invokevirtual 81, 3) := by decide +kernel
theorem dMo_distance_17 : decode bMo_distance 17 = .ok (.istore_n 3, 1) := by decide +kernel
theorem dMo_distance_18 : decode bMo_distance 18 = .ok (.iload_n 3, 1) := by decide +kernel
theorem dMo_distance_19 : decode bMo_distance 19 = .ok (.ifCond .ge 9, 3) := by decide +kernel
theorem dMo_distance_22 : decode bMo_distance 22 = .ok (.ldc2_w 84, 3) := by decide +kernel
theorem dMo_distance_25 : decode bMo_distance 25 = .ok (.goto 10, 3) := by decide +kernel
theorem dMo_distance_28 : decode bMo_distance 28 = .ok (.aload_n 0, 1) := by decide +kernel
theorem dMo_distance_29 : decode bMo_distance 29 = .ok (.iload_n 3, 1) := by decide +kernel
theorem dMo_distance_30 : decode bMo_distance 30 = .ok (.iload_n 1, 1) := by decide +kernel
theorem dMo_distance_31 : decode bMo_distance 31 = .ok (.iload_n 2, 1) := by decide +kernel
theorem dMo_distance_32 : decode bMo_distance 32 = .ok (.invokevirtual 76, 3) := by decide +kernel
theorem dMo_distance_35 : decode bMo_distance 35 = .ok (.lreturn, 1) := by decide +kernel
abbrev wMo_distance : List Cond := Cond.code yMo_distance bMo_distance 4 (some .long)   :: tbl
theorem kcMo_distance : Cond.code yMo_distance bMo_distance 4 (some .long) ∈ tbl := tb3 211 (by decide +kernel) (by decide +kernel)
theorem kiMo_distance : Cond.instanceMethod yMo_distance ∈ tbl := tb3 209 (by decide +kernel) (by decide +kernel)
theorem ksMo_distance : Cond.selects yMo_distance.cls yMo_distance yMo_distance ∈ tbl := tb3 210 (by decide +kernel) (by decide +kernel)
theorem dMo_nearest_0 : decode bMo_nearest 0 = .ok (.aload_n 0, 1) := by decide +kernel
theorem dMo_nearest_1 : decode bMo_nearest 1 = .ok (.getfield 7, 3) := by decide +kernel
theorem dMo_nearest_4 : decode bMo_nearest 4 = .ok (.ifCond .ne 6, 3) := by decide +kernel
theorem dMo_nearest_7 : decode bMo_nearest 7 = .ok (.bipush (-3), 2) := by decide +kernel
theorem dMo_nearest_9 : decode bMo_nearest 9 = .ok (.ireturn, 1) := by decide +kernel
theorem dMo_nearest_10 : decode bMo_nearest 10 = .ok (.aload_n 0, 1) := by decide +kernel
theorem dMo_nearest_11 : decode bMo_nearest 11 = .ok (.iload_n 1, 1) := by decide +kernel
theorem dMo_nearest_12 : decode bMo_nearest 12 = .ok (.iload_n 2, 1) := by decide +kernel
theorem dMo_nearest_13 : decode bMo_nearest 13 = .ok (.invokevirtual 81, 3) := by decide +kernel
theorem dMo_nearest_16 : decode bMo_nearest 16 = .ok (.istore_n 3, 1) := by decide +kernel
theorem dMo_nearest_17 : decode bMo_nearest 17 = .ok (.iload_n 3, 1) := by decide +kernel
theorem dMo_nearest_18 : decode bMo_nearest 18 = .ok (.ifCond .ge 7, 3) := by decide +kernel
theorem dMo_nearest_21 : decode bMo_nearest 21 = .ok (.iconst (-1), 1) := by decide +kernel
theorem dMo_nearest_22 : decode bMo_nearest 22 = .ok (.goto 11, 3) := by decide +kernel
theorem dMo_nearest_25 : decode bMo_nearest 25 = .ok (.aload_n 0, 1) := by decide +kernel
theorem dMo_nearest_26 : decode bMo_nearest 26 = .ok (.getfield 17, 3) := by decide +kernel
theorem dMo_nearest_29 : decode bMo_nearest 29 = .ok (.iconst 5, 1) := by decide +kernel
theorem dMo_nearest_30 : decode bMo_nearest 30 = .ok (.iload_n 3, 1) := by decide +kernel
theorem dMo_nearest_31 : decode bMo_nearest 31 = .ok (.imul, 1) := by decide +kernel
theorem dMo_nearest_32 : decode bMo_nearest 32 = .ok (.iaload, 1) := by decide +kernel
theorem dMo_nearest_33 : decode bMo_nearest 33 = .ok (.ireturn, 1) := by decide +kernel
abbrev wMo_nearest : List Cond := Cond.code yMo_nearest bMo_nearest 4 (some .int)   :: tbl
theorem kcMo_nearest : Cond.code yMo_nearest bMo_nearest 4 (some .int) ∈ tbl := tb3 228 (by decide +kernel) (by decide +kernel)
theorem kiMo_nearest : Cond.instanceMethod yMo_nearest ∈ tbl := tb3 226 (by decide +kernel) (by decide +kernel)
theorem ksMo_nearest : Cond.selects yMo_nearest.cls yMo_nearest yMo_nearest ∈ tbl := tb3 227 (by decide +kernel) (by decide +kernel)
theorem dMo_around_0 : decode bMo_around 0 = .ok (.aload_n 0, 1) := by decide +kernel
theorem dMo_around_1 : decode bMo_around 1 = .ok (.getfield 7, 3) := by decide +kernel
theorem dMo_around_4 : decode bMo_around 4 = .ok (.ifCond .eq 19, 3) := by decide +kernel
theorem dMo_around_7 : decode bMo_around 7 = .ok (.aload_n 0, 1) := by decide +kernel
theorem dMo_around_8 : decode bMo_around 8 = .ok (.getfield 38, 3) := by decide +kernel
theorem dMo_around_11 : decode bMo_around 11 = .ok (.ifCond .eq 12, 3) := by decide +kernel
theorem dMo_around_14 : decode bMo_around 14 = .ok (.iload_n 1, 1) := by decide +kernel
theorem dMo_around_15 : decode bMo_around 15 = .ok (.ifCond .lt 8, 3) := by decide +kernel
theorem dMo_around_18 : decode bMo_around 18 = .ok (.iload_n 1, 1) := by decide +kernel
theorem dMo_around_19 : decode bMo_around 19 = .ok (.iconst 3, 1) := by decide +kernel
theorem dMo_around_20 : decode bMo_around 20 = .ok (.if_icmp .le 6, 3) := by decide +kernel
theorem dMo_around_23 : decode bMo_around 23 = .ok (.ldc 86, 2) := by decide +kernel
theorem dMo_around_25 : decode bMo_around 25 = .ok (.ireturn, 1) := by decide +kernel
theorem dMo_around_26 : decode bMo_around 26 = .ok (.aload_n 0, 1) := by decide +kernel
theorem dMo_around_27 : decode bMo_around 27 = .ok (.iconst 0, 1) := by decide +kernel
theorem dMo_around_28 : decode bMo_around 28 = .ok (.iload_n 1, 1) := by decide +kernel
theorem dMo_around_29 : decode bMo_around 29 = .ok (.invokevirtual 27, 3) := by decide +kernel
theorem dMo_around_32 : decode bMo_around 32 = .ok (.istore_n 2, 1) := by decide +kernel
theorem dMo_around_33 : decode bMo_around 33 = .ok (.iconst 1, 1) := by decide +kernel
theorem dMo_around_34 : decode bMo_around 34 = .ok (.istore_n 3, 1) := by decide +kernel
theorem dMo_around_35 : decode bMo_around 35 = .ok (.iload_n 3, 1) := by decide +kernel
theorem dMo_around_36 : decode bMo_around 36 = .ok (.aload_n 0, 1) := by decide +kernel
theorem dMo_around_37 : decode bMo_around 37 = .ok (.getfield 38, 3) := by decide +kernel
theorem dMo_around_40 : decode bMo_around 40 = .ok (.if_icmp .ge 50, 3) := by decide +kernel
theorem dMo_around_43 : decode bMo_around 43 = .ok (.aload_n 0, 1) := by decide +kernel
theorem dMo_around_44 : decode bMo_around 44 = .ok (.iload_n 3, 1) := by decide +kernel
theorem dMo_around_45 : decode bMo_around 45 = .ok (.iload_n 1, 1) := by decide +kernel
theorem dMo_around_46 : decode bMo_around 46 = .ok (.invokevirtual 27, 3) := by decide +kernel
theorem dMo_around_49 : decode bMo_around 49 = .ok (.istore 4, 2) := by decide +kernel
theorem dMo_around_51 : decode bMo_around 51 = .ok (.iload_n 1, 1) := by decide +kernel
theorem dMo_around_52 : decode bMo_around 52 = .ok (.iconst 2, 1) := by decide +kernel
theorem dMo_around_53 : decode bMo_around 53 = .ok (.if_icmp .ge 18, 3) := by decide +kernel
theorem dMo_around_56 : decode bMo_around 56 = .ok (.iload 4, 2) := by decide +kernel
theorem dMo_around_58 : decode bMo_around 58 = .ok (.iload_n 2, 1) := by decide +kernel
theorem dMo_around_59 : decode bMo_around 59 = .ok (.if_icmp .ge 8, 3) := by decide +kernel
theorem dMo_around_62 : decode bMo_around 62 = .ok (.iload 4, 2) := by decide +kernel
theorem dMo_around_64 : decode bMo_around 64 = .ok (.goto 19, 3) := by decide +kernel
theorem dMo_around_67 : decode bMo_around 67 = .ok (.iload_n 2, 1) := by decide +kernel
theorem dMo_around_68 : decode bMo_around 68 = .ok (.goto 15, 3) := by decide +kernel
theorem dMo_around_71 : decode bMo_around 71 = .ok (.iload 4, 2) := by decide +kernel
theorem dMo_around_73 : decode bMo_around 73 = .ok (.iload_n 2, 1) := by decide +kernel
theorem dMo_around_74 : decode bMo_around 74 = .ok (.if_icmp .le 8, 3) := by decide +kernel
theorem dMo_around_77 : decode bMo_around 77 = .ok (.iload 4, 2) := by decide +kernel
theorem dMo_around_79 : decode bMo_around 79 = .ok (.goto 4, 3) := by decide +kernel
theorem dMo_around_82 : decode bMo_around 82 = .ok (.iload_n 2, 1) := by decide +kernel
theorem dMo_around_83 : decode bMo_around 83 = .ok (.istore_n 2, 1) := by decide +kernel
theorem dMo_around_84 : decode bMo_around 84 = .ok (.iinc 3 1, 3) := by decide +kernel
theorem dMo_around_87 : decode bMo_around 87 = .ok (.goto (-52), 3) := by decide +kernel
theorem dMo_around_90 : decode bMo_around 90 = .ok (.iload_n 2, 1) := by decide +kernel
theorem dMo_around_91 : decode bMo_around 91 = .ok (.ireturn, 1) := by decide +kernel
abbrev wMo_around : List Cond := Cond.code yMo_around bMo_around 5 (some .int)   :: tbl
theorem kcMo_around : Cond.code yMo_around bMo_around 5 (some .int) ∈ tbl := tb3 232 (by decide +kernel) (by decide +kernel)
theorem kiMo_around : Cond.instanceMethod yMo_around ∈ tbl := tb3 230 (by decide +kernel) (by decide +kernel)
theorem ksMo_around : Cond.selects yMo_around.cls yMo_around yMo_around ∈ tbl := tb3 231 (by decide +kernel) (by decide +kernel)
theorem dMo_sound_0 : decode bMo_sound 0 = .ok (.aload_n 0, 1) := by decide +kernel
theorem dMo_sound_1 : decode bMo_sound 1 = .ok (.getfield 7, 3) := by decide +kernel
theorem dMo_sound_4 : decode bMo_sound 4 = .ok (.ireturn, 1) := by decide +kernel
abbrev wMo_sound : List Cond := Cond.code yMo_sound bMo_sound 1 (some .boolean)   :: tbl
theorem kcMo_sound : Cond.code yMo_sound bMo_sound 1 (some .boolean) ∈ tbl := tb3 237 (by decide +kernel) (by decide +kernel)
theorem kiMo_sound : Cond.instanceMethod yMo_sound ∈ tbl := tb3 235 (by decide +kernel) (by decide +kernel)
theorem ksMo_sound : Cond.selects yMo_sound.cls yMo_sound yMo_sound ∈ tbl := tb3 236 (by decide +kernel) (by decide +kernel)
theorem dMo_frugal_0 : decode bMo_frugal 0 = .ok (.iconst 1, 1) := by decide +kernel
theorem dMo_frugal_1 : decode bMo_frugal 1 = .ok (.ireturn, 1) := by decide +kernel
abbrev wMo_frugal : List Cond := Cond.code yMo_frugal bMo_frugal 1 (some .boolean)   :: tbl
theorem kcMo_frugal : Cond.code yMo_frugal bMo_frugal 1 (some .boolean) ∈ tbl := tb4 1 (by decide +kernel) (by decide +kernel)
theorem kiMo_frugal : Cond.instanceMethod yMo_frugal ∈ tbl := tb3 239 (by decide +kernel) (by decide +kernel)
theorem ksMo_frugal : Cond.selects yMo_frugal.cls yMo_frugal yMo_frugal ∈ tbl := tb4 0 (by decide +kernel) (by decide +kernel)
theorem kfMo_7 : Cond.fieldLink RMo 7 (TMo 0).1 (TMo 0).2.1 (TMo 0).2.2.1 ∈ tbl := tb3 104 (by decide +kernel) (by decide +kernel)
theorem kfMo_13 : Cond.fieldLink RMo 13 (TMo 1).1 (TMo 1).2.1 (TMo 1).2.2.1 ∈ tbl := tb3 105 (by decide +kernel) (by decide +kernel)
theorem kfMo_17 : Cond.fieldLink RMo 17 (TMo 3).1 (TMo 3).2.1 (TMo 3).2.2.1 ∈ tbl := tb3 107 (by decide +kernel) (by decide +kernel)
theorem kfMo_21 : Cond.constant RMo 21 (-1000000000) ∈ tbl := tb3 130 (by decide +kernel) (by decide +kernel)
theorem kfMo_22 : Cond.constant RMo 22 (1000000000) ∈ tbl := tb3 131 (by decide +kernel) (by decide +kernel)
theorem kfMo_38 : Cond.fieldLink RMo 38 (TMo 2).1 (TMo 2).2.1 (TMo 2).2.2.1 ∈ tbl := tb3 106 (by decide +kernel) (by decide +kernel)
theorem kfMo_79 : Cond.constantLong RMo 79 (-3) ∈ tbl := tb3 212 (by decide +kernel) (by decide +kernel)
theorem kfMo_84 : Cond.constantLong RMo 84 (-1) ∈ tbl := tb3 224 (by decide +kernel) (by decide +kernel)
theorem kfMo_86 : Cond.constant RMo 86 (2000000000) ∈ tbl := tb3 233 (by decide +kernel) (by decide +kernel)
end
section
abbrev bLa_law : ByteArray := code
def yLa_law : MethodName := ⟨RLa, "law", "([I)Z"⟩
theorem dLa_law_0 : decode bLa_law 0 = .ok (.new 7, 3) := by decide +kernel
theorem dLa_law_3 : decode bLa_law 3 = .ok (.dup, 1) := by decide +kernel
theorem dLa_law_4 : decode bLa_law 4 = .ok (.invokespecial 9, 3) := by decide +kernel
theorem dLa_law_7 : decode bLa_law 7 = .ok (.astore_n 1, 1) := by decide +kernel
theorem dLa_law_8 : decode bLa_law 8 = .ok (.new 10, 3) := by decide +kernel
theorem dLa_law_11 : decode bLa_law 11 = .ok (.dup, 1) := by decide +kernel
theorem dLa_law_12 : decode bLa_law 12 = .ok (.invokespecial 12, 3) := by decide +kernel
theorem dLa_law_15 : decode bLa_law 15 = .ok (.astore_n 2, 1) := by decide +kernel
theorem dLa_law_16 : decode bLa_law 16 = .ok (.iconst 0, 1) := by decide +kernel
theorem dLa_law_17 : decode bLa_law 17 = .ok (.istore_n 3, 1) := by decide +kernel
theorem dLa_law_18 : decode bLa_law 18 = .ok (.iload_n 3, 1) := by decide +kernel
theorem dLa_law_19 : decode bLa_law 19 = .ok (.aload_n 0, 1) := by decide +kernel
theorem dLa_law_20 : decode bLa_law 20 = .ok (.arraylength, 1) := by decide +kernel
theorem dLa_law_21 : decode bLa_law 21 = .ok (.bipush 6, 2) := by decide +kernel
theorem dLa_law_23 : decode bLa_law 23 = .ok (.isub, 1) := by decide +kernel
theorem dLa_law_24 : decode bLa_law 24 = .ok (.if_icmp .gt 633, 3) := by decide +kernel
theorem dLa_law_27 : decode bLa_law 27 = .ok (.aload_n 0, 1) := by decide +kernel
theorem dLa_law_28 : decode bLa_law 28 = .ok (.iload_n 3, 1) := by decide +kernel
theorem dLa_law_29 : decode bLa_law 29 = .ok (.iaload, 1) := by decide +kernel
theorem dLa_law_30 : decode bLa_law 30 = .ok (.bipush 15, 2) := by decide +kernel
theorem dLa_law_32 : decode bLa_law 32 = .ok (.iand, 1) := by decide +kernel
theorem dLa_law_33 : decode bLa_law 33 = .ok (.tableswitch 618 0 15 #[79, 142, 205, 258, 281, 294, 307, 320, 333, 386, 439, 502, 536, 569, 592, 605], 79) := by decide +kernel
theorem dLa_law_112 : decode bLa_law 112 = .ok (.aload_n 1, 1) := by decide +kernel
theorem dLa_law_113 : decode bLa_law 113 = .ok (.aload_n 0, 1) := by decide +kernel
theorem dLa_law_114 : decode bLa_law 114 = .ok (.iload_n 3, 1) := by decide +kernel
theorem dLa_law_115 : decode bLa_law 115 = .ok (.iconst 1, 1) := by decide +kernel
theorem dLa_law_116 : decode bLa_law 116 = .ok (.iadd, 1) := by decide +kernel
theorem dLa_law_117 : decode bLa_law 117 = .ok (.iaload, 1) := by decide +kernel
theorem dLa_law_118 : decode bLa_law 118 = .ok (.aload_n 0, 1) := by decide +kernel
theorem dLa_law_119 : decode bLa_law 119 = .ok (.iload_n 3, 1) := by decide +kernel
theorem dLa_law_120 : decode bLa_law 120 = .ok (.iconst 2, 1) := by decide +kernel
theorem dLa_law_121 : decode bLa_law 121 = .ok (.iadd, 1) := by decide +kernel
theorem dLa_law_122 : decode bLa_law 122 = .ok (.iaload, 1) := by decide +kernel
theorem dLa_law_123 : decode bLa_law 123 = .ok (.aload_n 0, 1) := by decide +kernel
theorem dLa_law_124 : decode bLa_law 124 = .ok (.iload_n 3, 1) := by decide +kernel
theorem dLa_law_125 : decode bLa_law 125 = .ok (.iconst 3, 1) := by decide +kernel
theorem dLa_law_126 : decode bLa_law 126 = .ok (.iadd, 1) := by decide +kernel
theorem dLa_law_127 : decode bLa_law 127 = .ok (.iaload, 1) := by decide +kernel
theorem dLa_law_128 : decode bLa_law 128 = .ok (.aload_n 0, 1) := by decide +kernel
theorem dLa_law_129 : decode bLa_law 129 = .ok (.iload_n 3, 1) := by decide +kernel
theorem dLa_law_130 : decode bLa_law 130 = .ok (.iconst 4, 1) := by decide +kernel
theorem dLa_law_131 : decode bLa_law 131 = .ok (.iadd, 1) := by decide +kernel
theorem dLa_law_132 : decode bLa_law 132 = .ok (.iaload, 1) := by decide +kernel
theorem dLa_law_133 : decode bLa_law 133 = .ok (.aload_n 0, 1) := by decide +kernel
theorem dLa_law_134 : decode bLa_law 134 = .ok (.iload_n 3, 1) := by decide +kernel
theorem dLa_law_135 : decode bLa_law 135 = .ok (.iconst 5, 1) := by decide +kernel
theorem dLa_law_136 : decode bLa_law 136 = .ok (.iadd, 1) := by decide +kernel
theorem dLa_law_137 : decode bLa_law 137 = .ok (.iaload, 1) := by decide +kernel
theorem dLa_law_138 : decode bLa_law 138 = .ok (.invokevirtual 13, 3) := by decide +kernel
theorem dLa_law_141 : decode bLa_law 141 = .ok (.aload_n 2, 1) := by decide +kernel
theorem dLa_law_142 : decode bLa_law 142 = .ok (.aload_n 0, 1) := by decide +kernel
theorem dLa_law_143 : decode bLa_law 143 = .ok (.iload_n 3, 1) := by decide +kernel
theorem dLa_law_144 : decode bLa_law 144 = .ok (.iconst 1, 1) := by decide +kernel
theorem dLa_law_145 : decode bLa_law 145 = .ok (.iadd, 1) := by decide +kernel
theorem dLa_law_146 : decode bLa_law 146 = .ok (.iaload, 1) := by decide +kernel
theorem dLa_law_147 : decode bLa_law 147 = .ok (.aload_n 0, 1) := by decide +kernel
theorem dLa_law_148 : decode bLa_law 148 = .ok (.iload_n 3, 1) := by decide +kernel
theorem dLa_law_149 : decode bLa_law 149 = .ok (.iconst 2, 1) := by decide +kernel
theorem dLa_law_150 : decode bLa_law 150 = .ok (.iadd, 1) := by decide +kernel
theorem dLa_law_151 : decode bLa_law 151 = .ok (.iaload, 1) := by decide +kernel
theorem dLa_law_152 : decode bLa_law 152 = .ok (.aload_n 0, 1) := by decide +kernel
theorem dLa_law_153 : decode bLa_law 153 = .ok (.iload_n 3, 1) := by decide +kernel
theorem dLa_law_154 : decode bLa_law 154 = .ok (.iconst 3, 1) := by decide +kernel
theorem dLa_law_155 : decode bLa_law 155 = .ok (.iadd, 1) := by decide +kernel
theorem dLa_law_156 : decode bLa_law 156 = .ok (.iaload, 1) := by decide +kernel
theorem dLa_law_157 : decode bLa_law 157 = .ok (.aload_n 0, 1) := by decide +kernel
theorem dLa_law_158 : decode bLa_law 158 = .ok (.iload_n 3, 1) := by decide +kernel
theorem dLa_law_159 : decode bLa_law 159 = .ok (.iconst 4, 1) := by decide +kernel
theorem dLa_law_160 : decode bLa_law 160 = .ok (.iadd, 1) := by decide +kernel
theorem dLa_law_161 : decode bLa_law 161 = .ok (.iaload, 1) := by decide +kernel
theorem dLa_law_162 : decode bLa_law 162 = .ok (.aload_n 0, 1) := by decide +kernel
theorem dLa_law_163 : decode bLa_law 163 = .ok (.iload_n 3, 1) := by decide +kernel
theorem dLa_law_164 : decode bLa_law 164 = .ok (.iconst 5, 1) := by decide +kernel
theorem dLa_law_165 : decode bLa_law 165 = .ok (.iadd, 1) := by decide +kernel
theorem dLa_law_166 : decode bLa_law 166 = .ok (.iaload, 1) := by decide +kernel
theorem dLa_law_167 : decode bLa_law 167 = .ok (.invokevirtual 17, 3) := by decide +kernel
theorem dLa_law_170 : decode bLa_law 170 = .ok (.if_icmp .eq 481, 3) := by decide +kernel
theorem dLa_law_173 : decode bLa_law 173 = .ok (.iconst 0, 1) := by decide +kernel
theorem dLa_law_174 : decode bLa_law 174 = .ok (.ireturn, 1) := by decide +kernel
theorem dLa_law_175 : decode bLa_law 175 = .ok (.aload_n 1, 1) := by decide +kernel
theorem dLa_law_176 : decode bLa_law 176 = .ok (.aload_n 0, 1) := by decide +kernel
theorem dLa_law_177 : decode bLa_law 177 = .ok (.iload_n 3, 1) := by decide +kernel
theorem dLa_law_178 : decode bLa_law 178 = .ok (.iconst 1, 1) := by decide +kernel
theorem dLa_law_179 : decode bLa_law 179 = .ok (.iadd, 1) := by decide +kernel
theorem dLa_law_180 : decode bLa_law 180 = .ok (.iaload, 1) := by decide +kernel
theorem dLa_law_181 : decode bLa_law 181 = .ok (.aload_n 0, 1) := by decide +kernel
theorem dLa_law_182 : decode bLa_law 182 = .ok (.iload_n 3, 1) := by decide +kernel
theorem dLa_law_183 : decode bLa_law 183 = .ok (.iconst 2, 1) := by decide +kernel
theorem dLa_law_184 : decode bLa_law 184 = .ok (.iadd, 1) := by decide +kernel
theorem dLa_law_185 : decode bLa_law 185 = .ok (.iaload, 1) := by decide +kernel
theorem dLa_law_186 : decode bLa_law 186 = .ok (.aload_n 0, 1) := by decide +kernel
theorem dLa_law_187 : decode bLa_law 187 = .ok (.iload_n 3, 1) := by decide +kernel
theorem dLa_law_188 : decode bLa_law 188 = .ok (.iconst 3, 1) := by decide +kernel
theorem dLa_law_189 : decode bLa_law 189 = .ok (.iadd, 1) := by decide +kernel
theorem dLa_law_190 : decode bLa_law 190 = .ok (.iaload, 1) := by decide +kernel
theorem dLa_law_191 : decode bLa_law 191 = .ok (.aload_n 0, 1) := by decide +kernel
theorem dLa_law_192 : decode bLa_law 192 = .ok (.iload_n 3, 1) := by decide +kernel
theorem dLa_law_193 : decode bLa_law 193 = .ok (.iconst 4, 1) := by decide +kernel
theorem dLa_law_194 : decode bLa_law 194 = .ok (.iadd, 1) := by decide +kernel
theorem dLa_law_195 : decode bLa_law 195 = .ok (.iaload, 1) := by decide +kernel
theorem dLa_law_196 : decode bLa_law 196 = .ok (.aload_n 0, 1) := by decide +kernel
theorem dLa_law_197 : decode bLa_law 197 = .ok (.iload_n 3, 1) := by decide +kernel
theorem dLa_law_198 : decode bLa_law 198 = .ok (.iconst 5, 1) := by decide +kernel
theorem dLa_law_199 : decode bLa_law 199 = .ok (.iadd, 1) := by decide +kernel
theorem dLa_law_200 : decode bLa_law 200 = .ok (.iaload, 1) := by decide +kernel
theorem dLa_law_201 : decode bLa_law 201 = .ok (.invokevirtual 18, 3) := by decide +kernel
theorem dLa_law_204 : decode bLa_law 204 = .ok (.aload_n 2, 1) := by decide +kernel
theorem dLa_law_205 : decode bLa_law 205 = .ok (.aload_n 0, 1) := by decide +kernel
theorem dLa_law_206 : decode bLa_law 206 = .ok (.iload_n 3, 1) := by decide +kernel
theorem dLa_law_207 : decode bLa_law 207 = .ok (.iconst 1, 1) := by decide +kernel
theorem dLa_law_208 : decode bLa_law 208 = .ok (.iadd, 1) := by decide +kernel
theorem dLa_law_209 : decode bLa_law 209 = .ok (.iaload, 1) := by decide +kernel
theorem dLa_law_210 : decode bLa_law 210 = .ok (.aload_n 0, 1) := by decide +kernel
theorem dLa_law_211 : decode bLa_law 211 = .ok (.iload_n 3, 1) := by decide +kernel
theorem dLa_law_212 : decode bLa_law 212 = .ok (.iconst 2, 1) := by decide +kernel
theorem dLa_law_213 : decode bLa_law 213 = .ok (.iadd, 1) := by decide +kernel
theorem dLa_law_214 : decode bLa_law 214 = .ok (.iaload, 1) := by decide +kernel
theorem dLa_law_215 : decode bLa_law 215 = .ok (.aload_n 0, 1) := by decide +kernel
theorem dLa_law_216 : decode bLa_law 216 = .ok (.iload_n 3, 1) := by decide +kernel
theorem dLa_law_217 : decode bLa_law 217 = .ok (.iconst 3, 1) := by decide +kernel
theorem dLa_law_218 : decode bLa_law 218 = .ok (.iadd, 1) := by decide +kernel
theorem dLa_law_219 : decode bLa_law 219 = .ok (.iaload, 1) := by decide +kernel
theorem dLa_law_220 : decode bLa_law 220 = .ok (.aload_n 0, 1) := by decide +kernel
theorem dLa_law_221 : decode bLa_law 221 = .ok (.iload_n 3, 1) := by decide +kernel
theorem dLa_law_222 : decode bLa_law 222 = .ok (.iconst 4, 1) := by decide +kernel
theorem dLa_law_223 : decode bLa_law 223 = .ok (.iadd, 1) := by decide +kernel
theorem dLa_law_224 : decode bLa_law 224 = .ok (.iaload, 1) := by decide +kernel
theorem dLa_law_225 : decode bLa_law 225 = .ok (.aload_n 0, 1) := by decide +kernel
theorem dLa_law_226 : decode bLa_law 226 = .ok (.iload_n 3, 1) := by decide +kernel
theorem dLa_law_227 : decode bLa_law 227 = .ok (.iconst 5, 1) := by decide +kernel
theorem dLa_law_228 : decode bLa_law 228 = .ok (.iadd, 1) := by decide +kernel
theorem dLa_law_229 : decode bLa_law 229 = .ok (.iaload, 1) := by decide +kernel
theorem dLa_law_230 : decode bLa_law 230 = .ok (.invokevirtual 21, 3) := by decide +kernel
theorem dLa_law_233 : decode bLa_law 233 = .ok (.if_icmp .eq 418, 3) := by decide +kernel
theorem dLa_law_236 : decode bLa_law 236 = .ok (.iconst 0, 1) := by decide +kernel
theorem dLa_law_237 : decode bLa_law 237 = .ok (.ireturn, 1) := by decide +kernel
theorem dLa_law_238 : decode bLa_law 238 = .ok (.aload_n 1, 1) := by decide +kernel
theorem dLa_law_239 : decode bLa_law 239 = .ok (.aload_n 0, 1) := by decide +kernel
theorem dLa_law_240 : decode bLa_law 240 = .ok (.iload_n 3, 1) := by decide +kernel
theorem dLa_law_241 : decode bLa_law 241 = .ok (.iconst 1, 1) := by decide +kernel
theorem dLa_law_242 : decode bLa_law 242 = .ok (.iadd, 1) := by decide +kernel
theorem dLa_law_243 : decode bLa_law 243 = .ok (.iaload, 1) := by decide +kernel
theorem dLa_law_244 : decode bLa_law 244 = .ok (.aload_n 0, 1) := by decide +kernel
theorem dLa_law_245 : decode bLa_law 245 = .ok (.iload_n 3, 1) := by decide +kernel
theorem dLa_law_246 : decode bLa_law 246 = .ok (.iconst 2, 1) := by decide +kernel
theorem dLa_law_247 : decode bLa_law 247 = .ok (.iadd, 1) := by decide +kernel
theorem dLa_law_248 : decode bLa_law 248 = .ok (.iaload, 1) := by decide +kernel
theorem dLa_law_249 : decode bLa_law 249 = .ok (.aload_n 0, 1) := by decide +kernel
theorem dLa_law_250 : decode bLa_law 250 = .ok (.iload_n 3, 1) := by decide +kernel
theorem dLa_law_251 : decode bLa_law 251 = .ok (.iconst 3, 1) := by decide +kernel
theorem dLa_law_252 : decode bLa_law 252 = .ok (.iadd, 1) := by decide +kernel
theorem dLa_law_253 : decode bLa_law 253 = .ok (.iaload, 1) := by decide +kernel
theorem dLa_law_254 : decode bLa_law 254 = .ok (.aload_n 0, 1) := by decide +kernel
theorem dLa_law_255 : decode bLa_law 255 = .ok (.iload_n 3, 1) := by decide +kernel
theorem dLa_law_256 : decode bLa_law 256 = .ok (.iconst 4, 1) := by decide +kernel
theorem dLa_law_257 : decode bLa_law 257 = .ok (.iadd, 1) := by decide +kernel
theorem dLa_law_258 : decode bLa_law 258 = .ok (.iaload, 1) := by decide +kernel
theorem dLa_law_259 : decode bLa_law 259 = .ok (.invokevirtual 22, 3) := by decide +kernel
theorem dLa_law_262 : decode bLa_law 262 = .ok (.aload_n 2, 1) := by decide +kernel
theorem dLa_law_263 : decode bLa_law 263 = .ok (.aload_n 0, 1) := by decide +kernel
theorem dLa_law_264 : decode bLa_law 264 = .ok (.iload_n 3, 1) := by decide +kernel
theorem dLa_law_265 : decode bLa_law 265 = .ok (.iconst 1, 1) := by decide +kernel
theorem dLa_law_266 : decode bLa_law 266 = .ok (.iadd, 1) := by decide +kernel
theorem dLa_law_267 : decode bLa_law 267 = .ok (.iaload, 1) := by decide +kernel
theorem dLa_law_268 : decode bLa_law 268 = .ok (.aload_n 0, 1) := by decide +kernel
theorem dLa_law_269 : decode bLa_law 269 = .ok (.iload_n 3, 1) := by decide +kernel
theorem dLa_law_270 : decode bLa_law 270 = .ok (.iconst 2, 1) := by decide +kernel
theorem dLa_law_271 : decode bLa_law 271 = .ok (.iadd, 1) := by decide +kernel
theorem dLa_law_272 : decode bLa_law 272 = .ok (.iaload, 1) := by decide +kernel
theorem dLa_law_273 : decode bLa_law 273 = .ok (.aload_n 0, 1) := by decide +kernel
theorem dLa_law_274 : decode bLa_law 274 = .ok (.iload_n 3, 1) := by decide +kernel
theorem dLa_law_275 : decode bLa_law 275 = .ok (.iconst 3, 1) := by decide +kernel
theorem dLa_law_276 : decode bLa_law 276 = .ok (.iadd, 1) := by decide +kernel
theorem dLa_law_277 : decode bLa_law 277 = .ok (.iaload, 1) := by decide +kernel
theorem dLa_law_278 : decode bLa_law 278 = .ok (.aload_n 0, 1) := by decide +kernel
theorem dLa_law_279 : decode bLa_law 279 = .ok (.iload_n 3, 1) := by decide +kernel
theorem dLa_law_280 : decode bLa_law 280 = .ok (.iconst 4, 1) := by decide +kernel
theorem dLa_law_281 : decode bLa_law 281 = .ok (.iadd, 1) := by decide +kernel
theorem dLa_law_282 : decode bLa_law 282 = .ok (.iaload, 1) := by decide +kernel
theorem dLa_law_283 : decode bLa_law 283 = .ok (.invokevirtual 26, 3) := by decide +kernel
theorem dLa_law_286 : decode bLa_law 286 = .ok (.if_icmp .eq 365, 3) := by decide +kernel
theorem dLa_law_289 : decode bLa_law 289 = .ok (.iconst 0, 1) := by decide +kernel
theorem dLa_law_290 : decode bLa_law 290 = .ok (.ireturn, 1) := by decide +kernel
theorem dLa_law_291 : decode bLa_law 291 = .ok (.aload_n 1, 1) := by decide +kernel
theorem dLa_law_292 : decode bLa_law 292 = .ok (.aload_n 0, 1) := by decide +kernel
theorem dLa_law_293 : decode bLa_law 293 = .ok (.iload_n 3, 1) := by decide +kernel
theorem dLa_law_294 : decode bLa_law 294 = .ok (.iconst 1, 1) := by decide +kernel
theorem dLa_law_295 : decode bLa_law 295 = .ok (.iadd, 1) := by decide +kernel
theorem dLa_law_296 : decode bLa_law 296 = .ok (.iaload, 1) := by decide +kernel
theorem dLa_law_297 : decode bLa_law 297 = .ok (.invokevirtual 27, 3) := by decide +kernel
theorem dLa_law_300 : decode bLa_law 300 = .ok (.aload_n 2, 1) := by decide +kernel
theorem dLa_law_301 : decode bLa_law 301 = .ok (.aload_n 0, 1) := by decide +kernel
theorem dLa_law_302 : decode bLa_law 302 = .ok (.iload_n 3, 1) := by decide +kernel
theorem dLa_law_303 : decode bLa_law 303 = .ok (.iconst 1, 1) := by decide +kernel
theorem dLa_law_304 : decode bLa_law 304 = .ok (.iadd, 1) := by decide +kernel
theorem dLa_law_305 : decode bLa_law 305 = .ok (.iaload, 1) := by decide +kernel
theorem dLa_law_306 : decode bLa_law 306 = .ok (.invokevirtual 31, 3) := by decide +kernel
theorem dLa_law_309 : decode bLa_law 309 = .ok (.if_icmp .eq 342, 3) := by decide +kernel
theorem dLa_law_312 : decode bLa_law 312 = .ok (.iconst 0, 1) := by decide +kernel
theorem dLa_law_313 : decode bLa_law 313 = .ok (.ireturn, 1) := by decide +kernel
theorem dLa_law_314 : decode bLa_law 314 = .ok (.aload_n 1, 1) := by decide +kernel
theorem dLa_law_315 : decode bLa_law 315 = .ok (.invokevirtual 32, 3) := by decide +kernel
theorem dLa_law_318 : decode bLa_law 318 = .ok (.aload_n 2, 1) := by decide +kernel
theorem dLa_law_319 : decode bLa_law 319 = .ok (.invokevirtual 36, 3) := by decide +kernel
theorem dLa_law_322 : decode bLa_law 322 = .ok (.if_icmp .eq 329, 3) := by decide +kernel
theorem dLa_law_325 : decode bLa_law 325 = .ok (.iconst 0, 1) := by decide +kernel
theorem dLa_law_326 : decode bLa_law 326 = .ok (.ireturn, 1) := by decide +kernel
theorem dLa_law_327 : decode bLa_law 327 = .ok (.aload_n 1, 1) := by decide +kernel
theorem dLa_law_328 : decode bLa_law 328 = .ok (.invokevirtual 37, 3) := by decide +kernel
theorem dLa_law_331 : decode bLa_law 331 = .ok (.aload_n 2, 1) := by decide +kernel
theorem dLa_law_332 : decode bLa_law 332 = .ok (.invokevirtual 40, 3) := by decide +kernel
theorem dLa_law_335 : decode bLa_law 335 = .ok (.if_icmp .eq 316, 3) := by decide +kernel
theorem dLa_law_338 : decode bLa_law 338 = .ok (.iconst 0, 1) := by decide +kernel
theorem dLa_law_339 : decode bLa_law 339 = .ok (.ireturn, 1) := by decide +kernel
theorem dLa_law_340 : decode bLa_law 340 = .ok (.aload_n 1, 1) := by decide +kernel
theorem dLa_law_341 : decode bLa_law 341 = .ok (.invokevirtual 41, 3) := by decide +kernel
theorem dLa_law_344 : decode bLa_law 344 = .ok (.aload_n 2, 1) := by decide +kernel
theorem dLa_law_345 : decode bLa_law 345 = .ok (.invokevirtual 44, 3) := by decide +kernel
theorem dLa_law_348 : decode bLa_law 348 = .ok (.if_icmp .eq 303, 3) := by decide +kernel
theorem dLa_law_351 : decode bLa_law 351 = .ok (.iconst 0, 1) := by decide +kernel
theorem dLa_law_352 : decode bLa_law 352 = .ok (.ireturn, 1) := by decide +kernel
theorem dLa_law_353 : decode bLa_law 353 = .ok (.aload_n 1, 1) := by decide +kernel
theorem dLa_law_354 : decode bLa_law 354 = .ok (.invokevirtual 45, 3) := by decide +kernel
theorem dLa_law_357 : decode bLa_law 357 = .ok (.aload_n 2, 1) := by decide +kernel
theorem dLa_law_358 : decode bLa_law 358 = .ok (.invokevirtual 49, 3) := by decide +kernel
theorem dLa_law_361 : decode bLa_law 361 = .ok (.if_icmp .eq 290, 3) := by decide +kernel
theorem dLa_law_364 : decode bLa_law 364 = .ok (.iconst 0, 1) := by decide +kernel
theorem dLa_law_365 : decode bLa_law 365 = .ok (.ireturn, 1) := by decide +kernel
theorem dLa_law_366 : decode bLa_law 366 = .ok (.aload_n 1, 1) := by decide +kernel
theorem dLa_law_367 : decode bLa_law 367 = .ok (.aload_n 0, 1) := by decide +kernel
theorem dLa_law_368 : decode bLa_law 368 = .ok (.iload_n 3, 1) := by decide +kernel
theorem dLa_law_369 : decode bLa_law 369 = .ok (.iconst 1, 1) := by decide +kernel
theorem dLa_law_370 : decode bLa_law 370 = .ok (.iadd, 1) := by decide +kernel
theorem dLa_law_371 : decode bLa_law 371 = .ok (.iaload, 1) := by decide +kernel
theorem dLa_law_372 : decode bLa_law 372 = .ok (.aload_n 0, 1) := by decide +kernel
theorem dLa_law_373 : decode bLa_law 373 = .ok (.iload_n 3, 1) := by decide +kernel
theorem dLa_law_374 : decode bLa_law 374 = .ok (.iconst 2, 1) := by decide +kernel
theorem dLa_law_375 : decode bLa_law 375 = .ok (.iadd, 1) := by decide +kernel
theorem dLa_law_376 : decode bLa_law 376 = .ok (.iaload, 1) := by decide +kernel
theorem dLa_law_377 : decode bLa_law 377 = .ok (.aload_n 0, 1) := by decide +kernel
theorem dLa_law_378 : decode bLa_law 378 = .ok (.iload_n 3, 1) := by decide +kernel
theorem dLa_law_379 : decode bLa_law 379 = .ok (.iconst 3, 1) := by decide +kernel
theorem dLa_law_380 : decode bLa_law 380 = .ok (.iadd, 1) := by decide +kernel
theorem dLa_law_381 : decode bLa_law 381 = .ok (.iaload, 1) := by decide +kernel
theorem dLa_law_382 : decode bLa_law 382 = .ok (.aload_n 0, 1) := by decide +kernel
theorem dLa_law_383 : decode bLa_law 383 = .ok (.iload_n 3, 1) := by decide +kernel
theorem dLa_law_384 : decode bLa_law 384 = .ok (.iconst 4, 1) := by decide +kernel
theorem dLa_law_385 : decode bLa_law 385 = .ok (.iadd, 1) := by decide +kernel
theorem dLa_law_386 : decode bLa_law 386 = .ok (.iaload, 1) := by decide +kernel
theorem dLa_law_387 : decode bLa_law 387 = .ok (.invokevirtual 50, 3) := by decide +kernel
theorem dLa_law_390 : decode bLa_law 390 = .ok (.aload_n 2, 1) := by decide +kernel
theorem dLa_law_391 : decode bLa_law 391 = .ok (.aload_n 0, 1) := by decide +kernel
theorem dLa_law_392 : decode bLa_law 392 = .ok (.iload_n 3, 1) := by decide +kernel
theorem dLa_law_393 : decode bLa_law 393 = .ok (.iconst 1, 1) := by decide +kernel
theorem dLa_law_394 : decode bLa_law 394 = .ok (.iadd, 1) := by decide +kernel
theorem dLa_law_395 : decode bLa_law 395 = .ok (.iaload, 1) := by decide +kernel
theorem dLa_law_396 : decode bLa_law 396 = .ok (.aload_n 0, 1) := by decide +kernel
theorem dLa_law_397 : decode bLa_law 397 = .ok (.iload_n 3, 1) := by decide +kernel
theorem dLa_law_398 : decode bLa_law 398 = .ok (.iconst 2, 1) := by decide +kernel
theorem dLa_law_399 : decode bLa_law 399 = .ok (.iadd, 1) := by decide +kernel
theorem dLa_law_400 : decode bLa_law 400 = .ok (.iaload, 1) := by decide +kernel
theorem dLa_law_401 : decode bLa_law 401 = .ok (.aload_n 0, 1) := by decide +kernel
theorem dLa_law_402 : decode bLa_law 402 = .ok (.iload_n 3, 1) := by decide +kernel
theorem dLa_law_403 : decode bLa_law 403 = .ok (.iconst 3, 1) := by decide +kernel
theorem dLa_law_404 : decode bLa_law 404 = .ok (.iadd, 1) := by decide +kernel
theorem dLa_law_405 : decode bLa_law 405 = .ok (.iaload, 1) := by decide +kernel
theorem dLa_law_406 : decode bLa_law 406 = .ok (.aload_n 0, 1) := by decide +kernel
theorem dLa_law_407 : decode bLa_law 407 = .ok (.iload_n 3, 1) := by decide +kernel
theorem dLa_law_408 : decode bLa_law 408 = .ok (.iconst 4, 1) := by decide +kernel
theorem dLa_law_409 : decode bLa_law 409 = .ok (.iadd, 1) := by decide +kernel
theorem dLa_law_410 : decode bLa_law 410 = .ok (.iaload, 1) := by decide +kernel
theorem dLa_law_411 : decode bLa_law 411 = .ok (.invokevirtual 53, 3) := by decide +kernel
theorem dLa_law_414 : decode bLa_law 414 = .ok (.if_icmp .eq 237, 3) := by decide +kernel
theorem dLa_law_417 : decode bLa_law 417 = .ok (.iconst 0, 1) := by decide +kernel
theorem dLa_law_418 : decode bLa_law 418 = .ok (.ireturn, 1) := by decide +kernel
theorem dLa_law_419 : decode bLa_law 419 = .ok (.aload_n 1, 1) := by decide +kernel
theorem dLa_law_420 : decode bLa_law 420 = .ok (.aload_n 0, 1) := by decide +kernel
theorem dLa_law_421 : decode bLa_law 421 = .ok (.iload_n 3, 1) := by decide +kernel
theorem dLa_law_422 : decode bLa_law 422 = .ok (.iconst 1, 1) := by decide +kernel
theorem dLa_law_423 : decode bLa_law 423 = .ok (.iadd, 1) := by decide +kernel
theorem dLa_law_424 : decode bLa_law 424 = .ok (.iaload, 1) := by decide +kernel
theorem dLa_law_425 : decode bLa_law 425 = .ok (.aload_n 0, 1) := by decide +kernel
theorem dLa_law_426 : decode bLa_law 426 = .ok (.iload_n 3, 1) := by decide +kernel
theorem dLa_law_427 : decode bLa_law 427 = .ok (.iconst 2, 1) := by decide +kernel
theorem dLa_law_428 : decode bLa_law 428 = .ok (.iadd, 1) := by decide +kernel
theorem dLa_law_429 : decode bLa_law 429 = .ok (.iaload, 1) := by decide +kernel
theorem dLa_law_430 : decode bLa_law 430 = .ok (.aload_n 0, 1) := by decide +kernel
theorem dLa_law_431 : decode bLa_law 431 = .ok (.iload_n 3, 1) := by decide +kernel
theorem dLa_law_432 : decode bLa_law 432 = .ok (.iconst 3, 1) := by decide +kernel
theorem dLa_law_433 : decode bLa_law 433 = .ok (.iadd, 1) := by decide +kernel
theorem dLa_law_434 : decode bLa_law 434 = .ok (.iaload, 1) := by decide +kernel
theorem dLa_law_435 : decode bLa_law 435 = .ok (.aload_n 0, 1) := by decide +kernel
theorem dLa_law_436 : decode bLa_law 436 = .ok (.iload_n 3, 1) := by decide +kernel
theorem dLa_law_437 : decode bLa_law 437 = .ok (.iconst 4, 1) := by decide +kernel
theorem dLa_law_438 : decode bLa_law 438 = .ok (.iadd, 1) := by decide +kernel
theorem dLa_law_439 : decode bLa_law 439 = .ok (.iaload, 1) := by decide +kernel
theorem dLa_law_440 : decode bLa_law 440 = .ok (.invokevirtual 54, 3) := by decide +kernel
theorem dLa_law_443 : decode bLa_law 443 = .ok (.aload_n 2, 1) := by decide +kernel
theorem dLa_law_444 : decode bLa_law 444 = .ok (.aload_n 0, 1) := by decide +kernel
theorem dLa_law_445 : decode bLa_law 445 = .ok (.iload_n 3, 1) := by decide +kernel
theorem dLa_law_446 : decode bLa_law 446 = .ok (.iconst 1, 1) := by decide +kernel
theorem dLa_law_447 : decode bLa_law 447 = .ok (.iadd, 1) := by decide +kernel
theorem dLa_law_448 : decode bLa_law 448 = .ok (.iaload, 1) := by decide +kernel
theorem dLa_law_449 : decode bLa_law 449 = .ok (.aload_n 0, 1) := by decide +kernel
theorem dLa_law_450 : decode bLa_law 450 = .ok (.iload_n 3, 1) := by decide +kernel
theorem dLa_law_451 : decode bLa_law 451 = .ok (.iconst 2, 1) := by decide +kernel
theorem dLa_law_452 : decode bLa_law 452 = .ok (.iadd, 1) := by decide +kernel
theorem dLa_law_453 : decode bLa_law 453 = .ok (.iaload, 1) := by decide +kernel
theorem dLa_law_454 : decode bLa_law 454 = .ok (.aload_n 0, 1) := by decide +kernel
theorem dLa_law_455 : decode bLa_law 455 = .ok (.iload_n 3, 1) := by decide +kernel
theorem dLa_law_456 : decode bLa_law 456 = .ok (.iconst 3, 1) := by decide +kernel
theorem dLa_law_457 : decode bLa_law 457 = .ok (.iadd, 1) := by decide +kernel
theorem dLa_law_458 : decode bLa_law 458 = .ok (.iaload, 1) := by decide +kernel
theorem dLa_law_459 : decode bLa_law 459 = .ok (.aload_n 0, 1) := by decide +kernel
theorem dLa_law_460 : decode bLa_law 460 = .ok (.iload_n 3, 1) := by decide +kernel
theorem dLa_law_461 : decode bLa_law 461 = .ok (.iconst 4, 1) := by decide +kernel
theorem dLa_law_462 : decode bLa_law 462 = .ok (.iadd, 1) := by decide +kernel
theorem dLa_law_463 : decode bLa_law 463 = .ok (.iaload, 1) := by decide +kernel
theorem dLa_law_464 : decode bLa_law 464 = .ok (.invokevirtual 57, 3) := by decide +kernel
theorem dLa_law_467 : decode bLa_law 467 = .ok (.if_icmp .eq 184, 3) := by decide +kernel
theorem dLa_law_470 : decode bLa_law 470 = .ok (.iconst 0, 1) := by decide +kernel
theorem dLa_law_471 : decode bLa_law 471 = .ok (.ireturn, 1) := by decide +kernel
theorem dLa_law_472 : decode bLa_law 472 = .ok (.aload_n 1, 1) := by decide +kernel
theorem dLa_law_473 : decode bLa_law 473 = .ok (.aload_n 0, 1) := by decide +kernel
theorem dLa_law_474 : decode bLa_law 474 = .ok (.iload_n 3, 1) := by decide +kernel
theorem dLa_law_475 : decode bLa_law 475 = .ok (.iconst 1, 1) := by decide +kernel
theorem dLa_law_476 : decode bLa_law 476 = .ok (.iadd, 1) := by decide +kernel
theorem dLa_law_477 : decode bLa_law 477 = .ok (.iaload, 1) := by decide +kernel
theorem dLa_law_478 : decode bLa_law 478 = .ok (.aload_n 0, 1) := by decide +kernel
theorem dLa_law_479 : decode bLa_law 479 = .ok (.iload_n 3, 1) := by decide +kernel
theorem dLa_law_480 : decode bLa_law 480 = .ok (.iconst 2, 1) := by decide +kernel
theorem dLa_law_481 : decode bLa_law 481 = .ok (.iadd, 1) := by decide +kernel
theorem dLa_law_482 : decode bLa_law 482 = .ok (.iaload, 1) := by decide +kernel
theorem dLa_law_483 : decode bLa_law 483 = .ok (.aload_n 0, 1) := by decide +kernel
theorem dLa_law_484 : decode bLa_law 484 = .ok (.iload_n 3, 1) := by decide +kernel
theorem dLa_law_485 : decode bLa_law 485 = .ok (.iconst 3, 1) := by decide +kernel
theorem dLa_law_486 : decode bLa_law 486 = .ok (.iadd, 1) := by decide +kernel
theorem dLa_law_487 : decode bLa_law 487 = .ok (.iaload, 1) := by decide +kernel
theorem dLa_law_488 : decode bLa_law 488 = .ok (.aload_n 0, 1) := by decide +kernel
theorem dLa_law_489 : decode bLa_law 489 = .ok (.iload_n 3, 1) := by decide +kernel
theorem dLa_law_490 : decode bLa_law 490 = .ok (.iconst 4, 1) := by decide +kernel
theorem dLa_law_491 : decode bLa_law 491 = .ok (.iadd, 1) := by decide +kernel
theorem dLa_law_492 : decode bLa_law 492 = .ok (.iaload, 1) := by decide +kernel
theorem dLa_law_493 : decode bLa_law 493 = .ok (.aload_n 0, 1) := by decide +kernel
theorem dLa_law_494 : decode bLa_law 494 = .ok (.iload_n 3, 1) := by decide +kernel
theorem dLa_law_495 : decode bLa_law 495 = .ok (.iconst 5, 1) := by decide +kernel
theorem dLa_law_496 : decode bLa_law 496 = .ok (.iadd, 1) := by decide +kernel
theorem dLa_law_497 : decode bLa_law 497 = .ok (.iaload, 1) := by decide +kernel
theorem dLa_law_498 : decode bLa_law 498 = .ok (.invokevirtual 58, 3) := by decide +kernel
theorem dLa_law_501 : decode bLa_law 501 = .ok (.aload_n 2, 1) := by decide +kernel
theorem dLa_law_502 : decode bLa_law 502 = .ok (.aload_n 0, 1) := by decide +kernel
theorem dLa_law_503 : decode bLa_law 503 = .ok (.iload_n 3, 1) := by decide +kernel
theorem dLa_law_504 : decode bLa_law 504 = .ok (.iconst 1, 1) := by decide +kernel
theorem dLa_law_505 : decode bLa_law 505 = .ok (.iadd, 1) := by decide +kernel
theorem dLa_law_506 : decode bLa_law 506 = .ok (.iaload, 1) := by decide +kernel
theorem dLa_law_507 : decode bLa_law 507 = .ok (.aload_n 0, 1) := by decide +kernel
theorem dLa_law_508 : decode bLa_law 508 = .ok (.iload_n 3, 1) := by decide +kernel
theorem dLa_law_509 : decode bLa_law 509 = .ok (.iconst 2, 1) := by decide +kernel
theorem dLa_law_510 : decode bLa_law 510 = .ok (.iadd, 1) := by decide +kernel
theorem dLa_law_511 : decode bLa_law 511 = .ok (.iaload, 1) := by decide +kernel
theorem dLa_law_512 : decode bLa_law 512 = .ok (.aload_n 0, 1) := by decide +kernel
theorem dLa_law_513 : decode bLa_law 513 = .ok (.iload_n 3, 1) := by decide +kernel
theorem dLa_law_514 : decode bLa_law 514 = .ok (.iconst 3, 1) := by decide +kernel
theorem dLa_law_515 : decode bLa_law 515 = .ok (.iadd, 1) := by decide +kernel
theorem dLa_law_516 : decode bLa_law 516 = .ok (.iaload, 1) := by decide +kernel
theorem dLa_law_517 : decode bLa_law 517 = .ok (.aload_n 0, 1) := by decide +kernel
theorem dLa_law_518 : decode bLa_law 518 = .ok (.iload_n 3, 1) := by decide +kernel
theorem dLa_law_519 : decode bLa_law 519 = .ok (.iconst 4, 1) := by decide +kernel
theorem dLa_law_520 : decode bLa_law 520 = .ok (.iadd, 1) := by decide +kernel
theorem dLa_law_521 : decode bLa_law 521 = .ok (.iaload, 1) := by decide +kernel
theorem dLa_law_522 : decode bLa_law 522 = .ok (.aload_n 0, 1) := by decide +kernel
theorem dLa_law_523 : decode bLa_law 523 = .ok (.iload_n 3, 1) := by decide +kernel
theorem dLa_law_524 : decode bLa_law 524 = .ok (.iconst 5, 1) := by decide +kernel
theorem dLa_law_525 : decode bLa_law 525 = .ok (.iadd, 1) := by decide +kernel
theorem dLa_law_526 : decode bLa_law 526 = .ok (.iaload, 1) := by decide +kernel
theorem dLa_law_527 : decode bLa_law 527 = .ok (.invokevirtual 61, 3) := by decide +kernel
theorem dLa_law_530 : decode bLa_law 530 = .ok (.if_icmp .eq 121, 3) := by decide +kernel
theorem dLa_law_533 : decode bLa_law 533 = .ok (.iconst 0, 1) := by decide +kernel
theorem dLa_law_534 : decode bLa_law 534 = .ok (.ireturn, 1) := by decide +kernel
theorem dLa_law_535 : decode bLa_law 535 = .ok (.aload_n 1, 1) := by decide +kernel
theorem dLa_law_536 : decode bLa_law 536 = .ok (.aload_n 0, 1) := by decide +kernel
theorem dLa_law_537 : decode bLa_law 537 = .ok (.iload_n 3, 1) := by decide +kernel
theorem dLa_law_538 : decode bLa_law 538 = .ok (.iconst 1, 1) := by decide +kernel
theorem dLa_law_539 : decode bLa_law 539 = .ok (.iadd, 1) := by decide +kernel
theorem dLa_law_540 : decode bLa_law 540 = .ok (.iaload, 1) := by decide +kernel
theorem dLa_law_541 : decode bLa_law 541 = .ok (.aload_n 0, 1) := by decide +kernel
theorem dLa_law_542 : decode bLa_law 542 = .ok (.iload_n 3, 1) := by decide +kernel
theorem dLa_law_543 : decode bLa_law 543 = .ok (.iconst 2, 1) := by decide +kernel
theorem dLa_law_544 : decode bLa_law 544 = .ok (.iadd, 1) := by decide +kernel
theorem dLa_law_545 : decode bLa_law 545 = .ok (.iaload, 1) := by decide +kernel
theorem dLa_law_546 : decode bLa_law 546 = .ok (.invokevirtual 62, 3) := by decide +kernel
theorem dLa_law_549 : decode bLa_law 549 = .ok (.aload_n 2, 1) := by decide +kernel
theorem dLa_law_550 : decode bLa_law 550 = .ok (.aload_n 0, 1) := by decide +kernel
theorem dLa_law_551 : decode bLa_law 551 = .ok (.iload_n 3, 1) := by decide +kernel
theorem dLa_law_552 : decode bLa_law 552 = .ok (.iconst 1, 1) := by decide +kernel
theorem dLa_law_553 : decode bLa_law 553 = .ok (.iadd, 1) := by decide +kernel
theorem dLa_law_554 : decode bLa_law 554 = .ok (.iaload, 1) := by decide +kernel
theorem dLa_law_555 : decode bLa_law 555 = .ok (.aload_n 0, 1) := by decide +kernel
theorem dLa_law_556 : decode bLa_law 556 = .ok (.iload_n 3, 1) := by decide +kernel
theorem dLa_law_557 : decode bLa_law 557 = .ok (.iconst 2, 1) := by decide +kernel
theorem dLa_law_558 : decode bLa_law 558 = .ok (.iadd, 1) := by decide +kernel
theorem dLa_law_559 : decode bLa_law 559 = .ok (.iaload, 1) := by decide +kernel
theorem dLa_law_560 : decode bLa_law 560 = .ok (.invokevirtual 66, 3) := by decide +kernel
theorem dLa_law_563 : decode bLa_law 563 = .ok (.lcmp, 1) := by decide +kernel
theorem dLa_law_564 : decode bLa_law 564 = .ok (.ifCond .eq 87, 3) := by decide +kernel
theorem dLa_law_567 : decode bLa_law 567 = .ok (.iconst 0, 1) := by decide +kernel
theorem dLa_law_568 : decode bLa_law 568 = .ok (.ireturn, 1) := by decide +kernel
theorem dLa_law_569 : decode bLa_law 569 = .ok (.aload_n 1, 1) := by decide +kernel
theorem dLa_law_570 : decode bLa_law 570 = .ok (.aload_n 0, 1) := by decide +kernel
theorem dLa_law_571 : decode bLa_law 571 = .ok (.iload_n 3, 1) := by decide +kernel
theorem dLa_law_572 : decode bLa_law 572 = .ok (.iconst 1, 1) := by decide +kernel
theorem dLa_law_573 : decode bLa_law 573 = .ok (.iadd, 1) := by decide +kernel
theorem dLa_law_574 : decode bLa_law 574 = .ok (.iaload, 1) := by decide +kernel
theorem dLa_law_575 : decode bLa_law 575 = .ok (.aload_n 0, 1) := by decide +kernel
theorem dLa_law_576 : decode bLa_law 576 = .ok (.iload_n 3, 1) := by decide +kernel
theorem dLa_law_577 : decode bLa_law 577 = .ok (.iconst 2, 1) := by decide +kernel
theorem dLa_law_578 : decode bLa_law 578 = .ok (.iadd, 1) := by decide +kernel
theorem dLa_law_579 : decode bLa_law 579 = .ok (.iaload, 1) := by decide +kernel
theorem dLa_law_580 : decode bLa_law 580 = .ok (.invokevirtual 67, 3) := by decide +kernel
theorem dLa_law_583 : decode bLa_law 583 = .ok (.aload_n 2, 1) := by decide +kernel
theorem dLa_law_584 : decode bLa_law 584 = .ok (.aload_n 0, 1) := by decide +kernel
theorem dLa_law_585 : decode bLa_law 585 = .ok (.iload_n 3, 1) := by decide +kernel
theorem dLa_law_586 : decode bLa_law 586 = .ok (.iconst 1, 1) := by decide +kernel
theorem dLa_law_587 : decode bLa_law 587 = .ok (.iadd, 1) := by decide +kernel
theorem dLa_law_588 : decode bLa_law 588 = .ok (.iaload, 1) := by decide +kernel
theorem dLa_law_589 : decode bLa_law 589 = .ok (.aload_n 0, 1) := by decide +kernel
theorem dLa_law_590 : decode bLa_law 590 = .ok (.iload_n 3, 1) := by decide +kernel
theorem dLa_law_591 : decode bLa_law 591 = .ok (.iconst 2, 1) := by decide +kernel
theorem dLa_law_592 : decode bLa_law 592 = .ok (.iadd, 1) := by decide +kernel
theorem dLa_law_593 : decode bLa_law 593 = .ok (.iaload, 1) := by decide +kernel
theorem dLa_law_594 : decode bLa_law 594 = .ok (.invokevirtual 71, 3) := by decide +kernel
theorem dLa_law_597 : decode bLa_law 597 = .ok (.if_icmp .eq 54, 3) := by decide +kernel
theorem dLa_law_600 : decode bLa_law 600 = .ok (.iconst 0, 1) := by decide +kernel
theorem dLa_law_601 : decode bLa_law 601 = .ok (.ireturn, 1) := by decide +kernel
theorem dLa_law_602 : decode bLa_law 602 = .ok (.aload_n 1, 1) := by decide +kernel
theorem dLa_law_603 : decode bLa_law 603 = .ok (.aload_n 0, 1) := by decide +kernel
theorem dLa_law_604 : decode bLa_law 604 = .ok (.iload_n 3, 1) := by decide +kernel
theorem dLa_law_605 : decode bLa_law 605 = .ok (.iconst 1, 1) := by decide +kernel
theorem dLa_law_606 : decode bLa_law 606 = .ok (.iadd, 1) := by decide +kernel
theorem dLa_law_607 : decode bLa_law 607 = .ok (.iaload, 1) := by decide +kernel
theorem dLa_law_608 : decode bLa_law 608 = .ok (.invokevirtual 72, 3) := by decide +kernel
theorem dLa_law_611 : decode bLa_law 611 = .ok (.aload_n 2, 1) := by decide +kernel
theorem dLa_law_612 : decode bLa_law 612 = .ok (.aload_n 0, 1) := by decide +kernel
theorem dLa_law_613 : decode bLa_law 613 = .ok (.iload_n 3, 1) := by decide +kernel
theorem dLa_law_614 : decode bLa_law 614 = .ok (.iconst 1, 1) := by decide +kernel
theorem dLa_law_615 : decode bLa_law 615 = .ok (.iadd, 1) := by decide +kernel
theorem dLa_law_616 : decode bLa_law 616 = .ok (.iaload, 1) := by decide +kernel
theorem dLa_law_617 : decode bLa_law 617 = .ok (.invokevirtual 76, 3) := by decide +kernel
theorem dLa_law_620 : decode bLa_law 620 = .ok (.if_icmp .eq 31, 3) := by decide +kernel
theorem dLa_law_623 : decode bLa_law 623 = .ok (.iconst 0, 1) := by decide +kernel
theorem dLa_law_624 : decode bLa_law 624 = .ok (.ireturn, 1) := by decide +kernel
theorem dLa_law_625 : decode bLa_law 625 = .ok (.aload_n 1, 1) := by decide +kernel
theorem dLa_law_626 : decode bLa_law 626 = .ok (.invokevirtual 77, 3) := by decide +kernel
theorem dLa_law_629 : decode bLa_law 629 = .ok (.aload_n 2, 1) := by decide +kernel
theorem dLa_law_630 : decode bLa_law 630 = .ok (.invokevirtual 80, 3) := by decide +kernel
theorem dLa_law_633 : decode bLa_law 633 = .ok (.if_icmp .eq 18, 3) := by decide +kernel
theorem dLa_law_636 : decode bLa_law 636 = .ok (.iconst 0, 1) := by decide +kernel
theorem dLa_law_637 : decode bLa_law 637 = .ok (.ireturn, 1) := by decide +kernel
theorem dLa_law_638 : decode bLa_law 638 = .ok (.aload_n 1, 1) := by decide +kernel
theorem dLa_law_639 : decode bLa_law 639 = .ok (.invokevirtual 81, 3) := by decide +kernel
theorem dLa_law_642 : decode bLa_law 642 = .ok (.aload_n 2, 1) := by decide +kernel
theorem dLa_law_643 : decode bLa_law 643 = .ok (.invokevirtual 84, 3) := by decide +kernel
theorem dLa_law_646 : decode bLa_law 646 = .ok (.if_icmp .eq 5, 3) := by decide +kernel
theorem dLa_law_649 : decode bLa_law 649 = .ok (.iconst 0, 1) := by decide +kernel
theorem dLa_law_650 : decode bLa_law 650 = .ok (.ireturn, 1) := by decide +kernel
theorem dLa_law_651 : decode bLa_law 651 = .ok (.iinc 3 6, 3) := by decide +kernel
theorem dLa_law_654 : decode bLa_law 654 = .ok (.goto (-636), 3) := by decide +kernel
theorem dLa_law_657 : decode bLa_law 657 = .ok (.iconst 1, 1) := by decide +kernel
theorem dLa_law_658 : decode bLa_law 658 = .ok (.ireturn, 1) := by decide +kernel
theorem kmFa_11 : Lk tbl RFa 11 yDi_init bDi_init 1 none 0 := ⟨tb1 21 (by decide +kernel) (by decide +kernel), tb1 2 (by decide +kernel) (by decide +kernel), kcDi_init, by decide +kernel, by decide +kernel, by decide +kernel⟩
theorem kmFa_18 : Lk tbl RFa 18 yTr_init bTr_init 2 none 0 := ⟨tb1 47 (by decide +kernel) (by decide +kernel), tb1 3 (by decide +kernel) (by decide +kernel), kcTr_init, by decide +kernel, by decide +kernel, by decide +kernel⟩
theorem kmFa_25 : Lk tbl RFa 25 ySe_init bSe_init 2 none 0 := ⟨tb1 145 (by decide +kernel) (by decide +kernel), tb1 6 (by decide +kernel) (by decide +kernel), kcSe_init, by decide +kernel, by decide +kernel, by decide +kernel⟩
theorem kmFa_48 : Lk tbl RFa 48 yFa_isName bFa_isName 1 (some .boolean) 1 := ⟨tb1 215 (by decide +kernel) (by decide +kernel), tb1 1 (by decide +kernel) (by decide +kernel), kcFa_isName, by decide +kernel, by decide +kernel, by decide +kernel⟩
theorem kmFa_52 : Lk tbl RFa 52 yFa_isRectangle bFa_isRectangle 4 (some .boolean) 4 := ⟨tb1 218 (by decide +kernel) (by decide +kernel), tb1 1 (by decide +kernel) (by decide +kernel), kcFa_isRectangle, by decide +kernel, by decide +kernel, by decide +kernel⟩
theorem kmFa_59 : Lk tbl RFa 59 yBo_assign bBo_assign 6 none 5 := ⟨tb1 226 (by decide +kernel) (by decide +kernel), tb1 4 (by decide +kernel) (by decide +kernel), kcBo_assign, by decide +kernel, by decide +kernel, by decide +kernel⟩
theorem kmFa_63 : Lk tbl RFa 63 yTr_plant bTr_plant 3 none 1 := ⟨tb1 230 (by decide +kernel) (by decide +kernel), tb1 3 (by decide +kernel) (by decide +kernel), kcTr_plant, by decide +kernel, by decide +kernel, by decide +kernel⟩
theorem kmFa_67 : Lk tbl RFa 67 yFa_settle bFa_settle 3 (some .int) 1 := ⟨tb2 114 (by decide +kernel) (by decide +kernel), tb1 1 (by decide +kernel) (by decide +kernel), kcFa_settle, by decide +kernel, by decide +kernel, by decide +kernel⟩
theorem kmFa_71 : Lk tbl RFa 71 yTr_uproot bTr_uproot 3 (some .boolean) 1 := ⟨tb2 171 (by decide +kernel) (by decide +kernel), tb1 3 (by decide +kernel) (by decide +kernel), kcTr_uproot, by decide +kernel, by decide +kernel, by decide +kernel⟩
theorem kmFa_75 : Lk tbl RFa 75 yFa_searchWindow bFa_searchWindow 5 none 4 := ⟨tb2 186 (by decide +kernel) (by decide +kernel), tb1 1 (by decide +kernel) (by decide +kernel), kcFa_searchWindow, by decide +kernel, by decide +kernel, by decide +kernel⟩
theorem kmFa_89 : Lk tbl RFa 89 yFa_losePower bFa_losePower 1 none 0 := ⟨tb2 158 (by decide +kernel) (by decide +kernel), tb1 1 (by decide +kernel) (by decide +kernel), kcFa_losePower, by decide +kernel, by decide +kernel, by decide +kernel⟩
theorem kmFa_92 : Lk tbl RFa 92 yDi_recover bDi_recover 1 none 0 := ⟨tb2 232 (by decide +kernel) (by decide +kernel), tb1 2 (by decide +kernel) (by decide +kernel), kcDi_recover, by decide +kernel, by decide +kernel, by decide +kernel⟩
theorem kmFa_95 : Lk tbl RFa 95 yTr_readFrom bTr_readFrom 3 none 1 := ⟨tb2 236 (by decide +kernel) (by decide +kernel), tb1 3 (by decide +kernel) (by decide +kernel), kcTr_readFrom, by decide +kernel, by decide +kernel, by decide +kernel⟩
theorem kmFa_99 : Lk tbl RFa 99 yFa_noteThrift bFa_noteThrift 1 none 0 := ⟨tb3 19 (by decide +kernel) (by decide +kernel), tb1 1 (by decide +kernel) (by decide +kernel), kcFa_noteThrift, by decide +kernel, by decide +kernel, by decide +kernel⟩
theorem kmFa_102 : Lk tbl RFa 102 ySe_hitsInside bSe_hitsInside 4 (some .int) 1 := ⟨tb3 32 (by decide +kernel) (by decide +kernel), tb1 6 (by decide +kernel) (by decide +kernel), kcSe_hitsInside, by decide +kernel, by decide +kernel, by decide +kernel⟩
theorem kmFa_108 : Lk tbl RFa 108 yFa_isCoordinate bFa_isCoordinate 1 (some .boolean) 1 := ⟨tb1 221 (by decide +kernel) (by decide +kernel), tb1 1 (by decide +kernel) (by decide +kernel), kcFa_isCoordinate, by decide +kernel, by decide +kernel, by decide +kernel⟩
theorem kmFa_113 : Lk tbl RFa 113 yFa_searchPoint bFa_searchPoint 3 none 2 := ⟨tb3 47 (by decide +kernel) (by decide +kernel), tb1 1 (by decide +kernel) (by decide +kernel), kcFa_searchPoint, by decide +kernel, by decide +kernel, by decide +kernel⟩
theorem kmFa_128 : Lk tbl RFa 128 yTr_at bTr_at 2 (some (.object "BoxedPages$Page")) 1 := ⟨tb3 81 (by decide +kernel) (by decide +kernel), tb1 3 (by decide +kernel) (by decide +kernel), kcTr_at, by decide +kernel, by decide +kernel, by decide +kernel⟩
theorem kmFa_132 : Lk tbl RFa 132 yPa_frame bPa_frame 4 none 2 := ⟨tb3 82 (by decide +kernel) (by decide +kernel), tb1 5 (by decide +kernel) (by decide +kernel), kcPa_frame, by decide +kernel, by decide +kernel, by decide +kernel⟩
theorem kmFa_150 : Lk tbl RFa 150 yTr_isWhole bTr_isWhole 2 (some .boolean) 0 := ⟨tb3 87 (by decide +kernel) (by decide +kernel), tb1 3 (by decide +kernel) (by decide +kernel), kcTr_isWhole, by decide +kernel, by decide +kernel, by decide +kernel⟩
theorem kmFa_156 : Lk tbl RFa 156 ySe_gather bSe_gather 7 none 2 := ⟨tb2 190 (by decide +kernel) (by decide +kernel), tb1 6 (by decide +kernel) (by decide +kernel), kcSe_gather, by decide +kernel, by decide +kernel, by decide +kernel⟩
theorem kmFa_160 : Lk tbl RFa 160 ySe_lookedOnlyWhereMet bSe_lookedOnlyWhereMet 4 (some .boolean) 2 := ⟨tb3 23 (by decide +kernel) (by decide +kernel), tb1 6 (by decide +kernel) (by decide +kernel), kcSe_lookedOnlyWhereMet, by decide +kernel, by decide +kernel, by decide +kernel⟩
theorem kmFa_164 : Lk tbl RFa 164 ySe_approach bSe_approach 11 none 3 := ⟨tb3 51 (by decide +kernel) (by decide +kernel), tb1 6 (by decide +kernel) (by decide +kernel), kcSe_approach, by decide +kernel, by decide +kernel, by decide +kernel⟩
theorem kmFa_168 : Lk tbl RFa 168 ySe_lookedNoFarther bSe_lookedNoFarther 5 (some .boolean) 3 := ⟨tb3 68 (by decide +kernel) (by decide +kernel), tb1 6 (by decide +kernel) (by decide +kernel), kcSe_lookedNoFarther, by decide +kernel, by decide +kernel, by decide +kernel⟩
theorem kmFa_172 : Lk tbl RFa 172 yDi_keep bDi_keep 4 (some .boolean) 2 := ⟨tb2 118 (by decide +kernel) (by decide +kernel), tb1 2 (by decide +kernel) (by decide +kernel), kcDi_keep, by decide +kernel, by decide +kernel, by decide +kernel⟩
theorem kmFa_176 : Lk tbl RFa 176 yTr_markUnchanged bTr_markUnchanged 2 none 0 := ⟨tb2 154 (by decide +kernel) (by decide +kernel), tb1 3 (by decide +kernel) (by decide +kernel), kcTr_markUnchanged, by decide +kernel, by decide +kernel, by decide +kernel⟩
theorem kmFa_179 : Lk tbl RFa 179 yTr_forget bTr_forget 2 none 0 := ⟨tb2 162 (by decide +kernel) (by decide +kernel), tb1 3 (by decide +kernel) (by decide +kernel), kcTr_forget, by decide +kernel, by decide +kernel, by decide +kernel⟩
theorem kmBo_29 : Lk tbl RBo 29 yMa_max bMa_max 2 (some .int) 2 := ⟨tb2 25 (by decide +kernel) (by decide +kernel), tb1 8 (by decide +kernel) (by decide +kernel), kcMa_max, by decide +kernel, by decide +kernel, by decide +kernel⟩
theorem kmBo_35 : Lk tbl RBo 35 yMa_min bMa_min 2 (some .int) 2 := ⟨tb2 26 (by decide +kernel) (by decide +kernel), tb1 8 (by decide +kernel) (by decide +kernel), kcMa_min, by decide +kernel, by decide +kernel, by decide +kernel⟩
theorem kmDi_23 : Lk tbl RDi 23 yTr_changedPages bTr_changedPages 3 (some .int) 0 := ⟨tb2 122 (by decide +kernel) (by decide +kernel), tb1 3 (by decide +kernel) (by decide +kernel), kcTr_changedPages, by decide +kernel, by decide +kernel, by decide +kernel⟩
theorem kmDi_29 : Lk tbl RDi 29 yDi_writeLog bDi_writeLog 4 none 2 := ⟨tb2 130 (by decide +kernel) (by decide +kernel), tb1 2 (by decide +kernel) (by decide +kernel), kcDi_writeLog, by decide +kernel, by decide +kernel, by decide +kernel⟩
theorem kmDi_41 : Lk tbl RDi 41 yDi_writePlaces bDi_writePlaces 3 none 1 := ⟨tb2 143 (by decide +kernel) (by decide +kernel), tb1 2 (by decide +kernel) (by decide +kernel), kcDi_writePlaces, by decide +kernel, by decide +kernel, by decide +kernel⟩
theorem kmDi_45 : Lk tbl RDi 45 yDi_emptyLog bDi_emptyLog 1 none 0 := ⟨tb2 150 (by decide +kernel) (by decide +kernel), tb1 2 (by decide +kernel) (by decide +kernel), kcDi_emptyLog, by decide +kernel, by decide +kernel, by decide +kernel⟩
theorem kmDi_48 : Lk tbl RDi 48 yTr_isChanged bTr_isChanged 2 (some .boolean) 1 := ⟨tb2 134 (by decide +kernel) (by decide +kernel), tb1 3 (by decide +kernel) (by decide +kernel), kcTr_isChanged, by decide +kernel, by decide +kernel, by decide +kernel⟩
theorem kmDi_52 : Lk tbl RDi 52 yTr_writePage bTr_writePage 3 none 2 := ⟨tb2 135 (by decide +kernel) (by decide +kernel), tb1 3 (by decide +kernel) (by decide +kernel), kcTr_writePage, by decide +kernel, by decide +kernel, by decide +kernel⟩
theorem kmPa_29 : Lk tbl RPa 29 yBo_become bBo_become 2 none 1 := ⟨tb2 31 (by decide +kernel) (by decide +kernel), tb1 4 (by decide +kernel) (by decide +kernel), kcBo_become, by decide +kernel, by decide +kernel, by decide +kernel⟩
theorem kmPa_33 : Lk tbl RPa 33 yBo_shrinkToNothing bBo_shrinkToNothing 1 none 0 := ⟨tb2 55 (by decide +kernel) (by decide +kernel), tb1 4 (by decide +kernel) (by decide +kernel), kcBo_shrinkToNothing, by decide +kernel, by decide +kernel, by decide +kernel⟩
theorem kmPa_36 : Lk tbl RPa 36 yBo_widen bBo_widen 2 none 1 := ⟨tb2 61 (by decide +kernel) (by decide +kernel), tb1 4 (by decide +kernel) (by decide +kernel), kcBo_widen, by decide +kernel, by decide +kernel, by decide +kernel⟩
theorem kmPa_41 : Lk tbl RPa 41 yBo_area bBo_area 1 (some .long) 0 := ⟨tb2 17 (by decide +kernel) (by decide +kernel), tb1 4 (by decide +kernel) (by decide +kernel), kcBo_area, by decide +kernel, by decide +kernel, by decide +kernel⟩
theorem kmPa_45 : Lk tbl RPa 45 yBo_areaWith bBo_areaWith 6 (some .long) 1 := ⟨tb2 21 (by decide +kernel) (by decide +kernel), tb1 4 (by decide +kernel) (by decide +kernel), kcBo_areaWith, by decide +kernel, by decide +kernel, by decide +kernel⟩
theorem kmPa_64 : Lk tbl RPa 64 yMa_min bMa_min 2 (some .int) 2 := ⟨tb3 4 (by decide +kernel) (by decide +kernel), tb1 8 (by decide +kernel) (by decide +kernel), kcMa_min, by decide +kernel, by decide +kernel, by decide +kernel⟩
theorem kmPa_70 : Lk tbl RPa 70 yMa_max bMa_max 2 (some .int) 2 := ⟨tb3 5 (by decide +kernel) (by decide +kernel), tb1 8 (by decide +kernel) (by decide +kernel), kcMa_max, by decide +kernel, by decide +kernel, by decide +kernel⟩
theorem kmPa_73 : Lk tbl RPa 73 yBo_assign bBo_assign 6 none 5 := ⟨tb3 6 (by decide +kernel) (by decide +kernel), tb1 4 (by decide +kernel) (by decide +kernel), kcBo_assign, by decide +kernel, by decide +kernel, by decide +kernel⟩
theorem kmSe_45 : Lk tbl RSe 45 ySe_begin bSe_begin 2 none 1 := ⟨tb2 194 (by decide +kernel) (by decide +kernel), tb1 6 (by decide +kernel) (by decide +kernel), kcSe_begin, by decide +kernel, by decide +kernel, by decide +kernel⟩
theorem kmSe_52 : Lk tbl RSe 52 ySe_lookInto bSe_lookInto 4 (some (.object "BoxedPages$Page")) 2 := ⟨tb2 202 (by decide +kernel) (by decide +kernel), tb1 6 (by decide +kernel) (by decide +kernel), kcSe_lookInto, by decide +kernel, by decide +kernel, by decide +kernel⟩
theorem kmSe_64 : Lk tbl RSe 64 yBo_meets bBo_meets 2 (some .boolean) 1 := ⟨tb2 207 (by decide +kernel) (by decide +kernel), tb1 4 (by decide +kernel) (by decide +kernel), kcBo_meets, by decide +kernel, by decide +kernel, by decide +kernel⟩
theorem kmSe_71 : Lk tbl RSe 71 ySe_keepInOrder bSe_keepInOrder 3 none 1 := ⟨tb2 211 (by decide +kernel) (by decide +kernel), tb1 6 (by decide +kernel) (by decide +kernel), kcSe_keepInOrder, by decide +kernel, by decide +kernel, by decide +kernel⟩
theorem kmSe_78 : Lk tbl RSe 78 ySe_await bSe_await 4 none 2 := ⟨tb2 198 (by decide +kernel) (by decide +kernel), tb1 6 (by decide +kernel) (by decide +kernel), kcSe_await, by decide +kernel, by decide +kernel, by decide +kernel⟩
theorem kmSe_88 : Lk tbl RSe 88 ySe_nearestWaiting bSe_nearestWaiting 3 (some .int) 0 := ⟨tb3 56 (by decide +kernel) (by decide +kernel), tb1 6 (by decide +kernel) (by decide +kernel), kcSe_nearestWaiting, by decide +kernel, by decide +kernel, by decide +kernel⟩
theorem kmSe_92 : Lk tbl RSe 92 yBo_squareFrom bBo_squareFrom 7 (some .long) 2 := ⟨tb3 60 (by decide +kernel) (by decide +kernel), tb1 4 (by decide +kernel) (by decide +kernel), kcBo_squareFrom, by decide +kernel, by decide +kernel, by decide +kernel⟩
theorem kmSe_96 : Lk tbl RSe 96 ySe_keepCloser bSe_keepCloser 4 none 2 := ⟨tb3 64 (by decide +kernel) (by decide +kernel), tb1 6 (by decide +kernel) (by decide +kernel), kcSe_keepCloser, by decide +kernel, by decide +kernel, by decide +kernel⟩
theorem kmSe_100 : Lk tbl RSe 100 yBo_holds bBo_holds 2 (some .boolean) 1 := ⟨tb3 36 (by decide +kernel) (by decide +kernel), tb1 4 (by decide +kernel) (by decide +kernel), kcBo_holds, by decide +kernel, by decide +kernel, by decide +kernel⟩
theorem kmSe_106 : Lk tbl RSe 106 yTr_at bTr_at 2 (some (.object "BoxedPages$Page")) 1 := ⟨tb2 206 (by decide +kernel) (by decide +kernel), tb1 3 (by decide +kernel) (by decide +kernel), kcTr_at, by decide +kernel, by decide +kernel, by decide +kernel⟩
theorem kmSe_110 : Lk tbl RSe 110 yPa_frame bPa_frame 4 none 2 := ⟨tb3 27 (by decide +kernel) (by decide +kernel), tb1 5 (by decide +kernel) (by decide +kernel), kcPa_frame, by decide +kernel, by decide +kernel, by decide +kernel⟩
theorem kmSe_113 : Lk tbl RSe 113 yBo_precedes bBo_precedes 2 (some .boolean) 1 := ⟨tb2 215 (by decide +kernel) (by decide +kernel), tb1 4 (by decide +kernel) (by decide +kernel), kcBo_precedes, by decide +kernel, by decide +kernel, by decide +kernel⟩
theorem kmSe_116 : Lk tbl RSe 116 yBo_become bBo_become 2 none 1 := ⟨tb2 219 (by decide +kernel) (by decide +kernel), tb1 4 (by decide +kernel) (by decide +kernel), kcBo_become, by decide +kernel, by decide +kernel, by decide +kernel⟩
theorem kmTr_34 : Lk tbl RTr 34 yPa_init bPa_init 2 none 0 := ⟨tb1 88 (by decide +kernel) (by decide +kernel), tb1 5 (by decide +kernel) (by decide +kernel), kcPa_init, by decide +kernel, by decide +kernel, by decide +kernel⟩
theorem kmTr_42 : Lk tbl RTr 42 yTr_descend bTr_descend 5 (some .int) 1 := ⟨tb1 234 (by decide +kernel) (by decide +kernel), tb1 3 (by decide +kernel) (by decide +kernel), kcTr_descend, by decide +kernel, by decide +kernel, by decide +kernel⟩
theorem kmTr_46 : Lk tbl RTr 46 yTr_at bTr_at 2 (some (.object "BoxedPages$Page")) 1 := ⟨tb2 2 (by decide +kernel) (by decide +kernel), tb1 3 (by decide +kernel) (by decide +kernel), kcTr_at, by decide +kernel, by decide +kernel, by decide +kernel⟩
theorem kmTr_50 : Lk tbl RTr 50 yPa_add bPa_add 2 none 1 := ⟨tb2 27 (by decide +kernel) (by decide +kernel), tb1 5 (by decide +kernel) (by decide +kernel), kcPa_add, by decide +kernel, by decide +kernel, by decide +kernel⟩
theorem kmTr_57 : Lk tbl RTr 57 yTr_writeHeader bTr_writeHeader 3 none 2 := ⟨tb2 35 (by decide +kernel) (by decide +kernel), tb1 3 (by decide +kernel) (by decide +kernel), kcTr_writeHeader, by decide +kernel, by decide +kernel, by decide +kernel⟩
theorem kmTr_61 : Lk tbl RTr 61 yTr_climb bTr_climb 4 none 1 := ⟨tb2 39 (by decide +kernel) (by decide +kernel), tb1 3 (by decide +kernel) (by decide +kernel), kcTr_climb, by decide +kernel, by decide +kernel, by decide +kernel⟩
theorem kmTr_65 : Lk tbl RTr 65 yTr_seek bTr_seek 7 (some .boolean) 4 := ⟨tb2 175 (by decide +kernel) (by decide +kernel), tb1 3 (by decide +kernel) (by decide +kernel), kcTr_seek, by decide +kernel, by decide +kernel, by decide +kernel⟩
theorem kmTr_69 : Lk tbl RTr 69 yTr_lowestDepth bTr_lowestDepth 1 (some .int) 0 := ⟨tb1 238 (by decide +kernel) (by decide +kernel), tb1 3 (by decide +kernel) (by decide +kernel), kcTr_lowestDepth, by decide +kernel, by decide +kernel, by decide +kernel⟩
theorem kmTr_73 : Lk tbl RTr 73 yPa_drop bPa_drop 2 none 1 := ⟨tb2 82 (by decide +kernel) (by decide +kernel), tb1 5 (by decide +kernel) (by decide +kernel), kcPa_drop, by decide +kernel, by decide +kernel, by decide +kernel⟩
theorem kmTr_76 : Lk tbl RTr 76 yTr_entriesBelow bTr_entriesBelow 8 (some .int) 3 := ⟨tb3 91 (by decide +kernel) (by decide +kernel), tb1 3 (by decide +kernel) (by decide +kernel), kcTr_entriesBelow, by decide +kernel, by decide +kernel, by decide +kernel⟩
theorem kmTr_80 : Lk tbl RTr 80 yTr_isChanged bTr_isChanged 2 (some .boolean) 1 := ⟨tb2 126 (by decide +kernel) (by decide +kernel), tb1 3 (by decide +kernel) (by decide +kernel), kcTr_isChanged, by decide +kernel, by decide +kernel, by decide +kernel⟩
theorem kmTr_91 : Lk tbl RTr 91 yPa_writeTo bPa_writeTo 4 none 1 := ⟨tb2 139 (by decide +kernel) (by decide +kernel), tb1 5 (by decide +kernel) (by decide +kernel), kcPa_writeTo, by decide +kernel, by decide +kernel, by decide +kernel⟩
theorem kmTr_101 : Lk tbl RTr 101 yPa_readFrom bPa_readFrom 4 none 1 := ⟨tb3 0 (by decide +kernel) (by decide +kernel), tb1 5 (by decide +kernel) (by decide +kernel), kcPa_readFrom, by decide +kernel, by decide +kernel, by decide +kernel⟩
theorem kmTr_104 : Lk tbl RTr 104 yPa_open bPa_open 2 none 1 := ⟨tb2 78 (by decide +kernel) (by decide +kernel), tb1 5 (by decide +kernel) (by decide +kernel), kcPa_open, by decide +kernel, by decide +kernel, by decide +kernel⟩
theorem kmTr_107 : Lk tbl RTr 107 yTr_markUnchanged bTr_markUnchanged 2 none 0 := ⟨tb2 166 (by decide +kernel) (by decide +kernel), tb1 3 (by decide +kernel) (by decide +kernel), kcTr_markUnchanged, by decide +kernel, by decide +kernel, by decide +kernel⟩
theorem kmTr_110 : Lk tbl RTr 110 yMa_min bMa_min 2 (some .int) 2 := ⟨tb2 6 (by decide +kernel) (by decide +kernel), tb1 8 (by decide +kernel) (by decide +kernel), kcMa_min, by decide +kernel, by decide +kernel, by decide +kernel⟩
theorem kmTr_116 : Lk tbl RTr 116 yMa_max bMa_max 2 (some .int) 2 := ⟨tb2 9 (by decide +kernel) (by decide +kernel), tb1 8 (by decide +kernel) (by decide +kernel), kcMa_max, by decide +kernel, by decide +kernel, by decide +kernel⟩
theorem kmTr_119 : Lk tbl RTr 119 yPa_slotThatGrowsLeast bPa_slotThatGrowsLeast 12 (some .int) 1 := ⟨tb2 12 (by decide +kernel) (by decide +kernel), tb1 5 (by decide +kernel) (by decide +kernel), kcPa_slotThatGrowsLeast, by decide +kernel, by decide +kernel, by decide +kernel⟩
theorem kmTr_132 : Lk tbl RTr 132 yBo_isSame bBo_isSame 2 (some .boolean) 1 := ⟨tb2 65 (by decide +kernel) (by decide +kernel), tb1 4 (by decide +kernel) (by decide +kernel), kcBo_isSame, by decide +kernel, by decide +kernel, by decide +kernel⟩
theorem kmTr_136 : Lk tbl RTr 136 yBo_holds bBo_holds 2 (some .boolean) 1 := ⟨tb2 178 (by decide +kernel) (by decide +kernel), tb1 4 (by decide +kernel) (by decide +kernel), kcBo_holds, by decide +kernel, by decide +kernel, by decide +kernel⟩
theorem kmTr_139 : Lk tbl RTr 139 yTr_mend bTr_mend 6 none 2 := ⟨tb2 43 (by decide +kernel) (by decide +kernel), tb1 3 (by decide +kernel) (by decide +kernel), kcTr_mend, by decide +kernel, by decide +kernel, by decide +kernel⟩
theorem kmTr_143 : Lk tbl RTr 143 yTr_openPage bTr_openPage 3 (some .int) 1 := ⟨tb2 86 (by decide +kernel) (by decide +kernel), tb1 3 (by decide +kernel) (by decide +kernel), kcTr_openPage, by decide +kernel, by decide +kernel, by decide +kernel⟩
theorem kmTr_147 : Lk tbl RTr 147 yTr_hang bTr_hang 3 none 2 := ⟨tb2 110 (by decide +kernel) (by decide +kernel), tb1 3 (by decide +kernel) (by decide +kernel), kcTr_hang, by decide +kernel, by decide +kernel, by decide +kernel⟩
theorem kmTr_150 : Lk tbl RTr 150 yTr_tellFrame bTr_tellFrame 4 none 2 := ⟨tb2 47 (by decide +kernel) (by decide +kernel), tb1 3 (by decide +kernel) (by decide +kernel), kcTr_tellFrame, by decide +kernel, by decide +kernel, by decide +kernel⟩
theorem kmTr_153 : Lk tbl RTr 153 yPa_bestPartner bPa_bestPartner 8 (some .int) 1 := ⟨tb2 70 (by decide +kernel) (by decide +kernel), tb1 5 (by decide +kernel) (by decide +kernel), kcPa_bestPartner, by decide +kernel, by decide +kernel, by decide +kernel⟩
theorem kmTr_156 : Lk tbl RTr 156 yTr_merge bTr_merge 7 none 3 := ⟨tb2 74 (by decide +kernel) (by decide +kernel), tb1 3 (by decide +kernel) (by decide +kernel), kcTr_merge, by decide +kernel, by decide +kernel, by decide +kernel⟩
theorem kmTr_160 : Lk tbl RTr 160 yTr_bestDivision bTr_bestDivision 13 (some .int) 1 := ⟨tb2 90 (by decide +kernel) (by decide +kernel), tb1 3 (by decide +kernel) (by decide +kernel), kcTr_bestDivision, by decide +kernel, by decide +kernel, by decide +kernel⟩
theorem kmTr_164 : Lk tbl RTr 164 yTr_moveOut bTr_moveOut 5 none 3 := ⟨tb2 106 (by decide +kernel) (by decide +kernel), tb1 3 (by decide +kernel) (by decide +kernel), kcTr_moveOut, by decide +kernel, by decide +kernel, by decide +kernel⟩
theorem kmTr_168 : Lk tbl RTr 168 yPa_frame bPa_frame 4 none 2 := ⟨tb2 51 (by decide +kernel) (by decide +kernel), tb1 5 (by decide +kernel) (by decide +kernel), kcPa_frame, by decide +kernel, by decide +kernel, by decide +kernel⟩
theorem kmTr_171 : Lk tbl RTr 171 yBo_become bBo_become 2 none 1 := ⟨tb2 69 (by decide +kernel) (by decide +kernel), tb1 4 (by decide +kernel) (by decide +kernel), kcBo_become, by decide +kernel, by decide +kernel, by decide +kernel⟩
theorem kmTr_176 : Lk tbl RTr 176 yIn_bitCount bIn_bitCount 1 (some .int) 1 := ⟨tb2 95 (by decide +kernel) (by decide +kernel), tb1 9 (by decide +kernel) (by decide +kernel), kcIn_bitCount, by decide +kernel, by decide +kernel, by decide +kernel⟩
theorem kmTr_181 : Lk tbl RTr 181 yBo_area bBo_area 1 (some .long) 0 := ⟨tb2 101 (by decide +kernel) (by decide +kernel), tb1 4 (by decide +kernel) (by decide +kernel), kcBo_area, by decide +kernel, by decide +kernel, by decide +kernel⟩
theorem kmTr_185 : Lk tbl RTr 185 yBo_rim bBo_rim 1 (some .long) 0 := ⟨tb2 102 (by decide +kernel) (by decide +kernel), tb1 4 (by decide +kernel) (by decide +kernel), kcBo_rim, by decide +kernel, by decide +kernel, by decide +kernel⟩
theorem kmLa_9 : Lk tbl RLa 9 yFa_init bFa_init 1 none 0 := ⟨tb1 13 (by decide +kernel) (by decide +kernel), tb1 1 (by decide +kernel) (by decide +kernel), kcFa_init, by decide +kernel, by decide +kernel, by decide +kernel⟩
theorem kmLa_12 : Lk tbl RLa 12 yMo_init bMo_init 1 none 0 := ⟨tb3 100 (by decide +kernel) (by decide +kernel), tb1 7 (by decide +kernel) (by decide +kernel), kcMo_init, by decide +kernel, by decide +kernel, by decide +kernel⟩
theorem kmLa_13 : Lk tbl RLa 13 yFa_insert bFa_insert 6 (some .int) 5 := ⟨tb1 211 (by decide +kernel) (by decide +kernel), tb1 1 (by decide +kernel) (by decide +kernel), kcFa_insert, by decide +kernel, by decide +kernel, by decide +kernel⟩
theorem kmLa_17 : Lk tbl RLa 17 yMo_insert bMo_insert 9 (some .int) 5 := ⟨tb3 117 (by decide +kernel) (by decide +kernel), tb1 7 (by decide +kernel) (by decide +kernel), kcMo_insert, by decide +kernel, by decide +kernel, by decide +kernel⟩
theorem kmLa_18 : Lk tbl RLa 18 yFa_delete bFa_delete 6 (some .int) 5 := ⟨tb2 167 (by decide +kernel) (by decide +kernel), tb1 1 (by decide +kernel) (by decide +kernel), kcFa_delete, by decide +kernel, by decide +kernel, by decide +kernel⟩
theorem kmLa_21 : Lk tbl RLa 21 yMo_delete bMo_delete 8 (some .int) 5 := ⟨tb3 152 (by decide +kernel) (by decide +kernel), tb1 7 (by decide +kernel) (by decide +kernel), kcMo_delete, by decide +kernel, by decide +kernel, by decide +kernel⟩
theorem kmLa_22 : Lk tbl RLa 22 yFa_take bFa_take 6 (some .int) 4 := ⟨tb2 182 (by decide +kernel) (by decide +kernel), tb1 1 (by decide +kernel) (by decide +kernel), kcFa_take, by decide +kernel, by decide +kernel, by decide +kernel⟩
theorem kmLa_26 : Lk tbl RLa 26 yMo_take bMo_take 7 (some .int) 4 := ⟨tb3 164 (by decide +kernel) (by decide +kernel), tb1 7 (by decide +kernel) (by decide +kernel), kcMo_take, by decide +kernel, by decide +kernel, by decide +kernel⟩
theorem kmLa_27 : Lk tbl RLa 27 yFa_cut bFa_cut 2 (some .boolean) 1 := ⟨tb2 220 (by decide +kernel) (by decide +kernel), tb1 1 (by decide +kernel) (by decide +kernel), kcFa_cut, by decide +kernel, by decide +kernel, by decide +kernel⟩
theorem kmLa_31 : Lk tbl RLa 31 yMo_cut bMo_cut 2 (some .boolean) 1 := ⟨tb3 176 (by decide +kernel) (by decide +kernel), tb1 7 (by decide +kernel) (by decide +kernel), kcMo_cut, by decide +kernel, by decide +kernel, by decide +kernel⟩
theorem kmLa_32 : Lk tbl RLa 32 yFa_stop bFa_stop 1 (some .boolean) 0 := ⟨tb2 224 (by decide +kernel) (by decide +kernel), tb1 1 (by decide +kernel) (by decide +kernel), kcFa_stop, by decide +kernel, by decide +kernel, by decide +kernel⟩
theorem kmLa_36 : Lk tbl RLa 36 yMo_stop bMo_stop 1 (some .boolean) 0 := ⟨tb3 180 (by decide +kernel) (by decide +kernel), tb1 7 (by decide +kernel) (by decide +kernel), kcMo_stop, by decide +kernel, by decide +kernel, by decide +kernel⟩
theorem kmLa_37 : Lk tbl RLa 37 yFa_start bFa_start 1 (some .boolean) 0 := ⟨tb2 228 (by decide +kernel) (by decide +kernel), tb1 1 (by decide +kernel) (by decide +kernel), kcFa_start, by decide +kernel, by decide +kernel, by decide +kernel⟩
theorem kmLa_40 : Lk tbl RLa 40 yMo_start bMo_start 1 (some .boolean) 0 := ⟨tb3 184 (by decide +kernel) (by decide +kernel), tb1 7 (by decide +kernel) (by decide +kernel), kcMo_start, by decide +kernel, by decide +kernel, by decide +kernel⟩
theorem kmLa_41 : Lk tbl RLa 41 yFa_up bFa_up 1 (some .boolean) 0 := ⟨tb3 7 (by decide +kernel) (by decide +kernel), tb1 1 (by decide +kernel) (by decide +kernel), kcFa_up, by decide +kernel, by decide +kernel, by decide +kernel⟩
theorem kmLa_44 : Lk tbl RLa 44 yMo_up bMo_up 1 (some .boolean) 0 := ⟨tb3 188 (by decide +kernel) (by decide +kernel), tb1 7 (by decide +kernel) (by decide +kernel), kcMo_up, by decide +kernel, by decide +kernel, by decide +kernel⟩
theorem kmLa_45 : Lk tbl RLa 45 yFa_size bFa_size 1 (some .int) 0 := ⟨tb3 11 (by decide +kernel) (by decide +kernel), tb1 1 (by decide +kernel) (by decide +kernel), kcFa_size, by decide +kernel, by decide +kernel, by decide +kernel⟩
theorem kmLa_49 : Lk tbl RLa 49 yMo_size bMo_size 1 (some .int) 0 := ⟨tb3 192 (by decide +kernel) (by decide +kernel), tb1 7 (by decide +kernel) (by decide +kernel), kcMo_size, by decide +kernel, by decide +kernel, by decide +kernel⟩
theorem kmLa_50 : Lk tbl RLa 50 yFa_count bFa_count 5 (some .int) 4 := ⟨tb3 15 (by decide +kernel) (by decide +kernel), tb1 1 (by decide +kernel) (by decide +kernel), kcFa_count, by decide +kernel, by decide +kernel, by decide +kernel⟩
theorem kmLa_53 : Lk tbl RLa 53 yMo_count bMo_count 7 (some .int) 4 := ⟨tb3 196 (by decide +kernel) (by decide +kernel), tb1 7 (by decide +kernel) (by decide +kernel), kcMo_count, by decide +kernel, by decide +kernel, by decide +kernel⟩
theorem kmLa_54 : Lk tbl RLa 54 yFa_within bFa_within 5 (some .int) 4 := ⟨tb3 28 (by decide +kernel) (by decide +kernel), tb1 1 (by decide +kernel) (by decide +kernel), kcFa_within, by decide +kernel, by decide +kernel, by decide +kernel⟩
theorem kmLa_57 : Lk tbl RLa 57 yMo_within bMo_within 7 (some .int) 4 := ⟨tb3 200 (by decide +kernel) (by decide +kernel), tb1 7 (by decide +kernel) (by decide +kernel), kcMo_within, by decide +kernel, by decide +kernel, by decide +kernel⟩
theorem kmLa_58 : Lk tbl RLa 58 yFa_pick bFa_pick 6 (some .int) 5 := ⟨tb3 37 (by decide +kernel) (by decide +kernel), tb1 1 (by decide +kernel) (by decide +kernel), kcFa_pick, by decide +kernel, by decide +kernel, by decide +kernel⟩
theorem kmLa_61 : Lk tbl RLa 61 yMo_pick bMo_pick 7 (some .int) 5 := ⟨tb3 204 (by decide +kernel) (by decide +kernel), tb1 7 (by decide +kernel) (by decide +kernel), kcMo_pick, by decide +kernel, by decide +kernel, by decide +kernel⟩
theorem kmLa_62 : Lk tbl RLa 62 yFa_distance bFa_distance 3 (some .long) 2 := ⟨tb3 41 (by decide +kernel) (by decide +kernel), tb1 1 (by decide +kernel) (by decide +kernel), kcFa_distance, by decide +kernel, by decide +kernel, by decide +kernel⟩
theorem kmLa_66 : Lk tbl RLa 66 yMo_distance bMo_distance 4 (some .long) 2 := ⟨tb3 208 (by decide +kernel) (by decide +kernel), tb1 7 (by decide +kernel) (by decide +kernel), kcMo_distance, by decide +kernel, by decide +kernel, by decide +kernel⟩
theorem kmLa_67 : Lk tbl RLa 67 yFa_nearest bFa_nearest 3 (some .int) 2 := ⟨tb3 72 (by decide +kernel) (by decide +kernel), tb1 1 (by decide +kernel) (by decide +kernel), kcFa_nearest, by decide +kernel, by decide +kernel, by decide +kernel⟩
theorem kmLa_71 : Lk tbl RLa 71 yMo_nearest bMo_nearest 4 (some .int) 2 := ⟨tb3 225 (by decide +kernel) (by decide +kernel), tb1 7 (by decide +kernel) (by decide +kernel), kcMo_nearest, by decide +kernel, by decide +kernel, by decide +kernel⟩
theorem kmLa_72 : Lk tbl RLa 72 yFa_around bFa_around 2 (some .int) 1 := ⟨tb3 76 (by decide +kernel) (by decide +kernel), tb1 1 (by decide +kernel) (by decide +kernel), kcFa_around, by decide +kernel, by decide +kernel, by decide +kernel⟩
theorem kmLa_76 : Lk tbl RLa 76 yMo_around bMo_around 5 (some .int) 1 := ⟨tb3 229 (by decide +kernel) (by decide +kernel), tb1 7 (by decide +kernel) (by decide +kernel), kcMo_around, by decide +kernel, by decide +kernel, by decide +kernel⟩
theorem kmLa_77 : Lk tbl RLa 77 yFa_sound bFa_sound 1 (some .boolean) 0 := ⟨tb3 83 (by decide +kernel) (by decide +kernel), tb1 1 (by decide +kernel) (by decide +kernel), kcFa_sound, by decide +kernel, by decide +kernel, by decide +kernel⟩
theorem kmLa_80 : Lk tbl RLa 80 yMo_sound bMo_sound 1 (some .boolean) 0 := ⟨tb3 234 (by decide +kernel) (by decide +kernel), tb1 7 (by decide +kernel) (by decide +kernel), kcMo_sound, by decide +kernel, by decide +kernel, by decide +kernel⟩
theorem kmLa_81 : Lk tbl RLa 81 yFa_frugal bFa_frugal 1 (some .boolean) 0 := ⟨tb3 94 (by decide +kernel) (by decide +kernel), tb1 1 (by decide +kernel) (by decide +kernel), kcFa_frugal, by decide +kernel, by decide +kernel, by decide +kernel⟩
theorem kmLa_84 : Lk tbl RLa 84 yMo_frugal bMo_frugal 1 (some .boolean) 0 := ⟨tb3 238 (by decide +kernel) (by decide +kernel), tb1 7 (by decide +kernel) (by decide +kernel), kcMo_frugal, by decide +kernel, by decide +kernel, by decide +kernel⟩
theorem kmMo_23 : Lk tbl RMo 23 yMo_far bMo_far 1 (some .boolean) 1 := ⟨tb3 127 (by decide +kernel) (by decide +kernel), tb1 7 (by decide +kernel) (by decide +kernel), kcMo_far, by decide +kernel, by decide +kernel, by decide +kernel⟩
theorem kmMo_27 : Lk tbl RMo 27 yMo_part bMo_part 3 (some .int) 2 := ⟨tb3 144 (by decide +kernel) (by decide +kernel), tb1 7 (by decide +kernel) (by decide +kernel), kcMo_part, by decide +kernel, by decide +kernel, by decide +kernel⟩
theorem kmMo_31 : Lk tbl RMo 31 yMo_badName bMo_badName 1 (some .boolean) 1 := ⟨tb3 121 (by decide +kernel) (by decide +kernel), tb1 7 (by decide +kernel) (by decide +kernel), kcMo_badName, by decide +kernel, by decide +kernel, by decide +kernel⟩
theorem kmMo_34 : Lk tbl RMo 34 yMo_bad bMo_bad 4 (some .boolean) 4 := ⟨tb3 124 (by decide +kernel) (by decide +kernel), tb1 7 (by decide +kernel) (by decide +kernel), kcMo_bad, by decide +kernel, by decide +kernel, by decide +kernel⟩
theorem kmMo_41 : Lk tbl RMo 41 yMo_counts bMo_counts 1 (some .boolean) 0 := ⟨tb3 132 (by decide +kernel) (by decide +kernel), tb1 7 (by decide +kernel) (by decide +kernel), kcMo_counts, by decide +kernel, by decide +kernel, by decide +kernel⟩
theorem kmMo_45 : Lk tbl RMo 45 yMo_set bMo_set 4 none 3 := ⟨tb3 136 (by decide +kernel) (by decide +kernel), tb1 7 (by decide +kernel) (by decide +kernel), kcMo_set, by decide +kernel, by decide +kernel, by decide +kernel⟩
theorem kmMo_49 : Lk tbl RMo 49 yMo_before bMo_before 4 (some .boolean) 2 := ⟨tb3 140 (by decide +kernel) (by decide +kernel), tb1 7 (by decide +kernel) (by decide +kernel), kcMo_before, by decide +kernel, by decide +kernel, by decide +kernel⟩
theorem kmMo_53 : Lk tbl RMo 53 yMo_ended bMo_ended 2 (some .int) 1 := ⟨tb3 148 (by decide +kernel) (by decide +kernel), tb1 7 (by decide +kernel) (by decide +kernel), kcMo_ended, by decide +kernel, by decide +kernel, by decide +kernel⟩
theorem kmMo_57 : Lk tbl RMo 57 yMo_is bMo_is 6 (some .boolean) 5 := ⟨tb3 156 (by decide +kernel) (by decide +kernel), tb1 7 (by decide +kernel) (by decide +kernel), kcMo_is, by decide +kernel, by decide +kernel, by decide +kernel⟩
theorem kmMo_61 : Lk tbl RMo 61 yMo_remove bMo_remove 3 none 1 := ⟨tb3 160 (by decide +kernel) (by decide +kernel), tb1 7 (by decide +kernel) (by decide +kernel), kcMo_remove, by decide +kernel, by decide +kernel, by decide +kernel⟩
theorem kmMo_65 : Lk tbl RMo 65 yMo_meets bMo_meets 6 (some .boolean) 5 := ⟨tb3 172 (by decide +kernel) (by decide +kernel), tb1 7 (by decide +kernel) (by decide +kernel), kcMo_meets, by decide +kernel, by decide +kernel, by decide +kernel⟩
theorem kmMo_68 : Lk tbl RMo 68 yMo_meeting bMo_meeting 8 (some .int) 5 := ⟨tb3 168 (by decide +kernel) (by decide +kernel), tb1 7 (by decide +kernel) (by decide +kernel), kcMo_meeting, by decide +kernel, by decide +kernel, by decide +kernel⟩
theorem kmMo_72 : Lk tbl RMo 72 yMo_off bMo_off 3 (some .long) 3 := ⟨tb3 221 (by decide +kernel) (by decide +kernel), tb1 7 (by decide +kernel) (by decide +kernel), kcMo_off, by decide +kernel, by decide +kernel, by decide +kernel⟩
theorem kmMo_76 : Lk tbl RMo 76 yMo_farFrom bMo_farFrom 8 (some .long) 3 := ⟨tb3 217 (by decide +kernel) (by decide +kernel), tb1 7 (by decide +kernel) (by decide +kernel), kcMo_farFrom, by decide +kernel, by decide +kernel, by decide +kernel⟩
theorem kmMo_81 : Lk tbl RMo 81 yMo_nearestOne bMo_nearestOne 5 (some .int) 2 := ⟨tb3 213 (by decide +kernel) (by decide +kernel), tb1 7 (by decide +kernel) (by decide +kernel), kcMo_nearestOne, by decide +kernel, by decide +kernel, by decide +kernel⟩
end
section
/-! THE STATE. The class's world: cell 0 the face, 1 the disk, 2 the tree, 3 the search, 4 asked, 5 and 6 the tree's frame and rest, 7 and 8 the search's closest and frame, 9 the array of pages, 10 trail, 11 turns, 12 places, 13 log, 14 loggedPage, 15 found, 16 waiting, 17 squares, 18 looked, 19 + p page p, 59 + p its array of boxes, 99 + r place r, 139 + r log row r, 179 + h found box h, 219 + 6 p + j box j of page p. -/
def YB (Y : Yt) : Prop := yO Y ∧ yC Y = cls
def FBo (_ : Yt) (_ : Nat) : (Nat → Int32) → (Nat → Int64) → List Value := fun m _ => [.int (m 0), .int (m 1), .int (m 2), .int (m 3), .int (m 4)]
def FDi (Y : Yt) (_ : Nat) : (Nat → Int32) → (Nat → Int64) → List Value := fun m _ => [.ref (ad Y 12), .ref (ad Y 13), .ref (ad Y 14), .int (m 3), .int (m 4)]
def FPa (Y : Yt) (i : Nat) : (Nat → Int32) → (Nat → Int64) → List Value := fun m _ => [.int (m 0), .int (m 1), .int (m 2), .ref (ad Y (i + 40))]
def FSe (Y : Yt) (_ : Nat) : (Nat → Int32) → (Nat → Int64) → List Value := fun m lm => [.ref (ad Y 15), .int (m 1), .ref (ad Y 7), .long (lm 3), .ref (ad Y 16), .ref (ad Y 17), .int (m 6), .ref (ad Y 18), .int (m 8), .ref (ad Y 8)]
def FTr (Y : Yt) (_ : Nat) : (Nat → Int32) → (Nat → Int64) → List Value := fun m _ => [.int (m 0), .int (m 1), .int (m 2), .ref (ad Y 9), .ref (ad Y 10), .ref (ad Y 11), .ref (ad Y 5), .ref (ad Y 6)]
def FFa (Y : Yt) (_ : Nat) : (Nat → Int32) → (Nat → Int64) → List Value := fun m _ => [.ref (ad Y 1), .ref (ad Y 2), .ref (ad Y 3), .ref (ad Y 4), .int (m 4), .int (m 5), .int (m 6)]
/-- the reference's world: cell 0 the object, 1 its array -/
def FMo (Y : Yt) (_ : Nat) : (Nat → Int32) → (Nat → Int64) → List Value := fun m _ => [.int (m 0), .int (m 1), .int (m 2), .ref (ad Y 1)]
abbrev isBo (Y : Yt) (i : Nat) : Prop := Ob Y i 0 (FBo Y i)
abbrev isDi (Y : Yt) (i : Nat) : Prop := Ob Y i 1 (FDi Y i)
abbrev isPa (Y : Yt) (i : Nat) : Prop := Ob Y i 2 (FPa Y i)
abbrev isSe (Y : Yt) (i : Nat) : Prop := Ob Y i 3 (FSe Y i)
abbrev isTr (Y : Yt) (i : Nat) : Prop := Ob Y i 4 (FTr Y i)
abbrev isFa (Y : Yt) (i : Nat) : Prop := Ob Y i 5 (FFa Y i)
abbrev isMo (Y : Yt) (i : Nat) : Prop := Ob Y i 6 (FMo Y i)
/-- a truth as the machine has it -/
def bI (p : Bool) : Int32 := if p then 1 else 0
theorem bI_z (p : Bool) : narrow .boolean (.int (bI p)) = .int (bI p) := by cases p <;> decide
theorem bI_f (p : Bool) : fits .boolean (.int (bI p)) = true := by cases p <;> decide
theorem bI_0 {p : Bool} : bI p = 0 ↔ p = false := by cases p <;> decide
theorem bI_n {p : Bool} : ¬ bI p = 0 ↔ p = true := by cases p <;> decide
theorem bI_t {p : Bool} (h : p = true) : (1 : Int32) = bI p := by rw [h]; rfl
theorem bI_ff {p : Bool} (h : p = false) : (0 : Int32) = bI p := by rw [h]; rfl
def mxI (x y : Int32) : Int32 := if x < y then y else x
def mnI (x y : Int32) : Int32 := if y < x then y else x
theorem mi_ma : Cond.initialized "java/lang/Math" ∈ tbl := tb1 8 (by decide +kernel) (by decide +kernel)
theorem mc_max : Cond.code Lib.Math.max.name Lib.Math.max.code 2 (some .int) ∈ tbl := tb2 11 (by decide +kernel) (by decide +kernel)
theorem v_mmax {X : Xt} {Y : Yt} {n cells slots : Nat} {Q : State → Prop} {A : Nat → Prop} {I : Heap → Prop} {pc : Nat} {lv : List (Option Value)} {st : List Value} {l : Launch} {rm : Room} {cc : ByteArray} {ret : Option FieldType} {own : String} {z : Cond} (C : VC X Y l rm cc n ret (z :: tbl) own) {idx : Nat} (hw : Cond.methodLink own idx Lib.Math.max.name ∈ tbl) (d : decode cc pc = .ok (.invokestatic idx, 3)) (hf : 1 ≤ rm.frames) (hlo : (st.map fun v => v.category).sum + 13 ≤ rm.locals) (hcs : cells ≤ rm.cells ∧ slots ≤ rm.slots) {x y : Int32} (kk : VG X A n cells slots Q I (pc + 3) lv (.int (mxI x y) :: st)) : VG X A n cells slots Q I pc lv (.int y :: .int x :: st) := by
  have hrm : xR X = rm := C.2.2.2.2.2.2.2.2.2.2
  have ht := C.2.2.2.2.1
  subst hrm
  intro H locs ls hI hS hl
  exact va_mmax C.1 C.2.1 (by rw [hl.1]; exact C.2.2.1) C.2.2.2.1 (ht _ (List.mem_cons_of_mem _ hw)) (ht _ (List.mem_cons_of_mem _ ktMa_max)) (ht _ (List.mem_cons_of_mem _ mi_ma)) (ht _ (List.mem_cons_of_mem _ mc_max)) hf hlo hcs.1 hcs.2 d (kk H locs ls hI hS hl)
theorem mc_min : Cond.code Lib.Math.min.name Lib.Math.min.code 2 (some .int) ∈ tbl := tb2 8 (by decide +kernel) (by decide +kernel)
theorem v_mmin {X : Xt} {Y : Yt} {n cells slots : Nat} {Q : State → Prop} {A : Nat → Prop} {I : Heap → Prop} {pc : Nat} {lv : List (Option Value)} {st : List Value} {l : Launch} {rm : Room} {cc : ByteArray} {ret : Option FieldType} {own : String} {z : Cond} (C : VC X Y l rm cc n ret (z :: tbl) own) {idx : Nat} (hw : Cond.methodLink own idx Lib.Math.min.name ∈ tbl) (d : decode cc pc = .ok (.invokestatic idx, 3)) (hf : 1 ≤ rm.frames) (hlo : (st.map fun v => v.category).sum + 13 ≤ rm.locals) (hcs : cells ≤ rm.cells ∧ slots ≤ rm.slots) {x y : Int32} (kk : VG X A n cells slots Q I (pc + 3) lv (.int (mnI x y) :: st)) : VG X A n cells slots Q I pc lv (.int y :: .int x :: st) := by
  have hrm : xR X = rm := C.2.2.2.2.2.2.2.2.2.2
  have ht := C.2.2.2.2.1
  subst hrm
  intro H locs ls hI hS hl
  exact va_mmin C.1 C.2.1 (by rw [hl.1]; exact C.2.2.1) C.2.2.2.1 (ht _ (List.mem_cons_of_mem _ hw)) (ht _ (List.mem_cons_of_mem _ ktMa_min)) (ht _ (List.mem_cons_of_mem _ mi_ma)) (ht _ (List.mem_cons_of_mem _ mc_min)) hf hlo hcs.1 hcs.2 d (kk H locs ls hI hS hl)
theorem v_eq {X : Xt} {A : Nat → Prop} {n cells slots : Nat} {Q : State → Prop} {I : Heap → Prop} {pc : Nat} {lv lv' : List (Option Value)} {st : List Value} (h : lv = lv') (k : VG X A n cells slots Q I pc lv' st) : VG X A n cells slots Q I pc lv st := h ▸ k
/-- a local that is no longer needed -/
theorem v_drop {X : Xt} {A : Nat → Prop} {n cells slots : Nat} {Q : State → Prop} {I : Heap → Prop} {pc : Nat} {lv lv' : List (Option Value)} {st : List Value} (i : Nat) (h : lv.set i none = lv') (k : VG X A n cells slots Q I pc lv' st) : VG X A n cells slots Q I pc lv st := by
  subst h
  refine v_lv (fun j v hj => ?_) k
  by_cases hji : j = i
  · subst hji
    by_cases hl : j < lv.length
    · rw [List.getElem?_set_self hl] at hj
      cases hj
    · rw [List.getElem?_eq_none (by simpa using Nat.le_of_not_lt hl)] at hj
      cases hj
  · rw [List.getElem?_set_ne (Ne.symm hji)] at hj
    exact hj
theorem v_st {X : Xt} {A : Nat → Prop} {n cells slots : Nat} {Q : State → Prop} {I : Heap → Prop} {pc : Nat} {lv : List (Option Value)} {st st' : List Value} (h : st = st') (k : VG X A n cells slots Q I pc lv st') : VG X A n cells slots Q I pc lv st := h ▸ k
theorem nI_2 (a : Nat) : nI a + 2 = nI (a + 2) := nI_add a 2
theorem nI_3 (a : Nat) : nI a + 3 = nI (a + 3) := nI_add a 3
theorem nI_4 (a : Nat) : nI a + 4 = nI (a + 4) := nI_add a 4
theorem ix5 : ∀ k, k < 5 → 2 + nI k * 5 = nI (2 + 5 * k) := by decide +kernel
theorem mm5 : ∀ u, u < 6 → mxI 0 (mnI (nI u) 5) = nI u := by decide +kernel
theorem i1 (k : Nat) : nI k + Int32.ofInt 1 = nI (k + 1) := nI_1 k
theorem im1 (x : Int32) : x + Int32.ofInt (-1) = x - 1 := by
  rw [Int32.sub_eq_add_neg]
  rfl
theorem v_tableOut {X : Xt} {A : Nat → Prop} {n cells slots : Nat} {Q : State → Prop} {I : Heap → Prop} {pc : Nat} {lv : List (Option Value)} {st : List Value} {cc : ByteArray} (B : VB X cc) {dflt lo hi : Int} {offs : Array Int} {len : Nat} {x : Int32} (t : Nat) (d : decode cc pc = .ok (.tableswitch dflt lo hi offs, len)) (h : x.toInt < lo ∨ hi < x.toInt) (ht : (pc : Int) + dflt = (t : Int)) (k : VG X A n cells slots Q I t lv st) : VG X A n cells slots Q I pc lv (.int x :: st) := fun H locs ls hI hS hl => lv_tableOut B.1 B.2 d h ht (k H locs ls hI hS hl)
theorem v_tableIn {X : Xt} {A : Nat → Prop} {n cells slots : Nat} {Q : State → Prop} {I : Heap → Prop} {pc : Nat} {lv : List (Option Value)} {st : List Value} {cc : ByteArray} (B : VB X cc) {dflt lo hi : Int} {offs : Array Int} {len : Nat} {x : Int32} {off : Int} (t : Nat) (d : decode cc pc = .ok (.tableswitch dflt lo hi offs, len)) (h1 : ¬ x.toInt < lo) (h2 : ¬ hi < x.toInt) (ho : offs[(x.toInt - lo).toNat]? = some off) (ht : (pc : Int) + off = (t : Int)) (k : VG X A n cells slots Q I t lv st) : VG X A n cells slots Q I pc lv (.int x :: st) := fun H locs ls hI hS hl => lv_tableIn B.1 B.2 d h1 h2 ho ht (k H locs ls hI hS hl)
end
section
/-! BOXES: a box is its five ints. -/
def meetB (a b : Nat → Int32) : Bool := decide (a 0 ≤ b 2) && (decide (b 0 ≤ a 2) && (decide (a 1 ≤ b 3) && decide (b 1 ≤ a 3)))
def holdB (a b : Nat → Int32) : Bool := decide (a 0 ≤ b 0) && (decide (b 2 ≤ a 2) && (decide (a 1 ≤ b 1) && decide (b 3 ≤ a 3)))
def sameB (a b : Nat → Int32) : Bool := decide (a 0 = b 0) && (decide (a 1 = b 1) && (decide (a 2 = b 2) && (decide (a 3 = b 3) && decide (a 4 = b 4))))
def precB (a b : Nat → Int32) : Bool := if a 0 = b 0 then (if a 1 = b 1 then (if a 2 = b 2 then (if a 3 = b 3 then decide (a 4 < b 4) else decide (a 3 < b 3)) else decide (a 2 < b 2)) else decide (a 1 < b 1)) else decide (a 0 < b 0)
def areaB (a : Nat → Int32) : Int64 := ((a 2).toInt64 - (a 0).toInt64) * ((a 3).toInt64 - (a 1).toInt64)
def rimB (a : Nat → Int32) : Int64 := ((a 2).toInt64 - (a 0).toInt64) + ((a 3).toInt64 - (a 1).toInt64)
def withB (a b : Nat → Int32) : Int64 := ((mxI (a 2) (b 2)).toInt64 - (mnI (a 0) (b 0)).toInt64) * ((mxI (a 3) (b 3)).toInt64 - (mnI (a 1) (b 1)).toInt64)
def offB (x lo hi : Int32) : Int64 := if x < lo then lo.toInt64 - x.toInt64 else if hi < x then x.toInt64 - hi.toInt64 else 0
def sqB (a : Nat → Int32) (x y : Int32) : Int64 := offB x (a 0) (a 2) * offB x (a 0) (a 2) + offB y (a 1) (a 3) * offB y (a 1) (a 3)
/-- the memory behind assign, become, shrinkToNothing, widen -/
def asg (μ : Mu) (i : Nat) (a b c d e : Int32) : Mu := wi (wi (wi (wi (wi μ i 0 a) i 1 b) i 2 c) i 3 d) i 4 e
def bec (μ : Mu) (i j : Nat) : Mu := asg μ i (μ.1 j 0) (μ.1 j 1) (μ.1 j 2) (μ.1 j 3) (μ.1 j 4)
def shr (μ : Mu) (i : Nat) : Mu := wi (wi (wi (wi μ i 0 2000000000) i 1 2000000000) i 2 (-2000000000)) i 3 (-2000000000)
def wid (μ : Mu) (i j : Nat) : Mu := wi (wi (wi (wi μ i 0 (mnI (μ.1 i 0) (μ.1 j 0))) i 1 (mnI (μ.1 i 1) (μ.1 j 1))) i 2 (mxI (μ.1 i 2) (μ.1 j 2))) i 3 (mxI (μ.1 i 3) (μ.1 j 3))
/-- what a write leaves -/
theorem wi_at (μ : Mu) (i k : Nat) (x : Int32) (j q : Nat) : (wi μ i k x).1 j q = if j = i ∧ q = k then x else μ.1 j q := by
  by_cases h : j = i
  · subst h
    rw [wi_self]
    by_cases h2 : q = k <;> simp [upd, h2]
  · rw [wi_ne μ k x h]
    simp [h]
theorem wi_l (μ : Mu) (i k : Nat) (x : Int32) : (wi μ i k x).2 = μ.2 := rfl
theorem wi_q (μ : Mu) (i k : Nat) (x : Int32) (j q : Nat) (h : q ≠ k) : (wi μ i k x).1 j q = μ.1 j q := by rw [wi_at]; simp [h]
set_option maxHeartbeats 4000000 in
set_option maxRecDepth 100000 in
theorem cBo_assign {l : Launch} {Y : Yt} (hY : YB Y) {i : Nat} (hi : isBo Y i) (a b c d e : Int32) (μ : Mu) : Ct l Y yBo_assign wBo_assign ({ frames := 0, cells := 0, slots := 0, locals := 0 }) [.ref (ad Y i), .int a, .int b, .int c, .int d, .int e] μ (PE none (asg μ i a b c d e)) := by
  refine ct_of hY.1 (by decide) rfl (Nat.le_of_ble_eq_true rfl) (lv := [some (.ref (ad Y i)), some (.int a), some (.int b), some (.int c), some (.int d), some (.int e)]) rfl (fun X hC => ?_)
  have hB := hC.B
  refine v_aload_n hB dBo_assign_0 rfl ?_
  refine v_iload_n hB dBo_assign_1 rfl ?_
  refine v_puti hC (klBo hY.2) (F := FBo Y _) (by assumption) 0 dBo_assign_2 kfBo_9 (by decide) rfl rfl rfl (fun _ _ => rfl) (fun _ _ => Nat.le_of_ble_eq_true rfl) ?_
  refine v_aload_n hB dBo_assign_5 rfl ?_
  refine v_iload_n hB dBo_assign_6 rfl ?_
  refine v_puti hC (klBo hY.2) (F := FBo Y _) (by assumption) 1 dBo_assign_7 kfBo_15 (by decide) rfl rfl rfl (fun _ _ => rfl) (fun _ _ => Nat.le_of_ble_eq_true rfl) ?_
  refine v_aload_n hB dBo_assign_10 rfl ?_
  refine v_iload_n hB dBo_assign_11 rfl ?_
  refine v_puti hC (klBo hY.2) (F := FBo Y _) (by assumption) 2 dBo_assign_12 kfBo_18 (by decide) rfl rfl rfl (fun _ _ => rfl) (fun _ _ => Nat.le_of_ble_eq_true rfl) ?_
  refine v_aload_n hB dBo_assign_15 rfl ?_
  refine v_iload hB dBo_assign_16 rfl ?_
  refine v_puti hC (klBo hY.2) (F := FBo Y _) (by assumption) 3 dBo_assign_18 kfBo_21 (by decide) rfl rfl rfl (fun _ _ => rfl) (fun _ _ => Nat.le_of_ble_eq_true rfl) ?_
  refine v_aload_n hB dBo_assign_21 rfl ?_
  refine v_iload hB dBo_assign_22 rfl ?_
  refine v_puti hC (klBo hY.2) (F := FBo Y _) (by assumption) 4 dBo_assign_24 kfBo_24 (by decide) rfl rfl rfl (fun _ _ => rfl) (fun _ _ => Nat.le_of_ble_eq_true rfl) ?_
  exact v_vret hC rfl dBo_assign_27 ⟨rfl, rfl⟩

set_option maxHeartbeats 4000000 in
set_option maxRecDepth 100000 in
theorem cBo_become {l : Launch} {Y : Yt} (hY : YB Y) {i j : Nat} (hi : isBo Y i) (hj : isBo Y j) (μ : Mu) : Ct l Y yBo_become wBo_become ({ frames := 0, cells := 0, slots := 0, locals := 0 }) [.ref (ad Y i), .ref (ad Y j)] μ (PE none (bec μ i j)) := by
  refine ct_of hY.1 (by decide) rfl (Nat.le_of_ble_eq_true rfl) (lv := [some (.ref (ad Y i)), some (.ref (ad Y j))]) rfl (fun X hC => ?_)
  have hB := hC.B
  refine v_aload_n hB dBo_become_0 rfl ?_
  refine v_aload_n hB dBo_become_1 rfl ?_
  refine v_get hC (klBo hY.2) (F := FBo Y _) (by assumption) 0 dBo_become_2 kfBo_9 (by decide) rfl ?_
  refine v_puti hC (klBo hY.2) (F := FBo Y _) (by assumption) 0 dBo_become_5 kfBo_9 (by decide) rfl rfl rfl (fun _ _ => rfl) (fun _ _ => Nat.le_of_ble_eq_true rfl) ?_
  refine v_aload_n hB dBo_become_8 rfl ?_
  refine v_aload_n hB dBo_become_9 rfl ?_
  refine v_get hC (klBo hY.2) (F := FBo Y _) (by assumption) 1 dBo_become_10 kfBo_15 (by decide) rfl ?_
  refine v_puti hC (klBo hY.2) (F := FBo Y _) (by assumption) 1 dBo_become_13 kfBo_15 (by decide) rfl rfl rfl (fun _ _ => rfl) (fun _ _ => Nat.le_of_ble_eq_true rfl) ?_
  refine v_aload_n hB dBo_become_16 rfl ?_
  refine v_aload_n hB dBo_become_17 rfl ?_
  refine v_get hC (klBo hY.2) (F := FBo Y _) (by assumption) 2 dBo_become_18 kfBo_18 (by decide) rfl ?_
  refine v_puti hC (klBo hY.2) (F := FBo Y _) (by assumption) 2 dBo_become_21 kfBo_18 (by decide) rfl rfl rfl (fun _ _ => rfl) (fun _ _ => Nat.le_of_ble_eq_true rfl) ?_
  refine v_aload_n hB dBo_become_24 rfl ?_
  refine v_aload_n hB dBo_become_25 rfl ?_
  refine v_get hC (klBo hY.2) (F := FBo Y _) (by assumption) 3 dBo_become_26 kfBo_21 (by decide) rfl ?_
  refine v_puti hC (klBo hY.2) (F := FBo Y _) (by assumption) 3 dBo_become_29 kfBo_21 (by decide) rfl rfl rfl (fun _ _ => rfl) (fun _ _ => Nat.le_of_ble_eq_true rfl) ?_
  refine v_aload_n hB dBo_become_32 rfl ?_
  refine v_aload_n hB dBo_become_33 rfl ?_
  refine v_get hC (klBo hY.2) (F := FBo Y _) (by assumption) 4 dBo_become_34 kfBo_24 (by decide) rfl ?_
  refine v_puti hC (klBo hY.2) (F := FBo Y _) (by assumption) 4 dBo_become_37 kfBo_24 (by decide) rfl rfl rfl (fun _ _ => rfl) (fun _ _ => Nat.le_of_ble_eq_true rfl) ?_
  exact v_vret hC rfl dBo_become_40 ⟨rfl, by simp only [bec, asg, wi_at]; simp⟩

set_option maxHeartbeats 4000000 in
set_option maxRecDepth 100000 in
theorem cBo_shrinkToNothing {l : Launch} {Y : Yt} (hY : YB Y) {i : Nat} (hi : isBo Y i) (μ : Mu) : Ct l Y yBo_shrinkToNothing wBo_shrinkToNothing ({ frames := 0, cells := 0, slots := 0, locals := 0 }) [.ref (ad Y i)] μ (PE none (shr μ i)) := by
  refine ct_of hY.1 (by decide) rfl (Nat.le_of_ble_eq_true rfl) (lv := [some (.ref (ad Y i))]) rfl (fun X hC => ?_)
  have hB := hC.B
  refine v_aload_n hB dBo_shrinkToNothing_0 rfl ?_
  refine v_ldc hC (v := 2000000000) kfBo_27 dBo_shrinkToNothing_1 ?_
  refine v_puti hC (klBo hY.2) (F := FBo Y _) (by assumption) 0 dBo_shrinkToNothing_3 kfBo_9 (by decide) rfl rfl rfl (fun _ _ => rfl) (fun _ _ => Nat.le_of_ble_eq_true rfl) ?_
  refine v_aload_n hB dBo_shrinkToNothing_6 rfl ?_
  refine v_ldc hC (v := 2000000000) kfBo_27 dBo_shrinkToNothing_7 ?_
  refine v_puti hC (klBo hY.2) (F := FBo Y _) (by assumption) 1 dBo_shrinkToNothing_9 kfBo_15 (by decide) rfl rfl rfl (fun _ _ => rfl) (fun _ _ => Nat.le_of_ble_eq_true rfl) ?_
  refine v_aload_n hB dBo_shrinkToNothing_12 rfl ?_
  refine v_ldc hC (v := -2000000000) kfBo_28 dBo_shrinkToNothing_13 ?_
  refine v_puti hC (klBo hY.2) (F := FBo Y _) (by assumption) 2 dBo_shrinkToNothing_15 kfBo_18 (by decide) rfl rfl rfl (fun _ _ => rfl) (fun _ _ => Nat.le_of_ble_eq_true rfl) ?_
  refine v_aload_n hB dBo_shrinkToNothing_18 rfl ?_
  refine v_ldc hC (v := -2000000000) kfBo_28 dBo_shrinkToNothing_19 ?_
  refine v_puti hC (klBo hY.2) (F := FBo Y _) (by assumption) 3 dBo_shrinkToNothing_21 kfBo_21 (by decide) rfl rfl rfl (fun _ _ => rfl) (fun _ _ => Nat.le_of_ble_eq_true rfl) ?_
  exact v_vret hC rfl dBo_shrinkToNothing_24 ⟨rfl, rfl⟩

set_option maxHeartbeats 4000000 in
set_option maxRecDepth 100000 in
theorem cBo_widen {l : Launch} {Y : Yt} (hY : YB Y) {i j : Nat} (hi : isBo Y i) (hj : isBo Y j) (μ : Mu) : Ct l Y yBo_widen wBo_widen ({ frames := 0, cells := 0, slots := 0, locals := 0 }) [.ref (ad Y i), .ref (ad Y j)] μ (PE none (wid μ i j)) := by
  refine ct_of hY.1 (by decide) rfl (Nat.le_of_ble_eq_true rfl) (lv := [some (.ref (ad Y i)), some (.ref (ad Y j))]) rfl (fun X hC => ?_)
  have hB := hC.B
  have key : ∀ v, v = mnI (μ.1 i 0) (μ.1 j 0) → VG X (yA Y) 2 0 0 (VQ X Y (PE none (wid μ i j))) (yI Y (μ)) 23 [some (.ref (ad Y i)), some (.ref (ad Y j))] [.int v, .ref (ad Y i)] := by
    intro v hv
    subst hv
    refine v_puti hC (klBo hY.2) (F := FBo Y _) (by assumption) 0 dBo_widen_23 kfBo_9 (by decide) rfl rfl rfl (fun _ _ => rfl) (fun _ _ => Nat.le_of_ble_eq_true rfl) ?_
    have key : ∀ v, v = mnI (μ.1 i 1) (μ.1 j 1) → VG X (yA Y) 2 0 0 (VQ X Y (PE none (wid μ i j))) (yI Y (wi (μ) i 0 (mnI (μ.1 i 0) (μ.1 j 0)))) 49 [some (.ref (ad Y i)), some (.ref (ad Y j))] [.int v, .ref (ad Y i)] := by
      intro v hv
      subst hv
      refine v_puti hC (klBo hY.2) (F := FBo Y _) (by assumption) 1 dBo_widen_49 kfBo_15 (by decide) rfl rfl rfl (fun _ _ => rfl) (fun _ _ => Nat.le_of_ble_eq_true rfl) ?_
      have key : ∀ v, v = mxI (μ.1 i 2) (μ.1 j 2) → VG X (yA Y) 2 0 0 (VQ X Y (PE none (wid μ i j))) (yI Y (wi (wi (μ) i 0 (mnI (μ.1 i 0) (μ.1 j 0))) i 1 (mnI (μ.1 i 1) (μ.1 j 1)))) 75 [some (.ref (ad Y i)), some (.ref (ad Y j))] [.int v, .ref (ad Y i)] := by
        intro v hv
        subst hv
        refine v_puti hC (klBo hY.2) (F := FBo Y _) (by assumption) 2 dBo_widen_75 kfBo_18 (by decide) rfl rfl rfl (fun _ _ => rfl) (fun _ _ => Nat.le_of_ble_eq_true rfl) ?_
        have key : ∀ v, v = mxI (μ.1 i 3) (μ.1 j 3) → VG X (yA Y) 2 0 0 (VQ X Y (PE none (wid μ i j))) (yI Y (wi (wi (wi (μ) i 0 (mnI (μ.1 i 0) (μ.1 j 0))) i 1 (mnI (μ.1 i 1) (μ.1 j 1))) i 2 (mxI (μ.1 i 2) (μ.1 j 2)))) 101 [some (.ref (ad Y i)), some (.ref (ad Y j))] [.int v, .ref (ad Y i)] := by
          intro v hv
          subst hv
          refine v_puti hC (klBo hY.2) (F := FBo Y _) (by assumption) 3 dBo_widen_101 kfBo_21 (by decide) rfl rfl rfl (fun _ _ => rfl) (fun _ _ => Nat.le_of_ble_eq_true rfl) ?_
          exact v_vret hC rfl dBo_widen_104 ⟨rfl, rfl⟩
        refine v_aload_n hB dBo_widen_78 rfl ?_
        refine v_aload_n hB dBo_widen_79 rfl ?_
        refine v_get hC (klBo hY.2) (F := FBo Y _) (by assumption) 3 dBo_widen_80 kfBo_21 (by decide) rfl ?_
        refine v_aload_n hB dBo_widen_83 rfl ?_
        refine v_get hC (klBo hY.2) (F := FBo Y _) (by assumption) 3 dBo_widen_84 kfBo_21 (by decide) rfl ?_
        refine v_icmp_le hB 97 dBo_widen_87 (by decide) (fun c => ?_) (fun c => ?_)
        · refine v_aload_n hB dBo_widen_97 rfl ?_
          refine v_get hC (klBo hY.2) (F := FBo Y _) (by assumption) 3 dBo_widen_98 kfBo_21 (by decide) rfl ?_
          refine key _ ?_
          try simp only [wi_at] at c ⊢
          try simp at c ⊢
          rw [mxI, if_neg (Int32.not_lt.mpr c)]
        · refine v_aload_n hB dBo_widen_90 rfl ?_
          refine v_get hC (klBo hY.2) (F := FBo Y _) (by assumption) 3 dBo_widen_91 kfBo_21 (by decide) rfl ?_
          refine v_goto hB 101 dBo_widen_94 (by decide) ?_
          refine key _ ?_
          try simp only [wi_at] at c ⊢
          try simp at c ⊢
          rw [mxI, if_pos c]
      refine v_aload_n hB dBo_widen_52 rfl ?_
      refine v_aload_n hB dBo_widen_53 rfl ?_
      refine v_get hC (klBo hY.2) (F := FBo Y _) (by assumption) 2 dBo_widen_54 kfBo_18 (by decide) rfl ?_
      refine v_aload_n hB dBo_widen_57 rfl ?_
      refine v_get hC (klBo hY.2) (F := FBo Y _) (by assumption) 2 dBo_widen_58 kfBo_18 (by decide) rfl ?_
      refine v_icmp_le hB 71 dBo_widen_61 (by decide) (fun c => ?_) (fun c => ?_)
      · refine v_aload_n hB dBo_widen_71 rfl ?_
        refine v_get hC (klBo hY.2) (F := FBo Y _) (by assumption) 2 dBo_widen_72 kfBo_18 (by decide) rfl ?_
        refine key _ ?_
        try simp only [wi_at] at c ⊢
        try simp at c ⊢
        rw [mxI, if_neg (Int32.not_lt.mpr c)]
      · refine v_aload_n hB dBo_widen_64 rfl ?_
        refine v_get hC (klBo hY.2) (F := FBo Y _) (by assumption) 2 dBo_widen_65 kfBo_18 (by decide) rfl ?_
        refine v_goto hB 75 dBo_widen_68 (by decide) ?_
        refine key _ ?_
        try simp only [wi_at] at c ⊢
        try simp at c ⊢
        rw [mxI, if_pos c]
    refine v_aload_n hB dBo_widen_26 rfl ?_
    refine v_aload_n hB dBo_widen_27 rfl ?_
    refine v_get hC (klBo hY.2) (F := FBo Y _) (by assumption) 1 dBo_widen_28 kfBo_15 (by decide) rfl ?_
    refine v_aload_n hB dBo_widen_31 rfl ?_
    refine v_get hC (klBo hY.2) (F := FBo Y _) (by assumption) 1 dBo_widen_32 kfBo_15 (by decide) rfl ?_
    refine v_icmp_ge hB 45 dBo_widen_35 (by decide) (fun c => ?_) (fun c => ?_)
    · refine v_aload_n hB dBo_widen_45 rfl ?_
      refine v_get hC (klBo hY.2) (F := FBo Y _) (by assumption) 1 dBo_widen_46 kfBo_15 (by decide) rfl ?_
      refine key _ ?_
      try simp only [wi_at] at c ⊢
      try simp at c ⊢
      rw [mnI, if_neg (Int32.not_lt.mpr c)]
    · refine v_aload_n hB dBo_widen_38 rfl ?_
      refine v_get hC (klBo hY.2) (F := FBo Y _) (by assumption) 1 dBo_widen_39 kfBo_15 (by decide) rfl ?_
      refine v_goto hB 49 dBo_widen_42 (by decide) ?_
      refine key _ ?_
      try simp only [wi_at] at c ⊢
      try simp at c ⊢
      rw [mnI, if_pos c]
  refine v_aload_n hB dBo_widen_0 rfl ?_
  refine v_aload_n hB dBo_widen_1 rfl ?_
  refine v_get hC (klBo hY.2) (F := FBo Y _) (by assumption) 0 dBo_widen_2 kfBo_9 (by decide) rfl ?_
  refine v_aload_n hB dBo_widen_5 rfl ?_
  refine v_get hC (klBo hY.2) (F := FBo Y _) (by assumption) 0 dBo_widen_6 kfBo_9 (by decide) rfl ?_
  refine v_icmp_ge hB 19 dBo_widen_9 (by decide) (fun c => ?_) (fun c => ?_)
  · refine v_aload_n hB dBo_widen_19 rfl ?_
    refine v_get hC (klBo hY.2) (F := FBo Y _) (by assumption) 0 dBo_widen_20 kfBo_9 (by decide) rfl ?_
    refine key _ ?_
    try simp only [wi_at] at c ⊢
    try simp at c ⊢
    rw [mnI, if_neg (Int32.not_lt.mpr c)]
  · refine v_aload_n hB dBo_widen_12 rfl ?_
    refine v_get hC (klBo hY.2) (F := FBo Y _) (by assumption) 0 dBo_widen_13 kfBo_9 (by decide) rfl ?_
    refine v_goto hB 23 dBo_widen_16 (by decide) ?_
    refine key _ ?_
    try simp only [wi_at] at c ⊢
    try simp at c ⊢
    rw [mnI, if_pos c]

set_option maxHeartbeats 4000000 in
set_option maxRecDepth 100000 in
theorem cBo_meets {l : Launch} {Y : Yt} (hY : YB Y) {i j : Nat} (hi : isBo Y i) (hj : isBo Y j) (μ : Mu) : Ct l Y yBo_meets wBo_meets ({ frames := 0, cells := 0, slots := 0, locals := 0 }) [.ref (ad Y i), .ref (ad Y j)] μ (PE (some (.int (bI (meetB (μ.1 i) (μ.1 j))))) μ) := by
  refine ct_of hY.1 (by decide) rfl (Nat.le_of_ble_eq_true rfl) (lv := [some (.ref (ad Y i)), some (.ref (ad Y j))]) rfl (fun X hC => ?_)
  have hB := hC.B
  refine v_aload_n hB dBo_meets_0 rfl ?_
  refine v_get hC (klBo hY.2) (F := FBo Y _) (by assumption) 0 dBo_meets_1 kfBo_9 (by decide) rfl ?_
  refine v_aload_n hB dBo_meets_4 rfl ?_
  refine v_get hC (klBo hY.2) (F := FBo Y _) (by assumption) 2 dBo_meets_5 kfBo_18 (by decide) rfl ?_
  refine v_icmp_gt hB 48 dBo_meets_8 (by decide) (fun c0 => ?_) (fun c0 => ?_)
  · refine v_iconst hB dBo_meets_48 (v := 0) (by decide) ?_
    exact v_zret hC rfl (by decide) dBo_meets_49 ⟨congrArg (fun x => some (Value.int x)) (bI_ff (by simp only [meetB]; simp [Int32.not_le.mpr c0])), rfl⟩
  refine v_aload_n hB dBo_meets_11 rfl ?_
  refine v_get hC (klBo hY.2) (F := FBo Y _) (by assumption) 0 dBo_meets_12 kfBo_9 (by decide) rfl ?_
  refine v_aload_n hB dBo_meets_15 rfl ?_
  refine v_get hC (klBo hY.2) (F := FBo Y _) (by assumption) 2 dBo_meets_16 kfBo_18 (by decide) rfl ?_
  refine v_icmp_gt hB 48 dBo_meets_19 (by decide) (fun c1 => ?_) (fun c1 => ?_)
  · refine v_iconst hB dBo_meets_48 (v := 0) (by decide) ?_
    exact v_zret hC rfl (by decide) dBo_meets_49 ⟨congrArg (fun x => some (Value.int x)) (bI_ff (by simp only [meetB]; simp [Int32.not_le.mpr c1])), rfl⟩
  refine v_aload_n hB dBo_meets_22 rfl ?_
  refine v_get hC (klBo hY.2) (F := FBo Y _) (by assumption) 1 dBo_meets_23 kfBo_15 (by decide) rfl ?_
  refine v_aload_n hB dBo_meets_26 rfl ?_
  refine v_get hC (klBo hY.2) (F := FBo Y _) (by assumption) 3 dBo_meets_27 kfBo_21 (by decide) rfl ?_
  refine v_icmp_gt hB 48 dBo_meets_30 (by decide) (fun c2 => ?_) (fun c2 => ?_)
  · refine v_iconst hB dBo_meets_48 (v := 0) (by decide) ?_
    exact v_zret hC rfl (by decide) dBo_meets_49 ⟨congrArg (fun x => some (Value.int x)) (bI_ff (by simp only [meetB]; simp [Int32.not_le.mpr c2])), rfl⟩
  refine v_aload_n hB dBo_meets_33 rfl ?_
  refine v_get hC (klBo hY.2) (F := FBo Y _) (by assumption) 1 dBo_meets_34 kfBo_15 (by decide) rfl ?_
  refine v_aload_n hB dBo_meets_37 rfl ?_
  refine v_get hC (klBo hY.2) (F := FBo Y _) (by assumption) 3 dBo_meets_38 kfBo_21 (by decide) rfl ?_
  refine v_icmp_gt hB 48 dBo_meets_41 (by decide) (fun c3 => ?_) (fun c3 => ?_)
  · refine v_iconst hB dBo_meets_48 (v := 0) (by decide) ?_
    exact v_zret hC rfl (by decide) dBo_meets_49 ⟨congrArg (fun x => some (Value.int x)) (bI_ff (by simp only [meetB]; simp [Int32.not_le.mpr c3])), rfl⟩
  refine v_iconst hB dBo_meets_44 (v := 1) (by decide) ?_
  refine v_goto hB 49 dBo_meets_45 (by decide) ?_
  exact v_zret hC rfl (by decide) dBo_meets_49 ⟨congrArg (fun x => some (Value.int x)) (bI_t (by simp only [meetB]; simp [Int32.not_lt.mp c0, Int32.not_lt.mp c1, Int32.not_lt.mp c2, Int32.not_lt.mp c3])), rfl⟩

set_option maxHeartbeats 4000000 in
set_option maxRecDepth 100000 in
theorem cBo_holds {l : Launch} {Y : Yt} (hY : YB Y) {i j : Nat} (hi : isBo Y i) (hj : isBo Y j) (μ : Mu) : Ct l Y yBo_holds wBo_holds ({ frames := 0, cells := 0, slots := 0, locals := 0 }) [.ref (ad Y i), .ref (ad Y j)] μ (PE (some (.int (bI (holdB (μ.1 i) (μ.1 j))))) μ) := by
  refine ct_of hY.1 (by decide) rfl (Nat.le_of_ble_eq_true rfl) (lv := [some (.ref (ad Y i)), some (.ref (ad Y j))]) rfl (fun X hC => ?_)
  have hB := hC.B
  refine v_aload_n hB dBo_holds_0 rfl ?_
  refine v_get hC (klBo hY.2) (F := FBo Y _) (by assumption) 0 dBo_holds_1 kfBo_9 (by decide) rfl ?_
  refine v_aload_n hB dBo_holds_4 rfl ?_
  refine v_get hC (klBo hY.2) (F := FBo Y _) (by assumption) 0 dBo_holds_5 kfBo_9 (by decide) rfl ?_
  refine v_icmp_gt hB 48 dBo_holds_8 (by decide) (fun c0 => ?_) (fun c0 => ?_)
  · refine v_iconst hB dBo_holds_48 (v := 0) (by decide) ?_
    exact v_zret hC rfl (by decide) dBo_holds_49 ⟨congrArg (fun x => some (Value.int x)) (bI_ff (by simp only [holdB]; simp [Int32.not_le.mpr c0])), rfl⟩
  refine v_aload_n hB dBo_holds_11 rfl ?_
  refine v_get hC (klBo hY.2) (F := FBo Y _) (by assumption) 2 dBo_holds_12 kfBo_18 (by decide) rfl ?_
  refine v_aload_n hB dBo_holds_15 rfl ?_
  refine v_get hC (klBo hY.2) (F := FBo Y _) (by assumption) 2 dBo_holds_16 kfBo_18 (by decide) rfl ?_
  refine v_icmp_gt hB 48 dBo_holds_19 (by decide) (fun c1 => ?_) (fun c1 => ?_)
  · refine v_iconst hB dBo_holds_48 (v := 0) (by decide) ?_
    exact v_zret hC rfl (by decide) dBo_holds_49 ⟨congrArg (fun x => some (Value.int x)) (bI_ff (by simp only [holdB]; simp [Int32.not_le.mpr c1])), rfl⟩
  refine v_aload_n hB dBo_holds_22 rfl ?_
  refine v_get hC (klBo hY.2) (F := FBo Y _) (by assumption) 1 dBo_holds_23 kfBo_15 (by decide) rfl ?_
  refine v_aload_n hB dBo_holds_26 rfl ?_
  refine v_get hC (klBo hY.2) (F := FBo Y _) (by assumption) 1 dBo_holds_27 kfBo_15 (by decide) rfl ?_
  refine v_icmp_gt hB 48 dBo_holds_30 (by decide) (fun c2 => ?_) (fun c2 => ?_)
  · refine v_iconst hB dBo_holds_48 (v := 0) (by decide) ?_
    exact v_zret hC rfl (by decide) dBo_holds_49 ⟨congrArg (fun x => some (Value.int x)) (bI_ff (by simp only [holdB]; simp [Int32.not_le.mpr c2])), rfl⟩
  refine v_aload_n hB dBo_holds_33 rfl ?_
  refine v_get hC (klBo hY.2) (F := FBo Y _) (by assumption) 3 dBo_holds_34 kfBo_21 (by decide) rfl ?_
  refine v_aload_n hB dBo_holds_37 rfl ?_
  refine v_get hC (klBo hY.2) (F := FBo Y _) (by assumption) 3 dBo_holds_38 kfBo_21 (by decide) rfl ?_
  refine v_icmp_gt hB 48 dBo_holds_41 (by decide) (fun c3 => ?_) (fun c3 => ?_)
  · refine v_iconst hB dBo_holds_48 (v := 0) (by decide) ?_
    exact v_zret hC rfl (by decide) dBo_holds_49 ⟨congrArg (fun x => some (Value.int x)) (bI_ff (by simp only [holdB]; simp [Int32.not_le.mpr c3])), rfl⟩
  refine v_iconst hB dBo_holds_44 (v := 1) (by decide) ?_
  refine v_goto hB 49 dBo_holds_45 (by decide) ?_
  exact v_zret hC rfl (by decide) dBo_holds_49 ⟨congrArg (fun x => some (Value.int x)) (bI_t (by simp only [holdB]; simp [Int32.not_lt.mp c0, Int32.not_lt.mp c1, Int32.not_lt.mp c2, Int32.not_lt.mp c3])), rfl⟩

set_option maxHeartbeats 4000000 in
set_option maxRecDepth 100000 in
theorem cBo_isSame {l : Launch} {Y : Yt} (hY : YB Y) {i j : Nat} (hi : isBo Y i) (hj : isBo Y j) (μ : Mu) : Ct l Y yBo_isSame wBo_isSame ({ frames := 0, cells := 0, slots := 0, locals := 0 }) [.ref (ad Y i), .ref (ad Y j)] μ (PE (some (.int (bI (sameB (μ.1 i) (μ.1 j))))) μ) := by
  refine ct_of hY.1 (by decide) rfl (Nat.le_of_ble_eq_true rfl) (lv := [some (.ref (ad Y i)), some (.ref (ad Y j))]) rfl (fun X hC => ?_)
  have hB := hC.B
  refine v_aload_n hB dBo_isSame_0 rfl ?_
  refine v_get hC (klBo hY.2) (F := FBo Y _) (by assumption) 0 dBo_isSame_1 kfBo_9 (by decide) rfl ?_
  refine v_aload_n hB dBo_isSame_4 rfl ?_
  refine v_get hC (klBo hY.2) (F := FBo Y _) (by assumption) 0 dBo_isSame_5 kfBo_9 (by decide) rfl ?_
  refine v_icmp_ne hB 59 dBo_isSame_8 (by decide) (fun c0 => ?_) (fun c0 => ?_)
  · refine v_iconst hB dBo_isSame_59 (v := 0) (by decide) ?_
    exact v_zret hC rfl (by decide) dBo_isSame_60 ⟨congrArg (fun x => some (Value.int x)) (bI_ff (by simp only [sameB]; simp [c0])), rfl⟩
  refine v_aload_n hB dBo_isSame_11 rfl ?_
  refine v_get hC (klBo hY.2) (F := FBo Y _) (by assumption) 1 dBo_isSame_12 kfBo_15 (by decide) rfl ?_
  refine v_aload_n hB dBo_isSame_15 rfl ?_
  refine v_get hC (klBo hY.2) (F := FBo Y _) (by assumption) 1 dBo_isSame_16 kfBo_15 (by decide) rfl ?_
  refine v_icmp_ne hB 59 dBo_isSame_19 (by decide) (fun c1 => ?_) (fun c1 => ?_)
  · refine v_iconst hB dBo_isSame_59 (v := 0) (by decide) ?_
    exact v_zret hC rfl (by decide) dBo_isSame_60 ⟨congrArg (fun x => some (Value.int x)) (bI_ff (by simp only [sameB]; simp [c1])), rfl⟩
  refine v_aload_n hB dBo_isSame_22 rfl ?_
  refine v_get hC (klBo hY.2) (F := FBo Y _) (by assumption) 2 dBo_isSame_23 kfBo_18 (by decide) rfl ?_
  refine v_aload_n hB dBo_isSame_26 rfl ?_
  refine v_get hC (klBo hY.2) (F := FBo Y _) (by assumption) 2 dBo_isSame_27 kfBo_18 (by decide) rfl ?_
  refine v_icmp_ne hB 59 dBo_isSame_30 (by decide) (fun c2 => ?_) (fun c2 => ?_)
  · refine v_iconst hB dBo_isSame_59 (v := 0) (by decide) ?_
    exact v_zret hC rfl (by decide) dBo_isSame_60 ⟨congrArg (fun x => some (Value.int x)) (bI_ff (by simp only [sameB]; simp [c2])), rfl⟩
  refine v_aload_n hB dBo_isSame_33 rfl ?_
  refine v_get hC (klBo hY.2) (F := FBo Y _) (by assumption) 3 dBo_isSame_34 kfBo_21 (by decide) rfl ?_
  refine v_aload_n hB dBo_isSame_37 rfl ?_
  refine v_get hC (klBo hY.2) (F := FBo Y _) (by assumption) 3 dBo_isSame_38 kfBo_21 (by decide) rfl ?_
  refine v_icmp_ne hB 59 dBo_isSame_41 (by decide) (fun c3 => ?_) (fun c3 => ?_)
  · refine v_iconst hB dBo_isSame_59 (v := 0) (by decide) ?_
    exact v_zret hC rfl (by decide) dBo_isSame_60 ⟨congrArg (fun x => some (Value.int x)) (bI_ff (by simp only [sameB]; simp [c3])), rfl⟩
  refine v_aload_n hB dBo_isSame_44 rfl ?_
  refine v_get hC (klBo hY.2) (F := FBo Y _) (by assumption) 4 dBo_isSame_45 kfBo_24 (by decide) rfl ?_
  refine v_aload_n hB dBo_isSame_48 rfl ?_
  refine v_get hC (klBo hY.2) (F := FBo Y _) (by assumption) 4 dBo_isSame_49 kfBo_24 (by decide) rfl ?_
  refine v_icmp_ne hB 59 dBo_isSame_52 (by decide) (fun c4 => ?_) (fun c4 => ?_)
  · refine v_iconst hB dBo_isSame_59 (v := 0) (by decide) ?_
    exact v_zret hC rfl (by decide) dBo_isSame_60 ⟨congrArg (fun x => some (Value.int x)) (bI_ff (by simp only [sameB]; simp [c4])), rfl⟩
  refine v_iconst hB dBo_isSame_55 (v := 1) (by decide) ?_
  refine v_goto hB 60 dBo_isSame_56 (by decide) ?_
  exact v_zret hC rfl (by decide) dBo_isSame_60 ⟨congrArg (fun x => some (Value.int x)) (bI_t (by simp only [sameB]; simp [c0, c1, c2, c3, c4])), rfl⟩

set_option maxHeartbeats 4000000 in
set_option maxRecDepth 100000 in
theorem cBo_precedes {l : Launch} {Y : Yt} (hY : YB Y) {i j : Nat} (hi : isBo Y i) (hj : isBo Y j) (μ : Mu) : Ct l Y yBo_precedes wBo_precedes ({ frames := 0, cells := 0, slots := 0, locals := 0 }) [.ref (ad Y i), .ref (ad Y j)] μ (PE (some (.int (bI (precB (μ.1 i) (μ.1 j))))) μ) := by
  refine ct_of hY.1 (by decide) rfl (Nat.le_of_ble_eq_true rfl) (lv := [some (.ref (ad Y i)), some (.ref (ad Y j))]) rfl (fun X hC => ?_)
  have hB := hC.B
  refine v_aload_n hB dBo_precedes_0 rfl ?_
  refine v_get hC (klBo hY.2) (F := FBo Y _) (by assumption) 0 dBo_precedes_1 kfBo_9 (by decide) rfl ?_
  refine v_aload_n hB dBo_precedes_4 rfl ?_
  refine v_get hC (klBo hY.2) (F := FBo Y _) (by assumption) 0 dBo_precedes_5 kfBo_9 (by decide) rfl ?_
  refine v_icmp_eq hB 28 dBo_precedes_8 (by decide) (fun c0 => ?_) (fun c0 => ?_)
  rotate_left
  · refine v_aload_n hB dBo_precedes_11 rfl ?_
    refine v_get hC (klBo hY.2) (F := FBo Y _) (by assumption) 0 dBo_precedes_12 kfBo_9 (by decide) rfl ?_
    refine v_aload_n hB dBo_precedes_15 rfl ?_
    refine v_get hC (klBo hY.2) (F := FBo Y _) (by assumption) 0 dBo_precedes_16 kfBo_9 (by decide) rfl ?_
    refine v_icmp_ge hB 26 dBo_precedes_19 (by decide) (fun e => ?_) (fun e => ?_)
    · refine v_iconst hB dBo_precedes_26 (v := 0) (by decide) ?_
      exact v_zret hC rfl (by decide) dBo_precedes_27 ⟨congrArg (fun x => some (Value.int x)) (bI_ff (by simp only [precB, c0]; simp [Int32.not_lt.mpr e])), rfl⟩
    · refine v_iconst hB dBo_precedes_22 (v := 1) (by decide) ?_
      refine v_goto hB 27 dBo_precedes_23 (by decide) ?_
      exact v_zret hC rfl (by decide) dBo_precedes_27 ⟨congrArg (fun x => some (Value.int x)) (bI_t (by simp only [precB, c0]; simp [Int32.not_le.mp e])), rfl⟩
  refine v_aload_n hB dBo_precedes_28 rfl ?_
  refine v_get hC (klBo hY.2) (F := FBo Y _) (by assumption) 1 dBo_precedes_29 kfBo_15 (by decide) rfl ?_
  refine v_aload_n hB dBo_precedes_32 rfl ?_
  refine v_get hC (klBo hY.2) (F := FBo Y _) (by assumption) 1 dBo_precedes_33 kfBo_15 (by decide) rfl ?_
  refine v_icmp_eq hB 56 dBo_precedes_36 (by decide) (fun c1 => ?_) (fun c1 => ?_)
  rotate_left
  · refine v_aload_n hB dBo_precedes_39 rfl ?_
    refine v_get hC (klBo hY.2) (F := FBo Y _) (by assumption) 1 dBo_precedes_40 kfBo_15 (by decide) rfl ?_
    refine v_aload_n hB dBo_precedes_43 rfl ?_
    refine v_get hC (klBo hY.2) (F := FBo Y _) (by assumption) 1 dBo_precedes_44 kfBo_15 (by decide) rfl ?_
    refine v_icmp_ge hB 54 dBo_precedes_47 (by decide) (fun e => ?_) (fun e => ?_)
    · refine v_iconst hB dBo_precedes_54 (v := 0) (by decide) ?_
      exact v_zret hC rfl (by decide) dBo_precedes_55 ⟨congrArg (fun x => some (Value.int x)) (bI_ff (by simp only [precB, c0, c1]; simp [Int32.not_lt.mpr e])), rfl⟩
    · refine v_iconst hB dBo_precedes_50 (v := 1) (by decide) ?_
      refine v_goto hB 55 dBo_precedes_51 (by decide) ?_
      exact v_zret hC rfl (by decide) dBo_precedes_55 ⟨congrArg (fun x => some (Value.int x)) (bI_t (by simp only [precB, c0, c1]; simp [Int32.not_le.mp e])), rfl⟩
  refine v_aload_n hB dBo_precedes_56 rfl ?_
  refine v_get hC (klBo hY.2) (F := FBo Y _) (by assumption) 2 dBo_precedes_57 kfBo_18 (by decide) rfl ?_
  refine v_aload_n hB dBo_precedes_60 rfl ?_
  refine v_get hC (klBo hY.2) (F := FBo Y _) (by assumption) 2 dBo_precedes_61 kfBo_18 (by decide) rfl ?_
  refine v_icmp_eq hB 84 dBo_precedes_64 (by decide) (fun c2 => ?_) (fun c2 => ?_)
  rotate_left
  · refine v_aload_n hB dBo_precedes_67 rfl ?_
    refine v_get hC (klBo hY.2) (F := FBo Y _) (by assumption) 2 dBo_precedes_68 kfBo_18 (by decide) rfl ?_
    refine v_aload_n hB dBo_precedes_71 rfl ?_
    refine v_get hC (klBo hY.2) (F := FBo Y _) (by assumption) 2 dBo_precedes_72 kfBo_18 (by decide) rfl ?_
    refine v_icmp_ge hB 82 dBo_precedes_75 (by decide) (fun e => ?_) (fun e => ?_)
    · refine v_iconst hB dBo_precedes_82 (v := 0) (by decide) ?_
      exact v_zret hC rfl (by decide) dBo_precedes_83 ⟨congrArg (fun x => some (Value.int x)) (bI_ff (by simp only [precB, c0, c1, c2]; simp [Int32.not_lt.mpr e])), rfl⟩
    · refine v_iconst hB dBo_precedes_78 (v := 1) (by decide) ?_
      refine v_goto hB 83 dBo_precedes_79 (by decide) ?_
      exact v_zret hC rfl (by decide) dBo_precedes_83 ⟨congrArg (fun x => some (Value.int x)) (bI_t (by simp only [precB, c0, c1, c2]; simp [Int32.not_le.mp e])), rfl⟩
  refine v_aload_n hB dBo_precedes_84 rfl ?_
  refine v_get hC (klBo hY.2) (F := FBo Y _) (by assumption) 3 dBo_precedes_85 kfBo_21 (by decide) rfl ?_
  refine v_aload_n hB dBo_precedes_88 rfl ?_
  refine v_get hC (klBo hY.2) (F := FBo Y _) (by assumption) 3 dBo_precedes_89 kfBo_21 (by decide) rfl ?_
  refine v_icmp_eq hB 112 dBo_precedes_92 (by decide) (fun c3 => ?_) (fun c3 => ?_)
  rotate_left
  · refine v_aload_n hB dBo_precedes_95 rfl ?_
    refine v_get hC (klBo hY.2) (F := FBo Y _) (by assumption) 3 dBo_precedes_96 kfBo_21 (by decide) rfl ?_
    refine v_aload_n hB dBo_precedes_99 rfl ?_
    refine v_get hC (klBo hY.2) (F := FBo Y _) (by assumption) 3 dBo_precedes_100 kfBo_21 (by decide) rfl ?_
    refine v_icmp_ge hB 110 dBo_precedes_103 (by decide) (fun e => ?_) (fun e => ?_)
    · refine v_iconst hB dBo_precedes_110 (v := 0) (by decide) ?_
      exact v_zret hC rfl (by decide) dBo_precedes_111 ⟨congrArg (fun x => some (Value.int x)) (bI_ff (by simp only [precB, c0, c1, c2, c3]; simp [Int32.not_lt.mpr e])), rfl⟩
    · refine v_iconst hB dBo_precedes_106 (v := 1) (by decide) ?_
      refine v_goto hB 111 dBo_precedes_107 (by decide) ?_
      exact v_zret hC rfl (by decide) dBo_precedes_111 ⟨congrArg (fun x => some (Value.int x)) (bI_t (by simp only [precB, c0, c1, c2, c3]; simp [Int32.not_le.mp e])), rfl⟩
  refine v_aload_n hB dBo_precedes_112 rfl ?_
  refine v_get hC (klBo hY.2) (F := FBo Y _) (by assumption) 4 dBo_precedes_113 kfBo_24 (by decide) rfl ?_
  refine v_aload_n hB dBo_precedes_116 rfl ?_
  refine v_get hC (klBo hY.2) (F := FBo Y _) (by assumption) 4 dBo_precedes_117 kfBo_24 (by decide) rfl ?_
  refine v_icmp_ge hB 127 dBo_precedes_120 (by decide) (fun e => ?_) (fun e => ?_)
  · refine v_iconst hB dBo_precedes_127 (v := 0) (by decide) ?_
    exact v_zret hC rfl (by decide) dBo_precedes_128 ⟨congrArg (fun x => some (Value.int x)) (bI_ff (by simp only [precB, c0, c1, c2, c3]; simp [Int32.not_lt.mpr e])), rfl⟩
  · refine v_iconst hB dBo_precedes_123 (v := 1) (by decide) ?_
    refine v_goto hB 128 dBo_precedes_124 (by decide) ?_
    exact v_zret hC rfl (by decide) dBo_precedes_128 ⟨congrArg (fun x => some (Value.int x)) (bI_t (by simp only [precB, c0, c1, c2, c3]; simp [Int32.not_le.mp e])), rfl⟩

set_option maxHeartbeats 4000000 in
set_option maxRecDepth 100000 in
theorem cBo_area {l : Launch} {Y : Yt} (hY : YB Y) {i : Nat} (hi : isBo Y i) (μ : Mu) : Ct l Y yBo_area wBo_area ({ frames := 0, cells := 0, slots := 0, locals := 0 }) [.ref (ad Y i)] μ (PE (some (.long (areaB (μ.1 i)))) μ) := by
  refine ct_of hY.1 (by decide) rfl (Nat.le_of_ble_eq_true rfl) (lv := [some (.ref (ad Y i))]) rfl (fun X hC => ?_)
  have hB := hC.B
  refine v_aload_n hB dBo_area_0 rfl ?_
  refine v_get hC (klBo hY.2) (F := FBo Y _) (by assumption) 2 dBo_area_1 kfBo_18 (by decide) rfl ?_
  refine v_i2l hB dBo_area_4 ?_
  refine v_aload_n hB dBo_area_5 rfl ?_
  refine v_get hC (klBo hY.2) (F := FBo Y _) (by assumption) 0 dBo_area_6 kfBo_9 (by decide) rfl ?_
  refine v_i2l hB dBo_area_9 ?_
  refine v_lsub hB dBo_area_10 ?_
  refine v_aload_n hB dBo_area_11 rfl ?_
  refine v_get hC (klBo hY.2) (F := FBo Y _) (by assumption) 3 dBo_area_12 kfBo_21 (by decide) rfl ?_
  refine v_i2l hB dBo_area_15 ?_
  refine v_aload_n hB dBo_area_16 rfl ?_
  refine v_get hC (klBo hY.2) (F := FBo Y _) (by assumption) 1 dBo_area_17 kfBo_15 (by decide) rfl ?_
  refine v_i2l hB dBo_area_20 ?_
  refine v_lsub hB dBo_area_21 ?_
  refine v_lmul hB dBo_area_22 ?_
  exact v_lret hC rfl dBo_area_23 ⟨rfl, rfl⟩

set_option maxHeartbeats 4000000 in
set_option maxRecDepth 100000 in
theorem cBo_rim {l : Launch} {Y : Yt} (hY : YB Y) {i : Nat} (hi : isBo Y i) (μ : Mu) : Ct l Y yBo_rim wBo_rim ({ frames := 0, cells := 0, slots := 0, locals := 0 }) [.ref (ad Y i)] μ (PE (some (.long (rimB (μ.1 i)))) μ) := by
  refine ct_of hY.1 (by decide) rfl (Nat.le_of_ble_eq_true rfl) (lv := [some (.ref (ad Y i))]) rfl (fun X hC => ?_)
  have hB := hC.B
  refine v_aload_n hB dBo_rim_0 rfl ?_
  refine v_get hC (klBo hY.2) (F := FBo Y _) (by assumption) 2 dBo_rim_1 kfBo_18 (by decide) rfl ?_
  refine v_i2l hB dBo_rim_4 ?_
  refine v_aload_n hB dBo_rim_5 rfl ?_
  refine v_get hC (klBo hY.2) (F := FBo Y _) (by assumption) 0 dBo_rim_6 kfBo_9 (by decide) rfl ?_
  refine v_i2l hB dBo_rim_9 ?_
  refine v_lsub hB dBo_rim_10 ?_
  refine v_aload_n hB dBo_rim_11 rfl ?_
  refine v_get hC (klBo hY.2) (F := FBo Y _) (by assumption) 3 dBo_rim_12 kfBo_21 (by decide) rfl ?_
  refine v_i2l hB dBo_rim_15 ?_
  refine v_aload_n hB dBo_rim_16 rfl ?_
  refine v_get hC (klBo hY.2) (F := FBo Y _) (by assumption) 1 dBo_rim_17 kfBo_15 (by decide) rfl ?_
  refine v_i2l hB dBo_rim_20 ?_
  refine v_lsub hB dBo_rim_21 ?_
  refine v_ladd hB dBo_rim_22 ?_
  exact v_lret hC rfl dBo_rim_23 ⟨rfl, rfl⟩

set_option maxHeartbeats 4000000 in
set_option maxRecDepth 100000 in
theorem cBo_areaWith {l : Launch} {Y : Yt} (hY : YB Y) {i j : Nat} (hi : isBo Y i) (hj : isBo Y j) (μ : Mu) : Ct l Y yBo_areaWith wBo_areaWith ({ frames := 1, cells := 0, slots := 0, locals := 21 }) [.ref (ad Y i), .ref (ad Y j)] μ (PE (some (.long (withB (μ.1 i) (μ.1 j)))) μ) := by
  refine ct_of hY.1 (by decide) rfl (Nat.le_of_ble_eq_true rfl) (lv := [some (.ref (ad Y i)), some (.ref (ad Y j)), none, none, none, none]) rfl (fun X hC => ?_)
  have hB := hC.B
  refine v_aload_n hB dBo_areaWith_0 rfl ?_
  refine v_get hC (klBo hY.2) (F := FBo Y _) (by assumption) 2 dBo_areaWith_1 kfBo_18 (by decide) rfl ?_
  refine v_aload_n hB dBo_areaWith_4 rfl ?_
  refine v_get hC (klBo hY.2) (F := FBo Y _) (by assumption) 2 dBo_areaWith_5 kfBo_18 (by decide) rfl ?_
  refine v_mmax hC (kmBo_29).1 dBo_areaWith_8 (Nat.le_of_ble_eq_true rfl) (Nat.le_of_ble_eq_true rfl) ⟨Nat.zero_le _, Nat.zero_le _⟩ ?_
  refine v_i2l hB dBo_areaWith_11 ?_
  refine v_aload_n hB dBo_areaWith_12 rfl ?_
  refine v_get hC (klBo hY.2) (F := FBo Y _) (by assumption) 0 dBo_areaWith_13 kfBo_9 (by decide) rfl ?_
  refine v_aload_n hB dBo_areaWith_16 rfl ?_
  refine v_get hC (klBo hY.2) (F := FBo Y _) (by assumption) 0 dBo_areaWith_17 kfBo_9 (by decide) rfl ?_
  refine v_mmin hC (kmBo_35).1 dBo_areaWith_20 (Nat.le_of_ble_eq_true rfl) (Nat.le_of_ble_eq_true rfl) ⟨Nat.zero_le _, Nat.zero_le _⟩ ?_
  refine v_i2l hB dBo_areaWith_23 ?_
  refine v_lsub hB dBo_areaWith_24 ?_
  refine v_lstore_n hB dBo_areaWith_25 rfl (by decide) (lv' := [_, _, _, _, _, _]) rfl ?_
  refine v_aload_n hB dBo_areaWith_26 rfl ?_
  refine v_get hC (klBo hY.2) (F := FBo Y _) (by assumption) 3 dBo_areaWith_27 kfBo_21 (by decide) rfl ?_
  refine v_aload_n hB dBo_areaWith_30 rfl ?_
  refine v_get hC (klBo hY.2) (F := FBo Y _) (by assumption) 3 dBo_areaWith_31 kfBo_21 (by decide) rfl ?_
  refine v_mmax hC (kmBo_29).1 dBo_areaWith_34 (Nat.le_of_ble_eq_true rfl) (Nat.le_of_ble_eq_true rfl) ⟨Nat.zero_le _, Nat.zero_le _⟩ ?_
  refine v_i2l hB dBo_areaWith_37 ?_
  refine v_aload_n hB dBo_areaWith_38 rfl ?_
  refine v_get hC (klBo hY.2) (F := FBo Y _) (by assumption) 1 dBo_areaWith_39 kfBo_15 (by decide) rfl ?_
  refine v_aload_n hB dBo_areaWith_42 rfl ?_
  refine v_get hC (klBo hY.2) (F := FBo Y _) (by assumption) 1 dBo_areaWith_43 kfBo_15 (by decide) rfl ?_
  refine v_mmin hC (kmBo_35).1 dBo_areaWith_46 (Nat.le_of_ble_eq_true rfl) (Nat.le_of_ble_eq_true rfl) ⟨Nat.zero_le _, Nat.zero_le _⟩ ?_
  refine v_i2l hB dBo_areaWith_49 ?_
  refine v_lsub hB dBo_areaWith_50 ?_
  refine v_lstore hB dBo_areaWith_51 rfl (by decide) (lv' := [_, _, _, _, _, _]) rfl ?_
  refine v_lload_n hB dBo_areaWith_53 rfl ?_
  refine v_lload hB dBo_areaWith_54 rfl ?_
  refine v_lmul hB dBo_areaWith_56 ?_
  exact v_lret hC rfl dBo_areaWith_57 ⟨rfl, rfl⟩

set_option maxHeartbeats 4000000 in
set_option maxRecDepth 100000 in
theorem cBo_squareFrom {l : Launch} {Y : Yt} (hY : YB Y) {i : Nat} (hi : isBo Y i) (x y : Int32) (μ : Mu) : Ct l Y yBo_squareFrom wBo_squareFrom ({ frames := 0, cells := 0, slots := 0, locals := 0 }) [.ref (ad Y i), .int x, .int y] μ (PE (some (.long (sqB (μ.1 i) x y))) μ) := by
  refine ct_of hY.1 (by decide) rfl (Nat.le_of_ble_eq_true rfl) (lv := [some (.ref (ad Y i)), some (.int x), some (.int y), none, none, none, none]) rfl (fun X hC => ?_)
  have hB := hC.B
  have key2 : ∀ v, v = offB y (μ.1 i 1) (μ.1 i 3) → VG X (yA Y) 7 0 0 (VQ X Y (PE (some (.long (sqB (μ.1 i) x y))) μ)) (yI Y (μ)) 79 [some (.ref (ad Y i)), some (.int x), some (.int y), some (.long (offB x (μ.1 i 0) (μ.1 i 2))), none, none, none] [.long v] := by
    intro v hv
    subst hv
    refine v_lstore hB dBo_squareFrom_79 rfl (by decide) (lv' := [_, _, _, _, _, _, _]) rfl ?_
    refine v_lload_n hB dBo_squareFrom_81 rfl ?_
    refine v_lload_n hB dBo_squareFrom_82 rfl ?_
    refine v_lmul hB dBo_squareFrom_83 ?_
    refine v_lload hB dBo_squareFrom_84 rfl ?_
    refine v_lload hB dBo_squareFrom_86 rfl ?_
    refine v_lmul hB dBo_squareFrom_88 ?_
    refine v_ladd hB dBo_squareFrom_89 ?_
    exact v_lret hC rfl dBo_squareFrom_90 ⟨rfl, rfl⟩
  have key1 : ∀ v, v = offB x (μ.1 i 0) (μ.1 i 2) → VG X (yA Y) 7 0 0 (VQ X Y (PE (some (.long (sqB (μ.1 i) x y))) μ)) (yI Y (μ)) 39 [some (.ref (ad Y i)), some (.int x), some (.int y), none, none, none, none] [.long v] := by
    intro v hv
    subst hv
    refine v_lstore_n hB dBo_squareFrom_39 rfl (by decide) (lv' := [_, _, _, _, _, _, _]) rfl ?_
    refine v_iload_n hB dBo_squareFrom_40 rfl ?_
    refine v_aload_n hB dBo_squareFrom_41 rfl ?_
    refine v_get hC (klBo hY.2) (F := FBo Y _) (by assumption) 1 dBo_squareFrom_42 kfBo_15 (by decide) rfl ?_
    refine v_icmp_ge hB 59 dBo_squareFrom_45 (by decide) (fun c => ?_) (fun c => ?_)
    · refine v_iload_n hB dBo_squareFrom_59 rfl ?_
      refine v_aload_n hB dBo_squareFrom_60 rfl ?_
      refine v_get hC (klBo hY.2) (F := FBo Y _) (by assumption) 3 dBo_squareFrom_61 kfBo_21 (by decide) rfl ?_
      refine v_icmp_le hB 78 dBo_squareFrom_64 (by decide) (fun e => ?_) (fun e => ?_)
      · refine v_lconst hB dBo_squareFrom_78 (v := 0) (by decide) ?_
        exact key2 _ (by rw [offB, if_neg (Int32.not_lt.mpr c), if_neg (Int32.not_lt.mpr e)])
      · refine v_iload_n hB dBo_squareFrom_67 rfl ?_
        refine v_i2l hB dBo_squareFrom_68 ?_
        refine v_aload_n hB dBo_squareFrom_69 rfl ?_
        refine v_get hC (klBo hY.2) (F := FBo Y _) (by assumption) 3 dBo_squareFrom_70 kfBo_21 (by decide) rfl ?_
        refine v_i2l hB dBo_squareFrom_73 ?_
        refine v_lsub hB dBo_squareFrom_74 ?_
        refine v_goto hB 79 dBo_squareFrom_75 (by decide) ?_
        exact key2 _ (by rw [offB, if_neg (Int32.not_lt.mpr c), if_pos (Int32.not_le.mp e)])
    · refine v_aload_n hB dBo_squareFrom_48 rfl ?_
      refine v_get hC (klBo hY.2) (F := FBo Y _) (by assumption) 1 dBo_squareFrom_49 kfBo_15 (by decide) rfl ?_
      refine v_i2l hB dBo_squareFrom_52 ?_
      refine v_iload_n hB dBo_squareFrom_53 rfl ?_
      refine v_i2l hB dBo_squareFrom_54 ?_
      refine v_lsub hB dBo_squareFrom_55 ?_
      refine v_goto hB 79 dBo_squareFrom_56 (by decide) ?_
      exact key2 _ (by rw [offB, if_pos (Int32.not_le.mp c)])
  refine v_iload_n hB dBo_squareFrom_0 rfl ?_
  refine v_aload_n hB dBo_squareFrom_1 rfl ?_
  refine v_get hC (klBo hY.2) (F := FBo Y _) (by assumption) 0 dBo_squareFrom_2 kfBo_9 (by decide) rfl ?_
  refine v_icmp_ge hB 19 dBo_squareFrom_5 (by decide) (fun c => ?_) (fun c => ?_)
  · refine v_iload_n hB dBo_squareFrom_19 rfl ?_
    refine v_aload_n hB dBo_squareFrom_20 rfl ?_
    refine v_get hC (klBo hY.2) (F := FBo Y _) (by assumption) 2 dBo_squareFrom_21 kfBo_18 (by decide) rfl ?_
    refine v_icmp_le hB 38 dBo_squareFrom_24 (by decide) (fun e => ?_) (fun e => ?_)
    · refine v_lconst hB dBo_squareFrom_38 (v := 0) (by decide) ?_
      exact key1 _ (by rw [offB, if_neg (Int32.not_lt.mpr c), if_neg (Int32.not_lt.mpr e)])
    · refine v_iload_n hB dBo_squareFrom_27 rfl ?_
      refine v_i2l hB dBo_squareFrom_28 ?_
      refine v_aload_n hB dBo_squareFrom_29 rfl ?_
      refine v_get hC (klBo hY.2) (F := FBo Y _) (by assumption) 2 dBo_squareFrom_30 kfBo_18 (by decide) rfl ?_
      refine v_i2l hB dBo_squareFrom_33 ?_
      refine v_lsub hB dBo_squareFrom_34 ?_
      refine v_goto hB 39 dBo_squareFrom_35 (by decide) ?_
      exact key1 _ (by rw [offB, if_neg (Int32.not_lt.mpr c), if_pos (Int32.not_le.mp e)])
  · refine v_aload_n hB dBo_squareFrom_8 rfl ?_
    refine v_get hC (klBo hY.2) (F := FBo Y _) (by assumption) 0 dBo_squareFrom_9 kfBo_9 (by decide) rfl ?_
    refine v_i2l hB dBo_squareFrom_12 ?_
    refine v_iload_n hB dBo_squareFrom_13 rfl ?_
    refine v_i2l hB dBo_squareFrom_14 ?_
    refine v_lsub hB dBo_squareFrom_15 ?_
    refine v_goto hB 39 dBo_squareFrom_16 (by decide) ?_
    exact key1 _ (by rw [offB, if_pos (Int32.not_le.mp c)])
end
section
/-! PAGES. -/
def pgI (p : Nat) : Nat := 19 + p
def bxI (p j : Nat) : Nat := 219 + 6 * p + j
def Pg (Y : Yt) (p : Nat) : Prop := p < 40 ∧ isPa Y (pgI p) ∧ AR Y (pgI p + 40) 6 (bxI p) ∧ ∀ j, j < 6 → isBo Y (bxI p j)
theorem bo_ne_pa {Y : Yt} {i j : Nat} (hi : isBo Y i) (hj : isPa Y j) : i ≠ j := by
  rintro rfl
  have h := (hi.2 (fun _ => 0) (fun _ => 0)).symm.trans (hj.2 (fun _ => 0) (fun _ => 0))
  injection h with h
  injection h with h
  cases h
theorem asg_ne (μ : Mu) {i a : Nat} (x y z u v : Int32) (h : a ≠ i) : (asg μ i x y z u v).1 a = μ.1 a := by
  unfold asg
  rw [wi_ne _ _ _ h, wi_ne _ _ _ h, wi_ne _ _ _ h, wi_ne _ _ _ h, wi_ne _ _ _ h]
theorem bec_ne (μ : Mu) {i a : Nat} (j : Nat) (h : a ≠ i) : (bec μ i j).1 a = μ.1 a := asg_ne μ _ _ _ _ _ h
theorem wid_ne (μ : Mu) {i a : Nat} (j : Nat) (h : a ≠ i) : (wid μ i j).1 a = μ.1 a := by
  unfold wid
  rw [wi_ne _ _ _ h, wi_ne _ _ _ h, wi_ne _ _ _ h, wi_ne _ _ _ h]
theorem shr_ne (μ : Mu) {i a : Nat} (h : a ≠ i) : (shr μ i).1 a = μ.1 a := by
  unfold shr
  rw [wi_ne _ _ _ h, wi_ne _ _ _ h, wi_ne _ _ _ h, wi_ne _ _ _ h]
/-- the memory behind open, add, drop, frame -/
def opn (μ : Mu) (p : Nat) (v : Int32) : Mu := wi (wi (wi μ (pgI p) 0 v) (pgI p) 1 0) (pgI p) 2 1
def addM (μ : Mu) (p u j : Nat) : Mu := wi (wi (bec μ (bxI p u) j) (pgI p) 1 (nI (u + 1))) (pgI p) 2 1
def drpM (μ : Mu) (p u k : Nat) : Mu := wi (bec (wi μ (pgI p) 1 (nI (u - 1))) (bxI p k) (bxI p (u - 1))) (pgI p) 2 1
def frL (p : Nat) (sl : Int32) (i : Nat) : Nat → Nat → Mu → Mu
  | 0, _, μ => μ
  | r + 1, k, μ => frL p sl i r (k + 1) (if (sl >>> (nI k &&& 31)) &&& 1 = 1 then wid μ i (bxI p k) else μ)
def frM (μ : Mu) (p u : Nat) (sl : Int32) (i : Nat) : Mu := frL p sl i u 0 (shr μ i)
set_option maxHeartbeats 4000000 in
set_option maxRecDepth 100000 in
theorem cPa_open {l : Launch} {Y : Yt} (hY : YB Y) {p : Nat} (hp : Pg Y p) (v : Int32) (μ : Mu) : Ct l Y yPa_open wPa_open ({ frames := 0, cells := 0, slots := 0, locals := 0 }) [.ref (ad Y (pgI p)), .int v] μ (PE none (opn μ p v)) := by
  refine ct_of hY.1 (by decide) rfl (Nat.le_of_ble_eq_true rfl) (lv := [some (.ref (ad Y (pgI p))), some (.int v)]) rfl (fun X hC => ?_)
  have hB := hC.B
  obtain ⟨hp40, hpa, har, hbx⟩ := hp
  refine v_aload_n hB dPa_open_0 rfl ?_
  refine v_iload_n hB dPa_open_1 rfl ?_
  refine v_puti hC (klPa hY.2) (F := FPa Y _) (by assumption) 0 dPa_open_2 kfPa_18 (by decide) rfl rfl rfl (fun _ _ => rfl) (fun _ _ => Nat.le_of_ble_eq_true rfl) ?_
  refine v_aload_n hB dPa_open_5 rfl ?_
  refine v_iconst hB dPa_open_6 (v := 0) (by decide) ?_
  refine v_puti hC (klPa hY.2) (F := FPa Y _) (by assumption) 1 dPa_open_7 kfPa_22 (by decide) rfl rfl rfl (fun _ _ => rfl) (fun _ _ => Nat.le_of_ble_eq_true rfl) ?_
  refine v_aload_n hB dPa_open_10 rfl ?_
  refine v_iconst hB dPa_open_11 (v := 1) (by decide) ?_
  refine v_puti hC (klPa hY.2) (F := FPa Y _) (by assumption) 2 dPa_open_12 kfPa_25 (by decide) rfl (by decide) (by decide) (fun _ _ => rfl) (fun _ _ => Nat.le_of_ble_eq_true rfl) ?_
  exact v_vret hC rfl dPa_open_15 ⟨rfl, rfl⟩

set_option maxHeartbeats 4000000 in
set_option maxRecDepth 100000 in
theorem cPa_add {l : Launch} {Y : Yt} (hY : YB Y) {p j u : Nat} (hp : Pg Y p) (hj : isBo Y j) (μ : Mu) (hu : μ.1 (pgI p) 1 = nI u) (h6 : u < 6) : Ct l Y yPa_add wPa_add ({ frames := 1, cells := 0, slots := 0, locals := 21 }) [.ref (ad Y (pgI p)), .ref (ad Y j)] μ (PE none (addM μ p u j)) := by
  refine ct_of hY.1 (by decide) rfl (Nat.le_of_ble_eq_true rfl) (lv := [some (.ref (ad Y (pgI p))), some (.ref (ad Y j))]) rfl (fun X hC => ?_)
  have hB := hC.B
  obtain ⟨hp40, hpa, har, hbx⟩ := hp
  have hb := hbx u h6
  have hne : pgI p ≠ bxI p u := (bo_ne_pa hb hpa).symm
  refine v_aload_n hB dPa_add_0 rfl ?_
  refine v_get hC (klPa hY.2) (F := FPa Y _) (by assumption) 1 dPa_add_1 kfPa_22 (by decide) rfl ?_
  refine v_aload_n hB dPa_add_4 rfl ?_
  refine v_get hC (klPa hY.2) (F := FPa Y _) (by assumption) 3 dPa_add_5 kfPa_11 (by decide) rfl ?_
  refine v_alenR hC (by assumption) dPa_add_8 ?_
  refine v_icmp_ge hB 40 dPa_add_9 (by decide) (fun c => ?_) (fun c => ?_)
  · exact absurd c (by rw [hu]; exact fun q => absurd ((nI_leI (by omega) (by omega)).mp q) (by omega))
  refine v_aload_n hB dPa_add_12 rfl ?_
  refine v_get hC (klPa hY.2) (F := FPa Y _) (by assumption) 3 dPa_add_13 kfPa_11 (by decide) rfl ?_
  refine v_aload_n hB dPa_add_16 rfl ?_
  refine v_get hC (klPa hY.2) (F := FPa Y _) (by assumption) 1 dPa_add_17 kfPa_22 (by decide) rfl ?_
  refine v_aald hC har u dPa_add_20 hu h6 (by decide) ?_
  refine v_aload_n hB dPa_add_21 rfl ?_
  refine v_callV hC tbok kmPa_29 kiBo_become ksBo_become dPa_add_22 (F := FBo Y _) (by assumption) (by rw [hY.2]; rfl) (cBo_become hY hb hj μ) rfl rfl ⟨Nat.le_of_ble_eq_true rfl, Nat.le_of_ble_eq_true rfl⟩ rfl rfl (Nat.le_of_ble_eq_true rfl) ⟨Nat.zero_le _, Nat.zero_le _⟩ (kE rfl ?_)
  refine v_aload_n hB dPa_add_25 rfl ?_
  refine v_dup hB dPa_add_26 rfl ?_
  refine v_get hC (klPa hY.2) (F := FPa Y _) (by assumption) 1 dPa_add_27 kfPa_22 (by decide) rfl ?_
  refine v_iconst hB dPa_add_30 (v := 1) (by decide) ?_
  refine v_iadd hB dPa_add_31 ?_
  refine v_puti hC (klPa hY.2) (F := FPa Y _) (by assumption) 1 dPa_add_32 kfPa_22 (by decide) rfl rfl rfl (fun _ _ => rfl) (fun _ _ => Nat.le_of_ble_eq_true rfl) ?_
  refine v_aload_n hB dPa_add_35 rfl ?_
  refine v_iconst hB dPa_add_36 (v := 1) (by decide) ?_
  refine v_puti hC (klPa hY.2) (F := FPa Y _) (by assumption) 2 dPa_add_37 kfPa_25 (by decide) rfl (by decide) (by decide) (fun _ _ => rfl) (fun _ _ => Nat.le_of_ble_eq_true rfl) ?_
  exact v_vret hC rfl dPa_add_40 ⟨rfl, by rw [addM, bec_ne μ j hne, hu, nI_1]⟩

set_option maxHeartbeats 4000000 in
set_option maxRecDepth 100000 in
theorem cPa_drop {l : Launch} {Y : Yt} (hY : YB Y) {p k u : Nat} (hp : Pg Y p) (μ : Mu) (hu : μ.1 (pgI p) 1 = nI u) (hk : k < u) (h6 : u ≤ 6) : Ct l Y yPa_drop wPa_drop ({ frames := 1, cells := 0, slots := 0, locals := 21 }) [.ref (ad Y (pgI p)), .int (nI k)] μ (PE none (drpM μ p u k)) := by
  refine ct_of hY.1 (by decide) rfl (Nat.le_of_ble_eq_true rfl) (lv := [some (.ref (ad Y (pgI p))), some (.int (nI k))]) rfl (fun X hC => ?_)
  have hB := hC.B
  obtain ⟨hp40, hpa, har, hbx⟩ := hp
  have hb := hbx k (by omega)
  have hb2 := hbx (u - 1) (by omega)
  refine v_iload_n hB dPa_drop_0 rfl ?_
  refine v_if_lt hB 45 dPa_drop_1 (by decide) (fun c => ?_) (fun c => ?_)
  · exact absurd c (nI_pos (by omega))
  refine v_iload_n hB dPa_drop_4 rfl ?_
  refine v_aload_n hB dPa_drop_5 rfl ?_
  refine v_get hC (klPa hY.2) (F := FPa Y _) (by assumption) 1 dPa_drop_6 kfPa_22 (by decide) rfl ?_
  refine v_icmp_ge hB 45 dPa_drop_9 (by decide) (fun c2 => ?_) (fun c2 => ?_)
  · exact absurd c2 (by rw [hu]; exact fun q => absurd ((nI_leI (by omega) (by omega)).mp q) (by omega))
  refine v_aload_n hB dPa_drop_12 rfl ?_
  refine v_dup hB dPa_drop_13 rfl ?_
  refine v_get hC (klPa hY.2) (F := FPa Y _) (by assumption) 1 dPa_drop_14 kfPa_22 (by decide) rfl ?_
  refine v_iconst hB dPa_drop_17 (v := 1) (by decide) ?_
  refine v_isub hB dPa_drop_18 ?_
  have e1 : μ.1 (pgI p) 1 - 1 = nI (u - 1) := by rw [hu]; exact pk_sub (a := u) (b := 1) (by omega)
  rw [e1]
  refine v_puti hC (klPa hY.2) (F := FPa Y _) (by assumption) 1 dPa_drop_19 kfPa_22 (by decide) rfl rfl rfl (fun _ _ => rfl) (fun _ _ => Nat.le_of_ble_eq_true rfl) ?_
  refine v_aload_n hB dPa_drop_22 rfl ?_
  refine v_get hC (klPa hY.2) (F := FPa Y _) (by assumption) 3 dPa_drop_23 kfPa_11 (by decide) rfl ?_
  refine v_iload_n hB dPa_drop_26 rfl ?_
  refine v_aald hC har k dPa_drop_27 rfl (by omega) (by decide) ?_
  refine v_aload_n hB dPa_drop_28 rfl ?_
  refine v_get hC (klPa hY.2) (F := FPa Y _) (by assumption) 3 dPa_drop_29 kfPa_11 (by decide) rfl ?_
  refine v_aload_n hB dPa_drop_32 rfl ?_
  refine v_get hC (klPa hY.2) (F := FPa Y _) (by assumption) 1 dPa_drop_33 kfPa_22 (by decide) rfl ?_
  refine v_aald hC har (u - 1) dPa_drop_36 (by rw [wi_at]; simp) (by omega) (by decide) ?_
  refine v_callV hC tbok kmPa_29 kiBo_become ksBo_become dPa_drop_37 (F := FBo Y _) (by assumption) (by rw [hY.2]; rfl) (cBo_become hY hb hb2 _) rfl rfl ⟨Nat.le_of_ble_eq_true rfl, Nat.le_of_ble_eq_true rfl⟩ rfl rfl (Nat.le_of_ble_eq_true rfl) ⟨Nat.zero_le _, Nat.zero_le _⟩ (kE rfl ?_)
  refine v_aload_n hB dPa_drop_40 rfl ?_
  refine v_iconst hB dPa_drop_41 (v := 1) (by decide) ?_
  refine v_puti hC (klPa hY.2) (F := FPa Y _) (by assumption) 2 dPa_drop_42 kfPa_25 (by decide) rfl (by decide) (by decide) (fun _ _ => rfl) (fun _ _ => Nat.le_of_ble_eq_true rfl) ?_
  exact v_vret hC rfl dPa_drop_45 ⟨rfl, rfl⟩

set_option maxHeartbeats 4000000 in
set_option maxRecDepth 100000 in
theorem cPa_frame {l : Launch} {Y : Yt} (hY : YB Y) {p i u : Nat} (hp : Pg Y p) (hi : isBo Y i) (sl : Int32) (μ : Mu) (hu : μ.1 (pgI p) 1 = nI u) (h6 : u ≤ 6) : Ct l Y yPa_frame wPa_frame ({ frames := 1, cells := 0, slots := 0, locals := 21 }) [.ref (ad Y (pgI p)), .int sl, .ref (ad Y i)] μ (PE none (frM μ p u sl i)) := by
  refine ct_of hY.1 (by decide) rfl (Nat.le_of_ble_eq_true rfl) (lv := [some (.ref (ad Y (pgI p))), some (.int sl), some (.ref (ad Y i)), none]) rfl (fun X hC => ?_)
  have hB := hC.B
  obtain ⟨hp40, hpa, har, hbx⟩ := hp
  have hne : pgI p ≠ i := (bo_ne_pa hi hpa).symm
  have loop : ∀ (r k : Nat) (ν : Mu), k + r = u → ν.1 (pgI p) 1 = nI u → frL p sl i r k ν = frM μ p u sl i → VG X (yA Y) 4 0 0 (VQ X Y (PE none (frM μ p u sl i))) (yI Y (ν)) 6 [some (.ref (ad Y (pgI p))), some (.int sl), some (.ref (ad Y i)), some (.int (nI k))] [] := by
    intro r
    induction r with
    | zero =>
      intro k ν hk hν hf
      refine v_iload_n hB dPa_frame_6 rfl ?_
      refine v_aload_n hB dPa_frame_7 rfl ?_
      refine v_get hC (klPa hY.2) (F := FPa Y _) (by assumption) 1 dPa_frame_8 kfPa_22 (by decide) rfl ?_
      refine v_icmp_ge hB 39 dPa_frame_11 (by decide) (fun c => ?_) (fun c => ?_)
      · exact v_vret hC rfl dPa_frame_39 ⟨rfl, hf⟩
      · exact absurd (by rw [hν]; exact nI_le (by omega) (by omega)) c
    | succ r ih =>
      intro k ν hk hν hf
      have hb := hbx k (by omega)
      refine v_iload_n hB dPa_frame_6 rfl ?_
      refine v_aload_n hB dPa_frame_7 rfl ?_
      refine v_get hC (klPa hY.2) (F := FPa Y _) (by assumption) 1 dPa_frame_8 kfPa_22 (by decide) rfl ?_
      refine v_icmp_ge hB 39 dPa_frame_11 (by decide) (fun c => ?_) (fun c => ?_)
      · exact absurd c (by rw [hν]; exact fun q => absurd ((nI_leI (by omega) (by omega)).mp q) (by omega))
      refine v_iload_n hB dPa_frame_14 rfl ?_
      refine v_iload_n hB dPa_frame_15 rfl ?_
      refine v_ishr hB dPa_frame_16 ?_
      refine v_iconst hB dPa_frame_17 (v := 1) (by decide) ?_
      refine v_iand hB dPa_frame_18 ?_
      refine v_iconst hB dPa_frame_19 (v := 1) (by decide) ?_
      refine v_icmp_ne hB 33 dPa_frame_20 (by decide) (fun b => ?_) (fun b => ?_)
      · refine v_iinc hB dPa_frame_33 rfl (y := _) rfl rfl (by decide) (lv' := [_, _, _, _]) rfl ?_
        refine v_goto hB 6 dPa_frame_36 (by decide) ?_
        exact v_eq (by rw [show nI k + Int32.ofInt 1 = nI (k + 1) from nI_1 k]) (ih (k + 1) ν (by omega) hν (by rw [← hf, frL, if_neg b]))
      · refine v_aload_n hB dPa_frame_23 rfl ?_
        refine v_aload_n hB dPa_frame_24 rfl ?_
        refine v_get hC (klPa hY.2) (F := FPa Y _) (by assumption) 3 dPa_frame_25 kfPa_11 (by decide) rfl ?_
        refine v_iload_n hB dPa_frame_28 rfl ?_
        refine v_aald hC har k dPa_frame_29 rfl (by omega) (by decide) ?_
        refine v_callV hC tbok kmPa_36 kiBo_widen ksBo_widen dPa_frame_30 (F := FBo Y _) (by assumption) (by rw [hY.2]; rfl) (cBo_widen hY hi hb ν) rfl rfl ⟨Nat.le_of_ble_eq_true rfl, Nat.le_of_ble_eq_true rfl⟩ rfl rfl (Nat.le_of_ble_eq_true rfl) ⟨Nat.zero_le _, Nat.zero_le _⟩ (kE rfl ?_)
        refine v_iinc hB dPa_frame_33 rfl (y := _) rfl rfl (by decide) (lv' := [_, _, _, _]) rfl ?_
        refine v_goto hB 6 dPa_frame_36 (by decide) ?_
        exact v_eq (by rw [show nI k + Int32.ofInt 1 = nI (k + 1) from nI_1 k]) (ih (k + 1) _ (by omega) (by rw [wid_ne ν _ hne]; exact hν) (by rw [← hf, frL, if_pos b]))
  refine v_aload_n hB dPa_frame_0 rfl ?_
  refine v_callV hC tbok kmPa_33 kiBo_shrinkToNothing ksBo_shrinkToNothing dPa_frame_1 (F := FBo Y _) (by assumption) (by rw [hY.2]; rfl) (cBo_shrinkToNothing hY hi μ) rfl rfl ⟨Nat.le_of_ble_eq_true rfl, Nat.le_of_ble_eq_true rfl⟩ rfl rfl (Nat.le_of_ble_eq_true rfl) ⟨Nat.zero_le _, Nat.zero_le _⟩ (kE rfl ?_)
  refine v_iconst hB dPa_frame_4 (v := 0) (by decide) ?_
  refine v_istore_n hB dPa_frame_5 rfl (by decide) (lv' := [_, _, _, _]) rfl ?_
  exact loop u 0 _ (by omega) (by rw [shr_ne μ hne]; exact hu) rfl
end
section
/-! PAGES, the rest. -/
set_option maxHeartbeats 4000000 in
set_option maxRecDepth 100000 in
theorem cPa_slotThatGrowsLeast {l : Launch} {Y : Yt} (hY : YB Y) {p i u : Nat} (hp : Pg Y p) (hi : isBo Y i) (μ : Mu) (hu : μ.1 (pgI p) 1 = nI u) (h0 : 0 < u) (h6 : u ≤ 6) : Ct l Y yPa_slotThatGrowsLeast wPa_slotThatGrowsLeast ({ frames := 2, cells := 0, slots := 0, locals := 46 }) [.ref (ad Y (pgI p)), .ref (ad Y i)] μ (PI (fun x ν => ν = μ ∧ ∃ b, b < u ∧ x = nI b)) := by
  refine ct_of hY.1 (by decide) rfl (Nat.le_of_ble_eq_true rfl) (lv := [some (.ref (ad Y (pgI p))), some (.ref (ad Y i)), none, none, none, none, none, none, none, none, none, none]) rfl (fun X hC => ?_)
  have hB := hC.B
  obtain ⟨hp40, hpa, har, hbx⟩ := hp
  have loop : ∀ (r k b : Nat) (g a : Int64), k + r = u → b < u → VG X (yA Y) 12 0 0 (VQ X Y (PI (fun x ν => ν = μ ∧ ∃ b, b < u ∧ x = nI b))) (yI Y (μ)) 14 [some (.ref (ad Y (pgI p))), some (.ref (ad Y i)), some (.int (nI b)), some (.long g), none, some (.long a), none, some (.int (nI k)), none, none, none, none] [] := by
    intro r
    induction r with
    | zero =>
      intro k b g a hk hb
      refine v_iload hB dPa_slotThatGrowsLeast_14 rfl ?_
      refine v_aload_n hB dPa_slotThatGrowsLeast_16 rfl ?_
      refine v_get hC (klPa hY.2) (F := FPa Y _) (by assumption) 1 dPa_slotThatGrowsLeast_17 kfPa_22 (by decide) rfl ?_
      refine v_icmp_ge hB 89 dPa_slotThatGrowsLeast_20 (by decide) (fun c => ?_) (fun c => ?_)
      · refine v_iload_n hB dPa_slotThatGrowsLeast_89 rfl ?_
        exact v_iret hC rfl dPa_slotThatGrowsLeast_90 ⟨_, rfl, rfl, b, hb, rfl⟩
      · exact absurd (by rw [hu]; exact nI_le (by omega) (by omega)) c
    | succ r ih =>
      intro k b g a hk hb
      have hbk := hbx k (by omega)
      have key : ∀ (b : Nat) (g a a2 g2 : Int64), b < u → VG X (yA Y) 12 0 0 (VQ X Y (PI (fun x ν => ν = μ ∧ ∃ b, b < u ∧ x = nI b))) (yI Y (μ)) 83 [some (.ref (ad Y (pgI p))), some (.ref (ad Y i)), some (.int (nI b)), some (.long g), none, some (.long a), none, some (.int (nI k)), some (.long a2), none, some (.long g2), none] [] := by
        intro b g a a2 g2 hb
        refine v_iinc hB dPa_slotThatGrowsLeast_83 rfl (y := _) rfl rfl (by decide) (lv' := [_, _, _, _, _, _, _, _, _, _, _, _]) rfl ?_
        refine v_goto hB 14 dPa_slotThatGrowsLeast_86 (by decide) ?_
        refine v_drop 8 (lv' := [_, _, _, _, _, _, _, _, _, _, _, _]) rfl ?_
        refine v_drop 10 (lv' := [_, _, _, _, _, _, _, _, _, _, _, _]) rfl ?_
        rw [i1]
        exact ih (k + 1) b g a (by omega) hb
      refine v_iload hB dPa_slotThatGrowsLeast_14 rfl ?_
      refine v_aload_n hB dPa_slotThatGrowsLeast_16 rfl ?_
      refine v_get hC (klPa hY.2) (F := FPa Y _) (by assumption) 1 dPa_slotThatGrowsLeast_17 kfPa_22 (by decide) rfl ?_
      refine v_icmp_ge hB 89 dPa_slotThatGrowsLeast_20 (by decide) (fun c => ?_) (fun c => ?_)
      · exact absurd c (by rw [hu]; exact (fun q => absurd ((nI_leI (by omega) (by omega)).mp q) (by omega)))
      refine v_aload_n hB dPa_slotThatGrowsLeast_23 rfl ?_
      refine v_get hC (klPa hY.2) (F := FPa Y _) (by assumption) 3 dPa_slotThatGrowsLeast_24 kfPa_11 (by decide) rfl ?_
      refine v_iload hB dPa_slotThatGrowsLeast_27 rfl ?_
      refine v_aald hC har k dPa_slotThatGrowsLeast_29 rfl (by omega) (by decide) ?_
      refine v_callV hC tbok kmPa_41 kiBo_area ksBo_area dPa_slotThatGrowsLeast_30 (F := FBo Y _) (by assumption) (by rw [hY.2]; rfl) (cBo_area hY hbk μ) rfl rfl ⟨Nat.le_of_ble_eq_true rfl, Nat.le_of_ble_eq_true rfl⟩ rfl rfl (Nat.le_of_ble_eq_true rfl) ⟨Nat.zero_le _, Nat.zero_le _⟩ (kE rfl ?_)
      refine v_lstore hB dPa_slotThatGrowsLeast_33 rfl (by decide) (lv' := [_, _, _, _, _, _, _, _, _, _, _, _]) rfl ?_
      refine v_aload_n hB dPa_slotThatGrowsLeast_35 rfl ?_
      refine v_get hC (klPa hY.2) (F := FPa Y _) (by assumption) 3 dPa_slotThatGrowsLeast_36 kfPa_11 (by decide) rfl ?_
      refine v_iload hB dPa_slotThatGrowsLeast_39 rfl ?_
      refine v_aald hC har k dPa_slotThatGrowsLeast_41 rfl (by omega) (by decide) ?_
      refine v_aload_n hB dPa_slotThatGrowsLeast_42 rfl ?_
      refine v_callV hC tbok kmPa_45 kiBo_areaWith ksBo_areaWith dPa_slotThatGrowsLeast_43 (F := FBo Y _) (by assumption) (by rw [hY.2]; rfl) (cBo_areaWith hY hbk hi μ) rfl rfl ⟨Nat.le_of_ble_eq_true rfl, Nat.le_of_ble_eq_true rfl⟩ rfl rfl (Nat.le_of_ble_eq_true rfl) ⟨Nat.zero_le _, Nat.zero_le _⟩ (kE rfl ?_)
      refine v_lload hB dPa_slotThatGrowsLeast_46 rfl ?_
      refine v_lsub hB dPa_slotThatGrowsLeast_48 ?_
      refine v_lstore hB dPa_slotThatGrowsLeast_49 rfl (by decide) (lv' := [_, _, _, _, _, _, _, _, _, _, _, _]) rfl ?_
      refine v_lload hB dPa_slotThatGrowsLeast_51 rfl ?_
      refine v_lload_n hB dPa_slotThatGrowsLeast_53 rfl ?_
      refine v_lcmp hB dPa_slotThatGrowsLeast_54 ?_
      have key2 : ∀ (b : Nat) (g a a2 g2 : Int64), VG X (yA Y) 12 0 0 (VQ X Y (PI (fun x ν => ν = μ ∧ ∃ b, b < u ∧ x = nI b))) (yI Y (μ)) 73 [some (.ref (ad Y (pgI p))), some (.ref (ad Y i)), some (.int (nI b)), some (.long g), none, some (.long a), none, some (.int (nI k)), some (.long a2), none, some (.long g2), none] [] := by
        intro b g a a2 g2
        refine v_iload hB dPa_slotThatGrowsLeast_73 rfl ?_
        refine v_istore_n hB dPa_slotThatGrowsLeast_75 rfl (by decide) (lv' := [_, _, _, _, _, _, _, _, _, _, _, _]) rfl ?_
        refine v_lload hB dPa_slotThatGrowsLeast_76 rfl ?_
        refine v_lstore_n hB dPa_slotThatGrowsLeast_78 rfl (by decide) (lv' := [_, _, _, _, _, _, _, _, _, _, _, _]) rfl ?_
        refine v_lload hB dPa_slotThatGrowsLeast_79 rfl ?_
        refine v_lstore hB dPa_slotThatGrowsLeast_81 rfl (by decide) (lv' := [_, _, _, _, _, _, _, _, _, _, _, _]) rfl ?_
        exact key k _ _ _ _ (by omega)
      refine v_if_lt hB 73 dPa_slotThatGrowsLeast_55 (by decide) (fun c1 => ?_) (fun c1 => ?_)
      · exact key2 _ _ _ _ _
      refine v_lload hB dPa_slotThatGrowsLeast_58 rfl ?_
      refine v_lload_n hB dPa_slotThatGrowsLeast_60 rfl ?_
      refine v_lcmp hB dPa_slotThatGrowsLeast_61 ?_
      refine v_if_ne hB 83 dPa_slotThatGrowsLeast_62 (by decide) (fun c2 => ?_) (fun c2 => ?_)
      · exact key _ _ _ _ _ hb
      refine v_lload hB dPa_slotThatGrowsLeast_65 rfl ?_
      refine v_lload hB dPa_slotThatGrowsLeast_67 rfl ?_
      refine v_lcmp hB dPa_slotThatGrowsLeast_69 ?_
      refine v_if_ge hB 83 dPa_slotThatGrowsLeast_70 (by decide) (fun c3 => ?_) (fun c3 => ?_)
      · exact key _ _ _ _ _ hb
      exact key2 _ _ _ _ _
  refine v_iconst hB dPa_slotThatGrowsLeast_0 (v := 0) (by decide) ?_
  refine v_istore_n hB dPa_slotThatGrowsLeast_1 rfl (by decide) (lv' := [_, _, _, _, _, _, _, _, _, _, _, _]) rfl ?_
  refine v_ldc2 hC (v := 9223372036854775807) kfPa_39 dPa_slotThatGrowsLeast_2 ?_
  refine v_lstore_n hB dPa_slotThatGrowsLeast_5 rfl (by decide) (lv' := [_, _, _, _, _, _, _, _, _, _, _, _]) rfl ?_
  refine v_ldc2 hC (v := 9223372036854775807) kfPa_39 dPa_slotThatGrowsLeast_6 ?_
  refine v_lstore hB dPa_slotThatGrowsLeast_9 rfl (by decide) (lv' := [_, _, _, _, _, _, _, _, _, _, _, _]) rfl ?_
  refine v_iconst hB dPa_slotThatGrowsLeast_11 (v := 0) (by decide) ?_
  refine v_istore hB dPa_slotThatGrowsLeast_12 rfl (by decide) (lv' := [_, _, _, _, _, _, _, _, _, _, _, _]) rfl ?_
  exact loop u 0 0 _ _ (by omega) h0

set_option maxHeartbeats 4000000 in
set_option maxRecDepth 100000 in
theorem cPa_bestPartner {l : Launch} {Y : Yt} (hY : YB Y) {p s u : Nat} (hp : Pg Y p) (μ : Mu) (hu : μ.1 (pgI p) 1 = nI u) (h2 : 2 ≤ u) (h6 : u ≤ 6) (hs : s < u) (hw : ∀ j, j < u → withB (μ.1 (bxI p j)) (μ.1 (bxI p s)) < 9223372036854775807) : Ct l Y yPa_bestPartner wPa_bestPartner ({ frames := 2, cells := 0, slots := 0, locals := 46 }) [.ref (ad Y (pgI p)), .int (nI s)] μ (PI (fun x ν => ν = μ ∧ ∃ b, b < u ∧ b ≠ s ∧ x = nI b)) := by
  refine ct_of hY.1 (by decide) rfl (Nat.le_of_ble_eq_true rfl) (lv := [some (.ref (ad Y (pgI p))), some (.int (nI s)), none, none, none, none, none, none]) rfl (fun X hC => ?_)
  have hB := hC.B
  obtain ⟨hp40, hpa, har, hbx⟩ := hp
  have hbs := hbx s (by omega)
  have loop : ∀ (r k b : Nat) (g : Int64), k + r = u → b < u → ((g = 9223372036854775807 ∧ ∀ j, j < k → j = s) ∨ b ≠ s) → VG X (yA Y) 8 0 0 (VQ X Y (PI (fun x ν => ν = μ ∧ ∃ b, b < u ∧ b ≠ s ∧ x = nI b))) (yI Y (μ)) 9 [some (.ref (ad Y (pgI p))), some (.int (nI s)), some (.int (nI b)), some (.long g), none, some (.int (nI k)), none, none] [] := by
    intro r
    induction r with
    | zero =>
      intro k b g hk hb hi
      refine v_iload hB dPa_bestPartner_9 rfl ?_
      refine v_aload_n hB dPa_bestPartner_11 rfl ?_
      refine v_get hC (klPa hY.2) (F := FPa Y _) (by assumption) 1 dPa_bestPartner_12 kfPa_22 (by decide) rfl ?_
      refine v_icmp_ge hB 61 dPa_bestPartner_15 (by decide) (fun c => ?_) (fun c => ?_)
      · refine v_iload_n hB dPa_bestPartner_61 rfl ?_
        have hbs2 : b ≠ s := by
          rcases hi with ⟨_, h⟩ | h
          · have h3 := h 0 (by omega)
            have h4 := h 1 (by omega)
            omega
          · exact h
        exact v_iret hC rfl dPa_bestPartner_62 ⟨_, rfl, rfl, b, hb, hbs2, rfl⟩
      · exact absurd (by rw [hu]; exact nI_le (by omega) (by omega)) c
    | succ r ih =>
      intro k b g hk hb hi
      have hbk := hbx k (by omega)
      have key : ∀ (b : Nat) (g a2 : Int64), b < u → ((g = 9223372036854775807 ∧ ∀ j, j < k + 1 → j = s) ∨ b ≠ s) → VG X (yA Y) 8 0 0 (VQ X Y (PI (fun x ν => ν = μ ∧ ∃ b, b < u ∧ b ≠ s ∧ x = nI b))) (yI Y (μ)) 55 [some (.ref (ad Y (pgI p))), some (.int (nI s)), some (.int (nI b)), some (.long g), none, some (.int (nI k)), some (.long a2), none] [] := by
        intro b g a2 hb hi
        refine v_iinc hB dPa_bestPartner_55 rfl (y := _) rfl rfl (by decide) (lv' := [_, _, _, _, _, _, _, _]) rfl ?_
        refine v_goto hB 9 dPa_bestPartner_58 (by decide) ?_
        refine v_drop 6 (lv' := [_, _, _, _, _, _, _, _]) rfl ?_
        rw [i1]
        exact ih (k + 1) b g (by omega) hb hi
      refine v_iload hB dPa_bestPartner_9 rfl ?_
      refine v_aload_n hB dPa_bestPartner_11 rfl ?_
      refine v_get hC (klPa hY.2) (F := FPa Y _) (by assumption) 1 dPa_bestPartner_12 kfPa_22 (by decide) rfl ?_
      refine v_icmp_ge hB 61 dPa_bestPartner_15 (by decide) (fun c => ?_) (fun c => ?_)
      · exact absurd c (by rw [hu]; exact (fun q => absurd ((nI_leI (by omega) (by omega)).mp q) (by omega)))
      refine v_aload_n hB dPa_bestPartner_18 rfl ?_
      refine v_get hC (klPa hY.2) (F := FPa Y _) (by assumption) 3 dPa_bestPartner_19 kfPa_11 (by decide) rfl ?_
      refine v_iload hB dPa_bestPartner_22 rfl ?_
      refine v_aald hC har k dPa_bestPartner_24 rfl (by omega) (by decide) ?_
      refine v_aload_n hB dPa_bestPartner_25 rfl ?_
      refine v_get hC (klPa hY.2) (F := FPa Y _) (by assumption) 3 dPa_bestPartner_26 kfPa_11 (by decide) rfl ?_
      refine v_iload_n hB dPa_bestPartner_29 rfl ?_
      refine v_aald hC har s dPa_bestPartner_30 rfl (by omega) (by decide) ?_
      refine v_callV hC tbok kmPa_45 kiBo_areaWith ksBo_areaWith dPa_bestPartner_31 (F := FBo Y _) (by assumption) (by rw [hY.2]; rfl) (cBo_areaWith hY hbk hbs μ) rfl rfl ⟨Nat.le_of_ble_eq_true rfl, Nat.le_of_ble_eq_true rfl⟩ rfl rfl (Nat.le_of_ble_eq_true rfl) ⟨Nat.zero_le _, Nat.zero_le _⟩ (kE rfl ?_)
      refine v_lstore hB dPa_bestPartner_34 rfl (by decide) (lv' := [_, _, _, _, _, _, _, _]) rfl ?_
      refine v_iload hB dPa_bestPartner_36 rfl ?_
      refine v_iload_n hB dPa_bestPartner_38 rfl ?_
      refine v_icmp_eq hB 55 dPa_bestPartner_39 (by decide) (fun c1 => ?_) (fun c1 => ?_)
      · have hks : k = s := (nI_eq (by omega) (by omega)).mp c1
        refine key _ _ _ hb ?_
        rcases hi with ⟨h1, h2⟩ | h
        · exact Or.inl ⟨h1, fun j hj => (Nat.lt_or_ge j k).elim (h2 j) (fun q => by omega)⟩
        · exact Or.inr h
      have hks : k ≠ s := fun q => c1 (by rw [q])
      refine v_lload hB dPa_bestPartner_42 rfl ?_
      refine v_lload_n hB dPa_bestPartner_44 rfl ?_
      refine v_lcmp hB dPa_bestPartner_45 ?_
      refine v_if_ge hB 55 dPa_bestPartner_46 (by decide) (fun c2 => ?_) (fun c2 => ?_)
      · refine key _ _ _ hb ?_
        rcases hi with ⟨h1, h2⟩ | h
        · exfalso
          have h3 := hw k (by omega)
          rw [h1] at c2
          simp [lg_cmp, h3, Int64.not_lt.mpr (Int64.le_of_lt h3), Int64.ne_of_lt h3] at c2
        · exact Or.inr h
      refine v_iload hB dPa_bestPartner_49 rfl ?_
      refine v_istore_n hB dPa_bestPartner_51 rfl (by decide) (lv' := [_, _, _, _, _, _, _, _]) rfl ?_
      refine v_lload hB dPa_bestPartner_52 rfl ?_
      refine v_lstore_n hB dPa_bestPartner_54 rfl (by decide) (lv' := [_, _, _, _, _, _, _, _]) rfl ?_
      exact key k _ _ (by omega) (Or.inr hks)
  refine v_iload_n hB dPa_bestPartner_0 rfl ?_
  refine v_istore_n hB dPa_bestPartner_1 rfl (by decide) (lv' := [_, _, _, _, _, _, _, _]) rfl ?_
  refine v_ldc2 hC (v := 9223372036854775807) kfPa_39 dPa_bestPartner_2 ?_
  refine v_lstore_n hB dPa_bestPartner_5 rfl (by decide) (lv' := [_, _, _, _, _, _, _, _]) rfl ?_
  refine v_iconst hB dPa_bestPartner_6 (v := 0) (by decide) ?_
  refine v_istore hB dPa_bestPartner_7 rfl (by decide) (lv' := [_, _, _, _, _, _, _, _]) rfl ?_
  exact loop u 0 s _ (by omega) hs (Or.inl ⟨rfl, fun j hj => absurd hj (Nat.not_lt_zero j)⟩)

theorem ai_ne_pa {Y : Yt} {i j z : Nat} (hi : AI Y i z) (hj : isPa Y j) : i ≠ j := by
  rintro rfl
  obtain ⟨_, _, _, _, h1⟩ := hi
  have h := (h1 (fun _ => 0) (fun _ => 0)).symm.trans (hj.2 (fun _ => 0) (fun _ => 0))
  cases h
theorem ai_ne_bo {Y : Yt} {i j z : Nat} (hi : AI Y i z) (hj : isBo Y j) : i ≠ j := by
  rintro rfl
  obtain ⟨_, _, _, _, h1⟩ := hi
  have h := (h1 (fun _ => 0) (fun _ => 0)).symm.trans (hj.2 (fun _ => 0) (fun _ => 0))
  cases h
/-- one box to its five places of a row -/
def wt1 (μ : Mu) (r k x q : Nat) : Mu := wi μ r (2 + 5 * k + q) (μ.1 x q)
def wt5 (μ : Mu) (p r k : Nat) : Mu := wt1 (wt1 (wt1 (wt1 (wt1 μ r k (bxI p k) 0) r k (bxI p k) 1) r k (bxI p k) 2) r k (bxI p k) 3) r k (bxI p k) 4
def wtL (p r : Nat) : Nat → Nat → Mu → Mu
  | 0, _, μ => μ
  | c + 1, k, μ => wtL p r c (k + 1) (wt5 μ p r k)
def wtM (μ : Mu) (p u r : Nat) : Mu := wtL p r u 0 (wi (wi μ r 0 (μ.1 (pgI p) 0)) r 1 (nI u))
theorem wt5_ne (μ : Mu) {p r k a : Nat} (h : a ≠ r) : (wt5 μ p r k).1 a = μ.1 a := by
  unfold wt5 wt1
  rw [wi_ne _ _ _ h, wi_ne _ _ _ h, wi_ne _ _ _ h, wi_ne _ _ _ h, wi_ne _ _ _ h]
/-- a box out of its five places of a row -/
def rd5 (μ : Mu) (p r k : Nat) : Mu := asg μ (bxI p k) (μ.1 r (2 + 5 * k)) (μ.1 r (2 + 5 * k + 1)) (μ.1 r (2 + 5 * k + 2)) (μ.1 r (2 + 5 * k + 3)) (μ.1 r (2 + 5 * k + 4))
def rdL (p r : Nat) : Nat → Nat → Mu → Mu
  | 0, _, μ => μ
  | c + 1, k, μ => rdL p r c (k + 1) (rd5 μ p r k)
def rdM (μ : Mu) (p u r : Nat) : Mu := rdL p r u 0 (wi (wi (wi μ (pgI p) 0 (μ.1 r 0)) (pgI p) 1 (nI u)) (pgI p) 2 0)
set_option maxHeartbeats 4000000 in
set_option maxRecDepth 100000 in
theorem cPa_writeTo {l : Launch} {Y : Yt} (hY : YB Y) {p r u : Nat} (hp : Pg Y p) (hr : AI Y r 27) (μ : Mu) (hu : μ.1 (pgI p) 1 = nI u) (h5 : u ≤ 5) : Ct l Y yPa_writeTo wPa_writeTo ({ frames := 0, cells := 0, slots := 0, locals := 0 }) [.ref (ad Y (pgI p)), .ref (ad Y r)] μ (PE none (wtM μ p u r)) := by
  refine ct_of hY.1 (by decide) rfl (Nat.le_of_ble_eq_true rfl) (lv := [some (.ref (ad Y (pgI p))), some (.ref (ad Y r)), none, none]) rfl (fun X hC => ?_)
  have hB := hC.B
  obtain ⟨hp40, hpa, har, hbx⟩ := hp
  have hrp : pgI p ≠ r := (ai_ne_pa hr hpa).symm
  have loop : ∀ (c k : Nat) (ν : Mu), k + c = u → ν.1 (pgI p) 1 = nI u → wtL p r c k ν = wtM μ p u r → VG X (yA Y) 4 0 0 (VQ X Y (PE none (wtM μ p u r))) (yI Y (ν)) 16 [some (.ref (ad Y (pgI p))), some (.ref (ad Y r)), some (.int (nI k)), none] [] := by
    intro c
    induction c with
    | zero =>
      intro k ν hk hν hf
      refine v_iload_n hB dPa_writeTo_16 rfl ?_
      refine v_aload_n hB dPa_writeTo_17 rfl ?_
      refine v_get hC (klPa hY.2) (F := FPa Y _) (by assumption) 1 dPa_writeTo_18 kfPa_22 (by decide) rfl ?_
      refine v_icmp_ge hB 109 dPa_writeTo_21 (by decide) (fun c => ?_) (fun c => ?_)
      · exact v_vret hC rfl dPa_writeTo_109 ⟨rfl, hf⟩
      · exact absurd (by rw [hν]; exact nI_le (by omega) (by omega)) c
    | succ c ih =>
      intro k ν hk hν hf
      have hbk := hbx k (by omega)
      refine v_iload_n hB dPa_writeTo_16 rfl ?_
      refine v_aload_n hB dPa_writeTo_17 rfl ?_
      refine v_get hC (klPa hY.2) (F := FPa Y _) (by assumption) 1 dPa_writeTo_18 kfPa_22 (by decide) rfl ?_
      refine v_icmp_ge hB 109 dPa_writeTo_21 (by decide) (fun c1 => ?_) (fun c1 => ?_)
      · exact absurd c1 (by rw [hν]; exact (fun q => absurd ((nI_leI (by omega) (by omega)).mp q) (by omega)))
      refine v_iload_n hB dPa_writeTo_24 rfl ?_
      refine v_iconst hB dPa_writeTo_25 (v := 5) (by decide) ?_
      refine v_icmp_ge hB 109 dPa_writeTo_26 (by decide) (fun c2 => ?_) (fun c2 => ?_)
      · exact absurd c2 (by rw [show (5 : Int32) = nI 5 from rfl]; exact (fun q => absurd ((nI_leI (by omega) (by omega)).mp q) (by omega)))
      refine v_iconst hB dPa_writeTo_29 (v := 2) (by decide) ?_
      refine v_iload_n hB dPa_writeTo_30 rfl ?_
      refine v_iconst hB dPa_writeTo_31 (v := 5) (by decide) ?_
      refine v_imul hB dPa_writeTo_32 ?_
      refine v_iadd hB dPa_writeTo_33 ?_
      rw [ix5 k (by omega)]
      refine v_istore_n hB dPa_writeTo_34 rfl (by decide) (lv' := [_, _, _, _]) rfl ?_
      refine v_aload_n hB dPa_writeTo_35 rfl ?_
      refine v_iload_n hB dPa_writeTo_36 rfl ?_
      refine v_aload_n hB dPa_writeTo_37 rfl ?_
      refine v_get hC (klPa hY.2) (F := FPa Y _) (by assumption) 3 dPa_writeTo_38 kfPa_11 (by decide) rfl ?_
      refine v_iload_n hB dPa_writeTo_41 rfl ?_
      refine v_aald hC har k dPa_writeTo_42 rfl (by omega) (by decide) ?_
      refine v_get hC (klBo hY.2) (F := FBo Y _) (by assumption) 0 dPa_writeTo_43 kfPa_49 (by decide) rfl ?_
      refine v_iast hC hr (2 + 5 * k) dPa_writeTo_46 rfl (by omega) (by decide) ?_
      refine v_aload_n hB dPa_writeTo_47 rfl ?_
      refine v_iload_n hB dPa_writeTo_48 rfl ?_
      refine v_iconst hB dPa_writeTo_49 (v := 1) (by decide) ?_
      refine v_iadd hB dPa_writeTo_50 ?_
      refine v_aload_n hB dPa_writeTo_51 rfl ?_
      refine v_get hC (klPa hY.2) (F := FPa Y _) (by assumption) 3 dPa_writeTo_52 kfPa_11 (by decide) rfl ?_
      refine v_iload_n hB dPa_writeTo_55 rfl ?_
      refine v_aald hC har k dPa_writeTo_56 rfl (by omega) (by decide) ?_
      refine v_get hC (klBo hY.2) (F := FBo Y _) (by assumption) 1 dPa_writeTo_57 kfPa_52 (by decide) rfl ?_
      refine v_iast hC hr (2 + 5 * k + 1) dPa_writeTo_60 (nI_1 _) (by omega) (by decide) ?_
      refine v_aload_n hB dPa_writeTo_61 rfl ?_
      refine v_iload_n hB dPa_writeTo_62 rfl ?_
      refine v_iconst hB dPa_writeTo_63 (v := 2) (by decide) ?_
      refine v_iadd hB dPa_writeTo_64 ?_
      refine v_aload_n hB dPa_writeTo_65 rfl ?_
      refine v_get hC (klPa hY.2) (F := FPa Y _) (by assumption) 3 dPa_writeTo_66 kfPa_11 (by decide) rfl ?_
      refine v_iload_n hB dPa_writeTo_69 rfl ?_
      refine v_aald hC har k dPa_writeTo_70 rfl (by omega) (by decide) ?_
      refine v_get hC (klBo hY.2) (F := FBo Y _) (by assumption) 2 dPa_writeTo_71 kfPa_55 (by decide) rfl ?_
      refine v_iast hC hr (2 + 5 * k + 2) dPa_writeTo_74 (nI_2 _) (by omega) (by decide) ?_
      refine v_aload_n hB dPa_writeTo_75 rfl ?_
      refine v_iload_n hB dPa_writeTo_76 rfl ?_
      refine v_iconst hB dPa_writeTo_77 (v := 3) (by decide) ?_
      refine v_iadd hB dPa_writeTo_78 ?_
      refine v_aload_n hB dPa_writeTo_79 rfl ?_
      refine v_get hC (klPa hY.2) (F := FPa Y _) (by assumption) 3 dPa_writeTo_80 kfPa_11 (by decide) rfl ?_
      refine v_iload_n hB dPa_writeTo_83 rfl ?_
      refine v_aald hC har k dPa_writeTo_84 rfl (by omega) (by decide) ?_
      refine v_get hC (klBo hY.2) (F := FBo Y _) (by assumption) 3 dPa_writeTo_85 kfPa_58 (by decide) rfl ?_
      refine v_iast hC hr (2 + 5 * k + 3) dPa_writeTo_88 (nI_3 _) (by omega) (by decide) ?_
      refine v_aload_n hB dPa_writeTo_89 rfl ?_
      refine v_iload_n hB dPa_writeTo_90 rfl ?_
      refine v_iconst hB dPa_writeTo_91 (v := 4) (by decide) ?_
      refine v_iadd hB dPa_writeTo_92 ?_
      refine v_aload_n hB dPa_writeTo_93 rfl ?_
      refine v_get hC (klPa hY.2) (F := FPa Y _) (by assumption) 3 dPa_writeTo_94 kfPa_11 (by decide) rfl ?_
      refine v_iload_n hB dPa_writeTo_97 rfl ?_
      refine v_aald hC har k dPa_writeTo_98 rfl (by omega) (by decide) ?_
      refine v_get hC (klBo hY.2) (F := FBo Y _) (by assumption) 4 dPa_writeTo_99 kfPa_61 (by decide) rfl ?_
      refine v_iast hC hr (2 + 5 * k + 4) dPa_writeTo_102 (nI_4 _) (by omega) (by decide) ?_
      refine v_iinc hB dPa_writeTo_103 rfl (y := _) rfl rfl (by decide) (lv' := [_, _, _, _]) rfl ?_
      refine v_goto hB 16 dPa_writeTo_106 (by decide) ?_
      refine v_drop 3 (lv' := [_, _, _, _]) rfl ?_
      rw [i1]
      exact ih (k + 1) (wt5 ν p r k) (by omega) (by rw [wt5_ne ν hrp]; exact hν) hf
  refine v_aload_n hB dPa_writeTo_0 rfl ?_
  refine v_iconst hB dPa_writeTo_1 (v := 0) (by decide) ?_
  refine v_aload_n hB dPa_writeTo_2 rfl ?_
  refine v_get hC (klPa hY.2) (F := FPa Y _) (by assumption) 0 dPa_writeTo_3 kfPa_18 (by decide) rfl ?_
  refine v_iast hC hr 0 dPa_writeTo_6 rfl (by omega) (by decide) ?_
  refine v_aload_n hB dPa_writeTo_7 rfl ?_
  refine v_iconst hB dPa_writeTo_8 (v := 1) (by decide) ?_
  refine v_aload_n hB dPa_writeTo_9 rfl ?_
  refine v_get hC (klPa hY.2) (F := FPa Y _) (by assumption) 1 dPa_writeTo_10 kfPa_22 (by decide) rfl ?_
  refine v_iast hC hr 1 dPa_writeTo_13 rfl (by omega) (by decide) ?_
  refine v_iconst hB dPa_writeTo_14 (v := 0) (by decide) ?_
  refine v_istore_n hB dPa_writeTo_15 rfl (by decide) (lv' := [_, _, _, _]) rfl ?_
  rw [wi_ne μ 0 (μ.1 (pgI p) 0) hrp, hu]
  exact loop u 0 _ (by omega) (by rw [wi_ne _ _ _ hrp, wi_ne _ _ _ hrp]; exact hu) rfl

set_option maxHeartbeats 4000000 in
set_option maxRecDepth 100000 in
theorem cPa_readFrom {l : Launch} {Y : Yt} (hY : YB Y) {p r u : Nat} (hp : Pg Y p) (hr : AI Y r 27) (μ : Mu) (hu : μ.1 r 1 = nI u) (h5 : u ≤ 5) : Ct l Y yPa_readFrom wPa_readFrom ({ frames := 1, cells := 0, slots := 0, locals := 25 }) [.ref (ad Y (pgI p)), .ref (ad Y r)] μ (PE none (rdM μ p u r)) := by
  refine ct_of hY.1 (by decide) rfl (Nat.le_of_ble_eq_true rfl) (lv := [some (.ref (ad Y (pgI p))), some (.ref (ad Y r)), none, none]) rfl (fun X hC => ?_)
  have hB := hC.B
  obtain ⟨hp40, hpa, har, hbx⟩ := hp
  have hrp : r ≠ pgI p := ai_ne_pa hr hpa
  have loop : ∀ (c k : Nat) (ν : Mu), k + c = u → ν.1 (pgI p) 1 = nI u → rdL p r c k ν = rdM μ p u r → VG X (yA Y) 4 0 0 (VQ X Y (PE none (rdM μ p u r))) (yI Y (ν)) 29 [some (.ref (ad Y (pgI p))), some (.ref (ad Y r)), some (.int (nI k)), none] [] := by
    intro c
    induction c with
    | zero =>
      intro k ν hk hν hf
      refine v_iload_n hB dPa_readFrom_29 rfl ?_
      refine v_aload_n hB dPa_readFrom_30 rfl ?_
      refine v_get hC (klPa hY.2) (F := FPa Y _) (by assumption) 1 dPa_readFrom_31 kfPa_22 (by decide) rfl ?_
      refine v_icmp_ge hB 81 dPa_readFrom_34 (by decide) (fun c => ?_) (fun c => ?_)
      · exact v_vret hC rfl dPa_readFrom_81 ⟨rfl, hf⟩
      · exact absurd (by rw [hν]; exact nI_le (by omega) (by omega)) c
    | succ c ih =>
      intro k ν hk hν hf
      have hbk := hbx k (by omega)
      have hne : pgI p ≠ bxI p k := (bo_ne_pa hbk hpa).symm
      refine v_iload_n hB dPa_readFrom_29 rfl ?_
      refine v_aload_n hB dPa_readFrom_30 rfl ?_
      refine v_get hC (klPa hY.2) (F := FPa Y _) (by assumption) 1 dPa_readFrom_31 kfPa_22 (by decide) rfl ?_
      refine v_icmp_ge hB 81 dPa_readFrom_34 (by decide) (fun c1 => ?_) (fun c1 => ?_)
      · exact absurd c1 (by rw [hν]; exact (fun q => absurd ((nI_leI (by omega) (by omega)).mp q) (by omega)))
      refine v_iconst hB dPa_readFrom_37 (v := 2) (by decide) ?_
      refine v_iload_n hB dPa_readFrom_38 rfl ?_
      refine v_iconst hB dPa_readFrom_39 (v := 5) (by decide) ?_
      refine v_imul hB dPa_readFrom_40 ?_
      refine v_iadd hB dPa_readFrom_41 ?_
      rw [ix5 k (by omega)]
      refine v_istore_n hB dPa_readFrom_42 rfl (by decide) (lv' := [_, _, _, _]) rfl ?_
      refine v_aload_n hB dPa_readFrom_43 rfl ?_
      refine v_get hC (klPa hY.2) (F := FPa Y _) (by assumption) 3 dPa_readFrom_44 kfPa_11 (by decide) rfl ?_
      refine v_iload_n hB dPa_readFrom_47 rfl ?_
      refine v_aald hC har k dPa_readFrom_48 rfl (by omega) (by decide) ?_
      refine v_aload_n hB dPa_readFrom_49 rfl ?_
      refine v_iload_n hB dPa_readFrom_50 rfl ?_
      refine v_iald hC hr (2 + 5 * k) dPa_readFrom_51 rfl (by omega) (by decide) ?_
      refine v_aload_n hB dPa_readFrom_52 rfl ?_
      refine v_iload_n hB dPa_readFrom_53 rfl ?_
      refine v_iconst hB dPa_readFrom_54 (v := 1) (by decide) ?_
      refine v_iadd hB dPa_readFrom_55 ?_
      refine v_iald hC hr (2 + 5 * k + 1) dPa_readFrom_56 (nI_1 _) (by omega) (by decide) ?_
      refine v_aload_n hB dPa_readFrom_57 rfl ?_
      refine v_iload_n hB dPa_readFrom_58 rfl ?_
      refine v_iconst hB dPa_readFrom_59 (v := 2) (by decide) ?_
      refine v_iadd hB dPa_readFrom_60 ?_
      refine v_iald hC hr (2 + 5 * k + 2) dPa_readFrom_61 (nI_2 _) (by omega) (by decide) ?_
      refine v_aload_n hB dPa_readFrom_62 rfl ?_
      refine v_iload_n hB dPa_readFrom_63 rfl ?_
      refine v_iconst hB dPa_readFrom_64 (v := 3) (by decide) ?_
      refine v_iadd hB dPa_readFrom_65 ?_
      refine v_iald hC hr (2 + 5 * k + 3) dPa_readFrom_66 (nI_3 _) (by omega) (by decide) ?_
      refine v_aload_n hB dPa_readFrom_67 rfl ?_
      refine v_iload_n hB dPa_readFrom_68 rfl ?_
      refine v_iconst hB dPa_readFrom_69 (v := 4) (by decide) ?_
      refine v_iadd hB dPa_readFrom_70 ?_
      refine v_iald hC hr (2 + 5 * k + 4) dPa_readFrom_71 (nI_4 _) (by omega) (by decide) ?_
      refine v_callV hC tbok kmPa_73 kiBo_assign ksBo_assign dPa_readFrom_72 (F := FBo Y _) (by assumption) (by rw [hY.2]; rfl) (cBo_assign hY hbk _ _ _ _ _ ν) rfl rfl ⟨Nat.le_of_ble_eq_true rfl, Nat.le_of_ble_eq_true rfl⟩ rfl rfl (Nat.le_of_ble_eq_true rfl) ⟨Nat.zero_le _, Nat.zero_le _⟩ (kE rfl ?_)
      refine v_iinc hB dPa_readFrom_75 rfl (y := _) rfl rfl (by decide) (lv' := [_, _, _, _]) rfl ?_
      refine v_goto hB 29 dPa_readFrom_78 (by decide) ?_
      refine v_drop 3 (lv' := [_, _, _, _]) rfl ?_
      rw [i1]
      exact ih (k + 1) (rd5 ν p r k) (by omega) (by unfold rd5; rw [asg_ne _ _ _ _ _ _ hne]; exact hν) hf
  refine v_aload_n hB dPa_readFrom_0 rfl ?_
  refine v_aload_n hB dPa_readFrom_1 rfl ?_
  refine v_iconst hB dPa_readFrom_2 (v := 0) (by decide) ?_
  refine v_iald hC hr 0 dPa_readFrom_3 rfl (by omega) (by decide) ?_
  refine v_puti hC (klPa hY.2) (F := FPa Y _) (by assumption) 0 dPa_readFrom_4 kfPa_18 (by decide) rfl rfl rfl (fun _ _ => rfl) (fun _ _ => Nat.le_of_ble_eq_true rfl) ?_
  refine v_aload_n hB dPa_readFrom_7 rfl ?_
  refine v_iconst hB dPa_readFrom_8 (v := 0) (by decide) ?_
  refine v_aload_n hB dPa_readFrom_9 rfl ?_
  refine v_iconst hB dPa_readFrom_10 (v := 1) (by decide) ?_
  refine v_iald hC hr 1 dPa_readFrom_11 rfl (by omega) (by decide) ?_
  refine v_iconst hB dPa_readFrom_12 (v := 5) (by decide) ?_
  refine v_mmin hC (kmPa_64).1 dPa_readFrom_13 (Nat.le_of_ble_eq_true rfl) (Nat.le_of_ble_eq_true rfl) ⟨Nat.zero_le _, Nat.zero_le _⟩ ?_
  refine v_mmax hC (kmPa_70).1 dPa_readFrom_16 (Nat.le_of_ble_eq_true rfl) (Nat.le_of_ble_eq_true rfl) ⟨Nat.zero_le _, Nat.zero_le _⟩ ?_
  rw [wi_ne μ 0 (μ.1 r 0) hrp, hu, mm5 u (by omega)]
  refine v_puti hC (klPa hY.2) (F := FPa Y _) (by assumption) 1 dPa_readFrom_19 kfPa_22 (by decide) rfl rfl rfl (fun _ _ => rfl) (fun _ _ => Nat.le_of_ble_eq_true rfl) ?_
  refine v_aload_n hB dPa_readFrom_22 rfl ?_
  refine v_iconst hB dPa_readFrom_23 (v := 0) (by decide) ?_
  refine v_puti hC (klPa hY.2) (F := FPa Y _) (by assumption) 2 dPa_readFrom_24 kfPa_25 (by decide) rfl (by decide) (by decide) (fun _ _ => rfl) (fun _ _ => Nat.le_of_ble_eq_true rfl) ?_
  refine v_iconst hB dPa_readFrom_27 (v := 0) (by decide) ?_
  refine v_istore_n hB dPa_readFrom_28 rfl (by decide) (lv' := [_, _, _, _]) rfl ?_
  exact loop u 0 _ (by omega) (by simp only [wi_at]; simp) rfl
end
section
/-! THE TREE. What a method asks of the memory, for an end K, stands in its ..W: the method itself, with what is free in it. -/
def plI (r : Nat) : Nat := 99 + r
def lgI (r : Nat) : Nat := 139 + r
def fdI (h : Nat) : Nat := 179 + h
def YW (Y : Yt) : Prop := isFa Y 0 ∧ isDi Y 1 ∧ isTr Y 2 ∧ isSe Y 3 ∧ isBo Y 4 ∧ isBo Y 5 ∧ isBo Y 6 ∧ isBo Y 7 ∧ isBo Y 8 ∧ AR Y 9 40 pgI ∧ AI Y 10 4 ∧ AI Y 11 4 ∧ AR Y 12 40 plI ∧ AR Y 13 40 lgI ∧ AI Y 14 40 ∧ AR Y 15 40 fdI ∧ AI Y 16 40 ∧ AL Y 17 40 ∧ AI Y 18 40 ∧ (∀ p, p < 40 → Pg Y p) ∧ (∀ r, r < 40 → AI Y (plI r) 27) ∧ (∀ r, r < 40 → AI Y (lgI r) 27) ∧ ∀ h, h < 40 → isBo Y (fdI h)
theorem pg_5 (p : Nat) : pgI p ≠ 5 := by unfold pgI; omega
theorem pg_6 (p : Nat) : pgI p ≠ 6 := by unfold pgI; omega
theorem pg_inj {p q : Nat} (h : p ≠ q) : pgI p ≠ pgI q := by unfold pgI; omega
theorem bx_5 (p j : Nat) : bxI p j ≠ 5 := by unfold bxI; omega
theorem bx_pg {p j q : Nat} (h : q < 40) : bxI p j ≠ pgI q := by unfold bxI pgI; omega
theorem frL_ne (p : Nat) (sl : Int32) (i : Nat) {a : Nat} (h : a ≠ i) : ∀ (r k : Nat) (μ : Mu), (frL p sl i r k μ).1 a = μ.1 a
  | 0, _, _ => rfl
  | r + 1, k, μ => by
    rw [frL, frL_ne p sl i h r (k + 1)]
    split
    · exact wid_ne μ _ h
    · rfl
theorem frM_ne (μ : Mu) (p u : Nat) (sl : Int32) {i a : Nat} (h : a ≠ i) : (frM μ p u sl i).1 a = μ.1 a := by
  unfold frM
  rw [frL_ne p sl i h, shr_ne μ h]
def whM (μ : Mu) (a b : Int32) : Mu := wi (wi (wi μ 2 0 a) 2 1 b) 2 2 1
def tfM (μ : Mu) (p s c u : Nat) : Mu := if sameB ((frM (wi μ 5 4 (nI c)) c u (-1) 5).1 (bxI p s)) ((frM (wi μ 5 4 (nI c)) c u (-1) 5).1 5) = true then frM (wi μ 5 4 (nI c)) c u (-1) 5 else wi (bec (frM (wi μ 5 4 (nI c)) c u (-1) 5) (bxI p s) 5) (pgI p) 2 1
def tfW (μ : Mu) (p s : Nat) (K : Mu → Prop) : Prop := ∃ c u : Nat, s < 6 ∧ c < 40 ∧ u ≤ 6 ∧ μ.1 (bxI p s) 4 = nI c ∧ μ.1 (pgI c) 1 = nI u ∧ K (tfM μ p s c u)
def hgM (μ : Mu) (p q u v : Nat) : Mu := addM (frM (wi μ 5 4 (nI q)) q u (-1) 5) p v 5
def hgW (μ : Mu) (p q : Nat) (K : Mu → Prop) : Prop := ∃ u v : Nat, q < 40 ∧ u ≤ 6 ∧ v < 6 ∧ μ.1 (pgI q) 1 = nI u ∧ μ.1 (pgI p) 1 = nI v ∧ K (hgM μ p q u v)
def mgL (f e : Nat) : Nat → Nat → Nat → Mu → Mu
  | 0, _, _, μ => μ
  | r + 1, k, u, μ => mgL f e r (k + 1) (u + 1) (addM μ f u (bxI e k))
def mgM (μ : Mu) (p f e u v n g : Nat) : Mu := drpM (opn (mgL f e v 0 u μ) e 0) p n g
/-- f is filled, e emptied, both below p, at its places k and g -/
def mgW (μ : Mu) (p k g : Nat) (K : Mu → Prop) : Prop := ∃ f e u v n : Nat, f < 40 ∧ e < 40 ∧ f ≠ e ∧ p ≠ f ∧ p ≠ e ∧ k < 6 ∧ g < n ∧ n ≤ 6 ∧ u + v ≤ 6 ∧ k ≠ g ∧ μ.1 (bxI p k) 4 = nI f ∧ μ.1 (bxI p g) 4 = nI e ∧ μ.1 (pgI f) 1 = nI u ∧ μ.1 (pgI e) 1 = nI v ∧ μ.1 (pgI p) 1 = nI n ∧ K (mgM μ p f e u v n g)
/-- k slots are left, f has u, t has v -/
def mvW (f : Nat) (sl : Int32) (t : Nat) (K : Mu → Prop) : Nat → Nat → Nat → Mu → Prop
  | 0, _, _, μ => K μ
  | k + 1, u, v, μ => if (sl >>> (nI k &&& 31)) &&& 1 = 1 then k < u ∧ u ≤ 6 ∧ v < 6 ∧ mvW f sl t K k (u - 1) (v + 1) (drpM (addM μ t v (bxI f k)) f u k) else mvW f sl t K k u v μ
set_option maxHeartbeats 4000000 in
set_option maxRecDepth 100000 in
theorem cTr_at {l : Launch} {Y : Yt} (hY : YB Y) (hW : YW Y) {q : Nat} (hq : q < 40) (μ : Mu) : Ct l Y yTr_at wTr_at ({ frames := 0, cells := 0, slots := 0, locals := 0 }) [.ref (ad Y 2), .int (nI q)] μ (PE (some (.ref (ad Y (pgI q)))) μ) := by
  refine ct_of hY.1 (by decide) rfl (Nat.le_of_ble_eq_true rfl) (lv := [some (.ref (ad Y 2)), some (.int (nI q))]) rfl (fun X hC => ?_)
  have hB := hC.B
  obtain ⟨hFa, hDi, hTr, hSe, h4, h5, h6b, h7, h8, hpages, htrail, hturns, hplaces, hlog, hlp, hfound, hwait, hsq, hlk, hPg, hrow, hlrow, hfb⟩ := id hW
  refine v_aload_n hB dTr_at_0 rfl ?_
  refine v_get hC (klTr hY.2) (F := FTr Y _) (by assumption) 3 dTr_at_1 kfTr_11 (by decide) rfl ?_
  refine v_iload_n hB dTr_at_4 rfl ?_
  refine v_if_le hB 18 dTr_at_5 (by decide) (fun c => ?_) (fun c => ?_)
  · have h0 : q = 0 := by
      rcases Nat.eq_zero_or_pos q with h | h
      · exact h
      · exact absurd c (nI_nle h (by omega))
    subst h0
    refine v_iconst hB dTr_at_18 (v := 0) (by decide) ?_
    refine v_aald hC hpages 0 dTr_at_19 rfl (by omega) (by decide) ?_
    exact v_aret hC rfl dTr_at_20 ⟨rfl, rfl⟩
  refine v_iload_n hB dTr_at_8 rfl ?_
  refine v_bipush hB dTr_at_9 (v := 40) (by decide) ?_
  refine v_icmp_ge hB 18 dTr_at_11 (by decide) (fun c2 => ?_) (fun c2 => ?_)
  · exact absurd c2 (by rw [show (40 : Int32) = nI 40 from rfl]; exact (fun q => absurd ((nI_leI (by omega) (by omega)).mp q) (by omega)))
  refine v_iload_n hB dTr_at_14 rfl ?_
  refine v_goto hB 19 dTr_at_15 (by decide) ?_
  refine v_aald hC hpages q dTr_at_19 rfl (by omega) (by decide) ?_
  exact v_aret hC rfl dTr_at_20 ⟨rfl, rfl⟩

set_option maxHeartbeats 4000000 in
set_option maxRecDepth 100000 in
theorem cTr_writeHeader {l : Launch} {Y : Yt} (hY : YB Y) (hW : YW Y) (a b : Int32) (μ : Mu) : Ct l Y yTr_writeHeader wTr_writeHeader ({ frames := 0, cells := 0, slots := 0, locals := 0 }) [.ref (ad Y 2), .int a, .int b] μ (PE none (whM μ a b)) := by
  refine ct_of hY.1 (by decide) rfl (Nat.le_of_ble_eq_true rfl) (lv := [some (.ref (ad Y 2)), some (.int a), some (.int b)]) rfl (fun X hC => ?_)
  have hB := hC.B
  obtain ⟨hFa, hDi, hTr, hSe, h4, h5, h6b, h7, h8, hpages, htrail, hturns, hplaces, hlog, hlp, hfound, hwait, hsq, hlk, hPg, hrow, hlrow, hfb⟩ := id hW
  refine v_aload_n hB dTr_writeHeader_0 rfl ?_
  refine v_iload_n hB dTr_writeHeader_1 rfl ?_
  refine v_puti hC (klTr hY.2) (F := FTr Y _) (by assumption) 0 dTr_writeHeader_2 kfTr_39 (by decide) rfl rfl rfl (fun _ _ => rfl) (fun _ _ => Nat.le_of_ble_eq_true rfl) ?_
  refine v_aload_n hB dTr_writeHeader_5 rfl ?_
  refine v_iload_n hB dTr_writeHeader_6 rfl ?_
  refine v_puti hC (klTr hY.2) (F := FTr Y _) (by assumption) 1 dTr_writeHeader_7 kfTr_54 (by decide) rfl rfl rfl (fun _ _ => rfl) (fun _ _ => Nat.le_of_ble_eq_true rfl) ?_
  refine v_aload_n hB dTr_writeHeader_10 rfl ?_
  refine v_iconst hB dTr_writeHeader_11 (v := 1) (by decide) ?_
  refine v_puti hC (klTr hY.2) (F := FTr Y _) (by assumption) 2 dTr_writeHeader_12 kfTr_84 (by decide) rfl (by decide) (by decide) (fun _ _ => rfl) (fun _ _ => Nat.le_of_ble_eq_true rfl) ?_
  exact v_vret hC rfl dTr_writeHeader_15 ⟨rfl, rfl⟩

theorem low4 : ∀ v, v < 5 → 0 < v → mxI 0 (mnI (nI v - 1) 3) = nI (v - 1) := by decide +kernel
set_option maxHeartbeats 4000000 in
set_option maxRecDepth 100000 in
theorem cTr_lowestDepth {l : Launch} {Y : Yt} (hY : YB Y) (hW : YW Y) {q v : Nat} (μ : Mu) (hq : q < 40) (hr : μ.1 2 0 = nI q) (hv : μ.1 (pgI q) 0 = nI v) (h0 : 0 < v) (hv4 : v ≤ 4) : Ct l Y yTr_lowestDepth wTr_lowestDepth ({ frames := 1, cells := 0, slots := 0, locals := 30 }) [.ref (ad Y 2)] μ (PE (some (.int (nI (v - 1)))) μ) := by
  refine ct_of hY.1 (by decide) rfl (Nat.le_of_ble_eq_true rfl) (lv := [some (.ref (ad Y 2))]) rfl (fun X hC => ?_)
  have hB := hC.B
  obtain ⟨hFa, hDi, hTr, hSe, h4, h5, h6b, h7, h8, hpages, htrail, hturns, hplaces, hlog, hlp, hfound, hwait, hsq, hlk, hPg, hrow, hlrow, hfb⟩ := id hW
  obtain ⟨-, hpa, har, hbx⟩ := hPg q hq
  refine v_iconst hB dTr_lowestDepth_0 (v := 0) (by decide) ?_
  refine v_aload_n hB dTr_lowestDepth_1 rfl ?_
  refine v_aload_n hB dTr_lowestDepth_2 rfl ?_
  refine v_get hC (klTr hY.2) (F := FTr Y _) (by assumption) 0 dTr_lowestDepth_3 kfTr_39 (by decide) rfl ?_
  rw [hr]
  refine v_callV hC tbok kmTr_46 kiTr_at ksTr_at dTr_lowestDepth_6 (F := FTr Y _) (by assumption) (by rw [hY.2]; rfl) (cTr_at hY hW hq μ) rfl rfl ⟨Nat.le_of_ble_eq_true rfl, Nat.le_of_ble_eq_true rfl⟩ rfl rfl (Nat.le_of_ble_eq_true rfl) ⟨Nat.zero_le _, Nat.zero_le _⟩ (kE rfl ?_)
  refine v_get hC (klPa hY.2) (F := FPa Y _) (by assumption) 0 dTr_lowestDepth_9 kfTr_35 (by decide) rfl ?_
  refine v_iconst hB dTr_lowestDepth_12 (v := 1) (by decide) ?_
  refine v_isub hB dTr_lowestDepth_13 ?_
  refine v_iconst hB dTr_lowestDepth_14 (v := 3) (by decide) ?_
  refine v_mmin hC (kmTr_110).1 dTr_lowestDepth_15 (Nat.le_of_ble_eq_true rfl) (Nat.le_of_ble_eq_true rfl) ⟨Nat.zero_le _, Nat.zero_le _⟩ ?_
  refine v_mmax hC (kmTr_116).1 dTr_lowestDepth_18 (Nat.le_of_ble_eq_true rfl) (Nat.le_of_ble_eq_true rfl) ⟨Nat.zero_le _, Nat.zero_le _⟩ ?_
  exact v_iret hC rfl dTr_lowestDepth_21 ⟨by rw [hv, low4 v (by omega) h0], rfl⟩

set_option maxHeartbeats 4000000 in
set_option maxRecDepth 100000 in
theorem cTr_tellFrame {l : Launch} {Y : Yt} (hY : YB Y) (hW : YW Y) {p s : Nat} (hp : p < 40) {μ : Mu} {K : Mu → Prop} (h : tfW μ p s K) : Ct l Y yTr_tellFrame wTr_tellFrame ({ frames := 2, cells := 0, slots := 0, locals := 44 }) [.ref (ad Y 2), .ref (ad Y (pgI p)), .int (nI s)] μ (PV K) := by
  refine ct_of hY.1 (by decide) rfl (Nat.le_of_ble_eq_true rfl) (lv := [some (.ref (ad Y 2)), some (.ref (ad Y (pgI p))), some (.int (nI s)), none]) rfl (fun X hC => ?_)
  have hB := hC.B
  obtain ⟨hFa, hDi, hTr, hSe, h4, h5, h6b, h7, h8, hpages, htrail, hturns, hplaces, hlog, hlp, hfound, hwait, hsq, hlk, hPg, hrow, hlrow, hfb⟩ := id hW
  obtain ⟨-, hpa, har, hbx⟩ := hPg p hp
  obtain ⟨c, u, hs, hc, hu6, hcb, hu, hK⟩ := h
  have hbs := hbx s hs
  refine v_aload_n hB dTr_tellFrame_0 rfl ?_
  refine v_get hC (klPa hY.2) (F := FPa Y _) (by assumption) 3 dTr_tellFrame_1 kfTr_122 (by decide) rfl ?_
  refine v_iload_n hB dTr_tellFrame_4 rfl ?_
  refine v_aald hC har s dTr_tellFrame_5 rfl (by omega) (by decide) ?_
  refine v_astore_n hB dTr_tellFrame_6 rfl (by decide) (lv' := [_, _, _, _]) rfl ?_
  refine v_aload_n hB dTr_tellFrame_7 rfl ?_
  refine v_get hC (klTr hY.2) (F := FTr Y _) (by assumption) 6 dTr_tellFrame_8 kfTr_27 (by decide) rfl ?_
  refine v_aload_n hB dTr_tellFrame_11 rfl ?_
  refine v_get hC (klBo hY.2) (F := FBo Y _) (by assumption) 4 dTr_tellFrame_12 kfTr_126 (by decide) rfl ?_
  rw [hcb]
  refine v_puti hC (klBo hY.2) (F := FBo Y _) (by assumption) 4 dTr_tellFrame_15 kfTr_126 (by decide) rfl rfl rfl (fun _ _ => rfl) (fun _ _ => Nat.le_of_ble_eq_true rfl) ?_
  refine v_aload_n hB dTr_tellFrame_18 rfl ?_
  refine v_aload_n hB dTr_tellFrame_19 rfl ?_
  refine v_get hC (klBo hY.2) (F := FBo Y _) (by assumption) 4 dTr_tellFrame_20 kfTr_126 (by decide) rfl ?_
  have e1 : (wi μ 5 4 (nI c)).1 (bxI p s) 4 = nI c := by rw [wi_at]; split; rfl; exact hcb
  rw [e1]
  refine v_callV hC tbok kmTr_46 kiTr_at ksTr_at dTr_tellFrame_23 (F := FTr Y _) (by assumption) (by rw [hY.2]; rfl) (cTr_at hY hW hc _) rfl rfl ⟨Nat.le_of_ble_eq_true rfl, Nat.le_of_ble_eq_true rfl⟩ rfl rfl (Nat.le_of_ble_eq_true rfl) ⟨Nat.zero_le _, Nat.zero_le _⟩ (kE rfl ?_)
  refine v_iconst hB dTr_tellFrame_26 (v := -1) (by decide) ?_
  refine v_aload_n hB dTr_tellFrame_27 rfl ?_
  refine v_get hC (klTr hY.2) (F := FTr Y _) (by assumption) 6 dTr_tellFrame_28 kfTr_27 (by decide) rfl ?_
  refine v_callV hC tbok kmTr_168 kiPa_frame ksPa_frame dTr_tellFrame_31 (F := FPa Y _) (hPg c hc).2.1 (by rw [hY.2]; rfl) (cPa_frame hY (hPg c hc) h5 (-1) _ (by rw [wi_ne _ _ _ (pg_5 c)]; exact hu) hu6) rfl rfl ⟨Nat.le_of_ble_eq_true rfl, Nat.le_of_ble_eq_true rfl⟩ rfl rfl (Nat.le_of_ble_eq_true rfl) ⟨Nat.zero_le _, Nat.zero_le _⟩ (kE rfl ?_)
  refine v_aload_n hB dTr_tellFrame_34 rfl ?_
  refine v_aload_n hB dTr_tellFrame_35 rfl ?_
  refine v_get hC (klTr hY.2) (F := FTr Y _) (by assumption) 6 dTr_tellFrame_36 kfTr_27 (by decide) rfl ?_
  refine v_callV hC tbok kmTr_132 kiBo_isSame ksBo_isSame dTr_tellFrame_39 (F := FBo Y _) (by assumption) (by rw [hY.2]; rfl) (cBo_isSame hY hbs h5 _) rfl rfl ⟨Nat.le_of_ble_eq_true rfl, Nat.le_of_ble_eq_true rfl⟩ rfl rfl (Nat.le_of_ble_eq_true rfl) ⟨Nat.zero_le _, Nat.zero_le _⟩ (kE rfl ?_)
  refine v_if_ne hB 58 dTr_tellFrame_42 (by decide) (fun c1 => ?_) (fun c1 => ?_)
  · exact v_vret hC rfl dTr_tellFrame_58 ⟨rfl, by rw [tfM, if_pos (bI_n.mp c1)] at hK; exact hK⟩
  refine v_aload_n hB dTr_tellFrame_45 rfl ?_
  refine v_aload_n hB dTr_tellFrame_46 rfl ?_
  refine v_get hC (klTr hY.2) (F := FTr Y _) (by assumption) 6 dTr_tellFrame_47 kfTr_27 (by decide) rfl ?_
  refine v_callV hC tbok kmTr_171 kiBo_become ksBo_become dTr_tellFrame_50 (F := FBo Y _) (by assumption) (by rw [hY.2]; rfl) (cBo_become hY hbs h5 _) rfl rfl ⟨Nat.le_of_ble_eq_true rfl, Nat.le_of_ble_eq_true rfl⟩ rfl rfl (Nat.le_of_ble_eq_true rfl) ⟨Nat.zero_le _, Nat.zero_le _⟩ (kE rfl ?_)
  refine v_aload_n hB dTr_tellFrame_53 rfl ?_
  refine v_iconst hB dTr_tellFrame_54 (v := 1) (by decide) ?_
  refine v_puti hC (klPa hY.2) (F := FPa Y _) (by assumption) 2 dTr_tellFrame_55 kfTr_88 (by decide) rfl (by decide) (by decide) (fun _ _ => rfl) (fun _ _ => Nat.le_of_ble_eq_true rfl) ?_
  exact v_vret hC rfl dTr_tellFrame_58 ⟨rfl, by rw [tfM, if_neg (by rw [bI_0.mp c1]; decide)] at hK; exact hK⟩

set_option maxHeartbeats 4000000 in
set_option maxRecDepth 100000 in
theorem cTr_hang {l : Launch} {Y : Yt} (hY : YB Y) (hW : YW Y) {p q : Nat} (hp : p < 40) {μ : Mu} {K : Mu → Prop} (h : hgW μ p q K) : Ct l Y yTr_hang wTr_hang ({ frames := 2, cells := 0, slots := 0, locals := 44 }) [.ref (ad Y 2), .ref (ad Y (pgI p)), .int (nI q)] μ (PV K) := by
  refine ct_of hY.1 (by decide) rfl (Nat.le_of_ble_eq_true rfl) (lv := [some (.ref (ad Y 2)), some (.ref (ad Y (pgI p))), some (.int (nI q))]) rfl (fun X hC => ?_)
  have hB := hC.B
  obtain ⟨hFa, hDi, hTr, hSe, h4, h5, h6b, h7, h8, hpages, htrail, hturns, hplaces, hlog, hlp, hfound, hwait, hsq, hlk, hPg, hrow, hlrow, hfb⟩ := id hW
  obtain ⟨u, v, hq, hu6, hv6, hu, hv, hK⟩ := h
  have hpP := hPg p hp
  have hpa := hpP.2.1
  refine v_aload_n hB dTr_hang_0 rfl ?_
  refine v_get hC (klTr hY.2) (F := FTr Y _) (by assumption) 6 dTr_hang_1 kfTr_27 (by decide) rfl ?_
  refine v_iload_n hB dTr_hang_4 rfl ?_
  refine v_puti hC (klBo hY.2) (F := FBo Y _) (by assumption) 4 dTr_hang_5 kfTr_126 (by decide) rfl rfl rfl (fun _ _ => rfl) (fun _ _ => Nat.le_of_ble_eq_true rfl) ?_
  refine v_aload_n hB dTr_hang_8 rfl ?_
  refine v_iload_n hB dTr_hang_9 rfl ?_
  refine v_callV hC tbok kmTr_46 kiTr_at ksTr_at dTr_hang_10 (F := FTr Y _) (by assumption) (by rw [hY.2]; rfl) (cTr_at hY hW hq _) rfl rfl ⟨Nat.le_of_ble_eq_true rfl, Nat.le_of_ble_eq_true rfl⟩ rfl rfl (Nat.le_of_ble_eq_true rfl) ⟨Nat.zero_le _, Nat.zero_le _⟩ (kE rfl ?_)
  refine v_iconst hB dTr_hang_13 (v := -1) (by decide) ?_
  refine v_aload_n hB dTr_hang_14 rfl ?_
  refine v_get hC (klTr hY.2) (F := FTr Y _) (by assumption) 6 dTr_hang_15 kfTr_27 (by decide) rfl ?_
  refine v_callV hC tbok kmTr_168 kiPa_frame ksPa_frame dTr_hang_18 (F := FPa Y _) (hPg q hq).2.1 (by rw [hY.2]; rfl) (cPa_frame hY (hPg q hq) h5 (-1) _ (by rw [wi_ne _ _ _ (pg_5 q)]; exact hu) hu6) rfl rfl ⟨Nat.le_of_ble_eq_true rfl, Nat.le_of_ble_eq_true rfl⟩ rfl rfl (Nat.le_of_ble_eq_true rfl) ⟨Nat.zero_le _, Nat.zero_le _⟩ (kE rfl ?_)
  refine v_aload_n hB dTr_hang_21 rfl ?_
  refine v_aload_n hB dTr_hang_22 rfl ?_
  refine v_get hC (klTr hY.2) (F := FTr Y _) (by assumption) 6 dTr_hang_23 kfTr_27 (by decide) rfl ?_
  refine v_callV hC tbok kmTr_50 kiPa_add ksPa_add dTr_hang_26 (F := FPa Y _) (by assumption) (by rw [hY.2]; rfl) (cPa_add hY hpP h5 _ (by rw [frM_ne _ _ _ _ (pg_5 p), wi_ne _ _ _ (pg_5 p)]; exact hv) hv6) rfl rfl ⟨Nat.le_of_ble_eq_true rfl, Nat.le_of_ble_eq_true rfl⟩ rfl rfl (Nat.le_of_ble_eq_true rfl) ⟨Nat.zero_le _, Nat.zero_le _⟩ (kE rfl ?_)
  exact v_vret hC rfl dTr_hang_29 ⟨rfl, hK⟩

set_option maxHeartbeats 4000000 in
set_option maxRecDepth 100000 in
theorem cTr_merge {l : Launch} {Y : Yt} (hY : YB Y) (hW : YW Y) {p k g : Nat} (hp : p < 40) {μ : Mu} {K : Mu → Prop} (h : mgW μ p k g K) : Ct l Y yTr_merge wTr_merge ({ frames := 2, cells := 0, slots := 0, locals := 42 }) [.ref (ad Y 2), .ref (ad Y (pgI p)), .int (nI k), .int (nI g)] μ (PV K) := by
  refine ct_of hY.1 (by decide) rfl (Nat.le_of_ble_eq_true rfl) (lv := [some (.ref (ad Y 2)), some (.ref (ad Y (pgI p))), some (.int (nI k)), some (.int (nI g)), none, none, none]) rfl (fun X hC => ?_)
  have hB := hC.B
  obtain ⟨hFa, hDi, hTr, hSe, h4, h5, h6b, h7, h8, hpages, htrail, hturns, hplaces, hlog, hlp, hfound, hwait, hsq, hlk, hPg, hrow, hlrow, hfb⟩ := id hW
  obtain ⟨f, e, u, v, n, hf, he, hfe, hpf, hpe, hk, hg, hn, huv, hkg, hbf, hbe, hu, hv, hnn, hK⟩ := h
  have hpP := hPg p hp
  obtain ⟨-, hpa, har, hbx⟩ := hPg p hp
  have hfP := hPg f hf
  have heP := hPg e he
  obtain ⟨-, hea, hear, hebx⟩ := hPg e he
  have hbk := hbx k hk
  have hbg := hbx g (by omega)
  refine v_iload_n hB dTr_merge_0 rfl ?_
  refine v_iload_n hB dTr_merge_1 rfl ?_
  refine v_icmp_ne hB 6 dTr_merge_2 (by decide) (fun c => ?_) (fun c => ?_)
  rotate_left
  · exact absurd ((nI_eq (by omega) (by omega)).mp c) hkg
  refine v_aload_n hB dTr_merge_6 rfl ?_
  refine v_aload_n hB dTr_merge_7 rfl ?_
  refine v_get hC (klPa hY.2) (F := FPa Y _) (by assumption) 3 dTr_merge_8 kfTr_122 (by decide) rfl ?_
  refine v_iload_n hB dTr_merge_11 rfl ?_
  refine v_aald hC har k dTr_merge_12 rfl (by omega) (by decide) ?_
  refine v_get hC (klBo hY.2) (F := FBo Y _) (by assumption) 4 dTr_merge_13 kfTr_126 (by decide) rfl ?_
  rw [hbf]
  refine v_callV hC tbok kmTr_46 kiTr_at ksTr_at dTr_merge_16 (F := FTr Y _) (by assumption) (by rw [hY.2]; rfl) (cTr_at hY hW hf μ) rfl rfl ⟨Nat.le_of_ble_eq_true rfl, Nat.le_of_ble_eq_true rfl⟩ rfl rfl (Nat.le_of_ble_eq_true rfl) ⟨Nat.zero_le _, Nat.zero_le _⟩ (kE rfl ?_)
  refine v_astore hB dTr_merge_19 rfl (by decide) (lv' := [_, _, _, _, _, _, _]) rfl ?_
  refine v_aload_n hB dTr_merge_21 rfl ?_
  refine v_aload_n hB dTr_merge_22 rfl ?_
  refine v_get hC (klPa hY.2) (F := FPa Y _) (by assumption) 3 dTr_merge_23 kfTr_122 (by decide) rfl ?_
  refine v_iload_n hB dTr_merge_26 rfl ?_
  refine v_aald hC har g dTr_merge_27 rfl (by omega) (by decide) ?_
  refine v_get hC (klBo hY.2) (F := FBo Y _) (by assumption) 4 dTr_merge_28 kfTr_126 (by decide) rfl ?_
  rw [hbe]
  refine v_callV hC tbok kmTr_46 kiTr_at ksTr_at dTr_merge_31 (F := FTr Y _) (by assumption) (by rw [hY.2]; rfl) (cTr_at hY hW he μ) rfl rfl ⟨Nat.le_of_ble_eq_true rfl, Nat.le_of_ble_eq_true rfl⟩ rfl rfl (Nat.le_of_ble_eq_true rfl) ⟨Nat.zero_le _, Nat.zero_le _⟩ (kE rfl ?_)
  refine v_astore hB dTr_merge_34 rfl (by decide) (lv' := [_, _, _, _, _, _, _]) rfl ?_
  refine v_iconst hB dTr_merge_36 (v := 0) (by decide) ?_
  refine v_istore hB dTr_merge_37 rfl (by decide) (lv' := [_, _, _, _, _, _, _]) rfl ?_
  have loop : ∀ (r i w : Nat) (ν : Mu), i + r = v → w + r = u + v → ν.1 (pgI f) 1 = nI w → ν.1 (pgI e) 1 = nI v → ν.1 (pgI p) 1 = nI n → mgL f e r i w ν = mgL f e v 0 u μ → VG X (yA Y) 7 0 0 (VQ X Y (PV K)) (yI Y (ν)) 39 [some (.ref (ad Y 2)), some (.ref (ad Y (pgI p))), some (.int (nI k)), some (.int (nI g)), some (.ref (ad Y (pgI f))), some (.ref (ad Y (pgI e))), some (.int (nI i))] [] := by
    intro r
    induction r with
    | zero =>
      intro i w ν hi hw hfu heu hpu hfin
      have hfin : ν = mgL f e v 0 u μ := hfin
      refine v_iload hB dTr_merge_39 rfl ?_
      refine v_aload hB dTr_merge_41 rfl ?_
      refine v_get hC (klPa hY.2) (F := FPa Y _) (by assumption) 1 dTr_merge_43 kfTr_129 (by decide) rfl ?_
      refine v_icmp_ge hB 68 dTr_merge_46 (by decide) (fun c1 => ?_) (fun c1 => ?_)
      · refine v_aload hB dTr_merge_68 rfl ?_
        refine v_iconst hB dTr_merge_70 (v := 0) (by decide) ?_
        refine v_callV hC tbok kmTr_104 kiPa_open ksPa_open dTr_merge_71 (F := FPa Y _) (by assumption) (by rw [hY.2]; rfl) (cPa_open hY heP 0 ν) rfl rfl ⟨Nat.le_of_ble_eq_true rfl, Nat.le_of_ble_eq_true rfl⟩ rfl rfl (Nat.le_of_ble_eq_true rfl) ⟨Nat.zero_le _, Nat.zero_le _⟩ (kE rfl ?_)
        refine v_aload_n hB dTr_merge_74 rfl ?_
        refine v_iload_n hB dTr_merge_75 rfl ?_
        refine v_callV hC tbok kmTr_73 kiPa_drop ksPa_drop dTr_merge_76 (F := FPa Y _) (by assumption) (by rw [hY.2]; rfl) (cPa_drop hY hpP _ (by unfold opn; rw [wi_ne _ _ _ (pg_inj hpe), wi_ne _ _ _ (pg_inj hpe), wi_ne _ _ _ (pg_inj hpe)]; exact hpu) hg hn) rfl rfl ⟨Nat.le_of_ble_eq_true rfl, Nat.le_of_ble_eq_true rfl⟩ rfl rfl (Nat.le_of_ble_eq_true rfl) ⟨Nat.zero_le _, Nat.zero_le _⟩ (kE rfl ?_)
        exact v_vret hC rfl dTr_merge_79 ⟨rfl, by rw [hfin]; exact hK⟩
      · exact absurd (by rw [heu]; exact nI_le (by omega) (by omega)) c1
    | succ r ih =>
      intro i w ν hi hw hfu heu hpu hfin
      have hbi := hebx i (by omega)
      refine v_iload hB dTr_merge_39 rfl ?_
      refine v_aload hB dTr_merge_41 rfl ?_
      refine v_get hC (klPa hY.2) (F := FPa Y _) (by assumption) 1 dTr_merge_43 kfTr_129 (by decide) rfl ?_
      refine v_icmp_ge hB 68 dTr_merge_46 (by decide) (fun c1 => ?_) (fun c1 => ?_)
      · exact absurd c1 (by rw [heu]; exact (fun q => absurd ((nI_leI (by omega) (by omega)).mp q) (by omega)))
      refine v_aload hB dTr_merge_49 rfl ?_
      refine v_aload hB dTr_merge_51 rfl ?_
      refine v_get hC (klPa hY.2) (F := FPa Y _) (by assumption) 3 dTr_merge_53 kfTr_122 (by decide) rfl ?_
      refine v_iload hB dTr_merge_56 rfl ?_
      refine v_aald hC hear i dTr_merge_58 rfl (by omega) (by decide) ?_
      refine v_callV hC tbok kmTr_50 kiPa_add ksPa_add dTr_merge_59 (F := FPa Y _) hfP.2.1 (by rw [hY.2]; rfl) (cPa_add hY hfP hbi ν hfu (by omega)) rfl rfl ⟨Nat.le_of_ble_eq_true rfl, Nat.le_of_ble_eq_true rfl⟩ rfl rfl (Nat.le_of_ble_eq_true rfl) ⟨Nat.zero_le _, Nat.zero_le _⟩ (kE rfl ?_)
      refine v_iinc hB dTr_merge_62 rfl (y := _) rfl rfl (by decide) (lv' := [_, _, _, _, _, _, _]) rfl ?_
      refine v_goto hB 39 dTr_merge_65 (by decide) ?_
      rw [i1]
      have hne : ∀ q, q < 40 → q ≠ f → (addM ν f w (bxI e i)).1 (pgI q) = ν.1 (pgI q) := fun q hq hqf => by
        unfold addM
        rw [wi_ne _ _ _ (pg_inj hqf), wi_ne _ _ _ (pg_inj hqf), bec_ne _ _ (bx_pg hq).symm]
      exact ih (i + 1) (w + 1) _ (by omega) (by omega) (by unfold addM; simp only [wi_at]; simp) (by rw [hne e he hfe.symm]; exact heu) (by rw [hne p hp hpf]; exact hpu) hfin
  exact loop v 0 u μ (by omega) rfl hu hv hnn rfl

set_option maxHeartbeats 4000000 in
set_option maxRecDepth 100000 in
theorem cTr_moveOut {l : Launch} {Y : Yt} (hY : YB Y) (hW : YW Y) {f t u v : Nat} (sl : Int32) (hf : f < 40) (ht : t < 40) (hft : f ≠ t) {μ : Mu} {K : Mu → Prop} (hu : μ.1 (pgI f) 1 = nI u) (hu6 : u ≤ 6) (hv : μ.1 (pgI t) 1 = nI v) (h : mvW f sl t K u u v μ) : Ct l Y yTr_moveOut wTr_moveOut ({ frames := 2, cells := 0, slots := 0, locals := 42 }) [.ref (ad Y 2), .ref (ad Y (pgI f)), .int sl, .ref (ad Y (pgI t))] μ (PV K) := by
  refine ct_of hY.1 (by decide) rfl (Nat.le_of_ble_eq_true rfl) (lv := [some (.ref (ad Y 2)), some (.ref (ad Y (pgI f))), some (.int sl), some (.ref (ad Y (pgI t))), none]) rfl (fun X hC => ?_)
  have hB := hC.B
  obtain ⟨hFa, hDi, hTr, hSe, h4, h5, h6b, h7, h8, hpages, htrail, hturns, hplaces, hlog, hlp, hfound, hwait, hsq, hlk, hPg, hrow, hlrow, hfb⟩ := id hW
  have hfP := hPg f hf
  have htP := hPg t ht
  obtain ⟨-, hfa, hfar, hfbx⟩ := hPg f hf
  have loop : ∀ (k u v : Nat) (ν : Mu), k ≤ u → u ≤ 6 → ν.1 (pgI f) 1 = nI u → ν.1 (pgI t) 1 = nI v → mvW f sl t K k u v ν → VG X (yA Y) 5 0 0 (VQ X Y (PV K)) (yI Y (ν)) 8 [some (.ref (ad Y 2)), some (.ref (ad Y (pgI f))), some (.int sl), some (.ref (ad Y (pgI t))), some (.int (nI k - 1))] [] := by
    intro k
    induction k with
    | zero =>
      intro u v ν hk h6 hu hv h
      refine v_iload hB dTr_moveOut_8 rfl ?_
      refine v_if_lt hB 46 dTr_moveOut_10 (by decide) (fun c => ?_) (fun c => ?_)
      · exact v_vret hC rfl dTr_moveOut_46 ⟨rfl, h⟩
      · exact absurd (by decide) c
    | succ k ih =>
      intro u v ν hk h6 hu hv h
      have hbk := hfbx k (by omega)
      rw [nI_pred]
      refine v_iload hB dTr_moveOut_8 rfl ?_
      refine v_if_lt hB 46 dTr_moveOut_10 (by decide) (fun c => ?_) (fun c => ?_)
      · exact absurd c (nI_pos (by omega))
      refine v_iload_n hB dTr_moveOut_13 rfl ?_
      refine v_iload hB dTr_moveOut_14 rfl ?_
      refine v_ishr hB dTr_moveOut_16 ?_
      refine v_iconst hB dTr_moveOut_17 (v := 1) (by decide) ?_
      refine v_iand hB dTr_moveOut_18 ?_
      refine v_iconst hB dTr_moveOut_19 (v := 1) (by decide) ?_
      refine v_icmp_ne hB 40 dTr_moveOut_20 (by decide) (fun b => ?_) (fun b => ?_)
      · refine v_iinc hB dTr_moveOut_40 rfl (y := _) rfl rfl (by decide) (lv' := [_, _, _, _, _]) rfl ?_
        refine v_goto hB 8 dTr_moveOut_43 (by decide) ?_
        rw [im1]
        exact ih u v ν (by omega) h6 hu hv (by rw [mvW, if_neg b] at h; exact h)
      · rw [mvW, if_pos b] at h
        obtain ⟨h1, h2, h3, h4⟩ := h
        refine v_aload_n hB dTr_moveOut_23 rfl ?_
        refine v_aload_n hB dTr_moveOut_24 rfl ?_
        refine v_get hC (klPa hY.2) (F := FPa Y _) (by assumption) 3 dTr_moveOut_25 kfTr_122 (by decide) rfl ?_
        refine v_iload hB dTr_moveOut_28 rfl ?_
        refine v_aald hC hfar k dTr_moveOut_30 rfl (by omega) (by decide) ?_
        refine v_callV hC tbok kmTr_50 kiPa_add ksPa_add dTr_moveOut_31 (F := FPa Y _) htP.2.1 (by rw [hY.2]; rfl) (cPa_add hY htP hbk ν hv h3) rfl rfl ⟨Nat.le_of_ble_eq_true rfl, Nat.le_of_ble_eq_true rfl⟩ rfl rfl (Nat.le_of_ble_eq_true rfl) ⟨Nat.zero_le _, Nat.zero_le _⟩ (kE rfl ?_)
        refine v_aload_n hB dTr_moveOut_34 rfl ?_
        refine v_iload hB dTr_moveOut_35 rfl ?_
        have e1 : (addM ν t v (bxI f k)).1 (pgI f) = ν.1 (pgI f) := by
          unfold addM
          rw [wi_ne _ _ _ (pg_inj hft), wi_ne _ _ _ (pg_inj hft), bec_ne _ _ (bx_pg hf).symm]
        refine v_callV hC tbok kmTr_73 kiPa_drop ksPa_drop dTr_moveOut_37 (F := FPa Y _) (by assumption) (by rw [hY.2]; rfl) (cPa_drop hY hfP _ (by rw [e1]; exact hu) h1 h2) rfl rfl ⟨Nat.le_of_ble_eq_true rfl, Nat.le_of_ble_eq_true rfl⟩ rfl rfl (Nat.le_of_ble_eq_true rfl) ⟨Nat.zero_le _, Nat.zero_le _⟩ (kE rfl ?_)
        refine v_iinc hB dTr_moveOut_40 rfl (y := _) rfl rfl (by decide) (lv' := [_, _, _, _, _]) rfl ?_
        refine v_goto hB 8 dTr_moveOut_43 (by decide) ?_
        rw [im1]
        exact ih (u - 1) (v + 1) _ (by omega) (by omega) (by unfold drpM; simp only [wi_at]; rw [bec_ne _ _ (bx_pg hf).symm]; simp [wi_at]) (by unfold drpM; rw [wi_ne _ _ _ (pg_inj hft.symm), bec_ne _ _ (bx_pg ht).symm, wi_ne _ _ _ (pg_inj hft.symm)]; unfold addM; simp only [wi_at]; simp) h4
  refine v_aload_n hB dTr_moveOut_0 rfl ?_
  refine v_get hC (klPa hY.2) (F := FPa Y _) (by assumption) 1 dTr_moveOut_1 kfTr_129 (by decide) rfl ?_
  refine v_iconst hB dTr_moveOut_4 (v := 1) (by decide) ?_
  refine v_isub hB dTr_moveOut_5 ?_
  rw [hu]
  refine v_istore hB dTr_moveOut_6 rfl (by decide) (lv' := [_, _, _, _, _]) rfl ?_
  exact loop u u v μ (Nat.le_refl u) hu6 hu hv h

set_option maxHeartbeats 4000000 in
set_option maxRecDepth 100000 in
theorem cTr_openPage {l : Launch} {Y : Yt} (hY : YB Y) (hW : YW Y) (v : Int32) (μ : Mu) (h : ∃ n, 0 < n ∧ n < 40 ∧ μ.1 (pgI n) 0 = 0) : Ct l Y yTr_openPage wTr_openPage ({ frames := 1, cells := 0, slots := 0, locals := 21 }) [.ref (ad Y 2), .int v] μ (PI (fun x ν => ∃ n, 0 < n ∧ n < 40 ∧ x = nI n ∧ μ.1 (pgI n) 0 = 0 ∧ ν = opn μ n v)) := by
  refine ct_of hY.1 (by decide) rfl (Nat.le_of_ble_eq_true rfl) (lv := [some (.ref (ad Y 2)), some (.int v), none]) rfl (fun X hC => ?_)
  have hB := hC.B
  obtain ⟨hFa, hDi, hTr, hSe, h4, h5, h6b, h7, h8, hpages, htrail, hturns, hplaces, hlog, hlp, hfound, hwait, hsq, hlk, hPg, hrow, hlrow, hfb⟩ := id hW
  obtain ⟨n0, hn0, hn40, hfree⟩ := h
  have loop : ∀ (r k : Nat), k + r = n0 → 0 < k → VG X (yA Y) 3 0 0 (VQ X Y (PI (fun x ν => ∃ n, 0 < n ∧ n < 40 ∧ x = nI n ∧ μ.1 (pgI n) 0 = 0 ∧ ν = opn μ n v))) (yI Y (μ)) 2 [some (.ref (ad Y 2)), some (.int v), some (.int (nI k))] [] := by
    have found : ∀ k, 0 < k → k < 40 → μ.1 (pgI k) 0 = 0 → VG X (yA Y) 3 0 0 (VQ X Y (PI (fun x ν => ∃ n, 0 < n ∧ n < 40 ∧ x = nI n ∧ μ.1 (pgI n) 0 = 0 ∧ ν = opn μ n v))) (yI Y (μ)) 20 [some (.ref (ad Y 2)), some (.int v), some (.int (nI k))] [] := by
      intro k hk0 hk hz
      refine v_aload_n hB dTr_openPage_20 rfl ?_
      refine v_get hC (klTr hY.2) (F := FTr Y _) (by assumption) 3 dTr_openPage_21 kfTr_11 (by decide) rfl ?_
      refine v_iload_n hB dTr_openPage_24 rfl ?_
      refine v_aald hC hpages k dTr_openPage_25 rfl (by omega) (by decide) ?_
      refine v_iload_n hB dTr_openPage_26 rfl ?_
      refine v_callV hC tbok kmTr_104 kiPa_open ksPa_open dTr_openPage_27 (F := FPa Y _) (hPg k hk).2.1 (by rw [hY.2]; rfl) (cPa_open hY (hPg k hk) v μ) rfl rfl ⟨Nat.le_of_ble_eq_true rfl, Nat.le_of_ble_eq_true rfl⟩ rfl rfl (Nat.le_of_ble_eq_true rfl) ⟨Nat.zero_le _, Nat.zero_le _⟩ (kE rfl ?_)
      refine v_iload_n hB dTr_openPage_30 rfl ?_
      exact v_iret hC rfl dTr_openPage_31 ⟨_, rfl, k, hk0, hk, rfl, hz, rfl⟩
    intro r
    induction r with
    | zero =>
      intro k hk hk0
      obtain rfl : k = n0 := by omega
      have hpa := (hPg k hn40).2.1
      refine v_iload_n hB dTr_openPage_2 rfl ?_
      refine v_bipush hB dTr_openPage_3 (v := 40) (by decide) ?_
      refine v_icmp_ge hB 38 dTr_openPage_5 (by decide) (fun c => ?_) (fun c => ?_)
      · exact absurd c (by rw [show (40 : Int32) = nI 40 from rfl]; exact (fun q => absurd ((nI_leI (by omega) (by omega)).mp q) (by omega)))
      refine v_aload_n hB dTr_openPage_8 rfl ?_
      refine v_get hC (klTr hY.2) (F := FTr Y _) (by assumption) 3 dTr_openPage_9 kfTr_11 (by decide) rfl ?_
      refine v_iload_n hB dTr_openPage_12 rfl ?_
      refine v_aald hC hpages k dTr_openPage_13 rfl (by omega) (by decide) ?_
      refine v_get hC (klPa hY.2) (F := FPa Y _) (by assumption) 0 dTr_openPage_14 kfTr_35 (by decide) rfl ?_
      refine v_if_ne hB 32 dTr_openPage_17 (by decide) (fun c2 => ?_) (fun c2 => ?_)
      · exact absurd hfree c2
      exact found k hk0 hn40 hfree
    | succ r ih =>
      intro k hk hk0
      have hk40 : k < 40 := by omega
      have hpa := (hPg k hk40).2.1
      refine v_iload_n hB dTr_openPage_2 rfl ?_
      refine v_bipush hB dTr_openPage_3 (v := 40) (by decide) ?_
      refine v_icmp_ge hB 38 dTr_openPage_5 (by decide) (fun c => ?_) (fun c => ?_)
      · exact absurd c (by rw [show (40 : Int32) = nI 40 from rfl]; exact (fun q => absurd ((nI_leI (by omega) (by omega)).mp q) (by omega)))
      refine v_aload_n hB dTr_openPage_8 rfl ?_
      refine v_get hC (klTr hY.2) (F := FTr Y _) (by assumption) 3 dTr_openPage_9 kfTr_11 (by decide) rfl ?_
      refine v_iload_n hB dTr_openPage_12 rfl ?_
      refine v_aald hC hpages k dTr_openPage_13 rfl (by omega) (by decide) ?_
      refine v_get hC (klPa hY.2) (F := FPa Y _) (by assumption) 0 dTr_openPage_14 kfTr_35 (by decide) rfl ?_
      refine v_if_ne hB 32 dTr_openPage_17 (by decide) (fun c2 => ?_) (fun c2 => ?_)
      · refine v_iinc hB dTr_openPage_32 rfl (y := _) rfl rfl (by decide) (lv' := [_, _, _]) rfl ?_
        refine v_goto hB 2 dTr_openPage_35 (by decide) ?_
        rw [i1]
        exact ih (k + 1) (by omega) (by omega)
      exact found k hk0 hk40 c2
  refine v_iconst hB dTr_openPage_0 (v := 1) (by decide) ?_
  refine v_istore_n hB dTr_openPage_1 rfl (by decide) (lv' := [_, _, _]) rfl ?_
  exact loop (n0 - 1) 1 (by omega) (by omega)
end
section
/-! THE TREE: bits, divisions, mending. -/
theorem v_iushr {X : Xt} {A : Nat → Prop} {n cells slots : Nat} {Q : State → Prop} {I : Heap → Prop} {pc : Nat} {lv : List (Option Value)} {st : List Value} {cc : ByteArray} (B : VB X cc) {x y : Int32} (d : decode cc pc = .ok (.iushr, 1)) (k : VG X A n cells slots Q I (pc + 1) lv (.int (x.toUInt32 >>> (y.toUInt32 &&& Int32.toUInt32 31)).toInt32 :: st)) : VG X A n cells slots Q I pc lv (.int y :: .int x :: st) := fun H locs ls hI hS hl => lv_iushr B.1 B.2 d rfl (k H locs ls hI hS hl)
theorem v_ldcw {X : Xt} {Y : Yt} {A : Nat → Prop} {n cells slots : Nat} {Q : State → Prop} {I : Heap → Prop} {pc : Nat} {lv : List (Option Value)} {st : List Value} {cc : ByteArray} {l : Launch} {rm : Room} {ret : Option FieldType} {own : String} {TB : List Cond} {z : Cond} (C : VC X Y l rm cc n ret (z :: TB) own) {idx : Nat} {v : Int32} (hw : Cond.constant own idx v ∈ TB) (d : decode cc pc = .ok (.ldc_w idx, 3)) (k : VG X A n cells slots Q I (pc + 3) lv (.int v :: st)) : VG X A n cells slots Q I pc lv st := fun H locs ls hI hS hl => lv_ldcw C.1 C.2.1 C.2.2.2.1 (C.2.2.2.2.1 _ (List.mem_cons_of_mem _ hw)) d (k H locs ls hI hS hl)
def us (x y : Int32) : Int32 := (x.toUInt32 >>> (y.toUInt32 &&& Int32.toUInt32 31)).toInt32
def bc1 (x : Int32) : Int32 := x - (us x 1 &&& 1431655765)
def bc2 (x : Int32) : Int32 := (x &&& 858993459) + (us x 2 &&& 858993459)
def bc3 (x : Int32) : Int32 := (x + us x 4) &&& 252645135
def bc4 (x : Int32) : Int32 := x + us x 8
def bc5 (x : Int32) : Int32 := x + us x 16
def bcE (x : Int32) : Int32 := bc5 (bc4 (bc3 (bc2 (bc1 x)))) &&& 63
def popN (k : Nat) : Nat := k % 2 + k / 2 % 2 + k / 4 % 2 + k / 8 % 2 + k / 16 % 2
theorem bcE_small : ∀ k, k < 32 → bcE (nI k) = nI (popN k) := by decide +kernel
theorem popN_le : ∀ k, k < 32 → popN k ≤ 5 := by decide +kernel
theorem mnI_n {a b : Nat} (ha : a < 2 ^ 31) (hb : b < 2 ^ 31) : mnI (nI a) (nI b) = nI (min a b) := by
  unfold mnI
  by_cases h : nI b < nI a
  · rw [if_pos h]
    have := (nI_ltI hb ha).mp h
    rw [Nat.min_eq_right (by omega)]
  · rw [if_neg h]
    have : ¬ b < a := fun q => h ((nI_ltI hb ha).mpr q)
    rw [Nat.min_eq_left (by omega)]
theorem mxI_n {a b : Nat} (ha : a < 2 ^ 31) (hb : b < 2 ^ 31) : mxI (nI a) (nI b) = nI (max a b) := by
  unfold mxI
  by_cases h : nI a < nI b
  · rw [if_pos h]
    have := (nI_ltI ha hb).mp h
    rw [Nat.max_eq_right (by omega)]
  · rw [if_neg h]
    have : ¬ a < b := fun q => h ((nI_ltI ha hb).mpr q)
    rw [Nat.max_eq_left (by omega)]
theorem frL_l (p : Nat) (sl : Int32) (i : Nat) : ∀ (r k : Nat) (μ : Mu), (frL p sl i r k μ).2 = μ.2
  | 0, _, _ => rfl
  | r + 1, k, μ => by
    rw [frL, frL_l p sl i r (k + 1)]
    split <;> rfl
theorem frM_l (μ : Mu) (p u : Nat) (sl : Int32) (i : Nat) : (frM μ p u sl i).2 = μ.2 := frL_l p sl i u 0 _
/-- all but the tree's two boxes is the same -/
def sm56 (μ ν : Mu) : Prop := ν.2 = μ.2 ∧ ∀ i, i ≠ 5 → i ≠ 6 → ν.1 i = μ.1 i
def dv (x : Nat) : Prop := 0 < x ∧ x < 32 ∧ 2 ≤ popN x ∧ popN x ≤ 4
/-- what is done from 'Page child' on in mend -/
def mdB (μ : Mu) (p k : Nat) (K : Mu → Prop) : Prop := ∃ c u : Nat, k < 6 ∧ c < 40 ∧ u ≤ 6 ∧ μ.1 (bxI p k) 4 = nI c ∧ μ.1 (pgI c) 1 = nI u ∧ (if u = 6 then (∃ n, 0 < n ∧ n < 40 ∧ μ.1 (pgI n) 0 = 0) ∧ ∀ n, 0 < n → n < 40 → μ.1 (pgI n) 0 = 0 → c ≠ n ∧ ∀ (x : Nat) (ν : Mu), dv x → sm56 (opn μ n (μ.1 (pgI c) 0)) ν → mvW c (nI x) n (fun ν2 => hgW ν2 p n (fun ν3 => tfW ν3 p k K)) 6 6 0 ν else tfW μ p k K)
def mdW (μ : Mu) (p s : Nat) (K : Mu → Prop) : Prop := tfW μ p s (fun μ1 => ∃ c u : Nat, s < 6 ∧ c < 40 ∧ u ≤ 6 ∧ μ1.1 (bxI p s) 4 = nI c ∧ μ1.1 (pgI c) 1 = nI u ∧ (if u < 2 then ∃ n, 2 ≤ n ∧ n ≤ 6 ∧ s < n ∧ μ1.1 (pgI p) 1 = nI n ∧ (∀ j, j < n → withB (μ1.1 (bxI p j)) (μ1.1 (bxI p s)) < 9223372036854775807) ∧ ∀ b, b < n → b ≠ s → mgW μ1 p (min s b) (max s b) (fun μ2 => mdB μ2 p (min s b) K) else mdB μ1 p s K))
/-- climb, behind its loop, and its loop -/
def clE (μ : Mu) (K : Mu → Prop) : Prop := ∃ q u v : Nat, q < 40 ∧ u ≤ 6 ∧ v < 2 ^ 30 ∧ μ.1 2 0 = nI q ∧ μ.1 (pgI q) 1 = nI u ∧ μ.1 (pgI q) 0 = nI v ∧ (if u = 6 then (∃ n, 0 < n ∧ n < 40 ∧ μ.1 (pgI n) 0 = 0) ∧ ∀ n, 0 < n → n < 40 → μ.1 (pgI n) 0 = 0 → (opn μ n (nI (v + 1))).1 2 0 = nI q ∧ hgW (opn μ n (nI (v + 1))) n q (fun ν => mdW ν n 0 (fun ν2 => K (whM ν2 (nI n) (ν2.1 2 1)))) else if 1 < v ∧ u = 1 then K (opn (whM μ (μ.1 (bxI q 0) 4) (μ.1 2 1)) q 0) else K μ)
def clL (K : Mu → Prop) : Nat → Mu → Prop
  | 0, μ => clE μ K
  | k + 1, μ => ∃ p s : Nat, p < 40 ∧ s < 6 ∧ k < 4 ∧ μ.1 10 k = nI p ∧ μ.1 11 k = nI s ∧ mdW μ p s (fun ν => clL K k ν)
set_option maxHeartbeats 4000000 in
set_option maxRecDepth 100000 in
theorem cIn_bitCount {l : Launch} {Y : Yt} (hY : YB Y) {k : Nat} (hk : k < 32) (μ : Mu) : Ct l Y yIn_bitCount wIn_bitCount ({ frames := 0, cells := 0, slots := 0, locals := 0 }) [.int (nI k)] μ (PE (some (.int (nI (popN k)))) μ) := by
  refine ct_of hY.1 (by decide) rfl (Nat.le_of_ble_eq_true rfl) (lv := [some (.int (nI k))]) rfl (fun X hC => ?_)
  have hB := hC.B
  refine v_iload_n hB dIn_bitCount_0 rfl ?_
  refine v_iload_n hB dIn_bitCount_1 rfl ?_
  refine v_iconst hB dIn_bitCount_2 (v := 1) (by decide) ?_
  refine v_iushr hB dIn_bitCount_3 ?_
  refine v_ldcw hC (v := 1431655765) kfIn_265 dIn_bitCount_4 ?_
  refine v_iand hB dIn_bitCount_7 ?_
  refine v_isub hB dIn_bitCount_8 ?_
  refine v_istore_n hB dIn_bitCount_9 rfl (by decide) (lv' := [_]) rfl ?_
  refine v_iload_n hB dIn_bitCount_10 rfl ?_
  refine v_ldcw hC (v := 858993459) kfIn_266 dIn_bitCount_11 ?_
  refine v_iand hB dIn_bitCount_14 ?_
  refine v_iload_n hB dIn_bitCount_15 rfl ?_
  refine v_iconst hB dIn_bitCount_16 (v := 2) (by decide) ?_
  refine v_iushr hB dIn_bitCount_17 ?_
  refine v_ldcw hC (v := 858993459) kfIn_266 dIn_bitCount_18 ?_
  refine v_iand hB dIn_bitCount_21 ?_
  refine v_iadd hB dIn_bitCount_22 ?_
  refine v_istore_n hB dIn_bitCount_23 rfl (by decide) (lv' := [_]) rfl ?_
  refine v_iload_n hB dIn_bitCount_24 rfl ?_
  refine v_iload_n hB dIn_bitCount_25 rfl ?_
  refine v_iconst hB dIn_bitCount_26 (v := 4) (by decide) ?_
  refine v_iushr hB dIn_bitCount_27 ?_
  refine v_iadd hB dIn_bitCount_28 ?_
  refine v_ldcw hC (v := 252645135) kfIn_267 dIn_bitCount_29 ?_
  refine v_iand hB dIn_bitCount_32 ?_
  refine v_istore_n hB dIn_bitCount_33 rfl (by decide) (lv' := [_]) rfl ?_
  refine v_iload_n hB dIn_bitCount_34 rfl ?_
  refine v_iload_n hB dIn_bitCount_35 rfl ?_
  refine v_bipush hB dIn_bitCount_36 (v := 8) (by decide) ?_
  refine v_iushr hB dIn_bitCount_38 ?_
  refine v_iadd hB dIn_bitCount_39 ?_
  refine v_istore_n hB dIn_bitCount_40 rfl (by decide) (lv' := [_]) rfl ?_
  refine v_iload_n hB dIn_bitCount_41 rfl ?_
  refine v_iload_n hB dIn_bitCount_42 rfl ?_
  refine v_bipush hB dIn_bitCount_43 (v := 16) (by decide) ?_
  refine v_iushr hB dIn_bitCount_45 ?_
  refine v_iadd hB dIn_bitCount_46 ?_
  refine v_istore_n hB dIn_bitCount_47 rfl (by decide) (lv' := [_]) rfl ?_
  refine v_iload_n hB dIn_bitCount_48 rfl ?_
  refine v_bipush hB dIn_bitCount_49 (v := 63) (by decide) ?_
  refine v_iand hB dIn_bitCount_51 ?_
  exact v_iret hC rfl dIn_bitCount_52 ⟨congrArg (fun x => some (Value.int x)) (bcE_small k hk), rfl⟩

set_option maxHeartbeats 4000000 in
set_option maxRecDepth 100000 in
theorem cTr_bestDivision {l : Launch} {Y : Yt} (hY : YB Y) (hW : YW Y) {c : Nat} (hc : c < 40) (μ : Mu) (hu : μ.1 (pgI c) 1 = nI 6) : Ct l Y yTr_bestDivision wTr_bestDivision ({ frames := 2, cells := 0, slots := 0, locals := 44 }) [.ref (ad Y 2), .ref (ad Y (pgI c))] μ (PI (fun x ν => (∃ b, dv b ∧ x = nI b) ∧ sm56 μ ν)) := by
  refine ct_of hY.1 (by decide) rfl (Nat.le_of_ble_eq_true rfl) (lv := [some (.ref (ad Y 2)), some (.ref (ad Y (pgI c))), none, none, none, none, none, none, none, none, none, none, none]) rfl (fun X hC => ?_)
  have hB := hC.B
  obtain ⟨hFa, hDi, hTr, hSe, h4, h5, h6b, h7, h8, hpages, htrail, hturns, hplaces, hlog, hlp, hfound, hwait, hsq, hlk, hPg, hrow, hlrow, hfb⟩ := id hW
  have hcP := hPg c hc
  have hca := hcP.2.1
  have loop : ∀ (r k b : Nat) (g a : Int64) (ν : Mu), k + r = 32 → 0 < k → dv b → sm56 μ ν → VG X (yA Y) 13 0 0 (VQ X Y (PI (fun x ν => (∃ b, dv b ∧ x = nI b) ∧ sm56 μ ν))) (yI Y (ν)) 14 [some (.ref (ad Y 2)), some (.ref (ad Y (pgI c))), some (.int (nI b)), some (.long g), none, some (.long a), none, some (.int (nI k)), none, none, none, none, none] [] := by
    intro r
    induction r with
    | zero =>
      intro k b g a ν hk hk0 hb hs
      refine v_iload hB dTr_bestDivision_14 rfl ?_
      refine v_bipush hB dTr_bestDivision_16 (v := 32) (by decide) ?_
      refine v_icmp_ge hB 142 dTr_bestDivision_18 (by decide) (fun c1 => ?_) (fun c1 => ?_)
      · refine v_iload_n hB dTr_bestDivision_142 rfl ?_
        exact v_iret hC rfl dTr_bestDivision_143 ⟨_, rfl, ⟨b, hb, rfl⟩, hs⟩
      · exact absurd (by rw [show (32 : Int32) = nI 32 from rfl]; exact nI_le (by omega) (by omega)) c1
    | succ r ih =>
      intro k b g a ν hk hk0 hb hs
      have hp5 := popN_le k (by omega)
      have key : ∀ (b : Nat) (g a : Int64) (ν : Mu), dv b → sm56 μ ν → VG X (yA Y) 13 0 0 (VQ X Y (PI (fun x ν => (∃ b, dv b ∧ x = nI b) ∧ sm56 μ ν))) (yI Y (ν)) 136 [some (.ref (ad Y 2)), some (.ref (ad Y (pgI c))), some (.int (nI b)), some (.long g), none, some (.long a), none, some (.int (nI k)), some (.int (nI (popN k))), none, none, none, none] [] := by
        intro b g a ν hb hs
        refine v_iinc hB dTr_bestDivision_136 rfl (y := _) rfl rfl (by decide) (lv' := [_, _, _, _, _, _, _, _, _, _, _, _, _]) rfl ?_
        refine v_goto hB 14 dTr_bestDivision_139 (by decide) ?_
        refine v_drop 8 (lv' := [_, _, _, _, _, _, _, _, _, _, _, _, _]) rfl ?_
        rw [i1]
        exact ih (k + 1) b g a ν (by omega) (by omega) hb hs
      have hν : ν.1 (pgI c) 1 = nI 6 := by rw [hs.2 _ (pg_5 c) (pg_6 c)]; exact hu
      refine v_iload hB dTr_bestDivision_14 rfl ?_
      refine v_bipush hB dTr_bestDivision_16 (v := 32) (by decide) ?_
      refine v_icmp_ge hB 142 dTr_bestDivision_18 (by decide) (fun c1 => ?_) (fun c1 => ?_)
      · exact absurd c1 (by rw [show (32 : Int32) = nI 32 from rfl]; exact (fun q => absurd ((nI_leI (by omega) (by omega)).mp q) (by omega)))
      refine v_iload hB dTr_bestDivision_21 rfl ?_
      refine v_callS hC tbok kmTr_176 ktIn_bitCount dTr_bestDivision_23 (cIn_bitCount hY (k := k) (by omega) ν) rfl rfl ⟨Nat.le_of_ble_eq_true rfl, Nat.le_of_ble_eq_true rfl⟩ rfl rfl (Nat.le_of_ble_eq_true rfl) ⟨Nat.zero_le _, Nat.zero_le _⟩ (kE rfl ?_)
      refine v_istore hB dTr_bestDivision_26 rfl (by decide) (lv' := [_, _, _, _, _, _, _, _, _, _, _, _, _]) rfl ?_
      refine v_iload hB dTr_bestDivision_28 rfl ?_
      refine v_iconst hB dTr_bestDivision_30 (v := 2) (by decide) ?_
      refine v_icmp_lt hB 136 dTr_bestDivision_31 (by decide) (fun c2 => ?_) (fun c2 => ?_)
      · exact key b g a ν hb hs
      have h2 : 2 ≤ popN k := by
        rcases Nat.lt_or_ge (popN k) 2 with q | q
        · exact absurd (by rw [show (2 : Int32) = nI 2 from rfl]; exact nI_lt q (by decide)) c2
        · exact q
      refine v_aload_n hB dTr_bestDivision_34 rfl ?_
      refine v_get hC (klPa hY.2) (F := FPa Y _) (by assumption) 1 dTr_bestDivision_35 kfTr_129 (by decide) rfl ?_
      refine v_iload hB dTr_bestDivision_38 rfl ?_
      refine v_isub hB dTr_bestDivision_40 ?_
      rw [hν, pk_sub (a := 6) (by omega)]
      refine v_iconst hB dTr_bestDivision_41 (v := 2) (by decide) ?_
      refine v_icmp_ge hB 48 dTr_bestDivision_42 (by decide) (fun c3 => ?_) (fun c3 => ?_)
      rotate_left
      · refine v_goto hB 136 dTr_bestDivision_45 (by decide) ?_
        exact key b g a ν hb hs
      have h3 : popN k ≤ 4 := by
        rcases Nat.lt_or_ge 4 (popN k) with q | q
        · exact absurd c3 (by rw [show (2 : Int32) = nI 2 from rfl]; exact (fun q => absurd ((nI_leI (by omega) (by omega)).mp q) (by omega)))
        · exact q
      refine v_aload_n hB dTr_bestDivision_48 rfl ?_
      refine v_iload hB dTr_bestDivision_49 rfl ?_
      refine v_aload_n hB dTr_bestDivision_51 rfl ?_
      refine v_get hC (klTr hY.2) (F := FTr Y _) (by assumption) 6 dTr_bestDivision_52 kfTr_27 (by decide) rfl ?_
      refine v_callV hC tbok kmTr_168 kiPa_frame ksPa_frame dTr_bestDivision_55 (F := FPa Y _) (by assumption) (by rw [hY.2]; rfl) (cPa_frame hY hcP h5 (nI k) ν hν (by decide)) rfl rfl ⟨Nat.le_of_ble_eq_true rfl, Nat.le_of_ble_eq_true rfl⟩ rfl rfl (Nat.le_of_ble_eq_true rfl) ⟨Nat.zero_le _, Nat.zero_le _⟩ (kE rfl ?_)
      refine v_aload_n hB dTr_bestDivision_58 rfl ?_
      refine v_iload hB dTr_bestDivision_59 rfl ?_
      refine v_iconst hB dTr_bestDivision_61 (v := -1) (by decide) ?_
      refine v_ixor hB dTr_bestDivision_62 ?_
      refine v_aload_n hB dTr_bestDivision_63 rfl ?_
      refine v_get hC (klTr hY.2) (F := FTr Y _) (by assumption) 7 dTr_bestDivision_64 kfTr_31 (by decide) rfl ?_
      refine v_callV hC tbok kmTr_168 kiPa_frame ksPa_frame dTr_bestDivision_67 (F := FPa Y _) (by assumption) (by rw [hY.2]; rfl) (cPa_frame hY hcP h6b (nI k ^^^ (-1)) _ (by rw [frM_ne _ _ _ _ (pg_5 c)]; exact hν) (by decide)) rfl rfl ⟨Nat.le_of_ble_eq_true rfl, Nat.le_of_ble_eq_true rfl⟩ rfl rfl (Nat.le_of_ble_eq_true rfl) ⟨Nat.zero_le _, Nat.zero_le _⟩ (kE rfl ?_)
      generalize hν2 : frM (frM ν c 6 (nI k) 5) c 6 (nI k ^^^ (-1)) 6 = ν2
      have hs2 : sm56 μ ν2 := by
        rw [← hν2]
        exact ⟨by rw [frM_l, frM_l]; exact hs.1, fun i h1 h2 => by rw [frM_ne _ _ _ _ h2, frM_ne _ _ _ _ h1]; exact hs.2 i h1 h2⟩
      refine v_aload_n hB dTr_bestDivision_70 rfl ?_
      refine v_get hC (klTr hY.2) (F := FTr Y _) (by assumption) 6 dTr_bestDivision_71 kfTr_27 (by decide) rfl ?_
      refine v_callV hC tbok kmTr_181 kiBo_area ksBo_area dTr_bestDivision_74 (F := FBo Y _) (by assumption) (by rw [hY.2]; rfl) (cBo_area hY h5 ν2) rfl rfl ⟨Nat.le_of_ble_eq_true rfl, Nat.le_of_ble_eq_true rfl⟩ rfl rfl (Nat.le_of_ble_eq_true rfl) ⟨Nat.zero_le _, Nat.zero_le _⟩ (kE rfl ?_)
      refine v_aload_n hB dTr_bestDivision_77 rfl ?_
      refine v_get hC (klTr hY.2) (F := FTr Y _) (by assumption) 7 dTr_bestDivision_78 kfTr_31 (by decide) rfl ?_
      refine v_callV hC tbok kmTr_181 kiBo_area ksBo_area dTr_bestDivision_81 (F := FBo Y _) (by assumption) (by rw [hY.2]; rfl) (cBo_area hY h6b ν2) rfl rfl ⟨Nat.le_of_ble_eq_true rfl, Nat.le_of_ble_eq_true rfl⟩ rfl rfl (Nat.le_of_ble_eq_true rfl) ⟨Nat.zero_le _, Nat.zero_le _⟩ (kE rfl ?_)
      refine v_ladd hB dTr_bestDivision_84 ?_
      refine v_lstore hB dTr_bestDivision_85 rfl (by decide) (lv' := [_, _, _, _, _, _, _, _, _, _, _, _, _]) rfl ?_
      refine v_aload_n hB dTr_bestDivision_87 rfl ?_
      refine v_get hC (klTr hY.2) (F := FTr Y _) (by assumption) 6 dTr_bestDivision_88 kfTr_27 (by decide) rfl ?_
      refine v_callV hC tbok kmTr_185 kiBo_rim ksBo_rim dTr_bestDivision_91 (F := FBo Y _) (by assumption) (by rw [hY.2]; rfl) (cBo_rim hY h5 ν2) rfl rfl ⟨Nat.le_of_ble_eq_true rfl, Nat.le_of_ble_eq_true rfl⟩ rfl rfl (Nat.le_of_ble_eq_true rfl) ⟨Nat.zero_le _, Nat.zero_le _⟩ (kE rfl ?_)
      refine v_aload_n hB dTr_bestDivision_94 rfl ?_
      refine v_get hC (klTr hY.2) (F := FTr Y _) (by assumption) 7 dTr_bestDivision_95 kfTr_31 (by decide) rfl ?_
      refine v_callV hC tbok kmTr_185 kiBo_rim ksBo_rim dTr_bestDivision_98 (F := FBo Y _) (by assumption) (by rw [hY.2]; rfl) (cBo_rim hY h6b ν2) rfl rfl ⟨Nat.le_of_ble_eq_true rfl, Nat.le_of_ble_eq_true rfl⟩ rfl rfl (Nat.le_of_ble_eq_true rfl) ⟨Nat.zero_le _, Nat.zero_le _⟩ (kE rfl ?_)
      refine v_ladd hB dTr_bestDivision_101 ?_
      refine v_lstore hB dTr_bestDivision_102 rfl (by decide) (lv' := [_, _, _, _, _, _, _, _, _, _, _, _, _]) rfl ?_
      refine v_lload hB dTr_bestDivision_104 rfl ?_
      refine v_lload_n hB dTr_bestDivision_106 rfl ?_
      refine v_lcmp hB dTr_bestDivision_107 ?_
      have key3 : ∀ (b : Nat) (g a a2 r2 : Int64), dv b → VG X (yA Y) 13 0 0 (VQ X Y (PI (fun x ν => (∃ b, dv b ∧ x = nI b) ∧ sm56 μ ν))) (yI Y (ν2)) 136 [some (.ref (ad Y 2)), some (.ref (ad Y (pgI c))), some (.int (nI b)), some (.long g), none, some (.long a), none, some (.int (nI k)), some (.int (nI (popN k))), some (.long a2), none, some (.long r2), none] [] := by
        intro b g a a2 r2 hb
        refine v_drop 9 (lv' := [_, _, _, _, _, _, _, _, _, _, _, _, _]) rfl ?_
        refine v_drop 11 (lv' := [_, _, _, _, _, _, _, _, _, _, _, _, _]) rfl ?_
        exact key b g a ν2 hb hs2
      have key2 : ∀ (b : Nat) (g a a2 r2 : Int64), VG X (yA Y) 13 0 0 (VQ X Y (PI (fun x ν => (∃ b, dv b ∧ x = nI b) ∧ sm56 μ ν))) (yI Y (ν2)) 126 [some (.ref (ad Y 2)), some (.ref (ad Y (pgI c))), some (.int (nI b)), some (.long g), none, some (.long a), none, some (.int (nI k)), some (.int (nI (popN k))), some (.long a2), none, some (.long r2), none] [] := by
        intro b g a a2 r2
        refine v_iload hB dTr_bestDivision_126 rfl ?_
        refine v_istore_n hB dTr_bestDivision_128 rfl (by decide) (lv' := [_, _, _, _, _, _, _, _, _, _, _, _, _]) rfl ?_
        refine v_lload hB dTr_bestDivision_129 rfl ?_
        refine v_lstore_n hB dTr_bestDivision_131 rfl (by decide) (lv' := [_, _, _, _, _, _, _, _, _, _, _, _, _]) rfl ?_
        refine v_lload hB dTr_bestDivision_132 rfl ?_
        refine v_lstore hB dTr_bestDivision_134 rfl (by decide) (lv' := [_, _, _, _, _, _, _, _, _, _, _, _, _]) rfl ?_
        exact key3 k _ _ _ _ ⟨by omega, by omega, h2, h3⟩
      refine v_if_lt hB 126 dTr_bestDivision_108 (by decide) (fun d1 => ?_) (fun d1 => ?_)
      · exact key2 _ _ _ _ _
      refine v_lload hB dTr_bestDivision_111 rfl ?_
      refine v_lload_n hB dTr_bestDivision_113 rfl ?_
      refine v_lcmp hB dTr_bestDivision_114 ?_
      refine v_if_ne hB 136 dTr_bestDivision_115 (by decide) (fun d2 => ?_) (fun d2 => ?_)
      · exact key3 _ _ _ _ _ hb
      refine v_lload hB dTr_bestDivision_118 rfl ?_
      refine v_lload hB dTr_bestDivision_120 rfl ?_
      refine v_lcmp hB dTr_bestDivision_122 ?_
      refine v_if_ge hB 136 dTr_bestDivision_123 (by decide) (fun d3 => ?_) (fun d3 => ?_)
      · exact key3 _ _ _ _ _ hb
      exact key2 _ _ _ _ _
  refine v_iconst hB dTr_bestDivision_0 (v := 3) (by decide) ?_
  refine v_istore_n hB dTr_bestDivision_1 rfl (by decide) (lv' := [_, _, _, _, _, _, _, _, _, _, _, _, _]) rfl ?_
  refine v_ldc2 hC (v := 9223372036854775807) kfTr_174 dTr_bestDivision_2 ?_
  refine v_lstore_n hB dTr_bestDivision_5 rfl (by decide) (lv' := [_, _, _, _, _, _, _, _, _, _, _, _, _]) rfl ?_
  refine v_ldc2 hC (v := 9223372036854775807) kfTr_174 dTr_bestDivision_6 ?_
  refine v_lstore hB dTr_bestDivision_9 rfl (by decide) (lv' := [_, _, _, _, _, _, _, _, _, _, _, _, _]) rfl ?_
  refine v_iconst hB dTr_bestDivision_11 (v := 1) (by decide) ?_
  refine v_istore hB dTr_bestDivision_12 rfl (by decide) (lv' := [_, _, _, _, _, _, _, _, _, _, _, _, _]) rfl ?_
  exact loop 31 1 3 _ _ μ (by decide) (by decide) (by unfold dv; decide) ⟨rfl, fun _ _ _ => rfl⟩

set_option maxHeartbeats 4000000 in
set_option maxRecDepth 100000 in
theorem cTr_mend {l : Launch} {Y : Yt} (hY : YB Y) (hW : YW Y) {p s : Nat} (hp : p < 40) {μ : Mu} {K : Mu → Prop} (h : mdW μ p s K) : Ct l Y yTr_mend wTr_mend ({ frames := 3, cells := 0, slots := 0, locals := 76 }) [.ref (ad Y 2), .ref (ad Y (pgI p)), .int (nI s)] μ (PV K) := by
  refine ct_of hY.1 (by decide) rfl (Nat.le_of_ble_eq_true rfl) (lv := [some (.ref (ad Y 2)), some (.ref (ad Y (pgI p))), some (.int (nI s)), none, none, none]) rfl (fun X hC => ?_)
  have hB := hC.B
  obtain ⟨hFa, hDi, hTr, hSe, h4, h5, h6b, h7, h8, hpages, htrail, hturns, hplaces, hlog, hlp, hfound, hwait, hsq, hlk, hPg, hrow, hlrow, hfb⟩ := id hW
  have hpP := hPg p hp
  obtain ⟨-, hpa, har, hbx⟩ := hPg p hp
  have last : ∀ (k : Nat) (ν : Mu), tfW ν p k K → VG X (yA Y) 6 0 0 (VQ X Y (PV K)) (yI Y (ν)) 114 [some (.ref (ad Y 2)), some (.ref (ad Y (pgI p))), some (.int (nI s)), some (.int (nI k)), none, none] [] := by
    intro k ν hk
    refine v_aload_n hB dTr_mend_114 rfl ?_
    refine v_aload_n hB dTr_mend_115 rfl ?_
    refine v_iload_n hB dTr_mend_116 rfl ?_
    refine v_callV hC tbok kmTr_150 kiTr_tellFrame ksTr_tellFrame dTr_mend_117 (F := FTr Y _) (by assumption) (by rw [hY.2]; rfl) (cTr_tellFrame hY hW hp hk) rfl rfl ⟨Nat.le_of_ble_eq_true rfl, Nat.le_of_ble_eq_true rfl⟩ rfl rfl (Nat.le_of_ble_eq_true rfl) ⟨Nat.zero_le _, Nat.zero_le _⟩ (kV fun ν1 h1 => ?_)
    exact v_vret hC rfl dTr_mend_120 ⟨rfl, h1⟩
  have key : ∀ (k : Nat) (ν : Mu), mdB ν p k K → VG X (yA Y) 6 0 0 (VQ X Y (PV K)) (yI Y (ν)) 54 [some (.ref (ad Y 2)), some (.ref (ad Y (pgI p))), some (.int (nI s)), some (.int (nI k)), none, none] [] := by
    intro k ν ⟨c, u, hk, hc, hu6, hb, hu, hi⟩
    have hcP := hPg c hc
    have hca := hcP.2.1
    have hbk := hbx k hk
    refine v_aload_n hB dTr_mend_54 rfl ?_
    refine v_aload_n hB dTr_mend_55 rfl ?_
    refine v_get hC (klPa hY.2) (F := FPa Y _) (by assumption) 3 dTr_mend_56 kfTr_122 (by decide) rfl ?_
    refine v_iload_n hB dTr_mend_59 rfl ?_
    refine v_aald hC har k dTr_mend_60 rfl (by omega) (by decide) ?_
    refine v_get hC (klBo hY.2) (F := FBo Y _) (by assumption) 4 dTr_mend_61 kfTr_126 (by decide) rfl ?_
    rw [hb]
    refine v_callV hC tbok kmTr_46 kiTr_at ksTr_at dTr_mend_64 (F := FTr Y _) (by assumption) (by rw [hY.2]; rfl) (cTr_at hY hW hc ν) rfl rfl ⟨Nat.le_of_ble_eq_true rfl, Nat.le_of_ble_eq_true rfl⟩ rfl rfl (Nat.le_of_ble_eq_true rfl) ⟨Nat.zero_le _, Nat.zero_le _⟩ (kE rfl ?_)
    refine v_astore hB dTr_mend_67 rfl (by decide) (lv' := [_, _, _, _, _, _]) rfl ?_
    refine v_aload hB dTr_mend_69 rfl ?_
    refine v_get hC (klPa hY.2) (F := FPa Y _) (by assumption) 1 dTr_mend_71 kfTr_129 (by decide) rfl ?_
    refine v_iconst hB dTr_mend_74 (v := 5) (by decide) ?_
    refine v_icmp_le hB 114 dTr_mend_75 (by decide) (fun c1 => ?_) (fun c1 => ?_)
    · refine v_drop 4 (lv' := [_, _, _, _, _, _]) rfl ?_
      have h6 : u ≠ 6 := by
        rintro rfl
        rw [hu] at c1
        exact absurd c1 (by decide)
      rw [if_neg h6] at hi
      exact last k ν hi
    have h6 : u = 6 := by
      rw [hu, show (5 : Int32) = nI 5 from rfl, nI_leI (by omega) (by omega)] at c1
      omega
    subst h6
    rw [if_pos rfl] at hi
    obtain ⟨hex, hall⟩ := hi
    refine v_aload_n hB dTr_mend_78 rfl ?_
    refine v_aload hB dTr_mend_79 rfl ?_
    refine v_get hC (klPa hY.2) (F := FPa Y _) (by assumption) 0 dTr_mend_81 kfTr_35 (by decide) rfl ?_
    refine v_callV hC tbok kmTr_143 kiTr_openPage ksTr_openPage dTr_mend_84 (F := FTr Y _) (by assumption) (by rw [hY.2]; rfl) (cTr_openPage hY hW _ ν hex) rfl rfl ⟨Nat.le_of_ble_eq_true rfl, Nat.le_of_ble_eq_true rfl⟩ rfl rfl (Nat.le_of_ble_eq_true rfl) ⟨Nat.zero_le _, Nat.zero_le _⟩ (kI fun x ν1 h1 => ?_)
    obtain ⟨n, hn0, hn, rfl, hz, rfl⟩ := h1
    obtain ⟨hcn, hall⟩ := hall n hn0 hn hz
    refine v_istore hB dTr_mend_87 rfl (by decide) (lv' := [_, _, _, _, _, _]) rfl ?_
    refine v_aload_n hB dTr_mend_89 rfl ?_
    refine v_aload hB dTr_mend_90 rfl ?_
    refine v_aload_n hB dTr_mend_92 rfl ?_
    refine v_aload hB dTr_mend_93 rfl ?_
    have huc : (opn ν n (ν.1 (pgI c) 0)).1 (pgI c) 1 = nI 6 := by unfold opn; rw [wi_ne _ _ _ (pg_inj hcn), wi_ne _ _ _ (pg_inj hcn), wi_ne _ _ _ (pg_inj hcn)]; exact hu
    refine v_callV hC tbok kmTr_160 kiTr_bestDivision ksTr_bestDivision dTr_mend_95 (F := FTr Y _) (by assumption) (by rw [hY.2]; rfl) (cTr_bestDivision hY hW hc _ huc) rfl rfl ⟨Nat.le_of_ble_eq_true rfl, Nat.le_of_ble_eq_true rfl⟩ rfl rfl (Nat.le_of_ble_eq_true rfl) ⟨Nat.zero_le _, Nat.zero_le _⟩ (kI fun x ν2 h2 => ?_)
    obtain ⟨⟨x, hx, rfl⟩, hs⟩ := h2
    refine v_aload_n hB dTr_mend_98 rfl ?_
    refine v_iload hB dTr_mend_99 rfl ?_
    refine v_callV hC tbok kmTr_46 kiTr_at ksTr_at dTr_mend_101 (F := FTr Y _) (by assumption) (by rw [hY.2]; rfl) (cTr_at hY hW hn ν2) rfl rfl ⟨Nat.le_of_ble_eq_true rfl, Nat.le_of_ble_eq_true rfl⟩ rfl rfl (Nat.le_of_ble_eq_true rfl) ⟨Nat.zero_le _, Nat.zero_le _⟩ (kE rfl ?_)
    refine v_callV hC tbok kmTr_164 kiTr_moveOut ksTr_moveOut dTr_mend_104 (F := FTr Y _) (by assumption) (by rw [hY.2]; rfl) (cTr_moveOut hY hW (nI x) hc hn hcn (by rw [hs.2 _ (pg_5 c) (pg_6 c)]; exact huc) (by decide) (by rw [hs.2 _ (pg_5 n) (pg_6 n)]; unfold opn; simp only [wi_at]; rfl) (hall x ν2 hx hs)) rfl rfl ⟨Nat.le_of_ble_eq_true rfl, Nat.le_of_ble_eq_true rfl⟩ rfl rfl (Nat.le_of_ble_eq_true rfl) ⟨Nat.zero_le _, Nat.zero_le _⟩ (kV fun ν3 h3 => ?_)
    refine v_aload_n hB dTr_mend_107 rfl ?_
    refine v_aload_n hB dTr_mend_108 rfl ?_
    refine v_iload hB dTr_mend_109 rfl ?_
    refine v_callV hC tbok kmTr_147 kiTr_hang ksTr_hang dTr_mend_111 (F := FTr Y _) (by assumption) (by rw [hY.2]; rfl) (cTr_hang hY hW hp h3) rfl rfl ⟨Nat.le_of_ble_eq_true rfl, Nat.le_of_ble_eq_true rfl⟩ rfl rfl (Nat.le_of_ble_eq_true rfl) ⟨Nat.zero_le _, Nat.zero_le _⟩ (kV fun ν4 h4 => ?_)
    refine v_drop 4 (lv' := [_, _, _, _, _, _]) rfl ?_
    refine v_drop 5 (lv' := [_, _, _, _, _, _]) rfl ?_
    exact last k ν4 h4
  refine v_aload_n hB dTr_mend_0 rfl ?_
  refine v_aload_n hB dTr_mend_1 rfl ?_
  refine v_iload_n hB dTr_mend_2 rfl ?_
  refine v_callV hC tbok kmTr_150 kiTr_tellFrame ksTr_tellFrame dTr_mend_3 (F := FTr Y _) (by assumption) (by rw [hY.2]; rfl) (cTr_tellFrame hY hW hp h) rfl rfl ⟨Nat.le_of_ble_eq_true rfl, Nat.le_of_ble_eq_true rfl⟩ rfl rfl (Nat.le_of_ble_eq_true rfl) ⟨Nat.zero_le _, Nat.zero_le _⟩ (kV fun μ1 h1 => ?_)
  obtain ⟨c, u, hs, hc, hu6, hb, hu, hi⟩ := h1
  have hca := (hPg c hc).2.1
  have hbs := hbx s hs
  refine v_iload_n hB dTr_mend_6 rfl ?_
  refine v_istore_n hB dTr_mend_7 rfl (by decide) (lv' := [_, _, _, _, _, _]) rfl ?_
  refine v_aload_n hB dTr_mend_8 rfl ?_
  refine v_aload_n hB dTr_mend_9 rfl ?_
  refine v_get hC (klPa hY.2) (F := FPa Y _) (by assumption) 3 dTr_mend_10 kfTr_122 (by decide) rfl ?_
  refine v_iload_n hB dTr_mend_13 rfl ?_
  refine v_aald hC har s dTr_mend_14 rfl (by omega) (by decide) ?_
  refine v_get hC (klBo hY.2) (F := FBo Y _) (by assumption) 4 dTr_mend_15 kfTr_126 (by decide) rfl ?_
  rw [hb]
  refine v_callV hC tbok kmTr_46 kiTr_at ksTr_at dTr_mend_18 (F := FTr Y _) (by assumption) (by rw [hY.2]; rfl) (cTr_at hY hW hc μ1) rfl rfl ⟨Nat.le_of_ble_eq_true rfl, Nat.le_of_ble_eq_true rfl⟩ rfl rfl (Nat.le_of_ble_eq_true rfl) ⟨Nat.zero_le _, Nat.zero_le _⟩ (kE rfl ?_)
  refine v_get hC (klPa hY.2) (F := FPa Y _) (by assumption) 1 dTr_mend_21 kfTr_129 (by decide) rfl ?_
  refine v_iconst hB dTr_mend_24 (v := 2) (by decide) ?_
  refine v_icmp_ge hB 54 dTr_mend_25 (by decide) (fun c1 => ?_) (fun c1 => ?_)
  · have h2 : ¬ u < 2 := by
      rw [hu, show (2 : Int32) = nI 2 from rfl, nI_leI (by omega) (by omega)] at c1
      omega
    rw [if_neg h2] at hi
    exact key s μ1 hi
  have h2 : u < 2 := by
    rw [hu, show (2 : Int32) = nI 2 from rfl, nI_leI (by omega) (by omega)] at c1
    omega
  rw [if_pos h2] at hi
  obtain ⟨n, hn2, hn6, hsn, hpn, hwb, hall⟩ := hi
  refine v_aload_n hB dTr_mend_28 rfl ?_
  refine v_iload_n hB dTr_mend_29 rfl ?_
  refine v_callV hC tbok kmTr_153 kiPa_bestPartner ksPa_bestPartner dTr_mend_30 (F := FPa Y _) (by assumption) (by rw [hY.2]; rfl) (cPa_bestPartner hY hpP μ1 hpn hn2 hn6 hsn hwb) rfl rfl ⟨Nat.le_of_ble_eq_true rfl, Nat.le_of_ble_eq_true rfl⟩ rfl rfl (Nat.le_of_ble_eq_true rfl) ⟨Nat.zero_le _, Nat.zero_le _⟩ (kI fun x ν1 h1 => ?_)
  obtain ⟨rfl, b, hbn, hbs2, rfl⟩ := h1
  refine v_istore hB dTr_mend_33 rfl (by decide) (lv' := [_, _, _, _, _, _]) rfl ?_
  refine v_iload_n hB dTr_mend_35 rfl ?_
  refine v_iload hB dTr_mend_36 rfl ?_
  refine v_mmin hC (kmTr_110).1 dTr_mend_38 (Nat.le_of_ble_eq_true rfl) (Nat.le_of_ble_eq_true rfl) ⟨Nat.zero_le _, Nat.zero_le _⟩ ?_
  rw [mnI_n (by omega) (by omega)]
  refine v_istore_n hB dTr_mend_41 rfl (by decide) (lv' := [_, _, _, _, _, _]) rfl ?_
  refine v_aload_n hB dTr_mend_42 rfl ?_
  refine v_aload_n hB dTr_mend_43 rfl ?_
  refine v_iload_n hB dTr_mend_44 rfl ?_
  refine v_iload_n hB dTr_mend_45 rfl ?_
  refine v_iload hB dTr_mend_46 rfl ?_
  refine v_mmax hC (kmTr_116).1 dTr_mend_48 (Nat.le_of_ble_eq_true rfl) (Nat.le_of_ble_eq_true rfl) ⟨Nat.zero_le _, Nat.zero_le _⟩ ?_
  rw [mxI_n (by omega) (by omega)]
  refine v_callV hC tbok kmTr_156 kiTr_merge ksTr_merge dTr_mend_51 (F := FTr Y _) (by assumption) (by rw [hY.2]; rfl) (cTr_merge hY hW hp (hall b hbn hbs2)) rfl rfl ⟨Nat.le_of_ble_eq_true rfl, Nat.le_of_ble_eq_true rfl⟩ rfl rfl (Nat.le_of_ble_eq_true rfl) ⟨Nat.zero_le _, Nat.zero_le _⟩ (kV fun ν2 h2 => ?_)
  refine v_drop 4 (lv' := [_, _, _, _, _, _]) rfl ?_
  exact key (min s b) ν2 h2

set_option maxHeartbeats 4000000 in
set_option maxRecDepth 100000 in
theorem cTr_climb {l : Launch} {Y : Yt} (hY : YB Y) (hW : YW Y) {d : Nat} (hd : d ≤ 4) {μ : Mu} {K : Mu → Prop} (h : clL K d μ) : Ct l Y yTr_climb wTr_climb ({ frames := 4, cells := 0, slots := 0, locals := 101 }) [.ref (ad Y 2), .int (nI d)] μ (PV K) := by
  refine ct_of hY.1 (by decide) rfl (Nat.le_of_ble_eq_true rfl) (lv := [some (.ref (ad Y 2)), some (.int (nI d)), none, none]) rfl (fun X hC => ?_)
  have hB := hC.B
  obtain ⟨hFa, hDi, hTr, hSe, h4, h5, h6b, h7, h8, hpages, htrail, hturns, hplaces, hlog, hlp, hfound, hwait, hsq, hlk, hPg, hrow, hlrow, hfb⟩ := id hW
  have fin : ∀ ν : Mu, clE ν K → VG X (yA Y) 4 0 0 (VQ X Y (PV K)) (yI Y (ν)) 34 [some (.ref (ad Y 2)), some (.int (nI d)), none, none] [] := by
    rintro ν ⟨q, u, v, hq, hu6, hv30, hr, hu, hv, hi⟩
    have hqP := hPg q hq
    obtain ⟨-, hqa, hqar, hqbx⟩ := hPg q hq
    refine v_aload_n hB dTr_climb_34 rfl ?_
    refine v_aload_n hB dTr_climb_35 rfl ?_
    refine v_get hC (klTr hY.2) (F := FTr Y _) (by assumption) 0 dTr_climb_36 kfTr_39 (by decide) rfl ?_
    rw [hr]
    refine v_callV hC tbok kmTr_46 kiTr_at ksTr_at dTr_climb_39 (F := FTr Y _) (by assumption) (by rw [hY.2]; rfl) (cTr_at hY hW hq ν) rfl rfl ⟨Nat.le_of_ble_eq_true rfl, Nat.le_of_ble_eq_true rfl⟩ rfl rfl (Nat.le_of_ble_eq_true rfl) ⟨Nat.zero_le _, Nat.zero_le _⟩ (kE rfl ?_)
    refine v_astore_n hB dTr_climb_42 rfl (by decide) (lv' := [_, _, _, _]) rfl ?_
    refine v_aload_n hB dTr_climb_43 rfl ?_
    refine v_get hC (klPa hY.2) (F := FPa Y _) (by assumption) 1 dTr_climb_44 kfTr_129 (by decide) rfl ?_
    refine v_iconst hB dTr_climb_47 (v := 5) (by decide) ?_
    refine v_icmp_le hB 97 dTr_climb_48 (by decide) (fun c1 => ?_) (fun c1 => ?_)
    · have h6 : u ≠ 6 := by
        rintro rfl
        rw [hu] at c1
        exact absurd c1 (by decide)
      rw [if_neg h6] at hi
      refine v_aload_n hB dTr_climb_97 rfl ?_
      refine v_get hC (klPa hY.2) (F := FPa Y _) (by assumption) 0 dTr_climb_98 kfTr_35 (by decide) rfl ?_
      refine v_iconst hB dTr_climb_101 (v := 1) (by decide) ?_
      refine v_icmp_le hB 135 dTr_climb_102 (by decide) (fun c2 => ?_) (fun c2 => ?_)
      · rw [if_neg (fun z => by rw [hv, show (1 : Int32) = nI 1 from rfl, nI_leI (by omega) (by omega)] at c2; omega)] at hi
        exact v_vret hC rfl dTr_climb_135 ⟨rfl, hi⟩
      refine v_aload_n hB dTr_climb_105 rfl ?_
      refine v_get hC (klPa hY.2) (F := FPa Y _) (by assumption) 1 dTr_climb_106 kfTr_129 (by decide) rfl ?_
      refine v_iconst hB dTr_climb_109 (v := 1) (by decide) ?_
      refine v_icmp_ne hB 135 dTr_climb_110 (by decide) (fun c3 => ?_) (fun c3 => ?_)
      · rw [if_neg (fun z => c3 (by rw [hu, z.2]; rfl))] at hi
        exact v_vret hC rfl dTr_climb_135 ⟨rfl, hi⟩
      have h1 : 1 < v ∧ u = 1 := ⟨by rw [hv, show (1 : Int32) = nI 1 from rfl, nI_leI (by omega) (by omega)] at c2; omega, by rw [hu, show (1 : Int32) = nI 1 from rfl, nI_eq (by omega) (by omega)] at c3; exact c3⟩
      rw [if_pos h1] at hi
      have hb0 := hqbx 0 (by decide)
      refine v_aload_n hB dTr_climb_113 rfl ?_
      refine v_aload_n hB dTr_climb_114 rfl ?_
      refine v_get hC (klPa hY.2) (F := FPa Y _) (by assumption) 3 dTr_climb_115 kfTr_122 (by decide) rfl ?_
      refine v_iconst hB dTr_climb_118 (v := 0) (by decide) ?_
      refine v_aald hC hqar 0 dTr_climb_119 rfl (by omega) (by decide) ?_
      refine v_get hC (klBo hY.2) (F := FBo Y _) (by assumption) 4 dTr_climb_120 kfTr_126 (by decide) rfl ?_
      refine v_aload_n hB dTr_climb_123 rfl ?_
      refine v_get hC (klTr hY.2) (F := FTr Y _) (by assumption) 1 dTr_climb_124 kfTr_54 (by decide) rfl ?_
      refine v_callV hC tbok kmTr_57 kiTr_writeHeader ksTr_writeHeader dTr_climb_127 (F := FTr Y _) (by assumption) (by rw [hY.2]; rfl) (cTr_writeHeader hY hW _ _ ν) rfl rfl ⟨Nat.le_of_ble_eq_true rfl, Nat.le_of_ble_eq_true rfl⟩ rfl rfl (Nat.le_of_ble_eq_true rfl) ⟨Nat.zero_le _, Nat.zero_le _⟩ (kE rfl ?_)
      refine v_aload_n hB dTr_climb_130 rfl ?_
      refine v_iconst hB dTr_climb_131 (v := 0) (by decide) ?_
      refine v_callV hC tbok kmTr_104 kiPa_open ksPa_open dTr_climb_132 (F := FPa Y _) (by assumption) (by rw [hY.2]; rfl) (cPa_open hY hqP 0 _) rfl rfl ⟨Nat.le_of_ble_eq_true rfl, Nat.le_of_ble_eq_true rfl⟩ rfl rfl (Nat.le_of_ble_eq_true rfl) ⟨Nat.zero_le _, Nat.zero_le _⟩ (kE rfl ?_)
      exact v_vret hC rfl dTr_climb_135 ⟨rfl, hi⟩
    have h6 : u = 6 := by
      rw [hu, show (5 : Int32) = nI 5 from rfl, nI_leI (by omega) (by omega)] at c1
      omega
    rw [if_pos h6] at hi
    obtain ⟨hex, hall⟩ := hi
    refine v_aload_n hB dTr_climb_51 rfl ?_
    refine v_aload_n hB dTr_climb_52 rfl ?_
    refine v_get hC (klPa hY.2) (F := FPa Y _) (by assumption) 0 dTr_climb_53 kfTr_35 (by decide) rfl ?_
    refine v_iconst hB dTr_climb_56 (v := 1) (by decide) ?_
    refine v_iadd hB dTr_climb_57 ?_
    rw [hv, nI_1]
    refine v_callV hC tbok kmTr_143 kiTr_openPage ksTr_openPage dTr_climb_58 (F := FTr Y _) (by assumption) (by rw [hY.2]; rfl) (cTr_openPage hY hW _ ν hex) rfl rfl ⟨Nat.le_of_ble_eq_true rfl, Nat.le_of_ble_eq_true rfl⟩ rfl rfl (Nat.le_of_ble_eq_true rfl) ⟨Nat.zero_le _, Nat.zero_le _⟩ (kI fun x ν1 h1 => ?_)
    obtain ⟨n, hn0, hn, rfl, hz, rfl⟩ := h1
    obtain ⟨hr2, hh⟩ := hall n hn0 hn hz
    refine v_istore_n hB dTr_climb_61 rfl (by decide) (lv' := [_, _, _, _]) rfl ?_
    refine v_aload_n hB dTr_climb_62 rfl ?_
    refine v_aload_n hB dTr_climb_63 rfl ?_
    refine v_iload_n hB dTr_climb_64 rfl ?_
    refine v_callV hC tbok kmTr_46 kiTr_at ksTr_at dTr_climb_65 (F := FTr Y _) (by assumption) (by rw [hY.2]; rfl) (cTr_at hY hW hn _) rfl rfl ⟨Nat.le_of_ble_eq_true rfl, Nat.le_of_ble_eq_true rfl⟩ rfl rfl (Nat.le_of_ble_eq_true rfl) ⟨Nat.zero_le _, Nat.zero_le _⟩ (kE rfl ?_)
    refine v_aload_n hB dTr_climb_68 rfl ?_
    refine v_get hC (klTr hY.2) (F := FTr Y _) (by assumption) 0 dTr_climb_69 kfTr_39 (by decide) rfl ?_
    rw [hr2]
    refine v_callV hC tbok kmTr_147 kiTr_hang ksTr_hang dTr_climb_72 (F := FTr Y _) (by assumption) (by rw [hY.2]; rfl) (cTr_hang hY hW hn hh) rfl rfl ⟨Nat.le_of_ble_eq_true rfl, Nat.le_of_ble_eq_true rfl⟩ rfl rfl (Nat.le_of_ble_eq_true rfl) ⟨Nat.zero_le _, Nat.zero_le _⟩ (kV fun ν2 h2 => ?_)
    refine v_aload_n hB dTr_climb_75 rfl ?_
    refine v_aload_n hB dTr_climb_76 rfl ?_
    refine v_iload_n hB dTr_climb_77 rfl ?_
    refine v_callV hC tbok kmTr_46 kiTr_at ksTr_at dTr_climb_78 (F := FTr Y _) (by assumption) (by rw [hY.2]; rfl) (cTr_at hY hW hn _) rfl rfl ⟨Nat.le_of_ble_eq_true rfl, Nat.le_of_ble_eq_true rfl⟩ rfl rfl (Nat.le_of_ble_eq_true rfl) ⟨Nat.zero_le _, Nat.zero_le _⟩ (kE rfl ?_)
    refine v_iconst hB dTr_climb_81 (v := 0) (by decide) ?_
    refine v_callV hC tbok kmTr_139 kiTr_mend ksTr_mend dTr_climb_82 (F := FTr Y _) (by assumption) (by rw [hY.2]; rfl) (cTr_mend (s := 0) hY hW hn h2) rfl rfl ⟨Nat.le_of_ble_eq_true rfl, Nat.le_of_ble_eq_true rfl⟩ rfl rfl (Nat.le_of_ble_eq_true rfl) ⟨Nat.zero_le _, Nat.zero_le _⟩ (kV fun ν3 h3 => ?_)
    refine v_aload_n hB dTr_climb_85 rfl ?_
    refine v_iload_n hB dTr_climb_86 rfl ?_
    refine v_aload_n hB dTr_climb_87 rfl ?_
    refine v_get hC (klTr hY.2) (F := FTr Y _) (by assumption) 1 dTr_climb_88 kfTr_54 (by decide) rfl ?_
    refine v_callV hC tbok kmTr_57 kiTr_writeHeader ksTr_writeHeader dTr_climb_91 (F := FTr Y _) (by assumption) (by rw [hY.2]; rfl) (cTr_writeHeader hY hW _ _ ν3) rfl rfl ⟨Nat.le_of_ble_eq_true rfl, Nat.le_of_ble_eq_true rfl⟩ rfl rfl (Nat.le_of_ble_eq_true rfl) ⟨Nat.zero_le _, Nat.zero_le _⟩ (kE rfl ?_)
    refine v_goto hB 135 dTr_climb_94 (by decide) ?_
    exact v_vret hC rfl dTr_climb_135 ⟨rfl, h3⟩
  have loop : ∀ (k : Nat) (ν : Mu), clL K k ν → VG X (yA Y) 4 0 0 (VQ X Y (PV K)) (yI Y (ν)) 4 [some (.ref (ad Y 2)), some (.int (nI d)), some (.int (nI k - 1)), none] [] := by
    intro k
    induction k with
    | zero =>
      intro ν h
      refine v_iload_n hB dTr_climb_4 rfl ?_
      refine v_if_lt hB 34 dTr_climb_5 (by decide) (fun c => ?_) (fun c => ?_)
      · refine v_drop 2 (lv' := [_, _, _, _]) rfl ?_
        exact fin ν h
      · exact absurd (by decide) c
    | succ k ih =>
      rintro ν ⟨p, s, hp, hs, hk, hp1, hs1, hm⟩
      rw [nI_pred]
      refine v_iload_n hB dTr_climb_4 rfl ?_
      refine v_if_lt hB 34 dTr_climb_5 (by decide) (fun c => ?_) (fun c => ?_)
      · exact absurd c (nI_pos (by omega))
      refine v_aload_n hB dTr_climb_8 rfl ?_
      refine v_aload_n hB dTr_climb_9 rfl ?_
      refine v_aload_n hB dTr_climb_10 rfl ?_
      refine v_get hC (klTr hY.2) (F := FTr Y _) (by assumption) 4 dTr_climb_11 kfTr_17 (by decide) rfl ?_
      refine v_iload_n hB dTr_climb_14 rfl ?_
      refine v_iald hC htrail k dTr_climb_15 rfl (by omega) (by decide) ?_
      rw [hp1]
      refine v_callV hC tbok kmTr_46 kiTr_at ksTr_at dTr_climb_16 (F := FTr Y _) (by assumption) (by rw [hY.2]; rfl) (cTr_at hY hW hp ν) rfl rfl ⟨Nat.le_of_ble_eq_true rfl, Nat.le_of_ble_eq_true rfl⟩ rfl rfl (Nat.le_of_ble_eq_true rfl) ⟨Nat.zero_le _, Nat.zero_le _⟩ (kE rfl ?_)
      refine v_aload_n hB dTr_climb_19 rfl ?_
      refine v_get hC (klTr hY.2) (F := FTr Y _) (by assumption) 5 dTr_climb_20 kfTr_21 (by decide) rfl ?_
      refine v_iload_n hB dTr_climb_23 rfl ?_
      refine v_iald hC hturns k dTr_climb_24 rfl (by omega) (by decide) ?_
      rw [hs1]
      refine v_callV hC tbok kmTr_139 kiTr_mend ksTr_mend dTr_climb_25 (F := FTr Y _) (by assumption) (by rw [hY.2]; rfl) (cTr_mend hY hW hp hm) rfl rfl ⟨Nat.le_of_ble_eq_true rfl, Nat.le_of_ble_eq_true rfl⟩ rfl rfl (Nat.le_of_ble_eq_true rfl) ⟨Nat.zero_le _, Nat.zero_le _⟩ (kV fun ν2 h2 => ?_)
      refine v_iinc hB dTr_climb_28 rfl (y := _) rfl rfl (by decide) (lv' := [_, _, _, _]) rfl ?_
      refine v_goto hB 4 dTr_climb_31 (by decide) ?_
      rw [im1]
      exact ih ν2 h2
  refine v_iload_n hB dTr_climb_0 rfl ?_
  refine v_iconst hB dTr_climb_1 (v := 1) (by decide) ?_
  refine v_isub hB dTr_climb_2 ?_
  refine v_istore_n hB dTr_climb_3 rfl (by decide) (lv' := [_, _, _, _]) rfl ?_
  exact loop d μ h
end
section
/-! THE TREE: the ways down, the whole operations, the marks, the pages' rows. -/
/-- the way down: r levels to go from depth d on -/
def dsL (K : Mu → Prop) : Nat → Nat → Mu → Prop
  | 0, _, μ => K μ
  | r + 1, d, μ => ∃ p u : Nat, p < 40 ∧ 0 < u ∧ u ≤ 6 ∧ d < 3 ∧ μ.1 10 d = nI p ∧ μ.1 (pgI p) 1 = nI u ∧ ∀ b, b < u → (wi μ 11 d (nI b)).1 11 d = nI b ∧ dsL K r (d + 1) (wi (wi μ 11 d (nI b)) 10 (d + 1) ((wi μ 11 d (nI b)).1 (bxI p b) 4))
def plW (μ : Mu) (e : Nat) (K : Mu → Prop) : Prop := ∃ q v : Nat, q < 40 ∧ 0 < v ∧ v ≤ 4 ∧ μ.1 2 0 = nI q ∧ μ.1 (pgI q) 0 = nI v ∧ dsL (fun μ1 => ∃ p u : Nat, p < 40 ∧ u < 6 ∧ μ1.1 10 (v - 1) = nI p ∧ μ1.1 (pgI p) 1 = nI u ∧ clL K (v - 1) (whM (addM μ1 p u e) ((addM μ1 p u e).1 2 0) ((addM μ1 p u e).1 2 1 + 1))) (v - 1) 0 (wi μ 10 0 (nI q))
/-- the seeking of entry e below page q, at depth d: r slots may be looked at yet, from slot k on -/
def skL (rec : Nat → Mu → (Bool → Mu → Prop) → Prop) (e q d : Nat) (K : Bool → Mu → Prop) : Nat → Nat → Mu → Prop
  | 0, _, _ => False
  | r + 1, k, ν => ∃ u v : Nat, u ≤ 6 ∧ v < 2 ^ 30 ∧ ν.1 (pgI q) 1 = nI u ∧ (wi ν 11 d (nI k)).1 (pgI q) 0 = nI v ∧ (if k < u then (if v = 1 then (if sameB ((wi ν 11 d (nI k)).1 (bxI q k)) ((wi ν 11 d (nI k)).1 e) = true then K true (wi ν 11 d (nI k)) else skL rec e q d K r (k + 1) (wi ν 11 d (nI k))) else (if holdB ((wi ν 11 d (nI k)).1 (bxI q k)) ((wi ν 11 d (nI k)).1 e) = true then ∃ c, (wi ν 11 d (nI k)).1 (bxI q k) 4 = nI c ∧ rec c (wi ν 11 d (nI k)) (fun b ν2 => if b = true then K true ν2 else skL rec e q d K r (k + 1) ν2) else skL rec e q d K r (k + 1) (wi ν 11 d (nI k)))) else K false ν)
def skW (e : Nat) : Nat → Nat → Nat → Mu → (Bool → Mu → Prop) → Prop
  | 0, _, _, μ, K => K false μ
  | f + 1, q, d, μ, K => q < 40 ∧ skL (fun c ν K' => skW e f c (d + 1) ν K') e q d K 7 0 (wi μ 10 d (nI q))
def skR (f : Nat) : Room := { frames := f + 1, cells := 0, slots := 0, locals := 26 * f + 21 }
def PB (P : Bool → Mu → Prop) : Option Value → Mu → Prop := fun r μ => ∃ b : Bool, r = some (.int (bI b)) ∧ P b μ
theorem kB {X : Xt} {Y : Yt} {n cells slots : Nat} {Q : State → Prop} {pc : Nat} {lv : List (Option Value)} {stR : List Value} {P : Bool → Mu → Prop} {A : Nat → Prop} (kk : ∀ b μ', P b μ' → VG X A n cells slots Q (yI Y μ') pc lv (.int (bI b) :: stR)) : ∀ (r : Option Value) (μ' : Mu), PB P r μ' → VG X A n cells slots Q (yI Y μ') pc lv (r.toList ++ stR) := by
  rintro r μ' ⟨b, rfl, h⟩
  exact kk b μ' h
def upW (μ : Mu) (e : Nat) (K : Bool → Mu → Prop) : Prop := ∃ q, μ.1 2 0 = nI q ∧ skW e 4 q 0 μ (fun b μ1 => if b = true then ∃ q2 v p s u : Nat, q2 < 40 ∧ 0 < v ∧ v ≤ 4 ∧ μ1.1 2 0 = nI q2 ∧ μ1.1 (pgI q2) 0 = nI v ∧ p < 40 ∧ s < u ∧ u ≤ 6 ∧ μ1.1 10 (v - 1) = nI p ∧ μ1.1 11 (v - 1) = nI s ∧ μ1.1 (pgI p) 1 = nI u ∧ clL (K true) (v - 1) (whM (drpM μ1 p u s) ((drpM μ1 p u s).1 2 0) ((drpM μ1 p u s).1 2 1 - 1)) else K false μ1)
set_option maxHeartbeats 4000000 in
set_option maxRecDepth 100000 in
theorem cTr_descend {l : Launch} {Y : Yt} (hY : YB Y) (hW : YW Y) {e q v : Nat} (he : isBo Y e) {μ : Mu} {K : Mu → Prop} (hq : q < 40) (hr : μ.1 2 0 = nI q) (hv : μ.1 (pgI q) 0 = nI v) (h0 : 0 < v) (hv4 : v ≤ 4) (h : dsL K (v - 1) 0 (wi μ 10 0 (nI q))) : Ct l Y yTr_descend wTr_descend ({ frames := 3, cells := 0, slots := 0, locals := 77 }) [.ref (ad Y 2), .ref (ad Y e)] μ (PI (fun x ν => x = nI (v - 1) ∧ K ν)) := by
  refine ct_of hY.1 (by decide) rfl (Nat.le_of_ble_eq_true rfl) (lv := [some (.ref (ad Y 2)), some (.ref (ad Y e)), none, none, none]) rfl (fun X hC => ?_)
  have hB := hC.B
  obtain ⟨hFa, hDi, hTr, hSe, h4, h5, h6b, h7, h8, hpages, htrail, hturns, hplaces, hlog, hlp, hfound, hwait, hsq, hlk, hPg, hrow, hlrow, hfb⟩ := id hW
  have loop : ∀ (r d : Nat) (ν : Mu), d + r = v - 1 → dsL K r d ν → VG X (yA Y) 5 0 0 (VQ X Y (PI (fun x ν => x = nI (v - 1) ∧ K ν))) (yI Y (ν)) 17 [some (.ref (ad Y 2)), some (.ref (ad Y e)), some (.int (nI (v - 1))), some (.int (nI d)), none] [] := by
    intro r
    induction r with
    | zero =>
      intro d ν hd hk
      refine v_iload_n hB dTr_descend_17 rfl ?_
      refine v_iload_n hB dTr_descend_18 rfl ?_
      refine v_icmp_ge hB 75 dTr_descend_19 (by decide) (fun c => ?_) (fun c => ?_)
      · refine v_iload_n hB dTr_descend_75 rfl ?_
        exact v_iret hC rfl dTr_descend_76 ⟨_, rfl, rfl, hk⟩
      · exact absurd (nI_le (by omega) (by omega)) c
    | succ r ih =>
      rintro d ν hd ⟨p, u, hp, hu0, hu6, hd3, htr, hu, hall⟩
      have hpP := hPg p hp
      obtain ⟨-, hpa, har, hbx⟩ := hPg p hp
      refine v_iload_n hB dTr_descend_17 rfl ?_
      refine v_iload_n hB dTr_descend_18 rfl ?_
      refine v_icmp_ge hB 75 dTr_descend_19 (by decide) (fun c => ?_) (fun c => ?_)
      · exact absurd c (fun q => absurd ((nI_leI (by omega) (by omega)).mp q) (by omega))
      refine v_aload_n hB dTr_descend_22 rfl ?_
      refine v_aload_n hB dTr_descend_23 rfl ?_
      refine v_get hC (klTr hY.2) (F := FTr Y _) (by assumption) 4 dTr_descend_24 kfTr_17 (by decide) rfl ?_
      refine v_iload_n hB dTr_descend_27 rfl ?_
      refine v_iald hC htrail d dTr_descend_28 rfl (by omega) (by decide) ?_
      rw [htr]
      refine v_callV hC tbok kmTr_46 kiTr_at ksTr_at dTr_descend_29 (F := FTr Y _) (by assumption) (by rw [hY.2]; rfl) (cTr_at hY hW hp ν) rfl rfl ⟨Nat.le_of_ble_eq_true rfl, Nat.le_of_ble_eq_true rfl⟩ rfl rfl (Nat.le_of_ble_eq_true rfl) ⟨Nat.zero_le _, Nat.zero_le _⟩ (kE rfl ?_)
      refine v_astore hB dTr_descend_32 rfl (by decide) (lv' := [_, _, _, _, _]) rfl ?_
      refine v_aload_n hB dTr_descend_34 rfl ?_
      refine v_get hC (klTr hY.2) (F := FTr Y _) (by assumption) 5 dTr_descend_35 kfTr_21 (by decide) rfl ?_
      refine v_iload_n hB dTr_descend_38 rfl ?_
      refine v_aload hB dTr_descend_39 rfl ?_
      refine v_aload_n hB dTr_descend_41 rfl ?_
      refine v_callV hC tbok kmTr_119 kiPa_slotThatGrowsLeast ksPa_slotThatGrowsLeast dTr_descend_42 (F := FPa Y _) (by assumption) (by rw [hY.2]; rfl) (cPa_slotThatGrowsLeast hY hpP he ν hu hu0 hu6) rfl rfl ⟨Nat.le_of_ble_eq_true rfl, Nat.le_of_ble_eq_true rfl⟩ rfl rfl (Nat.le_of_ble_eq_true rfl) ⟨Nat.zero_le _, Nat.zero_le _⟩ (kI fun x ν1 h1 => ?_)
      obtain ⟨rfl, b, hb, rfl⟩ := h1
      obtain ⟨hb11, hall⟩ := hall b hb
      have hbb := hbx b (by omega)
      refine v_iast hC hturns d dTr_descend_45 rfl (by omega) (by decide) ?_
      refine v_aload_n hB dTr_descend_46 rfl ?_
      refine v_get hC (klTr hY.2) (F := FTr Y _) (by assumption) 4 dTr_descend_47 kfTr_17 (by decide) rfl ?_
      refine v_iload_n hB dTr_descend_50 rfl ?_
      refine v_iconst hB dTr_descend_51 (v := 1) (by decide) ?_
      refine v_iadd hB dTr_descend_52 ?_
      refine v_aload hB dTr_descend_53 rfl ?_
      refine v_get hC (klPa hY.2) (F := FPa Y _) (by assumption) 3 dTr_descend_55 kfTr_122 (by decide) rfl ?_
      refine v_aload_n hB dTr_descend_58 rfl ?_
      refine v_get hC (klTr hY.2) (F := FTr Y _) (by assumption) 5 dTr_descend_59 kfTr_21 (by decide) rfl ?_
      refine v_iload_n hB dTr_descend_62 rfl ?_
      refine v_iald hC hturns d dTr_descend_63 rfl (by omega) (by decide) ?_
      refine v_aald hC har b dTr_descend_64 hb11 (by omega) (by decide) ?_
      refine v_get hC (klBo hY.2) (F := FBo Y _) (by assumption) 4 dTr_descend_65 kfTr_126 (by decide) rfl ?_
      refine v_iast hC htrail (d + 1) dTr_descend_68 (nI_1 d) (by omega) (by decide) ?_
      refine v_iinc hB dTr_descend_69 rfl (y := _) rfl rfl (by decide) (lv' := [_, _, _, _, _]) rfl ?_
      refine v_goto hB 17 dTr_descend_72 (by decide) ?_
      refine v_drop 4 (lv' := [_, _, _, _, _]) rfl ?_
      rw [i1]
      exact ih (d + 1) _ (by omega) hall
  refine v_aload_n hB dTr_descend_0 rfl ?_
  refine v_callV hC tbok kmTr_69 kiTr_lowestDepth ksTr_lowestDepth dTr_descend_1 (F := FTr Y _) (by assumption) (by rw [hY.2]; rfl) (cTr_lowestDepth hY hW μ hq hr hv h0 hv4) rfl rfl ⟨Nat.le_of_ble_eq_true rfl, Nat.le_of_ble_eq_true rfl⟩ rfl rfl (Nat.le_of_ble_eq_true rfl) ⟨Nat.zero_le _, Nat.zero_le _⟩ (kE rfl ?_)
  refine v_istore_n hB dTr_descend_4 rfl (by decide) (lv' := [_, _, _, _, _]) rfl ?_
  refine v_aload_n hB dTr_descend_5 rfl ?_
  refine v_get hC (klTr hY.2) (F := FTr Y _) (by assumption) 4 dTr_descend_6 kfTr_17 (by decide) rfl ?_
  refine v_iconst hB dTr_descend_9 (v := 0) (by decide) ?_
  refine v_aload_n hB dTr_descend_10 rfl ?_
  refine v_get hC (klTr hY.2) (F := FTr Y _) (by assumption) 0 dTr_descend_11 kfTr_39 (by decide) rfl ?_
  rw [hr]
  refine v_iast hC htrail 0 dTr_descend_14 rfl (by omega) (by decide) ?_
  refine v_iconst hB dTr_descend_15 (v := 0) (by decide) ?_
  refine v_istore_n hB dTr_descend_16 rfl (by decide) (lv' := [_, _, _, _, _]) rfl ?_
  exact loop (v - 1) 0 _ (by omega) h

set_option maxHeartbeats 4000000 in
set_option maxRecDepth 100000 in
theorem cTr_plant {l : Launch} {Y : Yt} (hY : YB Y) (hW : YW Y) {e : Nat} (he : isBo Y e) {μ : Mu} {K : Mu → Prop} (h : plW μ e K) : Ct l Y yTr_plant wTr_plant ({ frames := 5, cells := 0, slots := 0, locals := 124 }) [.ref (ad Y 2), .ref (ad Y e)] μ (PV K) := by
  refine ct_of hY.1 (by decide) rfl (Nat.le_of_ble_eq_true rfl) (lv := [some (.ref (ad Y 2)), some (.ref (ad Y e)), none]) rfl (fun X hC => ?_)
  have hB := hC.B
  obtain ⟨hFa, hDi, hTr, hSe, h4, h5, h6b, h7, h8, hpages, htrail, hturns, hplaces, hlog, hlp, hfound, hwait, hsq, hlk, hPg, hrow, hlrow, hfb⟩ := id hW
  obtain ⟨q, v, hq, h0, hv4, hr, hv, hd⟩ := h
  refine v_aload_n hB dTr_plant_0 rfl ?_
  refine v_aload_n hB dTr_plant_1 rfl ?_
  refine v_callV hC tbok kmTr_42 kiTr_descend ksTr_descend dTr_plant_2 (F := FTr Y _) (by assumption) (by rw [hY.2]; rfl) (cTr_descend hY hW he hq hr hv h0 hv4 hd) rfl rfl ⟨Nat.le_of_ble_eq_true rfl, Nat.le_of_ble_eq_true rfl⟩ rfl rfl (Nat.le_of_ble_eq_true rfl) ⟨Nat.zero_le _, Nat.zero_le _⟩ (kI fun x μ1 h1 => ?_)
  obtain ⟨rfl, p, u, hp, hu6, htr, hu, hc⟩ := h1
  have hpP := hPg p hp
  refine v_istore_n hB dTr_plant_5 rfl (by decide) (lv' := [_, _, _]) rfl ?_
  refine v_aload_n hB dTr_plant_6 rfl ?_
  refine v_aload_n hB dTr_plant_7 rfl ?_
  refine v_get hC (klTr hY.2) (F := FTr Y _) (by assumption) 4 dTr_plant_8 kfTr_17 (by decide) rfl ?_
  refine v_iload_n hB dTr_plant_11 rfl ?_
  refine v_iald hC htrail (v - 1) dTr_plant_12 rfl (by omega) (by decide) ?_
  rw [htr]
  refine v_callV hC tbok kmTr_46 kiTr_at ksTr_at dTr_plant_13 (F := FTr Y _) (by assumption) (by rw [hY.2]; rfl) (cTr_at hY hW hp μ1) rfl rfl ⟨Nat.le_of_ble_eq_true rfl, Nat.le_of_ble_eq_true rfl⟩ rfl rfl (Nat.le_of_ble_eq_true rfl) ⟨Nat.zero_le _, Nat.zero_le _⟩ (kE rfl ?_)
  refine v_aload_n hB dTr_plant_16 rfl ?_
  refine v_callV hC tbok kmTr_50 kiPa_add ksPa_add dTr_plant_17 (F := FPa Y _) hpP.2.1 (by rw [hY.2]; rfl) (cPa_add hY hpP he μ1 hu hu6) rfl rfl ⟨Nat.le_of_ble_eq_true rfl, Nat.le_of_ble_eq_true rfl⟩ rfl rfl (Nat.le_of_ble_eq_true rfl) ⟨Nat.zero_le _, Nat.zero_le _⟩ (kE rfl ?_)
  refine v_aload_n hB dTr_plant_20 rfl ?_
  refine v_aload_n hB dTr_plant_21 rfl ?_
  refine v_get hC (klTr hY.2) (F := FTr Y _) (by assumption) 0 dTr_plant_22 kfTr_39 (by decide) rfl ?_
  refine v_aload_n hB dTr_plant_25 rfl ?_
  refine v_get hC (klTr hY.2) (F := FTr Y _) (by assumption) 1 dTr_plant_26 kfTr_54 (by decide) rfl ?_
  refine v_iconst hB dTr_plant_29 (v := 1) (by decide) ?_
  refine v_iadd hB dTr_plant_30 ?_
  refine v_callV hC tbok kmTr_57 kiTr_writeHeader ksTr_writeHeader dTr_plant_31 (F := FTr Y _) (by assumption) (by rw [hY.2]; rfl) (cTr_writeHeader hY hW _ _ _) rfl rfl ⟨Nat.le_of_ble_eq_true rfl, Nat.le_of_ble_eq_true rfl⟩ rfl rfl (Nat.le_of_ble_eq_true rfl) ⟨Nat.zero_le _, Nat.zero_le _⟩ (kE rfl ?_)
  refine v_aload_n hB dTr_plant_34 rfl ?_
  refine v_iload_n hB dTr_plant_35 rfl ?_
  refine v_callV hC tbok kmTr_61 kiTr_climb ksTr_climb dTr_plant_36 (F := FTr Y _) (by assumption) (by rw [hY.2]; rfl) (cTr_climb hY hW (by omega) hc) rfl rfl ⟨Nat.le_of_ble_eq_true rfl, Nat.le_of_ble_eq_true rfl⟩ rfl rfl (Nat.le_of_ble_eq_true rfl) ⟨Nat.zero_le _, Nat.zero_le _⟩ (kV fun ν2 h2 => ?_)
  exact v_vret hC rfl dTr_plant_39 ⟨rfl, h2⟩

set_option maxHeartbeats 4000000 in
set_option maxRecDepth 100000 in
theorem cTr_seek {l : Launch} {Y : Yt} (hY : YB Y) (hW : YW Y) {e : Nat} (he : isBo Y e) : ∀ (f q d : Nat) (μ : Mu) (K : Bool → Mu → Prop), d + f = 4 → skW e f q d μ K → Ct l Y yTr_seek wTr_seek (skR f) [.ref (ad Y 2), .ref (ad Y e), .int (nI q), .int (nI d)] μ (PB K) := by
  obtain ⟨hFa, hDi, hTr, hSe, h4, h5, h6b, h7, h8, hpages, htrail, hturns, hplaces, hlog, hlp, hfound, hwait, hsq, hlk, hPg, hrow, hlrow, hfb⟩ := id hW
  intro f
  induction f with
  | zero =>
    intro q d μ K hd h
    refine ct_of hY.1 (by decide) rfl (Nat.le_of_ble_eq_true rfl) (lv := [some (.ref (ad Y 2)), some (.ref (ad Y e)), some (.int (nI q)), some (.int (nI d)), none, none, none]) rfl (fun X hC => ?_)
    have hB := hC.B
    refine v_iload_n hB dTr_seek_0 rfl ?_
    refine v_iconst hB dTr_seek_1 (v := 4) (by decide) ?_
    refine v_icmp_lt hB 7 dTr_seek_2 (by decide) (fun c => ?_) (fun c => ?_)
    · exact absurd c (by rw [show (4 : Int32) = nI 4 from rfl]; exact nI_nlt (by omega) (by omega))
    · refine v_iconst hB dTr_seek_5 (v := 0) (by decide) ?_
      exact v_zret hC rfl (by decide) dTr_seek_6 ⟨false, rfl, h⟩
  | succ f ih =>
    rintro q d μ K hd ⟨hq, h⟩
    have hqP := hPg q hq
    obtain ⟨-, hqa, hqar, hqbx⟩ := hPg q hq
    refine ct_of hY.1 (by decide) rfl (Nat.le_of_ble_eq_true rfl) (lv := [some (.ref (ad Y 2)), some (.ref (ad Y e)), some (.int (nI q)), some (.int (nI d)), none, none, none]) rfl (fun X hC => ?_)
    have hB := hC.B
    have loop : ∀ (r k : Nat) (ν : Mu), k + r ≤ 7 → skL (fun c ν K' => skW e f c (d + 1) ν K') e q d K r k ν → VG X (yA Y) 7 0 0 (VQ X Y (PB K)) (yI Y (ν)) 24 [some (.ref (ad Y 2)), some (.ref (ad Y e)), some (.int (nI q)), some (.int (nI d)), some (.ref (ad Y (pgI q))), some (.int (nI k)), none] [] := by
      intro r
      induction r with
      | zero =>
        intro k ν hk7 h
        exact h.elim
      | succ r ihr =>
        rintro k ν hk7 ⟨u, v, hu6, hv30, hu, hv, hi⟩
        refine v_iload hB dTr_seek_24 rfl ?_
        refine v_aload hB dTr_seek_26 rfl ?_
        refine v_get hC (klPa hY.2) (F := FPa Y _) (by assumption) 1 dTr_seek_28 kfTr_129 (by decide) rfl ?_
        rw [hu]
        by_cases hku : k < u
        · rw [if_pos hku] at hi
          have hbk := hqbx k (by omega)
          refine v_icmp_ge hB 106 dTr_seek_31 (by decide) (fun c => ?_) (fun c => ?_)
          · exact absurd c (fun q => absurd ((nI_leI (by omega) (by omega)).mp q) (by omega))
          refine v_aload hB dTr_seek_34 rfl ?_
          refine v_get hC (klPa hY.2) (F := FPa Y _) (by assumption) 3 dTr_seek_36 kfTr_122 (by decide) rfl ?_
          refine v_iload hB dTr_seek_39 rfl ?_
          refine v_aald hC hqar k dTr_seek_41 rfl (by omega) (by decide) ?_
          refine v_astore hB dTr_seek_42 rfl (by decide) (lv' := [_, _, _, _, _, _, _]) rfl ?_
          refine v_aload_n hB dTr_seek_44 rfl ?_
          refine v_get hC (klTr hY.2) (F := FTr Y _) (by assumption) 5 dTr_seek_45 kfTr_21 (by decide) rfl ?_
          refine v_iload_n hB dTr_seek_48 rfl ?_
          refine v_iload hB dTr_seek_49 rfl ?_
          refine v_iast hC hturns d dTr_seek_51 rfl (by omega) (by decide) ?_
          refine v_aload hB dTr_seek_52 rfl ?_
          refine v_get hC (klPa hY.2) (F := FPa Y _) (by assumption) 0 dTr_seek_54 kfTr_35 (by decide) rfl ?_
          rw [hv]
          have no : ∀ ν2, skL (fun c ν K' => skW e f c (d + 1) ν K') e q d K r (k + 1) ν2 → VG X (yA Y) 7 0 0 (VQ X Y (PB K)) (yI Y (ν2)) 100 [some (.ref (ad Y 2)), some (.ref (ad Y e)), some (.int (nI q)), some (.int (nI d)), some (.ref (ad Y (pgI q))), some (.int (nI k)), some (.ref (ad Y (bxI q k)))] [] := by
            intro ν2 h2
            refine v_iinc hB dTr_seek_100 rfl (y := _) rfl rfl (by decide) (lv' := [_, _, _, _, _, _, _]) rfl ?_
            refine v_goto hB 24 dTr_seek_103 (by decide) ?_
            refine v_drop 6 (lv' := [_, _, _, _, _, _, _]) rfl ?_
            rw [i1]
            exact ihr (k + 1) ν2 (by omega) h2
          have yes : ∀ ν2, K true ν2 → VG X (yA Y) 7 0 0 (VQ X Y (PB K)) (yI Y (ν2)) 98 [some (.ref (ad Y 2)), some (.ref (ad Y e)), some (.int (nI q)), some (.int (nI d)), some (.ref (ad Y (pgI q))), some (.int (nI k)), some (.ref (ad Y (bxI q k)))] [] := by
            intro ν2 h2
            refine v_iconst hB dTr_seek_98 (v := 1) (by decide) ?_
            exact v_zret hC rfl (by decide) dTr_seek_99 ⟨true, rfl, h2⟩
          refine v_iconst hB dTr_seek_57 (v := 1) (by decide) ?_
          refine v_icmp_ne hB 73 dTr_seek_58 (by decide) (fun c1 => ?_) (fun c1 => ?_)
          · have hv1 : v ≠ 1 := fun z => c1 (by rw [z]; rfl)
            rw [if_neg hv1] at hi
            refine v_aload hB dTr_seek_73 rfl ?_
            refine v_aload_n hB dTr_seek_75 rfl ?_
            refine v_callV hC tbok kmTr_136 kiBo_holds ksBo_holds dTr_seek_76 (F := FBo Y _) (by assumption) (by rw [hY.2]; rfl) (cBo_holds hY hbk he _) rfl rfl ⟨by simp only [skR]; omega, by simp only [skR]; omega⟩ rfl rfl (Nat.le_of_ble_eq_true rfl) ⟨Nat.zero_le _, Nat.zero_le _⟩ (kE rfl ?_)
            refine v_if_eq hB 100 dTr_seek_79 (by decide) (fun c2 => ?_) (fun c2 => ?_)
            · rw [if_neg (by rw [bI_0.mp c2]; decide)] at hi
              exact no _ hi
            rw [if_pos (bI_n.mp c2)] at hi
            obtain ⟨c, hc, hi⟩ := hi
            refine v_aload_n hB dTr_seek_82 rfl ?_
            refine v_aload_n hB dTr_seek_83 rfl ?_
            refine v_aload hB dTr_seek_84 rfl ?_
            refine v_get hC (klBo hY.2) (F := FBo Y _) (by assumption) 4 dTr_seek_86 kfTr_126 (by decide) rfl ?_
            rw [hc]
            refine v_iload_n hB dTr_seek_89 rfl ?_
            refine v_iconst hB dTr_seek_90 (v := 1) (by decide) ?_
            refine v_iadd hB dTr_seek_91 ?_
            rw [nI_1]
            refine v_callS hC tbok kmTr_65 ktTr_seek dTr_seek_92 (ih c (d + 1) _ _ (by omega) hi) rfl rfl ⟨Nat.le_refl _, by simp only [skR]; omega⟩ rfl rfl (Nat.le_of_ble_eq_true rfl) ⟨Nat.zero_le _, Nat.zero_le _⟩ (kB fun b ν2 h2 => ?_)
            refine v_if_eq hB 100 dTr_seek_95 (by decide) (fun c3 => ?_) (fun c3 => ?_)
            · rw [if_neg (by rw [bI_0.mp c3]; decide)] at h2
              exact no _ h2
            rw [if_pos (bI_n.mp c3)] at h2
            exact yes _ h2
          have hv1 : v = 1 := (nI_eq (by omega) (by omega)).mp c1
          rw [if_pos hv1] at hi
          refine v_aload hB dTr_seek_61 rfl ?_
          refine v_aload_n hB dTr_seek_63 rfl ?_
          refine v_callV hC tbok kmTr_132 kiBo_isSame ksBo_isSame dTr_seek_64 (F := FBo Y _) (by assumption) (by rw [hY.2]; rfl) (cBo_isSame hY hbk he _) rfl rfl ⟨by simp only [skR]; omega, by simp only [skR]; omega⟩ rfl rfl (Nat.le_of_ble_eq_true rfl) ⟨Nat.zero_le _, Nat.zero_le _⟩ (kE rfl ?_)
          refine v_if_eq hB 100 dTr_seek_67 (by decide) (fun c2 => ?_) (fun c2 => ?_)
          · rw [if_neg (by rw [bI_0.mp c2]; decide)] at hi
            exact no _ hi
          refine v_goto hB 98 dTr_seek_70 (by decide) ?_
          rw [if_pos (bI_n.mp c2)] at hi
          exact yes _ hi
        · rw [if_neg hku] at hi
          refine v_icmp_ge hB 106 dTr_seek_31 (by decide) (fun c => ?_) (fun c => ?_)
          · refine v_iconst hB dTr_seek_106 (v := 0) (by decide) ?_
            exact v_zret hC rfl (by decide) dTr_seek_107 ⟨false, rfl, hi⟩
          · exact absurd (nI_le (by omega) (by omega)) c
    refine v_iload_n hB dTr_seek_0 rfl ?_
    refine v_iconst hB dTr_seek_1 (v := 4) (by decide) ?_
    refine v_icmp_lt hB 7 dTr_seek_2 (by decide) (fun c => ?_) (fun c => ?_)
    rotate_left
    · exact absurd (by rw [show (4 : Int32) = nI 4 from rfl]; exact nI_lt (by omega) (by omega)) c
    refine v_aload_n hB dTr_seek_7 rfl ?_
    refine v_iload_n hB dTr_seek_8 rfl ?_
    refine v_callV hC tbok kmTr_46 kiTr_at ksTr_at dTr_seek_9 (F := FTr Y _) (by assumption) (by rw [hY.2]; rfl) (cTr_at hY hW hq μ) rfl rfl ⟨by simp only [skR]; omega, by simp only [skR]; omega⟩ rfl rfl (Nat.le_of_ble_eq_true rfl) ⟨Nat.zero_le _, Nat.zero_le _⟩ (kE rfl ?_)
    refine v_astore hB dTr_seek_12 rfl (by decide) (lv' := [_, _, _, _, _, _, _]) rfl ?_
    refine v_aload_n hB dTr_seek_14 rfl ?_
    refine v_get hC (klTr hY.2) (F := FTr Y _) (by assumption) 4 dTr_seek_15 kfTr_17 (by decide) rfl ?_
    refine v_iload_n hB dTr_seek_18 rfl ?_
    refine v_iload_n hB dTr_seek_19 rfl ?_
    refine v_iast hC htrail d dTr_seek_20 rfl (by omega) (by decide) ?_
    refine v_iconst hB dTr_seek_21 (v := 0) (by decide) ?_
    refine v_istore hB dTr_seek_22 rfl (by decide) (lv' := [_, _, _, _, _, _, _]) rfl ?_
    exact loop 7 0 _ (by decide) h

set_option maxHeartbeats 4000000 in
set_option maxRecDepth 100000 in
theorem cTr_uproot {l : Launch} {Y : Yt} (hY : YB Y) (hW : YW Y) {e : Nat} (he : isBo Y e) {μ : Mu} {K : Bool → Mu → Prop} (h : upW μ e K) : Ct l Y yTr_uproot wTr_uproot ({ frames := 7, cells := 0, slots := 0, locals := 177 }) [.ref (ad Y 2), .ref (ad Y e)] μ (PB K) := by
  refine ct_of hY.1 (by decide) rfl (Nat.le_of_ble_eq_true rfl) (lv := [some (.ref (ad Y 2)), some (.ref (ad Y e)), none]) rfl (fun X hC => ?_)
  have hB := hC.B
  obtain ⟨hFa, hDi, hTr, hSe, h4, h5, h6b, h7, h8, hpages, htrail, hturns, hplaces, hlog, hlp, hfound, hwait, hsq, hlk, hPg, hrow, hlrow, hfb⟩ := id hW
  obtain ⟨q, hr, hs⟩ := h
  refine v_aload_n hB dTr_uproot_0 rfl ?_
  refine v_aload_n hB dTr_uproot_1 rfl ?_
  refine v_aload_n hB dTr_uproot_2 rfl ?_
  refine v_get hC (klTr hY.2) (F := FTr Y _) (by assumption) 0 dTr_uproot_3 kfTr_39 (by decide) rfl ?_
  rw [hr]
  refine v_iconst hB dTr_uproot_6 (v := 0) (by decide) ?_
  refine v_callS hC tbok kmTr_65 ktTr_seek dTr_uproot_7 (cTr_seek hY hW he 4 q 0 μ _ (by decide) hs) rfl rfl ⟨Nat.le_of_ble_eq_true rfl, Nat.le_of_ble_eq_true rfl⟩ rfl rfl (Nat.le_of_ble_eq_true rfl) ⟨Nat.zero_le _, Nat.zero_le _⟩ (kB fun b μ1 h1 => ?_)
  refine v_if_ne hB 15 dTr_uproot_10 (by decide) (fun c => ?_) (fun c => ?_)
  rotate_left
  · rw [if_neg (by rw [bI_0.mp c]; decide)] at h1
    refine v_iconst hB dTr_uproot_13 (v := 0) (by decide) ?_
    exact v_zret hC rfl (by decide) dTr_uproot_14 ⟨false, rfl, h1⟩
  rw [if_pos (bI_n.mp c)] at h1
  obtain ⟨q2, v, p, s, u, hq2, h0, hv4, hr2, hv, hp, hs2, hu6, htr, htu, hu, hc⟩ := h1
  have hpP := hPg p hp
  refine v_aload_n hB dTr_uproot_15 rfl ?_
  refine v_callV hC tbok kmTr_69 kiTr_lowestDepth ksTr_lowestDepth dTr_uproot_16 (F := FTr Y _) (by assumption) (by rw [hY.2]; rfl) (cTr_lowestDepth hY hW μ1 hq2 hr2 hv h0 hv4) rfl rfl ⟨Nat.le_of_ble_eq_true rfl, Nat.le_of_ble_eq_true rfl⟩ rfl rfl (Nat.le_of_ble_eq_true rfl) ⟨Nat.zero_le _, Nat.zero_le _⟩ (kE rfl ?_)
  refine v_istore_n hB dTr_uproot_19 rfl (by decide) (lv' := [_, _, _]) rfl ?_
  refine v_aload_n hB dTr_uproot_20 rfl ?_
  refine v_aload_n hB dTr_uproot_21 rfl ?_
  refine v_get hC (klTr hY.2) (F := FTr Y _) (by assumption) 4 dTr_uproot_22 kfTr_17 (by decide) rfl ?_
  refine v_iload_n hB dTr_uproot_25 rfl ?_
  refine v_iald hC htrail (v - 1) dTr_uproot_26 rfl (by omega) (by decide) ?_
  rw [htr]
  refine v_callV hC tbok kmTr_46 kiTr_at ksTr_at dTr_uproot_27 (F := FTr Y _) (by assumption) (by rw [hY.2]; rfl) (cTr_at hY hW hp μ1) rfl rfl ⟨Nat.le_of_ble_eq_true rfl, Nat.le_of_ble_eq_true rfl⟩ rfl rfl (Nat.le_of_ble_eq_true rfl) ⟨Nat.zero_le _, Nat.zero_le _⟩ (kE rfl ?_)
  refine v_aload_n hB dTr_uproot_30 rfl ?_
  refine v_get hC (klTr hY.2) (F := FTr Y _) (by assumption) 5 dTr_uproot_31 kfTr_21 (by decide) rfl ?_
  refine v_iload_n hB dTr_uproot_34 rfl ?_
  refine v_iald hC hturns (v - 1) dTr_uproot_35 rfl (by omega) (by decide) ?_
  rw [htu]
  refine v_callV hC tbok kmTr_73 kiPa_drop ksPa_drop dTr_uproot_36 (F := FPa Y _) hpP.2.1 (by rw [hY.2]; rfl) (cPa_drop hY hpP μ1 hu hs2 hu6) rfl rfl ⟨Nat.le_of_ble_eq_true rfl, Nat.le_of_ble_eq_true rfl⟩ rfl rfl (Nat.le_of_ble_eq_true rfl) ⟨Nat.zero_le _, Nat.zero_le _⟩ (kE rfl ?_)
  refine v_aload_n hB dTr_uproot_39 rfl ?_
  refine v_aload_n hB dTr_uproot_40 rfl ?_
  refine v_get hC (klTr hY.2) (F := FTr Y _) (by assumption) 0 dTr_uproot_41 kfTr_39 (by decide) rfl ?_
  refine v_aload_n hB dTr_uproot_44 rfl ?_
  refine v_get hC (klTr hY.2) (F := FTr Y _) (by assumption) 1 dTr_uproot_45 kfTr_54 (by decide) rfl ?_
  refine v_iconst hB dTr_uproot_48 (v := 1) (by decide) ?_
  refine v_isub hB dTr_uproot_49 ?_
  refine v_callV hC tbok kmTr_57 kiTr_writeHeader ksTr_writeHeader dTr_uproot_50 (F := FTr Y _) (by assumption) (by rw [hY.2]; rfl) (cTr_writeHeader hY hW _ _ _) rfl rfl ⟨Nat.le_of_ble_eq_true rfl, Nat.le_of_ble_eq_true rfl⟩ rfl rfl (Nat.le_of_ble_eq_true rfl) ⟨Nat.zero_le _, Nat.zero_le _⟩ (kE rfl ?_)
  refine v_aload_n hB dTr_uproot_53 rfl ?_
  refine v_iload_n hB dTr_uproot_54 rfl ?_
  refine v_callV hC tbok kmTr_61 kiTr_climb ksTr_climb dTr_uproot_55 (F := FTr Y _) (by assumption) (by rw [hY.2]; rfl) (cTr_climb hY hW (by omega) hc) rfl rfl ⟨Nat.le_of_ble_eq_true rfl, Nat.le_of_ble_eq_true rfl⟩ rfl rfl (Nat.le_of_ble_eq_true rfl) ⟨Nat.zero_le _, Nat.zero_le _⟩ (kV fun ν2 h2 => ?_)
  refine v_iconst hB dTr_uproot_58 (v := 1) (by decide) ?_
  exact v_zret hC rfl (by decide) dTr_uproot_59 ⟨true, rfl, h2⟩
end
section
/-! THE TREE: marks, rows, and whether it is whole. -/
def tB (x : Int32) : Prop := x = 0 ∨ x = 1
theorem tB_z {x : Int32} (h : tB x) : narrow .boolean (.int x) = .int x := by rcases h with rfl | rfl <;> decide
theorem tB_f {x : Int32} (h : tB x) : fits .boolean (.int x) = true := by rcases h with rfl | rfl <;> decide
def chg (μ : Mu) (q : Nat) : Int32 := if q = 0 then μ.1 2 2 else μ.1 (pgI q) 2
def cnt (μ : Mu) : Nat → Nat
  | 0 => 0
  | k + 1 => cnt μ k + (if chg μ k = 0 then 0 else 1)
theorem cnt_le (μ : Mu) : ∀ k, cnt μ k ≤ k
  | 0 => Nat.le_refl 0
  | k + 1 => by
    have := cnt_le μ k
    rw [cnt]
    split <;> omega
def muL : Nat → Nat → Mu → Mu
  | 0, _, μ => μ
  | r + 1, k, μ => muL r (k + 1) (wi μ (pgI k) 2 0)
def muM (μ : Mu) : Mu := muL 40 0 (wi μ 2 2 0)
def fgL : Nat → Nat → Mu → Mu
  | 0, _, μ => μ
  | r + 1, k, μ => fgL r (k + 1) (opn μ k 0)
def fgM (μ : Mu) : Mu := muM (fgL 40 0 (wi (wi μ 2 0 0) 2 1 0))
def wpM (μ : Mu) (r : Nat) : Mu := wi (wi μ r 0 (μ.1 2 0)) r 1 ((wi μ r 0 (μ.1 2 0)).1 2 1)
def wpW (μ : Mu) (q r : Nat) (K : Mu → Prop) : Prop := if q = 0 then K (wpM μ r) else ∃ u, u ≤ 5 ∧ μ.1 (pgI q) 1 = nI u ∧ K (wtM μ q u r)
def rfL (K : Mu → Prop) : Nat → Nat → Mu → Prop
  | 0, _, μ => K μ
  | r + 1, q, μ => ∃ u, u ≤ 5 ∧ μ.1 (plI q) 1 = nI u ∧ rfL K r (q + 1) (rdM μ q u (plI q))
def rfH (μ : Mu) : Mu := wi (wi (wi μ 2 0 (μ.1 (plI 0) 0)) 2 1 ((wi μ 2 0 (μ.1 (plI 0) 0)).1 (plI 0) 1)) 2 2 0
def rfW (μ : Mu) (K : Mu → Prop) : Prop := rfL K 39 1 (rfH μ)
/-- how many entries are below a page -/
def ebL (rec : Nat → Mu → (Int32 → Mu → Prop) → Prop) (q : Nat) (K : Int32 → Mu → Prop) : Nat → Nat → Int32 → Mu → Prop
  | 0, _, _, _ => False
  | r + 1, k, s, ν => ∃ u : Nat, u ≤ 6 ∧ ν.1 (pgI q) 1 = nI u ∧ (if k < u then ∃ c uc : Nat, c < 40 ∧ uc ≤ 6 ∧ ν.1 (bxI q k) 4 = nI c ∧ ν.1 (pgI c) 1 = nI uc ∧ (if sameB ((frM (wi ν 5 4 (nI c)) c uc (-1) 5).1 (bxI q k)) ((frM (wi ν 5 4 (nI c)) c uc (-1) 5).1 5) = true then rec c (frM (wi ν 5 4 (nI c)) c uc (-1) 5) (fun x ν2 => if x < 0 then K (-1) ν2 else ebL rec q K r (k + 1) (s + x) ν2) else K (-1) (frM (wi ν 5 4 (nI c)) c uc (-1) 5)) else K s ν)
def ebX (μ : Mu) (q u v : Nat) : Prop := μ.1 (pgI q) 0 = nI v ∧ u ≤ 5 ∧ (nI q = μ.1 2 0 ∨ 2 ≤ u)
def ebW : Nat → Nat → Mu → (Int32 → Mu → Prop) → Prop
  | 0, q, μ, K => q < 40 ∧ K (-1) μ
  | v + 1, q, μ, K => q < 40 ∧ ∃ u : Nat, u ≤ 6 ∧ μ.1 (pgI q) 1 = nI u ∧ (¬ ebX μ q u (v + 1) → K (-1) μ) ∧ (ebX μ q u (v + 1) → (if v = 0 then K (nI u) μ else ebL (fun c ν K' => ebW v c ν K') q K 7 0 0 μ))
def ebR (v : Nat) : Room := { frames := v + 3, cells := 0, slots := 0, locals := 27 * v + 50 }
def whW (μ : Mu) (K : Bool → Mu → Prop) : Prop := ∃ q v : Nat, q < 40 ∧ v < 2 ^ 30 ∧ μ.1 2 0 = nI q ∧ μ.1 (pgI q) 0 = nI v ∧ (if 1 ≤ v ∧ v ≤ 4 then ebW v q μ (fun x ν => K (decide (x = ν.1 2 1)) ν) else K false μ)
set_option maxHeartbeats 4000000 in
set_option maxRecDepth 100000 in
theorem cTr_isChanged {l : Launch} {Y : Yt} (hY : YB Y) (hW : YW Y) {q : Nat} (hq : q < 40) (μ : Mu) (hb : tB (chg μ q)) : Ct l Y yTr_isChanged wTr_isChanged ({ frames := 1, cells := 0, slots := 0, locals := 21 }) [.ref (ad Y 2), .int (nI q)] μ (PE (some (.int (chg μ q))) μ) := by
  refine ct_of hY.1 (by decide) rfl (Nat.le_of_ble_eq_true rfl) (lv := [some (.ref (ad Y 2)), some (.int (nI q))]) rfl (fun X hC => ?_)
  have hB := hC.B
  obtain ⟨hFa, hDi, hTr, hSe, h4, h5, h6b, h7, h8, hpages, htrail, hturns, hplaces, hlog, hlp, hfound, hwait, hsq, hlk, hPg, hrow, hlrow, hfb⟩ := id hW
  have hqa := (hPg q hq).2.1
  refine v_iload_n hB dTr_isChanged_0 rfl ?_
  refine v_if_ne hB 11 dTr_isChanged_1 (by decide) (fun c => ?_) (fun c => ?_)
  · have h0 : q ≠ 0 := fun z => c (by rw [z]; rfl)
    rw [chg, if_neg h0] at hb ⊢
    refine v_aload_n hB dTr_isChanged_11 rfl ?_
    refine v_iload_n hB dTr_isChanged_12 rfl ?_
    refine v_callV hC tbok kmTr_46 kiTr_at ksTr_at dTr_isChanged_13 (F := FTr Y _) (by assumption) (by rw [hY.2]; rfl) (cTr_at hY hW hq μ) rfl rfl ⟨Nat.le_of_ble_eq_true rfl, Nat.le_of_ble_eq_true rfl⟩ rfl rfl (Nat.le_of_ble_eq_true rfl) ⟨Nat.zero_le _, Nat.zero_le _⟩ (kE rfl ?_)
    refine v_get hC (klPa hY.2) (F := FPa Y _) (by assumption) 2 dTr_isChanged_16 kfTr_88 (by decide) rfl ?_
    exact v_zret hC rfl (tB_z hb) dTr_isChanged_19 ⟨rfl, rfl⟩
  · have h0 : q = 0 := (nI_eq (b := 0) (by omega) (by omega)).mp c
    rw [chg, if_pos h0] at hb ⊢
    refine v_aload_n hB dTr_isChanged_4 rfl ?_
    refine v_get hC (klTr hY.2) (F := FTr Y _) (by assumption) 2 dTr_isChanged_5 kfTr_84 (by decide) rfl ?_
    refine v_goto hB 19 dTr_isChanged_8 (by decide) ?_
    exact v_zret hC rfl (tB_z hb) dTr_isChanged_19 ⟨rfl, rfl⟩

set_option maxHeartbeats 4000000 in
set_option maxRecDepth 100000 in
theorem cTr_changedPages {l : Launch} {Y : Yt} (hY : YB Y) (hW : YW Y) (μ : Mu) (hb : ∀ q, q < 40 → tB (chg μ q)) : Ct l Y yTr_changedPages wTr_changedPages ({ frames := 2, cells := 0, slots := 0, locals := 42 }) [.ref (ad Y 2)] μ (PE (some (.int (nI (cnt μ 40)))) μ) := by
  refine ct_of hY.1 (by decide) rfl (Nat.le_of_ble_eq_true rfl) (lv := [some (.ref (ad Y 2)), none, none]) rfl (fun X hC => ?_)
  have hB := hC.B
  obtain ⟨hFa, hDi, hTr, hSe, h4, h5, h6b, h7, h8, hpages, htrail, hturns, hplaces, hlog, hlp, hfound, hwait, hsq, hlk, hPg, hrow, hlrow, hfb⟩ := id hW
  have loop : ∀ (r k : Nat), k + r = 40 → VG X (yA Y) 3 0 0 (VQ X Y (PE (some (.int (nI (cnt μ 40)))) μ)) (yI Y (μ)) 4 [some (.ref (ad Y 2)), some (.int (nI (cnt μ k))), some (.int (nI k))] [] := by
    intro r
    induction r with
    | zero =>
      intro k hk
      obtain rfl : k = 40 := by omega
      refine v_iload_n hB dTr_changedPages_4 rfl ?_
      refine v_bipush hB dTr_changedPages_5 (v := 40) (by decide) ?_
      refine v_icmp_ge hB 32 dTr_changedPages_7 (by decide) (fun c => ?_) (fun c => ?_)
      · refine v_iload_n hB dTr_changedPages_32 rfl ?_
        exact v_iret hC rfl dTr_changedPages_33 ⟨rfl, rfl⟩
      · exact absurd (by rw [show (40 : Int32) = nI 40 from rfl]; exact nI_le (by omega) (by omega)) c
    | succ r ih =>
      intro k hk
      refine v_iload_n hB dTr_changedPages_4 rfl ?_
      refine v_bipush hB dTr_changedPages_5 (v := 40) (by decide) ?_
      refine v_icmp_ge hB 32 dTr_changedPages_7 (by decide) (fun c => ?_) (fun c => ?_)
      · exact absurd c (by rw [show (40 : Int32) = nI 40 from rfl]; exact (fun q => absurd ((nI_leI (by omega) (by omega)).mp q) (by omega)))
      refine v_iload_n hB dTr_changedPages_10 rfl ?_
      refine v_aload_n hB dTr_changedPages_11 rfl ?_
      refine v_iload_n hB dTr_changedPages_12 rfl ?_
      refine v_callV hC tbok kmTr_80 kiTr_isChanged ksTr_isChanged dTr_changedPages_13 (F := FTr Y _) (by assumption) (by rw [hY.2]; rfl) (cTr_isChanged hY hW (q := k) (by omega) μ (hb k (by omega))) rfl rfl ⟨Nat.le_of_ble_eq_true rfl, Nat.le_of_ble_eq_true rfl⟩ rfl rfl (Nat.le_of_ble_eq_true rfl) ⟨Nat.zero_le _, Nat.zero_le _⟩ (kE rfl ?_)
      refine v_if_eq hB 23 dTr_changedPages_16 (by decide) (fun c1 => ?_) (fun c1 => ?_)
      · refine v_iconst hB dTr_changedPages_23 (v := 0) (by decide) ?_
        refine v_iadd hB dTr_changedPages_24 ?_
        refine v_istore_n hB dTr_changedPages_25 rfl (by decide) (lv' := [_, _, _]) rfl ?_
        refine v_iinc hB dTr_changedPages_26 rfl (y := _) rfl rfl (by decide) (lv' := [_, _, _]) rfl ?_
        refine v_goto hB 4 dTr_changedPages_29 (by decide) ?_
        rw [i1, show nI (cnt μ k) + 0 = nI (cnt μ (k + 1)) by rw [cnt, if_pos c1]; exact nI_add _ 0]
        exact ih (k + 1) (by omega)
      · refine v_iconst hB dTr_changedPages_19 (v := 1) (by decide) ?_
        refine v_goto hB 24 dTr_changedPages_20 (by decide) ?_
        refine v_iadd hB dTr_changedPages_24 ?_
        refine v_istore_n hB dTr_changedPages_25 rfl (by decide) (lv' := [_, _, _]) rfl ?_
        refine v_iinc hB dTr_changedPages_26 rfl (y := _) rfl rfl (by decide) (lv' := [_, _, _]) rfl ?_
        refine v_goto hB 4 dTr_changedPages_29 (by decide) ?_
        rw [i1, nI_1, show cnt μ k + 1 = cnt μ (k + 1) by rw [cnt, if_neg c1]]
        exact ih (k + 1) (by omega)
  refine v_iconst hB dTr_changedPages_0 (v := 0) (by decide) ?_
  refine v_istore_n hB dTr_changedPages_1 rfl (by decide) (lv' := [_, _, _]) rfl ?_
  refine v_iconst hB dTr_changedPages_2 (v := 0) (by decide) ?_
  refine v_istore_n hB dTr_changedPages_3 rfl (by decide) (lv' := [_, _, _]) rfl ?_
  exact loop 40 0 (by decide)

set_option maxHeartbeats 4000000 in
set_option maxRecDepth 100000 in
theorem cTr_markUnchanged {l : Launch} {Y : Yt} (hY : YB Y) (hW : YW Y) (μ : Mu) : Ct l Y yTr_markUnchanged wTr_markUnchanged ({ frames := 0, cells := 0, slots := 0, locals := 0 }) [.ref (ad Y 2)] μ (PE none (muM μ)) := by
  refine ct_of hY.1 (by decide) rfl (Nat.le_of_ble_eq_true rfl) (lv := [some (.ref (ad Y 2)), none]) rfl (fun X hC => ?_)
  have hB := hC.B
  obtain ⟨hFa, hDi, hTr, hSe, h4, h5, h6b, h7, h8, hpages, htrail, hturns, hplaces, hlog, hlp, hfound, hwait, hsq, hlk, hPg, hrow, hlrow, hfb⟩ := id hW
  have loop : ∀ (r k : Nat) (ν : Mu), k + r = 40 → muL r k ν = muM μ → VG X (yA Y) 2 0 0 (VQ X Y (PE none (muM μ))) (yI Y (ν)) 7 [some (.ref (ad Y 2)), some (.int (nI k))] [] := by
    intro r
    induction r with
    | zero =>
      intro k ν hk hf
      refine v_iload_n hB dTr_markUnchanged_7 rfl ?_
      refine v_bipush hB dTr_markUnchanged_8 (v := 40) (by decide) ?_
      refine v_icmp_ge hB 29 dTr_markUnchanged_10 (by decide) (fun c => ?_) (fun c => ?_)
      · exact v_vret hC rfl dTr_markUnchanged_29 ⟨rfl, hf⟩
      · exact absurd (by rw [show (40 : Int32) = nI 40 from rfl]; exact nI_le (by omega) (by omega)) c
    | succ r ih =>
      intro k ν hk hf
      have hka := (hPg k (by omega)).2.1
      refine v_iload_n hB dTr_markUnchanged_7 rfl ?_
      refine v_bipush hB dTr_markUnchanged_8 (v := 40) (by decide) ?_
      refine v_icmp_ge hB 29 dTr_markUnchanged_10 (by decide) (fun c => ?_) (fun c => ?_)
      · exact absurd c (by rw [show (40 : Int32) = nI 40 from rfl]; exact (fun q => absurd ((nI_leI (by omega) (by omega)).mp q) (by omega)))
      refine v_aload_n hB dTr_markUnchanged_13 rfl ?_
      refine v_get hC (klTr hY.2) (F := FTr Y _) (by assumption) 3 dTr_markUnchanged_14 kfTr_11 (by decide) rfl ?_
      refine v_iload_n hB dTr_markUnchanged_17 rfl ?_
      refine v_aald hC hpages k dTr_markUnchanged_18 rfl (by omega) (by decide) ?_
      refine v_iconst hB dTr_markUnchanged_19 (v := 0) (by decide) ?_
      refine v_puti hC (klPa hY.2) (F := FPa Y _) (by assumption) 2 dTr_markUnchanged_20 kfTr_88 (by decide) rfl (by decide) (by decide) (fun _ _ => rfl) (fun _ _ => Nat.le_of_ble_eq_true rfl) ?_
      refine v_iinc hB dTr_markUnchanged_23 rfl (y := _) rfl rfl (by decide) (lv' := [_, _]) rfl ?_
      refine v_goto hB 7 dTr_markUnchanged_26 (by decide) ?_
      rw [i1]
      exact ih (k + 1) _ (by omega) hf
  refine v_aload_n hB dTr_markUnchanged_0 rfl ?_
  refine v_iconst hB dTr_markUnchanged_1 (v := 0) (by decide) ?_
  refine v_puti hC (klTr hY.2) (F := FTr Y _) (by assumption) 2 dTr_markUnchanged_2 kfTr_84 (by decide) rfl (by decide) (by decide) (fun _ _ => rfl) (fun _ _ => Nat.le_of_ble_eq_true rfl) ?_
  refine v_iconst hB dTr_markUnchanged_5 (v := 0) (by decide) ?_
  refine v_istore_n hB dTr_markUnchanged_6 rfl (by decide) (lv' := [_, _]) rfl ?_
  exact loop 40 0 _ (by decide) rfl

set_option maxHeartbeats 4000000 in
set_option maxRecDepth 100000 in
theorem cTr_forget {l : Launch} {Y : Yt} (hY : YB Y) (hW : YW Y) (μ : Mu) : Ct l Y yTr_forget wTr_forget ({ frames := 1, cells := 0, slots := 0, locals := 21 }) [.ref (ad Y 2)] μ (PE none (fgM μ)) := by
  refine ct_of hY.1 (by decide) rfl (Nat.le_of_ble_eq_true rfl) (lv := [some (.ref (ad Y 2)), none]) rfl (fun X hC => ?_)
  have hB := hC.B
  obtain ⟨hFa, hDi, hTr, hSe, h4, h5, h6b, h7, h8, hpages, htrail, hturns, hplaces, hlog, hlp, hfound, hwait, hsq, hlk, hPg, hrow, hlrow, hfb⟩ := id hW
  have loop : ∀ (r k : Nat) (ν : Mu), k + r = 40 → muM (fgL r k ν) = fgM μ → VG X (yA Y) 2 0 0 (VQ X Y (PE none (fgM μ))) (yI Y (ν)) 12 [some (.ref (ad Y 2)), some (.int (nI k))] [] := by
    intro r
    induction r with
    | zero =>
      intro k ν hk hf
      refine v_iload_n hB dTr_forget_12 rfl ?_
      refine v_bipush hB dTr_forget_13 (v := 40) (by decide) ?_
      refine v_icmp_ge hB 34 dTr_forget_15 (by decide) (fun c => ?_) (fun c => ?_)
      · refine v_aload_n hB dTr_forget_34 rfl ?_
        refine v_callV hC tbok kmTr_107 kiTr_markUnchanged ksTr_markUnchanged dTr_forget_35 (F := FTr Y _) (by assumption) (by rw [hY.2]; rfl) (cTr_markUnchanged hY hW ν) rfl rfl ⟨Nat.le_of_ble_eq_true rfl, Nat.le_of_ble_eq_true rfl⟩ rfl rfl (Nat.le_of_ble_eq_true rfl) ⟨Nat.zero_le _, Nat.zero_le _⟩ (kE rfl ?_)
        exact v_vret hC rfl dTr_forget_38 ⟨rfl, hf⟩
      · exact absurd (by rw [show (40 : Int32) = nI 40 from rfl]; exact nI_le (by omega) (by omega)) c
    | succ r ih =>
      intro k ν hk hf
      have hkP := hPg k (by omega)
      refine v_iload_n hB dTr_forget_12 rfl ?_
      refine v_bipush hB dTr_forget_13 (v := 40) (by decide) ?_
      refine v_icmp_ge hB 34 dTr_forget_15 (by decide) (fun c => ?_) (fun c => ?_)
      · exact absurd c (by rw [show (40 : Int32) = nI 40 from rfl]; exact (fun q => absurd ((nI_leI (by omega) (by omega)).mp q) (by omega)))
      refine v_aload_n hB dTr_forget_18 rfl ?_
      refine v_get hC (klTr hY.2) (F := FTr Y _) (by assumption) 3 dTr_forget_19 kfTr_11 (by decide) rfl ?_
      refine v_iload_n hB dTr_forget_22 rfl ?_
      refine v_aald hC hpages k dTr_forget_23 rfl (by omega) (by decide) ?_
      refine v_iconst hB dTr_forget_24 (v := 0) (by decide) ?_
      refine v_callV hC tbok kmTr_104 kiPa_open ksPa_open dTr_forget_25 (F := FPa Y _) hkP.2.1 (by rw [hY.2]; rfl) (cPa_open hY hkP 0 ν) rfl rfl ⟨Nat.le_of_ble_eq_true rfl, Nat.le_of_ble_eq_true rfl⟩ rfl rfl (Nat.le_of_ble_eq_true rfl) ⟨Nat.zero_le _, Nat.zero_le _⟩ (kE rfl ?_)
      refine v_iinc hB dTr_forget_28 rfl (y := _) rfl rfl (by decide) (lv' := [_, _]) rfl ?_
      refine v_goto hB 12 dTr_forget_31 (by decide) ?_
      rw [i1]
      exact ih (k + 1) _ (by omega) hf
  refine v_aload_n hB dTr_forget_0 rfl ?_
  refine v_iconst hB dTr_forget_1 (v := 0) (by decide) ?_
  refine v_puti hC (klTr hY.2) (F := FTr Y _) (by assumption) 0 dTr_forget_2 kfTr_39 (by decide) rfl rfl rfl (fun _ _ => rfl) (fun _ _ => Nat.le_of_ble_eq_true rfl) ?_
  refine v_aload_n hB dTr_forget_5 rfl ?_
  refine v_iconst hB dTr_forget_6 (v := 0) (by decide) ?_
  refine v_puti hC (klTr hY.2) (F := FTr Y _) (by assumption) 1 dTr_forget_7 kfTr_54 (by decide) rfl rfl rfl (fun _ _ => rfl) (fun _ _ => Nat.le_of_ble_eq_true rfl) ?_
  refine v_iconst hB dTr_forget_10 (v := 0) (by decide) ?_
  refine v_istore_n hB dTr_forget_11 rfl (by decide) (lv' := [_, _]) rfl ?_
  exact loop 40 0 _ (by decide) rfl

set_option maxHeartbeats 4000000 in
set_option maxRecDepth 100000 in
theorem cTr_writePage {l : Launch} {Y : Yt} (hY : YB Y) (hW : YW Y) {q r : Nat} (hq : q < 40) (hr : AI Y r 27) {μ : Mu} {K : Mu → Prop} (h : wpW μ q r K) : Ct l Y yTr_writePage wTr_writePage ({ frames := 1, cells := 0, slots := 0, locals := 23 }) [.ref (ad Y 2), .int (nI q), .ref (ad Y r)] μ (PV K) := by
  refine ct_of hY.1 (by decide) rfl (Nat.le_of_ble_eq_true rfl) (lv := [some (.ref (ad Y 2)), some (.int (nI q)), some (.ref (ad Y r))]) rfl (fun X hC => ?_)
  have hB := hC.B
  obtain ⟨hFa, hDi, hTr, hSe, h4, h5, h6b, h7, h8, hpages, htrail, hturns, hplaces, hlog, hlp, hfound, hwait, hsq, hlk, hPg, hrow, hlrow, hfb⟩ := id hW
  have hqP := hPg q hq
  refine v_iload_n hB dTr_writePage_0 rfl ?_
  refine v_if_ne hB 21 dTr_writePage_1 (by decide) (fun c => ?_) (fun c => ?_)
  · have h0 : q ≠ 0 := fun z => c (by rw [z]; rfl)
    rw [wpW, if_neg h0] at h
    obtain ⟨u, hu5, hu, hK⟩ := h
    refine v_aload_n hB dTr_writePage_21 rfl ?_
    refine v_iload_n hB dTr_writePage_22 rfl ?_
    refine v_callV hC tbok kmTr_46 kiTr_at ksTr_at dTr_writePage_23 (F := FTr Y _) (by assumption) (by rw [hY.2]; rfl) (cTr_at hY hW hq μ) rfl rfl ⟨Nat.le_of_ble_eq_true rfl, Nat.le_of_ble_eq_true rfl⟩ rfl rfl (Nat.le_of_ble_eq_true rfl) ⟨Nat.zero_le _, Nat.zero_le _⟩ (kE rfl ?_)
    refine v_aload_n hB dTr_writePage_26 rfl ?_
    refine v_callV hC tbok kmTr_91 kiPa_writeTo ksPa_writeTo dTr_writePage_27 (F := FPa Y _) hqP.2.1 (by rw [hY.2]; rfl) (cPa_writeTo hY hqP hr μ hu hu5) rfl rfl ⟨Nat.le_of_ble_eq_true rfl, Nat.le_of_ble_eq_true rfl⟩ rfl rfl (Nat.le_of_ble_eq_true rfl) ⟨Nat.zero_le _, Nat.zero_le _⟩ (kE rfl ?_)
    exact v_vret hC rfl dTr_writePage_30 ⟨rfl, hK⟩
  · have h0 : q = 0 := (nI_eq (b := 0) (by omega) (by omega)).mp c
    rw [wpW, if_pos h0] at h
    refine v_aload_n hB dTr_writePage_4 rfl ?_
    refine v_iconst hB dTr_writePage_5 (v := 0) (by decide) ?_
    refine v_aload_n hB dTr_writePage_6 rfl ?_
    refine v_get hC (klTr hY.2) (F := FTr Y _) (by assumption) 0 dTr_writePage_7 kfTr_39 (by decide) rfl ?_
    refine v_iast hC hr 0 dTr_writePage_10 rfl (by omega) (by decide) ?_
    refine v_aload_n hB dTr_writePage_11 rfl ?_
    refine v_iconst hB dTr_writePage_12 (v := 1) (by decide) ?_
    refine v_aload_n hB dTr_writePage_13 rfl ?_
    refine v_get hC (klTr hY.2) (F := FTr Y _) (by assumption) 1 dTr_writePage_14 kfTr_54 (by decide) rfl ?_
    refine v_iast hC hr 1 dTr_writePage_17 rfl (by omega) (by decide) ?_
    refine v_goto hB 30 dTr_writePage_18 (by decide) ?_
    exact v_vret hC rfl dTr_writePage_30 ⟨rfl, h⟩

set_option maxHeartbeats 4000000 in
set_option maxRecDepth 100000 in
theorem cTr_readFrom {l : Launch} {Y : Yt} (hY : YB Y) (hW : YW Y) {μ : Mu} {K : Mu → Prop} (h : rfW μ K) : Ct l Y yTr_readFrom wTr_readFrom ({ frames := 2, cells := 0, slots := 0, locals := 48 }) [.ref (ad Y 2), .ref (ad Y 1)] μ (PV K) := by
  refine ct_of hY.1 (by decide) rfl (Nat.le_of_ble_eq_true rfl) (lv := [some (.ref (ad Y 2)), some (.ref (ad Y 1)), none]) rfl (fun X hC => ?_)
  have hB := hC.B
  obtain ⟨hFa, hDi, hTr, hSe, h4, h5, h6b, h7, h8, hpages, htrail, hturns, hplaces, hlog, hlp, hfound, hwait, hsq, hlk, hPg, hrow, hlrow, hfb⟩ := id hW
  have hrow0 := hrow 0 (by decide)
  have loop : ∀ (r q : Nat) (ν : Mu), q + r = 40 → rfL K r q ν → VG X (yA Y) 3 0 0 (VQ X Y (PV K)) (yI Y (ν)) 31 [some (.ref (ad Y 2)), some (.ref (ad Y 1)), some (.int (nI q))] [] := by
    intro r
    induction r with
    | zero =>
      intro q ν hk hf
      refine v_iload_n hB dTr_readFrom_31 rfl ?_
      refine v_bipush hB dTr_readFrom_32 (v := 40) (by decide) ?_
      refine v_icmp_ge hB 58 dTr_readFrom_34 (by decide) (fun c => ?_) (fun c => ?_)
      · exact v_vret hC rfl dTr_readFrom_58 ⟨rfl, hf⟩
      · exact absurd (by rw [show (40 : Int32) = nI 40 from rfl]; exact nI_le (by omega) (by omega)) c
    | succ r ih =>
      rintro q ν hk ⟨u, hu5, hu, hf⟩
      have hq : q < 40 := by omega
      have hqP := hPg q hq
      refine v_iload_n hB dTr_readFrom_31 rfl ?_
      refine v_bipush hB dTr_readFrom_32 (v := 40) (by decide) ?_
      refine v_icmp_ge hB 58 dTr_readFrom_34 (by decide) (fun c => ?_) (fun c => ?_)
      · exact absurd c (by rw [show (40 : Int32) = nI 40 from rfl]; exact (fun q => absurd ((nI_leI (by omega) (by omega)).mp q) (by omega)))
      refine v_aload_n hB dTr_readFrom_37 rfl ?_
      refine v_get hC (klTr hY.2) (F := FTr Y _) (by assumption) 3 dTr_readFrom_38 kfTr_11 (by decide) rfl ?_
      refine v_iload_n hB dTr_readFrom_41 rfl ?_
      refine v_aald hC hpages q dTr_readFrom_42 rfl (by omega) (by decide) ?_
      refine v_aload_n hB dTr_readFrom_43 rfl ?_
      refine v_get hC (klDi hY.2) (F := FDi Y _) (by assumption) 0 dTr_readFrom_44 kfTr_95 (by decide) rfl ?_
      refine v_iload_n hB dTr_readFrom_47 rfl ?_
      refine v_aald hC hplaces q dTr_readFrom_48 rfl (by omega) (by decide) ?_
      refine v_callV hC tbok kmTr_101 kiPa_readFrom ksPa_readFrom dTr_readFrom_49 (F := FPa Y _) hqP.2.1 (by rw [hY.2]; rfl) (cPa_readFrom hY hqP (hrow q hq) ν hu hu5) rfl rfl ⟨Nat.le_of_ble_eq_true rfl, Nat.le_of_ble_eq_true rfl⟩ rfl rfl (Nat.le_of_ble_eq_true rfl) ⟨Nat.zero_le _, Nat.zero_le _⟩ (kE rfl ?_)
      refine v_iinc hB dTr_readFrom_52 rfl (y := _) rfl rfl (by decide) (lv' := [_, _, _]) rfl ?_
      refine v_goto hB 31 dTr_readFrom_55 (by decide) ?_
      rw [i1]
      exact ih (q + 1) _ (by omega) hf
  refine v_aload_n hB dTr_readFrom_0 rfl ?_
  refine v_aload_n hB dTr_readFrom_1 rfl ?_
  refine v_get hC (klDi hY.2) (F := FDi Y _) (by assumption) 0 dTr_readFrom_2 kfTr_95 (by decide) rfl ?_
  refine v_iconst hB dTr_readFrom_5 (v := 0) (by decide) ?_
  refine v_aald hC hplaces 0 dTr_readFrom_6 rfl (by omega) (by decide) ?_
  refine v_iconst hB dTr_readFrom_7 (v := 0) (by decide) ?_
  refine v_iald hC hrow0 0 dTr_readFrom_8 rfl (by omega) (by decide) ?_
  refine v_puti hC (klTr hY.2) (F := FTr Y _) (by assumption) 0 dTr_readFrom_9 kfTr_39 (by decide) rfl rfl rfl (fun _ _ => rfl) (fun _ _ => Nat.le_of_ble_eq_true rfl) ?_
  refine v_aload_n hB dTr_readFrom_12 rfl ?_
  refine v_aload_n hB dTr_readFrom_13 rfl ?_
  refine v_get hC (klDi hY.2) (F := FDi Y _) (by assumption) 0 dTr_readFrom_14 kfTr_95 (by decide) rfl ?_
  refine v_iconst hB dTr_readFrom_17 (v := 0) (by decide) ?_
  refine v_aald hC hplaces 0 dTr_readFrom_18 rfl (by omega) (by decide) ?_
  refine v_iconst hB dTr_readFrom_19 (v := 1) (by decide) ?_
  refine v_iald hC hrow0 1 dTr_readFrom_20 rfl (by omega) (by decide) ?_
  refine v_puti hC (klTr hY.2) (F := FTr Y _) (by assumption) 1 dTr_readFrom_21 kfTr_54 (by decide) rfl rfl rfl (fun _ _ => rfl) (fun _ _ => Nat.le_of_ble_eq_true rfl) ?_
  refine v_aload_n hB dTr_readFrom_24 rfl ?_
  refine v_iconst hB dTr_readFrom_25 (v := 0) (by decide) ?_
  refine v_puti hC (klTr hY.2) (F := FTr Y _) (by assumption) 2 dTr_readFrom_26 kfTr_84 (by decide) rfl (by decide) (by decide) (fun _ _ => rfl) (fun _ _ => Nat.le_of_ble_eq_true rfl) ?_
  refine v_iconst hB dTr_readFrom_29 (v := 1) (by decide) ?_
  refine v_istore_n hB dTr_readFrom_30 rfl (by decide) (lv' := [_, _, _]) rfl ?_
  exact loop 39 1 _ (by decide) h

set_option maxHeartbeats 4000000 in
set_option maxRecDepth 100000 in
theorem cTr_entriesBelow {l : Launch} {Y : Yt} (hY : YB Y) (hW : YW Y) : ∀ (v q : Nat) (μ : Mu) (K : Int32 → Mu → Prop), v ≤ 4 → ebW v q μ K → Ct l Y yTr_entriesBelow wTr_entriesBelow (ebR v) [.ref (ad Y 2), .int (nI q), .int (nI v)] μ (PI K) := by
  obtain ⟨hFa, hDi, hTr, hSe, h4, h5, h6b, h7, h8, hpages, htrail, hturns, hplaces, hlog, hlp, hfound, hwait, hsq, hlk, hPg, hrow, hlrow, hfb⟩ := id hW
  intro v
  induction v with
  | zero =>
    rintro q μ K hv4 ⟨hq, h⟩
    have hqP := hPg q hq
    refine ct_of hY.1 (by decide) rfl (Nat.le_of_ble_eq_true rfl) (lv := [some (.ref (ad Y 2)), some (.int (nI q)), some (.int (nI 0)), none, none, none, none, none]) rfl (fun X hC => ?_)
    have hB := hC.B
    refine v_aload_n hB dTr_entriesBelow_0 rfl ?_
    refine v_iload_n hB dTr_entriesBelow_1 rfl ?_
    refine v_callV hC tbok kmTr_46 kiTr_at ksTr_at dTr_entriesBelow_2 (F := FTr Y _) (by assumption) (by rw [hY.2]; rfl) (cTr_at hY hW hq μ) rfl rfl ⟨by simp only [ebR]; omega, by simp only [ebR]; omega⟩ rfl rfl (Nat.le_of_ble_eq_true rfl) ⟨Nat.zero_le _, Nat.zero_le _⟩ (kE rfl ?_)
    refine v_astore_n hB dTr_entriesBelow_5 rfl (by decide) (lv' := [_, _, _, _, _, _, _, _]) rfl ?_
    refine v_iload_n hB dTr_entriesBelow_6 rfl ?_
    refine v_iconst hB dTr_entriesBelow_7 (v := 1) (by decide) ?_
    refine v_icmp_lt hB 43 dTr_entriesBelow_8 (by decide) (fun c => ?_) (fun c => ?_)
    · refine v_iconst hB dTr_entriesBelow_43 (v := -1) (by decide) ?_
      exact v_iret hC rfl dTr_entriesBelow_44 ⟨_, rfl, h⟩
    · exact absurd (by decide) c
  | succ v ih =>
    rintro q μ K hv4 ⟨hq, u, hu6, hu, hno, hyes⟩
    have hqP := hPg q hq
    obtain ⟨-, hqa, hqar, hqbx⟩ := hPg q hq
    refine ct_of hY.1 (by decide) rfl (Nat.le_of_ble_eq_true rfl) (lv := [some (.ref (ad Y 2)), some (.int (nI q)), some (.int (nI (v + 1))), none, none, none, none, none]) rfl (fun X hC => ?_)
    have hB := hC.B
    have bad : ¬ ebX μ q u (v + 1) → VG X (yA Y) 8 0 0 (VQ X Y (PI K)) (yI Y (μ)) 43 [some (.ref (ad Y 2)), some (.int (nI q)), some (.int (nI (v + 1))), some (.ref (ad Y (pgI q))), none, none, none, none] [] := by
      intro hx
      refine v_iconst hB dTr_entriesBelow_43 (v := -1) (by decide) ?_
      exact v_iret hC rfl dTr_entriesBelow_44 ⟨_, rfl, hno hx⟩
    have good : ebX μ q u (v + 1) → VG X (yA Y) 8 0 0 (VQ X Y (PI K)) (yI Y (μ)) 45 [some (.ref (ad Y 2)), some (.int (nI q)), some (.int (nI (v + 1))), some (.ref (ad Y (pgI q))), none, none, none, none] [] := by
      intro hx
      have hg := hyes hx
      refine v_iload_n hB dTr_entriesBelow_45 rfl ?_
      refine v_iconst hB dTr_entriesBelow_46 (v := 1) (by decide) ?_
      refine v_icmp_ne hB 55 dTr_entriesBelow_47 (by decide) (fun c => ?_) (fun c => ?_)
      rotate_left
      · have hv0 : v = 0 := by
          have := (nI_eq (a := v + 1) (b := 1) (by omega) (by omega)).mp c
          omega
        rw [if_pos hv0] at hg
        refine v_aload_n hB dTr_entriesBelow_50 rfl ?_
        refine v_get hC (klPa hY.2) (F := FPa Y _) (by assumption) 1 dTr_entriesBelow_51 kfTr_129 (by decide) rfl ?_
        exact v_iret hC rfl dTr_entriesBelow_54 ⟨_, rfl, by rw [hu]; exact hg⟩
      have hv0 : v ≠ 0 := fun z => c (by rw [z]; rfl)
      rw [if_neg hv0] at hg
      have loop : ∀ (r k : Nat) (s : Int32) (ν : Mu), k + r ≤ 7 → ebL (fun c ν K' => ebW v c ν K') q K r k s ν → VG X (yA Y) 8 0 0 (VQ X Y (PI K)) (yI Y (ν)) 61 [some (.ref (ad Y 2)), some (.int (nI q)), some (.int (nI (v + 1))), some (.ref (ad Y (pgI q))), some (.int s), some (.int (nI k)), none, none] [] := by
        intro r
        induction r with
        | zero =>
          intro k s ν hk7 h
          exact h.elim
        | succ r ihr =>
          rintro k s ν hk7 ⟨u, hu6, hu, hi⟩
          refine v_iload hB dTr_entriesBelow_61 rfl ?_
          refine v_aload_n hB dTr_entriesBelow_63 rfl ?_
          refine v_get hC (klPa hY.2) (F := FPa Y _) (by assumption) 1 dTr_entriesBelow_64 kfTr_129 (by decide) rfl ?_
          rw [hu]
          by_cases hku : k < u
          · rw [if_pos hku] at hi
            obtain ⟨c, uc, hc, huc6, hcb, huc, hi⟩ := hi
            have hbk := hqbx k (by omega)
            have hcP := hPg c hc
            refine v_icmp_ge hB 158 dTr_entriesBelow_67 (by decide) (fun c1 => ?_) (fun c1 => ?_)
            · exact absurd c1 (fun q => absurd ((nI_leI (by omega) (by omega)).mp q) (by omega))
            refine v_aload_n hB dTr_entriesBelow_70 rfl ?_
            refine v_get hC (klPa hY.2) (F := FPa Y _) (by assumption) 3 dTr_entriesBelow_71 kfTr_122 (by decide) rfl ?_
            refine v_iload hB dTr_entriesBelow_74 rfl ?_
            refine v_aald hC hqar k dTr_entriesBelow_76 rfl (by omega) (by decide) ?_
            refine v_astore hB dTr_entriesBelow_77 rfl (by decide) (lv' := [_, _, _, _, _, _, _, _]) rfl ?_
            refine v_aload_n hB dTr_entriesBelow_79 rfl ?_
            refine v_get hC (klTr hY.2) (F := FTr Y _) (by assumption) 6 dTr_entriesBelow_80 kfTr_27 (by decide) rfl ?_
            refine v_aload hB dTr_entriesBelow_83 rfl ?_
            refine v_get hC (klBo hY.2) (F := FBo Y _) (by assumption) 4 dTr_entriesBelow_85 kfTr_126 (by decide) rfl ?_
            rw [hcb]
            refine v_puti hC (klBo hY.2) (F := FBo Y _) (by assumption) 4 dTr_entriesBelow_88 kfTr_126 (by decide) rfl rfl rfl (fun _ _ => rfl) (fun _ _ => Nat.le_of_ble_eq_true rfl) ?_
            refine v_aload_n hB dTr_entriesBelow_91 rfl ?_
            refine v_aload hB dTr_entriesBelow_92 rfl ?_
            refine v_get hC (klBo hY.2) (F := FBo Y _) (by assumption) 4 dTr_entriesBelow_94 kfTr_126 (by decide) rfl ?_
            have e1 : (wi ν 5 4 (nI c)).1 (bxI q k) 4 = nI c := by rw [wi_at]; split; rfl; exact hcb
            rw [e1]
            refine v_callV hC tbok kmTr_46 kiTr_at ksTr_at dTr_entriesBelow_97 (F := FTr Y _) (by assumption) (by rw [hY.2]; rfl) (cTr_at hY hW hc _) rfl rfl ⟨by simp only [ebR]; omega, by simp only [ebR]; omega⟩ rfl rfl (Nat.le_of_ble_eq_true rfl) ⟨Nat.zero_le _, Nat.zero_le _⟩ (kE rfl ?_)
            refine v_iconst hB dTr_entriesBelow_100 (v := -1) (by decide) ?_
            refine v_aload_n hB dTr_entriesBelow_101 rfl ?_
            refine v_get hC (klTr hY.2) (F := FTr Y _) (by assumption) 6 dTr_entriesBelow_102 kfTr_27 (by decide) rfl ?_
            refine v_callV hC tbok kmTr_168 kiPa_frame ksPa_frame dTr_entriesBelow_105 (F := FPa Y _) hcP.2.1 (by rw [hY.2]; rfl) (cPa_frame hY hcP h5 (-1) _ (by rw [wi_ne _ _ _ (pg_5 c)]; exact huc) huc6) rfl rfl ⟨by simp only [ebR]; omega, by simp only [ebR]; omega⟩ rfl rfl (Nat.le_of_ble_eq_true rfl) ⟨Nat.zero_le _, Nat.zero_le _⟩ (kE rfl ?_)
            generalize hν1 : frM (wi ν 5 4 (nI c)) c uc (-1) 5 = ν1 at hi ⊢
            have e2 : ν1.1 (bxI q k) 4 = nI c := by rw [← hν1, frM_ne _ _ _ _ (bx_5 q k)]; exact e1
            have tail : ∀ (x : Int32) (ν2 : Mu), (if x < 0 then K (-1) ν2 else ebL (fun c ν K' => ebW v c ν K') q K r (k + 1) (s + x) ν2) → VG X (yA Y) 8 0 0 (VQ X Y (PI K)) (yI Y (ν2)) 136 [some (.ref (ad Y 2)), some (.int (nI q)), some (.int (nI (v + 1))), some (.ref (ad Y (pgI q))), some (.int s), some (.int (nI k)), some (.ref (ad Y (bxI q k))), none] [.int x] := by
              intro x ν2 hx
              refine v_istore hB dTr_entriesBelow_136 rfl (by decide) (lv' := [_, _, _, _, _, _, _, _]) rfl ?_
              refine v_iload hB dTr_entriesBelow_138 rfl ?_
              refine v_if_ge hB 145 dTr_entriesBelow_140 (by decide) (fun c2 => ?_) (fun c2 => ?_)
              · rw [if_neg (Int32.not_lt.mpr c2)] at hx
                refine v_iload hB dTr_entriesBelow_145 rfl ?_
                refine v_iload hB dTr_entriesBelow_147 rfl ?_
                refine v_iadd hB dTr_entriesBelow_149 ?_
                refine v_istore hB dTr_entriesBelow_150 rfl (by decide) (lv' := [_, _, _, _, _, _, _, _]) rfl ?_
                refine v_iinc hB dTr_entriesBelow_152 rfl (y := _) rfl rfl (by decide) (lv' := [_, _, _, _, _, _, _, _]) rfl ?_
                refine v_goto hB 61 dTr_entriesBelow_155 (by decide) ?_
                refine v_drop 6 (lv' := [_, _, _, _, _, _, _, _]) rfl ?_
                refine v_drop 7 (lv' := [_, _, _, _, _, _, _, _]) rfl ?_
                rw [i1]
                exact ihr (k + 1) _ ν2 (by omega) hx
              · rw [if_pos (Int32.not_le.mp c2)] at hx
                refine v_iconst hB dTr_entriesBelow_143 (v := -1) (by decide) ?_
                exact v_iret hC rfl dTr_entriesBelow_144 ⟨_, rfl, hx⟩
            refine v_aload hB dTr_entriesBelow_108 rfl ?_
            refine v_aload_n hB dTr_entriesBelow_110 rfl ?_
            refine v_get hC (klTr hY.2) (F := FTr Y _) (by assumption) 6 dTr_entriesBelow_111 kfTr_27 (by decide) rfl ?_
            refine v_callV hC tbok kmTr_132 kiBo_isSame ksBo_isSame dTr_entriesBelow_114 (F := FBo Y _) (by assumption) (by rw [hY.2]; rfl) (cBo_isSame hY hbk h5 ν1) rfl rfl ⟨by simp only [ebR]; omega, by simp only [ebR]; omega⟩ rfl rfl (Nat.le_of_ble_eq_true rfl) ⟨Nat.zero_le _, Nat.zero_le _⟩ (kE rfl ?_)
            refine v_if_eq hB 135 dTr_entriesBelow_117 (by decide) (fun c2 => ?_) (fun c2 => ?_)
            · rw [if_neg (by rw [bI_0.mp c2]; decide)] at hi
              refine v_iconst hB dTr_entriesBelow_135 (v := -1) (by decide) ?_
              exact tail _ ν1 (by rw [if_pos (by decide)]; exact hi)
            rw [if_pos (bI_n.mp c2)] at hi
            refine v_aload_n hB dTr_entriesBelow_120 rfl ?_
            refine v_aload hB dTr_entriesBelow_121 rfl ?_
            refine v_get hC (klBo hY.2) (F := FBo Y _) (by assumption) 4 dTr_entriesBelow_123 kfTr_126 (by decide) rfl ?_
            rw [e2]
            refine v_iload_n hB dTr_entriesBelow_126 rfl ?_
            refine v_iconst hB dTr_entriesBelow_127 (v := 1) (by decide) ?_
            refine v_isub hB dTr_entriesBelow_128 ?_
            rw [nI_pred]
            refine v_callS hC tbok kmTr_76 ktTr_entriesBelow dTr_entriesBelow_129 (ih c ν1 _ (by omega) hi) rfl rfl ⟨Nat.le_refl _, by simp only [ebR]; omega⟩ rfl rfl (Nat.le_of_ble_eq_true rfl) ⟨Nat.zero_le _, Nat.zero_le _⟩ (kI fun x ν2 h2 => ?_)
            refine v_goto hB 136 dTr_entriesBelow_132 (by decide) ?_
            exact tail x ν2 h2
          · rw [if_neg hku] at hi
            refine v_icmp_ge hB 158 dTr_entriesBelow_67 (by decide) (fun c1 => ?_) (fun c1 => ?_)
            · refine v_iload hB dTr_entriesBelow_158 rfl ?_
              exact v_iret hC rfl dTr_entriesBelow_160 ⟨_, rfl, hi⟩
            · exact absurd (nI_le (by omega) (by omega)) c1
      refine v_iconst hB dTr_entriesBelow_55 (v := 0) (by decide) ?_
      refine v_istore hB dTr_entriesBelow_56 rfl (by decide) (lv' := [_, _, _, _, _, _, _, _]) rfl ?_
      refine v_iconst hB dTr_entriesBelow_58 (v := 0) (by decide) ?_
      refine v_istore hB dTr_entriesBelow_59 rfl (by decide) (lv' := [_, _, _, _, _, _, _, _]) rfl ?_
      exact loop 7 0 0 μ (by decide) hg
    refine v_aload_n hB dTr_entriesBelow_0 rfl ?_
    refine v_iload_n hB dTr_entriesBelow_1 rfl ?_
    refine v_callV hC tbok kmTr_46 kiTr_at ksTr_at dTr_entriesBelow_2 (F := FTr Y _) (by assumption) (by rw [hY.2]; rfl) (cTr_at hY hW hq μ) rfl rfl ⟨by simp only [ebR]; omega, by simp only [ebR]; omega⟩ rfl rfl (Nat.le_of_ble_eq_true rfl) ⟨Nat.zero_le _, Nat.zero_le _⟩ (kE rfl ?_)
    refine v_astore_n hB dTr_entriesBelow_5 rfl (by decide) (lv' := [_, _, _, _, _, _, _, _]) rfl ?_
    refine v_iload_n hB dTr_entriesBelow_6 rfl ?_
    refine v_iconst hB dTr_entriesBelow_7 (v := 1) (by decide) ?_
    refine v_icmp_lt hB 43 dTr_entriesBelow_8 (by decide) (fun c => ?_) (fun c => ?_)
    · exact absurd c (by rw [show (1 : Int32) = nI 1 from rfl]; exact nI_nlt (by omega) (by omega))
    refine v_aload_n hB dTr_entriesBelow_11 rfl ?_
    refine v_get hC (klPa hY.2) (F := FPa Y _) (by assumption) 0 dTr_entriesBelow_12 kfTr_35 (by decide) rfl ?_
    refine v_iload_n hB dTr_entriesBelow_15 rfl ?_
    refine v_icmp_ne hB 43 dTr_entriesBelow_16 (by decide) (fun c1 => ?_) (fun c1 => ?_)
    · exact bad (fun z => c1 z.1)
    refine v_aload_n hB dTr_entriesBelow_19 rfl ?_
    refine v_get hC (klPa hY.2) (F := FPa Y _) (by assumption) 1 dTr_entriesBelow_20 kfTr_129 (by decide) rfl ?_
    refine v_iconst hB dTr_entriesBelow_23 (v := 5) (by decide) ?_
    refine v_icmp_gt hB 43 dTr_entriesBelow_24 (by decide) (fun c2 => ?_) (fun c2 => ?_)
    · exact bad (fun z => by rw [hu, show (5 : Int32) = nI 5 from rfl, nI_ltI (by omega) (by omega)] at c2; have := z.2.1; omega)
    have hu5 : u ≤ 5 := by
      rw [hu, show (5 : Int32) = nI 5 from rfl, nI_ltI (by omega) (by omega)] at c2
      omega
    refine v_iload_n hB dTr_entriesBelow_27 rfl ?_
    refine v_aload_n hB dTr_entriesBelow_28 rfl ?_
    refine v_get hC (klTr hY.2) (F := FTr Y _) (by assumption) 0 dTr_entriesBelow_29 kfTr_39 (by decide) rfl ?_
    refine v_icmp_eq hB 45 dTr_entriesBelow_32 (by decide) (fun c3 => ?_) (fun c3 => ?_)
    · exact good ⟨c1, hu5, Or.inl c3⟩
    refine v_aload_n hB dTr_entriesBelow_35 rfl ?_
    refine v_get hC (klPa hY.2) (F := FPa Y _) (by assumption) 1 dTr_entriesBelow_36 kfTr_129 (by decide) rfl ?_
    refine v_iconst hB dTr_entriesBelow_39 (v := 2) (by decide) ?_
    refine v_icmp_ge hB 45 dTr_entriesBelow_40 (by decide) (fun c4 => ?_) (fun c4 => ?_)
    · exact good ⟨c1, hu5, Or.inr (by rw [hu, show (2 : Int32) = nI 2 from rfl, nI_leI (by omega) (by omega)] at c4; exact c4)⟩
    exact bad (fun z => by
      rcases z.2.2 with z | z
      · exact c3 z
      · exact c4 (by rw [hu, show (2 : Int32) = nI 2 from rfl]; exact nI_le z (by omega)))

set_option maxHeartbeats 4000000 in
set_option maxRecDepth 100000 in
theorem cTr_isWhole {l : Launch} {Y : Yt} (hY : YB Y) (hW : YW Y) {μ : Mu} {K : Bool → Mu → Prop} (h : whW μ K) : Ct l Y yTr_isWhole wTr_isWhole ({ frames := 8, cells := 0, slots := 0, locals := 206 }) [.ref (ad Y 2)] μ (PB K) := by
  refine ct_of hY.1 (by decide) rfl (Nat.le_of_ble_eq_true rfl) (lv := [some (.ref (ad Y 2)), none]) rfl (fun X hC => ?_)
  have hB := hC.B
  obtain ⟨hFa, hDi, hTr, hSe, h4, h5, h6b, h7, h8, hpages, htrail, hturns, hplaces, hlog, hlp, hfound, hwait, hsq, hlk, hPg, hrow, hlrow, hfb⟩ := id hW
  obtain ⟨q, v, hq, hv30, hr, hv, hi⟩ := h
  have hqa := (hPg q hq).2.1
  refine v_aload_n hB dTr_isWhole_0 rfl ?_
  refine v_aload_n hB dTr_isWhole_1 rfl ?_
  refine v_get hC (klTr hY.2) (F := FTr Y _) (by assumption) 0 dTr_isWhole_2 kfTr_39 (by decide) rfl ?_
  rw [hr]
  refine v_callV hC tbok kmTr_46 kiTr_at ksTr_at dTr_isWhole_5 (F := FTr Y _) (by assumption) (by rw [hY.2]; rfl) (cTr_at hY hW hq μ) rfl rfl ⟨Nat.le_of_ble_eq_true rfl, Nat.le_of_ble_eq_true rfl⟩ rfl rfl (Nat.le_of_ble_eq_true rfl) ⟨Nat.zero_le _, Nat.zero_le _⟩ (kE rfl ?_)
  refine v_get hC (klPa hY.2) (F := FPa Y _) (by assumption) 0 dTr_isWhole_8 kfTr_35 (by decide) rfl ?_
  rw [hv]
  refine v_istore_n hB dTr_isWhole_11 rfl (by decide) (lv' := [_, _]) rfl ?_
  refine v_iload_n hB dTr_isWhole_12 rfl ?_
  refine v_iconst hB dTr_isWhole_13 (v := 1) (by decide) ?_
  refine v_icmp_lt hB 42 dTr_isWhole_14 (by decide) (fun c => ?_) (fun c => ?_)
  · rw [if_neg (fun z => by rw [show (1 : Int32) = nI 1 from rfl, nI_ltI (by omega) (by omega)] at c; omega)] at hi
    refine v_iconst hB dTr_isWhole_42 (v := 0) (by decide) ?_
    exact v_zret hC rfl (by decide) dTr_isWhole_43 ⟨false, rfl, hi⟩
  refine v_iload_n hB dTr_isWhole_17 rfl ?_
  refine v_iconst hB dTr_isWhole_18 (v := 4) (by decide) ?_
  refine v_icmp_gt hB 42 dTr_isWhole_19 (by decide) (fun c1 => ?_) (fun c1 => ?_)
  · rw [if_neg (fun z => by rw [show (4 : Int32) = nI 4 from rfl, nI_ltI (by omega) (by omega)] at c1; omega)] at hi
    refine v_iconst hB dTr_isWhole_42 (v := 0) (by decide) ?_
    exact v_zret hC rfl (by decide) dTr_isWhole_43 ⟨false, rfl, hi⟩
  have hv14 : 1 ≤ v ∧ v ≤ 4 := by
    rw [show (1 : Int32) = nI 1 from rfl, nI_ltI (by omega) (by omega)] at c
    rw [show (4 : Int32) = nI 4 from rfl, nI_ltI (by omega) (by omega)] at c1
    omega
  rw [if_pos hv14] at hi
  refine v_aload_n hB dTr_isWhole_22 rfl ?_
  refine v_aload_n hB dTr_isWhole_23 rfl ?_
  refine v_get hC (klTr hY.2) (F := FTr Y _) (by assumption) 0 dTr_isWhole_24 kfTr_39 (by decide) rfl ?_
  rw [hr]
  refine v_iload_n hB dTr_isWhole_27 rfl ?_
  refine v_callS hC tbok kmTr_76 ktTr_entriesBelow dTr_isWhole_28 (cTr_entriesBelow hY hW v q μ _ hv14.2 hi) rfl rfl ⟨by simp only [ebR]; omega, by simp only [ebR]; omega⟩ rfl rfl (Nat.le_of_ble_eq_true rfl) ⟨Nat.zero_le _, Nat.zero_le _⟩ (kI fun x ν h2 => ?_)
  refine v_aload_n hB dTr_isWhole_31 rfl ?_
  refine v_get hC (klTr hY.2) (F := FTr Y _) (by assumption) 1 dTr_isWhole_32 kfTr_54 (by decide) rfl ?_
  refine v_icmp_ne hB 42 dTr_isWhole_35 (by decide) (fun c2 => ?_) (fun c2 => ?_)
  · refine v_iconst hB dTr_isWhole_42 (v := 0) (by decide) ?_
    exact v_zret hC rfl (by decide) dTr_isWhole_43 ⟨false, rfl, by rw [decide_eq_false c2] at h2; exact h2⟩
  refine v_iconst hB dTr_isWhole_38 (v := 1) (by decide) ?_
  refine v_goto hB 43 dTr_isWhole_39 (by decide) ?_
  exact v_zret hC rfl (by decide) dTr_isWhole_43 ⟨true, rfl, by rw [decide_eq_true c2] at h2; exact h2⟩
end
section
/-! THE DISK. -/
theorem ac_l : Cond.methodLink RDi 56 arraycopyName ∈ tbl := tb2 147 (by decide +kernel) (by decide +kernel)
theorem ac_n : Cond.native arraycopyName ∈ tbl := tb2 149 (by decide +kernel) (by decide +kernel)
theorem ac_s : Cond.static arraycopyName ∈ tbl := tb2 148 (by decide +kernel) (by decide +kernel)
theorem ac_i : Cond.initialized "java/lang/System" ∈ tbl := tb1 10 (by decide +kernel) (by decide +kernel)
theorem v_copy27 {X : Xt} {Y : Yt} {n cells slots : Nat} {Q : State → Prop} {μ : Mu} {pc : Nat} {lv : List (Option Value)} {st : List Value} {l : Launch} {rm : Room} {cc : ByteArray} {ret : Option FieldType} {z : Cond} (C : VC X Y l rm cc n ret (z :: tbl) RDi) {i j : Nat} (hi : AI Y i 27) (hj : AI Y j 27) (d : decode cc pc = .ok (.invokestatic 56, 3)) (hf : 1 ≤ rm.frames) (hlo : (st.map fun v => v.category).sum + (nativeFrameWords "java/lang/System" "arraycopy" 5 + 11) ≤ rm.locals) (kk : VG X (yA Y) n cells slots Q (yI Y (wr μ j (va_cpy (μ.1 i) (μ.1 j) 0 0 27))) (pc + 3) lv st) : VG X (yA Y) n cells slots Q (yI Y μ) pc lv (.int 27 :: .int 0 :: .ref (ad Y j) :: .int 0 :: .ref (ad Y i) :: st) := by
  have hrm : xR X = rm := C.2.2.2.2.2.2.2.2.2.2
  have ht := C.2.2.2.2.1
  subst hrm
  obtain ⟨h1, c0, t0, ht0, hs0⟩ := hi
  obtain ⟨h2, c1, t1, ht1, hs1⟩ := hj
  intro H locs ls hI hS hl
  have e0 := yW_get μ h1
  rw [hs0] at e0
  have e1 := yW_get μ h2
  rw [hs1] at e1
  refine va_copyi C.1 C.2.1 (by rw [hl.1]; exact C.2.2.1) C.2.2.2.1 (ht _ (List.mem_cons_of_mem _ ac_l)) (ht _ (List.mem_cons_of_mem _ ac_n)) (ht _ (List.mem_cons_of_mem _ ac_s)) (ht _ (List.mem_cons_of_mem _ ac_i)) C.2.2.2.2.2.2.2.1 hI (yW_D C.2.2.2.2.2.2.2.2.1 μ) hS i j t0 t1 e0 e1 ht0 ht1 rfl (by decide) (by decide) (by decide) (by decide) (by decide) (fun _ _ => rfl) hf hlo d (fun H1 locs1 hP1 _ hS1 => ?_)
  rw [yW_set (μ := μ) (μ' := wr μ j (va_cpy (μ.1 i) (μ.1 j) 0 0 27)) h2 (by rw [wr_self, hs1]; rfl) (fun a h => ⟨wr_ne μ _ h, rfl⟩)] at hP1
  exact kk H1 locs1 ls hP1 hS1 hl
def elM (μ : Mu) : Mu := wi (wi μ 1 3 0) 1 4 0
def cpM (μ : Mu) (k q : Nat) : Mu := wr μ (plI q) (va_cpy (μ.1 (lgI k)) (μ.1 (plI q)) 0 0 27)
def wcL (K : Mu → Prop) : Nat → Nat → Mu → Prop
  | 0, _, μ => K μ
  | r + 1, k, μ => ∃ q, q < 40 ∧ μ.1 14 k = nI q ∧ wcL K r (k + 1) (cpM μ k q)
def wlL (m : Nat) (K : Mu → Prop) : Nat → Nat → Mu → Prop
  | 0, _, μ => K μ
  | r + 1, q, μ => ∃ g, g ≤ 40 ∧ μ.1 1 3 = nI g ∧ (if g < m then tB (chg μ q) ∧ (if chg μ q = 0 then wlL m K r (q + 1) μ else g < 40 ∧ wpW μ q (lgI g) (fun ν => ν.1 1 3 = nI g ∧ wlL m K r (q + 1) (wi (wi ν 14 g (nI q)) 1 3 (nI (g + 1))))) else K μ)
def kpW (μ : Mu) (c : Int32) (K : Bool → Mu → Prop) : Prop := if c = 0 then K false μ else (∀ q, q < 40 → tB (chg μ q)) ∧ wlL (if c = 1 then cnt μ 40 / 2 else cnt μ 40) (fun μ1 => if c = 1 ∨ c = 2 then K false μ1 else if c = 3 then K false (wi μ1 1 4 1) else ∃ g, g ≤ 40 ∧ (wi μ1 1 4 1).1 1 3 = nI g ∧ wcL (fun μ3 => if c = 4 ∨ c = 5 then K false μ3 else K true (elM μ3)) (min g (if c = 4 then 1 else g)) 0 (wi μ1 1 4 1)) 40 0 μ
def rcW (μ : Mu) (K : Mu → Prop) : Prop := ∃ g, g ≤ 40 ∧ μ.1 1 3 = nI g ∧ (if μ.1 1 4 = 0 then K (elM μ) else wcL (fun ν => K (elM ν)) g 0 μ)
theorem pl_1 (q : Nat) : 1 ≠ plI q := by unfold plI; omega
set_option maxHeartbeats 4000000 in
set_option maxRecDepth 100000 in
theorem cDi_emptyLog {l : Launch} {Y : Yt} (hY : YB Y) (hW : YW Y) (μ : Mu) : Ct l Y yDi_emptyLog wDi_emptyLog ({ frames := 0, cells := 0, slots := 0, locals := 0 }) [.ref (ad Y 1)] μ (PE none (elM μ)) := by
  refine ct_of hY.1 (by decide) rfl (Nat.le_of_ble_eq_true rfl) (lv := [some (.ref (ad Y 1))]) rfl (fun X hC => ?_)
  have hB := hC.B
  obtain ⟨hFa, hDi, hTr, hSe, h4, h5, h6b, h7, h8, hpages, htrail, hturns, hplaces, hlog, hlp, hfound, hwait, hsq, hlk, hPg, hrow, hlrow, hfb⟩ := id hW
  refine v_aload_n hB dDi_emptyLog_0 rfl ?_
  refine v_iconst hB dDi_emptyLog_1 (v := 0) (by decide) ?_
  refine v_puti hC (klDi hY.2) (F := FDi Y _) (by assumption) 3 dDi_emptyLog_2 kfDi_37 (by decide) rfl rfl rfl (fun _ _ => rfl) (fun _ _ => Nat.le_of_ble_eq_true rfl) ?_
  refine v_aload_n hB dDi_emptyLog_5 rfl ?_
  refine v_iconst hB dDi_emptyLog_6 (v := 0) (by decide) ?_
  refine v_puti hC (klDi hY.2) (F := FDi Y _) (by assumption) 4 dDi_emptyLog_7 kfDi_33 (by decide) rfl (by decide) (by decide) (fun _ _ => rfl) (fun _ _ => Nat.le_of_ble_eq_true rfl) ?_
  exact v_vret hC rfl dDi_emptyLog_10 ⟨rfl, rfl⟩

set_option maxHeartbeats 4000000 in
set_option maxRecDepth 100000 in
theorem cDi_writePlaces {l : Launch} {Y : Yt} (hY : YB Y) (hW : YW Y) {g m : Nat} {μ : Mu} {K : Mu → Prop} (hg : μ.1 1 3 = nI g) (hg40 : g ≤ 40) (hm : m < 2 ^ 30) (h : wcL K (min g m) 0 μ) : Ct l Y yDi_writePlaces wDi_writePlaces ({ frames := 1, cells := 0, slots := 0, locals := 30 }) [.ref (ad Y 1), .int (nI m)] μ (PV K) := by
  refine ct_of hY.1 (by decide) rfl (Nat.le_of_ble_eq_true rfl) (lv := [some (.ref (ad Y 1)), some (.int (nI m)), none]) rfl (fun X hC => ?_)
  have hB := hC.B
  obtain ⟨hFa, hDi, hTr, hSe, h4, h5, h6b, h7, h8, hpages, htrail, hturns, hplaces, hlog, hlp, hfound, hwait, hsq, hlk, hPg, hrow, hlrow, hfb⟩ := id hW
  have loop : ∀ (r k : Nat) (ν : Mu), k + r = min g m → ν.1 1 3 = nI g → wcL K r k ν → VG X (yA Y) 3 0 0 (VQ X Y (PV K)) (yI Y (ν)) 2 [some (.ref (ad Y 1)), some (.int (nI m)), some (.int (nI k))] [] := by
    intro r
    induction r with
    | zero =>
      intro k ν hk hν hf
      refine v_iload_n hB dDi_writePlaces_2 rfl ?_
      refine v_aload_n hB dDi_writePlaces_3 rfl ?_
      refine v_get hC (klDi hY.2) (F := FDi Y _) (by assumption) 3 dDi_writePlaces_4 kfDi_37 (by decide) rfl ?_
      refine v_icmp_ge hB 45 dDi_writePlaces_7 (by decide) (fun c => ?_) (fun c => ?_)
      · exact v_vret hC rfl dDi_writePlaces_45 ⟨rfl, hf⟩
      have hkg : k < g := by
        rw [hν, nI_leI (by omega) (by omega)] at c
        omega
      refine v_iload_n hB dDi_writePlaces_10 rfl ?_
      refine v_iload_n hB dDi_writePlaces_11 rfl ?_
      refine v_icmp_ge hB 45 dDi_writePlaces_12 (by decide) (fun c1 => ?_) (fun c1 => ?_)
      · exact v_vret hC rfl dDi_writePlaces_45 ⟨rfl, hf⟩
      exact absurd (nI_le (by omega) (by omega)) c1
    | succ r ih =>
      rintro k ν hk hν ⟨q, hq, hlq, hf⟩
      refine v_iload_n hB dDi_writePlaces_2 rfl ?_
      refine v_aload_n hB dDi_writePlaces_3 rfl ?_
      refine v_get hC (klDi hY.2) (F := FDi Y _) (by assumption) 3 dDi_writePlaces_4 kfDi_37 (by decide) rfl ?_
      refine v_icmp_ge hB 45 dDi_writePlaces_7 (by decide) (fun c => ?_) (fun c => ?_)
      · exact absurd c (by rw [hν]; exact (fun q => absurd ((nI_leI (by omega) (by omega)).mp q) (by omega)))
      refine v_iload_n hB dDi_writePlaces_10 rfl ?_
      refine v_iload_n hB dDi_writePlaces_11 rfl ?_
      refine v_icmp_ge hB 45 dDi_writePlaces_12 (by decide) (fun c1 => ?_) (fun c1 => ?_)
      · exact absurd c1 (fun q => absurd ((nI_leI (by omega) (by omega)).mp q) (by omega))
      refine v_aload_n hB dDi_writePlaces_15 rfl ?_
      refine v_get hC (klDi hY.2) (F := FDi Y _) (by assumption) 1 dDi_writePlaces_16 kfDi_16 (by decide) rfl ?_
      refine v_iload_n hB dDi_writePlaces_19 rfl ?_
      refine v_aald hC hlog k dDi_writePlaces_20 rfl (by omega) (by decide) ?_
      refine v_iconst hB dDi_writePlaces_21 (v := 0) (by decide) ?_
      refine v_aload_n hB dDi_writePlaces_22 rfl ?_
      refine v_get hC (klDi hY.2) (F := FDi Y _) (by assumption) 0 dDi_writePlaces_23 kfDi_11 (by decide) rfl ?_
      refine v_aload_n hB dDi_writePlaces_26 rfl ?_
      refine v_get hC (klDi hY.2) (F := FDi Y _) (by assumption) 2 dDi_writePlaces_27 kfDi_19 (by decide) rfl ?_
      refine v_iload_n hB dDi_writePlaces_30 rfl ?_
      refine v_iald hC hlp k dDi_writePlaces_31 rfl (by omega) (by decide) ?_
      refine v_aald hC hplaces q dDi_writePlaces_32 hlq (by omega) (by decide) ?_
      refine v_iconst hB dDi_writePlaces_33 (v := 0) (by decide) ?_
      refine v_bipush hB dDi_writePlaces_34 (v := 27) (by decide) ?_
      refine v_copy27 hC (hlrow k (by omega)) (hrow q hq) dDi_writePlaces_36 (Nat.le_of_ble_eq_true rfl) (Nat.le_of_ble_eq_true rfl) ?_
      refine v_iinc hB dDi_writePlaces_39 rfl (y := _) rfl rfl (by decide) (lv' := [_, _, _]) rfl ?_
      refine v_goto hB 2 dDi_writePlaces_42 (by decide) ?_
      rw [i1]
      exact ih (k + 1) _ (by omega) (by rw [wr_ne _ _ (pl_1 q)]; exact hν) hf
  refine v_iconst hB dDi_writePlaces_0 (v := 0) (by decide) ?_
  refine v_istore_n hB dDi_writePlaces_1 rfl (by decide) (lv' := [_, _, _]) rfl ?_
  exact loop (min g m) 0 μ (by omega) hg h

set_option maxHeartbeats 4000000 in
set_option maxRecDepth 100000 in
theorem cDi_writeLog {l : Launch} {Y : Yt} (hY : YB Y) (hW : YW Y) {m : Nat} (hm : m ≤ 40) {μ : Mu} {K : Mu → Prop} (h : wlL m K 40 0 μ) : Ct l Y yDi_writeLog wDi_writeLog ({ frames := 2, cells := 0, slots := 0, locals := 45 }) [.ref (ad Y 1), .ref (ad Y 2), .int (nI m)] μ (PV K) := by
  refine ct_of hY.1 (by decide) rfl (Nat.le_of_ble_eq_true rfl) (lv := [some (.ref (ad Y 1)), some (.ref (ad Y 2)), some (.int (nI m)), none]) rfl (fun X hC => ?_)
  have hB := hC.B
  obtain ⟨hFa, hDi, hTr, hSe, h4, h5, h6b, h7, h8, hpages, htrail, hturns, hplaces, hlog, hlp, hfound, hwait, hsq, hlk, hPg, hrow, hlrow, hfb⟩ := id hW
  have loop : ∀ (r q : Nat) (ν : Mu), q + r = 40 → wlL m K r q ν → VG X (yA Y) 4 0 0 (VQ X Y (PV K)) (yI Y (ν)) 2 [some (.ref (ad Y 1)), some (.ref (ad Y 2)), some (.int (nI m)), some (.int (nI q))] [] := by
    intro r
    induction r with
    | zero =>
      intro q ν hk hf
      refine v_iload_n hB dDi_writeLog_2 rfl ?_
      refine v_bipush hB dDi_writeLog_3 (v := 40) (by decide) ?_
      refine v_icmp_ge hB 64 dDi_writeLog_5 (by decide) (fun c => ?_) (fun c => ?_)
      · exact v_vret hC rfl dDi_writeLog_64 ⟨rfl, hf⟩
      · exact absurd (by rw [show (40 : Int32) = nI 40 from rfl]; exact nI_le (by omega) (by omega)) c
    | succ r ih =>
      rintro q ν hk ⟨g, hg40, hg, hi⟩
      have hq : q < 40 := by omega
      refine v_iload_n hB dDi_writeLog_2 rfl ?_
      refine v_bipush hB dDi_writeLog_3 (v := 40) (by decide) ?_
      refine v_icmp_ge hB 64 dDi_writeLog_5 (by decide) (fun c => ?_) (fun c => ?_)
      · exact absurd c (by rw [show (40 : Int32) = nI 40 from rfl]; exact (fun q => absurd ((nI_leI (by omega) (by omega)).mp q) (by omega)))
      refine v_aload_n hB dDi_writeLog_8 rfl ?_
      refine v_get hC (klDi hY.2) (F := FDi Y _) (by assumption) 3 dDi_writeLog_9 kfDi_37 (by decide) rfl ?_
      refine v_iload_n hB dDi_writeLog_12 rfl ?_
      refine v_icmp_ge hB 64 dDi_writeLog_13 (by decide) (fun c1 => ?_) (fun c1 => ?_)
      · rw [if_neg (fun z => by rw [hg, nI_leI (by omega) (by omega)] at c1; omega)] at hi
        exact v_vret hC rfl dDi_writeLog_64 ⟨rfl, hi⟩
      have hgm : g < m := by
        rw [hg, nI_leI (by omega) (by omega)] at c1
        omega
      rw [if_pos hgm] at hi
      obtain ⟨htb, hi⟩ := hi
      refine v_aload_n hB dDi_writeLog_16 rfl ?_
      refine v_iload_n hB dDi_writeLog_17 rfl ?_
      refine v_callV hC tbok kmDi_48 kiTr_isChanged ksTr_isChanged dDi_writeLog_18 (F := FTr Y _) (by assumption) (by rw [hY.2]; rfl) (cTr_isChanged hY hW hq ν htb) rfl rfl ⟨Nat.le_of_ble_eq_true rfl, Nat.le_of_ble_eq_true rfl⟩ rfl rfl (Nat.le_of_ble_eq_true rfl) ⟨Nat.zero_le _, Nat.zero_le _⟩ (kE rfl ?_)
      refine v_if_eq hB 58 dDi_writeLog_21 (by decide) (fun c2 => ?_) (fun c2 => ?_)
      · rw [if_pos c2] at hi
        refine v_iinc hB dDi_writeLog_58 rfl (y := _) rfl rfl (by decide) (lv' := [_, _, _, _]) rfl ?_
        refine v_goto hB 2 dDi_writeLog_61 (by decide) ?_
        rw [i1]
        exact ih (q + 1) ν (by omega) hi
      rw [if_neg c2] at hi
      obtain ⟨hg2, hi⟩ := hi
      refine v_aload_n hB dDi_writeLog_24 rfl ?_
      refine v_iload_n hB dDi_writeLog_25 rfl ?_
      refine v_aload_n hB dDi_writeLog_26 rfl ?_
      refine v_get hC (klDi hY.2) (F := FDi Y _) (by assumption) 1 dDi_writeLog_27 kfDi_16 (by decide) rfl ?_
      refine v_aload_n hB dDi_writeLog_30 rfl ?_
      refine v_get hC (klDi hY.2) (F := FDi Y _) (by assumption) 3 dDi_writeLog_31 kfDi_37 (by decide) rfl ?_
      refine v_aald hC hlog g dDi_writeLog_34 hg (by omega) (by decide) ?_
      refine v_callV hC tbok kmDi_52 kiTr_writePage ksTr_writePage dDi_writeLog_35 (F := FTr Y _) (by assumption) (by rw [hY.2]; rfl) (cTr_writePage hY hW hq (hlrow g hg2) hi) rfl rfl ⟨Nat.le_of_ble_eq_true rfl, Nat.le_of_ble_eq_true rfl⟩ rfl rfl (Nat.le_of_ble_eq_true rfl) ⟨Nat.zero_le _, Nat.zero_le _⟩ (kV fun ν1 h1 => ?_)
      obtain ⟨hg3, h1⟩ := h1
      refine v_aload_n hB dDi_writeLog_38 rfl ?_
      refine v_get hC (klDi hY.2) (F := FDi Y _) (by assumption) 2 dDi_writeLog_39 kfDi_19 (by decide) rfl ?_
      refine v_aload_n hB dDi_writeLog_42 rfl ?_
      refine v_get hC (klDi hY.2) (F := FDi Y _) (by assumption) 3 dDi_writeLog_43 kfDi_37 (by decide) rfl ?_
      refine v_iload_n hB dDi_writeLog_46 rfl ?_
      refine v_iast hC hlp g dDi_writeLog_47 hg3 (by omega) (by decide) ?_
      refine v_aload_n hB dDi_writeLog_48 rfl ?_
      refine v_dup hB dDi_writeLog_49 rfl ?_
      refine v_get hC (klDi hY.2) (F := FDi Y _) (by assumption) 3 dDi_writeLog_50 kfDi_37 (by decide) rfl ?_
      refine v_iconst hB dDi_writeLog_53 (v := 1) (by decide) ?_
      refine v_iadd hB dDi_writeLog_54 ?_
      rw [wi_ne ν1 g (nI q) (show (1 : Nat) ≠ 14 by decide), hg3, nI_1]
      refine v_puti hC (klDi hY.2) (F := FDi Y _) (by assumption) 3 dDi_writeLog_55 kfDi_37 (by decide) rfl rfl rfl (fun _ _ => rfl) (fun _ _ => Nat.le_of_ble_eq_true rfl) ?_
      refine v_iinc hB dDi_writeLog_58 rfl (y := _) rfl rfl (by decide) (lv' := [_, _, _, _]) rfl ?_
      refine v_goto hB 2 dDi_writeLog_61 (by decide) ?_
      rw [i1]
      exact ih (q + 1) _ (by omega) h1
  refine v_iconst hB dDi_writeLog_0 (v := 0) (by decide) ?_
  refine v_istore_n hB dDi_writeLog_1 rfl (by decide) (lv' := [_, _, _, _]) rfl ?_
  exact loop 40 0 μ (by decide) h

set_option maxHeartbeats 4000000 in
set_option maxRecDepth 100000 in
theorem cDi_recover {l : Launch} {Y : Yt} (hY : YB Y) (hW : YW Y) {μ : Mu} {K : Mu → Prop} (h : rcW μ K) : Ct l Y yDi_recover wDi_recover ({ frames := 2, cells := 0, slots := 0, locals := 52 }) [.ref (ad Y 1)] μ (PV K) := by
  refine ct_of hY.1 (by decide) rfl (Nat.le_of_ble_eq_true rfl) (lv := [some (.ref (ad Y 1))]) rfl (fun X hC => ?_)
  have hB := hC.B
  obtain ⟨hFa, hDi, hTr, hSe, h4, h5, h6b, h7, h8, hpages, htrail, hturns, hplaces, hlog, hlp, hfound, hwait, hsq, hlk, hPg, hrow, hlrow, hfb⟩ := id hW
  obtain ⟨g, hg40, hg, hi⟩ := h
  have last : ∀ ν : Mu, K (elM ν) → VG X (yA Y) 1 0 0 (VQ X Y (PV K)) (yI Y (ν)) 15 [some (.ref (ad Y 1))] [] := by
    intro ν hν
    refine v_aload_n hB dDi_recover_15 rfl ?_
    refine v_callV hC tbok kmDi_45 kiDi_emptyLog ksDi_emptyLog dDi_recover_16 (F := FDi Y _) (by assumption) (by rw [hY.2]; rfl) (cDi_emptyLog hY hW ν) rfl rfl ⟨Nat.le_of_ble_eq_true rfl, Nat.le_of_ble_eq_true rfl⟩ rfl rfl (Nat.le_of_ble_eq_true rfl) ⟨Nat.zero_le _, Nat.zero_le _⟩ (kE rfl ?_)
    exact v_vret hC rfl dDi_recover_19 ⟨rfl, hν⟩
  refine v_aload_n hB dDi_recover_0 rfl ?_
  refine v_get hC (klDi hY.2) (F := FDi Y _) (by assumption) 4 dDi_recover_1 kfDi_33 (by decide) rfl ?_
  refine v_if_eq hB 15 dDi_recover_4 (by decide) (fun c => ?_) (fun c => ?_)
  · rw [if_pos c] at hi
    exact last μ hi
  rw [if_neg c] at hi
  refine v_aload_n hB dDi_recover_7 rfl ?_
  refine v_aload_n hB dDi_recover_8 rfl ?_
  refine v_get hC (klDi hY.2) (F := FDi Y _) (by assumption) 3 dDi_recover_9 kfDi_37 (by decide) rfl ?_
  rw [hg]
  refine v_callV hC tbok kmDi_41 kiDi_writePlaces ksDi_writePlaces dDi_recover_12 (F := FDi Y _) (by assumption) (by rw [hY.2]; rfl) (cDi_writePlaces hY hW hg hg40 (by omega) (by rw [Nat.min_self]; exact hi)) rfl rfl ⟨Nat.le_of_ble_eq_true rfl, Nat.le_of_ble_eq_true rfl⟩ rfl rfl (Nat.le_of_ble_eq_true rfl) ⟨Nat.zero_le _, Nat.zero_le _⟩ (kV fun ν1 h1 => ?_)
  exact last ν1 h1

set_option maxHeartbeats 4000000 in
set_option maxRecDepth 100000 in
theorem cDi_keep {l : Launch} {Y : Yt} (hY : YB Y) (hW : YW Y) {k : Int32} {μ : Mu} {K : Bool → Mu → Prop} (h : kpW μ k K) : Ct l Y yDi_keep wDi_keep ({ frames := 3, cells := 0, slots := 0, locals := 68 }) [.ref (ad Y 1), .ref (ad Y 2), .int k] μ (PB K) := by
  refine ct_of hY.1 (by decide) rfl (Nat.le_of_ble_eq_true rfl) (lv := [some (.ref (ad Y 1)), some (.ref (ad Y 2)), some (.int k), none]) rfl (fun X hC => ?_)
  have hB := hC.B
  obtain ⟨hFa, hDi, hTr, hSe, h4, h5, h6b, h7, h8, hpages, htrail, hturns, hplaces, hlog, hlp, hfound, hwait, hsq, hlk, hPg, hrow, hlrow, hfb⟩ := id hW
  refine v_iload_n hB dDi_keep_0 rfl ?_
  refine v_if_ne hB 6 dDi_keep_1 (by decide) (fun c0 => ?_) (fun c0 => ?_)
  rotate_left
  · rw [kpW, if_pos c0] at h
    refine v_iconst hB dDi_keep_4 (v := 0) (by decide) ?_
    exact v_zret hC rfl (by decide) dDi_keep_5 ⟨false, rfl, h⟩
  rw [kpW, if_neg c0] at h
  obtain ⟨htb, h⟩ := h
  have hcl := cnt_le μ 40
  refine v_aload_n hB dDi_keep_6 rfl ?_
  refine v_callV hC tbok kmDi_23 kiTr_changedPages ksTr_changedPages dDi_keep_7 (F := FTr Y _) hTr (by rw [hY.2]; rfl) (cTr_changedPages hY hW μ htb) rfl rfl ⟨Nat.le_of_ble_eq_true rfl, Nat.le_of_ble_eq_true rfl⟩ rfl rfl (Nat.le_of_ble_eq_true rfl) ⟨Nat.zero_le _, Nat.zero_le _⟩ (kE rfl ?_)
  refine v_istore_n hB dDi_keep_10 rfl (by decide) (lv' := [_, _, _, _]) rfl ?_
  have key : ∀ m : Nat, m ≤ 40 → wlL m (fun μ1 => if k = 1 ∨ k = 2 then K false μ1 else if k = 3 then K false (wi μ1 1 4 1) else ∃ g, g ≤ 40 ∧ (wi μ1 1 4 1).1 1 3 = nI g ∧ wcL (fun μ3 => if k = 4 ∨ k = 5 then K false μ3 else K true (elM μ3)) (min g (if k = 4 then 1 else g)) 0 (wi μ1 1 4 1)) 40 0 μ → VG X (yA Y) 4 0 0 (VQ X Y (PB K)) (yI Y (μ)) 25 [some (.ref (ad Y 1)), some (.ref (ad Y 2)), some (.int k), some (.int (nI (cnt μ 40)))] [.int (nI m), .ref (ad Y 2), .ref (ad Y 1)] := by
    intro m hm hw
    refine v_callV hC tbok kmDi_29 kiDi_writeLog ksDi_writeLog dDi_keep_25 (F := FDi Y _) (by assumption) (by rw [hY.2]; rfl) (cDi_writeLog hY hW hm hw) rfl rfl ⟨Nat.le_of_ble_eq_true rfl, Nat.le_of_ble_eq_true rfl⟩ rfl rfl (Nat.le_of_ble_eq_true rfl) ⟨Nat.zero_le _, Nat.zero_le _⟩ (kV fun μ1 h1 => ?_)
    have f12 : (k = 1 ∨ k = 2) → VG X (yA Y) 4 0 0 (VQ X Y (PB K)) (yI Y (μ1)) 38 [some (.ref (ad Y 1)), some (.ref (ad Y 2)), some (.int k), some (.int (nI (cnt μ 40)))] [] := by
      intro hz
      rw [if_pos hz] at h1
      refine v_iconst hB dDi_keep_38 (v := 0) (by decide) ?_
      exact v_zret hC rfl (by decide) dDi_keep_39 ⟨false, rfl, h1⟩
    refine v_iload_n hB dDi_keep_28 rfl ?_
    refine v_iconst hB dDi_keep_29 (v := 1) (by decide) ?_
    refine v_icmp_eq hB 38 dDi_keep_30 (by decide) (fun c1 => ?_) (fun c1 => ?_)
    · exact f12 (Or.inl c1)
    refine v_iload_n hB dDi_keep_33 rfl ?_
    refine v_iconst hB dDi_keep_34 (v := 2) (by decide) ?_
    refine v_icmp_ne hB 40 dDi_keep_35 (by decide) (fun c2 => ?_) (fun c2 => ?_)
    rotate_left
    · exact f12 (Or.inr c2)
    rw [if_neg (fun z => z.elim c1 c2)] at h1
    refine v_aload_n hB dDi_keep_40 rfl ?_
    refine v_iconst hB dDi_keep_41 (v := 1) (by decide) ?_
    refine v_puti hC (klDi hY.2) (F := FDi Y _) (by assumption) 4 dDi_keep_42 kfDi_33 (by decide) rfl (by decide) (by decide) (fun _ _ => rfl) (fun _ _ => Nat.le_of_ble_eq_true rfl) ?_
    refine v_iload_n hB dDi_keep_45 rfl ?_
    refine v_iconst hB dDi_keep_46 (v := 3) (by decide) ?_
    refine v_icmp_ne hB 52 dDi_keep_47 (by decide) (fun c3 => ?_) (fun c3 => ?_)
    rotate_left
    · rw [if_pos c3] at h1
      refine v_iconst hB dDi_keep_50 (v := 0) (by decide) ?_
      exact v_zret hC rfl (by decide) dDi_keep_51 ⟨false, rfl, h1⟩
    rw [if_neg c3] at h1
    obtain ⟨g, hg40, hg, hw2⟩ := h1
    have key2 : ∀ m : Nat, m ≤ 40 → m = (if k = 4 then 1 else g) → VG X (yA Y) 4 0 0 (VQ X Y (PB K)) (yI Y (wi μ1 1 4 1)) 66 [some (.ref (ad Y 1)), some (.ref (ad Y 2)), some (.int k), some (.int (nI (cnt μ 40)))] [.int (nI m), .ref (ad Y 1)] := by
      intro m hm hm2
      subst hm2
      refine v_callV hC tbok kmDi_41 kiDi_writePlaces ksDi_writePlaces dDi_keep_66 (F := FDi Y _) (by assumption) (by rw [hY.2]; rfl) (cDi_writePlaces hY hW hg hg40 (by omega) hw2) rfl rfl ⟨Nat.le_of_ble_eq_true rfl, Nat.le_of_ble_eq_true rfl⟩ rfl rfl (Nat.le_of_ble_eq_true rfl) ⟨Nat.zero_le _, Nat.zero_le _⟩ (kV fun μ3 h3 => ?_)
      have f45 : (k = 4 ∨ k = 5) → VG X (yA Y) 4 0 0 (VQ X Y (PB K)) (yI Y (μ3)) 79 [some (.ref (ad Y 1)), some (.ref (ad Y 2)), some (.int k), some (.int (nI (cnt μ 40)))] [] := by
        intro hz
        rw [if_pos hz] at h3
        refine v_iconst hB dDi_keep_79 (v := 0) (by decide) ?_
        exact v_zret hC rfl (by decide) dDi_keep_80 ⟨false, rfl, h3⟩
      refine v_iload_n hB dDi_keep_69 rfl ?_
      refine v_iconst hB dDi_keep_70 (v := 4) (by decide) ?_
      refine v_icmp_eq hB 79 dDi_keep_71 (by decide) (fun c4 => ?_) (fun c4 => ?_)
      · exact f45 (Or.inl c4)
      refine v_iload_n hB dDi_keep_74 rfl ?_
      refine v_iconst hB dDi_keep_75 (v := 5) (by decide) ?_
      refine v_icmp_ne hB 81 dDi_keep_76 (by decide) (fun c5 => ?_) (fun c5 => ?_)
      rotate_left
      · exact f45 (Or.inr c5)
      rw [if_neg (fun z => z.elim c4 c5)] at h3
      refine v_aload_n hB dDi_keep_81 rfl ?_
      refine v_callV hC tbok kmDi_45 kiDi_emptyLog ksDi_emptyLog dDi_keep_82 (F := FDi Y _) (by assumption) (by rw [hY.2]; rfl) (cDi_emptyLog hY hW μ3) rfl rfl ⟨Nat.le_of_ble_eq_true rfl, Nat.le_of_ble_eq_true rfl⟩ rfl rfl (Nat.le_of_ble_eq_true rfl) ⟨Nat.zero_le _, Nat.zero_le _⟩ (kE rfl ?_)
      refine v_iconst hB dDi_keep_85 (v := 1) (by decide) ?_
      exact v_zret hC rfl (by decide) dDi_keep_86 ⟨true, rfl, h3⟩
    refine v_aload_n hB dDi_keep_52 rfl ?_
    refine v_iload_n hB dDi_keep_53 rfl ?_
    refine v_iconst hB dDi_keep_54 (v := 4) (by decide) ?_
    refine v_icmp_ne hB 62 dDi_keep_55 (by decide) (fun c4 => ?_) (fun c4 => ?_)
    · refine v_aload_n hB dDi_keep_62 rfl ?_
      refine v_get hC (klDi hY.2) (F := FDi Y _) (by assumption) 3 dDi_keep_63 kfDi_37 (by decide) rfl ?_
      rw [hg]
      exact key2 g hg40 (by rw [if_neg c4])
    · refine v_iconst hB dDi_keep_58 (v := 1) (by decide) ?_
      refine v_goto hB 66 dDi_keep_59 (by decide) ?_
      exact key2 1 (by decide) (by rw [if_pos c4])
  refine v_aload_n hB dDi_keep_11 rfl ?_
  refine v_aload_n hB dDi_keep_12 rfl ?_
  refine v_iload_n hB dDi_keep_13 rfl ?_
  refine v_iconst hB dDi_keep_14 (v := 1) (by decide) ?_
  refine v_icmp_ne hB 24 dDi_keep_15 (by decide) (fun c1 => ?_) (fun c1 => ?_)
  · refine v_iload_n hB dDi_keep_24 rfl ?_
    rw [if_neg c1] at h
    exact key _ hcl h
  refine v_iload_n hB dDi_keep_18 rfl ?_
  refine v_iconst hB dDi_keep_19 (v := 2) (by decide) ?_
  refine v_idiv hB dDi_keep_20 (by decide) ?_
  refine v_goto hB 25 dDi_keep_21 (by decide) ?_
  rw [if_pos c1] at h
  rw [show nI (cnt μ 40) / 2 = nI (cnt μ 40 / 2) from pk_div (d := 2) (by omega) (by decide) (by decide)]
  exact key _ (by omega) h
end
section
/-! THE SEARCH. -/
theorem lc_lt {x y : Int64} : lg_cmp x y < 0 ↔ x < y := by
  unfold lg_cmp
  by_cases h : y < x
  · rw [if_pos h]
    exact ⟨fun q => absurd q (by decide), fun q => absurd h (Int64.not_lt.mpr (Int64.le_of_lt q))⟩
  · rw [if_neg h]
    by_cases h2 : x = y
    · rw [if_pos h2]
      exact ⟨fun q => absurd q (by decide), fun q => absurd h2 (Int64.ne_of_lt q)⟩
    · rw [if_neg h2]
      exact ⟨fun _ => (Int64.lt_or_eq_of_le (Int64.not_lt.mp h)).resolve_right h2, fun _ => by decide⟩
theorem lc_eq {x y : Int64} : lg_cmp x y = 0 ↔ x = y := by
  unfold lg_cmp
  by_cases h : y < x
  · rw [if_pos h]
    exact ⟨fun q => absurd q (by decide), fun q => absurd q.symm (Int64.ne_of_lt h)⟩
  · rw [if_neg h]
    by_cases h2 : x = y
    · rw [if_pos h2]
      exact ⟨fun _ => h2, fun _ => rfl⟩
    · rw [if_neg h2]
      exact ⟨fun q => absurd q (by decide), fun q => absurd q h2⟩
theorem lc_le {x y : Int64} : lg_cmp x y ≤ 0 ↔ ¬ y < x := by
  unfold lg_cmp
  by_cases h : y < x
  · rw [if_pos h]
    exact ⟨fun q => absurd q (by decide), fun q => absurd h q⟩
  · rw [if_neg h]
    by_cases h2 : x = y
    · rw [if_pos h2]
      exact ⟨fun _ => h, fun _ => by decide⟩
    · rw [if_neg h2]
      exact ⟨fun _ => h, fun _ => by decide⟩
def awM (μ : Mu) (g : Nat) (n : Int32) (sq : Int64) : Mu := wi (wl (wi μ 16 g n) 17 g sq) 3 6 (nI (g + 1))
def bgM (μ : Mu) (n : Int32) : Mu := awM (wi (wi μ 3 6 0) 3 8 0) 0 n 0
/-- the place j is taken out of g + 1 that wait; k looks have been; it names page q -/
def li1 (μ : Mu) (j g : Nat) : Mu := wi (wi μ 3 6 (nI g)) 16 j ((wi μ 3 6 (nI g)).1 16 g)
def li2 (μ : Mu) (j g : Nat) : Mu := wl (li1 μ j g) 17 j ((li1 μ j g).2 17 g)
def liM (μ : Mu) (j g k q : Nat) : Mu := wi (wi (li2 μ j g) 18 k (nI q)) 3 8 (nI (k + 1))
def koL (e : Nat) : Nat → Mu → Mu
  | 0, μ => bec μ (fdI 0) e
  | p + 1, μ => if precB (μ.1 e) (μ.1 (fdI p)) = true then koL e p (bec μ (fdI (p + 1)) (fdI p)) else bec μ (fdI (p + 1)) e
def koM (μ : Mu) (e h : Nat) : Mu := wi (koL e h μ) 3 1 (nI (h + 1))
theorem fd_3 (p : Nat) : 3 ≠ fdI p := by unfold fdI; omega
theorem koL_3 (e : Nat) : ∀ (p : Nat) (μ : Mu), (koL e p μ).1 3 = μ.1 3
  | 0, μ => bec_ne μ e (fd_3 0)
  | p + 1, μ => by
    rw [koL]
    split
    · rw [koL_3 e p, bec_ne μ _ (fd_3 (p + 1))]
    · exact bec_ne μ e (fd_3 (p + 1))
def kcM (μ : Mu) (e : Nat) (sq : Int64) : Mu := if sq < μ.2 3 3 ∨ (sq = μ.2 3 3 ∧ precB (μ.1 e) (μ.1 7) = true) then wl (bec μ 7 e) 3 3 sq else μ
/-- the slots of page q, for a window w -/
def gsL (q w : Nat) (K : Mu → Prop) : Nat → Nat → Mu → Prop
  | 0, _, _ => False
  | r + 1, k, ν => ∃ u v : Nat, u ≤ 6 ∧ v < 2 ^ 30 ∧ ν.1 (pgI q) 1 = nI u ∧ ν.1 (pgI q) 0 = nI v ∧ (if k < u then (if meetB (ν.1 (bxI q k)) (ν.1 w) = true then (if v = 1 then ∃ h, h < 40 ∧ ν.1 3 1 = nI h ∧ gsL q w K r (k + 1) (koM ν (bxI q k) h) else ∃ g, g < 40 ∧ ν.1 3 6 = nI g ∧ gsL q w K r (k + 1) (awM ν g (ν.1 (bxI q k) 4) 0)) else gsL q w K r (k + 1) ν) else K ν)
def gaL (w : Nat) (K : Mu → Prop) : Nat → Mu → Prop
  | 0, μ => K μ
  | r + 1, μ => ∃ g, g ≤ 40 ∧ μ.1 3 6 = nI g ∧ (if 0 < g then ∃ k q, k < 40 ∧ q < 40 ∧ μ.1 3 8 = nI k ∧ μ.1 16 (g - 1) = nI q ∧ gsL q w (fun ν => gaL w K r ν) 7 0 (liM μ (g - 1) (g - 1) k q) else K μ)
def gaW (μ : Mu) (w : Nat) (K : Mu → Prop) : Prop := gaL w K 40 (bgM (wi μ 3 1 0) ((wi μ 3 1 0).1 2 0))
/-- the slots of page q, for a point -/
def asL (q : Nat) (x y : Int32) (K : Mu → Prop) : Nat → Nat → Mu → Prop
  | 0, _, _ => False
  | r + 1, k, ν => ∃ u v : Nat, u ≤ 6 ∧ v < 2 ^ 30 ∧ ν.1 (pgI q) 1 = nI u ∧ ν.1 (pgI q) 0 = nI v ∧ (if k < u then (if v = 1 then asL q x y K r (k + 1) (kcM ν (bxI q k) (sqB (ν.1 (bxI q k)) x y)) else ∃ g, g < 40 ∧ ν.1 3 6 = nI g ∧ asL q x y K r (k + 1) (awM ν g (ν.1 (bxI q k) 4) (sqB (ν.1 (bxI q k)) x y))) else K ν)
def apL (x y : Int32) (K : Mu → Prop) : Nat → Mu → Prop
  | 0, μ => K μ
  | r + 1, μ => ∃ g, g ≤ 40 ∧ μ.1 3 6 = nI g ∧ (if 0 < g then ∀ b, b < g → (∀ i, i < g → ¬ μ.2 17 i < μ.2 17 b) → (if μ.2 3 3 < μ.2 17 b then K μ else ∃ k q, k < 40 ∧ q < 40 ∧ μ.1 3 8 = nI k ∧ μ.1 16 b = nI q ∧ asL q x y (fun ν => apL x y K r ν) 7 0 (liM μ b (g - 1) k q)) else K μ)
def apW (μ : Mu) (x y : Int32) (K : Mu → Prop) : Prop := apL x y K 40 (bgM (wl μ 3 3 9223372036854775807) ((wl μ 3 3 9223372036854775807).1 2 0))
def hiN (μ : Mu) (w : Nat) : Nat → Nat
  | 0 => 0
  | k + 1 => hiN μ w k + (if holdB (μ.1 w) (μ.1 (fdI k)) = true then 1 else 0)
theorem hiN_le (μ : Mu) (w : Nat) : ∀ k, hiN μ w k ≤ k
  | 0 => Nat.le_refl 0
  | k + 1 => by
    have := hiN_le μ w k
    rw [hiN]
    split <;> omega
def lmL (w : Nat) (K : Bool → Mu → Prop) : Nat → Nat → Mu → Prop
  | 0, _, μ => K true μ
  | r + 1, i, μ => ∃ q u, q < 40 ∧ u ≤ 6 ∧ μ.1 18 i = nI q ∧ μ.1 (pgI q) 1 = nI u ∧ (if nI q = (frM μ q u (-1) 8).1 2 0 ∨ meetB ((frM μ q u (-1) 8).1 8) ((frM μ q u (-1) 8).1 w) = true then lmL w K r (i + 1) (frM μ q u (-1) 8) else K false (frM μ q u (-1) 8))
def lmW (μ : Mu) (w : Nat) (K : Bool → Mu → Prop) : Prop := ∃ k, k ≤ 40 ∧ μ.1 3 8 = nI k ∧ lmL w K k 0 μ
def lfL (x y : Int32) (K : Bool → Mu → Prop) : Nat → Nat → Mu → Prop
  | 0, _, μ => K true μ
  | r + 1, i, μ => ∃ q u, q < 40 ∧ u ≤ 6 ∧ μ.1 18 i = nI q ∧ μ.1 (pgI q) 1 = nI u ∧ (if nI q = (frM μ q u (-1) 8).1 2 0 ∨ ¬ (frM μ q u (-1) 8).2 3 3 < sqB ((frM μ q u (-1) 8).1 8) x y then lfL x y K r (i + 1) (frM μ q u (-1) 8) else K false (frM μ q u (-1) 8))
def lfW (μ : Mu) (x y : Int32) (K : Bool → Mu → Prop) : Prop := ∃ k, k ≤ 40 ∧ μ.1 3 8 = nI k ∧ lfL x y K k 0 μ
set_option maxHeartbeats 4000000 in
set_option maxRecDepth 100000 in
theorem cSe_await {l : Launch} {Y : Yt} (hY : YB Y) (hW : YW Y) {g : Nat} (n : Int32) (sq : Int64) (μ : Mu) (hg : μ.1 3 6 = nI g) (hg40 : g < 40) : Ct l Y ySe_await wSe_await ({ frames := 0, cells := 0, slots := 0, locals := 0 }) [.ref (ad Y 3), .int n, .long sq] μ (PE none (awM μ g n sq)) := by
  refine ct_of hY.1 (by decide) rfl (Nat.le_of_ble_eq_true rfl) (lv := [some (.ref (ad Y 3)), some (.int n), some (.long sq), none]) rfl (fun X hC => ?_)
  have hB := hC.B
  obtain ⟨hFa, hDi, hTr, hSe, h4, h5, h6b, h7, h8, hpages, htrail, hturns, hplaces, hlog, hlp, hfound, hwait, hsq, hlk, hPg, hrow, hlrow, hfb⟩ := id hW
  refine v_aload_n hB dSe_await_0 rfl ?_
  refine v_get hC (klSe hY.2) (F := FSe Y _) (by assumption) 6 dSe_await_1 kfSe_49 (by decide) rfl ?_
  refine v_bipush hB dSe_await_4 (v := 40) (by decide) ?_
  refine v_icmp_ge hB 39 dSe_await_6 (by decide) (fun c => ?_) (fun c => ?_)
  · exact absurd c (by rw [hg, show (40 : Int32) = nI 40 from rfl]; exact (fun q => absurd ((nI_leI (by omega) (by omega)).mp q) (by omega)))
  refine v_aload_n hB dSe_await_9 rfl ?_
  refine v_get hC (klSe hY.2) (F := FSe Y _) (by assumption) 4 dSe_await_10 kfSe_22 (by decide) rfl ?_
  refine v_aload_n hB dSe_await_13 rfl ?_
  refine v_get hC (klSe hY.2) (F := FSe Y _) (by assumption) 6 dSe_await_14 kfSe_49 (by decide) rfl ?_
  refine v_iload_n hB dSe_await_17 rfl ?_
  refine v_iast hC hwait g dSe_await_18 hg (by omega) (by decide) ?_
  refine v_aload_n hB dSe_await_19 rfl ?_
  refine v_get hC (klSe hY.2) (F := FSe Y _) (by assumption) 5 dSe_await_20 kfSe_26 (by decide) rfl ?_
  refine v_aload_n hB dSe_await_23 rfl ?_
  refine v_get hC (klSe hY.2) (F := FSe Y _) (by assumption) 6 dSe_await_24 kfSe_49 (by decide) rfl ?_
  refine v_lload_n hB dSe_await_27 rfl ?_
  refine v_last hC hsq g dSe_await_28 (by rw [wi_ne _ _ _ (show (3 : Nat) ≠ 16 by decide)]; exact hg) (by omega) (by decide) ?_
  refine v_aload_n hB dSe_await_29 rfl ?_
  refine v_dup hB dSe_await_30 rfl ?_
  refine v_get hC (klSe hY.2) (F := FSe Y _) (by assumption) 6 dSe_await_31 kfSe_49 (by decide) rfl ?_
  refine v_iconst hB dSe_await_34 (v := 1) (by decide) ?_
  refine v_iadd hB dSe_await_35 ?_
  rw [show (wl (wi μ 16 g n) 17 g sq).1 3 6 + 1 = nI (g + 1) by rw [← nI_1, ← hg]; exact congrArg (· + 1) (by show (wi μ 16 g n).1 3 6 = _; rw [wi_ne _ _ _ (show (3 : Nat) ≠ 16 by decide)])]
  refine v_puti hC (klSe hY.2) (F := FSe Y _) (by assumption) 6 dSe_await_36 kfSe_49 (by decide) rfl rfl rfl (fun _ _ => rfl) (fun _ _ => Nat.le_of_ble_eq_true rfl) ?_
  exact v_vret hC rfl dSe_await_39 ⟨rfl, rfl⟩

set_option maxHeartbeats 4000000 in
set_option maxRecDepth 100000 in
theorem cSe_begin {l : Launch} {Y : Yt} (hY : YB Y) (hW : YW Y) (n : Int32) (μ : Mu) : Ct l Y ySe_begin wSe_begin ({ frames := 1, cells := 0, slots := 0, locals := 23 }) [.ref (ad Y 3), .int n] μ (PE none (bgM μ n)) := by
  refine ct_of hY.1 (by decide) rfl (Nat.le_of_ble_eq_true rfl) (lv := [some (.ref (ad Y 3)), some (.int n)]) rfl (fun X hC => ?_)
  have hB := hC.B
  obtain ⟨hFa, hDi, hTr, hSe, h4, h5, h6b, h7, h8, hpages, htrail, hturns, hplaces, hlog, hlp, hfound, hwait, hsq, hlk, hPg, hrow, hlrow, hfb⟩ := id hW
  refine v_aload_n hB dSe_begin_0 rfl ?_
  refine v_iconst hB dSe_begin_1 (v := 0) (by decide) ?_
  refine v_puti hC (klSe hY.2) (F := FSe Y _) (by assumption) 6 dSe_begin_2 kfSe_49 (by decide) rfl rfl rfl (fun _ _ => rfl) (fun _ _ => Nat.le_of_ble_eq_true rfl) ?_
  refine v_aload_n hB dSe_begin_5 rfl ?_
  refine v_iconst hB dSe_begin_6 (v := 0) (by decide) ?_
  refine v_puti hC (klSe hY.2) (F := FSe Y _) (by assumption) 8 dSe_begin_7 kfSe_103 (by decide) rfl rfl rfl (fun _ _ => rfl) (fun _ _ => Nat.le_of_ble_eq_true rfl) ?_
  refine v_aload_n hB dSe_begin_10 rfl ?_
  refine v_iload_n hB dSe_begin_11 rfl ?_
  refine v_lconst hB dSe_begin_12 (v := 0) (by decide) ?_
  refine v_callV hC tbok kmSe_78 kiSe_await ksSe_await dSe_begin_13 (F := FSe Y _) (by assumption) (by rw [hY.2]; rfl) (cSe_await hY hW (g := 0) n 0 _ (by simp only [wi_at]; rfl) (by decide)) rfl rfl ⟨Nat.le_of_ble_eq_true rfl, Nat.le_of_ble_eq_true rfl⟩ rfl rfl (Nat.le_of_ble_eq_true rfl) ⟨Nat.zero_le _, Nat.zero_le _⟩ (kE rfl ?_)
  exact v_vret hC rfl dSe_begin_16 ⟨rfl, rfl⟩

set_option maxHeartbeats 4000000 in
set_option maxRecDepth 100000 in
theorem cSe_lookInto {l : Launch} {Y : Yt} (hY : YB Y) (hW : YW Y) {j g k q : Nat} (μ : Mu) (hg : μ.1 3 6 = nI (g + 1)) (hg40 : g < 40) (hj : j ≤ g) (hk : μ.1 3 8 = nI k) (hk40 : k < 40) (hq : q < 40) (hw : μ.1 16 j = nI q) : Ct l Y ySe_lookInto wSe_lookInto ({ frames := 1, cells := 0, slots := 0, locals := 21 }) [.ref (ad Y 3), .ref (ad Y 2), .int (nI j)] μ (PE (some (.ref (ad Y (pgI q)))) (liM μ j g k q)) := by
  refine ct_of hY.1 (by decide) rfl (Nat.le_of_ble_eq_true rfl) (lv := [some (.ref (ad Y 3)), some (.ref (ad Y 2)), some (.int (nI j)), none]) rfl (fun X hC => ?_)
  have hB := hC.B
  obtain ⟨hFa, hDi, hTr, hSe, h4, h5, h6b, h7, h8, hpages, htrail, hturns, hplaces, hlog, hlp, hfound, hwait, hsq, hlk, hPg, hrow, hlrow, hfb⟩ := id hW
  refine v_aload_n hB dSe_lookInto_0 rfl ?_
  refine v_get hC (klSe hY.2) (F := FSe Y _) (by assumption) 4 dSe_lookInto_1 kfSe_22 (by decide) rfl ?_
  refine v_iload_n hB dSe_lookInto_4 rfl ?_
  refine v_iald hC hwait j dSe_lookInto_5 rfl (by omega) (by decide) ?_
  rw [hw]
  refine v_istore_n hB dSe_lookInto_6 rfl (by decide) (lv' := [_, _, _, _]) rfl ?_
  refine v_aload_n hB dSe_lookInto_7 rfl ?_
  refine v_dup hB dSe_lookInto_8 rfl ?_
  refine v_get hC (klSe hY.2) (F := FSe Y _) (by assumption) 6 dSe_lookInto_9 kfSe_49 (by decide) rfl ?_
  refine v_iconst hB dSe_lookInto_12 (v := 1) (by decide) ?_
  refine v_isub hB dSe_lookInto_13 ?_
  rw [hg, nI_pred]
  refine v_puti hC (klSe hY.2) (F := FSe Y _) (by assumption) 6 dSe_lookInto_14 kfSe_49 (by decide) rfl rfl rfl (fun _ _ => rfl) (fun _ _ => Nat.le_of_ble_eq_true rfl) ?_
  refine v_aload_n hB dSe_lookInto_17 rfl ?_
  refine v_get hC (klSe hY.2) (F := FSe Y _) (by assumption) 4 dSe_lookInto_18 kfSe_22 (by decide) rfl ?_
  refine v_iload_n hB dSe_lookInto_21 rfl ?_
  refine v_aload_n hB dSe_lookInto_22 rfl ?_
  refine v_get hC (klSe hY.2) (F := FSe Y _) (by assumption) 4 dSe_lookInto_23 kfSe_22 (by decide) rfl ?_
  refine v_aload_n hB dSe_lookInto_26 rfl ?_
  refine v_get hC (klSe hY.2) (F := FSe Y _) (by assumption) 6 dSe_lookInto_27 kfSe_49 (by decide) rfl ?_
  refine v_iald hC hwait g dSe_lookInto_30 (by simp only [wi_at]; rfl) (by omega) (by decide) ?_
  refine v_iast hC hwait j dSe_lookInto_31 rfl (by omega) (by decide) ?_
  refine v_aload_n hB dSe_lookInto_32 rfl ?_
  refine v_get hC (klSe hY.2) (F := FSe Y _) (by assumption) 5 dSe_lookInto_33 kfSe_26 (by decide) rfl ?_
  refine v_iload_n hB dSe_lookInto_36 rfl ?_
  refine v_aload_n hB dSe_lookInto_37 rfl ?_
  refine v_get hC (klSe hY.2) (F := FSe Y _) (by assumption) 5 dSe_lookInto_38 kfSe_26 (by decide) rfl ?_
  refine v_aload_n hB dSe_lookInto_41 rfl ?_
  refine v_get hC (klSe hY.2) (F := FSe Y _) (by assumption) 6 dSe_lookInto_42 kfSe_49 (by decide) rfl ?_
  refine v_lald hC hsq g dSe_lookInto_45 (by simp only [wi_at]; rfl) (by omega) (by decide) ?_
  refine v_last hC hsq j dSe_lookInto_46 rfl (by omega) (by decide) ?_
  refine v_aload_n hB dSe_lookInto_47 rfl ?_
  refine v_get hC (klSe hY.2) (F := FSe Y _) (by assumption) 7 dSe_lookInto_48 kfSe_30 (by decide) rfl ?_
  refine v_aload_n hB dSe_lookInto_51 rfl ?_
  refine v_get hC (klSe hY.2) (F := FSe Y _) (by assumption) 8 dSe_lookInto_52 kfSe_103 (by decide) rfl ?_
  refine v_iload_n hB dSe_lookInto_55 rfl ?_
  have e1 : (li2 μ j g).1 3 8 = nI k := by
    show (li1 μ j g).1 3 8 = nI k
    unfold li1
    simp only [wi_at]
    exact hk
  refine v_iast hC hlk k dSe_lookInto_56 e1 (by omega) (by decide) ?_
  refine v_aload_n hB dSe_lookInto_57 rfl ?_
  refine v_dup hB dSe_lookInto_58 rfl ?_
  refine v_get hC (klSe hY.2) (F := FSe Y _) (by assumption) 8 dSe_lookInto_59 kfSe_103 (by decide) rfl ?_
  refine v_iconst hB dSe_lookInto_62 (v := 1) (by decide) ?_
  refine v_iadd hB dSe_lookInto_63 ?_
  have e2 : (wi (li2 μ j g) 18 k (nI q)).1 3 8 = nI k := by rw [wi_ne _ _ _ (show (3 : Nat) ≠ 18 by decide)]; exact e1
  refine v_st (st' := [.int (nI (k + 1)), .ref (ad Y 3)]) (by rw [← nI_1, ← e2]; rfl) ?_
  refine v_puti hC (klSe hY.2) (F := FSe Y _) (by assumption) 8 dSe_lookInto_64 kfSe_103 (by decide) rfl rfl rfl (fun _ _ => rfl) (fun _ _ => Nat.le_of_ble_eq_true rfl) ?_
  refine v_aload_n hB dSe_lookInto_67 rfl ?_
  refine v_iload_n hB dSe_lookInto_68 rfl ?_
  refine v_callV hC tbok kmSe_106 kiTr_at ksTr_at dSe_lookInto_69 (F := FTr Y _) (by assumption) (by rw [hY.2]; rfl) (cTr_at hY hW hq _) rfl rfl ⟨Nat.le_of_ble_eq_true rfl, Nat.le_of_ble_eq_true rfl⟩ rfl rfl (Nat.le_of_ble_eq_true rfl) ⟨Nat.zero_le _, Nat.zero_le _⟩ (kE rfl ?_)
  exact v_aret hC rfl dSe_lookInto_72 ⟨rfl, rfl⟩

set_option maxHeartbeats 4000000 in
set_option maxRecDepth 100000 in
theorem cSe_nearestWaiting {l : Launch} {Y : Yt} (hY : YB Y) (hW : YW Y) {g : Nat} (μ : Mu) (hg : μ.1 3 6 = nI g) (h0 : 0 < g) (hg40 : g ≤ 40) : Ct l Y ySe_nearestWaiting wSe_nearestWaiting ({ frames := 0, cells := 0, slots := 0, locals := 0 }) [.ref (ad Y 3)] μ (PI (fun x ν => ν = μ ∧ ∃ b, b < g ∧ x = nI b ∧ ∀ i, i < g → ¬ μ.2 17 i < μ.2 17 b)) := by
  refine ct_of hY.1 (by decide) rfl (Nat.le_of_ble_eq_true rfl) (lv := [some (.ref (ad Y 3)), none, none]) rfl (fun X hC => ?_)
  have hB := hC.B
  obtain ⟨hFa, hDi, hTr, hSe, h4, h5, h6b, h7, h8, hpages, htrail, hturns, hplaces, hlog, hlp, hfound, hwait, hsq, hlk, hPg, hrow, hlrow, hfb⟩ := id hW
  have loop : ∀ (r k b : Nat), k + r = g → b < k → (∀ i, i < k → ¬ μ.2 17 i < μ.2 17 b) → VG X (yA Y) 3 0 0 (VQ X Y (PI (fun x ν => ν = μ ∧ ∃ b, b < g ∧ x = nI b ∧ ∀ i, i < g → ¬ μ.2 17 i < μ.2 17 b))) (yI Y (μ)) 4 [some (.ref (ad Y 3)), some (.int (nI b)), some (.int (nI k))] [] := by
    intro r
    induction r with
    | zero =>
      intro k b hk hb hi
      refine v_iload_n hB dSe_nearestWaiting_4 rfl ?_
      refine v_aload_n hB dSe_nearestWaiting_5 rfl ?_
      refine v_get hC (klSe hY.2) (F := FSe Y _) (by assumption) 6 dSe_nearestWaiting_6 kfSe_49 (by decide) rfl ?_
      refine v_icmp_ge hB 36 dSe_nearestWaiting_9 (by decide) (fun c => ?_) (fun c => ?_)
      · refine v_iload_n hB dSe_nearestWaiting_36 rfl ?_
        exact v_iret hC rfl dSe_nearestWaiting_37 ⟨_, rfl, rfl, b, by omega, rfl, fun i h => hi i (by omega)⟩
      · exact absurd (by rw [hg]; exact nI_le (by omega) (by omega)) c
    | succ r ih =>
      intro k b hk hb hi
      refine v_iload_n hB dSe_nearestWaiting_4 rfl ?_
      refine v_aload_n hB dSe_nearestWaiting_5 rfl ?_
      refine v_get hC (klSe hY.2) (F := FSe Y _) (by assumption) 6 dSe_nearestWaiting_6 kfSe_49 (by decide) rfl ?_
      refine v_icmp_ge hB 36 dSe_nearestWaiting_9 (by decide) (fun c => ?_) (fun c => ?_)
      · exact absurd c (by rw [hg]; exact (fun q => absurd ((nI_leI (by omega) (by omega)).mp q) (by omega)))
      refine v_aload_n hB dSe_nearestWaiting_12 rfl ?_
      refine v_get hC (klSe hY.2) (F := FSe Y _) (by assumption) 5 dSe_nearestWaiting_13 kfSe_26 (by decide) rfl ?_
      refine v_iload_n hB dSe_nearestWaiting_16 rfl ?_
      refine v_lald hC hsq k dSe_nearestWaiting_17 rfl (by omega) (by decide) ?_
      refine v_aload_n hB dSe_nearestWaiting_18 rfl ?_
      refine v_get hC (klSe hY.2) (F := FSe Y _) (by assumption) 5 dSe_nearestWaiting_19 kfSe_26 (by decide) rfl ?_
      refine v_iload_n hB dSe_nearestWaiting_22 rfl ?_
      refine v_lald hC hsq b dSe_nearestWaiting_23 rfl (by omega) (by decide) ?_
      refine v_lcmp hB dSe_nearestWaiting_24 ?_
      refine v_if_ge hB 30 dSe_nearestWaiting_25 (by decide) (fun c1 => ?_) (fun c1 => ?_)
      · refine v_iinc hB dSe_nearestWaiting_30 rfl (y := _) rfl rfl (by decide) (lv' := [_, _, _]) rfl ?_
        refine v_goto hB 4 dSe_nearestWaiting_33 (by decide) ?_
        have hi2 : ∀ i, i < k + 1 → ¬ μ.2 17 i < μ.2 17 b := by
          intro i h
          rcases Nat.lt_or_ge i k with z | z
          · exact hi i z
          · obtain rfl : i = k := by omega
            exact fun q => absurd (lc_lt.mpr q) (Int32.not_lt.mpr c1)
        rw [i1]
        exact ih (k + 1) b (by omega) (by omega) hi2
      · refine v_iload_n hB dSe_nearestWaiting_28 rfl ?_
        refine v_istore_n hB dSe_nearestWaiting_29 rfl (by decide) (lv' := [_, _, _]) rfl ?_
        refine v_iinc hB dSe_nearestWaiting_30 rfl (y := _) rfl rfl (by decide) (lv' := [_, _, _]) rfl ?_
        refine v_goto hB 4 dSe_nearestWaiting_33 (by decide) ?_
        have hlt := lc_lt.mp (Int32.not_le.mp c1)
        have hi2 : ∀ i, i < k + 1 → ¬ μ.2 17 i < μ.2 17 k := by
          intro i h
          rcases Nat.lt_or_ge i k with z | z
          · exact fun q => hi i z (Int64.lt_trans q hlt)
          · obtain rfl : i = k := by omega
            exact Int64.lt_irrefl
        rw [i1]
        exact ih (k + 1) k (by omega) (by omega) hi2
  refine v_iconst hB dSe_nearestWaiting_0 (v := 0) (by decide) ?_
  refine v_istore_n hB dSe_nearestWaiting_1 rfl (by decide) (lv' := [_, _, _]) rfl ?_
  refine v_iconst hB dSe_nearestWaiting_2 (v := 1) (by decide) ?_
  refine v_istore_n hB dSe_nearestWaiting_3 rfl (by decide) (lv' := [_, _, _]) rfl ?_
  have hi2 : ∀ i, i < 1 → ¬ μ.2 17 i < μ.2 17 0 := by
    intro i h
    obtain rfl : i = 0 := by omega
    exact Int64.lt_irrefl
  exact loop (g - 1) 1 0 (by omega) (by omega) hi2

set_option maxHeartbeats 4000000 in
set_option maxRecDepth 100000 in
theorem cSe_keepInOrder {l : Launch} {Y : Yt} (hY : YB Y) (hW : YW Y) {e h : Nat} (he : isBo Y e) (μ : Mu) (hh : μ.1 3 1 = nI h) (hh40 : h < 40) : Ct l Y ySe_keepInOrder wSe_keepInOrder ({ frames := 1, cells := 0, slots := 0, locals := 21 }) [.ref (ad Y 3), .ref (ad Y e)] μ (PE none (koM μ e h)) := by
  refine ct_of hY.1 (by decide) rfl (Nat.le_of_ble_eq_true rfl) (lv := [some (.ref (ad Y 3)), some (.ref (ad Y e)), none]) rfl (fun X hC => ?_)
  have hB := hC.B
  obtain ⟨hFa, hDi, hTr, hSe, h4, h5, h6b, h7, h8, hpages, htrail, hturns, hplaces, hlog, hlp, hfound, hwait, hsq, hlk, hPg, hrow, hlrow, hfb⟩ := id hW
  have last : ∀ (p : Nat) (ν : Mu), p < 40 → (bec ν (fdI p) e).1 3 1 = nI h → bec ν (fdI p) e = koL e h μ → VG X (yA Y) 3 0 0 (VQ X Y (PE none (koM μ e h))) (yI Y (ν)) 57 [some (.ref (ad Y 3)), some (.ref (ad Y e)), some (.int (nI p))] [] := by
    intro p ν hp h3 hf
    have hbp := hfb p hp
    refine v_aload_n hB dSe_keepInOrder_57 rfl ?_
    refine v_get hC (klSe hY.2) (F := FSe Y _) (by assumption) 0 dSe_keepInOrder_58 kfSe_11 (by decide) rfl ?_
    refine v_iload_n hB dSe_keepInOrder_61 rfl ?_
    refine v_aald hC hfound p dSe_keepInOrder_62 rfl (by omega) (by decide) ?_
    refine v_aload_n hB dSe_keepInOrder_63 rfl ?_
    refine v_callV hC tbok kmSe_116 kiBo_become ksBo_become dSe_keepInOrder_64 (F := FBo Y _) (by assumption) (by rw [hY.2]; rfl) (cBo_become hY hbp he ν) rfl rfl ⟨Nat.le_of_ble_eq_true rfl, Nat.le_of_ble_eq_true rfl⟩ rfl rfl (Nat.le_of_ble_eq_true rfl) ⟨Nat.zero_le _, Nat.zero_le _⟩ (kE rfl ?_)
    refine v_aload_n hB dSe_keepInOrder_67 rfl ?_
    refine v_dup hB dSe_keepInOrder_68 rfl ?_
    refine v_get hC (klSe hY.2) (F := FSe Y _) (by assumption) 1 dSe_keepInOrder_69 kfSe_36 (by decide) rfl ?_
    refine v_iconst hB dSe_keepInOrder_72 (v := 1) (by decide) ?_
    refine v_iadd hB dSe_keepInOrder_73 ?_
    rw [h3, nI_1, hf]
    refine v_puti hC (klSe hY.2) (F := FSe Y _) (by assumption) 1 dSe_keepInOrder_74 kfSe_36 (by decide) rfl rfl rfl (fun _ _ => rfl) (fun _ _ => Nat.le_of_ble_eq_true rfl) ?_
    exact v_vret hC rfl dSe_keepInOrder_77 ⟨rfl, rfl⟩
  have loop : ∀ (p : Nat) (ν : Mu), p < 40 → ν.1 3 1 = nI h → koL e p ν = koL e h μ → VG X (yA Y) 3 0 0 (VQ X Y (PE none (koM μ e h))) (yI Y (ν)) 15 [some (.ref (ad Y 3)), some (.ref (ad Y e)), some (.int (nI p))] [] := by
    intro p
    induction p with
    | zero =>
      intro ν hp h3 hf
      refine v_iload_n hB dSe_keepInOrder_15 rfl ?_
      refine v_if_le hB 57 dSe_keepInOrder_16 (by decide) (fun c => ?_) (fun c => ?_)
      · exact last 0 ν hp (by rw [bec_ne ν e (fd_3 0)]; exact h3) hf
      · exact absurd (by decide) c
    | succ p ih =>
      intro ν hp h3 hf
      have hbp := hfb p (by omega)
      have hbp1 := hfb (p + 1) hp
      refine v_iload_n hB dSe_keepInOrder_15 rfl ?_
      refine v_if_le hB 57 dSe_keepInOrder_16 (by decide) (fun c => ?_) (fun c => ?_)
      · exact absurd c (nI_nle (by omega) (by omega))
      refine v_aload_n hB dSe_keepInOrder_19 rfl ?_
      refine v_aload_n hB dSe_keepInOrder_20 rfl ?_
      refine v_get hC (klSe hY.2) (F := FSe Y _) (by assumption) 0 dSe_keepInOrder_21 kfSe_11 (by decide) rfl ?_
      refine v_iload_n hB dSe_keepInOrder_24 rfl ?_
      refine v_iconst hB dSe_keepInOrder_25 (v := 1) (by decide) ?_
      refine v_isub hB dSe_keepInOrder_26 ?_
      refine v_aald hC hfound p dSe_keepInOrder_27 (nI_pred p) (by omega) (by decide) ?_
      refine v_callV hC tbok kmSe_113 kiBo_precedes ksBo_precedes dSe_keepInOrder_28 (F := FBo Y _) (by assumption) (by rw [hY.2]; rfl) (cBo_precedes hY he hbp ν) rfl rfl ⟨Nat.le_of_ble_eq_true rfl, Nat.le_of_ble_eq_true rfl⟩ rfl rfl (Nat.le_of_ble_eq_true rfl) ⟨Nat.zero_le _, Nat.zero_le _⟩ (kE rfl ?_)
      refine v_if_eq hB 57 dSe_keepInOrder_31 (by decide) (fun c1 => ?_) (fun c1 => ?_)
      · exact last (p + 1) ν hp (by rw [bec_ne ν e (fd_3 (p + 1))]; exact h3) (by rw [← hf, koL, if_neg (by rw [bI_0.mp c1]; decide)])
      refine v_aload_n hB dSe_keepInOrder_34 rfl ?_
      refine v_get hC (klSe hY.2) (F := FSe Y _) (by assumption) 0 dSe_keepInOrder_35 kfSe_11 (by decide) rfl ?_
      refine v_iload_n hB dSe_keepInOrder_38 rfl ?_
      refine v_aald hC hfound (p + 1) dSe_keepInOrder_39 rfl (by omega) (by decide) ?_
      refine v_aload_n hB dSe_keepInOrder_40 rfl ?_
      refine v_get hC (klSe hY.2) (F := FSe Y _) (by assumption) 0 dSe_keepInOrder_41 kfSe_11 (by decide) rfl ?_
      refine v_iload_n hB dSe_keepInOrder_44 rfl ?_
      refine v_iconst hB dSe_keepInOrder_45 (v := 1) (by decide) ?_
      refine v_isub hB dSe_keepInOrder_46 ?_
      refine v_aald hC hfound p dSe_keepInOrder_47 (nI_pred p) (by omega) (by decide) ?_
      refine v_callV hC tbok kmSe_116 kiBo_become ksBo_become dSe_keepInOrder_48 (F := FBo Y _) (by assumption) (by rw [hY.2]; rfl) (cBo_become hY hbp1 hbp ν) rfl rfl ⟨Nat.le_of_ble_eq_true rfl, Nat.le_of_ble_eq_true rfl⟩ rfl rfl (Nat.le_of_ble_eq_true rfl) ⟨Nat.zero_le _, Nat.zero_le _⟩ (kE rfl ?_)
      refine v_iinc hB dSe_keepInOrder_51 rfl (y := _) rfl rfl (by decide) (lv' := [_, _, _]) rfl ?_
      refine v_goto hB 15 dSe_keepInOrder_54 (by decide) ?_
      rw [im1, nI_pred]
      exact ih _ (by omega) (by rw [bec_ne ν _ (fd_3 (p + 1))]; exact h3) (by rw [← hf, koL, if_pos (bI_n.mp c1)])
  refine v_aload_n hB dSe_keepInOrder_0 rfl ?_
  refine v_get hC (klSe hY.2) (F := FSe Y _) (by assumption) 1 dSe_keepInOrder_1 kfSe_36 (by decide) rfl ?_
  refine v_bipush hB dSe_keepInOrder_4 (v := 40) (by decide) ?_
  refine v_icmp_lt hB 10 dSe_keepInOrder_6 (by decide) (fun c => ?_) (fun c => ?_)
  rotate_left
  · exact absurd (by rw [hh, show (40 : Int32) = nI 40 from rfl]; exact nI_lt hh40 (by decide)) c
  refine v_aload_n hB dSe_keepInOrder_10 rfl ?_
  refine v_get hC (klSe hY.2) (F := FSe Y _) (by assumption) 1 dSe_keepInOrder_11 kfSe_36 (by decide) rfl ?_
  rw [hh]
  refine v_istore_n hB dSe_keepInOrder_14 rfl (by decide) (lv' := [_, _, _]) rfl ?_
  exact loop h μ hh40 hh rfl

set_option maxHeartbeats 4000000 in
set_option maxRecDepth 100000 in
theorem cSe_keepCloser {l : Launch} {Y : Yt} (hY : YB Y) (hW : YW Y) {e : Nat} (he : isBo Y e) (sq : Int64) (μ : Mu) : Ct l Y ySe_keepCloser wSe_keepCloser ({ frames := 1, cells := 0, slots := 0, locals := 21 }) [.ref (ad Y 3), .ref (ad Y e), .long sq] μ (PE none (kcM μ e sq)) := by
  refine ct_of hY.1 (by decide) rfl (Nat.le_of_ble_eq_true rfl) (lv := [some (.ref (ad Y 3)), some (.ref (ad Y e)), some (.long sq), none]) rfl (fun X hC => ?_)
  have hB := hC.B
  obtain ⟨hFa, hDi, hTr, hSe, h4, h5, h6b, h7, h8, hpages, htrail, hturns, hplaces, hlog, hlp, hfound, hwait, hsq, hlk, hPg, hrow, hlrow, hfb⟩ := id hW
  have yes : (sq < μ.2 3 3 ∨ (sq = μ.2 3 3 ∧ precB (μ.1 e) (μ.1 7) = true)) → VG X (yA Y) 4 0 0 (VQ X Y (PE none (kcM μ e sq))) (yI Y (μ)) 29 [some (.ref (ad Y 3)), some (.ref (ad Y e)), some (.long sq), none] [] := by
    intro hc
    refine v_aload_n hB dSe_keepCloser_29 rfl ?_
    refine v_get hC (klSe hY.2) (F := FSe Y _) (by assumption) 2 dSe_keepCloser_30 kfSe_18 (by decide) rfl ?_
    refine v_aload_n hB dSe_keepCloser_33 rfl ?_
    refine v_callV hC tbok kmSe_116 kiBo_become ksBo_become dSe_keepCloser_34 (F := FBo Y _) (by assumption) (by rw [hY.2]; rfl) (cBo_become hY h7 he μ) rfl rfl ⟨Nat.le_of_ble_eq_true rfl, Nat.le_of_ble_eq_true rfl⟩ rfl rfl (Nat.le_of_ble_eq_true rfl) ⟨Nat.zero_le _, Nat.zero_le _⟩ (kE rfl ?_)
    refine v_aload_n hB dSe_keepCloser_37 rfl ?_
    refine v_lload_n hB dSe_keepCloser_38 rfl ?_
    refine v_putl hC (klSe hY.2) (F := FSe Y _) (by assumption) 3 dSe_keepCloser_39 kfSe_84 (by decide) rfl rfl rfl (fun _ _ => rfl) (fun _ _ => Nat.le_of_ble_eq_true rfl) ?_
    exact v_vret hC rfl dSe_keepCloser_42 ⟨rfl, by rw [kcM, if_pos hc]⟩
  have no : ¬ (sq < μ.2 3 3 ∨ (sq = μ.2 3 3 ∧ precB (μ.1 e) (μ.1 7) = true)) → VG X (yA Y) 4 0 0 (VQ X Y (PE none (kcM μ e sq))) (yI Y (μ)) 42 [some (.ref (ad Y 3)), some (.ref (ad Y e)), some (.long sq), none] [] := by
    intro hc
    exact v_vret hC rfl dSe_keepCloser_42 ⟨rfl, by rw [kcM, if_neg hc]⟩
  refine v_lload_n hB dSe_keepCloser_0 rfl ?_
  refine v_aload_n hB dSe_keepCloser_1 rfl ?_
  refine v_get hC (klSe hY.2) (F := FSe Y _) (by assumption) 3 dSe_keepCloser_2 kfSe_84 (by decide) rfl ?_
  refine v_lcmp hB dSe_keepCloser_5 ?_
  refine v_if_lt hB 29 dSe_keepCloser_6 (by decide) (fun c => ?_) (fun c => ?_)
  · exact yes (Or.inl (lc_lt.mp c))
  refine v_lload_n hB dSe_keepCloser_9 rfl ?_
  refine v_aload_n hB dSe_keepCloser_10 rfl ?_
  refine v_get hC (klSe hY.2) (F := FSe Y _) (by assumption) 3 dSe_keepCloser_11 kfSe_84 (by decide) rfl ?_
  refine v_lcmp hB dSe_keepCloser_14 ?_
  refine v_if_ne hB 42 dSe_keepCloser_15 (by decide) (fun c1 => ?_) (fun c1 => ?_)
  · exact no (fun z => z.elim (fun q => c (lc_lt.mpr q)) (fun q => c1 (lc_eq.mpr q.1)))
  refine v_aload_n hB dSe_keepCloser_18 rfl ?_
  refine v_aload_n hB dSe_keepCloser_19 rfl ?_
  refine v_get hC (klSe hY.2) (F := FSe Y _) (by assumption) 2 dSe_keepCloser_20 kfSe_18 (by decide) rfl ?_
  refine v_callV hC tbok kmSe_113 kiBo_precedes ksBo_precedes dSe_keepCloser_23 (F := FBo Y _) (by assumption) (by rw [hY.2]; rfl) (cBo_precedes hY he h7 μ) rfl rfl ⟨Nat.le_of_ble_eq_true rfl, Nat.le_of_ble_eq_true rfl⟩ rfl rfl (Nat.le_of_ble_eq_true rfl) ⟨Nat.zero_le _, Nat.zero_le _⟩ (kE rfl ?_)
  refine v_if_eq hB 42 dSe_keepCloser_26 (by decide) (fun c2 => ?_) (fun c2 => ?_)
  · exact no (fun z => z.elim (fun q => c (lc_lt.mpr q)) (fun q => by rw [bI_0.mp c2] at q; exact absurd q.2 (by decide)))
  exact yes (Or.inr ⟨lc_eq.mp c1, bI_n.mp c2⟩)

set_option maxHeartbeats 4000000 in
set_option maxRecDepth 100000 in
theorem cSe_gather {l : Launch} {Y : Yt} (hY : YB Y) (hW : YW Y) {w : Nat} (hw : isBo Y w) {μ : Mu} {K : Mu → Prop} (h : gaW μ w K) : Ct l Y ySe_gather wSe_gather ({ frames := 2, cells := 0, slots := 0, locals := 44 }) [.ref (ad Y 3), .ref (ad Y 2), .ref (ad Y w)] μ (PV K) := by
  refine ct_of hY.1 (by decide) rfl (Nat.le_of_ble_eq_true rfl) (lv := [some (.ref (ad Y 3)), some (.ref (ad Y 2)), some (.ref (ad Y w)), none, none, none, none]) rfl (fun X hC => ?_)
  have hB := hC.B
  obtain ⟨hFa, hDi, hTr, hSe, h4, h5, h6b, h7, h8, hpages, htrail, hturns, hplaces, hlog, hlp, hfound, hwait, hsq, hlk, hPg, hrow, hlrow, hfb⟩ := id hW
  have loop : ∀ (r i : Nat) (ν : Mu), i + r = 40 → gaL w K r ν → VG X (yA Y) 7 0 0 (VQ X Y (PV K)) (yI Y (ν)) 15 [some (.ref (ad Y 3)), some (.ref (ad Y 2)), some (.ref (ad Y w)), some (.int (nI i)), none, none, none] [] := by
    intro r
    induction r with
    | zero =>
      intro i ν hi hf
      refine v_iload_n hB dSe_gather_15 rfl ?_
      refine v_bipush hB dSe_gather_16 (v := 40) (by decide) ?_
      refine v_icmp_ge hB 116 dSe_gather_18 (by decide) (fun c => ?_) (fun c => ?_)
      · exact v_vret hC rfl dSe_gather_116 ⟨rfl, hf⟩
      · exact absurd (by rw [show (40 : Int32) = nI 40 from rfl]; exact nI_le (by omega) (by omega)) c
    | succ r ih =>
      rintro i ν hi ⟨g, hg40, hg, hx⟩
      refine v_iload_n hB dSe_gather_15 rfl ?_
      refine v_bipush hB dSe_gather_16 (v := 40) (by decide) ?_
      refine v_icmp_ge hB 116 dSe_gather_18 (by decide) (fun c => ?_) (fun c => ?_)
      · exact absurd c (by rw [show (40 : Int32) = nI 40 from rfl]; exact (fun q => absurd ((nI_leI (by omega) (by omega)).mp q) (by omega)))
      refine v_aload_n hB dSe_gather_21 rfl ?_
      refine v_get hC (klSe hY.2) (F := FSe Y _) (by assumption) 6 dSe_gather_22 kfSe_49 (by decide) rfl ?_
      rw [hg]
      refine v_if_le hB 116 dSe_gather_25 (by decide) (fun c1 => ?_) (fun c1 => ?_)
      · rw [if_neg (fun z => nI_nle z (by omega) c1)] at hx
        exact v_vret hC rfl dSe_gather_116 ⟨rfl, hx⟩
      have hg0 : 0 < g := by
        rcases Nat.eq_zero_or_pos g with z | z
        · rw [z] at c1
          exact absurd (by decide) c1
        · exact z
      rw [if_pos hg0] at hx
      obtain ⟨kk, q, hkk, hq, hlk2, hwq, hx⟩ := hx
      obtain ⟨-, hqa, hqar, hqbx⟩ := hPg q hq
      obtain ⟨g, rfl⟩ : ∃ g', g = g' + 1 := ⟨g - 1, by omega⟩
      rw [Nat.add_sub_cancel] at hx hwq
      refine v_aload_n hB dSe_gather_28 rfl ?_
      refine v_aload_n hB dSe_gather_29 rfl ?_
      refine v_aload_n hB dSe_gather_30 rfl ?_
      refine v_get hC (klSe hY.2) (F := FSe Y _) (by assumption) 6 dSe_gather_31 kfSe_49 (by decide) rfl ?_
      refine v_iconst hB dSe_gather_34 (v := 1) (by decide) ?_
      refine v_isub hB dSe_gather_35 ?_
      rw [hg, nI_pred]
      refine v_callV hC tbok kmSe_52 kiSe_lookInto ksSe_lookInto dSe_gather_36 (F := FSe Y _) (by assumption) (by rw [hY.2]; rfl) (cSe_lookInto hY hW ν hg (by omega) (Nat.le_refl g) hlk2 hkk hq hwq) rfl rfl ⟨Nat.le_of_ble_eq_true rfl, Nat.le_of_ble_eq_true rfl⟩ rfl rfl (Nat.le_of_ble_eq_true rfl) ⟨Nat.zero_le _, Nat.zero_le _⟩ (kE rfl ?_)
      refine v_astore hB dSe_gather_39 rfl (by decide) (lv' := [_, _, _, _, _, _, _]) rfl ?_
      refine v_iconst hB dSe_gather_41 (v := 0) (by decide) ?_
      refine v_istore hB dSe_gather_42 rfl (by decide) (lv' := [_, _, _, _, _, _, _]) rfl ?_
      have slots : ∀ (s k : Nat) (ν : Mu), k + s ≤ 7 → gsL q w (fun ν => gaL w K r ν) s k ν → VG X (yA Y) 7 0 0 (VQ X Y (PV K)) (yI Y (ν)) 44 [some (.ref (ad Y 3)), some (.ref (ad Y 2)), some (.ref (ad Y w)), some (.int (nI i)), some (.ref (ad Y (pgI q))), some (.int (nI k)), none] [] := by
        intro s
        induction s with
        | zero =>
          intro k ν hk7 h
          exact h.elim
        | succ s ihs =>
          rintro k ν hk7 ⟨u, v, hu6, hv30, hu, hv, hy⟩
          refine v_iload hB dSe_gather_44 rfl ?_
          refine v_aload hB dSe_gather_46 rfl ?_
          refine v_get hC (klPa hY.2) (F := FPa Y _) (by assumption) 1 dSe_gather_48 kfSe_56 (by decide) rfl ?_
          rw [hu]
          by_cases hku : k < u
          · rw [if_pos hku] at hy
            have hbk := hqbx k (by omega)
            refine v_icmp_ge hB 110 dSe_gather_51 (by decide) (fun d1 => ?_) (fun d1 => ?_)
            · exact absurd d1 (fun q => absurd ((nI_leI (by omega) (by omega)).mp q) (by omega))
            have next : ∀ ν2, gsL q w (fun ν => gaL w K r ν) s (k + 1) ν2 → VG X (yA Y) 7 0 0 (VQ X Y (PV K)) (yI Y (ν2)) 104 [some (.ref (ad Y 3)), some (.ref (ad Y 2)), some (.ref (ad Y w)), some (.int (nI i)), some (.ref (ad Y (pgI q))), some (.int (nI k)), some (.ref (ad Y (bxI q k)))] [] := by
              intro ν2 h2
              refine v_iinc hB dSe_gather_104 rfl (y := _) rfl rfl (by decide) (lv' := [_, _, _, _, _, _, _]) rfl ?_
              refine v_goto hB 44 dSe_gather_107 (by decide) ?_
              refine v_drop 6 (lv' := [_, _, _, _, _, _, _]) rfl ?_
              rw [i1]
              exact ihs (k + 1) ν2 (by omega) h2
            refine v_aload hB dSe_gather_54 rfl ?_
            refine v_get hC (klPa hY.2) (F := FPa Y _) (by assumption) 3 dSe_gather_56 kfSe_61 (by decide) rfl ?_
            refine v_iload hB dSe_gather_59 rfl ?_
            refine v_aald hC hqar k dSe_gather_61 rfl (by omega) (by decide) ?_
            refine v_astore hB dSe_gather_62 rfl (by decide) (lv' := [_, _, _, _, _, _, _]) rfl ?_
            refine v_aload hB dSe_gather_64 rfl ?_
            refine v_aload_n hB dSe_gather_66 rfl ?_
            refine v_callV hC tbok kmSe_64 kiBo_meets ksBo_meets dSe_gather_67 (F := FBo Y _) (by assumption) (by rw [hY.2]; rfl) (cBo_meets hY hbk hw ν) rfl rfl ⟨Nat.le_of_ble_eq_true rfl, Nat.le_of_ble_eq_true rfl⟩ rfl rfl (Nat.le_of_ble_eq_true rfl) ⟨Nat.zero_le _, Nat.zero_le _⟩ (kE rfl ?_)
            refine v_if_ne hB 76 dSe_gather_70 (by decide) (fun d2 => ?_) (fun d2 => ?_)
            rotate_left
            · rw [if_neg (by rw [bI_0.mp d2]; decide)] at hy
              refine v_goto hB 104 dSe_gather_73 (by decide) ?_
              exact next ν hy
            rw [if_pos (bI_n.mp d2)] at hy
            refine v_aload hB dSe_gather_76 rfl ?_
            refine v_get hC (klPa hY.2) (F := FPa Y _) (by assumption) 0 dSe_gather_78 kfSe_68 (by decide) rfl ?_
            rw [hv]
            refine v_iconst hB dSe_gather_81 (v := 1) (by decide) ?_
            refine v_icmp_ne hB 94 dSe_gather_82 (by decide) (fun d3 => ?_) (fun d3 => ?_)
            · rw [if_neg (fun z => d3 (by rw [z]; rfl))] at hy
              obtain ⟨g, hg, hgq, hy⟩ := hy
              refine v_aload_n hB dSe_gather_94 rfl ?_
              refine v_aload hB dSe_gather_95 rfl ?_
              refine v_get hC (klBo hY.2) (F := FBo Y _) (by assumption) 4 dSe_gather_97 kfSe_75 (by decide) rfl ?_
              refine v_lconst hB dSe_gather_100 (v := 0) (by decide) ?_
              refine v_callV hC tbok kmSe_78 kiSe_await ksSe_await dSe_gather_101 (F := FSe Y _) (by assumption) (by rw [hY.2]; rfl) (cSe_await hY hW _ 0 ν hgq hg) rfl rfl ⟨Nat.le_of_ble_eq_true rfl, Nat.le_of_ble_eq_true rfl⟩ rfl rfl (Nat.le_of_ble_eq_true rfl) ⟨Nat.zero_le _, Nat.zero_le _⟩ (kE rfl ?_)
              exact next _ hy
            have hv1 : v = 1 := (nI_eq (by omega) (by omega)).mp d3
            rw [if_pos hv1] at hy
            obtain ⟨hh, hh40, hhq, hy⟩ := hy
            refine v_aload_n hB dSe_gather_85 rfl ?_
            refine v_aload hB dSe_gather_86 rfl ?_
            refine v_callV hC tbok kmSe_71 kiSe_keepInOrder ksSe_keepInOrder dSe_gather_88 (F := FSe Y _) (by assumption) (by rw [hY.2]; rfl) (cSe_keepInOrder hY hW hbk ν hhq hh40) rfl rfl ⟨Nat.le_of_ble_eq_true rfl, Nat.le_of_ble_eq_true rfl⟩ rfl rfl (Nat.le_of_ble_eq_true rfl) ⟨Nat.zero_le _, Nat.zero_le _⟩ (kE rfl ?_)
            refine v_goto hB 104 dSe_gather_91 (by decide) ?_
            exact next _ hy
          · rw [if_neg hku] at hy
            refine v_icmp_ge hB 110 dSe_gather_51 (by decide) (fun d1 => ?_) (fun d1 => ?_)
            · refine v_iinc hB dSe_gather_110 rfl (y := _) rfl rfl (by decide) (lv' := [_, _, _, _, _, _, _]) rfl ?_
              refine v_goto hB 15 dSe_gather_113 (by decide) ?_
              refine v_drop 4 (lv' := [_, _, _, _, _, _, _]) rfl ?_
              refine v_drop 5 (lv' := [_, _, _, _, _, _, _]) rfl ?_
              rw [i1]
              exact ih (i + 1) ν (by omega) hy
            · exact absurd (nI_le (by omega) (by omega)) d1
      exact slots 7 0 _ (by decide) hx
  refine v_aload_n hB dSe_gather_0 rfl ?_
  refine v_iconst hB dSe_gather_1 (v := 0) (by decide) ?_
  refine v_puti hC (klSe hY.2) (F := FSe Y _) (by assumption) 1 dSe_gather_2 kfSe_36 (by decide) rfl rfl rfl (fun _ _ => rfl) (fun _ _ => Nat.le_of_ble_eq_true rfl) ?_
  refine v_aload_n hB dSe_gather_5 rfl ?_
  refine v_aload_n hB dSe_gather_6 rfl ?_
  refine v_get hC (klTr hY.2) (F := FTr Y _) (by assumption) 0 dSe_gather_7 kfSe_40 (by decide) rfl ?_
  refine v_callV hC tbok kmSe_45 kiSe_begin ksSe_begin dSe_gather_10 (F := FSe Y _) (by assumption) (by rw [hY.2]; rfl) (cSe_begin hY hW _ _) rfl rfl ⟨Nat.le_of_ble_eq_true rfl, Nat.le_of_ble_eq_true rfl⟩ rfl rfl (Nat.le_of_ble_eq_true rfl) ⟨Nat.zero_le _, Nat.zero_le _⟩ (kE rfl ?_)
  refine v_iconst hB dSe_gather_13 (v := 0) (by decide) ?_
  refine v_istore_n hB dSe_gather_14 rfl (by decide) (lv' := [_, _, _, _, _, _, _]) rfl ?_
  exact loop 40 0 _ (by decide) h

set_option maxHeartbeats 4000000 in
set_option maxRecDepth 100000 in
theorem cSe_approach {l : Launch} {Y : Yt} (hY : YB Y) (hW : YW Y) (x y : Int32) {μ : Mu} {K : Mu → Prop} (h : apW μ x y K) : Ct l Y ySe_approach wSe_approach ({ frames := 2, cells := 0, slots := 0, locals := 44 }) [.ref (ad Y 3), .ref (ad Y 2), .int x, .int y] μ (PV K) := by
  refine ct_of hY.1 (by decide) rfl (Nat.le_of_ble_eq_true rfl) (lv := [some (.ref (ad Y 3)), some (.ref (ad Y 2)), some (.int x), some (.int y), none, none, none, none, none, none, none]) rfl (fun X hC => ?_)
  have hB := hC.B
  obtain ⟨hFa, hDi, hTr, hSe, h4, h5, h6b, h7, h8, hpages, htrail, hturns, hplaces, hlog, hlp, hfound, hwait, hsq, hlk, hPg, hrow, hlrow, hfb⟩ := id hW
  have loop : ∀ (r i : Nat) (ν : Mu), i + r = 40 → apL x y K r ν → VG X (yA Y) 11 0 0 (VQ X Y (PV K)) (yI Y (ν)) 18 [some (.ref (ad Y 3)), some (.ref (ad Y 2)), some (.int x), some (.int y), some (.int (nI i)), none, none, none, none, none, none] [] := by
    intro r
    induction r with
    | zero =>
      intro i ν hi hf
      refine v_iload hB dSe_approach_18 rfl ?_
      refine v_bipush hB dSe_approach_20 (v := 40) (by decide) ?_
      refine v_icmp_ge hB 138 dSe_approach_22 (by decide) (fun c => ?_) (fun c => ?_)
      · exact v_vret hC rfl dSe_approach_138 ⟨rfl, hf⟩
      · exact absurd (by rw [show (40 : Int32) = nI 40 from rfl]; exact nI_le (by omega) (by omega)) c
    | succ r ih =>
      rintro i ν hi ⟨g, hg40, hg, hx⟩
      refine v_iload hB dSe_approach_18 rfl ?_
      refine v_bipush hB dSe_approach_20 (v := 40) (by decide) ?_
      refine v_icmp_ge hB 138 dSe_approach_22 (by decide) (fun c => ?_) (fun c => ?_)
      · exact absurd c (by rw [show (40 : Int32) = nI 40 from rfl]; exact (fun q => absurd ((nI_leI (by omega) (by omega)).mp q) (by omega)))
      refine v_aload_n hB dSe_approach_25 rfl ?_
      refine v_get hC (klSe hY.2) (F := FSe Y _) (by assumption) 6 dSe_approach_26 kfSe_49 (by decide) rfl ?_
      rw [hg]
      refine v_if_le hB 138 dSe_approach_29 (by decide) (fun c1 => ?_) (fun c1 => ?_)
      · rw [if_neg (fun z => nI_nle z (by omega) c1)] at hx
        exact v_vret hC rfl dSe_approach_138 ⟨rfl, hx⟩
      have hg0 : 0 < g := by
        rcases Nat.eq_zero_or_pos g with z | z
        · rw [z] at c1
          exact absurd (by decide) c1
        · exact z
      rw [if_pos hg0] at hx
      refine v_aload_n hB dSe_approach_32 rfl ?_
      refine v_callV hC tbok kmSe_88 kiSe_nearestWaiting ksSe_nearestWaiting dSe_approach_33 (F := FSe Y _) (by assumption) (by rw [hY.2]; rfl) (cSe_nearestWaiting hY hW ν hg hg0 hg40) rfl rfl ⟨Nat.le_of_ble_eq_true rfl, Nat.le_of_ble_eq_true rfl⟩ rfl rfl (Nat.le_of_ble_eq_true rfl) ⟨Nat.zero_le _, Nat.zero_le _⟩ (kI fun bx ν1 h1 => ?_)
      obtain ⟨rfl, b, hb, rfl, hmin⟩ := h1
      have hx := hx b hb hmin
      refine v_istore hB dSe_approach_36 rfl (by decide) (lv' := [_, _, _, _, _, _, _, _, _, _, _]) rfl ?_
      refine v_aload_n hB dSe_approach_38 rfl ?_
      refine v_get hC (klSe hY.2) (F := FSe Y _) (by assumption) 5 dSe_approach_39 kfSe_26 (by decide) rfl ?_
      refine v_iload hB dSe_approach_42 rfl ?_
      refine v_lald hC hsq b dSe_approach_44 rfl (by omega) (by decide) ?_
      refine v_aload_n hB dSe_approach_45 rfl ?_
      refine v_get hC (klSe hY.2) (F := FSe Y _) (by assumption) 3 dSe_approach_46 kfSe_84 (by decide) rfl ?_
      refine v_lcmp hB dSe_approach_49 ?_
      refine v_if_le hB 54 dSe_approach_50 (by decide) (fun c2 => ?_) (fun c2 => ?_)
      rotate_left
      · rw [if_pos (Classical.byContradiction fun z => c2 (lc_le.mpr z))] at hx
        exact v_vret hC rfl dSe_approach_53 ⟨rfl, hx⟩
      rw [if_neg (lc_le.mp c2)] at hx
      obtain ⟨kk, q, hkk, hq, hlk2, hwq, hx⟩ := hx
      obtain ⟨-, hqa, hqar, hqbx⟩ := hPg q hq
      obtain ⟨g, rfl⟩ : ∃ g', g = g' + 1 := ⟨g - 1, by omega⟩
      rw [Nat.add_sub_cancel] at hx
      refine v_aload_n hB dSe_approach_54 rfl ?_
      refine v_aload_n hB dSe_approach_55 rfl ?_
      refine v_iload hB dSe_approach_56 rfl ?_
      refine v_callV hC tbok kmSe_52 kiSe_lookInto ksSe_lookInto dSe_approach_58 (F := FSe Y _) (by assumption) (by rw [hY.2]; rfl) (cSe_lookInto hY hW _ hg (by omega) (by omega) hlk2 hkk hq hwq) rfl rfl ⟨Nat.le_of_ble_eq_true rfl, Nat.le_of_ble_eq_true rfl⟩ rfl rfl (Nat.le_of_ble_eq_true rfl) ⟨Nat.zero_le _, Nat.zero_le _⟩ (kE rfl ?_)
      refine v_astore hB dSe_approach_61 rfl (by decide) (lv' := [_, _, _, _, _, _, _, _, _, _, _]) rfl ?_
      refine v_iconst hB dSe_approach_63 (v := 0) (by decide) ?_
      refine v_istore hB dSe_approach_64 rfl (by decide) (lv' := [_, _, _, _, _, _, _, _, _, _, _]) rfl ?_
      have slots : ∀ (s k : Nat) (ν : Mu), k + s ≤ 7 → asL q x y (fun ν => apL x y K r ν) s k ν → VG X (yA Y) 11 0 0 (VQ X Y (PV K)) (yI Y (ν)) 66 [some (.ref (ad Y 3)), some (.ref (ad Y 2)), some (.int x), some (.int y), some (.int (nI i)), some (.int (nI b)), some (.ref (ad Y (pgI q))), some (.int (nI k)), none, none, none] [] := by
        intro s
        induction s with
        | zero =>
          intro k ν hk7 h
          exact h.elim
        | succ s ihs =>
          rintro k ν hk7 ⟨u, v, hu6, hv30, hu, hv, hy⟩
          refine v_iload hB dSe_approach_66 rfl ?_
          refine v_aload hB dSe_approach_68 rfl ?_
          refine v_get hC (klPa hY.2) (F := FPa Y _) (by assumption) 1 dSe_approach_70 kfSe_56 (by decide) rfl ?_
          rw [hu]
          by_cases hku : k < u
          · rw [if_pos hku] at hy
            have hbk := hqbx k (by omega)
            refine v_icmp_ge hB 132 dSe_approach_73 (by decide) (fun d1 => ?_) (fun d1 => ?_)
            · exact absurd d1 (fun q => absurd ((nI_leI (by omega) (by omega)).mp q) (by omega))
            have next : ∀ (z : Int64) (ν2 : Mu), asL q x y (fun ν => apL x y K r ν) s (k + 1) ν2 → VG X (yA Y) 11 0 0 (VQ X Y (PV K)) (yI Y (ν2)) 126 [some (.ref (ad Y 3)), some (.ref (ad Y 2)), some (.int x), some (.int y), some (.int (nI i)), some (.int (nI b)), some (.ref (ad Y (pgI q))), some (.int (nI k)), some (.ref (ad Y (bxI q k))), some (.long z), none] [] := by
              intro z ν2 h2
              refine v_iinc hB dSe_approach_126 rfl (y := _) rfl rfl (by decide) (lv' := [_, _, _, _, _, _, _, _, _, _, _]) rfl ?_
              refine v_goto hB 66 dSe_approach_129 (by decide) ?_
              refine v_drop 8 (lv' := [_, _, _, _, _, _, _, _, _, _, _]) rfl ?_
              refine v_drop 9 (lv' := [_, _, _, _, _, _, _, _, _, _, _]) rfl ?_
              rw [i1]
              exact ihs (k + 1) ν2 (by omega) h2
            refine v_aload hB dSe_approach_76 rfl ?_
            refine v_get hC (klPa hY.2) (F := FPa Y _) (by assumption) 3 dSe_approach_78 kfSe_61 (by decide) rfl ?_
            refine v_iload hB dSe_approach_81 rfl ?_
            refine v_aald hC hqar k dSe_approach_83 rfl (by omega) (by decide) ?_
            refine v_astore hB dSe_approach_84 rfl (by decide) (lv' := [_, _, _, _, _, _, _, _, _, _, _]) rfl ?_
            refine v_aload hB dSe_approach_86 rfl ?_
            refine v_iload_n hB dSe_approach_88 rfl ?_
            refine v_iload_n hB dSe_approach_89 rfl ?_
            refine v_callV hC tbok kmSe_92 kiBo_squareFrom ksBo_squareFrom dSe_approach_90 (F := FBo Y _) (by assumption) (by rw [hY.2]; rfl) (cBo_squareFrom hY hbk x y ν) rfl rfl ⟨Nat.le_of_ble_eq_true rfl, Nat.le_of_ble_eq_true rfl⟩ rfl rfl (Nat.le_of_ble_eq_true rfl) ⟨Nat.zero_le _, Nat.zero_le _⟩ (kE rfl ?_)
            refine v_lstore hB dSe_approach_93 rfl (by decide) (lv' := [_, _, _, _, _, _, _, _, _, _, _]) rfl ?_
            refine v_aload hB dSe_approach_95 rfl ?_
            refine v_get hC (klPa hY.2) (F := FPa Y _) (by assumption) 0 dSe_approach_97 kfSe_68 (by decide) rfl ?_
            rw [hv]
            refine v_iconst hB dSe_approach_100 (v := 1) (by decide) ?_
            refine v_icmp_ne hB 115 dSe_approach_101 (by decide) (fun d3 => ?_) (fun d3 => ?_)
            · rw [if_neg (fun z => d3 (by rw [z]; rfl))] at hy
              obtain ⟨g, hg, hgq, hy⟩ := hy
              refine v_aload_n hB dSe_approach_115 rfl ?_
              refine v_aload hB dSe_approach_116 rfl ?_
              refine v_get hC (klBo hY.2) (F := FBo Y _) (by assumption) 4 dSe_approach_118 kfSe_75 (by decide) rfl ?_
              refine v_lload hB dSe_approach_121 rfl ?_
              refine v_callV hC tbok kmSe_78 kiSe_await ksSe_await dSe_approach_123 (F := FSe Y _) (by assumption) (by rw [hY.2]; rfl) (cSe_await hY hW _ _ ν hgq hg) rfl rfl ⟨Nat.le_of_ble_eq_true rfl, Nat.le_of_ble_eq_true rfl⟩ rfl rfl (Nat.le_of_ble_eq_true rfl) ⟨Nat.zero_le _, Nat.zero_le _⟩ (kE rfl ?_)
              exact next _ _ hy
            have hv1 : v = 1 := (nI_eq (by omega) (by omega)).mp d3
            rw [if_pos hv1] at hy
            refine v_aload_n hB dSe_approach_104 rfl ?_
            refine v_aload hB dSe_approach_105 rfl ?_
            refine v_lload hB dSe_approach_107 rfl ?_
            refine v_callV hC tbok kmSe_96 kiSe_keepCloser ksSe_keepCloser dSe_approach_109 (F := FSe Y _) (by assumption) (by rw [hY.2]; rfl) (cSe_keepCloser hY hW hbk _ ν) rfl rfl ⟨Nat.le_of_ble_eq_true rfl, Nat.le_of_ble_eq_true rfl⟩ rfl rfl (Nat.le_of_ble_eq_true rfl) ⟨Nat.zero_le _, Nat.zero_le _⟩ (kE rfl ?_)
            refine v_goto hB 126 dSe_approach_112 (by decide) ?_
            exact next _ _ hy
          · rw [if_neg hku] at hy
            refine v_icmp_ge hB 132 dSe_approach_73 (by decide) (fun d1 => ?_) (fun d1 => ?_)
            · refine v_iinc hB dSe_approach_132 rfl (y := _) rfl rfl (by decide) (lv' := [_, _, _, _, _, _, _, _, _, _, _]) rfl ?_
              refine v_goto hB 18 dSe_approach_135 (by decide) ?_
              refine v_drop 5 (lv' := [_, _, _, _, _, _, _, _, _, _, _]) rfl ?_
              refine v_drop 6 (lv' := [_, _, _, _, _, _, _, _, _, _, _]) rfl ?_
              refine v_drop 7 (lv' := [_, _, _, _, _, _, _, _, _, _, _]) rfl ?_
              rw [i1]
              exact ih (i + 1) ν (by omega) hy
            · exact absurd (nI_le (by omega) (by omega)) d1
      exact slots 7 0 _ (by decide) hx
  refine v_aload_n hB dSe_approach_0 rfl ?_
  refine v_ldc2 hC (v := 9223372036854775807) kfSe_82 dSe_approach_1 ?_
  refine v_putl hC (klSe hY.2) (F := FSe Y _) (by assumption) 3 dSe_approach_4 kfSe_84 (by decide) rfl rfl rfl (fun _ _ => rfl) (fun _ _ => Nat.le_of_ble_eq_true rfl) ?_
  refine v_aload_n hB dSe_approach_7 rfl ?_
  refine v_aload_n hB dSe_approach_8 rfl ?_
  refine v_get hC (klTr hY.2) (F := FTr Y _) (by assumption) 0 dSe_approach_9 kfSe_40 (by decide) rfl ?_
  refine v_callV hC tbok kmSe_45 kiSe_begin ksSe_begin dSe_approach_12 (F := FSe Y _) (by assumption) (by rw [hY.2]; rfl) (cSe_begin hY hW _ _) rfl rfl ⟨Nat.le_of_ble_eq_true rfl, Nat.le_of_ble_eq_true rfl⟩ rfl rfl (Nat.le_of_ble_eq_true rfl) ⟨Nat.zero_le _, Nat.zero_le _⟩ (kE rfl ?_)
  refine v_iconst hB dSe_approach_15 (v := 0) (by decide) ?_
  refine v_istore hB dSe_approach_16 rfl (by decide) (lv' := [_, _, _, _, _, _, _, _, _, _, _]) rfl ?_
  exact loop 40 0 _ (by decide) h

set_option maxHeartbeats 4000000 in
set_option maxRecDepth 100000 in
theorem cSe_hitsInside {l : Launch} {Y : Yt} (hY : YB Y) (hW : YW Y) {w h : Nat} (hw : isBo Y w) (μ : Mu) (hh : μ.1 3 1 = nI h) (hh40 : h ≤ 40) : Ct l Y ySe_hitsInside wSe_hitsInside ({ frames := 1, cells := 0, slots := 0, locals := 21 }) [.ref (ad Y 3), .ref (ad Y w)] μ (PE (some (.int (nI (hiN μ w h)))) μ) := by
  refine ct_of hY.1 (by decide) rfl (Nat.le_of_ble_eq_true rfl) (lv := [some (.ref (ad Y 3)), some (.ref (ad Y w)), none, none]) rfl (fun X hC => ?_)
  have hB := hC.B
  obtain ⟨hFa, hDi, hTr, hSe, h4, h5, h6b, h7, h8, hpages, htrail, hturns, hplaces, hlog, hlp, hfound, hwait, hsq, hlk, hPg, hrow, hlrow, hfb⟩ := id hW
  have loop : ∀ (r k : Nat), k + r = h → VG X (yA Y) 4 0 0 (VQ X Y (PE (some (.int (nI (hiN μ w h)))) μ)) (yI Y (μ)) 4 [some (.ref (ad Y 3)), some (.ref (ad Y w)), some (.int (nI (hiN μ w k))), some (.int (nI k))] [] := by
    intro r
    induction r with
    | zero =>
      intro k hk
      obtain rfl : k = h := by omega
      refine v_iload_n hB dSe_hitsInside_4 rfl ?_
      refine v_aload_n hB dSe_hitsInside_5 rfl ?_
      refine v_get hC (klSe hY.2) (F := FSe Y _) (by assumption) 1 dSe_hitsInside_6 kfSe_36 (by decide) rfl ?_
      refine v_icmp_ge hB 39 dSe_hitsInside_9 (by decide) (fun c => ?_) (fun c => ?_)
      · refine v_iload_n hB dSe_hitsInside_39 rfl ?_
        exact v_iret hC rfl dSe_hitsInside_40 ⟨rfl, rfl⟩
      · exact absurd (by rw [hh]; exact nI_le (by omega) (by omega)) c
    | succ r ih =>
      intro k hk
      have hbk := hfb k (by omega)
      refine v_iload_n hB dSe_hitsInside_4 rfl ?_
      refine v_aload_n hB dSe_hitsInside_5 rfl ?_
      refine v_get hC (klSe hY.2) (F := FSe Y _) (by assumption) 1 dSe_hitsInside_6 kfSe_36 (by decide) rfl ?_
      refine v_icmp_ge hB 39 dSe_hitsInside_9 (by decide) (fun c => ?_) (fun c => ?_)
      · exact absurd c (by rw [hh]; exact (fun q => absurd ((nI_leI (by omega) (by omega)).mp q) (by omega)))
      refine v_iload_n hB dSe_hitsInside_12 rfl ?_
      refine v_aload_n hB dSe_hitsInside_13 rfl ?_
      refine v_aload_n hB dSe_hitsInside_14 rfl ?_
      refine v_get hC (klSe hY.2) (F := FSe Y _) (by assumption) 0 dSe_hitsInside_15 kfSe_11 (by decide) rfl ?_
      refine v_iload_n hB dSe_hitsInside_18 rfl ?_
      refine v_aald hC hfound k dSe_hitsInside_19 rfl (by omega) (by decide) ?_
      refine v_callV hC tbok kmSe_100 kiBo_holds ksBo_holds dSe_hitsInside_20 (F := FBo Y _) (by assumption) (by rw [hY.2]; rfl) (cBo_holds hY hw hbk μ) rfl rfl ⟨Nat.le_of_ble_eq_true rfl, Nat.le_of_ble_eq_true rfl⟩ rfl rfl (Nat.le_of_ble_eq_true rfl) ⟨Nat.zero_le _, Nat.zero_le _⟩ (kE rfl ?_)
      refine v_if_eq hB 30 dSe_hitsInside_23 (by decide) (fun c1 => ?_) (fun c1 => ?_)
      · refine v_iconst hB dSe_hitsInside_30 (v := 0) (by decide) ?_
        refine v_iadd hB dSe_hitsInside_31 ?_
        refine v_istore_n hB dSe_hitsInside_32 rfl (by decide) (lv' := [_, _, _, _]) rfl ?_
        refine v_iinc hB dSe_hitsInside_33 rfl (y := _) rfl rfl (by decide) (lv' := [_, _, _, _]) rfl ?_
        refine v_goto hB 4 dSe_hitsInside_36 (by decide) ?_
        rw [i1, show nI (hiN μ w k) + 0 = nI (hiN μ w (k + 1)) by rw [hiN, if_neg (by rw [bI_0.mp c1]; decide)]; exact nI_add _ 0]
        exact ih (k + 1) (by omega)
      · refine v_iconst hB dSe_hitsInside_26 (v := 1) (by decide) ?_
        refine v_goto hB 31 dSe_hitsInside_27 (by decide) ?_
        refine v_iadd hB dSe_hitsInside_31 ?_
        refine v_istore_n hB dSe_hitsInside_32 rfl (by decide) (lv' := [_, _, _, _]) rfl ?_
        refine v_iinc hB dSe_hitsInside_33 rfl (y := _) rfl rfl (by decide) (lv' := [_, _, _, _]) rfl ?_
        refine v_goto hB 4 dSe_hitsInside_36 (by decide) ?_
        rw [i1, nI_1, show hiN μ w k + 1 = hiN μ w (k + 1) by rw [hiN, if_pos (bI_n.mp c1)]]
        exact ih (k + 1) (by omega)
  refine v_iconst hB dSe_hitsInside_0 (v := 0) (by decide) ?_
  refine v_istore_n hB dSe_hitsInside_1 rfl (by decide) (lv' := [_, _, _, _]) rfl ?_
  refine v_iconst hB dSe_hitsInside_2 (v := 0) (by decide) ?_
  refine v_istore_n hB dSe_hitsInside_3 rfl (by decide) (lv' := [_, _, _, _]) rfl ?_
  exact loop h 0 (by omega)

set_option maxHeartbeats 4000000 in
set_option maxRecDepth 100000 in
theorem cSe_lookedOnlyWhereMet {l : Launch} {Y : Yt} (hY : YB Y) (hW : YW Y) {w : Nat} (hw : isBo Y w) {μ : Mu} {K : Bool → Mu → Prop} (h : lmW μ w K) : Ct l Y ySe_lookedOnlyWhereMet wSe_lookedOnlyWhereMet ({ frames := 2, cells := 0, slots := 0, locals := 44 }) [.ref (ad Y 3), .ref (ad Y 2), .ref (ad Y w)] μ (PB K) := by
  refine ct_of hY.1 (by decide) rfl (Nat.le_of_ble_eq_true rfl) (lv := [some (.ref (ad Y 3)), some (.ref (ad Y 2)), some (.ref (ad Y w)), none]) rfl (fun X hC => ?_)
  have hB := hC.B
  obtain ⟨hFa, hDi, hTr, hSe, h4, h5, h6b, h7, h8, hpages, htrail, hturns, hplaces, hlog, hlp, hfound, hwait, hsq, hlk, hPg, hrow, hlrow, hfb⟩ := id hW
  obtain ⟨n, hn40, hn, hl⟩ := h
  have loop : ∀ (r i : Nat) (ν : Mu), i + r = n → ν.1 3 8 = nI n → lmL w K r i ν → VG X (yA Y) 4 0 0 (VQ X Y (PB K)) (yI Y (ν)) 2 [some (.ref (ad Y 3)), some (.ref (ad Y 2)), some (.ref (ad Y w)), some (.int (nI i))] [] := by
    intro r
    induction r with
    | zero =>
      intro i ν hi hν hf
      refine v_iload_n hB dSe_lookedOnlyWhereMet_2 rfl ?_
      refine v_aload_n hB dSe_lookedOnlyWhereMet_3 rfl ?_
      refine v_get hC (klSe hY.2) (F := FSe Y _) (by assumption) 8 dSe_lookedOnlyWhereMet_4 kfSe_103 (by decide) rfl ?_
      refine v_icmp_ge hB 60 dSe_lookedOnlyWhereMet_7 (by decide) (fun c => ?_) (fun c => ?_)
      · refine v_iconst hB dSe_lookedOnlyWhereMet_60 (v := 1) (by decide) ?_
        exact v_zret hC rfl (by decide) dSe_lookedOnlyWhereMet_61 ⟨true, rfl, hf⟩
      · exact absurd (by rw [hν]; exact nI_le (by omega) (by omega)) c
    | succ r ih =>
      rintro i ν hi hν ⟨q, u, hq, hu6, hiq, hu, hx⟩
      have hqP := hPg q hq
      refine v_iload_n hB dSe_lookedOnlyWhereMet_2 rfl ?_
      refine v_aload_n hB dSe_lookedOnlyWhereMet_3 rfl ?_
      refine v_get hC (klSe hY.2) (F := FSe Y _) (by assumption) 8 dSe_lookedOnlyWhereMet_4 kfSe_103 (by decide) rfl ?_
      refine v_icmp_ge hB 60 dSe_lookedOnlyWhereMet_7 (by decide) (fun c => ?_) (fun c => ?_)
      · exact absurd c (by rw [hν]; exact (fun q => absurd ((nI_leI (by omega) (by omega)).mp q) (by omega)))
      refine v_aload_n hB dSe_lookedOnlyWhereMet_10 rfl ?_
      refine v_aload_n hB dSe_lookedOnlyWhereMet_11 rfl ?_
      refine v_get hC (klSe hY.2) (F := FSe Y _) (by assumption) 7 dSe_lookedOnlyWhereMet_12 kfSe_30 (by decide) rfl ?_
      refine v_iload_n hB dSe_lookedOnlyWhereMet_15 rfl ?_
      refine v_iald hC hlk i dSe_lookedOnlyWhereMet_16 rfl (by omega) (by decide) ?_
      rw [hiq]
      refine v_callV hC tbok kmSe_106 kiTr_at ksTr_at dSe_lookedOnlyWhereMet_17 (F := FTr Y _) (by assumption) (by rw [hY.2]; rfl) (cTr_at hY hW hq ν) rfl rfl ⟨Nat.le_of_ble_eq_true rfl, Nat.le_of_ble_eq_true rfl⟩ rfl rfl (Nat.le_of_ble_eq_true rfl) ⟨Nat.zero_le _, Nat.zero_le _⟩ (kE rfl ?_)
      refine v_iconst hB dSe_lookedOnlyWhereMet_20 (v := -1) (by decide) ?_
      refine v_aload_n hB dSe_lookedOnlyWhereMet_21 rfl ?_
      refine v_get hC (klSe hY.2) (F := FSe Y _) (by assumption) 9 dSe_lookedOnlyWhereMet_22 kfSe_33 (by decide) rfl ?_
      refine v_callV hC tbok kmSe_110 kiPa_frame ksPa_frame dSe_lookedOnlyWhereMet_25 (F := FPa Y _) hqP.2.1 (by rw [hY.2]; rfl) (cPa_frame hY hqP h8 (-1) ν hu hu6) rfl rfl ⟨Nat.le_of_ble_eq_true rfl, Nat.le_of_ble_eq_true rfl⟩ rfl rfl (Nat.le_of_ble_eq_true rfl) ⟨Nat.zero_le _, Nat.zero_le _⟩ (kE rfl ?_)
      generalize hν1 : frM ν q u (-1) 8 = ν1 at hx ⊢
      have e1 : ν1.1 18 i = nI q := by rw [← hν1, frM_ne _ _ _ _ (show (18 : Nat) ≠ 8 by decide)]; exact hiq
      have e2 : ν1.1 3 8 = nI n := by rw [← hν1, frM_ne _ _ _ _ (show (3 : Nat) ≠ 8 by decide)]; exact hν
      refine v_aload_n hB dSe_lookedOnlyWhereMet_28 rfl ?_
      refine v_get hC (klSe hY.2) (F := FSe Y _) (by assumption) 7 dSe_lookedOnlyWhereMet_29 kfSe_30 (by decide) rfl ?_
      refine v_iload_n hB dSe_lookedOnlyWhereMet_32 rfl ?_
      refine v_iald hC hlk i dSe_lookedOnlyWhereMet_33 rfl (by omega) (by decide) ?_
      rw [e1]
      have next : (nI q = ν1.1 2 0 ∨ meetB (ν1.1 8) (ν1.1 w) = true) → VG X (yA Y) 4 0 0 (VQ X Y (PB K)) (yI Y (ν1)) 54 [some (.ref (ad Y 3)), some (.ref (ad Y 2)), some (.ref (ad Y w)), some (.int (nI i))] [] := by
        intro hz
        rw [if_pos hz] at hx
        refine v_iinc hB dSe_lookedOnlyWhereMet_54 rfl (y := _) rfl rfl (by decide) (lv' := [_, _, _, _]) rfl ?_
        refine v_goto hB 2 dSe_lookedOnlyWhereMet_57 (by decide) ?_
        rw [i1]
        exact ih (i + 1) ν1 (by omega) e2 hx
      refine v_aload_n hB dSe_lookedOnlyWhereMet_34 rfl ?_
      refine v_get hC (klTr hY.2) (F := FTr Y _) (by assumption) 0 dSe_lookedOnlyWhereMet_35 kfSe_40 (by decide) rfl ?_
      refine v_icmp_eq hB 54 dSe_lookedOnlyWhereMet_38 (by decide) (fun c1 => ?_) (fun c1 => ?_)
      · exact next (Or.inl c1)
      refine v_aload_n hB dSe_lookedOnlyWhereMet_41 rfl ?_
      refine v_get hC (klSe hY.2) (F := FSe Y _) (by assumption) 9 dSe_lookedOnlyWhereMet_42 kfSe_33 (by decide) rfl ?_
      refine v_aload_n hB dSe_lookedOnlyWhereMet_45 rfl ?_
      refine v_callV hC tbok kmSe_64 kiBo_meets ksBo_meets dSe_lookedOnlyWhereMet_46 (F := FBo Y _) (by assumption) (by rw [hY.2]; rfl) (cBo_meets hY h8 hw ν1) rfl rfl ⟨Nat.le_of_ble_eq_true rfl, Nat.le_of_ble_eq_true rfl⟩ rfl rfl (Nat.le_of_ble_eq_true rfl) ⟨Nat.zero_le _, Nat.zero_le _⟩ (kE rfl ?_)
      refine v_if_ne hB 54 dSe_lookedOnlyWhereMet_49 (by decide) (fun c2 => ?_) (fun c2 => ?_)
      · exact next (Or.inr (bI_n.mp c2))
      rw [if_neg (fun z => z.elim c1 (fun q => by rw [bI_0.mp c2] at q; exact absurd q (by decide)))] at hx
      refine v_iconst hB dSe_lookedOnlyWhereMet_52 (v := 0) (by decide) ?_
      exact v_zret hC rfl (by decide) dSe_lookedOnlyWhereMet_53 ⟨false, rfl, hx⟩
  refine v_iconst hB dSe_lookedOnlyWhereMet_0 (v := 0) (by decide) ?_
  refine v_istore_n hB dSe_lookedOnlyWhereMet_1 rfl (by decide) (lv' := [_, _, _, _]) rfl ?_
  exact loop n 0 μ (by omega) hn hl

set_option maxHeartbeats 4000000 in
set_option maxRecDepth 100000 in
theorem cSe_lookedNoFarther {l : Launch} {Y : Yt} (hY : YB Y) (hW : YW Y) (x y : Int32) {μ : Mu} {K : Bool → Mu → Prop} (h : lfW μ x y K) : Ct l Y ySe_lookedNoFarther wSe_lookedNoFarther ({ frames := 2, cells := 0, slots := 0, locals := 44 }) [.ref (ad Y 3), .ref (ad Y 2), .int x, .int y] μ (PB K) := by
  refine ct_of hY.1 (by decide) rfl (Nat.le_of_ble_eq_true rfl) (lv := [some (.ref (ad Y 3)), some (.ref (ad Y 2)), some (.int x), some (.int y), none]) rfl (fun X hC => ?_)
  have hB := hC.B
  obtain ⟨hFa, hDi, hTr, hSe, h4, h5, h6b, h7, h8, hpages, htrail, hturns, hplaces, hlog, hlp, hfound, hwait, hsq, hlk, hPg, hrow, hlrow, hfb⟩ := id hW
  obtain ⟨n, hn40, hn, hl⟩ := h
  have loop : ∀ (r i : Nat) (ν : Mu), i + r = n → ν.1 3 8 = nI n → lfL x y K r i ν → VG X (yA Y) 5 0 0 (VQ X Y (PB K)) (yI Y (ν)) 3 [some (.ref (ad Y 3)), some (.ref (ad Y 2)), some (.int x), some (.int y), some (.int (nI i))] [] := by
    intro r
    induction r with
    | zero =>
      intro i ν hi hν hf
      refine v_iload hB dSe_lookedNoFarther_3 rfl ?_
      refine v_aload_n hB dSe_lookedNoFarther_5 rfl ?_
      refine v_get hC (klSe hY.2) (F := FSe Y _) (by assumption) 8 dSe_lookedNoFarther_6 kfSe_103 (by decide) rfl ?_
      refine v_icmp_ge hB 70 dSe_lookedNoFarther_9 (by decide) (fun c => ?_) (fun c => ?_)
      · refine v_iconst hB dSe_lookedNoFarther_70 (v := 1) (by decide) ?_
        exact v_zret hC rfl (by decide) dSe_lookedNoFarther_71 ⟨true, rfl, hf⟩
      · exact absurd (by rw [hν]; exact nI_le (by omega) (by omega)) c
    | succ r ih =>
      rintro i ν hi hν ⟨q, u, hq, hu6, hiq, hu, hx⟩
      have hqP := hPg q hq
      refine v_iload hB dSe_lookedNoFarther_3 rfl ?_
      refine v_aload_n hB dSe_lookedNoFarther_5 rfl ?_
      refine v_get hC (klSe hY.2) (F := FSe Y _) (by assumption) 8 dSe_lookedNoFarther_6 kfSe_103 (by decide) rfl ?_
      refine v_icmp_ge hB 70 dSe_lookedNoFarther_9 (by decide) (fun c => ?_) (fun c => ?_)
      · exact absurd c (by rw [hν]; exact (fun q => absurd ((nI_leI (by omega) (by omega)).mp q) (by omega)))
      refine v_aload_n hB dSe_lookedNoFarther_12 rfl ?_
      refine v_aload_n hB dSe_lookedNoFarther_13 rfl ?_
      refine v_get hC (klSe hY.2) (F := FSe Y _) (by assumption) 7 dSe_lookedNoFarther_14 kfSe_30 (by decide) rfl ?_
      refine v_iload hB dSe_lookedNoFarther_17 rfl ?_
      refine v_iald hC hlk i dSe_lookedNoFarther_19 rfl (by omega) (by decide) ?_
      rw [hiq]
      refine v_callV hC tbok kmSe_106 kiTr_at ksTr_at dSe_lookedNoFarther_20 (F := FTr Y _) (by assumption) (by rw [hY.2]; rfl) (cTr_at hY hW hq ν) rfl rfl ⟨Nat.le_of_ble_eq_true rfl, Nat.le_of_ble_eq_true rfl⟩ rfl rfl (Nat.le_of_ble_eq_true rfl) ⟨Nat.zero_le _, Nat.zero_le _⟩ (kE rfl ?_)
      refine v_iconst hB dSe_lookedNoFarther_23 (v := -1) (by decide) ?_
      refine v_aload_n hB dSe_lookedNoFarther_24 rfl ?_
      refine v_get hC (klSe hY.2) (F := FSe Y _) (by assumption) 9 dSe_lookedNoFarther_25 kfSe_33 (by decide) rfl ?_
      refine v_callV hC tbok kmSe_110 kiPa_frame ksPa_frame dSe_lookedNoFarther_28 (F := FPa Y _) hqP.2.1 (by rw [hY.2]; rfl) (cPa_frame hY hqP h8 (-1) ν hu hu6) rfl rfl ⟨Nat.le_of_ble_eq_true rfl, Nat.le_of_ble_eq_true rfl⟩ rfl rfl (Nat.le_of_ble_eq_true rfl) ⟨Nat.zero_le _, Nat.zero_le _⟩ (kE rfl ?_)
      generalize hν1 : frM ν q u (-1) 8 = ν1 at hx ⊢
      have e1 : ν1.1 18 i = nI q := by rw [← hν1, frM_ne _ _ _ _ (show (18 : Nat) ≠ 8 by decide)]; exact hiq
      have e2 : ν1.1 3 8 = nI n := by rw [← hν1, frM_ne _ _ _ _ (show (3 : Nat) ≠ 8 by decide)]; exact hν
      refine v_aload_n hB dSe_lookedNoFarther_31 rfl ?_
      refine v_get hC (klSe hY.2) (F := FSe Y _) (by assumption) 7 dSe_lookedNoFarther_32 kfSe_30 (by decide) rfl ?_
      refine v_iload hB dSe_lookedNoFarther_35 rfl ?_
      refine v_iald hC hlk i dSe_lookedNoFarther_37 rfl (by omega) (by decide) ?_
      rw [e1]
      have next : (nI q = ν1.1 2 0 ∨ ¬ ν1.2 3 3 < sqB (ν1.1 8) x y) → VG X (yA Y) 5 0 0 (VQ X Y (PB K)) (yI Y (ν1)) 64 [some (.ref (ad Y 3)), some (.ref (ad Y 2)), some (.int x), some (.int y), some (.int (nI i))] [] := by
        intro hz
        rw [if_pos hz] at hx
        refine v_iinc hB dSe_lookedNoFarther_64 rfl (y := _) rfl rfl (by decide) (lv' := [_, _, _, _, _]) rfl ?_
        refine v_goto hB 3 dSe_lookedNoFarther_67 (by decide) ?_
        rw [i1]
        exact ih (i + 1) ν1 (by omega) e2 hx
      refine v_aload_n hB dSe_lookedNoFarther_38 rfl ?_
      refine v_get hC (klTr hY.2) (F := FTr Y _) (by assumption) 0 dSe_lookedNoFarther_39 kfSe_40 (by decide) rfl ?_
      refine v_icmp_eq hB 64 dSe_lookedNoFarther_42 (by decide) (fun c1 => ?_) (fun c1 => ?_)
      · exact next (Or.inl c1)
      refine v_aload_n hB dSe_lookedNoFarther_45 rfl ?_
      refine v_get hC (klSe hY.2) (F := FSe Y _) (by assumption) 9 dSe_lookedNoFarther_46 kfSe_33 (by decide) rfl ?_
      refine v_iload_n hB dSe_lookedNoFarther_49 rfl ?_
      refine v_iload_n hB dSe_lookedNoFarther_50 rfl ?_
      refine v_callV hC tbok kmSe_92 kiBo_squareFrom ksBo_squareFrom dSe_lookedNoFarther_51 (F := FBo Y _) (by assumption) (by rw [hY.2]; rfl) (cBo_squareFrom hY h8 x y ν1) rfl rfl ⟨Nat.le_of_ble_eq_true rfl, Nat.le_of_ble_eq_true rfl⟩ rfl rfl (Nat.le_of_ble_eq_true rfl) ⟨Nat.zero_le _, Nat.zero_le _⟩ (kE rfl ?_)
      refine v_aload_n hB dSe_lookedNoFarther_54 rfl ?_
      refine v_get hC (klSe hY.2) (F := FSe Y _) (by assumption) 3 dSe_lookedNoFarther_55 kfSe_84 (by decide) rfl ?_
      refine v_lcmp hB dSe_lookedNoFarther_58 ?_
      refine v_if_le hB 64 dSe_lookedNoFarther_59 (by decide) (fun c2 => ?_) (fun c2 => ?_)
      · exact next (Or.inr (lc_le.mp c2))
      rw [if_neg (fun z => z.elim c1 (fun q => c2 (lc_le.mpr q)))] at hx
      refine v_iconst hB dSe_lookedNoFarther_62 (v := 0) (by decide) ?_
      exact v_zret hC rfl (by decide) dSe_lookedNoFarther_63 ⟨false, rfl, hx⟩
  refine v_iconst hB dSe_lookedNoFarther_0 (v := 0) (by decide) ?_
  refine v_istore hB dSe_lookedNoFarther_1 rfl (by decide) (lv' := [_, _, _, _, _]) rfl ?_
  exact loop n 0 μ (by omega) hn hl
end
section
/-! THE FACE. -/
def isNm (n : Int32) : Bool := decide (0 ≤ n) && decide (n ≤ 999)
def isCo (x : Int32) : Bool := decide (-1000000000 ≤ x) && decide (x ≤ 1000000000)
def isRc (a b c d : Int32) : Bool := isCo a && (isCo b && (isCo c && (isCo d && (decide (a ≤ c) && decide (b ≤ d)))))
def swW (μ : Mu) (a b c d : Int32) (K : Mu → Prop) : Prop := gaW (asg μ 4 a b c d 0) 4 K
def ntW (μ : Mu) (K : Mu → Prop) : Prop := lmW μ 4 (fun b ν => K (wi ν 0 5 (bI b)))
def spW (μ : Mu) (x y : Int32) (K : Mu → Prop) : Prop := apW μ x y (fun ν => lfW ν x y (fun b ν2 => K (wi ν2 0 5 (bI b))))
def lpM (μ : Mu) : Mu := wi (fgM μ) 0 4 0
def seW (μ : Mu) (a : Int32) (K : Int32 → Mu → Prop) : Prop := kpW (wi μ 0 6 (-1)) (μ.1 0 6) (fun b ν => if b = true then K a (muM ν) else K (-4) (lpM ν))
def inW (μ : Mu) (n a b c d : Int32) (K : Int32 → Mu → Prop) : Prop := if μ.1 0 4 = 0 then K (-3) μ else if isNm n = true ∧ isRc a b c d = true then (if 40 ≤ μ.1 2 1 then K (-2) μ else plW (asg μ 4 a b c d n) 4 (fun ν => seW ν (ν.1 2 1) K)) else K (-1) μ
def deW (μ : Mu) (n a b c d : Int32) (K : Int32 → Mu → Prop) : Prop := if μ.1 0 4 = 0 then K (-3) μ else if isNm n = true ∧ isRc a b c d = true then upW (asg μ 4 a b c d n) 4 (fun q ν => if q = true then seW ν (ν.1 2 1) K else K (-1) ν) else K (-1) μ
def tkW (μ : Mu) (a b c d : Int32) (K : Int32 → Mu → Prop) : Prop := if μ.1 0 4 = 0 then K (-3) μ else if isRc a b c d = true then swW μ a b c d (fun ν => if ν.1 3 1 = 0 then K (-1) ν else upW ν (fdI 0) (fun q ν2 => if q = true then seW ν2 (ν2.1 (fdI 0) 4) K else K (-1) ν2)) else K (-1) μ
def cuM (μ : Mu) (w : Int32) : Mu := if w < -1 ∨ 5 < w then μ else wi μ 0 6 w
def soW (μ : Mu) (K : Bool → Mu → Prop) : Prop := if μ.1 0 4 = 0 then K false μ else K true (lpM μ)
def saW (μ : Mu) (K : Bool → Mu → Prop) : Prop := if μ.1 0 4 = 0 then rcW μ (fun ν => rfW ν (fun ν2 => K true (wi ν2 0 4 1))) else K false μ
def coW (μ : Mu) (a b c d : Int32) (K : Int32 → Mu → Prop) : Prop := if μ.1 0 4 = 0 then K (-3) μ else if isRc a b c d = true then swW μ a b c d (fun ν => ntW ν (fun ν2 => K (ν2.1 3 1) ν2)) else K (-1) μ
def wnW (μ : Mu) (a b c d : Int32) (K : Int32 → Mu → Prop) : Prop := if μ.1 0 4 = 0 then K (-3) μ else if isRc a b c d = true then swW μ a b c d (fun ν => ntW ν (fun ν2 => ∃ h, h ≤ 40 ∧ ν2.1 3 1 = nI h ∧ K (nI (hiN ν2 4 h)) ν2)) else K (-1) μ
def pcW (μ : Mu) (a b c d k : Int32) (K : Int32 → Mu → Prop) : Prop := if μ.1 0 4 = 0 then K (-3) μ else if isRc a b c d = true then swW μ a b c d (fun ν => if k < 0 ∨ ¬ k < ν.1 3 1 then K (-1) ν else ntW ν (fun ν2 => ∃ j, j < 40 ∧ k = nI j ∧ K (ν2.1 (fdI j) 4) ν2)) else K (-1) μ
def diW (μ : Mu) (x y : Int32) (K : Int64 → Mu → Prop) : Prop := if μ.1 0 4 = 0 then K (-3) μ else if isCo x = true ∧ isCo y = true ∧ ¬ μ.1 2 1 = 0 then spW μ x y (fun ν => K (ν.2 3 3) ν) else K (-1) μ
def neW (μ : Mu) (x y : Int32) (K : Int32 → Mu → Prop) : Prop := if μ.1 0 4 = 0 then K (-3) μ else if isCo x = true ∧ isCo y = true ∧ ¬ μ.1 2 1 = 0 then spW μ x y (fun ν => K (ν.1 7 4) ν) else K (-1) μ
def sdN (ν : Mu) (s : Int32) : Int32 := if s = 0 then ν.1 4 0 else if s = 1 then ν.1 4 1 else if s = 2 then ν.1 4 2 else if s = 3 then ν.1 4 3 else 2000000000
def arW (μ : Mu) (s : Int32) (K : Int32 → Mu → Prop) : Prop := if μ.1 0 4 = 0 ∨ μ.1 2 1 = 0 then K 2000000000 μ else ∃ q u, q < 40 ∧ u ≤ 6 ∧ μ.1 2 0 = nI q ∧ μ.1 (pgI q) 1 = nI u ∧ K (sdN (frM μ q u (-1) 4) s) (frM μ q u (-1) 4)
def snW (μ : Mu) (K : Bool → Mu → Prop) : Prop := if μ.1 0 4 = 0 then K false μ else whW μ K
set_option maxHeartbeats 4000000 in
set_option maxRecDepth 100000 in
theorem cFa_isName {l : Launch} {Y : Yt} (hY : YB Y) (n : Int32) (μ : Mu) : Ct l Y yFa_isName wFa_isName ({ frames := 0, cells := 0, slots := 0, locals := 0 }) [.int n] μ (PE (some (.int (bI (isNm n)))) μ) := by
  refine ct_of hY.1 (by decide) rfl (Nat.le_of_ble_eq_true rfl) (lv := [some (.int n)]) rfl (fun X hC => ?_)
  have hB := hC.B
  refine v_iload_n hB dFa_isName_0 rfl ?_
  refine v_if_lt hB 15 dFa_isName_1 (by decide) (fun c => ?_) (fun c => ?_)
  · refine v_iconst hB dFa_isName_15 (v := 0) (by decide) ?_
    exact v_zret hC rfl (by decide) dFa_isName_16 ⟨congrArg (fun x => some (Value.int x)) (bI_ff (by simp only [isNm]; simp [Int32.not_le.mpr c])), rfl⟩
  refine v_iload_n hB dFa_isName_4 rfl ?_
  refine v_sipush hB dFa_isName_5 (v := 999) (by decide) ?_
  refine v_icmp_gt hB 15 dFa_isName_8 (by decide) (fun c1 => ?_) (fun c1 => ?_)
  · refine v_iconst hB dFa_isName_15 (v := 0) (by decide) ?_
    exact v_zret hC rfl (by decide) dFa_isName_16 ⟨congrArg (fun x => some (Value.int x)) (bI_ff (by simp only [isNm]; simp [Int32.not_le.mpr c1])), rfl⟩
  refine v_iconst hB dFa_isName_11 (v := 1) (by decide) ?_
  refine v_goto hB 16 dFa_isName_12 (by decide) ?_
  exact v_zret hC rfl (by decide) dFa_isName_16 ⟨congrArg (fun x => some (Value.int x)) (bI_t (by simp only [isNm]; simp [Int32.not_lt.mp c, Int32.not_lt.mp c1])), rfl⟩

set_option maxHeartbeats 4000000 in
set_option maxRecDepth 100000 in
theorem cFa_isCoordinate {l : Launch} {Y : Yt} (hY : YB Y) (n : Int32) (μ : Mu) : Ct l Y yFa_isCoordinate wFa_isCoordinate ({ frames := 0, cells := 0, slots := 0, locals := 0 }) [.int n] μ (PE (some (.int (bI (isCo n)))) μ) := by
  refine ct_of hY.1 (by decide) rfl (Nat.le_of_ble_eq_true rfl) (lv := [some (.int n)]) rfl (fun X hC => ?_)
  have hB := hC.B
  refine v_iload_n hB dFa_isCoordinate_0 rfl ?_
  refine v_ldc hC (v := -1000000000) kfFa_154 dFa_isCoordinate_1 ?_
  refine v_icmp_lt hB 16 dFa_isCoordinate_3 (by decide) (fun c => ?_) (fun c => ?_)
  · refine v_iconst hB dFa_isCoordinate_16 (v := 0) (by decide) ?_
    exact v_zret hC rfl (by decide) dFa_isCoordinate_17 ⟨congrArg (fun x => some (Value.int x)) (bI_ff (by simp only [isCo]; simp [Int32.not_le.mpr c])), rfl⟩
  refine v_iload_n hB dFa_isCoordinate_6 rfl ?_
  refine v_ldc hC (v := 1000000000) kfFa_155 dFa_isCoordinate_7 ?_
  refine v_icmp_gt hB 16 dFa_isCoordinate_9 (by decide) (fun c1 => ?_) (fun c1 => ?_)
  · refine v_iconst hB dFa_isCoordinate_16 (v := 0) (by decide) ?_
    exact v_zret hC rfl (by decide) dFa_isCoordinate_17 ⟨congrArg (fun x => some (Value.int x)) (bI_ff (by simp only [isCo]; simp [Int32.not_le.mpr c1])), rfl⟩
  refine v_iconst hB dFa_isCoordinate_12 (v := 1) (by decide) ?_
  refine v_goto hB 17 dFa_isCoordinate_13 (by decide) ?_
  exact v_zret hC rfl (by decide) dFa_isCoordinate_17 ⟨congrArg (fun x => some (Value.int x)) (bI_t (by simp only [isCo]; simp [Int32.not_lt.mp c, Int32.not_lt.mp c1])), rfl⟩

set_option maxHeartbeats 4000000 in
set_option maxRecDepth 100000 in
theorem cFa_isRectangle {l : Launch} {Y : Yt} (hY : YB Y) (a b c d : Int32) (μ : Mu) : Ct l Y yFa_isRectangle wFa_isRectangle ({ frames := 1, cells := 0, slots := 0, locals := 20 }) [.int a, .int b, .int c, .int d] μ (PE (some (.int (bI (isRc a b c d)))) μ) := by
  refine ct_of hY.1 (by decide) rfl (Nat.le_of_ble_eq_true rfl) (lv := [some (.int a), some (.int b), some (.int c), some (.int d)]) rfl (fun X hC => ?_)
  have hB := hC.B
  refine v_iload_n hB dFa_isRectangle_0 rfl ?_
  refine v_callS hC tbok kmFa_108 ktFa_isCoordinate dFa_isRectangle_1 (cFa_isCoordinate hY a μ) rfl rfl ⟨Nat.le_of_ble_eq_true rfl, Nat.le_of_ble_eq_true rfl⟩ rfl rfl (Nat.le_of_ble_eq_true rfl) ⟨Nat.zero_le _, Nat.zero_le _⟩ (kE rfl ?_)
  refine v_if_eq hB 42 dFa_isRectangle_4 (by decide) (fun e0 => ?_) (fun e0 => ?_)
  · refine v_iconst hB dFa_isRectangle_42 (v := 0) (by decide) ?_
    exact v_zret hC rfl (by decide) dFa_isRectangle_43 ⟨congrArg (fun x => some (Value.int x)) (bI_ff (by simp only [isRc]; simp [bI_0.mp e0])), rfl⟩
  refine v_iload_n hB dFa_isRectangle_7 rfl ?_
  refine v_callS hC tbok kmFa_108 ktFa_isCoordinate dFa_isRectangle_8 (cFa_isCoordinate hY b μ) rfl rfl ⟨Nat.le_of_ble_eq_true rfl, Nat.le_of_ble_eq_true rfl⟩ rfl rfl (Nat.le_of_ble_eq_true rfl) ⟨Nat.zero_le _, Nat.zero_le _⟩ (kE rfl ?_)
  refine v_if_eq hB 42 dFa_isRectangle_11 (by decide) (fun e1 => ?_) (fun e1 => ?_)
  · refine v_iconst hB dFa_isRectangle_42 (v := 0) (by decide) ?_
    exact v_zret hC rfl (by decide) dFa_isRectangle_43 ⟨congrArg (fun x => some (Value.int x)) (bI_ff (by simp only [isRc]; simp [bI_0.mp e1])), rfl⟩
  refine v_iload_n hB dFa_isRectangle_14 rfl ?_
  refine v_callS hC tbok kmFa_108 ktFa_isCoordinate dFa_isRectangle_15 (cFa_isCoordinate hY c μ) rfl rfl ⟨Nat.le_of_ble_eq_true rfl, Nat.le_of_ble_eq_true rfl⟩ rfl rfl (Nat.le_of_ble_eq_true rfl) ⟨Nat.zero_le _, Nat.zero_le _⟩ (kE rfl ?_)
  refine v_if_eq hB 42 dFa_isRectangle_18 (by decide) (fun e2 => ?_) (fun e2 => ?_)
  · refine v_iconst hB dFa_isRectangle_42 (v := 0) (by decide) ?_
    exact v_zret hC rfl (by decide) dFa_isRectangle_43 ⟨congrArg (fun x => some (Value.int x)) (bI_ff (by simp only [isRc]; simp [bI_0.mp e2])), rfl⟩
  refine v_iload_n hB dFa_isRectangle_21 rfl ?_
  refine v_callS hC tbok kmFa_108 ktFa_isCoordinate dFa_isRectangle_22 (cFa_isCoordinate hY d μ) rfl rfl ⟨Nat.le_of_ble_eq_true rfl, Nat.le_of_ble_eq_true rfl⟩ rfl rfl (Nat.le_of_ble_eq_true rfl) ⟨Nat.zero_le _, Nat.zero_le _⟩ (kE rfl ?_)
  refine v_if_eq hB 42 dFa_isRectangle_25 (by decide) (fun e3 => ?_) (fun e3 => ?_)
  · refine v_iconst hB dFa_isRectangle_42 (v := 0) (by decide) ?_
    exact v_zret hC rfl (by decide) dFa_isRectangle_43 ⟨congrArg (fun x => some (Value.int x)) (bI_ff (by simp only [isRc]; simp [bI_0.mp e3])), rfl⟩
  refine v_iload_n hB dFa_isRectangle_28 rfl ?_
  refine v_iload_n hB dFa_isRectangle_29 rfl ?_
  refine v_icmp_gt hB 42 dFa_isRectangle_30 (by decide) (fun e4 => ?_) (fun e4 => ?_)
  · refine v_iconst hB dFa_isRectangle_42 (v := 0) (by decide) ?_
    exact v_zret hC rfl (by decide) dFa_isRectangle_43 ⟨congrArg (fun x => some (Value.int x)) (bI_ff (by simp only [isRc]; simp [Int32.not_le.mpr e4])), rfl⟩
  refine v_iload_n hB dFa_isRectangle_33 rfl ?_
  refine v_iload_n hB dFa_isRectangle_34 rfl ?_
  refine v_icmp_gt hB 42 dFa_isRectangle_35 (by decide) (fun e5 => ?_) (fun e5 => ?_)
  · refine v_iconst hB dFa_isRectangle_42 (v := 0) (by decide) ?_
    exact v_zret hC rfl (by decide) dFa_isRectangle_43 ⟨congrArg (fun x => some (Value.int x)) (bI_ff (by simp only [isRc]; simp [Int32.not_le.mpr e5])), rfl⟩
  refine v_iconst hB dFa_isRectangle_38 (v := 1) (by decide) ?_
  refine v_goto hB 43 dFa_isRectangle_39 (by decide) ?_
  exact v_zret hC rfl (by decide) dFa_isRectangle_43 ⟨congrArg (fun x => some (Value.int x)) (bI_t (by simp only [isRc]; simp [bI_n.mp e0, bI_n.mp e1, bI_n.mp e2, bI_n.mp e3, Int32.not_lt.mp e4, Int32.not_lt.mp e5])), rfl⟩

set_option maxHeartbeats 4000000 in
set_option maxRecDepth 100000 in
theorem cFa_searchWindow {l : Launch} {Y : Yt} (hY : YB Y) (hW : YW Y) (a b c d : Int32) {μ : Mu} {K : Mu → Prop} (h : swW μ a b c d K) : Ct l Y yFa_searchWindow wFa_searchWindow ({ frames := 3, cells := 0, slots := 0, locals := 70 }) [.ref (ad Y 0), .int a, .int b, .int c, .int d] μ (PV K) := by
  refine ct_of hY.1 (by decide) rfl (Nat.le_of_ble_eq_true rfl) (lv := [some (.ref (ad Y 0)), some (.int a), some (.int b), some (.int c), some (.int d)]) rfl (fun X hC => ?_)
  have hB := hC.B
  obtain ⟨hFa, hDi, hTr, hSe, h4, h5, h6b, h7, h8, hpages, htrail, hturns, hplaces, hlog, hlp, hfound, hwait, hsq, hlk, hPg, hrow, hlrow, hfb⟩ := id hW
  refine v_aload_n hB dFa_searchWindow_0 rfl ?_
  refine v_get hC (klFa hY.2) (F := FFa Y _) (by assumption) 3 dFa_searchWindow_1 kfFa_33 (by decide) rfl ?_
  refine v_iload_n hB dFa_searchWindow_4 rfl ?_
  refine v_iload_n hB dFa_searchWindow_5 rfl ?_
  refine v_iload_n hB dFa_searchWindow_6 rfl ?_
  refine v_iload hB dFa_searchWindow_7 rfl ?_
  refine v_iconst hB dFa_searchWindow_9 (v := 0) (by decide) ?_
  refine v_callV hC tbok kmFa_59 kiBo_assign ksBo_assign dFa_searchWindow_10 (F := FBo Y _) (by assumption) (by rw [hY.2]; rfl) (cBo_assign hY h4 a b c d 0 μ) rfl rfl ⟨Nat.le_of_ble_eq_true rfl, Nat.le_of_ble_eq_true rfl⟩ rfl rfl (Nat.le_of_ble_eq_true rfl) ⟨Nat.zero_le _, Nat.zero_le _⟩ (kE rfl ?_)
  refine v_aload_n hB dFa_searchWindow_13 rfl ?_
  refine v_get hC (klFa hY.2) (F := FFa Y _) (by assumption) 2 dFa_searchWindow_14 kfFa_26 (by decide) rfl ?_
  refine v_aload_n hB dFa_searchWindow_17 rfl ?_
  refine v_get hC (klFa hY.2) (F := FFa Y _) (by assumption) 1 dFa_searchWindow_18 kfFa_19 (by decide) rfl ?_
  refine v_aload_n hB dFa_searchWindow_21 rfl ?_
  refine v_get hC (klFa hY.2) (F := FFa Y _) (by assumption) 3 dFa_searchWindow_22 kfFa_33 (by decide) rfl ?_
  refine v_callV hC tbok kmFa_156 kiSe_gather ksSe_gather dFa_searchWindow_25 (F := FSe Y _) (by assumption) (by rw [hY.2]; rfl) (cSe_gather hY hW h4 h) rfl rfl ⟨Nat.le_of_ble_eq_true rfl, Nat.le_of_ble_eq_true rfl⟩ rfl rfl (Nat.le_of_ble_eq_true rfl) ⟨Nat.zero_le _, Nat.zero_le _⟩ (kV fun ν h1 => ?_)
  exact v_vret hC rfl dFa_searchWindow_28 ⟨rfl, h1⟩

set_option maxHeartbeats 4000000 in
set_option maxRecDepth 100000 in
theorem cFa_noteThrift {l : Launch} {Y : Yt} (hY : YB Y) (hW : YW Y) {μ : Mu} {K : Mu → Prop} (h : ntW μ K) : Ct l Y yFa_noteThrift wFa_noteThrift ({ frames := 3, cells := 0, slots := 0, locals := 67 }) [.ref (ad Y 0)] μ (PV K) := by
  refine ct_of hY.1 (by decide) rfl (Nat.le_of_ble_eq_true rfl) (lv := [some (.ref (ad Y 0))]) rfl (fun X hC => ?_)
  have hB := hC.B
  obtain ⟨hFa, hDi, hTr, hSe, h4, h5, h6b, h7, h8, hpages, htrail, hturns, hplaces, hlog, hlp, hfound, hwait, hsq, hlk, hPg, hrow, hlrow, hfb⟩ := id hW
  refine v_aload_n hB dFa_noteThrift_0 rfl ?_
  refine v_aload_n hB dFa_noteThrift_1 rfl ?_
  refine v_get hC (klFa hY.2) (F := FFa Y _) (by assumption) 2 dFa_noteThrift_2 kfFa_26 (by decide) rfl ?_
  refine v_aload_n hB dFa_noteThrift_5 rfl ?_
  refine v_get hC (klFa hY.2) (F := FFa Y _) (by assumption) 1 dFa_noteThrift_6 kfFa_19 (by decide) rfl ?_
  refine v_aload_n hB dFa_noteThrift_9 rfl ?_
  refine v_get hC (klFa hY.2) (F := FFa Y _) (by assumption) 3 dFa_noteThrift_10 kfFa_33 (by decide) rfl ?_
  refine v_callV hC tbok kmFa_160 kiSe_lookedOnlyWhereMet ksSe_lookedOnlyWhereMet dFa_noteThrift_13 (F := FSe Y _) (by assumption) (by rw [hY.2]; rfl) (cSe_lookedOnlyWhereMet hY hW h4 h) rfl rfl ⟨Nat.le_of_ble_eq_true rfl, Nat.le_of_ble_eq_true rfl⟩ rfl rfl (Nat.le_of_ble_eq_true rfl) ⟨Nat.zero_le _, Nat.zero_le _⟩ (kB fun b ν h1 => ?_)
  refine v_puti hC (klFa hY.2) (F := FFa Y _) (by assumption) 5 dFa_noteThrift_16 kfFa_41 (by decide) rfl (bI_z b) (bI_f b) (fun _ _ => rfl) (fun _ _ => Nat.le_of_ble_eq_true rfl) ?_
  exact v_vret hC rfl dFa_noteThrift_19 ⟨rfl, h1⟩

set_option maxHeartbeats 4000000 in
set_option maxRecDepth 100000 in
theorem cFa_searchPoint {l : Launch} {Y : Yt} (hY : YB Y) (hW : YW Y) (x y : Int32) {μ : Mu} {K : Mu → Prop} (h : spW μ x y K) : Ct l Y yFa_searchPoint wFa_searchPoint ({ frames := 3, cells := 0, slots := 0, locals := 74 }) [.ref (ad Y 0), .int x, .int y] μ (PV K) := by
  refine ct_of hY.1 (by decide) rfl (Nat.le_of_ble_eq_true rfl) (lv := [some (.ref (ad Y 0)), some (.int x), some (.int y)]) rfl (fun X hC => ?_)
  have hB := hC.B
  obtain ⟨hFa, hDi, hTr, hSe, h4, h5, h6b, h7, h8, hpages, htrail, hturns, hplaces, hlog, hlp, hfound, hwait, hsq, hlk, hPg, hrow, hlrow, hfb⟩ := id hW
  refine v_aload_n hB dFa_searchPoint_0 rfl ?_
  refine v_get hC (klFa hY.2) (F := FFa Y _) (by assumption) 2 dFa_searchPoint_1 kfFa_26 (by decide) rfl ?_
  refine v_aload_n hB dFa_searchPoint_4 rfl ?_
  refine v_get hC (klFa hY.2) (F := FFa Y _) (by assumption) 1 dFa_searchPoint_5 kfFa_19 (by decide) rfl ?_
  refine v_iload_n hB dFa_searchPoint_8 rfl ?_
  refine v_iload_n hB dFa_searchPoint_9 rfl ?_
  refine v_callV hC tbok kmFa_164 kiSe_approach ksSe_approach dFa_searchPoint_10 (F := FSe Y _) (by assumption) (by rw [hY.2]; rfl) (cSe_approach hY hW x y h) rfl rfl ⟨Nat.le_of_ble_eq_true rfl, Nat.le_of_ble_eq_true rfl⟩ rfl rfl (Nat.le_of_ble_eq_true rfl) ⟨Nat.zero_le _, Nat.zero_le _⟩ (kV fun ν h1 => ?_)
  refine v_aload_n hB dFa_searchPoint_13 rfl ?_
  refine v_aload_n hB dFa_searchPoint_14 rfl ?_
  refine v_get hC (klFa hY.2) (F := FFa Y _) (by assumption) 2 dFa_searchPoint_15 kfFa_26 (by decide) rfl ?_
  refine v_aload_n hB dFa_searchPoint_18 rfl ?_
  refine v_get hC (klFa hY.2) (F := FFa Y _) (by assumption) 1 dFa_searchPoint_19 kfFa_19 (by decide) rfl ?_
  refine v_iload_n hB dFa_searchPoint_22 rfl ?_
  refine v_iload_n hB dFa_searchPoint_23 rfl ?_
  refine v_callV hC tbok kmFa_168 kiSe_lookedNoFarther ksSe_lookedNoFarther dFa_searchPoint_24 (F := FSe Y _) (by assumption) (by rw [hY.2]; rfl) (cSe_lookedNoFarther hY hW x y h1) rfl rfl ⟨Nat.le_of_ble_eq_true rfl, Nat.le_of_ble_eq_true rfl⟩ rfl rfl (Nat.le_of_ble_eq_true rfl) ⟨Nat.zero_le _, Nat.zero_le _⟩ (kB fun b ν2 h2 => ?_)
  refine v_puti hC (klFa hY.2) (F := FFa Y _) (by assumption) 5 dFa_searchPoint_27 kfFa_41 (by decide) rfl (bI_z b) (bI_f b) (fun _ _ => rfl) (fun _ _ => Nat.le_of_ble_eq_true rfl) ?_
  exact v_vret hC rfl dFa_searchPoint_30 ⟨rfl, h2⟩

set_option maxHeartbeats 4000000 in
set_option maxRecDepth 100000 in
theorem cFa_losePower {l : Launch} {Y : Yt} (hY : YB Y) (hW : YW Y) (μ : Mu) : Ct l Y yFa_losePower wFa_losePower ({ frames := 2, cells := 0, slots := 0, locals := 42 }) [.ref (ad Y 0)] μ (PE none (lpM μ)) := by
  refine ct_of hY.1 (by decide) rfl (Nat.le_of_ble_eq_true rfl) (lv := [some (.ref (ad Y 0))]) rfl (fun X hC => ?_)
  have hB := hC.B
  obtain ⟨hFa, hDi, hTr, hSe, h4, h5, h6b, h7, h8, hpages, htrail, hturns, hplaces, hlog, hlp, hfound, hwait, hsq, hlk, hPg, hrow, hlrow, hfb⟩ := id hW
  refine v_aload_n hB dFa_losePower_0 rfl ?_
  refine v_get hC (klFa hY.2) (F := FFa Y _) (by assumption) 1 dFa_losePower_1 kfFa_19 (by decide) rfl ?_
  refine v_callV hC tbok kmFa_179 kiTr_forget ksTr_forget dFa_losePower_4 (F := FTr Y _) (by assumption) (by rw [hY.2]; rfl) (cTr_forget hY hW μ) rfl rfl ⟨Nat.le_of_ble_eq_true rfl, Nat.le_of_ble_eq_true rfl⟩ rfl rfl (Nat.le_of_ble_eq_true rfl) ⟨Nat.zero_le _, Nat.zero_le _⟩ (kE rfl ?_)
  refine v_aload_n hB dFa_losePower_7 rfl ?_
  refine v_iconst hB dFa_losePower_8 (v := 0) (by decide) ?_
  refine v_puti hC (klFa hY.2) (F := FFa Y _) (by assumption) 4 dFa_losePower_9 kfFa_37 (by decide) rfl (by decide) (by decide) (fun _ _ => rfl) (fun _ _ => Nat.le_of_ble_eq_true rfl) ?_
  exact v_vret hC rfl dFa_losePower_12 ⟨rfl, rfl⟩

set_option maxHeartbeats 4000000 in
set_option maxRecDepth 100000 in
theorem cFa_settle {l : Launch} {Y : Yt} (hY : YB Y) (hW : YW Y) (a : Int32) {μ : Mu} {K : Int32 → Mu → Prop} (h : seW μ a K) : Ct l Y yFa_settle wFa_settle ({ frames := 4, cells := 0, slots := 0, locals := 91 }) [.ref (ad Y 0), .int a] μ (PI K) := by
  refine ct_of hY.1 (by decide) rfl (Nat.le_of_ble_eq_true rfl) (lv := [some (.ref (ad Y 0)), some (.int a), none]) rfl (fun X hC => ?_)
  have hB := hC.B
  obtain ⟨hFa, hDi, hTr, hSe, h4, h5, h6b, h7, h8, hpages, htrail, hturns, hplaces, hlog, hlp, hfound, hwait, hsq, hlk, hPg, hrow, hlrow, hfb⟩ := id hW
  refine v_aload_n hB dFa_settle_0 rfl ?_
  refine v_get hC (klFa hY.2) (F := FFa Y _) (by assumption) 6 dFa_settle_1 kfFa_44 (by decide) rfl ?_
  refine v_istore_n hB dFa_settle_4 rfl (by decide) (lv' := [_, _, _]) rfl ?_
  refine v_aload_n hB dFa_settle_5 rfl ?_
  refine v_iconst hB dFa_settle_6 (v := -1) (by decide) ?_
  refine v_puti hC (klFa hY.2) (F := FFa Y _) (by assumption) 6 dFa_settle_7 kfFa_44 (by decide) rfl rfl rfl (fun _ _ => rfl) (fun _ _ => Nat.le_of_ble_eq_true rfl) ?_
  refine v_aload_n hB dFa_settle_10 rfl ?_
  refine v_get hC (klFa hY.2) (F := FFa Y _) (by assumption) 0 dFa_settle_11 kfFa_12 (by decide) rfl ?_
  refine v_aload_n hB dFa_settle_14 rfl ?_
  refine v_get hC (klFa hY.2) (F := FFa Y _) (by assumption) 1 dFa_settle_15 kfFa_19 (by decide) rfl ?_
  refine v_iload_n hB dFa_settle_18 rfl ?_
  refine v_callV hC tbok kmFa_172 kiDi_keep ksDi_keep dFa_settle_19 (F := FDi Y _) (by assumption) (by rw [hY.2]; rfl) (cDi_keep hY hW h) rfl rfl ⟨Nat.le_of_ble_eq_true rfl, Nat.le_of_ble_eq_true rfl⟩ rfl rfl (Nat.le_of_ble_eq_true rfl) ⟨Nat.zero_le _, Nat.zero_le _⟩ (kB fun b ν h1 => ?_)
  refine v_if_eq hB 34 dFa_settle_22 (by decide) (fun c => ?_) (fun c => ?_)
  · rw [if_neg (by rw [bI_0.mp c]; decide)] at h1
    refine v_aload_n hB dFa_settle_34 rfl ?_
    refine v_callV hC tbok kmFa_89 kiFa_losePower ksFa_losePower dFa_settle_35 (F := FFa Y _) (by assumption) (by rw [hY.2]; rfl) (cFa_losePower hY hW ν) rfl rfl ⟨Nat.le_of_ble_eq_true rfl, Nat.le_of_ble_eq_true rfl⟩ rfl rfl (Nat.le_of_ble_eq_true rfl) ⟨Nat.zero_le _, Nat.zero_le _⟩ (kE rfl ?_)
    refine v_bipush hB dFa_settle_38 (v := -4) (by decide) ?_
    exact v_iret hC rfl dFa_settle_40 ⟨_, rfl, h1⟩
  rw [if_pos (bI_n.mp c)] at h1
  refine v_aload_n hB dFa_settle_25 rfl ?_
  refine v_get hC (klFa hY.2) (F := FFa Y _) (by assumption) 1 dFa_settle_26 kfFa_19 (by decide) rfl ?_
  refine v_callV hC tbok kmFa_176 kiTr_markUnchanged ksTr_markUnchanged dFa_settle_29 (F := FTr Y _) (by assumption) (by rw [hY.2]; rfl) (cTr_markUnchanged hY hW ν) rfl rfl ⟨Nat.le_of_ble_eq_true rfl, Nat.le_of_ble_eq_true rfl⟩ rfl rfl (Nat.le_of_ble_eq_true rfl) ⟨Nat.zero_le _, Nat.zero_le _⟩ (kE rfl ?_)
  refine v_iload_n hB dFa_settle_32 rfl ?_
  exact v_iret hC rfl dFa_settle_33 ⟨_, rfl, h1⟩

set_option maxHeartbeats 4000000 in
set_option maxRecDepth 100000 in
theorem cFa_insert {l : Launch} {Y : Yt} (hY : YB Y) (hW : YW Y) (n a b c d : Int32) {μ : Mu} {K : Int32 → Mu → Prop} (h : inW μ n a b c d K) : Ct l Y yFa_insert wFa_insert ({ frames := 6, cells := 0, slots := 0, locals := 146 }) [.ref (ad Y 0), .int n, .int a, .int b, .int c, .int d] μ (PI K) := by
  refine ct_of hY.1 (by decide) rfl (Nat.le_of_ble_eq_true rfl) (lv := [some (.ref (ad Y 0)), some (.int n), some (.int a), some (.int b), some (.int c), some (.int d)]) rfl (fun X hC => ?_)
  have hB := hC.B
  obtain ⟨hFa, hDi, hTr, hSe, h4, h5, h6b, h7, h8, hpages, htrail, hturns, hplaces, hlog, hlp, hfound, hwait, hsq, hlk, hPg, hrow, hlrow, hfb⟩ := id hW
  refine v_aload_n hB dFa_insert_0 rfl ?_
  refine v_get hC (klFa hY.2) (F := FFa Y _) (by assumption) 4 dFa_insert_1 kfFa_37 (by decide) rfl ?_
  refine v_if_ne hB 10 dFa_insert_4 (by decide) (fun c0 => ?_) (fun c0 => ?_)
  rotate_left
  · rw [inW, if_pos c0] at h
    refine v_bipush hB dFa_insert_7 (v := -3) (by decide) ?_
    exact v_iret hC rfl dFa_insert_9 ⟨_, rfl, h⟩
  rw [inW, if_neg c0] at h
  refine v_iload_n hB dFa_insert_10 rfl ?_
  refine v_callS hC tbok kmFa_48 ktFa_isName dFa_insert_11 (cFa_isName hY n μ) rfl rfl ⟨Nat.le_of_ble_eq_true rfl, Nat.le_of_ble_eq_true rfl⟩ rfl rfl (Nat.le_of_ble_eq_true rfl) ⟨Nat.zero_le _, Nat.zero_le _⟩ (kE rfl ?_)
  refine v_if_eq hB 29 dFa_insert_14 (by decide) (fun c1 => ?_) (fun c1 => ?_)
  · rw [if_neg (fun z => by rw [bI_0.mp c1] at z; exact absurd z.1 (by decide))] at h
    refine v_iconst hB dFa_insert_29 (v := -1) (by decide) ?_
    exact v_iret hC rfl dFa_insert_30 ⟨_, rfl, h⟩
  refine v_iload_n hB dFa_insert_17 rfl ?_
  refine v_iload_n hB dFa_insert_18 rfl ?_
  refine v_iload hB dFa_insert_19 rfl ?_
  refine v_iload hB dFa_insert_21 rfl ?_
  refine v_callS hC tbok kmFa_52 ktFa_isRectangle dFa_insert_23 (cFa_isRectangle hY a b c d μ) rfl rfl ⟨Nat.le_of_ble_eq_true rfl, Nat.le_of_ble_eq_true rfl⟩ rfl rfl (Nat.le_of_ble_eq_true rfl) ⟨Nat.zero_le _, Nat.zero_le _⟩ (kE rfl ?_)
  refine v_if_ne hB 31 dFa_insert_26 (by decide) (fun c2 => ?_) (fun c2 => ?_)
  rotate_left
  · rw [if_neg (fun z => by rw [bI_0.mp c2] at z; exact absurd z.2 (by decide))] at h
    refine v_iconst hB dFa_insert_29 (v := -1) (by decide) ?_
    exact v_iret hC rfl dFa_insert_30 ⟨_, rfl, h⟩
  rw [if_pos ⟨bI_n.mp c1, bI_n.mp c2⟩] at h
  refine v_aload_n hB dFa_insert_31 rfl ?_
  refine v_get hC (klFa hY.2) (F := FFa Y _) (by assumption) 1 dFa_insert_32 kfFa_19 (by decide) rfl ?_
  refine v_get hC (klTr hY.2) (F := FTr Y _) (by assumption) 1 dFa_insert_35 kfFa_56 (by decide) rfl ?_
  refine v_bipush hB dFa_insert_38 (v := 40) (by decide) ?_
  refine v_icmp_lt hB 46 dFa_insert_40 (by decide) (fun c3 => ?_) (fun c3 => ?_)
  rotate_left
  · rw [if_pos (Int32.not_lt.mp c3)] at h
    refine v_bipush hB dFa_insert_43 (v := -2) (by decide) ?_
    exact v_iret hC rfl dFa_insert_45 ⟨_, rfl, h⟩
  rw [if_neg (Int32.not_le.mpr c3)] at h
  refine v_aload_n hB dFa_insert_46 rfl ?_
  refine v_get hC (klFa hY.2) (F := FFa Y _) (by assumption) 3 dFa_insert_47 kfFa_33 (by decide) rfl ?_
  refine v_iload_n hB dFa_insert_50 rfl ?_
  refine v_iload_n hB dFa_insert_51 rfl ?_
  refine v_iload hB dFa_insert_52 rfl ?_
  refine v_iload hB dFa_insert_54 rfl ?_
  refine v_iload_n hB dFa_insert_56 rfl ?_
  refine v_callV hC tbok kmFa_59 kiBo_assign ksBo_assign dFa_insert_57 (F := FBo Y _) (by assumption) (by rw [hY.2]; rfl) (cBo_assign hY h4 a b c d n μ) rfl rfl ⟨Nat.le_of_ble_eq_true rfl, Nat.le_of_ble_eq_true rfl⟩ rfl rfl (Nat.le_of_ble_eq_true rfl) ⟨Nat.zero_le _, Nat.zero_le _⟩ (kE rfl ?_)
  refine v_aload_n hB dFa_insert_60 rfl ?_
  refine v_get hC (klFa hY.2) (F := FFa Y _) (by assumption) 1 dFa_insert_61 kfFa_19 (by decide) rfl ?_
  refine v_aload_n hB dFa_insert_64 rfl ?_
  refine v_get hC (klFa hY.2) (F := FFa Y _) (by assumption) 3 dFa_insert_65 kfFa_33 (by decide) rfl ?_
  refine v_callV hC tbok kmFa_63 kiTr_plant ksTr_plant dFa_insert_68 (F := FTr Y _) (by assumption) (by rw [hY.2]; rfl) (cTr_plant hY hW h4 h) rfl rfl ⟨Nat.le_of_ble_eq_true rfl, Nat.le_of_ble_eq_true rfl⟩ rfl rfl (Nat.le_of_ble_eq_true rfl) ⟨Nat.zero_le _, Nat.zero_le _⟩ (kV fun ν h1 => ?_)
  refine v_aload_n hB dFa_insert_71 rfl ?_
  refine v_aload_n hB dFa_insert_72 rfl ?_
  refine v_get hC (klFa hY.2) (F := FFa Y _) (by assumption) 1 dFa_insert_73 kfFa_19 (by decide) rfl ?_
  refine v_get hC (klTr hY.2) (F := FTr Y _) (by assumption) 1 dFa_insert_76 kfFa_56 (by decide) rfl ?_
  refine v_callV hC tbok kmFa_67 kiFa_settle ksFa_settle dFa_insert_79 (F := FFa Y _) (by assumption) (by rw [hY.2]; rfl) (cFa_settle hY hW _ h1) rfl rfl ⟨Nat.le_of_ble_eq_true rfl, Nat.le_of_ble_eq_true rfl⟩ rfl rfl (Nat.le_of_ble_eq_true rfl) ⟨Nat.zero_le _, Nat.zero_le _⟩ (kI fun x ν2 h2 => ?_)
  exact v_iret hC rfl dFa_insert_82 ⟨_, rfl, h2⟩

set_option maxHeartbeats 4000000 in
set_option maxRecDepth 100000 in
theorem cFa_delete {l : Launch} {Y : Yt} (hY : YB Y) (hW : YW Y) (n a b c d : Int32) {μ : Mu} {K : Int32 → Mu → Prop} (h : deW μ n a b c d K) : Ct l Y yFa_delete wFa_delete ({ frames := 8, cells := 0, slots := 0, locals := 199 }) [.ref (ad Y 0), .int n, .int a, .int b, .int c, .int d] μ (PI K) := by
  refine ct_of hY.1 (by decide) rfl (Nat.le_of_ble_eq_true rfl) (lv := [some (.ref (ad Y 0)), some (.int n), some (.int a), some (.int b), some (.int c), some (.int d)]) rfl (fun X hC => ?_)
  have hB := hC.B
  obtain ⟨hFa, hDi, hTr, hSe, h4, h5, h6b, h7, h8, hpages, htrail, hturns, hplaces, hlog, hlp, hfound, hwait, hsq, hlk, hPg, hrow, hlrow, hfb⟩ := id hW
  refine v_aload_n hB dFa_delete_0 rfl ?_
  refine v_get hC (klFa hY.2) (F := FFa Y _) (by assumption) 4 dFa_delete_1 kfFa_37 (by decide) rfl ?_
  refine v_if_ne hB 10 dFa_delete_4 (by decide) (fun c0 => ?_) (fun c0 => ?_)
  rotate_left
  · rw [deW, if_pos c0] at h
    refine v_bipush hB dFa_delete_7 (v := -3) (by decide) ?_
    exact v_iret hC rfl dFa_delete_9 ⟨_, rfl, h⟩
  rw [deW, if_neg c0] at h
  refine v_iload_n hB dFa_delete_10 rfl ?_
  refine v_callS hC tbok kmFa_48 ktFa_isName dFa_delete_11 (cFa_isName hY n μ) rfl rfl ⟨Nat.le_of_ble_eq_true rfl, Nat.le_of_ble_eq_true rfl⟩ rfl rfl (Nat.le_of_ble_eq_true rfl) ⟨Nat.zero_le _, Nat.zero_le _⟩ (kE rfl ?_)
  refine v_if_eq hB 29 dFa_delete_14 (by decide) (fun c1 => ?_) (fun c1 => ?_)
  · rw [if_neg (fun z => by rw [bI_0.mp c1] at z; exact absurd z.1 (by decide))] at h
    refine v_iconst hB dFa_delete_29 (v := -1) (by decide) ?_
    exact v_iret hC rfl dFa_delete_30 ⟨_, rfl, h⟩
  refine v_iload_n hB dFa_delete_17 rfl ?_
  refine v_iload_n hB dFa_delete_18 rfl ?_
  refine v_iload hB dFa_delete_19 rfl ?_
  refine v_iload hB dFa_delete_21 rfl ?_
  refine v_callS hC tbok kmFa_52 ktFa_isRectangle dFa_delete_23 (cFa_isRectangle hY a b c d μ) rfl rfl ⟨Nat.le_of_ble_eq_true rfl, Nat.le_of_ble_eq_true rfl⟩ rfl rfl (Nat.le_of_ble_eq_true rfl) ⟨Nat.zero_le _, Nat.zero_le _⟩ (kE rfl ?_)
  refine v_if_ne hB 31 dFa_delete_26 (by decide) (fun c2 => ?_) (fun c2 => ?_)
  rotate_left
  · rw [if_neg (fun z => by rw [bI_0.mp c2] at z; exact absurd z.2 (by decide))] at h
    refine v_iconst hB dFa_delete_29 (v := -1) (by decide) ?_
    exact v_iret hC rfl dFa_delete_30 ⟨_, rfl, h⟩
  rw [if_pos ⟨bI_n.mp c1, bI_n.mp c2⟩] at h
  refine v_aload_n hB dFa_delete_31 rfl ?_
  refine v_get hC (klFa hY.2) (F := FFa Y _) (by assumption) 3 dFa_delete_32 kfFa_33 (by decide) rfl ?_
  refine v_iload_n hB dFa_delete_35 rfl ?_
  refine v_iload_n hB dFa_delete_36 rfl ?_
  refine v_iload hB dFa_delete_37 rfl ?_
  refine v_iload hB dFa_delete_39 rfl ?_
  refine v_iload_n hB dFa_delete_41 rfl ?_
  refine v_callV hC tbok kmFa_59 kiBo_assign ksBo_assign dFa_delete_42 (F := FBo Y _) (by assumption) (by rw [hY.2]; rfl) (cBo_assign hY h4 a b c d n μ) rfl rfl ⟨Nat.le_of_ble_eq_true rfl, Nat.le_of_ble_eq_true rfl⟩ rfl rfl (Nat.le_of_ble_eq_true rfl) ⟨Nat.zero_le _, Nat.zero_le _⟩ (kE rfl ?_)
  refine v_aload_n hB dFa_delete_45 rfl ?_
  refine v_get hC (klFa hY.2) (F := FFa Y _) (by assumption) 1 dFa_delete_46 kfFa_19 (by decide) rfl ?_
  refine v_aload_n hB dFa_delete_49 rfl ?_
  refine v_get hC (klFa hY.2) (F := FFa Y _) (by assumption) 3 dFa_delete_50 kfFa_33 (by decide) rfl ?_
  refine v_callV hC tbok kmFa_71 kiTr_uproot ksTr_uproot dFa_delete_53 (F := FTr Y _) (by assumption) (by rw [hY.2]; rfl) (cTr_uproot hY hW h4 h) rfl rfl ⟨Nat.le_of_ble_eq_true rfl, Nat.le_of_ble_eq_true rfl⟩ rfl rfl (Nat.le_of_ble_eq_true rfl) ⟨Nat.zero_le _, Nat.zero_le _⟩ (kB fun q ν h1 => ?_)
  refine v_if_eq hB 73 dFa_delete_56 (by decide) (fun c3 => ?_) (fun c3 => ?_)
  · rw [if_neg (by rw [bI_0.mp c3]; decide)] at h1
    refine v_iconst hB dFa_delete_73 (v := -1) (by decide) ?_
    exact v_iret hC rfl dFa_delete_74 ⟨_, rfl, h1⟩
  rw [if_pos (bI_n.mp c3)] at h1
  refine v_aload_n hB dFa_delete_59 rfl ?_
  refine v_aload_n hB dFa_delete_60 rfl ?_
  refine v_get hC (klFa hY.2) (F := FFa Y _) (by assumption) 1 dFa_delete_61 kfFa_19 (by decide) rfl ?_
  refine v_get hC (klTr hY.2) (F := FTr Y _) (by assumption) 1 dFa_delete_64 kfFa_56 (by decide) rfl ?_
  refine v_callV hC tbok kmFa_67 kiFa_settle ksFa_settle dFa_delete_67 (F := FFa Y _) (by assumption) (by rw [hY.2]; rfl) (cFa_settle hY hW _ h1) rfl rfl ⟨Nat.le_of_ble_eq_true rfl, Nat.le_of_ble_eq_true rfl⟩ rfl rfl (Nat.le_of_ble_eq_true rfl) ⟨Nat.zero_le _, Nat.zero_le _⟩ (kI fun x ν2 h2 => ?_)
  refine v_goto hB 74 dFa_delete_70 (by decide) ?_
  exact v_iret hC rfl dFa_delete_74 ⟨_, rfl, h2⟩

set_option maxHeartbeats 4000000 in
set_option maxRecDepth 100000 in
theorem cFa_take {l : Launch} {Y : Yt} (hY : YB Y) (hW : YW Y) (a b c d : Int32) {μ : Mu} {K : Int32 → Mu → Prop} (h : tkW μ a b c d K) : Ct l Y yFa_take wFa_take ({ frames := 8, cells := 0, slots := 0, locals := 199 }) [.ref (ad Y 0), .int a, .int b, .int c, .int d] μ (PI K) := by
  refine ct_of hY.1 (by decide) rfl (Nat.le_of_ble_eq_true rfl) (lv := [some (.ref (ad Y 0)), some (.int a), some (.int b), some (.int c), some (.int d), none]) rfl (fun X hC => ?_)
  have hB := hC.B
  obtain ⟨hFa, hDi, hTr, hSe, h4, h5, h6b, h7, h8, hpages, htrail, hturns, hplaces, hlog, hlp, hfound, hwait, hsq, hlk, hPg, hrow, hlrow, hfb⟩ := id hW
  have hf0 := hfb 0 (by decide)
  refine v_aload_n hB dFa_take_0 rfl ?_
  refine v_get hC (klFa hY.2) (F := FFa Y _) (by assumption) 4 dFa_take_1 kfFa_37 (by decide) rfl ?_
  refine v_if_ne hB 10 dFa_take_4 (by decide) (fun c0 => ?_) (fun c0 => ?_)
  rotate_left
  · rw [tkW, if_pos c0] at h
    refine v_bipush hB dFa_take_7 (v := -3) (by decide) ?_
    exact v_iret hC rfl dFa_take_9 ⟨_, rfl, h⟩
  rw [tkW, if_neg c0] at h
  refine v_iload_n hB dFa_take_10 rfl ?_
  refine v_iload_n hB dFa_take_11 rfl ?_
  refine v_iload_n hB dFa_take_12 rfl ?_
  refine v_iload hB dFa_take_13 rfl ?_
  refine v_callS hC tbok kmFa_52 ktFa_isRectangle dFa_take_15 (cFa_isRectangle hY a b c d μ) rfl rfl ⟨Nat.le_of_ble_eq_true rfl, Nat.le_of_ble_eq_true rfl⟩ rfl rfl (Nat.le_of_ble_eq_true rfl) ⟨Nat.zero_le _, Nat.zero_le _⟩ (kE rfl ?_)
  refine v_if_ne hB 23 dFa_take_18 (by decide) (fun c1 => ?_) (fun c1 => ?_)
  rotate_left
  · rw [if_neg (by rw [bI_0.mp c1]; decide)] at h
    refine v_iconst hB dFa_take_21 (v := -1) (by decide) ?_
    exact v_iret hC rfl dFa_take_22 ⟨_, rfl, h⟩
  rw [if_pos (bI_n.mp c1)] at h
  refine v_aload_n hB dFa_take_23 rfl ?_
  refine v_iload_n hB dFa_take_24 rfl ?_
  refine v_iload_n hB dFa_take_25 rfl ?_
  refine v_iload_n hB dFa_take_26 rfl ?_
  refine v_iload hB dFa_take_27 rfl ?_
  refine v_callV hC tbok kmFa_75 kiFa_searchWindow ksFa_searchWindow dFa_take_29 (F := FFa Y _) (by assumption) (by rw [hY.2]; rfl) (cFa_searchWindow hY hW a b c d h) rfl rfl ⟨Nat.le_of_ble_eq_true rfl, Nat.le_of_ble_eq_true rfl⟩ rfl rfl (Nat.le_of_ble_eq_true rfl) ⟨Nat.zero_le _, Nat.zero_le _⟩ (kV fun ν h1 => ?_)
  refine v_aload_n hB dFa_take_32 rfl ?_
  refine v_get hC (klFa hY.2) (F := FFa Y _) (by assumption) 2 dFa_take_33 kfFa_26 (by decide) rfl ?_
  refine v_get hC (klSe hY.2) (F := FSe Y _) (by assumption) 1 dFa_take_36 kfFa_79 (by decide) rfl ?_
  refine v_if_ne hB 44 dFa_take_39 (by decide) (fun c2 => ?_) (fun c2 => ?_)
  rotate_left
  · rw [if_pos c2] at h1
    refine v_iconst hB dFa_take_42 (v := -1) (by decide) ?_
    exact v_iret hC rfl dFa_take_43 ⟨_, rfl, h1⟩
  rw [if_neg c2] at h1
  refine v_aload_n hB dFa_take_44 rfl ?_
  refine v_get hC (klFa hY.2) (F := FFa Y _) (by assumption) 2 dFa_take_45 kfFa_26 (by decide) rfl ?_
  refine v_get hC (klSe hY.2) (F := FSe Y _) (by assumption) 0 dFa_take_48 kfFa_82 (by decide) rfl ?_
  refine v_iconst hB dFa_take_51 (v := 0) (by decide) ?_
  refine v_aald hC hfound 0 dFa_take_52 rfl (by omega) (by decide) ?_
  refine v_astore hB dFa_take_53 rfl (by decide) (lv' := [_, _, _, _, _, _]) rfl ?_
  refine v_aload_n hB dFa_take_55 rfl ?_
  refine v_get hC (klFa hY.2) (F := FFa Y _) (by assumption) 1 dFa_take_56 kfFa_19 (by decide) rfl ?_
  refine v_aload hB dFa_take_59 rfl ?_
  refine v_callV hC tbok kmFa_71 kiTr_uproot ksTr_uproot dFa_take_61 (F := FTr Y _) (by assumption) (by rw [hY.2]; rfl) (cTr_uproot hY hW hf0 h1) rfl rfl ⟨Nat.le_of_ble_eq_true rfl, Nat.le_of_ble_eq_true rfl⟩ rfl rfl (Nat.le_of_ble_eq_true rfl) ⟨Nat.zero_le _, Nat.zero_le _⟩ (kB fun q ν2 h2 => ?_)
  refine v_if_eq hB 79 dFa_take_64 (by decide) (fun c3 => ?_) (fun c3 => ?_)
  · rw [if_neg (by rw [bI_0.mp c3]; decide)] at h2
    refine v_iconst hB dFa_take_79 (v := -1) (by decide) ?_
    exact v_iret hC rfl dFa_take_80 ⟨_, rfl, h2⟩
  rw [if_pos (bI_n.mp c3)] at h2
  refine v_aload_n hB dFa_take_67 rfl ?_
  refine v_aload hB dFa_take_68 rfl ?_
  refine v_get hC (klBo hY.2) (F := FBo Y _) (by assumption) 4 dFa_take_70 kfFa_86 (by decide) rfl ?_
  refine v_callV hC tbok kmFa_67 kiFa_settle ksFa_settle dFa_take_73 (F := FFa Y _) (by assumption) (by rw [hY.2]; rfl) (cFa_settle hY hW _ h2) rfl rfl ⟨Nat.le_of_ble_eq_true rfl, Nat.le_of_ble_eq_true rfl⟩ rfl rfl (Nat.le_of_ble_eq_true rfl) ⟨Nat.zero_le _, Nat.zero_le _⟩ (kI fun x ν3 h3 => ?_)
  refine v_goto hB 80 dFa_take_76 (by decide) ?_
  exact v_iret hC rfl dFa_take_80 ⟨_, rfl, h3⟩

set_option maxHeartbeats 4000000 in
set_option maxRecDepth 100000 in
theorem cFa_cut {l : Launch} {Y : Yt} (hY : YB Y) (hW : YW Y) (v : Int32) (μ : Mu) : Ct l Y yFa_cut wFa_cut ({ frames := 0, cells := 0, slots := 0, locals := 0 }) [.ref (ad Y 0), .int v] μ (PE (some (.int (bI (!(decide (v < -1) || decide (5 < v)))))) (cuM μ v)) := by
  refine ct_of hY.1 (by decide) rfl (Nat.le_of_ble_eq_true rfl) (lv := [some (.ref (ad Y 0)), some (.int v)]) rfl (fun X hC => ?_)
  have hB := hC.B
  obtain ⟨hFa, hDi, hTr, hSe, h4, h5, h6b, h7, h8, hpages, htrail, hturns, hplaces, hlog, hlp, hfound, hwait, hsq, hlk, hPg, hrow, hlrow, hfb⟩ := id hW
  refine v_iload_n hB dFa_cut_0 rfl ?_
  refine v_iconst hB dFa_cut_1 (v := -1) (by decide) ?_
  refine v_icmp_lt hB 10 dFa_cut_2 (by decide) (fun c => ?_) (fun c => ?_)
  · refine v_iconst hB dFa_cut_10 (v := 0) (by decide) ?_
    exact v_zret hC rfl (by decide) dFa_cut_11 ⟨congrArg (fun x => some (Value.int x)) (bI_ff (by simp [c])), by rw [cuM, if_pos (Or.inl c)]⟩
  refine v_iload_n hB dFa_cut_5 rfl ?_
  refine v_iconst hB dFa_cut_6 (v := 5) (by decide) ?_
  refine v_icmp_le hB 12 dFa_cut_7 (by decide) (fun c1 => ?_) (fun c1 => ?_)
  rotate_left
  · refine v_iconst hB dFa_cut_10 (v := 0) (by decide) ?_
    exact v_zret hC rfl (by decide) dFa_cut_11 ⟨congrArg (fun x => some (Value.int x)) (bI_ff (by simp [Int32.not_le.mp c1])), by rw [cuM, if_pos (Or.inr (Int32.not_le.mp c1))]⟩
  refine v_aload_n hB dFa_cut_12 rfl ?_
  refine v_iload_n hB dFa_cut_13 rfl ?_
  refine v_puti hC (klFa hY.2) (F := FFa Y _) (by assumption) 6 dFa_cut_14 kfFa_44 (by decide) rfl rfl rfl (fun _ _ => rfl) (fun _ _ => Nat.le_of_ble_eq_true rfl) ?_
  refine v_iconst hB dFa_cut_17 (v := 1) (by decide) ?_
  exact v_zret hC rfl (by decide) dFa_cut_18 ⟨congrArg (fun x => some (Value.int x)) (bI_t (by simp [Int32.not_lt.mp c, c1])), by rw [cuM, if_neg (fun z => z.elim c (Int32.not_lt.mpr c1))]⟩

set_option maxHeartbeats 4000000 in
set_option maxRecDepth 100000 in
theorem cFa_stop {l : Launch} {Y : Yt} (hY : YB Y) (hW : YW Y) {μ : Mu} {K : Bool → Mu → Prop} (h : soW μ K) : Ct l Y yFa_stop wFa_stop ({ frames := 3, cells := 0, slots := 0, locals := 62 }) [.ref (ad Y 0)] μ (PB K) := by
  refine ct_of hY.1 (by decide) rfl (Nat.le_of_ble_eq_true rfl) (lv := [some (.ref (ad Y 0))]) rfl (fun X hC => ?_)
  have hB := hC.B
  obtain ⟨hFa, hDi, hTr, hSe, h4, h5, h6b, h7, h8, hpages, htrail, hturns, hplaces, hlog, hlp, hfound, hwait, hsq, hlk, hPg, hrow, hlrow, hfb⟩ := id hW
  refine v_aload_n hB dFa_stop_0 rfl ?_
  refine v_get hC (klFa hY.2) (F := FFa Y _) (by assumption) 4 dFa_stop_1 kfFa_37 (by decide) rfl ?_
  refine v_if_ne hB 9 dFa_stop_4 (by decide) (fun c0 => ?_) (fun c0 => ?_)
  rotate_left
  · rw [soW, if_pos c0] at h
    refine v_iconst hB dFa_stop_7 (v := 0) (by decide) ?_
    exact v_zret hC rfl (by decide) dFa_stop_8 ⟨false, rfl, h⟩
  rw [soW, if_neg c0] at h
  refine v_aload_n hB dFa_stop_9 rfl ?_
  refine v_callV hC tbok kmFa_89 kiFa_losePower ksFa_losePower dFa_stop_10 (F := FFa Y _) (by assumption) (by rw [hY.2]; rfl) (cFa_losePower hY hW μ) rfl rfl ⟨Nat.le_of_ble_eq_true rfl, Nat.le_of_ble_eq_true rfl⟩ rfl rfl (Nat.le_of_ble_eq_true rfl) ⟨Nat.zero_le _, Nat.zero_le _⟩ (kE rfl ?_)
  refine v_iconst hB dFa_stop_13 (v := 1) (by decide) ?_
  exact v_zret hC rfl (by decide) dFa_stop_14 ⟨true, rfl, h⟩

set_option maxHeartbeats 4000000 in
set_option maxRecDepth 100000 in
theorem cFa_start {l : Launch} {Y : Yt} (hY : YB Y) (hW : YW Y) {μ : Mu} {K : Bool → Mu → Prop} (h : saW μ K) : Ct l Y yFa_start wFa_start ({ frames := 3, cells := 0, slots := 0, locals := 72 }) [.ref (ad Y 0)] μ (PB K) := by
  refine ct_of hY.1 (by decide) rfl (Nat.le_of_ble_eq_true rfl) (lv := [some (.ref (ad Y 0))]) rfl (fun X hC => ?_)
  have hB := hC.B
  obtain ⟨hFa, hDi, hTr, hSe, h4, h5, h6b, h7, h8, hpages, htrail, hturns, hplaces, hlog, hlp, hfound, hwait, hsq, hlk, hPg, hrow, hlrow, hfb⟩ := id hW
  refine v_aload_n hB dFa_start_0 rfl ?_
  refine v_get hC (klFa hY.2) (F := FFa Y _) (by assumption) 4 dFa_start_1 kfFa_37 (by decide) rfl ?_
  refine v_if_eq hB 9 dFa_start_4 (by decide) (fun c0 => ?_) (fun c0 => ?_)
  rotate_left
  · rw [saW, if_neg c0] at h
    refine v_iconst hB dFa_start_7 (v := 0) (by decide) ?_
    exact v_zret hC rfl (by decide) dFa_start_8 ⟨false, rfl, h⟩
  rw [saW, if_pos c0] at h
  refine v_aload_n hB dFa_start_9 rfl ?_
  refine v_get hC (klFa hY.2) (F := FFa Y _) (by assumption) 0 dFa_start_10 kfFa_12 (by decide) rfl ?_
  refine v_callV hC tbok kmFa_92 kiDi_recover ksDi_recover dFa_start_13 (F := FDi Y _) (by assumption) (by rw [hY.2]; rfl) (cDi_recover hY hW h) rfl rfl ⟨Nat.le_of_ble_eq_true rfl, Nat.le_of_ble_eq_true rfl⟩ rfl rfl (Nat.le_of_ble_eq_true rfl) ⟨Nat.zero_le _, Nat.zero_le _⟩ (kV fun ν h1 => ?_)
  refine v_aload_n hB dFa_start_16 rfl ?_
  refine v_get hC (klFa hY.2) (F := FFa Y _) (by assumption) 1 dFa_start_17 kfFa_19 (by decide) rfl ?_
  refine v_aload_n hB dFa_start_20 rfl ?_
  refine v_get hC (klFa hY.2) (F := FFa Y _) (by assumption) 0 dFa_start_21 kfFa_12 (by decide) rfl ?_
  refine v_callV hC tbok kmFa_95 kiTr_readFrom ksTr_readFrom dFa_start_24 (F := FTr Y _) (by assumption) (by rw [hY.2]; rfl) (cTr_readFrom hY hW h1) rfl rfl ⟨Nat.le_of_ble_eq_true rfl, Nat.le_of_ble_eq_true rfl⟩ rfl rfl (Nat.le_of_ble_eq_true rfl) ⟨Nat.zero_le _, Nat.zero_le _⟩ (kV fun ν2 h2 => ?_)
  refine v_aload_n hB dFa_start_27 rfl ?_
  refine v_iconst hB dFa_start_28 (v := 1) (by decide) ?_
  refine v_puti hC (klFa hY.2) (F := FFa Y _) (by assumption) 4 dFa_start_29 kfFa_37 (by decide) rfl (by decide) (by decide) (fun _ _ => rfl) (fun _ _ => Nat.le_of_ble_eq_true rfl) ?_
  refine v_iconst hB dFa_start_32 (v := 1) (by decide) ?_
  exact v_zret hC rfl (by decide) dFa_start_33 ⟨true, rfl, h2⟩

set_option maxHeartbeats 4000000 in
set_option maxRecDepth 100000 in
theorem cFa_up {l : Launch} {Y : Yt} (hY : YB Y) (hW : YW Y) (μ : Mu) (ht : tB (μ.1 0 4)) : Ct l Y yFa_up wFa_up ({ frames := 0, cells := 0, slots := 0, locals := 0 }) [.ref (ad Y 0)] μ (PE (some (.int (μ.1 0 4))) μ) := by
  refine ct_of hY.1 (by decide) rfl (Nat.le_of_ble_eq_true rfl) (lv := [some (.ref (ad Y 0))]) rfl (fun X hC => ?_)
  have hB := hC.B
  obtain ⟨hFa, hDi, hTr, hSe, h4, h5, h6b, h7, h8, hpages, htrail, hturns, hplaces, hlog, hlp, hfound, hwait, hsq, hlk, hPg, hrow, hlrow, hfb⟩ := id hW
  refine v_aload_n hB dFa_up_0 rfl ?_
  refine v_get hC (klFa hY.2) (F := FFa Y _) (by assumption) 4 dFa_up_1 kfFa_37 (by decide) rfl ?_
  exact v_zret hC rfl (tB_z ht) dFa_up_4 ⟨rfl, rfl⟩

set_option maxHeartbeats 4000000 in
set_option maxRecDepth 100000 in
theorem cFa_frugal {l : Launch} {Y : Yt} (hY : YB Y) (hW : YW Y) (μ : Mu) (ht : tB (μ.1 0 5)) : Ct l Y yFa_frugal wFa_frugal ({ frames := 0, cells := 0, slots := 0, locals := 0 }) [.ref (ad Y 0)] μ (PE (some (.int (μ.1 0 5))) μ) := by
  refine ct_of hY.1 (by decide) rfl (Nat.le_of_ble_eq_true rfl) (lv := [some (.ref (ad Y 0))]) rfl (fun X hC => ?_)
  have hB := hC.B
  obtain ⟨hFa, hDi, hTr, hSe, h4, h5, h6b, h7, h8, hpages, htrail, hturns, hplaces, hlog, hlp, hfound, hwait, hsq, hlk, hPg, hrow, hlrow, hfb⟩ := id hW
  refine v_aload_n hB dFa_frugal_0 rfl ?_
  refine v_get hC (klFa hY.2) (F := FFa Y _) (by assumption) 5 dFa_frugal_1 kfFa_41 (by decide) rfl ?_
  exact v_zret hC rfl (tB_z ht) dFa_frugal_4 ⟨rfl, rfl⟩

set_option maxHeartbeats 4000000 in
set_option maxRecDepth 100000 in
theorem cFa_size {l : Launch} {Y : Yt} (hY : YB Y) (hW : YW Y) (μ : Mu) : Ct l Y yFa_size wFa_size ({ frames := 0, cells := 0, slots := 0, locals := 0 }) [.ref (ad Y 0)] μ (PE (some (.int (if μ.1 0 4 = 0 then -3 else μ.1 2 1))) μ) := by
  refine ct_of hY.1 (by decide) rfl (Nat.le_of_ble_eq_true rfl) (lv := [some (.ref (ad Y 0))]) rfl (fun X hC => ?_)
  have hB := hC.B
  obtain ⟨hFa, hDi, hTr, hSe, h4, h5, h6b, h7, h8, hpages, htrail, hturns, hplaces, hlog, hlp, hfound, hwait, hsq, hlk, hPg, hrow, hlrow, hfb⟩ := id hW
  refine v_aload_n hB dFa_size_0 rfl ?_
  refine v_get hC (klFa hY.2) (F := FFa Y _) (by assumption) 4 dFa_size_1 kfFa_37 (by decide) rfl ?_
  refine v_if_eq hB 17 dFa_size_4 (by decide) (fun c0 => ?_) (fun c0 => ?_)
  · refine v_bipush hB dFa_size_17 (v := -3) (by decide) ?_
    exact v_iret hC rfl dFa_size_19 ⟨by rw [if_pos c0], rfl⟩
  refine v_aload_n hB dFa_size_7 rfl ?_
  refine v_get hC (klFa hY.2) (F := FFa Y _) (by assumption) 1 dFa_size_8 kfFa_19 (by decide) rfl ?_
  refine v_get hC (klTr hY.2) (F := FTr Y _) (by assumption) 1 dFa_size_11 kfFa_56 (by decide) rfl ?_
  refine v_goto hB 19 dFa_size_14 (by decide) ?_
  exact v_iret hC rfl dFa_size_19 ⟨by rw [if_neg c0], rfl⟩

set_option maxHeartbeats 4000000 in
set_option maxRecDepth 100000 in
theorem cFa_count {l : Launch} {Y : Yt} (hY : YB Y) (hW : YW Y) (a b c d : Int32) {μ : Mu} {K : Int32 → Mu → Prop} (h : coW μ a b c d K) : Ct l Y yFa_count wFa_count ({ frames := 4, cells := 0, slots := 0, locals := 94 }) [.ref (ad Y 0), .int a, .int b, .int c, .int d] μ (PI K) := by
  refine ct_of hY.1 (by decide) rfl (Nat.le_of_ble_eq_true rfl) (lv := [some (.ref (ad Y 0)), some (.int a), some (.int b), some (.int c), some (.int d)]) rfl (fun X hC => ?_)
  have hB := hC.B
  obtain ⟨hFa, hDi, hTr, hSe, h4, h5, h6b, h7, h8, hpages, htrail, hturns, hplaces, hlog, hlp, hfound, hwait, hsq, hlk, hPg, hrow, hlrow, hfb⟩ := id hW
  refine v_aload_n hB dFa_count_0 rfl ?_
  refine v_get hC (klFa hY.2) (F := FFa Y _) (by assumption) 4 dFa_count_1 kfFa_37 (by decide) rfl ?_
  refine v_if_ne hB 10 dFa_count_4 (by decide) (fun c0 => ?_) (fun c0 => ?_)
  rotate_left
  · rw [coW, if_pos c0] at h
    refine v_bipush hB dFa_count_7 (v := -3) (by decide) ?_
    exact v_iret hC rfl dFa_count_9 ⟨_, rfl, h⟩
  rw [coW, if_neg c0] at h
  refine v_iload_n hB dFa_count_10 rfl ?_
  refine v_iload_n hB dFa_count_11 rfl ?_
  refine v_iload_n hB dFa_count_12 rfl ?_
  refine v_iload hB dFa_count_13 rfl ?_
  refine v_callS hC tbok kmFa_52 ktFa_isRectangle dFa_count_15 (cFa_isRectangle hY a b c d μ) rfl rfl ⟨Nat.le_of_ble_eq_true rfl, Nat.le_of_ble_eq_true rfl⟩ rfl rfl (Nat.le_of_ble_eq_true rfl) ⟨Nat.zero_le _, Nat.zero_le _⟩ (kE rfl ?_)
  refine v_if_ne hB 23 dFa_count_18 (by decide) (fun c1 => ?_) (fun c1 => ?_)
  rotate_left
  · rw [if_neg (by rw [bI_0.mp c1]; decide)] at h
    refine v_iconst hB dFa_count_21 (v := -1) (by decide) ?_
    exact v_iret hC rfl dFa_count_22 ⟨_, rfl, h⟩
  rw [if_pos (bI_n.mp c1)] at h
  refine v_aload_n hB dFa_count_23 rfl ?_
  refine v_iload_n hB dFa_count_24 rfl ?_
  refine v_iload_n hB dFa_count_25 rfl ?_
  refine v_iload_n hB dFa_count_26 rfl ?_
  refine v_iload hB dFa_count_27 rfl ?_
  refine v_callV hC tbok kmFa_75 kiFa_searchWindow ksFa_searchWindow dFa_count_29 (F := FFa Y _) (by assumption) (by rw [hY.2]; rfl) (cFa_searchWindow hY hW a b c d h) rfl rfl ⟨Nat.le_of_ble_eq_true rfl, Nat.le_of_ble_eq_true rfl⟩ rfl rfl (Nat.le_of_ble_eq_true rfl) ⟨Nat.zero_le _, Nat.zero_le _⟩ (kV fun ν h1 => ?_)
  refine v_aload_n hB dFa_count_32 rfl ?_
  refine v_callV hC tbok kmFa_99 kiFa_noteThrift ksFa_noteThrift dFa_count_33 (F := FFa Y _) (by assumption) (by rw [hY.2]; rfl) (cFa_noteThrift hY hW h1) rfl rfl ⟨Nat.le_of_ble_eq_true rfl, Nat.le_of_ble_eq_true rfl⟩ rfl rfl (Nat.le_of_ble_eq_true rfl) ⟨Nat.zero_le _, Nat.zero_le _⟩ (kV fun ν2 h2 => ?_)
  refine v_aload_n hB dFa_count_36 rfl ?_
  refine v_get hC (klFa hY.2) (F := FFa Y _) (by assumption) 2 dFa_count_37 kfFa_26 (by decide) rfl ?_
  refine v_get hC (klSe hY.2) (F := FSe Y _) (by assumption) 1 dFa_count_40 kfFa_79 (by decide) rfl ?_
  exact v_iret hC rfl dFa_count_43 ⟨_, rfl, h2⟩

set_option maxHeartbeats 4000000 in
set_option maxRecDepth 100000 in
theorem cFa_within {l : Launch} {Y : Yt} (hY : YB Y) (hW : YW Y) (a b c d : Int32) {μ : Mu} {K : Int32 → Mu → Prop} (h : wnW μ a b c d K) : Ct l Y yFa_within wFa_within ({ frames := 4, cells := 0, slots := 0, locals := 94 }) [.ref (ad Y 0), .int a, .int b, .int c, .int d] μ (PI K) := by
  refine ct_of hY.1 (by decide) rfl (Nat.le_of_ble_eq_true rfl) (lv := [some (.ref (ad Y 0)), some (.int a), some (.int b), some (.int c), some (.int d)]) rfl (fun X hC => ?_)
  have hB := hC.B
  obtain ⟨hFa, hDi, hTr, hSe, h4, h5, h6b, h7, h8, hpages, htrail, hturns, hplaces, hlog, hlp, hfound, hwait, hsq, hlk, hPg, hrow, hlrow, hfb⟩ := id hW
  refine v_aload_n hB dFa_within_0 rfl ?_
  refine v_get hC (klFa hY.2) (F := FFa Y _) (by assumption) 4 dFa_within_1 kfFa_37 (by decide) rfl ?_
  refine v_if_ne hB 10 dFa_within_4 (by decide) (fun c0 => ?_) (fun c0 => ?_)
  rotate_left
  · rw [wnW, if_pos c0] at h
    refine v_bipush hB dFa_within_7 (v := -3) (by decide) ?_
    exact v_iret hC rfl dFa_within_9 ⟨_, rfl, h⟩
  rw [wnW, if_neg c0] at h
  refine v_iload_n hB dFa_within_10 rfl ?_
  refine v_iload_n hB dFa_within_11 rfl ?_
  refine v_iload_n hB dFa_within_12 rfl ?_
  refine v_iload hB dFa_within_13 rfl ?_
  refine v_callS hC tbok kmFa_52 ktFa_isRectangle dFa_within_15 (cFa_isRectangle hY a b c d μ) rfl rfl ⟨Nat.le_of_ble_eq_true rfl, Nat.le_of_ble_eq_true rfl⟩ rfl rfl (Nat.le_of_ble_eq_true rfl) ⟨Nat.zero_le _, Nat.zero_le _⟩ (kE rfl ?_)
  refine v_if_ne hB 23 dFa_within_18 (by decide) (fun c1 => ?_) (fun c1 => ?_)
  rotate_left
  · rw [if_neg (by rw [bI_0.mp c1]; decide)] at h
    refine v_iconst hB dFa_within_21 (v := -1) (by decide) ?_
    exact v_iret hC rfl dFa_within_22 ⟨_, rfl, h⟩
  rw [if_pos (bI_n.mp c1)] at h
  refine v_aload_n hB dFa_within_23 rfl ?_
  refine v_iload_n hB dFa_within_24 rfl ?_
  refine v_iload_n hB dFa_within_25 rfl ?_
  refine v_iload_n hB dFa_within_26 rfl ?_
  refine v_iload hB dFa_within_27 rfl ?_
  refine v_callV hC tbok kmFa_75 kiFa_searchWindow ksFa_searchWindow dFa_within_29 (F := FFa Y _) (by assumption) (by rw [hY.2]; rfl) (cFa_searchWindow hY hW a b c d h) rfl rfl ⟨Nat.le_of_ble_eq_true rfl, Nat.le_of_ble_eq_true rfl⟩ rfl rfl (Nat.le_of_ble_eq_true rfl) ⟨Nat.zero_le _, Nat.zero_le _⟩ (kV fun ν h1 => ?_)
  refine v_aload_n hB dFa_within_32 rfl ?_
  refine v_callV hC tbok kmFa_99 kiFa_noteThrift ksFa_noteThrift dFa_within_33 (F := FFa Y _) (by assumption) (by rw [hY.2]; rfl) (cFa_noteThrift hY hW h1) rfl rfl ⟨Nat.le_of_ble_eq_true rfl, Nat.le_of_ble_eq_true rfl⟩ rfl rfl (Nat.le_of_ble_eq_true rfl) ⟨Nat.zero_le _, Nat.zero_le _⟩ (kV fun ν2 h2 => ?_)
  obtain ⟨hh, hh40, hhq, h2⟩ := h2
  refine v_aload_n hB dFa_within_36 rfl ?_
  refine v_get hC (klFa hY.2) (F := FFa Y _) (by assumption) 2 dFa_within_37 kfFa_26 (by decide) rfl ?_
  refine v_aload_n hB dFa_within_40 rfl ?_
  refine v_get hC (klFa hY.2) (F := FFa Y _) (by assumption) 3 dFa_within_41 kfFa_33 (by decide) rfl ?_
  refine v_callV hC tbok kmFa_102 kiSe_hitsInside ksSe_hitsInside dFa_within_44 (F := FSe Y _) (by assumption) (by rw [hY.2]; rfl) (cSe_hitsInside hY hW h4 ν2 hhq hh40) rfl rfl ⟨Nat.le_of_ble_eq_true rfl, Nat.le_of_ble_eq_true rfl⟩ rfl rfl (Nat.le_of_ble_eq_true rfl) ⟨Nat.zero_le _, Nat.zero_le _⟩ (kE rfl ?_)
  exact v_iret hC rfl dFa_within_47 ⟨_, rfl, h2⟩

set_option maxHeartbeats 4000000 in
set_option maxRecDepth 100000 in
theorem cFa_pick {l : Launch} {Y : Yt} (hY : YB Y) (hW : YW Y) (a b c d k : Int32) {μ : Mu} {K : Int32 → Mu → Prop} (h : pcW μ a b c d k K) : Ct l Y yFa_pick wFa_pick ({ frames := 4, cells := 0, slots := 0, locals := 94 }) [.ref (ad Y 0), .int a, .int b, .int c, .int d, .int k] μ (PI K) := by
  refine ct_of hY.1 (by decide) rfl (Nat.le_of_ble_eq_true rfl) (lv := [some (.ref (ad Y 0)), some (.int a), some (.int b), some (.int c), some (.int d), some (.int k)]) rfl (fun X hC => ?_)
  have hB := hC.B
  obtain ⟨hFa, hDi, hTr, hSe, h4, h5, h6b, h7, h8, hpages, htrail, hturns, hplaces, hlog, hlp, hfound, hwait, hsq, hlk, hPg, hrow, hlrow, hfb⟩ := id hW
  refine v_aload_n hB dFa_pick_0 rfl ?_
  refine v_get hC (klFa hY.2) (F := FFa Y _) (by assumption) 4 dFa_pick_1 kfFa_37 (by decide) rfl ?_
  refine v_if_ne hB 10 dFa_pick_4 (by decide) (fun c0 => ?_) (fun c0 => ?_)
  rotate_left
  · rw [pcW, if_pos c0] at h
    refine v_bipush hB dFa_pick_7 (v := -3) (by decide) ?_
    exact v_iret hC rfl dFa_pick_9 ⟨_, rfl, h⟩
  rw [pcW, if_neg c0] at h
  refine v_iload_n hB dFa_pick_10 rfl ?_
  refine v_iload_n hB dFa_pick_11 rfl ?_
  refine v_iload_n hB dFa_pick_12 rfl ?_
  refine v_iload hB dFa_pick_13 rfl ?_
  refine v_callS hC tbok kmFa_52 ktFa_isRectangle dFa_pick_15 (cFa_isRectangle hY a b c d μ) rfl rfl ⟨Nat.le_of_ble_eq_true rfl, Nat.le_of_ble_eq_true rfl⟩ rfl rfl (Nat.le_of_ble_eq_true rfl) ⟨Nat.zero_le _, Nat.zero_le _⟩ (kE rfl ?_)
  refine v_if_ne hB 23 dFa_pick_18 (by decide) (fun c1 => ?_) (fun c1 => ?_)
  rotate_left
  · rw [if_neg (by rw [bI_0.mp c1]; decide)] at h
    refine v_iconst hB dFa_pick_21 (v := -1) (by decide) ?_
    exact v_iret hC rfl dFa_pick_22 ⟨_, rfl, h⟩
  rw [if_pos (bI_n.mp c1)] at h
  refine v_aload_n hB dFa_pick_23 rfl ?_
  refine v_iload_n hB dFa_pick_24 rfl ?_
  refine v_iload_n hB dFa_pick_25 rfl ?_
  refine v_iload_n hB dFa_pick_26 rfl ?_
  refine v_iload hB dFa_pick_27 rfl ?_
  refine v_callV hC tbok kmFa_75 kiFa_searchWindow ksFa_searchWindow dFa_pick_29 (F := FFa Y _) (by assumption) (by rw [hY.2]; rfl) (cFa_searchWindow hY hW a b c d h) rfl rfl ⟨Nat.le_of_ble_eq_true rfl, Nat.le_of_ble_eq_true rfl⟩ rfl rfl (Nat.le_of_ble_eq_true rfl) ⟨Nat.zero_le _, Nat.zero_le _⟩ (kV fun ν h1 => ?_)
  refine v_iload hB dFa_pick_32 rfl ?_
  refine v_if_lt hB 49 dFa_pick_34 (by decide) (fun c2 => ?_) (fun c2 => ?_)
  · rw [if_pos (Or.inl c2)] at h1
    refine v_iconst hB dFa_pick_49 (v := -1) (by decide) ?_
    exact v_iret hC rfl dFa_pick_50 ⟨_, rfl, h1⟩
  refine v_iload hB dFa_pick_37 rfl ?_
  refine v_aload_n hB dFa_pick_39 rfl ?_
  refine v_get hC (klFa hY.2) (F := FFa Y _) (by assumption) 2 dFa_pick_40 kfFa_26 (by decide) rfl ?_
  refine v_get hC (klSe hY.2) (F := FSe Y _) (by assumption) 1 dFa_pick_43 kfFa_79 (by decide) rfl ?_
  refine v_icmp_lt hB 51 dFa_pick_46 (by decide) (fun c3 => ?_) (fun c3 => ?_)
  rotate_left
  · rw [if_pos (Or.inr c3)] at h1
    refine v_iconst hB dFa_pick_49 (v := -1) (by decide) ?_
    exact v_iret hC rfl dFa_pick_50 ⟨_, rfl, h1⟩
  rw [if_neg (fun z => z.elim c2 (fun q => q c3))] at h1
  refine v_aload_n hB dFa_pick_51 rfl ?_
  refine v_callV hC tbok kmFa_99 kiFa_noteThrift ksFa_noteThrift dFa_pick_52 (F := FFa Y _) (by assumption) (by rw [hY.2]; rfl) (cFa_noteThrift hY hW h1) rfl rfl ⟨Nat.le_of_ble_eq_true rfl, Nat.le_of_ble_eq_true rfl⟩ rfl rfl (Nat.le_of_ble_eq_true rfl) ⟨Nat.zero_le _, Nat.zero_le _⟩ (kV fun ν2 h2 => ?_)
  obtain ⟨j, hj, hkj, h2⟩ := h2
  have hbj := hfb j hj
  refine v_aload_n hB dFa_pick_55 rfl ?_
  refine v_get hC (klFa hY.2) (F := FFa Y _) (by assumption) 2 dFa_pick_56 kfFa_26 (by decide) rfl ?_
  refine v_get hC (klSe hY.2) (F := FSe Y _) (by assumption) 0 dFa_pick_59 kfFa_82 (by decide) rfl ?_
  refine v_iload hB dFa_pick_62 rfl ?_
  refine v_aald hC hfound j dFa_pick_64 hkj (by omega) (by decide) ?_
  refine v_get hC (klBo hY.2) (F := FBo Y _) (by assumption) 4 dFa_pick_65 kfFa_86 (by decide) rfl ?_
  exact v_iret hC rfl dFa_pick_68 ⟨_, rfl, h2⟩

set_option maxHeartbeats 4000000 in
set_option maxRecDepth 100000 in
theorem cFa_distance {l : Launch} {Y : Yt} (hY : YB Y) (hW : YW Y) (x y : Int32) {μ : Mu} {K : Int64 → Mu → Prop} (h : diW μ x y K) : Ct l Y yFa_distance wFa_distance ({ frames := 4, cells := 0, slots := 0, locals := 96 }) [.ref (ad Y 0), .int x, .int y] μ (PL K) := by
  refine ct_of hY.1 (by decide) rfl (Nat.le_of_ble_eq_true rfl) (lv := [some (.ref (ad Y 0)), some (.int x), some (.int y)]) rfl (fun X hC => ?_)
  have hB := hC.B
  obtain ⟨hFa, hDi, hTr, hSe, h4, h5, h6b, h7, h8, hpages, htrail, hturns, hplaces, hlog, hlp, hfound, hwait, hsq, hlk, hPg, hrow, hlrow, hfb⟩ := id hW
  refine v_aload_n hB dFa_distance_0 rfl ?_
  refine v_get hC (klFa hY.2) (F := FFa Y _) (by assumption) 4 dFa_distance_1 kfFa_37 (by decide) rfl ?_
  refine v_if_ne hB 11 dFa_distance_4 (by decide) (fun c0 => ?_) (fun c0 => ?_)
  rotate_left
  · rw [diW, if_pos c0] at h
    refine v_ldc2 hC (v := -3) kfFa_106 dFa_distance_7 ?_
    exact v_lret hC rfl dFa_distance_10 ⟨_, rfl, h⟩
  rw [diW, if_neg c0] at h
  refine v_iload_n hB dFa_distance_11 rfl ?_
  refine v_callS hC tbok kmFa_108 ktFa_isCoordinate dFa_distance_12 (cFa_isCoordinate hY x μ) rfl rfl ⟨Nat.le_of_ble_eq_true rfl, Nat.le_of_ble_eq_true rfl⟩ rfl rfl (Nat.le_of_ble_eq_true rfl) ⟨Nat.zero_le _, Nat.zero_le _⟩ (kE rfl ?_)
  refine v_if_eq hB 35 dFa_distance_15 (by decide) (fun c1 => ?_) (fun c1 => ?_)
  · rw [if_neg (fun z => by rw [bI_0.mp c1] at z; exact absurd z.1 (by decide))] at h
    refine v_ldc2 hC (v := -1) kfFa_111 dFa_distance_35 ?_
    exact v_lret hC rfl dFa_distance_38 ⟨_, rfl, h⟩
  refine v_iload_n hB dFa_distance_18 rfl ?_
  refine v_callS hC tbok kmFa_108 ktFa_isCoordinate dFa_distance_19 (cFa_isCoordinate hY y μ) rfl rfl ⟨Nat.le_of_ble_eq_true rfl, Nat.le_of_ble_eq_true rfl⟩ rfl rfl (Nat.le_of_ble_eq_true rfl) ⟨Nat.zero_le _, Nat.zero_le _⟩ (kE rfl ?_)
  refine v_if_eq hB 35 dFa_distance_22 (by decide) (fun c2 => ?_) (fun c2 => ?_)
  · rw [if_neg (fun z => by rw [bI_0.mp c2] at z; exact absurd z.2.1 (by decide))] at h
    refine v_ldc2 hC (v := -1) kfFa_111 dFa_distance_35 ?_
    exact v_lret hC rfl dFa_distance_38 ⟨_, rfl, h⟩
  refine v_aload_n hB dFa_distance_25 rfl ?_
  refine v_get hC (klFa hY.2) (F := FFa Y _) (by assumption) 1 dFa_distance_26 kfFa_19 (by decide) rfl ?_
  refine v_get hC (klTr hY.2) (F := FTr Y _) (by assumption) 1 dFa_distance_29 kfFa_56 (by decide) rfl ?_
  refine v_if_ne hB 39 dFa_distance_32 (by decide) (fun c3 => ?_) (fun c3 => ?_)
  rotate_left
  · rw [if_neg (fun z => z.2.2 c3)] at h
    refine v_ldc2 hC (v := -1) kfFa_111 dFa_distance_35 ?_
    exact v_lret hC rfl dFa_distance_38 ⟨_, rfl, h⟩
  rw [if_pos ⟨bI_n.mp c1, bI_n.mp c2, c3⟩] at h
  refine v_aload_n hB dFa_distance_39 rfl ?_
  refine v_iload_n hB dFa_distance_40 rfl ?_
  refine v_iload_n hB dFa_distance_41 rfl ?_
  refine v_callV hC tbok kmFa_113 kiFa_searchPoint ksFa_searchPoint dFa_distance_42 (F := FFa Y _) (by assumption) (by rw [hY.2]; rfl) (cFa_searchPoint hY hW x y h) rfl rfl ⟨Nat.le_of_ble_eq_true rfl, Nat.le_of_ble_eq_true rfl⟩ rfl rfl (Nat.le_of_ble_eq_true rfl) ⟨Nat.zero_le _, Nat.zero_le _⟩ (kV fun ν h1 => ?_)
  refine v_aload_n hB dFa_distance_45 rfl ?_
  refine v_get hC (klFa hY.2) (F := FFa Y _) (by assumption) 2 dFa_distance_46 kfFa_26 (by decide) rfl ?_
  refine v_get hC (klSe hY.2) (F := FSe Y _) (by assumption) 3 dFa_distance_49 kfFa_117 (by decide) rfl ?_
  exact v_lret hC rfl dFa_distance_52 ⟨_, rfl, h1⟩

set_option maxHeartbeats 4000000 in
set_option maxRecDepth 100000 in
theorem cFa_nearest {l : Launch} {Y : Yt} (hY : YB Y) (hW : YW Y) (x y : Int32) {μ : Mu} {K : Int32 → Mu → Prop} (h : neW μ x y K) : Ct l Y yFa_nearest wFa_nearest ({ frames := 4, cells := 0, slots := 0, locals := 96 }) [.ref (ad Y 0), .int x, .int y] μ (PI K) := by
  refine ct_of hY.1 (by decide) rfl (Nat.le_of_ble_eq_true rfl) (lv := [some (.ref (ad Y 0)), some (.int x), some (.int y)]) rfl (fun X hC => ?_)
  have hB := hC.B
  obtain ⟨hFa, hDi, hTr, hSe, h4, h5, h6b, h7, h8, hpages, htrail, hturns, hplaces, hlog, hlp, hfound, hwait, hsq, hlk, hPg, hrow, hlrow, hfb⟩ := id hW
  refine v_aload_n hB dFa_nearest_0 rfl ?_
  refine v_get hC (klFa hY.2) (F := FFa Y _) (by assumption) 4 dFa_nearest_1 kfFa_37 (by decide) rfl ?_
  refine v_if_ne hB 10 dFa_nearest_4 (by decide) (fun c0 => ?_) (fun c0 => ?_)
  rotate_left
  · rw [neW, if_pos c0] at h
    refine v_bipush hB dFa_nearest_7 (v := -3) (by decide) ?_
    exact v_iret hC rfl dFa_nearest_9 ⟨_, rfl, h⟩
  rw [neW, if_neg c0] at h
  refine v_iload_n hB dFa_nearest_10 rfl ?_
  refine v_callS hC tbok kmFa_108 ktFa_isCoordinate dFa_nearest_11 (cFa_isCoordinate hY x μ) rfl rfl ⟨Nat.le_of_ble_eq_true rfl, Nat.le_of_ble_eq_true rfl⟩ rfl rfl (Nat.le_of_ble_eq_true rfl) ⟨Nat.zero_le _, Nat.zero_le _⟩ (kE rfl ?_)
  refine v_if_eq hB 34 dFa_nearest_14 (by decide) (fun c1 => ?_) (fun c1 => ?_)
  · rw [if_neg (fun z => by rw [bI_0.mp c1] at z; exact absurd z.1 (by decide))] at h
    refine v_iconst hB dFa_nearest_34 (v := -1) (by decide) ?_
    exact v_iret hC rfl dFa_nearest_35 ⟨_, rfl, h⟩
  refine v_iload_n hB dFa_nearest_17 rfl ?_
  refine v_callS hC tbok kmFa_108 ktFa_isCoordinate dFa_nearest_18 (cFa_isCoordinate hY y μ) rfl rfl ⟨Nat.le_of_ble_eq_true rfl, Nat.le_of_ble_eq_true rfl⟩ rfl rfl (Nat.le_of_ble_eq_true rfl) ⟨Nat.zero_le _, Nat.zero_le _⟩ (kE rfl ?_)
  refine v_if_eq hB 34 dFa_nearest_21 (by decide) (fun c2 => ?_) (fun c2 => ?_)
  · rw [if_neg (fun z => by rw [bI_0.mp c2] at z; exact absurd z.2.1 (by decide))] at h
    refine v_iconst hB dFa_nearest_34 (v := -1) (by decide) ?_
    exact v_iret hC rfl dFa_nearest_35 ⟨_, rfl, h⟩
  refine v_aload_n hB dFa_nearest_24 rfl ?_
  refine v_get hC (klFa hY.2) (F := FFa Y _) (by assumption) 1 dFa_nearest_25 kfFa_19 (by decide) rfl ?_
  refine v_get hC (klTr hY.2) (F := FTr Y _) (by assumption) 1 dFa_nearest_28 kfFa_56 (by decide) rfl ?_
  refine v_if_ne hB 36 dFa_nearest_31 (by decide) (fun c3 => ?_) (fun c3 => ?_)
  rotate_left
  · rw [if_neg (fun z => z.2.2 c3)] at h
    refine v_iconst hB dFa_nearest_34 (v := -1) (by decide) ?_
    exact v_iret hC rfl dFa_nearest_35 ⟨_, rfl, h⟩
  rw [if_pos ⟨bI_n.mp c1, bI_n.mp c2, c3⟩] at h
  refine v_aload_n hB dFa_nearest_36 rfl ?_
  refine v_iload_n hB dFa_nearest_37 rfl ?_
  refine v_iload_n hB dFa_nearest_38 rfl ?_
  refine v_callV hC tbok kmFa_113 kiFa_searchPoint ksFa_searchPoint dFa_nearest_39 (F := FFa Y _) (by assumption) (by rw [hY.2]; rfl) (cFa_searchPoint hY hW x y h) rfl rfl ⟨Nat.le_of_ble_eq_true rfl, Nat.le_of_ble_eq_true rfl⟩ rfl rfl (Nat.le_of_ble_eq_true rfl) ⟨Nat.zero_le _, Nat.zero_le _⟩ (kV fun ν h1 => ?_)
  refine v_aload_n hB dFa_nearest_42 rfl ?_
  refine v_get hC (klFa hY.2) (F := FFa Y _) (by assumption) 2 dFa_nearest_43 kfFa_26 (by decide) rfl ?_
  refine v_get hC (klSe hY.2) (F := FSe Y _) (by assumption) 2 dFa_nearest_46 kfFa_121 (by decide) rfl ?_
  refine v_get hC (klBo hY.2) (F := FBo Y _) (by assumption) 4 dFa_nearest_49 kfFa_86 (by decide) rfl ?_
  exact v_iret hC rfl dFa_nearest_52 ⟨_, rfl, h1⟩

set_option maxHeartbeats 4000000 in
set_option maxRecDepth 100000 in
theorem cFa_around {l : Launch} {Y : Yt} (hY : YB Y) (hW : YW Y) (s : Int32) {μ : Mu} {K : Int32 → Mu → Prop} (h : arW μ s K) : Ct l Y yFa_around wFa_around ({ frames := 2, cells := 0, slots := 0, locals := 44 }) [.ref (ad Y 0), .int s] μ (PI K) := by
  refine ct_of hY.1 (by decide) rfl (Nat.le_of_ble_eq_true rfl) (lv := [some (.ref (ad Y 0)), some (.int s)]) rfl (fun X hC => ?_)
  have hB := hC.B
  obtain ⟨hFa, hDi, hTr, hSe, h4, h5, h6b, h7, h8, hpages, htrail, hturns, hplaces, hlog, hlp, hfound, hwait, hsq, hlk, hPg, hrow, hlrow, hfb⟩ := id hW
  refine v_aload_n hB dFa_around_0 rfl ?_
  refine v_get hC (klFa hY.2) (F := FFa Y _) (by assumption) 4 dFa_around_1 kfFa_37 (by decide) rfl ?_
  refine v_if_eq hB 17 dFa_around_4 (by decide) (fun c0 => ?_) (fun c0 => ?_)
  · rw [arW, if_pos (Or.inl c0)] at h
    refine v_ldc hC (v := 2000000000) kfFa_124 dFa_around_17 ?_
    exact v_iret hC rfl dFa_around_19 ⟨_, rfl, h⟩
  refine v_aload_n hB dFa_around_7 rfl ?_
  refine v_get hC (klFa hY.2) (F := FFa Y _) (by assumption) 1 dFa_around_8 kfFa_19 (by decide) rfl ?_
  refine v_get hC (klTr hY.2) (F := FTr Y _) (by assumption) 1 dFa_around_11 kfFa_56 (by decide) rfl ?_
  refine v_if_ne hB 20 dFa_around_14 (by decide) (fun c1 => ?_) (fun c1 => ?_)
  rotate_left
  · rw [arW, if_pos (Or.inr c1)] at h
    refine v_ldc hC (v := 2000000000) kfFa_124 dFa_around_17 ?_
    exact v_iret hC rfl dFa_around_19 ⟨_, rfl, h⟩
  rw [arW, if_neg (fun z => z.elim c0 c1)] at h
  obtain ⟨q, u, hq, hu6, hr, hu, h⟩ := h
  have hqP := hPg q hq
  refine v_aload_n hB dFa_around_20 rfl ?_
  refine v_get hC (klFa hY.2) (F := FFa Y _) (by assumption) 1 dFa_around_21 kfFa_19 (by decide) rfl ?_
  refine v_aload_n hB dFa_around_24 rfl ?_
  refine v_get hC (klFa hY.2) (F := FFa Y _) (by assumption) 1 dFa_around_25 kfFa_19 (by decide) rfl ?_
  refine v_get hC (klTr hY.2) (F := FTr Y _) (by assumption) 0 dFa_around_28 kfFa_125 (by decide) rfl ?_
  rw [hr]
  refine v_callV hC tbok kmFa_128 kiTr_at ksTr_at dFa_around_31 (F := FTr Y _) (by assumption) (by rw [hY.2]; rfl) (cTr_at hY hW hq μ) rfl rfl ⟨Nat.le_of_ble_eq_true rfl, Nat.le_of_ble_eq_true rfl⟩ rfl rfl (Nat.le_of_ble_eq_true rfl) ⟨Nat.zero_le _, Nat.zero_le _⟩ (kE rfl ?_)
  refine v_iconst hB dFa_around_34 (v := -1) (by decide) ?_
  refine v_aload_n hB dFa_around_35 rfl ?_
  refine v_get hC (klFa hY.2) (F := FFa Y _) (by assumption) 3 dFa_around_36 kfFa_33 (by decide) rfl ?_
  refine v_callV hC tbok kmFa_132 kiPa_frame ksPa_frame dFa_around_39 (F := FPa Y _) hqP.2.1 (by rw [hY.2]; rfl) (cPa_frame hY hqP h4 (-1) μ hu hu6) rfl rfl ⟨Nat.le_of_ble_eq_true rfl, Nat.le_of_ble_eq_true rfl⟩ rfl rfl (Nat.le_of_ble_eq_true rfl) ⟨Nat.zero_le _, Nat.zero_le _⟩ (kE rfl ?_)
  refine v_iload_n hB dFa_around_42 rfl ?_
  generalize hν : frM μ q u (-1) 4 = ν at h ⊢
  by_cases hlo : s.toInt < 0 ∨ 3 < s.toInt
  · refine v_tableOut hB 104 dFa_around_43 hlo (by decide) ?_
    have n0 : ¬ s = 0 := fun z => by rw [z] at hlo; exact absurd hlo (by decide)
    have n1 : ¬ s = 1 := fun z => by rw [z] at hlo; exact absurd hlo (by decide)
    have n2 : ¬ s = 2 := fun z => by rw [z] at hlo; exact absurd hlo (by decide)
    have n3 : ¬ s = 3 := fun z => by rw [z] at hlo; exact absurd hlo (by decide)
    rw [sdN, if_neg n0, if_neg n1, if_neg n2, if_neg n3] at h
    refine v_ldc hC (v := 2000000000) kfFa_124 dFa_around_104 ?_
    exact v_iret hC rfl dFa_around_106 ⟨_, rfl, h⟩
  have hcase : s = 0 ∨ s = 1 ∨ s = 2 ∨ s = 3 := by
    have h1 : 0 ≤ s.toInt := by omega
    have h2 : s.toInt ≤ 3 := by omega
    have e : ∀ (t : Int32), s.toInt = t.toInt → s = t := fun t h => Int32.toInt_inj.mp h
    rcases (show s.toInt = 0 ∨ s.toInt = 1 ∨ s.toInt = 2 ∨ s.toInt = 3 by omega) with z | z | z | z
    · exact Or.inl (e 0 (by rw [z]; decide))
    · exact Or.inr (Or.inl (e 1 (by rw [z]; decide)))
    · exact Or.inr (Or.inr (Or.inl (e 2 (by rw [z]; decide))))
    · exact Or.inr (Or.inr (Or.inr (e 3 (by rw [z]; decide))))
  rcases hcase with rfl | rfl | rfl | rfl
  · refine v_tableIn hB (off := 29) 72 dFa_around_43 (by decide) (by decide) (by decide) (by decide) ?_
    refine v_aload_n hB dFa_around_72 rfl ?_
    refine v_get hC (klFa hY.2) (F := FFa Y _) (by assumption) 3 dFa_around_73 kfFa_33 (by decide) rfl ?_
    refine v_get hC (klBo hY.2) (F := FBo Y _) (by assumption) 0 dFa_around_76 kfFa_138 (by decide) rfl ?_
    exact v_iret hC rfl dFa_around_79 ⟨_, rfl, h⟩
  · refine v_tableIn hB (off := 37) 80 dFa_around_43 (by decide) (by decide) (by decide) (by decide) ?_
    refine v_aload_n hB dFa_around_80 rfl ?_
    refine v_get hC (klFa hY.2) (F := FFa Y _) (by assumption) 3 dFa_around_81 kfFa_33 (by decide) rfl ?_
    refine v_get hC (klBo hY.2) (F := FBo Y _) (by assumption) 1 dFa_around_84 kfFa_141 (by decide) rfl ?_
    exact v_iret hC rfl dFa_around_87 ⟨_, rfl, h⟩
  · refine v_tableIn hB (off := 45) 88 dFa_around_43 (by decide) (by decide) (by decide) (by decide) ?_
    refine v_aload_n hB dFa_around_88 rfl ?_
    refine v_get hC (klFa hY.2) (F := FFa Y _) (by assumption) 3 dFa_around_89 kfFa_33 (by decide) rfl ?_
    refine v_get hC (klBo hY.2) (F := FBo Y _) (by assumption) 2 dFa_around_92 kfFa_144 (by decide) rfl ?_
    exact v_iret hC rfl dFa_around_95 ⟨_, rfl, h⟩
  · refine v_tableIn hB (off := 53) 96 dFa_around_43 (by decide) (by decide) (by decide) (by decide) ?_
    refine v_aload_n hB dFa_around_96 rfl ?_
    refine v_get hC (klFa hY.2) (F := FFa Y _) (by assumption) 3 dFa_around_97 kfFa_33 (by decide) rfl ?_
    refine v_get hC (klBo hY.2) (F := FBo Y _) (by assumption) 3 dFa_around_100 kfFa_147 (by decide) rfl ?_
    exact v_iret hC rfl dFa_around_103 ⟨_, rfl, h⟩

set_option maxHeartbeats 4000000 in
set_option maxRecDepth 100000 in
theorem cFa_sound {l : Launch} {Y : Yt} (hY : YB Y) (hW : YW Y) {μ : Mu} {K : Bool → Mu → Prop} (h : snW μ K) : Ct l Y yFa_sound wFa_sound ({ frames := 9, cells := 0, slots := 0, locals := 227 }) [.ref (ad Y 0)] μ (PB K) := by
  refine ct_of hY.1 (by decide) rfl (Nat.le_of_ble_eq_true rfl) (lv := [some (.ref (ad Y 0))]) rfl (fun X hC => ?_)
  have hB := hC.B
  obtain ⟨hFa, hDi, hTr, hSe, h4, h5, h6b, h7, h8, hpages, htrail, hturns, hplaces, hlog, hlp, hfound, hwait, hsq, hlk, hPg, hrow, hlrow, hfb⟩ := id hW
  refine v_aload_n hB dFa_sound_0 rfl ?_
  refine v_get hC (klFa hY.2) (F := FFa Y _) (by assumption) 4 dFa_sound_1 kfFa_37 (by decide) rfl ?_
  refine v_if_eq hB 21 dFa_sound_4 (by decide) (fun c0 => ?_) (fun c0 => ?_)
  · rw [snW, if_pos c0] at h
    refine v_iconst hB dFa_sound_21 (v := 0) (by decide) ?_
    exact v_zret hC rfl (by decide) dFa_sound_22 ⟨false, rfl, h⟩
  rw [snW, if_neg c0] at h
  refine v_aload_n hB dFa_sound_7 rfl ?_
  refine v_get hC (klFa hY.2) (F := FFa Y _) (by assumption) 1 dFa_sound_8 kfFa_19 (by decide) rfl ?_
  refine v_callV hC tbok kmFa_150 kiTr_isWhole ksTr_isWhole dFa_sound_11 (F := FTr Y _) (by assumption) (by rw [hY.2]; rfl) (cTr_isWhole hY hW h) rfl rfl ⟨Nat.le_of_ble_eq_true rfl, Nat.le_of_ble_eq_true rfl⟩ rfl rfl (Nat.le_of_ble_eq_true rfl) ⟨Nat.zero_le _, Nat.zero_le _⟩ (kB fun b ν h1 => ?_)
  refine v_if_eq hB 21 dFa_sound_14 (by decide) (fun c1 => ?_) (fun c1 => ?_)
  · rw [bI_0.mp c1] at h1
    refine v_iconst hB dFa_sound_21 (v := 0) (by decide) ?_
    exact v_zret hC rfl (by decide) dFa_sound_22 ⟨false, rfl, h1⟩
  rw [bI_n.mp c1] at h1
  refine v_iconst hB dFa_sound_17 (v := 1) (by decide) ?_
  refine v_goto hB 22 dFa_sound_18 (by decide) ?_
  exact v_zret hC rfl (by decide) dFa_sound_22 ⟨true, rfl, h1⟩
end
section
/-! THE REFERENCE. Its entry k as a box: x1, y1, x2, y2, name. -/
def YM (Y : Yt) : Prop := isMo Y 0 ∧ AI Y 1 205
def eB (μ : Mu) (k : Nat) : Nat → Int32 := fun q => if q < 4 then μ.1 1 (5 * k + 1 + q) else μ.1 1 (5 * k)
def w5 (a b c d n : Int32) : Nat → Int32 := fun q => match q with
  | 0 => a
  | 1 => b
  | 2 => c
  | 3 => d
  | _ => n
theorem n5 (k : Nat) : 5 * nI k = nI (5 * k) := pk_mul 5 k
def mEn (μ : Mu) (a : Int32) : Int32 × Mu := if μ.1 0 1 < 0 then (a, μ) else (-4, wi (wi μ 0 1 (-1)) 0 0 0)
def mCt (μ : Mu) : Bool := decide (μ.1 0 1 < 0) || decide (3 ≤ μ.1 0 1)
def sw1 (μ : Mu) (i p : Nat) : Mu := wi (wi μ 1 (5 * (i + 1) + p) (μ.1 1 (5 * i + p))) 1 (5 * i + p) (μ.1 1 (5 * (i + 1) + p))
def swL (i : Nat) : Nat → Nat → Mu → Mu
  | 0, _, μ => μ
  | r + 1, p, μ => swL i r (p + 1) (sw1 μ i p)
def isL : Nat → Mu → Mu
  | 0, μ => μ
  | i + 1, μ => if precB (eB μ (i + 1)) (eB μ i) = true then isL i (swL i 5 0 μ) else μ
theorem sw1_0 (μ : Mu) (i p : Nat) : (sw1 μ i p).1 0 = μ.1 0 := by
  unfold sw1
  rw [wi_ne _ _ _ (show (0 : Nat) ≠ 1 by decide), wi_ne _ _ _ (show (0 : Nat) ≠ 1 by decide)]
theorem swL_0 (i : Nat) : ∀ (r p : Nat) (μ : Mu), (swL i r p μ).1 0 = μ.1 0
  | 0, _, _ => rfl
  | r + 1, p, μ => by rw [swL, swL_0 i r (p + 1), sw1_0]
theorem isL_0 : ∀ (i : Nat) (μ : Mu), (isL i μ).1 0 = μ.1 0
  | 0, _ => rfl
  | i + 1, μ => by
    rw [isL]
    split
    · rw [isL_0 i, swL_0]
    · rfl
def pt5 (μ : Mu) (m : Nat) (n a b c d : Int32) : Mu := wi (wi (wi (wi (wi μ 1 (5 * m + 0) n) 1 (5 * m + 1) a) 1 (5 * m + 2) b) 1 (5 * m + 3) c) 1 (5 * m + 4) d
def mIn (μ : Mu) (m : Nat) (n a b c d : Int32) : Mu := isL m (wi (pt5 μ m n a b c d) 0 2 (nI (m + 1)))
def rmL : Nat → Nat → Mu → Mu
  | 0, _, μ => μ
  | r + 1, i, μ => rmL r (i + 1) (wi μ 1 i (μ.1 1 (i + 5)))
def mRm (μ : Mu) (m k : Nat) : Mu := rmL (5 * (m - 1) - 5 * k) (5 * k) (wi μ 0 2 (nI (m - 1)))
def rIn (μ : Mu) (m : Nat) (n a b c d : Int32) : Int32 × Mu := if μ.1 0 0 = 0 then (-3, μ) else if isNm n = true ∧ isRc a b c d = true then (if m = 40 then (-2, μ) else if mCt μ = true then mEn (mIn μ m n a b c d) (nI (m + 1)) else mEn μ (nI m)) else (-1, μ)
def dlF (μ : Mu) (n a b c d : Int32) : Nat → Nat → Int32 → Int32
  | 0, _, f => f
  | r + 1, k, f => dlF μ n a b c d r (k + 1) (if sameB (eB μ k) (w5 a b c d n) = true then nI k else f)
def mtF (μ : Mu) (a b c d : Int32) : Nat → Nat → Int32 → Int32
  | 0, _, _ => -1
  | r + 1, k, f => if meetB (eB μ k) (w5 a b c d 0) = true then (if f = 0 then nI k else mtF μ a b c d r (k + 1) (f - 1)) else mtF μ a b c d r (k + 1) f
def mtN (μ : Mu) (m : Nat) (a b c d n : Int32) : Int32 := if n < 0 then -1 else mtF μ a b c d m 0 n
/-- what is done with the entry at f, or with none -/
def rTo (μ : Mu) (m : Nat) (f : Int32) (ans : Nat → Mu → Int32) : Int32 × Mu := if f < 0 then (-1, μ) else if mCt μ = true then mEn (mRm μ m f.toNatClampNeg) (ans f.toNatClampNeg (mRm μ m f.toNatClampNeg)) else mEn μ (ans f.toNatClampNeg μ)
def cnF (μ : Mu) (p : (Nat → Int32) → Bool) : Nat → Nat
  | 0 => 0
  | k + 1 => cnF μ p k + (if p (eB μ k) = true then 1 else 0)
theorem cnF_le (μ : Mu) (p : (Nat → Int32) → Bool) : ∀ k, cnF μ p k ≤ k
  | 0 => Nat.le_refl 0
  | k + 1 => by
    have := cnF_le μ p k
    rw [cnF]
    split <;> omega
def nrF (μ : Mu) (x y : Int32) : Nat → Nat → Nat → Nat
  | 0, _, b => b
  | r + 1, k, b => nrF μ x y r (k + 1) (if sqB (eB μ k) x y < sqB (eB μ b) x y then k else b)
theorem nrF_lt (μ : Mu) (x y : Int32) (m : Nat) : ∀ (r k b : Nat), k + r = m → b < m → nrF μ x y r k b < m
  | 0, _, _, _, hb => hb
  | r + 1, k, b, hk, hb => by
    rw [nrF]
    refine nrF_lt μ x y m r (k + 1) _ (by omega) ?_
    split <;> omega
def nrN (μ : Mu) (m : Nat) (x y : Int32) : Int32 := if isCo x = true ∧ isCo y = true ∧ 0 < m then nI (nrF μ x y (m - 1) 1 0) else -1
def agF (μ : Mu) (s : Nat) : Nat → Nat → Int32 → Int32
  | 0, _, v => v
  | r + 1, k, v => agF μ s r (k + 1) (if s < 2 then (if eB μ k s < v then eB μ k s else v) else (if v < eB μ k s then eB μ k s else v))
theorem ne_lt {x : Int32} (h : ¬ x < 0) : 0 ≤ x := Int32.not_lt.mp h
set_option maxHeartbeats 4000000 in
set_option maxRecDepth 100000 in
theorem cMo_far {l : Launch} {Y : Yt} (hY : YB Y) (n : Int32) (μ : Mu) : Ct l Y yMo_far wMo_far ({ frames := 0, cells := 0, slots := 0, locals := 0 }) [.int n] μ (PE (some (.int (bI (!isCo n)))) μ) := by
  refine ct_of hY.1 (by decide) rfl (Nat.le_of_ble_eq_true rfl) (lv := [some (.int n)]) rfl (fun X hC => ?_)
  have hB := hC.B
  refine v_iload_n hB dMo_far_0 rfl ?_
  refine v_ldc hC (v := -1000000000) kfMo_21 dMo_far_1 ?_
  refine v_icmp_lt hB 12 dMo_far_3 (by decide) (fun c => ?_) (fun c => ?_)
  · refine v_iconst hB dMo_far_12 (v := 1) (by decide) ?_
    refine v_goto hB 17 dMo_far_13 (by decide) ?_
    exact v_zret hC rfl (by decide) dMo_far_17 ⟨congrArg (fun x => some (Value.int x)) (bI_t (by simp only [isCo]; simp [c])), rfl⟩
  refine v_iload_n hB dMo_far_6 rfl ?_
  refine v_ldc hC (v := 1000000000) kfMo_22 dMo_far_7 ?_
  refine v_icmp_le hB 16 dMo_far_9 (by decide) (fun c1 => ?_) (fun c1 => ?_)
  · refine v_iconst hB dMo_far_16 (v := 0) (by decide) ?_
    exact v_zret hC rfl (by decide) dMo_far_17 ⟨congrArg (fun x => some (Value.int x)) (bI_ff (by simp only [isCo]; simp [Int32.not_lt.mp c, c1])), rfl⟩
  refine v_iconst hB dMo_far_12 (v := 1) (by decide) ?_
  refine v_goto hB 17 dMo_far_13 (by decide) ?_
  exact v_zret hC rfl (by decide) dMo_far_17 ⟨congrArg (fun x => some (Value.int x)) (bI_t (by simp only [isCo]; simp [Int32.not_le.mp c1])), rfl⟩

set_option maxHeartbeats 4000000 in
set_option maxRecDepth 100000 in
theorem cMo_badName {l : Launch} {Y : Yt} (hY : YB Y) (n : Int32) (μ : Mu) : Ct l Y yMo_badName wMo_badName ({ frames := 0, cells := 0, slots := 0, locals := 0 }) [.int n] μ (PE (some (.int (bI (!isNm n)))) μ) := by
  refine ct_of hY.1 (by decide) rfl (Nat.le_of_ble_eq_true rfl) (lv := [some (.int n)]) rfl (fun X hC => ?_)
  have hB := hC.B
  refine v_iload_n hB dMo_badName_0 rfl ?_
  refine v_if_lt hB 11 dMo_badName_1 (by decide) (fun c => ?_) (fun c => ?_)
  · refine v_iconst hB dMo_badName_11 (v := 1) (by decide) ?_
    refine v_goto hB 16 dMo_badName_12 (by decide) ?_
    exact v_zret hC rfl (by decide) dMo_badName_16 ⟨congrArg (fun x => some (Value.int x)) (bI_t (by simp only [isNm]; simp [c])), rfl⟩
  refine v_iload_n hB dMo_badName_4 rfl ?_
  refine v_sipush hB dMo_badName_5 (v := 999) (by decide) ?_
  refine v_icmp_le hB 15 dMo_badName_8 (by decide) (fun c1 => ?_) (fun c1 => ?_)
  · refine v_iconst hB dMo_badName_15 (v := 0) (by decide) ?_
    exact v_zret hC rfl (by decide) dMo_badName_16 ⟨congrArg (fun x => some (Value.int x)) (bI_ff (by simp only [isNm]; simp [Int32.not_lt.mp c, c1])), rfl⟩
  refine v_iconst hB dMo_badName_11 (v := 1) (by decide) ?_
  refine v_goto hB 16 dMo_badName_12 (by decide) ?_
  exact v_zret hC rfl (by decide) dMo_badName_16 ⟨congrArg (fun x => some (Value.int x)) (bI_t (by simp only [isNm]; simp [Int32.not_le.mp c1])), rfl⟩

set_option maxHeartbeats 4000000 in
set_option maxRecDepth 100000 in
theorem cMo_bad {l : Launch} {Y : Yt} (hY : YB Y) (a b c d : Int32) (μ : Mu) : Ct l Y yMo_bad wMo_bad ({ frames := 1, cells := 0, slots := 0, locals := 20 }) [.int a, .int b, .int c, .int d] μ (PE (some (.int (bI (!isRc a b c d)))) μ) := by
  refine ct_of hY.1 (by decide) rfl (Nat.le_of_ble_eq_true rfl) (lv := [some (.int a), some (.int b), some (.int c), some (.int d)]) rfl (fun X hC => ?_)
  have hB := hC.B
  refine v_iload_n hB dMo_bad_0 rfl ?_
  refine v_callS hC tbok kmMo_23 ktMo_far dMo_bad_1 (cMo_far hY a μ) rfl rfl ⟨Nat.le_of_ble_eq_true rfl, Nat.le_of_ble_eq_true rfl⟩ rfl rfl (Nat.le_of_ble_eq_true rfl) ⟨Nat.zero_le _, Nat.zero_le _⟩ (kE rfl ?_)
  refine v_if_ne hB 38 dMo_bad_4 (by decide) (fun e0 => ?_) (fun e0 => ?_)
  · have f : isCo a = false := by have := bI_n.mp e0; simpa using this
    refine v_iconst hB dMo_bad_38 (v := 1) (by decide) ?_
    refine v_goto hB 43 dMo_bad_39 (by decide) ?_
    exact v_zret hC rfl (by decide) dMo_bad_43 ⟨congrArg (fun x => some (Value.int x)) (bI_t (by simp only [isRc]; simp [f])), rfl⟩
  have f0 : isCo a = true := by have := bI_0.mp e0; simpa using this
  refine v_iload_n hB dMo_bad_7 rfl ?_
  refine v_callS hC tbok kmMo_23 ktMo_far dMo_bad_8 (cMo_far hY b μ) rfl rfl ⟨Nat.le_of_ble_eq_true rfl, Nat.le_of_ble_eq_true rfl⟩ rfl rfl (Nat.le_of_ble_eq_true rfl) ⟨Nat.zero_le _, Nat.zero_le _⟩ (kE rfl ?_)
  refine v_if_ne hB 38 dMo_bad_11 (by decide) (fun e1 => ?_) (fun e1 => ?_)
  · have f : isCo b = false := by have := bI_n.mp e1; simpa using this
    refine v_iconst hB dMo_bad_38 (v := 1) (by decide) ?_
    refine v_goto hB 43 dMo_bad_39 (by decide) ?_
    exact v_zret hC rfl (by decide) dMo_bad_43 ⟨congrArg (fun x => some (Value.int x)) (bI_t (by simp only [isRc]; simp [f])), rfl⟩
  have f1 : isCo b = true := by have := bI_0.mp e1; simpa using this
  refine v_iload_n hB dMo_bad_14 rfl ?_
  refine v_callS hC tbok kmMo_23 ktMo_far dMo_bad_15 (cMo_far hY c μ) rfl rfl ⟨Nat.le_of_ble_eq_true rfl, Nat.le_of_ble_eq_true rfl⟩ rfl rfl (Nat.le_of_ble_eq_true rfl) ⟨Nat.zero_le _, Nat.zero_le _⟩ (kE rfl ?_)
  refine v_if_ne hB 38 dMo_bad_18 (by decide) (fun e2 => ?_) (fun e2 => ?_)
  · have f : isCo c = false := by have := bI_n.mp e2; simpa using this
    refine v_iconst hB dMo_bad_38 (v := 1) (by decide) ?_
    refine v_goto hB 43 dMo_bad_39 (by decide) ?_
    exact v_zret hC rfl (by decide) dMo_bad_43 ⟨congrArg (fun x => some (Value.int x)) (bI_t (by simp only [isRc]; simp [f])), rfl⟩
  have f2 : isCo c = true := by have := bI_0.mp e2; simpa using this
  refine v_iload_n hB dMo_bad_21 rfl ?_
  refine v_callS hC tbok kmMo_23 ktMo_far dMo_bad_22 (cMo_far hY d μ) rfl rfl ⟨Nat.le_of_ble_eq_true rfl, Nat.le_of_ble_eq_true rfl⟩ rfl rfl (Nat.le_of_ble_eq_true rfl) ⟨Nat.zero_le _, Nat.zero_le _⟩ (kE rfl ?_)
  refine v_if_ne hB 38 dMo_bad_25 (by decide) (fun e3 => ?_) (fun e3 => ?_)
  · have f : isCo d = false := by have := bI_n.mp e3; simpa using this
    refine v_iconst hB dMo_bad_38 (v := 1) (by decide) ?_
    refine v_goto hB 43 dMo_bad_39 (by decide) ?_
    exact v_zret hC rfl (by decide) dMo_bad_43 ⟨congrArg (fun x => some (Value.int x)) (bI_t (by simp only [isRc]; simp [f])), rfl⟩
  have f3 : isCo d = true := by have := bI_0.mp e3; simpa using this
  refine v_iload_n hB dMo_bad_28 rfl ?_
  refine v_iload_n hB dMo_bad_29 rfl ?_
  refine v_icmp_gt hB 38 dMo_bad_30 (by decide) (fun e4 => ?_) (fun e4 => ?_)
  · refine v_iconst hB dMo_bad_38 (v := 1) (by decide) ?_
    refine v_goto hB 43 dMo_bad_39 (by decide) ?_
    exact v_zret hC rfl (by decide) dMo_bad_43 ⟨congrArg (fun x => some (Value.int x)) (bI_t (by simp only [isRc]; simp [Int32.not_le.mpr e4])), rfl⟩
  refine v_iload_n hB dMo_bad_33 rfl ?_
  refine v_iload_n hB dMo_bad_34 rfl ?_
  refine v_icmp_le hB 42 dMo_bad_35 (by decide) (fun e5 => ?_) (fun e5 => ?_)
  · refine v_iconst hB dMo_bad_42 (v := 0) (by decide) ?_
    exact v_zret hC rfl (by decide) dMo_bad_43 ⟨congrArg (fun x => some (Value.int x)) (bI_ff (by simp only [isRc]; simp [f0, f1, f2, f3, Int32.not_lt.mp e4, e5])), rfl⟩
  refine v_iconst hB dMo_bad_38 (v := 1) (by decide) ?_
  refine v_goto hB 43 dMo_bad_39 (by decide) ?_
  exact v_zret hC rfl (by decide) dMo_bad_43 ⟨congrArg (fun x => some (Value.int x)) (bI_t (by simp only [isRc]; simp [e5])), rfl⟩

set_option maxHeartbeats 4000000 in
set_option maxRecDepth 100000 in
theorem cMo_part {l : Launch} {Y : Yt} (hY : YB Y) (hW : YM Y) {k q : Nat} (hk : k ≤ 40) (hq : q < 5) (μ : Mu) : Ct l Y yMo_part wMo_part ({ frames := 0, cells := 0, slots := 0, locals := 0 }) [.ref (ad Y 0), .int (nI k), .int (nI q)] μ (PE (some (.int (eB μ k q))) μ) := by
  refine ct_of hY.1 (by decide) rfl (Nat.le_of_ble_eq_true rfl) (lv := [some (.ref (ad Y 0)), some (.int (nI k)), some (.int (nI q))]) rfl (fun X hC => ?_)
  have hB := hC.B
  obtain ⟨hMo, hAr⟩ := id hW
  refine v_iload_n hB dMo_part_0 rfl ?_
  refine v_iconst hB dMo_part_1 (v := 4) (by decide) ?_
  refine v_icmp_ge hB 20 dMo_part_2 (by decide) (fun c => ?_) (fun c => ?_)
  · have hq4 : ¬ q < 4 := by
      rw [show (4 : Int32) = nI 4 from rfl, nI_leI (by omega) (by omega)] at c
      omega
    refine v_aload_n hB dMo_part_20 rfl ?_
    refine v_get hC (klMo hY.2) (F := FMo Y _) (by assumption) 3 dMo_part_21 kfMo_17 (by decide) rfl ?_
    refine v_iconst hB dMo_part_24 (v := 5) (by decide) ?_
    refine v_iload_n hB dMo_part_25 rfl ?_
    refine v_imul hB dMo_part_26 ?_
    refine v_iald hC hAr (5 * k) dMo_part_27 (n5 k) (by omega) (by decide) ?_
    exact v_iret hC rfl dMo_part_28 ⟨by rw [eB, if_neg hq4], rfl⟩
  have hq4 : q < 4 := by
    rw [show (4 : Int32) = nI 4 from rfl, nI_leI (by omega) (by omega)] at c
    omega
  refine v_aload_n hB dMo_part_5 rfl ?_
  refine v_get hC (klMo hY.2) (F := FMo Y _) (by assumption) 3 dMo_part_6 kfMo_17 (by decide) rfl ?_
  refine v_iconst hB dMo_part_9 (v := 5) (by decide) ?_
  refine v_iload_n hB dMo_part_10 rfl ?_
  refine v_imul hB dMo_part_11 ?_
  refine v_iconst hB dMo_part_12 (v := 1) (by decide) ?_
  refine v_iadd hB dMo_part_13 ?_
  refine v_iload_n hB dMo_part_14 rfl ?_
  refine v_iadd hB dMo_part_15 ?_
  refine v_iald hC hAr (5 * k + 1 + q) dMo_part_16 (by rw [n5, nI_1, nI_add]) (by omega) (by decide) ?_
  refine v_goto hB 28 dMo_part_17 (by decide) ?_
  exact v_iret hC rfl dMo_part_28 ⟨by rw [eB, if_pos hq4], rfl⟩

set_option maxHeartbeats 4000000 in
set_option maxRecDepth 100000 in
theorem cMo_before {l : Launch} {Y : Yt} (hY : YB Y) (hW : YM Y) {k j : Nat} (hk : k ≤ 40) (hj : j ≤ 40) (μ : Mu) : Ct l Y yMo_before wMo_before ({ frames := 1, cells := 0, slots := 0, locals := 22 }) [.ref (ad Y 0), .int (nI k), .int (nI j)] μ (PE (some (.int (bI (precB (eB μ k) (eB μ j))))) μ) := by
  refine ct_of hY.1 (by decide) rfl (Nat.le_of_ble_eq_true rfl) (lv := [some (.ref (ad Y 0)), some (.int (nI k)), some (.int (nI j)), none]) rfl (fun X hC => ?_)
  have hB := hC.B
  obtain ⟨hMo, hAr⟩ := id hW
  have step : ∀ p : Nat, p < 5 → (eB μ k p = eB μ j p → VG X (yA Y) 4 0 0 (VQ X Y (PE (some (.int (bI (precB (eB μ k) (eB μ j))))) μ)) (yI Y (μ)) 2 [some (.ref (ad Y 0)), some (.int (nI k)), some (.int (nI j)), some (.int (nI (p + 1)))] []) → (¬ eB μ k p = eB μ j p → decide (eB μ k p < eB μ j p) = precB (eB μ k) (eB μ j)) → VG X (yA Y) 4 0 0 (VQ X Y (PE (some (.int (bI (precB (eB μ k) (eB μ j))))) μ)) (yI Y (μ)) 2 [some (.ref (ad Y 0)), some (.int (nI k)), some (.int (nI j)), some (.int (nI p))] [] := by
    intro p hp he hn
    refine v_iload_n hB dMo_before_2 rfl ?_
    refine v_iconst hB dMo_before_3 (v := 5) (by decide) ?_
    refine v_icmp_ge hB 49 dMo_before_4 (by decide) (fun c => ?_) (fun c => ?_)
    · exact absurd c (by rw [show (5 : Int32) = nI 5 from rfl]; exact (fun q => absurd ((nI_leI (by omega) (by omega)).mp q) (by omega)))
    refine v_aload_n hB dMo_before_7 rfl ?_
    refine v_iload_n hB dMo_before_8 rfl ?_
    refine v_iload_n hB dMo_before_9 rfl ?_
    refine v_callV hC tbok kmMo_27 kiMo_part ksMo_part dMo_before_10 (F := FMo Y _) (by assumption) (by rw [hY.2]; rfl) (cMo_part hY hW hk hp μ) rfl rfl ⟨Nat.le_of_ble_eq_true rfl, Nat.le_of_ble_eq_true rfl⟩ rfl rfl (Nat.le_of_ble_eq_true rfl) ⟨Nat.zero_le _, Nat.zero_le _⟩ (kE rfl ?_)
    refine v_aload_n hB dMo_before_13 rfl ?_
    refine v_iload_n hB dMo_before_14 rfl ?_
    refine v_iload_n hB dMo_before_15 rfl ?_
    refine v_callV hC tbok kmMo_27 kiMo_part ksMo_part dMo_before_16 (F := FMo Y _) (by assumption) (by rw [hY.2]; rfl) (cMo_part hY hW hj hp μ) rfl rfl ⟨Nat.le_of_ble_eq_true rfl, Nat.le_of_ble_eq_true rfl⟩ rfl rfl (Nat.le_of_ble_eq_true rfl) ⟨Nat.zero_le _, Nat.zero_le _⟩ (kE rfl ?_)
    refine v_icmp_eq hB 43 dMo_before_19 (by decide) (fun c1 => ?_) (fun c1 => ?_)
    · refine v_iinc hB dMo_before_43 rfl (y := _) rfl rfl (by decide) (lv' := [_, _, _, _]) rfl ?_
      refine v_goto hB 2 dMo_before_46 (by decide) ?_
      rw [i1]
      exact he c1
    refine v_aload_n hB dMo_before_22 rfl ?_
    refine v_iload_n hB dMo_before_23 rfl ?_
    refine v_iload_n hB dMo_before_24 rfl ?_
    refine v_callV hC tbok kmMo_27 kiMo_part ksMo_part dMo_before_25 (F := FMo Y _) (by assumption) (by rw [hY.2]; rfl) (cMo_part hY hW hk hp μ) rfl rfl ⟨Nat.le_of_ble_eq_true rfl, Nat.le_of_ble_eq_true rfl⟩ rfl rfl (Nat.le_of_ble_eq_true rfl) ⟨Nat.zero_le _, Nat.zero_le _⟩ (kE rfl ?_)
    refine v_aload_n hB dMo_before_28 rfl ?_
    refine v_iload_n hB dMo_before_29 rfl ?_
    refine v_iload_n hB dMo_before_30 rfl ?_
    refine v_callV hC tbok kmMo_27 kiMo_part ksMo_part dMo_before_31 (F := FMo Y _) (by assumption) (by rw [hY.2]; rfl) (cMo_part hY hW hj hp μ) rfl rfl ⟨Nat.le_of_ble_eq_true rfl, Nat.le_of_ble_eq_true rfl⟩ rfl rfl (Nat.le_of_ble_eq_true rfl) ⟨Nat.zero_le _, Nat.zero_le _⟩ (kE rfl ?_)
    refine v_icmp_ge hB 41 dMo_before_34 (by decide) (fun c2 => ?_) (fun c2 => ?_)
    · refine v_iconst hB dMo_before_41 (v := 0) (by decide) ?_
      exact v_zret hC rfl (by decide) dMo_before_42 ⟨congrArg (fun x => some (Value.int x)) (bI_ff (by rw [← hn c1]; simp [Int32.not_lt.mpr c2])), rfl⟩
    refine v_iconst hB dMo_before_37 (v := 1) (by decide) ?_
    refine v_goto hB 42 dMo_before_38 (by decide) ?_
    exact v_zret hC rfl (by decide) dMo_before_42 ⟨congrArg (fun x => some (Value.int x)) (bI_t (by rw [← hn c1]; simp [Int32.not_le.mp c2])), rfl⟩
  refine v_iconst hB dMo_before_0 (v := 0) (by decide) ?_
  refine v_istore_n hB dMo_before_1 rfl (by decide) (lv' := [_, _, _, _]) rfl ?_
  refine step 0 (by decide) (fun e0 => ?_) (fun n0 => by rw [precB, if_neg n0])
  refine step 1 (by decide) (fun e1 => ?_) (fun n1 => by rw [precB, if_pos e0, if_neg n1])
  refine step 2 (by decide) (fun e2 => ?_) (fun n2 => by rw [precB, if_pos e0, if_pos e1, if_neg n2])
  refine step 3 (by decide) (fun e3 => ?_) (fun n3 => by rw [precB, if_pos e0, if_pos e1, if_pos e2, if_neg n3])
  refine step 4 (by decide) (fun e4 => ?_) (fun n4 => by rw [precB, if_pos e0, if_pos e1, if_pos e2, if_pos e3])
  refine v_iload_n hB dMo_before_2 rfl ?_
  refine v_iconst hB dMo_before_3 (v := 5) (by decide) ?_
  refine v_icmp_ge hB 49 dMo_before_4 (by decide) (fun c => ?_) (fun c => ?_)
  · refine v_iconst hB dMo_before_49 (v := 0) (by decide) ?_
    exact v_zret hC rfl (by decide) dMo_before_50 ⟨congrArg (fun x => some (Value.int x)) (bI_ff (by rw [precB, if_pos e0, if_pos e1, if_pos e2, if_pos e3, e4]; simp)), rfl⟩
  exact absurd (by decide) c

set_option maxHeartbeats 4000000 in
set_option maxRecDepth 100000 in
theorem cMo_set {l : Launch} {Y : Yt} (hY : YB Y) (hW : YM Y) {k p : Nat} (hk : k ≤ 40) (hp : p < 5) (v : Int32) (μ : Mu) : Ct l Y yMo_set wMo_set ({ frames := 0, cells := 0, slots := 0, locals := 0 }) [.ref (ad Y 0), .int (nI k), .int (nI p), .int v] μ (PE none (wi μ 1 (5 * k + p) v)) := by
  refine ct_of hY.1 (by decide) rfl (Nat.le_of_ble_eq_true rfl) (lv := [some (.ref (ad Y 0)), some (.int (nI k)), some (.int (nI p)), some (.int v)]) rfl (fun X hC => ?_)
  have hB := hC.B
  obtain ⟨hMo, hAr⟩ := id hW
  refine v_aload_n hB dMo_set_0 rfl ?_
  refine v_get hC (klMo hY.2) (F := FMo Y _) (by assumption) 3 dMo_set_1 kfMo_17 (by decide) rfl ?_
  refine v_iconst hB dMo_set_4 (v := 5) (by decide) ?_
  refine v_iload_n hB dMo_set_5 rfl ?_
  refine v_imul hB dMo_set_6 ?_
  refine v_iload_n hB dMo_set_7 rfl ?_
  refine v_iadd hB dMo_set_8 ?_
  refine v_iload_n hB dMo_set_9 rfl ?_
  refine v_iast hC hAr (5 * k + p) dMo_set_10 (by rw [n5, nI_add]) (by omega) (by decide) ?_
  exact v_vret hC rfl dMo_set_11 ⟨rfl, rfl⟩

set_option maxHeartbeats 4000000 in
set_option maxRecDepth 100000 in
theorem cMo_ended {l : Launch} {Y : Yt} (hY : YB Y) (hW : YM Y) (a : Int32) (μ : Mu) : Ct l Y yMo_ended wMo_ended ({ frames := 0, cells := 0, slots := 0, locals := 0 }) [.ref (ad Y 0), .int a] μ (PE (some (.int (mEn μ a).1)) (mEn μ a).2) := by
  refine ct_of hY.1 (by decide) rfl (Nat.le_of_ble_eq_true rfl) (lv := [some (.ref (ad Y 0)), some (.int a)]) rfl (fun X hC => ?_)
  have hB := hC.B
  obtain ⟨hMo, hAr⟩ := id hW
  refine v_aload_n hB dMo_ended_0 rfl ?_
  refine v_get hC (klMo hY.2) (F := FMo Y _) (by assumption) 1 dMo_ended_1 kfMo_13 (by decide) rfl ?_
  refine v_if_ge hB 9 dMo_ended_4 (by decide) (fun c => ?_) (fun c => ?_)
  · refine v_aload_n hB dMo_ended_9 rfl ?_
    refine v_iconst hB dMo_ended_10 (v := -1) (by decide) ?_
    refine v_puti hC (klMo hY.2) (F := FMo Y _) (by assumption) 1 dMo_ended_11 kfMo_13 (by decide) rfl rfl rfl (fun _ _ => rfl) (fun _ _ => Nat.le_of_ble_eq_true rfl) ?_
    refine v_aload_n hB dMo_ended_14 rfl ?_
    refine v_iconst hB dMo_ended_15 (v := 0) (by decide) ?_
    refine v_puti hC (klMo hY.2) (F := FMo Y _) (by assumption) 0 dMo_ended_16 kfMo_7 (by decide) rfl (by decide) (by decide) (fun _ _ => rfl) (fun _ _ => Nat.le_of_ble_eq_true rfl) ?_
    refine v_bipush hB dMo_ended_19 (v := -4) (by decide) ?_
    exact v_iret hC rfl dMo_ended_21 ⟨by rw [mEn, if_neg (Int32.not_lt.mpr c)], by rw [mEn, if_neg (Int32.not_lt.mpr c)]⟩
  refine v_iload_n hB dMo_ended_7 rfl ?_
  exact v_iret hC rfl dMo_ended_8 ⟨by rw [mEn, if_pos (Int32.not_le.mp c)], by rw [mEn, if_pos (Int32.not_le.mp c)]⟩

set_option maxHeartbeats 4000000 in
set_option maxRecDepth 100000 in
theorem cMo_counts {l : Launch} {Y : Yt} (hY : YB Y) (hW : YM Y) (μ : Mu) : Ct l Y yMo_counts wMo_counts ({ frames := 0, cells := 0, slots := 0, locals := 0 }) [.ref (ad Y 0)] μ (PE (some (.int (bI (mCt μ)))) μ) := by
  refine ct_of hY.1 (by decide) rfl (Nat.le_of_ble_eq_true rfl) (lv := [some (.ref (ad Y 0))]) rfl (fun X hC => ?_)
  have hB := hC.B
  obtain ⟨hMo, hAr⟩ := id hW
  refine v_aload_n hB dMo_counts_0 rfl ?_
  refine v_get hC (klMo hY.2) (F := FMo Y _) (by assumption) 1 dMo_counts_1 kfMo_13 (by decide) rfl ?_
  refine v_if_lt hB 15 dMo_counts_4 (by decide) (fun c => ?_) (fun c => ?_)
  · refine v_iconst hB dMo_counts_15 (v := 1) (by decide) ?_
    refine v_goto hB 20 dMo_counts_16 (by decide) ?_
    exact v_zret hC rfl (by decide) dMo_counts_20 ⟨congrArg (fun x => some (Value.int x)) (bI_t (by simp only [mCt]; simp [c])), rfl⟩
  refine v_aload_n hB dMo_counts_7 rfl ?_
  refine v_get hC (klMo hY.2) (F := FMo Y _) (by assumption) 1 dMo_counts_8 kfMo_13 (by decide) rfl ?_
  refine v_iconst hB dMo_counts_11 (v := 3) (by decide) ?_
  refine v_icmp_lt hB 19 dMo_counts_12 (by decide) (fun c1 => ?_) (fun c1 => ?_)
  · refine v_iconst hB dMo_counts_19 (v := 0) (by decide) ?_
    exact v_zret hC rfl (by decide) dMo_counts_20 ⟨congrArg (fun x => some (Value.int x)) (bI_ff (by simp only [mCt]; simp [Int32.not_lt.mp c, c1])), rfl⟩
  refine v_iconst hB dMo_counts_15 (v := 1) (by decide) ?_
  refine v_goto hB 20 dMo_counts_16 (by decide) ?_
  exact v_zret hC rfl (by decide) dMo_counts_20 ⟨congrArg (fun x => some (Value.int x)) (bI_t (by simp only [mCt]; simp [Int32.not_lt.mp c1])), rfl⟩

set_option maxHeartbeats 4000000 in
set_option maxRecDepth 100000 in
theorem cMo_insert {l : Launch} {Y : Yt} (hY : YB Y) (hW : YM Y) {m : Nat} (n a b c d : Int32) (μ : Mu) (hm : μ.1 0 2 = nI m) (hm40 : m ≤ 40) : Ct l Y yMo_insert wMo_insert ({ frames := 2, cells := 0, slots := 0, locals := 45 }) [.ref (ad Y 0), .int n, .int a, .int b, .int c, .int d] μ (PE (some (.int (rIn μ m n a b c d).1)) (rIn μ m n a b c d).2) := by
  refine ct_of hY.1 (by decide) rfl (Nat.le_of_ble_eq_true rfl) (lv := [some (.ref (ad Y 0)), some (.int n), some (.int a), some (.int b), some (.int c), some (.int d), none, none, none]) rfl (fun X hC => ?_)
  have hB := hC.B
  obtain ⟨hMo, hAr⟩ := id hW
  refine v_aload_n hB dMo_insert_0 rfl ?_
  refine v_get hC (klMo hY.2) (F := FMo Y _) (by assumption) 0 dMo_insert_1 kfMo_7 (by decide) rfl ?_
  refine v_if_ne hB 10 dMo_insert_4 (by decide) (fun c0 => ?_) (fun c0 => ?_)
  rotate_left
  · refine v_bipush hB dMo_insert_7 (v := -3) (by decide) ?_
    exact v_iret hC rfl dMo_insert_9 ⟨by rw [rIn, if_pos c0], by rw [rIn, if_pos c0]⟩
  refine v_iload_n hB dMo_insert_10 rfl ?_
  refine v_callS hC tbok kmMo_31 ktMo_badName dMo_insert_11 (cMo_badName hY n μ) rfl rfl ⟨Nat.le_of_ble_eq_true rfl, Nat.le_of_ble_eq_true rfl⟩ rfl rfl (Nat.le_of_ble_eq_true rfl) ⟨Nat.zero_le _, Nat.zero_le _⟩ (kE rfl ?_)
  refine v_if_ne hB 29 dMo_insert_14 (by decide) (fun c1 => ?_) (fun c1 => ?_)
  · have hz : ¬ (isNm n = true ∧ isRc a b c d = true) := fun z => by have := bI_n.mp c1; rw [z.1] at this; exact absurd this (by decide)
    refine v_iconst hB dMo_insert_29 (v := -1) (by decide) ?_
    exact v_iret hC rfl dMo_insert_30 ⟨by rw [rIn, if_neg c0, if_neg hz], by rw [rIn, if_neg c0, if_neg hz]⟩
  refine v_iload_n hB dMo_insert_17 rfl ?_
  refine v_iload_n hB dMo_insert_18 rfl ?_
  refine v_iload hB dMo_insert_19 rfl ?_
  refine v_iload hB dMo_insert_21 rfl ?_
  refine v_callS hC tbok kmMo_34 ktMo_bad dMo_insert_23 (cMo_bad hY a b c d μ) rfl rfl ⟨Nat.le_of_ble_eq_true rfl, Nat.le_of_ble_eq_true rfl⟩ rfl rfl (Nat.le_of_ble_eq_true rfl) ⟨Nat.zero_le _, Nat.zero_le _⟩ (kE rfl ?_)
  refine v_if_eq hB 31 dMo_insert_26 (by decide) (fun c2 => ?_) (fun c2 => ?_)
  rotate_left
  · have hz : ¬ (isNm n = true ∧ isRc a b c d = true) := fun z => by have := bI_n.mp c2; rw [z.2] at this; exact absurd this (by decide)
    refine v_iconst hB dMo_insert_29 (v := -1) (by decide) ?_
    exact v_iret hC rfl dMo_insert_30 ⟨by rw [rIn, if_neg c0, if_neg hz], by rw [rIn, if_neg c0, if_neg hz]⟩
  have hz : isNm n = true ∧ isRc a b c d = true := ⟨by have := bI_0.mp c1; simpa using this, by have := bI_0.mp c2; simpa using this⟩
  refine v_aload_n hB dMo_insert_31 rfl ?_
  refine v_get hC (klMo hY.2) (F := FMo Y _) (by assumption) 2 dMo_insert_32 kfMo_38 (by decide) rfl ?_
  refine v_bipush hB dMo_insert_35 (v := 40) (by decide) ?_
  refine v_icmp_ne hB 43 dMo_insert_37 (by decide) (fun c3 => ?_) (fun c3 => ?_)
  rotate_left
  · have h40 : m = 40 := by rw [hm, show (40 : Int32) = nI 40 from rfl, nI_eq (by omega) (by omega)] at c3; exact c3
    refine v_bipush hB dMo_insert_40 (v := -2) (by decide) ?_
    exact v_iret hC rfl dMo_insert_42 ⟨by rw [rIn, if_neg c0, if_pos hz, if_pos h40], by rw [rIn, if_neg c0, if_pos hz, if_pos h40]⟩
  have h40 : ¬ m = 40 := fun z => c3 (by rw [hm, z]; rfl)
  have last : ∀ ν : Mu, (rIn μ m n a b c d) = mEn ν (ν.1 0 2) → VG X (yA Y) 9 0 0 (VQ X Y (PE (some (.int (rIn μ m n a b c d).1)) (rIn μ m n a b c d).2)) (yI Y (ν)) 205 [some (.ref (ad Y 0)), some (.int n), some (.int a), some (.int b), some (.int c), some (.int d), none, none, none] [] := by
    intro ν hν
    refine v_aload_n hB dMo_insert_205 rfl ?_
    refine v_aload_n hB dMo_insert_206 rfl ?_
    refine v_get hC (klMo hY.2) (F := FMo Y _) (by assumption) 2 dMo_insert_207 kfMo_38 (by decide) rfl ?_
    refine v_callV hC tbok kmMo_53 kiMo_ended ksMo_ended dMo_insert_210 (F := FMo Y _) (by assumption) (by rw [hY.2]; rfl) (cMo_ended hY hW _ ν) rfl rfl ⟨Nat.le_of_ble_eq_true rfl, Nat.le_of_ble_eq_true rfl⟩ rfl rfl (Nat.le_of_ble_eq_true rfl) ⟨Nat.zero_le _, Nat.zero_le _⟩ (kE rfl ?_)
    exact v_iret hC rfl dMo_insert_213 ⟨by rw [hν], by rw [hν]⟩
  refine v_aload_n hB dMo_insert_43 rfl ?_
  refine v_callV hC tbok kmMo_41 kiMo_counts ksMo_counts dMo_insert_44 (F := FMo Y _) (by assumption) (by rw [hY.2]; rfl) (cMo_counts hY hW μ) rfl rfl ⟨Nat.le_of_ble_eq_true rfl, Nat.le_of_ble_eq_true rfl⟩ rfl rfl (Nat.le_of_ble_eq_true rfl) ⟨Nat.zero_le _, Nat.zero_le _⟩ (kE rfl ?_)
  refine v_if_eq hB 205 dMo_insert_47 (by decide) (fun c4 => ?_) (fun c4 => ?_)
  · exact last μ (by rw [rIn, if_neg c0, if_pos hz, if_neg h40, if_neg (by rw [bI_0.mp c4]; decide), hm])
  refine v_aload_n hB dMo_insert_50 rfl ?_
  refine v_aload_n hB dMo_insert_51 rfl ?_
  refine v_get hC (klMo hY.2) (F := FMo Y _) (by assumption) 2 dMo_insert_52 kfMo_38 (by decide) rfl ?_
  rw [hm]
  refine v_iconst hB dMo_insert_55 (v := 0) (by decide) ?_
  refine v_iload_n hB dMo_insert_56 rfl ?_
  refine v_callV hC tbok kmMo_45 kiMo_set ksMo_set dMo_insert_57 (F := FMo Y _) (by assumption) (by rw [hY.2]; rfl) (cMo_set (p := 0) hY hW hm40 (by decide) n μ) rfl rfl ⟨Nat.le_of_ble_eq_true rfl, Nat.le_of_ble_eq_true rfl⟩ rfl rfl (Nat.le_of_ble_eq_true rfl) ⟨Nat.zero_le _, Nat.zero_le _⟩ (kE rfl ?_)
  have m0 : (wi μ 1 (5 * m + 0) n).1 0 2 = nI m := by rw [wi_ne _ _ _ (show (0 : Nat) ≠ 1 by decide)]; exact hm
  refine v_aload_n hB dMo_insert_60 rfl ?_
  refine v_aload_n hB dMo_insert_61 rfl ?_
  refine v_get hC (klMo hY.2) (F := FMo Y _) (by assumption) 2 dMo_insert_62 kfMo_38 (by decide) rfl ?_
  rw [m0]
  refine v_iconst hB dMo_insert_65 (v := 1) (by decide) ?_
  refine v_iload_n hB dMo_insert_66 rfl ?_
  refine v_callV hC tbok kmMo_45 kiMo_set ksMo_set dMo_insert_67 (F := FMo Y _) (by assumption) (by rw [hY.2]; rfl) (cMo_set (p := 1) hY hW hm40 (by decide) a _) rfl rfl ⟨Nat.le_of_ble_eq_true rfl, Nat.le_of_ble_eq_true rfl⟩ rfl rfl (Nat.le_of_ble_eq_true rfl) ⟨Nat.zero_le _, Nat.zero_le _⟩ (kE rfl ?_)
  have m1 : (wi (wi μ 1 (5 * m + 0) n) 1 (5 * m + 1) a).1 0 2 = nI m := by rw [wi_ne _ _ _ (show (0 : Nat) ≠ 1 by decide)]; exact m0
  refine v_aload_n hB dMo_insert_70 rfl ?_
  refine v_aload_n hB dMo_insert_71 rfl ?_
  refine v_get hC (klMo hY.2) (F := FMo Y _) (by assumption) 2 dMo_insert_72 kfMo_38 (by decide) rfl ?_
  rw [m1]
  refine v_iconst hB dMo_insert_75 (v := 2) (by decide) ?_
  refine v_iload_n hB dMo_insert_76 rfl ?_
  refine v_callV hC tbok kmMo_45 kiMo_set ksMo_set dMo_insert_77 (F := FMo Y _) (by assumption) (by rw [hY.2]; rfl) (cMo_set (p := 2) hY hW hm40 (by decide) b _) rfl rfl ⟨Nat.le_of_ble_eq_true rfl, Nat.le_of_ble_eq_true rfl⟩ rfl rfl (Nat.le_of_ble_eq_true rfl) ⟨Nat.zero_le _, Nat.zero_le _⟩ (kE rfl ?_)
  have m2 : (wi (wi (wi μ 1 (5 * m + 0) n) 1 (5 * m + 1) a) 1 (5 * m + 2) b).1 0 2 = nI m := by rw [wi_ne _ _ _ (show (0 : Nat) ≠ 1 by decide)]; exact m1
  refine v_aload_n hB dMo_insert_80 rfl ?_
  refine v_aload_n hB dMo_insert_81 rfl ?_
  refine v_get hC (klMo hY.2) (F := FMo Y _) (by assumption) 2 dMo_insert_82 kfMo_38 (by decide) rfl ?_
  rw [m2]
  refine v_iconst hB dMo_insert_85 (v := 3) (by decide) ?_
  refine v_iload hB dMo_insert_86 rfl ?_
  refine v_callV hC tbok kmMo_45 kiMo_set ksMo_set dMo_insert_88 (F := FMo Y _) (by assumption) (by rw [hY.2]; rfl) (cMo_set (p := 3) hY hW hm40 (by decide) c _) rfl rfl ⟨Nat.le_of_ble_eq_true rfl, Nat.le_of_ble_eq_true rfl⟩ rfl rfl (Nat.le_of_ble_eq_true rfl) ⟨Nat.zero_le _, Nat.zero_le _⟩ (kE rfl ?_)
  have m3 : (wi (wi (wi (wi μ 1 (5 * m + 0) n) 1 (5 * m + 1) a) 1 (5 * m + 2) b) 1 (5 * m + 3) c).1 0 2 = nI m := by rw [wi_ne _ _ _ (show (0 : Nat) ≠ 1 by decide)]; exact m2
  refine v_aload_n hB dMo_insert_91 rfl ?_
  refine v_aload_n hB dMo_insert_92 rfl ?_
  refine v_get hC (klMo hY.2) (F := FMo Y _) (by assumption) 2 dMo_insert_93 kfMo_38 (by decide) rfl ?_
  rw [m3]
  refine v_iconst hB dMo_insert_96 (v := 4) (by decide) ?_
  refine v_iload hB dMo_insert_97 rfl ?_
  refine v_callV hC tbok kmMo_45 kiMo_set ksMo_set dMo_insert_99 (F := FMo Y _) (by assumption) (by rw [hY.2]; rfl) (cMo_set (p := 4) hY hW hm40 (by decide) d _) rfl rfl ⟨Nat.le_of_ble_eq_true rfl, Nat.le_of_ble_eq_true rfl⟩ rfl rfl (Nat.le_of_ble_eq_true rfl) ⟨Nat.zero_le _, Nat.zero_le _⟩ (kE rfl ?_)
  have m4 : (wi (wi (wi (wi (wi μ 1 (5 * m + 0) n) 1 (5 * m + 1) a) 1 (5 * m + 2) b) 1 (5 * m + 3) c) 1 (5 * m + 4) d).1 0 2 = nI m := by rw [wi_ne _ _ _ (show (0 : Nat) ≠ 1 by decide)]; exact m3
  refine v_aload_n hB dMo_insert_102 rfl ?_
  refine v_get hC (klMo hY.2) (F := FMo Y _) (by assumption) 2 dMo_insert_103 kfMo_38 (by decide) rfl ?_
  rw [m4]
  refine v_istore hB dMo_insert_106 rfl (by decide) (lv' := [_, _, _, _, _, _, _, _, _]) rfl ?_
  refine v_aload_n hB dMo_insert_108 rfl ?_
  refine v_dup hB dMo_insert_109 rfl ?_
  refine v_get hC (klMo hY.2) (F := FMo Y _) (by assumption) 2 dMo_insert_110 kfMo_38 (by decide) rfl ?_
  rw [m4]
  refine v_iconst hB dMo_insert_113 (v := 1) (by decide) ?_
  refine v_iadd hB dMo_insert_114 ?_
  rw [nI_1]
  refine v_puti hC (klMo hY.2) (F := FMo Y _) (by assumption) 2 dMo_insert_115 kfMo_38 (by decide) rfl rfl rfl (fun _ _ => rfl) (fun _ _ => Nat.le_of_ble_eq_true rfl) ?_
  have fin : ∀ ν : Mu, ν = mIn μ m n a b c d → (rIn μ m n a b c d) = mEn ν (ν.1 0 2) := by
    intro ν hν
    rw [rIn, if_neg c0, if_pos hz, if_neg h40, if_pos (bI_n.mp c4), hν]
    congr 1
    unfold mIn
    rw [isL_0, wi_at]
    simp
  have loop : ∀ (i : Nat) (ν : Mu), i ≤ m → isL i ν = mIn μ m n a b c d → VG X (yA Y) 9 0 0 (VQ X Y (PE (some (.int (rIn μ m n a b c d).1)) (rIn μ m n a b c d).2)) (yI Y (ν)) 118 [some (.ref (ad Y 0)), some (.int n), some (.int a), some (.int b), some (.int c), some (.int d), some (.int (nI i)), none, none] [] := by
    intro i
    induction i with
    | zero =>
      intro ν hi hf
      refine v_iload hB dMo_insert_118 rfl ?_
      refine v_if_le hB 205 dMo_insert_120 (by decide) (fun d1 => ?_) (fun d1 => ?_)
      · refine v_drop 6 (lv' := [_, _, _, _, _, _, _, _, _]) rfl ?_
        exact last ν (fin ν hf)
      exact absurd (by decide) d1
    | succ i ih =>
      intro ν hi hf
      refine v_iload hB dMo_insert_118 rfl ?_
      refine v_if_le hB 205 dMo_insert_120 (by decide) (fun d1 => ?_) (fun d1 => ?_)
      · exact absurd d1 (nI_nle (by omega) (by omega))
      refine v_aload_n hB dMo_insert_123 rfl ?_
      refine v_iload hB dMo_insert_124 rfl ?_
      refine v_iload hB dMo_insert_126 rfl ?_
      refine v_iconst hB dMo_insert_128 (v := 1) (by decide) ?_
      refine v_isub hB dMo_insert_129 ?_
      rw [nI_pred]
      refine v_callV hC tbok kmMo_49 kiMo_before ksMo_before dMo_insert_130 (F := FMo Y _) (by assumption) (by rw [hY.2]; rfl) (cMo_before hY hW (k := i + 1) (j := i) (by omega) (by omega) ν) rfl rfl ⟨Nat.le_of_ble_eq_true rfl, Nat.le_of_ble_eq_true rfl⟩ rfl rfl (Nat.le_of_ble_eq_true rfl) ⟨Nat.zero_le _, Nat.zero_le _⟩ (kE rfl ?_)
      refine v_if_eq hB 205 dMo_insert_133 (by decide) (fun d2 => ?_) (fun d2 => ?_)
      · refine v_drop 6 (lv' := [_, _, _, _, _, _, _, _, _]) rfl ?_
        exact last ν (fin ν (by rw [← hf, isL, if_neg (by rw [bI_0.mp d2]; decide)]))
      rw [isL, if_pos (bI_n.mp d2)] at hf
      have inner : ∀ (r p : Nat) (ν2 : Mu), p + r = 5 → swL i r p ν2 = swL i 5 0 ν → VG X (yA Y) 9 0 0 (VQ X Y (PE (some (.int (rIn μ m n a b c d).1)) (rIn μ m n a b c d).2)) (yI Y (ν2)) 139 [some (.ref (ad Y 0)), some (.int n), some (.int a), some (.int b), some (.int c), some (.int d), some (.int (nI (i + 1))), some (.int (nI p)), none] [] := by
        intro r
        induction r with
        | zero =>
          intro p ν2 hp hs
          have hs : ν2 = swL i 5 0 ν := hs
          refine v_iload hB dMo_insert_139 rfl ?_
          refine v_iconst hB dMo_insert_141 (v := 5) (by decide) ?_
          refine v_icmp_ge hB 199 dMo_insert_142 (by decide) (fun f1 => ?_) (fun f1 => ?_)
          · refine v_iinc hB dMo_insert_199 rfl (y := _) rfl rfl (by decide) (lv' := [_, _, _, _, _, _, _, _, _]) rfl ?_
            refine v_goto hB 118 dMo_insert_202 (by decide) ?_
            refine v_drop 7 (lv' := [_, _, _, _, _, _, _, _, _]) rfl ?_
            rw [im1, nI_pred]
            exact ih ν2 (by omega) (by rw [hs]; exact hf)
          exact absurd (by rw [show (5 : Int32) = nI 5 from rfl]; exact nI_le (by omega) (by omega)) f1
        | succ r ihr =>
          intro p ν2 hp hs
          refine v_iload hB dMo_insert_139 rfl ?_
          refine v_iconst hB dMo_insert_141 (v := 5) (by decide) ?_
          refine v_icmp_ge hB 199 dMo_insert_142 (by decide) (fun f1 => ?_) (fun f1 => ?_)
          · exact absurd f1 (by rw [show (5 : Int32) = nI 5 from rfl]; exact (fun q => absurd ((nI_leI (by omega) (by omega)).mp q) (by omega)))
          refine v_aload_n hB dMo_insert_145 rfl ?_
          refine v_get hC (klMo hY.2) (F := FMo Y _) (by assumption) 3 dMo_insert_146 kfMo_17 (by decide) rfl ?_
          refine v_iconst hB dMo_insert_149 (v := 5) (by decide) ?_
          refine v_iload hB dMo_insert_150 rfl ?_
          refine v_imul hB dMo_insert_152 ?_
          refine v_iload hB dMo_insert_153 rfl ?_
          refine v_iadd hB dMo_insert_155 ?_
          refine v_iald hC hAr (5 * (i + 1) + p) dMo_insert_156 (by rw [n5, nI_add]) (by omega) (by decide) ?_
          refine v_istore hB dMo_insert_157 rfl (by decide) (lv' := [_, _, _, _, _, _, _, _, _]) rfl ?_
          refine v_aload_n hB dMo_insert_159 rfl ?_
          refine v_iload hB dMo_insert_160 rfl ?_
          refine v_iload hB dMo_insert_162 rfl ?_
          refine v_aload_n hB dMo_insert_164 rfl ?_
          refine v_get hC (klMo hY.2) (F := FMo Y _) (by assumption) 3 dMo_insert_165 kfMo_17 (by decide) rfl ?_
          refine v_iconst hB dMo_insert_168 (v := 5) (by decide) ?_
          refine v_iload hB dMo_insert_169 rfl ?_
          refine v_imul hB dMo_insert_171 ?_
          refine v_iconst hB dMo_insert_172 (v := 5) (by decide) ?_
          refine v_isub hB dMo_insert_173 ?_
          refine v_iload hB dMo_insert_174 rfl ?_
          refine v_iadd hB dMo_insert_176 ?_
          refine v_iald hC hAr (5 * i + p) dMo_insert_177 (by rw [n5, show (5 : Int32) = nI 5 from rfl, pk_sub (by omega), nI_add, show 5 * (i + 1) - 5 = 5 * i by omega]) (by omega) (by decide) ?_
          refine v_callV hC tbok kmMo_45 kiMo_set ksMo_set dMo_insert_178 (F := FMo Y _) (by assumption) (by rw [hY.2]; rfl) (cMo_set hY hW (k := i + 1) (p := p) (by omega) (by omega) _ ν2) rfl rfl ⟨Nat.le_of_ble_eq_true rfl, Nat.le_of_ble_eq_true rfl⟩ rfl rfl (Nat.le_of_ble_eq_true rfl) ⟨Nat.zero_le _, Nat.zero_le _⟩ (kE rfl ?_)
          refine v_aload_n hB dMo_insert_181 rfl ?_
          refine v_iload hB dMo_insert_182 rfl ?_
          refine v_iconst hB dMo_insert_184 (v := 1) (by decide) ?_
          refine v_isub hB dMo_insert_185 ?_
          rw [nI_pred]
          refine v_iload hB dMo_insert_186 rfl ?_
          refine v_iload hB dMo_insert_188 rfl ?_
          refine v_callV hC tbok kmMo_45 kiMo_set ksMo_set dMo_insert_190 (F := FMo Y _) (by assumption) (by rw [hY.2]; rfl) (cMo_set hY hW (k := i) (p := p) (by omega) (by omega) _ _) rfl rfl ⟨Nat.le_of_ble_eq_true rfl, Nat.le_of_ble_eq_true rfl⟩ rfl rfl (Nat.le_of_ble_eq_true rfl) ⟨Nat.zero_le _, Nat.zero_le _⟩ (kE rfl ?_)
          refine v_iinc hB dMo_insert_193 rfl (y := _) rfl rfl (by decide) (lv' := [_, _, _, _, _, _, _, _, _]) rfl ?_
          refine v_goto hB 139 dMo_insert_196 (by decide) ?_
          refine v_drop 8 (lv' := [_, _, _, _, _, _, _, _, _]) rfl ?_
          rw [i1]
          exact ihr (p + 1) _ (by omega) hs
      refine v_iconst hB dMo_insert_136 (v := 0) (by decide) ?_
      refine v_istore hB dMo_insert_137 rfl (by decide) (lv' := [_, _, _, _, _, _, _, _, _]) rfl ?_
      exact inner 5 0 ν (by decide) rfl
  exact loop m _ (Nat.le_refl m) rfl

set_option maxHeartbeats 4000000 in
set_option maxRecDepth 100000 in
theorem cMo_remove {l : Launch} {Y : Yt} (hY : YB Y) (hW : YM Y) {m k : Nat} (μ : Mu) (hm : μ.1 0 2 = nI m) (hm40 : m ≤ 40) (hk : k < m) : Ct l Y yMo_remove wMo_remove ({ frames := 0, cells := 0, slots := 0, locals := 0 }) [.ref (ad Y 0), .int (nI k)] μ (PE none (mRm μ m k)) := by
  refine ct_of hY.1 (by decide) rfl (Nat.le_of_ble_eq_true rfl) (lv := [some (.ref (ad Y 0)), some (.int (nI k)), none]) rfl (fun X hC => ?_)
  have hB := hC.B
  obtain ⟨hMo, hAr⟩ := id hW
  have loop : ∀ (r i : Nat) (ν : Mu), i + r = 5 * (m - 1) → ν.1 0 2 = nI (m - 1) → rmL r i ν = mRm μ m k → VG X (yA Y) 3 0 0 (VQ X Y (PE none (mRm μ m k))) (yI Y (ν)) 14 [some (.ref (ad Y 0)), some (.int (nI k)), some (.int (nI i))] [] := by
    intro r
    induction r with
    | zero =>
      intro i ν hi hν hf
      refine v_iload_n hB dMo_remove_14 rfl ?_
      refine v_iconst hB dMo_remove_15 (v := 5) (by decide) ?_
      refine v_aload_n hB dMo_remove_16 rfl ?_
      refine v_get hC (klMo hY.2) (F := FMo Y _) (by assumption) 2 dMo_remove_17 kfMo_38 (by decide) rfl ?_
      refine v_imul hB dMo_remove_20 ?_
      rw [hν, n5]
      refine v_icmp_ge hB 44 dMo_remove_21 (by decide) (fun c => ?_) (fun c => ?_)
      · exact v_vret hC rfl dMo_remove_44 ⟨rfl, hf⟩
      exact absurd (nI_le (by omega) (by omega)) c
    | succ r ih =>
      intro i ν hi hν hf
      refine v_iload_n hB dMo_remove_14 rfl ?_
      refine v_iconst hB dMo_remove_15 (v := 5) (by decide) ?_
      refine v_aload_n hB dMo_remove_16 rfl ?_
      refine v_get hC (klMo hY.2) (F := FMo Y _) (by assumption) 2 dMo_remove_17 kfMo_38 (by decide) rfl ?_
      refine v_imul hB dMo_remove_20 ?_
      rw [hν, n5]
      refine v_icmp_ge hB 44 dMo_remove_21 (by decide) (fun c => ?_) (fun c => ?_)
      · exact absurd c (fun q => absurd ((nI_leI (by omega) (by omega)).mp q) (by omega))
      refine v_aload_n hB dMo_remove_24 rfl ?_
      refine v_get hC (klMo hY.2) (F := FMo Y _) (by assumption) 3 dMo_remove_25 kfMo_17 (by decide) rfl ?_
      refine v_iload_n hB dMo_remove_28 rfl ?_
      refine v_aload_n hB dMo_remove_29 rfl ?_
      refine v_get hC (klMo hY.2) (F := FMo Y _) (by assumption) 3 dMo_remove_30 kfMo_17 (by decide) rfl ?_
      refine v_iload_n hB dMo_remove_33 rfl ?_
      refine v_iconst hB dMo_remove_34 (v := 5) (by decide) ?_
      refine v_iadd hB dMo_remove_35 ?_
      refine v_iald hC hAr (i + 5) dMo_remove_36 (nI_add i 5) (by omega) (by decide) ?_
      refine v_iast hC hAr i dMo_remove_37 rfl (by omega) (by decide) ?_
      refine v_iinc hB dMo_remove_38 rfl (y := _) rfl rfl (by decide) (lv' := [_, _, _]) rfl ?_
      refine v_goto hB 14 dMo_remove_41 (by decide) ?_
      rw [i1]
      exact ih (i + 1) _ (by omega) (by rw [wi_ne _ _ _ (show (0 : Nat) ≠ 1 by decide)]; exact hν) hf
  refine v_aload_n hB dMo_remove_0 rfl ?_
  refine v_dup hB dMo_remove_1 rfl ?_
  refine v_get hC (klMo hY.2) (F := FMo Y _) (by assumption) 2 dMo_remove_2 kfMo_38 (by decide) rfl ?_
  refine v_iconst hB dMo_remove_5 (v := 1) (by decide) ?_
  refine v_isub hB dMo_remove_6 ?_
  rw [hm, show nI m - 1 = nI (m - 1) from pk_sub (a := m) (b := 1) (by omega)]
  refine v_puti hC (klMo hY.2) (F := FMo Y _) (by assumption) 2 dMo_remove_7 kfMo_38 (by decide) rfl rfl rfl (fun _ _ => rfl) (fun _ _ => Nat.le_of_ble_eq_true rfl) ?_
  refine v_iconst hB dMo_remove_10 (v := 5) (by decide) ?_
  refine v_iload_n hB dMo_remove_11 rfl ?_
  refine v_imul hB dMo_remove_12 ?_
  rw [n5]
  refine v_istore_n hB dMo_remove_13 rfl (by decide) (lv' := [_, _, _]) rfl ?_
  exact loop (5 * (m - 1) - 5 * k) (5 * k) _ (by omega) (by rw [wi_at]; simp) rfl

set_option maxHeartbeats 4000000 in
set_option maxRecDepth 100000 in
theorem cMo_is {l : Launch} {Y : Yt} (hY : YB Y) (hW : YM Y) {k : Nat} (hk : k ≤ 40) (a b c d : Int32) (μ : Mu) : Ct l Y yMo_is wMo_is ({ frames := 1, cells := 0, slots := 0, locals := 22 }) [.ref (ad Y 0), .int (nI k), .int a, .int b, .int c, .int d] μ (PE (some (.int (bI (decide (eB μ k 0 = a) && (decide (eB μ k 1 = b) && (decide (eB μ k 2 = c) && decide (eB μ k 3 = d))))))) μ) := by
  refine ct_of hY.1 (by decide) rfl (Nat.le_of_ble_eq_true rfl) (lv := [some (.ref (ad Y 0)), some (.int (nI k)), some (.int a), some (.int b), some (.int c), some (.int d)]) rfl (fun X hC => ?_)
  have hB := hC.B
  obtain ⟨hMo, hAr⟩ := id hW
  refine v_aload_n hB dMo_is_0 rfl ?_
  refine v_iload_n hB dMo_is_1 rfl ?_
  refine v_iconst hB dMo_is_2 (v := 0) (by decide) ?_
  refine v_callV hC tbok kmMo_27 kiMo_part ksMo_part dMo_is_3 (F := FMo Y _) (by assumption) (by rw [hY.2]; rfl) (cMo_part (q := 0) hY hW hk (by decide) μ) rfl rfl ⟨Nat.le_of_ble_eq_true rfl, Nat.le_of_ble_eq_true rfl⟩ rfl rfl (Nat.le_of_ble_eq_true rfl) ⟨Nat.zero_le _, Nat.zero_le _⟩ (kE rfl ?_)
  refine v_iload_n hB dMo_is_6 rfl ?_
  refine v_icmp_ne hB 46 dMo_is_7 (by decide) (fun c0 => ?_) (fun c0 => ?_)
  · refine v_iconst hB dMo_is_46 (v := 0) (by decide) ?_
    exact v_zret hC rfl (by decide) dMo_is_47 ⟨congrArg (fun x => some (Value.int x)) (bI_ff (by simp [c0])), rfl⟩
  refine v_aload_n hB dMo_is_10 rfl ?_
  refine v_iload_n hB dMo_is_11 rfl ?_
  refine v_iconst hB dMo_is_12 (v := 1) (by decide) ?_
  refine v_callV hC tbok kmMo_27 kiMo_part ksMo_part dMo_is_13 (F := FMo Y _) (by assumption) (by rw [hY.2]; rfl) (cMo_part (q := 1) hY hW hk (by decide) μ) rfl rfl ⟨Nat.le_of_ble_eq_true rfl, Nat.le_of_ble_eq_true rfl⟩ rfl rfl (Nat.le_of_ble_eq_true rfl) ⟨Nat.zero_le _, Nat.zero_le _⟩ (kE rfl ?_)
  refine v_iload_n hB dMo_is_16 rfl ?_
  refine v_icmp_ne hB 46 dMo_is_17 (by decide) (fun c1 => ?_) (fun c1 => ?_)
  · refine v_iconst hB dMo_is_46 (v := 0) (by decide) ?_
    exact v_zret hC rfl (by decide) dMo_is_47 ⟨congrArg (fun x => some (Value.int x)) (bI_ff (by simp [c1])), rfl⟩
  refine v_aload_n hB dMo_is_20 rfl ?_
  refine v_iload_n hB dMo_is_21 rfl ?_
  refine v_iconst hB dMo_is_22 (v := 2) (by decide) ?_
  refine v_callV hC tbok kmMo_27 kiMo_part ksMo_part dMo_is_23 (F := FMo Y _) (by assumption) (by rw [hY.2]; rfl) (cMo_part (q := 2) hY hW hk (by decide) μ) rfl rfl ⟨Nat.le_of_ble_eq_true rfl, Nat.le_of_ble_eq_true rfl⟩ rfl rfl (Nat.le_of_ble_eq_true rfl) ⟨Nat.zero_le _, Nat.zero_le _⟩ (kE rfl ?_)
  refine v_iload hB dMo_is_26 rfl ?_
  refine v_icmp_ne hB 46 dMo_is_28 (by decide) (fun c2 => ?_) (fun c2 => ?_)
  · refine v_iconst hB dMo_is_46 (v := 0) (by decide) ?_
    exact v_zret hC rfl (by decide) dMo_is_47 ⟨congrArg (fun x => some (Value.int x)) (bI_ff (by simp [c2])), rfl⟩
  refine v_aload_n hB dMo_is_31 rfl ?_
  refine v_iload_n hB dMo_is_32 rfl ?_
  refine v_iconst hB dMo_is_33 (v := 3) (by decide) ?_
  refine v_callV hC tbok kmMo_27 kiMo_part ksMo_part dMo_is_34 (F := FMo Y _) (by assumption) (by rw [hY.2]; rfl) (cMo_part (q := 3) hY hW hk (by decide) μ) rfl rfl ⟨Nat.le_of_ble_eq_true rfl, Nat.le_of_ble_eq_true rfl⟩ rfl rfl (Nat.le_of_ble_eq_true rfl) ⟨Nat.zero_le _, Nat.zero_le _⟩ (kE rfl ?_)
  refine v_iload hB dMo_is_37 rfl ?_
  refine v_icmp_ne hB 46 dMo_is_39 (by decide) (fun c3 => ?_) (fun c3 => ?_)
  · refine v_iconst hB dMo_is_46 (v := 0) (by decide) ?_
    exact v_zret hC rfl (by decide) dMo_is_47 ⟨congrArg (fun x => some (Value.int x)) (bI_ff (by simp [c3])), rfl⟩
  refine v_iconst hB dMo_is_42 (v := 1) (by decide) ?_
  refine v_goto hB 47 dMo_is_43 (by decide) ?_
  exact v_zret hC rfl (by decide) dMo_is_47 ⟨congrArg (fun x => some (Value.int x)) (bI_t (by simp [c0, c1, c2, c3])), rfl⟩

set_option maxHeartbeats 4000000 in
set_option maxRecDepth 100000 in
theorem cMo_meets {l : Launch} {Y : Yt} (hY : YB Y) (hW : YM Y) {k : Nat} (hk : k ≤ 40) (a b c d : Int32) (μ : Mu) : Ct l Y yMo_meets wMo_meets ({ frames := 1, cells := 0, slots := 0, locals := 22 }) [.ref (ad Y 0), .int (nI k), .int a, .int b, .int c, .int d] μ (PE (some (.int (bI (meetB (eB μ k) (w5 a b c d 0))))) μ) := by
  refine ct_of hY.1 (by decide) rfl (Nat.le_of_ble_eq_true rfl) (lv := [some (.ref (ad Y 0)), some (.int (nI k)), some (.int a), some (.int b), some (.int c), some (.int d)]) rfl (fun X hC => ?_)
  have hB := hC.B
  obtain ⟨hMo, hAr⟩ := id hW
  refine v_aload_n hB dMo_meets_0 rfl ?_
  refine v_iload_n hB dMo_meets_1 rfl ?_
  refine v_iconst hB dMo_meets_2 (v := 0) (by decide) ?_
  refine v_callV hC tbok kmMo_27 kiMo_part ksMo_part dMo_meets_3 (F := FMo Y _) (by assumption) (by rw [hY.2]; rfl) (cMo_part (q := 0) hY hW hk (by decide) μ) rfl rfl ⟨Nat.le_of_ble_eq_true rfl, Nat.le_of_ble_eq_true rfl⟩ rfl rfl (Nat.le_of_ble_eq_true rfl) ⟨Nat.zero_le _, Nat.zero_le _⟩ (kE rfl ?_)
  refine v_iload hB dMo_meets_6 rfl ?_
  refine v_icmp_gt hB 46 dMo_meets_8 (by decide) (fun c0 => ?_) (fun c0 => ?_)
  · refine v_iconst hB dMo_meets_46 (v := 0) (by decide) ?_
    exact v_zret hC rfl (by decide) dMo_meets_47 ⟨congrArg (fun x => some (Value.int x)) (bI_ff (by simp only [meetB, w5]; simp [Int32.not_le.mpr c0])), rfl⟩
  refine v_aload_n hB dMo_meets_11 rfl ?_
  refine v_iload_n hB dMo_meets_12 rfl ?_
  refine v_iconst hB dMo_meets_13 (v := 2) (by decide) ?_
  refine v_callV hC tbok kmMo_27 kiMo_part ksMo_part dMo_meets_14 (F := FMo Y _) (by assumption) (by rw [hY.2]; rfl) (cMo_part (q := 2) hY hW hk (by decide) μ) rfl rfl ⟨Nat.le_of_ble_eq_true rfl, Nat.le_of_ble_eq_true rfl⟩ rfl rfl (Nat.le_of_ble_eq_true rfl) ⟨Nat.zero_le _, Nat.zero_le _⟩ (kE rfl ?_)
  refine v_iload_n hB dMo_meets_17 rfl ?_
  refine v_icmp_lt hB 46 dMo_meets_18 (by decide) (fun c1 => ?_) (fun c1 => ?_)
  · refine v_iconst hB dMo_meets_46 (v := 0) (by decide) ?_
    exact v_zret hC rfl (by decide) dMo_meets_47 ⟨congrArg (fun x => some (Value.int x)) (bI_ff (by simp only [meetB, w5]; simp [Int32.not_le.mpr c1])), rfl⟩
  refine v_aload_n hB dMo_meets_21 rfl ?_
  refine v_iload_n hB dMo_meets_22 rfl ?_
  refine v_iconst hB dMo_meets_23 (v := 1) (by decide) ?_
  refine v_callV hC tbok kmMo_27 kiMo_part ksMo_part dMo_meets_24 (F := FMo Y _) (by assumption) (by rw [hY.2]; rfl) (cMo_part (q := 1) hY hW hk (by decide) μ) rfl rfl ⟨Nat.le_of_ble_eq_true rfl, Nat.le_of_ble_eq_true rfl⟩ rfl rfl (Nat.le_of_ble_eq_true rfl) ⟨Nat.zero_le _, Nat.zero_le _⟩ (kE rfl ?_)
  refine v_iload hB dMo_meets_27 rfl ?_
  refine v_icmp_gt hB 46 dMo_meets_29 (by decide) (fun c2 => ?_) (fun c2 => ?_)
  · refine v_iconst hB dMo_meets_46 (v := 0) (by decide) ?_
    exact v_zret hC rfl (by decide) dMo_meets_47 ⟨congrArg (fun x => some (Value.int x)) (bI_ff (by simp only [meetB, w5]; simp [Int32.not_le.mpr c2])), rfl⟩
  refine v_aload_n hB dMo_meets_32 rfl ?_
  refine v_iload_n hB dMo_meets_33 rfl ?_
  refine v_iconst hB dMo_meets_34 (v := 3) (by decide) ?_
  refine v_callV hC tbok kmMo_27 kiMo_part ksMo_part dMo_meets_35 (F := FMo Y _) (by assumption) (by rw [hY.2]; rfl) (cMo_part (q := 3) hY hW hk (by decide) μ) rfl rfl ⟨Nat.le_of_ble_eq_true rfl, Nat.le_of_ble_eq_true rfl⟩ rfl rfl (Nat.le_of_ble_eq_true rfl) ⟨Nat.zero_le _, Nat.zero_le _⟩ (kE rfl ?_)
  refine v_iload_n hB dMo_meets_38 rfl ?_
  refine v_icmp_lt hB 46 dMo_meets_39 (by decide) (fun c3 => ?_) (fun c3 => ?_)
  · refine v_iconst hB dMo_meets_46 (v := 0) (by decide) ?_
    exact v_zret hC rfl (by decide) dMo_meets_47 ⟨congrArg (fun x => some (Value.int x)) (bI_ff (by simp only [meetB, w5]; simp [Int32.not_le.mpr c3])), rfl⟩
  refine v_iconst hB dMo_meets_42 (v := 1) (by decide) ?_
  refine v_goto hB 47 dMo_meets_43 (by decide) ?_
  exact v_zret hC rfl (by decide) dMo_meets_47 ⟨congrArg (fun x => some (Value.int x)) (bI_t (by simp only [meetB, w5]; simp [Int32.not_lt.mp c0, Int32.not_lt.mp c1, Int32.not_lt.mp c2, Int32.not_lt.mp c3])), rfl⟩

set_option maxHeartbeats 4000000 in
set_option maxRecDepth 100000 in
theorem cMo_meeting {l : Launch} {Y : Yt} (hY : YB Y) (hW : YM Y) {m : Nat} (a b c d n : Int32) (μ : Mu) (hm : μ.1 0 2 = nI m) (hm40 : m ≤ 40) : Ct l Y yMo_meeting wMo_meeting ({ frames := 2, cells := 0, slots := 0, locals := 47 }) [.ref (ad Y 0), .int a, .int b, .int c, .int d, .int n] μ (PE (some (.int (mtN μ m a b c d n))) μ) := by
  refine ct_of hY.1 (by decide) rfl (Nat.le_of_ble_eq_true rfl) (lv := [some (.ref (ad Y 0)), some (.int a), some (.int b), some (.int c), some (.int d), some (.int n), none, none]) rfl (fun X hC => ?_)
  have hB := hC.B
  obtain ⟨hMo, hAr⟩ := id hW
  have loop : ∀ (r k : Nat) (f : Int32), k + r = m → mtN μ m a b c d n = (if n < 0 then -1 else mtF μ a b c d r k f) → VG X (yA Y) 8 0 0 (VQ X Y (PE (some (.int (mtN μ m a b c d n))) μ)) (yI Y (μ)) 7 [some (.ref (ad Y 0)), some (.int a), some (.int b), some (.int c), some (.int d), some (.int n), some (.int f), some (.int (nI k))] [] := by
    intro r
    induction r with
    | zero =>
      intro k f hk hf
      refine v_iload hB dMo_meeting_7 rfl ?_
      refine v_aload_n hB dMo_meeting_9 rfl ?_
      refine v_get hC (klMo hY.2) (F := FMo Y _) (by assumption) 2 dMo_meeting_10 kfMo_38 (by decide) rfl ?_
      rw [hm]
      refine v_icmp_ge hB 52 dMo_meeting_13 (by decide) (fun e => ?_) (fun e => ?_)
      · refine v_iconst hB dMo_meeting_52 (v := -1) (by decide) ?_
        exact v_iret hC rfl dMo_meeting_53 ⟨by rw [hf]; split <;> rfl, rfl⟩
      exact absurd (nI_le (by omega) (by omega)) e
    | succ r ih =>
      intro k f hk hf
      refine v_iload hB dMo_meeting_7 rfl ?_
      refine v_aload_n hB dMo_meeting_9 rfl ?_
      refine v_get hC (klMo hY.2) (F := FMo Y _) (by assumption) 2 dMo_meeting_10 kfMo_38 (by decide) rfl ?_
      rw [hm]
      refine v_icmp_ge hB 52 dMo_meeting_13 (by decide) (fun e => ?_) (fun e => ?_)
      · exact absurd e (fun q => absurd ((nI_leI (by omega) (by omega)).mp q) (by omega))
      refine v_iload hB dMo_meeting_16 rfl ?_
      refine v_if_lt hB 52 dMo_meeting_18 (by decide) (fun e1 => ?_) (fun e1 => ?_)
      · refine v_iconst hB dMo_meeting_52 (v := -1) (by decide) ?_
        exact v_iret hC rfl dMo_meeting_53 ⟨by rw [hf, if_pos e1], rfl⟩
      refine v_aload_n hB dMo_meeting_21 rfl ?_
      refine v_iload hB dMo_meeting_22 rfl ?_
      refine v_iload_n hB dMo_meeting_24 rfl ?_
      refine v_iload_n hB dMo_meeting_25 rfl ?_
      refine v_iload_n hB dMo_meeting_26 rfl ?_
      refine v_iload hB dMo_meeting_27 rfl ?_
      refine v_callV hC tbok kmMo_65 kiMo_meets ksMo_meets dMo_meeting_29 (F := FMo Y _) (by assumption) (by rw [hY.2]; rfl) (cMo_meets hY hW (k := k) (by omega) a b c d μ) rfl rfl ⟨Nat.le_of_ble_eq_true rfl, Nat.le_of_ble_eq_true rfl⟩ rfl rfl (Nat.le_of_ble_eq_true rfl) ⟨Nat.zero_le _, Nat.zero_le _⟩ (kE rfl ?_)
      refine v_if_eq hB 46 dMo_meeting_32 (by decide) (fun e2 => ?_) (fun e2 => ?_)
      · refine v_iinc hB dMo_meeting_46 rfl (y := _) rfl rfl (by decide) (lv' := [_, _, _, _, _, _, _, _]) rfl ?_
        refine v_goto hB 7 dMo_meeting_49 (by decide) ?_
        rw [i1]
        exact ih (k + 1) f (by omega) (by rw [hf, if_neg e1, if_neg e1, mtF, if_neg (by rw [bI_0.mp e2]; decide)])
      refine v_iload hB dMo_meeting_35 rfl ?_
      refine v_if_ne hB 43 dMo_meeting_37 (by decide) (fun e3 => ?_) (fun e3 => ?_)
      · refine v_iinc hB dMo_meeting_43 rfl (y := _) rfl rfl (by decide) (lv' := [_, _, _, _, _, _, _, _]) rfl ?_
        refine v_iinc hB dMo_meeting_46 rfl (y := _) rfl rfl (by decide) (lv' := [_, _, _, _, _, _, _, _]) rfl ?_
        refine v_goto hB 7 dMo_meeting_49 (by decide) ?_
        rw [i1, im1]
        exact ih (k + 1) (f - 1) (by omega) (by rw [hf, if_neg e1, if_neg e1, mtF, if_pos (bI_n.mp e2), if_neg e3])
      refine v_iload hB dMo_meeting_40 rfl ?_
      exact v_iret hC rfl dMo_meeting_42 ⟨by rw [hf, if_neg e1, mtF, if_pos (bI_n.mp e2), if_pos e3], rfl⟩
  refine v_iload hB dMo_meeting_0 rfl ?_
  refine v_istore hB dMo_meeting_2 rfl (by decide) (lv' := [_, _, _, _, _, _, _, _]) rfl ?_
  refine v_iconst hB dMo_meeting_4 (v := 0) (by decide) ?_
  refine v_istore hB dMo_meeting_5 rfl (by decide) (lv' := [_, _, _, _, _, _, _, _]) rfl ?_
  exact loop m 0 n (by omega) rfl

set_option maxHeartbeats 4000000 in
set_option maxRecDepth 100000 in
theorem cMo_cut {l : Launch} {Y : Yt} (hY : YB Y) (hW : YM Y) (v : Int32) (μ : Mu) : Ct l Y yMo_cut wMo_cut ({ frames := 0, cells := 0, slots := 0, locals := 0 }) [.ref (ad Y 0), .int v] μ (PE (some (.int (bI (!(decide (v < -1) || decide (5 < v)))))) (if v < -1 ∨ 5 < v then μ else wi μ 0 1 v)) := by
  refine ct_of hY.1 (by decide) rfl (Nat.le_of_ble_eq_true rfl) (lv := [some (.ref (ad Y 0)), some (.int v)]) rfl (fun X hC => ?_)
  have hB := hC.B
  obtain ⟨hMo, hAr⟩ := id hW
  refine v_iload_n hB dMo_cut_0 rfl ?_
  refine v_iconst hB dMo_cut_1 (v := -1) (by decide) ?_
  refine v_icmp_lt hB 10 dMo_cut_2 (by decide) (fun c => ?_) (fun c => ?_)
  · refine v_iconst hB dMo_cut_10 (v := 0) (by decide) ?_
    exact v_zret hC rfl (by decide) dMo_cut_11 ⟨congrArg (fun x => some (Value.int x)) (bI_ff (by simp [c])), by rw [if_pos (Or.inl c)]⟩
  refine v_iload_n hB dMo_cut_5 rfl ?_
  refine v_iconst hB dMo_cut_6 (v := 5) (by decide) ?_
  refine v_icmp_le hB 12 dMo_cut_7 (by decide) (fun c1 => ?_) (fun c1 => ?_)
  rotate_left
  · refine v_iconst hB dMo_cut_10 (v := 0) (by decide) ?_
    exact v_zret hC rfl (by decide) dMo_cut_11 ⟨congrArg (fun x => some (Value.int x)) (bI_ff (by simp [Int32.not_le.mp c1])), by rw [if_pos (Or.inr (Int32.not_le.mp c1))]⟩
  refine v_aload_n hB dMo_cut_12 rfl ?_
  refine v_iload_n hB dMo_cut_13 rfl ?_
  refine v_puti hC (klMo hY.2) (F := FMo Y _) (by assumption) 1 dMo_cut_14 kfMo_13 (by decide) rfl rfl rfl (fun _ _ => rfl) (fun _ _ => Nat.le_of_ble_eq_true rfl) ?_
  refine v_iconst hB dMo_cut_17 (v := 1) (by decide) ?_
  exact v_zret hC rfl (by decide) dMo_cut_18 ⟨congrArg (fun x => some (Value.int x)) (bI_t (by simp [Int32.not_lt.mp c, c1])), by rw [if_neg (fun z => z.elim c (Int32.not_lt.mpr c1))]⟩

set_option maxHeartbeats 4000000 in
set_option maxRecDepth 100000 in
theorem cMo_stop {l : Launch} {Y : Yt} (hY : YB Y) (hW : YM Y) (μ : Mu) : Ct l Y yMo_stop wMo_stop ({ frames := 0, cells := 0, slots := 0, locals := 0 }) [.ref (ad Y 0)] μ (PE (some (.int (bI (!decide (μ.1 0 0 = 0))))) (if μ.1 0 0 = 0 then μ else wi μ 0 0 0)) := by
  refine ct_of hY.1 (by decide) rfl (Nat.le_of_ble_eq_true rfl) (lv := [some (.ref (ad Y 0))]) rfl (fun X hC => ?_)
  have hB := hC.B
  obtain ⟨hMo, hAr⟩ := id hW
  refine v_aload_n hB dMo_stop_0 rfl ?_
  refine v_get hC (klMo hY.2) (F := FMo Y _) (by assumption) 0 dMo_stop_1 kfMo_7 (by decide) rfl ?_
  refine v_if_ne hB 9 dMo_stop_4 (by decide) (fun c => ?_) (fun c => ?_)
  rotate_left
  · refine v_iconst hB dMo_stop_7 (v := 0) (by decide) ?_
    exact v_zret hC rfl (by decide) dMo_stop_8 ⟨congrArg (fun x => some (Value.int x)) (bI_ff (by simp [c])), by rw [if_pos c]⟩
  refine v_aload_n hB dMo_stop_9 rfl ?_
  refine v_iconst hB dMo_stop_10 (v := 0) (by decide) ?_
  refine v_puti hC (klMo hY.2) (F := FMo Y _) (by assumption) 0 dMo_stop_11 kfMo_7 (by decide) rfl (by decide) (by decide) (fun _ _ => rfl) (fun _ _ => Nat.le_of_ble_eq_true rfl) ?_
  refine v_iconst hB dMo_stop_14 (v := 1) (by decide) ?_
  exact v_zret hC rfl (by decide) dMo_stop_15 ⟨congrArg (fun x => some (Value.int x)) (bI_t (by simp [c])), by rw [if_neg c]⟩

set_option maxHeartbeats 4000000 in
set_option maxRecDepth 100000 in
theorem cMo_start {l : Launch} {Y : Yt} (hY : YB Y) (hW : YM Y) (μ : Mu) : Ct l Y yMo_start wMo_start ({ frames := 0, cells := 0, slots := 0, locals := 0 }) [.ref (ad Y 0)] μ (PE (some (.int (bI (decide (μ.1 0 0 = 0))))) (if μ.1 0 0 = 0 then wi μ 0 0 1 else μ)) := by
  refine ct_of hY.1 (by decide) rfl (Nat.le_of_ble_eq_true rfl) (lv := [some (.ref (ad Y 0))]) rfl (fun X hC => ?_)
  have hB := hC.B
  obtain ⟨hMo, hAr⟩ := id hW
  refine v_aload_n hB dMo_start_0 rfl ?_
  refine v_get hC (klMo hY.2) (F := FMo Y _) (by assumption) 0 dMo_start_1 kfMo_7 (by decide) rfl ?_
  refine v_if_eq hB 9 dMo_start_4 (by decide) (fun c => ?_) (fun c => ?_)
  rotate_left
  · refine v_iconst hB dMo_start_7 (v := 0) (by decide) ?_
    exact v_zret hC rfl (by decide) dMo_start_8 ⟨congrArg (fun x => some (Value.int x)) (bI_ff (by simp [c])), by rw [if_neg c]⟩
  refine v_aload_n hB dMo_start_9 rfl ?_
  refine v_iconst hB dMo_start_10 (v := 1) (by decide) ?_
  refine v_puti hC (klMo hY.2) (F := FMo Y _) (by assumption) 0 dMo_start_11 kfMo_7 (by decide) rfl (by decide) (by decide) (fun _ _ => rfl) (fun _ _ => Nat.le_of_ble_eq_true rfl) ?_
  refine v_iconst hB dMo_start_14 (v := 1) (by decide) ?_
  exact v_zret hC rfl (by decide) dMo_start_15 ⟨congrArg (fun x => some (Value.int x)) (bI_t (by simp [c])), by rw [if_pos c]⟩

set_option maxHeartbeats 4000000 in
set_option maxRecDepth 100000 in
theorem cMo_up {l : Launch} {Y : Yt} (hY : YB Y) (hW : YM Y) (μ : Mu) (ht : tB (μ.1 0 0)) : Ct l Y yMo_up wMo_up ({ frames := 0, cells := 0, slots := 0, locals := 0 }) [.ref (ad Y 0)] μ (PE (some (.int (μ.1 0 0))) μ) := by
  refine ct_of hY.1 (by decide) rfl (Nat.le_of_ble_eq_true rfl) (lv := [some (.ref (ad Y 0))]) rfl (fun X hC => ?_)
  have hB := hC.B
  obtain ⟨hMo, hAr⟩ := id hW
  refine v_aload_n hB dMo_up_0 rfl ?_
  refine v_get hC (klMo hY.2) (F := FMo Y _) (by assumption) 0 dMo_up_1 kfMo_7 (by decide) rfl ?_
  exact v_zret hC rfl (tB_z ht) dMo_up_4 ⟨rfl, rfl⟩

set_option maxHeartbeats 4000000 in
set_option maxRecDepth 100000 in
theorem cMo_sound {l : Launch} {Y : Yt} (hY : YB Y) (hW : YM Y) (μ : Mu) (ht : tB (μ.1 0 0)) : Ct l Y yMo_sound wMo_sound ({ frames := 0, cells := 0, slots := 0, locals := 0 }) [.ref (ad Y 0)] μ (PE (some (.int (μ.1 0 0))) μ) := by
  refine ct_of hY.1 (by decide) rfl (Nat.le_of_ble_eq_true rfl) (lv := [some (.ref (ad Y 0))]) rfl (fun X hC => ?_)
  have hB := hC.B
  obtain ⟨hMo, hAr⟩ := id hW
  refine v_aload_n hB dMo_sound_0 rfl ?_
  refine v_get hC (klMo hY.2) (F := FMo Y _) (by assumption) 0 dMo_sound_1 kfMo_7 (by decide) rfl ?_
  exact v_zret hC rfl (tB_z ht) dMo_sound_4 ⟨rfl, rfl⟩

set_option maxHeartbeats 4000000 in
set_option maxRecDepth 100000 in
theorem cMo_frugal {l : Launch} {Y : Yt} (hY : YB Y) (μ : Mu) : Ct l Y yMo_frugal wMo_frugal ({ frames := 0, cells := 0, slots := 0, locals := 0 }) [.ref (ad Y 0)] μ (PE (some (.int 1)) μ) := by
  refine ct_of hY.1 (by decide) rfl (Nat.le_of_ble_eq_true rfl) (lv := [some (.ref (ad Y 0))]) rfl (fun X hC => ?_)
  have hB := hC.B
  refine v_iconst hB dMo_frugal_0 (v := 1) (by decide) ?_
  exact v_zret hC rfl (by decide) dMo_frugal_1 ⟨rfl, rfl⟩

set_option maxHeartbeats 4000000 in
set_option maxRecDepth 100000 in
theorem cMo_size {l : Launch} {Y : Yt} (hY : YB Y) (hW : YM Y) (μ : Mu) : Ct l Y yMo_size wMo_size ({ frames := 0, cells := 0, slots := 0, locals := 0 }) [.ref (ad Y 0)] μ (PE (some (.int (if μ.1 0 0 = 0 then -3 else μ.1 0 2))) μ) := by
  refine ct_of hY.1 (by decide) rfl (Nat.le_of_ble_eq_true rfl) (lv := [some (.ref (ad Y 0))]) rfl (fun X hC => ?_)
  have hB := hC.B
  obtain ⟨hMo, hAr⟩ := id hW
  refine v_aload_n hB dMo_size_0 rfl ?_
  refine v_get hC (klMo hY.2) (F := FMo Y _) (by assumption) 0 dMo_size_1 kfMo_7 (by decide) rfl ?_
  refine v_if_eq hB 14 dMo_size_4 (by decide) (fun c => ?_) (fun c => ?_)
  · refine v_bipush hB dMo_size_14 (v := -3) (by decide) ?_
    exact v_iret hC rfl dMo_size_16 ⟨by rw [if_pos c], rfl⟩
  refine v_aload_n hB dMo_size_7 rfl ?_
  refine v_get hC (klMo hY.2) (F := FMo Y _) (by assumption) 2 dMo_size_8 kfMo_38 (by decide) rfl ?_
  refine v_goto hB 16 dMo_size_11 (by decide) ?_
  exact v_iret hC rfl dMo_size_16 ⟨by rw [if_neg c], rfl⟩
end
