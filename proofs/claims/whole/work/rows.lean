section
-- ===== PART A: goes FIRST, ahead of the names: the tables' words, and 'selects' of the private methods out of them =====
/-- a private method of a class that the tables say can be made, by its rows of tables_1 -/
def lw_okq (q : MethodName × Nat) : Prop := (q.1.cls ≠ "java/lang/invoke/MethodHandle" ∧ q.1.cls ≠ "java/lang/invoke/VarHandle") ∧ Cond.instantiable q.1.cls q.2 ∈ tables_1 ∧ Cond.privateMethod q.1 ∈ tables_1 ∧ Cond.instanceMethod q.1 ∈ tables_1
theorem lw_p0 : lw_okq (⟨"BoxedPages$Tree", "descend", "(LBoxedPages$Box;)I"⟩, 8) := ⟨⟨by decide +kernel, by decide +kernel⟩, List.mem_of_getElem? (i := 46) (by decide +kernel), List.mem_of_getElem? (i := 235) (by decide +kernel), List.mem_of_getElem? (i := 236) (by decide +kernel)⟩
theorem lw_p1 : lw_okq (⟨"BoxedPages$Tree", "lowestDepth", "()I"⟩, 8) := ⟨⟨by decide +kernel, by decide +kernel⟩, List.mem_of_getElem? (i := 46) (by decide +kernel), List.mem_of_getElem? (i := 239) (by decide +kernel), List.mem_of_getElem? (i := 240) (by decide +kernel)⟩
theorem lw_p2 : lw_okq (⟨"BoxedPages$Tree", "writeHeader", "(II)V"⟩, 8) := ⟨⟨by decide +kernel, by decide +kernel⟩, List.mem_of_getElem? (i := 46) (by decide +kernel), List.mem_of_getElem? (i := 276) (by decide +kernel), List.mem_of_getElem? (i := 277) (by decide +kernel)⟩
theorem lw_p3 : lw_okq (⟨"BoxedPages$Tree", "climb", "(I)V"⟩, 8) := ⟨⟨by decide +kernel, by decide +kernel⟩, List.mem_of_getElem? (i := 46) (by decide +kernel), List.mem_of_getElem? (i := 280) (by decide +kernel), List.mem_of_getElem? (i := 281) (by decide +kernel)⟩
theorem lw_p4 : lw_okq (⟨"BoxedPages$Tree", "mend", "(LBoxedPages$Page;I)V"⟩, 8) := ⟨⟨by decide +kernel, by decide +kernel⟩, List.mem_of_getElem? (i := 46) (by decide +kernel), List.mem_of_getElem? (i := 284) (by decide +kernel), List.mem_of_getElem? (i := 285) (by decide +kernel)⟩
theorem lw_p5 : lw_okq (⟨"BoxedPages$Tree", "tellFrame", "(LBoxedPages$Page;I)V"⟩, 8) := ⟨⟨by decide +kernel, by decide +kernel⟩, List.mem_of_getElem? (i := 46) (by decide +kernel), List.mem_of_getElem? (i := 288) (by decide +kernel), List.mem_of_getElem? (i := 289) (by decide +kernel)⟩
theorem lw_p6 : lw_okq (⟨"BoxedPages$Tree", "merge", "(LBoxedPages$Page;II)V"⟩, 8) := ⟨⟨by decide +kernel, by decide +kernel⟩, List.mem_of_getElem? (i := 46) (by decide +kernel), List.mem_of_getElem? (i := 315) (by decide +kernel), List.mem_of_getElem? (i := 316) (by decide +kernel)⟩
theorem lw_p7 : lw_okq (⟨"BoxedPages$Tree", "openPage", "(I)I"⟩, 8) := ⟨⟨by decide +kernel, by decide +kernel⟩, List.mem_of_getElem? (i := 46) (by decide +kernel), List.mem_of_getElem? (i := 327) (by decide +kernel), List.mem_of_getElem? (i := 328) (by decide +kernel)⟩
theorem lw_p8 : lw_okq (⟨"BoxedPages$Tree", "bestDivision", "(LBoxedPages$Page;)I"⟩, 8) := ⟨⟨by decide +kernel, by decide +kernel⟩, List.mem_of_getElem? (i := 46) (by decide +kernel), List.mem_of_getElem? (i := 331) (by decide +kernel), List.mem_of_getElem? (i := 332) (by decide +kernel)⟩
theorem lw_p9 : lw_okq (⟨"BoxedPages$Tree", "moveOut", "(LBoxedPages$Page;ILBoxedPages$Page;)V"⟩, 8) := ⟨⟨by decide +kernel, by decide +kernel⟩, List.mem_of_getElem? (i := 46) (by decide +kernel), List.mem_of_getElem? (i := 347) (by decide +kernel), List.mem_of_getElem? (i := 348) (by decide +kernel)⟩
theorem lw_p10 : lw_okq (⟨"BoxedPages$Tree", "hang", "(LBoxedPages$Page;I)V"⟩, 8) := ⟨⟨by decide +kernel, by decide +kernel⟩, List.mem_of_getElem? (i := 46) (by decide +kernel), List.mem_of_getElem? (i := 351) (by decide +kernel), List.mem_of_getElem? (i := 352) (by decide +kernel)⟩
theorem lw_p11 : lw_okq (⟨"BoxedPages", "settle", "(I)I"⟩, 7) := ⟨⟨by decide +kernel, by decide +kernel⟩, List.mem_of_getElem? (i := 12) (by decide +kernel), List.mem_of_getElem? (i := 355) (by decide +kernel), List.mem_of_getElem? (i := 356) (by decide +kernel)⟩
theorem lw_p12 : lw_okq (⟨"BoxedPages$Disk", "writeLog", "(LBoxedPages$Tree;I)V"⟩, 5) := ⟨⟨by decide +kernel, by decide +kernel⟩, List.mem_of_getElem? (i := 20) (by decide +kernel), List.mem_of_getElem? (i := 371) (by decide +kernel), List.mem_of_getElem? (i := 372) (by decide +kernel)⟩
theorem lw_p13 : lw_okq (⟨"BoxedPages$Disk", "writePlaces", "(I)V"⟩, 5) := ⟨⟨by decide +kernel, by decide +kernel⟩, List.mem_of_getElem? (i := 20) (by decide +kernel), List.mem_of_getElem? (i := 384) (by decide +kernel), List.mem_of_getElem? (i := 385) (by decide +kernel)⟩
theorem lw_p14 : lw_okq (⟨"BoxedPages$Disk", "emptyLog", "()V"⟩, 5) := ⟨⟨by decide +kernel, by decide +kernel⟩, List.mem_of_getElem? (i := 20) (by decide +kernel), List.mem_of_getElem? (i := 391) (by decide +kernel), List.mem_of_getElem? (i := 392) (by decide +kernel)⟩
theorem lw_p15 : lw_okq (⟨"BoxedPages", "losePower", "()V"⟩, 7) := ⟨⟨by decide +kernel, by decide +kernel⟩, List.mem_of_getElem? (i := 12) (by decide +kernel), List.mem_of_getElem? (i := 399) (by decide +kernel), List.mem_of_getElem? (i := 400) (by decide +kernel)⟩
def lw_privs_1 : List (MethodName × Nat) := [(⟨"BoxedPages$Tree", "descend", "(LBoxedPages$Box;)I"⟩, 8), (⟨"BoxedPages$Tree", "lowestDepth", "()I"⟩, 8), (⟨"BoxedPages$Tree", "writeHeader", "(II)V"⟩, 8), (⟨"BoxedPages$Tree", "climb", "(I)V"⟩, 8), (⟨"BoxedPages$Tree", "mend", "(LBoxedPages$Page;I)V"⟩, 8), (⟨"BoxedPages$Tree", "tellFrame", "(LBoxedPages$Page;I)V"⟩, 8), (⟨"BoxedPages$Tree", "merge", "(LBoxedPages$Page;II)V"⟩, 8), (⟨"BoxedPages$Tree", "openPage", "(I)I"⟩, 8), (⟨"BoxedPages$Tree", "bestDivision", "(LBoxedPages$Page;)I"⟩, 8), (⟨"BoxedPages$Tree", "moveOut", "(LBoxedPages$Page;ILBoxedPages$Page;)V"⟩, 8), (⟨"BoxedPages$Tree", "hang", "(LBoxedPages$Page;I)V"⟩, 8), (⟨"BoxedPages", "settle", "(I)I"⟩, 7), (⟨"BoxedPages$Disk", "writeLog", "(LBoxedPages$Tree;I)V"⟩, 5), (⟨"BoxedPages$Disk", "writePlaces", "(I)V"⟩, 5), (⟨"BoxedPages$Disk", "emptyLog", "()V"⟩, 5), (⟨"BoxedPages", "losePower", "()V"⟩, 7)]
theorem lw_r1 : ∀ q ∈ lw_privs_1, lw_okq q := List.forall_mem_cons.mpr ⟨lw_p0, List.forall_mem_cons.mpr ⟨lw_p1, List.forall_mem_cons.mpr ⟨lw_p2, List.forall_mem_cons.mpr ⟨lw_p3, List.forall_mem_cons.mpr ⟨lw_p4, List.forall_mem_cons.mpr ⟨lw_p5, List.forall_mem_cons.mpr ⟨lw_p6, List.forall_mem_cons.mpr ⟨lw_p7, List.forall_mem_cons.mpr ⟨lw_p8, List.forall_mem_cons.mpr ⟨lw_p9, List.forall_mem_cons.mpr ⟨lw_p10, List.forall_mem_cons.mpr ⟨lw_p11, List.forall_mem_cons.mpr ⟨lw_p12, List.forall_mem_cons.mpr ⟨lw_p13, List.forall_mem_cons.mpr ⟨lw_p14, List.forall_mem_cons.mpr ⟨lw_p15, fun _ h => absurd h List.not_mem_nil⟩⟩⟩⟩⟩⟩⟩⟩⟩⟩⟩⟩⟩⟩⟩⟩
theorem lw_p16 : lw_okq (⟨"BoxedPages", "searchWindow", "(IIII)V"⟩, 7) := ⟨⟨by decide +kernel, by decide +kernel⟩, List.mem_of_getElem? (i := 12) (by decide +kernel), List.mem_of_getElem? (i := 427) (by decide +kernel), List.mem_of_getElem? (i := 428) (by decide +kernel)⟩
theorem lw_p17 : lw_okq (⟨"BoxedPages$Search", "begin", "(I)V"⟩, 10) := ⟨⟨by decide +kernel, by decide +kernel⟩, List.mem_of_getElem? (i := 144) (by decide +kernel), List.mem_of_getElem? (i := 435) (by decide +kernel), List.mem_of_getElem? (i := 436) (by decide +kernel)⟩
theorem lw_p18 : lw_okq (⟨"BoxedPages$Search", "await", "(IJ)V"⟩, 10) := ⟨⟨by decide +kernel, by decide +kernel⟩, List.mem_of_getElem? (i := 144) (by decide +kernel), List.mem_of_getElem? (i := 439) (by decide +kernel), List.mem_of_getElem? (i := 440) (by decide +kernel)⟩
theorem lw_p19 : lw_okq (⟨"BoxedPages$Search", "lookInto", "(LBoxedPages$Tree;I)LBoxedPages$Page;"⟩, 10) := ⟨⟨by decide +kernel, by decide +kernel⟩, List.mem_of_getElem? (i := 144) (by decide +kernel), List.mem_of_getElem? (i := 443) (by decide +kernel), List.mem_of_getElem? (i := 444) (by decide +kernel)⟩
theorem lw_p20 : lw_okq (⟨"BoxedPages$Search", "keepInOrder", "(LBoxedPages$Box;)V"⟩, 10) := ⟨⟨by decide +kernel, by decide +kernel⟩, List.mem_of_getElem? (i := 144) (by decide +kernel), List.mem_of_getElem? (i := 452) (by decide +kernel), List.mem_of_getElem? (i := 453) (by decide +kernel)⟩
theorem lw_p21 : lw_okq (⟨"BoxedPages", "noteThrift", "()V"⟩, 7) := ⟨⟨by decide +kernel, by decide +kernel⟩, List.mem_of_getElem? (i := 12) (by decide +kernel), List.mem_of_getElem? (i := 500) (by decide +kernel), List.mem_of_getElem? (i := 501) (by decide +kernel)⟩
theorem lw_p22 : lw_okq (⟨"BoxedPages", "searchPoint", "(II)V"⟩, 7) := ⟨⟨by decide +kernel, by decide +kernel⟩, List.mem_of_getElem? (i := 12) (by decide +kernel), List.mem_of_getElem? (i := 528) (by decide +kernel), List.mem_of_getElem? (i := 529) (by decide +kernel)⟩
theorem lw_p23 : lw_okq (⟨"BoxedPages$Search", "nearestWaiting", "()I"⟩, 10) := ⟨⟨by decide +kernel, by decide +kernel⟩, List.mem_of_getElem? (i := 144) (by decide +kernel), List.mem_of_getElem? (i := 537) (by decide +kernel), List.mem_of_getElem? (i := 538) (by decide +kernel)⟩
theorem lw_p24 : lw_okq (⟨"BoxedPages$Search", "keepCloser", "(LBoxedPages$Box;J)V"⟩, 10) := ⟨⟨by decide +kernel, by decide +kernel⟩, List.mem_of_getElem? (i := 144) (by decide +kernel), List.mem_of_getElem? (i := 545) (by decide +kernel), List.mem_of_getElem? (i := 546) (by decide +kernel)⟩
theorem lw_p25 : lw_okq (⟨"BoxedPagesModel", "counts", "()Z"⟩, 4) := ⟨⟨by decide +kernel, by decide +kernel⟩, List.mem_of_getElem? (i := 579) (by decide +kernel), List.mem_of_getElem? (i := 613) (by decide +kernel), List.mem_of_getElem? (i := 614) (by decide +kernel)⟩
theorem lw_p26 : lw_okq (⟨"BoxedPagesModel", "set", "(III)V"⟩, 4) := ⟨⟨by decide +kernel, by decide +kernel⟩, List.mem_of_getElem? (i := 579) (by decide +kernel), List.mem_of_getElem? (i := 617) (by decide +kernel), List.mem_of_getElem? (i := 618) (by decide +kernel)⟩
theorem lw_p27 : lw_okq (⟨"BoxedPagesModel", "before", "(II)Z"⟩, 4) := ⟨⟨by decide +kernel, by decide +kernel⟩, List.mem_of_getElem? (i := 579) (by decide +kernel), List.mem_of_getElem? (i := 621) (by decide +kernel), List.mem_of_getElem? (i := 622) (by decide +kernel)⟩
theorem lw_p28 : lw_okq (⟨"BoxedPagesModel", "part", "(II)I"⟩, 4) := ⟨⟨by decide +kernel, by decide +kernel⟩, List.mem_of_getElem? (i := 579) (by decide +kernel), List.mem_of_getElem? (i := 625) (by decide +kernel), List.mem_of_getElem? (i := 626) (by decide +kernel)⟩
theorem lw_p29 : lw_okq (⟨"BoxedPagesModel", "ended", "(I)I"⟩, 4) := ⟨⟨by decide +kernel, by decide +kernel⟩, List.mem_of_getElem? (i := 579) (by decide +kernel), List.mem_of_getElem? (i := 629) (by decide +kernel), List.mem_of_getElem? (i := 630) (by decide +kernel)⟩
theorem lw_p30 : lw_okq (⟨"BoxedPagesModel", "is", "(IIIII)Z"⟩, 4) := ⟨⟨by decide +kernel, by decide +kernel⟩, List.mem_of_getElem? (i := 579) (by decide +kernel), List.mem_of_getElem? (i := 637) (by decide +kernel), List.mem_of_getElem? (i := 638) (by decide +kernel)⟩
theorem lw_p31 : lw_okq (⟨"BoxedPagesModel", "remove", "(I)V"⟩, 4) := ⟨⟨by decide +kernel, by decide +kernel⟩, List.mem_of_getElem? (i := 579) (by decide +kernel), List.mem_of_getElem? (i := 641) (by decide +kernel), List.mem_of_getElem? (i := 642) (by decide +kernel)⟩
def lw_privs_2 : List (MethodName × Nat) := [(⟨"BoxedPages", "searchWindow", "(IIII)V"⟩, 7), (⟨"BoxedPages$Search", "begin", "(I)V"⟩, 10), (⟨"BoxedPages$Search", "await", "(IJ)V"⟩, 10), (⟨"BoxedPages$Search", "lookInto", "(LBoxedPages$Tree;I)LBoxedPages$Page;"⟩, 10), (⟨"BoxedPages$Search", "keepInOrder", "(LBoxedPages$Box;)V"⟩, 10), (⟨"BoxedPages", "noteThrift", "()V"⟩, 7), (⟨"BoxedPages", "searchPoint", "(II)V"⟩, 7), (⟨"BoxedPages$Search", "nearestWaiting", "()I"⟩, 10), (⟨"BoxedPages$Search", "keepCloser", "(LBoxedPages$Box;J)V"⟩, 10), (⟨"BoxedPagesModel", "counts", "()Z"⟩, 4), (⟨"BoxedPagesModel", "set", "(III)V"⟩, 4), (⟨"BoxedPagesModel", "before", "(II)Z"⟩, 4), (⟨"BoxedPagesModel", "part", "(II)I"⟩, 4), (⟨"BoxedPagesModel", "ended", "(I)I"⟩, 4), (⟨"BoxedPagesModel", "is", "(IIIII)Z"⟩, 4), (⟨"BoxedPagesModel", "remove", "(I)V"⟩, 4)]
theorem lw_r2 : ∀ q ∈ lw_privs_2, lw_okq q := List.forall_mem_cons.mpr ⟨lw_p16, List.forall_mem_cons.mpr ⟨lw_p17, List.forall_mem_cons.mpr ⟨lw_p18, List.forall_mem_cons.mpr ⟨lw_p19, List.forall_mem_cons.mpr ⟨lw_p20, List.forall_mem_cons.mpr ⟨lw_p21, List.forall_mem_cons.mpr ⟨lw_p22, List.forall_mem_cons.mpr ⟨lw_p23, List.forall_mem_cons.mpr ⟨lw_p24, List.forall_mem_cons.mpr ⟨lw_p25, List.forall_mem_cons.mpr ⟨lw_p26, List.forall_mem_cons.mpr ⟨lw_p27, List.forall_mem_cons.mpr ⟨lw_p28, List.forall_mem_cons.mpr ⟨lw_p29, List.forall_mem_cons.mpr ⟨lw_p30, List.forall_mem_cons.mpr ⟨lw_p31, fun _ h => absurd h List.not_mem_nil⟩⟩⟩⟩⟩⟩⟩⟩⟩⟩⟩⟩⟩⟩⟩⟩
theorem lw_p32 : lw_okq (⟨"BoxedPagesModel", "meeting", "(IIIII)I"⟩, 4) := ⟨⟨by decide +kernel, by decide +kernel⟩, List.mem_of_getElem? (i := 579) (by decide +kernel), List.mem_of_getElem? (i := 649) (by decide +kernel), List.mem_of_getElem? (i := 650) (by decide +kernel)⟩
theorem lw_p33 : lw_okq (⟨"BoxedPagesModel", "meets", "(IIIII)Z"⟩, 4) := ⟨⟨by decide +kernel, by decide +kernel⟩, List.mem_of_getElem? (i := 579) (by decide +kernel), List.mem_of_getElem? (i := 653) (by decide +kernel), List.mem_of_getElem? (i := 654) (by decide +kernel)⟩
theorem lw_p34 : lw_okq (⟨"BoxedPagesModel", "nearestOne", "(II)I"⟩, 4) := ⟨⟨by decide +kernel, by decide +kernel⟩, List.mem_of_getElem? (i := 579) (by decide +kernel), List.mem_of_getElem? (i := 694) (by decide +kernel), List.mem_of_getElem? (i := 695) (by decide +kernel)⟩
theorem lw_p35 : lw_okq (⟨"BoxedPagesModel", "farFrom", "(III)J"⟩, 4) := ⟨⟨by decide +kernel, by decide +kernel⟩, List.mem_of_getElem? (i := 579) (by decide +kernel), List.mem_of_getElem? (i := 698) (by decide +kernel), List.mem_of_getElem? (i := 699) (by decide +kernel)⟩
def lw_privs_3 : List (MethodName × Nat) := [(⟨"BoxedPagesModel", "meeting", "(IIIII)I"⟩, 4), (⟨"BoxedPagesModel", "meets", "(IIIII)Z"⟩, 4), (⟨"BoxedPagesModel", "nearestOne", "(II)I"⟩, 4), (⟨"BoxedPagesModel", "farFrom", "(III)J"⟩, 4)]
theorem lw_r3 : ∀ q ∈ lw_privs_3, lw_okq q := List.forall_mem_cons.mpr ⟨lw_p32, List.forall_mem_cons.mpr ⟨lw_p33, List.forall_mem_cons.mpr ⟨lw_p34, List.forall_mem_cons.mpr ⟨lw_p35, fun _ h => absurd h List.not_mem_nil⟩⟩⟩⟩
def lw_privs : List (MethodName × Nat) := lw_privs_1 ++ (lw_privs_2 ++ (lw_privs_3))
def lw_tbl : List Cond := k2_sels lw_privs ++ tables_1
theorem lw_privs_ok : ∀ q ∈ lw_privs, lw_okq q := by
  show ∀ q ∈ lw_privs_1 ++ (lw_privs_2 ++ (lw_privs_3)), lw_okq q
  exact List.forall_mem_append.mpr ⟨lw_r1, List.forall_mem_append.mpr ⟨lw_r2, lw_r3⟩⟩
/-- the words that go from method to method -/
def tbl : List Cond := lw_tbl.filter goodWord
theorem tb0 {w : Cond} (i : Nat) (h : (k2_sels lw_privs)[i]? = some w) (g : goodWord w = true) : w ∈ tbl := List.mem_filter.mpr ⟨List.mem_append_left _ (List.mem_of_getElem? h), g⟩
theorem tb1 {w : Cond} (i : Nat) (h : tables_1_1[i]? = some w) (g : goodWord w = true) : w ∈ tbl := List.mem_filter.mpr ⟨List.mem_append_right _ (List.mem_append_left _ (List.mem_of_getElem? h)), g⟩
theorem tb2 {w : Cond} (i : Nat) (h : tables_1_2[i]? = some w) (g : goodWord w = true) : w ∈ tbl := List.mem_filter.mpr ⟨List.mem_append_right _ (List.mem_append_right _ (List.mem_append_left _ (List.mem_of_getElem? h))), g⟩
theorem tb3 {w : Cond} (i : Nat) (h : tables_1_3[i]? = some w) (g : goodWord w = true) : w ∈ tbl := List.mem_filter.mpr ⟨List.mem_append_right _ (List.mem_append_right _ (List.mem_append_right _ (List.mem_append_left _ (List.mem_of_getElem? h)))), g⟩
theorem tb4 {w : Cond} (i : Nat) (h : tables_1_4[i]? = some w) (g : goodWord w = true) : w ∈ tbl := List.mem_filter.mpr ⟨List.mem_append_right _ (List.mem_append_right _ (List.mem_append_right _ (List.mem_append_right _ (List.mem_of_getElem? h)))), g⟩
theorem tb_good : ∀ w ∈ tbl, goodWord w = true := fun w h => (List.mem_filter.mp h).2
end
section
/-! MY OWN LAYER. A world of numbered cells: the references never change, the ints and longs are a memory. VG: the machine's judgement with heap, locals and written places hidden. -/
abbrev Xt := Program × Launch × Env × Room × State × MethodId × Array Value × List Frame × Method × Code
abbrev xP (X : Xt) : Program := X.1
abbrev xL (X : Xt) : Launch := X.2.1
abbrev xE (X : Xt) : Env := X.2.2.1
abbrev xR (X : Xt) : Room := X.2.2.2.1
abbrev xS (X : Xt) : State := X.2.2.2.2.1
abbrev xM (X : Xt) : MethodId := X.2.2.2.2.2.1
abbrev xA (X : Xt) : Array Value := X.2.2.2.2.2.2.1
abbrev xB (X : Xt) : List Frame := X.2.2.2.2.2.2.2.1
abbrev xMe (X : Xt) : Method := X.2.2.2.2.2.2.2.2.1
abbrev xC (X : Xt) : Code := X.2.2.2.2.2.2.2.2.2
/-- the locals, by their places -/
def lh (ls : Array Slot) (n : Nat) (lv : List (Option Value)) : Prop := ls.size = n ∧ lv_wf ls ∧ ∀ (i : Nat) (v : Value), lv[i]? = some (some v) → ls[i]? = some (.val v)
theorem lh_at {ls : Array Slot} {n : Nat} {lv : List (Option Value)} (h : lh ls n lv) {i : Nat} {v : Value} (e : lv[i]? = some (some v)) : ls[i]? = some (.val v) := h.2.2 i v e
def kl (lv : List (Option Value)) : List (Nat × Value) := (List.range lv.length).filterMap (fun j => (lv[j]?).bind (fun o => o.map (fun v => (j, v))))
theorem kl_mem {lv : List (Option Value)} {j : Nat} {v : Value} : (j, v) ∈ kl lv ↔ lv[j]? = some (some v) := by
  unfold kl
  rw [List.mem_filterMap]
  constructor
  · rintro ⟨a, -, h⟩
    cases hl : lv[a]? with
    | none => simp [hl] at h
    | some o =>
      cases o with
      | none => simp [hl] at h
      | some w =>
        simp [hl] at h
        obtain ⟨rfl, rfl⟩ := h
        exact hl
  · intro h
    exact ⟨j, List.mem_range.mpr (List.getElem?_eq_some_iff.mp h).1, by simp [h]⟩
theorem lh_has {ls : Array Slot} {n : Nat} {lv : List (Option Value)} (h : lh ls n lv) : lv_has ls n (kl lv) := ⟨h.1, h.2.1, fun q hq => h.2.2 q.1 q.2 (kl_mem.mp hq)⟩
/-- the place before holds no long -/
def nl (lv : List (Option Value)) (i : Nat) : Bool := match i with
  | 0 => true
  | j + 1 => match lv[j]? with
    | some (some v) => v.category != 2
    | _ => true
theorem nl_at {lv : List (Option Value)} {i j : Nat} {w : Value} (hb : nl lv i = true) (hj : lv[j]? = some (some w)) (h : j + 1 = i) : ¬ w.category = 2 := by
  subst h
  simp only [nl, hj] at hb
  simpa using hb
theorem lh_st1 {ls : Array Slot} {n i : Nat} {v : Value} {lv : List (Option Value)} (h : lv_has ls n ((i, v) :: (kl lv).filter (fun q => !(q.1 == i) && !(q.1 + 1 == i && q.2.category == 2)))) (hb : nl lv i = true) : lh ls n (lv.set i (some v)) := by
  refine ⟨h.1, h.2.1, fun j w hj => ?_⟩
  by_cases hji : j = i
  · subst hji
    by_cases hl : j < lv.length
    · rw [List.getElem?_set_self hl] at hj
      cases hj
      exact h.2.2 (j, v) List.mem_cons_self
    · rw [List.getElem?_eq_none (by simpa using Nat.le_of_not_lt hl)] at hj
      cases hj
  · rw [List.getElem?_set_ne (Ne.symm hji)] at hj
    refine h.2.2 (j, w) (List.mem_cons_of_mem _ (List.mem_filter.mpr ⟨kl_mem.mpr hj, ?_⟩))
    have h2 := nl_at (w := w) hb hj
    by_cases hq : j + 1 = i
    · simp [hji, h2 hq]
    · simp [hji, hq]
theorem lh_st2 {ls : Array Slot} {n i : Nat} {v : Value} {lv : List (Option Value)} (h : lv_has ls n ((i, v) :: (kl lv).filter (fun q => !(q.1 == i) && (!(q.1 == i + 1) && !(q.1 + 1 == i && q.2.category == 2))))) (hb : nl lv i = true) : lh ls n ((lv.set i (some v)).set (i + 1) none) := by
  refine ⟨h.1, h.2.1, fun j w hj => ?_⟩
  by_cases hj1 : j = i + 1
  · subst hj1
    by_cases hl : i + 1 < (lv.set i (some v)).length
    · rw [List.getElem?_set_self hl] at hj
      cases hj
    · rw [List.getElem?_eq_none (by simpa using Nat.le_of_not_lt hl)] at hj
      cases hj
  rw [List.getElem?_set_ne (Ne.symm hj1)] at hj
  by_cases hji : j = i
  · subst hji
    by_cases hl : j < lv.length
    · rw [List.getElem?_set_self hl] at hj
      cases hj
      exact h.2.2 (j, v) List.mem_cons_self
    · rw [List.getElem?_eq_none (by simpa using Nat.le_of_not_lt hl)] at hj
      cases hj
  · rw [List.getElem?_set_ne (Ne.symm hji)] at hj
    refine h.2.2 (j, w) (List.mem_cons_of_mem _ (List.mem_filter.mpr ⟨kl_mem.mpr hj, ?_⟩))
    have h2 := nl_at (w := w) hb hj
    by_cases hq : j + 1 = i
    · simp [hji, hj1, h2 hq]
    · simp [hji, hj1, hq]
/-- the locals of a method's entry -/
def lo (L : List (Nat × Value)) (i : Nat) : Option Value := match L with
  | [] => none
  | q :: t => if q.1 = i then some q.2 else lo t i
theorem lo_mem {i : Nat} {v : Value} : ∀ {L : List (Nat × Value)}, lo L i = some v → (i, v) ∈ L
  | [], h => by simp [lo] at h
  | q :: t, h => by
    unfold lo at h
    by_cases hq : q.1 = i
    · rw [if_pos hq] at h
      cases h
      rw [← hq]
      exact List.mem_cons_self
    · rw [if_neg hq] at h
      exact List.mem_cons_of_mem _ (lo_mem h)
theorem lh_entry {ls : Array Slot} {n : Nat} {L : List (Nat × Value)} (h : lv_has ls n L) : lh ls n ((List.range n).map (lo L)) := by
  refine ⟨h.1, h.2.1, fun j w hj => ?_⟩
  rw [List.getElem?_map] at hj
  cases hr : (List.range n)[j]? with
  | none => rw [hr] at hj; cases hj
  | some k =>
    have hk : j = k := by
      obtain ⟨h1, h2⟩ := List.getElem?_eq_some_iff.mp hr
      simpa using h2
    subst hk
    rw [hr] at hj
    exact h.2.2 (j, w) (lo_mem (Option.some.inj hj))
/-- the judgement -/
def VG (X : Xt) (A : Nat → Prop) (n cells slots : Nat) (Q : State → Prop) (I : Heap → Prop) (pc : Nat) (lv : List (Option Value)) (st : List Value) : Prop :=
  ∀ (H : Heap) (locs : List Loc) (ls : Array Slot), I H → va_S A (xS X).heap H locs → lh ls n lv → W (xP X) (xL X) (xE X) (xR X) (xS X) (xM X) (xA X) (xB X) (xMe X) (xC X) H locs cells slots Q (F0 (xM X) pc ls st)
def VB (X : Xt) (cc : ByteArray) : Prop := (xP X).tables.exec = Jvm.exec ∧ (xC X).code = cc
section VROWS
variable {X : Xt} {A : Nat → Prop} {n cells slots : Nat} {Q : State → Prop} {I : Heap → Prop} {pc : Nat} {lv : List (Option Value)} {st : List Value} {cc : ByteArray}
theorem v_iconst (B : VB X cc) {z : Int} (d : decode cc pc = .ok (.iconst z, 1)) {v : Int32} (hv : Int32.ofInt z = v) (k : VG X A n cells slots Q I (pc + 1) lv (.int v :: st)) : VG X A n cells slots Q I pc lv st := fun H locs ls hI hS hl => lv_iconst B.1 B.2 d hv (k H locs ls hI hS hl)
theorem v_bipush (B : VB X cc) {z : Int} (d : decode cc pc = .ok (.bipush z, 2)) {v : Int32} (hv : (Int8.ofInt z).toInt32 = v) (k : VG X A n cells slots Q I (pc + 2) lv (.int v :: st)) : VG X A n cells slots Q I pc lv st := fun H locs ls hI hS hl => lv_bipush B.1 B.2 d hv (k H locs ls hI hS hl)
theorem v_sipush (B : VB X cc) {z : Int} (d : decode cc pc = .ok (.sipush z, 3)) {v : Int32} (hv : (Int16.ofInt z).toInt32 = v) (k : VG X A n cells slots Q I (pc + 3) lv (.int v :: st)) : VG X A n cells slots Q I pc lv st := fun H locs ls hI hS hl => lv_sipush B.1 B.2 d hv (k H locs ls hI hS hl)
theorem v_lconst (B : VB X cc) {z : Fin 2} (d : decode cc pc = .ok (.lconst z, 1)) {v : Int64} (hv : Int64.ofNat (z : Nat) = v) (k : VG X A n cells slots Q I (pc + 1) lv (.long v :: st)) : VG X A n cells slots Q I pc lv st := fun H locs ls hI hS hl => lv_lconst B.1 B.2 d hv (k H locs ls hI hS hl)
theorem v_iload_n (B : VB X cc) {i : Fin 4} (d : decode cc pc = .ok (.iload_n i, 1)) {x : Int32} (h : lv[(i : Nat)]? = some (some (.int x))) (k : VG X A n cells slots Q I (pc + 1) lv (.int x :: st)) : VG X A n cells slots Q I pc lv st := fun H locs ls hI hS hl => lv_iload_n B.1 B.2 d rfl (lh_at hl h) (k H locs ls hI hS hl)
theorem v_iload (B : VB X cc) {i : Nat} (d : decode cc pc = .ok (.iload i, 2)) {x : Int32} (h : lv[i]? = some (some (.int x))) (k : VG X A n cells slots Q I (pc + 2) lv (.int x :: st)) : VG X A n cells slots Q I pc lv st := fun H locs ls hI hS hl => lv_iload B.1 B.2 d (lh_at hl h) (k H locs ls hI hS hl)
theorem v_lload_n (B : VB X cc) {i : Fin 4} (d : decode cc pc = .ok (.lload_n i, 1)) {x : Int64} (h : lv[(i : Nat)]? = some (some (.long x))) (k : VG X A n cells slots Q I (pc + 1) lv (.long x :: st)) : VG X A n cells slots Q I pc lv st := fun H locs ls hI hS hl => lv_lload_n B.1 B.2 d rfl (lh_at hl h) (k H locs ls hI hS hl)
theorem v_lload (B : VB X cc) {i : Nat} (d : decode cc pc = .ok (.lload i, 2)) {x : Int64} (h : lv[i]? = some (some (.long x))) (k : VG X A n cells slots Q I (pc + 2) lv (.long x :: st)) : VG X A n cells slots Q I pc lv st := fun H locs ls hI hS hl => lv_lload B.1 B.2 d (lh_at hl h) (k H locs ls hI hS hl)
theorem v_aload_n (B : VB X cc) {i : Fin 4} (d : decode cc pc = .ok (.aload_n i, 1)) {x : Nat} (h : lv[(i : Nat)]? = some (some (.ref x))) (k : VG X A n cells slots Q I (pc + 1) lv (.ref x :: st)) : VG X A n cells slots Q I pc lv st := fun H locs ls hI hS hl => lv_aload_n B.1 B.2 d rfl (lh_at hl h) (k H locs ls hI hS hl)
theorem v_aload (B : VB X cc) {i : Nat} (d : decode cc pc = .ok (.aload i, 2)) {x : Nat} (h : lv[i]? = some (some (.ref x))) (k : VG X A n cells slots Q I (pc + 2) lv (.ref x :: st)) : VG X A n cells slots Q I pc lv st := fun H locs ls hI hS hl => lv_aload B.1 B.2 d (lh_at hl h) (k H locs ls hI hS hl)
theorem v_istore_n (B : VB X cc) {i : Fin 4} (d : decode cc pc = .ok (.istore_n i, 1)) {x : Int32} (hb : nl lv (i : Nat) = true) (hn : (i : Nat) < n) {lv' : List (Option Value)} (hl' : lv.set (i : Nat) (some (.int x)) = lv') (k : VG X A n cells slots Q I (pc + 1) lv' st) : VG X A n cells slots Q I pc lv (.int x :: st) := fun H locs ls hI hS hl => lv_istore_n B.1 B.2 d rfl (lh_has hl) hn rfl (fun ls' h' => k H locs ls' hI hS (hl' ▸ lh_st1 h' hb))
theorem v_istore (B : VB X cc) {i : Nat} (d : decode cc pc = .ok (.istore i, 2)) {x : Int32} (hb : nl lv i = true) (hn : i < n) {lv' : List (Option Value)} (hl' : lv.set i (some (.int x)) = lv') (k : VG X A n cells slots Q I (pc + 2) lv' st) : VG X A n cells slots Q I pc lv (.int x :: st) := fun H locs ls hI hS hl => lv_istore B.1 B.2 d (lh_has hl) hn rfl (fun ls' h' => k H locs ls' hI hS (hl' ▸ lh_st1 h' hb))
theorem v_astore_n (B : VB X cc) {i : Fin 4} (d : decode cc pc = .ok (.astore_n i, 1)) {x : Nat} (hb : nl lv (i : Nat) = true) (hn : (i : Nat) < n) {lv' : List (Option Value)} (hl' : lv.set (i : Nat) (some (.ref x)) = lv') (k : VG X A n cells slots Q I (pc + 1) lv' st) : VG X A n cells slots Q I pc lv (.ref x :: st) := fun H locs ls hI hS hl => lv_astore_n B.1 B.2 d rfl (lh_has hl) hn rfl (fun ls' h' => k H locs ls' hI hS (hl' ▸ lh_st1 h' hb))
theorem v_astore (B : VB X cc) {i : Nat} (d : decode cc pc = .ok (.astore i, 2)) {x : Nat} (hb : nl lv i = true) (hn : i < n) {lv' : List (Option Value)} (hl' : lv.set i (some (.ref x)) = lv') (k : VG X A n cells slots Q I (pc + 2) lv' st) : VG X A n cells slots Q I pc lv (.ref x :: st) := fun H locs ls hI hS hl => lv_astore B.1 B.2 d (lh_has hl) hn rfl (fun ls' h' => k H locs ls' hI hS (hl' ▸ lh_st1 h' hb))
theorem v_lstore_n (B : VB X cc) {i : Fin 4} (d : decode cc pc = .ok (.lstore_n i, 1)) {x : Int64} (hb : nl lv (i : Nat) = true) (hn : (i : Nat) + 1 < n) {lv' : List (Option Value)} (hl' : (lv.set (i : Nat) (some (.long x))).set ((i : Nat) + 1) none = lv') (k : VG X A n cells slots Q I (pc + 1) lv' st) : VG X A n cells slots Q I pc lv (.long x :: st) := fun H locs ls hI hS hl => lv_lstore_n B.1 B.2 d rfl (lh_has hl) hn rfl (fun ls' h' => k H locs ls' hI hS (hl' ▸ lh_st2 h' hb))
theorem v_lstore (B : VB X cc) {i : Nat} (d : decode cc pc = .ok (.lstore i, 2)) {x : Int64} (hb : nl lv i = true) (hn : i + 1 < n) {lv' : List (Option Value)} (hl' : (lv.set i (some (.long x))).set (i + 1) none = lv') (k : VG X A n cells slots Q I (pc + 2) lv' st) : VG X A n cells slots Q I pc lv (.long x :: st) := fun H locs ls hI hS hl => lv_lstore B.1 B.2 d (lh_has hl) hn rfl (fun ls' h' => k H locs ls' hI hS (hl' ▸ lh_st2 h' hb))
theorem v_iinc (B : VB X cc) {i : Nat} {z : Int} (d : decode cc pc = .ok (.iinc i z, 3)) {x y : Int32} (h : lv[i]? = some (some (.int x))) (hy : x + Int32.ofInt z = y) (hb : nl lv i = true) (hn : i < n) {lv' : List (Option Value)} (hl' : lv.set i (some (.int y)) = lv') (k : VG X A n cells slots Q I (pc + 3) lv' st) : VG X A n cells slots Q I pc lv st := fun H locs ls hI hS hl => by
  obtain ⟨q, hq⟩ := List.getElem?_of_mem (kl_mem.mpr h)
  exact lv_iinc B.1 B.2 d (lh_has hl) hq hy hn rfl (fun ls' h' => k H locs ls' hI hS (hl' ▸ lh_st1 h' hb))
theorem v_iadd (B : VB X cc) {x y : Int32} (d : decode cc pc = .ok (.iadd, 1)) (k : VG X A n cells slots Q I (pc + 1) lv (.int (x + y) :: st)) : VG X A n cells slots Q I pc lv (.int y :: .int x :: st) := fun H locs ls hI hS hl => lv_iadd B.1 B.2 d (k H locs ls hI hS hl)
theorem v_isub (B : VB X cc) {x y : Int32} (d : decode cc pc = .ok (.isub, 1)) (k : VG X A n cells slots Q I (pc + 1) lv (.int (x - y) :: st)) : VG X A n cells slots Q I pc lv (.int y :: .int x :: st) := fun H locs ls hI hS hl => lv_isub B.1 B.2 d (k H locs ls hI hS hl)
theorem v_imul (B : VB X cc) {x y : Int32} (d : decode cc pc = .ok (.imul, 1)) (k : VG X A n cells slots Q I (pc + 1) lv (.int (x * y) :: st)) : VG X A n cells slots Q I pc lv (.int y :: .int x :: st) := fun H locs ls hI hS hl => lv_imul B.1 B.2 d (k H locs ls hI hS hl)
theorem v_idiv (B : VB X cc) {x y : Int32} (d : decode cc pc = .ok (.idiv, 1)) (hne : ¬ y = 0) (k : VG X A n cells slots Q I (pc + 1) lv (.int (x / y) :: st)) : VG X A n cells slots Q I pc lv (.int y :: .int x :: st) := fun H locs ls hI hS hl => lv_idiv B.1 B.2 d hne (k H locs ls hI hS hl)
theorem v_iand (B : VB X cc) {x y : Int32} (d : decode cc pc = .ok (.iand, 1)) (k : VG X A n cells slots Q I (pc + 1) lv (.int (x &&& y) :: st)) : VG X A n cells slots Q I pc lv (.int y :: .int x :: st) := fun H locs ls hI hS hl => lv_iand B.1 B.2 d (k H locs ls hI hS hl)
theorem v_ixor (B : VB X cc) {x y : Int32} (d : decode cc pc = .ok (.ixor, 1)) (k : VG X A n cells slots Q I (pc + 1) lv (.int (x ^^^ y) :: st)) : VG X A n cells slots Q I pc lv (.int y :: .int x :: st) := fun H locs ls hI hS hl => lv_ixor B.1 B.2 d (k H locs ls hI hS hl)
theorem v_ishr (B : VB X cc) {x y : Int32} (d : decode cc pc = .ok (.ishr, 1)) (k : VG X A n cells slots Q I (pc + 1) lv (.int (x >>> (y &&& 31)) :: st)) : VG X A n cells slots Q I pc lv (.int y :: .int x :: st) := fun H locs ls hI hS hl => lv_ishr B.1 B.2 d (k H locs ls hI hS hl)
theorem v_ishl (B : VB X cc) {x y : Int32} (d : decode cc pc = .ok (.ishl, 1)) (k : VG X A n cells slots Q I (pc + 1) lv (.int (x <<< (y &&& 31)) :: st)) : VG X A n cells slots Q I pc lv (.int y :: .int x :: st) := fun H locs ls hI hS hl => lv_ishl B.1 B.2 d (k H locs ls hI hS hl)
theorem v_ineg (B : VB X cc) {x : Int32} (d : decode cc pc = .ok (.ineg, 1)) (k : VG X A n cells slots Q I (pc + 1) lv (.int (-x) :: st)) : VG X A n cells slots Q I pc lv (.int x :: st) := fun H locs ls hI hS hl => lv_ineg B.1 B.2 d (k H locs ls hI hS hl)
theorem v_ladd (B : VB X cc) {x y : Int64} (d : decode cc pc = .ok (.ladd, 1)) (k : VG X A n cells slots Q I (pc + 1) lv (.long (x + y) :: st)) : VG X A n cells slots Q I pc lv (.long y :: .long x :: st) := fun H locs ls hI hS hl => lv_ladd B.1 B.2 d (k H locs ls hI hS hl)
theorem v_lsub (B : VB X cc) {x y : Int64} (d : decode cc pc = .ok (.lsub, 1)) (k : VG X A n cells slots Q I (pc + 1) lv (.long (x - y) :: st)) : VG X A n cells slots Q I pc lv (.long y :: .long x :: st) := fun H locs ls hI hS hl => lv_lsub B.1 B.2 d (k H locs ls hI hS hl)
theorem v_lmul (B : VB X cc) {x y : Int64} (d : decode cc pc = .ok (.lmul, 1)) (k : VG X A n cells slots Q I (pc + 1) lv (.long (x * y) :: st)) : VG X A n cells slots Q I pc lv (.long y :: .long x :: st) := fun H locs ls hI hS hl => lv_lmul B.1 B.2 d (k H locs ls hI hS hl)
theorem v_lcmp (B : VB X cc) {x y : Int64} (d : decode cc pc = .ok (.lcmp, 1)) (k : VG X A n cells slots Q I (pc + 1) lv (.int (lg_cmp x y) :: st)) : VG X A n cells slots Q I pc lv (.long y :: .long x :: st) := fun H locs ls hI hS hl => W.lcmp B.1 B.2 d (k H locs ls hI hS hl)
theorem v_i2l (B : VB X cc) {x : Int32} (d : decode cc pc = .ok (.i2l, 1)) (k : VG X A n cells slots Q I (pc + 1) lv (.long x.toInt64 :: st)) : VG X A n cells slots Q I pc lv (.int x :: st) := fun H locs ls hI hS hl => lv_i2l B.1 B.2 d rfl (k H locs ls hI hS hl)
theorem v_dup (B : VB X cc) {va : Value} (d : decode cc pc = .ok (.dup, 1)) (hc : va.category = 1) (k : VG X A n cells slots Q I (pc + 1) lv (va :: va :: st)) : VG X A n cells slots Q I pc lv (va :: st) := fun H locs ls hI hS hl => lv_dup B.1 B.2 d hc (k H locs ls hI hS hl)
theorem v_dup_x1 (B : VB X cc) {va vb : Value} (d : decode cc pc = .ok (.dup_x1, 1)) (hc : va.category = 1) (hc2 : vb.category = 1) (k : VG X A n cells slots Q I (pc + 1) lv (va :: vb :: va :: st)) : VG X A n cells slots Q I pc lv (va :: vb :: st) := fun H locs ls hI hS hl => lv_dup_x1 B.1 B.2 d hc hc2 (k H locs ls hI hS hl)
theorem v_dup2_11 (B : VB X cc) {va vb : Value} (d : decode cc pc = .ok (.dup2, 1)) (hc : va.category = 1) (hc2 : vb.category = 1) (k : VG X A n cells slots Q I (pc + 1) lv (va :: vb :: va :: vb :: st)) : VG X A n cells slots Q I pc lv (va :: vb :: st) := fun H locs ls hI hS hl => lv_dup2_11 B.1 B.2 d hc hc2 (k H locs ls hI hS hl)
theorem v_pop (B : VB X cc) {va : Value} (d : decode cc pc = .ok (.pop, 1)) (hc : va.category = 1) (k : VG X A n cells slots Q I (pc + 1) lv st) : VG X A n cells slots Q I pc lv (va :: st) := fun H locs ls hI hS hl => lv_pop B.1 B.2 d hc (k H locs ls hI hS hl)
theorem v_goto (B : VB X cc) {off : Int} (t : Nat) (d : decode cc pc = .ok (.goto off, 3)) (ht : (pc : Int) + off = (t : Int)) (k : VG X A n cells slots Q I t lv st) : VG X A n cells slots Q I pc lv st := fun H locs ls hI hS hl => lv_goto B.1 B.2 d ht (k H locs ls hI hS hl)
theorem v_if_eq (B : VB X cc) {x : Int32} {off : Int} (t : Nat) (d : decode cc pc = .ok (.ifCond .eq off, 3)) (ht : (pc : Int) + off = (t : Int)) (kt : x = 0 → VG X A n cells slots Q I t lv st) (kf : ¬ x = 0 → VG X A n cells slots Q I (pc + 3) lv st) : VG X A n cells slots Q I pc lv (.int x :: st) := fun H locs ls hI hS hl => lv_if_eq B.1 B.2 d ht (fun h => kt h H locs ls hI hS hl) (fun h => kf h H locs ls hI hS hl)
theorem v_if_ne (B : VB X cc) {x : Int32} {off : Int} (t : Nat) (d : decode cc pc = .ok (.ifCond .ne off, 3)) (ht : (pc : Int) + off = (t : Int)) (kt : ¬ x = 0 → VG X A n cells slots Q I t lv st) (kf : x = 0 → VG X A n cells slots Q I (pc + 3) lv st) : VG X A n cells slots Q I pc lv (.int x :: st) := fun H locs ls hI hS hl => lv_if_ne B.1 B.2 d ht (fun h => kt h H locs ls hI hS hl) (fun h => kf h H locs ls hI hS hl)
theorem v_if_lt (B : VB X cc) {x : Int32} {off : Int} (t : Nat) (d : decode cc pc = .ok (.ifCond .lt off, 3)) (ht : (pc : Int) + off = (t : Int)) (kt : x < 0 → VG X A n cells slots Q I t lv st) (kf : ¬ x < 0 → VG X A n cells slots Q I (pc + 3) lv st) : VG X A n cells slots Q I pc lv (.int x :: st) := fun H locs ls hI hS hl => lv_if_lt B.1 B.2 d ht (fun h => kt h H locs ls hI hS hl) (fun h => kf h H locs ls hI hS hl)
theorem v_if_ge (B : VB X cc) {x : Int32} {off : Int} (t : Nat) (d : decode cc pc = .ok (.ifCond .ge off, 3)) (ht : (pc : Int) + off = (t : Int)) (kt : 0 ≤ x → VG X A n cells slots Q I t lv st) (kf : ¬ 0 ≤ x → VG X A n cells slots Q I (pc + 3) lv st) : VG X A n cells slots Q I pc lv (.int x :: st) := fun H locs ls hI hS hl => lv_if_ge B.1 B.2 d ht (fun h => kt h H locs ls hI hS hl) (fun h => kf h H locs ls hI hS hl)
theorem v_if_gt (B : VB X cc) {x : Int32} {off : Int} (t : Nat) (d : decode cc pc = .ok (.ifCond .gt off, 3)) (ht : (pc : Int) + off = (t : Int)) (kt : 0 < x → VG X A n cells slots Q I t lv st) (kf : ¬ 0 < x → VG X A n cells slots Q I (pc + 3) lv st) : VG X A n cells slots Q I pc lv (.int x :: st) := fun H locs ls hI hS hl => lv_if_gt B.1 B.2 d ht (fun h => kt h H locs ls hI hS hl) (fun h => kf h H locs ls hI hS hl)
theorem v_if_le (B : VB X cc) {x : Int32} {off : Int} (t : Nat) (d : decode cc pc = .ok (.ifCond .le off, 3)) (ht : (pc : Int) + off = (t : Int)) (kt : x ≤ 0 → VG X A n cells slots Q I t lv st) (kf : ¬ x ≤ 0 → VG X A n cells slots Q I (pc + 3) lv st) : VG X A n cells slots Q I pc lv (.int x :: st) := fun H locs ls hI hS hl => lv_if_le B.1 B.2 d ht (fun h => kt h H locs ls hI hS hl) (fun h => kf h H locs ls hI hS hl)
theorem v_icmp_eq (B : VB X cc) {x y : Int32} {off : Int} (t : Nat) (d : decode cc pc = .ok (.if_icmp .eq off, 3)) (ht : (pc : Int) + off = (t : Int)) (kt : x = y → VG X A n cells slots Q I t lv st) (kf : ¬ x = y → VG X A n cells slots Q I (pc + 3) lv st) : VG X A n cells slots Q I pc lv (.int y :: .int x :: st) := fun H locs ls hI hS hl => lv_icmp_eq B.1 B.2 d ht (fun h => kt h H locs ls hI hS hl) (fun h => kf h H locs ls hI hS hl)
theorem v_icmp_ne (B : VB X cc) {x y : Int32} {off : Int} (t : Nat) (d : decode cc pc = .ok (.if_icmp .ne off, 3)) (ht : (pc : Int) + off = (t : Int)) (kt : ¬ x = y → VG X A n cells slots Q I t lv st) (kf : x = y → VG X A n cells slots Q I (pc + 3) lv st) : VG X A n cells slots Q I pc lv (.int y :: .int x :: st) := fun H locs ls hI hS hl => lv_icmp_ne B.1 B.2 d ht (fun h => kt h H locs ls hI hS hl) (fun h => kf h H locs ls hI hS hl)
theorem v_icmp_lt (B : VB X cc) {x y : Int32} {off : Int} (t : Nat) (d : decode cc pc = .ok (.if_icmp .lt off, 3)) (ht : (pc : Int) + off = (t : Int)) (kt : x < y → VG X A n cells slots Q I t lv st) (kf : ¬ x < y → VG X A n cells slots Q I (pc + 3) lv st) : VG X A n cells slots Q I pc lv (.int y :: .int x :: st) := fun H locs ls hI hS hl => lv_icmp_lt B.1 B.2 d ht (fun h => kt h H locs ls hI hS hl) (fun h => kf h H locs ls hI hS hl)
theorem v_icmp_ge (B : VB X cc) {x y : Int32} {off : Int} (t : Nat) (d : decode cc pc = .ok (.if_icmp .ge off, 3)) (ht : (pc : Int) + off = (t : Int)) (kt : y ≤ x → VG X A n cells slots Q I t lv st) (kf : ¬ y ≤ x → VG X A n cells slots Q I (pc + 3) lv st) : VG X A n cells slots Q I pc lv (.int y :: .int x :: st) := fun H locs ls hI hS hl => lv_icmp_ge B.1 B.2 d ht (fun h => kt h H locs ls hI hS hl) (fun h => kf h H locs ls hI hS hl)
theorem v_icmp_gt (B : VB X cc) {x y : Int32} {off : Int} (t : Nat) (d : decode cc pc = .ok (.if_icmp .gt off, 3)) (ht : (pc : Int) + off = (t : Int)) (kt : y < x → VG X A n cells slots Q I t lv st) (kf : ¬ y < x → VG X A n cells slots Q I (pc + 3) lv st) : VG X A n cells slots Q I pc lv (.int y :: .int x :: st) := fun H locs ls hI hS hl => lv_icmp_gt B.1 B.2 d ht (fun h => kt h H locs ls hI hS hl) (fun h => kf h H locs ls hI hS hl)
theorem v_icmp_le (B : VB X cc) {x y : Int32} {off : Int} (t : Nat) (d : decode cc pc = .ok (.if_icmp .le off, 3)) (ht : (pc : Int) + off = (t : Int)) (kt : x ≤ y → VG X A n cells slots Q I t lv st) (kf : ¬ x ≤ y → VG X A n cells slots Q I (pc + 3) lv st) : VG X A n cells slots Q I pc lv (.int y :: .int x :: st) := fun H locs ls hI hS hl => lv_icmp_le B.1 B.2 d ht (fun h => kt h H locs ls hI hS hl) (fun h => kf h H locs ls hI hS hl)
/-- fewer locals are needed from here on -/
theorem v_lv {lv' : List (Option Value)} (h : ∀ (i : Nat) (v : Value), lv'[i]? = some (some v) → lv[i]? = some (some v)) (k : VG X A n cells slots Q I pc lv' st) : VG X A n cells slots Q I pc lv st := fun H locs ls hI hS hl => k H locs ls hI hS ⟨hl.1, hl.2.1, fun i v e => hl.2.2 i v (h i v e)⟩
theorem v_I {I' : Heap → Prop} (h : ∀ H, I H → I' H) (k : VG X A n cells slots Q I' pc lv st) : VG X A n cells slots Q I pc lv st := fun H locs ls hI hS hl => k H locs ls (h H hI) hS hl
end VROWS
end
section
/-! WORLDS OF NUMBERED CELLS. Y: the tables' numbers, the classes, the array classes, the addresses by number, how many, and the form of each cell over its ints and its longs. -/
abbrev Mu : Type := (Nat → Nat → Int32) × (Nat → Nat → Int64)
abbrev Yt : Type := va_G × List vw_C × List (ClassId × FieldType) × (Nat → Nat) × Nat × (Nat → (Nat → Int32) → (Nat → Int64) → va_E)
abbrev yD (Y : Yt) : va_G := Y.1
abbrev yC (Y : Yt) : List vw_C := Y.2.1
abbrev yT (Y : Yt) : List (ClassId × FieldType) := Y.2.2.1
abbrev ad (Y : Yt) : Nat → Nat := Y.2.2.2.1
abbrev yN (Y : Yt) : Nat := Y.2.2.2.2.1
abbrev sh (Y : Yt) : Nat → (Nat → Int32) → (Nat → Int64) → va_E := Y.2.2.2.2.2
def yW (Y : Yt) (μ : Mu) : va_W := (List.range (yN Y)).map (fun i => (ad Y i, sh Y i (μ.1 i) (μ.2 i)))
def yA (Y : Yt) : Nat → Prop := fun q => ∃ i, i < yN Y ∧ q = ad Y i
def yI (Y : Yt) (μ : Mu) (H : Heap) : Prop := va_P (yD Y) (yC Y) (yW Y μ) H
/-- the addresses are apart -/
def yO (Y : Yt) : Prop := ∀ i j, i < yN Y → j < yN Y → ad Y i = ad Y j → i = j
theorem yW_get {Y : Yt} {i : Nat} (μ : Mu) (h : i < yN Y) : (yW Y μ)[i]? = some (ad Y i, sh Y i (μ.1 i) (μ.2 i)) := by
  unfold yW
  rw [List.getElem?_map, List.getElem?_range h]
  rfl
theorem yW_in {Y : Yt} {μ : Mu} {k : Nat} {q : Nat × va_E} (h : (yW Y μ)[k]? = some q) : k < yN Y ∧ q = (ad Y k, sh Y k (μ.1 k) (μ.2 k)) := by
  have hk : k < yN Y := by
    have h1 := (List.getElem?_eq_some_iff.mp h).1
    simpa [yW] using h1
  rw [yW_get μ hk] at h
  exact ⟨hk, (Option.some.inj h).symm⟩
theorem yW_D {Y : Yt} (hO : yO Y) (μ : Mu) : va_D (yA Y) (yW Y μ) := by
  refine ⟨fun i j p q hi hj hpq => ?_, fun k q hk => ?_⟩
  · obtain ⟨h1, rfl⟩ := yW_in hi
    obtain ⟨h2, rfl⟩ := yW_in hj
    exact hO i j h1 h2 hpq
  · obtain ⟨h1, rfl⟩ := yW_in hk
    exact ⟨k, h1, rfl⟩
theorem yW_set {Y : Yt} {μ μ' : Mu} {i : Nat} {e : va_E} (hi : i < yN Y) (h1 : sh Y i (μ'.1 i) (μ'.2 i) = e) (h2 : ∀ j, j ≠ i → μ'.1 j = μ.1 j ∧ μ'.2 j = μ.2 j) : (yW Y μ).set i (ad Y i, e) = yW Y μ' := by
  refine List.ext_getElem? fun k => ?_
  have hlen : (yW Y μ).length = yN Y := by simp [yW]
  by_cases hk : k < yN Y
  · rw [yW_get μ' hk]
    by_cases hki : k = i
    · subst hki
      rw [List.getElem?_set_self (by rw [hlen]; exact hk), h1]
    · rw [List.getElem?_set_ne (Ne.symm hki), yW_get μ hk, (h2 k hki).1, (h2 k hki).2]
  · rw [List.getElem?_eq_none (by rw [List.length_set, hlen]; omega), List.getElem?_eq_none (by simp [yW]; omega)]
/-- writes: an int, a long, at a place of a cell -/
def wi (μ : Mu) (i k : Nat) (x : Int32) : Mu := (fun a => if a = i then upd (μ.1 i) k x else μ.1 a, μ.2)
def wl (μ : Mu) (i k : Nat) (x : Int64) : Mu := (μ.1, fun a => if a = i then vp_updL (μ.2 i) k x else μ.2 a)
def wr (μ : Mu) (i : Nat) (f : Nat → Int32) : Mu := (fun a => if a = i then f else μ.1 a, μ.2)
theorem wi_self (μ : Mu) (i k : Nat) (x : Int32) : (wi μ i k x).1 i = upd (μ.1 i) k x := by simp [wi]
theorem wi_ne (μ : Mu) {i j : Nat} (k : Nat) (x : Int32) (h : j ≠ i) : (wi μ i k x).1 j = μ.1 j := by simp [wi, h]
theorem wl_self (μ : Mu) (i k : Nat) (x : Int64) : (wl μ i k x).2 i = vp_updL (μ.2 i) k x := by simp [wl]
theorem wl_ne (μ : Mu) {i j : Nat} (k : Nat) (x : Int64) (h : j ≠ i) : (wl μ i k x).2 j = μ.2 j := by simp [wl, h]
theorem wr_self (μ : Mu) (i : Nat) (f : Nat → Int32) : (wr μ i f).1 i = f := by simp [wr]
theorem wr_ne (μ : Mu) {i j : Nat} (f : Nat → Int32) (h : j ≠ i) : (wr μ i f).1 j = μ.1 j := by simp [wr, h]
/-- cell i is an object of class ci with these fields; an array -/
def Ob (Y : Yt) (i ci : Nat) (F : (Nat → Int32) → (Nat → Int64) → List Value) : Prop := i < yN Y ∧ ∀ m lm, sh Y i m lm = .inr (ci, F m lm)
def AI (Y : Yt) (i z : Nat) : Prop := i < yN Y ∧ ∃ (cA : ClassId) (t0 : Nat), (yT Y)[t0]? = some (cA, .int) ∧ ∀ m lm, sh Y i m lm = .inl (cA, z, .inl m)
def AL (Y : Yt) (i z : Nat) : Prop := i < yN Y ∧ ∃ (cA : ClassId) (t0 : Nat), (yT Y)[t0]? = some (cA, .long) ∧ ∀ m lm, sh Y i m lm = .inl (cA, z, .inr (.inl lm))
/-- an array of references: the cells that it names (never null) -/
def AR (Y : Yt) (i z : Nat) (f : Nat → Nat) : Prop := i < yN Y ∧ ∃ (cA : ClassId) (t0 : Nat) (ty : FieldType), (yT Y)[t0]? = some (cA, ty) ∧ refKind ty = true ∧ ∀ m lm, sh Y i m lm = .inl (cA, z, .inr (.inr (.inr (.inr (fun j => some (ad Y (f j)))))))
/-- what a method has at hand: the machine, its code, its tables, the world's tables -/
def VC (X : Xt) (Y : Yt) (l : Launch) (rm : Room) (cc : ByteArray) (n : Nat) (ret : Option FieldType) (ws : List Cond) (own : String) : Prop :=
  (xP X).tables.exec = Jvm.exec ∧ (xC X).code = cc ∧ (xC X).maxLocals = n ∧ (xS X).vm.findClass own = some (xM X).cls ∧ (∀ w ∈ ws, w.before (xA X) (xS X) = true) ∧ (xMe X).sig.returnType = ret ∧ (xMe X).locks = false ∧ va_K (yD Y) (yC Y) (yT Y) (xS X) ∧ yO Y ∧ xL X = l ∧ xR X = rm
theorem VC.B {X : Xt} {Y : Yt} {l : Launch} {rm : Room} {cc : ByteArray} {n : Nat} {ret : Option FieldType} {ws : List Cond} {own : String} (C : VC X Y l rm cc n ret ws own) : VB X cc := ⟨C.1, C.2.1⟩
/-- a contract: with these arguments and this memory the method answers r and leaves the memory μ', as Post says -/
def yP (Y : Yt) (av : List Value) (μ : Mu) : Array Value → State → Prop := va_Pc av (fun U => yI Y μ U.heap ∧ va_K (yD Y) (yC Y) (yT Y) U)
def yQ (Y : Yt) (Post : Option Value → Mu → Prop) : Array Value → State → Outcome → State → Prop := fun _ st oc t => (∃ (r : Option Value) (μ' : Mu), oc = .returned r ∧ Post r μ' ∧ yI Y μ' t.heap) ∧ va_F (yA Y) st t
def Ct (l : Launch) (Y : Yt) (y : MethodName) (ws : List Cond) (rm : Room) (av : List Value) (μ : Mu) (Post : Option Value → Mu → Prop) : Prop := Met l y ws rm (yP Y av μ) (yQ Y Post) 0 0 (yA Y)
/-- the kinds of ends: just this answer and this memory; nothing, an int, a long, a cell, and of it and the memory something -/
def PE (r0 : Option Value) (μ0 : Mu) : Option Value → Mu → Prop := fun r μ => r = r0 ∧ μ = μ0
def PV (P : Mu → Prop) : Option Value → Mu → Prop := fun r μ => r = none ∧ P μ
def PI (P : Int32 → Mu → Prop) : Option Value → Mu → Prop := fun r μ => ∃ x : Int32, r = some (.int x) ∧ P x μ
def PL (P : Int64 → Mu → Prop) : Option Value → Mu → Prop := fun r μ => ∃ x : Int64, r = some (.long x) ∧ P x μ
abbrev VQ (X : Xt) (Y : Yt) (Post : Option Value → Mu → Prop) : State → Prop := MQ (xB X) (yQ Y Post) (xA X) (xS X) 0 0 (yA Y)
theorem ct_of {l : Launch} {Y : Yt} {y : MethodName} {ws ws' : List Cond} {rm : Room} {av : List Value} {μ : Mu} {Post : Option Value → Mu → Prop} {cc : ByteArray} {n : Nat} {ret : Option FieldType} (hO : yO Y) (hy : plainName y.cls = true) (hw : ws = Cond.code y cc n ret :: ws') (hn : (lg_sl av).length ≤ n) {lv : List (Option Value)} (hlv : (List.range n).map (lo (lv_args 0 av)) = lv)
    (body : ∀ X : Xt, VC X Y l rm cc n ret ws y.cls → VG X (yA Y) n 0 0 (VQ X Y Post) (yI Y μ) 0 lv []) : Ct l Y y ws rm av μ Post := by
  refine Met.ofW (cc := cc) (maxL := n) (ret := ret) hy hw ?_
  intro p e s m args below meth c s₁ B hml hv
  obtain ⟨rfl, hI, hK⟩ := hv
  have hts := atoms_spec (ws := ws) B.pre
  have hown : s.vm.findClass y.cls = some m.cls := findClass_of_methodNamed B.named
  have hl := lv_entry av (n := n) hn
  rw [lg_entry_eq]
  subst hlv
  exact body (p, l, e, (headSpec ws rm).room, s, m, av.toArray, below, meth, c) ⟨B.exec, B.bytes, hml, hown, hts, B.returns, B.notSynchronized, hK, hO, rfl, rfl⟩ s.heap [] _ hI va_S.rf (lh_entry hl)
/-- a weaker end -/
theorem Ct.weaken {l : Launch} {Y : Yt} {y : MethodName} {ws : List Cond} {rm : Room} {av : List Value} {μ : Mu} {P P' : Option Value → Mu → Prop} (h : Ct l Y y ws rm av μ P) (hP : ∀ r μ', P r μ' → P' r μ') : Ct l Y y ws rm av μ P' := by
  intro p e ha hc hk s m args below hf hap hPc ht
  obtain ⟨k, o, h1, h2, h3, ⟨⟨⟨r, μ', e1, e2, e3⟩, hF⟩, hfr⟩⟩ := h p e ha hc hk s m args below hf hap hPc ht
  exact ⟨k, o, h1, h2, h3, ⟨⟨⟨r, μ', e1, hP r μ' e2, e3⟩, hF⟩, hfr⟩⟩
section WROWS
variable {X : Xt} {Y : Yt} {n cells slots : Nat} {Q : State → Prop} {μ : Mu} {pc : Nat} {lv : List (Option Value)} {st : List Value} {l : Launch} {rm : Room} {cc : ByteArray} {ret : Option FieldType} {ws : List Cond} {own : String} {TB : List Cond} {z : Cond}
theorem v_ldc (C : VC X Y l rm cc n ret (z :: TB) own) {A : Nat → Prop} {I : Heap → Prop} {idx : Nat} {v : Int32} (hw : Cond.constant own idx v ∈ TB) (d : decode cc pc = .ok (.ldc idx, 2)) (k : VG X A n cells slots Q I (pc + 2) lv (.int v :: st)) : VG X A n cells slots Q I pc lv st := fun H locs ls hI hS hl => lv_ldc C.1 C.2.1 C.2.2.2.1 (C.2.2.2.2.1 _ (List.mem_cons_of_mem _ hw)) d (k H locs ls hI hS hl)
theorem v_ldc2 (C : VC X Y l rm cc n ret (z :: TB) own) {A : Nat → Prop} {I : Heap → Prop} {idx : Nat} {v : Int64} (hw : Cond.constantLong own idx v ∈ TB) (d : decode cc pc = .ok (.ldc2_w idx, 3)) (k : VG X A n cells slots Q I (pc + 3) lv (.long v :: st)) : VG X A n cells slots Q I pc lv st := fun H locs ls hI hS hl => lv_ldc2 C.1 C.2.1 C.2.2.2.1 (C.2.2.2.2.1 _ (List.mem_cons_of_mem _ hw)) d (k H locs ls hI hS hl)
/-- a class of the world, with its tables -/
def Kl (Y : Yt) (ws : List Cond) (ci : Nat) (Cn : String) (T : u_T) (N : Nat) (ty : Nat → FieldType) : Prop := (yC Y)[ci]? = some (Cn, T, N) ∧ (∀ w ∈ u_ws Cn T N, w ∈ ws) ∧ (∀ k, k < N → parseFieldDescriptor (T k).2.2.1 = some (ty k)) ∧ ∀ a, a < N → ∀ b, b < N → a ≠ b → (T a).2.1 ≠ (T b).2.1
theorem v_get (C : VC X Y l rm cc n ret (z :: TB) own) {ci N : Nat} {Cn : String} {T : u_T} {ty : Nat → FieldType} (K : Kl Y (z :: TB) ci Cn T N ty) {i : Nat} {F : (Nat → Int32) → (Nat → Int64) → List Value} (ho : Ob Y i ci F) (k : Nat) {idx : Nat} (d : decode cc pc = .ok (.getfield idx, 3)) (hw : Cond.fieldLink own idx (T k).1 (T k).2.1 (T k).2.2.1 ∈ TB) (hk : k < N) {v : Value} (hv : (F (μ.1 i) (μ.2 i))[k]? = some v)
    (kk : VG X (yA Y) n cells slots Q (yI Y μ) (pc + 3) lv (v :: st)) : VG X (yA Y) n cells slots Q (yI Y μ) pc lv (.ref (ad Y i) :: st) := by
  intro H locs ls hI hS hl
  exact va_get (D := yD Y) (ci := ci) C.1 C.2.1 C.2.2.2.2.1 K.2.1 C.2.2.2.1 C.2.2.2.2.2.2.2.1 hI i (by rw [yW_get μ ho.1, ho.2]) K.1 k hk (C.2.2.2.2.1 _ (List.mem_cons_of_mem _ hw)) (fun _ h => h) hv d (kk H locs ls hI hS hl)
theorem v_puti (C : VC X Y l rm cc n ret (z :: TB) own) {ci N : Nat} {Cn : String} {T : u_T} {ty : Nat → FieldType} (K : Kl Y (z :: TB) ci Cn T N ty) {i : Nat} {F : (Nat → Int32) → (Nat → Int64) → List Value} (ho : Ob Y i ci F) (k : Nat) {idx : Nat} (d : decode cc pc = .ok (.putfield idx, 3)) (hw : Cond.fieldLink own idx (T k).1 (T k).2.1 (T k).2.2.1 ∈ TB) (hk : k < N) (hfin : (T k).2.2.2 = false) {x : Int32} (hn : narrow (ty k) (.int x) = .int x) (hfit : fits (ty k) (.int x) = true) (hF : ∀ m lm, F (upd m k x) lm = (F m lm).set k (.int x)) (hl : ∀ m lm, k < (F m lm).length)
    (kk : VG X (yA Y) n cells slots Q (yI Y (wi μ i k x)) (pc + 3) lv st) : VG X (yA Y) n cells slots Q (yI Y μ) pc lv (.int x :: .ref (ad Y i) :: st) := by
  intro H locs ls hI hS hlv
  refine va_put (D := yD Y) (ci := ci) (ty := ty k) C.1 C.2.1 C.2.2.2.2.1 K.2.1 ty K.2.2.1 K.2.2.2 C.2.2.2.1 C.2.2.2.2.2.2.2.1 hI (yW_D C.2.2.2.2.2.2.2.2.1 μ) hS i (by rw [yW_get μ ho.1, ho.2]) K.1 k hk (C.2.2.2.2.1 _ (List.mem_cons_of_mem _ hw)) (fun _ h => h) hfin (K.2.2.1 k hk) hn hfit (hl _ _) d (fun H1 locs1 hP1 _ hS1 => ?_)
  rw [yW_set (μ := μ) (μ' := wi μ i k x) ho.1 (by rw [wi_self, ho.2, hF]; rfl) (fun j hj => ⟨wi_ne μ k x hj, rfl⟩)] at hP1
  exact kk H1 locs1 ls hP1 hS1 hlv
theorem v_putl (C : VC X Y l rm cc n ret (z :: TB) own) {ci N : Nat} {Cn : String} {T : u_T} {ty : Nat → FieldType} (K : Kl Y (z :: TB) ci Cn T N ty) {i : Nat} {F : (Nat → Int32) → (Nat → Int64) → List Value} (ho : Ob Y i ci F) (k : Nat) {idx : Nat} (d : decode cc pc = .ok (.putfield idx, 3)) (hw : Cond.fieldLink own idx (T k).1 (T k).2.1 (T k).2.2.1 ∈ TB) (hk : k < N) (hfin : (T k).2.2.2 = false) {x : Int64} (hn : narrow (ty k) (.long x) = .long x) (hfit : fits (ty k) (.long x) = true) (hF : ∀ m lm, F m (vp_updL lm k x) = (F m lm).set k (.long x)) (hl : ∀ m lm, k < (F m lm).length)
    (kk : VG X (yA Y) n cells slots Q (yI Y (wl μ i k x)) (pc + 3) lv st) : VG X (yA Y) n cells slots Q (yI Y μ) pc lv (.long x :: .ref (ad Y i) :: st) := by
  intro H locs ls hI hS hlv
  refine va_put (D := yD Y) (ci := ci) (ty := ty k) C.1 C.2.1 C.2.2.2.2.1 K.2.1 ty K.2.2.1 K.2.2.2 C.2.2.2.1 C.2.2.2.2.2.2.2.1 hI (yW_D C.2.2.2.2.2.2.2.2.1 μ) hS i (by rw [yW_get μ ho.1, ho.2]) K.1 k hk (C.2.2.2.2.1 _ (List.mem_cons_of_mem _ hw)) (fun _ h => h) hfin (K.2.2.1 k hk) hn hfit (hl _ _) d (fun H1 locs1 hP1 _ hS1 => ?_)
  rw [yW_set (μ := μ) (μ' := wl μ i k x) ho.1 (by rw [wl_self, ho.2, hF]; rfl) (fun j hj => ⟨rfl, wl_ne μ k x hj⟩)] at hP1
  exact kk H1 locs1 ls hP1 hS1 hlv
theorem v_iald (C : VC X Y l rm cc n ret ws own) {i z : Nat} (ha : AI Y i z) (j : Nat) (d : decode cc pc = .ok (.iaload, 1)) {x : Int32} (hx : x = nI j) (hj : j < z) (hz : z < 2 ^ 31) (kk : VG X (yA Y) n cells slots Q (yI Y μ) (pc + 1) lv (.int (μ.1 i j) :: st)) : VG X (yA Y) n cells slots Q (yI Y μ) pc lv (.int x :: .ref (ad Y i) :: st) := by
  intro H locs ls hI hS hl
  obtain ⟨hi, cA, t0, ht, hs⟩ := ha
  subst hx
  refine va_iald C.1 C.2.1 C.2.2.2.2.2.2.2.1 hI i t0 (by rw [yW_get μ hi, hs]) ht (vp_in_nI hj hz) d ?_
  rw [nI_clamp (Nat.lt_trans hj hz)]
  exact kk H locs ls hI hS hl
theorem v_lald (C : VC X Y l rm cc n ret ws own) {i z : Nat} (ha : AL Y i z) (j : Nat) (d : decode cc pc = .ok (.laload, 1)) {x : Int32} (hx : x = nI j) (hj : j < z) (hz : z < 2 ^ 31) (kk : VG X (yA Y) n cells slots Q (yI Y μ) (pc + 1) lv (.long (μ.2 i j) :: st)) : VG X (yA Y) n cells slots Q (yI Y μ) pc lv (.int x :: .ref (ad Y i) :: st) := by
  intro H locs ls hI hS hl
  obtain ⟨hi, cA, t0, ht, hs⟩ := ha
  subst hx
  refine va_lald C.1 C.2.1 C.2.2.2.2.2.2.2.1 hI i t0 (by rw [yW_get μ hi, hs]) ht (vp_in_nI hj hz) d ?_
  rw [nI_clamp (Nat.lt_trans hj hz)]
  exact kk H locs ls hI hS hl
theorem v_iast (C : VC X Y l rm cc n ret ws own) {i z : Nat} (ha : AI Y i z) (j : Nat) (d : decode cc pc = .ok (.iastore, 1)) {x v : Int32} (hx : x = nI j) (hj : j < z) (hz : z < 2 ^ 31) (kk : VG X (yA Y) n cells slots Q (yI Y (wi μ i j v)) (pc + 1) lv st) : VG X (yA Y) n cells slots Q (yI Y μ) pc lv (.int v :: .int x :: .ref (ad Y i) :: st) := by
  intro H locs ls hI hS hl
  obtain ⟨hi, cA, t0, ht, hs⟩ := ha
  subst hx
  refine va_iast C.1 C.2.1 C.2.2.2.2.2.2.2.1 hI (yW_D C.2.2.2.2.2.2.2.2.1 μ) hS i t0 (by rw [yW_get μ hi, hs]) ht (vp_in_nI hj hz) d (fun H1 locs1 hP1 _ hS1 => ?_)
  rw [nI_clamp (Nat.lt_trans hj hz)] at hP1
  rw [yW_set (μ := μ) (μ' := wi μ i j v) hi (by rw [wi_self, hs]) (fun a h => ⟨wi_ne μ j v h, rfl⟩)] at hP1
  exact kk H1 locs1 ls hP1 hS1 hl
theorem v_last (C : VC X Y l rm cc n ret ws own) {i z : Nat} (ha : AL Y i z) (j : Nat) (d : decode cc pc = .ok (.lastore, 1)) {x : Int32} {v : Int64} (hx : x = nI j) (hj : j < z) (hz : z < 2 ^ 31) (kk : VG X (yA Y) n cells slots Q (yI Y (wl μ i j v)) (pc + 1) lv st) : VG X (yA Y) n cells slots Q (yI Y μ) pc lv (.long v :: .int x :: .ref (ad Y i) :: st) := by
  intro H locs ls hI hS hl
  obtain ⟨hi, cA, t0, ht, hs⟩ := ha
  subst hx
  refine va_last C.1 C.2.1 C.2.2.2.2.2.2.2.1 hI (yW_D C.2.2.2.2.2.2.2.2.1 μ) hS i t0 (by rw [yW_get μ hi, hs]) ht (vp_in_nI hj hz) d (fun H1 locs1 hP1 _ hS1 => ?_)
  rw [nI_clamp (Nat.lt_trans hj hz)] at hP1
  rw [yW_set (μ := μ) (μ' := wl μ i j v) hi (by rw [wl_self, hs]) (fun a h => ⟨rfl, wl_ne μ j v h⟩)] at hP1
  exact kk H1 locs1 ls hP1 hS1 hl
theorem v_aald (C : VC X Y l rm cc n ret ws own) {i z : Nat} {f : Nat → Nat} (ha : AR Y i z f) (j : Nat) (d : decode cc pc = .ok (.aaload, 1)) {x : Int32} (hx : x = nI j) (hj : j < z) (hz : z < 2 ^ 31) (kk : VG X (yA Y) n cells slots Q (yI Y μ) (pc + 1) lv (.ref (ad Y (f j)) :: st)) : VG X (yA Y) n cells slots Q (yI Y μ) pc lv (.int x :: .ref (ad Y i) :: st) := by
  intro H locs ls hI hS hl
  obtain ⟨hi, cA, t0, ty, ht, hk, hs⟩ := ha
  subst hx
  have h1 : (yW Y μ)[i]? = some (ad Y i, .inl (cA, z, .inr (.inr (.inr (.inr (fun j => some (ad Y (f j)))))))) := by rw [yW_get μ hi, hs]
  have hc := nI_clamp (Nat.lt_trans hj hz)
  exact W.aald (v := .ref (ad Y (f j))) (ty := ty) C.1 C.2.1 (hI i _ h1) (((C.2.2.2.2.2.2.2.1).2 t0 _ ht).1 z (fun j => .ref (ad Y (f j)))) hk (fun q => by cases q) (by show ¬ (nI j < 0 ∨ (arrV _ _ _).slots.size ≤ _); rw [arrV_size]; exact vp_in_nI hj hz) (by show (arrV _ _ _).slots[_]? = _; rw [hc, arrV_read _ _ hj]; rfl) rfl rfl d (kk H locs ls hI hS hl)
theorem v_alenR (C : VC X Y l rm cc n ret ws own) {i z : Nat} {f : Nat → Nat} (ha : AR Y i z f) (d : decode cc pc = .ok (.arraylength, 1)) (kk : VG X (yA Y) n cells slots Q (yI Y μ) (pc + 1) lv (.int (nI z) :: st)) : VG X (yA Y) n cells slots Q (yI Y μ) pc lv (.ref (ad Y i) :: st) := by
  intro H locs ls hI hS hl
  obtain ⟨hi, cA, t0, ty, ht, hk, hs⟩ := ha
  have h1 := yW_get μ hi
  rw [hs] at h1
  exact va_alen C.1 C.2.1 C.2.2.2.2.2.2.2.1 hI i t0 h1 ht rfl d (kk H locs ls hI hS hl)
theorem v_alenI (C : VC X Y l rm cc n ret ws own) {i z : Nat} (ha : AI Y i z) (d : decode cc pc = .ok (.arraylength, 1)) (kk : VG X (yA Y) n cells slots Q (yI Y μ) (pc + 1) lv (.int (nI z) :: st)) : VG X (yA Y) n cells slots Q (yI Y μ) pc lv (.ref (ad Y i) :: st) := by
  intro H locs ls hI hS hl
  obtain ⟨hi, cA, t0, ht, hs⟩ := ha
  have h1 := yW_get μ hi
  rw [hs] at h1
  exact va_alen C.1 C.2.1 C.2.2.2.2.2.2.2.1 hI i t0 h1 ht rfl d (kk H locs ls hI hS hl)
theorem v_iret (C : VC X Y l rm cc n ret ws own) {Post : Option Value → Mu → Prop} {v : Int32} (hr : ret = some .int) (d : decode cc pc = .ok (.ireturn, 1)) (e : Post (some (Value.int v)) μ) : VG X (yA Y) n 0 0 (VQ X Y Post) (yI Y μ) pc lv [.int v] := by
  subst hr
  intro H locs ls hI hS hl
  exact W.iret C.1 C.2.1 C.2.2.2.2.2.1 (fun t ht hW => ⟨⟨_, μ, rfl, e, by rw [ht]; exact hI⟩, hS.F ht⟩) hS.2.2 d (hlocks := C.2.2.2.2.2.2.1)
theorem v_zret (C : VC X Y l rm cc n ret ws own) {Post : Option Value → Mu → Prop} {v : Int32} {ty : FieldType} (hr : ret = some ty) (hn : narrow ty (.int v) = .int v) (d : decode cc pc = .ok (.ireturn, 1)) (e : Post (some (Value.int v)) μ) : VG X (yA Y) n 0 0 (VQ X Y Post) (yI Y μ) pc lv [.int v] := by
  subst hr
  intro H locs ls hI hS hl
  exact W.zret C.1 C.2.1 C.2.2.2.2.2.1 hn (fun t ht hW => ⟨⟨_, μ, rfl, e, by rw [ht]; exact hI⟩, hS.F ht⟩) hS.2.2 d (hlocks := C.2.2.2.2.2.2.1)
theorem v_lret (C : VC X Y l rm cc n ret ws own) {Post : Option Value → Mu → Prop} {v : Int64} (hr : ret = some .long) (d : decode cc pc = .ok (.lreturn, 1)) (e : Post (some (Value.long v)) μ) : VG X (yA Y) n 0 0 (VQ X Y Post) (yI Y μ) pc lv [.long v] := by
  subst hr
  intro H locs ls hI hS hl
  exact W.lret C.1 C.2.1 C.2.2.2.2.2.1 (fun t ht hW => ⟨⟨_, μ, rfl, e, by rw [ht]; exact hI⟩, hS.F ht⟩) hS.2.2 d (hlocks := C.2.2.2.2.2.2.1)
theorem v_aret (C : VC X Y l rm cc n ret ws own) {Post : Option Value → Mu → Prop} {a : Nat} {nm : String} (hr : ret = some (.object nm)) (d : decode cc pc = .ok (.areturn, 1)) (e : Post (some (Value.ref a)) μ) : VG X (yA Y) n 0 0 (VQ X Y Post) (yI Y μ) pc lv [.ref a] := by
  subst hr
  intro H locs ls hI hS hl
  exact W.aret C.1 C.2.1 C.2.2.2.2.2.1 (Or.inl ⟨nm, rfl⟩) (Or.inr ⟨a, rfl⟩) (fun t ht hW => ⟨⟨_, μ, rfl, e, by rw [ht]; exact hI⟩, hS.F ht⟩) hS.2.2 d (hlocks := C.2.2.2.2.2.2.1)
theorem v_vret (C : VC X Y l rm cc n ret ws own) {Post : Option Value → Mu → Prop} (hr : ret = none) (d : decode cc pc = .ok (.return_, 1)) (e : Post (none) μ) : VG X (yA Y) n 0 0 (VQ X Y Post) (yI Y μ) pc lv [] := by
  subst hr
  intro H locs ls hI hS hl
  exact W.vret C.1 C.2.1 C.2.2.2.2.2.1 (fun t ht hW => ⟨⟨_, μ, rfl, e, by rw [ht]; exact hI⟩, hS.F ht⟩) hS.2.2 d (hlocks := C.2.2.2.2.2.2.1)
/-- behind a call -/
theorem v_run {Post : Option Value → Mu → Prop} {A : Nat → Prop} {stR : List Value} (hr : ∀ (H : Heap) (locs : List Loc) (ls : Array Slot), yI Y μ H → lh ls n lv → ∃ a, va_Run (xP X) (xL X) (xE X) (xR X) (xS X) (xM X) (xA X) (xB X) (xMe X) (xC X) H locs cells slots 0 0 (F0 (xM X) pc ls st) stR (yQ Y Post a) (yA Y)) (hA : ∀ q, yA Y q → A q) (kk : ∀ (r : Option Value) (μ' : Mu), Post r μ' → VG X A n cells slots Q (yI Y μ') (pc + 3) lv (r.toList ++ stR)) : VG X A n cells slots Q (yI Y μ) pc lv st := by
  intro H locs ls hI hS hl
  obtain ⟨a, hrun⟩ := hr H locs ls hI hl
  intro T hT XX
  obtain ⟨v, st₀, t, T', L, h0, X', hL, e1, e2, ⟨⟨r, μ', hv, hpost, hb⟩, hz, hk⟩, stp⟩ := hrun T hT XX
  cases hv
  rw [h0] at hz hk
  obtain ⟨t2, a1, b1⟩ := kk _ μ' hpost T'.heap (locs ++ L) ls (by rw [e1]; exact hb)
    ⟨Nat.le_trans hS.1 (by rw [e1]; exact hz), fun q h1 h2 => by rw [e1, hk q (Nat.lt_of_lt_of_le h1 hS.1) (fun z => h2 (hA q z))]; exact hS.2.1 q h1 h2, fun q hq => by
      rcases List.mem_append.mp hq with h | h
      · exact hS.2.2 q h
      · exact hA _ (hL q h)⟩ hl T' rfl X'
  exact ⟨t2, stp t2 a1, b1⟩
theorem yP_blind {av : List Value} : FrameBlind (yP Y av μ) := fun a U g mk q => by
  obtain ⟨q0, q1, q2⟩ := q
  exact ⟨q0, q1, va_K.moved (u := U) (U := U.calling g mk a) (Vm.Alike.refl U.vm) q2⟩
/-- the words that a call needs; all tables' words are at hand in every method -/
def TBok (TB : List Cond) : Prop := ∀ w ∈ TB, (w.onTables && w.keeps) = true ∨ ∃ ty, w = .arrayClass ty
def Lk (TB : List Cond) (own : String) (idx : Nat) (y : MethodName) (b : ByteArray) (mL : Nat) (rt : Option FieldType) (k : Nat) : Prop := Cond.methodLink own idx y ∈ TB ∧ Cond.initialized y.cls ∈ TB ∧ Cond.code y b mL rt ∈ TB ∧ y.cls ≠ "java/lang/invoke/MethodHandle" ∧ y.cls ≠ "java/lang/invoke/VarHandle" ∧ (parseMethodDescriptor y.desc).map (fun d => d.parameters.length) = some k
theorem goodTB {TB : List Cond} (hT : TBok TB) {z w : Cond} (hw : w ∈ TB) : GoodIn (z :: TB) (w :: TB) := fun q hq => by
  rcases List.mem_cons.mp hq with rfl | h
  · exact ⟨List.mem_cons_of_mem _ hw, hT _ hw⟩
  · exact ⟨List.mem_cons_of_mem _ h, hT _ h⟩
variable {idx mL k : Nat} {y : MethodName} {b : ByteArray} {rt : Option FieldType} {rmy : Room} {As stR : List Value} {Post : Option Value → Mu → Prop}
theorem callB_tb (C : VC X Y l rm cc n ret (z :: TB) own) (hT : TBok TB) (hL : Lk TB own idx y b mL rt k) (h1 : rmy.cells = 0) (h2 : rmy.slots = 0) (hR : rmy.frames + 1 ≤ rm.frames ∧ 8 + (mL + 11) + rmy.locals ≤ rm.locals) : CallB (xR X) (xS X) (xA X) own idx y b mL rt (Cond.code y b mL rt :: TB) rmy 0 0 k := by
  obtain ⟨l1, l2, l3, l4⟩ := hL
  have ht := C.2.2.2.2.1
  have hrm : xR X = rm := C.2.2.2.2.2.2.2.2.2.2
  refine callB_of k ht (goodTB hT l3) rfl h1 h2 (ht _ (List.mem_cons_of_mem _ l2)) (ht _ (List.mem_cons_of_mem _ l1)) l4 ?_
  rw [hrm]
  exact hR
theorem v_callV (C : VC X Y l rm cc n ret (z :: TB) own) (hT : TBok TB) (hL : Lk TB own idx y b mL rt k) (h1 : Cond.instanceMethod y ∈ TB) (h2 : Cond.selects y.cls y y ∈ TB) (d : decode cc pc = .ok (.invokevirtual idx, 3)) {i ci N : Nat} {F : (Nat → Int32) → (Nat → Int64) → List Value} {T : u_T} (ho : Ob Y i ci F) (hcl : (yC Y)[ci]? = some (y.cls, T, N)) (hc : Ct l Y y (Cond.code y b mL rt :: TB) rmy (.ref (ad Y i) :: As) μ Post) (h3 : rmy.cells = 0) (h4 : rmy.slots = 0) (hR : rmy.frames + 1 ≤ rm.frames ∧ 8 + (mL + 11) + rmy.locals ≤ rm.locals) (hn : As.length = k) (hst : st = As.reverse ++ .ref (ad Y i) :: stR) (hW : (stR.map fun v => v.category).sum ≤ 8) (hcs : cells ≤ rm.cells ∧ slots ≤ rm.slots)
    (kk : ∀ (r : Option Value) (μ' : Mu), Post r μ' → VG X (yA Y) n cells slots Q (yI Y μ') (pc + 3) lv (r.toList ++ stR)) : VG X (yA Y) n cells slots Q (yI Y μ) pc lv st := by
  have hl0 : xL X = l := C.2.2.2.2.2.2.2.2.2.1
  have hrm : xR X = rm := C.2.2.2.2.2.2.2.2.2.2
  have ht := C.2.2.2.2.1
  refine v_run (fun H locs ls hI hlv => ⟨_, va_runV (As := As) (rest := stR) ⟨C.1, C.2.1, C.2.2.1, C.2.2.2.1, ht⟩ (by rw [hl0]; exact hc) ⟨callB_tb C hT hL h3 h4 hR, ht _ (List.mem_cons_of_mem _ h1), ht _ (List.mem_cons_of_mem _ h2)⟩ ⟨yP_blind, va_recv (q := (y.cls, T, N)) C.2.2.2.2.2.2.2.1 hI hcl (q0 := i) (by rw [yW_get μ ho.1, ho.2]), fun U hU hW => ⟨rfl, by rw [hU]; exact hI, va_K.moved hW.alike C.2.2.2.2.2.2.2.1⟩⟩ rfl hn hlv.1 hst (lv_room hW) d (by rw [hrm]; exact hcs)⟩) (fun _ h => h) kk
theorem v_callS (C : VC X Y l rm cc n ret (z :: TB) own) (hT : TBok TB) (hL : Lk TB own idx y b mL rt k) (h1 : Cond.static y ∈ TB) (d : decode cc pc = .ok (.invokestatic idx, 3)) (hc : Ct l Y y (Cond.code y b mL rt :: TB) rmy As μ Post) (h3 : rmy.cells = 0) (h4 : rmy.slots = 0) (hR : rmy.frames + 1 ≤ rm.frames ∧ 8 + (mL + 11) + rmy.locals ≤ rm.locals) (hn : As.length = k) (hst : st = As.reverse ++ stR) (hW : (stR.map fun v => v.category).sum ≤ 8) (hcs : cells ≤ rm.cells ∧ slots ≤ rm.slots)
    (kk : ∀ (r : Option Value) (μ' : Mu), Post r μ' → VG X (yA Y) n cells slots Q (yI Y μ') (pc + 3) lv (r.toList ++ stR)) : VG X (yA Y) n cells slots Q (yI Y μ) pc lv st := by
  have hl0 : xL X = l := C.2.2.2.2.2.2.2.2.2.1
  have hrm : xR X = rm := C.2.2.2.2.2.2.2.2.2.2
  have ht := C.2.2.2.2.1
  refine v_run (fun H locs ls hI hlv => ⟨_, va_runS (As := As) (rest := stR) ⟨C.1, C.2.1, C.2.2.1, C.2.2.2.1, ht⟩ (by rw [hl0]; exact hc) ⟨callB_tb C hT hL h3 h4 hR, ht _ (List.mem_cons_of_mem _ h1)⟩ ⟨yP_blind, fun U hU hW => ⟨rfl, by rw [hU]; exact hI, va_K.moved hW.alike C.2.2.2.2.2.2.2.1⟩⟩ rfl hn hlv.1 hst (lv_room hW) d (by rw [hrm]; exact hcs)⟩) (fun _ h => h) kk
/-- what stands on the stack behind a call, by the kind of its end -/
theorem kE {r0 : Option Value} {μ0 : Mu} {A : Nat → Prop} {stR' : List Value} (hs : r0.toList ++ stR = stR') (kk : VG X A n cells slots Q (yI Y μ0) pc lv stR') : ∀ (r : Option Value) (μ' : Mu), PE r0 μ0 r μ' → VG X A n cells slots Q (yI Y μ') pc lv (r.toList ++ stR) := by
  rintro r μ' ⟨rfl, rfl⟩
  rw [hs]
  exact kk
theorem kV {P : Mu → Prop} {A : Nat → Prop} (kk : ∀ μ', P μ' → VG X A n cells slots Q (yI Y μ') pc lv stR) : ∀ (r : Option Value) (μ' : Mu), PV P r μ' → VG X A n cells slots Q (yI Y μ') pc lv (r.toList ++ stR) := by
  rintro r μ' ⟨rfl, h⟩
  exact kk μ' h
theorem kI {P : Int32 → Mu → Prop} {A : Nat → Prop} (kk : ∀ x μ', P x μ' → VG X A n cells slots Q (yI Y μ') pc lv (.int x :: stR)) : ∀ (r : Option Value) (μ' : Mu), PI P r μ' → VG X A n cells slots Q (yI Y μ') pc lv (r.toList ++ stR) := by
  rintro r μ' ⟨x, rfl, h⟩
  exact kk x μ' h
theorem kL {P : Int64 → Mu → Prop} {A : Nat → Prop} (kk : ∀ x μ', P x μ' → VG X A n cells slots Q (yI Y μ') pc lv (.long x :: stR)) : ∀ (r : Option Value) (μ' : Mu), PL P r μ' → VG X A n cells slots Q (yI Y μ') pc lv (r.toList ++ stR) := by
  rintro r μ' ⟨x, rfl, h⟩
  exact kk x μ' h
end WROWS
end
