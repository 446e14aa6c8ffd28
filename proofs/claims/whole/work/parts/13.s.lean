/-! THE STATE. The class's world: cell 0 the face, 1 the disk, 2 the tree, 3 the search, 4 asked, 5 and 6 the tree's frame and rest, 7 and 8 the search's closest and frame, 9 the array of pages, 10 trail, 11 turns, 12 places, 13 log, 14 loggedPage, 15 found, 16 waiting, 17 squares, 18 looked, 19 + p page p, 59 + p its array of boxes, 99 + r place r, 139 + r log row r, 179 + h found box h, 219 + 6 p + j box j of page p. -/
def YB (Y : Yt) : Prop := yO Y ∧ yC Y = cls
def FBo (_ : Yt) (_ : Nat) : (Nat → Int32) → (Nat → Int64) → List Value := fun m _ => [.int (m 0), .int (m 1), .int (m 2), .int (m 3), .int (m 4)]
def FDi (Y : Yt) (_ : Nat) : (Nat → Int32) → (Nat → Int64) → List Value := fun m _ => [.ref (ad Y 12), .ref (ad Y 13), .ref (ad Y 14), .int (m 3), .int (m 4)]
def FPa (Y : Yt) (i : Nat) : (Nat → Int32) → (Nat → Int64) → List Value := fun m _ => [.int (m 0), .int (m 1), .int (m 2), .ref (ad Y (i + 40))]
def FSe (Y : Yt) (_ : Nat) : (Nat → Int32) → (Nat → Int64) → List Value := fun m lm => [.ref (ad Y 15), .int (m 1), .ref (ad Y 7), .long (lm 3), .ref (ad Y 16), .ref (ad Y 17), .int (m 6), .ref (ad Y 18), .int (m 8), .ref (ad Y 8)]
def FTr (Y : Yt) (_ : Nat) : (Nat → Int32) → (Nat → Int64) → List Value := fun m _ => [.int (m 0), .int (m 1), .int (m 2), .ref (ad Y 9), .ref (ad Y 10), .ref (ad Y 11), .ref (ad Y 5), .ref (ad Y 6)]
def FFa (Y : Yt) (_ : Nat) : (Nat → Int32) → (Nat → Int64) → List Value := fun m _ => [.ref (ad Y 1), .ref (ad Y 2), .ref (ad Y 3), .ref (ad Y 4), .int (m 4), .int (m 5), .int (m 6)]
/-- the reference's world: cell 0 the object, 1 its array -/
def FMo (Y : Yt) (_ : Nat) : (Nat → Int32) → (Nat → Int64) → List Value := fun m _ => [.int (m 0), .int (m 1), .int (m 2), .ref (ad Y 1)]
abbrev isBo (Y : Yt) (i : Nat) : Prop := Ob Y i 0 (FBo Y i)
abbrev isDi (Y : Yt) (i : Nat) : Prop := Ob Y i 1 (FDi Y i)
abbrev isPa (Y : Yt) (i : Nat) : Prop := Ob Y i 2 (FPa Y i)
abbrev isSe (Y : Yt) (i : Nat) : Prop := Ob Y i 3 (FSe Y i)
abbrev isTr (Y : Yt) (i : Nat) : Prop := Ob Y i 4 (FTr Y i)
abbrev isFa (Y : Yt) (i : Nat) : Prop := Ob Y i 5 (FFa Y i)
abbrev isMo (Y : Yt) (i : Nat) : Prop := Ob Y i 6 (FMo Y i)
/-- a truth as the machine has it -/
def bI (p : Bool) : Int32 := if p then 1 else 0
theorem bI_z (p : Bool) : narrow .boolean (.int (bI p)) = .int (bI p) := by cases p <;> decide
theorem bI_f (p : Bool) : fits .boolean (.int (bI p)) = true := by cases p <;> decide
theorem bI_0 {p : Bool} : bI p = 0 ↔ p = false := by cases p <;> decide
theorem bI_n {p : Bool} : ¬ bI p = 0 ↔ p = true := by cases p <;> decide
theorem bI_t {p : Bool} (h : p = true) : (1 : Int32) = bI p := by rw [h]; rfl
theorem bI_ff {p : Bool} (h : p = false) : (0 : Int32) = bI p := by rw [h]; rfl
def mxI (x y : Int32) : Int32 := if x < y then y else x
def mnI (x y : Int32) : Int32 := if y < x then y else x
theorem mi_ma : Cond.initialized "java/lang/Math" ∈ tbl := tb1 8 (by decide +kernel) (by decide +kernel)
theorem mc_max : Cond.code Lib.Math.max.name Lib.Math.max.code 2 (some .int) ∈ tbl := tb2 11 (by decide +kernel) (by decide +kernel)
theorem v_mmax {X : Xt} {Y : Yt} {n cells slots : Nat} {Q : State → Prop} {A : Nat → Prop} {I : Heap → Prop} {pc : Nat} {lv : List (Option Value)} {st : List Value} {l : Launch} {rm : Room} {cc : ByteArray} {ret : Option FieldType} {own : String} {z : Cond} (C : VC X Y l rm cc n ret (z :: tbl) own) {idx : Nat} (hw : Cond.methodLink own idx Lib.Math.max.name ∈ tbl) (d : decode cc pc = .ok (.invokestatic idx, 3)) (hf : 1 ≤ rm.frames) (hlo : (st.map fun v => v.category).sum + 13 ≤ rm.locals) (hcs : cells ≤ rm.cells ∧ slots ≤ rm.slots) {x y : Int32} (kk : VG X A n cells slots Q I (pc + 3) lv (.int (mxI x y) :: st)) : VG X A n cells slots Q I pc lv (.int y :: .int x :: st) := by
  have hrm : xR X = rm := C.2.2.2.2.2.2.2.2.2.2
  have ht := C.2.2.2.2.1
  subst hrm
  intro H locs ls hI hS hl
  exact va_mmax C.1 C.2.1 (by rw [hl.1]; exact C.2.2.1) C.2.2.2.1 (ht _ (List.mem_cons_of_mem _ hw)) (ht _ (List.mem_cons_of_mem _ ktMa_max)) (ht _ (List.mem_cons_of_mem _ mi_ma)) (ht _ (List.mem_cons_of_mem _ mc_max)) hf hlo hcs.1 hcs.2 d (kk H locs ls hI hS hl)
theorem mc_min : Cond.code Lib.Math.min.name Lib.Math.min.code 2 (some .int) ∈ tbl := tb2 8 (by decide +kernel) (by decide +kernel)
theorem v_mmin {X : Xt} {Y : Yt} {n cells slots : Nat} {Q : State → Prop} {A : Nat → Prop} {I : Heap → Prop} {pc : Nat} {lv : List (Option Value)} {st : List Value} {l : Launch} {rm : Room} {cc : ByteArray} {ret : Option FieldType} {own : String} {z : Cond} (C : VC X Y l rm cc n ret (z :: tbl) own) {idx : Nat} (hw : Cond.methodLink own idx Lib.Math.min.name ∈ tbl) (d : decode cc pc = .ok (.invokestatic idx, 3)) (hf : 1 ≤ rm.frames) (hlo : (st.map fun v => v.category).sum + 13 ≤ rm.locals) (hcs : cells ≤ rm.cells ∧ slots ≤ rm.slots) {x y : Int32} (kk : VG X A n cells slots Q I (pc + 3) lv (.int (mnI x y) :: st)) : VG X A n cells slots Q I pc lv (.int y :: .int x :: st) := by
  have hrm : xR X = rm := C.2.2.2.2.2.2.2.2.2.2
  have ht := C.2.2.2.2.1
  subst hrm
  intro H locs ls hI hS hl
  exact va_mmin C.1 C.2.1 (by rw [hl.1]; exact C.2.2.1) C.2.2.2.1 (ht _ (List.mem_cons_of_mem _ hw)) (ht _ (List.mem_cons_of_mem _ ktMa_min)) (ht _ (List.mem_cons_of_mem _ mi_ma)) (ht _ (List.mem_cons_of_mem _ mc_min)) hf hlo hcs.1 hcs.2 d (kk H locs ls hI hS hl)
theorem v_eq {X : Xt} {A : Nat → Prop} {n cells slots : Nat} {Q : State → Prop} {I : Heap → Prop} {pc : Nat} {lv lv' : List (Option Value)} {st : List Value} (h : lv = lv') (k : VG X A n cells slots Q I pc lv' st) : VG X A n cells slots Q I pc lv st := h ▸ k
/-- a local that is no longer needed -/
theorem v_drop {X : Xt} {A : Nat → Prop} {n cells slots : Nat} {Q : State → Prop} {I : Heap → Prop} {pc : Nat} {lv lv' : List (Option Value)} {st : List Value} (i : Nat) (h : lv.set i none = lv') (k : VG X A n cells slots Q I pc lv' st) : VG X A n cells slots Q I pc lv st := by
  subst h
  refine v_lv (fun j v hj => ?_) k
  by_cases hji : j = i
  · subst hji
    by_cases hl : j < lv.length
    · rw [List.getElem?_set_self hl] at hj
      cases hj
    · rw [List.getElem?_eq_none (by simpa using Nat.le_of_not_lt hl)] at hj
      cases hj
  · rw [List.getElem?_set_ne (Ne.symm hji)] at hj
    exact hj
theorem v_st {X : Xt} {A : Nat → Prop} {n cells slots : Nat} {Q : State → Prop} {I : Heap → Prop} {pc : Nat} {lv : List (Option Value)} {st st' : List Value} (h : st = st') (k : VG X A n cells slots Q I pc lv st') : VG X A n cells slots Q I pc lv st := h ▸ k
theorem nI_2 (a : Nat) : nI a + 2 = nI (a + 2) := nI_add a 2
theorem nI_3 (a : Nat) : nI a + 3 = nI (a + 3) := nI_add a 3
theorem nI_4 (a : Nat) : nI a + 4 = nI (a + 4) := nI_add a 4
theorem ix5 : ∀ k, k < 5 → 2 + nI k * 5 = nI (2 + 5 * k) := by decide +kernel
theorem mm5 : ∀ u, u < 6 → mxI 0 (mnI (nI u) 5) = nI u := by decide +kernel
theorem i1 (k : Nat) : nI k + Int32.ofInt 1 = nI (k + 1) := nI_1 k
theorem im1 (x : Int32) : x + Int32.ofInt (-1) = x - 1 := by
  rw [Int32.sub_eq_add_neg]
  rfl
theorem v_tableOut {X : Xt} {A : Nat → Prop} {n cells slots : Nat} {Q : State → Prop} {I : Heap → Prop} {pc : Nat} {lv : List (Option Value)} {st : List Value} {cc : ByteArray} (B : VB X cc) {dflt lo hi : Int} {offs : Array Int} {len : Nat} {x : Int32} (t : Nat) (d : decode cc pc = .ok (.tableswitch dflt lo hi offs, len)) (h : x.toInt < lo ∨ hi < x.toInt) (ht : (pc : Int) + dflt = (t : Int)) (k : VG X A n cells slots Q I t lv st) : VG X A n cells slots Q I pc lv (.int x :: st) := fun H locs ls hI hS hl => lv_tableOut B.1 B.2 d h ht (k H locs ls hI hS hl)
theorem v_tableIn {X : Xt} {A : Nat → Prop} {n cells slots : Nat} {Q : State → Prop} {I : Heap → Prop} {pc : Nat} {lv : List (Option Value)} {st : List Value} {cc : ByteArray} (B : VB X cc) {dflt lo hi : Int} {offs : Array Int} {len : Nat} {x : Int32} {off : Int} (t : Nat) (d : decode cc pc = .ok (.tableswitch dflt lo hi offs, len)) (h1 : ¬ x.toInt < lo) (h2 : ¬ hi < x.toInt) (ho : offs[(x.toInt - lo).toNat]? = some off) (ht : (pc : Int) + off = (t : Int)) (k : VG X A n cells slots Q I t lv st) : VG X A n cells slots Q I pc lv (.int x :: st) := fun H locs ls hI hS hl => lv_tableIn B.1 B.2 d h1 h2 ho ht (k H locs ls hI hS hl)
