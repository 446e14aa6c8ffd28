/-! THE LAW: class and reference side by side on one heap. -/
theorem v_sld {X : Xt} {A : Nat → Prop} {n cells slots : Nat} {Q : State → Prop} {I : Heap → Prop} {pc : Nat} {lv : List (Option Value)} {st : List Value} {cc : ByteArray} (B : VB X cc) {bs L : Nat} {xs : Nat → Int32} (hX : va_X bs L xs (xS X) (xS X).heap) (hbl : bs < (xS X).heap.size) (hbA : ¬ A bs) (j : Nat) {x : Int32} (hx : x = nI j) (hj : j < L) (hL : L < 2 ^ 31) (d : decode cc pc = .ok (.iaload, 1)) (k : VG X A n cells slots Q I (pc + 1) lv (.int (xs j) :: st)) : VG X A n cells slots Q I pc lv (.int x :: .ref bs :: st) := by
  intro H locs ls hI hS hl
  subst hx
  refine va_sld B.1 B.2 hX hbl hbA hS (vp_in_nI hj hL) d ?_
  rw [nI_clamp (Nat.lt_trans hj hL)]
  exact k H locs ls hI hS hl
theorem v_slen {X : Xt} {A : Nat → Prop} {n cells slots : Nat} {Q : State → Prop} {I : Heap → Prop} {pc : Nat} {lv : List (Option Value)} {st : List Value} {cc : ByteArray} (B : VB X cc) {bs L : Nat} {xs : Nat → Int32} (hX : va_X bs L xs (xS X) (xS X).heap) (hbl : bs < (xS X).heap.size) (hbA : ¬ A bs) (d : decode cc pc = .ok (.arraylength, 1)) (k : VG X A n cells slots Q I (pc + 1) lv (.int (nI L) :: st)) : VG X A n cells slots Q I pc lv (.ref bs :: st) := fun H locs ls hI hS hl => va_slen B.1 B.2 hX hbl hbA hS d (k H locs ls hI hS hl)
theorem yI_kept {Y : Yt} {μ : Mu} {H H1 : Heap} (h : yI Y μ H) (hk : ∀ i, i < yN Y → H1[ad Y i]? = H[ad Y i]?) : yI Y μ H1 := by
  intro k q hq
  obtain ⟨h1, rfl⟩ := yW_in hq
  exact (h k _ hq).kept (hk k h1)
theorem l_run {X : Xt} {Y : Yt} {n cells slots : Nat} {Q : State → Prop} {I : Heap → Prop} {I' : Mu → Heap → Prop} {pc : Nat} {lv : List (Option Value)} {st : List Value} {Post : Option Value → Mu → Prop} {A : Nat → Prop} {stR : List Value} (hr : ∀ (H : Heap) (locs : List Loc) (ls : Array Slot), I H → lh ls n lv → ∃ a, va_Run (xP X) (xL X) (xE X) (xR X) (xS X) (xM X) (xA X) (xB X) (xMe X) (xC X) H locs cells slots 0 0 (F0 (xM X) pc ls st) stR (yQ Y Post a) (yA Y)) (hA : ∀ q, yA Y q → A q) (hj : ∀ (H H' : Heap) (μ' : Mu), I H → H.size ≤ H'.size → (∀ q : Nat, q < H.size → ¬ yA Y q → H'[q]? = H[q]?) → yI Y μ' H' → I' μ' H') (kk : ∀ (r : Option Value) (μ' : Mu), Post r μ' → VG X A n cells slots Q (I' μ') (pc + 3) lv (r.toList ++ stR)) : VG X A n cells slots Q I pc lv st := by
  intro H locs ls hI hS hl
  obtain ⟨a, hrun⟩ := hr H locs ls hI hl
  intro T hT XX
  obtain ⟨v, st₀, t, T', L, h0, X', hL, e1, e2, ⟨⟨r, μ', hv, hpost, hb⟩, hz, hk⟩, stp⟩ := hrun T hT XX
  cases hv
  rw [h0] at hz hk
  obtain ⟨t2, a1, b1⟩ := kk _ μ' hpost T'.heap (locs ++ L) ls (by rw [e1]; exact hj H t.heap μ' hI hz hk hb)
    ⟨Nat.le_trans hS.1 (by rw [e1]; exact hz), fun q h1 h2 => by rw [e1, hk q (Nat.lt_of_lt_of_le h1 hS.1) (fun z => h2 (hA q z))]; exact hS.2.1 q h1 h2, fun q hq => by
      rcases List.mem_append.mp hq with h | h
      · exact hS.2.2 q h
      · exact hA _ (hL q h)⟩ hl T' rfl X'
  exact ⟨t2, stp t2 a1, b1⟩
theorem l_callV {X : Xt} {Y : Yt} {n cells slots : Nat} {Q : State → Prop} {μ : Mu} {I : Heap → Prop} {I' : Mu → Heap → Prop} {A : Nat → Prop} {pc : Nat} {lv : List (Option Value)} {st : List Value} {l : Launch} {rm : Room} {cc : ByteArray} {ret : Option FieldType} {own : String} {z : Cond} {idx mL k : Nat} {y : MethodName} {b : ByteArray} {rt : Option FieldType} {rmy : Room} {As stR : List Value} {Post : Option Value → Mu → Prop} (C : VC X Y l rm cc n ret (z :: tbl) own) (hL : Lk tbl own idx y b mL rt k) (h1 : Cond.instanceMethod y ∈ tbl) (h2 : Cond.selects y.cls y y ∈ tbl) (d : decode cc pc = .ok (.invokevirtual idx, 3)) {i ci N : Nat} {F : (Nat → Int32) → (Nat → Int64) → List Value} {T : u_T} (ho : Ob Y i ci F) (hcl : (yC Y)[ci]? = some (y.cls, T, N)) (hc : Ct l Y y (Cond.code y b mL rt :: tbl) rmy (.ref (ad Y i) :: As) μ Post) (h3 : rmy.cells = 0) (h4 : rmy.slots = 0) (hR : rmy.frames + 1 ≤ rm.frames ∧ 8 + (mL + 11) + rmy.locals ≤ rm.locals) (hn : As.length = k) (hst : st = As.reverse ++ .ref (ad Y i) :: stR) (hW : (stR.map fun v => v.category).sum ≤ 8) (hcs : cells ≤ rm.cells ∧ slots ≤ rm.slots) (hI : ∀ H, I H → yI Y μ H) (hA : ∀ q, yA Y q → A q) (hj : ∀ (H H' : Heap) (μ' : Mu), I H → H.size ≤ H'.size → (∀ q : Nat, q < H.size → ¬ yA Y q → H'[q]? = H[q]?) → yI Y μ' H' → I' μ' H')
    (kk : ∀ (r : Option Value) (μ' : Mu), Post r μ' → VG X A n cells slots Q (I' μ') (pc + 3) lv (r.toList ++ stR)) : VG X A n cells slots Q I pc lv st := by
  have hl0 : xL X = l := C.2.2.2.2.2.2.2.2.2.1
  have hrm : xR X = rm := C.2.2.2.2.2.2.2.2.2.2
  have ht := C.2.2.2.2.1
  refine l_run (fun H locs ls hIH hlv => ⟨_, va_runV (As := As) (rest := stR) ⟨C.1, C.2.1, C.2.2.1, C.2.2.2.1, ht⟩ (by rw [hl0]; exact hc) ⟨callB_tb C tbok hL h3 h4 hR, ht _ (List.mem_cons_of_mem _ h1), ht _ (List.mem_cons_of_mem _ h2)⟩ ⟨yP_blind, va_recv (q := (y.cls, T, N)) C.2.2.2.2.2.2.2.1 (hI H hIH) hcl (q0 := i) (by rw [yW_get μ ho.1, ho.2]), fun U hU hW => ⟨rfl, by rw [hU]; exact hI H hIH, va_K.moved hW.alike C.2.2.2.2.2.2.2.1⟩⟩ rfl hn hlv.1 hst (lv_room hW) d (by rw [hrm]; exact hcs)⟩) hA hj kk
/-- both worlds on a heap -/
def I2 (D : va_G) (b : Nat) (cI0 cJ cB cP cII : ClassId) (μ ρ : Mu) (H : Heap) : Prop := yI (YF D b cI0 cJ cB cP cII) μ H ∧ yI (YR D (b + 459) cI0 cJ cB cP cII) ρ H ∧ b + 461 ≤ H.size
theorem I2_x {D : va_G} {b : Nat} {cI0 cJ cB cP cII : ClassId} {μ ρ : Mu} (H H' : Heap) (μ' : Mu) (h : I2 D b cI0 cJ cB cP cII μ ρ H) (hz : H.size ≤ H'.size) (hk : ∀ q : Nat, q < H.size → ¬ yA (YF D b cI0 cJ cB cP cII) q → H'[q]? = H[q]?) (hy : yI (YF D b cI0 cJ cB cP cII) μ' H') : I2 D b cI0 cJ cB cP cII μ' ρ H' := by
  refine ⟨hy, yI_kept h.2.1 (fun i hi => hk _ ?_ ?_), Nat.le_trans h.2.2 hz⟩
  · have hi : i < 2 := hi
    have h3 := h.2.2
    show b + 459 + i < H.size
    omega
  · rintro ⟨j, hj, he⟩
    have hj : j < 459 := hj
    have he : b + 459 + i = b + offC j := he
    have := off_lt j hj
    omega
theorem I2_m {D : va_G} {b : Nat} {cI0 cJ cB cP cII : ClassId} {μ ρ : Mu} (H H' : Heap) (ρ' : Mu) (h : I2 D b cI0 cJ cB cP cII μ ρ H) (hz : H.size ≤ H'.size) (hk : ∀ q : Nat, q < H.size → ¬ yA (YR D (b + 459) cI0 cJ cB cP cII) q → H'[q]? = H[q]?) (hy : yI (YR D (b + 459) cI0 cJ cB cP cII) ρ' H') : I2 D b cI0 cJ cB cP cII μ ρ' H' := by
  refine ⟨yI_kept h.1 (fun i hi => hk _ ?_ ?_), hy, Nat.le_trans h.2.2 hz⟩
  · have hi : i < 459 := hi
    have h3 := h.2.2
    have := off_lt i hi
    show b + offC i < H.size
    omega
  · rintro ⟨j, hj, he⟩
    have hj : j < 2 := hj
    have hi : i < 459 := hi
    have he : b + offC i = b + 459 + j := he
    have := off_lt i hi
    omega
/-- the law's context -/
def LX (X : Xt) (l : Launch) (D : va_G) (cI0 cJ cB cP cII : ClassId) (bs L : Nat) (xs : Nat → Int32) : Prop := VC X (Y0 D (TY cI0 cJ cB cP cII)) l room_1 code 4 ret (Cond.initialized RLa :: tbl) RLa ∧ va_X bs L xs (xS X) (xS X).heap ∧ bs < (xS X).heap.size ∧ L ≤ 3072
section LROWS
variable {X : Xt} {l : Launch} {D : va_G} {cI0 cJ cB cP cII : ClassId} {bs L : Nat} {xs : Nat → Int32} {cells slots : Nat} {Q : State → Prop} {μ ρ : Mu} {pc : Nat} {lv : List (Option Value)} {st : List Value} {idx mL k : Nat} {y : MethodName} {bb : ByteArray} {rt : Option FieldType} {rmy : Room} {As stR : List Value} {Post : Option Value → Mu → Prop}
theorem LX.x (C : LX X l D cI0 cJ cB cP cII bs L xs) (b : Nat) : VC X (YF D b cI0 cJ cB cP cII) l room_1 code 4 ret (Cond.initialized RLa :: tbl) RLa := ⟨C.1.1, C.1.2.1, C.1.2.2.1, C.1.2.2.2.1, C.1.2.2.2.2.1, C.1.2.2.2.2.2.1, C.1.2.2.2.2.2.2.1, C.1.2.2.2.2.2.2.2.1, (YF_B D b cI0 cJ cB cP cII).1, C.1.2.2.2.2.2.2.2.2.2⟩
theorem LX.m (C : LX X l D cI0 cJ cB cP cII bs L xs) (b : Nat) : VC X (YR D b cI0 cJ cB cP cII) l room_1 code 4 ret (Cond.initialized RLa :: tbl) RLa := ⟨C.1.1, C.1.2.1, C.1.2.2.1, C.1.2.2.2.1, C.1.2.2.2.2.1, C.1.2.2.2.2.2.1, C.1.2.2.2.2.2.2.1, C.1.2.2.2.2.2.2.2.1, (YR_B D b cI0 cJ cB cP cII).1, C.1.2.2.2.2.2.2.2.2.2⟩
theorem LX.B (C : LX X l D cI0 cJ cB cP cII bs L xs) : VB X code := C.1.B
theorem l_s (C : LX X l D cI0 cJ cB cP cII bs L xs) {I : Heap → Prop} (j : Nat) {x : Int32} (hx : x = nI j) (hj : j < L) (d : decode code pc = .ok (.iaload, 1)) (kk : VG X (cA_ (xS X).heap.size) 4 cells slots Q I (pc + 1) lv (.int (xs j) :: st)) : VG X (cA_ (xS X).heap.size) 4 cells slots Q I pc lv (.int x :: .ref bs :: st) := v_sld C.B C.2.1 C.2.2.1 (Nat.not_le.mpr C.2.2.1) j hx hj (by have := C.2.2.2; omega) d kk
theorem l_cx (C : LX X l D cI0 cJ cB cP cII bs L xs) (hL : Lk tbl RLa idx y bb mL rt k) (h1 : Cond.instanceMethod y ∈ tbl) (h2 : Cond.selects y.cls y y ∈ tbl) (d : decode code pc = .ok (.invokevirtual idx, 3)) (hy : y.cls = RFa) (hc : Ct l (YF D (xS X).heap.size cI0 cJ cB cP cII) y (Cond.code y bb mL rt :: tbl) rmy (.ref (ad (YF D (xS X).heap.size cI0 cJ cB cP cII) 0) :: As) μ Post) (h3 : rmy.cells = 0) (h4 : rmy.slots = 0) (hR : rmy.frames + 1 ≤ room_1.frames ∧ 8 + (mL + 11) + rmy.locals ≤ room_1.locals) (hn : As.length = k) (hst : st = As.reverse ++ .ref (ad (YF D (xS X).heap.size cI0 cJ cB cP cII) 0) :: stR) (hW : (stR.map fun v => v.category).sum ≤ 8) (hcs : cells ≤ room_1.cells ∧ slots ≤ room_1.slots)
    (kk : ∀ (r : Option Value) (μ' : Mu), Post r μ' → VG X (cA_ (xS X).heap.size) 4 cells slots Q (I2 D (xS X).heap.size cI0 cJ cB cP cII μ' ρ) (pc + 3) lv (r.toList ++ stR)) : VG X (cA_ (xS X).heap.size) 4 cells slots Q (I2 D (xS X).heap.size cI0 cJ cB cP cII μ ρ) pc lv st :=
  l_callV (C.x _) hL h1 h2 d (YF_0 D _ cI0 cJ cB cP cII) (by rw [hy]; rfl) hc h3 h4 hR hn hst hW hcs (fun H h => h.1) (fun q hq => by
    obtain ⟨i, hi, rfl⟩ := hq
    exact Nat.le_add_right _ _) (fun H H' μ' => I2_x H H' μ') kk
theorem l_cm (C : LX X l D cI0 cJ cB cP cII bs L xs) (hL : Lk tbl RLa idx y bb mL rt k) (h1 : Cond.instanceMethod y ∈ tbl) (h2 : Cond.selects y.cls y y ∈ tbl) (d : decode code pc = .ok (.invokevirtual idx, 3)) (hy : y.cls = RMo) (hc : Ct l (YR D ((xS X).heap.size + 459) cI0 cJ cB cP cII) y (Cond.code y bb mL rt :: tbl) rmy (.ref (ad (YR D ((xS X).heap.size + 459) cI0 cJ cB cP cII) 0) :: As) ρ Post) (h3 : rmy.cells = 0) (h4 : rmy.slots = 0) (hR : rmy.frames + 1 ≤ room_1.frames ∧ 8 + (mL + 11) + rmy.locals ≤ room_1.locals) (hn : As.length = k) (hst : st = As.reverse ++ .ref (ad (YR D ((xS X).heap.size + 459) cI0 cJ cB cP cII) 0) :: stR) (hW : (stR.map fun v => v.category).sum ≤ 8) (hcs : cells ≤ room_1.cells ∧ slots ≤ room_1.slots)
    (kk : ∀ (r : Option Value) (ρ' : Mu), Post r ρ' → VG X (cA_ (xS X).heap.size) 4 cells slots Q (I2 D (xS X).heap.size cI0 cJ cB cP cII μ ρ') (pc + 3) lv (r.toList ++ stR)) : VG X (cA_ (xS X).heap.size) 4 cells slots Q (I2 D (xS X).heap.size cI0 cJ cB cP cII μ ρ) pc lv st :=
  l_callV (C.m _) hL h1 h2 d (YR_M D _ cI0 cJ cB cP cII).1 (by rw [hy]; rfl) hc h3 h4 hR hn hst hW hcs (fun H h => h.2.1) (fun q hq => by
    obtain ⟨i, hi, rfl⟩ := hq
    show _ ≤ (xS X).heap.size + 459 + i
    omega) (fun H H' ρ' => I2_m H H' ρ') kk
end LROWS
theorem SimE.mm {μ ρ : Mu} (h : SimE μ ρ) : ∃ m, ρ.1 0 2 = nI m ∧ m ≤ 40 := by
  obtain ⟨L, hS⟩ := h
  exact ⟨L.length, hS.2.1.1, hS.len⟩
theorem nI_5 (a : Nat) : nI a + 5 = nI (a + 5) := nI_add a 5
theorem nI_6 (a : Nat) : nI a + 6 = nI (a + 6) := nI_add a 6
