/-! MY OWN LAYER. A world of numbered cells: the references never change, the ints and longs are a memory. VG: the machine's judgement with heap, locals and written places hidden. -/
abbrev Xt := Program × Launch × Env × Room × State × MethodId × Array Value × List Frame × Method × Code
abbrev xP (X : Xt) : Program := X.1
abbrev xL (X : Xt) : Launch := X.2.1
abbrev xE (X : Xt) : Env := X.2.2.1
abbrev xR (X : Xt) : Room := X.2.2.2.1
abbrev xS (X : Xt) : State := X.2.2.2.2.1
abbrev xM (X : Xt) : MethodId := X.2.2.2.2.2.1
abbrev xA (X : Xt) : Array Value := X.2.2.2.2.2.2.1
abbrev xB (X : Xt) : List Frame := X.2.2.2.2.2.2.2.1
abbrev xMe (X : Xt) : Method := X.2.2.2.2.2.2.2.2.1
abbrev xC (X : Xt) : Code := X.2.2.2.2.2.2.2.2.2
/-- the locals, by their places -/
def lh (ls : Array Slot) (n : Nat) (lv : List (Option Value)) : Prop := ls.size = n ∧ lv_wf ls ∧ ∀ (i : Nat) (v : Value), lv[i]? = some (some v) → ls[i]? = some (.val v)
theorem lh_at {ls : Array Slot} {n : Nat} {lv : List (Option Value)} (h : lh ls n lv) {i : Nat} {v : Value} (e : lv[i]? = some (some v)) : ls[i]? = some (.val v) := h.2.2 i v e
def kl (lv : List (Option Value)) : List (Nat × Value) := (List.range lv.length).filterMap (fun j => (lv[j]?).bind (fun o => o.map (fun v => (j, v))))
theorem kl_mem {lv : List (Option Value)} {j : Nat} {v : Value} : (j, v) ∈ kl lv ↔ lv[j]? = some (some v) := by
  unfold kl
  rw [List.mem_filterMap]
  constructor
  · rintro ⟨a, -, h⟩
    cases hl : lv[a]? with
    | none => simp [hl] at h
    | some o =>
      cases o with
      | none => simp [hl] at h
      | some w =>
        simp [hl] at h
        obtain ⟨rfl, rfl⟩ := h
        exact hl
  · intro h
    exact ⟨j, List.mem_range.mpr (List.getElem?_eq_some_iff.mp h).1, by simp [h]⟩
theorem lh_has {ls : Array Slot} {n : Nat} {lv : List (Option Value)} (h : lh ls n lv) : lv_has ls n (kl lv) := ⟨h.1, h.2.1, fun q hq => h.2.2 q.1 q.2 (kl_mem.mp hq)⟩
/-- the place before holds no long -/
def nl (lv : List (Option Value)) (i : Nat) : Bool := match i with
  | 0 => true
  | j + 1 => match lv[j]? with
    | some (some v) => v.category != 2
    | _ => true
theorem nl_at {lv : List (Option Value)} {i j : Nat} {w : Value} (hb : nl lv i = true) (hj : lv[j]? = some (some w)) (h : j + 1 = i) : ¬ w.category = 2 := by
  subst h
  simp only [nl, hj] at hb
  simpa using hb
theorem lh_st1 {ls : Array Slot} {n i : Nat} {v : Value} {lv : List (Option Value)} (h : lv_has ls n ((i, v) :: (kl lv).filter (fun q => !(q.1 == i) && !(q.1 + 1 == i && q.2.category == 2)))) (hb : nl lv i = true) : lh ls n (lv.set i (some v)) := by
  refine ⟨h.1, h.2.1, fun j w hj => ?_⟩
  by_cases hji : j = i
  · subst hji
    by_cases hl : j < lv.length
    · rw [List.getElem?_set_self hl] at hj
      cases hj
      exact h.2.2 (j, v) List.mem_cons_self
    · rw [List.getElem?_eq_none (by simpa using Nat.le_of_not_lt hl)] at hj
      cases hj
  · rw [List.getElem?_set_ne (Ne.symm hji)] at hj
    refine h.2.2 (j, w) (List.mem_cons_of_mem _ (List.mem_filter.mpr ⟨kl_mem.mpr hj, ?_⟩))
    have h2 := nl_at (w := w) hb hj
    by_cases hq : j + 1 = i
    · simp [hji, h2 hq]
    · simp [hji, hq]
theorem lh_st2 {ls : Array Slot} {n i : Nat} {v : Value} {lv : List (Option Value)} (h : lv_has ls n ((i, v) :: (kl lv).filter (fun q => !(q.1 == i) && (!(q.1 == i + 1) && !(q.1 + 1 == i && q.2.category == 2))))) (hb : nl lv i = true) : lh ls n ((lv.set i (some v)).set (i + 1) none) := by
  refine ⟨h.1, h.2.1, fun j w hj => ?_⟩
  by_cases hj1 : j = i + 1
  · subst hj1
    by_cases hl : i + 1 < (lv.set i (some v)).length
    · rw [List.getElem?_set_self hl] at hj
      cases hj
    · rw [List.getElem?_eq_none (by simpa using Nat.le_of_not_lt hl)] at hj
      cases hj
  rw [List.getElem?_set_ne (Ne.symm hj1)] at hj
  by_cases hji : j = i
  · subst hji
    by_cases hl : j < lv.length
    · rw [List.getElem?_set_self hl] at hj
      cases hj
      exact h.2.2 (j, v) List.mem_cons_self
    · rw [List.getElem?_eq_none (by simpa using Nat.le_of_not_lt hl)] at hj
      cases hj
  · rw [List.getElem?_set_ne (Ne.symm hji)] at hj
    refine h.2.2 (j, w) (List.mem_cons_of_mem _ (List.mem_filter.mpr ⟨kl_mem.mpr hj, ?_⟩))
    have h2 := nl_at (w := w) hb hj
    by_cases hq : j + 1 = i
    · simp [hji, hj1, h2 hq]
    · simp [hji, hj1, hq]
/-- the locals of a method's entry -/
def lo (L : List (Nat × Value)) (i : Nat) : Option Value := match L with
  | [] => none
  | q :: t => if q.1 = i then some q.2 else lo t i
theorem lo_mem {i : Nat} {v : Value} : ∀ {L : List (Nat × Value)}, lo L i = some v → (i, v) ∈ L
  | [], h => by simp [lo] at h
  | q :: t, h => by
    unfold lo at h
    by_cases hq : q.1 = i
    · rw [if_pos hq] at h
      cases h
      rw [← hq]
      exact List.mem_cons_self
    · rw [if_neg hq] at h
      exact List.mem_cons_of_mem _ (lo_mem h)
theorem lh_entry {ls : Array Slot} {n : Nat} {L : List (Nat × Value)} (h : lv_has ls n L) : lh ls n ((List.range n).map (lo L)) := by
  refine ⟨h.1, h.2.1, fun j w hj => ?_⟩
  rw [List.getElem?_map] at hj
  cases hr : (List.range n)[j]? with
  | none => rw [hr] at hj; cases hj
  | some k =>
    have hk : j = k := by
      obtain ⟨h1, h2⟩ := List.getElem?_eq_some_iff.mp hr
      simpa using h2
    subst hk
    rw [hr] at hj
    exact h.2.2 (j, w) (lo_mem (Option.some.inj hj))
/-- the judgement -/
def VG (X : Xt) (A : Nat → Prop) (n cells slots : Nat) (Q : State → Prop) (I : Heap → Prop) (pc : Nat) (lv : List (Option Value)) (st : List Value) : Prop :=
  ∀ (H : Heap) (locs : List Loc) (ls : Array Slot), I H → va_S A (xS X).heap H locs → lh ls n lv → W (xP X) (xL X) (xE X) (xR X) (xS X) (xM X) (xA X) (xB X) (xMe X) (xC X) H locs cells slots Q (F0 (xM X) pc ls st)
def VB (X : Xt) (cc : ByteArray) : Prop := (xP X).tables.exec = Jvm.exec ∧ (xC X).code = cc
section VROWS
variable {X : Xt} {A : Nat → Prop} {n cells slots : Nat} {Q : State → Prop} {I : Heap → Prop} {pc : Nat} {lv : List (Option Value)} {st : List Value} {cc : ByteArray}
theorem v_iconst (B : VB X cc) {z : Int} (d : decode cc pc = .ok (.iconst z, 1)) {v : Int32} (hv : Int32.ofInt z = v) (k : VG X A n cells slots Q I (pc + 1) lv (.int v :: st)) : VG X A n cells slots Q I pc lv st := fun H locs ls hI hS hl => lv_iconst B.1 B.2 d hv (k H locs ls hI hS hl)
theorem v_bipush (B : VB X cc) {z : Int} (d : decode cc pc = .ok (.bipush z, 2)) {v : Int32} (hv : (Int8.ofInt z).toInt32 = v) (k : VG X A n cells slots Q I (pc + 2) lv (.int v :: st)) : VG X A n cells slots Q I pc lv st := fun H locs ls hI hS hl => lv_bipush B.1 B.2 d hv (k H locs ls hI hS hl)
theorem v_sipush (B : VB X cc) {z : Int} (d : decode cc pc = .ok (.sipush z, 3)) {v : Int32} (hv : (Int16.ofInt z).toInt32 = v) (k : VG X A n cells slots Q I (pc + 3) lv (.int v :: st)) : VG X A n cells slots Q I pc lv st := fun H locs ls hI hS hl => lv_sipush B.1 B.2 d hv (k H locs ls hI hS hl)
theorem v_lconst (B : VB X cc) {z : Fin 2} (d : decode cc pc = .ok (.lconst z, 1)) {v : Int64} (hv : Int64.ofNat (z : Nat) = v) (k : VG X A n cells slots Q I (pc + 1) lv (.long v :: st)) : VG X A n cells slots Q I pc lv st := fun H locs ls hI hS hl => lv_lconst B.1 B.2 d hv (k H locs ls hI hS hl)
theorem v_iload_n (B : VB X cc) {i : Fin 4} (d : decode cc pc = .ok (.iload_n i, 1)) {x : Int32} (h : lv[(i : Nat)]? = some (some (.int x))) (k : VG X A n cells slots Q I (pc + 1) lv (.int x :: st)) : VG X A n cells slots Q I pc lv st := fun H locs ls hI hS hl => lv_iload_n B.1 B.2 d rfl (lh_at hl h) (k H locs ls hI hS hl)
theorem v_iload (B : VB X cc) {i : Nat} (d : decode cc pc = .ok (.iload i, 2)) {x : Int32} (h : lv[i]? = some (some (.int x))) (k : VG X A n cells slots Q I (pc + 2) lv (.int x :: st)) : VG X A n cells slots Q I pc lv st := fun H locs ls hI hS hl => lv_iload B.1 B.2 d (lh_at hl h) (k H locs ls hI hS hl)
theorem v_lload_n (B : VB X cc) {i : Fin 4} (d : decode cc pc = .ok (.lload_n i, 1)) {x : Int64} (h : lv[(i : Nat)]? = some (some (.long x))) (k : VG X A n cells slots Q I (pc + 1) lv (.long x :: st)) : VG X A n cells slots Q I pc lv st := fun H locs ls hI hS hl => lv_lload_n B.1 B.2 d rfl (lh_at hl h) (k H locs ls hI hS hl)
theorem v_lload (B : VB X cc) {i : Nat} (d : decode cc pc = .ok (.lload i, 2)) {x : Int64} (h : lv[i]? = some (some (.long x))) (k : VG X A n cells slots Q I (pc + 2) lv (.long x :: st)) : VG X A n cells slots Q I pc lv st := fun H locs ls hI hS hl => lv_lload B.1 B.2 d (lh_at hl h) (k H locs ls hI hS hl)
theorem v_aload_n (B : VB X cc) {i : Fin 4} (d : decode cc pc = .ok (.aload_n i, 1)) {x : Nat} (h : lv[(i : Nat)]? = some (some (.ref x))) (k : VG X A n cells slots Q I (pc + 1) lv (.ref x :: st)) : VG X A n cells slots Q I pc lv st := fun H locs ls hI hS hl => lv_aload_n B.1 B.2 d rfl (lh_at hl h) (k H locs ls hI hS hl)
theorem v_aload (B : VB X cc) {i : Nat} (d : decode cc pc = .ok (.aload i, 2)) {x : Nat} (h : lv[i]? = some (some (.ref x))) (k : VG X A n cells slots Q I (pc + 2) lv (.ref x :: st)) : VG X A n cells slots Q I pc lv st := fun H locs ls hI hS hl => lv_aload B.1 B.2 d (lh_at hl h) (k H locs ls hI hS hl)
theorem v_istore_n (B : VB X cc) {i : Fin 4} (d : decode cc pc = .ok (.istore_n i, 1)) {x : Int32} (hb : nl lv (i : Nat) = true) (hn : (i : Nat) < n) {lv' : List (Option Value)} (hl' : lv.set (i : Nat) (some (.int x)) = lv') (k : VG X A n cells slots Q I (pc + 1) lv' st) : VG X A n cells slots Q I pc lv (.int x :: st) := fun H locs ls hI hS hl => lv_istore_n B.1 B.2 d rfl (lh_has hl) hn rfl (fun ls' h' => k H locs ls' hI hS (hl' ▸ lh_st1 h' hb))
theorem v_istore (B : VB X cc) {i : Nat} (d : decode cc pc = .ok (.istore i, 2)) {x : Int32} (hb : nl lv i = true) (hn : i < n) {lv' : List (Option Value)} (hl' : lv.set i (some (.int x)) = lv') (k : VG X A n cells slots Q I (pc + 2) lv' st) : VG X A n cells slots Q I pc lv (.int x :: st) := fun H locs ls hI hS hl => lv_istore B.1 B.2 d (lh_has hl) hn rfl (fun ls' h' => k H locs ls' hI hS (hl' ▸ lh_st1 h' hb))
theorem v_astore_n (B : VB X cc) {i : Fin 4} (d : decode cc pc = .ok (.astore_n i, 1)) {x : Nat} (hb : nl lv (i : Nat) = true) (hn : (i : Nat) < n) {lv' : List (Option Value)} (hl' : lv.set (i : Nat) (some (.ref x)) = lv') (k : VG X A n cells slots Q I (pc + 1) lv' st) : VG X A n cells slots Q I pc lv (.ref x :: st) := fun H locs ls hI hS hl => lv_astore_n B.1 B.2 d rfl (lh_has hl) hn rfl (fun ls' h' => k H locs ls' hI hS (hl' ▸ lh_st1 h' hb))
theorem v_astore (B : VB X cc) {i : Nat} (d : decode cc pc = .ok (.astore i, 2)) {x : Nat} (hb : nl lv i = true) (hn : i < n) {lv' : List (Option Value)} (hl' : lv.set i (some (.ref x)) = lv') (k : VG X A n cells slots Q I (pc + 2) lv' st) : VG X A n cells slots Q I pc lv (.ref x :: st) := fun H locs ls hI hS hl => lv_astore B.1 B.2 d (lh_has hl) hn rfl (fun ls' h' => k H locs ls' hI hS (hl' ▸ lh_st1 h' hb))
theorem v_lstore_n (B : VB X cc) {i : Fin 4} (d : decode cc pc = .ok (.lstore_n i, 1)) {x : Int64} (hb : nl lv (i : Nat) = true) (hn : (i : Nat) + 1 < n) {lv' : List (Option Value)} (hl' : (lv.set (i : Nat) (some (.long x))).set ((i : Nat) + 1) none = lv') (k : VG X A n cells slots Q I (pc + 1) lv' st) : VG X A n cells slots Q I pc lv (.long x :: st) := fun H locs ls hI hS hl => lv_lstore_n B.1 B.2 d rfl (lh_has hl) hn rfl (fun ls' h' => k H locs ls' hI hS (hl' ▸ lh_st2 h' hb))
theorem v_lstore (B : VB X cc) {i : Nat} (d : decode cc pc = .ok (.lstore i, 2)) {x : Int64} (hb : nl lv i = true) (hn : i + 1 < n) {lv' : List (Option Value)} (hl' : (lv.set i (some (.long x))).set (i + 1) none = lv') (k : VG X A n cells slots Q I (pc + 2) lv' st) : VG X A n cells slots Q I pc lv (.long x :: st) := fun H locs ls hI hS hl => lv_lstore B.1 B.2 d (lh_has hl) hn rfl (fun ls' h' => k H locs ls' hI hS (hl' ▸ lh_st2 h' hb))
theorem v_iinc (B : VB X cc) {i : Nat} {z : Int} (d : decode cc pc = .ok (.iinc i z, 3)) {x y : Int32} (h : lv[i]? = some (some (.int x))) (hy : x + Int32.ofInt z = y) (hb : nl lv i = true) (hn : i < n) {lv' : List (Option Value)} (hl' : lv.set i (some (.int y)) = lv') (k : VG X A n cells slots Q I (pc + 3) lv' st) : VG X A n cells slots Q I pc lv st := fun H locs ls hI hS hl => by
  obtain ⟨q, hq⟩ := List.getElem?_of_mem (kl_mem.mpr h)
  exact lv_iinc B.1 B.2 d (lh_has hl) hq hy hn rfl (fun ls' h' => k H locs ls' hI hS (hl' ▸ lh_st1 h' hb))
theorem v_iadd (B : VB X cc) {x y : Int32} (d : decode cc pc = .ok (.iadd, 1)) (k : VG X A n cells slots Q I (pc + 1) lv (.int (x + y) :: st)) : VG X A n cells slots Q I pc lv (.int y :: .int x :: st) := fun H locs ls hI hS hl => lv_iadd B.1 B.2 d (k H locs ls hI hS hl)
theorem v_isub (B : VB X cc) {x y : Int32} (d : decode cc pc = .ok (.isub, 1)) (k : VG X A n cells slots Q I (pc + 1) lv (.int (x - y) :: st)) : VG X A n cells slots Q I pc lv (.int y :: .int x :: st) := fun H locs ls hI hS hl => lv_isub B.1 B.2 d (k H locs ls hI hS hl)
theorem v_imul (B : VB X cc) {x y : Int32} (d : decode cc pc = .ok (.imul, 1)) (k : VG X A n cells slots Q I (pc + 1) lv (.int (x * y) :: st)) : VG X A n cells slots Q I pc lv (.int y :: .int x :: st) := fun H locs ls hI hS hl => lv_imul B.1 B.2 d (k H locs ls hI hS hl)
theorem v_idiv (B : VB X cc) {x y : Int32} (d : decode cc pc = .ok (.idiv, 1)) (hne : ¬ y = 0) (k : VG X A n cells slots Q I (pc + 1) lv (.int (x / y) :: st)) : VG X A n cells slots Q I pc lv (.int y :: .int x :: st) := fun H locs ls hI hS hl => lv_idiv B.1 B.2 d hne (k H locs ls hI hS hl)
theorem v_iand (B : VB X cc) {x y : Int32} (d : decode cc pc = .ok (.iand, 1)) (k : VG X A n cells slots Q I (pc + 1) lv (.int (x &&& y) :: st)) : VG X A n cells slots Q I pc lv (.int y :: .int x :: st) := fun H locs ls hI hS hl => lv_iand B.1 B.2 d (k H locs ls hI hS hl)
theorem v_ixor (B : VB X cc) {x y : Int32} (d : decode cc pc = .ok (.ixor, 1)) (k : VG X A n cells slots Q I (pc + 1) lv (.int (x ^^^ y) :: st)) : VG X A n cells slots Q I pc lv (.int y :: .int x :: st) := fun H locs ls hI hS hl => lv_ixor B.1 B.2 d (k H locs ls hI hS hl)
theorem v_ishr (B : VB X cc) {x y : Int32} (d : decode cc pc = .ok (.ishr, 1)) (k : VG X A n cells slots Q I (pc + 1) lv (.int (x >>> (y &&& 31)) :: st)) : VG X A n cells slots Q I pc lv (.int y :: .int x :: st) := fun H locs ls hI hS hl => lv_ishr B.1 B.2 d (k H locs ls hI hS hl)
theorem v_ishl (B : VB X cc) {x y : Int32} (d : decode cc pc = .ok (.ishl, 1)) (k : VG X A n cells slots Q I (pc + 1) lv (.int (x <<< (y &&& 31)) :: st)) : VG X A n cells slots Q I pc lv (.int y :: .int x :: st) := fun H locs ls hI hS hl => lv_ishl B.1 B.2 d (k H locs ls hI hS hl)
theorem v_ineg (B : VB X cc) {x : Int32} (d : decode cc pc = .ok (.ineg, 1)) (k : VG X A n cells slots Q I (pc + 1) lv (.int (-x) :: st)) : VG X A n cells slots Q I pc lv (.int x :: st) := fun H locs ls hI hS hl => lv_ineg B.1 B.2 d (k H locs ls hI hS hl)
theorem v_ladd (B : VB X cc) {x y : Int64} (d : decode cc pc = .ok (.ladd, 1)) (k : VG X A n cells slots Q I (pc + 1) lv (.long (x + y) :: st)) : VG X A n cells slots Q I pc lv (.long y :: .long x :: st) := fun H locs ls hI hS hl => lv_ladd B.1 B.2 d (k H locs ls hI hS hl)
theorem v_lsub (B : VB X cc) {x y : Int64} (d : decode cc pc = .ok (.lsub, 1)) (k : VG X A n cells slots Q I (pc + 1) lv (.long (x - y) :: st)) : VG X A n cells slots Q I pc lv (.long y :: .long x :: st) := fun H locs ls hI hS hl => lv_lsub B.1 B.2 d (k H locs ls hI hS hl)
theorem v_lmul (B : VB X cc) {x y : Int64} (d : decode cc pc = .ok (.lmul, 1)) (k : VG X A n cells slots Q I (pc + 1) lv (.long (x * y) :: st)) : VG X A n cells slots Q I pc lv (.long y :: .long x :: st) := fun H locs ls hI hS hl => lv_lmul B.1 B.2 d (k H locs ls hI hS hl)
theorem v_lcmp (B : VB X cc) {x y : Int64} (d : decode cc pc = .ok (.lcmp, 1)) (k : VG X A n cells slots Q I (pc + 1) lv (.int (lg_cmp x y) :: st)) : VG X A n cells slots Q I pc lv (.long y :: .long x :: st) := fun H locs ls hI hS hl => W.lcmp B.1 B.2 d (k H locs ls hI hS hl)
theorem v_i2l (B : VB X cc) {x : Int32} (d : decode cc pc = .ok (.i2l, 1)) (k : VG X A n cells slots Q I (pc + 1) lv (.long x.toInt64 :: st)) : VG X A n cells slots Q I pc lv (.int x :: st) := fun H locs ls hI hS hl => lv_i2l B.1 B.2 d rfl (k H locs ls hI hS hl)
theorem v_dup (B : VB X cc) {va : Value} (d : decode cc pc = .ok (.dup, 1)) (hc : va.category = 1) (k : VG X A n cells slots Q I (pc + 1) lv (va :: va :: st)) : VG X A n cells slots Q I pc lv (va :: st) := fun H locs ls hI hS hl => lv_dup B.1 B.2 d hc (k H locs ls hI hS hl)
theorem v_dup_x1 (B : VB X cc) {va vb : Value} (d : decode cc pc = .ok (.dup_x1, 1)) (hc : va.category = 1) (hc2 : vb.category = 1) (k : VG X A n cells slots Q I (pc + 1) lv (va :: vb :: va :: st)) : VG X A n cells slots Q I pc lv (va :: vb :: st) := fun H locs ls hI hS hl => lv_dup_x1 B.1 B.2 d hc hc2 (k H locs ls hI hS hl)
theorem v_dup2_11 (B : VB X cc) {va vb : Value} (d : decode cc pc = .ok (.dup2, 1)) (hc : va.category = 1) (hc2 : vb.category = 1) (k : VG X A n cells slots Q I (pc + 1) lv (va :: vb :: va :: vb :: st)) : VG X A n cells slots Q I pc lv (va :: vb :: st) := fun H locs ls hI hS hl => lv_dup2_11 B.1 B.2 d hc hc2 (k H locs ls hI hS hl)
theorem v_pop (B : VB X cc) {va : Value} (d : decode cc pc = .ok (.pop, 1)) (hc : va.category = 1) (k : VG X A n cells slots Q I (pc + 1) lv st) : VG X A n cells slots Q I pc lv (va :: st) := fun H locs ls hI hS hl => lv_pop B.1 B.2 d hc (k H locs ls hI hS hl)
theorem v_goto (B : VB X cc) {off : Int} (t : Nat) (d : decode cc pc = .ok (.goto off, 3)) (ht : (pc : Int) + off = (t : Int)) (k : VG X A n cells slots Q I t lv st) : VG X A n cells slots Q I pc lv st := fun H locs ls hI hS hl => lv_goto B.1 B.2 d ht (k H locs ls hI hS hl)
theorem v_if_eq (B : VB X cc) {x : Int32} {off : Int} (t : Nat) (d : decode cc pc = .ok (.ifCond .eq off, 3)) (ht : (pc : Int) + off = (t : Int)) (kt : x = 0 → VG X A n cells slots Q I t lv st) (kf : ¬ x = 0 → VG X A n cells slots Q I (pc + 3) lv st) : VG X A n cells slots Q I pc lv (.int x :: st) := fun H locs ls hI hS hl => lv_if_eq B.1 B.2 d ht (fun h => kt h H locs ls hI hS hl) (fun h => kf h H locs ls hI hS hl)
theorem v_if_ne (B : VB X cc) {x : Int32} {off : Int} (t : Nat) (d : decode cc pc = .ok (.ifCond .ne off, 3)) (ht : (pc : Int) + off = (t : Int)) (kt : ¬ x = 0 → VG X A n cells slots Q I t lv st) (kf : x = 0 → VG X A n cells slots Q I (pc + 3) lv st) : VG X A n cells slots Q I pc lv (.int x :: st) := fun H locs ls hI hS hl => lv_if_ne B.1 B.2 d ht (fun h => kt h H locs ls hI hS hl) (fun h => kf h H locs ls hI hS hl)
theorem v_if_lt (B : VB X cc) {x : Int32} {off : Int} (t : Nat) (d : decode cc pc = .ok (.ifCond .lt off, 3)) (ht : (pc : Int) + off = (t : Int)) (kt : x < 0 → VG X A n cells slots Q I t lv st) (kf : ¬ x < 0 → VG X A n cells slots Q I (pc + 3) lv st) : VG X A n cells slots Q I pc lv (.int x :: st) := fun H locs ls hI hS hl => lv_if_lt B.1 B.2 d ht (fun h => kt h H locs ls hI hS hl) (fun h => kf h H locs ls hI hS hl)
theorem v_if_ge (B : VB X cc) {x : Int32} {off : Int} (t : Nat) (d : decode cc pc = .ok (.ifCond .ge off, 3)) (ht : (pc : Int) + off = (t : Int)) (kt : 0 ≤ x → VG X A n cells slots Q I t lv st) (kf : ¬ 0 ≤ x → VG X A n cells slots Q I (pc + 3) lv st) : VG X A n cells slots Q I pc lv (.int x :: st) := fun H locs ls hI hS hl => lv_if_ge B.1 B.2 d ht (fun h => kt h H locs ls hI hS hl) (fun h => kf h H locs ls hI hS hl)
theorem v_if_gt (B : VB X cc) {x : Int32} {off : Int} (t : Nat) (d : decode cc pc = .ok (.ifCond .gt off, 3)) (ht : (pc : Int) + off = (t : Int)) (kt : 0 < x → VG X A n cells slots Q I t lv st) (kf : ¬ 0 < x → VG X A n cells slots Q I (pc + 3) lv st) : VG X A n cells slots Q I pc lv (.int x :: st) := fun H locs ls hI hS hl => lv_if_gt B.1 B.2 d ht (fun h => kt h H locs ls hI hS hl) (fun h => kf h H locs ls hI hS hl)
theorem v_if_le (B : VB X cc) {x : Int32} {off : Int} (t : Nat) (d : decode cc pc = .ok (.ifCond .le off, 3)) (ht : (pc : Int) + off = (t : Int)) (kt : x ≤ 0 → VG X A n cells slots Q I t lv st) (kf : ¬ x ≤ 0 → VG X A n cells slots Q I (pc + 3) lv st) : VG X A n cells slots Q I pc lv (.int x :: st) := fun H locs ls hI hS hl => lv_if_le B.1 B.2 d ht (fun h => kt h H locs ls hI hS hl) (fun h => kf h H locs ls hI hS hl)
theorem v_icmp_eq (B : VB X cc) {x y : Int32} {off : Int} (t : Nat) (d : decode cc pc = .ok (.if_icmp .eq off, 3)) (ht : (pc : Int) + off = (t : Int)) (kt : x = y → VG X A n cells slots Q I t lv st) (kf : ¬ x = y → VG X A n cells slots Q I (pc + 3) lv st) : VG X A n cells slots Q I pc lv (.int y :: .int x :: st) := fun H locs ls hI hS hl => lv_icmp_eq B.1 B.2 d ht (fun h => kt h H locs ls hI hS hl) (fun h => kf h H locs ls hI hS hl)
theorem v_icmp_ne (B : VB X cc) {x y : Int32} {off : Int} (t : Nat) (d : decode cc pc = .ok (.if_icmp .ne off, 3)) (ht : (pc : Int) + off = (t : Int)) (kt : ¬ x = y → VG X A n cells slots Q I t lv st) (kf : x = y → VG X A n cells slots Q I (pc + 3) lv st) : VG X A n cells slots Q I pc lv (.int y :: .int x :: st) := fun H locs ls hI hS hl => lv_icmp_ne B.1 B.2 d ht (fun h => kt h H locs ls hI hS hl) (fun h => kf h H locs ls hI hS hl)
theorem v_icmp_lt (B : VB X cc) {x y : Int32} {off : Int} (t : Nat) (d : decode cc pc = .ok (.if_icmp .lt off, 3)) (ht : (pc : Int) + off = (t : Int)) (kt : x < y → VG X A n cells slots Q I t lv st) (kf : ¬ x < y → VG X A n cells slots Q I (pc + 3) lv st) : VG X A n cells slots Q I pc lv (.int y :: .int x :: st) := fun H locs ls hI hS hl => lv_icmp_lt B.1 B.2 d ht (fun h => kt h H locs ls hI hS hl) (fun h => kf h H locs ls hI hS hl)
theorem v_icmp_ge (B : VB X cc) {x y : Int32} {off : Int} (t : Nat) (d : decode cc pc = .ok (.if_icmp .ge off, 3)) (ht : (pc : Int) + off = (t : Int)) (kt : y ≤ x → VG X A n cells slots Q I t lv st) (kf : ¬ y ≤ x → VG X A n cells slots Q I (pc + 3) lv st) : VG X A n cells slots Q I pc lv (.int y :: .int x :: st) := fun H locs ls hI hS hl => lv_icmp_ge B.1 B.2 d ht (fun h => kt h H locs ls hI hS hl) (fun h => kf h H locs ls hI hS hl)
theorem v_icmp_gt (B : VB X cc) {x y : Int32} {off : Int} (t : Nat) (d : decode cc pc = .ok (.if_icmp .gt off, 3)) (ht : (pc : Int) + off = (t : Int)) (kt : y < x → VG X A n cells slots Q I t lv st) (kf : ¬ y < x → VG X A n cells slots Q I (pc + 3) lv st) : VG X A n cells slots Q I pc lv (.int y :: .int x :: st) := fun H locs ls hI hS hl => lv_icmp_gt B.1 B.2 d ht (fun h => kt h H locs ls hI hS hl) (fun h => kf h H locs ls hI hS hl)
theorem v_icmp_le (B : VB X cc) {x y : Int32} {off : Int} (t : Nat) (d : decode cc pc = .ok (.if_icmp .le off, 3)) (ht : (pc : Int) + off = (t : Int)) (kt : x ≤ y → VG X A n cells slots Q I t lv st) (kf : ¬ x ≤ y → VG X A n cells slots Q I (pc + 3) lv st) : VG X A n cells slots Q I pc lv (.int y :: .int x :: st) := fun H locs ls hI hS hl => lv_icmp_le B.1 B.2 d ht (fun h => kt h H locs ls hI hS hl) (fun h => kf h H locs ls hI hS hl)
/-- fewer locals are needed from here on -/
theorem v_lv {lv' : List (Option Value)} (h : ∀ (i : Nat) (v : Value), lv'[i]? = some (some v) → lv[i]? = some (some v)) (k : VG X A n cells slots Q I pc lv' st) : VG X A n cells slots Q I pc lv st := fun H locs ls hI hS hl => k H locs ls hI hS ⟨hl.1, hl.2.1, fun i v e => hl.2.2 i v (h i v e)⟩
theorem v_I {I' : Heap → Prop} (h : ∀ H, I H → I' H) (k : VG X A n cells slots Q I' pc lv st) : VG X A n cells slots Q I pc lv st := fun H locs ls hI hS hl => k H locs ls (h H hI) hS hl
end VROWS
