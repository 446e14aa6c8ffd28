/-! CONSTRUCTORS: arrays. -/
section CROWS2
variable {X : Xt} {D : va_G} {tys : List (ClassId × FieldType)} {n cells slots : Nat} {Q : State → Prop} {b m : Nat} {g : Nat → va_E} {pc : Nat} {lv : List (Option Value)} {st : List Value} {l : Launch} {rm : Room} {cc : ByteArray} {ret : Option FieldType} {own : String} {z : Cond}
theorem g_newa (C : VC X (Y0 D tys) l rm cc n ret (z :: tbl) own) {atype : ArrayType} {ty : FieldType} (hty : newarray.typeOf atype = ty) (harr : Cond.arrayClass ty ∈ tbl) (t0 : Nat) {cA : ClassId} (ht : tys[t0]? = some (cA, ty)) (hRA : ∀ (U : State) (c : ClassId), va_RA U c ty → U.vm.findClass ("[" ++ ty.toString) = some c) {N' : Nat} {a0 : vp_A} (ha : ∀ c : ClassId, vp_cell c a0 = arrV c N' (fun _ => defaultValue ty)) {x : Int32} (hn : ¬ x < 0) (hN : x.toNatClampNeg = N') (hbytes : N' * componentBytes ty ≤ 536870912) (d : decode cc pc = .ok (.newarray atype, 2)) (hc1 : cells + 1 ≤ rm.cells) (hs1 : slots + N' ≤ rm.slots) (kk : VG X (cA_ b) n (cells + 1) (slots + N') Q (cI D b (m + 1) (va_up g m (.inl (cA, a0)))) (pc + 2) lv (.ref (b + m) :: st)) : VG X (cA_ b) n cells slots Q (cI D b m g) pc lv (.int x :: st) := by
  have hrm : xR X = rm := C.2.2.2.2.2.2.2.2.2.2
  subst hrm
  subst hty
  intro H locs ls hI hS hl
  have hts := C.2.2.2.2.1
  have hKK : va_K D cls tys (xS X) := C.2.2.2.2.2.2.2.1
  refine va_newaK C.1 C.2.1 (hts _ (List.mem_cons_of_mem _ harr)) rfl d rfl hn hN hbytes hc1 hs1 hI.1 fun H1 cA' e1 z1 o1 hAr hNm => ?_
  have hcc : cA' = cA := Option.some.inj (hNm.symm.trans (hRA _ _ (hKK.2 t0 _ ht).2))
  subst hcc
  have o1' : ∀ q : Nat, q < H.size → H1[q]? = H[q]? := fun q hq => o1 q (by rw [← hI.1]; exact hq)
  exact kk H1 locs ls (cI_push hI (by rw [z1, hI.1]) o1' (show H1[b + m]? = some (vp_cell cA' a0) by rw [ha]; exact e1)) (gS_push hS (by rw [z1, hI.1]; omega) o1') hl
theorem g_anew (C : VC X (Y0 D tys) l rm cc n ret (z :: tbl) own) {C0 : String} {idx : Nat} (hw : Cond.classLink own idx C0 ∈ tbl) (hover : va_AO C0 (xS X)) (t0 : Nat) {cA : ClassId} (ht : tys[t0]? = some (cA, .object C0)) {N' : Nat} {x : Int32} (hn : ¬ x < 0) (hN : x.toNatClampNeg = N') (hbytes : N' * 4 ≤ 536870912) (d : decode cc pc = .ok (.anewarray idx, 3)) (hc1 : cells + 1 ≤ rm.cells) (hs1 : slots + N' ≤ rm.slots) (kk : VG X (cA_ b) n (cells + 1) (slots + N') Q (cI D b (m + 1) (va_up g m (.inl (cA, N', .inr (.inr (.inr (.inr (fun _ => none)))))))) (pc + 3) lv (.ref (b + m) :: st)) : VG X (cA_ b) n cells slots Q (cI D b m g) pc lv (.int x :: st) := by
  have hrm : xR X = rm := C.2.2.2.2.2.2.2.2.2.2
  subst hrm
  subst hN
  intro H locs ls hI hS hl
  have hts := C.2.2.2.2.1
  have hKK : va_K D cls tys (xS X) := C.2.2.2.2.2.2.2.1
  refine W.anew C.1 C.2.1 C.2.2.2.1 (hts _ (List.mem_cons_of_mem _ hw)) (va_AO.use hover) rfl d rfl hn hbytes hc1 hs1 fun cA' kA comp f1 f2 f3 f4 => ?_
  obtain ⟨-, -, -, -, -, hNm⟩ := (hKK.2 t0 _ ht).2
  have hcc : cA' = cA := Option.some.inj (f1.symm.trans hNm)
  subst hcc
  generalize hH1 : H.push ({ cls := cA', slots := Array.replicate x.toNatClampNeg .null, vm := .none } : Cell) = H1
  have z1 : H1.size = H.size + 1 := by rw [← hH1, Array.size_push]
  have e1 : H1[H.size]? = some (arrV cA' x.toNatClampNeg (fun _ => .null)) := by rw [← hH1, Array.getElem?_push_size, ← arrV_new]
  have o1 : ∀ q : Nat, q < H.size → H1[q]? = H[q]? := fun q hq => by rw [← hH1, Array.getElem?_push, if_neg (Nat.ne_of_lt hq)]
  have hk := kk H1 locs ls (cI_push hI z1 o1 (show H1[b + m]? = some (vp_cell cA' _) by rw [vp_cell_q, ← hI.1]; exact e1)) (gS_push hS (by rw [z1]; omega) o1) hl
  rw [← hI.1] at hk
  exact hk
theorem g_aald (C : VC X (Y0 D tys) l rm cc n ret (z :: tbl) own) {i N q a t0 : Nat} {cA : ClassId} {ty : FieldType} {f : Nat → Option Nat} (hi : i < m) (hg : g i = .inl (cA, N, .inr (.inr (.inr (.inr f))))) (ht : tys[t0]? = some (cA, ty)) (hk : refKind ty = true) (d : decode cc pc = .ok (.aaload, 1)) {x : Int32} (hx : x = nI q) (hq : q < N) (hN : N < 2 ^ 31) (hf : f q = some a) (kk : VG X (cA_ b) n cells slots Q (cI D b m g) (pc + 1) lv (.ref a :: st)) : VG X (cA_ b) n cells slots Q (cI D b m g) pc lv (.int x :: .ref (b + i) :: st) := by
  intro H locs ls hI hS hl
  subst hx
  have hat := cI_at hI hi
  rw [hg] at hat
  have hc := nI_clamp (Nat.lt_trans hq hN)
  exact W.aald (v := .ref a) (ty := ty) C.1 C.2.1 hat (((C.2.2.2.2.2.2.2.1).2 t0 _ ht).1 N (fun j => va_rf (f j))) hk (fun q => by cases q) (by show ¬ (nI q < 0 ∨ (arrV _ _ _).slots.size ≤ _); rw [arrV_size]; exact vp_in_nI hq hN) (by show (arrV _ _ _).slots[_]? = _; rw [hc, arrV_read _ _ hq, hf]; rfl) rfl rfl d (kk H locs ls hI hS hl)
theorem g_alen (C : VC X (Y0 D tys) l rm cc n ret (z :: tbl) own) {i N t0 : Nat} {cA : ClassId} {ty : FieldType} {f : Nat → Option Nat} (hi : i < m) (hg : g i = .inl (cA, N, .inr (.inr (.inr (.inr f))))) (ht : tys[t0]? = some (cA, ty)) (d : decode cc pc = .ok (.arraylength, 1)) (kk : VG X (cA_ b) n cells slots Q (cI D b m g) (pc + 1) lv (.int (nI N) :: st)) : VG X (cA_ b) n cells slots Q (cI D b m g) pc lv (.ref (b + i) :: st) := by
  intro H locs ls hI hS hl
  have h1 := cW_get b g hi
  rw [hg] at h1
  exact va_alen C.1 C.2.1 C.2.2.2.2.2.2.2.1 hI.2 i t0 h1 ht rfl d (kk H locs ls hI hS hl)
theorem g_iast (C : VC X (Y0 D tys) l rm cc n ret (z :: tbl) own) {i N q t0 : Nat} {cA : ClassId} {f : Nat → Int32} (hi : i < m) (hg : g i = .inl (cA, N, .inl f)) (ht : tys[t0]? = some (cA, .int)) (d : decode cc pc = .ok (.iastore, 1)) {x v : Int32} (hx : x = nI q) (hq : q < N) (hN : N < 2 ^ 31) (kk : VG X (cA_ b) n cells slots Q (cI D b m (va_up g i (.inl (cA, N, .inl (upd f q v))))) (pc + 1) lv st) : VG X (cA_ b) n cells slots Q (cI D b m g) pc lv (.int v :: .int x :: .ref (b + i) :: st) := by
  intro H locs ls hI hS hl
  subst hx
  have hat := cI_at hI hi
  rw [hg] at hat
  have hc := nI_clamp (Nat.lt_trans hq hN)
  refine W.iast C.1 C.2.1 hat (((C.2.2.2.2.2.2.2.1).2 t0 _ ht).1 N (fun j => .int (f j))) (fun q => by cases q) (by show ¬ (nI q < 0 ∨ (arrV _ _ _).slots.size ≤ _); rw [arrV_size]; exact vp_in_nI hq hN) rfl rfl d fun H1 e zz oq => ?_
  refine kk H1 _ ls (cI_set hI zz oq (show H1[b + i]? = some (vp_cell cA _) from ?_)) (hS.put zz oq (show b ≤ b + i by omega)) hl
  rw [e, hc, vp_cell_i]
  show some ((arrV cA N fun j => Value.int (f j)).setSlot q (.int v)) = _
  rw [arrV_store]
  refine congrArg some (show arrV cA N _ = arrV cA N (fun j => .int (upd f q v j)) from congrArg (arrV cA N) (funext fun j => ?_))
  by_cases hj : j = q
  · subst hj
    simp [updV, upd]
  · simp [updV, upd, hj]
theorem g_aast (C : VC X (Y0 D tys) l rm cc n ret (z :: tbl) own) {i j N q t0 ci : Nat} {cA : ClassId} {r : vw_C} {vs : List Value} {f : Nat → Option Nat} (hi : i < m) (hg : g i = .inl (cA, N, .inr (.inr (.inr (.inr f))))) (ht : tys[t0]? = some (cA, .object r.1)) (hj : j < m) (hgj : g j = .inr (ci, vs)) (hcr : cls[ci]? = some r) (d : decode cc pc = .ok (.aastore, 1)) {x : Int32} (hx : x = nI q) (hq : q < N) (hN : N < 2 ^ 31) (kk : VG X (cA_ b) n cells slots Q (cI D b m (va_up g i (.inl (cA, N, .inr (.inr (.inr (.inr (va_up f q (some (b + j))))))))) ) (pc + 1) lv st) : VG X (cA_ b) n cells slots Q (cI D b m g) pc lv (.ref (b + j) :: .int x :: .ref (b + i) :: st) := by
  intro H locs ls hI hS hl
  subst hx
  have hKK : va_K D cls tys (xS X) := C.2.2.2.2.2.2.2.1
  have hat := cI_at hI hi
  rw [hg] at hat
  have hatj := cI_at hI hj
  rw [hgj] at hatj
  have hc := nI_clamp (Nat.lt_trans hq hN)
  obtain ⟨r', hr', cellV, g1, g2, g3, -⟩ := hatj
  have hcls := (hKK.1 ci r hcr).2
  obtain ⟨kA, comp, k1, k2, k3, -⟩ := (hKK.2 t0 _ ht).2
  have hcomp : comp = D.1 ci := Option.some.inj (k3.symm.trans hcls.1)
  subst hcomp
  obtain ⟨kC, hkC, -⟩ := hcls.2
  refine W.aast C.1 C.2.1 hat (fun q h => by cases h) (fun h => by cases h) k1 k2 rfl hkC ⟨nI_pos (by omega), by show _ < (arrV _ _ _).slots.size; rw [arrV_size, hc]; exact hq⟩ g1 (fun q h => by rw [g3] at h; cases h) (by rw [g2]; exact hkC) (by rw [g2]; exact va_assign hcls) rfl rfl d fun H1 e zz oq => ?_
  refine kk H1 _ ls (cI_set hI zz oq (show H1[b + i]? = some (vp_cell cA _) from ?_)) (hS.put zz oq (show b ≤ b + i by omega)) hl
  rw [e, hc, vp_cell_q]
  show some ((arrV cA N fun j => va_rf (f j)).setSlot q (.ref (b + j))) = _
  rw [arrV_store]
  refine congrArg some (show arrV cA N _ = arrV cA N (fun k => va_rf (va_up f q (some (b + j)) k)) from congrArg (arrV cA N) (funext fun k => ?_))
  by_cases hk : k = q
  · subst hk
    simp [updV, va_up, va_rf]
  · simp [updV, va_up, hk]
/-- what stands behind new int[N][K] -/
def mnG (b m N K : Nat) (cII cI0 : ClassId) (g : Nat → va_E) : Nat → va_E := fun j => if j < m then g j else if j = m then .inl (cII, N, .inr (.inr (.inr (.inr (fun i => if i < N then some (b + (m + 1 + i)) else none))))) else .inl (cI0, K, .inl (fun _ => 0))
theorem mn_outer (c : ClassId) (N h0 : Nat) : ∀ i : Nat, Jvm.Free.Multi.outerC c N h0 i = arrV c N (fun j => va_rf (if j < i then some (h0 + 1 + j) else none))
  | 0 => by
    show ({ cls := c, slots := Array.replicate N .null, vm := .none } : Cell) = _
    rw [arrV_new]
    refine congrArg (arrV c N) (funext fun j => ?_)
    simp [va_rf]
  | i + 1 => by
    show (Jvm.Free.Multi.outerC c N h0 i).setSlot i (.ref (h0 + 1 + i)) = _
    rw [mn_outer c N h0 i, arrV_store]
    refine congrArg (arrV c N) (funext fun j => ?_)
    by_cases e : j = i
    · subst e
      simp [updV, va_rf]
    · by_cases h : j < i
      · simp [updV, e, h, Nat.lt_succ_of_lt h]
      · simp [updV, e, h, show ¬ j < i + 1 by omega]
theorem g_mna (C : VC X (Y0 D tys) l rm cc n ret (z :: tbl) own) {idx : Nat} (hw : Cond.classLink own idx ("[" ++ (FieldType.array .int).toString) ∈ tbl) (hover : AOA (xS X)) (t0 t1 : Nat) {cI0 cII : ClassId} (ht0 : tys[t0]? = some (cI0, .int)) (ht1 : tys[t1]? = some (cII, .array .int)) {x y : Int32} {N K : Nat} (hn : ¬ x < 0) (hk : ¬ y < 0) (hN : x.toNatClampNeg = N) (hM : y.toNatClampNeg = K) (hb1 : N * 4 ≤ 536870912) (hb2 : K * componentBytes .int ≤ 536870912) (hb3 : K ≤ 536870912) (d : decode cc pc = .ok (.multianewarray idx 2, 4)) (hc1 : cells + (1 + N) ≤ rm.cells) (hs1 : slots + (N + N * K) ≤ rm.slots) (kk : VG X (cA_ b) n (cells + 1 + N) (slots + N + N * K) Q (cI D b (m + 1 + N) (mnG b m N K cII cI0 g)) (pc + 4) lv (.ref (b + m) :: st)) : VG X (cA_ b) n cells slots Q (cI D b m g) pc lv (.int y :: .int x :: st) := by
  have hrm : xR X = rm := C.2.2.2.2.2.2.2.2.2.2
  subst hrm
  subst hN
  subst hM
  intro H locs ls hI hS hl
  have hts := C.2.2.2.2.1
  have hKK : va_K D cls tys (xS X) := C.2.2.2.2.2.2.2.1
  intro T hT Xs
  obtain ⟨vm₁, cA', comp, -, fA, fC, hO, -, X', step⟩ := Xs.multianewarray2F C.1 C.2.2.2.1 (hts _ (List.mem_cons_of_mem _ hw)) (show (Cond.arrayOver (.array .int)).before (xA X) (xS X) = true from hover) (hts _ (List.mem_cons_of_mem _ ac_I)) (g := F0 (xM X) pc ls (.int y :: .int x :: st)) rfl (by rw [C.2.1]; exact d) rfl hn hk hb1 hb2 hb3 rfl rfl hc1 hs1
  have hc0 : comp = cI0 := Option.some.inj (fC.symm.trans ((hKK.2 t0 _ ht0).2))
  have hc1' : cA' = cII := Option.some.inj (fA.symm.trans ((hKK.2 t1 _ ht1).2))
  subst hc0
  subst hc1'
  generalize hF : Jvm.Free.Multi.fill (T.setVm vm₁) cA' comp x.toNatClampNeg y.toNatClampNeg (defaultValue .int) x.toNatClampNeg = F at X' step
  have hTh : (T.setVm vm₁).heap = H := hT
  obtain ⟨f1, f2, -, -⟩ := Jvm.Free.Multi.fill_facts (T.setVm vm₁) cA' comp x.toNatClampNeg y.toNatClampNeg (defaultValue .int) x.toNatClampNeg
  rw [hF, hTh] at f1 f2
  have hold : ∀ q : Nat, q < H.size → F.heap[q]? = H[q]? := fun q hq => by
    have := Jvm.Free.Multi.fill_old (T.setVm vm₁) cA' comp x.toNatClampNeg y.toNatClampNeg (defaultValue .int) (a := q) (by rw [hTh]; exact hq) x.toNatClampNeg
    rw [hF, hTh] at this
    exact this
  have hrow : ∀ j : Nat, j < x.toNatClampNeg → F.heap[H.size + 1 + j]? = some (arrV comp y.toNatClampNeg (fun _ => .int 0)) := fun j hj => by
    have := Jvm.Free.Multi.fill_inner (T.setVm vm₁) cA' comp x.toNatClampNeg y.toNatClampNeg (defaultValue .int) x.toNatClampNeg j hj
    rw [hF, hTh] at this
    rw [this]
    show some ({ cls := comp, slots := Array.replicate y.toNatClampNeg (.int 0), vm := .none } : Cell) = _
    rw [arrV_new]
  have hnew : cI D b (m + 1 + x.toNatClampNeg) (mnG b m x.toNatClampNeg y.toNatClampNeg cA' comp g) F.heap := by
    refine ⟨by rw [f1, hI.1]; omega, fun k q hk => ?_⟩
    obtain ⟨h1, rfl⟩ := cW_in hk
    unfold mnG
    by_cases hkm : k < m
    · rw [if_pos hkm]
      exact (cI_at hI hkm).kept (hold _ (by rw [hI.1]; show b + k < b + m; omega))
    · rw [if_neg hkm]
      by_cases hk2 : k = m
      · rw [if_pos hk2]
        subst hk2
        show F.heap[b + k]? = some (vp_cell cA' _)
        rw [vp_cell_q, ← hI.1, f2, mn_outer]
        congr 2
        funext j
        rw [hI.1]
        by_cases hjN : j < x.toNatClampNeg
        · rw [if_pos hjN, if_pos hjN, show b + k + 1 + j = b + (k + 1 + j) by omega]
        · rw [if_neg hjN, if_neg hjN]
      · rw [if_neg hk2]
        show F.heap[b + k]? = some (vp_cell comp _)
        rw [vp_cell_i, show b + k = H.size + 1 + (k - m - 1) by rw [hI.1]; omega]
        exact hrow _ (by omega)
  obtain ⟨t, a1, b1⟩ := kk F.heap locs ls hnew (gS_push hS (by rw [f1]; omega) hold) hl F rfl X'
  refine ⟨t, step t ?_, b1⟩
  have e : T.heap.size = b + m := by rw [hT, hI.1]
  rw [e]
  exact a1
end CROWS2
