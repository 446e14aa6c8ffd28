/-! CONSTRUCTORS. Cells stand at b, b + 1, .. in the order of their making; g says what each is. -/
def cW (b n : Nat) (g : Nat → va_E) : va_W := (List.range n).map (fun i => (b + i, g i))
theorem cW_get (b : Nat) (g : Nat → va_E) {n i : Nat} (h : i < n) : (cW b n g)[i]? = some (b + i, g i) := by
  unfold cW
  rw [List.getElem?_map, List.getElem?_range h]
  rfl
theorem cW_in {b n : Nat} {g : Nat → va_E} {k : Nat} {q : Nat × va_E} (h : (cW b n g)[k]? = some q) : k < n ∧ q = (b + k, g k) := by
  have hk : k < n := by
    have h1 := (List.getElem?_eq_some_iff.mp h).1
    simpa [cW] using h1
  rw [cW_get b g hk] at h
  exact ⟨hk, (Option.some.inj h).symm⟩
def cI (D : va_G) (b n : Nat) (g : Nat → va_E) (H : Heap) : Prop := H.size = b + n ∧ va_P D cls (cW b n g) H
theorem cI_at {D : va_G} {b n : Nat} {g : Nat → va_E} {H : Heap} (h : cI D b n g H) {i : Nat} (hi : i < n) : va_at D cls (b + i, g i) H := h.2 i _ (cW_get b g hi)
theorem cI_push {D : va_G} {b n : Nat} {g : Nat → va_E} {H H1 : Heap} (h : cI D b n g H) (z : H1.size = H.size + 1) (o : ∀ q : Nat, q < H.size → H1[q]? = H[q]?) {e : va_E} (he : va_at D cls (b + n, e) H1) : cI D b (n + 1) (va_up g n e) H1 := by
  refine ⟨by rw [z, h.1]; omega, fun k q hk => ?_⟩
  obtain ⟨h1, rfl⟩ := cW_in hk
  by_cases hkn : k = n
  · subst hkn
    rw [va_up_self]
    exact he
  · rw [va_up_ne g e hkn]
    exact (cI_at h (show k < n by omega)).kept (o _ (by rw [h.1]; show b + k < b + n; omega))
theorem cI_set {D : va_G} {b n : Nat} {g : Nat → va_E} {H H1 : Heap} (h : cI D b n g H) {i : Nat} (z : H1.size = H.size) (o : ∀ q : Nat, q ≠ b + i → H1[q]? = H[q]?) {e : va_E} (he : va_at D cls (b + i, e) H1) : cI D b n (va_up g i e) H1 := by
  refine ⟨by rw [z]; exact h.1, fun k q hk => ?_⟩
  obtain ⟨h1, rfl⟩ := cW_in hk
  by_cases hkn : k = i
  · subst hkn
    rw [va_up_self]
    exact he
  · rw [va_up_ne g e hkn]
    exact (cI_at h h1).kept (o _ (by show b + k ≠ b + i; omega))
def Y0 (D : va_G) (tys : List (ClassId × FieldType)) : Yt := (D, cls, tys, fun _ => 0, 0, fun _ _ _ => .inr (0, []))
theorem Y0_O (D : va_G) (tys : List (ClassId × FieldType)) : yO (Y0 D tys) := fun i j h => absurd h (Nat.not_lt_zero i)
def cA_ (b : Nat) : Nat → Prop := fun q => b ≤ q
/-- the words on the private constructor and on arrays of references, which don't go from method to method by themselves -/
def AOA (U : State) : Prop := (Cond.arrayOver (.array .int)).before #[] U = true
theorem AOA.moved {u U : State} (hvm : u.vm.Alike U.vm) (h : AOA u) : AOA U := by
  obtain ⟨comp, c, k, h1, h2, h3, h4, h5⟩ := arrayOverA_spec h
  obtain ⟨k', hk', he⟩ := hvm.2.2 _ _ h3
  have hi : (U.vm.classes.findIdx? fun (x : Class) => match x.kind with | .array component _ => component == comp | _ => false) = some c := by
    rw [hvm.findIdx?_eq _ (fun _ => rfl)]
    exact h2
  have hkind : k'.kind = .array comp (.array .int) := by rw [he]; exact h4
  have f1 : U.vm.findClass (FieldType.array .int).toString = some comp := by rw [hvm.findClass]; exact h1
  have f2 : U.vm.findClass ("[" ++ (FieldType.array .int).toString) = some c := by rw [hvm.findClass]; exact h5
  unfold AOA Cond.before Cond.holds
  simp only [Cond.value]
  rw [f1, Option.bind_some]
  refine (congrArg (fun o : Option Nat => (o.bind (fun c => (U.vm.classes[c]?).map fun (k : Class) => match k.kind with | .array _ ty => decide (ty = FieldType.array .int) && decide (U.vm.findClass ("[" ++ (FieldType.array .int).toString) = some c) | _ => false) == some true)) hi).trans ?_
  simp [hk', hkind, f2]
def NW (U : State) : Prop := va_Nw (.methodLinkNest RTr 26 yBo_init "BoxedPages") U ∧ va_Nw (.methodLinkNest RPa 17 yBo_init "BoxedPages") U ∧ va_Nw (.methodLinkNest RSe 17 yBo_init "BoxedPages") U ∧ va_Nw (.methodLinkNest RFa 32 yBo_init "BoxedPages") U ∧ va_AO "BoxedPages$Box" U ∧ va_AO "BoxedPages$Page" U ∧ AOA U
theorem NW.warm {s U : State} (hW : s.WarmedH U.vm) (h : NW s) : NW U := ⟨va_Nw.warmM hW h.1, va_Nw.warmM hW h.2.1, va_Nw.warmM hW h.2.2.1, va_Nw.warmM hW h.2.2.2.1, h.2.2.2.2.1.moved hW.alike, h.2.2.2.2.2.1.moved hW.alike, h.2.2.2.2.2.2.moved hW.alike⟩
theorem NW.same {u U : State} (e : u.vm = U.vm) (h : NW u) : NW U := ⟨va_Nw.same rfl e h.1, va_Nw.same rfl e h.2.1, va_Nw.same rfl e h.2.2.1, va_Nw.same rfl e h.2.2.2.1, h.2.2.2.2.1.moved (by rw [e]; exact Vm.Alike.refl _), h.2.2.2.2.2.1.moved (by rw [e]; exact Vm.Alike.refl _), h.2.2.2.2.2.2.moved (by rw [e]; exact Vm.Alike.refl _)⟩
def cP (D : va_G) (tys : List (ClassId × FieldType)) (av : List Value) (b m : Nat) (g : Nat → va_E) : Array Value → State → Prop := va_Pc av (fun U => cI D b m g U.heap ∧ va_K D cls tys U ∧ NW U)
def cQ (D : va_G) (b m : Nat) (P : (Nat → va_E) → Prop) : Array Value → State → Outcome → State → Prop := fun _ st oc t => (oc = .returned none ∧ ∃ g', P g' ∧ cI D b m g' t.heap) ∧ va_F (cA_ b) st t
/-- a constructor's contract: k cells come, mc = k, of ms slots; P says what the cells are then -/
def Cn (l : Launch) (D : va_G) (tys : List (ClassId × FieldType)) (y : MethodName) (ws : List Cond) (rm : Room) (av : List Value) (b m : Nat) (g : Nat → va_E) (k ms : Nat) (P : (Nat → va_E) → Prop) : Prop := Met l y ws rm (cP D tys av b m g) (cQ D b (m + k) P) k ms (cA_ b)
abbrev cV (X : Xt) (D : va_G) (b m : Nat) (P : (Nat → va_E) → Prop) (k ms : Nat) : State → Prop := MQ (xB X) (cQ D b m P) (xA X) (xS X) k ms (cA_ b)
theorem cn_of {l : Launch} {D : va_G} {tys : List (ClassId × FieldType)} {y : MethodName} {ws ws' : List Cond} {rm : Room} {av : List Value} {b m : Nat} {g : Nat → va_E} {k ms : Nat} {P : (Nat → va_E) → Prop} {cc : ByteArray} {n : Nat} (hy : plainName y.cls = true) (hi : y.name = "<init>") (hw : ws = Cond.code y cc n none :: ws') (hn : (lg_sl av).length ≤ n) {lv : List (Option Value)} (hlv : (List.range n).map (lo (lv_args 0 av)) = lv)
    (body : ∀ X : Xt, VC X (Y0 D tys) l rm cc n none ws y.cls → NW (xS X) → (xMe X).name = "<init>" → VG X (cA_ b) n 0 0 (cV X D b (m + k) P k ms) (cI D b m g) 0 lv []) : Cn l D tys y ws rm av b m g k ms P := by
  refine Met.ofW (cc := cc) (maxL := n) (ret := none) hy hw ?_
  intro p e s mm args below meth c s₁ B hml hv
  obtain ⟨rfl, hI, hK, hN⟩ := hv
  have hts := atoms_spec (ws := ws) B.pre
  have hown : s.vm.findClass y.cls = some mm.cls := findClass_of_methodNamed B.named
  have hname : meth.name = "<init>" := ((name_of_methodNamed B.named B.method).1).trans hi
  have hl := lv_entry av (n := n) hn
  rw [lg_entry_eq]
  subst hlv
  exact body (p, l, e, (headSpec ws rm).room, s, mm, av.toArray, below, meth, c) ⟨B.exec, B.bytes, hml, hown, hts, B.returns, B.notSynchronized, hK, Y0_O D tys, rfl, rfl⟩ hN hname s.heap [] _ hI va_S.rf (lh_entry hl)
section CROWS
variable {X : Xt} {D : va_G} {tys : List (ClassId × FieldType)} {n cells slots : Nat} {Q : State → Prop} {b m : Nat} {g : Nat → va_E} {pc : Nat} {lv : List (Option Value)} {st : List Value} {l : Launch} {rm : Room} {cc : ByteArray} {ret : Option FieldType} {own : String} {z : Cond}
theorem g_widen {A : Nat → Prop} {I : Heap → Prop} {k1 k2 : Nat} (h1 : cells ≤ k1) (h2 : slots ≤ k2) (k : VG X A n k1 k2 Q I pc lv st) : VG X A n cells slots Q I pc lv st := fun H locs ls hI hS hl => W.widen h1 h2 (k H locs ls hI hS hl)
theorem g_g {g2 : Nat → va_E} {A : Nat → Prop} (h : g = g2) (k : VG X A n cells slots Q (cI D b m g2) pc lv st) : VG X A n cells slots Q (cI D b m g) pc lv st := h ▸ k
theorem g_init (C : VC X (Y0 D tys) l rm cc n ret (z :: tbl) own) {A : Nat → Prop} {I : Heap → Prop} {idx a : Nat} (hw : Cond.methodLink own idx Lib.objectInit ∈ tbl) (d : decode cc pc = .ok (.invokespecial idx, 3)) (hf : 1 ≤ rm.frames) (hlo : (st.map fun v => v.category).sum + 12 ≤ rm.locals) (kk : VG X A n cells slots Q I (pc + 3) lv st) : VG X A n cells slots Q I pc lv (.ref a :: st) := by
  have hrm : xR X = rm := C.2.2.2.2.2.2.2.2.2.2
  have ht := C.2.2.2.2.1
  subst hrm
  intro H locs ls hI hS hl
  exact W.objInit C.1 C.2.1 C.2.2.2.1 (ht _ (List.mem_cons_of_mem _ hw)) (ht _ (List.mem_cons_of_mem _ ob_i)) (ht _ (List.mem_cons_of_mem _ ob_c)) rfl (by rw [C.2.2.1]; exact hl.1) rfl d hf (by show 2 * 0 + _ + 12 ≤ _; omega) (kk H locs ls hI hS hl)
theorem g_get (C : VC X (Y0 D tys) l rm cc n ret (z :: tbl) own) {ci N : Nat} {Cn0 : String} {T : u_T} {ty : Nat → FieldType} (K : Kl (Y0 D tys) (z :: tbl) ci Cn0 T N ty) {i : Nat} {fs : List Value} (hi : i < m) (hg : g i = .inr (ci, fs)) (k : Nat) {idx : Nat} (d : decode cc pc = .ok (.getfield idx, 3)) (hw : Cond.fieldLink own idx (T k).1 (T k).2.1 (T k).2.2.1 ∈ tbl) (hk : k < N) {v : Value} (hv : fs[k]? = some v) (kk : VG X (cA_ b) n cells slots Q (cI D b m g) (pc + 3) lv (v :: st)) : VG X (cA_ b) n cells slots Q (cI D b m g) pc lv (.ref (b + i) :: st) := by
  intro H locs ls hI hS hl
  exact va_get (D := D) (ci := ci) C.1 C.2.1 C.2.2.2.2.1 K.2.1 C.2.2.2.1 C.2.2.2.2.2.2.2.1 hI.2 i (by rw [cW_get b g hi, hg]) K.1 k hk (C.2.2.2.2.1 _ (List.mem_cons_of_mem _ hw)) (fun _ h => h) hv d (kk H locs ls hI hS hl)
theorem g_put (C : VC X (Y0 D tys) l rm cc n ret (z :: tbl) own) {ci N : Nat} {Cn0 : String} {T : u_T} {ty : Nat → FieldType} (K : Kl (Y0 D tys) (z :: tbl) ci Cn0 T N ty) {i : Nat} {fs : List Value} (hi : i < m) (hg : g i = .inr (ci, fs)) (k : Nat) {idx : Nat} (d : decode cc pc = .ok (.putfield idx, 3)) (hw : Cond.fieldLink own idx (T k).1 (T k).2.1 (T k).2.2.1 ∈ tbl) (hk : k < N) (hfin : (T k).2.2.2 = false) {v : Value} (hn : narrow (ty k) v = v) (hfit : fits (ty k) v = true) (hlen : k < fs.length) (kk : VG X (cA_ b) n cells slots Q (cI D b m (va_up g i (.inr (ci, fs.set k v)))) (pc + 3) lv st) : VG X (cA_ b) n cells slots Q (cI D b m g) pc lv (v :: .ref (b + i) :: st) := by
  intro H locs ls hI hS hl
  have hts := C.2.2.2.2.1
  have hKK : va_K D cls tys (xS X) := C.2.2.2.2.2.2.2.1
  have hc : cls[ci]? = some (Cn0, T, N) := K.1
  have hap := va_apart (own := own) hts K.2.1 ty K.2.2.1 K.2.2.2 hKK hc
  have hat := cI_at hI hi
  rw [hg] at hat
  obtain ⟨r, h1, cell, q1, q2, q3, q4⟩ := hat
  have hr : r = (Cn0, T, N) := Option.some.inj (h1.symm.trans hc)
  subst hr
  obtain ⟨hSl, hfc, kC, hkC, hkind⟩ := hKK.1 ci _ hc
  obtain ⟨cf, kf, fi, f, hif, hsl⟩ := hSl k hk
  have hlay := hts _ (K.2.1 _ (u_in_lay hk))
  unfold u_lay at hlay
  rw [if_neg (by rw [hfin]; decide)] at hlay
  have hst := (u_facts hfc hkC (u_lays hts K.2.1 hk) hif).1
  have h6 := u_store hfc hkC hkind hlay hif (K.2.2.1 k hk) hn hfit
  refine W.putK C.1 C.2.1 (f := f) ⟨C.2.2.2.1, hts _ (List.mem_cons_of_mem _ hw), ⟨_, _, _, hif⟩, hst⟩ (by rw [q2]; exact h6) q1 q3 (by rw [hsl]; exact k2_hasslot (q4 k hk)) rfl rfl d fun H' e1 e2 e3 => ?_
  rw [hsl] at e1 ⊢
  exact kk H' _ ls (cI_set hI e2 e3 ⟨_, hc, t_OB.to (V := updV (vp_V fs) k v) ⟨_, e1, q2, q3, t_set q4 hap hk v⟩ (fun j _ => vp_updV_set hlen v j)⟩) (hS.put e2 e3 (show b ≤ b + i by omega)) hl
theorem g_putF (C : VC X (Y0 D tys) l rm cc n ret (z :: tbl) own) (hin2 : (xMe X).name = "<init>") {ci N : Nat} {Cn0 : String} {T : u_T} {ty : Nat → FieldType} (K : Kl (Y0 D tys) (z :: tbl) ci Cn0 T N ty) {i : Nat} {fs : List Value} (hi : i < m) (hg : g i = .inr (ci, fs)) (k : Nat) {idx : Nat} (d : decode cc pc = .ok (.putfield idx, 3)) (hw : Cond.fieldLink own idx (T k).1 (T k).2.1 (T k).2.2.1 ∈ tbl) (hk : k < N) (hfin : (T k).2.2.2 = true) (hdecl : (T k).1 = own) {v : Value} (hn : narrow (ty k) v = v) (hfit : fits (ty k) v = true) (hlen : k < fs.length) (kk : VG X (cA_ b) n cells slots Q (cI D b m (va_up g i (.inr (ci, fs.set k v)))) (pc + 3) lv st) : VG X (cA_ b) n cells slots Q (cI D b m g) pc lv (v :: .ref (b + i) :: st) := by
  intro H locs ls hI hS hl
  have hts := C.2.2.2.2.1
  have hown := C.2.2.2.1
  have hKK : va_K D cls tys (xS X) := C.2.2.2.2.2.2.2.1
  have hc : cls[ci]? = some (Cn0, T, N) := K.1
  have hap := va_apart (own := own) hts K.2.1 ty K.2.2.1 K.2.2.2 hKK hc
  have hat := cI_at hI hi
  rw [hg] at hat
  obtain ⟨r, h1, cell, q1, q2, q3, q4⟩ := hat
  have hr : r = (Cn0, T, N) := Option.some.inj (h1.symm.trans hc)
  subst hr
  obtain ⟨hSl, hfc, kC, hkC, hkind⟩ := hKK.1 ci _ hc
  obtain ⟨cf, kf, fi, f, hif, hsl⟩ := hSl k hk
  have hlay := hts _ (K.2.1 _ (u_in_lay hk))
  unfold u_lay at hlay
  rw [if_pos hfin] at hlay
  have hst := (u_facts hfc hkC (u_lays hts K.2.1 hk) hif).1
  have hcf : (xM X).cls = cf := by
    obtain ⟨_, _, c', _, _, _, -, -, hf', -, -, -, hown2, -⟩ := Cond.laysFinal_spec hlay
    have e1 : c' = cf := by have := hif.symm.trans hf'; simp at this; exact this.1.symm
    rw [hdecl] at hown2
    rw [← e1]; exact Option.some.inj (hown.symm.trans hown2)
  have h6 := u_fits hfc hkC hkind (Or.inr hlay) hif (K.2.2.1 k hk) hn hfit
  refine W.putFinK C.1 C.2.1 hown (hts _ (List.mem_cons_of_mem _ hw)) hif hst hcf hin2 (by rw [q2]; exact h6) q1 q3 (by rw [hsl]; exact k2_hasslot (q4 k hk)) rfl rfl d fun H' e1 e2 e3 => ?_
  rw [hsl] at e1 ⊢
  exact kk H' _ ls (cI_set hI e2 e3 ⟨_, hc, t_OB.to (V := updV (vp_V fs) k v) ⟨_, e1, q2, q3, t_set q4 hap hk v⟩ (fun j _ => vp_updV_set hlen v j)⟩) (hS.put e2 e3 (show b ≤ b + i by omega)) hl
theorem gS_push {A : Nat → Prop} {H0 H H1 : Heap} {locs : List Loc} (hS : va_S A H0 H locs) (z : H.size ≤ H1.size) (o : ∀ q : Nat, q < H.size → H1[q]? = H[q]?) : va_S A H0 H1 locs := ⟨Nat.le_trans hS.1 z, fun x h1 h2 => (o x (Nat.lt_of_lt_of_le h1 hS.1)).trans (hS.2.1 x h1 h2), hS.2.2⟩
theorem g_new (C : VC X (Y0 D tys) l rm cc n ret (z :: tbl) own) {ci N : Nat} {Cn0 : String} {T : u_T} {ty : Nat → FieldType} (K : Kl (Y0 D tys) (z :: tbl) ci Cn0 T N ty) {idx : Nat} (d : decode cc pc = .ok (.new idx, 3)) (hw : Cond.classLink own idx Cn0 ∈ tbl) (hw2 : Cond.instantiable Cn0 N ∈ tbl) (hw3 : Cond.initialized Cn0 ∈ tbl) {fs : List Value} (hfs : ∀ j, j < N → defaultValue (ty j) = vp_V fs j) (hc1 : cells + 1 ≤ rm.cells) (hs1 : slots + N ≤ rm.slots) (kk : VG X (cA_ b) n (cells + 1) (slots + N) Q (cI D b (m + 1) (va_up g m (.inr (ci, fs)))) (pc + 3) lv (.ref (b + m) :: st)) : VG X (cA_ b) n cells slots Q (cI D b m g) pc lv st := by
  have hrm : xR X = rm := C.2.2.2.2.2.2.2.2.2.2
  subst hrm
  intro H locs ls hI hS hl
  have hts := C.2.2.2.2.1
  have hKK : va_K D cls tys (xS X) := C.2.2.2.2.2.2.2.1
  have hc : cls[ci]? = some (Cn0, T, N) := K.1
  have hKn := hKK.1 ci _ hc
  refine W.newcK C.1 C.2.1 C.2.2.2.1 (hts _ (List.mem_cons_of_mem _ hw)) (hts _ (List.mem_cons_of_mem _ hw2)) (hts _ (List.mem_cons_of_mem _ hw3)) rfl d hc1 hs1 hKn.2.1 hI.1 fun H1 kC hkC e1 z1 o1 => ?_
  have o1' : ∀ q : Nat, q < H.size → H1[q]? = H[q]? := fun q hq => o1 q (by rw [← hI.1]; exact hq)
  exact kk H1 locs ls (cI_push hI (by rw [z1, hI.1]) o1' ⟨_, hc, (u_born ty hts K.2.1 hKn hkC e1 K.2.2.1).to hfs⟩) (gS_push hS (by rw [z1, hI.1]; omega) o1') hl
theorem g_ret (C : VC X (Y0 D tys) l rm cc n ret (z :: tbl) own) {P : (Nat → va_E) → Prop} {k ms : Nat} (hr : ret = none) (d : decode cc pc = .ok (.return_, 1)) (hP : P g) : VG X (cA_ b) n k ms (cV X D b m P k ms) (cI D b m g) pc lv [] := by
  subst hr
  intro H locs ls hI hS hl
  exact W.vret C.1 C.2.1 C.2.2.2.2.2.1 (fun t ht hW => ⟨⟨rfl, g, hP, by rw [ht]; exact hI⟩, hS.F ht⟩) hS.2.2 d (hlocks := C.2.2.2.2.2.2.1)
theorem cP_blind {av : List Value} : FrameBlind (cP D tys av b m g) := fun a U gg mk q => by
  obtain ⟨q0, q1, q2, q3⟩ := q
  exact ⟨q0, q1, va_K.moved (u := U) (U := U.calling gg mk a) (Vm.Alike.refl U.vm) q2, NW.same (u := U) (U := U.calling gg mk a) rfl q3⟩
theorem g_run {P : (Nat → va_E) → Prop} {stR : List Value} {k ms m' : Nat} (hr : ∀ (H : Heap) (locs : List Loc) (ls : Array Slot), cI D b m g H → lh ls n lv → ∃ a, va_Run (xP X) (xL X) (xE X) (xR X) (xS X) (xM X) (xA X) (xB X) (xMe X) (xC X) H locs cells slots k ms (F0 (xM X) pc ls st) stR (cQ D b m' P a) (cA_ b)) (kk : ∀ g', P g' → VG X (cA_ b) n (cells + k) (slots + ms) Q (cI D b m' g') (pc + 3) lv stR) : VG X (cA_ b) n cells slots Q (cI D b m g) pc lv st := by
  intro H locs ls hI hS hl
  obtain ⟨a, hrun⟩ := hr H locs ls hI hl
  intro T hT XX
  obtain ⟨v, st₀, t, T', L, h0, X', hL, e1, e2, ⟨⟨hv, g', hpost, hb⟩, hz, hk⟩, stp⟩ := hrun T hT XX
  cases hv
  rw [h0] at hz hk
  obtain ⟨t2, a1, b1⟩ := kk g' hpost T'.heap (locs ++ L) ls (by rw [e1]; exact hb)
    ⟨Nat.le_trans hS.1 (by rw [e1]; exact hz), fun q h1 h2 => by rw [e1, hk q (Nat.lt_of_lt_of_le h1 hS.1) h2]; exact hS.2.1 q h1 h2, fun q hq => by
      rcases List.mem_append.mp hq with h | h
      · exact hS.2.2 q h
      · exact hL q h⟩ hl T' rfl X'
  exact ⟨t2, stp t2 a1, b1⟩
variable {idx mL : Nat} {y : MethodName} {bb : ByteArray} {rmy : Room} {stR : List Value} {P : (Nat → va_E) → Prop} {k ms i : Nat}
theorem g_callI (C : VC X (Y0 D tys) l rm cc n ret (z :: tbl) own) (hN : NW (xS X)) (hL : Lk tbl own idx y bb mL none 0) (h1 : Cond.instanceMethod y ∈ tbl) (hy : y.name = "<init>") (d : decode cc pc = .ok (.invokespecial idx, 3)) (hc : Cn l D tys y (Cond.code y bb mL none :: tbl) rmy [.ref (b + i)] b m g k ms P) (h3 : rmy.cells = k) (h4 : rmy.slots = ms) (hR : rmy.frames + 1 ≤ rm.frames ∧ 8 + (mL + 11) + rmy.locals ≤ rm.locals) (hst : st = .ref (b + i) :: stR) (hW : (stR.map fun v => v.category).sum ≤ 8) (hcs : cells + k ≤ rm.cells ∧ slots + ms ≤ rm.slots)
    (kk : ∀ g', P g' → VG X (cA_ b) n (cells + k) (slots + ms) Q (cI D b (m + k) g') (pc + 3) lv stR) : VG X (cA_ b) n cells slots Q (cI D b m g) pc lv st := by
  have hl0 : xL X = l := C.2.2.2.2.2.2.2.2.2.1
  have hrm : xR X = rm := C.2.2.2.2.2.2.2.2.2.2
  have ht := C.2.2.2.2.1
  obtain ⟨l1, l2, l3, l4⟩ := hL
  refine g_run (fun H locs ls hI hlv => ⟨_, va_runI (As := []) (rest := stR) ⟨C.1, C.2.1, C.2.2.1, C.2.2.2.1, ht⟩ (by rw [hl0]; exact hc) ⟨callB_of 0 ht (goodTB tbok l3) rfl h3 h4 (ht _ (List.mem_cons_of_mem _ l2)) (ht _ (List.mem_cons_of_mem _ l1)) l4 (by rw [hrm]; exact hR), hy, ht _ (List.mem_cons_of_mem _ h1)⟩ ⟨cP_blind, fun U hU hW => ⟨rfl, by rw [hU]; exact hI, va_K.moved hW.alike C.2.2.2.2.2.2.2.1, hN.warm hW⟩⟩ rfl rfl hlv.1 hst (lv_room hW) d (by rw [hrm]; exact hcs)⟩) kk
theorem g_callIN (C : VC X (Y0 D tys) l rm cc n ret (z :: tbl) own) (hN : NW (xS X)) (hw : va_Nw (.methodLinkNest own idx y "BoxedPages") (xS X)) (l2 : Cond.initialized y.cls ∈ tbl) (l3 : Cond.code y bb mL none ∈ tbl) (l4 : y.cls ≠ "java/lang/invoke/MethodHandle" ∧ y.cls ≠ "java/lang/invoke/VarHandle" ∧ (parseMethodDescriptor y.desc).map (fun d => d.parameters.length) = some 0) (h1 : Cond.instanceMethod y ∈ tbl) (hy : y.name = "<init>") (d : decode cc pc = .ok (.invokespecial idx, 3)) (hc : Cn l D tys y (Cond.code y bb mL none :: tbl) rmy [.ref (b + i)] b m g k ms P) (h3 : rmy.cells = k) (h4 : rmy.slots = ms) (hR : rmy.frames + 1 ≤ rm.frames ∧ 8 + (mL + 11) + rmy.locals ≤ rm.locals) (hst : st = .ref (b + i) :: stR) (hW : (stR.map fun v => v.category).sum ≤ 8) (hcs : cells + k ≤ rm.cells ∧ slots + ms ≤ rm.slots)
    (kk : ∀ g', P g' → VG X (cA_ b) n (cells + k) (slots + ms) Q (cI D b (m + k) g') (pc + 3) lv stR) : VG X (cA_ b) n cells slots Q (cI D b m g) pc lv st := by
  have hl0 : xL X = l := C.2.2.2.2.2.2.2.2.2.1
  have hrm : xR X = rm := C.2.2.2.2.2.2.2.2.2.2
  have ht := C.2.2.2.2.1
  refine g_run (fun H locs ls hI hlv => ⟨_, va_runIN (host := "BoxedPages") (As := []) (rest := stR) ⟨C.1, C.2.1, C.2.2.1, C.2.2.2.1, ht⟩ (by rw [hl0]; exact hc) ⟨va_cnB 0 ht (goodTB tbok l3) rfl h3 h4 hw (ht _ (List.mem_cons_of_mem _ l2)) l4 (by rw [hrm]; exact hR), hy, ht _ (List.mem_cons_of_mem _ h1)⟩ ⟨cP_blind, fun U hU hW => ⟨rfl, by rw [hU]; exact hI, va_K.moved hW.alike C.2.2.2.2.2.2.2.1, hN.warm hW⟩⟩ rfl rfl hlv.1 hst (lv_room hW) d (by rw [hrm]; exact hcs)⟩) kk
end CROWS
