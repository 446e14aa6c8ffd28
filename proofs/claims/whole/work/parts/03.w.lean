/-! WORLDS OF NUMBERED CELLS. Y: the tables' numbers, the classes, the array classes, the addresses by number, how many, and the form of each cell over its ints and its longs. -/
abbrev Mu : Type := (Nat → Nat → Int32) × (Nat → Nat → Int64)
abbrev Yt : Type := va_G × List vw_C × List (ClassId × FieldType) × (Nat → Nat) × Nat × (Nat → (Nat → Int32) → (Nat → Int64) → va_E)
abbrev yD (Y : Yt) : va_G := Y.1
abbrev yC (Y : Yt) : List vw_C := Y.2.1
abbrev yT (Y : Yt) : List (ClassId × FieldType) := Y.2.2.1
abbrev ad (Y : Yt) : Nat → Nat := Y.2.2.2.1
abbrev yN (Y : Yt) : Nat := Y.2.2.2.2.1
abbrev sh (Y : Yt) : Nat → (Nat → Int32) → (Nat → Int64) → va_E := Y.2.2.2.2.2
def yW (Y : Yt) (μ : Mu) : va_W := (List.range (yN Y)).map (fun i => (ad Y i, sh Y i (μ.1 i) (μ.2 i)))
def yA (Y : Yt) : Nat → Prop := fun q => ∃ i, i < yN Y ∧ q = ad Y i
def yI (Y : Yt) (μ : Mu) (H : Heap) : Prop := va_P (yD Y) (yC Y) (yW Y μ) H
/-- the addresses are apart -/
def yO (Y : Yt) : Prop := ∀ i j, i < yN Y → j < yN Y → ad Y i = ad Y j → i = j
theorem yW_get {Y : Yt} {i : Nat} (μ : Mu) (h : i < yN Y) : (yW Y μ)[i]? = some (ad Y i, sh Y i (μ.1 i) (μ.2 i)) := by
  unfold yW
  rw [List.getElem?_map, List.getElem?_range h]
  rfl
theorem yW_in {Y : Yt} {μ : Mu} {k : Nat} {q : Nat × va_E} (h : (yW Y μ)[k]? = some q) : k < yN Y ∧ q = (ad Y k, sh Y k (μ.1 k) (μ.2 k)) := by
  have hk : k < yN Y := by
    have h1 := (List.getElem?_eq_some_iff.mp h).1
    simpa [yW] using h1
  rw [yW_get μ hk] at h
  exact ⟨hk, (Option.some.inj h).symm⟩
theorem yW_D {Y : Yt} (hO : yO Y) (μ : Mu) : va_D (yA Y) (yW Y μ) := by
  refine ⟨fun i j p q hi hj hpq => ?_, fun k q hk => ?_⟩
  · obtain ⟨h1, rfl⟩ := yW_in hi
    obtain ⟨h2, rfl⟩ := yW_in hj
    exact hO i j h1 h2 hpq
  · obtain ⟨h1, rfl⟩ := yW_in hk
    exact ⟨k, h1, rfl⟩
theorem yW_set {Y : Yt} {μ μ' : Mu} {i : Nat} {e : va_E} (hi : i < yN Y) (h1 : sh Y i (μ'.1 i) (μ'.2 i) = e) (h2 : ∀ j, j ≠ i → μ'.1 j = μ.1 j ∧ μ'.2 j = μ.2 j) : (yW Y μ).set i (ad Y i, e) = yW Y μ' := by
  refine List.ext_getElem? fun k => ?_
  have hlen : (yW Y μ).length = yN Y := by simp [yW]
  by_cases hk : k < yN Y
  · rw [yW_get μ' hk]
    by_cases hki : k = i
    · subst hki
      rw [List.getElem?_set_self (by rw [hlen]; exact hk), h1]
    · rw [List.getElem?_set_ne (Ne.symm hki), yW_get μ hk, (h2 k hki).1, (h2 k hki).2]
  · rw [List.getElem?_eq_none (by rw [List.length_set, hlen]; omega), List.getElem?_eq_none (by simp [yW]; omega)]
/-- writes: an int, a long, at a place of a cell -/
def wi (μ : Mu) (i k : Nat) (x : Int32) : Mu := (fun a => if a = i then upd (μ.1 i) k x else μ.1 a, μ.2)
def wl (μ : Mu) (i k : Nat) (x : Int64) : Mu := (μ.1, fun a => if a = i then vp_updL (μ.2 i) k x else μ.2 a)
def wr (μ : Mu) (i : Nat) (f : Nat → Int32) : Mu := (fun a => if a = i then f else μ.1 a, μ.2)
theorem wi_self (μ : Mu) (i k : Nat) (x : Int32) : (wi μ i k x).1 i = upd (μ.1 i) k x := by simp [wi]
theorem wi_ne (μ : Mu) {i j : Nat} (k : Nat) (x : Int32) (h : j ≠ i) : (wi μ i k x).1 j = μ.1 j := by simp [wi, h]
theorem wl_self (μ : Mu) (i k : Nat) (x : Int64) : (wl μ i k x).2 i = vp_updL (μ.2 i) k x := by simp [wl]
theorem wl_ne (μ : Mu) {i j : Nat} (k : Nat) (x : Int64) (h : j ≠ i) : (wl μ i k x).2 j = μ.2 j := by simp [wl, h]
theorem wr_self (μ : Mu) (i : Nat) (f : Nat → Int32) : (wr μ i f).1 i = f := by simp [wr]
theorem wr_ne (μ : Mu) {i j : Nat} (f : Nat → Int32) (h : j ≠ i) : (wr μ i f).1 j = μ.1 j := by simp [wr, h]
/-- cell i is an object of class ci with these fields; an array -/
def Ob (Y : Yt) (i ci : Nat) (F : (Nat → Int32) → (Nat → Int64) → List Value) : Prop := i < yN Y ∧ ∀ m lm, sh Y i m lm = .inr (ci, F m lm)
def AI (Y : Yt) (i z : Nat) : Prop := i < yN Y ∧ ∃ (cA : ClassId) (t0 : Nat), (yT Y)[t0]? = some (cA, .int) ∧ ∀ m lm, sh Y i m lm = .inl (cA, z, .inl m)
def AL (Y : Yt) (i z : Nat) : Prop := i < yN Y ∧ ∃ (cA : ClassId) (t0 : Nat), (yT Y)[t0]? = some (cA, .long) ∧ ∀ m lm, sh Y i m lm = .inl (cA, z, .inr (.inl lm))
/-- an array of references: the cells that it names (never null) -/
def AR (Y : Yt) (i z : Nat) (f : Nat → Nat) : Prop := i < yN Y ∧ ∃ (cA : ClassId) (t0 : Nat) (ty : FieldType), (yT Y)[t0]? = some (cA, ty) ∧ refKind ty = true ∧ ∀ m lm, sh Y i m lm = .inl (cA, z, .inr (.inr (.inr (.inr (fun j => some (ad Y (f j)))))))
/-- what a method has at hand: the machine, its code, its tables, the world's tables -/
def VC (X : Xt) (Y : Yt) (l : Launch) (rm : Room) (cc : ByteArray) (n : Nat) (ret : Option FieldType) (ws : List Cond) (own : String) : Prop :=
  (xP X).tables.exec = Jvm.exec ∧ (xC X).code = cc ∧ (xC X).maxLocals = n ∧ (xS X).vm.findClass own = some (xM X).cls ∧ (∀ w ∈ ws, w.before (xA X) (xS X) = true) ∧ (xMe X).sig.returnType = ret ∧ (xMe X).locks = false ∧ va_K (yD Y) (yC Y) (yT Y) (xS X) ∧ yO Y ∧ xL X = l ∧ xR X = rm
theorem VC.B {X : Xt} {Y : Yt} {l : Launch} {rm : Room} {cc : ByteArray} {n : Nat} {ret : Option FieldType} {ws : List Cond} {own : String} (C : VC X Y l rm cc n ret ws own) : VB X cc := ⟨C.1, C.2.1⟩
/-- a contract: with these arguments and this memory the method answers r and leaves the memory μ', as Post says -/
def yP (Y : Yt) (av : List Value) (μ : Mu) : Array Value → State → Prop := va_Pc av (fun U => yI Y μ U.heap ∧ va_K (yD Y) (yC Y) (yT Y) U)
def yQ (Y : Yt) (Post : Option Value → Mu → Prop) : Array Value → State → Outcome → State → Prop := fun _ st oc t => (∃ (r : Option Value) (μ' : Mu), oc = .returned r ∧ Post r μ' ∧ yI Y μ' t.heap) ∧ va_F (yA Y) st t
def Ct (l : Launch) (Y : Yt) (y : MethodName) (ws : List Cond) (rm : Room) (av : List Value) (μ : Mu) (Post : Option Value → Mu → Prop) : Prop := Met l y ws rm (yP Y av μ) (yQ Y Post) 0 0 (yA Y)
/-- the kinds of ends: just this answer and this memory; nothing, an int, a long, a cell, and of it and the memory something -/
def PE (r0 : Option Value) (μ0 : Mu) : Option Value → Mu → Prop := fun r μ => r = r0 ∧ μ = μ0
def PV (P : Mu → Prop) : Option Value → Mu → Prop := fun r μ => r = none ∧ P μ
def PI (P : Int32 → Mu → Prop) : Option Value → Mu → Prop := fun r μ => ∃ x : Int32, r = some (.int x) ∧ P x μ
def PL (P : Int64 → Mu → Prop) : Option Value → Mu → Prop := fun r μ => ∃ x : Int64, r = some (.long x) ∧ P x μ
abbrev VQ (X : Xt) (Y : Yt) (Post : Option Value → Mu → Prop) : State → Prop := MQ (xB X) (yQ Y Post) (xA X) (xS X) 0 0 (yA Y)
theorem ct_of {l : Launch} {Y : Yt} {y : MethodName} {ws ws' : List Cond} {rm : Room} {av : List Value} {μ : Mu} {Post : Option Value → Mu → Prop} {cc : ByteArray} {n : Nat} {ret : Option FieldType} (hO : yO Y) (hy : plainName y.cls = true) (hw : ws = Cond.code y cc n ret :: ws') (hn : (lg_sl av).length ≤ n) {lv : List (Option Value)} (hlv : (List.range n).map (lo (lv_args 0 av)) = lv)
    (body : ∀ X : Xt, VC X Y l rm cc n ret ws y.cls → VG X (yA Y) n 0 0 (VQ X Y Post) (yI Y μ) 0 lv []) : Ct l Y y ws rm av μ Post := by
  refine Met.ofW (cc := cc) (maxL := n) (ret := ret) hy hw ?_
  intro p e s m args below meth c s₁ B hml hv
  obtain ⟨rfl, hI, hK⟩ := hv
  have hts := atoms_spec (ws := ws) B.pre
  have hown : s.vm.findClass y.cls = some m.cls := findClass_of_methodNamed B.named
  have hl := lv_entry av (n := n) hn
  rw [lg_entry_eq]
  subst hlv
  exact body (p, l, e, (headSpec ws rm).room, s, m, av.toArray, below, meth, c) ⟨B.exec, B.bytes, hml, hown, hts, B.returns, B.notSynchronized, hK, hO, rfl, rfl⟩ s.heap [] _ hI va_S.rf (lh_entry hl)
/-- a weaker end -/
theorem Ct.weaken {l : Launch} {Y : Yt} {y : MethodName} {ws : List Cond} {rm : Room} {av : List Value} {μ : Mu} {P P' : Option Value → Mu → Prop} (h : Ct l Y y ws rm av μ P) (hP : ∀ r μ', P r μ' → P' r μ') : Ct l Y y ws rm av μ P' := by
  intro p e ha hc hk s m args below hf hap hPc ht
  obtain ⟨k, o, h1, h2, h3, ⟨⟨⟨r, μ', e1, e2, e3⟩, hF⟩, hfr⟩⟩ := h p e ha hc hk s m args below hf hap hPc ht
  exact ⟨k, o, h1, h2, h3, ⟨⟨⟨r, μ', e1, hP r μ' e2, e3⟩, hF⟩, hfr⟩⟩
section WROWS
variable {X : Xt} {Y : Yt} {n cells slots : Nat} {Q : State → Prop} {μ : Mu} {pc : Nat} {lv : List (Option Value)} {st : List Value} {l : Launch} {rm : Room} {cc : ByteArray} {ret : Option FieldType} {ws : List Cond} {own : String} {TB : List Cond} {z : Cond}
theorem v_ldc (C : VC X Y l rm cc n ret (z :: TB) own) {A : Nat → Prop} {I : Heap → Prop} {idx : Nat} {v : Int32} (hw : Cond.constant own idx v ∈ TB) (d : decode cc pc = .ok (.ldc idx, 2)) (k : VG X A n cells slots Q I (pc + 2) lv (.int v :: st)) : VG X A n cells slots Q I pc lv st := fun H locs ls hI hS hl => lv_ldc C.1 C.2.1 C.2.2.2.1 (C.2.2.2.2.1 _ (List.mem_cons_of_mem _ hw)) d (k H locs ls hI hS hl)
theorem v_ldc2 (C : VC X Y l rm cc n ret (z :: TB) own) {A : Nat → Prop} {I : Heap → Prop} {idx : Nat} {v : Int64} (hw : Cond.constantLong own idx v ∈ TB) (d : decode cc pc = .ok (.ldc2_w idx, 3)) (k : VG X A n cells slots Q I (pc + 3) lv (.long v :: st)) : VG X A n cells slots Q I pc lv st := fun H locs ls hI hS hl => lv_ldc2 C.1 C.2.1 C.2.2.2.1 (C.2.2.2.2.1 _ (List.mem_cons_of_mem _ hw)) d (k H locs ls hI hS hl)
/-- a class of the world, with its tables -/
def Kl (Y : Yt) (ws : List Cond) (ci : Nat) (Cn : String) (T : u_T) (N : Nat) (ty : Nat → FieldType) : Prop := (yC Y)[ci]? = some (Cn, T, N) ∧ (∀ w ∈ u_ws Cn T N, w ∈ ws) ∧ (∀ k, k < N → parseFieldDescriptor (T k).2.2.1 = some (ty k)) ∧ ∀ a, a < N → ∀ b, b < N → a ≠ b → (T a).2.1 ≠ (T b).2.1
theorem v_get (C : VC X Y l rm cc n ret (z :: TB) own) {ci N : Nat} {Cn : String} {T : u_T} {ty : Nat → FieldType} (K : Kl Y (z :: TB) ci Cn T N ty) {i : Nat} {F : (Nat → Int32) → (Nat → Int64) → List Value} (ho : Ob Y i ci F) (k : Nat) {idx : Nat} (d : decode cc pc = .ok (.getfield idx, 3)) (hw : Cond.fieldLink own idx (T k).1 (T k).2.1 (T k).2.2.1 ∈ TB) (hk : k < N) {v : Value} (hv : (F (μ.1 i) (μ.2 i))[k]? = some v)
    (kk : VG X (yA Y) n cells slots Q (yI Y μ) (pc + 3) lv (v :: st)) : VG X (yA Y) n cells slots Q (yI Y μ) pc lv (.ref (ad Y i) :: st) := by
  intro H locs ls hI hS hl
  exact va_get (D := yD Y) (ci := ci) C.1 C.2.1 C.2.2.2.2.1 K.2.1 C.2.2.2.1 C.2.2.2.2.2.2.2.1 hI i (by rw [yW_get μ ho.1, ho.2]) K.1 k hk (C.2.2.2.2.1 _ (List.mem_cons_of_mem _ hw)) (fun _ h => h) hv d (kk H locs ls hI hS hl)
theorem v_puti (C : VC X Y l rm cc n ret (z :: TB) own) {ci N : Nat} {Cn : String} {T : u_T} {ty : Nat → FieldType} (K : Kl Y (z :: TB) ci Cn T N ty) {i : Nat} {F : (Nat → Int32) → (Nat → Int64) → List Value} (ho : Ob Y i ci F) (k : Nat) {idx : Nat} (d : decode cc pc = .ok (.putfield idx, 3)) (hw : Cond.fieldLink own idx (T k).1 (T k).2.1 (T k).2.2.1 ∈ TB) (hk : k < N) (hfin : (T k).2.2.2 = false) {x : Int32} (hn : narrow (ty k) (.int x) = .int x) (hfit : fits (ty k) (.int x) = true) (hF : ∀ m lm, F (upd m k x) lm = (F m lm).set k (.int x)) (hl : ∀ m lm, k < (F m lm).length)
    (kk : VG X (yA Y) n cells slots Q (yI Y (wi μ i k x)) (pc + 3) lv st) : VG X (yA Y) n cells slots Q (yI Y μ) pc lv (.int x :: .ref (ad Y i) :: st) := by
  intro H locs ls hI hS hlv
  refine va_put (D := yD Y) (ci := ci) (ty := ty k) C.1 C.2.1 C.2.2.2.2.1 K.2.1 ty K.2.2.1 K.2.2.2 C.2.2.2.1 C.2.2.2.2.2.2.2.1 hI (yW_D C.2.2.2.2.2.2.2.2.1 μ) hS i (by rw [yW_get μ ho.1, ho.2]) K.1 k hk (C.2.2.2.2.1 _ (List.mem_cons_of_mem _ hw)) (fun _ h => h) hfin (K.2.2.1 k hk) hn hfit (hl _ _) d (fun H1 locs1 hP1 _ hS1 => ?_)
  rw [yW_set (μ := μ) (μ' := wi μ i k x) ho.1 (by rw [wi_self, ho.2, hF]; rfl) (fun j hj => ⟨wi_ne μ k x hj, rfl⟩)] at hP1
  exact kk H1 locs1 ls hP1 hS1 hlv
theorem v_putl (C : VC X Y l rm cc n ret (z :: TB) own) {ci N : Nat} {Cn : String} {T : u_T} {ty : Nat → FieldType} (K : Kl Y (z :: TB) ci Cn T N ty) {i : Nat} {F : (Nat → Int32) → (Nat → Int64) → List Value} (ho : Ob Y i ci F) (k : Nat) {idx : Nat} (d : decode cc pc = .ok (.putfield idx, 3)) (hw : Cond.fieldLink own idx (T k).1 (T k).2.1 (T k).2.2.1 ∈ TB) (hk : k < N) (hfin : (T k).2.2.2 = false) {x : Int64} (hn : narrow (ty k) (.long x) = .long x) (hfit : fits (ty k) (.long x) = true) (hF : ∀ m lm, F m (vp_updL lm k x) = (F m lm).set k (.long x)) (hl : ∀ m lm, k < (F m lm).length)
    (kk : VG X (yA Y) n cells slots Q (yI Y (wl μ i k x)) (pc + 3) lv st) : VG X (yA Y) n cells slots Q (yI Y μ) pc lv (.long x :: .ref (ad Y i) :: st) := by
  intro H locs ls hI hS hlv
  refine va_put (D := yD Y) (ci := ci) (ty := ty k) C.1 C.2.1 C.2.2.2.2.1 K.2.1 ty K.2.2.1 K.2.2.2 C.2.2.2.1 C.2.2.2.2.2.2.2.1 hI (yW_D C.2.2.2.2.2.2.2.2.1 μ) hS i (by rw [yW_get μ ho.1, ho.2]) K.1 k hk (C.2.2.2.2.1 _ (List.mem_cons_of_mem _ hw)) (fun _ h => h) hfin (K.2.2.1 k hk) hn hfit (hl _ _) d (fun H1 locs1 hP1 _ hS1 => ?_)
  rw [yW_set (μ := μ) (μ' := wl μ i k x) ho.1 (by rw [wl_self, ho.2, hF]; rfl) (fun j hj => ⟨rfl, wl_ne μ k x hj⟩)] at hP1
  exact kk H1 locs1 ls hP1 hS1 hlv
theorem v_iald (C : VC X Y l rm cc n ret ws own) {i z : Nat} (ha : AI Y i z) (j : Nat) (d : decode cc pc = .ok (.iaload, 1)) {x : Int32} (hx : x = nI j) (hj : j < z) (hz : z < 2 ^ 31) (kk : VG X (yA Y) n cells slots Q (yI Y μ) (pc + 1) lv (.int (μ.1 i j) :: st)) : VG X (yA Y) n cells slots Q (yI Y μ) pc lv (.int x :: .ref (ad Y i) :: st) := by
  intro H locs ls hI hS hl
  obtain ⟨hi, cA, t0, ht, hs⟩ := ha
  subst hx
  refine va_iald C.1 C.2.1 C.2.2.2.2.2.2.2.1 hI i t0 (by rw [yW_get μ hi, hs]) ht (vp_in_nI hj hz) d ?_
  rw [nI_clamp (Nat.lt_trans hj hz)]
  exact kk H locs ls hI hS hl
theorem v_lald (C : VC X Y l rm cc n ret ws own) {i z : Nat} (ha : AL Y i z) (j : Nat) (d : decode cc pc = .ok (.laload, 1)) {x : Int32} (hx : x = nI j) (hj : j < z) (hz : z < 2 ^ 31) (kk : VG X (yA Y) n cells slots Q (yI Y μ) (pc + 1) lv (.long (μ.2 i j) :: st)) : VG X (yA Y) n cells slots Q (yI Y μ) pc lv (.int x :: .ref (ad Y i) :: st) := by
  intro H locs ls hI hS hl
  obtain ⟨hi, cA, t0, ht, hs⟩ := ha
  subst hx
  refine va_lald C.1 C.2.1 C.2.2.2.2.2.2.2.1 hI i t0 (by rw [yW_get μ hi, hs]) ht (vp_in_nI hj hz) d ?_
  rw [nI_clamp (Nat.lt_trans hj hz)]
  exact kk H locs ls hI hS hl
theorem v_iast (C : VC X Y l rm cc n ret ws own) {i z : Nat} (ha : AI Y i z) (j : Nat) (d : decode cc pc = .ok (.iastore, 1)) {x v : Int32} (hx : x = nI j) (hj : j < z) (hz : z < 2 ^ 31) (kk : VG X (yA Y) n cells slots Q (yI Y (wi μ i j v)) (pc + 1) lv st) : VG X (yA Y) n cells slots Q (yI Y μ) pc lv (.int v :: .int x :: .ref (ad Y i) :: st) := by
  intro H locs ls hI hS hl
  obtain ⟨hi, cA, t0, ht, hs⟩ := ha
  subst hx
  refine va_iast C.1 C.2.1 C.2.2.2.2.2.2.2.1 hI (yW_D C.2.2.2.2.2.2.2.2.1 μ) hS i t0 (by rw [yW_get μ hi, hs]) ht (vp_in_nI hj hz) d (fun H1 locs1 hP1 _ hS1 => ?_)
  rw [nI_clamp (Nat.lt_trans hj hz)] at hP1
  rw [yW_set (μ := μ) (μ' := wi μ i j v) hi (by rw [wi_self, hs]) (fun a h => ⟨wi_ne μ j v h, rfl⟩)] at hP1
  exact kk H1 locs1 ls hP1 hS1 hl
theorem v_last (C : VC X Y l rm cc n ret ws own) {i z : Nat} (ha : AL Y i z) (j : Nat) (d : decode cc pc = .ok (.lastore, 1)) {x : Int32} {v : Int64} (hx : x = nI j) (hj : j < z) (hz : z < 2 ^ 31) (kk : VG X (yA Y) n cells slots Q (yI Y (wl μ i j v)) (pc + 1) lv st) : VG X (yA Y) n cells slots Q (yI Y μ) pc lv (.long v :: .int x :: .ref (ad Y i) :: st) := by
  intro H locs ls hI hS hl
  obtain ⟨hi, cA, t0, ht, hs⟩ := ha
  subst hx
  refine va_last C.1 C.2.1 C.2.2.2.2.2.2.2.1 hI (yW_D C.2.2.2.2.2.2.2.2.1 μ) hS i t0 (by rw [yW_get μ hi, hs]) ht (vp_in_nI hj hz) d (fun H1 locs1 hP1 _ hS1 => ?_)
  rw [nI_clamp (Nat.lt_trans hj hz)] at hP1
  rw [yW_set (μ := μ) (μ' := wl μ i j v) hi (by rw [wl_self, hs]) (fun a h => ⟨rfl, wl_ne μ j v h⟩)] at hP1
  exact kk H1 locs1 ls hP1 hS1 hl
theorem v_aald (C : VC X Y l rm cc n ret ws own) {i z : Nat} {f : Nat → Nat} (ha : AR Y i z f) (j : Nat) (d : decode cc pc = .ok (.aaload, 1)) {x : Int32} (hx : x = nI j) (hj : j < z) (hz : z < 2 ^ 31) (kk : VG X (yA Y) n cells slots Q (yI Y μ) (pc + 1) lv (.ref (ad Y (f j)) :: st)) : VG X (yA Y) n cells slots Q (yI Y μ) pc lv (.int x :: .ref (ad Y i) :: st) := by
  intro H locs ls hI hS hl
  obtain ⟨hi, cA, t0, ty, ht, hk, hs⟩ := ha
  subst hx
  have h1 : (yW Y μ)[i]? = some (ad Y i, .inl (cA, z, .inr (.inr (.inr (.inr (fun j => some (ad Y (f j)))))))) := by rw [yW_get μ hi, hs]
  have hc := nI_clamp (Nat.lt_trans hj hz)
  exact W.aald (v := .ref (ad Y (f j))) (ty := ty) C.1 C.2.1 (hI i _ h1) (((C.2.2.2.2.2.2.2.1).2 t0 _ ht).1 z (fun j => .ref (ad Y (f j)))) hk (fun q => by cases q) (by show ¬ (nI j < 0 ∨ (arrV _ _ _).slots.size ≤ _); rw [arrV_size]; exact vp_in_nI hj hz) (by show (arrV _ _ _).slots[_]? = _; rw [hc, arrV_read _ _ hj]; rfl) rfl rfl d (kk H locs ls hI hS hl)
theorem v_alenR (C : VC X Y l rm cc n ret ws own) {i z : Nat} {f : Nat → Nat} (ha : AR Y i z f) (d : decode cc pc = .ok (.arraylength, 1)) (kk : VG X (yA Y) n cells slots Q (yI Y μ) (pc + 1) lv (.int (nI z) :: st)) : VG X (yA Y) n cells slots Q (yI Y μ) pc lv (.ref (ad Y i) :: st) := by
  intro H locs ls hI hS hl
  obtain ⟨hi, cA, t0, ty, ht, hk, hs⟩ := ha
  have h1 := yW_get μ hi
  rw [hs] at h1
  exact va_alen C.1 C.2.1 C.2.2.2.2.2.2.2.1 hI i t0 h1 ht rfl d (kk H locs ls hI hS hl)
theorem v_alenI (C : VC X Y l rm cc n ret ws own) {i z : Nat} (ha : AI Y i z) (d : decode cc pc = .ok (.arraylength, 1)) (kk : VG X (yA Y) n cells slots Q (yI Y μ) (pc + 1) lv (.int (nI z) :: st)) : VG X (yA Y) n cells slots Q (yI Y μ) pc lv (.ref (ad Y i) :: st) := by
  intro H locs ls hI hS hl
  obtain ⟨hi, cA, t0, ht, hs⟩ := ha
  have h1 := yW_get μ hi
  rw [hs] at h1
  exact va_alen C.1 C.2.1 C.2.2.2.2.2.2.2.1 hI i t0 h1 ht rfl d (kk H locs ls hI hS hl)
theorem v_iret (C : VC X Y l rm cc n ret ws own) {Post : Option Value → Mu → Prop} {v : Int32} (hr : ret = some .int) (d : decode cc pc = .ok (.ireturn, 1)) (e : Post (some (Value.int v)) μ) : VG X (yA Y) n 0 0 (VQ X Y Post) (yI Y μ) pc lv [.int v] := by
  subst hr
  intro H locs ls hI hS hl
  exact W.iret C.1 C.2.1 C.2.2.2.2.2.1 (fun t ht hW => ⟨⟨_, μ, rfl, e, by rw [ht]; exact hI⟩, hS.F ht⟩) hS.2.2 d (hlocks := C.2.2.2.2.2.2.1)
theorem v_zret (C : VC X Y l rm cc n ret ws own) {Post : Option Value → Mu → Prop} {v : Int32} {ty : FieldType} (hr : ret = some ty) (hn : narrow ty (.int v) = .int v) (d : decode cc pc = .ok (.ireturn, 1)) (e : Post (some (Value.int v)) μ) : VG X (yA Y) n 0 0 (VQ X Y Post) (yI Y μ) pc lv [.int v] := by
  subst hr
  intro H locs ls hI hS hl
  exact W.zret C.1 C.2.1 C.2.2.2.2.2.1 hn (fun t ht hW => ⟨⟨_, μ, rfl, e, by rw [ht]; exact hI⟩, hS.F ht⟩) hS.2.2 d (hlocks := C.2.2.2.2.2.2.1)
theorem v_lret (C : VC X Y l rm cc n ret ws own) {Post : Option Value → Mu → Prop} {v : Int64} (hr : ret = some .long) (d : decode cc pc = .ok (.lreturn, 1)) (e : Post (some (Value.long v)) μ) : VG X (yA Y) n 0 0 (VQ X Y Post) (yI Y μ) pc lv [.long v] := by
  subst hr
  intro H locs ls hI hS hl
  exact W.lret C.1 C.2.1 C.2.2.2.2.2.1 (fun t ht hW => ⟨⟨_, μ, rfl, e, by rw [ht]; exact hI⟩, hS.F ht⟩) hS.2.2 d (hlocks := C.2.2.2.2.2.2.1)
theorem v_aret (C : VC X Y l rm cc n ret ws own) {Post : Option Value → Mu → Prop} {a : Nat} {nm : String} (hr : ret = some (.object nm)) (d : decode cc pc = .ok (.areturn, 1)) (e : Post (some (Value.ref a)) μ) : VG X (yA Y) n 0 0 (VQ X Y Post) (yI Y μ) pc lv [.ref a] := by
  subst hr
  intro H locs ls hI hS hl
  exact W.aret C.1 C.2.1 C.2.2.2.2.2.1 (Or.inl ⟨nm, rfl⟩) (Or.inr ⟨a, rfl⟩) (fun t ht hW => ⟨⟨_, μ, rfl, e, by rw [ht]; exact hI⟩, hS.F ht⟩) hS.2.2 d (hlocks := C.2.2.2.2.2.2.1)
theorem v_vret (C : VC X Y l rm cc n ret ws own) {Post : Option Value → Mu → Prop} (hr : ret = none) (d : decode cc pc = .ok (.return_, 1)) (e : Post (none) μ) : VG X (yA Y) n 0 0 (VQ X Y Post) (yI Y μ) pc lv [] := by
  subst hr
  intro H locs ls hI hS hl
  exact W.vret C.1 C.2.1 C.2.2.2.2.2.1 (fun t ht hW => ⟨⟨_, μ, rfl, e, by rw [ht]; exact hI⟩, hS.F ht⟩) hS.2.2 d (hlocks := C.2.2.2.2.2.2.1)
/-- behind a call -/
theorem v_run {Post : Option Value → Mu → Prop} {A : Nat → Prop} {stR : List Value} (hr : ∀ (H : Heap) (locs : List Loc) (ls : Array Slot), yI Y μ H → lh ls n lv → ∃ a, va_Run (xP X) (xL X) (xE X) (xR X) (xS X) (xM X) (xA X) (xB X) (xMe X) (xC X) H locs cells slots 0 0 (F0 (xM X) pc ls st) stR (yQ Y Post a) (yA Y)) (hA : ∀ q, yA Y q → A q) (kk : ∀ (r : Option Value) (μ' : Mu), Post r μ' → VG X A n cells slots Q (yI Y μ') (pc + 3) lv (r.toList ++ stR)) : VG X A n cells slots Q (yI Y μ) pc lv st := by
  intro H locs ls hI hS hl
  obtain ⟨a, hrun⟩ := hr H locs ls hI hl
  intro T hT XX
  obtain ⟨v, st₀, t, T', L, h0, X', hL, e1, e2, ⟨⟨r, μ', hv, hpost, hb⟩, hz, hk⟩, stp⟩ := hrun T hT XX
  cases hv
  rw [h0] at hz hk
  obtain ⟨t2, a1, b1⟩ := kk _ μ' hpost T'.heap (locs ++ L) ls (by rw [e1]; exact hb)
    ⟨Nat.le_trans hS.1 (by rw [e1]; exact hz), fun q h1 h2 => by rw [e1, hk q (Nat.lt_of_lt_of_le h1 hS.1) (fun z => h2 (hA q z))]; exact hS.2.1 q h1 h2, fun q hq => by
      rcases List.mem_append.mp hq with h | h
      · exact hS.2.2 q h
      · exact hA _ (hL q h)⟩ hl T' rfl X'
  exact ⟨t2, stp t2 a1, b1⟩
theorem yP_blind {av : List Value} : FrameBlind (yP Y av μ) := fun a U g mk q => by
  obtain ⟨q0, q1, q2⟩ := q
  exact ⟨q0, q1, va_K.moved (u := U) (U := U.calling g mk a) (Vm.Alike.refl U.vm) q2⟩
/-- the words that a call needs; all tables' words are at hand in every method -/
def TBok (TB : List Cond) : Prop := ∀ w ∈ TB, (w.onTables && w.keeps) = true ∨ ∃ ty, w = .arrayClass ty
def Lk (TB : List Cond) (own : String) (idx : Nat) (y : MethodName) (b : ByteArray) (mL : Nat) (rt : Option FieldType) (k : Nat) : Prop := Cond.methodLink own idx y ∈ TB ∧ Cond.initialized y.cls ∈ TB ∧ Cond.code y b mL rt ∈ TB ∧ y.cls ≠ "java/lang/invoke/MethodHandle" ∧ y.cls ≠ "java/lang/invoke/VarHandle" ∧ (parseMethodDescriptor y.desc).map (fun d => d.parameters.length) = some k
theorem goodTB {TB : List Cond} (hT : TBok TB) {z w : Cond} (hw : w ∈ TB) : GoodIn (z :: TB) (w :: TB) := fun q hq => by
  rcases List.mem_cons.mp hq with rfl | h
  · exact ⟨List.mem_cons_of_mem _ hw, hT _ hw⟩
  · exact ⟨List.mem_cons_of_mem _ h, hT _ h⟩
variable {idx mL k : Nat} {y : MethodName} {b : ByteArray} {rt : Option FieldType} {rmy : Room} {As stR : List Value} {Post : Option Value → Mu → Prop}
theorem callB_tb (C : VC X Y l rm cc n ret (z :: TB) own) (hT : TBok TB) (hL : Lk TB own idx y b mL rt k) (h1 : rmy.cells = 0) (h2 : rmy.slots = 0) (hR : rmy.frames + 1 ≤ rm.frames ∧ 8 + (mL + 11) + rmy.locals ≤ rm.locals) : CallB (xR X) (xS X) (xA X) own idx y b mL rt (Cond.code y b mL rt :: TB) rmy 0 0 k := by
  obtain ⟨l1, l2, l3, l4⟩ := hL
  have ht := C.2.2.2.2.1
  have hrm : xR X = rm := C.2.2.2.2.2.2.2.2.2.2
  refine callB_of k ht (goodTB hT l3) rfl h1 h2 (ht _ (List.mem_cons_of_mem _ l2)) (ht _ (List.mem_cons_of_mem _ l1)) l4 ?_
  rw [hrm]
  exact hR
theorem v_callV (C : VC X Y l rm cc n ret (z :: TB) own) (hT : TBok TB) (hL : Lk TB own idx y b mL rt k) (h1 : Cond.instanceMethod y ∈ TB) (h2 : Cond.selects y.cls y y ∈ TB) (d : decode cc pc = .ok (.invokevirtual idx, 3)) {i ci N : Nat} {F : (Nat → Int32) → (Nat → Int64) → List Value} {T : u_T} (ho : Ob Y i ci F) (hcl : (yC Y)[ci]? = some (y.cls, T, N)) (hc : Ct l Y y (Cond.code y b mL rt :: TB) rmy (.ref (ad Y i) :: As) μ Post) (h3 : rmy.cells = 0) (h4 : rmy.slots = 0) (hR : rmy.frames + 1 ≤ rm.frames ∧ 8 + (mL + 11) + rmy.locals ≤ rm.locals) (hn : As.length = k) (hst : st = As.reverse ++ .ref (ad Y i) :: stR) (hW : (stR.map fun v => v.category).sum ≤ 8) (hcs : cells ≤ rm.cells ∧ slots ≤ rm.slots)
    (kk : ∀ (r : Option Value) (μ' : Mu), Post r μ' → VG X (yA Y) n cells slots Q (yI Y μ') (pc + 3) lv (r.toList ++ stR)) : VG X (yA Y) n cells slots Q (yI Y μ) pc lv st := by
  have hl0 : xL X = l := C.2.2.2.2.2.2.2.2.2.1
  have hrm : xR X = rm := C.2.2.2.2.2.2.2.2.2.2
  have ht := C.2.2.2.2.1
  refine v_run (fun H locs ls hI hlv => ⟨_, va_runV (As := As) (rest := stR) ⟨C.1, C.2.1, C.2.2.1, C.2.2.2.1, ht⟩ (by rw [hl0]; exact hc) ⟨callB_tb C hT hL h3 h4 hR, ht _ (List.mem_cons_of_mem _ h1), ht _ (List.mem_cons_of_mem _ h2)⟩ ⟨yP_blind, va_recv (q := (y.cls, T, N)) C.2.2.2.2.2.2.2.1 hI hcl (q0 := i) (by rw [yW_get μ ho.1, ho.2]), fun U hU hW => ⟨rfl, by rw [hU]; exact hI, va_K.moved hW.alike C.2.2.2.2.2.2.2.1⟩⟩ rfl hn hlv.1 hst (lv_room hW) d (by rw [hrm]; exact hcs)⟩) (fun _ h => h) kk
theorem v_callS (C : VC X Y l rm cc n ret (z :: TB) own) (hT : TBok TB) (hL : Lk TB own idx y b mL rt k) (h1 : Cond.static y ∈ TB) (d : decode cc pc = .ok (.invokestatic idx, 3)) (hc : Ct l Y y (Cond.code y b mL rt :: TB) rmy As μ Post) (h3 : rmy.cells = 0) (h4 : rmy.slots = 0) (hR : rmy.frames + 1 ≤ rm.frames ∧ 8 + (mL + 11) + rmy.locals ≤ rm.locals) (hn : As.length = k) (hst : st = As.reverse ++ stR) (hW : (stR.map fun v => v.category).sum ≤ 8) (hcs : cells ≤ rm.cells ∧ slots ≤ rm.slots)
    (kk : ∀ (r : Option Value) (μ' : Mu), Post r μ' → VG X (yA Y) n cells slots Q (yI Y μ') (pc + 3) lv (r.toList ++ stR)) : VG X (yA Y) n cells slots Q (yI Y μ) pc lv st := by
  have hl0 : xL X = l := C.2.2.2.2.2.2.2.2.2.1
  have hrm : xR X = rm := C.2.2.2.2.2.2.2.2.2.2
  have ht := C.2.2.2.2.1
  refine v_run (fun H locs ls hI hlv => ⟨_, va_runS (As := As) (rest := stR) ⟨C.1, C.2.1, C.2.2.1, C.2.2.2.1, ht⟩ (by rw [hl0]; exact hc) ⟨callB_tb C hT hL h3 h4 hR, ht _ (List.mem_cons_of_mem _ h1)⟩ ⟨yP_blind, fun U hU hW => ⟨rfl, by rw [hU]; exact hI, va_K.moved hW.alike C.2.2.2.2.2.2.2.1⟩⟩ rfl hn hlv.1 hst (lv_room hW) d (by rw [hrm]; exact hcs)⟩) (fun _ h => h) kk
/-- what stands on the stack behind a call, by the kind of its end -/
theorem kE {r0 : Option Value} {μ0 : Mu} {A : Nat → Prop} {stR' : List Value} (hs : r0.toList ++ stR = stR') (kk : VG X A n cells slots Q (yI Y μ0) pc lv stR') : ∀ (r : Option Value) (μ' : Mu), PE r0 μ0 r μ' → VG X A n cells slots Q (yI Y μ') pc lv (r.toList ++ stR) := by
  rintro r μ' ⟨rfl, rfl⟩
  rw [hs]
  exact kk
theorem kV {P : Mu → Prop} {A : Nat → Prop} (kk : ∀ μ', P μ' → VG X A n cells slots Q (yI Y μ') pc lv stR) : ∀ (r : Option Value) (μ' : Mu), PV P r μ' → VG X A n cells slots Q (yI Y μ') pc lv (r.toList ++ stR) := by
  rintro r μ' ⟨rfl, h⟩
  exact kk μ' h
theorem kI {P : Int32 → Mu → Prop} {A : Nat → Prop} (kk : ∀ x μ', P x μ' → VG X A n cells slots Q (yI Y μ') pc lv (.int x :: stR)) : ∀ (r : Option Value) (μ' : Mu), PI P r μ' → VG X A n cells slots Q (yI Y μ') pc lv (r.toList ++ stR) := by
  rintro r μ' ⟨x, rfl, h⟩
  exact kk x μ' h
theorem kL {P : Int64 → Mu → Prop} {A : Nat → Prop} (kk : ∀ x μ', P x μ' → VG X A n cells slots Q (yI Y μ') pc lv (.long x :: stR)) : ∀ (r : Option Value) (μ' : Mu), PL P r μ' → VG X A n cells slots Q (yI Y μ') pc lv (r.toList ++ stR) := by
  rintro r μ' ⟨x, rfl, h⟩
  exact kk x μ' h
end WROWS
