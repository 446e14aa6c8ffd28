/-! BOXES, PAGES AND TREES, apart from the machine. -/
abbrev T5 : Type := Int32 × Int32 × Int32 × Int32 × Int32
abbrev T4 : Type := Int32 × Int32 × Int32 × Int32
def fn (t : T5) : Nat → Int32 := w5 t.1 t.2.1 t.2.2.1 t.2.2.2.1 t.2.2.2.2
def tp (f : Nat → Int32) : T5 := (f 0, f 1, f 2, f 3, f 4)
def b4 (t : T5) : T4 := (t.1, t.2.1, t.2.2.1, t.2.2.2.1)
def nm (t : T5) : Int32 := t.2.2.2.2
def mk5 (a : T4) (n : Int32) : T5 := (a.1, a.2.1, a.2.2.1, a.2.2.2, n)
def cb (t : T5) : Nat := (nm t).toNatClampNeg
theorem tp_fn (t : T5) : tp (fn t) = t := rfl
theorem mk5_b4 (t : T5) : mk5 (b4 t) (nm t) = t := rfl
def meT (a b : T5) : Bool := meetB (fn a) (fn b)
def hoT (a b : T5) : Bool := holdB (fn a) (fn b)
def prT (a b : T5) : Bool := precB (fn a) (fn b)
def sqT (a : T5) (x y : Int32) : Int64 := sqB (fn a) x y
theorem me_tp (f g : Nat → Int32) : meetB f g = meT (tp f) (tp g) := rfl
theorem ho_tp (f g : Nat → Int32) : holdB f g = hoT (tp f) (tp g) := rfl
theorem pr_tp (f g : Nat → Int32) : precB f g = prT (tp f) (tp g) := rfl
theorem sq_tp (f : Nat → Int32) (x y : Int32) : sqB f x y = sqT (tp f) x y := rfl
theorem sa_tp (f g : Nat → Int32) : sameB f g = true ↔ tp f = tp g := by
  simp [sameB, tp]
def z4 : T4 := (2000000000, 2000000000, -2000000000, -2000000000)
def cw (a b : T4) : T4 := (mnI a.1 b.1, mnI a.2.1 b.2.1, mxI a.2.2.1 b.2.2.1, mxI a.2.2.2 b.2.2.2)
def bnd (l : List T5) : T4 := l.foldl (fun a t => cw a (b4 t)) z4
theorem mn_as (a b c : Int32) : mnI (mnI a b) c = mnI a (mnI b c) := by
  apply Int32.toInt_inj.mp
  simp only [mnI, Int32.lt_iff_toInt_lt]
  repeat' split
  all_goals omega
theorem mx_as (a b c : Int32) : mxI (mxI a b) c = mxI a (mxI b c) := by
  apply Int32.toInt_inj.mp
  simp only [mxI, Int32.lt_iff_toInt_lt]
  repeat' split
  all_goals omega
theorem mn_cm (a b : Int32) : mnI a b = mnI b a := by
  apply Int32.toInt_inj.mp
  simp only [mnI, Int32.lt_iff_toInt_lt]
  repeat' split
  all_goals omega
theorem mx_cm (a b : Int32) : mxI a b = mxI b a := by
  apply Int32.toInt_inj.mp
  simp only [mxI, Int32.lt_iff_toInt_lt]
  repeat' split
  all_goals omega
theorem cw_as (a b c : T4) : cw (cw a b) c = cw a (cw b c) := by
  simp only [cw, mn_as, mx_as]
theorem cw_cm (a b : T4) : cw a b = cw b a := by
  simp only [cw, mn_cm a.1, mn_cm a.2.1, mx_cm a.2.2.1, mx_cm a.2.2.2]
/-- what the empty rectangle doesn't change -/
def okR (a : T4) : Prop := cw z4 a = a
theorem okR_z : okR z4 := by
  show cw z4 z4 = z4
  decide +kernel
theorem okR_cw {a : T4} (b : T4) (h : okR a) : okR (cw a b) := by
  unfold okR at *
  rw [← cw_as, h]
theorem bnd_from (l : List T5) : ∀ a : T4, okR a → l.foldl (fun a t => cw a (b4 t)) a = cw a (bnd l) := by
  induction l with
  | nil => exact fun a h => by rw [cw_cm]; exact h.symm
  | cons t l ih =>
    intro a h
    show l.foldl _ (cw a (b4 t)) = cw a (l.foldl _ (cw z4 (b4 t)))
    rw [ih _ (okR_cw _ h), ih _ (okR_cw _ okR_z), cw_as, cw_as, ← cw_as a z4, cw_cm a z4, h]
theorem bnd_ok (l : List T5) : okR (bnd l) := by
  show cw z4 _ = _
  rw [← bnd_from l z4 okR_z]
  rfl
theorem bnd_nil : bnd [] = z4 := rfl
theorem bnd_cons (t : T5) (l : List T5) : bnd (t :: l) = cw (cw z4 (b4 t)) (bnd l) := bnd_from l _ (okR_cw _ okR_z)
theorem bnd_app (l k : List T5) : bnd (l ++ k) = cw (bnd l) (bnd k) := by
  unfold bnd
  rw [List.foldl_append]
  exact bnd_from k _ (bnd_ok l)
theorem bnd_flat {L : List T5} {g : T5 → List T5} (h : ∀ b ∈ L, b4 b = bnd (g b)) : bnd L = bnd (L.flatMap g) := by
  induction L with
  | nil => rfl
  | cons t L ih =>
    rw [List.flatMap_cons, bnd_app, bnd_cons, h t List.mem_cons_self, bnd_ok (g t), ih (fun b hb => h b (List.mem_cons_of_mem _ hb))]
theorem bnd_perm {l k : List T5} (h : l.Perm k) : bnd l = bnd k := by
  induction h with
  | nil => rfl
  | cons t _ ih => rw [bnd_cons, bnd_cons, ih]
  | swap a b l => rw [bnd_cons, bnd_cons, bnd_cons, bnd_cons, ← cw_as, cw_cm (cw z4 (b4 b)), cw_as]
  | trans _ _ h1 h2 => exact h1.trans h2
/-- a lies in A -/
def inn (A a : T4) : Prop := A.1 ≤ a.1 ∧ A.2.1 ≤ a.2.1 ∧ a.2.2.1 ≤ A.2.2.1 ∧ a.2.2.2 ≤ A.2.2.2
theorem inn_rf (a : T4) : inn a a := ⟨Int32.le_refl _, Int32.le_refl _, Int32.le_refl _, Int32.le_refl _⟩
theorem inn_tr {a b c : T4} (h : inn a b) (k : inn b c) : inn a c := ⟨Int32.le_trans h.1 k.1, Int32.le_trans h.2.1 k.2.1, Int32.le_trans k.2.2.1 h.2.2.1, Int32.le_trans k.2.2.2 h.2.2.2⟩
theorem inn_l (a b : T4) : inn (cw a b) a := by
  refine ⟨?_, ?_, ?_, ?_⟩ <;> rw [Int32.le_iff_toInt_le] <;> simp only [cw, mnI, mxI, Int32.lt_iff_toInt_lt] <;> split <;> omega
theorem inn_r (a b : T4) : inn (cw a b) b := cw_cm b a ▸ inn_l b a
theorem inn_bnd {t : T5} {l : List T5} (h : t ∈ l) : inn (bnd l) (b4 t) := by
  induction l with
  | nil => cases h
  | cons x l ih =>
    rw [bnd_cons]
    rcases List.mem_cons.mp h with rfl | h
    · exact inn_tr (inn_l _ _) (inn_r _ _)
    · exact inn_tr (inn_r _ _) (ih h)
/-- coordinates within bounds -/
def co4 (a : T4) : Prop := -1000000000 ≤ a.1.toInt ∧ a.1.toInt ≤ 1000000000 ∧ -1000000000 ≤ a.2.1.toInt ∧ a.2.1.toInt ≤ 1000000000 ∧ -1000000000 ≤ a.2.2.1.toInt ∧ a.2.2.1.toInt ≤ 1000000000 ∧ -1000000000 ≤ a.2.2.2.toInt ∧ a.2.2.2.toInt ≤ 1000000000
theorem co4_cw {a b : T4} (h : co4 a) (k : co4 b) : co4 (cw a b) := by
  unfold co4 at *
  simp only [cw, mnI, mxI, Int32.lt_iff_toInt_lt]
  repeat' apply And.intro
  all_goals split
  all_goals omega
theorem z4_1 : (2000000000 : Int32).toInt = 2000000000 := by decide +kernel
theorem z4_2 : (-2000000000 : Int32).toInt = -2000000000 := by decide +kernel
theorem co4_ok {a : T4} (h : co4 a) : okR a := by
  unfold co4 at h
  unfold okR
  refine Prod.ext ?_ (Prod.ext ?_ (Prod.ext ?_ ?_)) <;> apply Int32.toInt_inj.mp <;> simp only [cw, z4, mnI, mxI, Int32.lt_iff_toInt_lt] <;> split <;> rename_i hh <;> (try rw [z4_1] at hh) <;> (try rw [z4_2] at hh) <;> omega
/-- a rectangle -/
def re4 (a : T4) : Prop := co4 a ∧ a.1.toInt ≤ a.2.2.1.toInt ∧ a.2.1.toInt ≤ a.2.2.2.toInt
theorem re4_cw {a b : T4} (h : re4 a) (k : re4 b) : re4 (cw a b) := by
  refine ⟨co4_cw h.1 k.1, ?_, ?_⟩
  · have h1 := h.2.1
    have h2 := k.2.1
    simp only [cw, mnI, mxI, Int32.lt_iff_toInt_lt]
    repeat' split
    all_goals omega
  · have h1 := h.2.2
    have h2 := k.2.2
    simp only [cw, mnI, mxI, Int32.lt_iff_toInt_lt]
    repeat' split
    all_goals omega
theorem re4_bnd {l : List T5} (h : ∀ t ∈ l, re4 (b4 t)) (hn : l ≠ []) : re4 (bnd l) := by
  induction l with
  | nil => exact absurd rfl hn
  | cons t l ih =>
    rw [bnd_cons, co4_ok (h t List.mem_cons_self).1]
    by_cases hl : l = []
    · subst hl
      rw [bnd_nil, cw_cm, co4_ok (h t List.mem_cons_self).1]
      exact h t List.mem_cons_self
    · exact re4_cw (h t List.mem_cons_self) (ih (fun x hx => h x (List.mem_cons_of_mem _ hx)) hl)
/-- an entry as it may be kept -/
def okE (t : T5) : Prop := re4 (b4 t) ∧ 0 ≤ (nm t).toInt ∧ (nm t).toInt ≤ 999
theorem me_in {A t w : T5} (h : inn (b4 A) (b4 t)) (k : meT t w = true) : meT A w = true := by
  simp only [meT, meetB, Bool.and_eq_true, decide_eq_true_eq] at *
  exact ⟨Int32.le_trans h.1 k.1, Int32.le_trans k.2.1 h.2.2.1, Int32.le_trans h.2.1 k.2.2.1, Int32.le_trans k.2.2.2 h.2.2.2⟩
theorem ho_iff {A t : T5} : hoT A t = true ↔ inn (b4 A) (b4 t) := by
  simp only [hoT, holdB, Bool.and_eq_true, decide_eq_true_eq, inn]
  constructor
  · exact fun ⟨a, b, c, d⟩ => ⟨a, c, b, d⟩
  · exact fun ⟨a, b, c, d⟩ => ⟨a, c, b, d⟩
/-- the order -/
theorem pr_iff (a b : T5) : prT a b = true ↔ (a.1.toInt < b.1.toInt ∨ a.1.toInt = b.1.toInt ∧ (a.2.1.toInt < b.2.1.toInt ∨ a.2.1.toInt = b.2.1.toInt ∧ (a.2.2.1.toInt < b.2.2.1.toInt ∨ a.2.2.1.toInt = b.2.2.1.toInt ∧ (a.2.2.2.1.toInt < b.2.2.2.1.toInt ∨ a.2.2.2.1.toInt = b.2.2.2.1.toInt ∧ a.2.2.2.2.toInt < b.2.2.2.2.toInt)))) := by
  show precB _ _ = true ↔ _
  unfold precB
  show (if a.1 = b.1 then (if a.2.1 = b.2.1 then (if a.2.2.1 = b.2.2.1 then (if a.2.2.2.1 = b.2.2.2.1 then decide (a.2.2.2.2 < b.2.2.2.2) else decide (a.2.2.2.1 < b.2.2.2.1)) else decide (a.2.2.1 < b.2.2.1)) else decide (a.2.1 < b.2.1)) else decide (a.1 < b.1)) = true ↔ _
  simp only [← Int32.toInt_inj]
  repeat' split
  all_goals simp only [decide_eq_true_eq, Int32.lt_iff_toInt_lt]
  all_goals omega
theorem t5_ext {a b : T5} (h1 : a.1.toInt = b.1.toInt) (h2 : a.2.1.toInt = b.2.1.toInt) (h3 : a.2.2.1.toInt = b.2.2.1.toInt) (h4 : a.2.2.2.1.toInt = b.2.2.2.1.toInt) (h5 : a.2.2.2.2.toInt = b.2.2.2.2.toInt) : a = b := by
  obtain ⟨a1, a2, a3, a4, a5⟩ := a
  obtain ⟨c1, c2, c3, c4, c5⟩ := b
  simp only [Int32.toInt_inj] at *
  subst h1 h2 h3 h4 h5
  rfl
def leT (a b : T5) : Prop := prT b a = false
theorem le_tr {a b c : T5} (h : leT a b) (k : leT b c) : leT a c := by
  unfold leT at *
  rw [← Bool.not_eq_true, pr_iff] at *
  omega
theorem le_as {a b : T5} (h : leT a b) (k : leT b a) : a = b := by
  unfold leT at *
  rw [← Bool.not_eq_true, pr_iff] at *
  apply t5_ext <;> omega
theorem le_of_pr {a b : T5} (h : prT a b = true) : leT a b := by
  unfold leT
  rw [← Bool.not_eq_true, pr_iff]
  rw [pr_iff] at h
  omega
theorem le_rf (a : T5) : leT a a := by
  unfold leT
  rw [← Bool.not_eq_true, pr_iff]
  omega
theorem srt_uq {l k : List T5} (hl : l.Pairwise leT) (hk : k.Pairwise leT) (h : l.Perm k) : l = k :=
  List.Perm.eq_of_pairwise (fun _ _ _ _ => le_as) hl hk h
