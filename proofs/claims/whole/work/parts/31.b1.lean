/-! TREES over a store of pages: a page has a level and a list of boxes. -/
abbrev Sg : Type := Nat → Nat × List T5
def upS (σ : Sg) (p : Nat) (x : Nat × List T5) : Sg := fun q => if q = p then x else σ q
theorem upS_s (σ : Sg) (p : Nat) (x : Nat × List T5) : upS σ p x p = x := if_pos rfl
theorem upS_n {σ : Sg} {p q : Nat} {x : Nat × List T5} (h : q ≠ p) : upS σ p x q = σ q := if_neg h
def ent (σ : Sg) : Nat → Nat → List T5
  | 0, _ => []
  | v + 1, p => if v = 0 then (σ p).2 else (σ p).2.flatMap (fun b => ent σ v (cb b))
def pgs (σ : Sg) : Nat → Nat → List Nat
  | 0, _ => []
  | v + 1, p => p :: (if v = 0 then [] else (σ p).2.flatMap (fun b => pgs σ v (cb b)))
/-- a subtree of this level at this page, with so many boxes in its own page -/
def wfC (σ : Sg) : Nat → Nat → Nat → Nat → Prop
  | 0, _, _, _ => False
  | v + 1, lo, hi, p => 0 < p ∧ p < 40 ∧ (σ p).1 = v + 1 ∧ lo ≤ (σ p).2.length ∧ (σ p).2.length ≤ hi ∧ ∀ b ∈ (σ p).2, if v = 0 then okE b else (nm b = nI (cb b) ∧ b4 b = bnd (ent σ v (cb b)) ∧ wfC σ v 2 5 (cb b))
/-- a box that tells of a page below rightly; one that names a page at least -/
def gdB (σ : Sg) (v : Nat) (b : T5) : Prop := nm b = nI (cb b) ∧ b4 b = bnd (ent σ v (cb b)) ∧ wfC σ v 2 5 (cb b)
theorem ent_1 (σ : Sg) (p : Nat) : ent σ 1 p = (σ p).2 := rfl
theorem ent_s (σ : Sg) (v p : Nat) : ent σ (v + 2) p = (σ p).2.flatMap (fun b => ent σ (v + 1) (cb b)) := by
  show (if v + 1 = 0 then _ else _) = _
  rw [if_neg (by omega)]
theorem pgs_1 (σ : Sg) (p : Nat) : pgs σ 1 p = [p] := rfl
theorem pgs_s (σ : Sg) (v p : Nat) : pgs σ (v + 2) p = p :: (σ p).2.flatMap (fun b => pgs σ (v + 1) (cb b)) := by
  show p :: (if v + 1 = 0 then _ else _) = _
  rw [if_neg (by omega)]
theorem wf_1 (σ : Sg) (lo hi p : Nat) : wfC σ 1 lo hi p ↔ (0 < p ∧ p < 40 ∧ (σ p).1 = 1 ∧ lo ≤ (σ p).2.length ∧ (σ p).2.length ≤ hi ∧ ∀ b ∈ (σ p).2, okE b) := Iff.rfl
theorem wf_s (σ : Sg) (v lo hi p : Nat) : wfC σ (v + 2) lo hi p ↔ (0 < p ∧ p < 40 ∧ (σ p).1 = v + 2 ∧ lo ≤ (σ p).2.length ∧ (σ p).2.length ≤ hi ∧ ∀ b ∈ (σ p).2, gdB σ (v + 1) b) := by
  show (_ ∧ _ ∧ _ ∧ _ ∧ _ ∧ ∀ b ∈ (σ p).2, if v + 1 = 0 then _ else _) ↔ _
  simp only [Nat.add_one_ne_zero, if_false]
  exact Iff.rfl
theorem wf_top {σ : Sg} {v lo hi p : Nat} (h : wfC σ v lo hi p) : 0 < v ∧ 0 < p ∧ p < 40 ∧ (σ p).1 = v ∧ lo ≤ (σ p).2.length ∧ (σ p).2.length ≤ hi := by
  cases v with
  | zero => exact h.elim
  | succ v => exact ⟨by omega, h.1, h.2.1, h.2.2.1, h.2.2.2.1, h.2.2.2.2.1⟩
theorem wf_wk {σ : Sg} {v lo hi lo' hi' p : Nat} (h : wfC σ v lo hi p) (h1 : lo' ≤ (σ p).2.length) (h2 : (σ p).2.length ≤ hi') : wfC σ v lo' hi' p := by
  cases v with
  | zero => exact h.elim
  | succ v => exact ⟨h.1, h.2.1, h.2.2.1, h1, h2, h.2.2.2.2.2⟩
theorem pgs_self {σ : Sg} {v p : Nat} (h : 0 < v) : p ∈ pgs σ v p := by
  cases v with
  | zero => omega
  | succ v => exact List.mem_cons_self
/-- every page of a subtree is one of the 39, and has a level -/
theorem wf_pgs {σ : Sg} {v lo hi p : Nat} (h : wfC σ v lo hi p) : ∀ q ∈ pgs σ v p, 0 < q ∧ q < 40 ∧ (σ q).1 ≠ 0 ∧ (σ q).1 ≤ v := by
  induction v generalizing p lo hi with
  | zero => exact h.elim
  | succ v ih =>
    intro q hq
    rcases List.mem_cons.mp hq with rfl | hq
    · exact ⟨h.1, h.2.1, by rw [h.2.2.1]; omega, by rw [h.2.2.1]; omega⟩
    · by_cases hv : v = 0
      · rw [if_pos hv] at hq
        cases hq
      · rw [if_neg hv] at hq
        obtain ⟨b, hb, hq⟩ := List.mem_flatMap.mp hq
        have := h.2.2.2.2.2 b hb
        rw [if_neg hv] at this
        have := ih this.2.2 q hq
        exact ⟨this.1, this.2.1, this.2.2.1, by omega⟩
/-- entries are good -/
theorem wf_ok {σ : Sg} {v lo hi p : Nat} (h : wfC σ v lo hi p) : ∀ t ∈ ent σ v p, okE t := by
  induction v generalizing p lo hi with
  | zero => exact h.elim
  | succ v ih =>
    intro t ht
    by_cases hv : v = 0
    · subst hv
      have := h.2.2.2.2.2 t ht
      rw [if_pos rfl] at this
      exact this
    · rw [ent, if_neg hv] at ht
      obtain ⟨b, hb, ht⟩ := List.mem_flatMap.mp ht
      have := h.2.2.2.2.2 b hb
      rw [if_neg hv] at this
      exact ih this.2.2 t ht
/-- the frame of a page is that of the entries below -/
theorem wf_bnd {σ : Sg} {v lo hi p : Nat} (h : wfC σ v lo hi p) : bnd (σ p).2 = bnd (ent σ v p) := by
  cases v with
  | zero => exact h.elim
  | succ v =>
    by_cases hv : v = 0
    · subst hv
      rfl
    · rw [ent, if_neg hv]
      refine bnd_flat (fun b hb => ?_)
      have := h.2.2.2.2.2 b hb
      rw [if_neg hv] at this
      exact this.2.1
/-- only its own pages matter -/
theorem loc_e {σ σ' : Sg} {v p : Nat} (h : ∀ q ∈ pgs σ v p, σ' q = σ q) : ent σ' v p = ent σ v p ∧ pgs σ' v p = pgs σ v p := by
  induction v generalizing p with
  | zero => exact ⟨rfl, rfl⟩
  | succ v ih =>
    have hp : σ' p = σ p := h p List.mem_cons_self
    by_cases hv : v = 0
    · subst hv
      exact ⟨by rw [ent_1, ent_1, hp], rfl⟩
    · have hb : ∀ b ∈ (σ p).2, ∀ q ∈ pgs σ v (cb b), σ' q = σ q := fun b hb q hq => h q (by rw [pgs, if_neg hv]; exact List.mem_cons_of_mem _ (List.mem_flatMap.mpr ⟨b, hb, hq⟩))
      have he : ∀ (L : List T5), (∀ b ∈ L, b ∈ (σ p).2) → L.flatMap (fun b => ent σ' v (cb b)) = L.flatMap (fun b => ent σ v (cb b)) ∧ L.flatMap (fun b => pgs σ' v (cb b)) = L.flatMap (fun b => pgs σ v (cb b)) := by
        intro L
        induction L with
        | nil => exact fun _ => ⟨rfl, rfl⟩
        | cons b L ihL =>
          intro hL
          have h1 := ih (hb b (hL b List.mem_cons_self))
          have h2 := ihL (fun x hx => hL x (List.mem_cons_of_mem _ hx))
          simp only [List.flatMap_cons]
          rw [h1.1, h1.2, h2.1, h2.2]
          exact ⟨rfl, rfl⟩
      have := he _ (fun _ hb => hb)
      rw [ent, ent, pgs, pgs, if_neg hv, if_neg hv, if_neg hv, if_neg hv, hp]
      exact ⟨this.1, by rw [this.2]⟩
theorem loc_w {σ σ' : Sg} {v lo hi p : Nat} (h : ∀ q ∈ pgs σ v p, σ' q = σ q) (hw : wfC σ v lo hi p) : wfC σ' v lo hi p := by
  induction v generalizing p lo hi with
  | zero => exact hw.elim
  | succ v ih =>
    have hp : σ' p = σ p := h p List.mem_cons_self
    refine ⟨hw.1, hw.2.1, by rw [hp]; exact hw.2.2.1, by rw [hp]; exact hw.2.2.2.1, by rw [hp]; exact hw.2.2.2.2.1, fun b hb => ?_⟩
    rw [hp] at hb
    have h2 := hw.2.2.2.2.2 b hb
    by_cases hv : v = 0
    · rw [if_pos hv] at h2 ⊢
      exact h2
    · rw [if_neg hv] at h2 ⊢
      have hb2 : ∀ q ∈ pgs σ v (cb b), σ' q = σ q := fun q hq => h q (by rw [pgs, if_neg hv]; exact List.mem_cons_of_mem _ (List.mem_flatMap.mpr ⟨b, hb, hq⟩))
      exact ⟨h2.1, by rw [(loc_e hb2).1]; exact h2.2.1, ih hb2 h2.2.2⟩
theorem loc_g {σ σ' : Sg} {v : Nat} {b : T5} (h : ∀ q ∈ pgs σ v (cb b), σ' q = σ q) (hw : gdB σ v b) : gdB σ' v b := ⟨hw.1, by rw [(loc_e h).1]; exact hw.2.1, loc_w h hw.2.2⟩
/-- lists of boxes: what is below them -/
def enL (σ : Sg) (v : Nat) (L : List T5) : List T5 := L.flatMap (fun b => ent σ v (cb b))
def pgL (σ : Sg) (v : Nat) (L : List T5) : List Nat := L.flatMap (fun b => pgs σ v (cb b))
theorem loc_L {σ σ' : Sg} {v : Nat} {L : List T5} (h : ∀ q ∈ pgL σ v L, σ' q = σ q) : enL σ' v L = enL σ v L ∧ pgL σ' v L = pgL σ v L := by
  induction L with
  | nil => exact ⟨rfl, rfl⟩
  | cons b L ih =>
    unfold enL pgL at *
    simp only [List.flatMap_cons] at *
    have h1 := loc_e (fun q hq => h q (List.mem_append_left _ hq))
    have h2 := ih (fun q hq => h q (List.mem_append_right _ hq))
    rw [h1.1, h1.2, h2.1, h2.2]
    exact ⟨rfl, rfl⟩
theorem loc_gL {σ σ' : Sg} {v : Nat} {L : List T5} (h : ∀ q ∈ pgL σ v L, σ' q = σ q) (hw : ∀ b ∈ L, gdB σ v b) : ∀ b ∈ L, gdB σ' v b := fun b hb => loc_g (fun q hq => h q (List.mem_flatMap.mpr ⟨b, hb, hq⟩)) (hw b hb)
/-- pages and entries, counted -/
theorem cn_L {σ : Sg} {v : Nat} (hv : ∀ lo hi p, wfC σ v lo hi p → (pgs σ v p).length + (σ p).2.length ≤ (ent σ v p).length + 1) {L : List T5} (h : ∀ b ∈ L, gdB σ v b) : (pgL σ v L).length + L.length ≤ (enL σ v L).length := by
  induction L with
  | nil => exact Nat.le_refl _
  | cons b L ih =>
    have h1 := hv 2 5 _ (h b List.mem_cons_self).2.2
    have h2 := (wf_top (h b List.mem_cons_self).2.2).2.2.2.2.1
    have h3 := ih (fun x hx => h x (List.mem_cons_of_mem _ hx))
    unfold pgL enL at *
    simp only [List.flatMap_cons, List.length_append, List.length_cons]
    omega
theorem cn_p {σ : Sg} {v : Nat} : ∀ lo hi p, wfC σ v lo hi p → (pgs σ v p).length + (σ p).2.length ≤ (ent σ v p).length + 1 := by
  induction v with
  | zero => exact fun _ _ _ h => h.elim
  | succ v ih =>
    intro lo hi p h
    cases v with
    | zero => simp [pgs_1, ent_1]; omega
    | succ v =>
      have := cn_L ih ((wf_s σ v lo hi p).mp h).2.2.2.2.2
      rw [pgs_s, ent_s, List.length_cons]
      unfold pgL enL at this
      omega
theorem cn_g {σ : Sg} {v : Nat} {L : List T5} (h : ∀ b ∈ L, gdB σ v b) : (pgL σ v L).length + L.length ≤ (enL σ v L).length := cn_L cn_p h
/-- many entries where the tree is high -/
theorem hi_e {σ : Sg} {v : Nat} : ∀ p, wfC σ v 2 5 p → 2 ^ v ≤ (ent σ v p).length := by
  induction v with
  | zero => exact fun _ h => h.elim
  | succ v ih =>
    intro p h
    cases v with
    | zero => exact h.2.2.2.1
    | succ v =>
      have h6 := ((wf_s σ v 2 5 p).mp h).2.2.2.2.2
      have hl := h.2.2.2.1
      have : ∀ L : List T5, (∀ b ∈ L, gdB σ (v + 1) b) → L.length * 2 ^ (v + 1) ≤ (enL σ (v + 1) L).length := by
        intro L
        induction L with
        | nil => simp
        | cons b L ihL =>
          intro hL
          have h1 := ih _ (hL b List.mem_cons_self).2.2
          have h2 := ihL (fun x hx => hL x (List.mem_cons_of_mem _ hx))
          unfold enL at *
          simp only [List.flatMap_cons, List.length_append, List.length_cons, Nat.add_mul, Nat.one_mul]
          omega
      have h7 := this _ h6
      rw [ent_s]
      have h8 : 2 * 2 ^ (v + 1) ≤ (σ p).2.length * 2 ^ (v + 1) := Nat.mul_le_mul_right _ hl
      have h9 : 2 ^ (v + 1 + 1) = 2 ^ (v + 1) * 2 := Nat.pow_succ ..
      unfold enL at h7
      omega
theorem hi_L {σ : Sg} {v : Nat} {L : List T5} (hL : ∀ b ∈ L, gdB σ v b) : L.length * 2 ^ v ≤ (enL σ v L).length := by
  induction L with
  | nil => simp
  | cons b L ihL =>
    have h1 := hi_e _ (hL b List.mem_cons_self).2.2
    have h2 := ihL (fun x hx => hL x (List.mem_cons_of_mem _ hx))
    unfold enL at *
    simp only [List.flatMap_cons, List.length_append, List.length_cons, Nat.add_mul, Nat.one_mul]
    omega
/-- the pages that are taken, each once -/
def Alc (σ : Sg) (Q : List Nat) : Prop := Q.Nodup ∧ ∀ q, 0 < q → q < 40 → (q ∈ Q ↔ (σ q).1 ≠ 0)
theorem Alc_p {σ : Sg} {Q Q' : List Nat} (h : Alc σ Q) (hp : Q.Perm Q') : Alc σ Q' := ⟨hp.nodup_iff.mp h.1, fun q h1 h2 => by rw [← hp.mem_iff]; exact h.2 q h1 h2⟩
theorem Alc_free {σ : Sg} {Q : List Nat} (h : Alc σ Q) (hl : Q.length < 39) : ∃ n, 0 < n ∧ n < 40 ∧ (σ n).1 = 0 := by
  by_cases hh : ∃ n, 0 < n ∧ n < 40 ∧ (σ n).1 = 0
  · exact hh
  · have : (List.range' 1 39) ⊆ Q := by
      intro q hq
      have hq := List.mem_range'_1.mp hq
      refine (h.2 q (by omega) (by omega)).mpr (fun h0 => hh ⟨q, by omega, by omega, h0⟩)
    have := List.Nodup.length_le_of_subset (List.nodup_range' (s := 1) (n := 39)) this
    simp at this
    omega
/-- a box leaves its place to the last one -/
def drl (l : List T5) (k : Nat) : List T5 := match l.getLast? with
  | some t => (l.set k t).dropLast
  | none => l
theorem ex_perm {l : List T5} {k : Nat} {x : T5} (h : l[k]? = some x) : l.Perm (x :: l.eraseIdx k) := by
  obtain ⟨hk, rfl⟩ := List.getElem?_eq_some_iff.mp h
  have h1 : l = l.take k ++ l[k] :: l.drop (k + 1) := by
    rw [List.getElem_cons_drop, List.take_append_drop]
  have h2 : l.eraseIdx k = l.take k ++ l.drop (k + 1) := List.eraseIdx_eq_take_drop_succ ..
  rw [h2]
  exact (List.Perm.of_eq h1).trans List.perm_middle
theorem ex_set {l : List T5} {k : Nat} {x y : T5} (h : l[k]? = some x) : (l.set k y).Perm (y :: l.eraseIdx k) := by
  have hk := (List.getElem?_eq_some_iff.mp h).1
  have := ex_perm (l := l.set k y) (k := k) (x := y) (by rw [List.getElem?_set_self hk])
  rw [List.eraseIdx_set_eq] at this
  exact this
theorem drl_len {l : List T5} (k : Nat) : (drl l k).length = l.length - 1 := by
  unfold drl
  cases h : l.getLast? with
  | none => rw [List.getLast?_eq_none_iff.mp h]; rfl
  | some t => simp
theorem drl_get {l : List T5} {k j : Nat} (hj : j < l.length - 1) : (drl l k)[j]? = if j = k then l[l.length - 1]? else l[j]? := by
  unfold drl
  cases h : l.getLast? with
  | none => rw [List.getLast?_eq_none_iff.mp h] at hj; simp at hj
  | some t =>
    rw [List.getLast?_eq_getElem?] at h
    simp only [List.getElem?_dropLast, List.length_set]
    rw [if_pos hj]
    split
    · subst j
      rw [List.getElem?_set_self (by omega), h]
    · rw [List.getElem?_set_ne (by omega)]
theorem drl_perm {l : List T5} {k : Nat} {x : T5} (h : l[k]? = some x) : l.Perm (x :: drl l k) := by
  have hk := (List.getElem?_eq_some_iff.mp h).1
  unfold drl
  cases hl : l.getLast? with
  | none => rw [List.getLast?_eq_none_iff.mp hl] at hk; simp at hk
  | some t =>
    have h1 : l.Perm (x :: l.eraseIdx k) := ex_perm h
    have h2 : (l.set k t).Perm (t :: l.eraseIdx k) := ex_set h
    have hne : l.set k t ≠ [] := by
      intro h0
      have := congrArg List.length h0
      simp at this
      rw [this] at hk
      simp at hk
    have h3 : l.set k t = (l.set k t).dropLast ++ [t] := by
      have h4 := (List.dropLast_concat_getLast hne).symm
      have h5 : (l.set k t).getLast hne = t := by
        rw [List.getLast_eq_getElem, List.getElem_set]
        rw [List.getLast?_eq_getElem?] at hl
        obtain ⟨h6, h7⟩ := List.getElem?_eq_some_iff.mp hl
        simp only [List.length_set]
        split
        · rfl
        · exact h7
      rw [h5] at h4
      exact h4
    have h6 : (t :: (l.set k t).dropLast).Perm (t :: l.eraseIdx k) := by
      refine List.Perm.trans ?_ h2
      conv => rhs; rw [h3]
      exact (List.perm_append_singleton _ _).symm
    exact h1.trans (List.Perm.cons _ (List.Perm.cons_inv h6).symm)
