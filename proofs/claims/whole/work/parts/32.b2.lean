/-! MEMORY AND PAGES: the memory holds a store of pages; the steps of the tree are steps of the store. -/
theorem wi_xy (μ : Mu) (i k : Nat) (x : Int32) (a b : Nat) : (wi μ i k x).1 a b = if a = i ∧ b = k then x else μ.1 a b := by
  by_cases h : a = i
  · subst h
    rw [wi_self]
    by_cases hb : b = k
    · subst hb
      rw [if_pos ⟨rfl, rfl⟩]
      simp [upd]
    · rw [if_neg (fun h => hb h.2)]
      simp [upd, hb]
  · rw [wi_ne _ _ _ h, if_neg (fun q => h q.1)]
theorem bec_n (μ : Mu) {i a : Nat} (j : Nat) (h : a ≠ i) : (bec μ i j).1 a = μ.1 a := by
  unfold bec asg
  rw [wi_ne _ _ _ h, wi_ne _ _ _ h, wi_ne _ _ _ h, wi_ne _ _ _ h, wi_ne _ _ _ h]
theorem asg_s (μ : Mu) (i : Nat) (a b c d e : Int32) : tp ((asg μ i a b c d e).1 i) = (a, b, c, d, e) := by
  unfold asg tp
  simp [wi_xy]
theorem asg_n (μ : Mu) {i x : Nat} (a b c d e : Int32) (h : x ≠ i) : (asg μ i a b c d e).1 x = μ.1 x := by
  unfold asg
  rw [wi_ne _ _ _ h, wi_ne _ _ _ h, wi_ne _ _ _ h, wi_ne _ _ _ h, wi_ne _ _ _ h]
theorem bec_s (μ : Mu) (i j : Nat) : tp ((bec μ i j).1 i) = tp (μ.1 j) := asg_s μ i _ _ _ _ _
def pgR (m : Nat → Nat → Int32) (q : Nat) (x : Nat × List T5) : Prop := m (pgI q) 0 = nI x.1 ∧ m (pgI q) 1 = nI x.2.length ∧ (x.1 ≤ 5 ∧ (x.1 = 0 → x.2 = [])) ∧ x.2.length ≤ 6 ∧ ∀ j t, x.2[j]? = some t → tp (m (bxI q j)) = t
def tR (μ : Mu) (σ δ : Sg) : Prop := ∀ q, 0 < q → q < 40 → pgR μ.1 q (σ q) ∧ tB (μ.1 (pgI q) 2) ∧ (μ.1 (pgI q) 2 = 0 → σ q = δ q)
/-- only cells of the tree's pages change, or the tree's two frames -/
def Fr (μ μ' : Mu) : Prop := μ'.2 = μ.2 ∧ ∀ i, i ≠ 5 → i ≠ 6 → ¬ (19 ≤ i ∧ i < 59) → ¬ (219 ≤ i ∧ i < 459) → μ'.1 i = μ.1 i
theorem Fr.rf (μ : Mu) : Fr μ μ := ⟨rfl, fun _ _ _ _ _ => rfl⟩
theorem Fr.tr {a b c : Mu} (h : Fr a b) (k : Fr b c) : Fr a c := ⟨k.1.trans h.1, fun i h1 h2 h3 h4 => (k.2 i h1 h2 h3 h4).trans (h.2 i h1 h2 h3 h4)⟩
def Oc (μ μ' : Mu) (p : Nat) : Prop := μ'.2 = μ.2 ∧ ∀ i, i ≠ 5 → i ≠ pgI p → (∀ j, j < 6 → i ≠ bxI p j) → μ'.1 i = μ.1 i
theorem Oc.fr {μ μ' : Mu} {p : Nat} (h : Oc μ μ' p) (hp : p < 40) : Fr μ μ' := ⟨h.1, fun i h1 _ h3 h4 => h.2 i h1 (by unfold pgI; omega) (fun j hj => by unfold bxI; omega)⟩
theorem Oc.tr {a b c : Mu} {p : Nat} (h : Oc a b p) (k : Oc b c p) : Oc a c p := ⟨k.1.trans h.1, fun i h1 h2 h3 => (k.2 i h1 h2 h3).trans (h.2 i h1 h2 h3)⟩
theorem pgR_eq {m m' : Nat → Nat → Int32} {q : Nat} {x : Nat × List T5} (h : pgR m q x) (h1 : m' (pgI q) = m (pgI q)) (h2 : ∀ j, j < 6 → m' (bxI q j) = m (bxI q j)) : pgR m' q x := by
  refine ⟨by rw [h1]; exact h.1, by rw [h1]; exact h.2.1, h.2.2.1, h.2.2.2.1, fun j t ht => ?_⟩
  have := (List.getElem?_eq_some_iff.mp ht).1
  rw [h2 j (by have := h.2.2.2.1; omega)]
  exact h.2.2.2.2 j t ht
theorem tR_eq {μ μ' : Mu} {σ δ : Sg} (h : tR μ σ δ) (h1 : ∀ q, 0 < q → q < 40 → μ'.1 (pgI q) = μ.1 (pgI q)) (h2 : ∀ q j, 0 < q → q < 40 → j < 6 → μ'.1 (bxI q j) = μ.1 (bxI q j)) : tR μ' σ δ := fun q a b => ⟨pgR_eq (h q a b).1 (h1 q a b) (fun j => h2 q j a b), by rw [h1 q a b]; exact (h q a b).2.1, by rw [h1 q a b]; exact (h q a b).2.2⟩
theorem tR_up {μ μ' : Mu} {σ δ : Sg} {p : Nat} {x : Nat × List T5} (h : tR μ σ δ) (ho : Oc μ μ' p) (hp : 0 < p ∧ p < 40) (h1 : pgR μ'.1 p x) (h2 : tB (μ'.1 (pgI p) 2)) (h3 : μ'.1 (pgI p) 2 = 0 → x = δ p) : tR μ' (upS σ p x) δ := by
  intro q a b
  by_cases hq : q = p
  · subst hq
    rw [upS_s]
    exact ⟨h1, h2, h3⟩
  · rw [upS_n hq]
    have e1 : μ'.1 (pgI q) = μ.1 (pgI q) := ho.2 _ (by unfold pgI; omega) (by unfold pgI; omega) (fun j hj => by unfold pgI bxI; omega)
    have e2 : ∀ j, j < 6 → μ'.1 (bxI q j) = μ.1 (bxI q j) := fun j hj => ho.2 _ (by unfold bxI; omega) (by unfold pgI bxI; omega) (fun i hi => by unfold bxI; omega)
    exact ⟨pgR_eq (h q a b).1 e1 e2, by rw [e1]; exact (h q a b).2.1, by rw [e1]; exact (h q a b).2.2⟩
theorem tB1 : tB 1 := Or.inr rfl
theorem tB0 : tB 0 := Or.inl rfl
theorem n10 : ¬ (1 : Int32) = 0 := by decide +kernel
/-- opening -/
theorem opn_o (μ : Mu) (p : Nat) (v : Int32) : Oc μ (opn μ p v) p := ⟨rfl, fun i _ h _ => by unfold opn; rw [wi_ne _ _ _ h, wi_ne _ _ _ h, wi_ne _ _ _ h]⟩
theorem opn_t {μ : Mu} {σ δ : Sg} {p v : Nat} (h : tR μ σ δ) (hp : 0 < p ∧ p < 40) (hv : v ≤ 5) : tR (opn μ p (nI v)) (upS σ p (v, [])) δ := by
  refine tR_up h (opn_o μ p _) hp ⟨?_, ?_, ⟨hv, fun _ => rfl⟩, by simp, fun j t ht => by simp at ht⟩ ?_ ?_
  · simp [opn, wi_xy]
  · simp [opn, wi_xy]
    exact nI_0.symm
  · simp [opn, wi_xy, tB1]
  · intro h0
    simp [opn, wi_xy, n10] at h0
/-- adding -/
theorem add_o (μ : Mu) (p u j : Nat) (hu : u < 6) : Oc μ (addM μ p u j) p := ⟨rfl, fun i _ h h2 => by unfold addM; rw [wi_ne _ _ _ h, wi_ne _ _ _ h, bec_n _ _ (h2 u hu)]⟩
theorem add_t {μ : Mu} {σ δ : Sg} {p j : Nat} (h : tR μ σ δ) (hp : 0 < p ∧ p < 40) (hu : (σ p).2.length < 6) (hz : (σ p).1 ≠ 0) : tR (addM μ p (σ p).2.length j) (upS σ p ((σ p).1, (σ p).2 ++ [tp (μ.1 j)])) δ := by
  have h0 := (h p hp.1 hp.2).1
  have hpb : ∀ i, pgI p ≠ bxI p i := fun i => by unfold pgI bxI; omega
  refine tR_up h (add_o μ p _ j hu) hp ⟨?_, ?_, ⟨h0.2.2.1.1, fun e => absurd e hz⟩, by simp; omega, fun i t ht => ?_⟩ ?_ ?_
  · show (wi (wi _ _ _ _) _ _ _).1 _ _ = _
    rw [wi_xy, wi_xy, if_neg (by omega), if_neg (by omega), bec_n _ _ (hpb _)]
    exact h0.1
  · show (wi (wi _ _ _ _) _ _ _).1 _ _ = _
    rw [wi_xy, wi_xy, if_neg (by omega), if_pos ⟨rfl, rfl⟩, List.length_append]
    rfl
  · show tp ((wi (wi _ _ _ _) _ _ _).1 _) = _
    rw [wi_ne _ _ _ (hpb i).symm, wi_ne _ _ _ (hpb i).symm]
    by_cases hi : i = (σ p).2.length
    · subst hi
      simp at ht
      rw [bec_s, ht]
    · have hil : i < (σ p).2.length := by
        have := (List.getElem?_eq_some_iff.mp ht).1
        simp at this
        omega
      rw [List.getElem?_append_left hil] at ht
      rw [bec_n _ _ (by unfold bxI; omega)]
      exact h0.2.2.2.2 i t ht
  · show tB ((wi (wi _ _ _ _) _ _ _).1 _ _)
    rw [wi_xy, if_pos ⟨rfl, rfl⟩]
    exact tB1
  · intro hh
    rw [addM, wi_xy, if_pos ⟨rfl, rfl⟩] at hh
    exact absurd hh n10
/-- dropping -/
theorem drp_o (μ : Mu) (p u k : Nat) (hk : k < 6) : Oc μ (drpM μ p u k) p := ⟨rfl, fun i _ h h2 => by unfold drpM; rw [wi_ne _ _ _ h, bec_n _ _ (h2 k hk), wi_ne _ _ _ h]⟩
theorem drp_t {μ : Mu} {σ δ : Sg} {p k : Nat} (h : tR μ σ δ) (hp : 0 < p ∧ p < 40) (hk : k < (σ p).2.length) : tR (drpM μ p (σ p).2.length k) (upS σ p ((σ p).1, drl (σ p).2 k)) δ := by
  have h0 := (h p hp.1 hp.2).1
  have h6 := h0.2.2.2.1
  have hpb : ∀ i, pgI p ≠ bxI p i := fun i => by unfold pgI bxI; omega
  refine tR_up h (drp_o μ p _ k (by omega)) hp ⟨?_, ?_, ⟨h0.2.2.1.1, fun e => by have e2 := h0.2.2.1.2 e; rw [e2] at hk; simp at hk⟩, by simp [drl_len]; omega, fun i t ht => ?_⟩ ?_ ?_
  · show (wi (bec (wi _ _ _ _) _ _) _ _ _).1 _ _ = _
    rw [wi_xy, if_neg (by omega), bec_n _ _ (hpb _), wi_xy, if_neg (by omega)]
    exact h0.1
  · show (wi (bec (wi _ _ _ _) _ _) _ _ _).1 _ _ = _
    rw [wi_xy, if_neg (by omega), bec_n _ _ (hpb _), wi_xy, if_pos ⟨rfl, rfl⟩, drl_len]
  · show tp ((wi (bec (wi _ _ _ _) _ _) _ _ _).1 _) = _
    have hil := (List.getElem?_eq_some_iff.mp ht).1
    rw [drl_len] at hil
    rw [drl_get hil] at ht
    rw [wi_ne _ _ _ (hpb i).symm]
    by_cases hi : i = k
    · subst hi
      rw [if_pos rfl] at ht
      rw [bec_s, wi_ne _ _ _ (hpb _).symm]
      exact h0.2.2.2.2 _ t ht
    · rw [if_neg hi] at ht
      rw [bec_n _ _ (by unfold bxI; omega), wi_ne _ _ _ (hpb _).symm]
      exact h0.2.2.2.2 i t ht
  · show tB ((wi (bec (wi _ _ _ _) _ _) _ _ _).1 _ _)
    rw [wi_xy, if_pos ⟨rfl, rfl⟩]
    exact tB1
  · intro hh
    rw [drpM, wi_xy, if_pos ⟨rfl, rfl⟩] at hh
    exact absurd hh n10
/-- framing -/
theorem al6 : ∀ k, k < 6 → ((-1 : Int32) >>> (nI k &&& 31)) &&& 1 = 1 := by decide +kernel
theorem wid_n (μ : Mu) {i a : Nat} (j : Nat) (h : a ≠ i) : (wid μ i j).1 a = μ.1 a := by
  unfold wid
  rw [wi_ne _ _ _ h, wi_ne _ _ _ h, wi_ne _ _ _ h, wi_ne _ _ _ h]
theorem wid_s (μ : Mu) (i j : Nat) : tp ((wid μ i j).1 i) = mk5 (cw (b4 (tp (μ.1 i))) (b4 (tp (μ.1 j)))) (μ.1 i 4) := by
  unfold wid tp mk5 cw b4
  simp [wi_xy]
theorem fr_l {p i : Nat} (hi : ∀ j, j < 6 → bxI p j ≠ i) (L : List T5) (h6 : L.length ≤ 6) : ∀ (r k : Nat) (μ : Mu), k + r = L.length → (∀ j t, L[j]? = some t → tp (μ.1 (bxI p j)) = t) → (frL p (-1) i r k μ).2 = μ.2 ∧ (∀ a, a ≠ i → (frL p (-1) i r k μ).1 a = μ.1 a) ∧ tp ((frL p (-1) i r k μ).1 i) = mk5 ((L.drop k).foldl (fun a t => cw a (b4 t)) (b4 (tp (μ.1 i)))) (μ.1 i 4) := by
  intro r
  induction r with
  | zero =>
    intro k μ hk hb
    rw [List.drop_of_length_le (by omega)]
    exact ⟨rfl, fun _ _ => rfl, rfl⟩
  | succ r ih =>
    intro k μ hk hb
    have hk6 : k < 6 := by omega
    rw [frL, if_pos (al6 k hk6)]
    have h1 := ih (k + 1) (wid μ i (bxI p k)) (by omega) (fun j t ht => by rw [wid_n _ _ (hi j (by have := (List.getElem?_eq_some_iff.mp ht).1; omega))]; exact hb j t ht)
    refine ⟨h1.1, fun a ha => by rw [h1.2.1 a ha, wid_n _ _ ha], ?_⟩
    rw [h1.2.2, List.drop_eq_getElem_cons (i := k) (by omega), List.foldl_cons, wid_s, hb k L[k] (List.getElem?_eq_getElem (by omega))]
    have h4 : (wid μ i (bxI p k)).1 i 4 = μ.1 i 4 := congrArg nm (wid_s μ i (bxI p k))
    rw [h4]
    rfl
theorem shr_n (μ : Mu) {i a : Nat} (h : a ≠ i) : (shr μ i).1 a = μ.1 a := by
  unfold shr
  rw [wi_ne _ _ _ h, wi_ne _ _ _ h, wi_ne _ _ _ h, wi_ne _ _ _ h]
theorem shr_s (μ : Mu) (i : Nat) : tp ((shr μ i).1 i) = mk5 z4 (μ.1 i 4) := by
  unfold shr tp mk5 z4
  simp [wi_xy]
theorem fr_m {μ : Mu} {q i : Nat} {x : Nat × List T5} (h : pgR μ.1 q x) (hi : ∀ j, j < 6 → bxI q j ≠ i) : (frM μ q x.2.length (-1) i).2 = μ.2 ∧ (∀ a, a ≠ i → (frM μ q x.2.length (-1) i).1 a = μ.1 a) ∧ tp ((frM μ q x.2.length (-1) i).1 i) = mk5 (bnd x.2) (μ.1 i 4) := by
  have h1 := fr_l hi x.2 h.2.2.2.1 x.2.length 0 (shr μ i) (by omega) (fun j t ht => by rw [shr_n _ (hi j (by have := (List.getElem?_eq_some_iff.mp ht).1; have := h.2.2.2.1; omega))]; exact h.2.2.2.2 j t ht)
  refine ⟨h1.1, fun a ha => by rw [frM, h1.2.1 a ha, shr_n _ ha], ?_⟩
  rw [frM, h1.2.2, shr_s]
  have h4 : (shr μ i).1 i 4 = μ.1 i 4 := congrArg nm (shr_s μ i)
  rw [h4]
  rfl
/-- the frame that the tree works with, told of page q -/
def f5 (μ : Mu) (q u : Nat) : Mu := frM (wi μ 5 4 (nI q)) q u (-1) 5
theorem f5_s {μ : Mu} {q : Nat} {x : Nat × List T5} (h : pgR μ.1 q x) : (f5 μ q x.2.length).2 = μ.2 ∧ (∀ a, a ≠ 5 → (f5 μ q x.2.length).1 a = μ.1 a) ∧ tp ((f5 μ q x.2.length).1 5) = mk5 (bnd x.2) (nI q) := by
  have h1 := fr_m (μ := wi μ 5 4 (nI q)) (q := q) (i := 5) (x := x) (pgR_eq h (wi_ne _ _ _ (by unfold pgI; omega)) (fun j _ => wi_ne _ _ _ (by unfold bxI; omega))) (fun j _ => by unfold bxI; omega)
  refine ⟨h1.1, fun a ha => by rw [f5, h1.2.1 a ha, wi_ne _ _ _ ha], ?_⟩
  rw [f5, h1.2.2, wi_xy, if_pos ⟨rfl, rfl⟩]
theorem f5_t {μ : Mu} {σ δ : Sg} {q : Nat} {x : Nat × List T5} (h : tR μ σ δ) (hx : pgR μ.1 q x) : tR (f5 μ q x.2.length) σ δ := tR_eq h (fun q _ _ => (f5_s hx).2.1 _ (by unfold pgI; omega)) (fun q j _ _ _ => (f5_s hx).2.1 _ (by unfold bxI; omega))
theorem f5_o {μ : Mu} {q : Nat} {x : Nat × List T5} (hx : pgR μ.1 q x) (p : Nat) : Oc μ (f5 μ q x.2.length) p := ⟨(f5_s hx).1, fun i h _ _ => (f5_s hx).2.1 i h⟩
theorem set_same {l : List T5} {k : Nat} {x : T5} (h : l[k]? = some x) : l.set k x = l := by
  obtain ⟨hk, rfl⟩ := List.getElem?_eq_some_iff.mp h
  exact List.set_getElem_self hk
theorem upS_self {σ : Sg} {p : Nat} : upS σ p ((σ p).1, (σ p).2) = σ := by
  funext q
  by_cases h : q = p
  · subst h
    rw [upS_s]
  · rw [upS_n h]
theorem tf_t {μ : Mu} {σ δ : Sg} {p s c : Nat} {x : T5} (h : tR μ σ δ) (hp : 0 < p ∧ p < 40) (hc : 0 < c ∧ c < 40) (hx : (σ p).2[s]? = some x) : tR (tfM μ p s c (σ c).2.length) (upS σ p ((σ p).1, (σ p).2.set s (mk5 (bnd (σ c).2) (nI c)))) δ ∧ Oc μ (tfM μ p s c (σ c).2.length) p := by
  have h0 := (h p hp.1 hp.2).1
  have hc0 := (h c hc.1 hc.2).1
  have hs := (List.getElem?_eq_some_iff.mp hx).1
  have h6 := h0.2.2.2.1
  have hpb : ∀ i, pgI p ≠ bxI p i := fun i => by unfold pgI bxI; omega
  have f1 := f5_s hc0
  have f2 := f5_t h hc0
  have f3 := f5_o hc0 p
  have f0 := (f2 p hp.1 hp.2).1
  show tR (if sameB ((f5 μ c (σ c).2.length).1 (bxI p s)) ((f5 μ c (σ c).2.length).1 5) = true then f5 μ c (σ c).2.length else wi (bec (f5 μ c (σ c).2.length) (bxI p s) 5) (pgI p) 2 1) _ δ ∧ Oc μ (if sameB ((f5 μ c (σ c).2.length).1 (bxI p s)) ((f5 μ c (σ c).2.length).1 5) = true then f5 μ c (σ c).2.length else wi (bec (f5 μ c (σ c).2.length) (bxI p s) 5) (pgI p) 2 1) p
  by_cases hh : sameB ((f5 μ c (σ c).2.length).1 (bxI p s)) ((f5 μ c (σ c).2.length).1 5) = true
  · rw [if_pos hh]
    refine ⟨?_, f3⟩
    rw [sa_tp, f1.2.2, f0.2.2.2.2 s x hx] at hh
    rw [← hh, set_same hx, upS_self]
    exact f2
  · rw [if_neg hh]
    have ho : Oc (f5 μ c (σ c).2.length) (wi (bec (f5 μ c (σ c).2.length) (bxI p s) 5) (pgI p) 2 1) p := ⟨rfl, fun i _ h h2 => by rw [wi_ne _ _ _ h, bec_n _ _ (h2 s (by omega))]⟩
    refine ⟨tR_up f2 ho hp ⟨?_, ?_, ⟨h0.2.2.1.1, fun e => by have e2 := h0.2.2.1.2 e; rw [e2] at hs; simp at hs⟩, by simpa using h6, fun i t ht => ?_⟩ ?_ ?_, f3.tr ho⟩
    · rw [wi_xy, if_neg (by omega), bec_n _ _ (hpb _)]
      exact f0.1
    · rw [wi_xy, if_neg (by omega), bec_n _ _ (hpb _), List.length_set]
      exact f0.2.1
    · rw [wi_ne _ _ _ (hpb i).symm]
      by_cases hi : i = s
      · subst hi
        rw [List.getElem?_set_self hs] at ht
        rw [bec_s, f1.2.2]
        exact Option.some.inj ht
      · rw [List.getElem?_set_ne (Ne.symm hi)] at ht
        rw [bec_n _ _ (by unfold bxI; omega)]
        exact f0.2.2.2.2 i t ht
    · rw [wi_xy, if_pos ⟨rfl, rfl⟩]
      exact tB1
    · intro hq
      rw [wi_xy, if_pos ⟨rfl, rfl⟩] at hq
      exact absurd hq n10
theorem hg_t {μ : Mu} {σ δ : Sg} {p q : Nat} (h : tR μ σ δ) (hp : 0 < p ∧ p < 40) (hq : 0 < q ∧ q < 40) (hu : (σ p).2.length < 6) (hz : (σ p).1 ≠ 0) : tR (hgM μ p q (σ q).2.length (σ p).2.length) (upS σ p ((σ p).1, (σ p).2 ++ [mk5 (bnd (σ q).2) (nI q)])) δ ∧ Oc μ (hgM μ p q (σ q).2.length (σ p).2.length) p := by
  have hq0 := (h q hq.1 hq.2).1
  have h1 := add_t (j := 5) (f5_t h hq0) hp hu hz
  rw [(f5_s hq0).2.2] at h1
  exact ⟨h1, (f5_o hq0 p).tr (add_o _ p _ 5 hu)⟩
