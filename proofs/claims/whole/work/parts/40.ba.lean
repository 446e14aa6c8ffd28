/-! SEARCHES: what waits, what was looked into, what was found. -/
theorem wl_at (μ : Mu) (i k : Nat) (x : Int64) (a b : Nat) : (wl μ i k x).2 a b = if a = i ∧ b = k then x else μ.2 a b := by
  by_cases h : a = i
  · subst h
    rw [wl_self]
    by_cases hb : b = k
    · subst hb
      rw [if_pos ⟨rfl, rfl⟩]
      simp [vp_updL]
    · rw [if_neg (fun h => hb h.2)]
      simp [vp_updL, hb]
  · rw [wl_ne _ _ _ h, if_neg (fun q => h q.1)]
section DRG
variable {α : Type}
def drg (l : List α) (k : Nat) : List α := match l.getLast? with
  | some t => (l.set k t).dropLast
  | none => l
theorem eg_perm {l : List α} {k : Nat} {x : α} (h : l[k]? = some x) : l.Perm (x :: l.eraseIdx k) := by
  obtain ⟨hk, rfl⟩ := List.getElem?_eq_some_iff.mp h
  have h1 : l = l.take k ++ l[k] :: l.drop (k + 1) := by
    rw [List.getElem_cons_drop, List.take_append_drop]
  have h2 : l.eraseIdx k = l.take k ++ l.drop (k + 1) := List.eraseIdx_eq_take_drop_succ ..
  rw [h2]
  exact (List.Perm.of_eq h1).trans List.perm_middle
theorem eg_set {l : List α} {k : Nat} {x y : α} (h : l[k]? = some x) : (l.set k y).Perm (y :: l.eraseIdx k) := by
  have hk := (List.getElem?_eq_some_iff.mp h).1
  have := eg_perm (l := l.set k y) (k := k) (x := y) (by rw [List.getElem?_set_self hk])
  rw [List.eraseIdx_set_eq] at this
  exact this
theorem drg_len {l : List α} (k : Nat) : (drg l k).length = l.length - 1 := by
  unfold drg
  cases h : l.getLast? with
  | none => rw [List.getLast?_eq_none_iff.mp h]; rfl
  | some t => simp
theorem drg_get {l : List α} {k j : Nat} (hj : j < l.length - 1) : (drg l k)[j]? = if j = k then l[l.length - 1]? else l[j]? := by
  unfold drg
  cases h : l.getLast? with
  | none => rw [List.getLast?_eq_none_iff.mp h] at hj; simp at hj
  | some t =>
    rw [List.getLast?_eq_getElem?] at h
    simp only [List.getElem?_dropLast, List.length_set]
    rw [if_pos hj]
    split
    · subst j
      rw [List.getElem?_set_self (by omega), h]
    · rw [List.getElem?_set_ne (by omega)]
theorem drg_perm {l : List α} {k : Nat} {x : α} (h : l[k]? = some x) : l.Perm (x :: drg l k) := by
  have hk := (List.getElem?_eq_some_iff.mp h).1
  unfold drg
  cases hl : l.getLast? with
  | none => rw [List.getLast?_eq_none_iff.mp hl] at hk; simp at hk
  | some t =>
    have h1 : l.Perm (x :: l.eraseIdx k) := eg_perm h
    have h2 : (l.set k t).Perm (t :: l.eraseIdx k) := eg_set h
    have hne : l.set k t ≠ [] := by
      intro h0
      have := congrArg List.length h0
      simp at this
      rw [this] at hk
      simp at hk
    have h3 : l.set k t = (l.set k t).dropLast ++ [t] := by
      have h4 := (List.dropLast_concat_getLast hne).symm
      have h5 : (l.set k t).getLast hne = t := by
        rw [List.getLast_eq_getElem, List.getElem_set]
        rw [List.getLast?_eq_getElem?] at hl
        obtain ⟨h6, h7⟩ := List.getElem?_eq_some_iff.mp hl
        simp only [List.length_set]
        split
        · rfl
        · exact h7
      rw [h5] at h4
      exact h4
    have h6 : (t :: (l.set k t).dropLast).Perm (t :: l.eraseIdx k) := by
      refine List.Perm.trans ?_ h2
      conv => rhs; rw [h3]
      exact (List.perm_append_singleton _ _).symm
    exact h1.trans (List.Perm.cons _ (List.Perm.cons_inv h6).symm)
end DRG
/-- what waits: level, page, square; what was looked into -/
abbrev Qe : Type := Nat × Nat × Int64
def Sq (ν : Mu) (Q : List Qe) (Kl : List Nat) : Prop := ν.1 3 6 = nI Q.length ∧ (∀ (i : Nat) (e : Qe), Q[i]? = some e → ν.1 16 i = nI e.2.1 ∧ ν.2 17 i = e.2.2) ∧ ν.1 3 8 = nI Kl.length ∧ ∀ (i q : Nat), Kl[i]? = some q → ν.1 18 i = nI q
/-- what a queue's step leaves -/
def Fw (μ ν : Mu) : Prop := (∀ i, i ≠ 3 → i ≠ 16 → i ≠ 18 → ν.1 i = μ.1 i) ∧ (∀ k, k ≠ 6 → k ≠ 8 → ν.1 3 k = μ.1 3 k) ∧ ∀ k, ν.2 3 k = μ.2 3 k
theorem Fw.tr {a b c : Mu} (h : Fw a b) (k : Fw b c) : Fw a c := ⟨fun i h1 h2 h3 => (k.1 i h1 h2 h3).trans (h.1 i h1 h2 h3), fun i h1 h2 => (k.2.1 i h1 h2).trans (h.2.1 i h1 h2), fun i => (k.2.2 i).trans (h.2.2 i)⟩
theorem aw_f (μ : Mu) (g : Nat) (n : Int32) (sq : Int64) : Fw μ (awM μ g n sq) := by
  unfold awM
  refine ⟨fun i h1 h2 _ => ?_, fun k h1 _ => ?_, fun k => ?_⟩
  · rw [wi_ne _ _ _ h1]
    show (wi μ 16 g n).1 i = _
    rw [wi_ne _ _ _ h2]
  · rw [wi_at, if_neg (by omega)]
    show (wi μ 16 g n).1 3 k = _
    rw [wi_at, if_neg (by omega)]
  · show (wl (wi μ 16 g n) 17 g sq).2 3 k = _
    rw [wl_at, if_neg (by omega)]
    rfl
theorem aw_ok {ν : Mu} {Q : List Qe} {Kl : List Nat} (h : Sq ν Q Kl) (e : Qe) : Sq (awM ν Q.length (nI e.2.1) e.2.2) (Q ++ [e]) Kl := by
  obtain ⟨h1, h2, h3, h4⟩ := h
  have w16 : ∀ k, (awM ν Q.length (nI e.2.1) e.2.2).1 16 k = if k = Q.length then nI e.2.1 else ν.1 16 k := fun k => by
    unfold awM
    rw [wi_at, if_neg (by omega)]
    show (wi ν 16 Q.length (nI e.2.1)).1 16 k = _
    rw [wi_at]
    simp
  have w17 : ∀ k, (awM ν Q.length (nI e.2.1) e.2.2).2 17 k = if k = Q.length then e.2.2 else ν.2 17 k := fun k => by
    show (wl (wi ν 16 Q.length (nI e.2.1)) 17 Q.length e.2.2).2 17 k = _
    rw [wl_at]
    by_cases hk : k = Q.length
    · rw [if_pos ⟨rfl, hk⟩, if_pos hk]
    · rw [if_neg (fun h => hk h.2), if_neg hk]
      rfl
  refine ⟨?_, fun i x hx => ?_, ?_, fun i q hq => ?_⟩
  · unfold awM
    rw [wi_at, if_pos ⟨rfl, rfl⟩, List.length_append]
    rfl
  · rw [w16, w17]
    by_cases hi : i = Q.length
    · subst hi
      simp at hx
      subst hx
      rw [if_pos rfl, if_pos rfl]
      exact ⟨rfl, rfl⟩
    · have hl := (List.getElem?_eq_some_iff.mp hx).1
      simp at hl
      rw [List.getElem?_append_left (by omega)] at hx
      rw [if_neg hi, if_neg hi]
      exact h2 i x hx
  · unfold awM
    rw [wi_at, if_neg (by omega)]
    show (wi ν 16 Q.length (nI e.2.1)).1 3 8 = _
    rw [wi_at, if_neg (by omega)]
    exact h3
  · unfold awM
    rw [wi_at, if_neg (by omega)]
    show (wi ν 16 Q.length (nI e.2.1)).1 18 i = _
    rw [wi_at, if_neg (by omega)]
    exact h4 i q hq
theorem bg_f (μ : Mu) (n : Int32) : Fw μ (bgM μ n) := by
  have h1 : Fw μ (wi (wi μ 3 6 0) 3 8 0) := ⟨fun i h _ _ => by rw [wi_ne _ _ _ h, wi_ne _ _ _ h], fun k h1 h2 => by rw [wi_at, if_neg (by omega), wi_at, if_neg (by omega)], fun _ => rfl⟩
  exact h1.tr (aw_f _ 0 n 0)
theorem bg_ok (μ : Mu) (v r : Nat) : Sq (bgM μ (nI r)) [(v, r, 0)] [] := by
  have h0 : Sq (wi (wi μ 3 6 0) 3 8 0) [] [] := by
    refine ⟨?_, fun i e he => by simp at he, ?_, fun i e he => by simp at he⟩
    · rw [wi_at, if_neg (by omega), wi_at, if_pos ⟨rfl, rfl⟩]
      exact nI_0.symm
    · rw [wi_at, if_pos ⟨rfl, rfl⟩]
      exact nI_0.symm
  exact aw_ok h0 (v, r, 0)
theorem li_16 (μ : Mu) (j g k q a : Nat) : (liM μ j g k q).1 16 a = if a = j then μ.1 16 g else μ.1 16 a := by
  unfold liM
  rw [wi_at, if_neg (by omega), wi_at, if_neg (by omega)]
  show (li1 μ j g).1 16 a = _
  unfold li1
  rw [wi_at]
  have h : ∀ b, (wi μ 3 6 (nI g)).1 16 b = μ.1 16 b := fun b => by rw [wi_at, if_neg (by omega)]
  rw [h, h]
  simp
theorem li_17 (μ : Mu) (j g k q a : Nat) : (liM μ j g k q).2 17 a = if a = j then μ.2 17 g else μ.2 17 a := by
  show (li2 μ j g).2 17 a = _
  unfold li2
  rw [wl_at]
  by_cases hk : a = j
  · rw [if_pos ⟨rfl, hk⟩, if_pos hk]
    rfl
  · rw [if_neg (fun h => hk h.2), if_neg hk]
    rfl
theorem li_18 (μ : Mu) (j g k q a : Nat) : (liM μ j g k q).1 18 a = if a = k then nI q else μ.1 18 a := by
  unfold liM
  rw [wi_at, if_neg (by omega), wi_at]
  have h : (li2 μ j g).1 18 a = μ.1 18 a := by
    show (li1 μ j g).1 18 a = _
    unfold li1
    rw [wi_at, if_neg (by omega), wi_at, if_neg (by omega)]
  rw [h]
  simp
theorem li_f (μ : Mu) (j g k q : Nat) : Fw μ (liM μ j g k q) := by
  have h1 : ∀ a, (li2 μ j g).1 a = (li1 μ j g).1 a := fun _ => rfl
  refine ⟨fun i h3 h16 h18 => ?_, fun c h6 h8 => ?_, fun c => ?_⟩
  · unfold liM
    rw [wi_ne _ _ _ h3, wi_ne _ _ _ h18, h1]
    unfold li1
    rw [wi_ne _ _ _ h16, wi_ne _ _ _ h3]
  · unfold liM
    rw [wi_at, if_neg (by omega), wi_at, if_neg (by omega), h1]
    unfold li1
    rw [wi_at, if_neg (by omega), wi_at, if_neg (by omega)]
  · show (li2 μ j g).2 3 c = _
    unfold li2
    rw [wl_at, if_neg (by omega)]
    rfl
theorem li_ok {ν : Mu} {Q : List Qe} {Kl : List Nat} {j : Nat} {e : Qe} (h : Sq ν Q Kl) (hj : Q[j]? = some e) : Sq (liM ν j (Q.length - 1) Kl.length e.2.1) (drg Q j) (Kl ++ [e.2.1]) := by
  obtain ⟨h1, h2, h3, h4⟩ := h
  have hlt := (List.getElem?_eq_some_iff.mp hj).1
  refine ⟨?_, fun i x hx => ?_, ?_, fun i q hq => ?_⟩
  · rw [drg_len]
    unfold liM
    rw [wi_at, if_neg (by omega), wi_at, if_neg (by omega)]
    show (li1 ν j (Q.length - 1)).1 3 6 = _
    unfold li1
    rw [wi_at, if_neg (by omega), wi_at, if_pos ⟨rfl, rfl⟩]
  · have hl := (List.getElem?_eq_some_iff.mp hx).1
    rw [drg_len] at hl
    rw [drg_get hl] at hx
    rw [li_16, li_17]
    by_cases hi : i = j
    · rw [if_pos hi] at hx
      rw [if_pos hi, if_pos hi]
      exact h2 _ x hx
    · rw [if_neg hi] at hx
      rw [if_neg hi, if_neg hi]
      exact h2 i x hx
  · unfold liM
    rw [wi_at, if_pos ⟨rfl, rfl⟩, List.length_append]
    rfl
  · rw [li_18]
    by_cases hi : i = Kl.length
    · subst hi
      simp at hq
      rw [if_pos rfl, hq]
    · have hl := (List.getElem?_eq_some_iff.mp hq).1
      simp at hl
      rw [List.getElem?_append_left (by omega)] at hq
      rw [if_neg hi]
      exact h4 i q hq
/-- what was found, in order -/
def Fnd (ν : Mu) (F : List T5) : Prop := ν.1 3 1 = nI F.length ∧ F.Pairwise leT ∧ ∀ (i : Nat) (t : T5), F[i]? = some t → tp (ν.1 (fdI i)) = t
theorem Fnd_eq {μ ν : Mu} {F : List T5} (h : Fnd μ F) (h40 : F.length ≤ 40) (h1 : ν.1 3 1 = μ.1 3 1) (h2 : ∀ i, i < 40 → ν.1 (fdI i) = μ.1 (fdI i)) : Fnd ν F := ⟨h1.trans h.1, h.2.1, fun i t ht => by rw [h2 i (by have := (List.getElem?_eq_some_iff.mp ht).1; omega)]; exact h.2.2 i t ht⟩
theorem ko_l {e : Nat} {t : T5} (he : ¬ (179 ≤ e ∧ e < 219)) : ∀ (p : Nat) (A B : List T5) (μ : Mu), A.length = p → tp (μ.1 e) = t → (∀ (i : Nat) (x : T5), A[i]? = some x → tp (μ.1 (fdI i)) = x) → (∀ (i : Nat) (x : T5), B[i]? = some x → tp (μ.1 (fdI (p + 1 + i))) = x) → p + 1 + B.length ≤ 40 → (A ++ B).Pairwise leT → (∀ x ∈ B, leT t x) → ((koL e p μ).2 = μ.2 ∧ ∀ a, ¬ (179 ≤ a ∧ a < 219) → (koL e p μ).1 a = μ.1 a) ∧ ∃ F : List T5, F.Perm (t :: (A ++ B)) ∧ F.Pairwise leT ∧ ∀ (i : Nat) (x : T5), F[i]? = some x → tp ((koL e p μ).1 (fdI i)) = x := by
  intro p
  induction p with
  | zero =>
    intro A B μ hA hte hAc hBc h40 hs hB
    have hA0 : A = [] := List.length_eq_zero_iff.mp hA
    subst hA0
    refine ⟨⟨rfl, fun a ha => bec_n _ _ (by unfold fdI; omega)⟩, t :: B, List.Perm.refl _, List.pairwise_cons.mpr ⟨hB, hs⟩, fun i x hx => ?_⟩
    cases i with
    | zero =>
      have hx : t = x := by simpa using hx
      show tp ((bec μ (fdI 0) e).1 (fdI 0)) = x
      rw [bec_s, hte, hx]
    | succ i =>
      have hx : B[i]? = some x := by simpa using hx
      have h9 := hBc i x hx
      rw [show 0 + 1 + i = i + 1 by omega] at h9
      show tp ((bec μ (fdI 0) e).1 (fdI (i + 1))) = x
      rw [bec_n _ _ (by unfold fdI; omega)]
      exact h9
  | succ p ih =>
    intro A B μ hA hte hAc hBc h40 hs hB
    have hne : A ≠ [] := by
      intro h0
      rw [h0] at hA
      simp at hA
    obtain ⟨A', z, rfl⟩ : ∃ A' z, A = A' ++ [z] := ⟨A.dropLast, A.getLast hne, (List.dropLast_concat_getLast hne).symm⟩
    have hA' : A'.length = p := by simpa using hA
    have hz : tp (μ.1 (fdI p)) = z := hAc p z (by rw [← hA']; simp)
    have hAB : A' ++ [z] ++ B = A' ++ (z :: B) := by simp
    rw [koL, pr_tp, hte, hz]
    by_cases hp : prT t z = true
    · rw [if_pos hp]
      have hen : e ≠ fdI (p + 1) := by
        have hB0 : p + 1 + 1 + B.length ≤ 40 := h40
        unfold fdI
        omega
      have h1 := ih A' (z :: B) (bec μ (fdI (p + 1)) (fdI p)) hA' (by rw [bec_n _ _ hen]; exact hte) (fun i x hx => by
        have hl := (List.getElem?_eq_some_iff.mp hx).1
        rw [bec_n _ _ (by unfold fdI; omega)]
        exact hAc i x (by rw [List.getElem?_append_left hl]; exact hx)) (fun i x hx => by
        cases i with
        | zero =>
          have hx : z = x := by simpa using hx
          rw [Nat.add_zero, bec_s, hz, hx]
        | succ i =>
          have hx : B[i]? = some x := by simpa using hx
          have h9 := hBc i x hx
          rw [show p + 1 + 1 + i = p + 1 + (i + 1) by omega] at h9
          rw [bec_n _ _ (by unfold fdI; omega)]
          exact h9) (by simp only [List.length_cons]; omega) (by rw [← hAB]; exact hs) (fun x hx => by
        rcases List.mem_cons.mp hx with rfl | hx
        · exact le_of_pr hp
        · exact hB x hx)
      obtain ⟨⟨g1, g2⟩, F, g3, g4, g5⟩ := h1
      refine ⟨⟨g1, fun a ha => by rw [g2 a ha, bec_n _ _ (by unfold fdI; omega)]⟩, F, ?_, g4, g5⟩
      rw [hAB]
      exact g3
    · rw [if_neg hp]
      have hp : leT z t := Bool.eq_false_iff.mpr hp
      have hs' := hs
      rw [List.pairwise_append] at hs'
      obtain ⟨s1, s2, s3⟩ := hs'
      have hAt : ∀ x ∈ A' ++ [z], leT x t := by
        intro x hx
        rcases List.mem_append.mp hx with hx | hx
        · rw [List.pairwise_append] at s1
          exact le_tr (s1.2.2 x hx z (by simp)) hp
        · have : x = z := by simpa using hx
          rw [this]
          exact hp
      refine ⟨⟨rfl, fun a ha => bec_n _ _ (by unfold fdI; omega)⟩, (A' ++ [z]) ++ t :: B, List.perm_middle, ?_, fun i x hx => ?_⟩
      · rw [List.pairwise_append]
        refine ⟨s1, List.pairwise_cons.mpr ⟨hB, s2⟩, fun a ha b hb => ?_⟩
        rcases List.mem_cons.mp hb with rfl | hb
        · exact hAt a ha
        · exact s3 a ha b hb
      · by_cases hi : i < p + 1
        · rw [List.getElem?_append_left (by rw [hA]; exact hi)] at hx
          rw [bec_n _ _ (by unfold fdI; omega)]
          exact hAc i x hx
        · rw [List.getElem?_append_right (by rw [hA]; omega), hA] at hx
          by_cases hi2 : i = p + 1
          · subst hi2
            have hx : t = x := by simpa using hx
            rw [bec_s, hte, hx]
          · obtain ⟨j, rfl⟩ : ∃ j, i = p + 1 + 1 + j := ⟨i - (p + 1 + 1), by omega⟩
            rw [show p + 1 + 1 + j - (p + 1) = j + 1 by omega] at hx
            have hx : B[j]? = some x := by simpa using hx
            rw [bec_n _ _ (by unfold fdI; omega)]
            exact hBc j x hx
theorem ko_ok {ν : Mu} {F : List T5} {e : Nat} (h : Fnd ν F) (h40 : F.length < 40) (he : ¬ (179 ≤ e ∧ e < 219)) : ((∀ a, a ≠ 3 → ¬ (179 ≤ a ∧ a < 219) → (koM ν e F.length).1 a = ν.1 a) ∧ (∀ k, k ≠ 1 → (koM ν e F.length).1 3 k = ν.1 3 k) ∧ (koM ν e F.length).2 = ν.2) ∧ ∃ F' : List T5, F'.Perm (tp (ν.1 e) :: F) ∧ Fnd (koM ν e F.length) F' := by
  have h1 := ko_l (t := tp (ν.1 e)) he F.length F [] ν rfl rfl h.2.2 (fun i x hx => by simp at hx) (by simp; omega) (by rw [List.append_nil]; exact h.2.1) (fun x hx => by simp at hx)
  obtain ⟨⟨g1, g2⟩, F', g3, g4, g5⟩ := h1
  rw [List.append_nil] at g3
  refine ⟨⟨fun a h3 ha => ?_, fun k hk => ?_, ?_⟩, F', g3, ?_, g4, fun i t ht => ?_⟩
  · unfold koM
    rw [wi_ne _ _ _ h3, g2 a ha]
  · unfold koM
    rw [wi_at, if_neg (by omega), g2 3 (by omega)]
  · exact g1
  · unfold koM
    rw [wi_at, if_pos ⟨rfl, rfl⟩, g3.length_eq]
    rfl
  · unfold koM
    rw [wi_ne _ _ _ (by unfold fdI; omega)]
    exact g5 i t ht
