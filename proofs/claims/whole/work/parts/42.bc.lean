/-! THE REFERENCE'S LIST. -/
def Lst (ρ : Mu) (L : List T5) : Prop := ρ.1 0 2 = nI L.length ∧ ∀ (k : Nat) (t : T5), L[k]? = some t → tp (eB ρ k) = t
theorem tp_eB (ρ : Mu) (k : Nat) : tp (eB ρ k) = (ρ.1 1 (5 * k + 1), ρ.1 1 (5 * k + 2), ρ.1 1 (5 * k + 3), ρ.1 1 (5 * k + 4), ρ.1 1 (5 * k)) := rfl
theorem eB_of {ρ ρ' : Mu} {k k' : Nat} (h : ∀ j, j < 5 → ρ'.1 1 (5 * k' + j) = ρ.1 1 (5 * k + j)) : tp (eB ρ' k') = tp (eB ρ k) := by
  rw [tp_eB, tp_eB]
  have h0 := h 0 (by omega)
  rw [Nat.add_zero, Nat.add_zero] at h0
  rw [h0, h 1 (by omega), h 2 (by omega), h 3 (by omega), h 4 (by omega)]
/-- two neighbours change places -/
theorem sw1_at (μ : Mu) (i p x : Nat) (hp : p < 5) : (sw1 μ i p).1 1 x = if x = 5 * i + p then μ.1 1 (x + 5) else if x = 5 * i + 5 + p then μ.1 1 (x - 5) else μ.1 1 x := by
  unfold sw1
  rw [wi_at, wi_at]
  by_cases h1 : x = 5 * i + p
  · rw [if_pos ⟨rfl, h1⟩, if_pos h1, h1]
    exact congrArg (μ.1 1) (by omega)
  · rw [if_neg (fun h => h1 h.2), if_neg h1]
    by_cases h2 : x = 5 * i + 5 + p
    · rw [if_pos ⟨rfl, by omega⟩, if_pos h2]
      exact congrArg (μ.1 1) (by omega)
    · rw [if_neg (fun h => h2 (by have := h.2; omega)), if_neg h2]
theorem sw_l (i : Nat) : ∀ (r p : Nat) (μ : Mu), p + r = 5 → (swL i r p μ).2 = μ.2 ∧ (∀ a, a ≠ 1 → (swL i r p μ).1 a = μ.1 a) ∧ ∀ x, (swL i r p μ).1 1 x = if 5 * i + p ≤ x ∧ x < 5 * i + 5 then μ.1 1 (x + 5) else if 5 * i + 5 + p ≤ x ∧ x < 5 * i + 10 then μ.1 1 (x - 5) else μ.1 1 x := by
  intro r
  induction r with
  | zero =>
    intro p μ hp
    exact ⟨rfl, fun _ _ => rfl, fun x => by rw [if_neg (by omega), if_neg (by omega)]; rfl⟩
  | succ r ih =>
    intro p μ hp
    have h1 := ih (p + 1) (sw1 μ i p) (by omega)
    refine ⟨h1.1, fun a ha => ?_, fun x => ?_⟩
    · rw [swL, h1.2.1 a ha]
      unfold sw1
      rw [wi_ne _ _ _ ha, wi_ne _ _ _ ha]
    · rw [swL, h1.2.2 x]
      by_cases c1 : 5 * i + (p + 1) ≤ x ∧ x < 5 * i + 5
      · rw [if_pos c1, if_pos (by omega), sw1_at _ _ _ _ (by omega), if_neg (by omega), if_neg (by omega)]
      · rw [if_neg c1]
        by_cases c2 : 5 * i + 5 + (p + 1) ≤ x ∧ x < 5 * i + 10
        · rw [if_pos c2, if_neg (by omega), if_pos (by omega), sw1_at _ _ _ _ (by omega), if_neg (by omega), if_neg (by omega)]
        · rw [if_neg c2, sw1_at _ _ _ _ (by omega)]
          by_cases c3 : x = 5 * i + p
          · rw [if_pos c3, if_pos (by omega)]
          · rw [if_neg c3]
            by_cases c4 : x = 5 * i + 5 + p
            · rw [if_pos c4, if_neg (by omega), if_pos (by omega)]
            · rw [if_neg c4, if_neg (by omega), if_neg (by omega)]
theorem sw_e (i : Nat) (μ : Mu) (k : Nat) : tp (eB (swL i 5 0 μ) k) = if k = i then tp (eB μ (i + 1)) else if k = i + 1 then tp (eB μ i) else tp (eB μ k) := by
  have h := (sw_l i 5 0 μ rfl).2.2
  by_cases h1 : k = i
  · rw [if_pos h1]
    subst h1
    refine eB_of (fun j hj => ?_)
    rw [h, if_pos (by omega)]
    exact congrArg (μ.1 1) (by omega)
  · rw [if_neg h1]
    by_cases h2 : k = i + 1
    · rw [if_pos h2]
      subst h2
      refine eB_of (fun j hj => ?_)
      rw [h, if_neg (by omega), if_pos (by omega)]
      exact congrArg (μ.1 1) (by omega)
    · rw [if_neg h2]
      refine eB_of (fun j hj => ?_)
      rw [h, if_neg (by omega), if_neg (by omega)]
/-- sinking to its place -/
theorem is_l {t : T5} : ∀ (i : Nat) (A B : List T5) (ρ : Mu), A.length = i → (∀ (j : Nat) (x : T5), (A ++ t :: B)[j]? = some x → tp (eB ρ j) = x) → (A ++ B).Pairwise leT → (∀ x ∈ B, leT t x) → ((isL i ρ).2 = ρ.2 ∧ ∀ a, a ≠ 1 → (isL i ρ).1 a = ρ.1 a) ∧ ∃ F : List T5, F.Perm (t :: (A ++ B)) ∧ F.Pairwise leT ∧ ∀ (j : Nat) (x : T5), F[j]? = some x → tp (eB (isL i ρ) j) = x := by
  intro i
  induction i with
  | zero =>
    intro A B ρ hA hc hs hB
    have hA0 : A = [] := List.length_eq_zero_iff.mp hA
    subst hA0
    exact ⟨⟨rfl, fun _ _ => rfl⟩, t :: B, List.Perm.refl _, List.pairwise_cons.mpr ⟨hB, hs⟩, hc⟩
  | succ i ih =>
    intro A B ρ hA hc hs hB
    have hne : A ≠ [] := by
      intro h0
      rw [h0] at hA
      simp at hA
    obtain ⟨A', z, rfl⟩ : ∃ A' z, A = A' ++ [z] := ⟨A.dropLast, A.getLast hne, (List.dropLast_concat_getLast hne).symm⟩
    have hA' : A'.length = i := by simpa using hA
    have hAB : A' ++ [z] ++ B = A' ++ (z :: B) := by simp
    have hzt : A' ++ [z] ++ t :: B = A' ++ (z :: t :: B) := by simp
    have hz : tp (eB ρ i) = z := hc i z (by rw [hzt, List.getElem?_append_right (by omega), hA']; simp)
    have htt : tp (eB ρ (i + 1)) = t := hc (i + 1) t (by rw [List.getElem?_append_right (by omega), hA]; simp)
    rw [isL, pr_tp, hz, htt]
    by_cases hp : prT t z = true
    · rw [if_pos hp]
      have h1 := ih A' (z :: B) (swL i 5 0 ρ) hA' (fun j x hx => ?_) (by rw [← hAB]; exact hs) (fun x hx => by
        rcases List.mem_cons.mp hx with rfl | hx
        · exact le_of_pr hp
        · exact hB x hx)
      · obtain ⟨⟨g1, g2⟩, F, g3, g4, g5⟩ := h1
        have hsw := sw_l i 5 0 ρ rfl
        exact ⟨⟨g1.trans hsw.1, fun a ha => by rw [g2 a ha, hsw.2.1 a ha]⟩, F, by rw [hAB]; exact g3, g4, g5⟩
      · rw [sw_e]
        by_cases c1 : j = i
        · subst c1
          rw [if_pos rfl, htt]
          rw [List.getElem?_append_right (by omega), hA'] at hx
          simpa using hx
        · rw [if_neg c1]
          by_cases c2 : j = i + 1
          · subst c2
            rw [if_pos rfl, hz]
            rw [List.getElem?_append_right (by omega), hA', show i + 1 - i = 1 by omega] at hx
            simpa using hx
          · rw [if_neg c2]
            refine hc j x ?_
            rw [hzt]
            by_cases c3 : j < i
            · rw [List.getElem?_append_left (by omega)] at hx ⊢
              exact hx
            · rw [List.getElem?_append_right (by omega), hA'] at hx ⊢
              obtain ⟨y, hy⟩ : ∃ y, j - i = y + 2 := ⟨j - i - 2, by omega⟩
              rw [hy] at hx ⊢
              simpa using hx
    · rw [if_neg hp]
      have hp : leT z t := Bool.eq_false_iff.mpr hp
      have hs' := hs
      rw [List.pairwise_append] at hs'
      obtain ⟨s1, s2, s3⟩ := hs'
      have hAt : ∀ x ∈ A' ++ [z], leT x t := by
        intro x hx
        rcases List.mem_append.mp hx with hx | hx
        · rw [List.pairwise_append] at s1
          exact le_tr (s1.2.2 x hx z (by simp)) hp
        · have : x = z := by simpa using hx
          rw [this]
          exact hp
      refine ⟨⟨rfl, fun _ _ => rfl⟩, (A' ++ [z]) ++ t :: B, List.perm_middle, ?_, hc⟩
      rw [List.pairwise_append]
      refine ⟨s1, List.pairwise_cons.mpr ⟨hB, s2⟩, fun a ha b hb => ?_⟩
      rcases List.mem_cons.mp hb with rfl | hb
      · exact hAt a ha
      · exact s3 a ha b hb
theorem pt_at (μ : Mu) (m : Nat) (n a b c d : Int32) (k : Nat) : tp (eB (pt5 μ m n a b c d) k) = if k = m then (a, b, c, d, n) else tp (eB μ k) := by
  by_cases h : k = m
  · subst h
    rw [if_pos rfl, tp_eB]
    unfold pt5
    simp only [wi_at]
    simp
  · rw [if_neg h]
    refine eB_of (fun j hj => ?_)
    unfold pt5
    rw [wi_at, if_neg (by omega), wi_at, if_neg (by omega), wi_at, if_neg (by omega), wi_at, if_neg (by omega), wi_at, if_neg (by omega)]
theorem in_ok {ρ : Mu} {L : List T5} (h : Lst ρ L) (hs : L.Pairwise leT) (n a b c d : Int32) : ∃ L' : List T5, Lst (mIn ρ L.length n a b c d) L' ∧ L'.Perm ((a, b, c, d, n) :: L) ∧ L'.Pairwise leT ∧ ∀ k, k ≠ 2 → (mIn ρ L.length n a b c d).1 0 k = ρ.1 0 k := by
  have hpe : ∀ k, tp (eB (wi (pt5 ρ L.length n a b c d) 0 2 (nI (L.length + 1))) k) = if k = L.length then (a, b, c, d, n) else tp (eB ρ k) := fun k => by
    rw [← pt_at ρ L.length n a b c d k]
    refine eB_of (fun j hj => ?_)
    rw [wi_at, if_neg (by omega)]
  have h1 := is_l (t := (a, b, c, d, n)) L.length L [] (wi (pt5 ρ L.length n a b c d) 0 2 (nI (L.length + 1))) rfl (fun j x hx => by
    rw [hpe]
    by_cases hj : j = L.length
    · subst hj
      rw [if_pos rfl]
      simpa using hx
    · have hl := (List.getElem?_eq_some_iff.mp hx).1
      simp at hl
      rw [List.getElem?_append_left (by omega)] at hx
      rw [if_neg hj]
      exact h.2 j x hx) (by rw [List.append_nil]; exact hs) (fun x hx => by simp at hx)
  rw [List.append_nil] at h1
  obtain ⟨⟨g1, g2⟩, F, g3, g4, g5⟩ := h1
  refine ⟨F, ⟨?_, g5⟩, g3, g4, fun k hk => ?_⟩
  · unfold mIn
    rw [g2 0 (by omega), wi_at, if_pos ⟨rfl, rfl⟩, g3.length_eq]
    rfl
  · unfold mIn
    rw [g2 0 (by omega), wi_at, if_neg (by omega)]
    unfold pt5
    rw [wi_at, if_neg (by omega), wi_at, if_neg (by omega), wi_at, if_neg (by omega), wi_at, if_neg (by omega), wi_at, if_neg (by omega)]
/-- taking one out -/
theorem rm_l : ∀ (r i : Nat) (μ : Mu), (∀ a, a ≠ 1 → (rmL r i μ).1 a = μ.1 a) ∧ ∀ x, (rmL r i μ).1 1 x = if i ≤ x ∧ x < i + r then μ.1 1 (x + 5) else μ.1 1 x := by
  intro r
  induction r with
  | zero => exact fun i μ => ⟨fun _ _ => rfl, fun x => by rw [if_neg (by omega)]; rfl⟩
  | succ r ih =>
    intro i μ
    have h1 := ih (i + 1) (wi μ 1 i (μ.1 1 (i + 5)))
    refine ⟨fun a ha => by rw [rmL, h1.1 a ha, wi_ne _ _ _ ha], fun x => ?_⟩
    rw [rmL, h1.2 x]
    by_cases c1 : i + 1 ≤ x ∧ x < i + 1 + r
    · rw [if_pos c1, if_pos (by omega), wi_at, if_neg (by omega)]
    · rw [if_neg c1, wi_at]
      by_cases c2 : x = i
      · rw [if_pos ⟨rfl, c2⟩, if_pos (by omega), c2]
      · rw [if_neg (fun h => c2 h.2), if_neg (by omega)]
theorem rm_ok {ρ : Mu} {L : List T5} {k : Nat} (h : Lst ρ L) (hk : k < L.length) : Lst (mRm ρ L.length k) (L.eraseIdx k) ∧ ∀ j, j ≠ 2 → (mRm ρ L.length k).1 0 j = ρ.1 0 j := by
  have h1 := rm_l (5 * (L.length - 1) - 5 * k) (5 * k) (wi ρ 0 2 (nI (L.length - 1)))
  have hw : ∀ x, (wi ρ 0 2 (nI (L.length - 1))).1 1 x = ρ.1 1 x := fun x => by rw [wi_at, if_neg (by omega)]
  have hlen := List.length_eraseIdx_of_lt hk
  refine ⟨⟨?_, fun j t ht => ?_⟩, fun j hj => ?_⟩
  · unfold mRm
    rw [h1.1 0 (by omega), wi_at, if_pos ⟨rfl, rfl⟩, hlen]
  · have hj := (List.getElem?_eq_some_iff.mp ht).1
    rw [hlen] at hj
    rw [List.getElem?_eraseIdx] at ht
    by_cases c : j < k
    · rw [if_pos c] at ht
      rw [← h.2 j t ht]
      refine eB_of (fun i hi => ?_)
      unfold mRm
      rw [h1.2, if_neg (by omega), hw]
    · rw [if_neg c] at ht
      rw [← h.2 (j + 1) t ht]
      refine eB_of (fun i hi => ?_)
      unfold mRm
      rw [h1.2, if_pos (by omega), hw]
      exact congrArg (ρ.1 1) (by omega)
  · unfold mRm
    rw [h1.1 0 (by omega), wi_at, if_neg (by omega)]
/-- the last that is the same -/
theorem dl_ok {ρ : Mu} {L : List T5} (h : Lst ρ L) (n a b c d : Int32) : ∀ (r k : Nat) (f : Int32), k + r = L.length → ((∀ j, k ≤ j → L[j]? ≠ some (a, b, c, d, n)) ∧ dlF ρ n a b c d r k f = f) ∨ ∃ j, k ≤ j ∧ L[j]? = some (a, b, c, d, n) ∧ dlF ρ n a b c d r k f = nI j := by
  intro r
  induction r with
  | zero =>
    intro k f hk
    refine Or.inl ⟨fun j hj he => ?_, rfl⟩
    have := (List.getElem?_eq_some_iff.mp he).1
    omega
  | succ r ih =>
    intro k f hk
    have hkl : k < L.length := by omega
    have he : L[k]? = some L[k] := List.getElem?_eq_getElem hkl
    have hc := h.2 k _ he
    have hs : sameB (eB ρ k) (w5 a b c d n) = true ↔ L[k] = (a, b, c, d, n) := by
      rw [sa_tp, hc]
      rfl
    rcases ih (k + 1) (if sameB (eB ρ k) (w5 a b c d n) = true then nI k else f) (by omega) with ⟨h1, h2⟩ | ⟨j, h1, h2, h3⟩
    · by_cases hh : sameB (eB ρ k) (w5 a b c d n) = true
      · rw [if_pos hh] at h2
        refine Or.inr ⟨k, Nat.le_refl _, by rw [he, hs.mp hh], ?_⟩
        rw [dlF, if_pos hh]
        exact h2
      · rw [if_neg hh] at h2
        refine Or.inl ⟨fun j hj hj2 => ?_, by rw [dlF, if_neg hh]; exact h2⟩
        by_cases hjk : j = k
        · subst hjk
          rw [he] at hj2
          exact hh (hs.mpr (Option.some.inj hj2))
        · exact h1 j (by omega) hj2
    · exact Or.inr ⟨j, by omega, h2, h3⟩
/-- one of those that meet -/
theorem mt_ok {ρ : Mu} {L : List T5} (h : Lst ρ L) (h40 : L.length ≤ 40) (a b c d : Int32) : ∀ (r k f : Nat), k + r = L.length → f < 2 ^ 31 → (∀ t, (fl (a, b, c, d, 0) (L.drop k))[f]? = some t → ∃ j, L[j]? = some t ∧ mtF ρ a b c d r k (nI f) = nI j) ∧ ((fl (a, b, c, d, 0) (L.drop k)).length ≤ f → mtF ρ a b c d r k (nI f) = -1) := by
  intro r
  induction r with
  | zero =>
    intro k f hk hf
    rw [List.drop_of_length_le (by omega)]
    exact ⟨fun t ht => by simp [fl] at ht, fun _ => rfl⟩
  | succ r ih =>
    intro k f hk hf
    have hkl : k < L.length := by omega
    have he : L[k]? = some L[k] := List.getElem?_eq_getElem hkl
    have hc := h.2 k _ he
    have hd : L.drop k = L[k] :: L.drop (k + 1) := List.drop_eq_getElem_cons hkl
    have hm : meetB (eB ρ k) (w5 a b c d 0) = meT L[k] (a, b, c, d, 0) := by
      rw [me_tp, hc]
      rfl
    rw [hd, mtF, hm]
    generalize L[k] = t0 at he hm
    by_cases hh : meT t0 (a, b, c, d, 0) = true
    · have hfl : fl (a, b, c, d, 0) (t0 :: L.drop (k + 1)) = t0 :: fl (a, b, c, d, 0) (L.drop (k + 1)) := by
        unfold fl
        rw [List.filter_cons, if_pos hh]
      rw [if_pos hh, hfl]
      cases f with
      | zero =>
        rw [if_pos nI_0]
        exact ⟨fun t ht => ⟨k, by rw [he]; simpa using ht, rfl⟩, fun hl => by simp at hl⟩
      | succ f =>
        rw [if_neg (nI_ne0 (by omega) hf), nI_pred]
        have h1 := ih (k + 1) f (by omega) (by omega)
        exact ⟨fun t ht => h1.1 t (by simpa using ht), fun hl => h1.2 (by simpa using hl)⟩
    · have hfl : fl (a, b, c, d, 0) (t0 :: L.drop (k + 1)) = fl (a, b, c, d, 0) (L.drop (k + 1)) := by
        unfold fl
        rw [List.filter_cons, if_neg hh]
      rw [if_neg hh, hfl]
      exact ih (k + 1) f (by omega) hf
/-- counting -/
theorem cn_ok {ρ : Mu} {L : List T5} (h : Lst ρ L) (p : (Nat → Int32) → Bool) (p' : T5 → Bool) (hp : ∀ f, p f = p' (tp f)) : ∀ k, k ≤ L.length → cnF ρ p k = ((L.take k).filter p').length := by
  intro k
  induction k with
  | zero => exact fun _ => rfl
  | succ k ih =>
    intro hk
    have he : L[k]? = some L[k] := List.getElem?_eq_getElem (by omega)
    rw [cnF, ih (by omega), hp, h.2 k _ he, List.take_succ_eq_append_getElem (by omega), List.filter_append, List.length_append]
    congr 1
    rw [List.filter_cons, List.filter_nil]
    split <;> rfl
