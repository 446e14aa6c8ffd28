/-! NEARNESS: class and reference. -/
theorem nr_ok {ρ : Mu} {x y : Int32} : ∀ (r k b : Nat), b < k → (∀ j, j < k → (sqB (eB ρ b) x y).toInt < (sqB (eB ρ j) x y).toInt ∨ ((sqB (eB ρ b) x y).toInt = (sqB (eB ρ j) x y).toInt ∧ b ≤ j)) → nrF ρ x y r k b < k + r ∧ ∀ j, j < k + r → (sqB (eB ρ (nrF ρ x y r k b)) x y).toInt < (sqB (eB ρ j) x y).toInt ∨ ((sqB (eB ρ (nrF ρ x y r k b)) x y).toInt = (sqB (eB ρ j) x y).toInt ∧ nrF ρ x y r k b ≤ j) := by
  intro r
  induction r with
  | zero => exact fun k b hb h => ⟨hb, h⟩
  | succ r ih =>
    intro k b hb h
    rw [nrF]
    by_cases hc : sqB (eB ρ k) x y < sqB (eB ρ b) x y
    · rw [if_pos hc]
      rw [Int64.lt_iff_toInt_lt] at hc
      have h1 := ih (k + 1) k (by omega) (fun j hj => by
        by_cases hjk : j = k
        · subst hjk
          exact Or.inr ⟨rfl, Nat.le_refl _⟩
        · have := h j (by omega)
          omega)
      rw [show k + (r + 1) = k + 1 + r by omega]
      exact h1
    · rw [if_neg hc]
      rw [Int64.lt_iff_toInt_lt] at hc
      have h1 := ih (k + 1) b (by omega) (fun j hj => by
        by_cases hjk : j = k
        · subst hjk
          omega
        · exact h j (by omega))
      rw [show k + (r + 1) = k + 1 + r by omega]
      exact h1
theorem Bt_uq {E : List T5} {x y : Int32} {c d : T5} (h : Bt E x y c) (k : Bt E x y d) : c = d := by
  have h1 := h.2 d k.1
  have h2 := k.2 c h.1
  rcases h1 with h1 | ⟨h1, h3⟩
  · rcases h2 with h2 | ⟨h2, _⟩ <;> omega
  · rcases h2 with h2 | ⟨h2, h4⟩
    · omega
    · exact le_as h3 h4
theorem nr_bt {ρ : Mu} {L : List T5} {x y : Int32} (h : Lst ρ L) (hs : L.Pairwise leT) (hok : ∀ t ∈ L, okE t) (h40 : L.length ≤ 40) (hne : L ≠ []) (hx : isCo x = true) (hy : isCo y = true) : ∃ b t, nrN ρ L.length x y = nI b ∧ b < 40 ∧ L[b]? = some t ∧ Bt L x y t := by
  have hpos : 0 < L.length := List.length_pos_iff.mpr hne
  have h1 := nr_ok (ρ := ρ) (x := x) (y := y) (L.length - 1) 1 0 (by omega) (fun j hj => by
    have : j = 0 := by omega
    subst this
    exact Or.inr ⟨rfl, Nat.le_refl _⟩)
  have hn : nrN ρ L.length x y = nI (nrF ρ x y (L.length - 1) 1 0) := if_pos ⟨hx, hy, hpos⟩
  generalize nrF ρ x y (L.length - 1) 1 0 = b at h1 hn
  have hb : b < L.length := by omega
  have he : L[b]? = some L[b] := List.getElem?_eq_getElem hb
  have hsq : ∀ j t, L[j]? = some t → (sqB (eB ρ j) x y).toInt = sI t x y := fun j t hj => by
    rw [sq_tp, h.2 j t hj]
    exact (sq_I (hok t (List.mem_of_getElem? hj)).1.1 hx hy).1
  refine ⟨b, L[b], hn, by omega, he, List.getElem_mem hb, fun t ht => ?_⟩
  obtain ⟨j, hj⟩ := List.getElem?_of_mem ht
  have hjl := (List.getElem?_eq_some_iff.mp hj).1
  have h2 := h1.2 j (by omega)
  rw [hsq j t hj, hsq b _ he] at h2
  refine h2.imp id (fun h2 => ⟨h2.1, ?_⟩)
  by_cases hbj : b = j
  · subst hbj
    rw [he] at hj
    rw [Option.some.inj hj]
    exact le_rf t
  · obtain ⟨h5, h6⟩ := List.getElem?_eq_some_iff.mp hj
    have := List.pairwise_iff_getElem.mp hs b j hb h5 (by omega)
    rw [h6] at this
    exact this
theorem sp_ok {μ ρ : Mu} {L : List T5} {x y : Int32} {K : Mu → Prop} (hS : Sim μ ρ L) (h0 : ¬ μ.1 0 4 = 0) (hx : isCo x = true) (hy : isCo y = true) (hne : L ≠ []) (kk : ∀ ν, SimE ν ρ → Bt L x y (tp (ν.1 7)) → ν.2 3 3 = sqT (tp (ν.1 7)) x y → K ν) : spW μ x y K := by
  obtain ⟨h1, σ, v, r, hR⟩ := hS.run h0
  refine ap_top hx hy hR.1 hR.2.2.1 hS.len hne hR.2.2.2.2.1 (fun ν Q Kl f1 f2 f3 f4 f5 f6 => ?_)
  refine ⟨Kl.length, by omega, f2.2.2.1, lf_okk (δ := σ) Kl.length 0 ν (f1.t hR.1) (by rw [f1 2 (by omega) (by omega) (by omega) (by omega) (by omega) (by omega)]; exact hR.2.2.2.2.1) f2.2.2.2 f6 (by omega) (fun ν' k1 k2 => ?_)⟩
  have w0 : ∀ i, i ≠ 0 → i ≠ 8 → (wi ν' 0 5 (bI true)).1 i = ν.1 i := fun i x1 x2 => by rw [wi_ne _ _ _ x1, k1 i x2]
  have z0 : ∀ k, k ≠ 5 → (wi ν' 0 5 (bI true)).1 0 k = μ.1 0 k := fun k hk => by
    rw [wi_at, if_neg (by omega), k1 0 (by omega), f1 0 (by omega) (by omega) (by omega) (by omega) (by omega) (by omega)]
  refine kk _ (hS.keep h1 (fun i hi => ?_) (z0 4 (by omega)) (z0 6 (by omega)) (by rw [wi_at, if_pos ⟨rfl, rfl⟩]; rfl)) ?_ ?_
  · rw [w0 i (by unfold cC at hi; omega) (by unfold cC at hi; omega)]
    exact f1 i (by unfold cC at hi; omega) (by unfold cC at hi; omega) (by unfold cC at hi; omega) (by unfold cC at hi; omega) (by unfold cC at hi; omega) (by unfold cC at hi; omega)
  · rw [w0 7 (by omega) (by omega)]
    exact f4
  · rw [w0 7 (by omega) (by omega)]
    show ν'.2 3 3 = _
    rw [k2]
    exact f5
theorem nr_no {ρ : Mu} {m : Nat} {x y : Int32} (h : ¬ (isCo x = true ∧ isCo y = true ∧ 0 < m)) : nrN ρ m x y = -1 := if_neg h
theorem s_di {μ ρ : Mu} (h : SimE μ ρ) {m : Nat} (hm : ρ.1 0 2 = nI m) (hm40 : m ≤ 40) (x y : Int32) : diW μ x y (fun a ν => a = (if ρ.1 0 0 = 0 then -3 else if nrN ρ m x y < 0 then -1 else sqB (eB ρ (nrN ρ m x y).toNatClampNeg) x y) ∧ SimE ν ρ) := by
  obtain ⟨L, hS⟩ := h
  obtain rfl := hS.m hm hm40
  unfold diW
  rw [hS.2.2.1]
  by_cases h0 : μ.1 0 4 = 0
  · rw [if_pos h0, if_pos h0]
    exact ⟨rfl, L, hS⟩
  rw [if_neg h0, if_neg h0]
  obtain ⟨h1, σ, v, r, hR⟩ := hS.run h0
  have hl := hS.len
  by_cases hb : isCo x = true ∧ isCo y = true ∧ ¬ μ.1 2 1 = 0
  · rw [if_pos hb]
    have hne : L ≠ [] := by
      intro hn
      refine hb.2.2 ?_
      rw [hR.2.2.2.2.2.1, hn]
      exact nI_0
    obtain ⟨b, t, g1, g2, g3, g4⟩ := nr_bt hS.2.1 hS.1 (Tw_ok hR.2.2.1) hl hne hb.1 hb.2.1
    have hnb := nI_p b g2
    refine sp_ok hS h0 hb.1 hb.2.1 hne (fun ν k1 k2 k3 => ⟨?_, k1⟩)
    rw [g1, if_neg hnb.1, hnb.2, k3, sq_tp, hS.2.1.2 b t g3, Bt_uq k2 g4]
  · rw [if_neg hb, nr_no (fun hh => hb ⟨hh.1, hh.2.1, by rw [hR.2.2.2.2.2.1]; exact nI_ne0 hh.2.2 (by omega)⟩), if_pos m1_0]
    exact ⟨rfl, L, hS⟩
theorem s_ne {μ ρ : Mu} (h : SimE μ ρ) {m : Nat} (hm : ρ.1 0 2 = nI m) (hm40 : m ≤ 40) (x y : Int32) : neW μ x y (fun a ν => a = (if ρ.1 0 0 = 0 then -3 else if nrN ρ m x y < 0 then -1 else ρ.1 1 (5 * (nrN ρ m x y).toNatClampNeg)) ∧ SimE ν ρ) := by
  obtain ⟨L, hS⟩ := h
  obtain rfl := hS.m hm hm40
  unfold neW
  rw [hS.2.2.1]
  by_cases h0 : μ.1 0 4 = 0
  · rw [if_pos h0, if_pos h0]
    exact ⟨rfl, L, hS⟩
  rw [if_neg h0, if_neg h0]
  obtain ⟨h1, σ, v, r, hR⟩ := hS.run h0
  have hl := hS.len
  by_cases hb : isCo x = true ∧ isCo y = true ∧ ¬ μ.1 2 1 = 0
  · rw [if_pos hb]
    have hne : L ≠ [] := by
      intro hn
      refine hb.2.2 ?_
      rw [hR.2.2.2.2.2.1, hn]
      exact nI_0
    obtain ⟨b, t, g1, g2, g3, g4⟩ := nr_bt hS.2.1 hS.1 (Tw_ok hR.2.2.1) hl hne hb.1 hb.2.1
    have hnb := nI_p b g2
    refine sp_ok hS h0 hb.1 hb.2.1 hne (fun ν k1 k2 k3 => ⟨?_, k1⟩)
    rw [g1, if_neg hnb.1, hnb.2]
    have e1 := congrArg nm (Bt_uq k2 g4)
    have e2 := congrArg nm (hS.2.1.2 b t g3)
    exact e1.trans e2.symm
  · rw [if_neg hb, nr_no (fun hh => hb ⟨hh.1, hh.2.1, by rw [hR.2.2.2.2.2.1]; exact nI_ne0 hh.2.2 (by omega)⟩), if_pos m1_0]
    exact ⟨rfl, L, hS⟩
