/-! THE STATE AT REST: up, or down; settling, starting, stopping. -/
def dP (μ : Mu) (σ : Sg) (r n : Nat) : Prop := ∀ q, q < 40 → enQ σ r n q (μ.1 (plI q))
def Rn (μ : Mu) (σ : Sg) (v r : Nat) (L : List T5) : Prop := tR μ σ σ ∧ (∀ q, q < 40 → chg μ q = 0) ∧ Tw σ v r L ∧ L.length ≤ 40 ∧ μ.1 2 0 = nI r ∧ μ.1 2 1 = nI L.length ∧ dP μ σ r L.length ∧ μ.1 1 3 = 0 ∧ μ.1 1 4 = 0
def Dw (μ : Mu) (σ : Sg) (v r : Nat) (L : List T5) : Prop := Tw σ v r L ∧ L.length ≤ 40 ∧ ∃ g, g ≤ 40 ∧ μ.1 1 3 = nI g ∧ ((μ.1 1 4 = 0 ∧ dP μ σ r L.length) ∨ (μ.1 1 4 = 1 ∧ LG μ σ r L.length g ∧ ∀ q, q < 40 → cov μ g q ∨ enQ σ r L.length q (μ.1 (plI q))))
theorem mu_l : ∀ (c k : Nat) (μ : Mu), (muL c k μ).2 = μ.2 ∧ ∀ a b, (muL c k μ).1 a b = if 19 + k ≤ a ∧ a < 19 + k + c ∧ b = 2 then 0 else μ.1 a b := by
  intro c
  induction c with
  | zero =>
    intro k μ
    exact ⟨rfl, fun a b => by rw [if_neg (by omega)]; rfl⟩
  | succ c ih =>
    intro k μ
    have h1 := ih (k + 1) (wi μ (pgI k) 2 0)
    refine ⟨h1.1, fun a b => ?_⟩
    rw [muL, h1.2, wi_at]
    unfold pgI
    by_cases h2 : 19 + (k + 1) ≤ a ∧ a < 19 + (k + 1) + c ∧ b = 2
    · rw [if_pos h2, if_pos (by omega)]
    · rw [if_neg h2]
      by_cases h3 : a = 19 + k ∧ b = 2
      · rw [if_pos h3, if_pos (by omega)]
      · rw [if_neg h3, if_neg (by omega)]
theorem mu_m (μ : Mu) : (muM μ).2 = μ.2 ∧ ∀ a b, (muM μ).1 a b = if (19 ≤ a ∧ a < 59 ∨ a = 2) ∧ b = 2 then 0 else μ.1 a b := by
  have h1 := mu_l 40 0 (wi μ 2 2 0)
  refine ⟨h1.1, fun a b => ?_⟩
  rw [muM, h1.2, wi_at]
  by_cases h2 : 19 + 0 ≤ a ∧ a < 19 + 0 + 40 ∧ b = 2
  · rw [if_pos h2, if_pos (by omega)]
  · rw [if_neg h2]
    by_cases h3 : a = 2 ∧ b = 2
    · rw [if_pos h3, if_pos (by omega)]
    · rw [if_neg h3, if_neg (by omega)]
theorem mu_n (μ : Mu) {a : Nat} (h : ¬ (19 ≤ a ∧ a < 59)) (h2 : a ≠ 2) : (muM μ).1 a = μ.1 a := by
  funext b
  rw [(mu_m μ).2, if_neg (by omega)]
theorem fg_l : ∀ (c k : Nat) (μ : Mu), (fgL c k μ).2 = μ.2 ∧ ∀ a, ¬ (19 + k ≤ a ∧ a < 19 + k + c) → (fgL c k μ).1 a = μ.1 a := by
  intro c
  induction c with
  | zero => exact fun k μ => ⟨rfl, fun _ _ => rfl⟩
  | succ c ih =>
    intro k μ
    have h1 := ih (k + 1) (opn μ k 0)
    refine ⟨h1.1, fun a ha => ?_⟩
    rw [fgL, h1.2 a (by omega)]
    unfold opn pgI
    rw [wi_ne _ _ _ (by omega), wi_ne _ _ _ (by omega), wi_ne _ _ _ (by omega)]
theorem fg_n (μ : Mu) {a : Nat} (h : ¬ (19 ≤ a ∧ a < 59)) (h2 : a ≠ 2) : (fgM μ).1 a = μ.1 a := by
  unfold fgM
  rw [mu_n _ h h2, (fg_l 40 0 _).2 a (by omega), wi_ne _ _ _ h2, wi_ne _ _ _ h2]
theorem lp_n (μ : Mu) {a : Nat} (h : ¬ (19 ≤ a ∧ a < 59)) (h2 : a ≠ 2) (h0 : a ≠ 0) : (lpM μ).1 a = μ.1 a := by
  unfold lpM
  rw [wi_ne _ _ _ h0, fg_n _ h h2]
theorem lp_0 (μ : Mu) : (lpM μ).1 0 4 = 0 ∧ ∀ k, k ≠ 4 → (lpM μ).1 0 k = μ.1 0 k := by
  unfold lpM
  refine ⟨by rw [wi_at, if_pos ⟨rfl, rfl⟩], fun k hk => ?_⟩
  rw [wi_at, if_neg (by omega), fg_n _ (by omega) (by omega)]
/-- down, seen by other memories -/
theorem Dw_eq {μ μ' : Mu} {σ : Sg} {v r : Nat} {L : List T5} (h : Dw μ σ v r L) (h1 : ∀ i, i = 1 ∨ i = 14 ∨ (99 ≤ i ∧ i < 179) → μ'.1 i = μ.1 i) : Dw μ' σ v r L := by
  obtain ⟨a1, a2, g, a3, a4, a5⟩ := h
  have e1 := h1 1 (by omega)
  have e14 := h1 14 (by omega)
  have ep : ∀ q, q < 40 → μ'.1 (plI q) = μ.1 (plI q) := fun q hq => h1 _ (by unfold plI; omega)
  refine ⟨a1, a2, g, a3, by rw [e1]; exact a4, ?_⟩
  rcases a5 with ⟨b1, b2⟩ | ⟨b1, b2, b3⟩
  · exact Or.inl ⟨by rw [e1]; exact b1, fun q hq => by rw [ep q hq]; exact b2 q hq⟩
  · refine Or.inr ⟨by rw [e1]; exact b1, fun i hi => ?_, fun q hq => ?_⟩
    · obtain ⟨q, c1, c2, c3⟩ := b2 i hi
      exact ⟨q, c1, by rw [e14]; exact c2, by rw [h1 (lgI i) (by unfold lgI; omega)]; exact c3⟩
    · rcases b3 q hq with ⟨i, c1, c2⟩ | c
      · exact Or.inl ⟨i, c1, by rw [e14]; exact c2⟩
      · exact Or.inr (by rw [ep q hq]; exact c)
theorem Dw_lp {μ : Mu} {σ : Sg} {v r : Nat} {L : List T5} (h : Dw μ σ v r L) : Dw (lpM μ) σ v r L := Dw_eq h (fun i hi => lp_n _ (by omega) (by omega) (by omega))
theorem Rn_Dw {μ : Mu} {σ : Sg} {v r : Nat} {L : List T5} (h : Rn μ σ v r L) : Dw μ σ v r L := ⟨h.2.2.1, h.2.2.2.1, 0, by omega, by rw [h.2.2.2.2.2.2.2.1, nI_0], Or.inl ⟨h.2.2.2.2.2.2.2.2, h.2.2.2.2.2.2.1⟩⟩
def c7 (c : Int32) : Prop := c = -1 ∨ c = 0 ∨ c = 1 ∨ c = 2 ∨ c = 3 ∨ c = 4 ∨ c = 5
/-- the face's own cell behind a call -/
def f0 (μ : Mu) (a : Int32) (ν : Mu) : Prop := ν.1 0 4 = a ∧ ν.1 0 5 = μ.1 0 5 ∧ ν.1 0 6 = -1
theorem se_ok {μ : Mu} {σ σ' : Sg} {v r v' r' : Nat} {L L' : List T5} {a : Int32} {K : Int32 → Mu → Prop} (h : tR μ σ' σ) (hT : Tw σ v r L) (hT' : Tw σ' v' r' L') (hl : L.length ≤ 40) (hl' : L'.length ≤ 40) (hr : μ.1 2 0 = nI r') (hn : μ.1 2 1 = nI L'.length) (hf : μ.1 2 2 = 1) (hd : dP μ σ r L.length) (h13 : μ.1 1 3 = 0) (h14 : μ.1 1 4 = 0) (hc : c7 (μ.1 0 6)) (hrun : μ.1 0 4 = 1)
    (k1 : μ.1 0 6 = -1 → ∀ ν, Rn ν σ' v' r' L' → f0 μ 1 ν → K a ν)
    (k2 : (μ.1 0 6 = 0 ∨ μ.1 0 6 = 1 ∨ μ.1 0 6 = 2) → ∀ ν, Dw ν σ v r L → f0 μ 0 ν → K (-4) ν)
    (k3 : (μ.1 0 6 = 3 ∨ μ.1 0 6 = 4 ∨ μ.1 0 6 = 5) → ∀ ν, Dw ν σ' v' r' L' → f0 μ 0 ν → K (-4) ν) : seW μ a K := by
  unfold seW
  have w0 : ∀ i, i ≠ 0 → (wi μ 0 6 (-1)).1 i = μ.1 i := fun i hi => wi_ne _ _ _ hi
  generalize hμ : wi μ 0 6 (-1) = μ0 at *
  have z6 : μ0.1 0 6 = -1 := by rw [← hμ, wi_at, if_pos ⟨rfl, rfl⟩]
  have z5 : μ0.1 0 5 = μ.1 0 5 := by rw [← hμ, wi_at, if_neg (by omega)]
  have z4 : μ0.1 0 4 = 1 := by rw [← hμ, wi_at, if_neg (by omega)]; exact hrun
  have t0 : tR μ0 σ' σ := tR_eq h (fun q _ _ => w0 _ (by unfold pgI; omega)) (fun q j _ _ _ => w0 _ (by unfold bxI; omega))
  have e1 := w0 1 (by omega)
  have e2 := w0 2 (by omega)
  have ep : ∀ q, q < 40 → μ0.1 (plI q) = μ.1 (plI q) := fun q _ => w0 _ (by unfold plI; omega)
  have hdw : Dw μ0 σ v r L := ⟨hT, hl, 0, by omega, by rw [e1, h13, nI_0], Or.inl ⟨by rw [e1]; exact h14, fun q hq => by rw [ep q hq]; exact hd q hq⟩⟩
  -- a lost call
  have hlost : ∀ ν : Mu, (∀ k, k ≠ 4 → ν.1 0 k = μ0.1 0 k) → f0 μ 0 (lpM ν) := fun ν hν => ⟨(lp_0 ν).1, by rw [(lp_0 ν).2 5 (by omega), hν 5 (by omega)]; exact z5, by rw [(lp_0 ν).2 6 (by omega), hν 6 (by omega)]; exact z6⟩
  unfold kpW
  by_cases hc0 : μ.1 0 6 = 0
  · rw [if_pos hc0]
    show K (-4) (lpM μ0)
    exact k2 (Or.inl hc0) _ (Dw_lp hdw) (hlost μ0 (fun _ _ => rfl))
  rw [if_neg hc0]
  have hfl : ∀ q, q < 40 → tB (chg μ0 q) := by
    intro q hq
    unfold chg
    by_cases hq0 : q = 0
    · rw [if_pos hq0, e2, hf]
      exact tB1
    · rw [if_neg hq0]
      exact (t0 q (by omega) hq).2.1
  refine ⟨hfl, ?_⟩
  have hm : (if μ.1 0 6 = 1 then cnt μ0 40 / 2 else cnt μ0 40) ≤ cnt μ0 40 := by split <;> omega
  refine wl_ok t0 (Tw_len t0 hT') (by rw [e2]; exact hr) (by rw [e2]; exact hn) hfl hm (fun μ1 g hF hg hg40 hLG hcov => ?_) 40 0 μ0 (by omega) (Fl.rf μ0) (by rw [e1, h13]; exact nI_0.symm) (fun i hi => absurd hi (Nat.not_lt_zero i)) (fun q' hq' => by omega)
  have f1z : ∀ k, μ1.1 0 k = μ0.1 0 k := fun k => by rw [hF.2.1 0 (by omega) (by omega) (by omega)]
  have f1p : ∀ q, q < 40 → μ1.1 (plI q) = μ.1 (plI q) := fun q hq => by rw [hF.2.1 _ (by unfold plI; omega) (by unfold plI; omega) (by unfold plI; omega), ep q hq]
  have f14 : μ1.1 1 4 = 0 := by rw [hF.2.2 4 (by omega), e1]; exact h14
  by_cases hc12 : μ.1 0 6 = 1 ∨ μ.1 0 6 = 2
  · rw [if_pos hc12]
    show K (-4) (lpM μ1)
    refine k2 (Or.inr hc12) _ (Dw_lp ⟨hT, hl, g, hg40, hg, Or.inl ⟨f14, fun q hq => by rw [f1p q hq]; exact hd q hq⟩⟩) (hlost μ1 (fun k _ => f1z k))
  rw [if_neg hc12]
  have hcv := hcov (if_neg (fun e => hc12 (Or.inl e)))
  -- what is marked now
  have hmk : ∀ q, q < 40 → cov μ1 g q ∨ enQ σ' r' L'.length q (μ1.1 (plI q)) := by
    intro q hq
    by_cases hz : chg μ0 q = 0
    · right
      unfold chg at hz
      by_cases hq0 : q = 0
      · rw [if_pos hq0, e2, hf] at hz
        exact absurd hz n10
      · rw [if_neg hq0] at hz
        have hs := (t0 q (by omega) hq).2.2 hz
        rw [f1p q hq]
        have := hd q hq
        unfold enQ at *
        rw [if_neg hq0] at *
        rw [hs]
        exact this
    · exact Or.inl (hcv q hq hz)
  have w1 : ∀ i, i ≠ 1 → (wi μ1 1 4 1).1 i = μ1.1 i := fun i hi => wi_ne _ _ _ hi
  have hdw2 : Dw (wi μ1 1 4 1) σ' v' r' L' := by
    refine ⟨hT', hl', g, hg40, by rw [wi_at, if_neg (by omega)]; exact hg, Or.inr ⟨by rw [wi_at, if_pos ⟨rfl, rfl⟩], fun i hi => ?_, fun q hq => ?_⟩⟩
    · obtain ⟨q, b1, b2, b3⟩ := hLG i hi
      exact ⟨q, b1, by rw [w1 14 (by omega)]; exact b2, by rw [w1 _ (by unfold lgI; omega)]; exact b3⟩
    · rcases hmk q hq with ⟨i, b1, b2⟩ | b
      · exact Or.inl ⟨i, b1, by rw [w1 14 (by omega)]; exact b2⟩
      · exact Or.inr (by rw [w1 _ (by unfold plI; omega)]; exact b)
  have f2z : ∀ k, (wi μ1 1 4 1).1 0 k = μ0.1 0 k := fun k => by rw [w1 0 (by omega)]; exact f1z k
  by_cases hc3 : μ.1 0 6 = 3
  · rw [if_pos hc3]
    show K (-4) (lpM (wi μ1 1 4 1))
    exact k3 (Or.inl hc3) _ (Dw_lp hdw2) (hlost _ (fun k _ => f2z k))
  rw [if_neg hc3]
  obtain ⟨_, _, g2, hg2, hg3, hh⟩ := id hdw2
  refine ⟨g, hg40, by rw [wi_at, if_neg (by omega)]; exact hg, ?_⟩
  have hLG2 : LG (wi μ1 1 4 1) σ' r' L'.length g := fun i hi => by
    obtain ⟨q, b1, b2, b3⟩ := hLG i hi
    exact ⟨q, b1, by rw [w1 14 (by omega)]; exact b2, by rw [w1 _ (by unfold lgI; omega)]; exact b3⟩
  have hmk2 : ∀ q, q < 40 → cov (wi μ1 1 4 1) g q ∨ enQ σ' r' L'.length q ((wi μ1 1 4 1).1 (plI q)) := fun q hq => by
    rcases hmk q hq with ⟨i, b1, b2⟩ | b
    · exact Or.inl ⟨i, b1, by rw [w1 14 (by omega)]; exact b2⟩
    · exact Or.inr (by rw [w1 _ (by unfold plI; omega)]; exact b)
  refine wc_ok (G := g) _ 0 (wi μ1 1 4 1) hLG2 (by have : min g (if μ.1 0 6 = 4 then 1 else g) ≤ g := Nat.min_le_left _ _; omega) (fun μ3 hF3 hq3 => ?_)
  have f3z : ∀ k, μ3.1 0 k = μ0.1 0 k := fun k => by rw [hF3.2 0 (by omega)]; exact f2z k
  by_cases hc45 : μ.1 0 6 = 4 ∨ μ.1 0 6 = 5
  · rw [if_pos hc45]
    show K (-4) (lpM μ3)
    refine k3 (Or.inr hc45) _ (Dw_lp ⟨hT', hl', g, hg40, by rw [hF3.2 1 (by omega), wi_at, if_neg (by omega)]; exact hg, Or.inr ⟨by rw [hF3.2 1 (by omega), wi_at, if_pos ⟨rfl, rfl⟩], fun i hi => ?_, fun q hq => ?_⟩⟩) (hlost _ (fun k _ => f3z k))
    · obtain ⟨q, b1, b2, b3⟩ := hLG2 i hi
      exact ⟨q, b1, by rw [hF3.2 14 (by omega)]; exact b2, by rw [hF3.2 _ (by unfold lgI; omega)]; exact b3⟩
    · rcases hq3 q hq with b | ⟨b, _⟩
      · exact Or.inr b
      · rcases hmk2 q hq with ⟨i, c1, c2⟩ | c
        · exact Or.inl ⟨i, c1, by rw [hF3.2 14 (by omega)]; exact c2⟩
        · exact Or.inr (by rw [b]; exact c)
  · rw [if_neg hc45]
    show K a (muM (elM μ3))
    have hcm : μ.1 0 6 = -1 := by
      unfold c7 at hc
      rcases hc with e | e | e | e | e | e | e
      · exact e
      · exact absurd e hc0
      · exact absurd (Or.inl e) hc12
      · exact absurd (Or.inr e) hc12
      · exact absurd e hc3
      · exact absurd (Or.inl e) hc45
      · exact absurd (Or.inr e) hc45
    have hcnt : min g (if μ.1 0 6 = 4 then 1 else g) = g := by
      rw [if_neg (fun e => hc45 (Or.inl e))]
      exact Nat.min_self g
    rw [hcnt] at hq3
    have hd3 : dP μ3 σ' r' L'.length := by
      intro q hq
      rcases hq3 q hq with b | ⟨b, b2⟩
      · exact b
      · rcases hmk2 q hq with ⟨i, c1, c2⟩ | c
        · exact absurd c2 (b2 i (by omega) (by omega))
        · rw [b]
          exact c
    -- the memory at rest
    have hel : ∀ i, i ≠ 1 → (elM μ3).1 i = μ3.1 i := fun i hi => by
      unfold elM
      rw [wi_ne _ _ _ hi, wi_ne _ _ _ hi]
    have hall : ∀ i, i ≠ 0 → i ≠ 1 → i ≠ 14 → ¬ (99 ≤ i ∧ i < 179) → (elM μ3).1 i = μ.1 i := fun i h0 h1 h2 h3 => by
      rw [hel i h1, hF3.2 i (by omega), w1 i h1, hF.2.1 i h1 h2 (by omega), w0 i h0]
    have tel : tR (elM μ3) σ' σ := tR_eq h (fun q _ _ => hall _ (by unfold pgI; omega) (by unfold pgI; omega) (by unfold pgI; omega) (by unfold pgI; omega)) (fun q j _ _ _ => hall _ (by unfold bxI; omega) (by unfold bxI; omega) (by unfold bxI; omega) (by unfold bxI; omega))
    refine k1 hcm _ ⟨?_, ?_, hT', hl', ?_, ?_, ?_, ?_, ?_⟩ ⟨?_, ?_, ?_⟩
    · intro q hq1 hq2
      have hR := (tel q hq1 hq2).1
      have hfq : (muM (elM μ3)).1 (pgI q) 2 = 0 := by
        rw [(mu_m _).2, if_pos (by unfold pgI; omega)]
      refine ⟨⟨?_, ?_, hR.2.2.1, hR.2.2.2.1, fun j t ht => ?_⟩, by rw [hfq]; exact tB0, fun _ => rfl⟩
      · rw [(mu_m _).2, if_neg (by omega)]
        exact hR.1
      · rw [(mu_m _).2, if_neg (by omega)]
        exact hR.2.1
      · rw [mu_n _ (by unfold bxI; omega) (by unfold bxI; omega)]
        exact hR.2.2.2.2 j t ht
    · intro q hq
      unfold chg
      by_cases hq0 : q = 0
      · rw [if_pos hq0, (mu_m _).2, if_pos (by omega)]
      · rw [if_neg hq0, (mu_m _).2, if_pos (by unfold pgI; omega)]
    · rw [(mu_m _).2, if_neg (by omega), hall 2 (by omega) (by omega) (by omega) (by omega)]
      exact hr
    · rw [(mu_m _).2, if_neg (by omega), hall 2 (by omega) (by omega) (by omega) (by omega)]
      exact hn
    · intro q hq
      rw [mu_n _ (by unfold plI; omega) (by unfold plI; omega), hel _ (by unfold plI; omega)]
      exact hd3 q hq
    · rw [mu_n _ (by omega) (by omega)]
      unfold elM
      rw [wi_at, if_neg (by omega), wi_at, if_pos ⟨rfl, rfl⟩]
    · rw [mu_n _ (by omega) (by omega)]
      unfold elM
      rw [wi_at, if_pos ⟨rfl, rfl⟩]
    · rw [mu_n _ (by omega) (by omega), hel 0 (by omega), f3z 4]
      exact z4
    · rw [mu_n _ (by omega) (by omega), hel 0 (by omega), f3z 5]
      exact z5
    · rw [mu_n _ (by omega) (by omega), hel 0 (by omega), f3z 6]
      exact z6
/-- reading the tree anew -/
theorem rf_l {σ : Sg} {r n : Nat} {K : Mu → Prop} : ∀ (c q : Nat) (μ : Mu), q + c = 40 → 0 < q → dP μ σ r n → (∀ p, 0 < p → p < q → pgR μ.1 p (σ p) ∧ μ.1 (pgI p) 2 = 0) → (∀ μ', μ'.2 = μ.2 → (∀ i, i ≠ 5 → ¬ (19 ≤ i ∧ i < 59) → ¬ (219 ≤ i ∧ i < 459) → μ'.1 i = μ.1 i) → (∀ p, 0 < p → p < 40 → pgR μ'.1 p (σ p) ∧ μ'.1 (pgI p) 2 = 0) → K μ') → rfL K c q μ := by
  intro c
  induction c with
  | zero =>
    intro q μ hq h0 hd hp kk
    exact kk μ rfl (fun _ _ _ _ => rfl) (fun p h1 h2 => hp p h1 (by omega))
  | succ c ih =>
    intro q μ hq h0 hd hp kk
    have hr := hd q (by omega)
    unfold enQ at hr
    rw [if_neg (by omega)] at hr
    have hm := rd_m (q := q) (r := plI q) hr (fun j hj => by unfold bxI plI; omega) (by unfold pgI plI; omega)
    have ho : ∀ i, i ≠ 5 → ¬ (19 ≤ i ∧ i < 59) → ¬ (219 ≤ i ∧ i < 459) → (rdM μ q (σ q).2.length (plI q)).1 i = μ.1 i := fun i h1 h2 h3 => hm.1.2 i h1 (by unfold pgI; omega) (fun j hj => by unfold bxI; omega)
    refine ⟨(σ q).2.length, hr.2.2.2.1, hr.2.1, ih (q + 1) _ (by omega) (by omega) (fun q' hq' => by rw [ho _ (by unfold plI; omega) (by unfold plI; omega) (by unfold plI; omega)]; exact hd q' hq') (fun p h1 h2 => ?_) (fun μ' k1 k2 k3 => kk μ' (k1.trans hm.1.1) (fun i h1 h2 h3 => (k2 i h1 h2 h3).trans (ho i h1 h2 h3)) k3)⟩
    by_cases hpq : p = q
    · subst hpq
      exact hm.2
    · have hpp := hp p h1 (by omega)
      have e1 : (rdM μ q (σ q).2.length (plI q)).1 (pgI p) = μ.1 (pgI p) := hm.1.2 _ (by unfold pgI; omega) (by unfold pgI; omega) (fun j hj => by unfold pgI bxI; omega)
      exact ⟨pgR_eq hpp.1 e1 (fun j hj => hm.1.2 _ (by unfold bxI; omega) (by unfold pgI bxI; omega) (fun i hi => by unfold bxI; omega)), by rw [e1]; exact hpp.2⟩
theorem sa_ok {μ : Mu} {σ : Sg} {v r : Nat} {L : List T5} {K : Bool → Mu → Prop} (h : Dw μ σ v r L) (h0 : μ.1 0 4 = 0) (kk : ∀ ν, Rn ν σ v r L → ν.1 0 4 = 1 → (∀ k, k ≠ 4 → ν.1 0 k = μ.1 0 k) → K true ν) : saW μ K := by
  obtain ⟨hT, hl, g, hg, hg3, hh⟩ := h
  unfold saW
  rw [if_pos h0]
  -- behind the recovery
  have hgo : ∀ ν : Mu, ν.1 0 = μ.1 0 → dP ν σ r L.length → rfW (elM ν) (fun ν2 => K true (wi ν2 0 4 1)) := by
    intro ν hν0 hd
    have hel : ∀ i, i ≠ 1 → (elM ν).1 i = ν.1 i := fun i hi => by
      unfold elM
      rw [wi_ne _ _ _ hi, wi_ne _ _ _ hi]
    have hde : dP (elM ν) σ r L.length := fun q hq => by rw [hel _ (by unfold plI; omega)]; exact hd q hq
    have hH : ∀ i, i ≠ 2 → (rfH (elM ν)).1 i = (elM ν).1 i := fun i hi => by
      unfold rfH
      rw [wi_ne _ _ _ hi, wi_ne _ _ _ hi, wi_ne _ _ _ hi]
    have hdr : dP (rfH (elM ν)) σ r L.length := fun q hq => by rw [hH _ (by unfold plI; omega)]; exact hde q hq
    have hz := hde 0 (by omega)
    unfold enQ at hz
    rw [if_pos rfl] at hz
    refine rf_l 39 1 _ (by omega) (by omega) hdr (fun p h1 h2 => by omega) (fun μ' k1 k2 k3 => ?_)
    have h2' : μ'.1 2 = (rfH (elM ν)).1 2 := k2 2 (by omega) (by omega) (by omega)
    have w0 : ∀ i, i ≠ 0 → (wi μ' 0 4 1).1 i = μ'.1 i := fun i hi => wi_ne _ _ _ hi
    refine kk _ ⟨fun q a b => ⟨pgR_eq (k3 q a b).1 (w0 _ (by unfold pgI; omega)) (fun j _ => w0 _ (by unfold bxI; omega)), ?_, fun _ => rfl⟩, ?_, hT, hl, ?_, ?_, ?_, ?_, ?_⟩ (by rw [wi_at, if_pos ⟨rfl, rfl⟩]) (fun k hk => ?_)
    · rw [w0 _ (by unfold pgI; omega), (k3 q a b).2]
      exact tB0
    · intro q hq
      unfold chg
      by_cases hq0 : q = 0
      · rw [if_pos hq0, w0 2 (by omega), h2']
        unfold rfH
        rw [wi_at, if_pos ⟨rfl, rfl⟩]
      · rw [if_neg hq0, w0 _ (by unfold pgI; omega)]
        exact (k3 q (by omega) hq).2
    · rw [w0 2 (by omega), h2']
      unfold rfH
      rw [wi_at, if_neg (by omega), wi_at, if_neg (by omega), wi_at, if_pos ⟨rfl, rfl⟩]
      exact hz.1
    · rw [w0 2 (by omega), h2']
      unfold rfH
      rw [wi_at, if_neg (by omega), wi_at, if_pos ⟨rfl, rfl⟩, wi_ne _ _ _ (by unfold plI; omega)]
      exact hz.2
    · intro q hq
      rw [w0 _ (by unfold plI; omega), k2 _ (by unfold plI; omega) (by unfold plI; omega) (by unfold plI; omega)]
      exact hdr q hq
    · rw [w0 1 (by omega), k2 1 (by omega) (by omega) (by omega), hH 1 (by omega)]
      unfold elM
      rw [wi_at, if_neg (by omega), wi_at, if_pos ⟨rfl, rfl⟩]
    · rw [w0 1 (by omega), k2 1 (by omega) (by omega) (by omega), hH 1 (by omega)]
      unfold elM
      rw [wi_at, if_pos ⟨rfl, rfl⟩]
    · rw [wi_at, if_neg (by omega), k2 0 (by omega) (by omega) (by omega), hH 0 (by omega), hel 0 (by omega), hν0]
  refine ⟨g, hg, hg3, ?_⟩
  rcases hh with ⟨b1, b2⟩ | ⟨b1, b2, b3⟩
  · rw [if_pos b1]
    exact hgo μ rfl b2
  · rw [if_neg (by rw [b1]; exact n10)]
    refine wc_ok (G := g) g 0 μ b2 (by omega) (fun μ' hF hq => hgo μ' (hF.2 0 (by omega)) (fun q hq' => ?_))
    rcases hq q hq' with c | ⟨c, c2⟩
    · exact c
    · rcases b3 q hq' with ⟨i, d1, d2⟩ | d
      · exact absurd d2 (c2 i (by omega) (by omega))
      · rw [c]
        exact d
