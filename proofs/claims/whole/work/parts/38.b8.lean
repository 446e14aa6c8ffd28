/-! THE DISK: rows that hold pages. -/
def rt (ρ : Nat → Int32) (j : Nat) : T5 := (ρ (2 + 5 * j), ρ (2 + 5 * j + 1), ρ (2 + 5 * j + 2), ρ (2 + 5 * j + 3), ρ (2 + 5 * j + 4))
def enR (ρ : Nat → Int32) (x : Nat × List T5) : Prop := ρ 0 = nI x.1 ∧ ρ 1 = nI x.2.length ∧ (x.1 ≤ 5 ∧ (x.1 = 0 → x.2 = [])) ∧ x.2.length ≤ 5 ∧ ∀ j t, x.2[j]? = some t → rt ρ j = t
/-- row q as it should be: the header, or a page -/
def enQ (σ : Sg) (r n q : Nat) (ρ : Nat → Int32) : Prop := if q = 0 then ρ 0 = nI r ∧ ρ 1 = nI n else enR ρ (σ q)
theorem enQ_eq {σ : Sg} {r n q : Nat} {ρ ρ' : Nat → Int32} (h : enQ σ r n q ρ) (he : ∀ i, i < 27 → ρ' i = ρ i) : enQ σ r n q ρ' := by
  unfold enQ at *
  by_cases hq : q = 0
  · rw [if_pos hq] at *
    rw [he 0 (by omega), he 1 (by omega)]
    exact h
  · rw [if_neg hq] at *
    refine ⟨by rw [he 0 (by omega)]; exact h.1, by rw [he 1 (by omega)]; exact h.2.1, h.2.2.1, h.2.2.2.1, fun j t ht => ?_⟩
    have h5 := h.2.2.2.1
    have hj := (List.getElem?_eq_some_iff.mp ht).1
    rw [← h.2.2.2.2 j t ht]
    unfold rt
    rw [he _ (by omega), he _ (by omega), he _ (by omega), he _ (by omega), he _ (by omega)]
/-- every page is short, in memory too -/
theorem wf_len {σ : Sg} {v lo p : Nat} (h : wfC σ v lo 5 p) : ∀ q ∈ pgs σ v p, (σ q).2.length ≤ 5 := by
  induction v generalizing p lo with
  | zero => exact h.elim
  | succ v ih =>
    intro q hq
    rcases List.mem_cons.mp hq with rfl | hq
    · exact h.2.2.2.2.1
    · by_cases hv : v = 0
      · rw [if_pos hv] at hq
        cases hq
      · rw [if_neg hv] at hq
        obtain ⟨b, hb, hq⟩ := List.mem_flatMap.mp hq
        have := h.2.2.2.2.2 b hb
        rw [if_neg hv] at this
        exact ih this.2.2 q hq
theorem Tw_len {μ : Mu} {σ δ : Sg} {v r : Nat} {E : List T5} (h : tR μ σ δ) (hT : Tw σ v r E) : ∀ q, 0 < q → q < 40 → (σ q).2.length ≤ 5 := by
  intro q h1 h2
  by_cases hz : (σ q).1 = 0
  · rw [(h q h1 h2).1.2.2.1.2 hz]
    simp
  · exact wf_len hT.2.1 q ((hT.2.2.1.2 q h1 h2).mpr hz)
/-- writing a page into a row -/
theorem wt1_n (μ : Mu) {r a : Nat} (k x q : Nat) (h : a ≠ r) : (wt1 μ r k x q).1 a = μ.1 a := wi_ne _ _ _ h
theorem wt5_n (μ : Mu) {r a : Nat} (p k : Nat) (h : a ≠ r) : (wt5 μ p r k).1 a = μ.1 a := by
  unfold wt5
  rw [wt1_n _ _ _ _ h, wt1_n _ _ _ _ h, wt1_n _ _ _ _ h, wt1_n _ _ _ _ h, wt1_n _ _ _ _ h]
theorem wt5_s (μ : Mu) {p r k : Nat} (h : bxI p k ≠ r) : rt ((wt5 μ p r k).1 r) k = tp (μ.1 (bxI p k)) ∧ ∀ i, (i < 2 + 5 * k ∨ 2 + 5 * k + 5 ≤ i) → (wt5 μ p r k).1 r i = μ.1 r i := by
  have hn : ∀ (ν : Mu) (q : Nat), (wt1 ν r k (bxI p k) q).1 (bxI p k) = ν.1 (bxI p k) := fun ν q => wt1_n ν k _ q h
  have e : wt5 μ p r k = wi (wi (wi (wi (wi μ r (2 + 5 * k + 0) (μ.1 (bxI p k) 0)) r (2 + 5 * k + 1) (μ.1 (bxI p k) 1)) r (2 + 5 * k + 2) (μ.1 (bxI p k) 2)) r (2 + 5 * k + 3) (μ.1 (bxI p k) 3)) r (2 + 5 * k + 4) (μ.1 (bxI p k) 4) := by
    unfold wt5
    rw [wt1, hn, hn, hn, hn, wt1, hn, hn, hn, wt1, hn, hn, wt1, hn, wt1]
  rw [e]
  constructor
  · unfold rt tp
    simp [wi_at]
  · intro i hi
    simp only [wi_at]
    rw [if_neg (by omega), if_neg (by omega), if_neg (by omega), if_neg (by omega), if_neg (by omega)]
theorem wt_l {p r : Nat} (hr : ∀ j, j < 6 → bxI p j ≠ r) (L : List T5) (h5 : L.length ≤ 5) : ∀ (c k : Nat) (μ : Mu), k + c = L.length → (∀ j t, L[j]? = some t → tp (μ.1 (bxI p j)) = t) → (∀ j t, j < k → L[j]? = some t → rt (μ.1 r) j = t) → (wtL p r c k μ).2 = μ.2 ∧ (∀ a, a ≠ r → (wtL p r c k μ).1 a = μ.1 a) ∧ (∀ j t, L[j]? = some t → rt ((wtL p r c k μ).1 r) j = t) ∧ ∀ i, i < 2 → (wtL p r c k μ).1 r i = μ.1 r i := by
  intro c
  induction c with
  | zero =>
    intro k μ hk hb hd
    exact ⟨rfl, fun _ _ => rfl, fun j t ht => hd j t (by have := (List.getElem?_eq_some_iff.mp ht).1; omega) ht, fun _ _ => rfl⟩
  | succ c ih =>
    intro k μ hk hb hd
    have hs := wt5_s μ (hr k (by omega))
    have h1 := ih (k + 1) (wt5 μ p r k) (by omega) (fun j t ht => by rw [wt5_n _ _ _ (hr j (by have := (List.getElem?_eq_some_iff.mp ht).1; omega))]; exact hb j t ht) (fun j t hj ht => by
      by_cases hjk : j = k
      · subst hjk
        rw [hs.1]
        exact hb j t ht
      · rw [← hd j t (by omega) ht]
        unfold rt
        rw [hs.2 _ (by omega), hs.2 _ (by omega), hs.2 _ (by omega), hs.2 _ (by omega), hs.2 _ (by omega)])
    exact ⟨h1.1, fun a ha => by rw [wtL, h1.2.1 a ha, wt5_n _ _ _ ha], h1.2.2.1, fun i hi => by rw [wtL, h1.2.2.2 i hi, hs.2 i (by omega)]⟩
theorem wt_m {μ : Mu} {q r : Nat} {x : Nat × List T5} (h : pgR μ.1 q x) (h5 : x.2.length ≤ 5) (hr : ∀ j, j < 6 → bxI q j ≠ r) (hr2 : pgI q ≠ r) : (wtM μ q x.2.length r).2 = μ.2 ∧ (∀ a, a ≠ r → (wtM μ q x.2.length r).1 a = μ.1 a) ∧ enR ((wtM μ q x.2.length r).1 r) x := by
  have h1 := wt_l hr x.2 h5 x.2.length 0 (wi (wi μ r 0 (μ.1 (pgI q) 0)) r 1 (nI x.2.length)) (by omega) (fun j t ht => by rw [wi_ne _ _ _ (hr j (by have := (List.getElem?_eq_some_iff.mp ht).1; omega)), wi_ne _ _ _ (hr j (by have := (List.getElem?_eq_some_iff.mp ht).1; omega))]; exact h.2.2.2.2 j t ht) (fun j t hj => by omega)
  refine ⟨h1.1, fun a ha => by rw [wtM, h1.2.1 a ha, wi_ne _ _ _ ha, wi_ne _ _ _ ha], ?_, ?_, h.2.2.1, h5, h1.2.2.1⟩
  · rw [wtM, h1.2.2.2 0 (by omega), wi_at, if_neg (by omega), wi_at, if_pos ⟨rfl, rfl⟩]
    exact h.1
  · rw [wtM, h1.2.2.2 1 (by omega), wi_at, if_pos ⟨rfl, rfl⟩]
/-- reading a page from a row -/
theorem rd_l {p r : Nat} (hr : ∀ j, j < 6 → bxI p j ≠ r) (L : List T5) (h5 : L.length ≤ 5) : ∀ (c k : Nat) (μ : Mu), k + c = L.length → (∀ j t, L[j]? = some t → rt (μ.1 r) j = t) → (∀ j t, j < k → L[j]? = some t → tp (μ.1 (bxI p j)) = t) → (rdL p r c k μ).2 = μ.2 ∧ (∀ a, (∀ j, j < 6 → a ≠ bxI p j) → (rdL p r c k μ).1 a = μ.1 a) ∧ ∀ j t, L[j]? = some t → tp ((rdL p r c k μ).1 (bxI p j)) = t := by
  intro c
  induction c with
  | zero =>
    intro k μ hk hb hd
    exact ⟨rfl, fun _ _ => rfl, fun j t ht => hd j t (by have := (List.getElem?_eq_some_iff.mp ht).1; omega) ht⟩
  | succ c ih =>
    intro k μ hk hb hd
    have h1 := ih (k + 1) (rd5 μ p r k) (by omega) (fun j t ht => by
      unfold rd5
      rw [asg_n _ _ _ _ _ _ (hr k (by omega)).symm]
      exact hb j t ht) (fun j t hj ht => by
      unfold rd5
      by_cases hjk : j = k
      · subst hjk
        rw [asg_s]
        exact hb j t ht
      · rw [asg_n _ _ _ _ _ _ (by unfold bxI; omega)]
        exact hd j t (by omega) ht)
    exact ⟨h1.1, fun a ha => by rw [rdL, h1.2.1 a ha]; exact asg_n _ _ _ _ _ _ (ha k (by omega)), h1.2.2⟩
theorem rd_m {μ : Mu} {q r : Nat} {x : Nat × List T5} (h : enR (μ.1 r) x) (hr : ∀ j, j < 6 → bxI q j ≠ r) (hr2 : pgI q ≠ r) : Oc μ (rdM μ q x.2.length r) q ∧ pgR (rdM μ q x.2.length r).1 q x ∧ (rdM μ q x.2.length r).1 (pgI q) 2 = 0 := by
  have hpb : ∀ j, j < 6 → pgI q ≠ bxI q j := fun i _ => by unfold pgI bxI; omega
  have h1 := rd_l hr x.2 h.2.2.2.1 x.2.length 0 (wi (wi (wi μ (pgI q) 0 (μ.1 r 0)) (pgI q) 1 (nI x.2.length)) (pgI q) 2 0) (by omega) (fun j t ht => by rw [wi_ne _ _ _ hr2.symm, wi_ne _ _ _ hr2.symm, wi_ne _ _ _ hr2.symm]; exact h.2.2.2.2 j t ht) (fun j t hj => by omega)
  refine ⟨⟨h1.1, fun i _ hi1 hi2 => by rw [rdM, h1.2.1 i hi2, wi_ne _ _ _ hi1, wi_ne _ _ _ hi1, wi_ne _ _ _ hi1]⟩, ⟨?_, ?_, h.2.2.1, by have := h.2.2.2.1; omega, h1.2.2⟩, ?_⟩
  · rw [rdM, h1.2.1 _ hpb, wi_at, if_neg (by omega), wi_at, if_neg (by omega), wi_at, if_pos ⟨rfl, rfl⟩]
    exact h.1
  · rw [rdM, h1.2.1 _ hpb, wi_at, if_neg (by omega), wi_at, if_pos ⟨rfl, rfl⟩]
  · rw [rdM, h1.2.1 _ hpb, wi_at, if_pos ⟨rfl, rfl⟩]
/-- the log: lines that are right, and the pages that they cover -/
def LG (μ : Mu) (σ : Sg) (r n g : Nat) : Prop := ∀ i, i < g → ∃ q, q < 40 ∧ μ.1 14 i = nI q ∧ enQ σ r n q (μ.1 (lgI i))
def cov (μ : Mu) (g q : Nat) : Prop := ∃ i, i < g ∧ μ.1 14 i = nI q
/-- only the log changes -/
def Fl (μ μ' : Mu) : Prop := μ'.2 = μ.2 ∧ (∀ i, i ≠ 1 → i ≠ 14 → ¬ (139 ≤ i ∧ i < 179) → μ'.1 i = μ.1 i) ∧ ∀ k, k ≠ 3 → μ'.1 1 k = μ.1 1 k
theorem Fl.rf (μ : Mu) : Fl μ μ := ⟨rfl, fun _ _ _ _ => rfl, fun _ _ => rfl⟩
theorem Fl.tr {a b c : Mu} (h : Fl a b) (k : Fl b c) : Fl a c := ⟨k.1.trans h.1, fun i h1 h2 h3 => (k.2.1 i h1 h2 h3).trans (h.2.1 i h1 h2 h3), fun i h1 => (k.2.2 i h1).trans (h.2.2 i h1)⟩
theorem Fl.t {μ μ' : Mu} {σ δ : Sg} (h : Fl μ μ') (ht : tR μ σ δ) : tR μ' σ δ := tR_eq ht (fun q _ _ => h.2.1 _ (by unfold pgI; omega) (by unfold pgI; omega) (by unfold pgI; omega)) (fun q j _ _ _ => h.2.1 _ (by unfold bxI; omega) (by unfold bxI; omega) (by unfold bxI; omega))
theorem Fl.ch {μ μ' : Mu} (h : Fl μ μ') {q : Nat} (hq : q < 40) : chg μ' q = chg μ q := by
  unfold chg
  rw [h.2.1 2 (by omega) (by omega) (by omega), h.2.1 (pgI q) (by unfold pgI; omega) (by unfold pgI; omega) (by unfold pgI; omega)]
theorem cnt_mono (μ : Mu) {a b : Nat} (h : a ≤ b) : cnt μ a ≤ cnt μ b := by
  induction h with
  | refl => exact Nat.le_refl _
  | step _ ih => exact Nat.le_trans ih (Nat.le_add_right _ _)
theorem cnt_all {μ : Mu} {a : Nat} (h : cnt μ 40 ≤ cnt μ a) {q : Nat} (h1 : a ≤ q) (h2 : q < 40) : chg μ q = 0 := by
  have h3 := cnt_mono μ h1
  have h4 := cnt_mono μ (show q + 1 ≤ 40 by omega)
  by_cases hz : chg μ q = 0
  · exact hz
  · have : cnt μ (q + 1) = cnt μ q + 1 := by
      show cnt μ q + (if chg μ q = 0 then 0 else 1) = _
      rw [if_neg hz]
    omega
theorem wl_ok {σ δ : Sg} {r n m : Nat} {μ0 : Mu} {K : Mu → Prop} (h : tR μ0 σ δ) (h5 : ∀ q, 0 < q → q < 40 → (σ q).2.length ≤ 5) (hr : μ0.1 2 0 = nI r) (hn : μ0.1 2 1 = nI n) (hfl : ∀ q, q < 40 → tB (chg μ0 q)) (hm : m ≤ cnt μ0 40) (kk : ∀ μ' g, Fl μ0 μ' → μ'.1 1 3 = nI g → g ≤ 40 → LG μ' σ r n g → (m = cnt μ0 40 → ∀ q, q < 40 → chg μ0 q ≠ 0 → cov μ' g q) → K μ') : ∀ (c q : Nat) (μ : Mu), q + c = 40 → Fl μ0 μ → μ.1 1 3 = nI (cnt μ0 q) → LG μ σ r n (cnt μ0 q) → (∀ q', q' < q → chg μ0 q' ≠ 0 → cov μ (cnt μ0 q) q') → wlL m K c q μ := by
  intro c
  induction c with
  | zero =>
    intro q μ hq hF hg hL hC
    have : q = 40 := by omega
    subst this
    exact kk μ _ hF hg (cnt_le μ0 40) hL (fun _ => hC)
  | succ c ih =>
    intro q μ hq hF hg hL hC
    have hcl := cnt_le μ0 q
    refine ⟨cnt μ0 q, by omega, hg, ?_⟩
    by_cases hgm : cnt μ0 q < m
    · rw [if_pos hgm]
      rw [hF.ch (by omega)]
      refine ⟨hfl q (by omega), ?_⟩
      by_cases hz : chg μ0 q = 0
      · rw [if_pos hz]
        have e : cnt μ0 (q + 1) = cnt μ0 q := by
          show cnt μ0 q + (if chg μ0 q = 0 then 0 else 1) = _
          rw [if_pos hz, Nat.add_zero]
        refine ih (q + 1) μ (by omega) hF (by rw [e]; exact hg) (by rw [e]; exact hL) (fun q' hq' hne => ?_)
        rw [e]
        exact hC q' (by
          by_cases hh : q' = q
          · subst hh
            exact absurd hz hne
          · omega) hne
      · rw [if_neg hz]
        have e : cnt μ0 (q + 1) = cnt μ0 q + 1 := by
          show cnt μ0 q + (if chg μ0 q = 0 then 0 else 1) = _
          rw [if_neg hz]
        refine ⟨by omega, ?_⟩
        -- what writing the row leaves
        have hgo : ∀ ν : Mu, ν.2 = μ.2 → (∀ a, a ≠ lgI (cnt μ0 q) → ν.1 a = μ.1 a) → enQ σ r n q (ν.1 (lgI (cnt μ0 q))) → ν.1 1 3 = nI (cnt μ0 q) ∧ wlL m K c (q + 1) (wi (wi ν 14 (cnt μ0 q) (nI q)) 1 3 (nI (cnt μ0 q + 1))) := by
          intro ν n1 n2 n3
          refine ⟨by rw [n2 1 (by unfold lgI; omega)]; exact hg, ?_⟩
          have hFν : Fl μ0 (wi (wi ν 14 (cnt μ0 q) (nI q)) 1 3 (nI (cnt μ0 q + 1))) := by
            refine hF.tr ⟨n1, fun i h1 h2 h3 => ?_, fun k hk => ?_⟩
            · rw [wi_ne _ _ _ h1, wi_ne _ _ _ h2, n2 i (by unfold lgI; omega)]
            · rw [wi_at, if_neg (by omega), wi_ne _ _ _ (by omega), n2 1 (by unfold lgI; omega)]
          have hrow : ∀ i, (wi (wi ν 14 (cnt μ0 q) (nI q)) 1 3 (nI (cnt μ0 q + 1))).1 (lgI i) = ν.1 (lgI i) := fun i => by rw [wi_ne _ _ _ (by unfold lgI; omega), wi_ne _ _ _ (by unfold lgI; omega)]
          have h14 : ∀ i, i < cnt μ0 q → (wi (wi ν 14 (cnt μ0 q) (nI q)) 1 3 (nI (cnt μ0 q + 1))).1 14 i = μ.1 14 i := fun i hi => by rw [wi_ne _ _ _ (by omega), wi_at, if_neg (by omega), n2 14 (by unfold lgI; omega)]
          have h14s : (wi (wi ν 14 (cnt μ0 q) (nI q)) 1 3 (nI (cnt μ0 q + 1))).1 14 (cnt μ0 q) = nI q := by rw [wi_ne _ _ _ (by omega), wi_at, if_pos ⟨rfl, rfl⟩]
          refine ih (q + 1) _ (by omega) hFν (by rw [e, wi_at, if_pos ⟨rfl, rfl⟩]) ?_ ?_
          · rw [e]
            intro i hi
            by_cases hie : i = cnt μ0 q
            · subst hie
              exact ⟨q, by omega, h14s, by rw [hrow]; exact n3⟩
            · obtain ⟨q', a1, a2, a3⟩ := hL i (by omega)
              exact ⟨q', a1, by rw [h14 i (by omega)]; exact a2, by rw [hrow, n2 _ (by unfold lgI; omega)]; exact a3⟩
          · rw [e]
            intro q' hq' hne
            by_cases hh : q' = q
            · subst hh
              exact ⟨_, by omega, h14s⟩
            · obtain ⟨i, hi, h1⟩ := hC q' (by omega) hne
              exact ⟨i, by omega, by rw [h14 i hi]; exact h1⟩
        show wpW μ q (lgI (cnt μ0 q)) _
        unfold wpW
        by_cases hq0 : q = 0
        · rw [if_pos hq0]
          refine hgo _ rfl (fun a ha => by unfold wpM; rw [wi_ne _ _ _ ha, wi_ne _ _ _ ha]) ?_
          unfold enQ
          rw [if_pos hq0]
          have h2 : μ.1 2 = μ0.1 2 := hF.2.1 2 (by omega) (by omega) (by omega)
          unfold wpM
          constructor
          · rw [wi_at, if_neg (by omega), wi_at, if_pos ⟨rfl, rfl⟩, h2, hr]
          · rw [wi_at, if_pos ⟨rfl, rfl⟩, wi_ne _ _ _ (by unfold lgI; omega), h2, hn]
        · rw [if_neg hq0]
          have hR := (hF.t h q (by omega) (by omega)).1
          have h5q := h5 q (by omega) (by omega)
          refine ⟨(σ q).2.length, h5q, hR.2.1, ?_⟩
          have hw := wt_m (r := lgI (cnt μ0 q)) hR h5q (fun j hj => by unfold bxI lgI; omega) (by unfold pgI lgI; omega)
          refine hgo _ hw.1 hw.2.1 ?_
          unfold enQ
          rw [if_neg hq0]
          exact hw.2.2
    · rw [if_neg hgm]
      exact kk μ _ hF hg (by omega) hL (fun hme q' hq' hne => by
        by_cases hh : q' < q
        · exact hC q' hh hne
        · exact absurd (cnt_all (a := q) (by omega) (by omega) hq') hne)
/-- only the places change -/
def Fp (μ μ' : Mu) : Prop := μ'.2 = μ.2 ∧ ∀ i, ¬ (99 ≤ i ∧ i < 139) → μ'.1 i = μ.1 i
theorem Fp.rf (μ : Mu) : Fp μ μ := ⟨rfl, fun _ _ => rfl⟩
theorem Fp.tr {a b c : Mu} (h : Fp a b) (k : Fp b c) : Fp a c := ⟨k.1.trans h.1, fun i h1 => (k.2 i h1).trans (h.2 i h1)⟩
theorem cp_p (μ : Mu) (k : Nat) {q : Nat} (hq : q < 40) : Fp μ (cpM μ k q) := ⟨rfl, fun i hi => wr_ne _ _ (by unfold plI; omega)⟩
theorem wc_ok {σ : Sg} {r n G : Nat} {K : Mu → Prop} : ∀ (c k : Nat) (μ : Mu), LG μ σ r n G → k + c ≤ G → (∀ μ', Fp μ μ' → (∀ q, q < 40 → enQ σ r n q (μ'.1 (plI q)) ∨ (μ'.1 (plI q) = μ.1 (plI q) ∧ ∀ i, k ≤ i → i < k + c → μ.1 14 i ≠ nI q)) → K μ') → wcL K c k μ := by
  intro c
  induction c with
  | zero =>
    intro k μ hL hk kk
    exact kk μ (Fp.rf μ) (fun q _ => Or.inr ⟨rfl, fun i h1 h2 => by omega⟩)
  | succ c ih =>
    intro k μ hL hk kk
    obtain ⟨q0, hq0, h14, hen⟩ := hL k (by omega)
    refine ⟨q0, hq0, h14, ?_⟩
    have hF := cp_p μ k hq0
    have hs : (cpM μ k q0).1 (plI q0) = va_cpy (μ.1 (lgI k)) (μ.1 (plI q0)) 0 0 27 := wr_self _ _ _
    have hen2 : enQ σ r n q0 ((cpM μ k q0).1 (plI q0)) := by
      rw [hs]
      refine enQ_eq hen (fun i hi => ?_)
      unfold va_cpy
      rw [if_pos ⟨by omega, by omega⟩]
      simp
    refine ih (k + 1) _ (fun i hi => ?_) (by omega) (fun μ' hF' hq' => kk μ' (hF.tr hF') (fun q hq => ?_))
    · obtain ⟨q1, b1, b2, b3⟩ := hL i hi
      exact ⟨q1, b1, by rw [hF.2 14 (by omega)]; exact b2, by rw [hF.2 (lgI i) (by unfold lgI; omega)]; exact b3⟩
    · rcases hq' q hq with h1 | ⟨h1, h2⟩
      · exact Or.inl h1
      · by_cases hqq : q = q0
        · subst hqq
          rw [← h1] at hen2
          exact Or.inl hen2
        · refine Or.inr ⟨?_, fun i hi1 hi2 => ?_⟩
          · rw [h1]
            exact wr_ne _ _ (by unfold plI; omega)
          · by_cases hik : i = k
            · subst hik
              rw [h14]
              exact fun e => hqq ((nI_eq (by omega) (by omega)).mp e).symm
            · have := h2 i (by omega) (by omega)
              rw [hF.2 14 (by omega)] at this
              exact this
