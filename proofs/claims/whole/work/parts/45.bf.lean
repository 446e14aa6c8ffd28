/-! SOUND. -/
theorem enL_le {σ : Sg} {v : Nat} {b : T5} {L : List T5} (h : b ∈ L) : (ent σ v (cb b)).length ≤ (enL σ v L).length := by
  induction L with
  | nil => cases h
  | cons x L ih =>
    rw [enL_cons, List.length_append]
    rcases List.mem_cons.mp h with rfl | h
    · omega
    · have := ih h
      omega
theorem eb_l {σ δ : Sg} {r0 q v : Nat} {rec : Nat → Mu → (Int32 → Mu → Prop) → Prop} {K : Int32 → Mu → Prop} (hq : 0 < q ∧ q < 40) (h5 : (σ q).2.length ≤ 5) (hg : ∀ b ∈ (σ q).2, gdB σ v b) (h40 : (enL σ v (σ q).2).length ≤ 40)
    (hrec : ∀ b ∈ (σ q).2, ∀ (ν : Mu) (K' : Int32 → Mu → Prop), tR ν σ δ → ν.1 2 0 = nI r0 → (∀ ν', (∀ a, a ≠ 5 → ν'.1 a = ν.1 a) → K' (nI (ent σ v (cb b)).length) ν') → rec (cb b) ν K') : ∀ (r k : Nat) (ν : Mu), r + k = 7 → k ≤ (σ q).2.length → tR ν σ δ → ν.1 2 0 = nI r0 → (∀ ν', (∀ a, a ≠ 5 → ν'.1 a = ν.1 a) → K (nI (enL σ v (σ q).2).length) ν') → ebL rec q K r k (nI (enL σ v ((σ q).2.take k)).length) ν := by
  intro r
  induction r with
  | zero =>
    intro k ν hk hkl
    omega
  | succ r ih =>
    intro k ν hk hkl ht hr kk
    have hR := (ht q hq.1 hq.2).1
    refine ⟨(σ q).2.length, by omega, hR.2.1, ?_⟩
    by_cases hkk : k < (σ q).2.length
    · rw [if_pos hkk]
      have hb : (σ q).2[k]? = some (σ q).2[k] := List.getElem?_eq_getElem hkk
      have hbm : (σ q).2[k] ∈ (σ q).2 := List.getElem_mem hkk
      have htk : (σ q).2.take (k + 1) = (σ q).2.take k ++ [(σ q).2[k]] := List.take_succ_eq_append_getElem hkk
      generalize (σ q).2[k] = b at hb hbm htk
      have hc := hR.2.2.2.2 k _ hb
      obtain ⟨g1, g2, g3⟩ := hg b hbm
      have htc := wf_top g3
      have hRc := (ht (cb b) htc.2.1 htc.2.2.1).1
      have hf := f5_s hRc
      have hn4 : ν.1 (bxI q k) 4 = nI (cb b) := by
        rw [← g1]
        exact congrArg nm hc
      refine ⟨cb b, (σ (cb b)).2.length, htc.2.2.1, hRc.2.2.2.1, hn4, hRc.2.1, ?_⟩
      have hsame : sameB ((frM (wi ν 5 4 (nI (cb b))) (cb b) (σ (cb b)).2.length (-1) 5).1 (bxI q k)) ((frM (wi ν 5 4 (nI (cb b))) (cb b) (σ (cb b)).2.length (-1) 5).1 5) = true := by
        show sameB ((f5 ν (cb b) (σ (cb b)).2.length).1 (bxI q k)) ((f5 ν (cb b) (σ (cb b)).2.length).1 5) = true
        rw [sa_tp, hf.2.2, hf.2.1 _ (by unfold bxI; omega), hc, wf_bnd g3, ← g2, ← g1]
        rfl
      rw [if_pos hsame]
      have htf : tR (f5 ν (cb b) (σ (cb b)).2.length) σ δ := f5_t ht hRc
      refine hrec b hbm _ _ htf (by show (f5 ν (cb b) (σ (cb b)).2.length).1 2 0 = _; rw [hf.2.1 2 (by omega)]; exact hr) (fun ν' hν' => ?_)
      have hle := enL_le (σ := σ) (v := v) hbm
      rw [if_neg (nI_pos (by omega)), nI_add]
      have hν2 : ∀ a, a ≠ 5 → ν'.1 a = ν.1 a := fun a ha => (hν' a ha).trans (hf.2.1 a ha)
      have hsum : (enL σ v ((σ q).2.take k)).length + (ent σ v (cb b)).length = (enL σ v ((σ q).2.take (k + 1))).length := by
        rw [htk, enL_app, List.length_append, enL_cons]
        simp [enL]
      rw [hsum]
      exact ih (k + 1) ν' (by omega) hkk (tR_eq ht (fun q _ _ => hν2 _ (by unfold pgI; omega)) (fun q j _ _ _ => hν2 _ (by unfold bxI; omega))) (by rw [hν2 2 (by omega)]; exact hr) (fun ν3 h3 => kk ν3 (fun a ha => (h3 a ha).trans (hν2 a ha)))
    · rw [if_neg hkk, List.take_of_length_le (by omega)]
      exact kk ν (fun _ _ => rfl)
theorem eb_ok {σ δ : Sg} {r0 : Nat} : ∀ (v lo q : Nat) (ν : Mu) (K : Int32 → Mu → Prop), wfC σ v lo 5 q → (q = r0 ∨ 2 ≤ lo) → (ent σ v q).length ≤ 40 → tR ν σ δ → ν.1 2 0 = nI r0 → (∀ ν', (∀ a, a ≠ 5 → ν'.1 a = ν.1 a) → K (nI (ent σ v q).length) ν') → ebW v q ν K := by
  intro v
  induction v with
  | zero => exact fun lo q ν K h => h.elim
  | succ v ih =>
    intro lo q ν K hw hlo h40 ht hr kk
    have hte := wf_top hw
    have hR := (ht q hte.2.1 hte.2.2.1).1
    have hX : ebX ν q (σ q).2.length (v + 1) := ⟨by rw [hR.1, hte.2.2.2.1], hte.2.2.2.2.2, by
      rcases hlo with hlo | hlo
      · left
        rw [hr, hlo]
      · right
        omega⟩
    refine ⟨hte.2.2.1, (σ q).2.length, by omega, hR.2.1, fun hn => absurd hX hn, fun _ => ?_⟩
    by_cases hv : v = 0
    · subst hv
      rw [if_pos rfl]
      exact kk ν (fun _ _ => rfl)
    · rw [if_neg hv]
      obtain ⟨w, rfl⟩ : ∃ w, v = w + 1 := ⟨v - 1, by omega⟩
      have hg := ((wf_s σ w lo 5 q).mp hw).2.2.2.2.2
      rw [ent_s] at h40 kk
      refine eb_l (δ := δ) (r0 := r0) (rec := fun c ν K' => ebW (w + 1) c ν K') ⟨hte.2.1, hte.2.2.1⟩ hte.2.2.2.2.2 hg h40 (fun b hb ν' K' t1 r1 k1 => ih 2 (cb b) ν' K' (hg b hb).2.2 (Or.inr (Nat.le_refl _)) (Nat.le_trans (enL_le hb) h40) t1 r1 k1) 7 0 ν (by omega) (Nat.zero_le _) ht hr kk
theorem s_sn {μ ρ : Mu} (h : SimE μ ρ) : snW μ (fun b ν => bI b = ρ.1 0 0 ∧ SimE ν ρ) := by
  obtain ⟨L, hS⟩ := h
  unfold snW
  rw [hS.2.2.1]
  by_cases h0 : μ.1 0 4 = 0
  · rw [if_pos h0, h0]
    exact ⟨rfl, L, hS⟩
  · rw [if_neg h0]
    obtain ⟨h1, σ, v, r, hR⟩ := hS.run h0
    have hl := hS.len
    have hte := wf_top hR.2.2.1.2.1
    have hRr := (hR.1 r hte.2.1 hte.2.2.1).1
    have hlen := hR.2.2.1.2.2.2.length_eq
    have hv4 := hR.2.2.1.1
    refine ⟨r, v, hte.2.2.1, by omega, hR.2.2.2.2.1, by rw [hRr.1, hte.2.2.2.1], ?_⟩
    rw [if_pos ⟨hte.1, hv4⟩]
    refine eb_ok v _ r μ _ hR.2.2.1.2.1 (Or.inl rfl) (by omega) hR.1 hR.2.2.2.2.1 (fun ν' hν => ?_)
    have z0 := hν 0 (by omega)
    refine ⟨?_, hS.keep h1 (fun i hi => hν i (by unfold cC at hi; omega)) (by rw [z0]) (by rw [z0]) (by rw [z0]; exact hS.2.2.2.2.2.1)⟩
    rw [hν 2 (by omega), hR.2.2.2.2.2.1, hlen, decide_eq_true rfl, h1]
    rfl
