/-! MENDING: a page's inside; the pages that are taken. -/
def eI (σ : Sg) (v : Nat) (l : List T5) : List T5 := if v = 0 then l else enL σ v l
def pI (σ : Sg) (v : Nat) (l : List T5) : List Nat := if v = 0 then [] else pgL σ v l
def wI (σ : Sg) (v : Nat) (l : List T5) : Prop := ∀ b ∈ l, if v = 0 then okE b else gdB σ v b
theorem ent_i (σ : Sg) (v p : Nat) : ent σ (v + 1) p = eI σ v (σ p).2 := rfl
theorem pgs_i (σ : Sg) (v p : Nat) : pgs σ (v + 1) p = p :: pI σ v (σ p).2 := rfl
theorem wf_i (σ : Sg) (v lo hi p : Nat) : wfC σ (v + 1) lo hi p ↔ (0 < p ∧ p < 40 ∧ (σ p).1 = v + 1 ∧ lo ≤ (σ p).2.length ∧ (σ p).2.length ≤ hi ∧ wI σ v (σ p).2) := Iff.rfl
theorem enL_app (σ : Sg) (v : Nat) (a b : List T5) : enL σ v (a ++ b) = enL σ v a ++ enL σ v b := List.flatMap_append
theorem pgL_app (σ : Sg) (v : Nat) (a b : List T5) : pgL σ v (a ++ b) = pgL σ v a ++ pgL σ v b := List.flatMap_append
theorem enL_cons (σ : Sg) (v : Nat) (a : T5) (b : List T5) : enL σ v (a :: b) = ent σ v (cb a) ++ enL σ v b := List.flatMap_cons
theorem pgL_cons (σ : Sg) (v : Nat) (a : T5) (b : List T5) : pgL σ v (a :: b) = pgs σ v (cb a) ++ pgL σ v b := List.flatMap_cons
theorem enL_p {σ : Sg} {v : Nat} {a b : List T5} (h : a.Perm b) : (enL σ v a).Perm (enL σ v b) := h.flatMap_right _
theorem pgL_p {σ : Sg} {v : Nat} {a b : List T5} (h : a.Perm b) : (pgL σ v a).Perm (pgL σ v b) := h.flatMap_right _
theorem eI_app (σ : Sg) (v : Nat) (a b : List T5) : eI σ v (a ++ b) = eI σ v a ++ eI σ v b := by
  unfold eI
  split
  · rfl
  · exact enL_app ..
theorem pI_app (σ : Sg) (v : Nat) (a b : List T5) : pI σ v (a ++ b) = pI σ v a ++ pI σ v b := by
  unfold pI
  split
  · rfl
  · exact pgL_app ..
theorem eI_p {σ : Sg} {v : Nat} {a b : List T5} (h : a.Perm b) : (eI σ v a).Perm (eI σ v b) := by
  unfold eI
  split
  · exact h
  · exact enL_p h
theorem pI_p {σ : Sg} {v : Nat} {a b : List T5} (h : a.Perm b) : (pI σ v a).Perm (pI σ v b) := by
  unfold pI
  split
  · exact List.Perm.refl _
  · exact pgL_p h
theorem wI_p {σ : Sg} {v : Nat} {a b : List T5} (h : a.Perm b) (hw : wI σ v a) : wI σ v b := fun x hx => hw x (h.mem_iff.mpr hx)
theorem wI_app {σ : Sg} {v : Nat} {a b : List T5} : wI σ v (a ++ b) ↔ wI σ v a ∧ wI σ v b := ⟨fun h => ⟨fun x hx => h x (List.mem_append_left _ hx), fun x hx => h x (List.mem_append_right _ hx)⟩, fun h x hx => (List.mem_append.mp hx).elim (h.1 x) (h.2 x)⟩
theorem loc_i {σ σ' : Sg} {v : Nat} {l : List T5} (h : ∀ q ∈ pI σ v l, σ' q = σ q) : eI σ' v l = eI σ v l ∧ pI σ' v l = pI σ v l := by
  unfold eI pI at *
  by_cases hv : v = 0
  · simp [hv]
  · rw [if_neg hv] at h
    rw [if_neg hv, if_neg hv, if_neg hv, if_neg hv]
    exact loc_L h
theorem loc_wi {σ σ' : Sg} {v : Nat} {l : List T5} (h : ∀ q ∈ pI σ v l, σ' q = σ q) (hw : wI σ v l) : wI σ' v l := by
  intro b hb
  have := hw b hb
  by_cases hv : v = 0
  · rw [if_pos hv] at this ⊢
    exact this
  · rw [if_neg hv] at this ⊢
    rw [pI, if_neg hv] at h
    exact loc_g (fun q hq => h q (List.mem_flatMap.mpr ⟨b, hb, hq⟩)) this
theorem Alc_up {σ σ' : Sg} {Q : List Nat} (h : Alc σ Q) (h1 : ∀ q, 0 < q → q < 40 → ((σ' q).1 ≠ 0 ↔ (σ q).1 ≠ 0)) : Alc σ' Q := ⟨h.1, fun q a b => (h.2 q a b).trans (h1 q a b).symm⟩
theorem Alc_new {σ σ' : Sg} {Q : List Nat} {n : Nat} (h : Alc σ Q) (hn : 0 < n ∧ n < 40) (h0 : (σ n).1 = 0) (hs : (σ' n).1 ≠ 0) (h1 : ∀ q, 0 < q → q < 40 → q ≠ n → ((σ' q).1 ≠ 0 ↔ (σ q).1 ≠ 0)) : Alc σ' (n :: Q) := by
  have hnq : n ∉ Q := fun hh => (h.2 n hn.1 hn.2).mp hh h0
  refine ⟨List.nodup_cons.mpr ⟨hnq, h.1⟩, fun q a b => ?_⟩
  rw [List.mem_cons]
  by_cases hq : q = n
  · subst hq
    exact ⟨fun _ => hs, fun _ => Or.inl rfl⟩
  · rw [h1 q a b hq, ← h.2 q a b]
    exact ⟨fun hh => hh.elim (fun h => absurd h hq) id, Or.inr⟩
theorem Alc_del {σ σ' : Sg} {Q : List Nat} {e : Nat} (h : Alc σ (e :: Q)) (hs : (σ' e).1 = 0) (h1 : ∀ q, 0 < q → q < 40 → q ≠ e → ((σ' q).1 ≠ 0 ↔ (σ q).1 ≠ 0)) : Alc σ' Q := by
  have hn := List.nodup_cons.mp h.1
  refine ⟨hn.2, fun q a b => ?_⟩
  by_cases hq : q = e
  · subst hq
    exact ⟨fun hh => absurd hh hn.1, fun hh => absurd hs hh⟩
  · rw [h1 q a b hq, ← h.2 q a b, List.mem_cons]
    exact ⟨Or.inr, fun hh => hh.elim (fun h => absurd h hq) id⟩
theorem cb_mk {a : T4} {c : Nat} (h : c < 40) : cb (mk5 a (nI c)) = c := nI_clamp (by show c < 2 ^ 31; omega)
theorem nm_mk (a : T4) (n : Int32) : nm (mk5 a n) = n := rfl
theorem b4_mk (a : T4) (n : Int32) : b4 (mk5 a n) = a := rfl
theorem cb_of {x : T5} {c : Nat} (h : nm x = nI c) (hc : c < 40) : cb x = c := by
  unfold cb
  rw [h]
  exact nI_clamp (by omega)
/-- what mending the page P at level w + 2 leaves -/
def MdE (μ : Mu) (σ δ : Sg) (P w : Nat) (N : List Nat) (E : List T5) (a z : Nat) (μ' : Mu) (σ' : Sg) : Prop := tR μ' σ' δ ∧ Fr μ μ' ∧ (∀ q ∈ N, σ' q = σ q) ∧ wfC σ' (w + 2) 1 6 P ∧ (ent σ' (w + 2) P).Perm E ∧ Alc σ' (pgs σ' (w + 2) P ++ N) ∧ a ≤ (σ' P).2.length ∧ (σ' P).2.length ≤ z
/-- the last telling of a frame -/
theorem tf_fin {μ : Mu} {σ δ : Sg} {P w k : Nat} {x : T5} {N : List Nat} (h : tR μ σ δ) (hP : 0 < P ∧ P < 40) (hl : (σ P).1 = w + 2) (hx : (σ P).2[k]? = some x) (hn : nm x = nI (cb x)) (hc : wfC σ (w + 1) 2 5 (cb x)) (hR : ∀ b ∈ (σ P).2.eraseIdx k, gdB σ (w + 1) b) (h6 : (σ P).2.length ≤ 6) (hA : Alc σ (P :: (pgs σ (w + 1) (cb x) ++ pgL σ (w + 1) ((σ P).2.eraseIdx k) ++ N))) : ∃ σ', MdE μ σ δ P w N (ent σ (w + 1) (cb x) ++ enL σ (w + 1) ((σ P).2.eraseIdx k)) (σ P).2.length (σ P).2.length (tfM μ P k (cb x) (σ (cb x)).2.length) σ' := by
  have hct := wf_top hc
  have hk := (List.getElem?_eq_some_iff.mp hx).1
  have ht := tf_t h hP ⟨hct.2.1, hct.2.2.1⟩ hx
  have hnd := List.nodup_cons.mp hA.1
  have hnP : ∀ q, q ∈ pgs σ (w + 1) (cb x) ++ pgL σ (w + 1) ((σ P).2.eraseIdx k) ++ N → q ≠ P := fun q hq e => hnd.1 (e ▸ hq)
  let x' := mk5 (bnd (σ (cb x)).2) (nI (cb x))
  have hcx : cb x' = cb x := cb_mk hct.2.2.1
  let σ' := upS σ P ((σ P).1, (σ P).2.set k x')
  have hu : ∀ q, q ∈ pgs σ (w + 1) (cb x) ++ pgL σ (w + 1) ((σ P).2.eraseIdx k) ++ N → σ' q = σ q := fun q hq => upS_n (hnP q hq)
  have l1 := loc_e (σ := σ) (σ' := σ') (v := w + 1) (p := cb x) (fun q hq => hu q (List.mem_append_left _ (List.mem_append_left _ hq)))
  have l2 := loc_L (σ := σ) (σ' := σ') (v := w + 1) (L := (σ P).2.eraseIdx k) (fun q hq => hu q (List.mem_append_left _ (List.mem_append_right _ hq)))
  have l3 := loc_w (σ := σ) (σ' := σ') (fun q hq => hu q (List.mem_append_left _ (List.mem_append_left _ hq))) hc
  have l4 := loc_gL (σ := σ) (σ' := σ') (v := w + 1) (L := (σ P).2.eraseIdx k) (fun q hq => hu q (List.mem_append_left _ (List.mem_append_right _ hq))) hR
  have hs : σ' P = ((σ P).1, (σ P).2.set k x') := upS_s ..
  have hp : ((σ P).2.set k x').Perm (x' :: (σ P).2.eraseIdx k) := ex_set hx
  have hlen : (σ' P).2.length = (σ P).2.length := by rw [hs]; exact List.length_set
  refine ⟨σ', ht.1, ht.2.fr hP.2, fun q hq => hu q (List.mem_append_right _ hq), ?_, ?_, ?_, ?_, ?_⟩
  · rw [wf_s]
    refine ⟨hP.1, hP.2, by rw [hs]; exact hl, by rw [hlen]; omega, by rw [hlen]; exact h6, fun b hb => ?_⟩
    rw [hs] at hb
    rcases List.mem_cons.mp (hp.mem_iff.mp hb) with rfl | hb
    · refine ⟨by rw [hcx]; rfl, ?_, by rw [hcx]; exact l3⟩
      rw [hcx, l1.1]
      exact wf_bnd hc
    · exact l4 b hb
  · rw [ent_s, hs]
    refine (hp.flatMap_right _).trans ?_
    show (enL σ' (w + 1) (x' :: (σ P).2.eraseIdx k)).Perm _
    rw [enL_cons, hcx, l1.1, l2.1]
  · have hA2 : Alc σ' (P :: (pgs σ (w + 1) (cb x) ++ pgL σ (w + 1) ((σ P).2.eraseIdx k) ++ N)) := Alc_up hA (fun q a b => by
      by_cases hq : q = P
      · subst hq
        rw [hs]
      · rw [show σ' q = σ q from upS_n hq])
    refine Alc_p hA2 ?_
    rw [pgs_s, hs, List.cons_append]
    refine List.Perm.cons _ (List.Perm.append_right _ ?_)
    refine List.Perm.trans ?_ (hp.flatMap_right _).symm
    show List.Perm _ (pgL σ' (w + 1) (x' :: (σ P).2.eraseIdx k))
    rw [pgL_cons, hcx, l1.2, l2.2]
  · rw [hlen]
    exact Nat.le_refl _
  · rw [hlen]
    exact Nat.le_refl _
/-- behind a merge: a split, if it must be, and the frame -/
theorem mdB_ok {μ : Mu} {σ δ : Sg} {P w k nA : Nat} {x : T5} {N : List Nat} {K : Mu → Prop} (h : tR μ σ δ) (hP : 0 < P ∧ P < 40) (hl : (σ P).1 = w + 2) (hx : (σ P).2[k]? = some x) (hn : nm x = nI (cb x)) (hc : wfC σ (w + 1) 2 6 (cb x)) (hR : ∀ b ∈ (σ P).2.eraseIdx k, gdB σ (w + 1) b) (h5 : (σ P).2.length ≤ 5) (hA : Alc σ (P :: (pgs σ (w + 1) (cb x) ++ pgL σ (w + 1) ((σ P).2.eraseIdx k) ++ N))) (hN : N.length ≤ nA) (h40 : (ent σ (w + 1) (cb x)).length + (enL σ (w + 1) ((σ P).2.eraseIdx k)).length + nA ≤ 40) (kk : ∀ μ' σ', MdE μ σ δ P w N (ent σ (w + 1) (cb x) ++ enL σ (w + 1) ((σ P).2.eraseIdx k)) ((σ P).2.length + if (σ (cb x)).2.length = 6 then 1 else 0) ((σ P).2.length + if (σ (cb x)).2.length = 6 then 1 else 0) μ' σ' → K μ') : mdB μ P k K := by
  have hct := wf_top hc
  have hk := (List.getElem?_eq_some_iff.mp hx).1
  have hPR := (h P hP.1 hP.2).1
  have hcR := (h (cb x) hct.2.1 hct.2.2.1).1
  have hbx : μ.1 (bxI P k) 4 = nI (cb x) := (congrArg nm (hPR.2.2.2.2 k x hx)).trans hn
  have hnd := List.nodup_cons.mp hA.1
  refine ⟨cb x, (σ (cb x)).2.length, by omega, hct.2.2.1, hct.2.2.2.2.2, hbx, hcR.2.1, ?_⟩
  by_cases hu6 : (σ (cb x)).2.length = 6
  · rw [if_pos hu6]
    rw [if_pos hu6] at kk
    -- a free page
    have hcount : (P :: (pgs σ (w + 1) (cb x) ++ pgL σ (w + 1) ((σ P).2.eraseIdx k) ++ N)).length < 39 := by
      have c1 := cn_p _ _ _ hc
      have c2 := cn_g hR
      simp only [List.length_cons, List.length_append]
      omega
    obtain ⟨n0, hn1, hn2, hn3⟩ := Alc_free hA hcount
    refine ⟨⟨n0, hn1, hn2, by rw [(h n0 hn1 hn2).1.1, hn3]; exact nI_0⟩, fun n hn0 hn40 hlev => ?_⟩
    have hnl : (σ n).1 = 0 := by
      have := (h n hn0 hn40).1
      rw [this.1, ← nI_0] at hlev
      exact (nI_eq (by have := this.2.2.1.1; omega) (by omega)).mp hlev
    have hnQ : ∀ q, q ∈ (P :: (pgs σ (w + 1) (cb x) ++ pgL σ (w + 1) ((σ P).2.eraseIdx k) ++ N)) → q ≠ n := fun q hq e => (hA.2 n hn0 hn40).mp (e ▸ hq) hnl
    have hcn : cb x ≠ n := hnQ _ (List.mem_cons_of_mem _ (List.mem_append_left _ (List.mem_append_left _ (pgs_self (by omega)))))
    have hPn : P ≠ n := hnQ _ List.mem_cons_self
    have hcP : cb x ≠ P := fun e => hnd.1 (e ▸ List.mem_append_left _ (List.mem_append_left _ (pgs_self (by omega))))
    refine ⟨hcn, fun d ν hd hν => ?_⟩
    have hwl : (σ (cb x)).1 = w + 1 := hct.2.2.2.1
    have hw5 : w + 1 ≤ 5 := by have := hcR.2.2.1.1; omega
    have t1 : tR (opn μ n (μ.1 (pgI (cb x)) 0)) (upS σ n (w + 1, [])) δ := by
      rw [hcR.1, hwl]
      exact opn_t h ⟨hn0, hn40⟩ hw5
    have t2 : tR ν (upS σ n (w + 1, [])) δ := tR_eq t1 (fun q _ _ => hν.2 _ (by unfold pgI; omega) (by unfold pgI; omega)) (fun q j _ _ _ => hν.2 _ (by unfold bxI; omega) (by unfold bxI; omega))
    have f2 : Fr μ ν := ((opn_o μ n _).fr hn40).tr ⟨hν.1, fun i a b _ _ => hν.2 i a b⟩
    have s1c : (upS σ n (w + 1, [])) (cb x) = σ (cb x) := upS_n hcn
    have s1n : (upS σ n (w + 1, [])) n = (w + 1, []) := upS_s ..
    have hmv := mv_w (δ := δ) (f := cb x) (t := n) (x := d) (K := fun ν2 => hgW ν2 P n (fun ν3 => tfW ν3 P k K)) ⟨hct.2.1, hct.2.2.1⟩ ⟨hn0, hn40⟩ hcn 6 ν _ t2 (by rw [s1c, hu6]; omega) (by rw [s1n, cbt_pop d hd.2.1]; show 0 + popN d ≤ 6; have := hd.2.2.2; omega) (by rw [s1n]; show w + 1 ≠ 0; omega)
    rw [s1c, s1n, hu6, cbt_pop d hd.2.1] at hmv
    refine hmv (fun μ2 l1 l2 t3 f3 hl1 hl2 hpm => ?_)
    rw [hwl] at t3
    simp only [List.append_nil, List.length_nil, Nat.zero_add] at hl2 hpm
    have hd3 := hd.2.2.1
    have hd4 := hd.2.2.2
    let σ3 := upS (upS (upS σ n (w + 1, [])) (cb x) (w + 1, l1)) n (w + 1, l2)
    have e3n : σ3 n = (w + 1, l2) := upS_s ..
    have e3c : σ3 (cb x) = (w + 1, l1) := by
      show upS _ _ _ _ = _
      rw [upS_n hcn, upS_s]
    have e3o : ∀ q, q ≠ n → q ≠ cb x → σ3 q = σ q := fun q a b => by
      show upS _ _ _ _ = _
      rw [upS_n a, upS_n b, upS_n a]
    have e3P : σ3 P = σ P := e3o P hPn hcP.symm
    have hh := hg_t (p := P) (q := n) t3 hP ⟨hn0, hn40⟩ (by show (σ3 P).2.length < 6; rw [e3P]; omega) (by show (σ3 P).1 ≠ 0; rw [e3P]; omega)
    have hhn := (t3 n hn0 hn40).1
    have hhP := (t3 P hP.1 hP.2).1
    refine ⟨(σ3 n).2.length, (σ3 P).2.length, hn40, hhn.2.2.2.1, by rw [e3P]; omega, hhn.2.1, hhP.2.1, ?_⟩
    have t4 := hh.1
    have f4 := hh.2.fr hP.2
    -- the store now
    let y := mk5 (bnd l2) (nI n)
    have hcy : cb y = n := cb_mk hn40
    let σ4 := upS σ3 P (w + 2, (σ P).2 ++ [y])
    have t5 : tR (hgM μ2 P n (σ3 n).2.length (σ3 P).2.length) σ4 δ := by
      have : σ4 = upS σ3 P ((σ3 P).1, (σ3 P).2 ++ [mk5 (bnd (σ3 n).2) (nI n)]) := by rw [e3P, e3n, hl]
      rw [this]
      exact t4
    have e4P : σ4 P = (w + 2, (σ P).2 ++ [y]) := upS_s ..
    have e4n : σ4 n = (w + 1, l2) := by
      show upS _ _ _ _ = _
      rw [upS_n hPn.symm, e3n]
    have e4c : σ4 (cb x) = (w + 1, l1) := by
      show upS _ _ _ _ = _
      rw [upS_n hcP, e3c]
    have e4o : ∀ q, q ≠ n → q ≠ cb x → q ≠ P → σ4 q = σ q := fun q a b c => by
      show upS _ _ _ _ = _
      rw [upS_n c, e3o q a b]
    have hnd2 := hnd.2
    rw [pgs_i, List.append_assoc, List.cons_append] at hnd2
    have hnd3 := List.nodup_cons.mp hnd2
    have hrest : ∀ q, q ∈ pI σ w (σ (cb x)).2 ++ (pgL σ (w + 1) ((σ P).2.eraseIdx k) ++ N) → σ4 q = σ q := by
      intro q hq
      have hq2 : q ∈ (P :: (pgs σ (w + 1) (cb x) ++ pgL σ (w + 1) ((σ P).2.eraseIdx k) ++ N)) := by
        rw [pgs_i, List.append_assoc, List.cons_append]
        exact List.mem_cons_of_mem _ (List.mem_cons_of_mem _ hq)
      exact e4o q (hnQ q hq2) (fun e => hnd3.1 (e ▸ hq)) (fun e => by
        subst e
        apply hnd.1
        rw [pgs_i, List.append_assoc, List.cons_append]
        exact List.mem_cons_of_mem _ hq)
    have hwi : wI σ w (σ (cb x)).2 := hc.2.2.2.2.2
    have hpI : (pI σ w l1 ++ pI σ w l2).Perm (pI σ w (σ (cb x)).2) := by
      rw [← pI_app]
      exact pI_p hpm
    have hm1 : ∀ q ∈ pI σ w l1, σ4 q = σ q := fun q hq => hrest q (List.mem_append_left _ (hpI.mem_iff.mp (List.mem_append_left _ hq)))
    have hm2 : ∀ q ∈ pI σ w l2, σ4 q = σ q := fun q hq => hrest q (List.mem_append_left _ (hpI.mem_iff.mp (List.mem_append_right _ hq)))
    have hw12 := wI_app.mp (wI_p hpm.symm hwi)
    have w1 : wfC σ4 (w + 1) 2 5 (cb x) := (wf_i ..).mpr ⟨hct.2.1, hct.2.2.1, by rw [e4c], by rw [e4c]; show 2 ≤ l1.length; omega, by rw [e4c]; show l1.length ≤ 5; omega, by rw [e4c]; exact loc_wi hm1 hw12.1⟩
    have w2 : wfC σ4 (w + 1) 2 5 n := (wf_i ..).mpr ⟨hn0, hn40, by rw [e4n], by rw [e4n]; show 2 ≤ l2.length; omega, by rw [e4n]; show l2.length ≤ 5; omega, by rw [e4n]; exact loc_wi hm2 hw12.2⟩
    have hRL : ∀ q ∈ pgL σ (w + 1) ((σ P).2.eraseIdx k), σ4 q = σ q := fun q hq => hrest q (List.mem_append_right _ (List.mem_append_left _ hq))
    have gR := loc_gL hRL hR
    have lR := loc_L hRL
    have hx4 : (σ4 P).2[k]? = some x := by
      rw [e4P]
      show ((σ P).2 ++ [y])[k]? = some x
      rw [List.getElem?_append_left hk]
      exact hx
    have her : (σ4 P).2.eraseIdx k = (σ P).2.eraseIdx k ++ [y] := by
      rw [e4P]
      exact List.eraseIdx_append_of_lt_length hk _
    have gy : gdB σ4 (w + 1) y := ⟨by rw [hcy]; rfl, by
      rw [hcy]
      show bnd l2 = _
      have := wf_bnd w2
      rw [e4n] at this
      exact this, by rw [hcy]; exact w2⟩
    have p1 : pgs σ4 (w + 1) (cb x) = cb x :: pI σ w l1 := by rw [pgs_i, e4c, (loc_i hm1).2]
    have p2 : pgs σ4 (w + 1) n = n :: pI σ w l2 := by rw [pgs_i, e4n, (loc_i hm2).2]
    have n1 : ent σ4 (w + 1) (cb x) = eI σ w l1 := by rw [ent_i, e4c, (loc_i hm1).1]
    have n2 : ent σ4 (w + 1) n = eI σ w l2 := by rw [ent_i, e4n, (loc_i hm2).1]
    have hA4 : Alc σ4 (n :: (P :: (pgs σ (w + 1) (cb x) ++ pgL σ (w + 1) ((σ P).2.eraseIdx k) ++ N))) := Alc_new hA ⟨hn0, hn40⟩ hnl (by rw [e4n]; show w + 1 ≠ 0; omega) (fun q a b hqn => by
      by_cases hqc : q = cb x
      · subst hqc
        rw [e4c, hwl]
      · by_cases hqP : q = P
        · subst hqP
          rw [e4P, hl]
        · rw [e4o q hqn hqc hqP])
    obtain ⟨σ5, hE⟩ := tf_fin (N := N) t5 hP (by rw [e4P]) hx4 hn w1 (fun b hb => by
      rw [her] at hb
      rcases List.mem_append.mp hb with hb | hb
      · exact gR b hb
      · rw [List.mem_singleton.mp hb]
        exact gy) (by rw [e4P]; simp; omega) (by
      refine Alc_p hA4 ?_
      rw [her, pgL_app, lR.2, p1, pgL_cons, hcy, p2, pgs_i]
      show (n :: P :: (cb x :: pI σ w (σ (cb x)).2 ++ pgL σ (w + 1) ((σ P).2.eraseIdx k) ++ N)).Perm (P :: (cb x :: pI σ w l1 ++ (pgL σ (w + 1) ((σ P).2.eraseIdx k) ++ (n :: pI σ w l2 ++ [])) ++ N))
      refine (List.Perm.swap _ _ _).trans (List.Perm.cons _ ?_)
      simp only [List.cons_append, List.append_nil, List.append_assoc]
      refine (List.Perm.swap _ _ _).trans (List.Perm.cons _ ?_)
      refine List.Perm.trans ?_ (List.Perm.append_left _ List.perm_middle.symm)
      refine List.Perm.trans ?_ List.perm_middle.symm
      refine List.Perm.cons _ ?_
      refine (List.Perm.append_right _ hpI.symm).trans ?_
      rw [List.append_assoc]
      refine List.Perm.append_left _ ?_
      rw [← List.append_assoc, ← List.append_assoc]
      exact List.Perm.append_right _ List.perm_append_comm)
    rw [e4c, e4P] at hE
    have hPR5 := (t5 P hP.1 hP.2).1
    have hcR5 := (t5 (cb x) hct.2.1 hct.2.2.1).1
    refine ⟨cb x, l1.length, by omega, hct.2.2.1, by omega, (congrArg nm (hPR5.2.2.2.2 k x hx4)).trans hn, by rw [hcR5.2.1, e4c], ?_⟩
    refine kk _ σ5 ⟨hE.1, (f2.tr f3).tr (f4.tr hE.2.1), fun q hq => (hE.2.2.1 q hq).trans (hrest q (List.mem_append_right _ (List.mem_append_right _ hq))), hE.2.2.2.1, hE.2.2.2.2.1.trans ?_, hE.2.2.2.2.2.1, ?_, ?_⟩
    · rw [n1, show ((σ P).2 ++ [y]).eraseIdx k = (σ P).2.eraseIdx k ++ [y] from List.eraseIdx_append_of_lt_length hk _, enL_app, lR.1, enL_cons, hcy, n2, ent_i]
      show (eI σ w l1 ++ (enL σ (w + 1) ((σ P).2.eraseIdx k) ++ (eI σ w l2 ++ []))).Perm _
      rw [List.append_nil]
      refine (List.Perm.append_left _ List.perm_append_comm).trans ?_
      rw [← List.append_assoc, ← eI_app]
      exact List.Perm.append_right _ (eI_p hpm)
    · have := hE.2.2.2.2.2.2.1
      simpa using this
    · have := hE.2.2.2.2.2.2.2
      simpa using this
  · rw [if_neg hu6]
    rw [if_neg hu6] at kk
    obtain ⟨σ', hE⟩ := tf_fin (N := N) h hP hl hx hn (wf_wk hc hct.2.2.2.2.1 (by have := hct.2.2.2.2.2; omega)) hR (by omega) hA
    exact ⟨cb x, (σ (cb x)).2.length, by omega, hct.2.2.1, hct.2.2.2.2.2, hbx, hcR.2.1, kk _ σ' hE⟩
