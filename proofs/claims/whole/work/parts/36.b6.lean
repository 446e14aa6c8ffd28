/-! CLIMBING: the way from the root to a page, and what lies beside it. -/
def Up (σ : Sg) (T S : Nat → Nat) : Nat → Nat → Prop
  | 0, _ => True
  | k + 1, u => 0 < T k ∧ T k < 40 ∧ (σ (T k)).1 = u + 1 ∧ 2 ≤ (σ (T k)).2.length ∧ (σ (T k)).2.length ≤ 5 ∧ (∃ x, (σ (T k)).2[S k]? = some x ∧ nm x = nI (T (k + 1))) ∧ (∀ b ∈ (σ (T k)).2.eraseIdx (S k), gdB σ u b) ∧ Up σ T S k (u + 1)
def oE (σ : Sg) (T S : Nat → Nat) : Nat → Nat → List T5
  | 0, _ => []
  | k + 1, u => enL σ u ((σ (T k)).2.eraseIdx (S k)) ++ oE σ T S k (u + 1)
def oP (σ : Sg) (T S : Nat → Nat) : Nat → Nat → List Nat
  | 0, _ => []
  | k + 1, u => T k :: (pgL σ u ((σ (T k)).2.eraseIdx (S k)) ++ oP σ T S k (u + 1))
theorem oP_le {σ : Sg} {T S : Nat → Nat} : ∀ {k u : Nat}, Up σ T S k u → (oP σ T S k u).length ≤ (oE σ T S k u).length := by
  intro k
  induction k with
  | zero => exact fun _ => Nat.le_refl _
  | succ k ih =>
    intro u h
    obtain ⟨_, _, _, h2, _, ⟨x, hx, _⟩, hg, hu⟩ := h
    have h1 := ih hu
    have h3 := cn_g hg
    have hs := (List.getElem?_eq_some_iff.mp hx).1
    have h4 := List.length_eraseIdx_of_lt hs
    rw [oP, oE]
    simp only [List.length_cons, List.length_append]
    omega
theorem loc_U {σ σ' : Sg} {T S : Nat → Nat} : ∀ {k u : Nat}, (∀ q ∈ oP σ T S k u, σ' q = σ q) → (Up σ T S k u → Up σ' T S k u) ∧ oE σ' T S k u = oE σ T S k u ∧ oP σ' T S k u = oP σ T S k u := by
  intro k
  induction k with
  | zero => exact fun _ => ⟨fun _ => trivial, rfl, rfl⟩
  | succ k ih =>
    intro u h
    rw [oP] at h
    have hT : σ' (T k) = σ (T k) := h _ List.mem_cons_self
    have hL : ∀ q ∈ pgL σ u ((σ (T k)).2.eraseIdx (S k)), σ' q = σ q := fun q hq => h q (List.mem_cons_of_mem _ (List.mem_append_left _ hq))
    have h1 := ih (u := u + 1) (fun q hq => h q (List.mem_cons_of_mem _ (List.mem_append_right _ hq)))
    refine ⟨fun hU => ?_, ?_, ?_⟩
    · obtain ⟨a1, a2, a3, a4, a5, a6, a7, a8⟩ := hU
      refine ⟨a1, a2, ?_, ?_, ?_, ?_, ?_, h1.1 a8⟩
      · rw [hT]; exact a3
      · rw [hT]; exact a4
      · rw [hT]; exact a5
      · rw [hT]; exact a6
      · rw [hT]; exact loc_gL hL a7
    · rw [oE, oE, hT, (loc_L hL).1, h1.2.1]
    · rw [oP, oP, hT, (loc_L hL).2, h1.2.2]
theorem Up_cg {σ : Sg} {T S T' S' : Nat → Nat} : ∀ {k u : Nat}, (∀ i, i ≤ k → T' i = T i) → (∀ i, i < k → S' i = S i) → (Up σ T S k u → Up σ T' S' k u) ∧ oE σ T' S' k u = oE σ T S k u ∧ oP σ T' S' k u = oP σ T S k u := by
  intro k
  induction k with
  | zero => exact fun _ _ => ⟨fun _ => trivial, rfl, rfl⟩
  | succ k ih =>
    intro u h1 h2
    have e1 := h1 k (by omega)
    have e2 := h1 (k + 1) (by omega)
    have e3 := h2 k (by omega)
    have h3 := ih (u := u + 1) (fun i hi => h1 i (by omega)) (fun i hi => h2 i (by omega))
    refine ⟨fun hU => ?_, ?_, ?_⟩
    · obtain ⟨a1, a2, a3, a4, a5, a6, a7, a8⟩ := hU
      rw [Up, e1, e2, e3]
      exact ⟨a1, a2, a3, a4, a5, a6, a7, h3.1 a8⟩
    · rw [oE, oE, e1, e3, h3.2.1]
    · rw [oP, oP, e1, e3, h3.2.2]
/-- a tree: its level, its root, its entries -/
def Tw (σ : Sg) (v r : Nat) (E : List T5) : Prop := v ≤ 4 ∧ wfC σ v (if v = 1 then 0 else 2) 5 r ∧ Alc σ (pgs σ v r) ∧ (ent σ v r).Perm E
/-- as Fr, but for the tree's own cell too -/
def Fq (μ μ' : Mu) : Prop := μ'.2 = μ.2 ∧ ∀ i, i ≠ 2 → i ≠ 5 → i ≠ 6 → ¬ (19 ≤ i ∧ i < 59) → ¬ (219 ≤ i ∧ i < 459) → μ'.1 i = μ.1 i
theorem Fr.q {μ μ' : Mu} (h : Fr μ μ') : Fq μ μ' := ⟨h.1, fun i _ a b c d => h.2 i a b c d⟩
theorem Fq.tr {a b c : Mu} (h : Fq a b) (k : Fq b c) : Fq a c := ⟨k.1.trans h.1, fun i h0 h1 h2 h3 h4 => (k.2 i h0 h1 h2 h3 h4).trans (h.2 i h0 h1 h2 h3 h4)⟩
def CE (μ : Mu) (δ : Sg) (E : List T5) (μ' : Mu) (σ' : Sg) (v' r' : Nat) : Prop := tR μ' σ' δ ∧ Fq μ μ' ∧ Tw σ' v' r' E ∧ μ'.1 2 0 = nI r' ∧ μ'.1 2 1 = μ.1 2 1 ∧ μ'.1 2 2 = 1
theorem wh_n (μ : Mu) (a b : Int32) {i : Nat} (h : i ≠ 2) : (whM μ a b).1 i = μ.1 i := by
  unfold whM
  rw [wi_ne _ _ _ h, wi_ne _ _ _ h, wi_ne _ _ _ h]
theorem wh_s (μ : Mu) (a b : Int32) : (whM μ a b).1 2 0 = a ∧ (whM μ a b).1 2 1 = b ∧ (whM μ a b).1 2 2 = 1 := by
  unfold whM
  simp [wi_at]
theorem wh_t {μ : Mu} {σ δ : Sg} (a b : Int32) (h : tR μ σ δ) : tR (whM μ a b) σ δ := tR_eq h (fun q _ _ => wh_n _ _ _ (by unfold pgI; omega)) (fun q j _ _ _ => wh_n _ _ _ (by unfold bxI; omega))
theorem wh_q (μ : Mu) (a b : Int32) : Fq μ (whM μ a b) := ⟨rfl, fun i h _ _ _ _ => wh_n μ a b h⟩
theorem clE_ok {μ : Mu} {σ δ : Sg} {v r : Nat} {E : List T5} {K : Mu → Prop} (h : tR μ σ δ) (hv : v ≤ 4) (hw : wfC σ v (if v = 1 then 0 else 1) 6 r) (hA : Alc σ (pgs σ v r)) (hE : (ent σ v r).Perm E) (h40 : E.length ≤ 40) (hr : μ.1 2 0 = nI r) (hf : μ.1 2 2 = 1) (kk : ∀ μ' σ' v' r', CE μ δ E μ' σ' v' r' → K μ') : clE μ K := by
  have ht := wf_top hw
  have hR := (h r ht.2.1 ht.2.2.1).1
  have hlen := hE.length_eq
  refine ⟨r, (σ r).2.length, v, ht.2.2.1, ht.2.2.2.2.2, by omega, hr, hR.2.1, by rw [hR.1, ht.2.2.2.1], ?_⟩
  obtain ⟨w, rfl⟩ : ∃ w, v = w + 1 := ⟨v - 1, by omega⟩
  by_cases h6 : (σ r).2.length = 6
  · rw [if_pos h6]
    have hv3 : w + 1 ≤ 3 := by
      cases w with
      | zero => omega
      | succ w =>
        have h7 := hi_L ((wf_s σ w _ 6 r).mp hw).2.2.2.2.2
        rw [ent_s] at hlen
        unfold enL at h7
        rw [h6] at h7
        have : w + 1 = 1 ∨ w + 1 = 2 ∨ w + 1 = 3 := by omega
        rcases this with e | e | e
        · omega
        · omega
        · have e8 : 2 ^ (w + 1) = 8 := by rw [e]
          rw [e8] at h7
          omega
    have hcount : (pgs σ (w + 1) r).length < 39 := by
      have := cn_p _ _ _ hw
      omega
    obtain ⟨n0, hn1, hn2, hn3⟩ := Alc_free hA hcount
    refine ⟨⟨n0, hn1, hn2, by rw [(h n0 hn1 hn2).1.1, hn3]; exact nI_0⟩, fun n hn0 hn40 hlev => ?_⟩
    have hnl : (σ n).1 = 0 := by
      have := (h n hn0 hn40).1
      rw [this.1, ← nI_0] at hlev
      exact (nI_eq (by have := this.2.2.1.1; omega) (by omega)).mp hlev
    have hnQ : ∀ q, q ∈ pgs σ (w + 1) r → q ≠ n := fun q hq e => (hA.2 n hn0 hn40).mp (e ▸ hq) hnl
    have hrn : r ≠ n := hnQ r (pgs_self (by omega))
    refine ⟨by rw [(opn_o μ n _).2 2 (by omega) (by unfold pgI; omega) (fun j _ => by unfold bxI; omega)]; exact hr, ?_⟩
    have t1 := opn_t (v := w + 1 + 1) h ⟨hn0, hn40⟩ (by omega)
    let σ1 := upS σ n (w + 1 + 1, [])
    have e1n : σ1 n = (w + 1 + 1, []) := upS_s ..
    have e1o : ∀ q, q ≠ n → σ1 q = σ q := fun q hq => upS_n hq
    have t1 : tR (opn μ n (nI (w + 1 + 1))) σ1 δ := t1
    have hg := hg_t (p := n) (q := r) t1 ⟨hn0, hn40⟩ ⟨ht.2.1, ht.2.2.1⟩ (by rw [e1n]; show 0 < 6; omega) (by rw [e1n]; show w + 1 + 1 ≠ 0; omega)
    have g1 := (t1 r ht.2.1 ht.2.2.1).1
    have g2 := (t1 n hn0 hn40).1
    refine ⟨(σ1 r).2.length, (σ1 n).2.length, ht.2.2.1, g1.2.2.2.1, by rw [e1n]; show 0 < 6; omega, g1.2.1, g2.2.1, ?_⟩
    let x := mk5 (bnd (σ r).2) (nI r)
    have hcx : cb x = r := cb_mk ht.2.2.1
    let σ2 := upS σ1 n (w + 1 + 1, [x])
    have t2 : tR (hgM (opn μ n (nI (w + 1 + 1))) n r (σ1 r).2.length (σ1 n).2.length) σ2 δ := by
      have : σ2 = upS σ1 n ((σ1 n).1, (σ1 n).2 ++ [mk5 (bnd (σ1 r).2) (nI r)]) := by
        rw [e1n, e1o r hrn]
        rfl
      rw [this]
      exact hg.1
    have e2n : σ2 n = (w + 1 + 1, [x]) := upS_s ..
    have e2o : ∀ q, q ≠ n → σ2 q = σ q := fun q hq => by
      show upS _ _ _ _ = _
      rw [upS_n hq, e1o q hq]
    have hloc : ∀ q ∈ pgs σ (w + 1) r, σ2 q = σ q := fun q hq => e2o q (hnQ q hq)
    have le := loc_e hloc
    have lw := loc_w hloc hw
    have e2r : σ2 r = σ r := e2o r hrn
    have hA2 : Alc σ2 (n :: pgs σ (w + 1) r) := Alc_new hA ⟨hn0, hn40⟩ hnl (by rw [e2n]; show w + 1 + 1 ≠ 0; omega) (fun q _ _ hq => by rw [e2o q hq])
    have her : (σ2 n).2.eraseIdx 0 = [] := by rw [e2n]; rfl
    have f2 : Fr μ (hgM (opn μ n (nI (w + 1 + 1))) n r (σ1 r).2.length (σ1 n).2.length) := ((opn_o μ n _).fr hn40).tr (hg.2.fr hn40)
    refine mdW_ok (N := []) (nA := 0) (x := x) (w := w) t2 ⟨hn0, hn40⟩ (by rw [e2n]) (by rw [e2n]; rfl) (by rw [hcx]; rfl) (by rw [hcx]; exact wf_wk lw (by rw [e2r]; omega) (by rw [e2r]; omega)) (by rw [her]; simp) (by rw [e2n]; show 1 ≤ 5; omega) (by rw [hcx, e2r]; omega) ?_ (Nat.le_refl _) ?_ (fun μ' σ' hM => ?_)
    · rw [her, hcx, le.2]
      show Alc σ2 (n :: (pgs σ (w + 1) r ++ [] ++ []))
      rw [List.append_nil, List.append_nil]
      exact hA2
    · rw [her, hcx, le.1]
      show _ + 0 + 0 ≤ 40
      omega
    · rw [her, hcx, le.1, e2n, e2r, h6] at hM
      obtain ⟨m1, m2, m3, m4, m5, m6, m7, m8⟩ := hM
      have hq2 : Fr μ μ' := f2.tr m2
      have hc2 : μ'.1 2 = μ.1 2 := hq2.2 2 (by omega) (by omega) (by omega) (by omega)
      refine kk _ σ' (w + 2) n ⟨wh_t _ _ m1, hq2.q.tr (wh_q _ _ _), ⟨by omega, ?_, ?_, ?_⟩, (wh_s ..).1, ?_, (wh_s ..).2.2⟩
      · rw [if_neg (by omega)]
        exact wf_wk m4 (by simpa using m7) (by have : (σ' n).2.length ≤ 1 + 1 := m8; omega)
      · rw [List.append_nil] at m6
        exact m6
      · refine m5.trans ?_
        show (ent σ (w + 1) r ++ []).Perm E
        rw [List.append_nil]
        exact hE
      · rw [(wh_s ..).2.1, hc2]
  · rw [if_neg h6]
    by_cases h1 : 1 < w + 1 ∧ (σ r).2.length = 1
    · rw [if_pos h1]
      obtain ⟨y, hy⟩ : ∃ y, (σ r).2 = [y] := List.length_eq_one_iff.mp h1.2
      obtain ⟨w', rfl⟩ : ∃ w', w = w' + 1 := ⟨w - 1, by omega⟩
      have gy := ((wf_s σ w' _ 6 r).mp hw).2.2.2.2.2 y (by rw [hy]; exact List.mem_cons_self)
      have gt := wf_top gy.2.2
      have hbx : μ.1 (bxI r 0) 4 = nI (cb y) := (congrArg nm (hR.2.2.2.2 0 y (by rw [hy]; rfl))).trans gy.1
      have hpg : pgs σ (w' + 2) r = r :: pgs σ (w' + 1) (cb y) := by
        rw [pgs_s, hy]
        simp
      have hen : ent σ (w' + 2) r = ent σ (w' + 1) (cb y) := by
        rw [ent_s, hy]
        simp
      have hA' : Alc σ (r :: pgs σ (w' + 1) (cb y)) := by
        rw [← hpg]
        exact hA
      have hnr := (List.nodup_cons.mp hA'.1).1
      let σ' := upS σ r (0, [])
      have eo : ∀ q, q ≠ r → σ' q = σ q := fun q hq => upS_n hq
      have hloc : ∀ q ∈ pgs σ (w' + 1) (cb y), σ' q = σ q := fun q hq => eo q (fun e => hnr (e ▸ hq))
      have le := loc_e hloc
      have lw := loc_w hloc gy.2.2
      have t1 : tR (opn (whM μ (μ.1 (bxI r 0) 4) (μ.1 2 1)) r 0) σ' δ := by
        have := opn_t (v := 0) (wh_t (μ.1 (bxI r 0) 4) (μ.1 2 1) h) ⟨ht.2.1, ht.2.2.1⟩ (by omega)
        rw [nI_0] at this
        exact this
      have hc2 : (opn (whM μ (μ.1 (bxI r 0) 4) (μ.1 2 1)) r 0).1 2 = (whM μ (μ.1 (bxI r 0) 4) (μ.1 2 1)).1 2 := (opn_o _ r _).2 2 (by omega) (by unfold pgI; omega) (fun j _ => by unfold bxI; omega)
      refine kk _ σ' (w' + 1) (cb y) ⟨t1, (wh_q _ _ _).tr ((opn_o _ r _).fr ht.2.2.1).q, ⟨by omega, ?_, ?_, ?_⟩, ?_, ?_, ?_⟩
      · exact wf_wk lw (by have := (wf_top lw).2.2.2.2.1; split <;> omega) (wf_top lw).2.2.2.2.2
      · rw [le.2]
        exact Alc_del hA' (by show (upS _ _ _ _).1 = 0; rw [upS_s]) (fun q _ _ hq => by rw [eo q hq])
      · rw [le.1, ← hen]
        exact hE
      · rw [hc2, (wh_s ..).1, hbx]
      · rw [hc2, (wh_s ..).2.1]
      · rw [hc2, (wh_s ..).2.2]
    · rw [if_neg h1]
      refine kk μ σ (w + 1) r ⟨h, ⟨rfl, fun _ _ _ _ _ _ => rfl⟩, ⟨hv, wf_wk hw ?_ ?_, hA, hE⟩, hr, rfl, hf⟩
      · have := ht.2.2.2.2.1
        by_cases hw0 : w + 1 = 1
        · rw [if_pos hw0]
          omega
        · rw [if_neg hw0] at this ⊢
          omega
      · have := ht.2.2.2.2.2
        omega
theorem clL_ok {δ : Sg} {T S : Nat → Nat} {K : Mu → Prop} : ∀ (k u : Nat) (μ : Mu) (σ : Sg) (E : List T5), tR μ σ δ → k + u ≤ 4 → wfC σ u (if u = 1 ∧ k = 0 then 0 else 1) 6 (T k) → Up σ T S k u → Alc σ (pgs σ u (T k) ++ oP σ T S k u) → (ent σ u (T k) ++ oE σ T S k u).Perm E → E.length ≤ 40 → μ.1 2 0 = nI (T 0) → μ.1 2 2 = 1 → (∀ i, i < k → μ.1 10 i = nI (T i) ∧ μ.1 11 i = nI (S i)) → (∀ μ' σ' v' r', CE μ δ E μ' σ' v' r' → K μ') → clL K k μ := by
  intro k
  induction k with
  | zero =>
    intro u μ σ E h hu hw _ hA hE h40 hr hf _ kk
    rw [oP, List.append_nil] at hA
    rw [oE, List.append_nil] at hE
    refine clE_ok h (by omega) (by have : (if u = 1 ∧ 0 = 0 then 0 else 1) = (if u = 1 then 0 else 1) := by simp
                                   rw [this] at hw
                                   exact hw) hA hE h40 hr hf kk
  | succ k ih =>
    intro u μ σ E h hu hw hU hA hE h40 hr hf hm kk
    rw [if_neg (by omega)] at hw
    have hwt := wf_top hw
    obtain ⟨a1, a2, a3, a4, a5, ⟨x, hx, hxn⟩, a7, a8⟩ := hU
    have hcx : cb x = T (k + 1) := cb_of hxn hwt.2.2.1
    obtain ⟨w, rfl⟩ : ∃ w, u = w + 1 := ⟨u - 1, by omega⟩
    rw [oP] at hA
    rw [oE] at hE
    have hs := (List.getElem?_eq_some_iff.mp hx).1
    have hle := hE.length_eq
    simp only [List.length_append] at hle
    refine ⟨T k, S k, a2, by omega, by omega, (hm k (by omega)).1, (hm k (by omega)).2, ?_⟩
    refine mdW_ok (N := oP σ T S k (w + 1 + 1)) (nA := (oE σ T S k (w + 1 + 1)).length) h ⟨a1, a2⟩ a3 hx (by rw [hcx]; exact hxn) (by rw [hcx]; exact hw) a7 a5 (fun _ => a4) ?_ (oP_le a8) ?_ (fun μ' σ' hM => ?_)
    · refine Alc_p hA ?_
      rw [hcx]
      refine List.perm_middle.trans (List.Perm.cons _ ?_)
      rw [List.append_assoc]
    · rw [hcx]
      omega
    · obtain ⟨m1, m2, m3, m4, m5, m6, m7, m8⟩ := hM
      have lU := loc_U (σ := σ) (σ' := σ') (T := T) (S := S) m3
      have hc : ∀ i, i ≠ 5 → i ≠ 6 → ¬ (19 ≤ i ∧ i < 59) → ¬ (219 ≤ i ∧ i < 459) → μ'.1 i = μ.1 i := m2.2
      refine ih (w + 1 + 1) μ' σ' E m1 (by omega) (by rw [if_neg (by omega)]; exact m4) (lU.1 a8) (by rw [lU.2.2]; exact m6) ?_ h40 (by rw [hc 2 (by omega) (by omega) (by omega) (by omega)]; exact hr) (by rw [hc 2 (by omega) (by omega) (by omega) (by omega)]; exact hf) (fun i hi => ?_) (fun μ2 σ2 v2 r2 hC => kk μ2 σ2 v2 r2 ?_)
      · rw [lU.2.1]
        refine List.Perm.trans ?_ hE
        rw [hcx] at m5
        refine (List.Perm.append_right _ m5).trans ?_
        rw [List.append_assoc]
      · rw [hc 10 (by omega) (by omega) (by omega) (by omega), hc 11 (by omega) (by omega) (by omega) (by omega)]
        exact hm i (by omega)
      · obtain ⟨c1, c2, c3, c4, c5, c6⟩ := hC
        exact ⟨c1, m2.q.tr c2, c3, c4, by rw [c5, hc 2 (by omega) (by omega) (by omega) (by omega)], c6⟩
