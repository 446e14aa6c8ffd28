/-! PLANTING AND UPROOTING. -/
def uN (T : Nat → Nat) (k x : Nat) : Nat → Nat := fun i => if i = k then x else T i
theorem uN_s (T : Nat → Nat) (k x : Nat) : uN T k x k = x := if_pos rfl
theorem uN_n {T : Nat → Nat} {k x i : Nat} (h : i ≠ k) : uN T k x i = T i := if_neg h
/-- the page T d of level u, reached from the root by the turns S, in a tree with these entries -/
def Dn (σ : Sg) (T S : Nat → Nat) (d u : Nat) (E : List T5) : Prop := wfC σ u (if u = 1 ∧ d = 0 then 0 else 2) 5 (T d) ∧ Up σ T S d u ∧ Alc σ (pgs σ u (T d) ++ oP σ T S d u) ∧ (ent σ u (T d) ++ oE σ T S d u).Perm E
def Mm (μ : Mu) (T S : Nat → Nat) (d : Nat) : Prop := ∀ i, i < d → μ.1 10 i = nI (T i) ∧ μ.1 11 i = nI (S i)
/-- only the trail and the turns change -/
def Ft (μ μ' : Mu) : Prop := μ'.2 = μ.2 ∧ ∀ i, i ≠ 10 → i ≠ 11 → μ'.1 i = μ.1 i
theorem Ft.rf (μ : Mu) : Ft μ μ := ⟨rfl, fun _ _ _ => rfl⟩
theorem Ft.tr {a b c : Mu} (h : Ft a b) (k : Ft b c) : Ft a c := ⟨k.1.trans h.1, fun i h1 h2 => (k.2 i h1 h2).trans (h.2 i h1 h2)⟩
theorem Ft.w10 (μ : Mu) (k : Nat) (x : Int32) : Ft μ (wi μ 10 k x) := ⟨rfl, fun i h _ => wi_ne _ _ _ h⟩
theorem Ft.w11 (μ : Mu) (k : Nat) (x : Int32) : Ft μ (wi μ 11 k x) := ⟨rfl, fun i _ h => wi_ne _ _ _ h⟩
theorem Ft.t {μ μ' : Mu} {σ δ : Sg} (h : Ft μ μ') (ht : tR μ σ δ) : tR μ' σ δ := tR_eq ht (fun q _ _ => h.2 _ (by unfold pgI; omega) (by unfold pgI; omega)) (fun q j _ _ _ => h.2 _ (by unfold bxI; omega) (by unfold bxI; omega))
/-- all that planting and uprooting may change -/
def Fx (μ μ' : Mu) : Prop := μ'.2 = μ.2 ∧ ∀ i, i ≠ 2 → i ≠ 5 → i ≠ 6 → i ≠ 10 → i ≠ 11 → ¬ (19 ≤ i ∧ i < 59) → ¬ (219 ≤ i ∧ i < 459) → μ'.1 i = μ.1 i
theorem Fx.tr {a b c : Mu} (h : Fx a b) (k : Fx b c) : Fx a c := ⟨k.1.trans h.1, fun i h0 h1 h2 h3 h4 h5 h6 => (k.2 i h0 h1 h2 h3 h4 h5 h6).trans (h.2 i h0 h1 h2 h3 h4 h5 h6)⟩
theorem Ft.x {μ μ' : Mu} (h : Ft μ μ') : Fx μ μ' := ⟨h.1, fun i _ _ _ a b _ _ => h.2 i a b⟩
theorem Fq.x {μ μ' : Mu} (h : Fq μ μ') : Fx μ μ' := ⟨h.1, fun i a b c _ _ d e => h.2 i a b c d e⟩
theorem dn_step {σ : Sg} {T S : Nat → Nat} {d u b : Nat} {E : List T5} {x : T5} (h : Dn σ T S d (u + 2) E) (hx : (σ (T d)).2[b]? = some x) : nm x = nI (cb x) ∧ b4 x = bnd (ent σ (u + 1) (cb x)) ∧ Dn σ (uN T (d + 1) (cb x)) (uN S d b) (d + 1) (u + 1) E := by
  obtain ⟨h1, h2, h3, h4⟩ := h
  rw [if_neg (by omega)] at h1
  have hw := (wf_s ..).mp h1
  have hp := ex_perm hx
  have hg := hw.2.2.2.2.2
  have gx := hg x (List.mem_of_getElem? hx)
  have hcg := Up_cg (σ := σ) (T := T) (S := S) (T' := uN T (d + 1) (cb x)) (S' := uN S d b) (k := d) (u := u + 1 + 1) (fun i hi => uN_n (by omega)) (fun i hi => uN_n (by omega))
  have eT : uN T (d + 1) (cb x) d = T d := uN_n (by omega)
  refine ⟨gx.1, gx.2.1, ?_, ?_, ?_, ?_⟩
  · rw [uN_s, if_neg (by omega)]
    exact gx.2.2
  · rw [Up, eT, uN_s, uN_s]
    exact ⟨hw.1, hw.2.1, hw.2.2.1, hw.2.2.2.1, hw.2.2.2.2.1, ⟨x, hx, gx.1⟩, fun y hy => hg y (List.mem_of_mem_eraseIdx hy), hcg.1 h2⟩
  · rw [oP, eT, uN_s, uN_s, hcg.2.2]
    refine Alc_p h3 ?_
    rw [pgs_s]
    show (T d :: (pgL σ (u + 1) (σ (T d)).2 ++ oP σ T S d (u + 1 + 1))).Perm _
    refine List.Perm.trans (List.Perm.cons _ (List.Perm.append_right _ (pgL_p hp))) ?_
    rw [pgL_cons, List.append_assoc]
    exact List.perm_middle.symm
  · rw [oE, eT, uN_s, uN_s, hcg.2.1]
    refine List.Perm.trans ?_ h4
    rw [ent_s]
    show List.Perm _ (enL σ (u + 1) (σ (T d)).2 ++ oE σ T S d (u + 1 + 1))
    refine List.Perm.trans ?_ (List.Perm.append_right _ (enL_p hp)).symm
    rw [enL_cons, List.append_assoc]
theorem ds_ok {δ σ : Sg} {E : List T5} {K : Mu → Prop} : ∀ (r d : Nat) (μ : Mu) (T S : Nat → Nat), tR μ σ δ → d + r ≤ 3 → Dn σ T S d (r + 1) E → Mm μ T S d → μ.1 10 d = nI (T d) → (∀ μ' T' S', Ft μ μ' → T' 0 = T 0 → Dn σ T' S' (d + r) 1 E → Mm μ' T' S' (d + r) → μ'.1 10 (d + r) = nI (T' (d + r)) → K μ') → dsL K r d μ := by
  intro r
  induction r with
  | zero =>
    intro d μ T S h hd hD hM h10 kk
    exact kk μ T S (Ft.rf μ) rfl hD hM h10
  | succ r ih =>
    intro d μ T S h hd hD hM h10 kk
    have hw := hD.1
    rw [if_neg (by omega)] at hw
    have ht := wf_top hw
    have hR := (h (T d) ht.2.1 ht.2.2.1).1
    refine ⟨T d, (σ (T d)).2.length, ht.2.2.1, by omega, by omega, by omega, h10, hR.2.1, fun b hb => ?_⟩
    have hx := List.getElem?_eq_getElem hb
    obtain ⟨g1, _, g3⟩ := dn_step hD hx
    have hbx : (wi μ 11 d (nI b)).1 (bxI (T d) b) 4 = nI (cb (σ (T d)).2[b]) := by
      rw [wi_ne _ _ _ (by unfold bxI; omega)]
      exact (congrArg nm (hR.2.2.2.2 b _ hx)).trans g1
    have hF := (Ft.w11 μ d (nI b)).tr (Ft.w10 (wi μ 11 d (nI b)) (d + 1) ((wi μ 11 d (nI b)).1 (bxI (T d) b) 4))
    refine ⟨by rw [wi_at, if_pos ⟨rfl, rfl⟩], ih (d + 1) _ _ _ (hF.t h) (by omega) g3 ?_ ?_ (fun μ' T' S' a1 a2 a3 a4 a5 => kk μ' T' S' (hF.tr a1) (by rw [a2, uN_n (by omega)]) ?_ ?_ ?_)⟩
    · intro i hi
      rw [wi_at, if_neg (by omega), wi_at, if_neg (by omega), wi_at, if_neg (by omega), wi_at]
      by_cases hid : i = d
      · subst hid
        rw [if_pos ⟨rfl, rfl⟩, uN_s, uN_n (by omega)]
        exact ⟨h10, rfl⟩
      · rw [if_neg (by omega), uN_n (by omega), uN_n (by omega)]
        exact hM i (by omega)
    · rw [wi_at, if_pos ⟨rfl, rfl⟩, uN_s, hbx]
    · have : d + 1 + r = d + (r + 1) := by omega
      rw [this] at a3
      exact a3
    · have : d + 1 + r = d + (r + 1) := by omega
      rw [this] at a4
      exact a4
    · have : d + 1 + r = d + (r + 1) := by omega
      rw [this] at a5
      exact a5
theorem Tw_dn {σ : Sg} {v r : Nat} {E : List T5} (h : Tw σ v r E) : Dn σ (fun _ => r) (fun _ => 0) 0 v E := by
  refine ⟨?_, trivial, ?_, ?_⟩
  · have := h.2.1
    by_cases hv : v = 1
    · rw [if_pos hv] at this
      rw [if_pos ⟨hv, rfl⟩]
      exact this
    · rw [if_neg hv] at this
      rw [if_neg (fun h => hv h.1)]
      exact this
  · rw [oP, List.append_nil]
    exact h.2.2.1
  · rw [oE, List.append_nil]
    exact h.2.2.2
/-- a change of the lowest page that was reached -/
theorem lf_ok {δ σ : Sg} {E E' : List T5} {T S : Nat → Nat} {d : Nat} {l : List T5} (hD : Dn σ T S d 1 E) (hl : l.length ≤ 6) (hl1 : (σ (T d)).2.length ≤ l.length + 1) (hok : ∀ t ∈ l, okE t) (hE : (l ++ oE σ T S d 1).Perm E') (h0 : d = 0 ∨ 0 < l.length) : let σ' := upS σ (T d) ((σ (T d)).1, l)
    wfC σ' 1 (if 1 = 1 ∧ d = 0 then 0 else 1) 6 (T d) ∧ Up σ' T S d 1 ∧ Alc σ' (pgs σ' 1 (T d) ++ oP σ' T S d 1) ∧ (ent σ' 1 (T d) ++ oE σ' T S d 1).Perm E' := by
  intro σ'
  obtain ⟨h1, h2, h3, h4⟩ := hD
  have ht := wf_top h1
  have hs : σ' (T d) = ((σ (T d)).1, l) := upS_s ..
  have hnd := h3.1
  rw [pgs_1] at hnd
  have hnP := (List.nodup_cons.mp hnd).1
  have hU := loc_U (σ := σ) (σ' := σ') (T := T) (S := S) (k := d) (u := 1) (fun q hq => upS_n (fun e => hnP (e ▸ hq)))
  refine ⟨(wf_1 ..).mpr ⟨ht.2.1, ht.2.2.1, by rw [hs]; exact ht.2.2.2.1, ?_, by rw [hs]; exact hl, by rw [hs]; exact hok⟩, hU.1 h2, ?_, ?_⟩
  · rw [hs]
    split
    · omega
    · show 1 ≤ l.length
      omega
  · rw [hU.2.2, pgs_1]
    exact Alc_up h3 (fun q _ _ => by
      by_cases hq : q = T d
      · subst hq
        rw [hs]
      · rw [show σ' q = σ q from upS_n hq])
  · rw [hU.2.1, ent_1, hs]
    exact hE
theorem pl_ok {μ : Mu} {σ δ : Sg} {v r e : Nat} {E : List T5} {K : Mu → Prop} (h : tR μ σ δ) (hT : Tw σ v r E) (h40 : E.length < 40) (hr : μ.1 2 0 = nI r) (he : e = 4) (hok : okE (tp (μ.1 e))) (kk : ∀ μ' σ' v' r', tR μ' σ' δ → Fx μ μ' → Tw σ' v' r' (tp (μ.1 e) :: E) → μ'.1 2 0 = nI r' → μ'.1 2 1 = μ.1 2 1 + 1 → μ'.1 2 2 = 1 → K μ') : plW μ e K := by
  subst he
  have ht := wf_top hT.2.1
  have hR := (h r ht.2.1 ht.2.2.1).1
  refine ⟨r, v, ht.2.2.1, ht.1, hT.1, hr, by rw [hR.1, ht.2.2.2.1], ?_⟩
  obtain ⟨w, rfl⟩ : ∃ w, v = w + 1 := ⟨v - 1, by omega⟩
  have hF := Ft.w10 μ 0 (nI r)
  have hv := hT.1
  refine ds_ok w 0 _ (fun _ => r) (fun _ => 0) (hF.t h) (by omega) (Tw_dn hT) (fun i hi => by omega) (by rw [wi_at, if_pos ⟨rfl, rfl⟩]) (fun μ1 T S a1 a2 a3 a4 a5 => ?_)
  rw [Nat.zero_add] at a3 a4 a5
  have hF1 := hF.tr a1
  have t1 := hF1.t h
  have hd := wf_top a3.1
  have hD := (t1 (T w) hd.2.1 hd.2.2.1).1
  have h4 : μ1.1 4 = μ.1 4 := hF1.2 4 (by omega) (by omega)
  have h2 : μ1.1 2 = μ.1 2 := hF1.2 2 (by omega) (by omega)
  refine ⟨T w, (σ (T w)).2.length, hd.2.2.1, by omega, a5, hD.2.1, ?_⟩
  have t2 := add_t (j := 4) t1 ⟨hd.2.1, hd.2.2.1⟩ (by omega) (by rw [hd.2.2.2.1]; omega)
  rw [h4] at t2
  have o2 := add_o μ1 (T w) (σ (T w)).2.length 4 (by omega)
  have c2 : (addM μ1 (T w) (σ (T w)).2.length 4).1 2 = μ.1 2 := (o2.2 2 (by omega) (by unfold pgI; omega) (fun j _ => by unfold bxI; omega)).trans h2
  obtain ⟨b1, b2, b3, b4'⟩ := lf_ok (E' := tp (μ.1 4) :: E) (l := (σ (T w)).2 ++ [tp (μ.1 4)]) (δ := δ) a3 (by simp; omega) (by simp; omega) (by
    intro t ht
    rcases List.mem_append.mp ht with ht | ht
    · exact wf_ok a3.1 t ht
    · rw [List.mem_singleton.mp ht]
      exact hok) (by
    refine List.Perm.trans ?_ (List.Perm.cons _ a3.2.2.2)
    rw [ent_1]
    exact List.Perm.append_right _ (List.perm_append_singleton _ _)) (Or.inr (by simp))
  refine clL_ok w 1 _ _ _ (wh_t _ _ t2) (by omega) b1 b2 b3 b4' (by simp; omega) (by rw [(wh_s ..).1, c2, hr, a2]) (wh_s ..).2.2 (fun i hi => ?_) (fun μ' σ' v' r' hC => ?_)
  · rw [wh_n _ _ _ (by omega), wh_n _ _ _ (by omega), o2.2 10 (by omega) (by unfold pgI; omega) (fun j _ => by unfold bxI; omega), o2.2 11 (by omega) (by unfold pgI; omega) (fun j _ => by unfold bxI; omega)]
    exact a4 i hi
  · obtain ⟨c1, c2', c3, c4, c5, c6⟩ := hC
    refine kk μ' σ' v' r' c1 (hF1.x.tr (((o2.fr hd.2.2.1).q.tr (wh_q _ _ _)).tr c2').x) c3 c4 ?_ c6
    rw [c5, (wh_s ..).2.1, c2]
theorem sk_ok {δ σ : Sg} {E : List T5} {e : Nat} {t : T5} (he : e ≠ 10 ∧ e ≠ 11) : ∀ (u f d : Nat) (μ : Mu) (T S : Nat → Nat) (K : Bool → Mu → Prop), u ≤ f → d + u ≤ 4 → tR μ σ δ → tp (μ.1 e) = t → Dn σ T S d u E → Mm μ T S d → (∀ μ' T' S', Ft μ μ' → (∀ i, i ≤ d → T' i = T i) → Dn σ T' S' (d + u - 1) 1 E → Mm μ' T' S' (d + u) → (σ (T' (d + u - 1))).2[S' (d + u - 1)]? = some t → K true μ') → (t ∉ ent σ u (T d) → ∀ μ', Ft μ μ' → Mm μ' T S d → K false μ') → skW e f (T d) d μ K := by
  intro u
  induction u with
  | zero => intro f d μ T S K _ _ _ _ hD; exact hD.1.elim
  | succ u ih =>
    intro f d μ T S K hf hd h hte hD hM kt kf
    obtain ⟨f, rfl⟩ : ∃ f', f = f' + 1 := ⟨f - 1, by omega⟩
    have hw := hD.1
    have ht := wf_top hw
    refine ⟨ht.2.2.1, ?_⟩
    have hloop : ∀ (r k : Nat) (ν : Mu), k + r = 6 → k ≤ (σ (T d)).2.length → Ft μ ν → Mm ν T S d → ν.1 10 d = nI (T d) → (∀ j y, j < k → (σ (T d)).2[j]? = some y → if u = 0 then y ≠ t else t ∉ ent σ u (cb y)) → skL (fun c ν K' => skW e f c (d + 1) ν K') e (T d) d K (r + 1) k ν := by
      intro r
      induction r with
      | zero => intro k ν hk hkl; omega
      | succ r ihr =>
        intro k ν hk hkl hF hMν h10 hcl
        have hν := hF.t h
        have hR := (hν (T d) ht.2.1 ht.2.2.1).1
        have hF2 := hF.tr (Ft.w11 ν d (nI k))
        have hn2 := hF2.t h
        have hR2 := (hn2 (T d) ht.2.1 ht.2.2.1).1
        have he2 : tp ((wi ν 11 d (nI k)).1 e) = t := by rw [hF2.2 e he.1 he.2]; exact hte
        have hM2 : Mm (wi ν 11 d (nI k)) T S d := fun i hi => by
          rw [wi_at, if_neg (by omega), wi_at, if_neg (by omega)]
          exact hMν i hi
        have h102 : (wi ν 11 d (nI k)).1 10 d = nI (T d) := by
          rw [wi_at, if_neg (by omega)]
          exact h10
        refine ⟨(σ (T d)).2.length, u + 1, by omega, by omega, hR.2.1, by rw [hR2.1, ht.2.2.2.1], ?_⟩
        by_cases hkl2 : k < (σ (T d)).2.length
        · rw [if_pos hkl2]
          have hx := List.getElem?_eq_getElem hkl2
          have hbx := hR2.2.2.2.2 k _ hx
          have hnext : (if u = 0 then (σ (T d)).2[k] ≠ t else t ∉ ent σ u (cb (σ (T d)).2[k])) → ∀ ν3, Ft μ ν3 → Mm ν3 T S d → ν3.1 10 d = nI (T d) → skL (fun c ν K' => skW e f c (d + 1) ν K') e (T d) d K (r + 1) (k + 1) ν3 := by
            intro hh ν3 q1 q2 q3
            refine ihr (k + 1) ν3 (by omega) hkl2 q1 q2 q3 (fun j y hj hy => ?_)
            by_cases hjk : j = k
            · subst hjk
              rw [hx] at hy
              cases hy
              exact hh
            · exact hcl j y (by omega) hy
          by_cases hu : u = 0
          · rw [if_pos (by omega)]
            by_cases hsm : sameB ((wi ν 11 d (nI k)).1 (bxI (T d) k)) ((wi ν 11 d (nI k)).1 e) = true
            · rw [if_pos hsm]
              rw [sa_tp, hbx, he2] at hsm
              subst hu
              have hcg := Up_cg (σ := σ) (T := T) (S := S) (T' := T) (S' := uN S d k) (k := d) (u := 1) (fun i hi => rfl) (fun i hi => uN_n (by omega))
              refine kt _ T (uN S d k) hF2 (fun i hi => rfl) ?_ ?_ ?_
              · show Dn σ T (uN S d k) d 1 E
                refine ⟨hD.1, hcg.1 hD.2.1, ?_, ?_⟩
                · rw [hcg.2.2]; exact hD.2.2.1
                · rw [hcg.2.1]; exact hD.2.2.2
              · intro i hi
                by_cases hid : i = d
                · subst hid
                  rw [uN_s]
                  exact ⟨h102, by rw [wi_at, if_pos ⟨rfl, rfl⟩]⟩
                · rw [uN_n hid]
                  exact hM2 i (by omega)
              · show (σ (T d)).2[uN S d k d]? = some t
                rw [uN_s, hx, hsm]
            · rw [if_neg hsm]
              rw [sa_tp, hbx, he2] at hsm
              exact hnext (by rw [if_pos hu]; exact hsm) _ hF2 hM2 h102
          · rw [if_neg (by omega)]
            obtain ⟨u', rfl⟩ : ∃ u', u = u' + 1 := ⟨u - 1, by omega⟩
            obtain ⟨g1, g2, g3⟩ := dn_step hD hx
            by_cases hho : holdB ((wi ν 11 d (nI k)).1 (bxI (T d) k)) ((wi ν 11 d (nI k)).1 e) = true
            · rw [if_pos hho]
              refine ⟨cb (σ (T d)).2[k], (congrArg nm hbx).trans g1, ?_⟩
              have hT1 : uN T (d + 1) (cb (σ (T d)).2[k]) (d + 1) = cb (σ (T d)).2[k] := uN_s ..
              have hM3 : Mm (wi ν 11 d (nI k)) (uN T (d + 1) (cb (σ (T d)).2[k])) (uN S d k) (d + 1) := by
                intro i hi
                by_cases hid : i = d
                · subst hid
                  rw [uN_s, uN_n (by omega)]
                  exact ⟨h102, by rw [wi_at, if_pos ⟨rfl, rfl⟩]⟩
                · rw [uN_n (by omega), uN_n hid]
                  exact hM2 i (by omega)
              have hrec := ih f (d + 1) (wi ν 11 d (nI k)) (uN T (d + 1) (cb (σ (T d)).2[k])) (uN S d k) (fun b ν2 => if b = true then K true ν2 else skL (fun c ν K' => skW e f c (d + 1) ν K') e (T d) d K (r + 1) (k + 1) ν2) (by omega) (by omega) hn2 he2 g3 hM3 (fun μ' T' S' q1 q2 q3 q4 q5 => ?_) (fun hno μ' q1 q2 => ?_)
              · rw [hT1] at hrec
                exact hrec
              · rw [if_pos rfl]
                have e1 : d + 1 + (u' + 1) - 1 = d + (u' + 1 + 1) - 1 := by omega
                have e2 : d + 1 + (u' + 1) = d + (u' + 1 + 1) := by omega
                rw [e1] at q3 q5
                rw [e2] at q4
                exact kt μ' T' S' (hF2.tr q1) (fun i hi => (q2 i (by omega)).trans (uN_n (by omega))) q3 q4 q5
              · rw [if_neg (by decide)]
                rw [hT1] at hno
                refine hnext (by rw [if_neg (by omega)]; exact hno) μ' (hF2.tr q1) (fun i hi => ?_) ?_
                · have := q2 i (by omega)
                  rw [uN_n (by omega), uN_n (by omega)] at this
                  exact this
                · have := (q2 d (by omega)).1
                  rw [uN_n (by omega)] at this
                  exact this
            · rw [if_neg hho]
              refine hnext ?_ _ hF2 hM2 h102
              rw [if_neg (by omega)]
              intro hin
              apply hho
              rw [ho_tp, hbx, he2, ho_iff, g2]
              exact inn_bnd hin
        · rw [if_neg hkl2]
          refine kf ?_ ν hF hMν
          intro hin
          by_cases hu : u = 0
          · subst hu
            rw [ent_1] at hin
            obtain ⟨j, hj, hjt⟩ := List.getElem_of_mem hin
            have := hcl j t (by omega) (by rw [← hjt]; exact List.getElem?_eq_getElem hj)
            rw [if_pos rfl] at this
            exact this rfl
          · rw [ent, if_neg hu] at hin
            obtain ⟨y, hy, hty⟩ := List.mem_flatMap.mp hin
            obtain ⟨j, hj, hjt⟩ := List.getElem_of_mem hy
            have := hcl j y (by omega) (by rw [← hjt]; exact List.getElem?_eq_getElem hj)
            rw [if_neg hu] at this
            exact this hty
    have hF := Ft.w10 μ d (nI (T d))
    exact hloop 6 0 _ (by omega) (by omega) hF (fun i hi => by rw [wi_at, if_neg (by omega), wi_at, if_neg (by omega)]; exact hM i hi) (by rw [wi_at, if_pos ⟨rfl, rfl⟩]) (fun j y hj => by omega)
theorem up_ok {μ : Mu} {σ δ : Sg} {v r e : Nat} {E : List T5} {K : Bool → Mu → Prop} (h : tR μ σ δ) (hT : Tw σ v r E) (h40 : E.length ≤ 40) (hr : μ.1 2 0 = nI r) (he : e ≠ 10 ∧ e ≠ 11) (kt : ∀ μ' σ' v' r' E', tR μ' σ' δ → Fx μ μ' → E.Perm (tp (μ.1 e) :: E') → Tw σ' v' r' E' → μ'.1 2 0 = nI r' → μ'.1 2 1 = μ.1 2 1 - 1 → μ'.1 2 2 = 1 → K true μ') (kf : tp (μ.1 e) ∉ E → ∀ μ', Ft μ μ' → K false μ') : upW μ e K := by
  have hv := hT.1
  have hwt := wf_top hT.2.1
  refine ⟨r, hr, ?_⟩
  refine sk_ok (E := E) (t := tp (μ.1 e)) he v 4 0 μ (fun _ => r) (fun _ => 0) _ hv (by omega) h rfl (Tw_dn hT) (fun i hi => by omega) (fun μ1 T S a1 a2 a3 a4 a5 => ?_) (fun hno μ' a1 _ => ?_)
  · rw [if_pos rfl]
    rw [Nat.zero_add] at a3 a4 a5
    have t1 := a1.t h
    have hd := wf_top a3.1
    have hD := (t1 (T (v - 1)) hd.2.1 hd.2.2.1).1
    have h2 : μ1.1 2 = μ.1 2 := a1.2 2 (by omega) (by omega)
    have hs := (List.getElem?_eq_some_iff.mp a5).1
    have hrR := (t1 r hwt.2.1 hwt.2.2.1).1
    have hm := a4 (v - 1) (by omega)
    refine ⟨r, v, T (v - 1), S (v - 1), (σ (T (v - 1))).2.length, hwt.2.2.1, hwt.1, hv, by rw [h2]; exact hr, by rw [hrR.1, hwt.2.2.2.1], hd.2.2.1, hs, by omega, hm.1, hm.2, hD.2.1, ?_⟩
    have t2 := drp_t (k := S (v - 1)) t1 ⟨hd.2.1, hd.2.2.1⟩ hs
    have o2 := drp_o μ1 (T (v - 1)) (σ (T (v - 1))).2.length (S (v - 1)) (by omega)
    have c2 : (drpM μ1 (T (v - 1)) (σ (T (v - 1))).2.length (S (v - 1))).1 2 = μ.1 2 := (o2.2 2 (by omega) (by unfold pgI; omega) (fun j _ => by unfold bxI; omega)).trans h2
    have hp := drl_perm a5
    have hE := a3.2.2.2
    rw [ent_1] at hE
    have hE2 : E.Perm (tp (μ.1 e) :: (drl (σ (T (v - 1))).2 (S (v - 1)) ++ oE σ T S (v - 1) 1)) := hE.symm.trans (List.Perm.append_right _ hp)
    obtain ⟨b1, b2, b3, b4'⟩ := lf_ok (E' := drl (σ (T (v - 1))).2 (S (v - 1)) ++ oE σ T S (v - 1) 1) (l := drl (σ (T (v - 1))).2 (S (v - 1))) (δ := δ) a3 (by rw [drl_len]; omega) (by rw [drl_len]; omega) (fun t ht => wf_ok a3.1 t (hp.mem_iff.mpr (List.mem_cons_of_mem _ ht))) (List.Perm.refl _) (by
      by_cases h0 : v - 1 = 0
      · exact Or.inl h0
      · have := hd.2.2.2.2.1
        rw [if_neg (by omega)] at this
        rw [drl_len]
        exact Or.inr (by omega))
    have hl := hE2.length_eq
    rw [List.length_cons] at hl
    refine clL_ok (v - 1) 1 _ _ _ (wh_t _ _ t2) (by omega) b1 b2 b3 b4' (by omega) (by rw [(wh_s ..).1, c2, hr, a2 0 (Nat.le_refl _)]) (wh_s ..).2.2 (fun i hi => ?_) (fun μ' σ' v' r' hC => ?_)
    · rw [wh_n _ _ _ (by omega), wh_n _ _ _ (by omega), o2.2 10 (by omega) (by unfold pgI; omega) (fun j _ => by unfold bxI; omega), o2.2 11 (by omega) (by unfold pgI; omega) (fun j _ => by unfold bxI; omega)]
      exact a4 i (by omega)
    · obtain ⟨c1, c2', c3, c4, c5, c6⟩ := hC
      refine kt μ' σ' v' r' _ c1 (a1.x.tr (((o2.fr hd.2.2.1).q.tr (wh_q _ _ _)).tr c2').x) hE2 c3 c4 ?_ c6
      rw [c5, (wh_s ..).2.1, c2]
  · rw [if_neg (by decide)]
    exact kf (fun hin => hno (hT.2.2.2.mem_iff.mpr hin)) μ' a1
