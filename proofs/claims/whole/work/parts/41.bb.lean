/-! GATHERING what meets a window. -/
def eQ (σ : Sg) (Q : List Qe) : List T5 := Q.flatMap (fun e => ent σ e.1 e.2.1)
def pQ (σ : Sg) (Q : List Qe) : List Nat := Q.flatMap (fun e => pgs σ e.1 e.2.1)
def wQ (σ : Sg) (Q : List Qe) : Prop := ∀ e ∈ Q, wfC σ e.1 0 5 e.2.1
theorem eQ_p {σ : Sg} {Q Q' : List Qe} (h : Q.Perm Q') : (eQ σ Q).Perm (eQ σ Q') := h.flatMap_right _
theorem pQ_p {σ : Sg} {Q Q' : List Qe} (h : Q.Perm Q') : (pQ σ Q).Perm (pQ σ Q') := h.flatMap_right _
theorem eQ_cons (σ : Sg) (e : Qe) (Q : List Qe) : eQ σ (e :: Q) = ent σ e.1 e.2.1 ++ eQ σ Q := List.flatMap_cons
theorem pQ_cons (σ : Sg) (e : Qe) (Q : List Qe) : pQ σ (e :: Q) = pgs σ e.1 e.2.1 ++ pQ σ Q := List.flatMap_cons
theorem eQ_snoc (σ : Sg) (e : Qe) (Q : List Qe) : eQ σ (Q ++ [e]) = eQ σ Q ++ ent σ e.1 e.2.1 := by
  unfold eQ
  rw [List.flatMap_append, List.flatMap_cons, List.flatMap_nil, List.append_nil]
theorem pQ_snoc (σ : Sg) (e : Qe) (Q : List Qe) : pQ σ (Q ++ [e]) = pQ σ Q ++ pgs σ e.1 e.2.1 := by
  unfold pQ
  rw [List.flatMap_append, List.flatMap_cons, List.flatMap_nil, List.append_nil]
theorem pQ_len {σ : Sg} {Q : List Qe} (h : wQ σ Q) : Q.length ≤ (pQ σ Q).length := by
  induction Q with
  | nil => exact Nat.le_refl _
  | cons e Q ih =>
    have h1 := ih (fun x hx => h x (List.mem_cons_of_mem _ hx))
    have h2 := (wf_top (h e List.mem_cons_self)).1
    have h3 : 0 < (pgs σ e.1 e.2.1).length := List.length_pos_of_mem (pgs_self h2)
    rw [pQ_cons, List.length_append, List.length_cons]
    omega
theorem eI_cons (σ : Sg) (v : Nat) (b : T5) (l : List T5) : eI σ v (b :: l) = (if v = 0 then [b] else ent σ v (cb b)) ++ eI σ v l := by
  unfold eI
  by_cases h : v = 0
  · rw [if_pos h, if_pos h, if_pos h]
    rfl
  · rw [if_neg h, if_neg h, if_neg h, enL_cons]
theorem pI_cons (σ : Sg) (v : Nat) (b : T5) (l : List T5) : pI σ v (b :: l) = (if v = 0 then [] else pgs σ v (cb b)) ++ pI σ v l := by
  unfold pI
  by_cases h : v = 0
  · rw [if_pos h, if_pos h, if_pos h]
    rfl
  · rw [if_neg h, if_neg h, if_neg h, pgL_cons]
/-- what meets the window -/
def fl (W : T5) (l : List T5) : List T5 := l.filter (fun t => meT t W)
theorem fl_app (W : T5) (a b : List T5) : fl W (a ++ b) = fl W a ++ fl W b := List.filter_append ..
theorem fl_p {W : T5} {a b : List T5} (h : a.Perm b) : (fl W a).Perm (fl W b) := h.filter _
theorem fl_le (W : T5) (a : List T5) : (fl W a).length ≤ a.length := List.length_filter_le ..
/-- what a search leaves as it was -/
def Fs (μ ν : Mu) : Prop := ∀ i, i ≠ 3 → i ≠ 7 → i ≠ 8 → i ≠ 16 → i ≠ 18 → ¬ (179 ≤ i ∧ i < 219) → ν.1 i = μ.1 i
theorem Fs.rf (μ : Mu) : Fs μ μ := fun _ _ _ _ _ _ _ => rfl
theorem Fs.tr {a b c : Mu} (h : Fs a b) (k : Fs b c) : Fs a c := fun i h1 h2 h3 h4 h5 h6 => (k i h1 h2 h3 h4 h5 h6).trans (h i h1 h2 h3 h4 h5 h6)
theorem Fw.s {μ ν : Mu} (h : Fw μ ν) : Fs μ ν := fun i h1 _ _ h4 h5 _ => h.1 i h1 h4 h5
theorem Fs.t {μ ν : Mu} {σ δ : Sg} (h : Fs μ ν) (ht : tR μ σ δ) : tR ν σ δ := tR_eq ht (fun q _ _ => h _ (by unfold pgI; omega) (by unfold pgI; omega) (by unfold pgI; omega) (by unfold pgI; omega) (by unfold pgI; omega) (by unfold pgI; omega)) (fun q j _ _ _ => h _ (by unfold bxI; omega) (by unfold bxI; omega) (by unfold bxI; omega) (by unfold bxI; omega) (by unfold bxI; omega) (by unfold bxI; omega))
def lkM (σ : Sg) (W : T5) (r0 q : Nat) : Prop := 0 < q ∧ q < 40 ∧ (q = r0 ∨ meT (mk5 (bnd (σ q).2) 0) W = true)
def GI (μ0 : Mu) (σ : Sg) (W : T5) (r0 : Nat) (ν : Mu) (F : List T5) (Q : List Qe) (Kl : List Nat) : Prop := Fs μ0 ν ∧ Sq ν Q Kl ∧ Fnd ν F ∧ wQ σ Q ∧ (∀ e ∈ Q, lkM σ W r0 e.2.1) ∧ ∀ q ∈ Kl, lkM σ W r0 q
theorem gs_ok {μ0 : Mu} {σ δ : Sg} {W : T5} {r0 q v M : Nat} {T : List T5} {Kl : List Nat} {K : Mu → Prop} (ht : tR μ0 σ δ) (hW : tp (μ0.1 4) = W) (hq : 0 < q ∧ q < 40) (hl : (σ q).1 = v + 1) (hv : v < 5) (h5 : (σ q).2.length ≤ 5) (hw : wI σ v (σ q).2) (hT : T.length ≤ 40) (hM : M ≤ 39)
    (kk : ∀ ν F Q, GI μ0 σ W r0 ν F Q Kl → (F ++ fl W (eQ σ Q)).Perm T → (pQ σ Q).length ≤ M → K ν) : ∀ (r k : Nat) (ν : Mu) (F : List T5) (Q : List Qe), r + k = 7 → k ≤ (σ q).2.length → GI μ0 σ W r0 ν F Q Kl → (F ++ fl W (eQ σ Q) ++ fl W (eI σ v ((σ q).2.drop k))).Perm T → (pQ σ Q).length + (pI σ v ((σ q).2.drop k)).length ≤ M → gsL q 4 K r k ν := by
  intro r
  induction r with
  | zero =>
    intro k ν F Q hk hkl
    omega
  | succ r ih =>
    intro k ν F Q hk hkl hG hp hM2
    have hν := hG.1.t ht
    have hR := (hν q hq.1 hq.2).1
    have hlen := hp.length_eq
    refine ⟨(σ q).2.length, v + 1, by omega, by omega, hR.2.1, by rw [hR.1, hl], ?_⟩
    by_cases hkk : k < (σ q).2.length
    · rw [if_pos hkk]
      have hb : (σ q).2[k]? = some (σ q).2[k] := List.getElem?_eq_getElem hkk
      have hd : (σ q).2.drop k = (σ q).2[k] :: (σ q).2.drop (k + 1) := List.drop_eq_getElem_cons hkk
      have hbm : (σ q).2[k] ∈ (σ q).2 := List.getElem_mem hkk
      have hwb := hw _ hbm
      have hc := hR.2.2.2.2 k _ hb
      generalize (σ q).2[k] = b at hb hd hbm hwb hc
      rw [hd, eI_cons, fl_app] at hp
      rw [hd, pI_cons, List.length_append] at hM2
      rw [hd, eI_cons, fl_app] at hlen
      have h4 : tp (ν.1 4) = W := by
        rw [hG.1 4 (by omega) (by omega) (by omega) (by omega) (by omega) (by omega)]
        exact hW
      rw [me_tp, hc, h4]
      by_cases hm : meT b W = true
      · rw [if_pos hm]
        by_cases hv0 : v = 0
        · subst hv0
          rw [if_pos rfl]
          rw [if_pos rfl] at hp hM2 hlen
          have hfb : fl W [b] = [b] := by
            unfold fl
            rw [List.filter_cons, if_pos hm, List.filter_nil]
          rw [hfb] at hp hlen
          have hF40 : F.length < 40 := by
            simp only [List.length_append, List.length_cons, List.length_nil] at hlen
            omega
          refine ⟨F.length, hF40, hG.2.2.1.1, ?_⟩
          have hko := ko_ok (e := bxI q k) hG.2.2.1 hF40 (by unfold bxI; omega)
          obtain ⟨⟨a1, a2, a3⟩, F', hF', hFd'⟩ := hko
          rw [hc] at hF'
          refine ih (k + 1) _ F' Q (by omega) hkk ⟨fun i x1 x2 x3 x4 x5 x6 => ?_, ⟨?_, fun i e he => ?_, ?_, fun i e he => ?_⟩, hFd', hG.2.2.2⟩ ?_ (by simpa using hM2)
          · rw [a1 i x1 x6]
            exact hG.1 i x1 x2 x3 x4 x5 x6
          · rw [a2 6 (by omega)]
            exact hG.2.1.1
          · rw [a1 16 (by omega) (by omega), a3]
            exact hG.2.1.2.1 i e he
          · rw [a2 8 (by omega)]
            exact hG.2.1.2.2.1
          · rw [a1 18 (by omega) (by omega)]
            exact hG.2.1.2.2.2 i e he
          · have e1 : (F' ++ fl W (eQ σ Q) ++ fl W (eI σ 0 ((σ q).2.drop (k + 1)))).Perm (b :: (F ++ fl W (eQ σ Q) ++ fl W (eI σ 0 ((σ q).2.drop (k + 1))))) := (hF'.append_right _).append_right _
            exact e1.trans (List.perm_middle.symm.trans hp)
        · rw [if_neg (by omega)]
          rw [if_neg hv0] at hp hM2 hwb
          have hwc := hwb.2.2
          have htc := wf_top hwc
          have hpl : 0 < (pgs σ v (cb b)).length := List.length_pos_of_mem (pgs_self htc.1)
          have hQl := pQ_len hG.2.2.2.1
          refine ⟨Q.length, by omega, hG.2.1.1, ?_⟩
          have hn4 : ν.1 (bxI q k) 4 = nI (cb b) := by
            rw [← hwb.1]
            exact congrArg nm hc
          rw [hn4]
          have haw := aw_ok hG.2.1 (v, cb b, 0)
          have hfw := aw_f ν Q.length (nI (cb b)) 0
          have hF40 : F.length ≤ 40 := by
            simp only [List.length_append] at hlen
            omega
          refine ih (k + 1) _ F (Q ++ [(v, cb b, 0)]) (by omega) hkk ⟨hG.1.tr hfw.s, haw, Fnd_eq hG.2.2.1 hF40 (hfw.2.1 1 (by omega) (by omega)) (fun i hi => hfw.1 _ (by unfold fdI; omega) (by unfold fdI; omega) (by unfold fdI; omega)), fun e he => ?_, fun e he => ?_, hG.2.2.2.2.2⟩ ?_ ?_
          · rcases List.mem_append.mp he with he | he
            · exact hG.2.2.2.1 e he
            · have he : e = (v, cb b, 0) := by simpa using he
              subst he
              exact wf_wk hwc (Nat.zero_le _) htc.2.2.2.2.2
          · rcases List.mem_append.mp he with he | he
            · exact hG.2.2.2.2.1 e he
            · have he : e = (v, cb b, 0) := by simpa using he
              subst he
              refine ⟨htc.2.1, htc.2.2.1, Or.inr ?_⟩
              show meT (mk5 (bnd (σ (cb b)).2) 0) W = true
              rw [wf_bnd hwc, ← hwb.2.1]
              exact hm
          · rw [eQ_snoc, fl_app]
            simp only [List.append_assoc] at hp ⊢
            exact hp
          · rw [pQ_snoc, List.length_append]
            show (pQ σ Q).length + (pgs σ v (cb b)).length + _ ≤ M
            omega
      · rw [if_neg hm]
        have hz : fl W (if v = 0 then [b] else ent σ v (cb b)) = [] := by
          unfold fl
          rw [List.filter_eq_nil_iff]
          intro t ht'
          by_cases hv0 : v = 0
          · rw [if_pos hv0] at ht'
            have : t = b := by simpa using ht'
            rw [this]
            exact hm
          · rw [if_neg hv0] at ht' hwb
            intro hmt
            exact hm (me_in (by rw [hwb.2.1]; exact inn_bnd ht') hmt)
        rw [hz, List.nil_append] at hp
        exact ih (k + 1) ν F Q (by omega) hkk hG hp (by omega)
    · rw [if_neg hkk]
      have hd : (σ q).2.drop k = [] := List.drop_of_length_le (by omega)
      have he0 : eI σ v [] = [] := by
        unfold eI
        split <;> rfl
      rw [hd, he0] at hp
      have hp : (F ++ fl W (eQ σ Q) ++ []).Perm T := hp
      rw [List.append_nil] at hp
      exact kk ν F Q hG hp (by omega)
theorem ga_ok {μ0 : Mu} {σ δ : Sg} {W : T5} {r0 : Nat} {T : List T5} {K : Mu → Prop} (ht : tR μ0 σ δ) (hW : tp (μ0.1 4) = W) (hT : T.length ≤ 40)
    (kk : ∀ ν F Kl, GI μ0 σ W r0 ν F [] Kl → F.Perm T → Kl.length ≤ 39 → K ν) : ∀ (r : Nat) (ν : Mu) (F : List T5) (Q : List Qe) (Kl : List Nat), GI μ0 σ W r0 ν F Q Kl → (F ++ fl W (eQ σ Q)).Perm T → (pQ σ Q).length ≤ r → Kl.length + (pQ σ Q).length ≤ 39 → gaL 4 K r ν := by
  intro r
  induction r with
  | zero =>
    intro ν F Q Kl hG hp hr hK
    have hQ := pQ_len hG.2.2.2.1
    have hQ0 : Q = [] := List.length_eq_zero_iff.mp (by omega)
    subst hQ0
    have hp : (F ++ []).Perm T := hp
    rw [List.append_nil] at hp
    exact kk ν F Kl hG hp (by omega)
  | succ r ih =>
    intro ν F Q Kl hG hp hr hK
    have hQ := pQ_len hG.2.2.2.1
    refine ⟨Q.length, by omega, hG.2.1.1, ?_⟩
    by_cases hg : 0 < Q.length
    · rw [if_pos hg]
      have hj : Q.length - 1 < Q.length := by omega
      have he : Q[Q.length - 1]? = some Q[Q.length - 1] := List.getElem?_eq_getElem hj
      have hem : Q[Q.length - 1] ∈ Q := List.getElem_mem hj
      generalize Q[Q.length - 1] = e at he hem
      have hwe := hG.2.2.2.1 e hem
      have hte := wf_top hwe
      have hk40 : Kl.length < 40 := by omega
      refine ⟨Kl.length, e.2.1, hk40, hte.2.2.1, hG.2.1.2.2.1, (hG.2.1.2.1 _ e he).1, ?_⟩
      obtain ⟨v, hv⟩ : ∃ v, e.1 = v + 1 := ⟨e.1 - 1, by omega⟩
      rw [hv] at hwe hte
      have hli := li_ok hG.2.1 he
      have hfw := li_f ν (Q.length - 1) (Q.length - 1) Kl.length e.2.1
      have hperm := drg_perm he
      have hpe := eQ_p (σ := σ) hperm
      have hpp := (pQ_p (σ := σ) hperm).length_eq
      rw [eQ_cons, hv, ent_i] at hpe
      rw [pQ_cons, hv, pgs_i, List.length_append, List.length_cons] at hpp
      have hlenF : F.length ≤ 40 := by
        have := hp.length_eq
        simp only [List.length_append] at this
        omega
      have hwfi := (wf_i σ v 0 5 e.2.1).mp hwe
      have hlev : v < 5 := by
        have := (ht e.2.1 hte.2.1 hte.2.2.1).1.2.2.1.1
        omega
      refine gs_ok (δ := δ) (q := e.2.1) (v := v) (M := (pQ σ Q).length - 1) (Kl := Kl ++ [e.2.1]) ht hW ⟨hte.2.1, hte.2.2.1⟩ hte.2.2.2.1 hlev hte.2.2.2.2.2 hwfi.2.2.2.2.2 hT (by omega) (fun ν' F' Q' hG' hp' hM' => ih ν' F' Q' _ hG' hp' (by omega) (by rw [List.length_append]; show Kl.length + 1 + _ ≤ 39; omega)) 7 0 _ F (drg Q (Q.length - 1)) (by omega) (Nat.zero_le _) ⟨hG.1.tr hfw.s, hli, Fnd_eq hG.2.2.1 hlenF (hfw.2.1 1 (by omega) (by omega)) (fun i hi => hfw.1 _ (by unfold fdI; omega) (by unfold fdI; omega) (by unfold fdI; omega)), fun x hx => ?_, fun x hx => ?_, fun x hx => ?_⟩ ?_ ?_
      · exact hG.2.2.2.1 x (hperm.mem_iff.mpr (List.mem_cons_of_mem _ hx))
      · exact hG.2.2.2.2.1 x (hperm.mem_iff.mpr (List.mem_cons_of_mem _ hx))
      · rcases List.mem_append.mp hx with hx | hx
        · exact hG.2.2.2.2.2 x hx
        · have hx : x = e.2.1 := by simpa using hx
          rw [hx]
          exact hG.2.2.2.2.1 e hem
      · rw [List.drop_zero]
        have h1 := fl_p (W := W) hpe
        rw [fl_app] at h1
        have h2 : (F ++ fl W (eQ σ (drg Q (Q.length - 1))) ++ fl W (eI σ v (σ e.2.1).2)).Perm (F ++ fl W (eQ σ Q)) := by
          rw [List.append_assoc]
          exact List.Perm.append_left F (List.perm_append_comm.trans h1.symm)
        exact h2.trans hp
      · rw [List.drop_zero]
        omega
    · rw [if_neg hg]
      have hQ0 : Q = [] := List.length_eq_zero_iff.mp (by omega)
      subst hQ0
      have hp : (F ++ []).Perm T := hp
      rw [List.append_nil] at hp
      exact kk ν F Kl hG hp (by omega)
/-- a tree's pages: at most 39 -/
theorem Tw_39 {σ : Sg} {v r : Nat} {E : List T5} (hT : Tw σ v r E) (h40 : E.length ≤ 40) : (pgs σ v r).length ≤ 39 := by
  have h1 := cn_p _ _ _ hT.2.1
  have h2 := hT.2.2.2.length_eq
  have h3 := (wf_top hT.2.1).2.2.2.2.1
  by_cases hv : v = 1
  · subst hv
    rw [pgs_1]
    show 1 ≤ 39
    omega
  · rw [if_neg hv] at h3
    omega
theorem ga_top {μ : Mu} {σ δ : Sg} {v r : Nat} {E : List T5} {K : Mu → Prop} (h : tR μ σ δ) (hT : Tw σ v r E) (h40 : E.length ≤ 40) (hr : μ.1 2 0 = nI r) (kk : ∀ ν F Kl, Fs μ ν → Fnd ν F → F.Perm (fl (tp (μ.1 4)) E) → F.length ≤ 40 → Sq ν [] Kl → Kl.length ≤ 39 → (∀ q ∈ Kl, lkM σ (tp (μ.1 4)) r q) → K ν) : gaW μ 4 K := by
  unfold gaW
  have e2 : (wi μ 3 1 0).1 2 0 = nI r := by rw [wi_at, if_neg (by omega)]; exact hr
  rw [e2]
  have hf0 : Fs μ (wi μ 3 1 0) := fun i h3 _ _ _ _ _ => wi_ne _ _ _ h3
  have hbf := bg_f (wi μ 3 1 0) (nI r)
  have hte := wf_top hT.2.1
  have hE := fl_p (W := tp (μ.1 4)) hT.2.2.2
  have hTl : (fl (tp (μ.1 4)) E).length ≤ 40 := Nat.le_trans (fl_le _ _) h40
  have h39 := Tw_39 hT h40
  have hpq : (pQ σ [((v, r, 0) : Qe)]).length = (pgs σ v r).length := by
    rw [pQ_cons]
    show (pgs σ v r ++ []).length = _
    rw [List.append_nil]
  refine ga_ok (δ := δ) (r0 := r) (W := tp (μ.1 4)) (T := fl (tp (μ.1 4)) E) h rfl hTl (fun ν F Kl hG hp hk => kk ν F Kl hG.1 hG.2.2.1 hp (by rw [hp.length_eq]; exact hTl) hG.2.1 hk hG.2.2.2.2.2) 40 _ [] [(v, r, 0)] [] ⟨hf0.tr hbf.s, bg_ok _ v r, ⟨?_, List.Pairwise.nil, fun i t ht => by simp at ht⟩, fun e he => ?_, fun e he => ?_, fun q hq => by simp at hq⟩ ?_ (by rw [hpq]; omega) (by rw [hpq]; show 0 + _ ≤ 39; omega)
  · rw [hbf.2.1 1 (by omega) (by omega), wi_at, if_pos ⟨rfl, rfl⟩]
    exact nI_0.symm
  · have he : e = (v, r, 0) := by simpa using he
    subst he
    exact wf_wk hT.2.1 (Nat.zero_le _) hte.2.2.2.2.2
  · have he : e = (v, r, 0) := by simpa using he
    subst he
    exact ⟨hte.2.1, hte.2.2.1, Or.inl rfl⟩
  · rw [List.nil_append, eQ_cons]
    show (fl _ (ent σ v r ++ [])).Perm _
    rw [List.append_nil]
    exact hE
/-- looked only where met -/
theorem lm_ok {σ δ : Sg} {W : T5} {r : Nat} {Kl : List Nat} {K : Bool → Mu → Prop} : ∀ (c i : Nat) (ν : Mu), tR ν σ δ → tp (ν.1 4) = W → ν.1 2 0 = nI r → (∀ (j q : Nat), Kl[j]? = some q → ν.1 18 j = nI q) → (∀ q ∈ Kl, lkM σ W r q) → i + c = Kl.length → (∀ ν', (∀ a, a ≠ 8 → ν'.1 a = ν.1 a) → ν'.2 = ν.2 → K true ν') → lmL 4 K c i ν := by
  intro c
  induction c with
  | zero => exact fun i ν _ _ _ _ _ _ kk => kk ν (fun _ _ => rfl) rfl
  | succ c ih =>
    intro i ν ht hW hr hK hlk hi kk
    have hil : i < Kl.length := by omega
    have he : Kl[i]? = some Kl[i] := List.getElem?_eq_getElem hil
    have hem : Kl[i] ∈ Kl := List.getElem_mem hil
    generalize Kl[i] = q at he hem
    obtain ⟨h1, h2, h3⟩ := hlk q hem
    have hR := (ht q h1 h2).1
    have hf := fr_m (i := 8) hR (fun j hj => by unfold bxI; omega)
    refine ⟨q, (σ q).2.length, h2, hR.2.2.2.1, hK i q he, hR.2.1, ?_⟩
    have hcond : nI q = (frM ν q (σ q).2.length (-1) 8).1 2 0 ∨ meetB ((frM ν q (σ q).2.length (-1) 8).1 8) ((frM ν q (σ q).2.length (-1) 8).1 4) = true := by
      rcases h3 with h3 | h3
      · left
        rw [hf.2.1 2 (by omega), hr, h3]
      · right
        rw [me_tp, hf.2.2, hf.2.1 4 (by omega), hW]
        exact h3
    rw [if_pos hcond]
    refine ih (i + 1) _ (tR_eq ht (fun q _ _ => hf.2.1 _ (by unfold pgI; omega)) (fun q j _ _ _ => hf.2.1 _ (by unfold bxI; omega))) (by rw [hf.2.1 4 (by omega)]; exact hW) (by rw [hf.2.1 2 (by omega)]; exact hr) (fun j q' hq' => by rw [hf.2.1 18 (by omega)]; exact hK j q' hq') hlk (by omega) (fun ν' k1 k2 => kk ν' (fun a ha => (k1 a ha).trans (hf.2.1 a ha)) (k2.trans hf.1))
