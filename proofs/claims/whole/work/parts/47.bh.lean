/-! THE NEAREST PAGE FIRST. -/
def sF (σ : Sg) (q : Nat) (x y : Int32) : Int := (sqT (mk5 (bnd (σ q).2) 0) x y).toInt
def qOk (σ : Sg) (r0 : Nat) (x y : Int32) (e : Qe) : Prop := wfC σ e.1 0 5 e.2.1 ∧ (∀ t ∈ ent σ e.1 e.2.1, e.2.2.toInt ≤ sI t x y) ∧ (e.2.1 = r0 ∨ sF σ e.2.1 x y = e.2.2.toInt)
def NI (μ0 : Mu) (σ : Sg) (r0 : Nat) (x y : Int32) (ν : Mu) (S R : List T5) (Q : List Qe) (Kl : List Nat) : Prop := Fs μ0 ν ∧ Sq ν Q Kl ∧ (∀ e ∈ Q, qOk σ r0 x y e) ∧ bs S x y (tp (ν.1 7)) (ν.2 3 3) ∧ ∀ q ∈ Kl, 0 < q ∧ q < 40 ∧ (q = r0 ∨ (sF σ q x y ≤ (ν.2 3 3).toInt ∧ ∀ t ∈ R, sF σ q x y ≤ sI t x y))
theorem as_ok {μ0 : Mu} {σ δ : Sg} {x y : Int32} {r0 q v M : Nat} {E : List T5} {Kl : List Nat} {K : Mu → Prop} (hx : isCo x = true) (hy : isCo y = true) (ht : tR μ0 σ δ) (hq : 0 < q ∧ q < 40) (hl : (σ q).1 = v + 1) (hv : v < 5) (h5 : (σ q).2.length ≤ 5) (hw : wI σ v (σ q).2) (hM : M ≤ 39)
    (kk : ∀ ν S Q, NI μ0 σ r0 x y ν S (eQ σ Q) Q Kl → (S ++ eQ σ Q).Perm E → (pQ σ Q).length ≤ M → K ν) : ∀ (r k : Nat) (ν : Mu) (S : List T5) (Q : List Qe), r + k = 7 → k ≤ (σ q).2.length → NI μ0 σ r0 x y ν S (eQ σ Q ++ eI σ v ((σ q).2.drop k)) Q Kl → (S ++ (eQ σ Q ++ eI σ v ((σ q).2.drop k))).Perm E → (pQ σ Q).length + (pI σ v ((σ q).2.drop k)).length ≤ M → asL q x y K r k ν := by
  intro r
  induction r with
  | zero =>
    intro k ν S Q hk hkl
    omega
  | succ r ih =>
    intro k ν S Q hk hkl hG hp hM2
    have hν := hG.1.t ht
    have hR := (hν q hq.1 hq.2).1
    refine ⟨(σ q).2.length, v + 1, by omega, by omega, hR.2.1, by rw [hR.1, hl], ?_⟩
    by_cases hkk : k < (σ q).2.length
    · rw [if_pos hkk]
      have hb : (σ q).2[k]? = some (σ q).2[k] := List.getElem?_eq_getElem hkk
      have hd : (σ q).2.drop k = (σ q).2[k] :: (σ q).2.drop (k + 1) := List.drop_eq_getElem_cons hkk
      have hbm : (σ q).2[k] ∈ (σ q).2 := List.getElem_mem hkk
      have hwb := hw _ hbm
      have hc := hR.2.2.2.2 k _ hb
      generalize (σ q).2[k] = b at hb hd hbm hwb hc
      rw [hd, eI_cons] at hp hG
      rw [hd, pI_cons, List.length_append] at hM2
      by_cases hv0 : v = 0
      · subst hv0
        rw [if_pos rfl]
        rw [if_pos rfl] at hp hM2 hwb hG
        have hkc := kc_ok ν (bxI q k) x y (by unfold bxI; omega)
        rw [hc] at hkc
        obtain ⟨a1, a2, a3, a4⟩ := hkc
        have hco := hwb.1.1
        refine ih (k + 1) _ (b :: S) Q (by omega) hkk ⟨fun i x1 x2 x3 x4 x5 x6 => ?_, ⟨?_, fun i e he => ?_, ?_, fun i e he => ?_⟩, hG.2.2.1, ?_, fun q' hq' => ?_⟩ ?_ (by simpa using hM2)
        · rw [a3 i x2]
          exact hG.1 i x1 x2 x3 x4 x5 x6
        · rw [a3 3 (by omega)]
          exact hG.2.1.1
        · rw [a3 16 (by omega), a4 17 (by omega)]
          exact hG.2.1.2.1 i e he
        · rw [a3 3 (by omega)]
          exact hG.2.1.2.2.1
        · rw [a3 18 (by omega)]
          exact hG.2.1.2.2.2 i e he
        · rw [a1, a2]
          exact bs_step hG.2.2.2.1 hco hx hy
        · obtain ⟨g1, g2, g3⟩ := hG.2.2.2.2 q' hq'
          refine ⟨g1, g2, ?_⟩
          rcases g3 with g3 | ⟨g3, g4⟩
          · exact Or.inl g3
          · right
            rw [a2]
            refine ⟨bs_le hco hx hy g3 (g4 b (by simp)), fun t ht' => g4 t ?_⟩
            rcases List.mem_append.mp ht' with ht' | ht'
            · exact List.mem_append_left _ ht'
            · exact List.mem_append_right _ (List.mem_append_right _ ht')
        · have h1 : (S ++ eQ σ Q ++ b :: eI σ 0 ((σ q).2.drop (k + 1))).Perm (b :: (S ++ eQ σ Q ++ eI σ 0 ((σ q).2.drop (k + 1)))) := List.perm_middle
          rw [List.append_assoc, List.append_assoc] at h1
          exact h1.symm.trans hp
      · rw [if_neg (by omega)]
        rw [if_neg hv0] at hp hM2 hwb hG
        have hwc := hwb.2.2
        have htc := wf_top hwc
        have hpl : 0 < (pgs σ v (cb b)).length := List.length_pos_of_mem (pgs_self htc.1)
        have hQl := pQ_len (fun e he => (hG.2.2.1 e he).1)
        refine ⟨Q.length, by omega, hG.2.1.1, ?_⟩
        have hn4 : ν.1 (bxI q k) 4 = nI (cb b) := by
          rw [← hwb.1]
          exact congrArg nm hc
        rw [hn4, sq_tp, hc]
        have haw := aw_ok hG.2.1 (v, cb b, sqT b x y)
        have hfw := aw_f ν Q.length (nI (cb b)) (sqT b x y)
        have hre := gd_re hwb
        have hsq := sq_I (x := x) (y := y) hre.1 hx hy
        have h7 := hfw.1 7 (by omega) (by omega) (by omega)
        have h33 := hfw.2.2 3
        have hRR : eQ σ (Q ++ [(v, cb b, sqT b x y)]) ++ eI σ v ((σ q).2.drop (k + 1)) = eQ σ Q ++ (ent σ v (cb b) ++ eI σ v ((σ q).2.drop (k + 1))) := by
          rw [eQ_snoc, List.append_assoc]
        refine ih (k + 1) _ S (Q ++ [(v, cb b, sqT b x y)]) (by omega) hkk ⟨hG.1.tr hfw.s, haw, fun e he => ?_, ?_, ?_⟩ ?_ ?_
        · rcases List.mem_append.mp he with he | he
          · exact hG.2.2.1 e he
          · have he : e = (v, cb b, sqT b x y) := by simpa using he
            subst he
            refine ⟨wf_wk hwc (Nat.zero_le _) htc.2.2.2.2.2, fun t ht' => ?_, Or.inr ?_⟩
            · show (sqT b x y).toInt ≤ _
              rw [hsq.1]
              exact sI_mono (by rw [hwb.2.1]; exact inn_bnd ht') (wf_ok hwc t ht').1
            · show (sqT (mk5 (bnd (σ (cb b)).2) 0) x y).toInt = (sqT b x y).toInt
              rw [wf_bnd hwc, ← hwb.2.1]
              rfl
        · rw [h7, h33]
          exact hG.2.2.2.1
        · rw [hRR, h33]
          exact hG.2.2.2.2
        · rw [hRR]
          exact hp
        · rw [pQ_snoc, List.length_append]
          show (pQ σ Q).length + (pgs σ v (cb b)).length + _ ≤ M
          omega
    · rw [if_neg hkk]
      have hd : (σ q).2.drop k = [] := List.drop_of_length_le (by omega)
      have he0 : eI σ v [] = [] := by
        unfold eI
        split <;> rfl
      rw [hd, he0, List.append_nil] at hp hG
      exact kk ν S Q hG hp (by omega)
/-- the best of all -/
def Bt (E : List T5) (x y : Int32) (c : T5) : Prop := c ∈ E ∧ ∀ t ∈ E, sI c x y < sI t x y ∨ (sI c x y = sI t x y ∧ leT c t)
theorem ap_fin {μ0 ν : Mu} {σ : Sg} {x y : Int32} {r0 : Nat} {S E : List T5} {Q : List Qe} {Kl : List Nat} (hx : isCo x = true) (hy : isCo y = true) (hok : ∀ t ∈ E, okE t) (hne : E ≠ []) (hG : NI μ0 σ r0 x y ν S (eQ σ Q) Q Kl) (hp : (S ++ eQ σ Q).Perm E) (hf : ∀ t ∈ eQ σ Q, (ν.2 3 3).toInt < sI t x y) : Bt E x y (tp (ν.1 7)) ∧ ν.2 3 3 = sqT (tp (ν.1 7)) x y := by
  rcases hG.2.2.2.1 with ⟨h1, h2⟩ | ⟨h1, h2, h3⟩
  · exfalso
    subst h1
    cases hE : E with
    | nil => exact hne hE
    | cons t E' =>
      have htE : t ∈ E := by rw [hE]; exact List.mem_cons_self
      have htQ : t ∈ eQ σ Q := hp.mem_iff.mpr htE
      have h4 := hf t htQ
      rw [h2, mx_I] at h4
      have h5 := (sq_I (x := x) (y := y) (hok t htE).1.1 hx hy).2.2
      omega
  · have hcE : tp (ν.1 7) ∈ E := hp.mem_iff.mp (List.mem_append_left _ h1)
    refine ⟨⟨hcE, fun t ht => ?_⟩, ?_⟩
    · rcases List.mem_append.mp (hp.mem_iff.mpr ht) with ht | ht
      · exact h3 t ht
      · left
        rw [← h2]
        exact hf t ht
    · apply Int64.toInt_inj.mp
      rw [h2, (sq_I (x := x) (y := y) (hok _ hcE).1.1 hx hy).1]
theorem ap_ok {μ0 : Mu} {σ δ : Sg} {x y : Int32} {r0 : Nat} {E : List T5} {K : Mu → Prop} (hx : isCo x = true) (hy : isCo y = true) (ht : tR μ0 σ δ) (hok : ∀ t ∈ E, okE t) (hne : E ≠ [])
    (kk : ∀ ν Q Kl, Fs μ0 ν → Sq ν Q Kl → Kl.length ≤ 39 → Bt E x y (tp (ν.1 7)) → ν.2 3 3 = sqT (tp (ν.1 7)) x y → (∀ q ∈ Kl, 0 < q ∧ q < 40 ∧ (q = r0 ∨ sF σ q x y ≤ (ν.2 3 3).toInt)) → K ν) : ∀ (r : Nat) (ν : Mu) (S : List T5) (Q : List Qe) (Kl : List Nat), NI μ0 σ r0 x y ν S (eQ σ Q) Q Kl → (S ++ eQ σ Q).Perm E → (pQ σ Q).length ≤ r → Kl.length + (pQ σ Q).length ≤ 39 → apL x y K r ν := by
  have hend : ∀ (ν : Mu) (S : List T5) (Q : List Qe) (Kl : List Nat), NI μ0 σ r0 x y ν S (eQ σ Q) Q Kl → (S ++ eQ σ Q).Perm E → Kl.length ≤ 39 → (∀ t ∈ eQ σ Q, (ν.2 3 3).toInt < sI t x y) → K ν := by
    intro ν S Q Kl hG hp hK hf
    have h1 := ap_fin hx hy hok hne hG hp hf
    exact kk ν Q Kl hG.1 hG.2.1 hK h1.1 h1.2 (fun q hq => ⟨(hG.2.2.2.2 q hq).1, (hG.2.2.2.2 q hq).2.1, (hG.2.2.2.2 q hq).2.2.imp id (fun h => h.1)⟩)
  intro r
  induction r with
  | zero =>
    intro ν S Q Kl hG hp hr hK
    have hQ := pQ_len (fun e he => (hG.2.2.1 e he).1)
    have hQ0 : Q = [] := List.length_eq_zero_iff.mp (by omega)
    subst hQ0
    exact hend ν S [] Kl hG hp (by omega) (fun t ht' => by simp [eQ] at ht')
  | succ r ih =>
    intro ν S Q Kl hG hp hr hK
    have hQ := pQ_len (fun e he => (hG.2.2.1 e he).1)
    refine ⟨Q.length, by omega, hG.2.1.1, ?_⟩
    by_cases hg : 0 < Q.length
    · rw [if_pos hg]
      intro j hj hmin
      have he : Q[j]? = some Q[j] := List.getElem?_eq_getElem hj
      have hem : Q[j] ∈ Q := List.getElem_mem hj
      generalize Q[j] = e at he hem
      have h17 := (hG.2.1.2.1 j e he).2
      have hall : ∀ t ∈ eQ σ Q, e.2.2.toInt ≤ sI t x y := by
        intro t ht'
        obtain ⟨e', he', hte⟩ := List.mem_flatMap.mp ht'
        obtain ⟨i, hi⟩ := List.getElem?_of_mem he'
        have h1 := hmin i (List.getElem?_eq_some_iff.mp hi).1
        rw [(hG.2.1.2.1 i e' hi).2, h17, Int64.lt_iff_toInt_lt] at h1
        have h2 := (hG.2.2.1 e' he').2.1 t hte
        omega
      rw [h17]
      by_cases hls : ν.2 3 3 < e.2.2
      · rw [if_pos hls]
        rw [Int64.lt_iff_toInt_lt] at hls
        exact hend ν S Q Kl hG hp (by omega) (fun t ht' => by have := hall t ht'; omega)
      · rw [if_neg hls]
        rw [Int64.lt_iff_toInt_lt] at hls
        obtain ⟨hwe, hqe, hfe⟩ := hG.2.2.1 e hem
        have hte := wf_top hwe
        refine ⟨Kl.length, e.2.1, by omega, hte.2.2.1, hG.2.1.2.2.1, (hG.2.1.2.1 j e he).1, ?_⟩
        obtain ⟨v, hv⟩ : ∃ v, e.1 = v + 1 := ⟨e.1 - 1, by omega⟩
        rw [hv] at hwe hte
        have hli := li_ok hG.2.1 he
        have hfw := li_f ν j (Q.length - 1) Kl.length e.2.1
        have hperm := drg_perm he
        have hpe := eQ_p (σ := σ) hperm
        have hpp := (pQ_p (σ := σ) hperm).length_eq
        rw [eQ_cons, hv, ent_i] at hpe
        rw [pQ_cons, hv, pgs_i, List.length_append, List.length_cons] at hpp
        have hwfi := (wf_i σ v 0 5 e.2.1).mp hwe
        have hlev : v < 5 := by
          have := (ht e.2.1 hte.2.1 hte.2.2.1).1.2.2.1.1
          omega
        have h7 := hfw.1 7 (by omega) (by omega) (by omega)
        have h33 := hfw.2.2 3
        have hR2 : (eQ σ (drg Q j) ++ eI σ v (σ e.2.1).2).Perm (eQ σ Q) := List.perm_append_comm.trans hpe.symm
        refine as_ok (δ := δ) (q := e.2.1) (v := v) (M := (pQ σ Q).length - 1) (Kl := Kl ++ [e.2.1]) hx hy ht ⟨hte.2.1, hte.2.2.1⟩ hte.2.2.2.1 hlev hte.2.2.2.2.2 hwfi.2.2.2.2.2 (by omega) (fun ν' S' Q' hG' hp' hM' => ih ν' S' Q' _ hG' hp' (by omega) (by rw [List.length_append]; show Kl.length + 1 + _ ≤ 39; omega)) 7 0 _ S (drg Q j) (by omega) (Nat.zero_le _) ⟨hG.1.tr hfw.s, hli, fun e' he' => ?_, ?_, fun q' hq' => ?_⟩ ?_ ?_
        · exact hG.2.2.1 e' (hperm.mem_iff.mpr (List.mem_cons_of_mem _ he'))
        · rw [h7, h33]
          exact hG.2.2.2.1
        · rw [h33, List.drop_zero]
          rcases List.mem_append.mp hq' with hq' | hq'
          · obtain ⟨g1, g2, g3⟩ := hG.2.2.2.2 q' hq'
            refine ⟨g1, g2, g3.imp id (fun g3 => ⟨g3.1, fun t ht' => g3.2 t (hR2.mem_iff.mp ht')⟩)⟩
          · have hq' : q' = e.2.1 := by simpa using hq'
            subst hq'
            refine ⟨hte.2.1, hte.2.2.1, hfe.imp id (fun hfe => ?_)⟩
            rw [hfe]
            exact ⟨by omega, fun t ht' => hall t (hR2.mem_iff.mp ht')⟩
        · rw [List.drop_zero]
          exact (List.Perm.append_left S hR2).trans hp
        · rw [List.drop_zero]
          omega
    · rw [if_neg hg]
      have hQ0 : Q = [] := List.length_eq_zero_iff.mp (by omega)
      subst hQ0
      exact hend ν S [] Kl hG hp (by omega) (fun t ht' => by simp [eQ] at ht')
theorem ap_top {μ : Mu} {σ δ : Sg} {v r : Nat} {E : List T5} {x y : Int32} {K : Mu → Prop} (hx : isCo x = true) (hy : isCo y = true) (h : tR μ σ δ) (hT : Tw σ v r E) (h40 : E.length ≤ 40) (hne : E ≠ []) (hr : μ.1 2 0 = nI r)
    (kk : ∀ ν Q Kl, Fs μ ν → Sq ν Q Kl → Kl.length ≤ 39 → Bt E x y (tp (ν.1 7)) → ν.2 3 3 = sqT (tp (ν.1 7)) x y → (∀ q ∈ Kl, 0 < q ∧ q < 40 ∧ (q = r ∨ sF σ q x y ≤ (ν.2 3 3).toInt)) → K ν) : apW μ x y K := by
  unfold apW
  have e2 : (wl μ 3 3 9223372036854775807).1 2 0 = nI r := hr
  rw [e2]
  have hf0 : Fs μ (wl μ 3 3 9223372036854775807) := fun i _ _ _ _ _ _ => rfl
  have hbf := bg_f (wl μ 3 3 9223372036854775807) (nI r)
  have hte := wf_top hT.2.1
  have h39 := Tw_39 hT h40
  have hpq : (pQ σ [((v, r, 0) : Qe)]).length = (pgs σ v r).length := by
    rw [pQ_cons]
    show (pgs σ v r ++ []).length = _
    rw [List.append_nil]
  refine ap_ok (δ := δ) (r0 := r) hx hy h (Tw_ok hT) hne kk 40 _ [] [(v, r, 0)] [] ⟨hf0.tr hbf.s, bg_ok _ v r, fun e he => ?_, ?_, fun q hq => by simp at hq⟩ ?_ (by rw [hpq]; omega) (by rw [hpq]; show 0 + _ ≤ 39; omega)
  · have he : e = (v, r, 0) := by simpa using he
    subst he
    refine ⟨wf_wk hT.2.1 (Nat.zero_le _) hte.2.2.2.2.2, fun t ht' => ?_, Or.inl rfl⟩
    exact (sq_I (x := x) (y := y) (wf_ok hT.2.1 t ht').1.1 hx hy).2.1
  · refine Or.inl ⟨rfl, ?_⟩
    rw [hbf.2.2 3, wl_at, if_pos ⟨rfl, rfl⟩]
    rfl
  · rw [List.nil_append, eQ_cons]
    show (ent σ v r ++ []).Perm _
    rw [List.append_nil]
    exact hT.2.2.2
theorem lf_okk {σ δ : Sg} {x y : Int32} {r : Nat} {Kl : List Nat} {K : Bool → Mu → Prop} : ∀ (c i : Nat) (ν : Mu), tR ν σ δ → ν.1 2 0 = nI r → (∀ (j q : Nat), Kl[j]? = some q → ν.1 18 j = nI q) → (∀ q ∈ Kl, 0 < q ∧ q < 40 ∧ (q = r ∨ sF σ q x y ≤ (ν.2 3 3).toInt)) → i + c = Kl.length → (∀ ν', (∀ a, a ≠ 8 → ν'.1 a = ν.1 a) → ν'.2 = ν.2 → K true ν') → lfL x y K c i ν := by
  intro c
  induction c with
  | zero => exact fun i ν _ _ _ _ _ kk => kk ν (fun _ _ => rfl) rfl
  | succ c ih =>
    intro i ν ht hr hK hlk hi kk
    have hil : i < Kl.length := by omega
    have he : Kl[i]? = some Kl[i] := List.getElem?_eq_getElem hil
    have hem : Kl[i] ∈ Kl := List.getElem_mem hil
    generalize Kl[i] = q at he hem
    obtain ⟨h1, h2, h3⟩ := hlk q hem
    have hR := (ht q h1 h2).1
    have hf := fr_m (i := 8) hR (fun j hj => by unfold bxI; omega)
    refine ⟨q, (σ q).2.length, h2, hR.2.2.2.1, hK i q he, hR.2.1, ?_⟩
    have hcond : nI q = (frM ν q (σ q).2.length (-1) 8).1 2 0 ∨ ¬ (frM ν q (σ q).2.length (-1) 8).2 3 3 < sqB ((frM ν q (σ q).2.length (-1) 8).1 8) x y := by
      by_cases hqr : q = r
      · left
        rw [hf.2.1 2 (by omega), hr, hqr]
      · right
        rcases h3 with h3 | h3
        · exact absurd h3 hqr
        · rw [sq_tp, hf.2.2, hf.1, Int64.lt_iff_toInt_lt]
          have : (sqT (mk5 (bnd (σ q).2) (ν.1 8 4)) x y).toInt = sF σ q x y := rfl
          omega
    rw [if_pos hcond]
    refine ih (i + 1) _ (tR_eq ht (fun q _ _ => hf.2.1 _ (by unfold pgI; omega)) (fun q j _ _ _ => hf.2.1 _ (by unfold bxI; omega))) (by rw [hf.2.1 2 (by omega)]; exact hr) (fun j q' hq' => by rw [hf.2.1 18 (by omega)]; exact hK j q' hq') (by rw [hf.1]; exact hlk) (by omega) (fun ν' k1 k2 => kk ν' (fun a ha => (k1 a ha).trans (hf.2.1 a ha)) (k2.trans hf.1))
