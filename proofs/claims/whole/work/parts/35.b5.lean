/-! MENDING: merging; the whole of mend. -/
theorem bm64 {n : Int} (h1 : -9223372036854775808 ≤ n) (h2 : n < 9223372036854775808) : n.bmod (2 ^ 64) = n := by
  rw [Int.bmod_def]
  have : ((2 ^ 64 : Nat) : Int) = 18446744073709551616 := by decide
  rw [this]
  split <;> omega
theorem mul_b {a b A : Int} (h1 : -A ≤ a) (h2 : a ≤ A) (h3 : -A ≤ b) (h4 : b ≤ A) : -(A * A) ≤ a * b ∧ a * b ≤ A * A := by
  have e1 := Int.mul_nonneg (show 0 ≤ A - a by omega) (show 0 ≤ A + b by omega)
  have e2 := Int.mul_nonneg (show 0 ≤ A + a by omega) (show 0 ≤ A - b by omega)
  have e3 := Int.mul_nonneg (show 0 ≤ A - a by omega) (show 0 ≤ A - b by omega)
  have e4 := Int.mul_nonneg (show 0 ≤ A + a by omega) (show 0 ≤ A + b by omega)
  simp only [Int.sub_mul, Int.mul_sub, Int.add_mul, Int.mul_add] at e1 e2 e3 e4
  have c1 := Int.mul_comm A b
  have c2 := Int.mul_comm a A
  omega
theorem i64_sub {x y : Int32} : (x.toInt64 - y.toInt64).toInt = x.toInt - y.toInt := by
  rw [Int64.toInt_sub, Int32.toInt_toInt64, Int32.toInt_toInt64]
  have h1 := Int32.toInt_lt x
  have h2 := Int32.le_toInt x
  have h3 := Int32.toInt_lt y
  have h4 := Int32.le_toInt y
  exact bm64 (by omega) (by omega)
theorem with_lt {f g : Nat → Int32} (hf : co4 (b4 (tp f))) (hg : co4 (b4 (tp g))) : withB f g < 9223372036854775807 := by
  have hc := co4_cw hf hg
  unfold co4 at hc
  have e : cw (b4 (tp f)) (b4 (tp g)) = (mnI (f 0) (g 0), mnI (f 1) (g 1), mxI (f 2) (g 2), mxI (f 3) (g 3)) := rfl
  rw [e] at hc
  simp only at hc
  rw [Int64.lt_iff_toInt_lt]
  unfold withB
  have hm := mul_b (a := (mxI (f 2) (g 2)).toInt - (mnI (f 0) (g 0)).toInt) (b := (mxI (f 3) (g 3)).toInt - (mnI (f 1) (g 1)).toInt) (A := 2000000000) (by omega) (by omega) (by omega) (by omega)
  rw [Int64.toInt_mul, i64_sub, i64_sub, bm64 (by omega) (by omega)]
  have : (9223372036854775807 : Int64).toInt = 9223372036854775807 := by decide +kernel
  rw [this]
  omega
theorem wf_ne {σ : Sg} {v lo hi p : Nat} (h : wfC σ v lo hi p) (h1 : 0 < (σ p).2.length) : ent σ v p ≠ [] := by
  intro h0
  have h2 := cn_p _ _ _ h
  have h3 := pgs_self (σ := σ) (p := p) (wf_top h).1
  have h4 := List.length_pos_of_mem h3
  rw [h0] at h2
  simp at h2
  omega
theorem wf_re {σ : Sg} {v lo hi p : Nat} (h : wfC σ v lo hi p) (h1 : 0 < (σ p).2.length) : re4 (bnd (ent σ v p)) := re4_bnd (fun t ht => (wf_ok h t ht).1) (wf_ne h h1)
theorem gd_re {σ : Sg} {v : Nat} {b : T5} (h : gdB σ v b) : re4 (b4 b) := by
  rw [h.2.1]
  exact wf_re h.2.2 (by have := (wf_top h.2.2).2.2.2.2.1; omega)
theorem mg_ok {μ : Mu} {σ δ : Sg} {P w k g nA : Nat} {z z' : T5} {N : List Nat} {K : Mu → Prop} (h : tR μ σ δ) (hP : 0 < P ∧ P < 40) (hl : (σ P).1 = w + 2) (hkg : k < g) (hz : (σ P).2[k]? = some z) (hz' : (σ P).2[g]? = some z') (hn : nm z = nI (cb z)) (hn' : nm z' = nI (cb z')) (hc : wfC σ (w + 1) 1 6 (cb z)) (hc' : wfC σ (w + 1) 1 6 (cb z')) (hs : (σ (cb z)).2.length + (σ (cb z')).2.length ≤ 6) (hR : ∀ b ∈ (drl (σ P).2 g).eraseIdx k, gdB σ (w + 1) b) (h5 : (σ P).2.length ≤ 5) (hA : Alc σ (P :: (pgs σ (w + 1) (cb z) ++ (pgs σ (w + 1) (cb z') ++ (pgL σ (w + 1) ((drl (σ P).2 g).eraseIdx k) ++ N))))) (hN : N.length ≤ nA) (h40 : (ent σ (w + 1) (cb z)).length + (ent σ (w + 1) (cb z')).length + (enL σ (w + 1) ((drl (σ P).2 g).eraseIdx k)).length + nA ≤ 40) (kk : ∀ μ' σ', MdE μ σ δ P w N (ent σ (w + 1) (cb z) ++ (ent σ (w + 1) (cb z') ++ enL σ (w + 1) ((drl (σ P).2 g).eraseIdx k))) ((σ P).2.length - 1) (σ P).2.length μ' σ' → K μ') : mgW μ P k g (fun μ2 => mdB μ2 P k K) := by
  have hct := wf_top hc
  have hct' := wf_top hc'
  have hk := (List.getElem?_eq_some_iff.mp hz).1
  have hg := (List.getElem?_eq_some_iff.mp hz').1
  have hPR := (h P hP.1 hP.2).1
  have hfR := (h (cb z) hct.2.1 hct.2.2.1).1
  have heR := (h (cb z') hct'.2.1 hct'.2.2.1).1
  have hnd := List.nodup_cons.mp hA.1
  rw [pgs_i, pgs_i, List.cons_append, List.cons_append] at hnd
  have hPf : P ≠ cb z := fun e => hnd.1 (e ▸ List.mem_cons_self)
  have hPe : P ≠ cb z' := fun e => hnd.1 (e ▸ List.mem_cons_of_mem _ (List.mem_append_right _ List.mem_cons_self))
  have hnd2 := List.nodup_cons.mp hnd.2
  have hfe : cb z ≠ cb z' := fun e => hnd2.1 (e ▸ List.mem_append_right _ List.mem_cons_self)
  have hp3 : (pI σ w (σ (cb z)).2 ++ cb z' :: (pI σ w (σ (cb z')).2 ++ (pgL σ (w + 1) ((drl (σ P).2 g).eraseIdx k) ++ N))).Perm (cb z' :: (pI σ w (σ (cb z)).2 ++ (pI σ w (σ (cb z')).2 ++ (pgL σ (w + 1) ((drl (σ P).2 g).eraseIdx k) ++ N)))) := List.perm_middle
  have hnd3 := List.nodup_cons.mp (hp3.nodup_iff.mp hnd2.2)
  refine ⟨cb z, cb z', (σ (cb z)).2.length, (σ (cb z')).2.length, (σ P).2.length, hct.2.2.1, hct'.2.2.1, hfe, hPf, hPe, by omega, hg, by omega, hs, by omega, (congrArg nm (hPR.2.2.2.2 k z hz)).trans hn, (congrArg nm (hPR.2.2.2.2 g z' hz')).trans hn', hfR.2.1, heR.2.1, hPR.2.1, ?_⟩
  have ht := mg_t (g := g) h hP ⟨hct.2.1, hct.2.2.1⟩ ⟨hct'.2.1, hct'.2.2.1⟩ hfe hPf hPe hs (by rw [hct.2.2.2.1]; omega) hg
  rw [hl, hct.2.2.2.1] at ht
  let σ2 := upS (upS (upS σ (cb z) (w + 1, (σ (cb z)).2 ++ (σ (cb z')).2)) (cb z') (0, [])) P (w + 2, drl (σ P).2 g)
  have eP : σ2 P = (w + 2, drl (σ P).2 g) := upS_s ..
  have ee : σ2 (cb z') = (0, []) := by
    show upS _ _ _ _ = _
    rw [upS_n hPe.symm, upS_s]
  have ef : σ2 (cb z) = (w + 1, (σ (cb z)).2 ++ (σ (cb z')).2) := by
    show upS _ _ _ _ = _
    rw [upS_n hPf.symm, upS_n hfe, upS_s]
  have eo : ∀ q, q ≠ P → q ≠ cb z' → q ≠ cb z → σ2 q = σ q := fun q a b c => by
    show upS _ _ _ _ = _
    rw [upS_n a, upS_n b, upS_n c]
  have hrest : ∀ q, q ∈ pI σ w (σ (cb z)).2 ++ (pI σ w (σ (cb z')).2 ++ (pgL σ (w + 1) ((drl (σ P).2 g).eraseIdx k) ++ N)) → σ2 q = σ q := by
    intro q hq
    refine eo q (fun e => ?_) (fun e => hnd3.1 (e ▸ hq)) (fun e => by
      have h9 := hp3.mem_iff.mpr (List.mem_cons_of_mem (cb z') hq)
      rw [e] at h9
      exact hnd2.1 h9)
    have := hp3.mem_iff.mpr (List.mem_cons_of_mem (cb z') hq)
    rw [e] at this
    exact hnd.1 (List.mem_cons_of_mem _ this)
  have hmI : ∀ q ∈ pI σ w ((σ (cb z)).2 ++ (σ (cb z')).2), σ2 q = σ q := by
    intro q hq
    rw [pI_app] at hq
    refine hrest q ?_
    rw [← List.append_assoc]
    exact List.mem_append_left _ hq
  have hRL : ∀ q ∈ pgL σ (w + 1) ((drl (σ P).2 g).eraseIdx k), σ2 q = σ q := fun q hq => hrest q (List.mem_append_right _ (List.mem_append_right _ (List.mem_append_left _ hq)))
  have gR := loc_gL hRL hR
  have lR := loc_L hRL
  have wi : wI σ w ((σ (cb z)).2 ++ (σ (cb z')).2) := wI_app.mpr ⟨hc.2.2.2.2.2, hc'.2.2.2.2.2⟩
  have w1 : wfC σ2 (w + 1) 2 6 (cb z) := (wf_i ..).mpr ⟨hct.2.1, hct.2.2.1, by rw [ef], by rw [ef]; simp; have := hct.2.2.2.2.1; have := hct'.2.2.2.2.1; omega, by rw [ef]; simp; omega, by rw [ef]; exact loc_wi hmI wi⟩
  have hz2 : (σ2 P).2[k]? = some z := by
    rw [eP]
    show (drl (σ P).2 g)[k]? = some z
    rw [drl_get (by omega), if_neg (by omega)]
    exact hz
  have p1 : pgs σ2 (w + 1) (cb z) = cb z :: (pI σ w (σ (cb z)).2 ++ pI σ w (σ (cb z')).2) := by rw [pgs_i, ef, (loc_i hmI).2, pI_app]
  have n1 : ent σ2 (w + 1) (cb z) = ent σ (w + 1) (cb z) ++ ent σ (w + 1) (cb z') := by rw [ent_i, ef, (loc_i hmI).1, eI_app, ent_i, ent_i]
  have eP2 : (σ2 P).2 = drl (σ P).2 g := by rw [eP]
  refine mdB_ok (nA := nA) (N := N) ht.1 hP (by show (σ2 P).1 = _; rw [eP]) hz2 hn w1 (by show ∀ b ∈ (σ2 P).2.eraseIdx k, _; rw [eP2]; exact gR) (by show (σ2 P).2.length ≤ 5; rw [eP2, drl_len]; omega) ?_ hN ?_ (fun μ' σ' hE => kk μ' σ' ?_)
  · show Alc σ2 (P :: (pgs σ2 (w + 1) (cb z) ++ pgL σ2 (w + 1) ((σ2 P).2.eraseIdx k) ++ N))
    rw [eP2, lR.2, p1]
    have hA2 : Alc σ (cb z' :: (P :: (cb z :: (pI σ w (σ (cb z)).2 ++ (pI σ w (σ (cb z')).2 ++ (pgL σ (w + 1) ((drl (σ P).2 g).eraseIdx k) ++ N)))))) := by
      refine Alc_p hA ?_
      rw [pgs_i, pgs_i, List.cons_append, List.cons_append]
      refine List.Perm.trans ?_ (List.Perm.swap _ _ _)
      refine List.Perm.cons _ ?_
      refine List.Perm.trans ?_ (List.Perm.swap _ _ _)
      exact List.Perm.cons _ hp3
    have hA3 : Alc σ2 (P :: (cb z :: (pI σ w (σ (cb z)).2 ++ (pI σ w (σ (cb z')).2 ++ (pgL σ (w + 1) ((drl (σ P).2 g).eraseIdx k) ++ N))))) := Alc_del hA2 (by rw [ee]) (fun q a b hq => by
      by_cases h1 : q = P
      · subst h1
        rw [eP, hl]
      · by_cases h2 : q = cb z
        · subst h2
          rw [ef, hct.2.2.2.1]
        · rw [eo q h1 hq h2])
    refine Alc_p hA3 (List.Perm.of_eq ?_)
    simp only [List.cons_append, List.append_assoc]
  · show (ent σ2 (w + 1) (cb z)).length + (enL σ2 (w + 1) ((σ2 P).2.eraseIdx k)).length + nA ≤ 40
    rw [eP2, n1, lR.1, List.length_append]
    omega
  · obtain ⟨e1, e2, e3, e4, e5, e6, e7, e8⟩ := hE
    have e5 : (ent σ' (w + 2) P).Perm (ent σ2 (w + 1) (cb z) ++ enL σ2 (w + 1) ((σ2 P).2.eraseIdx k)) := e5
    rw [eP2, n1, lR.1, List.append_assoc] at e5
    have e7 : (σ2 P).2.length + _ ≤ _ := e7
    have e8 : _ ≤ (σ2 P).2.length + _ := e8
    rw [eP2, drl_len] at e7 e8
    refine ⟨e1, ht.2.tr e2, fun q hq => (e3 q hq).trans (hrest q (List.mem_append_right _ (List.mem_append_right _ (List.mem_append_right _ hq)))), e4, e5, e6, by omega, ?_⟩
    have : (if (σ2 (cb z)).2.length = 6 then 1 else 0) ≤ 1 := by split <;> omega
    have hn0 : 0 < (σ P).2.length := by omega
    exact Nat.le_trans e8 (by have h9 : (if (σ2 (cb z)).2.length = 6 then 1 else 0) ≤ 1 := this; exact Nat.le_trans (Nat.add_le_add_left h9 _) (by omega))
theorem mdW_ok {μ : Mu} {σ δ : Sg} {P w s nA : Nat} {x : T5} {N : List Nat} {K : Mu → Prop} (h : tR μ σ δ) (hP : 0 < P ∧ P < 40) (hl : (σ P).1 = w + 2) (hx : (σ P).2[s]? = some x) (hn : nm x = nI (cb x)) (hc : wfC σ (w + 1) 1 6 (cb x)) (hR : ∀ b ∈ (σ P).2.eraseIdx s, gdB σ (w + 1) b) (h5 : (σ P).2.length ≤ 5) (h2 : (σ (cb x)).2.length < 2 → 2 ≤ (σ P).2.length) (hA : Alc σ (P :: (pgs σ (w + 1) (cb x) ++ pgL σ (w + 1) ((σ P).2.eraseIdx s) ++ N))) (hN : N.length ≤ nA) (h40 : (ent σ (w + 1) (cb x)).length + (enL σ (w + 1) ((σ P).2.eraseIdx s)).length + nA ≤ 40) (kk : ∀ μ' σ', MdE μ σ δ P w N (ent σ (w + 1) (cb x) ++ enL σ (w + 1) ((σ P).2.eraseIdx s)) (if (σ (cb x)).2.length < 2 then (σ P).2.length - 1 else (σ P).2.length + if (σ (cb x)).2.length = 6 then 1 else 0) ((σ P).2.length + 1) μ' σ' → K μ') : mdW μ P s K := by
  have hct := wf_top hc
  have hs := (List.getElem?_eq_some_iff.mp hx).1
  have hPR := (h P hP.1 hP.2).1
  have hcR := (h (cb x) hct.2.1 hct.2.2.1).1
  have ht := tf_t h hP ⟨hct.2.1, hct.2.2.1⟩ hx
  have hnd := List.nodup_cons.mp hA.1
  let x1 := mk5 (bnd (σ (cb x)).2) (nI (cb x))
  have hcx : cb x1 = cb x := cb_mk hct.2.2.1
  let σ1 := upS σ P ((σ P).1, (σ P).2.set s x1)
  have eo : ∀ q, q ≠ P → σ1 q = σ q := fun q hq => upS_n hq
  have eP : σ1 P = ((σ P).1, (σ P).2.set s x1) := upS_s ..
  have eP2 : (σ1 P).2 = (σ P).2.set s x1 := by rw [eP]
  have hu : ∀ q, q ∈ pgs σ (w + 1) (cb x) ++ pgL σ (w + 1) ((σ P).2.eraseIdx s) ++ N → σ1 q = σ q := fun q hq => eo q (fun e => hnd.1 (e ▸ hq))
  have hu1 : ∀ q ∈ pgs σ (w + 1) (cb x), σ1 q = σ q := fun q hq => hu q (List.mem_append_left _ (List.mem_append_left _ hq))
  have hu2 : ∀ q ∈ pgL σ (w + 1) ((σ P).2.eraseIdx s), σ1 q = σ q := fun q hq => hu q (List.mem_append_left _ (List.mem_append_right _ hq))
  have l1 := loc_e hu1
  have l2 := loc_L hu2
  have l3 := loc_w hu1 hc
  have l4 := loc_gL hu2 hR
  have ec : σ1 (cb x) = σ (cb x) := hu1 _ (pgs_self (by omega))
  have hx1 : (σ1 P).2[s]? = some x1 := by rw [eP2, List.getElem?_set_self hs]
  have her : (σ1 P).2.eraseIdx s = (σ P).2.eraseIdx s := by rw [eP2, List.eraseIdx_set_eq]
  have hlen : (σ1 P).2.length = (σ P).2.length := by rw [eP2, List.length_set]
  have hA1 : Alc σ1 (P :: (pgs σ (w + 1) (cb x) ++ pgL σ (w + 1) ((σ P).2.eraseIdx s) ++ N)) := Alc_up hA (fun q a b => by
    by_cases hq : q = P
    · subst hq
      rw [eP]
    · rw [eo q hq])
  have hback : ∀ {E a z μ' σ'}, MdE (tfM μ P s (cb x) (σ (cb x)).2.length) σ1 δ P w N E a z μ' σ' → MdE μ σ δ P w N E a z μ' σ' := fun ⟨e1, e2, e3, e4, e5, e6, e7, e8⟩ => ⟨e1, (ht.2.fr hP.2).tr e2, fun q hq => (e3 q hq).trans (hu q (List.mem_append_right _ hq)), e4, e5, e6, e7, e8⟩
  have hPR1 := (ht.1 P hP.1 hP.2).1
  have hcR1 := (ht.1 (cb x) hct.2.1 hct.2.2.1).1
  have hcR1 : pgR (tfM μ P s (cb x) (σ (cb x)).2.length).1 (cb x) (σ1 (cb x)) := hcR1
  have hPR1 : pgR (tfM μ P s (cb x) (σ (cb x)).2.length).1 P (σ1 P) := hPR1
  have hbx : (tfM μ P s (cb x) (σ (cb x)).2.length).1 (bxI P s) 4 = nI (cb x) := congrArg nm (hPR1.2.2.2.2 s x1 hx1)
  refine ⟨cb x, (σ (cb x)).2.length, by omega, hct.2.2.1, hct.2.2.2.2.2, (congrArg nm (hPR.2.2.2.2 s x hx)).trans hn, hcR.2.1, ?_⟩
  refine ⟨cb x, (σ (cb x)).2.length, by omega, hct.2.2.1, hct.2.2.2.2.2, hbx, by rw [hcR1.2.1, ec], ?_⟩
  by_cases hlt : (σ (cb x)).2.length < 2
  · rw [if_pos hlt]
    rw [if_pos hlt] at kk
    have hc1 : (σ (cb x)).2.length = 1 := by have := hct.2.2.2.2.1; omega
    have hall : ∀ b ∈ (σ1 P).2, co4 (b4 b) := by
      intro b hb
      rcases List.mem_cons.mp ((ex_perm hx1).mem_iff.mp hb) with rfl | hb
      · show co4 (bnd (σ (cb x)).2)
        rw [wf_bnd hc]
        exact (wf_re hc (by omega)).1
      · rw [her] at hb
        exact (gd_re (hR b hb)).1
    refine ⟨(σ1 P).2.length, by rw [hlen]; exact h2 hlt, by rw [hlen]; omega, by rw [hlen]; exact hs, hPR1.2.1, fun j hj => ?_, fun b hb hbs => ?_⟩
    · refine with_lt ?_ ?_
      · rw [hPR1.2.2.2.2 j _ (List.getElem?_eq_getElem hj)]
        exact hall _ (List.getElem_mem hj)
      · rw [hPR1.2.2.2.2 s _ hx1]
        exact hall _ (List.mem_of_getElem? hx1)
    · have hb2 := List.getElem?_eq_getElem hb
      rcases Nat.lt_or_gt_of_ne hbs with hlt2 | hgt
      · -- the partner is before: it is kept
        have hmin : min s b = b := by omega
        have hmax : max s b = s := by omega
        rw [hmin, hmax]
        have pd := drl_perm hx1
        have pk : (drl (σ1 P).2 s)[b]? = some (σ1 P).2[b] := by
          rw [drl_get (by omega), if_neg hbs]
          exact hb2
        have pz := ex_perm pk
        have pe : ((σ P).2.eraseIdx s).Perm ((σ1 P).2[b] :: (drl (σ1 P).2 s).eraseIdx b) := by
          have h7 := (ex_perm hx1).symm.trans (pd.trans (List.Perm.cons _ pz))
          rw [her] at h7
          exact List.Perm.cons_inv h7
        have gz := hR _ (pe.mem_iff.mpr List.mem_cons_self)
        have gz1 : gdB σ1 (w + 1) (σ1 P).2[b] := l4 _ (pe.mem_iff.mpr List.mem_cons_self)
        have gzt := wf_top gz1.2.2
        refine mg_ok (nA := nA) (N := N) (z := (σ1 P).2[b]) (z' := x1) ht.1 hP (by show (σ1 P).1 = _; rw [eP]; exact hl) hlt2 hb2 hx1 gz1.1 (by rw [hcx]; rfl) (wf_wk gz1.2.2 (Nat.le_trans (by omega) gzt.2.2.2.2.1) (Nat.le_trans gzt.2.2.2.2.2 (by omega))) (by rw [hcx]; exact l3) (by rw [hcx]; show (σ1 (cb _)).2.length + (σ1 (cb x)).2.length ≤ 6; rw [ec]; omega) (fun a ha => l4 a (pe.mem_iff.mpr (List.mem_cons_of_mem _ ha))) (by show (σ1 P).2.length ≤ 5; omega) ?_ hN ?_ (fun μ' σ' hE => kk μ' σ' ?_)
        · show Alc σ1 (P :: (pgs σ1 (w + 1) (cb (σ1 P).2[b]) ++ (pgs σ1 (w + 1) (cb x1) ++ (pgL σ1 (w + 1) ((drl (σ1 P).2 s).eraseIdx b) ++ N))))
          refine Alc_p hA1 (List.Perm.cons _ ?_)
          rw [hcx, ← l1.2, ← l2.2]
          refine (List.Perm.append_right _ (List.Perm.append_left _ (pgL_p pe))).trans ?_
          rw [pgL_cons]
          simp only [List.append_assoc]
          exact List.perm_append_comm_assoc _ _ _
        · show (ent σ1 (w + 1) (cb (σ1 P).2[b])).length + (ent σ1 (w + 1) (cb x1)).length + (enL σ1 (w + 1) ((drl (σ1 P).2 s).eraseIdx b)).length + nA ≤ 40
          have h8 := (enL_p (σ := σ1) (v := w + 1) pe).length_eq
          rw [enL_cons, List.length_append] at h8
          rw [hcx, l1.1]
          rw [l2.1] at h8
          omega
        · have hE := hback hE
          obtain ⟨e1, e2, e3, e4, e5, e6, e7, e8⟩ := hE
          refine ⟨e1, e2, e3, e4, e5.trans ?_, e6, by have e7 : (σ1 P).2.length - 1 ≤ _ := e7; rw [hlen] at e7; exact e7, by have e8 : _ ≤ (σ1 P).2.length := e8; rw [hlen] at e8; omega⟩
          show (ent σ1 (w + 1) (cb (σ1 P).2[b]) ++ (ent σ1 (w + 1) (cb x1) ++ enL σ1 (w + 1) ((drl (σ1 P).2 s).eraseIdx b))).Perm _
          rw [hcx, l1.1, ← l2.1]
          refine (List.perm_append_comm_assoc _ _ _).trans (List.Perm.append_left _ ?_)
          rw [← enL_cons]
          exact (enL_p pe).symm
      · -- the partner is behind: it goes
        have hmin : min s b = s := by omega
        have hmax : max s b = b := by omega
        rw [hmin, hmax]
        have pd := drl_perm hb2
        have pk : (drl (σ1 P).2 b)[s]? = some x1 := by
          rw [drl_get (by omega), if_neg (by omega)]
          exact hx1
        have pz := ex_perm pk
        have pe : ((σ P).2.eraseIdx s).Perm ((σ1 P).2[b] :: (drl (σ1 P).2 b).eraseIdx s) := by
          have h7 := (ex_perm hx1).symm.trans ((pd.trans (List.Perm.cons _ pz)).trans (List.Perm.swap _ _ _))
          rw [her] at h7
          exact List.Perm.cons_inv h7
        have gz1 : gdB σ1 (w + 1) (σ1 P).2[b] := l4 _ (pe.mem_iff.mpr List.mem_cons_self)
        have gzt := wf_top gz1.2.2
        refine mg_ok (nA := nA) (N := N) (z := x1) (z' := (σ1 P).2[b]) ht.1 hP (by show (σ1 P).1 = _; rw [eP]; exact hl) hgt hx1 hb2 (by rw [hcx]; rfl) gz1.1 (by rw [hcx]; exact l3) (wf_wk gz1.2.2 (Nat.le_trans (by omega) gzt.2.2.2.2.1) (Nat.le_trans gzt.2.2.2.2.2 (by omega))) (by rw [hcx]; show (σ1 (cb x)).2.length + (σ1 (cb _)).2.length ≤ 6; rw [ec]; omega) (fun a ha => l4 a (pe.mem_iff.mpr (List.mem_cons_of_mem _ ha))) (by show (σ1 P).2.length ≤ 5; omega) ?_ hN ?_ (fun μ' σ' hE => kk μ' σ' ?_)
        · show Alc σ1 (P :: (pgs σ1 (w + 1) (cb x1) ++ (pgs σ1 (w + 1) (cb (σ1 P).2[b]) ++ (pgL σ1 (w + 1) ((drl (σ1 P).2 b).eraseIdx s) ++ N))))
          refine Alc_p hA1 (List.Perm.cons _ ?_)
          rw [hcx, ← l1.2, ← l2.2]
          refine (List.Perm.append_right _ (List.Perm.append_left _ (pgL_p pe))).trans ?_
          rw [pgL_cons]
          simp only [List.append_assoc]
          exact List.Perm.refl _
        · show (ent σ1 (w + 1) (cb x1)).length + (ent σ1 (w + 1) (cb (σ1 P).2[b])).length + (enL σ1 (w + 1) ((drl (σ1 P).2 b).eraseIdx s)).length + nA ≤ 40
          have h8 := (enL_p (σ := σ1) (v := w + 1) pe).length_eq
          rw [enL_cons, List.length_append] at h8
          rw [hcx, l1.1]
          rw [l2.1] at h8
          omega
        · have hE := hback hE
          obtain ⟨e1, e2, e3, e4, e5, e6, e7, e8⟩ := hE
          refine ⟨e1, e2, e3, e4, e5.trans ?_, e6, by have e7 : (σ1 P).2.length - 1 ≤ _ := e7; rw [hlen] at e7; exact e7, by have e8 : _ ≤ (σ1 P).2.length := e8; rw [hlen] at e8; omega⟩
          show (ent σ1 (w + 1) (cb x1) ++ (ent σ1 (w + 1) (cb (σ1 P).2[b]) ++ enL σ1 (w + 1) ((drl (σ1 P).2 b).eraseIdx s))).Perm _
          rw [hcx, l1.1, ← l2.1]
          refine List.Perm.append_left _ ?_
          rw [← enL_cons]
          exact (enL_p pe).symm
  · rw [if_neg hlt]
    rw [if_neg hlt] at kk
    refine mdB_ok (nA := nA) (N := N) (x := x1) ht.1 hP (by show (σ1 P).1 = _; rw [eP]; exact hl) hx1 (by rw [hcx]; rfl) (by rw [hcx]; exact wf_wk l3 (by show 2 ≤ (σ1 (cb x)).2.length; rw [ec]; omega) (by show (σ1 (cb x)).2.length ≤ 6; rw [ec]; omega)) (by show ∀ b ∈ (σ1 P).2.eraseIdx s, _; rw [her]; exact l4) (by show (σ1 P).2.length ≤ 5; omega) (by show Alc σ1 (P :: (pgs σ1 (w + 1) (cb x1) ++ pgL σ1 (w + 1) ((σ1 P).2.eraseIdx s) ++ N)); rw [hcx, her, l1.2, l2.2]; exact hA1) hN (by show (ent σ1 (w + 1) (cb x1)).length + (enL σ1 (w + 1) ((σ1 P).2.eraseIdx s)).length + nA ≤ 40; rw [hcx, her, l1.1, l2.1]; exact h40) (fun μ' σ' hE => kk μ' σ' ?_)
    have hE : MdE _ σ1 δ P w N (ent σ1 (w + 1) (cb x1) ++ enL σ1 (w + 1) ((σ1 P).2.eraseIdx s)) ((σ1 P).2.length + if (σ1 (cb x1)).2.length = 6 then 1 else 0) ((σ1 P).2.length + if (σ1 (cb x1)).2.length = 6 then 1 else 0) μ' σ' := hE
    rw [hcx, her, l1.1, l2.1, hlen, ec] at hE
    obtain ⟨e1, e2, e3, e4, e5, e6, e7, e8⟩ := hback hE
    refine ⟨e1, e2, e3, e4, e5, e6, e7, Nat.le_trans e8 (Nat.add_le_add_left ?_ _)⟩
    split <;> omega
