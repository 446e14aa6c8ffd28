/-! CLASS AND REFERENCE SIDE BY SIDE. -/
theorem Tw_p {σ : Sg} {v r : Nat} {L L' : List T5} (h : Tw σ v r L) (hp : L.Perm L') : Tw σ v r L' := ⟨h.1, h.2.1, h.2.2.1, h.2.2.2.trans hp⟩
theorem Tw_ok {σ : Sg} {v r : Nat} {L : List T5} (h : Tw σ v r L) : ∀ t ∈ L, okE t := fun t ht => wf_ok h.2.1 t (h.2.2.2.mem_iff.mpr ht)
theorem Rn_p {μ : Mu} {σ : Sg} {v r : Nat} {L L' : List T5} (h : Rn μ σ v r L) (hp : L.Perm L') : Rn μ σ v r L' := by
  obtain ⟨h1, h2, h3, h4, h5, h6, h7, h8⟩ := h
  have e := hp.length_eq
  rw [e] at h4 h6 h7
  exact ⟨h1, h2, Tw_p h3 hp, h4, h5, h6, h7, h8⟩
theorem Dw_p {μ : Mu} {σ : Sg} {v r : Nat} {L L' : List T5} (h : Dw μ σ v r L) (hp : L.Perm L') : Dw μ σ v r L' := by
  obtain ⟨h1, h2, h3⟩ := h
  have e := hp.length_eq
  rw [e] at h2 h3
  exact ⟨Tw_p h1 hp, h2, h3⟩
def cC (i : Nat) : Prop := i = 1 ∨ i = 2 ∨ (19 ≤ i ∧ i < 59) ∨ (99 ≤ i ∧ i < 139) ∨ (219 ≤ i ∧ i < 459)
theorem Rn_eq {μ μ' : Mu} {σ : Sg} {v r : Nat} {L : List T5} (h : Rn μ σ v r L) (h1 : ∀ i, cC i → μ'.1 i = μ.1 i) : Rn μ' σ v r L := by
  obtain ⟨a1, a2, a3, a4, a5, a6, a7, a8, a9⟩ := h
  have e1 := h1 1 (Or.inl rfl)
  have e2 := h1 2 (Or.inr (Or.inl rfl))
  have ep : ∀ q, q < 40 → μ'.1 (pgI q) = μ.1 (pgI q) := fun q hq => h1 _ (by unfold cC pgI; omega)
  refine ⟨tR_eq a1 (fun q _ hq => ep q hq) (fun q j _ hq hj => h1 _ (by unfold cC bxI; omega)), fun q hq => ?_, a3, a4, by rw [e2]; exact a5, by rw [e2]; exact a6, fun q hq => ?_, by rw [e1]; exact a8, by rw [e1]; exact a9⟩
  · have := a2 q hq
    unfold chg at *
    rw [e2, ep q hq]
    exact this
  · rw [h1 (plI q) (by unfold cC plI; omega)]
    exact a7 q hq
def Sim (μ ρ : Mu) (L : List T5) : Prop := L.Pairwise leT ∧ Lst ρ L ∧ ρ.1 0 0 = μ.1 0 4 ∧ ρ.1 0 1 = μ.1 0 6 ∧ c7 (μ.1 0 6) ∧ μ.1 0 5 = 1 ∧ ((μ.1 0 4 = 1 ∧ ∃ σ v r, Rn μ σ v r L) ∨ (μ.1 0 4 = 0 ∧ ∃ σ v r, Dw μ σ v r L))
def SimE (μ ρ : Mu) : Prop := ∃ L, Sim μ ρ L
theorem Sim.len {μ ρ : Mu} {L : List T5} (h : Sim μ ρ L) : L.length ≤ 40 := by
  rcases h.2.2.2.2.2.2 with ⟨_, σ, v, r, h⟩ | ⟨_, σ, v, r, h⟩
  · exact h.2.2.2.1
  · exact h.2.1
theorem Sim.tb {μ ρ : Mu} {L : List T5} (h : Sim μ ρ L) : tB (μ.1 0 4) := by
  rcases h.2.2.2.2.2.2 with ⟨h, _⟩ | ⟨h, _⟩
  · rw [h]; exact tB1
  · rw [h]; exact tB0
theorem Sim.run {μ ρ : Mu} {L : List T5} (h : Sim μ ρ L) (h0 : ¬ μ.1 0 4 = 0) : μ.1 0 4 = 1 ∧ ∃ σ v r, Rn μ σ v r L := by
  rcases h.2.2.2.2.2.2 with h | ⟨h, _⟩
  · exact h
  · exact absurd h h0
theorem Sim.m {μ ρ : Mu} {L : List T5} {m : Nat} (h : Sim μ ρ L) (hm : ρ.1 0 2 = nI m) (hm40 : m ≤ 40) : m = L.length := by
  have h1 := h.len
  have h2 := h.2.1.1
  rw [hm] at h2
  exact (nI_eq (by omega) (by omega)).mp h2
/-- a change of memory that leaves all that counts -/
theorem Sim.keep {μ ν ρ : Mu} {L : List T5} (h : Sim μ ρ L) (h0 : μ.1 0 4 = 1) (h1 : ∀ i, cC i → ν.1 i = μ.1 i) (h4 : ν.1 0 4 = μ.1 0 4) (h6 : ν.1 0 6 = μ.1 0 6) (h5 : ν.1 0 5 = 1) : SimE ν ρ := by
  obtain ⟨_, σ, v, r, hR⟩ := h.run (by rw [h0]; exact n10)
  exact ⟨L, h.1, h.2.1, by rw [h4]; exact h.2.2.1, by rw [h6]; exact h.2.2.2.1, by rw [h6]; exact h.2.2.2.2.1, h5, Or.inl ⟨by rw [h4]; exact h0, σ, v, r, Rn_eq hR h1⟩⟩
theorem Lst_eq {ρ ρ' : Mu} {L : List T5} (h : Lst ρ L) (h1 : ρ'.1 1 = ρ.1 1) (h2 : ρ'.1 0 2 = ρ.1 0 2) : Lst ρ' L := ⟨h2.trans h.1, fun k t ht => by rw [← h.2 k t ht]; exact eB_of (fun j _ => by rw [h1])⟩
/-- the reference's end of a change -/
theorem en_l (ρ : Mu) (a : Int32) (h : ¬ ρ.1 0 1 < 0) : mEn ρ a = (-4, wi (wi ρ 0 1 (-1)) 0 0 0) := if_neg h
theorem en_k (ρ : Mu) (a : Int32) (h : ρ.1 0 1 < 0) : mEn ρ a = (a, ρ) := if_pos h
theorem ct_d : ∀ c : Int32, (c = 0 ∨ c = 1 ∨ c = 2) → (decide (c < 0) || decide (3 ≤ c)) = false ∧ ¬ c < 0 := by
  intro c hc
  rcases hc with rfl | rfl | rfl <;> decide
theorem ct_u : ∀ c : Int32, (c = 3 ∨ c = 4 ∨ c = 5) → (decide (c < 0) || decide (3 ≤ c)) = true ∧ ¬ c < 0 := by
  intro c hc
  rcases hc with rfl | rfl | rfl <;> decide
theorem ct_m : (decide ((-1 : Int32) < 0) || decide (3 ≤ (-1 : Int32))) = true ∧ (-1 : Int32) < 0 := by decide
theorem c7_m : c7 (-1) := Or.inl rfl
theorem set_ok {μ ρ ρ1 : Mu} {σ σ' : Sg} {v r v' r' : Nat} {L L1 L' : List T5} {a a2 : Int32} (h : tR μ σ' σ) (hT : Tw σ v r L) (hT' : Tw σ' v' r' L') (hL1 : L'.Perm L1) (hl : L.length ≤ 40) (hl' : L'.length ≤ 40) (hr : μ.1 2 0 = nI r') (hn : μ.1 2 1 = nI L'.length) (hf : μ.1 2 2 = 1) (hd : dP μ σ r L.length) (h13 : μ.1 1 3 = 0) (h14 : μ.1 1 4 = 0) (hc : c7 (μ.1 0 6)) (hrun : μ.1 0 4 = 1) (hth : μ.1 0 5 = 1) (hρ1 : ρ.1 0 1 = μ.1 0 6) (hρ0 : ρ.1 0 0 = 1) (hs : L.Pairwise leT) (hLs : Lst ρ L) (hs1 : L1.Pairwise leT) (hLs1 : Lst ρ1 L1) (hz : ∀ k, k ≠ 2 → ρ1.1 0 k = ρ.1 0 k) : seW μ a (fun x ν => x = (if mCt ρ = true then mEn ρ1 a else mEn ρ a2).1 ∧ SimE ν (if mCt ρ = true then mEn ρ1 a else mEn ρ a2).2) := by
  have hz1 : ρ1.1 0 1 = μ.1 0 6 := by rw [hz 1 (by omega)]; exact hρ1
  have hdown : ∀ (ρ' : Mu) (L0 : List T5), Lst ρ' L0 → Lst (wi (wi ρ' 0 1 (-1)) 0 0 0) L0 ∧ (wi (wi ρ' 0 1 (-1)) 0 0 0).1 0 0 = 0 ∧ (wi (wi ρ' 0 1 (-1)) 0 0 0).1 0 1 = -1 := fun ρ' L0 h => ⟨Lst_eq h (by rw [wi_ne _ _ _ (by omega), wi_ne _ _ _ (by omega)]) (by rw [wi_at, if_neg (by omega), wi_at, if_neg (by omega)]), by rw [wi_at, if_pos ⟨rfl, rfl⟩], by rw [wi_at, if_neg (by omega), wi_at, if_pos ⟨rfl, rfl⟩]⟩
  refine se_ok h hT hT' hl hl' hr hn hf hd h13 h14 hc hrun (fun h0 ν hR hF => ?_) (fun h0 ν hD hF => ?_) (fun h0 ν hD hF => ?_)
  · have e1 : mCt ρ = true := by
      unfold mCt
      rw [hρ1, h0]
      exact ct_m.1
    rw [if_pos e1, en_k ρ1 a (by rw [hz1, h0]; exact ct_m.2)]
    refine ⟨rfl, L1, hs1, hLs1, ?_, ?_, ?_, ?_, Or.inl ⟨hF.1, σ', v', r', Rn_p hR hL1⟩⟩
    · show ρ1.1 0 0 = ν.1 0 4
      rw [hz 0 (by omega), hρ0, hF.1]
    · show ρ1.1 0 1 = ν.1 0 6
      rw [hz1, h0, hF.2.2]
    · rw [hF.2.2]; exact c7_m
    · rw [hF.2.1]; exact hth
  · have e1 : mCt ρ = false := by
      unfold mCt
      rw [hρ1]
      exact (ct_d _ h0).1
    rw [if_neg (by rw [e1]; exact Bool.false_ne_true), en_l ρ a2 (by rw [hρ1]; exact (ct_d _ h0).2)]
    have hd := hdown ρ L hLs
    exact ⟨rfl, L, hs, hd.1, by rw [hF.1]; exact hd.2.1, by rw [hF.2.2]; exact hd.2.2, by rw [hF.2.2]; exact c7_m, by rw [hF.2.1]; exact hth, Or.inr ⟨hF.1, σ, v, r, hD⟩⟩
  · have e1 : mCt ρ = true := by
      unfold mCt
      rw [hρ1]
      exact (ct_u _ h0).1
    rw [if_pos e1, en_l ρ1 a (by rw [hz1]; exact (ct_u _ h0).2)]
    have hd := hdown ρ1 L1 hLs1
    exact ⟨rfl, L1, hs1, hd.1, by rw [hF.1]; exact hd.2.1, by rw [hF.2.2]; exact hd.2.2, by rw [hF.2.2]; exact c7_m, by rw [hF.2.1]; exact hth, Or.inr ⟨hF.1, σ', v', r', Dw_p hD hL1⟩⟩
/-- the arguments -/
theorem i_1000 : (1000000000 : Int32).toInt = 1000000000 := by decide +kernel
theorem i_m1000 : (-1000000000 : Int32).toInt = -1000000000 := by decide +kernel
theorem i_999 : (999 : Int32).toInt = 999 := by decide +kernel
theorem i_0 : (0 : Int32).toInt = 0 := by decide +kernel
theorem isCo_iff (x : Int32) : isCo x = true ↔ -1000000000 ≤ x.toInt ∧ x.toInt ≤ 1000000000 := by
  unfold isCo
  rw [Bool.and_eq_true, decide_eq_true_eq, decide_eq_true_eq, Int32.le_iff_toInt_le, Int32.le_iff_toInt_le, i_1000, i_m1000]
theorem isRc_iff (a b c d : Int32) : isRc a b c d = true ↔ re4 (a, b, c, d) := by
  unfold isRc re4 co4
  simp only [Bool.and_eq_true, isCo_iff, decide_eq_true_eq, Int32.le_iff_toInt_le]
  constructor
  · exact fun ⟨⟨h1, h2⟩, ⟨h3, h4⟩, ⟨h5, h6⟩, ⟨h7, h8⟩, h9, h10⟩ => ⟨⟨h1, h2, h3, h4, h5, h6, h7, h8⟩, h9, h10⟩
  · exact fun ⟨⟨h1, h2, h3, h4, h5, h6, h7, h8⟩, h9, h10⟩ => ⟨⟨h1, h2⟩, ⟨h3, h4⟩, ⟨h5, h6⟩, ⟨h7, h8⟩, h9, h10⟩
theorem isNm_iff (n : Int32) : isNm n = true ↔ 0 ≤ n.toInt ∧ n.toInt ≤ 999 := by
  unfold isNm
  rw [Bool.and_eq_true, decide_eq_true_eq, decide_eq_true_eq, Int32.le_iff_toInt_le, Int32.le_iff_toInt_le, i_0, i_999]
theorem okE_iff (n a b c d : Int32) : (isNm n = true ∧ isRc a b c d = true) ↔ okE (a, b, c, d, n) := by
  rw [isNm_iff, isRc_iff]
  exact ⟨fun ⟨h1, h2⟩ => ⟨h2, h1.1, h1.2⟩, fun ⟨h1, h2, h3⟩ => ⟨⟨h2, h3⟩, h1⟩⟩
theorem as_t {μ : Mu} {σ δ : Sg} (a b c d n : Int32) (h : tR μ σ δ) : tR (asg μ 4 a b c d n) σ δ := tR_eq h (fun q _ _ => asg_n _ _ _ _ _ _ (by unfold pgI; omega)) (fun q j _ _ _ => asg_n _ _ _ _ _ _ (by unfold bxI; omega))
theorem it_ {a b : Prop} (h : a) : if true = true then a else b := by
  rw [if_pos rfl]
  exact h
theorem if_ {a b : Prop} (h : b) : if false = true then a else b := by
  rw [if_neg Bool.false_ne_true]
  exact h
theorem s_in {μ ρ : Mu} (h : SimE μ ρ) {m : Nat} (hm : ρ.1 0 2 = nI m) (hm40 : m ≤ 40) (n a b c d : Int32) : inW μ n a b c d (fun x ν => x = (rIn ρ m n a b c d).1 ∧ SimE ν (rIn ρ m n a b c d).2) := by
  obtain ⟨L, hS⟩ := h
  obtain rfl := hS.m hm hm40
  unfold inW rIn
  rw [hS.2.2.1]
  by_cases h0 : μ.1 0 4 = 0
  · rw [if_pos h0, if_pos h0]
    exact ⟨rfl, L, hS⟩
  rw [if_neg h0, if_neg h0]
  by_cases hb : isNm n = true ∧ isRc a b c d = true
  · rw [if_pos hb, if_pos hb]
    obtain ⟨h1, σ, v, r, hR⟩ := hS.run h0
    have hl := hS.len
    by_cases h40 : L.length = 40
    · rw [if_pos h40, if_pos (by rw [hR.2.2.2.2.2.1, h40]; exact Int32.le_refl _)]
      exact ⟨rfl, L, hS⟩
    · rw [if_neg h40, if_neg (by rw [hR.2.2.2.2.2.1]; exact nI_ge (a := L.length) (b := 40) (by omega) (by omega))]
      have hok : okE (tp ((asg μ 4 a b c d n).1 4)) := by
        rw [asg_s]
        exact (okE_iff n a b c d).mp hb
      have a0 : ∀ i, i ≠ 4 → (asg μ 4 a b c d n).1 i = μ.1 i := fun i hi => asg_n _ _ _ _ _ _ hi
      refine pl_ok (as_t a b c d n hR.1) hR.2.2.1 (by omega) (by rw [a0 2 (by omega)]; exact hR.2.2.2.2.1) rfl hok (fun μ' σ' v' r' t1 f1 w1 e1 e2 e3 => ?_)
      rw [asg_s] at w1
      rw [a0 2 (by omega), hR.2.2.2.2.2.1] at e2
      have hx : ∀ i, i ≠ 2 → i ≠ 4 → i ≠ 5 → i ≠ 6 → i ≠ 10 → i ≠ 11 → ¬ (19 ≤ i ∧ i < 59) → ¬ (219 ≤ i ∧ i < 459) → μ'.1 i = μ.1 i := fun i x1 x2 x3 x4 x5 x6 x7 x8 => by rw [f1.2 i x1 x3 x4 x5 x6 x7 x8, a0 i x2]
      have z0 := hx 0 (by omega) (by omega) (by omega) (by omega) (by omega) (by omega) (by omega) (by omega)
      have z1 := hx 1 (by omega) (by omega) (by omega) (by omega) (by omega) (by omega) (by omega) (by omega)
      obtain ⟨L1, g1, g2, g3, g4⟩ := in_ok hS.2.1 hS.1 n a b c d
      have e2 : μ'.1 2 1 = nI (L.length + 1) := e2.trans (nI_1 L.length)
      try dsimp only
      rw [e2]
      exact set_ok t1 hR.2.2.1 w1 g2.symm hl (by simp only [List.length_cons]; omega) e1 e2 e3 (fun q hq => by rw [hx (plI q) (by unfold plI; omega) (by unfold plI; omega) (by unfold plI; omega) (by unfold plI; omega) (by unfold plI; omega) (by unfold plI; omega) (by unfold plI; omega) (by unfold plI; omega)]; exact hR.2.2.2.2.2.2.1 q hq) (by rw [z1]; exact hR.2.2.2.2.2.2.2.1) (by rw [z1]; exact hR.2.2.2.2.2.2.2.2) (by rw [z0]; exact hS.2.2.2.2.1) (by rw [z0]; exact h1) (by rw [z0]; exact hS.2.2.2.2.2.1) (by rw [z0]; exact hS.2.2.2.1) (by rw [hS.2.2.1]; exact h1) hS.1 hS.2.1 g3 g1 g4
  · rw [if_neg hb, if_neg hb]
    exact ⟨rfl, L, hS⟩
theorem nI_p (j : Nat) (h : j < 40) : ¬ nI j < 0 ∧ (nI j).toNatClampNeg = j := ⟨nI_pos (by omega), nI_clamp (by omega)⟩
theorem m1_0 : (-1 : Int32) < 0 := by decide
/-- what taking one out comes to -/
theorem out_ok {μ ρ μ' : Mu} {L E' : List T5} {σ σ' : Sg} {v r v' r' j : Nat} {t : T5} {ans : Int32} {fa : Nat → Mu → Int32} (hS : Sim μ ρ L) (h1 : μ.1 0 4 = 1) (hR : Rn μ σ v r L) (hj : L[j]? = some t) (t1 : tR μ' σ' σ) (hx : ∀ i, i ≠ 2 → i ≠ 4 → i ≠ 5 → i ≠ 6 → i ≠ 10 → i ≠ 11 → ¬ (19 ≤ i ∧ i < 59) → ¬ (219 ≤ i ∧ i < 459) → i = 0 ∨ i = 1 ∨ (99 ≤ i ∧ i < 139) → μ'.1 i = μ.1 i) (hp : L.Perm (t :: E')) (w1 : Tw σ' v' r' E') (e1 : μ'.1 2 0 = nI r') (e2 : μ'.1 2 1 = nI (L.length - 1)) (e3 : μ'.1 2 2 = 1) (ha : ans = fa j (mRm ρ L.length j)) : seW μ' ans (fun x ν => x = (rTo ρ L.length (nI j) fa).1 ∧ SimE ν (rTo ρ L.length (nI j) fa).2) := by
  have hjl := (List.getElem?_eq_some_iff.mp hj).1
  have hl := hS.len
  have hnj := nI_p j (by omega)
  have e : rTo ρ L.length (nI j) fa = if mCt ρ = true then mEn (mRm ρ L.length j) ans else mEn ρ (fa j ρ) := by
    unfold rTo
    rw [if_neg hnj.1, hnj.2, ha]
  rw [e]
  obtain ⟨g1, g2⟩ := rm_ok hS.2.1 hjl
  have z0 := hx 0 (by omega) (by omega) (by omega) (by omega) (by omega) (by omega) (by omega) (by omega) (by omega)
  have z1 := hx 1 (by omega) (by omega) (by omega) (by omega) (by omega) (by omega) (by omega) (by omega) (by omega)
  have hp2 : E'.Perm (L.eraseIdx j) := List.Perm.cons_inv (hp.symm.trans (ex_perm hj))
  have hE : E'.length = L.length - 1 := by
    have := hp.length_eq
    simp only [List.length_cons] at this
    omega
  exact set_ok t1 hR.2.2.1 w1 hp2 hl (by omega) e1 (by rw [hE]; exact e2) e3 (fun q hq => by rw [hx (plI q) (by unfold plI; omega) (by unfold plI; omega) (by unfold plI; omega) (by unfold plI; omega) (by unfold plI; omega) (by unfold plI; omega) (by unfold plI; omega) (by unfold plI; omega) (by unfold plI; omega)]; exact hR.2.2.2.2.2.2.1 q hq) (by rw [z1]; exact hR.2.2.2.2.2.2.2.1) (by rw [z1]; exact hR.2.2.2.2.2.2.2.2) (by rw [z0]; exact hS.2.2.2.2.1) (by rw [z0]; exact h1) (by rw [z0]; exact hS.2.2.2.2.2.1) (by rw [z0]; exact hS.2.2.2.1) (by rw [hS.2.2.1]; exact h1) hS.1 hS.2.1 (hS.1.sublist (List.eraseIdx_sublist ..)) g1 g2
theorem s_de {μ ρ : Mu} (h : SimE μ ρ) {m : Nat} (hm : ρ.1 0 2 = nI m) (hm40 : m ≤ 40) (n a b c d : Int32) : deW μ n a b c d (fun x ν => x = (rDe ρ m n a b c d).1 ∧ SimE ν (rDe ρ m n a b c d).2) := by
  obtain ⟨L, hS⟩ := h
  obtain rfl := hS.m hm hm40
  unfold deW rDe
  rw [hS.2.2.1]
  by_cases h0 : μ.1 0 4 = 0
  · rw [if_pos h0, if_pos h0]
    exact ⟨rfl, L, hS⟩
  rw [if_neg h0, if_neg h0]
  obtain ⟨h1, σ, v, r, hR⟩ := hS.run h0
  have hl := hS.len
  have hnone : (a, b, c, d, n) ∉ L → rTo ρ L.length (mDl ρ L.length n a b c d) (fun _ ν => ν.1 0 2) = (-1, ρ) := by
    intro hn
    rcases dl_ok hS.2.1 n a b c d L.length 0 (-1) (by omega) with ⟨_, e⟩ | ⟨j, _, e, _⟩
    · unfold mDl rTo
      rw [e, if_pos m1_0]
    · exact absurd (List.mem_of_getElem? e) hn
  by_cases hb : isNm n = true ∧ isRc a b c d = true
  · rw [if_pos hb]
    have a0 : ∀ i, i ≠ 4 → (asg μ 4 a b c d n).1 i = μ.1 i := fun i hi => asg_n _ _ _ _ _ _ hi
    refine up_ok (as_t a b c d n hR.1) hR.2.2.1 hl (by rw [a0 2 (by omega)]; exact hR.2.2.2.2.1) ⟨by omega, by omega⟩ (fun μ' σ' v' r' E' t1 f1 hp w1 e1 e2 e3 => ?_) (fun hn μ' f1 => ?_)
    · refine it_ ?_
      rw [asg_s] at hp
      rw [a0 2 (by omega), hR.2.2.2.2.2.1] at e2
      have hmem : (a, b, c, d, n) ∈ L := hp.mem_iff.mpr List.mem_cons_self
      rcases dl_ok hS.2.1 n a b c d L.length 0 (-1) (by omega) with ⟨e, _⟩ | ⟨j, _, ej, e⟩
      · obtain ⟨j, hj⟩ := List.getElem?_of_mem hmem
        exact absurd hj (e j (Nat.zero_le _))
      · have hjl := (List.getElem?_eq_some_iff.mp ej).1
        have e2 : μ'.1 2 1 = nI (L.length - 1) := by
          rw [e2]
          obtain ⟨k, hk⟩ : ∃ k, L.length = k + 1 := ⟨L.length - 1, by omega⟩
          rw [hk]
          exact nI_pred k
        unfold mDl
        rw [e]
        refine out_ok hS h1 hR ej t1 (fun i x1 x2 x3 x4 x5 x6 x7 x8 _ => by rw [f1.2 i x1 x3 x4 x5 x6 x7 x8, a0 i x2]) hp w1 e1 e2 e3 ?_
        rw [e2, (rm_ok hS.2.1 hjl).1.1, List.length_eraseIdx_of_lt hjl]
    · refine if_ ?_
      rw [asg_s] at hn
      rw [hnone hn]
      have hx : ∀ i, i ≠ 4 → i ≠ 10 → i ≠ 11 → μ'.1 i = μ.1 i := fun i x1 x2 x3 => by rw [f1.2 i x2 x3, a0 i x1]
      have z0 := hx 0 (by omega) (by omega) (by omega)
      exact ⟨rfl, hS.keep h1 (fun i hi => hx i (by unfold cC at hi; omega) (by unfold cC at hi; omega) (by unfold cC at hi; omega)) (by rw [z0]) (by rw [z0]) (by rw [z0]; exact hS.2.2.2.2.2.1)⟩
  · rw [if_neg hb, hnone (fun hm => hb ((okE_iff n a b c d).mpr (Tw_ok hR.2.2.1 _ hm)))]
    exact ⟨rfl, L, hS⟩
/-- the window's search -/
theorem sw_ok {μ : Mu} {σ : Sg} {v r : Nat} {L : List T5} {K : Mu → Prop} (h : Rn μ σ v r L) (hs : L.Pairwise leT) (a b c d : Int32) (kk : ∀ ν Kl, Fs (asg μ 4 a b c d 0) ν → Fnd ν (fl (a, b, c, d, 0) L) → Sq ν [] Kl → Kl.length ≤ 39 → (∀ q ∈ Kl, lkM σ (a, b, c, d, 0) r q) → K ν) : swW μ a b c d K := by
  refine ga_top (as_t a b c d 0 h.1) h.2.2.1 h.2.2.2.1 (by rw [asg_n _ _ _ _ _ _ (by omega)]; exact h.2.2.2.2.1) (fun ν F Kl h1 h2 h3 _ h4 h5 h6 => ?_)
  rw [asg_s] at h3 h6
  have hF : F = fl (a, b, c, d, 0) L := srt_uq h2.2.1 (hs.filter _) h3
  subst hF
  exact kk ν Kl h1 h2 h4 h5 h6
theorem nt_ok {μ ν : Mu} {σ : Sg} {v r : Nat} {L : List T5} {Kl : List Nat} {a b c d : Int32} {K : Mu → Prop} (h : Rn μ σ v r L) (hF : Fs (asg μ 4 a b c d 0) ν) (hQ : Sq ν [] Kl) (hK : Kl.length ≤ 39) (hlk : ∀ q ∈ Kl, lkM σ (a, b, c, d, 0) r q) (kk : ∀ ν', (∀ i, i ≠ 0 → i ≠ 8 → ν'.1 i = ν.1 i) → ν'.1 0 5 = 1 → (∀ k, k ≠ 5 → ν'.1 0 k = ν.1 0 k) → K ν') : ntW ν K := by
  refine ⟨Kl.length, by omega, hQ.2.2.1, lm_ok (δ := σ) (W := (a, b, c, d, 0)) Kl.length 0 ν (hF.t (as_t a b c d 0 h.1)) ?_ ?_ hQ.2.2.2 hlk (by omega) (fun ν' k1 k2 => kk _ (fun i h0 h8 => by rw [wi_ne _ _ _ h0, k1 i h8]) (by rw [wi_at, if_pos ⟨rfl, rfl⟩]; rfl) (fun k hk => by rw [wi_at, if_neg (by omega), k1 0 (by omega)]))⟩
  · rw [hF 4 (by omega) (by omega) (by omega) (by omega) (by omega) (by omega)]
    exact asg_s _ _ _ _ _ _ _
  · rw [hF 2 (by omega) (by omega) (by omega) (by omega) (by omega) (by omega), asg_n _ _ _ _ _ _ (by omega)]
    exact h.2.2.2.2.1
/-- memories behind the window's search -/
theorem sw_c {μ ν : Mu} {a b c d : Int32} (hF : Fs (asg μ 4 a b c d 0) ν) : (∀ i, cC i → ν.1 i = μ.1 i) ∧ ν.1 0 = μ.1 0 := by
  have h : ∀ i, i ≠ 4 → i ≠ 3 → i ≠ 7 → i ≠ 8 → i ≠ 16 → i ≠ 18 → ¬ (179 ≤ i ∧ i < 219) → ν.1 i = μ.1 i := fun i h4 h1 h2 h3 h5 h6 h7 => by rw [hF i h1 h2 h3 h5 h6 h7, asg_n _ _ _ _ _ _ h4]
  exact ⟨fun i hi => h i (by unfold cC at hi; omega) (by unfold cC at hi; omega) (by unfold cC at hi; omega) (by unfold cC at hi; omega) (by unfold cC at hi; omega) (by unfold cC at hi; omega) (by unfold cC at hi; omega), h 0 (by omega) (by omega) (by omega) (by omega) (by omega) (by omega) (by omega)⟩
theorem sw_s {μ ν ρ : Mu} {L : List T5} {a b c d : Int32} (hS : Sim μ ρ L) (h1 : μ.1 0 4 = 1) (hF : Fs (asg μ 4 a b c d 0) ν) : SimE ν ρ := by
  have h := sw_c hF
  exact hS.keep h1 h.1 (by rw [h.2]) (by rw [h.2]) (by rw [h.2]; exact hS.2.2.2.2.2.1)
theorem nt_s {μ ν ν' ρ : Mu} {L : List T5} {a b c d : Int32} (hS : Sim μ ρ L) (h1 : μ.1 0 4 = 1) (hF : Fs (asg μ 4 a b c d 0) ν) (k1 : ∀ i, i ≠ 0 → i ≠ 8 → ν'.1 i = ν.1 i) (k2 : ν'.1 0 5 = 1) (k3 : ∀ k, k ≠ 5 → ν'.1 0 k = ν.1 0 k) : SimE ν' ρ := by
  have h := sw_c hF
  exact hS.keep h1 (fun i hi => by rw [k1 i (by unfold cC at hi; omega) (by unfold cC at hi; omega), h.1 i hi]) (by rw [k3 4 (by omega), h.2]) (by rw [k3 6 (by omega), h.2]) k2
theorem s_co {μ ρ : Mu} (h : SimE μ ρ) {m : Nat} (hm : ρ.1 0 2 = nI m) (hm40 : m ≤ 40) (a b c d : Int32) : coW μ a b c d (fun x ν => x = (if ρ.1 0 0 = 0 then -3 else if isRc a b c d = true then nI (cnF ρ (fun e => meetB e (w5 a b c d 0)) m) else -1) ∧ SimE ν ρ) := by
  obtain ⟨L, hS⟩ := h
  obtain rfl := hS.m hm hm40
  unfold coW
  rw [hS.2.2.1]
  by_cases h0 : μ.1 0 4 = 0
  · rw [if_pos h0, if_pos h0]
    exact ⟨rfl, L, hS⟩
  rw [if_neg h0, if_neg h0]
  by_cases hb : isRc a b c d = true
  · rw [if_pos hb, if_pos hb]
    obtain ⟨h1, σ, v, r, hR⟩ := hS.run h0
    refine sw_ok hR hS.1 a b c d (fun ν Kl f1 f2 f3 f4 f5 => nt_ok hR f1 f3 f4 f5 (fun ν' k1 k2 k3 => ⟨?_, nt_s hS h1 f1 k1 k2 k3⟩))
    rw [k1 3 (by omega) (by omega), f2.1, cn_ok hS.2.1 (fun e => meetB e (w5 a b c d 0)) (fun t => meT t (a, b, c, d, 0)) (fun f => me_tp f (w5 a b c d 0)) L.length (Nat.le_refl _), List.take_length]
    rfl
  · rw [if_neg hb, if_neg hb]
    exact ⟨rfl, L, hS⟩
