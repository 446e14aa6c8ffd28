/-! THE OTHER CALLS, apart from nearness. -/
theorem hi_ok {μ : Mu} {F : List T5} (h : ∀ (i : Nat) (t : T5), F[i]? = some t → tp (μ.1 (fdI i)) = t) : ∀ k, k ≤ F.length → hiN μ 4 k = ((F.take k).filter (fun t => hoT (tp (μ.1 4)) t)).length := by
  intro k
  induction k with
  | zero => exact fun _ => rfl
  | succ k ih =>
    intro hk
    have he : F[k]? = some F[k] := List.getElem?_eq_getElem (by omega)
    rw [hiN, ih (by omega), ho_tp, h k _ he, List.take_succ_eq_append_getElem (by omega), List.filter_append, List.length_append]
    congr 1
    rw [List.filter_cons, List.filter_nil]
    split <;> rfl
theorem ho_me {W t : T5} (h : okE t) (hh : hoT W t = true) : meT t W = true := by
  rw [ho_iff] at hh
  obtain ⟨h1, h2, h3, h4⟩ := hh
  obtain ⟨⟨_, h5, h6⟩, _⟩ := h
  simp only [b4, Int32.le_iff_toInt_le] at h1 h2 h3 h4 h5 h6
  simp only [meT, meetB, Bool.and_eq_true, decide_eq_true_eq, Int32.le_iff_toInt_le]
  show t.1.toInt ≤ W.2.2.1.toInt ∧ W.1.toInt ≤ t.2.2.1.toInt ∧ t.2.1.toInt ≤ W.2.2.2.1.toInt ∧ W.2.1.toInt ≤ t.2.2.2.1.toInt
  omega
theorem fl_ho {W : T5} {L : List T5} (h : ∀ t ∈ L, okE t) : (fl W L).filter (fun t => hoT W t) = L.filter (fun t => hoT W t) := by
  unfold fl
  rw [List.filter_filter]
  refine List.filter_congr (fun t ht => ?_)
  by_cases hh : hoT W t = true
  · rw [hh, ho_me (h t ht) hh]
    rfl
  · rw [Bool.not_eq_true] at hh
    rw [hh]
    rfl
theorem s_wn {μ ρ : Mu} (h : SimE μ ρ) {m : Nat} (hm : ρ.1 0 2 = nI m) (hm40 : m ≤ 40) (a b c d : Int32) : wnW μ a b c d (fun x ν => x = (if ρ.1 0 0 = 0 then -3 else if isRc a b c d = true then nI (cnF ρ (fun e => holdB (w5 a b c d 0) e) m) else -1) ∧ SimE ν ρ) := by
  obtain ⟨L, hS⟩ := h
  obtain rfl := hS.m hm hm40
  unfold wnW
  rw [hS.2.2.1]
  by_cases h0 : μ.1 0 4 = 0
  · rw [if_pos h0, if_pos h0]
    exact ⟨rfl, L, hS⟩
  rw [if_neg h0, if_neg h0]
  by_cases hb : isRc a b c d = true
  · rw [if_pos hb, if_pos hb]
    obtain ⟨h1, σ, v, r, hR⟩ := hS.run h0
    have hl := hS.len
    refine sw_ok hR hS.1 a b c d (fun ν Kl f1 f2 f3 f4 f5 => nt_ok hR f1 f3 f4 f5 (fun ν' k1 k2 k3 => ?_))
    have hfl := fl_le (a, b, c, d, 0) L
    have h4 : tp (ν'.1 4) = (a, b, c, d, 0) := by
      rw [k1 4 (by omega) (by omega), f1 4 (by omega) (by omega) (by omega) (by omega) (by omega) (by omega)]
      exact asg_s _ _ _ _ _ _ _
    refine ⟨(fl (a, b, c, d, 0) L).length, by omega, by rw [k1 3 (by omega) (by omega)]; exact f2.1, ?_, nt_s hS h1 f1 k1 k2 k3⟩
    rw [hi_ok (F := fl (a, b, c, d, 0) L) (fun i t ht => by rw [k1 (fdI i) (by unfold fdI; omega) (by unfold fdI; omega)]; exact f2.2.2 i t ht) _ (Nat.le_refl _), List.take_length, h4, fl_ho (Tw_ok hR.2.2.1), cn_ok hS.2.1 (fun e => holdB (w5 a b c d 0) e) (fun t => hoT (a, b, c, d, 0) t) (fun f => ho_tp (w5 a b c d 0) f) L.length (Nat.le_refl _), List.take_length]
  · rw [if_neg hb, if_neg hb]
    exact ⟨rfl, L, hS⟩
theorem i32_nat {k : Int32} (h : ¬ k < 0) : ∃ j, k = nI j ∧ j < 2 ^ 31 := by
  refine ⟨k.toInt.toNat, ?_, ?_⟩
  · apply Int32.toInt_inj.mp
    have h1 : 0 ≤ k.toInt := by
      rw [Int32.lt_iff_toInt_lt, i_0] at h
      omega
    have h2 := Int32.toInt_lt k
    rw [nI_toInt (by omega)]
    omega
  · have h2 := Int32.toInt_lt k
    omega
theorem s_pc {μ ρ : Mu} (h : SimE μ ρ) {m : Nat} (hm : ρ.1 0 2 = nI m) (hm40 : m ≤ 40) (a b c d n : Int32) : pcW μ a b c d n (fun x ν => x = (if ρ.1 0 0 = 0 then -3 else if isRc a b c d = true then (if mtN ρ m a b c d n < 0 then -1 else ρ.1 1 (5 * (mtN ρ m a b c d n).toNatClampNeg)) else -1) ∧ SimE ν ρ) := by
  obtain ⟨L, hS⟩ := h
  obtain rfl := hS.m hm hm40
  unfold pcW
  rw [hS.2.2.1]
  by_cases h0 : μ.1 0 4 = 0
  · rw [if_pos h0, if_pos h0]
    exact ⟨rfl, L, hS⟩
  rw [if_neg h0, if_neg h0]
  by_cases hb : isRc a b c d = true
  · rw [if_pos hb, if_pos hb]
    obtain ⟨h1, σ, v, r, hR⟩ := hS.run h0
    have hl := hS.len
    refine sw_ok hR hS.1 a b c d (fun ν Kl f1 f2 f3 f4 f5 => ?_)
    have hfl := fl_le (a, b, c, d, 0) L
    try dsimp only
    rw [f2.1]
    by_cases hn : n < 0
    · rw [if_pos (Or.inl hn)]
      refine ⟨?_, sw_s hS h1 f1⟩
      unfold mtN
      rw [if_pos hn, if_pos m1_0]
    · obtain ⟨j, rfl, hj⟩ := i32_nat hn
      have hmt := mt_ok hS.2.1 hl a b c d L.length 0 j (by omega) hj
      rw [List.drop_zero] at hmt
      have hmn : mtN ρ L.length a b c d (nI j) = mtF ρ a b c d L.length 0 (nI j) := if_neg hn
      rw [hmn]
      by_cases hjl : j < (fl (a, b, c, d, 0) L).length
      · rw [if_neg (by
          intro hh
          rcases hh with hh | hh
          · exact hn hh
          · exact hh (nI_lt hjl (by omega)))]
        refine nt_ok hR f1 f3 f4 f5 (fun ν' k1 k2 k3 => ⟨j, by omega, rfl, ?_, nt_s hS h1 f1 k1 k2 k3⟩)
        have he : (fl (a, b, c, d, 0) L)[j]? = some (fl (a, b, c, d, 0) L)[j] := List.getElem?_eq_getElem hjl
        generalize (fl (a, b, c, d, 0) L)[j] = t at he
        obtain ⟨i, hi, hi2⟩ := hmt.1 t he
        have hil := (List.getElem?_eq_some_iff.mp hi).1
        have hni := nI_p i (by omega)
        rw [hi2, if_neg hni.1, hni.2, k1 (fdI j) (by unfold fdI; omega) (by unfold fdI; omega)]
        have e1 := congrArg nm (f2.2.2 j t he)
        have e2 := congrArg nm (hS.2.1.2 i t hi)
        exact e1.trans e2.symm
      · rw [if_pos (Or.inr (nI_nlt (by omega) hj)), hmt.2 (by omega), if_pos m1_0]
        exact ⟨rfl, sw_s hS h1 f1⟩
  · rw [if_neg hb, if_neg hb]
    exact ⟨rfl, L, hS⟩
theorem s_tk {μ ρ : Mu} (h : SimE μ ρ) {m : Nat} (hm : ρ.1 0 2 = nI m) (hm40 : m ≤ 40) (a b c d : Int32) : tkW μ a b c d (fun x ν => x = (rTk ρ m a b c d).1 ∧ SimE ν (rTk ρ m a b c d).2) := by
  obtain ⟨L, hS⟩ := h
  obtain rfl := hS.m hm hm40
  unfold tkW rTk
  rw [hS.2.2.1]
  by_cases h0 : μ.1 0 4 = 0
  · rw [if_pos h0, if_pos h0]
    exact ⟨rfl, L, hS⟩
  rw [if_neg h0, if_neg h0]
  by_cases hb : isRc a b c d = true
  · rw [if_pos hb, if_pos hb]
    obtain ⟨h1, σ, v, r, hR⟩ := hS.run h0
    have hl := hS.len
    refine sw_ok hR hS.1 a b c d (fun ν Kl f1 f2 f3 f4 f5 => ?_)
    have hfl := fl_le (a, b, c, d, 0) L
    have hmt := mt_ok hS.2.1 hl a b c d L.length 0 0 (by omega) (by omega)
    rw [List.drop_zero, nI_0] at hmt
    have hmn : mtN ρ L.length a b c d 0 = mtF ρ a b c d L.length 0 0 := if_neg (by decide)
    try dsimp only
    rw [hmn, f2.1]
    by_cases hz : (fl (a, b, c, d, 0) L).length = 0
    · rw [hz, if_pos nI_0, hmt.2 (by omega)]
      unfold rTo
      rw [if_pos m1_0]
      exact ⟨rfl, sw_s hS h1 f1⟩
    · rw [if_neg (nI_ne0 (by omega) (by omega))]
      have he : (fl (a, b, c, d, 0) L)[0]? = some (fl (a, b, c, d, 0) L)[0] := List.getElem?_eq_getElem (by omega)
      have hmem : (fl (a, b, c, d, 0) L)[0] ∈ fl (a, b, c, d, 0) L := List.getElem_mem (by omega)
      generalize (fl (a, b, c, d, 0) L)[0] = t at he hmem
      have htL : t ∈ L := (List.mem_filter.mp hmem).1
      obtain ⟨i, hi, hi2⟩ := hmt.1 t he
      have hil := (List.getElem?_eq_some_iff.mp hi).1
      have hc0 : tp (ν.1 (fdI 0)) = t := f2.2.2 0 t he
      have hsc := sw_c f1
      have hRν := Rn_eq hR hsc.1
      rw [hi2]
      refine up_ok hRν.1 hRν.2.2.1 hl hRν.2.2.2.2.1 ⟨by unfold fdI; omega, by unfold fdI; omega⟩ (fun μ' σ' v' r' E' t1 g1 hp w1 e1 e2 e3 => ?_) (fun hn => ?_)
      · refine it_ ?_
        rw [hc0] at hp
        rw [hRν.2.2.2.2.2.1] at e2
        have e2 : μ'.1 2 1 = nI (L.length - 1) := by
          rw [e2]
          obtain ⟨k, hk⟩ : ∃ k, L.length = k + 1 := ⟨L.length - 1, by omega⟩
          rw [hk]
          exact nI_pred k
        refine out_ok hS h1 hR hi t1 (fun j x1 x2 x3 x4 x5 x6 x7 x8 x9 => ?_) hp w1 e1 e2 e3 ?_
        · rw [g1.2 j x1 x3 x4 x5 x6 x7 x8]
          rcases x9 with rfl | hh
          · exact hsc.2
          · exact hsc.1 j (by unfold cC; omega)
        · rw [g1.2 (fdI 0) (by unfold fdI; omega) (by unfold fdI; omega) (by unfold fdI; omega) (by unfold fdI; omega) (by unfold fdI; omega) (by unfold fdI; omega) (by unfold fdI; omega)]
          have x1 := congrArg nm hc0
          have x2 := congrArg nm (hS.2.1.2 i t hi)
          exact x1.trans x2.symm
      · rw [hc0] at hn
        exact absurd htL hn
  · rw [if_neg hb, if_neg hb]
    unfold rTo
    rw [if_pos m1_0]
    exact ⟨rfl, L, hS⟩
theorem i_5 : (5 : Int32).toInt = 5 := by decide +kernel
theorem i_m1 : (-1 : Int32).toInt = -1 := by decide +kernel
theorem c7_of {v : Int32} (h : ¬ (v < -1 ∨ 5 < v)) : c7 v := by
  rw [Int32.lt_iff_toInt_lt, Int32.lt_iff_toInt_lt, i_5, i_m1] at h
  unfold c7
  simp only [← Int32.toInt_inj]
  have e1 : (1 : Int32).toInt = 1 := by decide +kernel
  have e2 : (2 : Int32).toInt = 2 := by decide +kernel
  have e3 : (3 : Int32).toInt = 3 := by decide +kernel
  have e4 : (4 : Int32).toInt = 4 := by decide +kernel
  rw [i_m1, i_0, e1, e2, e3, e4, i_5]
  omega
theorem s_cu {μ ρ : Mu} (h : SimE μ ρ) (v : Int32) : SimE (cuM μ v) (if v < -1 ∨ 5 < v then ρ else wi ρ 0 1 v) := by
  obtain ⟨L, hS⟩ := h
  unfold cuM
  by_cases hv : v < -1 ∨ 5 < v
  · rw [if_pos hv, if_pos hv]
    exact ⟨L, hS⟩
  · rw [if_neg hv, if_neg hv]
    obtain ⟨s1, s2, s3, s4, s5, s6, s7⟩ := hS
    have w0 : ∀ i, i ≠ 0 → (wi μ 0 6 v).1 i = μ.1 i := fun i hi => wi_ne _ _ _ hi
    have w4 : (wi μ 0 6 v).1 0 4 = μ.1 0 4 := by rw [wi_at, if_neg (by omega)]
    refine ⟨L, s1, Lst_eq s2 (wi_ne _ _ _ (by omega)) (by rw [wi_at, if_neg (by omega)]), ?_, ?_, ?_, ?_, ?_⟩
    · rw [w4, wi_at, if_neg (by omega)]
      exact s3
    · rw [wi_at, if_pos ⟨rfl, rfl⟩, wi_at, if_pos ⟨rfl, rfl⟩]
    · rw [wi_at, if_pos ⟨rfl, rfl⟩]
      exact c7_of hv
    · rw [wi_at, if_neg (by omega)]
      exact s6
    · rw [w4]
      rcases s7 with ⟨a1, σ, v', r, a2⟩ | ⟨a1, σ, v', r, a2⟩
      · exact Or.inl ⟨a1, σ, v', r, Rn_eq a2 (fun i hi => w0 i (by unfold cC at hi; omega))⟩
      · exact Or.inr ⟨a1, σ, v', r, Dw_eq a2 (fun i hi => w0 i (by omega))⟩
theorem s_so {μ ρ : Mu} (h : SimE μ ρ) : soW μ (fun b ν => b = (!decide (ρ.1 0 0 = 0)) ∧ SimE ν (if ρ.1 0 0 = 0 then ρ else wi ρ 0 0 0)) := by
  obtain ⟨L, hS⟩ := h
  unfold soW
  rw [hS.2.2.1]
  by_cases h0 : μ.1 0 4 = 0
  · rw [if_pos h0, if_pos h0]
    exact ⟨by rw [decide_eq_true h0]; rfl, L, hS⟩
  · rw [if_neg h0, if_neg h0]
    obtain ⟨h1, σ, v, r, hR⟩ := hS.run h0
    obtain ⟨s1, s2, s3, s4, s5, s6, s7⟩ := hS
    have z := lp_0 μ
    refine ⟨by rw [decide_eq_false h0]; rfl, L, s1, Lst_eq s2 (wi_ne _ _ _ (by omega)) (by rw [wi_at, if_neg (by omega)]), by rw [z.1, wi_at, if_pos ⟨rfl, rfl⟩], by rw [z.2 6 (by omega), wi_at, if_neg (by omega)]; exact s4, by rw [z.2 6 (by omega)]; exact s5, by rw [z.2 5 (by omega)]; exact s6, Or.inr ⟨z.1, σ, v, r, Dw_lp (Rn_Dw hR)⟩⟩
theorem s_sa {μ ρ : Mu} (h : SimE μ ρ) : saW μ (fun b ν => b = (decide (ρ.1 0 0 = 0)) ∧ SimE ν (if ρ.1 0 0 = 0 then wi ρ 0 0 1 else ρ)) := by
  obtain ⟨L, hS⟩ := h
  rw [hS.2.2.1]
  by_cases h0 : μ.1 0 4 = 0
  · rw [if_pos h0]
    obtain ⟨s1, s2, s3, s4, s5, s6, s7⟩ := hS
    rcases s7 with ⟨a1, _⟩ | ⟨a1, σ, v, r, a2⟩
    · rw [a1] at h0
      exact absurd h0 n10
    · refine sa_ok a2 h0 (fun ν hR h1 hk => ⟨by rw [decide_eq_true h0], L, s1, Lst_eq s2 (wi_ne _ _ _ (by omega)) (by rw [wi_at, if_neg (by omega)]), by rw [h1, wi_at, if_pos ⟨rfl, rfl⟩], by rw [hk 6 (by omega), wi_at, if_neg (by omega)]; exact s4, by rw [hk 6 (by omega)]; exact s5, by rw [hk 5 (by omega)]; exact s6, Or.inl ⟨h1, σ, v, r, hR⟩⟩)
  · rw [if_neg h0]
    unfold saW
    rw [if_neg h0]
    exact ⟨by rw [decide_eq_false h0], L, hS⟩
theorem s_sz {μ ρ : Mu} (h : SimE μ ρ) : (if μ.1 0 4 = 0 then (-3 : Int32) else μ.1 2 1) = (if ρ.1 0 0 = 0 then -3 else ρ.1 0 2) := by
  obtain ⟨L, hS⟩ := h
  rw [hS.2.2.1]
  by_cases h0 : μ.1 0 4 = 0
  · rw [if_pos h0, if_pos h0]
  · rw [if_neg h0, if_neg h0]
    obtain ⟨h1, σ, v, r, hR⟩ := hS.run h0
    rw [hR.2.2.2.2.2.1, hS.2.1.1]
/-- around -/
def fns (t : T5) (s : Nat) : Int32 := fn t s
def mnx (s : Nat) (v x : Int32) : Int32 := if s < 2 then (if x < v then x else v) else (if v < x then x else v)
theorem ag_ok {ρ : Mu} {L : List T5} (h : Lst ρ L) {s : Nat} (hs : s < 4) : ∀ (r k : Nat) (v : Int32), k + r = L.length → agF ρ s r k v = (L.drop k).foldl (fun v t => mnx s v (fn t s)) v := by
  intro r
  induction r with
  | zero =>
    intro k v hk
    rw [List.drop_of_length_le (by omega)]
    rfl
  | succ r ih =>
    intro k v hk
    have hkl : k < L.length := by omega
    have he : L[k]? = some L[k] := List.getElem?_eq_getElem hkl
    have hd : L.drop k = L[k] :: L.drop (k + 1) := List.drop_eq_getElem_cons hkl
    have hc : eB ρ k s = fn L[k] s := by
      rw [← h.2 k _ he]
      have : s = 0 ∨ s = 1 ∨ s = 2 ∨ s = 3 := by omega
      rcases this with rfl | rfl | rfl | rfl <;> rfl
    rw [agF, ih (k + 1) _ (by omega), hd, List.foldl_cons, hc]
    rfl
theorem bn_s (s : Nat) (hs : s < 4) (l : List T5) : ∀ a : T4, fn (mk5 (l.foldl (fun a t => cw a (b4 t)) a) 0) s = l.foldl (fun v t => mnx s v (fn t s)) (fn (mk5 a 0) s) := by
  induction l with
  | nil => exact fun a => rfl
  | cons t l ih =>
    intro a
    rw [List.foldl_cons, List.foldl_cons, ih]
    congr 1
    have : s = 0 ∨ s = 1 ∨ s = 2 ∨ s = 3 := by omega
    rcases this with rfl | rfl | rfl | rfl <;> rfl
theorem sd_eq (ν : Mu) (s : Int32) {t : T5} (h : tp (ν.1 4) = t) : sdN ν s = if s = 0 then t.1 else if s = 1 then t.2.1 else if s = 2 then t.2.2.1 else if s = 3 then t.2.2.2.1 else 2000000000 := by
  rw [← h]
  rfl
theorem s_ar {μ ρ : Mu} (h : SimE μ ρ) {m : Nat} (hm : ρ.1 0 2 = nI m) (hm40 : m ≤ 40) (s : Int32) : arW μ s (fun x ν => x = agN ρ m s ∧ SimE ν ρ) := by
  obtain ⟨L, hS⟩ := h
  obtain rfl := hS.m hm hm40
  unfold arW agN
  rw [hS.2.2.1]
  by_cases h0 : μ.1 0 4 = 0
  · rw [if_pos (Or.inl h0), if_pos (Or.inl h0)]
    exact ⟨rfl, L, hS⟩
  obtain ⟨h1, σ, v, r, hR⟩ := hS.run h0
  have hl := hS.len
  by_cases hz : L.length = 0
  · rw [if_pos (Or.inr (by rw [hR.2.2.2.2.2.1, hz]; exact nI_0)), if_pos (Or.inr (Or.inl hz))]
    exact ⟨rfl, L, hS⟩
  · rw [if_neg (by
      intro hh
      rcases hh with hh | hh
      · exact h0 hh
      · rw [hR.2.2.2.2.2.1] at hh
        exact nI_ne0 (by omega) (by omega) hh)]
    have hte := wf_top hR.2.2.1.2.1
    have hRr := (hR.1 r hte.2.1 hte.2.2.1).1
    have hf := fr_m (i := 4) hRr (fun j hj => by unfold bxI; omega)
    refine ⟨r, (σ r).2.length, hte.2.2.1, hRr.2.2.2.1, hR.2.2.2.2.1, hRr.2.1, ?_, ?_⟩
    · rw [sd_eq _ s hf.2.2, wf_bnd hR.2.2.1.2.1, bnd_perm hR.2.2.1.2.2.2]
      obtain ⟨t, l, rfl⟩ : ∃ t l, L = t :: l := by
        cases L with
        | nil => simp at hz
        | cons t l => exact ⟨t, l, rfl⟩
      have hok := Tw_ok hR.2.2.1 t List.mem_cons_self
      have hb : bnd (t :: l) = l.foldl (fun a t => cw a (b4 t)) (b4 t) := by
        show l.foldl _ (cw z4 (b4 t)) = _
        rw [co4_ok hok.1.1]
      have hc0 : ∀ k, k < 4 → eB ρ 0 k = fn t k := by
        intro k hk
        have := hS.2.1.2 0 t rfl
        rw [← this]
        have : k = 0 ∨ k = 1 ∨ k = 2 ∨ k = 3 := by omega
        rcases this with rfl | rfl | rfl | rfl <;> rfl
      have hag : ∀ k, k < 4 → fn (mk5 (bnd (t :: l)) 0) k = agF ρ k ((t :: l).length - 1) 1 (eB ρ 0 k) := by
        intro k hk
        rw [hb, bn_s k hk, ag_ok hS.2.1 hk _ 1 _ (by simp only [List.length_cons]; omega), hc0 k hk]
        have : fn (mk5 (b4 t) 0) k = fn t k := by
          have : k = 0 ∨ k = 1 ∨ k = 2 ∨ k = 3 := by omega
          rcases this with rfl | rfl | rfl | rfl <;> rfl
        rw [this]
        rfl
      by_cases c0 : s = 0
      · subst c0
        rw [if_pos rfl, if_neg (by
          intro hh
          rcases hh with hh | hh | hh | hh
          · exact h0 hh
          · exact hz hh
          · exact absurd hh (by decide)
          · exact absurd hh (by decide))]
        exact hag 0 (by omega)
      · rw [if_neg c0]
        by_cases c1 : s = 1
        · subst c1
          rw [if_pos rfl, if_neg (by
            intro hh
            rcases hh with hh | hh | hh | hh
            · exact h0 hh
            · exact hz hh
            · exact absurd hh (by decide)
            · exact absurd hh (by decide))]
          exact hag 1 (by omega)
        · rw [if_neg c1]
          by_cases c2 : s = 2
          · subst c2
            rw [if_pos rfl, if_neg (by
              intro hh
              rcases hh with hh | hh | hh | hh
              · exact h0 hh
              · exact hz hh
              · exact absurd hh (by decide)
              · exact absurd hh (by decide))]
            exact hag 2 (by omega)
          · rw [if_neg c2]
            by_cases c3 : s = 3
            · subst c3
              rw [if_pos rfl, if_neg (by
                intro hh
                rcases hh with hh | hh | hh | hh
                · exact h0 hh
                · exact hz hh
                · exact absurd hh (by decide)
                · exact absurd hh (by decide))]
              exact hag 3 (by omega)
            · rw [if_neg c3, if_pos (by
                have e1 : (1 : Int32).toInt = 1 := by decide +kernel
                have e2 : (2 : Int32).toInt = 2 := by decide +kernel
                have e3 : (3 : Int32).toInt = 3 := by decide +kernel
                rw [← Int32.toInt_inj, i_0] at c0
                rw [← Int32.toInt_inj, e1] at c1
                rw [← Int32.toInt_inj, e2] at c2
                rw [← Int32.toInt_inj, e3] at c3
                right
                right
                rw [Int32.lt_iff_toInt_lt, Int32.lt_iff_toInt_lt, i_0, e3]
                omega)]
    · have z0 := hf.2.1 0 (by omega)
      exact hS.keep h1 (fun i hi => hf.2.1 i (by unfold cC at hi; omega)) (by rw [z0]) (by rw [z0]) (by rw [z0]; exact hS.2.2.2.2.2.1)
