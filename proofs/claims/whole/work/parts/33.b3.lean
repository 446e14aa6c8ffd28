/-! MENDING: the loops of merge and moveOut. -/
theorem upS_2 (σ : Sg) (p : Nat) (x y : Nat × List T5) : upS (upS σ p x) p y = upS σ p y := by
  funext q
  by_cases h : q = p
  · subst h
    rw [upS_s, upS_s]
  · rw [upS_n h, upS_n h, upS_n h]
theorem upS_c {σ : Sg} {p q : Nat} (h : p ≠ q) (x y : Nat × List T5) : upS (upS σ p x) q y = upS (upS σ q y) p x := by
  funext a
  by_cases h1 : a = p
  · subst h1
    rw [upS_n h, upS_s, upS_s]
  · by_cases h2 : a = q
    · subst h2
      rw [upS_s, upS_n h1, upS_s]
    · rw [upS_n h2, upS_n h1, upS_n h1, upS_n h2]
theorem mg_l {δ : Sg} {f e : Nat} (hf : 0 < f ∧ f < 40) (he : 0 < e ∧ e < 40) (hfe : f ≠ e) : ∀ (r k : Nat) (μ : Mu) (σ : Sg), tR μ σ δ → k + r = (σ e).2.length → (σ f).2.length + r ≤ 6 → (σ f).1 ≠ 0 → tR (mgL f e r k (σ f).2.length μ) (upS σ f ((σ f).1, (σ f).2 ++ (σ e).2.drop k)) δ ∧ Oc μ (mgL f e r k (σ f).2.length μ) f := by
  intro r
  induction r with
  | zero =>
    intro k μ σ h hk _ _
    rw [List.drop_of_length_le (by omega), List.append_nil, upS_self]
    exact ⟨h, rfl, fun _ _ _ _ => rfl⟩
  | succ r ih =>
    intro k μ σ h hk hl hz
    have hkl : k < (σ e).2.length := by omega
    have hx := (h e he.1 he.2).1.2.2.2.2 k _ (List.getElem?_eq_getElem hkl)
    have h1 := add_t (j := bxI e k) h hf (by omega) hz
    rw [hx] at h1
    have h2 := ih (k + 1) _ _ h1 (by rw [upS_n hfe.symm]; omega) (by rw [upS_s]; simp; omega) (by rw [upS_s]; exact hz)
    rw [upS_s, upS_2, upS_n hfe.symm] at h2
    simp only [List.append_assoc, List.singleton_append, List.length_append, List.length_cons, List.length_nil, Nat.zero_add] at h2
    rw [← List.drop_eq_getElem_cons hkl] at h2
    exact ⟨h2.1, (add_o μ f _ _ (by omega)).tr h2.2⟩
theorem mg_t {μ : Mu} {σ δ : Sg} {p f e g : Nat} (h : tR μ σ δ) (hp : 0 < p ∧ p < 40) (hf : 0 < f ∧ f < 40) (he : 0 < e ∧ e < 40) (hfe : f ≠ e) (hpf : p ≠ f) (hpe : p ≠ e) (hl : (σ f).2.length + (σ e).2.length ≤ 6) (hz : (σ f).1 ≠ 0) (hg : g < (σ p).2.length) : tR (mgM μ p f e (σ f).2.length (σ e).2.length (σ p).2.length g) (upS (upS (upS σ f ((σ f).1, (σ f).2 ++ (σ e).2)) e (0, [])) p ((σ p).1, drl (σ p).2 g)) δ ∧ Fr μ (mgM μ p f e (σ f).2.length (σ e).2.length (σ p).2.length g) := by
  have h1 := mg_l hf he hfe (σ e).2.length 0 μ σ h (by omega) hl hz
  rw [List.drop_zero] at h1
  have h2 := opn_t (v := 0) h1.1 he (by omega)
  have hgp : (upS (upS σ f ((σ f).1, (σ f).2 ++ (σ e).2)) e (0, [])) p = σ p := by rw [upS_n hpe, upS_n hpf]
  have h3 := drp_t (k := g) h2 hp (by rw [hgp]; exact hg)
  rw [hgp, nI_0] at h3
  have hg6 : g < 6 := by
    have := (h p hp.1 hp.2).1.2.2.2.1
    omega
  exact ⟨h3, ((h1.2.fr hf.2).tr ((opn_o _ e 0).fr he.2)).tr ((drp_o _ p _ g hg6).fr hp.2)⟩
/-- bits -/
def btx (x k : Nat) : Nat := if (nI x >>> (nI k &&& 31)) &&& 1 = 1 then 1 else 0
def cbt (x : Nat) : Nat → Nat
  | 0 => 0
  | k + 1 => cbt x k + btx x k
theorem cbt_pop : ∀ x, x < 32 → cbt x 6 = popN x := by decide +kernel
theorem cbt_le (x : Nat) : ∀ k, cbt x k ≤ k := by
  intro k
  induction k with
  | zero => exact Nat.le_refl _
  | succ k ih =>
    have : btx x k ≤ 1 := by
      unfold btx
      split <;> omega
    rw [cbt]
    omega
theorem mv_w {δ : Sg} {f t x : Nat} {K : Mu → Prop} (hf : 0 < f ∧ f < 40) (ht : 0 < t ∧ t < 40) (hft : f ≠ t) : ∀ (k : Nat) (μ : Mu) (σ : Sg), tR μ σ δ → k ≤ (σ f).2.length → (σ t).2.length + cbt x k ≤ 6 → (σ t).1 ≠ 0 →
    (∀ (μ' : Mu) (l1 l2 : List T5), tR μ' (upS (upS σ f ((σ f).1, l1)) t ((σ t).1, l2)) δ → Fr μ μ' → l1.length + cbt x k = (σ f).2.length → l2.length = (σ t).2.length + cbt x k → (l1 ++ l2).Perm ((σ f).2 ++ (σ t).2) → K μ') → mvW f (nI x) t K k (σ f).2.length (σ t).2.length μ := by
  intro k
  induction k with
  | zero =>
    intro μ σ h _ _ _ kk
    refine kk μ (σ f).2 (σ t).2 ?_ (Fr.rf μ) rfl rfl (List.Perm.refl _)
    rw [upS_self, upS_self]
    exact h
  | succ k ih =>
    intro μ σ h hk hl hz kk
    rw [mvW]
    rw [cbt] at hl
    have h6 := (h f hf.1 hf.2).1.2.2.2.1
    have hkl : k < (σ f).2.length := by omega
    have hck := cbt_le x k
    by_cases hb : (nI x >>> (nI k &&& 31)) &&& 1 = 1
    · rw [if_pos hb]
      have hb1 : btx x k = 1 := if_pos hb
      rw [hb1] at hl
      have hx := (h f hf.1 hf.2).1.2.2.2.2 k _ (List.getElem?_eq_getElem hkl)
      have h1 := add_t (j := bxI f k) h ht (by omega) hz
      rw [hx] at h1
      have hsf : (upS σ t ((σ t).1, (σ t).2 ++ [(σ f).2[k]])) f = σ f := upS_n hft
      have h2 := drp_t (k := k) h1 hf (by rw [hsf]; exact hkl)
      rw [hsf] at h2
      refine ⟨hkl, h6, by omega, ?_⟩
      have h3 := ih _ _ h2 (by rw [upS_s, drl_len]; omega) (by rw [upS_n hft.symm, upS_s]; simp; omega) (by rw [upS_n hft.symm, upS_s]; exact hz) (fun μ' l1 l2 a b c d e => kk μ' l1 l2 ?_ (((add_o μ t _ _ (by omega)).fr ht.2).tr (((drp_o _ f _ k (by omega)).fr hf.2).tr b)) ?_ ?_ ?_)
      · rw [upS_s, upS_n hft.symm, upS_s, drl_len, List.length_append] at h3
        exact h3
      · rw [upS_s, upS_n hft.symm, upS_s, upS_2, upS_c hft, upS_2, upS_c hft.symm] at a
        exact a
      · rw [upS_s, drl_len] at c
        rw [cbt, hb1]
        omega
      · rw [upS_n hft.symm, upS_s] at d
        rw [cbt, hb1, d]
        simp
        omega
      · rw [upS_s, upS_n hft.symm, upS_s] at e
        refine e.trans ?_
        have h5 := drl_perm (List.getElem?_eq_getElem hkl)
        refine List.Perm.trans ?_ (h5.append_right _).symm
        show (drl (σ f).2 k ++ ((σ t).2 ++ [(σ f).2[k]])).Perm ((σ f).2[k] :: (drl (σ f).2 k ++ (σ t).2))
        rw [← List.append_assoc]
        exact List.perm_append_singleton _ _
    · rw [if_neg hb]
      have hb0 : btx x k = 0 := if_neg hb
      rw [hb0] at hl
      exact ih μ σ h (by omega) hl hz (fun μ' l1 l2 a b c d e => kk μ' l1 l2 a b (by rw [cbt, hb0]; omega) (by rw [cbt, hb0]; omega) e)
