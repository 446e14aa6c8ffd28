/-! PAGES, the rest. -/
set_option maxHeartbeats 4000000 in
set_option maxRecDepth 100000 in
theorem cPa_slotThatGrowsLeast {l : Launch} {Y : Yt} (hY : YB Y) {p i u : Nat} (hp : Pg Y p) (hi : isBo Y i) (μ : Mu) (hu : μ.1 (pgI p) 1 = nI u) (h0 : 0 < u) (h6 : u ≤ 6) : Ct l Y yPa_slotThatGrowsLeast wPa_slotThatGrowsLeast ({ frames := 2, cells := 0, slots := 0, locals := 46 }) [.ref (ad Y (pgI p)), .ref (ad Y i)] μ (PI (fun x ν => ν = μ ∧ ∃ b, b < u ∧ x = nI b)) := by
  refine ct_of hY.1 (by decide) rfl (Nat.le_of_ble_eq_true rfl) (lv := [some (.ref (ad Y (pgI p))), some (.ref (ad Y i)), none, none, none, none, none, none, none, none, none, none]) rfl (fun X hC => ?_)
  have hB := hC.B
  obtain ⟨hp40, hpa, har, hbx⟩ := hp
  have loop : ∀ (r k b : Nat) (g a : Int64), k + r = u → b < u → VG X (yA Y) 12 0 0 (VQ X Y (PI (fun x ν => ν = μ ∧ ∃ b, b < u ∧ x = nI b))) (yI Y (μ)) 14 [some (.ref (ad Y (pgI p))), some (.ref (ad Y i)), some (.int (nI b)), some (.long g), none, some (.long a), none, some (.int (nI k)), none, none, none, none] [] := by
    intro r
    induction r with
    | zero =>
      intro k b g a hk hb
      refine v_iload hB dPa_slotThatGrowsLeast_14 rfl ?_
      refine v_aload_n hB dPa_slotThatGrowsLeast_16 rfl ?_
      refine v_get hC (klPa hY.2) (F := FPa Y _) (by assumption) 1 dPa_slotThatGrowsLeast_17 kfPa_22 (by decide) rfl ?_
      refine v_icmp_ge hB 89 dPa_slotThatGrowsLeast_20 (by decide) (fun c => ?_) (fun c => ?_)
      · refine v_iload_n hB dPa_slotThatGrowsLeast_89 rfl ?_
        exact v_iret hC rfl dPa_slotThatGrowsLeast_90 ⟨_, rfl, rfl, b, hb, rfl⟩
      · exact absurd (by rw [hu]; exact nI_le (by omega) (by omega)) c
    | succ r ih =>
      intro k b g a hk hb
      have hbk := hbx k (by omega)
      have key : ∀ (b : Nat) (g a a2 g2 : Int64), b < u → VG X (yA Y) 12 0 0 (VQ X Y (PI (fun x ν => ν = μ ∧ ∃ b, b < u ∧ x = nI b))) (yI Y (μ)) 83 [some (.ref (ad Y (pgI p))), some (.ref (ad Y i)), some (.int (nI b)), some (.long g), none, some (.long a), none, some (.int (nI k)), some (.long a2), none, some (.long g2), none] [] := by
        intro b g a a2 g2 hb
        refine v_iinc hB dPa_slotThatGrowsLeast_83 rfl (y := _) rfl rfl (by decide) (lv' := [_, _, _, _, _, _, _, _, _, _, _, _]) rfl ?_
        refine v_goto hB 14 dPa_slotThatGrowsLeast_86 (by decide) ?_
        refine v_drop 8 (lv' := [_, _, _, _, _, _, _, _, _, _, _, _]) rfl ?_
        refine v_drop 10 (lv' := [_, _, _, _, _, _, _, _, _, _, _, _]) rfl ?_
        rw [i1]
        exact ih (k + 1) b g a (by omega) hb
      refine v_iload hB dPa_slotThatGrowsLeast_14 rfl ?_
      refine v_aload_n hB dPa_slotThatGrowsLeast_16 rfl ?_
      refine v_get hC (klPa hY.2) (F := FPa Y _) (by assumption) 1 dPa_slotThatGrowsLeast_17 kfPa_22 (by decide) rfl ?_
      refine v_icmp_ge hB 89 dPa_slotThatGrowsLeast_20 (by decide) (fun c => ?_) (fun c => ?_)
      · exact absurd c (by rw [hu]; exact (fun q => absurd ((nI_leI (by omega) (by omega)).mp q) (by omega)))
      refine v_aload_n hB dPa_slotThatGrowsLeast_23 rfl ?_
      refine v_get hC (klPa hY.2) (F := FPa Y _) (by assumption) 3 dPa_slotThatGrowsLeast_24 kfPa_11 (by decide) rfl ?_
      refine v_iload hB dPa_slotThatGrowsLeast_27 rfl ?_
      refine v_aald hC har k dPa_slotThatGrowsLeast_29 rfl (by omega) (by decide) ?_
      refine v_callV hC tbok kmPa_41 kiBo_area ksBo_area dPa_slotThatGrowsLeast_30 (F := FBo Y _) (by assumption) (by rw [hY.2]; rfl) (cBo_area hY hbk μ) rfl rfl ⟨Nat.le_of_ble_eq_true rfl, Nat.le_of_ble_eq_true rfl⟩ rfl rfl (Nat.le_of_ble_eq_true rfl) ⟨Nat.zero_le _, Nat.zero_le _⟩ (kE rfl ?_)
      refine v_lstore hB dPa_slotThatGrowsLeast_33 rfl (by decide) (lv' := [_, _, _, _, _, _, _, _, _, _, _, _]) rfl ?_
      refine v_aload_n hB dPa_slotThatGrowsLeast_35 rfl ?_
      refine v_get hC (klPa hY.2) (F := FPa Y _) (by assumption) 3 dPa_slotThatGrowsLeast_36 kfPa_11 (by decide) rfl ?_
      refine v_iload hB dPa_slotThatGrowsLeast_39 rfl ?_
      refine v_aald hC har k dPa_slotThatGrowsLeast_41 rfl (by omega) (by decide) ?_
      refine v_aload_n hB dPa_slotThatGrowsLeast_42 rfl ?_
      refine v_callV hC tbok kmPa_45 kiBo_areaWith ksBo_areaWith dPa_slotThatGrowsLeast_43 (F := FBo Y _) (by assumption) (by rw [hY.2]; rfl) (cBo_areaWith hY hbk hi μ) rfl rfl ⟨Nat.le_of_ble_eq_true rfl, Nat.le_of_ble_eq_true rfl⟩ rfl rfl (Nat.le_of_ble_eq_true rfl) ⟨Nat.zero_le _, Nat.zero_le _⟩ (kE rfl ?_)
      refine v_lload hB dPa_slotThatGrowsLeast_46 rfl ?_
      refine v_lsub hB dPa_slotThatGrowsLeast_48 ?_
      refine v_lstore hB dPa_slotThatGrowsLeast_49 rfl (by decide) (lv' := [_, _, _, _, _, _, _, _, _, _, _, _]) rfl ?_
      refine v_lload hB dPa_slotThatGrowsLeast_51 rfl ?_
      refine v_lload_n hB dPa_slotThatGrowsLeast_53 rfl ?_
      refine v_lcmp hB dPa_slotThatGrowsLeast_54 ?_
      have key2 : ∀ (b : Nat) (g a a2 g2 : Int64), VG X (yA Y) 12 0 0 (VQ X Y (PI (fun x ν => ν = μ ∧ ∃ b, b < u ∧ x = nI b))) (yI Y (μ)) 73 [some (.ref (ad Y (pgI p))), some (.ref (ad Y i)), some (.int (nI b)), some (.long g), none, some (.long a), none, some (.int (nI k)), some (.long a2), none, some (.long g2), none] [] := by
        intro b g a a2 g2
        refine v_iload hB dPa_slotThatGrowsLeast_73 rfl ?_
        refine v_istore_n hB dPa_slotThatGrowsLeast_75 rfl (by decide) (lv' := [_, _, _, _, _, _, _, _, _, _, _, _]) rfl ?_
        refine v_lload hB dPa_slotThatGrowsLeast_76 rfl ?_
        refine v_lstore_n hB dPa_slotThatGrowsLeast_78 rfl (by decide) (lv' := [_, _, _, _, _, _, _, _, _, _, _, _]) rfl ?_
        refine v_lload hB dPa_slotThatGrowsLeast_79 rfl ?_
        refine v_lstore hB dPa_slotThatGrowsLeast_81 rfl (by decide) (lv' := [_, _, _, _, _, _, _, _, _, _, _, _]) rfl ?_
        exact key k _ _ _ _ (by omega)
      refine v_if_lt hB 73 dPa_slotThatGrowsLeast_55 (by decide) (fun c1 => ?_) (fun c1 => ?_)
      · exact key2 _ _ _ _ _
      refine v_lload hB dPa_slotThatGrowsLeast_58 rfl ?_
      refine v_lload_n hB dPa_slotThatGrowsLeast_60 rfl ?_
      refine v_lcmp hB dPa_slotThatGrowsLeast_61 ?_
      refine v_if_ne hB 83 dPa_slotThatGrowsLeast_62 (by decide) (fun c2 => ?_) (fun c2 => ?_)
      · exact key _ _ _ _ _ hb
      refine v_lload hB dPa_slotThatGrowsLeast_65 rfl ?_
      refine v_lload hB dPa_slotThatGrowsLeast_67 rfl ?_
      refine v_lcmp hB dPa_slotThatGrowsLeast_69 ?_
      refine v_if_ge hB 83 dPa_slotThatGrowsLeast_70 (by decide) (fun c3 => ?_) (fun c3 => ?_)
      · exact key _ _ _ _ _ hb
      exact key2 _ _ _ _ _
  refine v_iconst hB dPa_slotThatGrowsLeast_0 (v := 0) (by decide) ?_
  refine v_istore_n hB dPa_slotThatGrowsLeast_1 rfl (by decide) (lv' := [_, _, _, _, _, _, _, _, _, _, _, _]) rfl ?_
  refine v_ldc2 hC (v := 9223372036854775807) kfPa_39 dPa_slotThatGrowsLeast_2 ?_
  refine v_lstore_n hB dPa_slotThatGrowsLeast_5 rfl (by decide) (lv' := [_, _, _, _, _, _, _, _, _, _, _, _]) rfl ?_
  refine v_ldc2 hC (v := 9223372036854775807) kfPa_39 dPa_slotThatGrowsLeast_6 ?_
  refine v_lstore hB dPa_slotThatGrowsLeast_9 rfl (by decide) (lv' := [_, _, _, _, _, _, _, _, _, _, _, _]) rfl ?_
  refine v_iconst hB dPa_slotThatGrowsLeast_11 (v := 0) (by decide) ?_
  refine v_istore hB dPa_slotThatGrowsLeast_12 rfl (by decide) (lv' := [_, _, _, _, _, _, _, _, _, _, _, _]) rfl ?_
  exact loop u 0 0 _ _ (by omega) h0

set_option maxHeartbeats 4000000 in
set_option maxRecDepth 100000 in
theorem cPa_bestPartner {l : Launch} {Y : Yt} (hY : YB Y) {p s u : Nat} (hp : Pg Y p) (μ : Mu) (hu : μ.1 (pgI p) 1 = nI u) (h2 : 2 ≤ u) (h6 : u ≤ 6) (hs : s < u) (hw : ∀ j, j < u → withB (μ.1 (bxI p j)) (μ.1 (bxI p s)) < 9223372036854775807) : Ct l Y yPa_bestPartner wPa_bestPartner ({ frames := 2, cells := 0, slots := 0, locals := 46 }) [.ref (ad Y (pgI p)), .int (nI s)] μ (PI (fun x ν => ν = μ ∧ ∃ b, b < u ∧ b ≠ s ∧ x = nI b)) := by
  refine ct_of hY.1 (by decide) rfl (Nat.le_of_ble_eq_true rfl) (lv := [some (.ref (ad Y (pgI p))), some (.int (nI s)), none, none, none, none, none, none]) rfl (fun X hC => ?_)
  have hB := hC.B
  obtain ⟨hp40, hpa, har, hbx⟩ := hp
  have hbs := hbx s (by omega)
  have loop : ∀ (r k b : Nat) (g : Int64), k + r = u → b < u → ((g = 9223372036854775807 ∧ ∀ j, j < k → j = s) ∨ b ≠ s) → VG X (yA Y) 8 0 0 (VQ X Y (PI (fun x ν => ν = μ ∧ ∃ b, b < u ∧ b ≠ s ∧ x = nI b))) (yI Y (μ)) 9 [some (.ref (ad Y (pgI p))), some (.int (nI s)), some (.int (nI b)), some (.long g), none, some (.int (nI k)), none, none] [] := by
    intro r
    induction r with
    | zero =>
      intro k b g hk hb hi
      refine v_iload hB dPa_bestPartner_9 rfl ?_
      refine v_aload_n hB dPa_bestPartner_11 rfl ?_
      refine v_get hC (klPa hY.2) (F := FPa Y _) (by assumption) 1 dPa_bestPartner_12 kfPa_22 (by decide) rfl ?_
      refine v_icmp_ge hB 61 dPa_bestPartner_15 (by decide) (fun c => ?_) (fun c => ?_)
      · refine v_iload_n hB dPa_bestPartner_61 rfl ?_
        have hbs2 : b ≠ s := by
          rcases hi with ⟨_, h⟩ | h
          · have h3 := h 0 (by omega)
            have h4 := h 1 (by omega)
            omega
          · exact h
        exact v_iret hC rfl dPa_bestPartner_62 ⟨_, rfl, rfl, b, hb, hbs2, rfl⟩
      · exact absurd (by rw [hu]; exact nI_le (by omega) (by omega)) c
    | succ r ih =>
      intro k b g hk hb hi
      have hbk := hbx k (by omega)
      have key : ∀ (b : Nat) (g a2 : Int64), b < u → ((g = 9223372036854775807 ∧ ∀ j, j < k + 1 → j = s) ∨ b ≠ s) → VG X (yA Y) 8 0 0 (VQ X Y (PI (fun x ν => ν = μ ∧ ∃ b, b < u ∧ b ≠ s ∧ x = nI b))) (yI Y (μ)) 55 [some (.ref (ad Y (pgI p))), some (.int (nI s)), some (.int (nI b)), some (.long g), none, some (.int (nI k)), some (.long a2), none] [] := by
        intro b g a2 hb hi
        refine v_iinc hB dPa_bestPartner_55 rfl (y := _) rfl rfl (by decide) (lv' := [_, _, _, _, _, _, _, _]) rfl ?_
        refine v_goto hB 9 dPa_bestPartner_58 (by decide) ?_
        refine v_drop 6 (lv' := [_, _, _, _, _, _, _, _]) rfl ?_
        rw [i1]
        exact ih (k + 1) b g (by omega) hb hi
      refine v_iload hB dPa_bestPartner_9 rfl ?_
      refine v_aload_n hB dPa_bestPartner_11 rfl ?_
      refine v_get hC (klPa hY.2) (F := FPa Y _) (by assumption) 1 dPa_bestPartner_12 kfPa_22 (by decide) rfl ?_
      refine v_icmp_ge hB 61 dPa_bestPartner_15 (by decide) (fun c => ?_) (fun c => ?_)
      · exact absurd c (by rw [hu]; exact (fun q => absurd ((nI_leI (by omega) (by omega)).mp q) (by omega)))
      refine v_aload_n hB dPa_bestPartner_18 rfl ?_
      refine v_get hC (klPa hY.2) (F := FPa Y _) (by assumption) 3 dPa_bestPartner_19 kfPa_11 (by decide) rfl ?_
      refine v_iload hB dPa_bestPartner_22 rfl ?_
      refine v_aald hC har k dPa_bestPartner_24 rfl (by omega) (by decide) ?_
      refine v_aload_n hB dPa_bestPartner_25 rfl ?_
      refine v_get hC (klPa hY.2) (F := FPa Y _) (by assumption) 3 dPa_bestPartner_26 kfPa_11 (by decide) rfl ?_
      refine v_iload_n hB dPa_bestPartner_29 rfl ?_
      refine v_aald hC har s dPa_bestPartner_30 rfl (by omega) (by decide) ?_
      refine v_callV hC tbok kmPa_45 kiBo_areaWith ksBo_areaWith dPa_bestPartner_31 (F := FBo Y _) (by assumption) (by rw [hY.2]; rfl) (cBo_areaWith hY hbk hbs μ) rfl rfl ⟨Nat.le_of_ble_eq_true rfl, Nat.le_of_ble_eq_true rfl⟩ rfl rfl (Nat.le_of_ble_eq_true rfl) ⟨Nat.zero_le _, Nat.zero_le _⟩ (kE rfl ?_)
      refine v_lstore hB dPa_bestPartner_34 rfl (by decide) (lv' := [_, _, _, _, _, _, _, _]) rfl ?_
      refine v_iload hB dPa_bestPartner_36 rfl ?_
      refine v_iload_n hB dPa_bestPartner_38 rfl ?_
      refine v_icmp_eq hB 55 dPa_bestPartner_39 (by decide) (fun c1 => ?_) (fun c1 => ?_)
      · have hks : k = s := (nI_eq (by omega) (by omega)).mp c1
        refine key _ _ _ hb ?_
        rcases hi with ⟨h1, h2⟩ | h
        · exact Or.inl ⟨h1, fun j hj => (Nat.lt_or_ge j k).elim (h2 j) (fun q => by omega)⟩
        · exact Or.inr h
      have hks : k ≠ s := fun q => c1 (by rw [q])
      refine v_lload hB dPa_bestPartner_42 rfl ?_
      refine v_lload_n hB dPa_bestPartner_44 rfl ?_
      refine v_lcmp hB dPa_bestPartner_45 ?_
      refine v_if_ge hB 55 dPa_bestPartner_46 (by decide) (fun c2 => ?_) (fun c2 => ?_)
      · refine key _ _ _ hb ?_
        rcases hi with ⟨h1, h2⟩ | h
        · exfalso
          have h3 := hw k (by omega)
          rw [h1] at c2
          simp [lg_cmp, h3, Int64.not_lt.mpr (Int64.le_of_lt h3), Int64.ne_of_lt h3] at c2
        · exact Or.inr h
      refine v_iload hB dPa_bestPartner_49 rfl ?_
      refine v_istore_n hB dPa_bestPartner_51 rfl (by decide) (lv' := [_, _, _, _, _, _, _, _]) rfl ?_
      refine v_lload hB dPa_bestPartner_52 rfl ?_
      refine v_lstore_n hB dPa_bestPartner_54 rfl (by decide) (lv' := [_, _, _, _, _, _, _, _]) rfl ?_
      exact key k _ _ (by omega) (Or.inr hks)
  refine v_iload_n hB dPa_bestPartner_0 rfl ?_
  refine v_istore_n hB dPa_bestPartner_1 rfl (by decide) (lv' := [_, _, _, _, _, _, _, _]) rfl ?_
  refine v_ldc2 hC (v := 9223372036854775807) kfPa_39 dPa_bestPartner_2 ?_
  refine v_lstore_n hB dPa_bestPartner_5 rfl (by decide) (lv' := [_, _, _, _, _, _, _, _]) rfl ?_
  refine v_iconst hB dPa_bestPartner_6 (v := 0) (by decide) ?_
  refine v_istore hB dPa_bestPartner_7 rfl (by decide) (lv' := [_, _, _, _, _, _, _, _]) rfl ?_
  exact loop u 0 s _ (by omega) hs (Or.inl ⟨rfl, fun j hj => absurd hj (Nat.not_lt_zero j)⟩)

theorem ai_ne_pa {Y : Yt} {i j z : Nat} (hi : AI Y i z) (hj : isPa Y j) : i ≠ j := by
  rintro rfl
  obtain ⟨_, _, _, _, h1⟩ := hi
  have h := (h1 (fun _ => 0) (fun _ => 0)).symm.trans (hj.2 (fun _ => 0) (fun _ => 0))
  cases h
theorem ai_ne_bo {Y : Yt} {i j z : Nat} (hi : AI Y i z) (hj : isBo Y j) : i ≠ j := by
  rintro rfl
  obtain ⟨_, _, _, _, h1⟩ := hi
  have h := (h1 (fun _ => 0) (fun _ => 0)).symm.trans (hj.2 (fun _ => 0) (fun _ => 0))
  cases h
/-- one box to its five places of a row -/
def wt1 (μ : Mu) (r k x q : Nat) : Mu := wi μ r (2 + 5 * k + q) (μ.1 x q)
def wt5 (μ : Mu) (p r k : Nat) : Mu := wt1 (wt1 (wt1 (wt1 (wt1 μ r k (bxI p k) 0) r k (bxI p k) 1) r k (bxI p k) 2) r k (bxI p k) 3) r k (bxI p k) 4
def wtL (p r : Nat) : Nat → Nat → Mu → Mu
  | 0, _, μ => μ
  | c + 1, k, μ => wtL p r c (k + 1) (wt5 μ p r k)
def wtM (μ : Mu) (p u r : Nat) : Mu := wtL p r u 0 (wi (wi μ r 0 (μ.1 (pgI p) 0)) r 1 (nI u))
theorem wt5_ne (μ : Mu) {p r k a : Nat} (h : a ≠ r) : (wt5 μ p r k).1 a = μ.1 a := by
  unfold wt5 wt1
  rw [wi_ne _ _ _ h, wi_ne _ _ _ h, wi_ne _ _ _ h, wi_ne _ _ _ h, wi_ne _ _ _ h]
/-- a box out of its five places of a row -/
def rd5 (μ : Mu) (p r k : Nat) : Mu := asg μ (bxI p k) (μ.1 r (2 + 5 * k)) (μ.1 r (2 + 5 * k + 1)) (μ.1 r (2 + 5 * k + 2)) (μ.1 r (2 + 5 * k + 3)) (μ.1 r (2 + 5 * k + 4))
def rdL (p r : Nat) : Nat → Nat → Mu → Mu
  | 0, _, μ => μ
  | c + 1, k, μ => rdL p r c (k + 1) (rd5 μ p r k)
def rdM (μ : Mu) (p u r : Nat) : Mu := rdL p r u 0 (wi (wi (wi μ (pgI p) 0 (μ.1 r 0)) (pgI p) 1 (nI u)) (pgI p) 2 0)
set_option maxHeartbeats 4000000 in
set_option maxRecDepth 100000 in
theorem cPa_writeTo {l : Launch} {Y : Yt} (hY : YB Y) {p r u : Nat} (hp : Pg Y p) (hr : AI Y r 27) (μ : Mu) (hu : μ.1 (pgI p) 1 = nI u) (h5 : u ≤ 5) : Ct l Y yPa_writeTo wPa_writeTo ({ frames := 0, cells := 0, slots := 0, locals := 0 }) [.ref (ad Y (pgI p)), .ref (ad Y r)] μ (PE none (wtM μ p u r)) := by
  refine ct_of hY.1 (by decide) rfl (Nat.le_of_ble_eq_true rfl) (lv := [some (.ref (ad Y (pgI p))), some (.ref (ad Y r)), none, none]) rfl (fun X hC => ?_)
  have hB := hC.B
  obtain ⟨hp40, hpa, har, hbx⟩ := hp
  have hrp : pgI p ≠ r := (ai_ne_pa hr hpa).symm
  have loop : ∀ (c k : Nat) (ν : Mu), k + c = u → ν.1 (pgI p) 1 = nI u → wtL p r c k ν = wtM μ p u r → VG X (yA Y) 4 0 0 (VQ X Y (PE none (wtM μ p u r))) (yI Y (ν)) 16 [some (.ref (ad Y (pgI p))), some (.ref (ad Y r)), some (.int (nI k)), none] [] := by
    intro c
    induction c with
    | zero =>
      intro k ν hk hν hf
      refine v_iload_n hB dPa_writeTo_16 rfl ?_
      refine v_aload_n hB dPa_writeTo_17 rfl ?_
      refine v_get hC (klPa hY.2) (F := FPa Y _) (by assumption) 1 dPa_writeTo_18 kfPa_22 (by decide) rfl ?_
      refine v_icmp_ge hB 109 dPa_writeTo_21 (by decide) (fun c => ?_) (fun c => ?_)
      · exact v_vret hC rfl dPa_writeTo_109 ⟨rfl, hf⟩
      · exact absurd (by rw [hν]; exact nI_le (by omega) (by omega)) c
    | succ c ih =>
      intro k ν hk hν hf
      have hbk := hbx k (by omega)
      refine v_iload_n hB dPa_writeTo_16 rfl ?_
      refine v_aload_n hB dPa_writeTo_17 rfl ?_
      refine v_get hC (klPa hY.2) (F := FPa Y _) (by assumption) 1 dPa_writeTo_18 kfPa_22 (by decide) rfl ?_
      refine v_icmp_ge hB 109 dPa_writeTo_21 (by decide) (fun c1 => ?_) (fun c1 => ?_)
      · exact absurd c1 (by rw [hν]; exact (fun q => absurd ((nI_leI (by omega) (by omega)).mp q) (by omega)))
      refine v_iload_n hB dPa_writeTo_24 rfl ?_
      refine v_iconst hB dPa_writeTo_25 (v := 5) (by decide) ?_
      refine v_icmp_ge hB 109 dPa_writeTo_26 (by decide) (fun c2 => ?_) (fun c2 => ?_)
      · exact absurd c2 (by rw [show (5 : Int32) = nI 5 from rfl]; exact (fun q => absurd ((nI_leI (by omega) (by omega)).mp q) (by omega)))
      refine v_iconst hB dPa_writeTo_29 (v := 2) (by decide) ?_
      refine v_iload_n hB dPa_writeTo_30 rfl ?_
      refine v_iconst hB dPa_writeTo_31 (v := 5) (by decide) ?_
      refine v_imul hB dPa_writeTo_32 ?_
      refine v_iadd hB dPa_writeTo_33 ?_
      rw [ix5 k (by omega)]
      refine v_istore_n hB dPa_writeTo_34 rfl (by decide) (lv' := [_, _, _, _]) rfl ?_
      refine v_aload_n hB dPa_writeTo_35 rfl ?_
      refine v_iload_n hB dPa_writeTo_36 rfl ?_
      refine v_aload_n hB dPa_writeTo_37 rfl ?_
      refine v_get hC (klPa hY.2) (F := FPa Y _) (by assumption) 3 dPa_writeTo_38 kfPa_11 (by decide) rfl ?_
      refine v_iload_n hB dPa_writeTo_41 rfl ?_
      refine v_aald hC har k dPa_writeTo_42 rfl (by omega) (by decide) ?_
      refine v_get hC (klBo hY.2) (F := FBo Y _) (by assumption) 0 dPa_writeTo_43 kfPa_49 (by decide) rfl ?_
      refine v_iast hC hr (2 + 5 * k) dPa_writeTo_46 rfl (by omega) (by decide) ?_
      refine v_aload_n hB dPa_writeTo_47 rfl ?_
      refine v_iload_n hB dPa_writeTo_48 rfl ?_
      refine v_iconst hB dPa_writeTo_49 (v := 1) (by decide) ?_
      refine v_iadd hB dPa_writeTo_50 ?_
      refine v_aload_n hB dPa_writeTo_51 rfl ?_
      refine v_get hC (klPa hY.2) (F := FPa Y _) (by assumption) 3 dPa_writeTo_52 kfPa_11 (by decide) rfl ?_
      refine v_iload_n hB dPa_writeTo_55 rfl ?_
      refine v_aald hC har k dPa_writeTo_56 rfl (by omega) (by decide) ?_
      refine v_get hC (klBo hY.2) (F := FBo Y _) (by assumption) 1 dPa_writeTo_57 kfPa_52 (by decide) rfl ?_
      refine v_iast hC hr (2 + 5 * k + 1) dPa_writeTo_60 (nI_1 _) (by omega) (by decide) ?_
      refine v_aload_n hB dPa_writeTo_61 rfl ?_
      refine v_iload_n hB dPa_writeTo_62 rfl ?_
      refine v_iconst hB dPa_writeTo_63 (v := 2) (by decide) ?_
      refine v_iadd hB dPa_writeTo_64 ?_
      refine v_aload_n hB dPa_writeTo_65 rfl ?_
      refine v_get hC (klPa hY.2) (F := FPa Y _) (by assumption) 3 dPa_writeTo_66 kfPa_11 (by decide) rfl ?_
      refine v_iload_n hB dPa_writeTo_69 rfl ?_
      refine v_aald hC har k dPa_writeTo_70 rfl (by omega) (by decide) ?_
      refine v_get hC (klBo hY.2) (F := FBo Y _) (by assumption) 2 dPa_writeTo_71 kfPa_55 (by decide) rfl ?_
      refine v_iast hC hr (2 + 5 * k + 2) dPa_writeTo_74 (nI_2 _) (by omega) (by decide) ?_
      refine v_aload_n hB dPa_writeTo_75 rfl ?_
      refine v_iload_n hB dPa_writeTo_76 rfl ?_
      refine v_iconst hB dPa_writeTo_77 (v := 3) (by decide) ?_
      refine v_iadd hB dPa_writeTo_78 ?_
      refine v_aload_n hB dPa_writeTo_79 rfl ?_
      refine v_get hC (klPa hY.2) (F := FPa Y _) (by assumption) 3 dPa_writeTo_80 kfPa_11 (by decide) rfl ?_
      refine v_iload_n hB dPa_writeTo_83 rfl ?_
      refine v_aald hC har k dPa_writeTo_84 rfl (by omega) (by decide) ?_
      refine v_get hC (klBo hY.2) (F := FBo Y _) (by assumption) 3 dPa_writeTo_85 kfPa_58 (by decide) rfl ?_
      refine v_iast hC hr (2 + 5 * k + 3) dPa_writeTo_88 (nI_3 _) (by omega) (by decide) ?_
      refine v_aload_n hB dPa_writeTo_89 rfl ?_
      refine v_iload_n hB dPa_writeTo_90 rfl ?_
      refine v_iconst hB dPa_writeTo_91 (v := 4) (by decide) ?_
      refine v_iadd hB dPa_writeTo_92 ?_
      refine v_aload_n hB dPa_writeTo_93 rfl ?_
      refine v_get hC (klPa hY.2) (F := FPa Y _) (by assumption) 3 dPa_writeTo_94 kfPa_11 (by decide) rfl ?_
      refine v_iload_n hB dPa_writeTo_97 rfl ?_
      refine v_aald hC har k dPa_writeTo_98 rfl (by omega) (by decide) ?_
      refine v_get hC (klBo hY.2) (F := FBo Y _) (by assumption) 4 dPa_writeTo_99 kfPa_61 (by decide) rfl ?_
      refine v_iast hC hr (2 + 5 * k + 4) dPa_writeTo_102 (nI_4 _) (by omega) (by decide) ?_
      refine v_iinc hB dPa_writeTo_103 rfl (y := _) rfl rfl (by decide) (lv' := [_, _, _, _]) rfl ?_
      refine v_goto hB 16 dPa_writeTo_106 (by decide) ?_
      refine v_drop 3 (lv' := [_, _, _, _]) rfl ?_
      rw [i1]
      exact ih (k + 1) (wt5 ν p r k) (by omega) (by rw [wt5_ne ν hrp]; exact hν) hf
  refine v_aload_n hB dPa_writeTo_0 rfl ?_
  refine v_iconst hB dPa_writeTo_1 (v := 0) (by decide) ?_
  refine v_aload_n hB dPa_writeTo_2 rfl ?_
  refine v_get hC (klPa hY.2) (F := FPa Y _) (by assumption) 0 dPa_writeTo_3 kfPa_18 (by decide) rfl ?_
  refine v_iast hC hr 0 dPa_writeTo_6 rfl (by omega) (by decide) ?_
  refine v_aload_n hB dPa_writeTo_7 rfl ?_
  refine v_iconst hB dPa_writeTo_8 (v := 1) (by decide) ?_
  refine v_aload_n hB dPa_writeTo_9 rfl ?_
  refine v_get hC (klPa hY.2) (F := FPa Y _) (by assumption) 1 dPa_writeTo_10 kfPa_22 (by decide) rfl ?_
  refine v_iast hC hr 1 dPa_writeTo_13 rfl (by omega) (by decide) ?_
  refine v_iconst hB dPa_writeTo_14 (v := 0) (by decide) ?_
  refine v_istore_n hB dPa_writeTo_15 rfl (by decide) (lv' := [_, _, _, _]) rfl ?_
  rw [wi_ne μ 0 (μ.1 (pgI p) 0) hrp, hu]
  exact loop u 0 _ (by omega) (by rw [wi_ne _ _ _ hrp, wi_ne _ _ _ hrp]; exact hu) rfl

set_option maxHeartbeats 4000000 in
set_option maxRecDepth 100000 in
theorem cPa_readFrom {l : Launch} {Y : Yt} (hY : YB Y) {p r u : Nat} (hp : Pg Y p) (hr : AI Y r 27) (μ : Mu) (hu : μ.1 r 1 = nI u) (h5 : u ≤ 5) : Ct l Y yPa_readFrom wPa_readFrom ({ frames := 1, cells := 0, slots := 0, locals := 25 }) [.ref (ad Y (pgI p)), .ref (ad Y r)] μ (PE none (rdM μ p u r)) := by
  refine ct_of hY.1 (by decide) rfl (Nat.le_of_ble_eq_true rfl) (lv := [some (.ref (ad Y (pgI p))), some (.ref (ad Y r)), none, none]) rfl (fun X hC => ?_)
  have hB := hC.B
  obtain ⟨hp40, hpa, har, hbx⟩ := hp
  have hrp : r ≠ pgI p := ai_ne_pa hr hpa
  have loop : ∀ (c k : Nat) (ν : Mu), k + c = u → ν.1 (pgI p) 1 = nI u → rdL p r c k ν = rdM μ p u r → VG X (yA Y) 4 0 0 (VQ X Y (PE none (rdM μ p u r))) (yI Y (ν)) 29 [some (.ref (ad Y (pgI p))), some (.ref (ad Y r)), some (.int (nI k)), none] [] := by
    intro c
    induction c with
    | zero =>
      intro k ν hk hν hf
      refine v_iload_n hB dPa_readFrom_29 rfl ?_
      refine v_aload_n hB dPa_readFrom_30 rfl ?_
      refine v_get hC (klPa hY.2) (F := FPa Y _) (by assumption) 1 dPa_readFrom_31 kfPa_22 (by decide) rfl ?_
      refine v_icmp_ge hB 81 dPa_readFrom_34 (by decide) (fun c => ?_) (fun c => ?_)
      · exact v_vret hC rfl dPa_readFrom_81 ⟨rfl, hf⟩
      · exact absurd (by rw [hν]; exact nI_le (by omega) (by omega)) c
    | succ c ih =>
      intro k ν hk hν hf
      have hbk := hbx k (by omega)
      have hne : pgI p ≠ bxI p k := (bo_ne_pa hbk hpa).symm
      refine v_iload_n hB dPa_readFrom_29 rfl ?_
      refine v_aload_n hB dPa_readFrom_30 rfl ?_
      refine v_get hC (klPa hY.2) (F := FPa Y _) (by assumption) 1 dPa_readFrom_31 kfPa_22 (by decide) rfl ?_
      refine v_icmp_ge hB 81 dPa_readFrom_34 (by decide) (fun c1 => ?_) (fun c1 => ?_)
      · exact absurd c1 (by rw [hν]; exact (fun q => absurd ((nI_leI (by omega) (by omega)).mp q) (by omega)))
      refine v_iconst hB dPa_readFrom_37 (v := 2) (by decide) ?_
      refine v_iload_n hB dPa_readFrom_38 rfl ?_
      refine v_iconst hB dPa_readFrom_39 (v := 5) (by decide) ?_
      refine v_imul hB dPa_readFrom_40 ?_
      refine v_iadd hB dPa_readFrom_41 ?_
      rw [ix5 k (by omega)]
      refine v_istore_n hB dPa_readFrom_42 rfl (by decide) (lv' := [_, _, _, _]) rfl ?_
      refine v_aload_n hB dPa_readFrom_43 rfl ?_
      refine v_get hC (klPa hY.2) (F := FPa Y _) (by assumption) 3 dPa_readFrom_44 kfPa_11 (by decide) rfl ?_
      refine v_iload_n hB dPa_readFrom_47 rfl ?_
      refine v_aald hC har k dPa_readFrom_48 rfl (by omega) (by decide) ?_
      refine v_aload_n hB dPa_readFrom_49 rfl ?_
      refine v_iload_n hB dPa_readFrom_50 rfl ?_
      refine v_iald hC hr (2 + 5 * k) dPa_readFrom_51 rfl (by omega) (by decide) ?_
      refine v_aload_n hB dPa_readFrom_52 rfl ?_
      refine v_iload_n hB dPa_readFrom_53 rfl ?_
      refine v_iconst hB dPa_readFrom_54 (v := 1) (by decide) ?_
      refine v_iadd hB dPa_readFrom_55 ?_
      refine v_iald hC hr (2 + 5 * k + 1) dPa_readFrom_56 (nI_1 _) (by omega) (by decide) ?_
      refine v_aload_n hB dPa_readFrom_57 rfl ?_
      refine v_iload_n hB dPa_readFrom_58 rfl ?_
      refine v_iconst hB dPa_readFrom_59 (v := 2) (by decide) ?_
      refine v_iadd hB dPa_readFrom_60 ?_
      refine v_iald hC hr (2 + 5 * k + 2) dPa_readFrom_61 (nI_2 _) (by omega) (by decide) ?_
      refine v_aload_n hB dPa_readFrom_62 rfl ?_
      refine v_iload_n hB dPa_readFrom_63 rfl ?_
      refine v_iconst hB dPa_readFrom_64 (v := 3) (by decide) ?_
      refine v_iadd hB dPa_readFrom_65 ?_
      refine v_iald hC hr (2 + 5 * k + 3) dPa_readFrom_66 (nI_3 _) (by omega) (by decide) ?_
      refine v_aload_n hB dPa_readFrom_67 rfl ?_
      refine v_iload_n hB dPa_readFrom_68 rfl ?_
      refine v_iconst hB dPa_readFrom_69 (v := 4) (by decide) ?_
      refine v_iadd hB dPa_readFrom_70 ?_
      refine v_iald hC hr (2 + 5 * k + 4) dPa_readFrom_71 (nI_4 _) (by omega) (by decide) ?_
      refine v_callV hC tbok kmPa_73 kiBo_assign ksBo_assign dPa_readFrom_72 (F := FBo Y _) (by assumption) (by rw [hY.2]; rfl) (cBo_assign hY hbk _ _ _ _ _ ν) rfl rfl ⟨Nat.le_of_ble_eq_true rfl, Nat.le_of_ble_eq_true rfl⟩ rfl rfl (Nat.le_of_ble_eq_true rfl) ⟨Nat.zero_le _, Nat.zero_le _⟩ (kE rfl ?_)
      refine v_iinc hB dPa_readFrom_75 rfl (y := _) rfl rfl (by decide) (lv' := [_, _, _, _]) rfl ?_
      refine v_goto hB 29 dPa_readFrom_78 (by decide) ?_
      refine v_drop 3 (lv' := [_, _, _, _]) rfl ?_
      rw [i1]
      exact ih (k + 1) (rd5 ν p r k) (by omega) (by unfold rd5; rw [asg_ne _ _ _ _ _ _ hne]; exact hν) hf
  refine v_aload_n hB dPa_readFrom_0 rfl ?_
  refine v_aload_n hB dPa_readFrom_1 rfl ?_
  refine v_iconst hB dPa_readFrom_2 (v := 0) (by decide) ?_
  refine v_iald hC hr 0 dPa_readFrom_3 rfl (by omega) (by decide) ?_
  refine v_puti hC (klPa hY.2) (F := FPa Y _) (by assumption) 0 dPa_readFrom_4 kfPa_18 (by decide) rfl rfl rfl (fun _ _ => rfl) (fun _ _ => Nat.le_of_ble_eq_true rfl) ?_
  refine v_aload_n hB dPa_readFrom_7 rfl ?_
  refine v_iconst hB dPa_readFrom_8 (v := 0) (by decide) ?_
  refine v_aload_n hB dPa_readFrom_9 rfl ?_
  refine v_iconst hB dPa_readFrom_10 (v := 1) (by decide) ?_
  refine v_iald hC hr 1 dPa_readFrom_11 rfl (by omega) (by decide) ?_
  refine v_iconst hB dPa_readFrom_12 (v := 5) (by decide) ?_
  refine v_mmin hC (kmPa_64).1 dPa_readFrom_13 (Nat.le_of_ble_eq_true rfl) (Nat.le_of_ble_eq_true rfl) ⟨Nat.zero_le _, Nat.zero_le _⟩ ?_
  refine v_mmax hC (kmPa_70).1 dPa_readFrom_16 (Nat.le_of_ble_eq_true rfl) (Nat.le_of_ble_eq_true rfl) ⟨Nat.zero_le _, Nat.zero_le _⟩ ?_
  rw [wi_ne μ 0 (μ.1 r 0) hrp, hu, mm5 u (by omega)]
  refine v_puti hC (klPa hY.2) (F := FPa Y _) (by assumption) 1 dPa_readFrom_19 kfPa_22 (by decide) rfl rfl rfl (fun _ _ => rfl) (fun _ _ => Nat.le_of_ble_eq_true rfl) ?_
  refine v_aload_n hB dPa_readFrom_22 rfl ?_
  refine v_iconst hB dPa_readFrom_23 (v := 0) (by decide) ?_
  refine v_puti hC (klPa hY.2) (F := FPa Y _) (by assumption) 2 dPa_readFrom_24 kfPa_25 (by decide) rfl (by decide) (by decide) (fun _ _ => rfl) (fun _ _ => Nat.le_of_ble_eq_true rfl) ?_
  refine v_iconst hB dPa_readFrom_27 (v := 0) (by decide) ?_
  refine v_istore_n hB dPa_readFrom_28 rfl (by decide) (lv' := [_, _, _, _]) rfl ?_
  exact loop u 0 _ (by omega) (by simp only [wi_at]; simp) rfl

