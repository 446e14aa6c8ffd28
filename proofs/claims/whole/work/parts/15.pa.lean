/-! PAGES. -/
def pgI (p : Nat) : Nat := 19 + p
def bxI (p j : Nat) : Nat := 219 + 6 * p + j
def Pg (Y : Yt) (p : Nat) : Prop := p < 40 ∧ isPa Y (pgI p) ∧ AR Y (pgI p + 40) 6 (bxI p) ∧ ∀ j, j < 6 → isBo Y (bxI p j)
theorem bo_ne_pa {Y : Yt} {i j : Nat} (hi : isBo Y i) (hj : isPa Y j) : i ≠ j := by
  rintro rfl
  have h := (hi.2 (fun _ => 0) (fun _ => 0)).symm.trans (hj.2 (fun _ => 0) (fun _ => 0))
  injection h with h
  injection h with h
  cases h
theorem asg_ne (μ : Mu) {i a : Nat} (x y z u v : Int32) (h : a ≠ i) : (asg μ i x y z u v).1 a = μ.1 a := by
  unfold asg
  rw [wi_ne _ _ _ h, wi_ne _ _ _ h, wi_ne _ _ _ h, wi_ne _ _ _ h, wi_ne _ _ _ h]
theorem bec_ne (μ : Mu) {i a : Nat} (j : Nat) (h : a ≠ i) : (bec μ i j).1 a = μ.1 a := asg_ne μ _ _ _ _ _ h
theorem wid_ne (μ : Mu) {i a : Nat} (j : Nat) (h : a ≠ i) : (wid μ i j).1 a = μ.1 a := by
  unfold wid
  rw [wi_ne _ _ _ h, wi_ne _ _ _ h, wi_ne _ _ _ h, wi_ne _ _ _ h]
theorem shr_ne (μ : Mu) {i a : Nat} (h : a ≠ i) : (shr μ i).1 a = μ.1 a := by
  unfold shr
  rw [wi_ne _ _ _ h, wi_ne _ _ _ h, wi_ne _ _ _ h, wi_ne _ _ _ h]
/-- the memory behind open, add, drop, frame -/
def opn (μ : Mu) (p : Nat) (v : Int32) : Mu := wi (wi (wi μ (pgI p) 0 v) (pgI p) 1 0) (pgI p) 2 1
def addM (μ : Mu) (p u j : Nat) : Mu := wi (wi (bec μ (bxI p u) j) (pgI p) 1 (nI (u + 1))) (pgI p) 2 1
def drpM (μ : Mu) (p u k : Nat) : Mu := wi (bec (wi μ (pgI p) 1 (nI (u - 1))) (bxI p k) (bxI p (u - 1))) (pgI p) 2 1
def frL (p : Nat) (sl : Int32) (i : Nat) : Nat → Nat → Mu → Mu
  | 0, _, μ => μ
  | r + 1, k, μ => frL p sl i r (k + 1) (if (sl >>> (nI k &&& 31)) &&& 1 = 1 then wid μ i (bxI p k) else μ)
def frM (μ : Mu) (p u : Nat) (sl : Int32) (i : Nat) : Mu := frL p sl i u 0 (shr μ i)
set_option maxHeartbeats 4000000 in
set_option maxRecDepth 100000 in
theorem cPa_open {l : Launch} {Y : Yt} (hY : YB Y) {p : Nat} (hp : Pg Y p) (v : Int32) (μ : Mu) : Ct l Y yPa_open wPa_open ({ frames := 0, cells := 0, slots := 0, locals := 0 }) [.ref (ad Y (pgI p)), .int v] μ (PE none (opn μ p v)) := by
  refine ct_of hY.1 (by decide) rfl (Nat.le_of_ble_eq_true rfl) (lv := [some (.ref (ad Y (pgI p))), some (.int v)]) rfl (fun X hC => ?_)
  have hB := hC.B
  obtain ⟨hp40, hpa, har, hbx⟩ := hp
  refine v_aload_n hB dPa_open_0 rfl ?_
  refine v_iload_n hB dPa_open_1 rfl ?_
  refine v_puti hC (klPa hY.2) (F := FPa Y _) (by assumption) 0 dPa_open_2 kfPa_18 (by decide) rfl rfl rfl (fun _ _ => rfl) (fun _ _ => Nat.le_of_ble_eq_true rfl) ?_
  refine v_aload_n hB dPa_open_5 rfl ?_
  refine v_iconst hB dPa_open_6 (v := 0) (by decide) ?_
  refine v_puti hC (klPa hY.2) (F := FPa Y _) (by assumption) 1 dPa_open_7 kfPa_22 (by decide) rfl rfl rfl (fun _ _ => rfl) (fun _ _ => Nat.le_of_ble_eq_true rfl) ?_
  refine v_aload_n hB dPa_open_10 rfl ?_
  refine v_iconst hB dPa_open_11 (v := 1) (by decide) ?_
  refine v_puti hC (klPa hY.2) (F := FPa Y _) (by assumption) 2 dPa_open_12 kfPa_25 (by decide) rfl (by decide) (by decide) (fun _ _ => rfl) (fun _ _ => Nat.le_of_ble_eq_true rfl) ?_
  exact v_vret hC rfl dPa_open_15 ⟨rfl, rfl⟩

set_option maxHeartbeats 4000000 in
set_option maxRecDepth 100000 in
theorem cPa_add {l : Launch} {Y : Yt} (hY : YB Y) {p j u : Nat} (hp : Pg Y p) (hj : isBo Y j) (μ : Mu) (hu : μ.1 (pgI p) 1 = nI u) (h6 : u < 6) : Ct l Y yPa_add wPa_add ({ frames := 1, cells := 0, slots := 0, locals := 21 }) [.ref (ad Y (pgI p)), .ref (ad Y j)] μ (PE none (addM μ p u j)) := by
  refine ct_of hY.1 (by decide) rfl (Nat.le_of_ble_eq_true rfl) (lv := [some (.ref (ad Y (pgI p))), some (.ref (ad Y j))]) rfl (fun X hC => ?_)
  have hB := hC.B
  obtain ⟨hp40, hpa, har, hbx⟩ := hp
  have hb := hbx u h6
  have hne : pgI p ≠ bxI p u := (bo_ne_pa hb hpa).symm
  refine v_aload_n hB dPa_add_0 rfl ?_
  refine v_get hC (klPa hY.2) (F := FPa Y _) (by assumption) 1 dPa_add_1 kfPa_22 (by decide) rfl ?_
  refine v_aload_n hB dPa_add_4 rfl ?_
  refine v_get hC (klPa hY.2) (F := FPa Y _) (by assumption) 3 dPa_add_5 kfPa_11 (by decide) rfl ?_
  refine v_alenR hC (by assumption) dPa_add_8 ?_
  refine v_icmp_ge hB 40 dPa_add_9 (by decide) (fun c => ?_) (fun c => ?_)
  · exact absurd c (by rw [hu]; exact fun q => absurd ((nI_leI (by omega) (by omega)).mp q) (by omega))
  refine v_aload_n hB dPa_add_12 rfl ?_
  refine v_get hC (klPa hY.2) (F := FPa Y _) (by assumption) 3 dPa_add_13 kfPa_11 (by decide) rfl ?_
  refine v_aload_n hB dPa_add_16 rfl ?_
  refine v_get hC (klPa hY.2) (F := FPa Y _) (by assumption) 1 dPa_add_17 kfPa_22 (by decide) rfl ?_
  refine v_aald hC har u dPa_add_20 hu h6 (by decide) ?_
  refine v_aload_n hB dPa_add_21 rfl ?_
  refine v_callV hC tbok kmPa_29 kiBo_become ksBo_become dPa_add_22 (F := FBo Y _) (by assumption) (by rw [hY.2]; rfl) (cBo_become hY hb hj μ) rfl rfl ⟨Nat.le_of_ble_eq_true rfl, Nat.le_of_ble_eq_true rfl⟩ rfl rfl (Nat.le_of_ble_eq_true rfl) ⟨Nat.zero_le _, Nat.zero_le _⟩ (kE rfl ?_)
  refine v_aload_n hB dPa_add_25 rfl ?_
  refine v_dup hB dPa_add_26 rfl ?_
  refine v_get hC (klPa hY.2) (F := FPa Y _) (by assumption) 1 dPa_add_27 kfPa_22 (by decide) rfl ?_
  refine v_iconst hB dPa_add_30 (v := 1) (by decide) ?_
  refine v_iadd hB dPa_add_31 ?_
  refine v_puti hC (klPa hY.2) (F := FPa Y _) (by assumption) 1 dPa_add_32 kfPa_22 (by decide) rfl rfl rfl (fun _ _ => rfl) (fun _ _ => Nat.le_of_ble_eq_true rfl) ?_
  refine v_aload_n hB dPa_add_35 rfl ?_
  refine v_iconst hB dPa_add_36 (v := 1) (by decide) ?_
  refine v_puti hC (klPa hY.2) (F := FPa Y _) (by assumption) 2 dPa_add_37 kfPa_25 (by decide) rfl (by decide) (by decide) (fun _ _ => rfl) (fun _ _ => Nat.le_of_ble_eq_true rfl) ?_
  exact v_vret hC rfl dPa_add_40 ⟨rfl, by rw [addM, bec_ne μ j hne, hu, nI_1]⟩

set_option maxHeartbeats 4000000 in
set_option maxRecDepth 100000 in
theorem cPa_drop {l : Launch} {Y : Yt} (hY : YB Y) {p k u : Nat} (hp : Pg Y p) (μ : Mu) (hu : μ.1 (pgI p) 1 = nI u) (hk : k < u) (h6 : u ≤ 6) : Ct l Y yPa_drop wPa_drop ({ frames := 1, cells := 0, slots := 0, locals := 21 }) [.ref (ad Y (pgI p)), .int (nI k)] μ (PE none (drpM μ p u k)) := by
  refine ct_of hY.1 (by decide) rfl (Nat.le_of_ble_eq_true rfl) (lv := [some (.ref (ad Y (pgI p))), some (.int (nI k))]) rfl (fun X hC => ?_)
  have hB := hC.B
  obtain ⟨hp40, hpa, har, hbx⟩ := hp
  have hb := hbx k (by omega)
  have hb2 := hbx (u - 1) (by omega)
  refine v_iload_n hB dPa_drop_0 rfl ?_
  refine v_if_lt hB 45 dPa_drop_1 (by decide) (fun c => ?_) (fun c => ?_)
  · exact absurd c (nI_pos (by omega))
  refine v_iload_n hB dPa_drop_4 rfl ?_
  refine v_aload_n hB dPa_drop_5 rfl ?_
  refine v_get hC (klPa hY.2) (F := FPa Y _) (by assumption) 1 dPa_drop_6 kfPa_22 (by decide) rfl ?_
  refine v_icmp_ge hB 45 dPa_drop_9 (by decide) (fun c2 => ?_) (fun c2 => ?_)
  · exact absurd c2 (by rw [hu]; exact fun q => absurd ((nI_leI (by omega) (by omega)).mp q) (by omega))
  refine v_aload_n hB dPa_drop_12 rfl ?_
  refine v_dup hB dPa_drop_13 rfl ?_
  refine v_get hC (klPa hY.2) (F := FPa Y _) (by assumption) 1 dPa_drop_14 kfPa_22 (by decide) rfl ?_
  refine v_iconst hB dPa_drop_17 (v := 1) (by decide) ?_
  refine v_isub hB dPa_drop_18 ?_
  have e1 : μ.1 (pgI p) 1 - 1 = nI (u - 1) := by rw [hu]; exact pk_sub (a := u) (b := 1) (by omega)
  rw [e1]
  refine v_puti hC (klPa hY.2) (F := FPa Y _) (by assumption) 1 dPa_drop_19 kfPa_22 (by decide) rfl rfl rfl (fun _ _ => rfl) (fun _ _ => Nat.le_of_ble_eq_true rfl) ?_
  refine v_aload_n hB dPa_drop_22 rfl ?_
  refine v_get hC (klPa hY.2) (F := FPa Y _) (by assumption) 3 dPa_drop_23 kfPa_11 (by decide) rfl ?_
  refine v_iload_n hB dPa_drop_26 rfl ?_
  refine v_aald hC har k dPa_drop_27 rfl (by omega) (by decide) ?_
  refine v_aload_n hB dPa_drop_28 rfl ?_
  refine v_get hC (klPa hY.2) (F := FPa Y _) (by assumption) 3 dPa_drop_29 kfPa_11 (by decide) rfl ?_
  refine v_aload_n hB dPa_drop_32 rfl ?_
  refine v_get hC (klPa hY.2) (F := FPa Y _) (by assumption) 1 dPa_drop_33 kfPa_22 (by decide) rfl ?_
  refine v_aald hC har (u - 1) dPa_drop_36 (by rw [wi_at]; simp) (by omega) (by decide) ?_
  refine v_callV hC tbok kmPa_29 kiBo_become ksBo_become dPa_drop_37 (F := FBo Y _) (by assumption) (by rw [hY.2]; rfl) (cBo_become hY hb hb2 _) rfl rfl ⟨Nat.le_of_ble_eq_true rfl, Nat.le_of_ble_eq_true rfl⟩ rfl rfl (Nat.le_of_ble_eq_true rfl) ⟨Nat.zero_le _, Nat.zero_le _⟩ (kE rfl ?_)
  refine v_aload_n hB dPa_drop_40 rfl ?_
  refine v_iconst hB dPa_drop_41 (v := 1) (by decide) ?_
  refine v_puti hC (klPa hY.2) (F := FPa Y _) (by assumption) 2 dPa_drop_42 kfPa_25 (by decide) rfl (by decide) (by decide) (fun _ _ => rfl) (fun _ _ => Nat.le_of_ble_eq_true rfl) ?_
  exact v_vret hC rfl dPa_drop_45 ⟨rfl, rfl⟩

set_option maxHeartbeats 4000000 in
set_option maxRecDepth 100000 in
theorem cPa_frame {l : Launch} {Y : Yt} (hY : YB Y) {p i u : Nat} (hp : Pg Y p) (hi : isBo Y i) (sl : Int32) (μ : Mu) (hu : μ.1 (pgI p) 1 = nI u) (h6 : u ≤ 6) : Ct l Y yPa_frame wPa_frame ({ frames := 1, cells := 0, slots := 0, locals := 21 }) [.ref (ad Y (pgI p)), .int sl, .ref (ad Y i)] μ (PE none (frM μ p u sl i)) := by
  refine ct_of hY.1 (by decide) rfl (Nat.le_of_ble_eq_true rfl) (lv := [some (.ref (ad Y (pgI p))), some (.int sl), some (.ref (ad Y i)), none]) rfl (fun X hC => ?_)
  have hB := hC.B
  obtain ⟨hp40, hpa, har, hbx⟩ := hp
  have hne : pgI p ≠ i := (bo_ne_pa hi hpa).symm
  have loop : ∀ (r k : Nat) (ν : Mu), k + r = u → ν.1 (pgI p) 1 = nI u → frL p sl i r k ν = frM μ p u sl i → VG X (yA Y) 4 0 0 (VQ X Y (PE none (frM μ p u sl i))) (yI Y (ν)) 6 [some (.ref (ad Y (pgI p))), some (.int sl), some (.ref (ad Y i)), some (.int (nI k))] [] := by
    intro r
    induction r with
    | zero =>
      intro k ν hk hν hf
      refine v_iload_n hB dPa_frame_6 rfl ?_
      refine v_aload_n hB dPa_frame_7 rfl ?_
      refine v_get hC (klPa hY.2) (F := FPa Y _) (by assumption) 1 dPa_frame_8 kfPa_22 (by decide) rfl ?_
      refine v_icmp_ge hB 39 dPa_frame_11 (by decide) (fun c => ?_) (fun c => ?_)
      · exact v_vret hC rfl dPa_frame_39 ⟨rfl, hf⟩
      · exact absurd (by rw [hν]; exact nI_le (by omega) (by omega)) c
    | succ r ih =>
      intro k ν hk hν hf
      have hb := hbx k (by omega)
      refine v_iload_n hB dPa_frame_6 rfl ?_
      refine v_aload_n hB dPa_frame_7 rfl ?_
      refine v_get hC (klPa hY.2) (F := FPa Y _) (by assumption) 1 dPa_frame_8 kfPa_22 (by decide) rfl ?_
      refine v_icmp_ge hB 39 dPa_frame_11 (by decide) (fun c => ?_) (fun c => ?_)
      · exact absurd c (by rw [hν]; exact fun q => absurd ((nI_leI (by omega) (by omega)).mp q) (by omega))
      refine v_iload_n hB dPa_frame_14 rfl ?_
      refine v_iload_n hB dPa_frame_15 rfl ?_
      refine v_ishr hB dPa_frame_16 ?_
      refine v_iconst hB dPa_frame_17 (v := 1) (by decide) ?_
      refine v_iand hB dPa_frame_18 ?_
      refine v_iconst hB dPa_frame_19 (v := 1) (by decide) ?_
      refine v_icmp_ne hB 33 dPa_frame_20 (by decide) (fun b => ?_) (fun b => ?_)
      · refine v_iinc hB dPa_frame_33 rfl (y := _) rfl rfl (by decide) (lv' := [_, _, _, _]) rfl ?_
        refine v_goto hB 6 dPa_frame_36 (by decide) ?_
        exact v_eq (by rw [show nI k + Int32.ofInt 1 = nI (k + 1) from nI_1 k]) (ih (k + 1) ν (by omega) hν (by rw [← hf, frL, if_neg b]))
      · refine v_aload_n hB dPa_frame_23 rfl ?_
        refine v_aload_n hB dPa_frame_24 rfl ?_
        refine v_get hC (klPa hY.2) (F := FPa Y _) (by assumption) 3 dPa_frame_25 kfPa_11 (by decide) rfl ?_
        refine v_iload_n hB dPa_frame_28 rfl ?_
        refine v_aald hC har k dPa_frame_29 rfl (by omega) (by decide) ?_
        refine v_callV hC tbok kmPa_36 kiBo_widen ksBo_widen dPa_frame_30 (F := FBo Y _) (by assumption) (by rw [hY.2]; rfl) (cBo_widen hY hi hb ν) rfl rfl ⟨Nat.le_of_ble_eq_true rfl, Nat.le_of_ble_eq_true rfl⟩ rfl rfl (Nat.le_of_ble_eq_true rfl) ⟨Nat.zero_le _, Nat.zero_le _⟩ (kE rfl ?_)
        refine v_iinc hB dPa_frame_33 rfl (y := _) rfl rfl (by decide) (lv' := [_, _, _, _]) rfl ?_
        refine v_goto hB 6 dPa_frame_36 (by decide) ?_
        exact v_eq (by rw [show nI k + Int32.ofInt 1 = nI (k + 1) from nI_1 k]) (ih (k + 1) _ (by omega) (by rw [wid_ne ν _ hne]; exact hν) (by rw [← hf, frL, if_pos b]))
  refine v_aload_n hB dPa_frame_0 rfl ?_
  refine v_callV hC tbok kmPa_33 kiBo_shrinkToNothing ksBo_shrinkToNothing dPa_frame_1 (F := FBo Y _) (by assumption) (by rw [hY.2]; rfl) (cBo_shrinkToNothing hY hi μ) rfl rfl ⟨Nat.le_of_ble_eq_true rfl, Nat.le_of_ble_eq_true rfl⟩ rfl rfl (Nat.le_of_ble_eq_true rfl) ⟨Nat.zero_le _, Nat.zero_le _⟩ (kE rfl ?_)
  refine v_iconst hB dPa_frame_4 (v := 0) (by decide) ?_
  refine v_istore_n hB dPa_frame_5 rfl (by decide) (lv' := [_, _, _, _]) rfl ?_
  exact loop u 0 _ (by omega) (by rw [shr_ne μ hne]; exact hu) rfl

