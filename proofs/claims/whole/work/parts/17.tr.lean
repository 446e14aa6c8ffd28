/-! THE TREE. What a method asks of the memory, for an end K, stands in its ..W: the method itself, with what is free in it. -/
def plI (r : Nat) : Nat := 99 + r
def lgI (r : Nat) : Nat := 139 + r
def fdI (h : Nat) : Nat := 179 + h
def YW (Y : Yt) : Prop := isFa Y 0 ∧ isDi Y 1 ∧ isTr Y 2 ∧ isSe Y 3 ∧ isBo Y 4 ∧ isBo Y 5 ∧ isBo Y 6 ∧ isBo Y 7 ∧ isBo Y 8 ∧ AR Y 9 40 pgI ∧ AI Y 10 4 ∧ AI Y 11 4 ∧ AR Y 12 40 plI ∧ AR Y 13 40 lgI ∧ AI Y 14 40 ∧ AR Y 15 40 fdI ∧ AI Y 16 40 ∧ AL Y 17 40 ∧ AI Y 18 40 ∧ (∀ p, p < 40 → Pg Y p) ∧ (∀ r, r < 40 → AI Y (plI r) 27) ∧ (∀ r, r < 40 → AI Y (lgI r) 27) ∧ ∀ h, h < 40 → isBo Y (fdI h)
theorem pg_5 (p : Nat) : pgI p ≠ 5 := by unfold pgI; omega
theorem pg_6 (p : Nat) : pgI p ≠ 6 := by unfold pgI; omega
theorem pg_inj {p q : Nat} (h : p ≠ q) : pgI p ≠ pgI q := by unfold pgI; omega
theorem bx_5 (p j : Nat) : bxI p j ≠ 5 := by unfold bxI; omega
theorem bx_pg {p j q : Nat} (h : q < 40) : bxI p j ≠ pgI q := by unfold bxI pgI; omega
theorem frL_ne (p : Nat) (sl : Int32) (i : Nat) {a : Nat} (h : a ≠ i) : ∀ (r k : Nat) (μ : Mu), (frL p sl i r k μ).1 a = μ.1 a
  | 0, _, _ => rfl
  | r + 1, k, μ => by
    rw [frL, frL_ne p sl i h r (k + 1)]
    split
    · exact wid_ne μ _ h
    · rfl
theorem frM_ne (μ : Mu) (p u : Nat) (sl : Int32) {i a : Nat} (h : a ≠ i) : (frM μ p u sl i).1 a = μ.1 a := by
  unfold frM
  rw [frL_ne p sl i h, shr_ne μ h]
def whM (μ : Mu) (a b : Int32) : Mu := wi (wi (wi μ 2 0 a) 2 1 b) 2 2 1
def tfM (μ : Mu) (p s c u : Nat) : Mu := if sameB ((frM (wi μ 5 4 (nI c)) c u (-1) 5).1 (bxI p s)) ((frM (wi μ 5 4 (nI c)) c u (-1) 5).1 5) = true then frM (wi μ 5 4 (nI c)) c u (-1) 5 else wi (bec (frM (wi μ 5 4 (nI c)) c u (-1) 5) (bxI p s) 5) (pgI p) 2 1
def tfW (μ : Mu) (p s : Nat) (K : Mu → Prop) : Prop := ∃ c u : Nat, s < 6 ∧ c < 40 ∧ u ≤ 6 ∧ μ.1 (bxI p s) 4 = nI c ∧ μ.1 (pgI c) 1 = nI u ∧ K (tfM μ p s c u)
def hgM (μ : Mu) (p q u v : Nat) : Mu := addM (frM (wi μ 5 4 (nI q)) q u (-1) 5) p v 5
def hgW (μ : Mu) (p q : Nat) (K : Mu → Prop) : Prop := ∃ u v : Nat, q < 40 ∧ u ≤ 6 ∧ v < 6 ∧ μ.1 (pgI q) 1 = nI u ∧ μ.1 (pgI p) 1 = nI v ∧ K (hgM μ p q u v)
def mgL (f e : Nat) : Nat → Nat → Nat → Mu → Mu
  | 0, _, _, μ => μ
  | r + 1, k, u, μ => mgL f e r (k + 1) (u + 1) (addM μ f u (bxI e k))
def mgM (μ : Mu) (p f e u v n g : Nat) : Mu := drpM (opn (mgL f e v 0 u μ) e 0) p n g
/-- f is filled, e emptied, both below p, at its places k and g -/
def mgW (μ : Mu) (p k g : Nat) (K : Mu → Prop) : Prop := ∃ f e u v n : Nat, f < 40 ∧ e < 40 ∧ f ≠ e ∧ p ≠ f ∧ p ≠ e ∧ k < 6 ∧ g < n ∧ n ≤ 6 ∧ u + v ≤ 6 ∧ k ≠ g ∧ μ.1 (bxI p k) 4 = nI f ∧ μ.1 (bxI p g) 4 = nI e ∧ μ.1 (pgI f) 1 = nI u ∧ μ.1 (pgI e) 1 = nI v ∧ μ.1 (pgI p) 1 = nI n ∧ K (mgM μ p f e u v n g)
/-- k slots are left, f has u, t has v -/
def mvW (f : Nat) (sl : Int32) (t : Nat) (K : Mu → Prop) : Nat → Nat → Nat → Mu → Prop
  | 0, _, _, μ => K μ
  | k + 1, u, v, μ => if (sl >>> (nI k &&& 31)) &&& 1 = 1 then k < u ∧ u ≤ 6 ∧ v < 6 ∧ mvW f sl t K k (u - 1) (v + 1) (drpM (addM μ t v (bxI f k)) f u k) else mvW f sl t K k u v μ
set_option maxHeartbeats 4000000 in
set_option maxRecDepth 100000 in
theorem cTr_at {l : Launch} {Y : Yt} (hY : YB Y) (hW : YW Y) {q : Nat} (hq : q < 40) (μ : Mu) : Ct l Y yTr_at wTr_at ({ frames := 0, cells := 0, slots := 0, locals := 0 }) [.ref (ad Y 2), .int (nI q)] μ (PE (some (.ref (ad Y (pgI q)))) μ) := by
  refine ct_of hY.1 (by decide) rfl (Nat.le_of_ble_eq_true rfl) (lv := [some (.ref (ad Y 2)), some (.int (nI q))]) rfl (fun X hC => ?_)
  have hB := hC.B
  obtain ⟨hFa, hDi, hTr, hSe, h4, h5, h6b, h7, h8, hpages, htrail, hturns, hplaces, hlog, hlp, hfound, hwait, hsq, hlk, hPg, hrow, hlrow, hfb⟩ := id hW
  refine v_aload_n hB dTr_at_0 rfl ?_
  refine v_get hC (klTr hY.2) (F := FTr Y _) (by assumption) 3 dTr_at_1 kfTr_11 (by decide) rfl ?_
  refine v_iload_n hB dTr_at_4 rfl ?_
  refine v_if_le hB 18 dTr_at_5 (by decide) (fun c => ?_) (fun c => ?_)
  · have h0 : q = 0 := by
      rcases Nat.eq_zero_or_pos q with h | h
      · exact h
      · exact absurd c (nI_nle h (by omega))
    subst h0
    refine v_iconst hB dTr_at_18 (v := 0) (by decide) ?_
    refine v_aald hC hpages 0 dTr_at_19 rfl (by omega) (by decide) ?_
    exact v_aret hC rfl dTr_at_20 ⟨rfl, rfl⟩
  refine v_iload_n hB dTr_at_8 rfl ?_
  refine v_bipush hB dTr_at_9 (v := 40) (by decide) ?_
  refine v_icmp_ge hB 18 dTr_at_11 (by decide) (fun c2 => ?_) (fun c2 => ?_)
  · exact absurd c2 (by rw [show (40 : Int32) = nI 40 from rfl]; exact (fun q => absurd ((nI_leI (by omega) (by omega)).mp q) (by omega)))
  refine v_iload_n hB dTr_at_14 rfl ?_
  refine v_goto hB 19 dTr_at_15 (by decide) ?_
  refine v_aald hC hpages q dTr_at_19 rfl (by omega) (by decide) ?_
  exact v_aret hC rfl dTr_at_20 ⟨rfl, rfl⟩

set_option maxHeartbeats 4000000 in
set_option maxRecDepth 100000 in
theorem cTr_writeHeader {l : Launch} {Y : Yt} (hY : YB Y) (hW : YW Y) (a b : Int32) (μ : Mu) : Ct l Y yTr_writeHeader wTr_writeHeader ({ frames := 0, cells := 0, slots := 0, locals := 0 }) [.ref (ad Y 2), .int a, .int b] μ (PE none (whM μ a b)) := by
  refine ct_of hY.1 (by decide) rfl (Nat.le_of_ble_eq_true rfl) (lv := [some (.ref (ad Y 2)), some (.int a), some (.int b)]) rfl (fun X hC => ?_)
  have hB := hC.B
  obtain ⟨hFa, hDi, hTr, hSe, h4, h5, h6b, h7, h8, hpages, htrail, hturns, hplaces, hlog, hlp, hfound, hwait, hsq, hlk, hPg, hrow, hlrow, hfb⟩ := id hW
  refine v_aload_n hB dTr_writeHeader_0 rfl ?_
  refine v_iload_n hB dTr_writeHeader_1 rfl ?_
  refine v_puti hC (klTr hY.2) (F := FTr Y _) (by assumption) 0 dTr_writeHeader_2 kfTr_39 (by decide) rfl rfl rfl (fun _ _ => rfl) (fun _ _ => Nat.le_of_ble_eq_true rfl) ?_
  refine v_aload_n hB dTr_writeHeader_5 rfl ?_
  refine v_iload_n hB dTr_writeHeader_6 rfl ?_
  refine v_puti hC (klTr hY.2) (F := FTr Y _) (by assumption) 1 dTr_writeHeader_7 kfTr_54 (by decide) rfl rfl rfl (fun _ _ => rfl) (fun _ _ => Nat.le_of_ble_eq_true rfl) ?_
  refine v_aload_n hB dTr_writeHeader_10 rfl ?_
  refine v_iconst hB dTr_writeHeader_11 (v := 1) (by decide) ?_
  refine v_puti hC (klTr hY.2) (F := FTr Y _) (by assumption) 2 dTr_writeHeader_12 kfTr_84 (by decide) rfl (by decide) (by decide) (fun _ _ => rfl) (fun _ _ => Nat.le_of_ble_eq_true rfl) ?_
  exact v_vret hC rfl dTr_writeHeader_15 ⟨rfl, rfl⟩

theorem low4 : ∀ v, v < 5 → 0 < v → mxI 0 (mnI (nI v - 1) 3) = nI (v - 1) := by decide +kernel
set_option maxHeartbeats 4000000 in
set_option maxRecDepth 100000 in
theorem cTr_lowestDepth {l : Launch} {Y : Yt} (hY : YB Y) (hW : YW Y) {q v : Nat} (μ : Mu) (hq : q < 40) (hr : μ.1 2 0 = nI q) (hv : μ.1 (pgI q) 0 = nI v) (h0 : 0 < v) (hv4 : v ≤ 4) : Ct l Y yTr_lowestDepth wTr_lowestDepth ({ frames := 1, cells := 0, slots := 0, locals := 30 }) [.ref (ad Y 2)] μ (PE (some (.int (nI (v - 1)))) μ) := by
  refine ct_of hY.1 (by decide) rfl (Nat.le_of_ble_eq_true rfl) (lv := [some (.ref (ad Y 2))]) rfl (fun X hC => ?_)
  have hB := hC.B
  obtain ⟨hFa, hDi, hTr, hSe, h4, h5, h6b, h7, h8, hpages, htrail, hturns, hplaces, hlog, hlp, hfound, hwait, hsq, hlk, hPg, hrow, hlrow, hfb⟩ := id hW
  obtain ⟨-, hpa, har, hbx⟩ := hPg q hq
  refine v_iconst hB dTr_lowestDepth_0 (v := 0) (by decide) ?_
  refine v_aload_n hB dTr_lowestDepth_1 rfl ?_
  refine v_aload_n hB dTr_lowestDepth_2 rfl ?_
  refine v_get hC (klTr hY.2) (F := FTr Y _) (by assumption) 0 dTr_lowestDepth_3 kfTr_39 (by decide) rfl ?_
  rw [hr]
  refine v_callV hC tbok kmTr_46 kiTr_at ksTr_at dTr_lowestDepth_6 (F := FTr Y _) (by assumption) (by rw [hY.2]; rfl) (cTr_at hY hW hq μ) rfl rfl ⟨Nat.le_of_ble_eq_true rfl, Nat.le_of_ble_eq_true rfl⟩ rfl rfl (Nat.le_of_ble_eq_true rfl) ⟨Nat.zero_le _, Nat.zero_le _⟩ (kE rfl ?_)
  refine v_get hC (klPa hY.2) (F := FPa Y _) (by assumption) 0 dTr_lowestDepth_9 kfTr_35 (by decide) rfl ?_
  refine v_iconst hB dTr_lowestDepth_12 (v := 1) (by decide) ?_
  refine v_isub hB dTr_lowestDepth_13 ?_
  refine v_iconst hB dTr_lowestDepth_14 (v := 3) (by decide) ?_
  refine v_mmin hC (kmTr_110).1 dTr_lowestDepth_15 (Nat.le_of_ble_eq_true rfl) (Nat.le_of_ble_eq_true rfl) ⟨Nat.zero_le _, Nat.zero_le _⟩ ?_
  refine v_mmax hC (kmTr_116).1 dTr_lowestDepth_18 (Nat.le_of_ble_eq_true rfl) (Nat.le_of_ble_eq_true rfl) ⟨Nat.zero_le _, Nat.zero_le _⟩ ?_
  exact v_iret hC rfl dTr_lowestDepth_21 ⟨by rw [hv, low4 v (by omega) h0], rfl⟩

set_option maxHeartbeats 4000000 in
set_option maxRecDepth 100000 in
theorem cTr_tellFrame {l : Launch} {Y : Yt} (hY : YB Y) (hW : YW Y) {p s : Nat} (hp : p < 40) {μ : Mu} {K : Mu → Prop} (h : tfW μ p s K) : Ct l Y yTr_tellFrame wTr_tellFrame ({ frames := 2, cells := 0, slots := 0, locals := 44 }) [.ref (ad Y 2), .ref (ad Y (pgI p)), .int (nI s)] μ (PV K) := by
  refine ct_of hY.1 (by decide) rfl (Nat.le_of_ble_eq_true rfl) (lv := [some (.ref (ad Y 2)), some (.ref (ad Y (pgI p))), some (.int (nI s)), none]) rfl (fun X hC => ?_)
  have hB := hC.B
  obtain ⟨hFa, hDi, hTr, hSe, h4, h5, h6b, h7, h8, hpages, htrail, hturns, hplaces, hlog, hlp, hfound, hwait, hsq, hlk, hPg, hrow, hlrow, hfb⟩ := id hW
  obtain ⟨-, hpa, har, hbx⟩ := hPg p hp
  obtain ⟨c, u, hs, hc, hu6, hcb, hu, hK⟩ := h
  have hbs := hbx s hs
  refine v_aload_n hB dTr_tellFrame_0 rfl ?_
  refine v_get hC (klPa hY.2) (F := FPa Y _) (by assumption) 3 dTr_tellFrame_1 kfTr_122 (by decide) rfl ?_
  refine v_iload_n hB dTr_tellFrame_4 rfl ?_
  refine v_aald hC har s dTr_tellFrame_5 rfl (by omega) (by decide) ?_
  refine v_astore_n hB dTr_tellFrame_6 rfl (by decide) (lv' := [_, _, _, _]) rfl ?_
  refine v_aload_n hB dTr_tellFrame_7 rfl ?_
  refine v_get hC (klTr hY.2) (F := FTr Y _) (by assumption) 6 dTr_tellFrame_8 kfTr_27 (by decide) rfl ?_
  refine v_aload_n hB dTr_tellFrame_11 rfl ?_
  refine v_get hC (klBo hY.2) (F := FBo Y _) (by assumption) 4 dTr_tellFrame_12 kfTr_126 (by decide) rfl ?_
  rw [hcb]
  refine v_puti hC (klBo hY.2) (F := FBo Y _) (by assumption) 4 dTr_tellFrame_15 kfTr_126 (by decide) rfl rfl rfl (fun _ _ => rfl) (fun _ _ => Nat.le_of_ble_eq_true rfl) ?_
  refine v_aload_n hB dTr_tellFrame_18 rfl ?_
  refine v_aload_n hB dTr_tellFrame_19 rfl ?_
  refine v_get hC (klBo hY.2) (F := FBo Y _) (by assumption) 4 dTr_tellFrame_20 kfTr_126 (by decide) rfl ?_
  have e1 : (wi μ 5 4 (nI c)).1 (bxI p s) 4 = nI c := by rw [wi_at]; split; rfl; exact hcb
  rw [e1]
  refine v_callV hC tbok kmTr_46 kiTr_at ksTr_at dTr_tellFrame_23 (F := FTr Y _) (by assumption) (by rw [hY.2]; rfl) (cTr_at hY hW hc _) rfl rfl ⟨Nat.le_of_ble_eq_true rfl, Nat.le_of_ble_eq_true rfl⟩ rfl rfl (Nat.le_of_ble_eq_true rfl) ⟨Nat.zero_le _, Nat.zero_le _⟩ (kE rfl ?_)
  refine v_iconst hB dTr_tellFrame_26 (v := -1) (by decide) ?_
  refine v_aload_n hB dTr_tellFrame_27 rfl ?_
  refine v_get hC (klTr hY.2) (F := FTr Y _) (by assumption) 6 dTr_tellFrame_28 kfTr_27 (by decide) rfl ?_
  refine v_callV hC tbok kmTr_168 kiPa_frame ksPa_frame dTr_tellFrame_31 (F := FPa Y _) (hPg c hc).2.1 (by rw [hY.2]; rfl) (cPa_frame hY (hPg c hc) h5 (-1) _ (by rw [wi_ne _ _ _ (pg_5 c)]; exact hu) hu6) rfl rfl ⟨Nat.le_of_ble_eq_true rfl, Nat.le_of_ble_eq_true rfl⟩ rfl rfl (Nat.le_of_ble_eq_true rfl) ⟨Nat.zero_le _, Nat.zero_le _⟩ (kE rfl ?_)
  refine v_aload_n hB dTr_tellFrame_34 rfl ?_
  refine v_aload_n hB dTr_tellFrame_35 rfl ?_
  refine v_get hC (klTr hY.2) (F := FTr Y _) (by assumption) 6 dTr_tellFrame_36 kfTr_27 (by decide) rfl ?_
  refine v_callV hC tbok kmTr_132 kiBo_isSame ksBo_isSame dTr_tellFrame_39 (F := FBo Y _) (by assumption) (by rw [hY.2]; rfl) (cBo_isSame hY hbs h5 _) rfl rfl ⟨Nat.le_of_ble_eq_true rfl, Nat.le_of_ble_eq_true rfl⟩ rfl rfl (Nat.le_of_ble_eq_true rfl) ⟨Nat.zero_le _, Nat.zero_le _⟩ (kE rfl ?_)
  refine v_if_ne hB 58 dTr_tellFrame_42 (by decide) (fun c1 => ?_) (fun c1 => ?_)
  · exact v_vret hC rfl dTr_tellFrame_58 ⟨rfl, by rw [tfM, if_pos (bI_n.mp c1)] at hK; exact hK⟩
  refine v_aload_n hB dTr_tellFrame_45 rfl ?_
  refine v_aload_n hB dTr_tellFrame_46 rfl ?_
  refine v_get hC (klTr hY.2) (F := FTr Y _) (by assumption) 6 dTr_tellFrame_47 kfTr_27 (by decide) rfl ?_
  refine v_callV hC tbok kmTr_171 kiBo_become ksBo_become dTr_tellFrame_50 (F := FBo Y _) (by assumption) (by rw [hY.2]; rfl) (cBo_become hY hbs h5 _) rfl rfl ⟨Nat.le_of_ble_eq_true rfl, Nat.le_of_ble_eq_true rfl⟩ rfl rfl (Nat.le_of_ble_eq_true rfl) ⟨Nat.zero_le _, Nat.zero_le _⟩ (kE rfl ?_)
  refine v_aload_n hB dTr_tellFrame_53 rfl ?_
  refine v_iconst hB dTr_tellFrame_54 (v := 1) (by decide) ?_
  refine v_puti hC (klPa hY.2) (F := FPa Y _) (by assumption) 2 dTr_tellFrame_55 kfTr_88 (by decide) rfl (by decide) (by decide) (fun _ _ => rfl) (fun _ _ => Nat.le_of_ble_eq_true rfl) ?_
  exact v_vret hC rfl dTr_tellFrame_58 ⟨rfl, by rw [tfM, if_neg (by rw [bI_0.mp c1]; decide)] at hK; exact hK⟩

set_option maxHeartbeats 4000000 in
set_option maxRecDepth 100000 in
theorem cTr_hang {l : Launch} {Y : Yt} (hY : YB Y) (hW : YW Y) {p q : Nat} (hp : p < 40) {μ : Mu} {K : Mu → Prop} (h : hgW μ p q K) : Ct l Y yTr_hang wTr_hang ({ frames := 2, cells := 0, slots := 0, locals := 44 }) [.ref (ad Y 2), .ref (ad Y (pgI p)), .int (nI q)] μ (PV K) := by
  refine ct_of hY.1 (by decide) rfl (Nat.le_of_ble_eq_true rfl) (lv := [some (.ref (ad Y 2)), some (.ref (ad Y (pgI p))), some (.int (nI q))]) rfl (fun X hC => ?_)
  have hB := hC.B
  obtain ⟨hFa, hDi, hTr, hSe, h4, h5, h6b, h7, h8, hpages, htrail, hturns, hplaces, hlog, hlp, hfound, hwait, hsq, hlk, hPg, hrow, hlrow, hfb⟩ := id hW
  obtain ⟨u, v, hq, hu6, hv6, hu, hv, hK⟩ := h
  have hpP := hPg p hp
  have hpa := hpP.2.1
  refine v_aload_n hB dTr_hang_0 rfl ?_
  refine v_get hC (klTr hY.2) (F := FTr Y _) (by assumption) 6 dTr_hang_1 kfTr_27 (by decide) rfl ?_
  refine v_iload_n hB dTr_hang_4 rfl ?_
  refine v_puti hC (klBo hY.2) (F := FBo Y _) (by assumption) 4 dTr_hang_5 kfTr_126 (by decide) rfl rfl rfl (fun _ _ => rfl) (fun _ _ => Nat.le_of_ble_eq_true rfl) ?_
  refine v_aload_n hB dTr_hang_8 rfl ?_
  refine v_iload_n hB dTr_hang_9 rfl ?_
  refine v_callV hC tbok kmTr_46 kiTr_at ksTr_at dTr_hang_10 (F := FTr Y _) (by assumption) (by rw [hY.2]; rfl) (cTr_at hY hW hq _) rfl rfl ⟨Nat.le_of_ble_eq_true rfl, Nat.le_of_ble_eq_true rfl⟩ rfl rfl (Nat.le_of_ble_eq_true rfl) ⟨Nat.zero_le _, Nat.zero_le _⟩ (kE rfl ?_)
  refine v_iconst hB dTr_hang_13 (v := -1) (by decide) ?_
  refine v_aload_n hB dTr_hang_14 rfl ?_
  refine v_get hC (klTr hY.2) (F := FTr Y _) (by assumption) 6 dTr_hang_15 kfTr_27 (by decide) rfl ?_
  refine v_callV hC tbok kmTr_168 kiPa_frame ksPa_frame dTr_hang_18 (F := FPa Y _) (hPg q hq).2.1 (by rw [hY.2]; rfl) (cPa_frame hY (hPg q hq) h5 (-1) _ (by rw [wi_ne _ _ _ (pg_5 q)]; exact hu) hu6) rfl rfl ⟨Nat.le_of_ble_eq_true rfl, Nat.le_of_ble_eq_true rfl⟩ rfl rfl (Nat.le_of_ble_eq_true rfl) ⟨Nat.zero_le _, Nat.zero_le _⟩ (kE rfl ?_)
  refine v_aload_n hB dTr_hang_21 rfl ?_
  refine v_aload_n hB dTr_hang_22 rfl ?_
  refine v_get hC (klTr hY.2) (F := FTr Y _) (by assumption) 6 dTr_hang_23 kfTr_27 (by decide) rfl ?_
  refine v_callV hC tbok kmTr_50 kiPa_add ksPa_add dTr_hang_26 (F := FPa Y _) (by assumption) (by rw [hY.2]; rfl) (cPa_add hY hpP h5 _ (by rw [frM_ne _ _ _ _ (pg_5 p), wi_ne _ _ _ (pg_5 p)]; exact hv) hv6) rfl rfl ⟨Nat.le_of_ble_eq_true rfl, Nat.le_of_ble_eq_true rfl⟩ rfl rfl (Nat.le_of_ble_eq_true rfl) ⟨Nat.zero_le _, Nat.zero_le _⟩ (kE rfl ?_)
  exact v_vret hC rfl dTr_hang_29 ⟨rfl, hK⟩

set_option maxHeartbeats 4000000 in
set_option maxRecDepth 100000 in
theorem cTr_merge {l : Launch} {Y : Yt} (hY : YB Y) (hW : YW Y) {p k g : Nat} (hp : p < 40) {μ : Mu} {K : Mu → Prop} (h : mgW μ p k g K) : Ct l Y yTr_merge wTr_merge ({ frames := 2, cells := 0, slots := 0, locals := 42 }) [.ref (ad Y 2), .ref (ad Y (pgI p)), .int (nI k), .int (nI g)] μ (PV K) := by
  refine ct_of hY.1 (by decide) rfl (Nat.le_of_ble_eq_true rfl) (lv := [some (.ref (ad Y 2)), some (.ref (ad Y (pgI p))), some (.int (nI k)), some (.int (nI g)), none, none, none]) rfl (fun X hC => ?_)
  have hB := hC.B
  obtain ⟨hFa, hDi, hTr, hSe, h4, h5, h6b, h7, h8, hpages, htrail, hturns, hplaces, hlog, hlp, hfound, hwait, hsq, hlk, hPg, hrow, hlrow, hfb⟩ := id hW
  obtain ⟨f, e, u, v, n, hf, he, hfe, hpf, hpe, hk, hg, hn, huv, hkg, hbf, hbe, hu, hv, hnn, hK⟩ := h
  have hpP := hPg p hp
  obtain ⟨-, hpa, har, hbx⟩ := hPg p hp
  have hfP := hPg f hf
  have heP := hPg e he
  obtain ⟨-, hea, hear, hebx⟩ := hPg e he
  have hbk := hbx k hk
  have hbg := hbx g (by omega)
  refine v_iload_n hB dTr_merge_0 rfl ?_
  refine v_iload_n hB dTr_merge_1 rfl ?_
  refine v_icmp_ne hB 6 dTr_merge_2 (by decide) (fun c => ?_) (fun c => ?_)
  rotate_left
  · exact absurd ((nI_eq (by omega) (by omega)).mp c) hkg
  refine v_aload_n hB dTr_merge_6 rfl ?_
  refine v_aload_n hB dTr_merge_7 rfl ?_
  refine v_get hC (klPa hY.2) (F := FPa Y _) (by assumption) 3 dTr_merge_8 kfTr_122 (by decide) rfl ?_
  refine v_iload_n hB dTr_merge_11 rfl ?_
  refine v_aald hC har k dTr_merge_12 rfl (by omega) (by decide) ?_
  refine v_get hC (klBo hY.2) (F := FBo Y _) (by assumption) 4 dTr_merge_13 kfTr_126 (by decide) rfl ?_
  rw [hbf]
  refine v_callV hC tbok kmTr_46 kiTr_at ksTr_at dTr_merge_16 (F := FTr Y _) (by assumption) (by rw [hY.2]; rfl) (cTr_at hY hW hf μ) rfl rfl ⟨Nat.le_of_ble_eq_true rfl, Nat.le_of_ble_eq_true rfl⟩ rfl rfl (Nat.le_of_ble_eq_true rfl) ⟨Nat.zero_le _, Nat.zero_le _⟩ (kE rfl ?_)
  refine v_astore hB dTr_merge_19 rfl (by decide) (lv' := [_, _, _, _, _, _, _]) rfl ?_
  refine v_aload_n hB dTr_merge_21 rfl ?_
  refine v_aload_n hB dTr_merge_22 rfl ?_
  refine v_get hC (klPa hY.2) (F := FPa Y _) (by assumption) 3 dTr_merge_23 kfTr_122 (by decide) rfl ?_
  refine v_iload_n hB dTr_merge_26 rfl ?_
  refine v_aald hC har g dTr_merge_27 rfl (by omega) (by decide) ?_
  refine v_get hC (klBo hY.2) (F := FBo Y _) (by assumption) 4 dTr_merge_28 kfTr_126 (by decide) rfl ?_
  rw [hbe]
  refine v_callV hC tbok kmTr_46 kiTr_at ksTr_at dTr_merge_31 (F := FTr Y _) (by assumption) (by rw [hY.2]; rfl) (cTr_at hY hW he μ) rfl rfl ⟨Nat.le_of_ble_eq_true rfl, Nat.le_of_ble_eq_true rfl⟩ rfl rfl (Nat.le_of_ble_eq_true rfl) ⟨Nat.zero_le _, Nat.zero_le _⟩ (kE rfl ?_)
  refine v_astore hB dTr_merge_34 rfl (by decide) (lv' := [_, _, _, _, _, _, _]) rfl ?_
  refine v_iconst hB dTr_merge_36 (v := 0) (by decide) ?_
  refine v_istore hB dTr_merge_37 rfl (by decide) (lv' := [_, _, _, _, _, _, _]) rfl ?_
  have loop : ∀ (r i w : Nat) (ν : Mu), i + r = v → w + r = u + v → ν.1 (pgI f) 1 = nI w → ν.1 (pgI e) 1 = nI v → ν.1 (pgI p) 1 = nI n → mgL f e r i w ν = mgL f e v 0 u μ → VG X (yA Y) 7 0 0 (VQ X Y (PV K)) (yI Y (ν)) 39 [some (.ref (ad Y 2)), some (.ref (ad Y (pgI p))), some (.int (nI k)), some (.int (nI g)), some (.ref (ad Y (pgI f))), some (.ref (ad Y (pgI e))), some (.int (nI i))] [] := by
    intro r
    induction r with
    | zero =>
      intro i w ν hi hw hfu heu hpu hfin
      have hfin : ν = mgL f e v 0 u μ := hfin
      refine v_iload hB dTr_merge_39 rfl ?_
      refine v_aload hB dTr_merge_41 rfl ?_
      refine v_get hC (klPa hY.2) (F := FPa Y _) (by assumption) 1 dTr_merge_43 kfTr_129 (by decide) rfl ?_
      refine v_icmp_ge hB 68 dTr_merge_46 (by decide) (fun c1 => ?_) (fun c1 => ?_)
      · refine v_aload hB dTr_merge_68 rfl ?_
        refine v_iconst hB dTr_merge_70 (v := 0) (by decide) ?_
        refine v_callV hC tbok kmTr_104 kiPa_open ksPa_open dTr_merge_71 (F := FPa Y _) (by assumption) (by rw [hY.2]; rfl) (cPa_open hY heP 0 ν) rfl rfl ⟨Nat.le_of_ble_eq_true rfl, Nat.le_of_ble_eq_true rfl⟩ rfl rfl (Nat.le_of_ble_eq_true rfl) ⟨Nat.zero_le _, Nat.zero_le _⟩ (kE rfl ?_)
        refine v_aload_n hB dTr_merge_74 rfl ?_
        refine v_iload_n hB dTr_merge_75 rfl ?_
        refine v_callV hC tbok kmTr_73 kiPa_drop ksPa_drop dTr_merge_76 (F := FPa Y _) (by assumption) (by rw [hY.2]; rfl) (cPa_drop hY hpP _ (by unfold opn; rw [wi_ne _ _ _ (pg_inj hpe), wi_ne _ _ _ (pg_inj hpe), wi_ne _ _ _ (pg_inj hpe)]; exact hpu) hg hn) rfl rfl ⟨Nat.le_of_ble_eq_true rfl, Nat.le_of_ble_eq_true rfl⟩ rfl rfl (Nat.le_of_ble_eq_true rfl) ⟨Nat.zero_le _, Nat.zero_le _⟩ (kE rfl ?_)
        exact v_vret hC rfl dTr_merge_79 ⟨rfl, by rw [hfin]; exact hK⟩
      · exact absurd (by rw [heu]; exact nI_le (by omega) (by omega)) c1
    | succ r ih =>
      intro i w ν hi hw hfu heu hpu hfin
      have hbi := hebx i (by omega)
      refine v_iload hB dTr_merge_39 rfl ?_
      refine v_aload hB dTr_merge_41 rfl ?_
      refine v_get hC (klPa hY.2) (F := FPa Y _) (by assumption) 1 dTr_merge_43 kfTr_129 (by decide) rfl ?_
      refine v_icmp_ge hB 68 dTr_merge_46 (by decide) (fun c1 => ?_) (fun c1 => ?_)
      · exact absurd c1 (by rw [heu]; exact (fun q => absurd ((nI_leI (by omega) (by omega)).mp q) (by omega)))
      refine v_aload hB dTr_merge_49 rfl ?_
      refine v_aload hB dTr_merge_51 rfl ?_
      refine v_get hC (klPa hY.2) (F := FPa Y _) (by assumption) 3 dTr_merge_53 kfTr_122 (by decide) rfl ?_
      refine v_iload hB dTr_merge_56 rfl ?_
      refine v_aald hC hear i dTr_merge_58 rfl (by omega) (by decide) ?_
      refine v_callV hC tbok kmTr_50 kiPa_add ksPa_add dTr_merge_59 (F := FPa Y _) hfP.2.1 (by rw [hY.2]; rfl) (cPa_add hY hfP hbi ν hfu (by omega)) rfl rfl ⟨Nat.le_of_ble_eq_true rfl, Nat.le_of_ble_eq_true rfl⟩ rfl rfl (Nat.le_of_ble_eq_true rfl) ⟨Nat.zero_le _, Nat.zero_le _⟩ (kE rfl ?_)
      refine v_iinc hB dTr_merge_62 rfl (y := _) rfl rfl (by decide) (lv' := [_, _, _, _, _, _, _]) rfl ?_
      refine v_goto hB 39 dTr_merge_65 (by decide) ?_
      rw [i1]
      have hne : ∀ q, q < 40 → q ≠ f → (addM ν f w (bxI e i)).1 (pgI q) = ν.1 (pgI q) := fun q hq hqf => by
        unfold addM
        rw [wi_ne _ _ _ (pg_inj hqf), wi_ne _ _ _ (pg_inj hqf), bec_ne _ _ (bx_pg hq).symm]
      exact ih (i + 1) (w + 1) _ (by omega) (by omega) (by unfold addM; simp only [wi_at]; simp) (by rw [hne e he hfe.symm]; exact heu) (by rw [hne p hp hpf]; exact hpu) hfin
  exact loop v 0 u μ (by omega) rfl hu hv hnn rfl

set_option maxHeartbeats 4000000 in
set_option maxRecDepth 100000 in
theorem cTr_moveOut {l : Launch} {Y : Yt} (hY : YB Y) (hW : YW Y) {f t u v : Nat} (sl : Int32) (hf : f < 40) (ht : t < 40) (hft : f ≠ t) {μ : Mu} {K : Mu → Prop} (hu : μ.1 (pgI f) 1 = nI u) (hu6 : u ≤ 6) (hv : μ.1 (pgI t) 1 = nI v) (h : mvW f sl t K u u v μ) : Ct l Y yTr_moveOut wTr_moveOut ({ frames := 2, cells := 0, slots := 0, locals := 42 }) [.ref (ad Y 2), .ref (ad Y (pgI f)), .int sl, .ref (ad Y (pgI t))] μ (PV K) := by
  refine ct_of hY.1 (by decide) rfl (Nat.le_of_ble_eq_true rfl) (lv := [some (.ref (ad Y 2)), some (.ref (ad Y (pgI f))), some (.int sl), some (.ref (ad Y (pgI t))), none]) rfl (fun X hC => ?_)
  have hB := hC.B
  obtain ⟨hFa, hDi, hTr, hSe, h4, h5, h6b, h7, h8, hpages, htrail, hturns, hplaces, hlog, hlp, hfound, hwait, hsq, hlk, hPg, hrow, hlrow, hfb⟩ := id hW
  have hfP := hPg f hf
  have htP := hPg t ht
  obtain ⟨-, hfa, hfar, hfbx⟩ := hPg f hf
  have loop : ∀ (k u v : Nat) (ν : Mu), k ≤ u → u ≤ 6 → ν.1 (pgI f) 1 = nI u → ν.1 (pgI t) 1 = nI v → mvW f sl t K k u v ν → VG X (yA Y) 5 0 0 (VQ X Y (PV K)) (yI Y (ν)) 8 [some (.ref (ad Y 2)), some (.ref (ad Y (pgI f))), some (.int sl), some (.ref (ad Y (pgI t))), some (.int (nI k - 1))] [] := by
    intro k
    induction k with
    | zero =>
      intro u v ν hk h6 hu hv h
      refine v_iload hB dTr_moveOut_8 rfl ?_
      refine v_if_lt hB 46 dTr_moveOut_10 (by decide) (fun c => ?_) (fun c => ?_)
      · exact v_vret hC rfl dTr_moveOut_46 ⟨rfl, h⟩
      · exact absurd (by decide) c
    | succ k ih =>
      intro u v ν hk h6 hu hv h
      have hbk := hfbx k (by omega)
      rw [nI_pred]
      refine v_iload hB dTr_moveOut_8 rfl ?_
      refine v_if_lt hB 46 dTr_moveOut_10 (by decide) (fun c => ?_) (fun c => ?_)
      · exact absurd c (nI_pos (by omega))
      refine v_iload_n hB dTr_moveOut_13 rfl ?_
      refine v_iload hB dTr_moveOut_14 rfl ?_
      refine v_ishr hB dTr_moveOut_16 ?_
      refine v_iconst hB dTr_moveOut_17 (v := 1) (by decide) ?_
      refine v_iand hB dTr_moveOut_18 ?_
      refine v_iconst hB dTr_moveOut_19 (v := 1) (by decide) ?_
      refine v_icmp_ne hB 40 dTr_moveOut_20 (by decide) (fun b => ?_) (fun b => ?_)
      · refine v_iinc hB dTr_moveOut_40 rfl (y := _) rfl rfl (by decide) (lv' := [_, _, _, _, _]) rfl ?_
        refine v_goto hB 8 dTr_moveOut_43 (by decide) ?_
        rw [im1]
        exact ih u v ν (by omega) h6 hu hv (by rw [mvW, if_neg b] at h; exact h)
      · rw [mvW, if_pos b] at h
        obtain ⟨h1, h2, h3, h4⟩ := h
        refine v_aload_n hB dTr_moveOut_23 rfl ?_
        refine v_aload_n hB dTr_moveOut_24 rfl ?_
        refine v_get hC (klPa hY.2) (F := FPa Y _) (by assumption) 3 dTr_moveOut_25 kfTr_122 (by decide) rfl ?_
        refine v_iload hB dTr_moveOut_28 rfl ?_
        refine v_aald hC hfar k dTr_moveOut_30 rfl (by omega) (by decide) ?_
        refine v_callV hC tbok kmTr_50 kiPa_add ksPa_add dTr_moveOut_31 (F := FPa Y _) htP.2.1 (by rw [hY.2]; rfl) (cPa_add hY htP hbk ν hv h3) rfl rfl ⟨Nat.le_of_ble_eq_true rfl, Nat.le_of_ble_eq_true rfl⟩ rfl rfl (Nat.le_of_ble_eq_true rfl) ⟨Nat.zero_le _, Nat.zero_le _⟩ (kE rfl ?_)
        refine v_aload_n hB dTr_moveOut_34 rfl ?_
        refine v_iload hB dTr_moveOut_35 rfl ?_
        have e1 : (addM ν t v (bxI f k)).1 (pgI f) = ν.1 (pgI f) := by
          unfold addM
          rw [wi_ne _ _ _ (pg_inj hft), wi_ne _ _ _ (pg_inj hft), bec_ne _ _ (bx_pg hf).symm]
        refine v_callV hC tbok kmTr_73 kiPa_drop ksPa_drop dTr_moveOut_37 (F := FPa Y _) (by assumption) (by rw [hY.2]; rfl) (cPa_drop hY hfP _ (by rw [e1]; exact hu) h1 h2) rfl rfl ⟨Nat.le_of_ble_eq_true rfl, Nat.le_of_ble_eq_true rfl⟩ rfl rfl (Nat.le_of_ble_eq_true rfl) ⟨Nat.zero_le _, Nat.zero_le _⟩ (kE rfl ?_)
        refine v_iinc hB dTr_moveOut_40 rfl (y := _) rfl rfl (by decide) (lv' := [_, _, _, _, _]) rfl ?_
        refine v_goto hB 8 dTr_moveOut_43 (by decide) ?_
        rw [im1]
        exact ih (u - 1) (v + 1) _ (by omega) (by omega) (by unfold drpM; simp only [wi_at]; rw [bec_ne _ _ (bx_pg hf).symm]; simp [wi_at]) (by unfold drpM; rw [wi_ne _ _ _ (pg_inj hft.symm), bec_ne _ _ (bx_pg ht).symm, wi_ne _ _ _ (pg_inj hft.symm)]; unfold addM; simp only [wi_at]; simp) h4
  refine v_aload_n hB dTr_moveOut_0 rfl ?_
  refine v_get hC (klPa hY.2) (F := FPa Y _) (by assumption) 1 dTr_moveOut_1 kfTr_129 (by decide) rfl ?_
  refine v_iconst hB dTr_moveOut_4 (v := 1) (by decide) ?_
  refine v_isub hB dTr_moveOut_5 ?_
  rw [hu]
  refine v_istore hB dTr_moveOut_6 rfl (by decide) (lv' := [_, _, _, _, _]) rfl ?_
  exact loop u u v μ (Nat.le_refl u) hu6 hu hv h

set_option maxHeartbeats 4000000 in
set_option maxRecDepth 100000 in
theorem cTr_openPage {l : Launch} {Y : Yt} (hY : YB Y) (hW : YW Y) (v : Int32) (μ : Mu) (h : ∃ n, 0 < n ∧ n < 40 ∧ μ.1 (pgI n) 0 = 0) : Ct l Y yTr_openPage wTr_openPage ({ frames := 1, cells := 0, slots := 0, locals := 21 }) [.ref (ad Y 2), .int v] μ (PI (fun x ν => ∃ n, 0 < n ∧ n < 40 ∧ x = nI n ∧ μ.1 (pgI n) 0 = 0 ∧ ν = opn μ n v)) := by
  refine ct_of hY.1 (by decide) rfl (Nat.le_of_ble_eq_true rfl) (lv := [some (.ref (ad Y 2)), some (.int v), none]) rfl (fun X hC => ?_)
  have hB := hC.B
  obtain ⟨hFa, hDi, hTr, hSe, h4, h5, h6b, h7, h8, hpages, htrail, hturns, hplaces, hlog, hlp, hfound, hwait, hsq, hlk, hPg, hrow, hlrow, hfb⟩ := id hW
  obtain ⟨n0, hn0, hn40, hfree⟩ := h
  have loop : ∀ (r k : Nat), k + r = n0 → 0 < k → VG X (yA Y) 3 0 0 (VQ X Y (PI (fun x ν => ∃ n, 0 < n ∧ n < 40 ∧ x = nI n ∧ μ.1 (pgI n) 0 = 0 ∧ ν = opn μ n v))) (yI Y (μ)) 2 [some (.ref (ad Y 2)), some (.int v), some (.int (nI k))] [] := by
    have found : ∀ k, 0 < k → k < 40 → μ.1 (pgI k) 0 = 0 → VG X (yA Y) 3 0 0 (VQ X Y (PI (fun x ν => ∃ n, 0 < n ∧ n < 40 ∧ x = nI n ∧ μ.1 (pgI n) 0 = 0 ∧ ν = opn μ n v))) (yI Y (μ)) 20 [some (.ref (ad Y 2)), some (.int v), some (.int (nI k))] [] := by
      intro k hk0 hk hz
      refine v_aload_n hB dTr_openPage_20 rfl ?_
      refine v_get hC (klTr hY.2) (F := FTr Y _) (by assumption) 3 dTr_openPage_21 kfTr_11 (by decide) rfl ?_
      refine v_iload_n hB dTr_openPage_24 rfl ?_
      refine v_aald hC hpages k dTr_openPage_25 rfl (by omega) (by decide) ?_
      refine v_iload_n hB dTr_openPage_26 rfl ?_
      refine v_callV hC tbok kmTr_104 kiPa_open ksPa_open dTr_openPage_27 (F := FPa Y _) (hPg k hk).2.1 (by rw [hY.2]; rfl) (cPa_open hY (hPg k hk) v μ) rfl rfl ⟨Nat.le_of_ble_eq_true rfl, Nat.le_of_ble_eq_true rfl⟩ rfl rfl (Nat.le_of_ble_eq_true rfl) ⟨Nat.zero_le _, Nat.zero_le _⟩ (kE rfl ?_)
      refine v_iload_n hB dTr_openPage_30 rfl ?_
      exact v_iret hC rfl dTr_openPage_31 ⟨_, rfl, k, hk0, hk, rfl, hz, rfl⟩
    intro r
    induction r with
    | zero =>
      intro k hk hk0
      obtain rfl : k = n0 := by omega
      have hpa := (hPg k hn40).2.1
      refine v_iload_n hB dTr_openPage_2 rfl ?_
      refine v_bipush hB dTr_openPage_3 (v := 40) (by decide) ?_
      refine v_icmp_ge hB 38 dTr_openPage_5 (by decide) (fun c => ?_) (fun c => ?_)
      · exact absurd c (by rw [show (40 : Int32) = nI 40 from rfl]; exact (fun q => absurd ((nI_leI (by omega) (by omega)).mp q) (by omega)))
      refine v_aload_n hB dTr_openPage_8 rfl ?_
      refine v_get hC (klTr hY.2) (F := FTr Y _) (by assumption) 3 dTr_openPage_9 kfTr_11 (by decide) rfl ?_
      refine v_iload_n hB dTr_openPage_12 rfl ?_
      refine v_aald hC hpages k dTr_openPage_13 rfl (by omega) (by decide) ?_
      refine v_get hC (klPa hY.2) (F := FPa Y _) (by assumption) 0 dTr_openPage_14 kfTr_35 (by decide) rfl ?_
      refine v_if_ne hB 32 dTr_openPage_17 (by decide) (fun c2 => ?_) (fun c2 => ?_)
      · exact absurd hfree c2
      exact found k hk0 hn40 hfree
    | succ r ih =>
      intro k hk hk0
      have hk40 : k < 40 := by omega
      have hpa := (hPg k hk40).2.1
      refine v_iload_n hB dTr_openPage_2 rfl ?_
      refine v_bipush hB dTr_openPage_3 (v := 40) (by decide) ?_
      refine v_icmp_ge hB 38 dTr_openPage_5 (by decide) (fun c => ?_) (fun c => ?_)
      · exact absurd c (by rw [show (40 : Int32) = nI 40 from rfl]; exact (fun q => absurd ((nI_leI (by omega) (by omega)).mp q) (by omega)))
      refine v_aload_n hB dTr_openPage_8 rfl ?_
      refine v_get hC (klTr hY.2) (F := FTr Y _) (by assumption) 3 dTr_openPage_9 kfTr_11 (by decide) rfl ?_
      refine v_iload_n hB dTr_openPage_12 rfl ?_
      refine v_aald hC hpages k dTr_openPage_13 rfl (by omega) (by decide) ?_
      refine v_get hC (klPa hY.2) (F := FPa Y _) (by assumption) 0 dTr_openPage_14 kfTr_35 (by decide) rfl ?_
      refine v_if_ne hB 32 dTr_openPage_17 (by decide) (fun c2 => ?_) (fun c2 => ?_)
      · refine v_iinc hB dTr_openPage_32 rfl (y := _) rfl rfl (by decide) (lv' := [_, _, _]) rfl ?_
        refine v_goto hB 2 dTr_openPage_35 (by decide) ?_
        rw [i1]
        exact ih (k + 1) (by omega) (by omega)
      exact found k hk0 hk40 c2
  refine v_iconst hB dTr_openPage_0 (v := 1) (by decide) ?_
  refine v_istore_n hB dTr_openPage_1 rfl (by decide) (lv' := [_, _, _]) rfl ?_
  exact loop (n0 - 1) 1 (by omega) (by omega)

