/-! THE TREE: the ways down, the whole operations, the marks, the pages' rows. -/
/-- the way down: r levels to go from depth d on -/
def dsL (K : Mu → Prop) : Nat → Nat → Mu → Prop
  | 0, _, μ => K μ
  | r + 1, d, μ => ∃ p u : Nat, p < 40 ∧ 0 < u ∧ u ≤ 6 ∧ d < 3 ∧ μ.1 10 d = nI p ∧ μ.1 (pgI p) 1 = nI u ∧ ∀ b, b < u → (wi μ 11 d (nI b)).1 11 d = nI b ∧ dsL K r (d + 1) (wi (wi μ 11 d (nI b)) 10 (d + 1) ((wi μ 11 d (nI b)).1 (bxI p b) 4))
def plW (μ : Mu) (e : Nat) (K : Mu → Prop) : Prop := ∃ q v : Nat, q < 40 ∧ 0 < v ∧ v ≤ 4 ∧ μ.1 2 0 = nI q ∧ μ.1 (pgI q) 0 = nI v ∧ dsL (fun μ1 => ∃ p u : Nat, p < 40 ∧ u < 6 ∧ μ1.1 10 (v - 1) = nI p ∧ μ1.1 (pgI p) 1 = nI u ∧ clL K (v - 1) (whM (addM μ1 p u e) ((addM μ1 p u e).1 2 0) ((addM μ1 p u e).1 2 1 + 1))) (v - 1) 0 (wi μ 10 0 (nI q))
/-- the seeking of entry e below page q, at depth d: r slots may be looked at yet, from slot k on -/
def skL (rec : Nat → Mu → (Bool → Mu → Prop) → Prop) (e q d : Nat) (K : Bool → Mu → Prop) : Nat → Nat → Mu → Prop
  | 0, _, _ => False
  | r + 1, k, ν => ∃ u v : Nat, u ≤ 6 ∧ v < 2 ^ 30 ∧ ν.1 (pgI q) 1 = nI u ∧ (wi ν 11 d (nI k)).1 (pgI q) 0 = nI v ∧ (if k < u then (if v = 1 then (if sameB ((wi ν 11 d (nI k)).1 (bxI q k)) ((wi ν 11 d (nI k)).1 e) = true then K true (wi ν 11 d (nI k)) else skL rec e q d K r (k + 1) (wi ν 11 d (nI k))) else (if holdB ((wi ν 11 d (nI k)).1 (bxI q k)) ((wi ν 11 d (nI k)).1 e) = true then ∃ c, (wi ν 11 d (nI k)).1 (bxI q k) 4 = nI c ∧ rec c (wi ν 11 d (nI k)) (fun b ν2 => if b = true then K true ν2 else skL rec e q d K r (k + 1) ν2) else skL rec e q d K r (k + 1) (wi ν 11 d (nI k)))) else K false ν)
def skW (e : Nat) : Nat → Nat → Nat → Mu → (Bool → Mu → Prop) → Prop
  | 0, _, _, μ, K => K false μ
  | f + 1, q, d, μ, K => q < 40 ∧ skL (fun c ν K' => skW e f c (d + 1) ν K') e q d K 7 0 (wi μ 10 d (nI q))
def skR (f : Nat) : Room := { frames := f + 1, cells := 0, slots := 0, locals := 26 * f + 21 }
def PB (P : Bool → Mu → Prop) : Option Value → Mu → Prop := fun r μ => ∃ b : Bool, r = some (.int (bI b)) ∧ P b μ
theorem kB {X : Xt} {Y : Yt} {n cells slots : Nat} {Q : State → Prop} {pc : Nat} {lv : List (Option Value)} {stR : List Value} {P : Bool → Mu → Prop} {A : Nat → Prop} (kk : ∀ b μ', P b μ' → VG X A n cells slots Q (yI Y μ') pc lv (.int (bI b) :: stR)) : ∀ (r : Option Value) (μ' : Mu), PB P r μ' → VG X A n cells slots Q (yI Y μ') pc lv (r.toList ++ stR) := by
  rintro r μ' ⟨b, rfl, h⟩
  exact kk b μ' h
def upW (μ : Mu) (e : Nat) (K : Bool → Mu → Prop) : Prop := ∃ q, μ.1 2 0 = nI q ∧ skW e 4 q 0 μ (fun b μ1 => if b = true then ∃ q2 v p s u : Nat, q2 < 40 ∧ 0 < v ∧ v ≤ 4 ∧ μ1.1 2 0 = nI q2 ∧ μ1.1 (pgI q2) 0 = nI v ∧ p < 40 ∧ s < u ∧ u ≤ 6 ∧ μ1.1 10 (v - 1) = nI p ∧ μ1.1 11 (v - 1) = nI s ∧ μ1.1 (pgI p) 1 = nI u ∧ clL (K true) (v - 1) (whM (drpM μ1 p u s) ((drpM μ1 p u s).1 2 0) ((drpM μ1 p u s).1 2 1 - 1)) else K false μ1)
set_option maxHeartbeats 4000000 in
set_option maxRecDepth 100000 in
theorem cTr_descend {l : Launch} {Y : Yt} (hY : YB Y) (hW : YW Y) {e q v : Nat} (he : isBo Y e) {μ : Mu} {K : Mu → Prop} (hq : q < 40) (hr : μ.1 2 0 = nI q) (hv : μ.1 (pgI q) 0 = nI v) (h0 : 0 < v) (hv4 : v ≤ 4) (h : dsL K (v - 1) 0 (wi μ 10 0 (nI q))) : Ct l Y yTr_descend wTr_descend ({ frames := 3, cells := 0, slots := 0, locals := 77 }) [.ref (ad Y 2), .ref (ad Y e)] μ (PI (fun x ν => x = nI (v - 1) ∧ K ν)) := by
  refine ct_of hY.1 (by decide) rfl (Nat.le_of_ble_eq_true rfl) (lv := [some (.ref (ad Y 2)), some (.ref (ad Y e)), none, none, none]) rfl (fun X hC => ?_)
  have hB := hC.B
  obtain ⟨hFa, hDi, hTr, hSe, h4, h5, h6b, h7, h8, hpages, htrail, hturns, hplaces, hlog, hlp, hfound, hwait, hsq, hlk, hPg, hrow, hlrow, hfb⟩ := id hW
  have loop : ∀ (r d : Nat) (ν : Mu), d + r = v - 1 → dsL K r d ν → VG X (yA Y) 5 0 0 (VQ X Y (PI (fun x ν => x = nI (v - 1) ∧ K ν))) (yI Y (ν)) 17 [some (.ref (ad Y 2)), some (.ref (ad Y e)), some (.int (nI (v - 1))), some (.int (nI d)), none] [] := by
    intro r
    induction r with
    | zero =>
      intro d ν hd hk
      refine v_iload_n hB dTr_descend_17 rfl ?_
      refine v_iload_n hB dTr_descend_18 rfl ?_
      refine v_icmp_ge hB 75 dTr_descend_19 (by decide) (fun c => ?_) (fun c => ?_)
      · refine v_iload_n hB dTr_descend_75 rfl ?_
        exact v_iret hC rfl dTr_descend_76 ⟨_, rfl, rfl, hk⟩
      · exact absurd (nI_le (by omega) (by omega)) c
    | succ r ih =>
      rintro d ν hd ⟨p, u, hp, hu0, hu6, hd3, htr, hu, hall⟩
      have hpP := hPg p hp
      obtain ⟨-, hpa, har, hbx⟩ := hPg p hp
      refine v_iload_n hB dTr_descend_17 rfl ?_
      refine v_iload_n hB dTr_descend_18 rfl ?_
      refine v_icmp_ge hB 75 dTr_descend_19 (by decide) (fun c => ?_) (fun c => ?_)
      · exact absurd c (fun q => absurd ((nI_leI (by omega) (by omega)).mp q) (by omega))
      refine v_aload_n hB dTr_descend_22 rfl ?_
      refine v_aload_n hB dTr_descend_23 rfl ?_
      refine v_get hC (klTr hY.2) (F := FTr Y _) (by assumption) 4 dTr_descend_24 kfTr_17 (by decide) rfl ?_
      refine v_iload_n hB dTr_descend_27 rfl ?_
      refine v_iald hC htrail d dTr_descend_28 rfl (by omega) (by decide) ?_
      rw [htr]
      refine v_callV hC tbok kmTr_46 kiTr_at ksTr_at dTr_descend_29 (F := FTr Y _) (by assumption) (by rw [hY.2]; rfl) (cTr_at hY hW hp ν) rfl rfl ⟨Nat.le_of_ble_eq_true rfl, Nat.le_of_ble_eq_true rfl⟩ rfl rfl (Nat.le_of_ble_eq_true rfl) ⟨Nat.zero_le _, Nat.zero_le _⟩ (kE rfl ?_)
      refine v_astore hB dTr_descend_32 rfl (by decide) (lv' := [_, _, _, _, _]) rfl ?_
      refine v_aload_n hB dTr_descend_34 rfl ?_
      refine v_get hC (klTr hY.2) (F := FTr Y _) (by assumption) 5 dTr_descend_35 kfTr_21 (by decide) rfl ?_
      refine v_iload_n hB dTr_descend_38 rfl ?_
      refine v_aload hB dTr_descend_39 rfl ?_
      refine v_aload_n hB dTr_descend_41 rfl ?_
      refine v_callV hC tbok kmTr_119 kiPa_slotThatGrowsLeast ksPa_slotThatGrowsLeast dTr_descend_42 (F := FPa Y _) (by assumption) (by rw [hY.2]; rfl) (cPa_slotThatGrowsLeast hY hpP he ν hu hu0 hu6) rfl rfl ⟨Nat.le_of_ble_eq_true rfl, Nat.le_of_ble_eq_true rfl⟩ rfl rfl (Nat.le_of_ble_eq_true rfl) ⟨Nat.zero_le _, Nat.zero_le _⟩ (kI fun x ν1 h1 => ?_)
      obtain ⟨rfl, b, hb, rfl⟩ := h1
      obtain ⟨hb11, hall⟩ := hall b hb
      have hbb := hbx b (by omega)
      refine v_iast hC hturns d dTr_descend_45 rfl (by omega) (by decide) ?_
      refine v_aload_n hB dTr_descend_46 rfl ?_
      refine v_get hC (klTr hY.2) (F := FTr Y _) (by assumption) 4 dTr_descend_47 kfTr_17 (by decide) rfl ?_
      refine v_iload_n hB dTr_descend_50 rfl ?_
      refine v_iconst hB dTr_descend_51 (v := 1) (by decide) ?_
      refine v_iadd hB dTr_descend_52 ?_
      refine v_aload hB dTr_descend_53 rfl ?_
      refine v_get hC (klPa hY.2) (F := FPa Y _) (by assumption) 3 dTr_descend_55 kfTr_122 (by decide) rfl ?_
      refine v_aload_n hB dTr_descend_58 rfl ?_
      refine v_get hC (klTr hY.2) (F := FTr Y _) (by assumption) 5 dTr_descend_59 kfTr_21 (by decide) rfl ?_
      refine v_iload_n hB dTr_descend_62 rfl ?_
      refine v_iald hC hturns d dTr_descend_63 rfl (by omega) (by decide) ?_
      refine v_aald hC har b dTr_descend_64 hb11 (by omega) (by decide) ?_
      refine v_get hC (klBo hY.2) (F := FBo Y _) (by assumption) 4 dTr_descend_65 kfTr_126 (by decide) rfl ?_
      refine v_iast hC htrail (d + 1) dTr_descend_68 (nI_1 d) (by omega) (by decide) ?_
      refine v_iinc hB dTr_descend_69 rfl (y := _) rfl rfl (by decide) (lv' := [_, _, _, _, _]) rfl ?_
      refine v_goto hB 17 dTr_descend_72 (by decide) ?_
      refine v_drop 4 (lv' := [_, _, _, _, _]) rfl ?_
      rw [i1]
      exact ih (d + 1) _ (by omega) hall
  refine v_aload_n hB dTr_descend_0 rfl ?_
  refine v_callV hC tbok kmTr_69 kiTr_lowestDepth ksTr_lowestDepth dTr_descend_1 (F := FTr Y _) (by assumption) (by rw [hY.2]; rfl) (cTr_lowestDepth hY hW μ hq hr hv h0 hv4) rfl rfl ⟨Nat.le_of_ble_eq_true rfl, Nat.le_of_ble_eq_true rfl⟩ rfl rfl (Nat.le_of_ble_eq_true rfl) ⟨Nat.zero_le _, Nat.zero_le _⟩ (kE rfl ?_)
  refine v_istore_n hB dTr_descend_4 rfl (by decide) (lv' := [_, _, _, _, _]) rfl ?_
  refine v_aload_n hB dTr_descend_5 rfl ?_
  refine v_get hC (klTr hY.2) (F := FTr Y _) (by assumption) 4 dTr_descend_6 kfTr_17 (by decide) rfl ?_
  refine v_iconst hB dTr_descend_9 (v := 0) (by decide) ?_
  refine v_aload_n hB dTr_descend_10 rfl ?_
  refine v_get hC (klTr hY.2) (F := FTr Y _) (by assumption) 0 dTr_descend_11 kfTr_39 (by decide) rfl ?_
  rw [hr]
  refine v_iast hC htrail 0 dTr_descend_14 rfl (by omega) (by decide) ?_
  refine v_iconst hB dTr_descend_15 (v := 0) (by decide) ?_
  refine v_istore_n hB dTr_descend_16 rfl (by decide) (lv' := [_, _, _, _, _]) rfl ?_
  exact loop (v - 1) 0 _ (by omega) h

set_option maxHeartbeats 4000000 in
set_option maxRecDepth 100000 in
theorem cTr_plant {l : Launch} {Y : Yt} (hY : YB Y) (hW : YW Y) {e : Nat} (he : isBo Y e) {μ : Mu} {K : Mu → Prop} (h : plW μ e K) : Ct l Y yTr_plant wTr_plant ({ frames := 5, cells := 0, slots := 0, locals := 124 }) [.ref (ad Y 2), .ref (ad Y e)] μ (PV K) := by
  refine ct_of hY.1 (by decide) rfl (Nat.le_of_ble_eq_true rfl) (lv := [some (.ref (ad Y 2)), some (.ref (ad Y e)), none]) rfl (fun X hC => ?_)
  have hB := hC.B
  obtain ⟨hFa, hDi, hTr, hSe, h4, h5, h6b, h7, h8, hpages, htrail, hturns, hplaces, hlog, hlp, hfound, hwait, hsq, hlk, hPg, hrow, hlrow, hfb⟩ := id hW
  obtain ⟨q, v, hq, h0, hv4, hr, hv, hd⟩ := h
  refine v_aload_n hB dTr_plant_0 rfl ?_
  refine v_aload_n hB dTr_plant_1 rfl ?_
  refine v_callV hC tbok kmTr_42 kiTr_descend ksTr_descend dTr_plant_2 (F := FTr Y _) (by assumption) (by rw [hY.2]; rfl) (cTr_descend hY hW he hq hr hv h0 hv4 hd) rfl rfl ⟨Nat.le_of_ble_eq_true rfl, Nat.le_of_ble_eq_true rfl⟩ rfl rfl (Nat.le_of_ble_eq_true rfl) ⟨Nat.zero_le _, Nat.zero_le _⟩ (kI fun x μ1 h1 => ?_)
  obtain ⟨rfl, p, u, hp, hu6, htr, hu, hc⟩ := h1
  have hpP := hPg p hp
  refine v_istore_n hB dTr_plant_5 rfl (by decide) (lv' := [_, _, _]) rfl ?_
  refine v_aload_n hB dTr_plant_6 rfl ?_
  refine v_aload_n hB dTr_plant_7 rfl ?_
  refine v_get hC (klTr hY.2) (F := FTr Y _) (by assumption) 4 dTr_plant_8 kfTr_17 (by decide) rfl ?_
  refine v_iload_n hB dTr_plant_11 rfl ?_
  refine v_iald hC htrail (v - 1) dTr_plant_12 rfl (by omega) (by decide) ?_
  rw [htr]
  refine v_callV hC tbok kmTr_46 kiTr_at ksTr_at dTr_plant_13 (F := FTr Y _) (by assumption) (by rw [hY.2]; rfl) (cTr_at hY hW hp μ1) rfl rfl ⟨Nat.le_of_ble_eq_true rfl, Nat.le_of_ble_eq_true rfl⟩ rfl rfl (Nat.le_of_ble_eq_true rfl) ⟨Nat.zero_le _, Nat.zero_le _⟩ (kE rfl ?_)
  refine v_aload_n hB dTr_plant_16 rfl ?_
  refine v_callV hC tbok kmTr_50 kiPa_add ksPa_add dTr_plant_17 (F := FPa Y _) hpP.2.1 (by rw [hY.2]; rfl) (cPa_add hY hpP he μ1 hu hu6) rfl rfl ⟨Nat.le_of_ble_eq_true rfl, Nat.le_of_ble_eq_true rfl⟩ rfl rfl (Nat.le_of_ble_eq_true rfl) ⟨Nat.zero_le _, Nat.zero_le _⟩ (kE rfl ?_)
  refine v_aload_n hB dTr_plant_20 rfl ?_
  refine v_aload_n hB dTr_plant_21 rfl ?_
  refine v_get hC (klTr hY.2) (F := FTr Y _) (by assumption) 0 dTr_plant_22 kfTr_39 (by decide) rfl ?_
  refine v_aload_n hB dTr_plant_25 rfl ?_
  refine v_get hC (klTr hY.2) (F := FTr Y _) (by assumption) 1 dTr_plant_26 kfTr_54 (by decide) rfl ?_
  refine v_iconst hB dTr_plant_29 (v := 1) (by decide) ?_
  refine v_iadd hB dTr_plant_30 ?_
  refine v_callV hC tbok kmTr_57 kiTr_writeHeader ksTr_writeHeader dTr_plant_31 (F := FTr Y _) (by assumption) (by rw [hY.2]; rfl) (cTr_writeHeader hY hW _ _ _) rfl rfl ⟨Nat.le_of_ble_eq_true rfl, Nat.le_of_ble_eq_true rfl⟩ rfl rfl (Nat.le_of_ble_eq_true rfl) ⟨Nat.zero_le _, Nat.zero_le _⟩ (kE rfl ?_)
  refine v_aload_n hB dTr_plant_34 rfl ?_
  refine v_iload_n hB dTr_plant_35 rfl ?_
  refine v_callV hC tbok kmTr_61 kiTr_climb ksTr_climb dTr_plant_36 (F := FTr Y _) (by assumption) (by rw [hY.2]; rfl) (cTr_climb hY hW (by omega) hc) rfl rfl ⟨Nat.le_of_ble_eq_true rfl, Nat.le_of_ble_eq_true rfl⟩ rfl rfl (Nat.le_of_ble_eq_true rfl) ⟨Nat.zero_le _, Nat.zero_le _⟩ (kV fun ν2 h2 => ?_)
  exact v_vret hC rfl dTr_plant_39 ⟨rfl, h2⟩

set_option maxHeartbeats 4000000 in
set_option maxRecDepth 100000 in
theorem cTr_seek {l : Launch} {Y : Yt} (hY : YB Y) (hW : YW Y) {e : Nat} (he : isBo Y e) : ∀ (f q d : Nat) (μ : Mu) (K : Bool → Mu → Prop), d + f = 4 → skW e f q d μ K → Ct l Y yTr_seek wTr_seek (skR f) [.ref (ad Y 2), .ref (ad Y e), .int (nI q), .int (nI d)] μ (PB K) := by
  obtain ⟨hFa, hDi, hTr, hSe, h4, h5, h6b, h7, h8, hpages, htrail, hturns, hplaces, hlog, hlp, hfound, hwait, hsq, hlk, hPg, hrow, hlrow, hfb⟩ := id hW
  intro f
  induction f with
  | zero =>
    intro q d μ K hd h
    refine ct_of hY.1 (by decide) rfl (Nat.le_of_ble_eq_true rfl) (lv := [some (.ref (ad Y 2)), some (.ref (ad Y e)), some (.int (nI q)), some (.int (nI d)), none, none, none]) rfl (fun X hC => ?_)
    have hB := hC.B
    refine v_iload_n hB dTr_seek_0 rfl ?_
    refine v_iconst hB dTr_seek_1 (v := 4) (by decide) ?_
    refine v_icmp_lt hB 7 dTr_seek_2 (by decide) (fun c => ?_) (fun c => ?_)
    · exact absurd c (by rw [show (4 : Int32) = nI 4 from rfl]; exact nI_nlt (by omega) (by omega))
    · refine v_iconst hB dTr_seek_5 (v := 0) (by decide) ?_
      exact v_zret hC rfl (by decide) dTr_seek_6 ⟨false, rfl, h⟩
  | succ f ih =>
    rintro q d μ K hd ⟨hq, h⟩
    have hqP := hPg q hq
    obtain ⟨-, hqa, hqar, hqbx⟩ := hPg q hq
    refine ct_of hY.1 (by decide) rfl (Nat.le_of_ble_eq_true rfl) (lv := [some (.ref (ad Y 2)), some (.ref (ad Y e)), some (.int (nI q)), some (.int (nI d)), none, none, none]) rfl (fun X hC => ?_)
    have hB := hC.B
    have loop : ∀ (r k : Nat) (ν : Mu), k + r ≤ 7 → skL (fun c ν K' => skW e f c (d + 1) ν K') e q d K r k ν → VG X (yA Y) 7 0 0 (VQ X Y (PB K)) (yI Y (ν)) 24 [some (.ref (ad Y 2)), some (.ref (ad Y e)), some (.int (nI q)), some (.int (nI d)), some (.ref (ad Y (pgI q))), some (.int (nI k)), none] [] := by
      intro r
      induction r with
      | zero =>
        intro k ν hk7 h
        exact h.elim
      | succ r ihr =>
        rintro k ν hk7 ⟨u, v, hu6, hv30, hu, hv, hi⟩
        refine v_iload hB dTr_seek_24 rfl ?_
        refine v_aload hB dTr_seek_26 rfl ?_
        refine v_get hC (klPa hY.2) (F := FPa Y _) (by assumption) 1 dTr_seek_28 kfTr_129 (by decide) rfl ?_
        rw [hu]
        by_cases hku : k < u
        · rw [if_pos hku] at hi
          have hbk := hqbx k (by omega)
          refine v_icmp_ge hB 106 dTr_seek_31 (by decide) (fun c => ?_) (fun c => ?_)
          · exact absurd c (fun q => absurd ((nI_leI (by omega) (by omega)).mp q) (by omega))
          refine v_aload hB dTr_seek_34 rfl ?_
          refine v_get hC (klPa hY.2) (F := FPa Y _) (by assumption) 3 dTr_seek_36 kfTr_122 (by decide) rfl ?_
          refine v_iload hB dTr_seek_39 rfl ?_
          refine v_aald hC hqar k dTr_seek_41 rfl (by omega) (by decide) ?_
          refine v_astore hB dTr_seek_42 rfl (by decide) (lv' := [_, _, _, _, _, _, _]) rfl ?_
          refine v_aload_n hB dTr_seek_44 rfl ?_
          refine v_get hC (klTr hY.2) (F := FTr Y _) (by assumption) 5 dTr_seek_45 kfTr_21 (by decide) rfl ?_
          refine v_iload_n hB dTr_seek_48 rfl ?_
          refine v_iload hB dTr_seek_49 rfl ?_
          refine v_iast hC hturns d dTr_seek_51 rfl (by omega) (by decide) ?_
          refine v_aload hB dTr_seek_52 rfl ?_
          refine v_get hC (klPa hY.2) (F := FPa Y _) (by assumption) 0 dTr_seek_54 kfTr_35 (by decide) rfl ?_
          rw [hv]
          have no : ∀ ν2, skL (fun c ν K' => skW e f c (d + 1) ν K') e q d K r (k + 1) ν2 → VG X (yA Y) 7 0 0 (VQ X Y (PB K)) (yI Y (ν2)) 100 [some (.ref (ad Y 2)), some (.ref (ad Y e)), some (.int (nI q)), some (.int (nI d)), some (.ref (ad Y (pgI q))), some (.int (nI k)), some (.ref (ad Y (bxI q k)))] [] := by
            intro ν2 h2
            refine v_iinc hB dTr_seek_100 rfl (y := _) rfl rfl (by decide) (lv' := [_, _, _, _, _, _, _]) rfl ?_
            refine v_goto hB 24 dTr_seek_103 (by decide) ?_
            refine v_drop 6 (lv' := [_, _, _, _, _, _, _]) rfl ?_
            rw [i1]
            exact ihr (k + 1) ν2 (by omega) h2
          have yes : ∀ ν2, K true ν2 → VG X (yA Y) 7 0 0 (VQ X Y (PB K)) (yI Y (ν2)) 98 [some (.ref (ad Y 2)), some (.ref (ad Y e)), some (.int (nI q)), some (.int (nI d)), some (.ref (ad Y (pgI q))), some (.int (nI k)), some (.ref (ad Y (bxI q k)))] [] := by
            intro ν2 h2
            refine v_iconst hB dTr_seek_98 (v := 1) (by decide) ?_
            exact v_zret hC rfl (by decide) dTr_seek_99 ⟨true, rfl, h2⟩
          refine v_iconst hB dTr_seek_57 (v := 1) (by decide) ?_
          refine v_icmp_ne hB 73 dTr_seek_58 (by decide) (fun c1 => ?_) (fun c1 => ?_)
          · have hv1 : v ≠ 1 := fun z => c1 (by rw [z]; rfl)
            rw [if_neg hv1] at hi
            refine v_aload hB dTr_seek_73 rfl ?_
            refine v_aload_n hB dTr_seek_75 rfl ?_
            refine v_callV hC tbok kmTr_136 kiBo_holds ksBo_holds dTr_seek_76 (F := FBo Y _) (by assumption) (by rw [hY.2]; rfl) (cBo_holds hY hbk he _) rfl rfl ⟨by simp only [skR]; omega, by simp only [skR]; omega⟩ rfl rfl (Nat.le_of_ble_eq_true rfl) ⟨Nat.zero_le _, Nat.zero_le _⟩ (kE rfl ?_)
            refine v_if_eq hB 100 dTr_seek_79 (by decide) (fun c2 => ?_) (fun c2 => ?_)
            · rw [if_neg (by rw [bI_0.mp c2]; decide)] at hi
              exact no _ hi
            rw [if_pos (bI_n.mp c2)] at hi
            obtain ⟨c, hc, hi⟩ := hi
            refine v_aload_n hB dTr_seek_82 rfl ?_
            refine v_aload_n hB dTr_seek_83 rfl ?_
            refine v_aload hB dTr_seek_84 rfl ?_
            refine v_get hC (klBo hY.2) (F := FBo Y _) (by assumption) 4 dTr_seek_86 kfTr_126 (by decide) rfl ?_
            rw [hc]
            refine v_iload_n hB dTr_seek_89 rfl ?_
            refine v_iconst hB dTr_seek_90 (v := 1) (by decide) ?_
            refine v_iadd hB dTr_seek_91 ?_
            rw [nI_1]
            refine v_callS hC tbok kmTr_65 ktTr_seek dTr_seek_92 (ih c (d + 1) _ _ (by omega) hi) rfl rfl ⟨Nat.le_refl _, by simp only [skR]; omega⟩ rfl rfl (Nat.le_of_ble_eq_true rfl) ⟨Nat.zero_le _, Nat.zero_le _⟩ (kB fun b ν2 h2 => ?_)
            refine v_if_eq hB 100 dTr_seek_95 (by decide) (fun c3 => ?_) (fun c3 => ?_)
            · rw [if_neg (by rw [bI_0.mp c3]; decide)] at h2
              exact no _ h2
            rw [if_pos (bI_n.mp c3)] at h2
            exact yes _ h2
          have hv1 : v = 1 := (nI_eq (by omega) (by omega)).mp c1
          rw [if_pos hv1] at hi
          refine v_aload hB dTr_seek_61 rfl ?_
          refine v_aload_n hB dTr_seek_63 rfl ?_
          refine v_callV hC tbok kmTr_132 kiBo_isSame ksBo_isSame dTr_seek_64 (F := FBo Y _) (by assumption) (by rw [hY.2]; rfl) (cBo_isSame hY hbk he _) rfl rfl ⟨by simp only [skR]; omega, by simp only [skR]; omega⟩ rfl rfl (Nat.le_of_ble_eq_true rfl) ⟨Nat.zero_le _, Nat.zero_le _⟩ (kE rfl ?_)
          refine v_if_eq hB 100 dTr_seek_67 (by decide) (fun c2 => ?_) (fun c2 => ?_)
          · rw [if_neg (by rw [bI_0.mp c2]; decide)] at hi
            exact no _ hi
          refine v_goto hB 98 dTr_seek_70 (by decide) ?_
          rw [if_pos (bI_n.mp c2)] at hi
          exact yes _ hi
        · rw [if_neg hku] at hi
          refine v_icmp_ge hB 106 dTr_seek_31 (by decide) (fun c => ?_) (fun c => ?_)
          · refine v_iconst hB dTr_seek_106 (v := 0) (by decide) ?_
            exact v_zret hC rfl (by decide) dTr_seek_107 ⟨false, rfl, hi⟩
          · exact absurd (nI_le (by omega) (by omega)) c
    refine v_iload_n hB dTr_seek_0 rfl ?_
    refine v_iconst hB dTr_seek_1 (v := 4) (by decide) ?_
    refine v_icmp_lt hB 7 dTr_seek_2 (by decide) (fun c => ?_) (fun c => ?_)
    rotate_left
    · exact absurd (by rw [show (4 : Int32) = nI 4 from rfl]; exact nI_lt (by omega) (by omega)) c
    refine v_aload_n hB dTr_seek_7 rfl ?_
    refine v_iload_n hB dTr_seek_8 rfl ?_
    refine v_callV hC tbok kmTr_46 kiTr_at ksTr_at dTr_seek_9 (F := FTr Y _) (by assumption) (by rw [hY.2]; rfl) (cTr_at hY hW hq μ) rfl rfl ⟨by simp only [skR]; omega, by simp only [skR]; omega⟩ rfl rfl (Nat.le_of_ble_eq_true rfl) ⟨Nat.zero_le _, Nat.zero_le _⟩ (kE rfl ?_)
    refine v_astore hB dTr_seek_12 rfl (by decide) (lv' := [_, _, _, _, _, _, _]) rfl ?_
    refine v_aload_n hB dTr_seek_14 rfl ?_
    refine v_get hC (klTr hY.2) (F := FTr Y _) (by assumption) 4 dTr_seek_15 kfTr_17 (by decide) rfl ?_
    refine v_iload_n hB dTr_seek_18 rfl ?_
    refine v_iload_n hB dTr_seek_19 rfl ?_
    refine v_iast hC htrail d dTr_seek_20 rfl (by omega) (by decide) ?_
    refine v_iconst hB dTr_seek_21 (v := 0) (by decide) ?_
    refine v_istore hB dTr_seek_22 rfl (by decide) (lv' := [_, _, _, _, _, _, _]) rfl ?_
    exact loop 7 0 _ (by decide) h

set_option maxHeartbeats 4000000 in
set_option maxRecDepth 100000 in
theorem cTr_uproot {l : Launch} {Y : Yt} (hY : YB Y) (hW : YW Y) {e : Nat} (he : isBo Y e) {μ : Mu} {K : Bool → Mu → Prop} (h : upW μ e K) : Ct l Y yTr_uproot wTr_uproot ({ frames := 7, cells := 0, slots := 0, locals := 177 }) [.ref (ad Y 2), .ref (ad Y e)] μ (PB K) := by
  refine ct_of hY.1 (by decide) rfl (Nat.le_of_ble_eq_true rfl) (lv := [some (.ref (ad Y 2)), some (.ref (ad Y e)), none]) rfl (fun X hC => ?_)
  have hB := hC.B
  obtain ⟨hFa, hDi, hTr, hSe, h4, h5, h6b, h7, h8, hpages, htrail, hturns, hplaces, hlog, hlp, hfound, hwait, hsq, hlk, hPg, hrow, hlrow, hfb⟩ := id hW
  obtain ⟨q, hr, hs⟩ := h
  refine v_aload_n hB dTr_uproot_0 rfl ?_
  refine v_aload_n hB dTr_uproot_1 rfl ?_
  refine v_aload_n hB dTr_uproot_2 rfl ?_
  refine v_get hC (klTr hY.2) (F := FTr Y _) (by assumption) 0 dTr_uproot_3 kfTr_39 (by decide) rfl ?_
  rw [hr]
  refine v_iconst hB dTr_uproot_6 (v := 0) (by decide) ?_
  refine v_callS hC tbok kmTr_65 ktTr_seek dTr_uproot_7 (cTr_seek hY hW he 4 q 0 μ _ (by decide) hs) rfl rfl ⟨Nat.le_of_ble_eq_true rfl, Nat.le_of_ble_eq_true rfl⟩ rfl rfl (Nat.le_of_ble_eq_true rfl) ⟨Nat.zero_le _, Nat.zero_le _⟩ (kB fun b μ1 h1 => ?_)
  refine v_if_ne hB 15 dTr_uproot_10 (by decide) (fun c => ?_) (fun c => ?_)
  rotate_left
  · rw [if_neg (by rw [bI_0.mp c]; decide)] at h1
    refine v_iconst hB dTr_uproot_13 (v := 0) (by decide) ?_
    exact v_zret hC rfl (by decide) dTr_uproot_14 ⟨false, rfl, h1⟩
  rw [if_pos (bI_n.mp c)] at h1
  obtain ⟨q2, v, p, s, u, hq2, h0, hv4, hr2, hv, hp, hs2, hu6, htr, htu, hu, hc⟩ := h1
  have hpP := hPg p hp
  refine v_aload_n hB dTr_uproot_15 rfl ?_
  refine v_callV hC tbok kmTr_69 kiTr_lowestDepth ksTr_lowestDepth dTr_uproot_16 (F := FTr Y _) (by assumption) (by rw [hY.2]; rfl) (cTr_lowestDepth hY hW μ1 hq2 hr2 hv h0 hv4) rfl rfl ⟨Nat.le_of_ble_eq_true rfl, Nat.le_of_ble_eq_true rfl⟩ rfl rfl (Nat.le_of_ble_eq_true rfl) ⟨Nat.zero_le _, Nat.zero_le _⟩ (kE rfl ?_)
  refine v_istore_n hB dTr_uproot_19 rfl (by decide) (lv' := [_, _, _]) rfl ?_
  refine v_aload_n hB dTr_uproot_20 rfl ?_
  refine v_aload_n hB dTr_uproot_21 rfl ?_
  refine v_get hC (klTr hY.2) (F := FTr Y _) (by assumption) 4 dTr_uproot_22 kfTr_17 (by decide) rfl ?_
  refine v_iload_n hB dTr_uproot_25 rfl ?_
  refine v_iald hC htrail (v - 1) dTr_uproot_26 rfl (by omega) (by decide) ?_
  rw [htr]
  refine v_callV hC tbok kmTr_46 kiTr_at ksTr_at dTr_uproot_27 (F := FTr Y _) (by assumption) (by rw [hY.2]; rfl) (cTr_at hY hW hp μ1) rfl rfl ⟨Nat.le_of_ble_eq_true rfl, Nat.le_of_ble_eq_true rfl⟩ rfl rfl (Nat.le_of_ble_eq_true rfl) ⟨Nat.zero_le _, Nat.zero_le _⟩ (kE rfl ?_)
  refine v_aload_n hB dTr_uproot_30 rfl ?_
  refine v_get hC (klTr hY.2) (F := FTr Y _) (by assumption) 5 dTr_uproot_31 kfTr_21 (by decide) rfl ?_
  refine v_iload_n hB dTr_uproot_34 rfl ?_
  refine v_iald hC hturns (v - 1) dTr_uproot_35 rfl (by omega) (by decide) ?_
  rw [htu]
  refine v_callV hC tbok kmTr_73 kiPa_drop ksPa_drop dTr_uproot_36 (F := FPa Y _) hpP.2.1 (by rw [hY.2]; rfl) (cPa_drop hY hpP μ1 hu hs2 hu6) rfl rfl ⟨Nat.le_of_ble_eq_true rfl, Nat.le_of_ble_eq_true rfl⟩ rfl rfl (Nat.le_of_ble_eq_true rfl) ⟨Nat.zero_le _, Nat.zero_le _⟩ (kE rfl ?_)
  refine v_aload_n hB dTr_uproot_39 rfl ?_
  refine v_aload_n hB dTr_uproot_40 rfl ?_
  refine v_get hC (klTr hY.2) (F := FTr Y _) (by assumption) 0 dTr_uproot_41 kfTr_39 (by decide) rfl ?_
  refine v_aload_n hB dTr_uproot_44 rfl ?_
  refine v_get hC (klTr hY.2) (F := FTr Y _) (by assumption) 1 dTr_uproot_45 kfTr_54 (by decide) rfl ?_
  refine v_iconst hB dTr_uproot_48 (v := 1) (by decide) ?_
  refine v_isub hB dTr_uproot_49 ?_
  refine v_callV hC tbok kmTr_57 kiTr_writeHeader ksTr_writeHeader dTr_uproot_50 (F := FTr Y _) (by assumption) (by rw [hY.2]; rfl) (cTr_writeHeader hY hW _ _ _) rfl rfl ⟨Nat.le_of_ble_eq_true rfl, Nat.le_of_ble_eq_true rfl⟩ rfl rfl (Nat.le_of_ble_eq_true rfl) ⟨Nat.zero_le _, Nat.zero_le _⟩ (kE rfl ?_)
  refine v_aload_n hB dTr_uproot_53 rfl ?_
  refine v_iload_n hB dTr_uproot_54 rfl ?_
  refine v_callV hC tbok kmTr_61 kiTr_climb ksTr_climb dTr_uproot_55 (F := FTr Y _) (by assumption) (by rw [hY.2]; rfl) (cTr_climb hY hW (by omega) hc) rfl rfl ⟨Nat.le_of_ble_eq_true rfl, Nat.le_of_ble_eq_true rfl⟩ rfl rfl (Nat.le_of_ble_eq_true rfl) ⟨Nat.zero_le _, Nat.zero_le _⟩ (kV fun ν2 h2 => ?_)
  refine v_iconst hB dTr_uproot_58 (v := 1) (by decide) ?_
  exact v_zret hC rfl (by decide) dTr_uproot_59 ⟨true, rfl, h2⟩

