/-! THE TREE: marks, rows, and whether it is whole. -/
def tB (x : Int32) : Prop := x = 0 ∨ x = 1
theorem tB_z {x : Int32} (h : tB x) : narrow .boolean (.int x) = .int x := by rcases h with rfl | rfl <;> decide
theorem tB_f {x : Int32} (h : tB x) : fits .boolean (.int x) = true := by rcases h with rfl | rfl <;> decide
def chg (μ : Mu) (q : Nat) : Int32 := if q = 0 then μ.1 2 2 else μ.1 (pgI q) 2
def cnt (μ : Mu) : Nat → Nat
  | 0 => 0
  | k + 1 => cnt μ k + (if chg μ k = 0 then 0 else 1)
theorem cnt_le (μ : Mu) : ∀ k, cnt μ k ≤ k
  | 0 => Nat.le_refl 0
  | k + 1 => by
    have := cnt_le μ k
    rw [cnt]
    split <;> omega
def muL : Nat → Nat → Mu → Mu
  | 0, _, μ => μ
  | r + 1, k, μ => muL r (k + 1) (wi μ (pgI k) 2 0)
def muM (μ : Mu) : Mu := muL 40 0 (wi μ 2 2 0)
def fgL : Nat → Nat → Mu → Mu
  | 0, _, μ => μ
  | r + 1, k, μ => fgL r (k + 1) (opn μ k 0)
def fgM (μ : Mu) : Mu := muM (fgL 40 0 (wi (wi μ 2 0 0) 2 1 0))
def wpM (μ : Mu) (r : Nat) : Mu := wi (wi μ r 0 (μ.1 2 0)) r 1 ((wi μ r 0 (μ.1 2 0)).1 2 1)
def wpW (μ : Mu) (q r : Nat) (K : Mu → Prop) : Prop := if q = 0 then K (wpM μ r) else ∃ u, u ≤ 5 ∧ μ.1 (pgI q) 1 = nI u ∧ K (wtM μ q u r)
def rfL (K : Mu → Prop) : Nat → Nat → Mu → Prop
  | 0, _, μ => K μ
  | r + 1, q, μ => ∃ u, u ≤ 5 ∧ μ.1 (plI q) 1 = nI u ∧ rfL K r (q + 1) (rdM μ q u (plI q))
def rfH (μ : Mu) : Mu := wi (wi (wi μ 2 0 (μ.1 (plI 0) 0)) 2 1 ((wi μ 2 0 (μ.1 (plI 0) 0)).1 (plI 0) 1)) 2 2 0
def rfW (μ : Mu) (K : Mu → Prop) : Prop := rfL K 39 1 (rfH μ)
/-- how many entries are below a page -/
def ebL (rec : Nat → Mu → (Int32 → Mu → Prop) → Prop) (q : Nat) (K : Int32 → Mu → Prop) : Nat → Nat → Int32 → Mu → Prop
  | 0, _, _, _ => False
  | r + 1, k, s, ν => ∃ u : Nat, u ≤ 6 ∧ ν.1 (pgI q) 1 = nI u ∧ (if k < u then ∃ c uc : Nat, c < 40 ∧ uc ≤ 6 ∧ ν.1 (bxI q k) 4 = nI c ∧ ν.1 (pgI c) 1 = nI uc ∧ (if sameB ((frM (wi ν 5 4 (nI c)) c uc (-1) 5).1 (bxI q k)) ((frM (wi ν 5 4 (nI c)) c uc (-1) 5).1 5) = true then rec c (frM (wi ν 5 4 (nI c)) c uc (-1) 5) (fun x ν2 => if x < 0 then K (-1) ν2 else ebL rec q K r (k + 1) (s + x) ν2) else K (-1) (frM (wi ν 5 4 (nI c)) c uc (-1) 5)) else K s ν)
def ebX (μ : Mu) (q u v : Nat) : Prop := μ.1 (pgI q) 0 = nI v ∧ u ≤ 5 ∧ (nI q = μ.1 2 0 ∨ 2 ≤ u)
def ebW : Nat → Nat → Mu → (Int32 → Mu → Prop) → Prop
  | 0, q, μ, K => q < 40 ∧ K (-1) μ
  | v + 1, q, μ, K => q < 40 ∧ ∃ u : Nat, u ≤ 6 ∧ μ.1 (pgI q) 1 = nI u ∧ (¬ ebX μ q u (v + 1) → K (-1) μ) ∧ (ebX μ q u (v + 1) → (if v = 0 then K (nI u) μ else ebL (fun c ν K' => ebW v c ν K') q K 7 0 0 μ))
def ebR (v : Nat) : Room := { frames := v + 3, cells := 0, slots := 0, locals := 27 * v + 50 }
def whW (μ : Mu) (K : Bool → Mu → Prop) : Prop := ∃ q v : Nat, q < 40 ∧ v < 2 ^ 30 ∧ μ.1 2 0 = nI q ∧ μ.1 (pgI q) 0 = nI v ∧ (if 1 ≤ v ∧ v ≤ 4 then ebW v q μ (fun x ν => K (decide (x = ν.1 2 1)) ν) else K false μ)
set_option maxHeartbeats 4000000 in
set_option maxRecDepth 100000 in
theorem cTr_isChanged {l : Launch} {Y : Yt} (hY : YB Y) (hW : YW Y) {q : Nat} (hq : q < 40) (μ : Mu) (hb : tB (chg μ q)) : Ct l Y yTr_isChanged wTr_isChanged ({ frames := 1, cells := 0, slots := 0, locals := 21 }) [.ref (ad Y 2), .int (nI q)] μ (PE (some (.int (chg μ q))) μ) := by
  refine ct_of hY.1 (by decide) rfl (Nat.le_of_ble_eq_true rfl) (lv := [some (.ref (ad Y 2)), some (.int (nI q))]) rfl (fun X hC => ?_)
  have hB := hC.B
  obtain ⟨hFa, hDi, hTr, hSe, h4, h5, h6b, h7, h8, hpages, htrail, hturns, hplaces, hlog, hlp, hfound, hwait, hsq, hlk, hPg, hrow, hlrow, hfb⟩ := id hW
  have hqa := (hPg q hq).2.1
  refine v_iload_n hB dTr_isChanged_0 rfl ?_
  refine v_if_ne hB 11 dTr_isChanged_1 (by decide) (fun c => ?_) (fun c => ?_)
  · have h0 : q ≠ 0 := fun z => c (by rw [z]; rfl)
    rw [chg, if_neg h0] at hb ⊢
    refine v_aload_n hB dTr_isChanged_11 rfl ?_
    refine v_iload_n hB dTr_isChanged_12 rfl ?_
    refine v_callV hC tbok kmTr_46 kiTr_at ksTr_at dTr_isChanged_13 (F := FTr Y _) (by assumption) (by rw [hY.2]; rfl) (cTr_at hY hW hq μ) rfl rfl ⟨Nat.le_of_ble_eq_true rfl, Nat.le_of_ble_eq_true rfl⟩ rfl rfl (Nat.le_of_ble_eq_true rfl) ⟨Nat.zero_le _, Nat.zero_le _⟩ (kE rfl ?_)
    refine v_get hC (klPa hY.2) (F := FPa Y _) (by assumption) 2 dTr_isChanged_16 kfTr_88 (by decide) rfl ?_
    exact v_zret hC rfl (tB_z hb) dTr_isChanged_19 ⟨rfl, rfl⟩
  · have h0 : q = 0 := (nI_eq (b := 0) (by omega) (by omega)).mp c
    rw [chg, if_pos h0] at hb ⊢
    refine v_aload_n hB dTr_isChanged_4 rfl ?_
    refine v_get hC (klTr hY.2) (F := FTr Y _) (by assumption) 2 dTr_isChanged_5 kfTr_84 (by decide) rfl ?_
    refine v_goto hB 19 dTr_isChanged_8 (by decide) ?_
    exact v_zret hC rfl (tB_z hb) dTr_isChanged_19 ⟨rfl, rfl⟩

set_option maxHeartbeats 4000000 in
set_option maxRecDepth 100000 in
theorem cTr_changedPages {l : Launch} {Y : Yt} (hY : YB Y) (hW : YW Y) (μ : Mu) (hb : ∀ q, q < 40 → tB (chg μ q)) : Ct l Y yTr_changedPages wTr_changedPages ({ frames := 2, cells := 0, slots := 0, locals := 42 }) [.ref (ad Y 2)] μ (PE (some (.int (nI (cnt μ 40)))) μ) := by
  refine ct_of hY.1 (by decide) rfl (Nat.le_of_ble_eq_true rfl) (lv := [some (.ref (ad Y 2)), none, none]) rfl (fun X hC => ?_)
  have hB := hC.B
  obtain ⟨hFa, hDi, hTr, hSe, h4, h5, h6b, h7, h8, hpages, htrail, hturns, hplaces, hlog, hlp, hfound, hwait, hsq, hlk, hPg, hrow, hlrow, hfb⟩ := id hW
  have loop : ∀ (r k : Nat), k + r = 40 → VG X (yA Y) 3 0 0 (VQ X Y (PE (some (.int (nI (cnt μ 40)))) μ)) (yI Y (μ)) 4 [some (.ref (ad Y 2)), some (.int (nI (cnt μ k))), some (.int (nI k))] [] := by
    intro r
    induction r with
    | zero =>
      intro k hk
      obtain rfl : k = 40 := by omega
      refine v_iload_n hB dTr_changedPages_4 rfl ?_
      refine v_bipush hB dTr_changedPages_5 (v := 40) (by decide) ?_
      refine v_icmp_ge hB 32 dTr_changedPages_7 (by decide) (fun c => ?_) (fun c => ?_)
      · refine v_iload_n hB dTr_changedPages_32 rfl ?_
        exact v_iret hC rfl dTr_changedPages_33 ⟨rfl, rfl⟩
      · exact absurd (by rw [show (40 : Int32) = nI 40 from rfl]; exact nI_le (by omega) (by omega)) c
    | succ r ih =>
      intro k hk
      refine v_iload_n hB dTr_changedPages_4 rfl ?_
      refine v_bipush hB dTr_changedPages_5 (v := 40) (by decide) ?_
      refine v_icmp_ge hB 32 dTr_changedPages_7 (by decide) (fun c => ?_) (fun c => ?_)
      · exact absurd c (by rw [show (40 : Int32) = nI 40 from rfl]; exact (fun q => absurd ((nI_leI (by omega) (by omega)).mp q) (by omega)))
      refine v_iload_n hB dTr_changedPages_10 rfl ?_
      refine v_aload_n hB dTr_changedPages_11 rfl ?_
      refine v_iload_n hB dTr_changedPages_12 rfl ?_
      refine v_callV hC tbok kmTr_80 kiTr_isChanged ksTr_isChanged dTr_changedPages_13 (F := FTr Y _) (by assumption) (by rw [hY.2]; rfl) (cTr_isChanged hY hW (q := k) (by omega) μ (hb k (by omega))) rfl rfl ⟨Nat.le_of_ble_eq_true rfl, Nat.le_of_ble_eq_true rfl⟩ rfl rfl (Nat.le_of_ble_eq_true rfl) ⟨Nat.zero_le _, Nat.zero_le _⟩ (kE rfl ?_)
      refine v_if_eq hB 23 dTr_changedPages_16 (by decide) (fun c1 => ?_) (fun c1 => ?_)
      · refine v_iconst hB dTr_changedPages_23 (v := 0) (by decide) ?_
        refine v_iadd hB dTr_changedPages_24 ?_
        refine v_istore_n hB dTr_changedPages_25 rfl (by decide) (lv' := [_, _, _]) rfl ?_
        refine v_iinc hB dTr_changedPages_26 rfl (y := _) rfl rfl (by decide) (lv' := [_, _, _]) rfl ?_
        refine v_goto hB 4 dTr_changedPages_29 (by decide) ?_
        rw [i1, show nI (cnt μ k) + 0 = nI (cnt μ (k + 1)) by rw [cnt, if_pos c1]; exact nI_add _ 0]
        exact ih (k + 1) (by omega)
      · refine v_iconst hB dTr_changedPages_19 (v := 1) (by decide) ?_
        refine v_goto hB 24 dTr_changedPages_20 (by decide) ?_
        refine v_iadd hB dTr_changedPages_24 ?_
        refine v_istore_n hB dTr_changedPages_25 rfl (by decide) (lv' := [_, _, _]) rfl ?_
        refine v_iinc hB dTr_changedPages_26 rfl (y := _) rfl rfl (by decide) (lv' := [_, _, _]) rfl ?_
        refine v_goto hB 4 dTr_changedPages_29 (by decide) ?_
        rw [i1, nI_1, show cnt μ k + 1 = cnt μ (k + 1) by rw [cnt, if_neg c1]]
        exact ih (k + 1) (by omega)
  refine v_iconst hB dTr_changedPages_0 (v := 0) (by decide) ?_
  refine v_istore_n hB dTr_changedPages_1 rfl (by decide) (lv' := [_, _, _]) rfl ?_
  refine v_iconst hB dTr_changedPages_2 (v := 0) (by decide) ?_
  refine v_istore_n hB dTr_changedPages_3 rfl (by decide) (lv' := [_, _, _]) rfl ?_
  exact loop 40 0 (by decide)

set_option maxHeartbeats 4000000 in
set_option maxRecDepth 100000 in
theorem cTr_markUnchanged {l : Launch} {Y : Yt} (hY : YB Y) (hW : YW Y) (μ : Mu) : Ct l Y yTr_markUnchanged wTr_markUnchanged ({ frames := 0, cells := 0, slots := 0, locals := 0 }) [.ref (ad Y 2)] μ (PE none (muM μ)) := by
  refine ct_of hY.1 (by decide) rfl (Nat.le_of_ble_eq_true rfl) (lv := [some (.ref (ad Y 2)), none]) rfl (fun X hC => ?_)
  have hB := hC.B
  obtain ⟨hFa, hDi, hTr, hSe, h4, h5, h6b, h7, h8, hpages, htrail, hturns, hplaces, hlog, hlp, hfound, hwait, hsq, hlk, hPg, hrow, hlrow, hfb⟩ := id hW
  have loop : ∀ (r k : Nat) (ν : Mu), k + r = 40 → muL r k ν = muM μ → VG X (yA Y) 2 0 0 (VQ X Y (PE none (muM μ))) (yI Y (ν)) 7 [some (.ref (ad Y 2)), some (.int (nI k))] [] := by
    intro r
    induction r with
    | zero =>
      intro k ν hk hf
      refine v_iload_n hB dTr_markUnchanged_7 rfl ?_
      refine v_bipush hB dTr_markUnchanged_8 (v := 40) (by decide) ?_
      refine v_icmp_ge hB 29 dTr_markUnchanged_10 (by decide) (fun c => ?_) (fun c => ?_)
      · exact v_vret hC rfl dTr_markUnchanged_29 ⟨rfl, hf⟩
      · exact absurd (by rw [show (40 : Int32) = nI 40 from rfl]; exact nI_le (by omega) (by omega)) c
    | succ r ih =>
      intro k ν hk hf
      have hka := (hPg k (by omega)).2.1
      refine v_iload_n hB dTr_markUnchanged_7 rfl ?_
      refine v_bipush hB dTr_markUnchanged_8 (v := 40) (by decide) ?_
      refine v_icmp_ge hB 29 dTr_markUnchanged_10 (by decide) (fun c => ?_) (fun c => ?_)
      · exact absurd c (by rw [show (40 : Int32) = nI 40 from rfl]; exact (fun q => absurd ((nI_leI (by omega) (by omega)).mp q) (by omega)))
      refine v_aload_n hB dTr_markUnchanged_13 rfl ?_
      refine v_get hC (klTr hY.2) (F := FTr Y _) (by assumption) 3 dTr_markUnchanged_14 kfTr_11 (by decide) rfl ?_
      refine v_iload_n hB dTr_markUnchanged_17 rfl ?_
      refine v_aald hC hpages k dTr_markUnchanged_18 rfl (by omega) (by decide) ?_
      refine v_iconst hB dTr_markUnchanged_19 (v := 0) (by decide) ?_
      refine v_puti hC (klPa hY.2) (F := FPa Y _) (by assumption) 2 dTr_markUnchanged_20 kfTr_88 (by decide) rfl (by decide) (by decide) (fun _ _ => rfl) (fun _ _ => Nat.le_of_ble_eq_true rfl) ?_
      refine v_iinc hB dTr_markUnchanged_23 rfl (y := _) rfl rfl (by decide) (lv' := [_, _]) rfl ?_
      refine v_goto hB 7 dTr_markUnchanged_26 (by decide) ?_
      rw [i1]
      exact ih (k + 1) _ (by omega) hf
  refine v_aload_n hB dTr_markUnchanged_0 rfl ?_
  refine v_iconst hB dTr_markUnchanged_1 (v := 0) (by decide) ?_
  refine v_puti hC (klTr hY.2) (F := FTr Y _) (by assumption) 2 dTr_markUnchanged_2 kfTr_84 (by decide) rfl (by decide) (by decide) (fun _ _ => rfl) (fun _ _ => Nat.le_of_ble_eq_true rfl) ?_
  refine v_iconst hB dTr_markUnchanged_5 (v := 0) (by decide) ?_
  refine v_istore_n hB dTr_markUnchanged_6 rfl (by decide) (lv' := [_, _]) rfl ?_
  exact loop 40 0 _ (by decide) rfl

set_option maxHeartbeats 4000000 in
set_option maxRecDepth 100000 in
theorem cTr_forget {l : Launch} {Y : Yt} (hY : YB Y) (hW : YW Y) (μ : Mu) : Ct l Y yTr_forget wTr_forget ({ frames := 1, cells := 0, slots := 0, locals := 21 }) [.ref (ad Y 2)] μ (PE none (fgM μ)) := by
  refine ct_of hY.1 (by decide) rfl (Nat.le_of_ble_eq_true rfl) (lv := [some (.ref (ad Y 2)), none]) rfl (fun X hC => ?_)
  have hB := hC.B
  obtain ⟨hFa, hDi, hTr, hSe, h4, h5, h6b, h7, h8, hpages, htrail, hturns, hplaces, hlog, hlp, hfound, hwait, hsq, hlk, hPg, hrow, hlrow, hfb⟩ := id hW
  have loop : ∀ (r k : Nat) (ν : Mu), k + r = 40 → muM (fgL r k ν) = fgM μ → VG X (yA Y) 2 0 0 (VQ X Y (PE none (fgM μ))) (yI Y (ν)) 12 [some (.ref (ad Y 2)), some (.int (nI k))] [] := by
    intro r
    induction r with
    | zero =>
      intro k ν hk hf
      refine v_iload_n hB dTr_forget_12 rfl ?_
      refine v_bipush hB dTr_forget_13 (v := 40) (by decide) ?_
      refine v_icmp_ge hB 34 dTr_forget_15 (by decide) (fun c => ?_) (fun c => ?_)
      · refine v_aload_n hB dTr_forget_34 rfl ?_
        refine v_callV hC tbok kmTr_107 kiTr_markUnchanged ksTr_markUnchanged dTr_forget_35 (F := FTr Y _) (by assumption) (by rw [hY.2]; rfl) (cTr_markUnchanged hY hW ν) rfl rfl ⟨Nat.le_of_ble_eq_true rfl, Nat.le_of_ble_eq_true rfl⟩ rfl rfl (Nat.le_of_ble_eq_true rfl) ⟨Nat.zero_le _, Nat.zero_le _⟩ (kE rfl ?_)
        exact v_vret hC rfl dTr_forget_38 ⟨rfl, hf⟩
      · exact absurd (by rw [show (40 : Int32) = nI 40 from rfl]; exact nI_le (by omega) (by omega)) c
    | succ r ih =>
      intro k ν hk hf
      have hkP := hPg k (by omega)
      refine v_iload_n hB dTr_forget_12 rfl ?_
      refine v_bipush hB dTr_forget_13 (v := 40) (by decide) ?_
      refine v_icmp_ge hB 34 dTr_forget_15 (by decide) (fun c => ?_) (fun c => ?_)
      · exact absurd c (by rw [show (40 : Int32) = nI 40 from rfl]; exact (fun q => absurd ((nI_leI (by omega) (by omega)).mp q) (by omega)))
      refine v_aload_n hB dTr_forget_18 rfl ?_
      refine v_get hC (klTr hY.2) (F := FTr Y _) (by assumption) 3 dTr_forget_19 kfTr_11 (by decide) rfl ?_
      refine v_iload_n hB dTr_forget_22 rfl ?_
      refine v_aald hC hpages k dTr_forget_23 rfl (by omega) (by decide) ?_
      refine v_iconst hB dTr_forget_24 (v := 0) (by decide) ?_
      refine v_callV hC tbok kmTr_104 kiPa_open ksPa_open dTr_forget_25 (F := FPa Y _) hkP.2.1 (by rw [hY.2]; rfl) (cPa_open hY hkP 0 ν) rfl rfl ⟨Nat.le_of_ble_eq_true rfl, Nat.le_of_ble_eq_true rfl⟩ rfl rfl (Nat.le_of_ble_eq_true rfl) ⟨Nat.zero_le _, Nat.zero_le _⟩ (kE rfl ?_)
      refine v_iinc hB dTr_forget_28 rfl (y := _) rfl rfl (by decide) (lv' := [_, _]) rfl ?_
      refine v_goto hB 12 dTr_forget_31 (by decide) ?_
      rw [i1]
      exact ih (k + 1) _ (by omega) hf
  refine v_aload_n hB dTr_forget_0 rfl ?_
  refine v_iconst hB dTr_forget_1 (v := 0) (by decide) ?_
  refine v_puti hC (klTr hY.2) (F := FTr Y _) (by assumption) 0 dTr_forget_2 kfTr_39 (by decide) rfl rfl rfl (fun _ _ => rfl) (fun _ _ => Nat.le_of_ble_eq_true rfl) ?_
  refine v_aload_n hB dTr_forget_5 rfl ?_
  refine v_iconst hB dTr_forget_6 (v := 0) (by decide) ?_
  refine v_puti hC (klTr hY.2) (F := FTr Y _) (by assumption) 1 dTr_forget_7 kfTr_54 (by decide) rfl rfl rfl (fun _ _ => rfl) (fun _ _ => Nat.le_of_ble_eq_true rfl) ?_
  refine v_iconst hB dTr_forget_10 (v := 0) (by decide) ?_
  refine v_istore_n hB dTr_forget_11 rfl (by decide) (lv' := [_, _]) rfl ?_
  exact loop 40 0 _ (by decide) rfl

set_option maxHeartbeats 4000000 in
set_option maxRecDepth 100000 in
theorem cTr_writePage {l : Launch} {Y : Yt} (hY : YB Y) (hW : YW Y) {q r : Nat} (hq : q < 40) (hr : AI Y r 27) {μ : Mu} {K : Mu → Prop} (h : wpW μ q r K) : Ct l Y yTr_writePage wTr_writePage ({ frames := 1, cells := 0, slots := 0, locals := 23 }) [.ref (ad Y 2), .int (nI q), .ref (ad Y r)] μ (PV K) := by
  refine ct_of hY.1 (by decide) rfl (Nat.le_of_ble_eq_true rfl) (lv := [some (.ref (ad Y 2)), some (.int (nI q)), some (.ref (ad Y r))]) rfl (fun X hC => ?_)
  have hB := hC.B
  obtain ⟨hFa, hDi, hTr, hSe, h4, h5, h6b, h7, h8, hpages, htrail, hturns, hplaces, hlog, hlp, hfound, hwait, hsq, hlk, hPg, hrow, hlrow, hfb⟩ := id hW
  have hqP := hPg q hq
  refine v_iload_n hB dTr_writePage_0 rfl ?_
  refine v_if_ne hB 21 dTr_writePage_1 (by decide) (fun c => ?_) (fun c => ?_)
  · have h0 : q ≠ 0 := fun z => c (by rw [z]; rfl)
    rw [wpW, if_neg h0] at h
    obtain ⟨u, hu5, hu, hK⟩ := h
    refine v_aload_n hB dTr_writePage_21 rfl ?_
    refine v_iload_n hB dTr_writePage_22 rfl ?_
    refine v_callV hC tbok kmTr_46 kiTr_at ksTr_at dTr_writePage_23 (F := FTr Y _) (by assumption) (by rw [hY.2]; rfl) (cTr_at hY hW hq μ) rfl rfl ⟨Nat.le_of_ble_eq_true rfl, Nat.le_of_ble_eq_true rfl⟩ rfl rfl (Nat.le_of_ble_eq_true rfl) ⟨Nat.zero_le _, Nat.zero_le _⟩ (kE rfl ?_)
    refine v_aload_n hB dTr_writePage_26 rfl ?_
    refine v_callV hC tbok kmTr_91 kiPa_writeTo ksPa_writeTo dTr_writePage_27 (F := FPa Y _) hqP.2.1 (by rw [hY.2]; rfl) (cPa_writeTo hY hqP hr μ hu hu5) rfl rfl ⟨Nat.le_of_ble_eq_true rfl, Nat.le_of_ble_eq_true rfl⟩ rfl rfl (Nat.le_of_ble_eq_true rfl) ⟨Nat.zero_le _, Nat.zero_le _⟩ (kE rfl ?_)
    exact v_vret hC rfl dTr_writePage_30 ⟨rfl, hK⟩
  · have h0 : q = 0 := (nI_eq (b := 0) (by omega) (by omega)).mp c
    rw [wpW, if_pos h0] at h
    refine v_aload_n hB dTr_writePage_4 rfl ?_
    refine v_iconst hB dTr_writePage_5 (v := 0) (by decide) ?_
    refine v_aload_n hB dTr_writePage_6 rfl ?_
    refine v_get hC (klTr hY.2) (F := FTr Y _) (by assumption) 0 dTr_writePage_7 kfTr_39 (by decide) rfl ?_
    refine v_iast hC hr 0 dTr_writePage_10 rfl (by omega) (by decide) ?_
    refine v_aload_n hB dTr_writePage_11 rfl ?_
    refine v_iconst hB dTr_writePage_12 (v := 1) (by decide) ?_
    refine v_aload_n hB dTr_writePage_13 rfl ?_
    refine v_get hC (klTr hY.2) (F := FTr Y _) (by assumption) 1 dTr_writePage_14 kfTr_54 (by decide) rfl ?_
    refine v_iast hC hr 1 dTr_writePage_17 rfl (by omega) (by decide) ?_
    refine v_goto hB 30 dTr_writePage_18 (by decide) ?_
    exact v_vret hC rfl dTr_writePage_30 ⟨rfl, h⟩

set_option maxHeartbeats 4000000 in
set_option maxRecDepth 100000 in
theorem cTr_readFrom {l : Launch} {Y : Yt} (hY : YB Y) (hW : YW Y) {μ : Mu} {K : Mu → Prop} (h : rfW μ K) : Ct l Y yTr_readFrom wTr_readFrom ({ frames := 2, cells := 0, slots := 0, locals := 48 }) [.ref (ad Y 2), .ref (ad Y 1)] μ (PV K) := by
  refine ct_of hY.1 (by decide) rfl (Nat.le_of_ble_eq_true rfl) (lv := [some (.ref (ad Y 2)), some (.ref (ad Y 1)), none]) rfl (fun X hC => ?_)
  have hB := hC.B
  obtain ⟨hFa, hDi, hTr, hSe, h4, h5, h6b, h7, h8, hpages, htrail, hturns, hplaces, hlog, hlp, hfound, hwait, hsq, hlk, hPg, hrow, hlrow, hfb⟩ := id hW
  have hrow0 := hrow 0 (by decide)
  have loop : ∀ (r q : Nat) (ν : Mu), q + r = 40 → rfL K r q ν → VG X (yA Y) 3 0 0 (VQ X Y (PV K)) (yI Y (ν)) 31 [some (.ref (ad Y 2)), some (.ref (ad Y 1)), some (.int (nI q))] [] := by
    intro r
    induction r with
    | zero =>
      intro q ν hk hf
      refine v_iload_n hB dTr_readFrom_31 rfl ?_
      refine v_bipush hB dTr_readFrom_32 (v := 40) (by decide) ?_
      refine v_icmp_ge hB 58 dTr_readFrom_34 (by decide) (fun c => ?_) (fun c => ?_)
      · exact v_vret hC rfl dTr_readFrom_58 ⟨rfl, hf⟩
      · exact absurd (by rw [show (40 : Int32) = nI 40 from rfl]; exact nI_le (by omega) (by omega)) c
    | succ r ih =>
      rintro q ν hk ⟨u, hu5, hu, hf⟩
      have hq : q < 40 := by omega
      have hqP := hPg q hq
      refine v_iload_n hB dTr_readFrom_31 rfl ?_
      refine v_bipush hB dTr_readFrom_32 (v := 40) (by decide) ?_
      refine v_icmp_ge hB 58 dTr_readFrom_34 (by decide) (fun c => ?_) (fun c => ?_)
      · exact absurd c (by rw [show (40 : Int32) = nI 40 from rfl]; exact (fun q => absurd ((nI_leI (by omega) (by omega)).mp q) (by omega)))
      refine v_aload_n hB dTr_readFrom_37 rfl ?_
      refine v_get hC (klTr hY.2) (F := FTr Y _) (by assumption) 3 dTr_readFrom_38 kfTr_11 (by decide) rfl ?_
      refine v_iload_n hB dTr_readFrom_41 rfl ?_
      refine v_aald hC hpages q dTr_readFrom_42 rfl (by omega) (by decide) ?_
      refine v_aload_n hB dTr_readFrom_43 rfl ?_
      refine v_get hC (klDi hY.2) (F := FDi Y _) (by assumption) 0 dTr_readFrom_44 kfTr_95 (by decide) rfl ?_
      refine v_iload_n hB dTr_readFrom_47 rfl ?_
      refine v_aald hC hplaces q dTr_readFrom_48 rfl (by omega) (by decide) ?_
      refine v_callV hC tbok kmTr_101 kiPa_readFrom ksPa_readFrom dTr_readFrom_49 (F := FPa Y _) hqP.2.1 (by rw [hY.2]; rfl) (cPa_readFrom hY hqP (hrow q hq) ν hu hu5) rfl rfl ⟨Nat.le_of_ble_eq_true rfl, Nat.le_of_ble_eq_true rfl⟩ rfl rfl (Nat.le_of_ble_eq_true rfl) ⟨Nat.zero_le _, Nat.zero_le _⟩ (kE rfl ?_)
      refine v_iinc hB dTr_readFrom_52 rfl (y := _) rfl rfl (by decide) (lv' := [_, _, _]) rfl ?_
      refine v_goto hB 31 dTr_readFrom_55 (by decide) ?_
      rw [i1]
      exact ih (q + 1) _ (by omega) hf
  refine v_aload_n hB dTr_readFrom_0 rfl ?_
  refine v_aload_n hB dTr_readFrom_1 rfl ?_
  refine v_get hC (klDi hY.2) (F := FDi Y _) (by assumption) 0 dTr_readFrom_2 kfTr_95 (by decide) rfl ?_
  refine v_iconst hB dTr_readFrom_5 (v := 0) (by decide) ?_
  refine v_aald hC hplaces 0 dTr_readFrom_6 rfl (by omega) (by decide) ?_
  refine v_iconst hB dTr_readFrom_7 (v := 0) (by decide) ?_
  refine v_iald hC hrow0 0 dTr_readFrom_8 rfl (by omega) (by decide) ?_
  refine v_puti hC (klTr hY.2) (F := FTr Y _) (by assumption) 0 dTr_readFrom_9 kfTr_39 (by decide) rfl rfl rfl (fun _ _ => rfl) (fun _ _ => Nat.le_of_ble_eq_true rfl) ?_
  refine v_aload_n hB dTr_readFrom_12 rfl ?_
  refine v_aload_n hB dTr_readFrom_13 rfl ?_
  refine v_get hC (klDi hY.2) (F := FDi Y _) (by assumption) 0 dTr_readFrom_14 kfTr_95 (by decide) rfl ?_
  refine v_iconst hB dTr_readFrom_17 (v := 0) (by decide) ?_
  refine v_aald hC hplaces 0 dTr_readFrom_18 rfl (by omega) (by decide) ?_
  refine v_iconst hB dTr_readFrom_19 (v := 1) (by decide) ?_
  refine v_iald hC hrow0 1 dTr_readFrom_20 rfl (by omega) (by decide) ?_
  refine v_puti hC (klTr hY.2) (F := FTr Y _) (by assumption) 1 dTr_readFrom_21 kfTr_54 (by decide) rfl rfl rfl (fun _ _ => rfl) (fun _ _ => Nat.le_of_ble_eq_true rfl) ?_
  refine v_aload_n hB dTr_readFrom_24 rfl ?_
  refine v_iconst hB dTr_readFrom_25 (v := 0) (by decide) ?_
  refine v_puti hC (klTr hY.2) (F := FTr Y _) (by assumption) 2 dTr_readFrom_26 kfTr_84 (by decide) rfl (by decide) (by decide) (fun _ _ => rfl) (fun _ _ => Nat.le_of_ble_eq_true rfl) ?_
  refine v_iconst hB dTr_readFrom_29 (v := 1) (by decide) ?_
  refine v_istore_n hB dTr_readFrom_30 rfl (by decide) (lv' := [_, _, _]) rfl ?_
  exact loop 39 1 _ (by decide) h

set_option maxHeartbeats 4000000 in
set_option maxRecDepth 100000 in
theorem cTr_entriesBelow {l : Launch} {Y : Yt} (hY : YB Y) (hW : YW Y) : ∀ (v q : Nat) (μ : Mu) (K : Int32 → Mu → Prop), v ≤ 4 → ebW v q μ K → Ct l Y yTr_entriesBelow wTr_entriesBelow (ebR v) [.ref (ad Y 2), .int (nI q), .int (nI v)] μ (PI K) := by
  obtain ⟨hFa, hDi, hTr, hSe, h4, h5, h6b, h7, h8, hpages, htrail, hturns, hplaces, hlog, hlp, hfound, hwait, hsq, hlk, hPg, hrow, hlrow, hfb⟩ := id hW
  intro v
  induction v with
  | zero =>
    rintro q μ K hv4 ⟨hq, h⟩
    have hqP := hPg q hq
    refine ct_of hY.1 (by decide) rfl (Nat.le_of_ble_eq_true rfl) (lv := [some (.ref (ad Y 2)), some (.int (nI q)), some (.int (nI 0)), none, none, none, none, none]) rfl (fun X hC => ?_)
    have hB := hC.B
    refine v_aload_n hB dTr_entriesBelow_0 rfl ?_
    refine v_iload_n hB dTr_entriesBelow_1 rfl ?_
    refine v_callV hC tbok kmTr_46 kiTr_at ksTr_at dTr_entriesBelow_2 (F := FTr Y _) (by assumption) (by rw [hY.2]; rfl) (cTr_at hY hW hq μ) rfl rfl ⟨by simp only [ebR]; omega, by simp only [ebR]; omega⟩ rfl rfl (Nat.le_of_ble_eq_true rfl) ⟨Nat.zero_le _, Nat.zero_le _⟩ (kE rfl ?_)
    refine v_astore_n hB dTr_entriesBelow_5 rfl (by decide) (lv' := [_, _, _, _, _, _, _, _]) rfl ?_
    refine v_iload_n hB dTr_entriesBelow_6 rfl ?_
    refine v_iconst hB dTr_entriesBelow_7 (v := 1) (by decide) ?_
    refine v_icmp_lt hB 43 dTr_entriesBelow_8 (by decide) (fun c => ?_) (fun c => ?_)
    · refine v_iconst hB dTr_entriesBelow_43 (v := -1) (by decide) ?_
      exact v_iret hC rfl dTr_entriesBelow_44 ⟨_, rfl, h⟩
    · exact absurd (by decide) c
  | succ v ih =>
    rintro q μ K hv4 ⟨hq, u, hu6, hu, hno, hyes⟩
    have hqP := hPg q hq
    obtain ⟨-, hqa, hqar, hqbx⟩ := hPg q hq
    refine ct_of hY.1 (by decide) rfl (Nat.le_of_ble_eq_true rfl) (lv := [some (.ref (ad Y 2)), some (.int (nI q)), some (.int (nI (v + 1))), none, none, none, none, none]) rfl (fun X hC => ?_)
    have hB := hC.B
    have bad : ¬ ebX μ q u (v + 1) → VG X (yA Y) 8 0 0 (VQ X Y (PI K)) (yI Y (μ)) 43 [some (.ref (ad Y 2)), some (.int (nI q)), some (.int (nI (v + 1))), some (.ref (ad Y (pgI q))), none, none, none, none] [] := by
      intro hx
      refine v_iconst hB dTr_entriesBelow_43 (v := -1) (by decide) ?_
      exact v_iret hC rfl dTr_entriesBelow_44 ⟨_, rfl, hno hx⟩
    have good : ebX μ q u (v + 1) → VG X (yA Y) 8 0 0 (VQ X Y (PI K)) (yI Y (μ)) 45 [some (.ref (ad Y 2)), some (.int (nI q)), some (.int (nI (v + 1))), some (.ref (ad Y (pgI q))), none, none, none, none] [] := by
      intro hx
      have hg := hyes hx
      refine v_iload_n hB dTr_entriesBelow_45 rfl ?_
      refine v_iconst hB dTr_entriesBelow_46 (v := 1) (by decide) ?_
      refine v_icmp_ne hB 55 dTr_entriesBelow_47 (by decide) (fun c => ?_) (fun c => ?_)
      rotate_left
      · have hv0 : v = 0 := by
          have := (nI_eq (a := v + 1) (b := 1) (by omega) (by omega)).mp c
          omega
        rw [if_pos hv0] at hg
        refine v_aload_n hB dTr_entriesBelow_50 rfl ?_
        refine v_get hC (klPa hY.2) (F := FPa Y _) (by assumption) 1 dTr_entriesBelow_51 kfTr_129 (by decide) rfl ?_
        exact v_iret hC rfl dTr_entriesBelow_54 ⟨_, rfl, by rw [hu]; exact hg⟩
      have hv0 : v ≠ 0 := fun z => c (by rw [z]; rfl)
      rw [if_neg hv0] at hg
      have loop : ∀ (r k : Nat) (s : Int32) (ν : Mu), k + r ≤ 7 → ebL (fun c ν K' => ebW v c ν K') q K r k s ν → VG X (yA Y) 8 0 0 (VQ X Y (PI K)) (yI Y (ν)) 61 [some (.ref (ad Y 2)), some (.int (nI q)), some (.int (nI (v + 1))), some (.ref (ad Y (pgI q))), some (.int s), some (.int (nI k)), none, none] [] := by
        intro r
        induction r with
        | zero =>
          intro k s ν hk7 h
          exact h.elim
        | succ r ihr =>
          rintro k s ν hk7 ⟨u, hu6, hu, hi⟩
          refine v_iload hB dTr_entriesBelow_61 rfl ?_
          refine v_aload_n hB dTr_entriesBelow_63 rfl ?_
          refine v_get hC (klPa hY.2) (F := FPa Y _) (by assumption) 1 dTr_entriesBelow_64 kfTr_129 (by decide) rfl ?_
          rw [hu]
          by_cases hku : k < u
          · rw [if_pos hku] at hi
            obtain ⟨c, uc, hc, huc6, hcb, huc, hi⟩ := hi
            have hbk := hqbx k (by omega)
            have hcP := hPg c hc
            refine v_icmp_ge hB 158 dTr_entriesBelow_67 (by decide) (fun c1 => ?_) (fun c1 => ?_)
            · exact absurd c1 (fun q => absurd ((nI_leI (by omega) (by omega)).mp q) (by omega))
            refine v_aload_n hB dTr_entriesBelow_70 rfl ?_
            refine v_get hC (klPa hY.2) (F := FPa Y _) (by assumption) 3 dTr_entriesBelow_71 kfTr_122 (by decide) rfl ?_
            refine v_iload hB dTr_entriesBelow_74 rfl ?_
            refine v_aald hC hqar k dTr_entriesBelow_76 rfl (by omega) (by decide) ?_
            refine v_astore hB dTr_entriesBelow_77 rfl (by decide) (lv' := [_, _, _, _, _, _, _, _]) rfl ?_
            refine v_aload_n hB dTr_entriesBelow_79 rfl ?_
            refine v_get hC (klTr hY.2) (F := FTr Y _) (by assumption) 6 dTr_entriesBelow_80 kfTr_27 (by decide) rfl ?_
            refine v_aload hB dTr_entriesBelow_83 rfl ?_
            refine v_get hC (klBo hY.2) (F := FBo Y _) (by assumption) 4 dTr_entriesBelow_85 kfTr_126 (by decide) rfl ?_
            rw [hcb]
            refine v_puti hC (klBo hY.2) (F := FBo Y _) (by assumption) 4 dTr_entriesBelow_88 kfTr_126 (by decide) rfl rfl rfl (fun _ _ => rfl) (fun _ _ => Nat.le_of_ble_eq_true rfl) ?_
            refine v_aload_n hB dTr_entriesBelow_91 rfl ?_
            refine v_aload hB dTr_entriesBelow_92 rfl ?_
            refine v_get hC (klBo hY.2) (F := FBo Y _) (by assumption) 4 dTr_entriesBelow_94 kfTr_126 (by decide) rfl ?_
            have e1 : (wi ν 5 4 (nI c)).1 (bxI q k) 4 = nI c := by rw [wi_at]; split; rfl; exact hcb
            rw [e1]
            refine v_callV hC tbok kmTr_46 kiTr_at ksTr_at dTr_entriesBelow_97 (F := FTr Y _) (by assumption) (by rw [hY.2]; rfl) (cTr_at hY hW hc _) rfl rfl ⟨by simp only [ebR]; omega, by simp only [ebR]; omega⟩ rfl rfl (Nat.le_of_ble_eq_true rfl) ⟨Nat.zero_le _, Nat.zero_le _⟩ (kE rfl ?_)
            refine v_iconst hB dTr_entriesBelow_100 (v := -1) (by decide) ?_
            refine v_aload_n hB dTr_entriesBelow_101 rfl ?_
            refine v_get hC (klTr hY.2) (F := FTr Y _) (by assumption) 6 dTr_entriesBelow_102 kfTr_27 (by decide) rfl ?_
            refine v_callV hC tbok kmTr_168 kiPa_frame ksPa_frame dTr_entriesBelow_105 (F := FPa Y _) hcP.2.1 (by rw [hY.2]; rfl) (cPa_frame hY hcP h5 (-1) _ (by rw [wi_ne _ _ _ (pg_5 c)]; exact huc) huc6) rfl rfl ⟨by simp only [ebR]; omega, by simp only [ebR]; omega⟩ rfl rfl (Nat.le_of_ble_eq_true rfl) ⟨Nat.zero_le _, Nat.zero_le _⟩ (kE rfl ?_)
            generalize hν1 : frM (wi ν 5 4 (nI c)) c uc (-1) 5 = ν1 at hi ⊢
            have e2 : ν1.1 (bxI q k) 4 = nI c := by rw [← hν1, frM_ne _ _ _ _ (bx_5 q k)]; exact e1
            have tail : ∀ (x : Int32) (ν2 : Mu), (if x < 0 then K (-1) ν2 else ebL (fun c ν K' => ebW v c ν K') q K r (k + 1) (s + x) ν2) → VG X (yA Y) 8 0 0 (VQ X Y (PI K)) (yI Y (ν2)) 136 [some (.ref (ad Y 2)), some (.int (nI q)), some (.int (nI (v + 1))), some (.ref (ad Y (pgI q))), some (.int s), some (.int (nI k)), some (.ref (ad Y (bxI q k))), none] [.int x] := by
              intro x ν2 hx
              refine v_istore hB dTr_entriesBelow_136 rfl (by decide) (lv' := [_, _, _, _, _, _, _, _]) rfl ?_
              refine v_iload hB dTr_entriesBelow_138 rfl ?_
              refine v_if_ge hB 145 dTr_entriesBelow_140 (by decide) (fun c2 => ?_) (fun c2 => ?_)
              · rw [if_neg (Int32.not_lt.mpr c2)] at hx
                refine v_iload hB dTr_entriesBelow_145 rfl ?_
                refine v_iload hB dTr_entriesBelow_147 rfl ?_
                refine v_iadd hB dTr_entriesBelow_149 ?_
                refine v_istore hB dTr_entriesBelow_150 rfl (by decide) (lv' := [_, _, _, _, _, _, _, _]) rfl ?_
                refine v_iinc hB dTr_entriesBelow_152 rfl (y := _) rfl rfl (by decide) (lv' := [_, _, _, _, _, _, _, _]) rfl ?_
                refine v_goto hB 61 dTr_entriesBelow_155 (by decide) ?_
                refine v_drop 6 (lv' := [_, _, _, _, _, _, _, _]) rfl ?_
                refine v_drop 7 (lv' := [_, _, _, _, _, _, _, _]) rfl ?_
                rw [i1]
                exact ihr (k + 1) _ ν2 (by omega) hx
              · rw [if_pos (Int32.not_le.mp c2)] at hx
                refine v_iconst hB dTr_entriesBelow_143 (v := -1) (by decide) ?_
                exact v_iret hC rfl dTr_entriesBelow_144 ⟨_, rfl, hx⟩
            refine v_aload hB dTr_entriesBelow_108 rfl ?_
            refine v_aload_n hB dTr_entriesBelow_110 rfl ?_
            refine v_get hC (klTr hY.2) (F := FTr Y _) (by assumption) 6 dTr_entriesBelow_111 kfTr_27 (by decide) rfl ?_
            refine v_callV hC tbok kmTr_132 kiBo_isSame ksBo_isSame dTr_entriesBelow_114 (F := FBo Y _) (by assumption) (by rw [hY.2]; rfl) (cBo_isSame hY hbk h5 ν1) rfl rfl ⟨by simp only [ebR]; omega, by simp only [ebR]; omega⟩ rfl rfl (Nat.le_of_ble_eq_true rfl) ⟨Nat.zero_le _, Nat.zero_le _⟩ (kE rfl ?_)
            refine v_if_eq hB 135 dTr_entriesBelow_117 (by decide) (fun c2 => ?_) (fun c2 => ?_)
            · rw [if_neg (by rw [bI_0.mp c2]; decide)] at hi
              refine v_iconst hB dTr_entriesBelow_135 (v := -1) (by decide) ?_
              exact tail _ ν1 (by rw [if_pos (by decide)]; exact hi)
            rw [if_pos (bI_n.mp c2)] at hi
            refine v_aload_n hB dTr_entriesBelow_120 rfl ?_
            refine v_aload hB dTr_entriesBelow_121 rfl ?_
            refine v_get hC (klBo hY.2) (F := FBo Y _) (by assumption) 4 dTr_entriesBelow_123 kfTr_126 (by decide) rfl ?_
            rw [e2]
            refine v_iload_n hB dTr_entriesBelow_126 rfl ?_
            refine v_iconst hB dTr_entriesBelow_127 (v := 1) (by decide) ?_
            refine v_isub hB dTr_entriesBelow_128 ?_
            rw [nI_pred]
            refine v_callS hC tbok kmTr_76 ktTr_entriesBelow dTr_entriesBelow_129 (ih c ν1 _ (by omega) hi) rfl rfl ⟨Nat.le_refl _, by simp only [ebR]; omega⟩ rfl rfl (Nat.le_of_ble_eq_true rfl) ⟨Nat.zero_le _, Nat.zero_le _⟩ (kI fun x ν2 h2 => ?_)
            refine v_goto hB 136 dTr_entriesBelow_132 (by decide) ?_
            exact tail x ν2 h2
          · rw [if_neg hku] at hi
            refine v_icmp_ge hB 158 dTr_entriesBelow_67 (by decide) (fun c1 => ?_) (fun c1 => ?_)
            · refine v_iload hB dTr_entriesBelow_158 rfl ?_
              exact v_iret hC rfl dTr_entriesBelow_160 ⟨_, rfl, hi⟩
            · exact absurd (nI_le (by omega) (by omega)) c1
      refine v_iconst hB dTr_entriesBelow_55 (v := 0) (by decide) ?_
      refine v_istore hB dTr_entriesBelow_56 rfl (by decide) (lv' := [_, _, _, _, _, _, _, _]) rfl ?_
      refine v_iconst hB dTr_entriesBelow_58 (v := 0) (by decide) ?_
      refine v_istore hB dTr_entriesBelow_59 rfl (by decide) (lv' := [_, _, _, _, _, _, _, _]) rfl ?_
      exact loop 7 0 0 μ (by decide) hg
    refine v_aload_n hB dTr_entriesBelow_0 rfl ?_
    refine v_iload_n hB dTr_entriesBelow_1 rfl ?_
    refine v_callV hC tbok kmTr_46 kiTr_at ksTr_at dTr_entriesBelow_2 (F := FTr Y _) (by assumption) (by rw [hY.2]; rfl) (cTr_at hY hW hq μ) rfl rfl ⟨by simp only [ebR]; omega, by simp only [ebR]; omega⟩ rfl rfl (Nat.le_of_ble_eq_true rfl) ⟨Nat.zero_le _, Nat.zero_le _⟩ (kE rfl ?_)
    refine v_astore_n hB dTr_entriesBelow_5 rfl (by decide) (lv' := [_, _, _, _, _, _, _, _]) rfl ?_
    refine v_iload_n hB dTr_entriesBelow_6 rfl ?_
    refine v_iconst hB dTr_entriesBelow_7 (v := 1) (by decide) ?_
    refine v_icmp_lt hB 43 dTr_entriesBelow_8 (by decide) (fun c => ?_) (fun c => ?_)
    · exact absurd c (by rw [show (1 : Int32) = nI 1 from rfl]; exact nI_nlt (by omega) (by omega))
    refine v_aload_n hB dTr_entriesBelow_11 rfl ?_
    refine v_get hC (klPa hY.2) (F := FPa Y _) (by assumption) 0 dTr_entriesBelow_12 kfTr_35 (by decide) rfl ?_
    refine v_iload_n hB dTr_entriesBelow_15 rfl ?_
    refine v_icmp_ne hB 43 dTr_entriesBelow_16 (by decide) (fun c1 => ?_) (fun c1 => ?_)
    · exact bad (fun z => c1 z.1)
    refine v_aload_n hB dTr_entriesBelow_19 rfl ?_
    refine v_get hC (klPa hY.2) (F := FPa Y _) (by assumption) 1 dTr_entriesBelow_20 kfTr_129 (by decide) rfl ?_
    refine v_iconst hB dTr_entriesBelow_23 (v := 5) (by decide) ?_
    refine v_icmp_gt hB 43 dTr_entriesBelow_24 (by decide) (fun c2 => ?_) (fun c2 => ?_)
    · exact bad (fun z => by rw [hu, show (5 : Int32) = nI 5 from rfl, nI_ltI (by omega) (by omega)] at c2; have := z.2.1; omega)
    have hu5 : u ≤ 5 := by
      rw [hu, show (5 : Int32) = nI 5 from rfl, nI_ltI (by omega) (by omega)] at c2
      omega
    refine v_iload_n hB dTr_entriesBelow_27 rfl ?_
    refine v_aload_n hB dTr_entriesBelow_28 rfl ?_
    refine v_get hC (klTr hY.2) (F := FTr Y _) (by assumption) 0 dTr_entriesBelow_29 kfTr_39 (by decide) rfl ?_
    refine v_icmp_eq hB 45 dTr_entriesBelow_32 (by decide) (fun c3 => ?_) (fun c3 => ?_)
    · exact good ⟨c1, hu5, Or.inl c3⟩
    refine v_aload_n hB dTr_entriesBelow_35 rfl ?_
    refine v_get hC (klPa hY.2) (F := FPa Y _) (by assumption) 1 dTr_entriesBelow_36 kfTr_129 (by decide) rfl ?_
    refine v_iconst hB dTr_entriesBelow_39 (v := 2) (by decide) ?_
    refine v_icmp_ge hB 45 dTr_entriesBelow_40 (by decide) (fun c4 => ?_) (fun c4 => ?_)
    · exact good ⟨c1, hu5, Or.inr (by rw [hu, show (2 : Int32) = nI 2 from rfl, nI_leI (by omega) (by omega)] at c4; exact c4)⟩
    exact bad (fun z => by
      rcases z.2.2 with z | z
      · exact c3 z
      · exact c4 (by rw [hu, show (2 : Int32) = nI 2 from rfl]; exact nI_le z (by omega)))

set_option maxHeartbeats 4000000 in
set_option maxRecDepth 100000 in
theorem cTr_isWhole {l : Launch} {Y : Yt} (hY : YB Y) (hW : YW Y) {μ : Mu} {K : Bool → Mu → Prop} (h : whW μ K) : Ct l Y yTr_isWhole wTr_isWhole ({ frames := 8, cells := 0, slots := 0, locals := 206 }) [.ref (ad Y 2)] μ (PB K) := by
  refine ct_of hY.1 (by decide) rfl (Nat.le_of_ble_eq_true rfl) (lv := [some (.ref (ad Y 2)), none]) rfl (fun X hC => ?_)
  have hB := hC.B
  obtain ⟨hFa, hDi, hTr, hSe, h4, h5, h6b, h7, h8, hpages, htrail, hturns, hplaces, hlog, hlp, hfound, hwait, hsq, hlk, hPg, hrow, hlrow, hfb⟩ := id hW
  obtain ⟨q, v, hq, hv30, hr, hv, hi⟩ := h
  have hqa := (hPg q hq).2.1
  refine v_aload_n hB dTr_isWhole_0 rfl ?_
  refine v_aload_n hB dTr_isWhole_1 rfl ?_
  refine v_get hC (klTr hY.2) (F := FTr Y _) (by assumption) 0 dTr_isWhole_2 kfTr_39 (by decide) rfl ?_
  rw [hr]
  refine v_callV hC tbok kmTr_46 kiTr_at ksTr_at dTr_isWhole_5 (F := FTr Y _) (by assumption) (by rw [hY.2]; rfl) (cTr_at hY hW hq μ) rfl rfl ⟨Nat.le_of_ble_eq_true rfl, Nat.le_of_ble_eq_true rfl⟩ rfl rfl (Nat.le_of_ble_eq_true rfl) ⟨Nat.zero_le _, Nat.zero_le _⟩ (kE rfl ?_)
  refine v_get hC (klPa hY.2) (F := FPa Y _) (by assumption) 0 dTr_isWhole_8 kfTr_35 (by decide) rfl ?_
  rw [hv]
  refine v_istore_n hB dTr_isWhole_11 rfl (by decide) (lv' := [_, _]) rfl ?_
  refine v_iload_n hB dTr_isWhole_12 rfl ?_
  refine v_iconst hB dTr_isWhole_13 (v := 1) (by decide) ?_
  refine v_icmp_lt hB 42 dTr_isWhole_14 (by decide) (fun c => ?_) (fun c => ?_)
  · rw [if_neg (fun z => by rw [show (1 : Int32) = nI 1 from rfl, nI_ltI (by omega) (by omega)] at c; omega)] at hi
    refine v_iconst hB dTr_isWhole_42 (v := 0) (by decide) ?_
    exact v_zret hC rfl (by decide) dTr_isWhole_43 ⟨false, rfl, hi⟩
  refine v_iload_n hB dTr_isWhole_17 rfl ?_
  refine v_iconst hB dTr_isWhole_18 (v := 4) (by decide) ?_
  refine v_icmp_gt hB 42 dTr_isWhole_19 (by decide) (fun c1 => ?_) (fun c1 => ?_)
  · rw [if_neg (fun z => by rw [show (4 : Int32) = nI 4 from rfl, nI_ltI (by omega) (by omega)] at c1; omega)] at hi
    refine v_iconst hB dTr_isWhole_42 (v := 0) (by decide) ?_
    exact v_zret hC rfl (by decide) dTr_isWhole_43 ⟨false, rfl, hi⟩
  have hv14 : 1 ≤ v ∧ v ≤ 4 := by
    rw [show (1 : Int32) = nI 1 from rfl, nI_ltI (by omega) (by omega)] at c
    rw [show (4 : Int32) = nI 4 from rfl, nI_ltI (by omega) (by omega)] at c1
    omega
  rw [if_pos hv14] at hi
  refine v_aload_n hB dTr_isWhole_22 rfl ?_
  refine v_aload_n hB dTr_isWhole_23 rfl ?_
  refine v_get hC (klTr hY.2) (F := FTr Y _) (by assumption) 0 dTr_isWhole_24 kfTr_39 (by decide) rfl ?_
  rw [hr]
  refine v_iload_n hB dTr_isWhole_27 rfl ?_
  refine v_callS hC tbok kmTr_76 ktTr_entriesBelow dTr_isWhole_28 (cTr_entriesBelow hY hW v q μ _ hv14.2 hi) rfl rfl ⟨by simp only [ebR]; omega, by simp only [ebR]; omega⟩ rfl rfl (Nat.le_of_ble_eq_true rfl) ⟨Nat.zero_le _, Nat.zero_le _⟩ (kI fun x ν h2 => ?_)
  refine v_aload_n hB dTr_isWhole_31 rfl ?_
  refine v_get hC (klTr hY.2) (F := FTr Y _) (by assumption) 1 dTr_isWhole_32 kfTr_54 (by decide) rfl ?_
  refine v_icmp_ne hB 42 dTr_isWhole_35 (by decide) (fun c2 => ?_) (fun c2 => ?_)
  · refine v_iconst hB dTr_isWhole_42 (v := 0) (by decide) ?_
    exact v_zret hC rfl (by decide) dTr_isWhole_43 ⟨false, rfl, by rw [decide_eq_false c2] at h2; exact h2⟩
  refine v_iconst hB dTr_isWhole_38 (v := 1) (by decide) ?_
  refine v_goto hB 43 dTr_isWhole_39 (by decide) ?_
  exact v_zret hC rfl (by decide) dTr_isWhole_43 ⟨true, rfl, by rw [decide_eq_true c2] at h2; exact h2⟩

