/-! THE SEARCH. -/
theorem lc_lt {x y : Int64} : lg_cmp x y < 0 ↔ x < y := by
  unfold lg_cmp
  by_cases h : y < x
  · rw [if_pos h]
    exact ⟨fun q => absurd q (by decide), fun q => absurd h (Int64.not_lt.mpr (Int64.le_of_lt q))⟩
  · rw [if_neg h]
    by_cases h2 : x = y
    · rw [if_pos h2]
      exact ⟨fun q => absurd q (by decide), fun q => absurd h2 (Int64.ne_of_lt q)⟩
    · rw [if_neg h2]
      exact ⟨fun _ => (Int64.lt_or_eq_of_le (Int64.not_lt.mp h)).resolve_right h2, fun _ => by decide⟩
theorem lc_eq {x y : Int64} : lg_cmp x y = 0 ↔ x = y := by
  unfold lg_cmp
  by_cases h : y < x
  · rw [if_pos h]
    exact ⟨fun q => absurd q (by decide), fun q => absurd q.symm (Int64.ne_of_lt h)⟩
  · rw [if_neg h]
    by_cases h2 : x = y
    · rw [if_pos h2]
      exact ⟨fun _ => h2, fun _ => rfl⟩
    · rw [if_neg h2]
      exact ⟨fun q => absurd q (by decide), fun q => absurd q h2⟩
theorem lc_le {x y : Int64} : lg_cmp x y ≤ 0 ↔ ¬ y < x := by
  unfold lg_cmp
  by_cases h : y < x
  · rw [if_pos h]
    exact ⟨fun q => absurd q (by decide), fun q => absurd h q⟩
  · rw [if_neg h]
    by_cases h2 : x = y
    · rw [if_pos h2]
      exact ⟨fun _ => h, fun _ => by decide⟩
    · rw [if_neg h2]
      exact ⟨fun _ => h, fun _ => by decide⟩
def awM (μ : Mu) (g : Nat) (n : Int32) (sq : Int64) : Mu := wi (wl (wi μ 16 g n) 17 g sq) 3 6 (nI (g + 1))
def bgM (μ : Mu) (n : Int32) : Mu := awM (wi (wi μ 3 6 0) 3 8 0) 0 n 0
/-- the place j is taken out of g + 1 that wait; k looks have been; it names page q -/
def li1 (μ : Mu) (j g : Nat) : Mu := wi (wi μ 3 6 (nI g)) 16 j ((wi μ 3 6 (nI g)).1 16 g)
def li2 (μ : Mu) (j g : Nat) : Mu := wl (li1 μ j g) 17 j ((li1 μ j g).2 17 g)
def liM (μ : Mu) (j g k q : Nat) : Mu := wi (wi (li2 μ j g) 18 k (nI q)) 3 8 (nI (k + 1))
def koL (e : Nat) : Nat → Mu → Mu
  | 0, μ => bec μ (fdI 0) e
  | p + 1, μ => if precB (μ.1 e) (μ.1 (fdI p)) = true then koL e p (bec μ (fdI (p + 1)) (fdI p)) else bec μ (fdI (p + 1)) e
def koM (μ : Mu) (e h : Nat) : Mu := wi (koL e h μ) 3 1 (nI (h + 1))
theorem fd_3 (p : Nat) : 3 ≠ fdI p := by unfold fdI; omega
theorem koL_3 (e : Nat) : ∀ (p : Nat) (μ : Mu), (koL e p μ).1 3 = μ.1 3
  | 0, μ => bec_ne μ e (fd_3 0)
  | p + 1, μ => by
    rw [koL]
    split
    · rw [koL_3 e p, bec_ne μ _ (fd_3 (p + 1))]
    · exact bec_ne μ e (fd_3 (p + 1))
def kcM (μ : Mu) (e : Nat) (sq : Int64) : Mu := if sq < μ.2 3 3 ∨ (sq = μ.2 3 3 ∧ precB (μ.1 e) (μ.1 7) = true) then wl (bec μ 7 e) 3 3 sq else μ
/-- the slots of page q, for a window w -/
def gsL (q w : Nat) (K : Mu → Prop) : Nat → Nat → Mu → Prop
  | 0, _, _ => False
  | r + 1, k, ν => ∃ u v : Nat, u ≤ 6 ∧ v < 2 ^ 30 ∧ ν.1 (pgI q) 1 = nI u ∧ ν.1 (pgI q) 0 = nI v ∧ (if k < u then (if meetB (ν.1 (bxI q k)) (ν.1 w) = true then (if v = 1 then ∃ h, h < 40 ∧ ν.1 3 1 = nI h ∧ gsL q w K r (k + 1) (koM ν (bxI q k) h) else ∃ g, g < 40 ∧ ν.1 3 6 = nI g ∧ gsL q w K r (k + 1) (awM ν g (ν.1 (bxI q k) 4) 0)) else gsL q w K r (k + 1) ν) else K ν)
def gaL (w : Nat) (K : Mu → Prop) : Nat → Mu → Prop
  | 0, μ => K μ
  | r + 1, μ => ∃ g, g ≤ 40 ∧ μ.1 3 6 = nI g ∧ (if 0 < g then ∃ k q, k < 40 ∧ q < 40 ∧ μ.1 3 8 = nI k ∧ μ.1 16 (g - 1) = nI q ∧ gsL q w (fun ν => gaL w K r ν) 7 0 (liM μ (g - 1) (g - 1) k q) else K μ)
def gaW (μ : Mu) (w : Nat) (K : Mu → Prop) : Prop := gaL w K 40 (bgM (wi μ 3 1 0) ((wi μ 3 1 0).1 2 0))
/-- the slots of page q, for a point -/
def asL (q : Nat) (x y : Int32) (K : Mu → Prop) : Nat → Nat → Mu → Prop
  | 0, _, _ => False
  | r + 1, k, ν => ∃ u v : Nat, u ≤ 6 ∧ v < 2 ^ 30 ∧ ν.1 (pgI q) 1 = nI u ∧ ν.1 (pgI q) 0 = nI v ∧ (if k < u then (if v = 1 then asL q x y K r (k + 1) (kcM ν (bxI q k) (sqB (ν.1 (bxI q k)) x y)) else ∃ g, g < 40 ∧ ν.1 3 6 = nI g ∧ asL q x y K r (k + 1) (awM ν g (ν.1 (bxI q k) 4) (sqB (ν.1 (bxI q k)) x y))) else K ν)
def apL (x y : Int32) (K : Mu → Prop) : Nat → Mu → Prop
  | 0, μ => K μ
  | r + 1, μ => ∃ g, g ≤ 40 ∧ μ.1 3 6 = nI g ∧ (if 0 < g then ∀ b, b < g → (∀ i, i < g → ¬ μ.2 17 i < μ.2 17 b) → (if μ.2 3 3 < μ.2 17 b then K μ else ∃ k q, k < 40 ∧ q < 40 ∧ μ.1 3 8 = nI k ∧ μ.1 16 b = nI q ∧ asL q x y (fun ν => apL x y K r ν) 7 0 (liM μ b (g - 1) k q)) else K μ)
def apW (μ : Mu) (x y : Int32) (K : Mu → Prop) : Prop := apL x y K 40 (bgM (wl μ 3 3 9223372036854775807) ((wl μ 3 3 9223372036854775807).1 2 0))
def hiN (μ : Mu) (w : Nat) : Nat → Nat
  | 0 => 0
  | k + 1 => hiN μ w k + (if holdB (μ.1 w) (μ.1 (fdI k)) = true then 1 else 0)
theorem hiN_le (μ : Mu) (w : Nat) : ∀ k, hiN μ w k ≤ k
  | 0 => Nat.le_refl 0
  | k + 1 => by
    have := hiN_le μ w k
    rw [hiN]
    split <;> omega
def lmL (w : Nat) (K : Bool → Mu → Prop) : Nat → Nat → Mu → Prop
  | 0, _, μ => K true μ
  | r + 1, i, μ => ∃ q u, q < 40 ∧ u ≤ 6 ∧ μ.1 18 i = nI q ∧ μ.1 (pgI q) 1 = nI u ∧ (if nI q = (frM μ q u (-1) 8).1 2 0 ∨ meetB ((frM μ q u (-1) 8).1 8) ((frM μ q u (-1) 8).1 w) = true then lmL w K r (i + 1) (frM μ q u (-1) 8) else K false (frM μ q u (-1) 8))
def lmW (μ : Mu) (w : Nat) (K : Bool → Mu → Prop) : Prop := ∃ k, k ≤ 40 ∧ μ.1 3 8 = nI k ∧ lmL w K k 0 μ
def lfL (x y : Int32) (K : Bool → Mu → Prop) : Nat → Nat → Mu → Prop
  | 0, _, μ => K true μ
  | r + 1, i, μ => ∃ q u, q < 40 ∧ u ≤ 6 ∧ μ.1 18 i = nI q ∧ μ.1 (pgI q) 1 = nI u ∧ (if nI q = (frM μ q u (-1) 8).1 2 0 ∨ ¬ (frM μ q u (-1) 8).2 3 3 < sqB ((frM μ q u (-1) 8).1 8) x y then lfL x y K r (i + 1) (frM μ q u (-1) 8) else K false (frM μ q u (-1) 8))
def lfW (μ : Mu) (x y : Int32) (K : Bool → Mu → Prop) : Prop := ∃ k, k ≤ 40 ∧ μ.1 3 8 = nI k ∧ lfL x y K k 0 μ
set_option maxHeartbeats 4000000 in
set_option maxRecDepth 100000 in
theorem cSe_await {l : Launch} {Y : Yt} (hY : YB Y) (hW : YW Y) {g : Nat} (n : Int32) (sq : Int64) (μ : Mu) (hg : μ.1 3 6 = nI g) (hg40 : g < 40) : Ct l Y ySe_await wSe_await ({ frames := 0, cells := 0, slots := 0, locals := 0 }) [.ref (ad Y 3), .int n, .long sq] μ (PE none (awM μ g n sq)) := by
  refine ct_of hY.1 (by decide) rfl (Nat.le_of_ble_eq_true rfl) (lv := [some (.ref (ad Y 3)), some (.int n), some (.long sq), none]) rfl (fun X hC => ?_)
  have hB := hC.B
  obtain ⟨hFa, hDi, hTr, hSe, h4, h5, h6b, h7, h8, hpages, htrail, hturns, hplaces, hlog, hlp, hfound, hwait, hsq, hlk, hPg, hrow, hlrow, hfb⟩ := id hW
  refine v_aload_n hB dSe_await_0 rfl ?_
  refine v_get hC (klSe hY.2) (F := FSe Y _) (by assumption) 6 dSe_await_1 kfSe_49 (by decide) rfl ?_
  refine v_bipush hB dSe_await_4 (v := 40) (by decide) ?_
  refine v_icmp_ge hB 39 dSe_await_6 (by decide) (fun c => ?_) (fun c => ?_)
  · exact absurd c (by rw [hg, show (40 : Int32) = nI 40 from rfl]; exact (fun q => absurd ((nI_leI (by omega) (by omega)).mp q) (by omega)))
  refine v_aload_n hB dSe_await_9 rfl ?_
  refine v_get hC (klSe hY.2) (F := FSe Y _) (by assumption) 4 dSe_await_10 kfSe_22 (by decide) rfl ?_
  refine v_aload_n hB dSe_await_13 rfl ?_
  refine v_get hC (klSe hY.2) (F := FSe Y _) (by assumption) 6 dSe_await_14 kfSe_49 (by decide) rfl ?_
  refine v_iload_n hB dSe_await_17 rfl ?_
  refine v_iast hC hwait g dSe_await_18 hg (by omega) (by decide) ?_
  refine v_aload_n hB dSe_await_19 rfl ?_
  refine v_get hC (klSe hY.2) (F := FSe Y _) (by assumption) 5 dSe_await_20 kfSe_26 (by decide) rfl ?_
  refine v_aload_n hB dSe_await_23 rfl ?_
  refine v_get hC (klSe hY.2) (F := FSe Y _) (by assumption) 6 dSe_await_24 kfSe_49 (by decide) rfl ?_
  refine v_lload_n hB dSe_await_27 rfl ?_
  refine v_last hC hsq g dSe_await_28 (by rw [wi_ne _ _ _ (show (3 : Nat) ≠ 16 by decide)]; exact hg) (by omega) (by decide) ?_
  refine v_aload_n hB dSe_await_29 rfl ?_
  refine v_dup hB dSe_await_30 rfl ?_
  refine v_get hC (klSe hY.2) (F := FSe Y _) (by assumption) 6 dSe_await_31 kfSe_49 (by decide) rfl ?_
  refine v_iconst hB dSe_await_34 (v := 1) (by decide) ?_
  refine v_iadd hB dSe_await_35 ?_
  rw [show (wl (wi μ 16 g n) 17 g sq).1 3 6 + 1 = nI (g + 1) by rw [← nI_1, ← hg]; exact congrArg (· + 1) (by show (wi μ 16 g n).1 3 6 = _; rw [wi_ne _ _ _ (show (3 : Nat) ≠ 16 by decide)])]
  refine v_puti hC (klSe hY.2) (F := FSe Y _) (by assumption) 6 dSe_await_36 kfSe_49 (by decide) rfl rfl rfl (fun _ _ => rfl) (fun _ _ => Nat.le_of_ble_eq_true rfl) ?_
  exact v_vret hC rfl dSe_await_39 ⟨rfl, rfl⟩

set_option maxHeartbeats 4000000 in
set_option maxRecDepth 100000 in
theorem cSe_begin {l : Launch} {Y : Yt} (hY : YB Y) (hW : YW Y) (n : Int32) (μ : Mu) : Ct l Y ySe_begin wSe_begin ({ frames := 1, cells := 0, slots := 0, locals := 23 }) [.ref (ad Y 3), .int n] μ (PE none (bgM μ n)) := by
  refine ct_of hY.1 (by decide) rfl (Nat.le_of_ble_eq_true rfl) (lv := [some (.ref (ad Y 3)), some (.int n)]) rfl (fun X hC => ?_)
  have hB := hC.B
  obtain ⟨hFa, hDi, hTr, hSe, h4, h5, h6b, h7, h8, hpages, htrail, hturns, hplaces, hlog, hlp, hfound, hwait, hsq, hlk, hPg, hrow, hlrow, hfb⟩ := id hW
  refine v_aload_n hB dSe_begin_0 rfl ?_
  refine v_iconst hB dSe_begin_1 (v := 0) (by decide) ?_
  refine v_puti hC (klSe hY.2) (F := FSe Y _) (by assumption) 6 dSe_begin_2 kfSe_49 (by decide) rfl rfl rfl (fun _ _ => rfl) (fun _ _ => Nat.le_of_ble_eq_true rfl) ?_
  refine v_aload_n hB dSe_begin_5 rfl ?_
  refine v_iconst hB dSe_begin_6 (v := 0) (by decide) ?_
  refine v_puti hC (klSe hY.2) (F := FSe Y _) (by assumption) 8 dSe_begin_7 kfSe_103 (by decide) rfl rfl rfl (fun _ _ => rfl) (fun _ _ => Nat.le_of_ble_eq_true rfl) ?_
  refine v_aload_n hB dSe_begin_10 rfl ?_
  refine v_iload_n hB dSe_begin_11 rfl ?_
  refine v_lconst hB dSe_begin_12 (v := 0) (by decide) ?_
  refine v_callV hC tbok kmSe_78 kiSe_await ksSe_await dSe_begin_13 (F := FSe Y _) (by assumption) (by rw [hY.2]; rfl) (cSe_await hY hW (g := 0) n 0 _ (by simp only [wi_at]; rfl) (by decide)) rfl rfl ⟨Nat.le_of_ble_eq_true rfl, Nat.le_of_ble_eq_true rfl⟩ rfl rfl (Nat.le_of_ble_eq_true rfl) ⟨Nat.zero_le _, Nat.zero_le _⟩ (kE rfl ?_)
  exact v_vret hC rfl dSe_begin_16 ⟨rfl, rfl⟩

set_option maxHeartbeats 4000000 in
set_option maxRecDepth 100000 in
theorem cSe_lookInto {l : Launch} {Y : Yt} (hY : YB Y) (hW : YW Y) {j g k q : Nat} (μ : Mu) (hg : μ.1 3 6 = nI (g + 1)) (hg40 : g < 40) (hj : j ≤ g) (hk : μ.1 3 8 = nI k) (hk40 : k < 40) (hq : q < 40) (hw : μ.1 16 j = nI q) : Ct l Y ySe_lookInto wSe_lookInto ({ frames := 1, cells := 0, slots := 0, locals := 21 }) [.ref (ad Y 3), .ref (ad Y 2), .int (nI j)] μ (PE (some (.ref (ad Y (pgI q)))) (liM μ j g k q)) := by
  refine ct_of hY.1 (by decide) rfl (Nat.le_of_ble_eq_true rfl) (lv := [some (.ref (ad Y 3)), some (.ref (ad Y 2)), some (.int (nI j)), none]) rfl (fun X hC => ?_)
  have hB := hC.B
  obtain ⟨hFa, hDi, hTr, hSe, h4, h5, h6b, h7, h8, hpages, htrail, hturns, hplaces, hlog, hlp, hfound, hwait, hsq, hlk, hPg, hrow, hlrow, hfb⟩ := id hW
  refine v_aload_n hB dSe_lookInto_0 rfl ?_
  refine v_get hC (klSe hY.2) (F := FSe Y _) (by assumption) 4 dSe_lookInto_1 kfSe_22 (by decide) rfl ?_
  refine v_iload_n hB dSe_lookInto_4 rfl ?_
  refine v_iald hC hwait j dSe_lookInto_5 rfl (by omega) (by decide) ?_
  rw [hw]
  refine v_istore_n hB dSe_lookInto_6 rfl (by decide) (lv' := [_, _, _, _]) rfl ?_
  refine v_aload_n hB dSe_lookInto_7 rfl ?_
  refine v_dup hB dSe_lookInto_8 rfl ?_
  refine v_get hC (klSe hY.2) (F := FSe Y _) (by assumption) 6 dSe_lookInto_9 kfSe_49 (by decide) rfl ?_
  refine v_iconst hB dSe_lookInto_12 (v := 1) (by decide) ?_
  refine v_isub hB dSe_lookInto_13 ?_
  rw [hg, nI_pred]
  refine v_puti hC (klSe hY.2) (F := FSe Y _) (by assumption) 6 dSe_lookInto_14 kfSe_49 (by decide) rfl rfl rfl (fun _ _ => rfl) (fun _ _ => Nat.le_of_ble_eq_true rfl) ?_
  refine v_aload_n hB dSe_lookInto_17 rfl ?_
  refine v_get hC (klSe hY.2) (F := FSe Y _) (by assumption) 4 dSe_lookInto_18 kfSe_22 (by decide) rfl ?_
  refine v_iload_n hB dSe_lookInto_21 rfl ?_
  refine v_aload_n hB dSe_lookInto_22 rfl ?_
  refine v_get hC (klSe hY.2) (F := FSe Y _) (by assumption) 4 dSe_lookInto_23 kfSe_22 (by decide) rfl ?_
  refine v_aload_n hB dSe_lookInto_26 rfl ?_
  refine v_get hC (klSe hY.2) (F := FSe Y _) (by assumption) 6 dSe_lookInto_27 kfSe_49 (by decide) rfl ?_
  refine v_iald hC hwait g dSe_lookInto_30 (by simp only [wi_at]; rfl) (by omega) (by decide) ?_
  refine v_iast hC hwait j dSe_lookInto_31 rfl (by omega) (by decide) ?_
  refine v_aload_n hB dSe_lookInto_32 rfl ?_
  refine v_get hC (klSe hY.2) (F := FSe Y _) (by assumption) 5 dSe_lookInto_33 kfSe_26 (by decide) rfl ?_
  refine v_iload_n hB dSe_lookInto_36 rfl ?_
  refine v_aload_n hB dSe_lookInto_37 rfl ?_
  refine v_get hC (klSe hY.2) (F := FSe Y _) (by assumption) 5 dSe_lookInto_38 kfSe_26 (by decide) rfl ?_
  refine v_aload_n hB dSe_lookInto_41 rfl ?_
  refine v_get hC (klSe hY.2) (F := FSe Y _) (by assumption) 6 dSe_lookInto_42 kfSe_49 (by decide) rfl ?_
  refine v_lald hC hsq g dSe_lookInto_45 (by simp only [wi_at]; rfl) (by omega) (by decide) ?_
  refine v_last hC hsq j dSe_lookInto_46 rfl (by omega) (by decide) ?_
  refine v_aload_n hB dSe_lookInto_47 rfl ?_
  refine v_get hC (klSe hY.2) (F := FSe Y _) (by assumption) 7 dSe_lookInto_48 kfSe_30 (by decide) rfl ?_
  refine v_aload_n hB dSe_lookInto_51 rfl ?_
  refine v_get hC (klSe hY.2) (F := FSe Y _) (by assumption) 8 dSe_lookInto_52 kfSe_103 (by decide) rfl ?_
  refine v_iload_n hB dSe_lookInto_55 rfl ?_
  have e1 : (li2 μ j g).1 3 8 = nI k := by
    show (li1 μ j g).1 3 8 = nI k
    unfold li1
    simp only [wi_at]
    exact hk
  refine v_iast hC hlk k dSe_lookInto_56 e1 (by omega) (by decide) ?_
  refine v_aload_n hB dSe_lookInto_57 rfl ?_
  refine v_dup hB dSe_lookInto_58 rfl ?_
  refine v_get hC (klSe hY.2) (F := FSe Y _) (by assumption) 8 dSe_lookInto_59 kfSe_103 (by decide) rfl ?_
  refine v_iconst hB dSe_lookInto_62 (v := 1) (by decide) ?_
  refine v_iadd hB dSe_lookInto_63 ?_
  have e2 : (wi (li2 μ j g) 18 k (nI q)).1 3 8 = nI k := by rw [wi_ne _ _ _ (show (3 : Nat) ≠ 18 by decide)]; exact e1
  refine v_st (st' := [.int (nI (k + 1)), .ref (ad Y 3)]) (by rw [← nI_1, ← e2]; rfl) ?_
  refine v_puti hC (klSe hY.2) (F := FSe Y _) (by assumption) 8 dSe_lookInto_64 kfSe_103 (by decide) rfl rfl rfl (fun _ _ => rfl) (fun _ _ => Nat.le_of_ble_eq_true rfl) ?_
  refine v_aload_n hB dSe_lookInto_67 rfl ?_
  refine v_iload_n hB dSe_lookInto_68 rfl ?_
  refine v_callV hC tbok kmSe_106 kiTr_at ksTr_at dSe_lookInto_69 (F := FTr Y _) (by assumption) (by rw [hY.2]; rfl) (cTr_at hY hW hq _) rfl rfl ⟨Nat.le_of_ble_eq_true rfl, Nat.le_of_ble_eq_true rfl⟩ rfl rfl (Nat.le_of_ble_eq_true rfl) ⟨Nat.zero_le _, Nat.zero_le _⟩ (kE rfl ?_)
  exact v_aret hC rfl dSe_lookInto_72 ⟨rfl, rfl⟩

set_option maxHeartbeats 4000000 in
set_option maxRecDepth 100000 in
theorem cSe_nearestWaiting {l : Launch} {Y : Yt} (hY : YB Y) (hW : YW Y) {g : Nat} (μ : Mu) (hg : μ.1 3 6 = nI g) (h0 : 0 < g) (hg40 : g ≤ 40) : Ct l Y ySe_nearestWaiting wSe_nearestWaiting ({ frames := 0, cells := 0, slots := 0, locals := 0 }) [.ref (ad Y 3)] μ (PI (fun x ν => ν = μ ∧ ∃ b, b < g ∧ x = nI b ∧ ∀ i, i < g → ¬ μ.2 17 i < μ.2 17 b)) := by
  refine ct_of hY.1 (by decide) rfl (Nat.le_of_ble_eq_true rfl) (lv := [some (.ref (ad Y 3)), none, none]) rfl (fun X hC => ?_)
  have hB := hC.B
  obtain ⟨hFa, hDi, hTr, hSe, h4, h5, h6b, h7, h8, hpages, htrail, hturns, hplaces, hlog, hlp, hfound, hwait, hsq, hlk, hPg, hrow, hlrow, hfb⟩ := id hW
  have loop : ∀ (r k b : Nat), k + r = g → b < k → (∀ i, i < k → ¬ μ.2 17 i < μ.2 17 b) → VG X (yA Y) 3 0 0 (VQ X Y (PI (fun x ν => ν = μ ∧ ∃ b, b < g ∧ x = nI b ∧ ∀ i, i < g → ¬ μ.2 17 i < μ.2 17 b))) (yI Y (μ)) 4 [some (.ref (ad Y 3)), some (.int (nI b)), some (.int (nI k))] [] := by
    intro r
    induction r with
    | zero =>
      intro k b hk hb hi
      refine v_iload_n hB dSe_nearestWaiting_4 rfl ?_
      refine v_aload_n hB dSe_nearestWaiting_5 rfl ?_
      refine v_get hC (klSe hY.2) (F := FSe Y _) (by assumption) 6 dSe_nearestWaiting_6 kfSe_49 (by decide) rfl ?_
      refine v_icmp_ge hB 36 dSe_nearestWaiting_9 (by decide) (fun c => ?_) (fun c => ?_)
      · refine v_iload_n hB dSe_nearestWaiting_36 rfl ?_
        exact v_iret hC rfl dSe_nearestWaiting_37 ⟨_, rfl, rfl, b, by omega, rfl, fun i h => hi i (by omega)⟩
      · exact absurd (by rw [hg]; exact nI_le (by omega) (by omega)) c
    | succ r ih =>
      intro k b hk hb hi
      refine v_iload_n hB dSe_nearestWaiting_4 rfl ?_
      refine v_aload_n hB dSe_nearestWaiting_5 rfl ?_
      refine v_get hC (klSe hY.2) (F := FSe Y _) (by assumption) 6 dSe_nearestWaiting_6 kfSe_49 (by decide) rfl ?_
      refine v_icmp_ge hB 36 dSe_nearestWaiting_9 (by decide) (fun c => ?_) (fun c => ?_)
      · exact absurd c (by rw [hg]; exact (fun q => absurd ((nI_leI (by omega) (by omega)).mp q) (by omega)))
      refine v_aload_n hB dSe_nearestWaiting_12 rfl ?_
      refine v_get hC (klSe hY.2) (F := FSe Y _) (by assumption) 5 dSe_nearestWaiting_13 kfSe_26 (by decide) rfl ?_
      refine v_iload_n hB dSe_nearestWaiting_16 rfl ?_
      refine v_lald hC hsq k dSe_nearestWaiting_17 rfl (by omega) (by decide) ?_
      refine v_aload_n hB dSe_nearestWaiting_18 rfl ?_
      refine v_get hC (klSe hY.2) (F := FSe Y _) (by assumption) 5 dSe_nearestWaiting_19 kfSe_26 (by decide) rfl ?_
      refine v_iload_n hB dSe_nearestWaiting_22 rfl ?_
      refine v_lald hC hsq b dSe_nearestWaiting_23 rfl (by omega) (by decide) ?_
      refine v_lcmp hB dSe_nearestWaiting_24 ?_
      refine v_if_ge hB 30 dSe_nearestWaiting_25 (by decide) (fun c1 => ?_) (fun c1 => ?_)
      · refine v_iinc hB dSe_nearestWaiting_30 rfl (y := _) rfl rfl (by decide) (lv' := [_, _, _]) rfl ?_
        refine v_goto hB 4 dSe_nearestWaiting_33 (by decide) ?_
        have hi2 : ∀ i, i < k + 1 → ¬ μ.2 17 i < μ.2 17 b := by
          intro i h
          rcases Nat.lt_or_ge i k with z | z
          · exact hi i z
          · obtain rfl : i = k := by omega
            exact fun q => absurd (lc_lt.mpr q) (Int32.not_lt.mpr c1)
        rw [i1]
        exact ih (k + 1) b (by omega) (by omega) hi2
      · refine v_iload_n hB dSe_nearestWaiting_28 rfl ?_
        refine v_istore_n hB dSe_nearestWaiting_29 rfl (by decide) (lv' := [_, _, _]) rfl ?_
        refine v_iinc hB dSe_nearestWaiting_30 rfl (y := _) rfl rfl (by decide) (lv' := [_, _, _]) rfl ?_
        refine v_goto hB 4 dSe_nearestWaiting_33 (by decide) ?_
        have hlt := lc_lt.mp (Int32.not_le.mp c1)
        have hi2 : ∀ i, i < k + 1 → ¬ μ.2 17 i < μ.2 17 k := by
          intro i h
          rcases Nat.lt_or_ge i k with z | z
          · exact fun q => hi i z (Int64.lt_trans q hlt)
          · obtain rfl : i = k := by omega
            exact Int64.lt_irrefl
        rw [i1]
        exact ih (k + 1) k (by omega) (by omega) hi2
  refine v_iconst hB dSe_nearestWaiting_0 (v := 0) (by decide) ?_
  refine v_istore_n hB dSe_nearestWaiting_1 rfl (by decide) (lv' := [_, _, _]) rfl ?_
  refine v_iconst hB dSe_nearestWaiting_2 (v := 1) (by decide) ?_
  refine v_istore_n hB dSe_nearestWaiting_3 rfl (by decide) (lv' := [_, _, _]) rfl ?_
  have hi2 : ∀ i, i < 1 → ¬ μ.2 17 i < μ.2 17 0 := by
    intro i h
    obtain rfl : i = 0 := by omega
    exact Int64.lt_irrefl
  exact loop (g - 1) 1 0 (by omega) (by omega) hi2

set_option maxHeartbeats 4000000 in
set_option maxRecDepth 100000 in
theorem cSe_keepInOrder {l : Launch} {Y : Yt} (hY : YB Y) (hW : YW Y) {e h : Nat} (he : isBo Y e) (μ : Mu) (hh : μ.1 3 1 = nI h) (hh40 : h < 40) : Ct l Y ySe_keepInOrder wSe_keepInOrder ({ frames := 1, cells := 0, slots := 0, locals := 21 }) [.ref (ad Y 3), .ref (ad Y e)] μ (PE none (koM μ e h)) := by
  refine ct_of hY.1 (by decide) rfl (Nat.le_of_ble_eq_true rfl) (lv := [some (.ref (ad Y 3)), some (.ref (ad Y e)), none]) rfl (fun X hC => ?_)
  have hB := hC.B
  obtain ⟨hFa, hDi, hTr, hSe, h4, h5, h6b, h7, h8, hpages, htrail, hturns, hplaces, hlog, hlp, hfound, hwait, hsq, hlk, hPg, hrow, hlrow, hfb⟩ := id hW
  have last : ∀ (p : Nat) (ν : Mu), p < 40 → (bec ν (fdI p) e).1 3 1 = nI h → bec ν (fdI p) e = koL e h μ → VG X (yA Y) 3 0 0 (VQ X Y (PE none (koM μ e h))) (yI Y (ν)) 57 [some (.ref (ad Y 3)), some (.ref (ad Y e)), some (.int (nI p))] [] := by
    intro p ν hp h3 hf
    have hbp := hfb p hp
    refine v_aload_n hB dSe_keepInOrder_57 rfl ?_
    refine v_get hC (klSe hY.2) (F := FSe Y _) (by assumption) 0 dSe_keepInOrder_58 kfSe_11 (by decide) rfl ?_
    refine v_iload_n hB dSe_keepInOrder_61 rfl ?_
    refine v_aald hC hfound p dSe_keepInOrder_62 rfl (by omega) (by decide) ?_
    refine v_aload_n hB dSe_keepInOrder_63 rfl ?_
    refine v_callV hC tbok kmSe_116 kiBo_become ksBo_become dSe_keepInOrder_64 (F := FBo Y _) (by assumption) (by rw [hY.2]; rfl) (cBo_become hY hbp he ν) rfl rfl ⟨Nat.le_of_ble_eq_true rfl, Nat.le_of_ble_eq_true rfl⟩ rfl rfl (Nat.le_of_ble_eq_true rfl) ⟨Nat.zero_le _, Nat.zero_le _⟩ (kE rfl ?_)
    refine v_aload_n hB dSe_keepInOrder_67 rfl ?_
    refine v_dup hB dSe_keepInOrder_68 rfl ?_
    refine v_get hC (klSe hY.2) (F := FSe Y _) (by assumption) 1 dSe_keepInOrder_69 kfSe_36 (by decide) rfl ?_
    refine v_iconst hB dSe_keepInOrder_72 (v := 1) (by decide) ?_
    refine v_iadd hB dSe_keepInOrder_73 ?_
    rw [h3, nI_1, hf]
    refine v_puti hC (klSe hY.2) (F := FSe Y _) (by assumption) 1 dSe_keepInOrder_74 kfSe_36 (by decide) rfl rfl rfl (fun _ _ => rfl) (fun _ _ => Nat.le_of_ble_eq_true rfl) ?_
    exact v_vret hC rfl dSe_keepInOrder_77 ⟨rfl, rfl⟩
  have loop : ∀ (p : Nat) (ν : Mu), p < 40 → ν.1 3 1 = nI h → koL e p ν = koL e h μ → VG X (yA Y) 3 0 0 (VQ X Y (PE none (koM μ e h))) (yI Y (ν)) 15 [some (.ref (ad Y 3)), some (.ref (ad Y e)), some (.int (nI p))] [] := by
    intro p
    induction p with
    | zero =>
      intro ν hp h3 hf
      refine v_iload_n hB dSe_keepInOrder_15 rfl ?_
      refine v_if_le hB 57 dSe_keepInOrder_16 (by decide) (fun c => ?_) (fun c => ?_)
      · exact last 0 ν hp (by rw [bec_ne ν e (fd_3 0)]; exact h3) hf
      · exact absurd (by decide) c
    | succ p ih =>
      intro ν hp h3 hf
      have hbp := hfb p (by omega)
      have hbp1 := hfb (p + 1) hp
      refine v_iload_n hB dSe_keepInOrder_15 rfl ?_
      refine v_if_le hB 57 dSe_keepInOrder_16 (by decide) (fun c => ?_) (fun c => ?_)
      · exact absurd c (nI_nle (by omega) (by omega))
      refine v_aload_n hB dSe_keepInOrder_19 rfl ?_
      refine v_aload_n hB dSe_keepInOrder_20 rfl ?_
      refine v_get hC (klSe hY.2) (F := FSe Y _) (by assumption) 0 dSe_keepInOrder_21 kfSe_11 (by decide) rfl ?_
      refine v_iload_n hB dSe_keepInOrder_24 rfl ?_
      refine v_iconst hB dSe_keepInOrder_25 (v := 1) (by decide) ?_
      refine v_isub hB dSe_keepInOrder_26 ?_
      refine v_aald hC hfound p dSe_keepInOrder_27 (nI_pred p) (by omega) (by decide) ?_
      refine v_callV hC tbok kmSe_113 kiBo_precedes ksBo_precedes dSe_keepInOrder_28 (F := FBo Y _) (by assumption) (by rw [hY.2]; rfl) (cBo_precedes hY he hbp ν) rfl rfl ⟨Nat.le_of_ble_eq_true rfl, Nat.le_of_ble_eq_true rfl⟩ rfl rfl (Nat.le_of_ble_eq_true rfl) ⟨Nat.zero_le _, Nat.zero_le _⟩ (kE rfl ?_)
      refine v_if_eq hB 57 dSe_keepInOrder_31 (by decide) (fun c1 => ?_) (fun c1 => ?_)
      · exact last (p + 1) ν hp (by rw [bec_ne ν e (fd_3 (p + 1))]; exact h3) (by rw [← hf, koL, if_neg (by rw [bI_0.mp c1]; decide)])
      refine v_aload_n hB dSe_keepInOrder_34 rfl ?_
      refine v_get hC (klSe hY.2) (F := FSe Y _) (by assumption) 0 dSe_keepInOrder_35 kfSe_11 (by decide) rfl ?_
      refine v_iload_n hB dSe_keepInOrder_38 rfl ?_
      refine v_aald hC hfound (p + 1) dSe_keepInOrder_39 rfl (by omega) (by decide) ?_
      refine v_aload_n hB dSe_keepInOrder_40 rfl ?_
      refine v_get hC (klSe hY.2) (F := FSe Y _) (by assumption) 0 dSe_keepInOrder_41 kfSe_11 (by decide) rfl ?_
      refine v_iload_n hB dSe_keepInOrder_44 rfl ?_
      refine v_iconst hB dSe_keepInOrder_45 (v := 1) (by decide) ?_
      refine v_isub hB dSe_keepInOrder_46 ?_
      refine v_aald hC hfound p dSe_keepInOrder_47 (nI_pred p) (by omega) (by decide) ?_
      refine v_callV hC tbok kmSe_116 kiBo_become ksBo_become dSe_keepInOrder_48 (F := FBo Y _) (by assumption) (by rw [hY.2]; rfl) (cBo_become hY hbp1 hbp ν) rfl rfl ⟨Nat.le_of_ble_eq_true rfl, Nat.le_of_ble_eq_true rfl⟩ rfl rfl (Nat.le_of_ble_eq_true rfl) ⟨Nat.zero_le _, Nat.zero_le _⟩ (kE rfl ?_)
      refine v_iinc hB dSe_keepInOrder_51 rfl (y := _) rfl rfl (by decide) (lv' := [_, _, _]) rfl ?_
      refine v_goto hB 15 dSe_keepInOrder_54 (by decide) ?_
      rw [im1, nI_pred]
      exact ih _ (by omega) (by rw [bec_ne ν _ (fd_3 (p + 1))]; exact h3) (by rw [← hf, koL, if_pos (bI_n.mp c1)])
  refine v_aload_n hB dSe_keepInOrder_0 rfl ?_
  refine v_get hC (klSe hY.2) (F := FSe Y _) (by assumption) 1 dSe_keepInOrder_1 kfSe_36 (by decide) rfl ?_
  refine v_bipush hB dSe_keepInOrder_4 (v := 40) (by decide) ?_
  refine v_icmp_lt hB 10 dSe_keepInOrder_6 (by decide) (fun c => ?_) (fun c => ?_)
  rotate_left
  · exact absurd (by rw [hh, show (40 : Int32) = nI 40 from rfl]; exact nI_lt hh40 (by decide)) c
  refine v_aload_n hB dSe_keepInOrder_10 rfl ?_
  refine v_get hC (klSe hY.2) (F := FSe Y _) (by assumption) 1 dSe_keepInOrder_11 kfSe_36 (by decide) rfl ?_
  rw [hh]
  refine v_istore_n hB dSe_keepInOrder_14 rfl (by decide) (lv' := [_, _, _]) rfl ?_
  exact loop h μ hh40 hh rfl

set_option maxHeartbeats 4000000 in
set_option maxRecDepth 100000 in
theorem cSe_keepCloser {l : Launch} {Y : Yt} (hY : YB Y) (hW : YW Y) {e : Nat} (he : isBo Y e) (sq : Int64) (μ : Mu) : Ct l Y ySe_keepCloser wSe_keepCloser ({ frames := 1, cells := 0, slots := 0, locals := 21 }) [.ref (ad Y 3), .ref (ad Y e), .long sq] μ (PE none (kcM μ e sq)) := by
  refine ct_of hY.1 (by decide) rfl (Nat.le_of_ble_eq_true rfl) (lv := [some (.ref (ad Y 3)), some (.ref (ad Y e)), some (.long sq), none]) rfl (fun X hC => ?_)
  have hB := hC.B
  obtain ⟨hFa, hDi, hTr, hSe, h4, h5, h6b, h7, h8, hpages, htrail, hturns, hplaces, hlog, hlp, hfound, hwait, hsq, hlk, hPg, hrow, hlrow, hfb⟩ := id hW
  have yes : (sq < μ.2 3 3 ∨ (sq = μ.2 3 3 ∧ precB (μ.1 e) (μ.1 7) = true)) → VG X (yA Y) 4 0 0 (VQ X Y (PE none (kcM μ e sq))) (yI Y (μ)) 29 [some (.ref (ad Y 3)), some (.ref (ad Y e)), some (.long sq), none] [] := by
    intro hc
    refine v_aload_n hB dSe_keepCloser_29 rfl ?_
    refine v_get hC (klSe hY.2) (F := FSe Y _) (by assumption) 2 dSe_keepCloser_30 kfSe_18 (by decide) rfl ?_
    refine v_aload_n hB dSe_keepCloser_33 rfl ?_
    refine v_callV hC tbok kmSe_116 kiBo_become ksBo_become dSe_keepCloser_34 (F := FBo Y _) (by assumption) (by rw [hY.2]; rfl) (cBo_become hY h7 he μ) rfl rfl ⟨Nat.le_of_ble_eq_true rfl, Nat.le_of_ble_eq_true rfl⟩ rfl rfl (Nat.le_of_ble_eq_true rfl) ⟨Nat.zero_le _, Nat.zero_le _⟩ (kE rfl ?_)
    refine v_aload_n hB dSe_keepCloser_37 rfl ?_
    refine v_lload_n hB dSe_keepCloser_38 rfl ?_
    refine v_putl hC (klSe hY.2) (F := FSe Y _) (by assumption) 3 dSe_keepCloser_39 kfSe_84 (by decide) rfl rfl rfl (fun _ _ => rfl) (fun _ _ => Nat.le_of_ble_eq_true rfl) ?_
    exact v_vret hC rfl dSe_keepCloser_42 ⟨rfl, by rw [kcM, if_pos hc]⟩
  have no : ¬ (sq < μ.2 3 3 ∨ (sq = μ.2 3 3 ∧ precB (μ.1 e) (μ.1 7) = true)) → VG X (yA Y) 4 0 0 (VQ X Y (PE none (kcM μ e sq))) (yI Y (μ)) 42 [some (.ref (ad Y 3)), some (.ref (ad Y e)), some (.long sq), none] [] := by
    intro hc
    exact v_vret hC rfl dSe_keepCloser_42 ⟨rfl, by rw [kcM, if_neg hc]⟩
  refine v_lload_n hB dSe_keepCloser_0 rfl ?_
  refine v_aload_n hB dSe_keepCloser_1 rfl ?_
  refine v_get hC (klSe hY.2) (F := FSe Y _) (by assumption) 3 dSe_keepCloser_2 kfSe_84 (by decide) rfl ?_
  refine v_lcmp hB dSe_keepCloser_5 ?_
  refine v_if_lt hB 29 dSe_keepCloser_6 (by decide) (fun c => ?_) (fun c => ?_)
  · exact yes (Or.inl (lc_lt.mp c))
  refine v_lload_n hB dSe_keepCloser_9 rfl ?_
  refine v_aload_n hB dSe_keepCloser_10 rfl ?_
  refine v_get hC (klSe hY.2) (F := FSe Y _) (by assumption) 3 dSe_keepCloser_11 kfSe_84 (by decide) rfl ?_
  refine v_lcmp hB dSe_keepCloser_14 ?_
  refine v_if_ne hB 42 dSe_keepCloser_15 (by decide) (fun c1 => ?_) (fun c1 => ?_)
  · exact no (fun z => z.elim (fun q => c (lc_lt.mpr q)) (fun q => c1 (lc_eq.mpr q.1)))
  refine v_aload_n hB dSe_keepCloser_18 rfl ?_
  refine v_aload_n hB dSe_keepCloser_19 rfl ?_
  refine v_get hC (klSe hY.2) (F := FSe Y _) (by assumption) 2 dSe_keepCloser_20 kfSe_18 (by decide) rfl ?_
  refine v_callV hC tbok kmSe_113 kiBo_precedes ksBo_precedes dSe_keepCloser_23 (F := FBo Y _) (by assumption) (by rw [hY.2]; rfl) (cBo_precedes hY he h7 μ) rfl rfl ⟨Nat.le_of_ble_eq_true rfl, Nat.le_of_ble_eq_true rfl⟩ rfl rfl (Nat.le_of_ble_eq_true rfl) ⟨Nat.zero_le _, Nat.zero_le _⟩ (kE rfl ?_)
  refine v_if_eq hB 42 dSe_keepCloser_26 (by decide) (fun c2 => ?_) (fun c2 => ?_)
  · exact no (fun z => z.elim (fun q => c (lc_lt.mpr q)) (fun q => by rw [bI_0.mp c2] at q; exact absurd q.2 (by decide)))
  exact yes (Or.inr ⟨lc_eq.mp c1, bI_n.mp c2⟩)

set_option maxHeartbeats 4000000 in
set_option maxRecDepth 100000 in
theorem cSe_gather {l : Launch} {Y : Yt} (hY : YB Y) (hW : YW Y) {w : Nat} (hw : isBo Y w) {μ : Mu} {K : Mu → Prop} (h : gaW μ w K) : Ct l Y ySe_gather wSe_gather ({ frames := 2, cells := 0, slots := 0, locals := 44 }) [.ref (ad Y 3), .ref (ad Y 2), .ref (ad Y w)] μ (PV K) := by
  refine ct_of hY.1 (by decide) rfl (Nat.le_of_ble_eq_true rfl) (lv := [some (.ref (ad Y 3)), some (.ref (ad Y 2)), some (.ref (ad Y w)), none, none, none, none]) rfl (fun X hC => ?_)
  have hB := hC.B
  obtain ⟨hFa, hDi, hTr, hSe, h4, h5, h6b, h7, h8, hpages, htrail, hturns, hplaces, hlog, hlp, hfound, hwait, hsq, hlk, hPg, hrow, hlrow, hfb⟩ := id hW
  have loop : ∀ (r i : Nat) (ν : Mu), i + r = 40 → gaL w K r ν → VG X (yA Y) 7 0 0 (VQ X Y (PV K)) (yI Y (ν)) 15 [some (.ref (ad Y 3)), some (.ref (ad Y 2)), some (.ref (ad Y w)), some (.int (nI i)), none, none, none] [] := by
    intro r
    induction r with
    | zero =>
      intro i ν hi hf
      refine v_iload_n hB dSe_gather_15 rfl ?_
      refine v_bipush hB dSe_gather_16 (v := 40) (by decide) ?_
      refine v_icmp_ge hB 116 dSe_gather_18 (by decide) (fun c => ?_) (fun c => ?_)
      · exact v_vret hC rfl dSe_gather_116 ⟨rfl, hf⟩
      · exact absurd (by rw [show (40 : Int32) = nI 40 from rfl]; exact nI_le (by omega) (by omega)) c
    | succ r ih =>
      rintro i ν hi ⟨g, hg40, hg, hx⟩
      refine v_iload_n hB dSe_gather_15 rfl ?_
      refine v_bipush hB dSe_gather_16 (v := 40) (by decide) ?_
      refine v_icmp_ge hB 116 dSe_gather_18 (by decide) (fun c => ?_) (fun c => ?_)
      · exact absurd c (by rw [show (40 : Int32) = nI 40 from rfl]; exact (fun q => absurd ((nI_leI (by omega) (by omega)).mp q) (by omega)))
      refine v_aload_n hB dSe_gather_21 rfl ?_
      refine v_get hC (klSe hY.2) (F := FSe Y _) (by assumption) 6 dSe_gather_22 kfSe_49 (by decide) rfl ?_
      rw [hg]
      refine v_if_le hB 116 dSe_gather_25 (by decide) (fun c1 => ?_) (fun c1 => ?_)
      · rw [if_neg (fun z => nI_nle z (by omega) c1)] at hx
        exact v_vret hC rfl dSe_gather_116 ⟨rfl, hx⟩
      have hg0 : 0 < g := by
        rcases Nat.eq_zero_or_pos g with z | z
        · rw [z] at c1
          exact absurd (by decide) c1
        · exact z
      rw [if_pos hg0] at hx
      obtain ⟨kk, q, hkk, hq, hlk2, hwq, hx⟩ := hx
      obtain ⟨-, hqa, hqar, hqbx⟩ := hPg q hq
      obtain ⟨g, rfl⟩ : ∃ g', g = g' + 1 := ⟨g - 1, by omega⟩
      rw [Nat.add_sub_cancel] at hx hwq
      refine v_aload_n hB dSe_gather_28 rfl ?_
      refine v_aload_n hB dSe_gather_29 rfl ?_
      refine v_aload_n hB dSe_gather_30 rfl ?_
      refine v_get hC (klSe hY.2) (F := FSe Y _) (by assumption) 6 dSe_gather_31 kfSe_49 (by decide) rfl ?_
      refine v_iconst hB dSe_gather_34 (v := 1) (by decide) ?_
      refine v_isub hB dSe_gather_35 ?_
      rw [hg, nI_pred]
      refine v_callV hC tbok kmSe_52 kiSe_lookInto ksSe_lookInto dSe_gather_36 (F := FSe Y _) (by assumption) (by rw [hY.2]; rfl) (cSe_lookInto hY hW ν hg (by omega) (Nat.le_refl g) hlk2 hkk hq hwq) rfl rfl ⟨Nat.le_of_ble_eq_true rfl, Nat.le_of_ble_eq_true rfl⟩ rfl rfl (Nat.le_of_ble_eq_true rfl) ⟨Nat.zero_le _, Nat.zero_le _⟩ (kE rfl ?_)
      refine v_astore hB dSe_gather_39 rfl (by decide) (lv' := [_, _, _, _, _, _, _]) rfl ?_
      refine v_iconst hB dSe_gather_41 (v := 0) (by decide) ?_
      refine v_istore hB dSe_gather_42 rfl (by decide) (lv' := [_, _, _, _, _, _, _]) rfl ?_
      have slots : ∀ (s k : Nat) (ν : Mu), k + s ≤ 7 → gsL q w (fun ν => gaL w K r ν) s k ν → VG X (yA Y) 7 0 0 (VQ X Y (PV K)) (yI Y (ν)) 44 [some (.ref (ad Y 3)), some (.ref (ad Y 2)), some (.ref (ad Y w)), some (.int (nI i)), some (.ref (ad Y (pgI q))), some (.int (nI k)), none] [] := by
        intro s
        induction s with
        | zero =>
          intro k ν hk7 h
          exact h.elim
        | succ s ihs =>
          rintro k ν hk7 ⟨u, v, hu6, hv30, hu, hv, hy⟩
          refine v_iload hB dSe_gather_44 rfl ?_
          refine v_aload hB dSe_gather_46 rfl ?_
          refine v_get hC (klPa hY.2) (F := FPa Y _) (by assumption) 1 dSe_gather_48 kfSe_56 (by decide) rfl ?_
          rw [hu]
          by_cases hku : k < u
          · rw [if_pos hku] at hy
            have hbk := hqbx k (by omega)
            refine v_icmp_ge hB 110 dSe_gather_51 (by decide) (fun d1 => ?_) (fun d1 => ?_)
            · exact absurd d1 (fun q => absurd ((nI_leI (by omega) (by omega)).mp q) (by omega))
            have next : ∀ ν2, gsL q w (fun ν => gaL w K r ν) s (k + 1) ν2 → VG X (yA Y) 7 0 0 (VQ X Y (PV K)) (yI Y (ν2)) 104 [some (.ref (ad Y 3)), some (.ref (ad Y 2)), some (.ref (ad Y w)), some (.int (nI i)), some (.ref (ad Y (pgI q))), some (.int (nI k)), some (.ref (ad Y (bxI q k)))] [] := by
              intro ν2 h2
              refine v_iinc hB dSe_gather_104 rfl (y := _) rfl rfl (by decide) (lv' := [_, _, _, _, _, _, _]) rfl ?_
              refine v_goto hB 44 dSe_gather_107 (by decide) ?_
              refine v_drop 6 (lv' := [_, _, _, _, _, _, _]) rfl ?_
              rw [i1]
              exact ihs (k + 1) ν2 (by omega) h2
            refine v_aload hB dSe_gather_54 rfl ?_
            refine v_get hC (klPa hY.2) (F := FPa Y _) (by assumption) 3 dSe_gather_56 kfSe_61 (by decide) rfl ?_
            refine v_iload hB dSe_gather_59 rfl ?_
            refine v_aald hC hqar k dSe_gather_61 rfl (by omega) (by decide) ?_
            refine v_astore hB dSe_gather_62 rfl (by decide) (lv' := [_, _, _, _, _, _, _]) rfl ?_
            refine v_aload hB dSe_gather_64 rfl ?_
            refine v_aload_n hB dSe_gather_66 rfl ?_
            refine v_callV hC tbok kmSe_64 kiBo_meets ksBo_meets dSe_gather_67 (F := FBo Y _) (by assumption) (by rw [hY.2]; rfl) (cBo_meets hY hbk hw ν) rfl rfl ⟨Nat.le_of_ble_eq_true rfl, Nat.le_of_ble_eq_true rfl⟩ rfl rfl (Nat.le_of_ble_eq_true rfl) ⟨Nat.zero_le _, Nat.zero_le _⟩ (kE rfl ?_)
            refine v_if_ne hB 76 dSe_gather_70 (by decide) (fun d2 => ?_) (fun d2 => ?_)
            rotate_left
            · rw [if_neg (by rw [bI_0.mp d2]; decide)] at hy
              refine v_goto hB 104 dSe_gather_73 (by decide) ?_
              exact next ν hy
            rw [if_pos (bI_n.mp d2)] at hy
            refine v_aload hB dSe_gather_76 rfl ?_
            refine v_get hC (klPa hY.2) (F := FPa Y _) (by assumption) 0 dSe_gather_78 kfSe_68 (by decide) rfl ?_
            rw [hv]
            refine v_iconst hB dSe_gather_81 (v := 1) (by decide) ?_
            refine v_icmp_ne hB 94 dSe_gather_82 (by decide) (fun d3 => ?_) (fun d3 => ?_)
            · rw [if_neg (fun z => d3 (by rw [z]; rfl))] at hy
              obtain ⟨g, hg, hgq, hy⟩ := hy
              refine v_aload_n hB dSe_gather_94 rfl ?_
              refine v_aload hB dSe_gather_95 rfl ?_
              refine v_get hC (klBo hY.2) (F := FBo Y _) (by assumption) 4 dSe_gather_97 kfSe_75 (by decide) rfl ?_
              refine v_lconst hB dSe_gather_100 (v := 0) (by decide) ?_
              refine v_callV hC tbok kmSe_78 kiSe_await ksSe_await dSe_gather_101 (F := FSe Y _) (by assumption) (by rw [hY.2]; rfl) (cSe_await hY hW _ 0 ν hgq hg) rfl rfl ⟨Nat.le_of_ble_eq_true rfl, Nat.le_of_ble_eq_true rfl⟩ rfl rfl (Nat.le_of_ble_eq_true rfl) ⟨Nat.zero_le _, Nat.zero_le _⟩ (kE rfl ?_)
              exact next _ hy
            have hv1 : v = 1 := (nI_eq (by omega) (by omega)).mp d3
            rw [if_pos hv1] at hy
            obtain ⟨hh, hh40, hhq, hy⟩ := hy
            refine v_aload_n hB dSe_gather_85 rfl ?_
            refine v_aload hB dSe_gather_86 rfl ?_
            refine v_callV hC tbok kmSe_71 kiSe_keepInOrder ksSe_keepInOrder dSe_gather_88 (F := FSe Y _) (by assumption) (by rw [hY.2]; rfl) (cSe_keepInOrder hY hW hbk ν hhq hh40) rfl rfl ⟨Nat.le_of_ble_eq_true rfl, Nat.le_of_ble_eq_true rfl⟩ rfl rfl (Nat.le_of_ble_eq_true rfl) ⟨Nat.zero_le _, Nat.zero_le _⟩ (kE rfl ?_)
            refine v_goto hB 104 dSe_gather_91 (by decide) ?_
            exact next _ hy
          · rw [if_neg hku] at hy
            refine v_icmp_ge hB 110 dSe_gather_51 (by decide) (fun d1 => ?_) (fun d1 => ?_)
            · refine v_iinc hB dSe_gather_110 rfl (y := _) rfl rfl (by decide) (lv' := [_, _, _, _, _, _, _]) rfl ?_
              refine v_goto hB 15 dSe_gather_113 (by decide) ?_
              refine v_drop 4 (lv' := [_, _, _, _, _, _, _]) rfl ?_
              refine v_drop 5 (lv' := [_, _, _, _, _, _, _]) rfl ?_
              rw [i1]
              exact ih (i + 1) ν (by omega) hy
            · exact absurd (nI_le (by omega) (by omega)) d1
      exact slots 7 0 _ (by decide) hx
  refine v_aload_n hB dSe_gather_0 rfl ?_
  refine v_iconst hB dSe_gather_1 (v := 0) (by decide) ?_
  refine v_puti hC (klSe hY.2) (F := FSe Y _) (by assumption) 1 dSe_gather_2 kfSe_36 (by decide) rfl rfl rfl (fun _ _ => rfl) (fun _ _ => Nat.le_of_ble_eq_true rfl) ?_
  refine v_aload_n hB dSe_gather_5 rfl ?_
  refine v_aload_n hB dSe_gather_6 rfl ?_
  refine v_get hC (klTr hY.2) (F := FTr Y _) (by assumption) 0 dSe_gather_7 kfSe_40 (by decide) rfl ?_
  refine v_callV hC tbok kmSe_45 kiSe_begin ksSe_begin dSe_gather_10 (F := FSe Y _) (by assumption) (by rw [hY.2]; rfl) (cSe_begin hY hW _ _) rfl rfl ⟨Nat.le_of_ble_eq_true rfl, Nat.le_of_ble_eq_true rfl⟩ rfl rfl (Nat.le_of_ble_eq_true rfl) ⟨Nat.zero_le _, Nat.zero_le _⟩ (kE rfl ?_)
  refine v_iconst hB dSe_gather_13 (v := 0) (by decide) ?_
  refine v_istore_n hB dSe_gather_14 rfl (by decide) (lv' := [_, _, _, _, _, _, _]) rfl ?_
  exact loop 40 0 _ (by decide) h

set_option maxHeartbeats 4000000 in
set_option maxRecDepth 100000 in
theorem cSe_approach {l : Launch} {Y : Yt} (hY : YB Y) (hW : YW Y) (x y : Int32) {μ : Mu} {K : Mu → Prop} (h : apW μ x y K) : Ct l Y ySe_approach wSe_approach ({ frames := 2, cells := 0, slots := 0, locals := 44 }) [.ref (ad Y 3), .ref (ad Y 2), .int x, .int y] μ (PV K) := by
  refine ct_of hY.1 (by decide) rfl (Nat.le_of_ble_eq_true rfl) (lv := [some (.ref (ad Y 3)), some (.ref (ad Y 2)), some (.int x), some (.int y), none, none, none, none, none, none, none]) rfl (fun X hC => ?_)
  have hB := hC.B
  obtain ⟨hFa, hDi, hTr, hSe, h4, h5, h6b, h7, h8, hpages, htrail, hturns, hplaces, hlog, hlp, hfound, hwait, hsq, hlk, hPg, hrow, hlrow, hfb⟩ := id hW
  have loop : ∀ (r i : Nat) (ν : Mu), i + r = 40 → apL x y K r ν → VG X (yA Y) 11 0 0 (VQ X Y (PV K)) (yI Y (ν)) 18 [some (.ref (ad Y 3)), some (.ref (ad Y 2)), some (.int x), some (.int y), some (.int (nI i)), none, none, none, none, none, none] [] := by
    intro r
    induction r with
    | zero =>
      intro i ν hi hf
      refine v_iload hB dSe_approach_18 rfl ?_
      refine v_bipush hB dSe_approach_20 (v := 40) (by decide) ?_
      refine v_icmp_ge hB 138 dSe_approach_22 (by decide) (fun c => ?_) (fun c => ?_)
      · exact v_vret hC rfl dSe_approach_138 ⟨rfl, hf⟩
      · exact absurd (by rw [show (40 : Int32) = nI 40 from rfl]; exact nI_le (by omega) (by omega)) c
    | succ r ih =>
      rintro i ν hi ⟨g, hg40, hg, hx⟩
      refine v_iload hB dSe_approach_18 rfl ?_
      refine v_bipush hB dSe_approach_20 (v := 40) (by decide) ?_
      refine v_icmp_ge hB 138 dSe_approach_22 (by decide) (fun c => ?_) (fun c => ?_)
      · exact absurd c (by rw [show (40 : Int32) = nI 40 from rfl]; exact (fun q => absurd ((nI_leI (by omega) (by omega)).mp q) (by omega)))
      refine v_aload_n hB dSe_approach_25 rfl ?_
      refine v_get hC (klSe hY.2) (F := FSe Y _) (by assumption) 6 dSe_approach_26 kfSe_49 (by decide) rfl ?_
      rw [hg]
      refine v_if_le hB 138 dSe_approach_29 (by decide) (fun c1 => ?_) (fun c1 => ?_)
      · rw [if_neg (fun z => nI_nle z (by omega) c1)] at hx
        exact v_vret hC rfl dSe_approach_138 ⟨rfl, hx⟩
      have hg0 : 0 < g := by
        rcases Nat.eq_zero_or_pos g with z | z
        · rw [z] at c1
          exact absurd (by decide) c1
        · exact z
      rw [if_pos hg0] at hx
      refine v_aload_n hB dSe_approach_32 rfl ?_
      refine v_callV hC tbok kmSe_88 kiSe_nearestWaiting ksSe_nearestWaiting dSe_approach_33 (F := FSe Y _) (by assumption) (by rw [hY.2]; rfl) (cSe_nearestWaiting hY hW ν hg hg0 hg40) rfl rfl ⟨Nat.le_of_ble_eq_true rfl, Nat.le_of_ble_eq_true rfl⟩ rfl rfl (Nat.le_of_ble_eq_true rfl) ⟨Nat.zero_le _, Nat.zero_le _⟩ (kI fun bx ν1 h1 => ?_)
      obtain ⟨rfl, b, hb, rfl, hmin⟩ := h1
      have hx := hx b hb hmin
      refine v_istore hB dSe_approach_36 rfl (by decide) (lv' := [_, _, _, _, _, _, _, _, _, _, _]) rfl ?_
      refine v_aload_n hB dSe_approach_38 rfl ?_
      refine v_get hC (klSe hY.2) (F := FSe Y _) (by assumption) 5 dSe_approach_39 kfSe_26 (by decide) rfl ?_
      refine v_iload hB dSe_approach_42 rfl ?_
      refine v_lald hC hsq b dSe_approach_44 rfl (by omega) (by decide) ?_
      refine v_aload_n hB dSe_approach_45 rfl ?_
      refine v_get hC (klSe hY.2) (F := FSe Y _) (by assumption) 3 dSe_approach_46 kfSe_84 (by decide) rfl ?_
      refine v_lcmp hB dSe_approach_49 ?_
      refine v_if_le hB 54 dSe_approach_50 (by decide) (fun c2 => ?_) (fun c2 => ?_)
      rotate_left
      · rw [if_pos (Classical.byContradiction fun z => c2 (lc_le.mpr z))] at hx
        exact v_vret hC rfl dSe_approach_53 ⟨rfl, hx⟩
      rw [if_neg (lc_le.mp c2)] at hx
      obtain ⟨kk, q, hkk, hq, hlk2, hwq, hx⟩ := hx
      obtain ⟨-, hqa, hqar, hqbx⟩ := hPg q hq
      obtain ⟨g, rfl⟩ : ∃ g', g = g' + 1 := ⟨g - 1, by omega⟩
      rw [Nat.add_sub_cancel] at hx
      refine v_aload_n hB dSe_approach_54 rfl ?_
      refine v_aload_n hB dSe_approach_55 rfl ?_
      refine v_iload hB dSe_approach_56 rfl ?_
      refine v_callV hC tbok kmSe_52 kiSe_lookInto ksSe_lookInto dSe_approach_58 (F := FSe Y _) (by assumption) (by rw [hY.2]; rfl) (cSe_lookInto hY hW _ hg (by omega) (by omega) hlk2 hkk hq hwq) rfl rfl ⟨Nat.le_of_ble_eq_true rfl, Nat.le_of_ble_eq_true rfl⟩ rfl rfl (Nat.le_of_ble_eq_true rfl) ⟨Nat.zero_le _, Nat.zero_le _⟩ (kE rfl ?_)
      refine v_astore hB dSe_approach_61 rfl (by decide) (lv' := [_, _, _, _, _, _, _, _, _, _, _]) rfl ?_
      refine v_iconst hB dSe_approach_63 (v := 0) (by decide) ?_
      refine v_istore hB dSe_approach_64 rfl (by decide) (lv' := [_, _, _, _, _, _, _, _, _, _, _]) rfl ?_
      have slots : ∀ (s k : Nat) (ν : Mu), k + s ≤ 7 → asL q x y (fun ν => apL x y K r ν) s k ν → VG X (yA Y) 11 0 0 (VQ X Y (PV K)) (yI Y (ν)) 66 [some (.ref (ad Y 3)), some (.ref (ad Y 2)), some (.int x), some (.int y), some (.int (nI i)), some (.int (nI b)), some (.ref (ad Y (pgI q))), some (.int (nI k)), none, none, none] [] := by
        intro s
        induction s with
        | zero =>
          intro k ν hk7 h
          exact h.elim
        | succ s ihs =>
          rintro k ν hk7 ⟨u, v, hu6, hv30, hu, hv, hy⟩
          refine v_iload hB dSe_approach_66 rfl ?_
          refine v_aload hB dSe_approach_68 rfl ?_
          refine v_get hC (klPa hY.2) (F := FPa Y _) (by assumption) 1 dSe_approach_70 kfSe_56 (by decide) rfl ?_
          rw [hu]
          by_cases hku : k < u
          · rw [if_pos hku] at hy
            have hbk := hqbx k (by omega)
            refine v_icmp_ge hB 132 dSe_approach_73 (by decide) (fun d1 => ?_) (fun d1 => ?_)
            · exact absurd d1 (fun q => absurd ((nI_leI (by omega) (by omega)).mp q) (by omega))
            have next : ∀ (z : Int64) (ν2 : Mu), asL q x y (fun ν => apL x y K r ν) s (k + 1) ν2 → VG X (yA Y) 11 0 0 (VQ X Y (PV K)) (yI Y (ν2)) 126 [some (.ref (ad Y 3)), some (.ref (ad Y 2)), some (.int x), some (.int y), some (.int (nI i)), some (.int (nI b)), some (.ref (ad Y (pgI q))), some (.int (nI k)), some (.ref (ad Y (bxI q k))), some (.long z), none] [] := by
              intro z ν2 h2
              refine v_iinc hB dSe_approach_126 rfl (y := _) rfl rfl (by decide) (lv' := [_, _, _, _, _, _, _, _, _, _, _]) rfl ?_
              refine v_goto hB 66 dSe_approach_129 (by decide) ?_
              refine v_drop 8 (lv' := [_, _, _, _, _, _, _, _, _, _, _]) rfl ?_
              refine v_drop 9 (lv' := [_, _, _, _, _, _, _, _, _, _, _]) rfl ?_
              rw [i1]
              exact ihs (k + 1) ν2 (by omega) h2
            refine v_aload hB dSe_approach_76 rfl ?_
            refine v_get hC (klPa hY.2) (F := FPa Y _) (by assumption) 3 dSe_approach_78 kfSe_61 (by decide) rfl ?_
            refine v_iload hB dSe_approach_81 rfl ?_
            refine v_aald hC hqar k dSe_approach_83 rfl (by omega) (by decide) ?_
            refine v_astore hB dSe_approach_84 rfl (by decide) (lv' := [_, _, _, _, _, _, _, _, _, _, _]) rfl ?_
            refine v_aload hB dSe_approach_86 rfl ?_
            refine v_iload_n hB dSe_approach_88 rfl ?_
            refine v_iload_n hB dSe_approach_89 rfl ?_
            refine v_callV hC tbok kmSe_92 kiBo_squareFrom ksBo_squareFrom dSe_approach_90 (F := FBo Y _) (by assumption) (by rw [hY.2]; rfl) (cBo_squareFrom hY hbk x y ν) rfl rfl ⟨Nat.le_of_ble_eq_true rfl, Nat.le_of_ble_eq_true rfl⟩ rfl rfl (Nat.le_of_ble_eq_true rfl) ⟨Nat.zero_le _, Nat.zero_le _⟩ (kE rfl ?_)
            refine v_lstore hB dSe_approach_93 rfl (by decide) (lv' := [_, _, _, _, _, _, _, _, _, _, _]) rfl ?_
            refine v_aload hB dSe_approach_95 rfl ?_
            refine v_get hC (klPa hY.2) (F := FPa Y _) (by assumption) 0 dSe_approach_97 kfSe_68 (by decide) rfl ?_
            rw [hv]
            refine v_iconst hB dSe_approach_100 (v := 1) (by decide) ?_
            refine v_icmp_ne hB 115 dSe_approach_101 (by decide) (fun d3 => ?_) (fun d3 => ?_)
            · rw [if_neg (fun z => d3 (by rw [z]; rfl))] at hy
              obtain ⟨g, hg, hgq, hy⟩ := hy
              refine v_aload_n hB dSe_approach_115 rfl ?_
              refine v_aload hB dSe_approach_116 rfl ?_
              refine v_get hC (klBo hY.2) (F := FBo Y _) (by assumption) 4 dSe_approach_118 kfSe_75 (by decide) rfl ?_
              refine v_lload hB dSe_approach_121 rfl ?_
              refine v_callV hC tbok kmSe_78 kiSe_await ksSe_await dSe_approach_123 (F := FSe Y _) (by assumption) (by rw [hY.2]; rfl) (cSe_await hY hW _ _ ν hgq hg) rfl rfl ⟨Nat.le_of_ble_eq_true rfl, Nat.le_of_ble_eq_true rfl⟩ rfl rfl (Nat.le_of_ble_eq_true rfl) ⟨Nat.zero_le _, Nat.zero_le _⟩ (kE rfl ?_)
              exact next _ _ hy
            have hv1 : v = 1 := (nI_eq (by omega) (by omega)).mp d3
            rw [if_pos hv1] at hy
            refine v_aload_n hB dSe_approach_104 rfl ?_
            refine v_aload hB dSe_approach_105 rfl ?_
            refine v_lload hB dSe_approach_107 rfl ?_
            refine v_callV hC tbok kmSe_96 kiSe_keepCloser ksSe_keepCloser dSe_approach_109 (F := FSe Y _) (by assumption) (by rw [hY.2]; rfl) (cSe_keepCloser hY hW hbk _ ν) rfl rfl ⟨Nat.le_of_ble_eq_true rfl, Nat.le_of_ble_eq_true rfl⟩ rfl rfl (Nat.le_of_ble_eq_true rfl) ⟨Nat.zero_le _, Nat.zero_le _⟩ (kE rfl ?_)
            refine v_goto hB 126 dSe_approach_112 (by decide) ?_
            exact next _ _ hy
          · rw [if_neg hku] at hy
            refine v_icmp_ge hB 132 dSe_approach_73 (by decide) (fun d1 => ?_) (fun d1 => ?_)
            · refine v_iinc hB dSe_approach_132 rfl (y := _) rfl rfl (by decide) (lv' := [_, _, _, _, _, _, _, _, _, _, _]) rfl ?_
              refine v_goto hB 18 dSe_approach_135 (by decide) ?_
              refine v_drop 5 (lv' := [_, _, _, _, _, _, _, _, _, _, _]) rfl ?_
              refine v_drop 6 (lv' := [_, _, _, _, _, _, _, _, _, _, _]) rfl ?_
              refine v_drop 7 (lv' := [_, _, _, _, _, _, _, _, _, _, _]) rfl ?_
              rw [i1]
              exact ih (i + 1) ν (by omega) hy
            · exact absurd (nI_le (by omega) (by omega)) d1
      exact slots 7 0 _ (by decide) hx
  refine v_aload_n hB dSe_approach_0 rfl ?_
  refine v_ldc2 hC (v := 9223372036854775807) kfSe_82 dSe_approach_1 ?_
  refine v_putl hC (klSe hY.2) (F := FSe Y _) (by assumption) 3 dSe_approach_4 kfSe_84 (by decide) rfl rfl rfl (fun _ _ => rfl) (fun _ _ => Nat.le_of_ble_eq_true rfl) ?_
  refine v_aload_n hB dSe_approach_7 rfl ?_
  refine v_aload_n hB dSe_approach_8 rfl ?_
  refine v_get hC (klTr hY.2) (F := FTr Y _) (by assumption) 0 dSe_approach_9 kfSe_40 (by decide) rfl ?_
  refine v_callV hC tbok kmSe_45 kiSe_begin ksSe_begin dSe_approach_12 (F := FSe Y _) (by assumption) (by rw [hY.2]; rfl) (cSe_begin hY hW _ _) rfl rfl ⟨Nat.le_of_ble_eq_true rfl, Nat.le_of_ble_eq_true rfl⟩ rfl rfl (Nat.le_of_ble_eq_true rfl) ⟨Nat.zero_le _, Nat.zero_le _⟩ (kE rfl ?_)
  refine v_iconst hB dSe_approach_15 (v := 0) (by decide) ?_
  refine v_istore hB dSe_approach_16 rfl (by decide) (lv' := [_, _, _, _, _, _, _, _, _, _, _]) rfl ?_
  exact loop 40 0 _ (by decide) h

set_option maxHeartbeats 4000000 in
set_option maxRecDepth 100000 in
theorem cSe_hitsInside {l : Launch} {Y : Yt} (hY : YB Y) (hW : YW Y) {w h : Nat} (hw : isBo Y w) (μ : Mu) (hh : μ.1 3 1 = nI h) (hh40 : h ≤ 40) : Ct l Y ySe_hitsInside wSe_hitsInside ({ frames := 1, cells := 0, slots := 0, locals := 21 }) [.ref (ad Y 3), .ref (ad Y w)] μ (PE (some (.int (nI (hiN μ w h)))) μ) := by
  refine ct_of hY.1 (by decide) rfl (Nat.le_of_ble_eq_true rfl) (lv := [some (.ref (ad Y 3)), some (.ref (ad Y w)), none, none]) rfl (fun X hC => ?_)
  have hB := hC.B
  obtain ⟨hFa, hDi, hTr, hSe, h4, h5, h6b, h7, h8, hpages, htrail, hturns, hplaces, hlog, hlp, hfound, hwait, hsq, hlk, hPg, hrow, hlrow, hfb⟩ := id hW
  have loop : ∀ (r k : Nat), k + r = h → VG X (yA Y) 4 0 0 (VQ X Y (PE (some (.int (nI (hiN μ w h)))) μ)) (yI Y (μ)) 4 [some (.ref (ad Y 3)), some (.ref (ad Y w)), some (.int (nI (hiN μ w k))), some (.int (nI k))] [] := by
    intro r
    induction r with
    | zero =>
      intro k hk
      obtain rfl : k = h := by omega
      refine v_iload_n hB dSe_hitsInside_4 rfl ?_
      refine v_aload_n hB dSe_hitsInside_5 rfl ?_
      refine v_get hC (klSe hY.2) (F := FSe Y _) (by assumption) 1 dSe_hitsInside_6 kfSe_36 (by decide) rfl ?_
      refine v_icmp_ge hB 39 dSe_hitsInside_9 (by decide) (fun c => ?_) (fun c => ?_)
      · refine v_iload_n hB dSe_hitsInside_39 rfl ?_
        exact v_iret hC rfl dSe_hitsInside_40 ⟨rfl, rfl⟩
      · exact absurd (by rw [hh]; exact nI_le (by omega) (by omega)) c
    | succ r ih =>
      intro k hk
      have hbk := hfb k (by omega)
      refine v_iload_n hB dSe_hitsInside_4 rfl ?_
      refine v_aload_n hB dSe_hitsInside_5 rfl ?_
      refine v_get hC (klSe hY.2) (F := FSe Y _) (by assumption) 1 dSe_hitsInside_6 kfSe_36 (by decide) rfl ?_
      refine v_icmp_ge hB 39 dSe_hitsInside_9 (by decide) (fun c => ?_) (fun c => ?_)
      · exact absurd c (by rw [hh]; exact (fun q => absurd ((nI_leI (by omega) (by omega)).mp q) (by omega)))
      refine v_iload_n hB dSe_hitsInside_12 rfl ?_
      refine v_aload_n hB dSe_hitsInside_13 rfl ?_
      refine v_aload_n hB dSe_hitsInside_14 rfl ?_
      refine v_get hC (klSe hY.2) (F := FSe Y _) (by assumption) 0 dSe_hitsInside_15 kfSe_11 (by decide) rfl ?_
      refine v_iload_n hB dSe_hitsInside_18 rfl ?_
      refine v_aald hC hfound k dSe_hitsInside_19 rfl (by omega) (by decide) ?_
      refine v_callV hC tbok kmSe_100 kiBo_holds ksBo_holds dSe_hitsInside_20 (F := FBo Y _) (by assumption) (by rw [hY.2]; rfl) (cBo_holds hY hw hbk μ) rfl rfl ⟨Nat.le_of_ble_eq_true rfl, Nat.le_of_ble_eq_true rfl⟩ rfl rfl (Nat.le_of_ble_eq_true rfl) ⟨Nat.zero_le _, Nat.zero_le _⟩ (kE rfl ?_)
      refine v_if_eq hB 30 dSe_hitsInside_23 (by decide) (fun c1 => ?_) (fun c1 => ?_)
      · refine v_iconst hB dSe_hitsInside_30 (v := 0) (by decide) ?_
        refine v_iadd hB dSe_hitsInside_31 ?_
        refine v_istore_n hB dSe_hitsInside_32 rfl (by decide) (lv' := [_, _, _, _]) rfl ?_
        refine v_iinc hB dSe_hitsInside_33 rfl (y := _) rfl rfl (by decide) (lv' := [_, _, _, _]) rfl ?_
        refine v_goto hB 4 dSe_hitsInside_36 (by decide) ?_
        rw [i1, show nI (hiN μ w k) + 0 = nI (hiN μ w (k + 1)) by rw [hiN, if_neg (by rw [bI_0.mp c1]; decide)]; exact nI_add _ 0]
        exact ih (k + 1) (by omega)
      · refine v_iconst hB dSe_hitsInside_26 (v := 1) (by decide) ?_
        refine v_goto hB 31 dSe_hitsInside_27 (by decide) ?_
        refine v_iadd hB dSe_hitsInside_31 ?_
        refine v_istore_n hB dSe_hitsInside_32 rfl (by decide) (lv' := [_, _, _, _]) rfl ?_
        refine v_iinc hB dSe_hitsInside_33 rfl (y := _) rfl rfl (by decide) (lv' := [_, _, _, _]) rfl ?_
        refine v_goto hB 4 dSe_hitsInside_36 (by decide) ?_
        rw [i1, nI_1, show hiN μ w k + 1 = hiN μ w (k + 1) by rw [hiN, if_pos (bI_n.mp c1)]]
        exact ih (k + 1) (by omega)
  refine v_iconst hB dSe_hitsInside_0 (v := 0) (by decide) ?_
  refine v_istore_n hB dSe_hitsInside_1 rfl (by decide) (lv' := [_, _, _, _]) rfl ?_
  refine v_iconst hB dSe_hitsInside_2 (v := 0) (by decide) ?_
  refine v_istore_n hB dSe_hitsInside_3 rfl (by decide) (lv' := [_, _, _, _]) rfl ?_
  exact loop h 0 (by omega)

set_option maxHeartbeats 4000000 in
set_option maxRecDepth 100000 in
theorem cSe_lookedOnlyWhereMet {l : Launch} {Y : Yt} (hY : YB Y) (hW : YW Y) {w : Nat} (hw : isBo Y w) {μ : Mu} {K : Bool → Mu → Prop} (h : lmW μ w K) : Ct l Y ySe_lookedOnlyWhereMet wSe_lookedOnlyWhereMet ({ frames := 2, cells := 0, slots := 0, locals := 44 }) [.ref (ad Y 3), .ref (ad Y 2), .ref (ad Y w)] μ (PB K) := by
  refine ct_of hY.1 (by decide) rfl (Nat.le_of_ble_eq_true rfl) (lv := [some (.ref (ad Y 3)), some (.ref (ad Y 2)), some (.ref (ad Y w)), none]) rfl (fun X hC => ?_)
  have hB := hC.B
  obtain ⟨hFa, hDi, hTr, hSe, h4, h5, h6b, h7, h8, hpages, htrail, hturns, hplaces, hlog, hlp, hfound, hwait, hsq, hlk, hPg, hrow, hlrow, hfb⟩ := id hW
  obtain ⟨n, hn40, hn, hl⟩ := h
  have loop : ∀ (r i : Nat) (ν : Mu), i + r = n → ν.1 3 8 = nI n → lmL w K r i ν → VG X (yA Y) 4 0 0 (VQ X Y (PB K)) (yI Y (ν)) 2 [some (.ref (ad Y 3)), some (.ref (ad Y 2)), some (.ref (ad Y w)), some (.int (nI i))] [] := by
    intro r
    induction r with
    | zero =>
      intro i ν hi hν hf
      refine v_iload_n hB dSe_lookedOnlyWhereMet_2 rfl ?_
      refine v_aload_n hB dSe_lookedOnlyWhereMet_3 rfl ?_
      refine v_get hC (klSe hY.2) (F := FSe Y _) (by assumption) 8 dSe_lookedOnlyWhereMet_4 kfSe_103 (by decide) rfl ?_
      refine v_icmp_ge hB 60 dSe_lookedOnlyWhereMet_7 (by decide) (fun c => ?_) (fun c => ?_)
      · refine v_iconst hB dSe_lookedOnlyWhereMet_60 (v := 1) (by decide) ?_
        exact v_zret hC rfl (by decide) dSe_lookedOnlyWhereMet_61 ⟨true, rfl, hf⟩
      · exact absurd (by rw [hν]; exact nI_le (by omega) (by omega)) c
    | succ r ih =>
      rintro i ν hi hν ⟨q, u, hq, hu6, hiq, hu, hx⟩
      have hqP := hPg q hq
      refine v_iload_n hB dSe_lookedOnlyWhereMet_2 rfl ?_
      refine v_aload_n hB dSe_lookedOnlyWhereMet_3 rfl ?_
      refine v_get hC (klSe hY.2) (F := FSe Y _) (by assumption) 8 dSe_lookedOnlyWhereMet_4 kfSe_103 (by decide) rfl ?_
      refine v_icmp_ge hB 60 dSe_lookedOnlyWhereMet_7 (by decide) (fun c => ?_) (fun c => ?_)
      · exact absurd c (by rw [hν]; exact (fun q => absurd ((nI_leI (by omega) (by omega)).mp q) (by omega)))
      refine v_aload_n hB dSe_lookedOnlyWhereMet_10 rfl ?_
      refine v_aload_n hB dSe_lookedOnlyWhereMet_11 rfl ?_
      refine v_get hC (klSe hY.2) (F := FSe Y _) (by assumption) 7 dSe_lookedOnlyWhereMet_12 kfSe_30 (by decide) rfl ?_
      refine v_iload_n hB dSe_lookedOnlyWhereMet_15 rfl ?_
      refine v_iald hC hlk i dSe_lookedOnlyWhereMet_16 rfl (by omega) (by decide) ?_
      rw [hiq]
      refine v_callV hC tbok kmSe_106 kiTr_at ksTr_at dSe_lookedOnlyWhereMet_17 (F := FTr Y _) (by assumption) (by rw [hY.2]; rfl) (cTr_at hY hW hq ν) rfl rfl ⟨Nat.le_of_ble_eq_true rfl, Nat.le_of_ble_eq_true rfl⟩ rfl rfl (Nat.le_of_ble_eq_true rfl) ⟨Nat.zero_le _, Nat.zero_le _⟩ (kE rfl ?_)
      refine v_iconst hB dSe_lookedOnlyWhereMet_20 (v := -1) (by decide) ?_
      refine v_aload_n hB dSe_lookedOnlyWhereMet_21 rfl ?_
      refine v_get hC (klSe hY.2) (F := FSe Y _) (by assumption) 9 dSe_lookedOnlyWhereMet_22 kfSe_33 (by decide) rfl ?_
      refine v_callV hC tbok kmSe_110 kiPa_frame ksPa_frame dSe_lookedOnlyWhereMet_25 (F := FPa Y _) hqP.2.1 (by rw [hY.2]; rfl) (cPa_frame hY hqP h8 (-1) ν hu hu6) rfl rfl ⟨Nat.le_of_ble_eq_true rfl, Nat.le_of_ble_eq_true rfl⟩ rfl rfl (Nat.le_of_ble_eq_true rfl) ⟨Nat.zero_le _, Nat.zero_le _⟩ (kE rfl ?_)
      generalize hν1 : frM ν q u (-1) 8 = ν1 at hx ⊢
      have e1 : ν1.1 18 i = nI q := by rw [← hν1, frM_ne _ _ _ _ (show (18 : Nat) ≠ 8 by decide)]; exact hiq
      have e2 : ν1.1 3 8 = nI n := by rw [← hν1, frM_ne _ _ _ _ (show (3 : Nat) ≠ 8 by decide)]; exact hν
      refine v_aload_n hB dSe_lookedOnlyWhereMet_28 rfl ?_
      refine v_get hC (klSe hY.2) (F := FSe Y _) (by assumption) 7 dSe_lookedOnlyWhereMet_29 kfSe_30 (by decide) rfl ?_
      refine v_iload_n hB dSe_lookedOnlyWhereMet_32 rfl ?_
      refine v_iald hC hlk i dSe_lookedOnlyWhereMet_33 rfl (by omega) (by decide) ?_
      rw [e1]
      have next : (nI q = ν1.1 2 0 ∨ meetB (ν1.1 8) (ν1.1 w) = true) → VG X (yA Y) 4 0 0 (VQ X Y (PB K)) (yI Y (ν1)) 54 [some (.ref (ad Y 3)), some (.ref (ad Y 2)), some (.ref (ad Y w)), some (.int (nI i))] [] := by
        intro hz
        rw [if_pos hz] at hx
        refine v_iinc hB dSe_lookedOnlyWhereMet_54 rfl (y := _) rfl rfl (by decide) (lv' := [_, _, _, _]) rfl ?_
        refine v_goto hB 2 dSe_lookedOnlyWhereMet_57 (by decide) ?_
        rw [i1]
        exact ih (i + 1) ν1 (by omega) e2 hx
      refine v_aload_n hB dSe_lookedOnlyWhereMet_34 rfl ?_
      refine v_get hC (klTr hY.2) (F := FTr Y _) (by assumption) 0 dSe_lookedOnlyWhereMet_35 kfSe_40 (by decide) rfl ?_
      refine v_icmp_eq hB 54 dSe_lookedOnlyWhereMet_38 (by decide) (fun c1 => ?_) (fun c1 => ?_)
      · exact next (Or.inl c1)
      refine v_aload_n hB dSe_lookedOnlyWhereMet_41 rfl ?_
      refine v_get hC (klSe hY.2) (F := FSe Y _) (by assumption) 9 dSe_lookedOnlyWhereMet_42 kfSe_33 (by decide) rfl ?_
      refine v_aload_n hB dSe_lookedOnlyWhereMet_45 rfl ?_
      refine v_callV hC tbok kmSe_64 kiBo_meets ksBo_meets dSe_lookedOnlyWhereMet_46 (F := FBo Y _) (by assumption) (by rw [hY.2]; rfl) (cBo_meets hY h8 hw ν1) rfl rfl ⟨Nat.le_of_ble_eq_true rfl, Nat.le_of_ble_eq_true rfl⟩ rfl rfl (Nat.le_of_ble_eq_true rfl) ⟨Nat.zero_le _, Nat.zero_le _⟩ (kE rfl ?_)
      refine v_if_ne hB 54 dSe_lookedOnlyWhereMet_49 (by decide) (fun c2 => ?_) (fun c2 => ?_)
      · exact next (Or.inr (bI_n.mp c2))
      rw [if_neg (fun z => z.elim c1 (fun q => by rw [bI_0.mp c2] at q; exact absurd q (by decide)))] at hx
      refine v_iconst hB dSe_lookedOnlyWhereMet_52 (v := 0) (by decide) ?_
      exact v_zret hC rfl (by decide) dSe_lookedOnlyWhereMet_53 ⟨false, rfl, hx⟩
  refine v_iconst hB dSe_lookedOnlyWhereMet_0 (v := 0) (by decide) ?_
  refine v_istore_n hB dSe_lookedOnlyWhereMet_1 rfl (by decide) (lv' := [_, _, _, _]) rfl ?_
  exact loop n 0 μ (by omega) hn hl

set_option maxHeartbeats 4000000 in
set_option maxRecDepth 100000 in
theorem cSe_lookedNoFarther {l : Launch} {Y : Yt} (hY : YB Y) (hW : YW Y) (x y : Int32) {μ : Mu} {K : Bool → Mu → Prop} (h : lfW μ x y K) : Ct l Y ySe_lookedNoFarther wSe_lookedNoFarther ({ frames := 2, cells := 0, slots := 0, locals := 44 }) [.ref (ad Y 3), .ref (ad Y 2), .int x, .int y] μ (PB K) := by
  refine ct_of hY.1 (by decide) rfl (Nat.le_of_ble_eq_true rfl) (lv := [some (.ref (ad Y 3)), some (.ref (ad Y 2)), some (.int x), some (.int y), none]) rfl (fun X hC => ?_)
  have hB := hC.B
  obtain ⟨hFa, hDi, hTr, hSe, h4, h5, h6b, h7, h8, hpages, htrail, hturns, hplaces, hlog, hlp, hfound, hwait, hsq, hlk, hPg, hrow, hlrow, hfb⟩ := id hW
  obtain ⟨n, hn40, hn, hl⟩ := h
  have loop : ∀ (r i : Nat) (ν : Mu), i + r = n → ν.1 3 8 = nI n → lfL x y K r i ν → VG X (yA Y) 5 0 0 (VQ X Y (PB K)) (yI Y (ν)) 3 [some (.ref (ad Y 3)), some (.ref (ad Y 2)), some (.int x), some (.int y), some (.int (nI i))] [] := by
    intro r
    induction r with
    | zero =>
      intro i ν hi hν hf
      refine v_iload hB dSe_lookedNoFarther_3 rfl ?_
      refine v_aload_n hB dSe_lookedNoFarther_5 rfl ?_
      refine v_get hC (klSe hY.2) (F := FSe Y _) (by assumption) 8 dSe_lookedNoFarther_6 kfSe_103 (by decide) rfl ?_
      refine v_icmp_ge hB 70 dSe_lookedNoFarther_9 (by decide) (fun c => ?_) (fun c => ?_)
      · refine v_iconst hB dSe_lookedNoFarther_70 (v := 1) (by decide) ?_
        exact v_zret hC rfl (by decide) dSe_lookedNoFarther_71 ⟨true, rfl, hf⟩
      · exact absurd (by rw [hν]; exact nI_le (by omega) (by omega)) c
    | succ r ih =>
      rintro i ν hi hν ⟨q, u, hq, hu6, hiq, hu, hx⟩
      have hqP := hPg q hq
      refine v_iload hB dSe_lookedNoFarther_3 rfl ?_
      refine v_aload_n hB dSe_lookedNoFarther_5 rfl ?_
      refine v_get hC (klSe hY.2) (F := FSe Y _) (by assumption) 8 dSe_lookedNoFarther_6 kfSe_103 (by decide) rfl ?_
      refine v_icmp_ge hB 70 dSe_lookedNoFarther_9 (by decide) (fun c => ?_) (fun c => ?_)
      · exact absurd c (by rw [hν]; exact (fun q => absurd ((nI_leI (by omega) (by omega)).mp q) (by omega)))
      refine v_aload_n hB dSe_lookedNoFarther_12 rfl ?_
      refine v_aload_n hB dSe_lookedNoFarther_13 rfl ?_
      refine v_get hC (klSe hY.2) (F := FSe Y _) (by assumption) 7 dSe_lookedNoFarther_14 kfSe_30 (by decide) rfl ?_
      refine v_iload hB dSe_lookedNoFarther_17 rfl ?_
      refine v_iald hC hlk i dSe_lookedNoFarther_19 rfl (by omega) (by decide) ?_
      rw [hiq]
      refine v_callV hC tbok kmSe_106 kiTr_at ksTr_at dSe_lookedNoFarther_20 (F := FTr Y _) (by assumption) (by rw [hY.2]; rfl) (cTr_at hY hW hq ν) rfl rfl ⟨Nat.le_of_ble_eq_true rfl, Nat.le_of_ble_eq_true rfl⟩ rfl rfl (Nat.le_of_ble_eq_true rfl) ⟨Nat.zero_le _, Nat.zero_le _⟩ (kE rfl ?_)
      refine v_iconst hB dSe_lookedNoFarther_23 (v := -1) (by decide) ?_
      refine v_aload_n hB dSe_lookedNoFarther_24 rfl ?_
      refine v_get hC (klSe hY.2) (F := FSe Y _) (by assumption) 9 dSe_lookedNoFarther_25 kfSe_33 (by decide) rfl ?_
      refine v_callV hC tbok kmSe_110 kiPa_frame ksPa_frame dSe_lookedNoFarther_28 (F := FPa Y _) hqP.2.1 (by rw [hY.2]; rfl) (cPa_frame hY hqP h8 (-1) ν hu hu6) rfl rfl ⟨Nat.le_of_ble_eq_true rfl, Nat.le_of_ble_eq_true rfl⟩ rfl rfl (Nat.le_of_ble_eq_true rfl) ⟨Nat.zero_le _, Nat.zero_le _⟩ (kE rfl ?_)
      generalize hν1 : frM ν q u (-1) 8 = ν1 at hx ⊢
      have e1 : ν1.1 18 i = nI q := by rw [← hν1, frM_ne _ _ _ _ (show (18 : Nat) ≠ 8 by decide)]; exact hiq
      have e2 : ν1.1 3 8 = nI n := by rw [← hν1, frM_ne _ _ _ _ (show (3 : Nat) ≠ 8 by decide)]; exact hν
      refine v_aload_n hB dSe_lookedNoFarther_31 rfl ?_
      refine v_get hC (klSe hY.2) (F := FSe Y _) (by assumption) 7 dSe_lookedNoFarther_32 kfSe_30 (by decide) rfl ?_
      refine v_iload hB dSe_lookedNoFarther_35 rfl ?_
      refine v_iald hC hlk i dSe_lookedNoFarther_37 rfl (by omega) (by decide) ?_
      rw [e1]
      have next : (nI q = ν1.1 2 0 ∨ ¬ ν1.2 3 3 < sqB (ν1.1 8) x y) → VG X (yA Y) 5 0 0 (VQ X Y (PB K)) (yI Y (ν1)) 64 [some (.ref (ad Y 3)), some (.ref (ad Y 2)), some (.int x), some (.int y), some (.int (nI i))] [] := by
        intro hz
        rw [if_pos hz] at hx
        refine v_iinc hB dSe_lookedNoFarther_64 rfl (y := _) rfl rfl (by decide) (lv' := [_, _, _, _, _]) rfl ?_
        refine v_goto hB 3 dSe_lookedNoFarther_67 (by decide) ?_
        rw [i1]
        exact ih (i + 1) ν1 (by omega) e2 hx
      refine v_aload_n hB dSe_lookedNoFarther_38 rfl ?_
      refine v_get hC (klTr hY.2) (F := FTr Y _) (by assumption) 0 dSe_lookedNoFarther_39 kfSe_40 (by decide) rfl ?_
      refine v_icmp_eq hB 64 dSe_lookedNoFarther_42 (by decide) (fun c1 => ?_) (fun c1 => ?_)
      · exact next (Or.inl c1)
      refine v_aload_n hB dSe_lookedNoFarther_45 rfl ?_
      refine v_get hC (klSe hY.2) (F := FSe Y _) (by assumption) 9 dSe_lookedNoFarther_46 kfSe_33 (by decide) rfl ?_
      refine v_iload_n hB dSe_lookedNoFarther_49 rfl ?_
      refine v_iload_n hB dSe_lookedNoFarther_50 rfl ?_
      refine v_callV hC tbok kmSe_92 kiBo_squareFrom ksBo_squareFrom dSe_lookedNoFarther_51 (F := FBo Y _) (by assumption) (by rw [hY.2]; rfl) (cBo_squareFrom hY h8 x y ν1) rfl rfl ⟨Nat.le_of_ble_eq_true rfl, Nat.le_of_ble_eq_true rfl⟩ rfl rfl (Nat.le_of_ble_eq_true rfl) ⟨Nat.zero_le _, Nat.zero_le _⟩ (kE rfl ?_)
      refine v_aload_n hB dSe_lookedNoFarther_54 rfl ?_
      refine v_get hC (klSe hY.2) (F := FSe Y _) (by assumption) 3 dSe_lookedNoFarther_55 kfSe_84 (by decide) rfl ?_
      refine v_lcmp hB dSe_lookedNoFarther_58 ?_
      refine v_if_le hB 64 dSe_lookedNoFarther_59 (by decide) (fun c2 => ?_) (fun c2 => ?_)
      · exact next (Or.inr (lc_le.mp c2))
      rw [if_neg (fun z => z.elim c1 (fun q => c2 (lc_le.mpr q)))] at hx
      refine v_iconst hB dSe_lookedNoFarther_62 (v := 0) (by decide) ?_
      exact v_zret hC rfl (by decide) dSe_lookedNoFarther_63 ⟨false, rfl, hx⟩
  refine v_iconst hB dSe_lookedNoFarther_0 (v := 0) (by decide) ?_
  refine v_istore hB dSe_lookedNoFarther_1 rfl (by decide) (lv' := [_, _, _, _, _]) rfl ?_
  exact loop n 0 μ (by omega) hn hl

