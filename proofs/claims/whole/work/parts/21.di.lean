/-! THE DISK. -/
theorem ac_l : Cond.methodLink RDi 56 arraycopyName ∈ tbl := tb2 147 (by decide +kernel) (by decide +kernel)
theorem ac_n : Cond.native arraycopyName ∈ tbl := tb2 149 (by decide +kernel) (by decide +kernel)
theorem ac_s : Cond.static arraycopyName ∈ tbl := tb2 148 (by decide +kernel) (by decide +kernel)
theorem ac_i : Cond.initialized "java/lang/System" ∈ tbl := tb1 10 (by decide +kernel) (by decide +kernel)
theorem v_copy27 {X : Xt} {Y : Yt} {n cells slots : Nat} {Q : State → Prop} {μ : Mu} {pc : Nat} {lv : List (Option Value)} {st : List Value} {l : Launch} {rm : Room} {cc : ByteArray} {ret : Option FieldType} {z : Cond} (C : VC X Y l rm cc n ret (z :: tbl) RDi) {i j : Nat} (hi : AI Y i 27) (hj : AI Y j 27) (d : decode cc pc = .ok (.invokestatic 56, 3)) (hf : 1 ≤ rm.frames) (hlo : (st.map fun v => v.category).sum + (nativeFrameWords "java/lang/System" "arraycopy" 5 + 11) ≤ rm.locals) (kk : VG X (yA Y) n cells slots Q (yI Y (wr μ j (va_cpy (μ.1 i) (μ.1 j) 0 0 27))) (pc + 3) lv st) : VG X (yA Y) n cells slots Q (yI Y μ) pc lv (.int 27 :: .int 0 :: .ref (ad Y j) :: .int 0 :: .ref (ad Y i) :: st) := by
  have hrm : xR X = rm := C.2.2.2.2.2.2.2.2.2.2
  have ht := C.2.2.2.2.1
  subst hrm
  obtain ⟨h1, c0, t0, ht0, hs0⟩ := hi
  obtain ⟨h2, c1, t1, ht1, hs1⟩ := hj
  intro H locs ls hI hS hl
  have e0 := yW_get μ h1
  rw [hs0] at e0
  have e1 := yW_get μ h2
  rw [hs1] at e1
  refine va_copyi C.1 C.2.1 (by rw [hl.1]; exact C.2.2.1) C.2.2.2.1 (ht _ (List.mem_cons_of_mem _ ac_l)) (ht _ (List.mem_cons_of_mem _ ac_n)) (ht _ (List.mem_cons_of_mem _ ac_s)) (ht _ (List.mem_cons_of_mem _ ac_i)) C.2.2.2.2.2.2.2.1 hI (yW_D C.2.2.2.2.2.2.2.2.1 μ) hS i j t0 t1 e0 e1 ht0 ht1 rfl (by decide) (by decide) (by decide) (by decide) (by decide) (fun _ _ => rfl) hf hlo d (fun H1 locs1 hP1 _ hS1 => ?_)
  rw [yW_set (μ := μ) (μ' := wr μ j (va_cpy (μ.1 i) (μ.1 j) 0 0 27)) h2 (by rw [wr_self, hs1]; rfl) (fun a h => ⟨wr_ne μ _ h, rfl⟩)] at hP1
  exact kk H1 locs1 ls hP1 hS1 hl
def elM (μ : Mu) : Mu := wi (wi μ 1 3 0) 1 4 0
def cpM (μ : Mu) (k q : Nat) : Mu := wr μ (plI q) (va_cpy (μ.1 (lgI k)) (μ.1 (plI q)) 0 0 27)
def wcL (K : Mu → Prop) : Nat → Nat → Mu → Prop
  | 0, _, μ => K μ
  | r + 1, k, μ => ∃ q, q < 40 ∧ μ.1 14 k = nI q ∧ wcL K r (k + 1) (cpM μ k q)
def wlL (m : Nat) (K : Mu → Prop) : Nat → Nat → Mu → Prop
  | 0, _, μ => K μ
  | r + 1, q, μ => ∃ g, g ≤ 40 ∧ μ.1 1 3 = nI g ∧ (if g < m then tB (chg μ q) ∧ (if chg μ q = 0 then wlL m K r (q + 1) μ else g < 40 ∧ wpW μ q (lgI g) (fun ν => ν.1 1 3 = nI g ∧ wlL m K r (q + 1) (wi (wi ν 14 g (nI q)) 1 3 (nI (g + 1))))) else K μ)
def kpW (μ : Mu) (c : Int32) (K : Bool → Mu → Prop) : Prop := if c = 0 then K false μ else (∀ q, q < 40 → tB (chg μ q)) ∧ wlL (if c = 1 then cnt μ 40 / 2 else cnt μ 40) (fun μ1 => if c = 1 ∨ c = 2 then K false μ1 else if c = 3 then K false (wi μ1 1 4 1) else ∃ g, g ≤ 40 ∧ (wi μ1 1 4 1).1 1 3 = nI g ∧ wcL (fun μ3 => if c = 4 ∨ c = 5 then K false μ3 else K true (elM μ3)) (min g (if c = 4 then 1 else g)) 0 (wi μ1 1 4 1)) 40 0 μ
def rcW (μ : Mu) (K : Mu → Prop) : Prop := ∃ g, g ≤ 40 ∧ μ.1 1 3 = nI g ∧ (if μ.1 1 4 = 0 then K (elM μ) else wcL (fun ν => K (elM ν)) g 0 μ)
theorem pl_1 (q : Nat) : 1 ≠ plI q := by unfold plI; omega
set_option maxHeartbeats 4000000 in
set_option maxRecDepth 100000 in
theorem cDi_emptyLog {l : Launch} {Y : Yt} (hY : YB Y) (hW : YW Y) (μ : Mu) : Ct l Y yDi_emptyLog wDi_emptyLog ({ frames := 0, cells := 0, slots := 0, locals := 0 }) [.ref (ad Y 1)] μ (PE none (elM μ)) := by
  refine ct_of hY.1 (by decide) rfl (Nat.le_of_ble_eq_true rfl) (lv := [some (.ref (ad Y 1))]) rfl (fun X hC => ?_)
  have hB := hC.B
  obtain ⟨hFa, hDi, hTr, hSe, h4, h5, h6b, h7, h8, hpages, htrail, hturns, hplaces, hlog, hlp, hfound, hwait, hsq, hlk, hPg, hrow, hlrow, hfb⟩ := id hW
  refine v_aload_n hB dDi_emptyLog_0 rfl ?_
  refine v_iconst hB dDi_emptyLog_1 (v := 0) (by decide) ?_
  refine v_puti hC (klDi hY.2) (F := FDi Y _) (by assumption) 3 dDi_emptyLog_2 kfDi_37 (by decide) rfl rfl rfl (fun _ _ => rfl) (fun _ _ => Nat.le_of_ble_eq_true rfl) ?_
  refine v_aload_n hB dDi_emptyLog_5 rfl ?_
  refine v_iconst hB dDi_emptyLog_6 (v := 0) (by decide) ?_
  refine v_puti hC (klDi hY.2) (F := FDi Y _) (by assumption) 4 dDi_emptyLog_7 kfDi_33 (by decide) rfl (by decide) (by decide) (fun _ _ => rfl) (fun _ _ => Nat.le_of_ble_eq_true rfl) ?_
  exact v_vret hC rfl dDi_emptyLog_10 ⟨rfl, rfl⟩

set_option maxHeartbeats 4000000 in
set_option maxRecDepth 100000 in
theorem cDi_writePlaces {l : Launch} {Y : Yt} (hY : YB Y) (hW : YW Y) {g m : Nat} {μ : Mu} {K : Mu → Prop} (hg : μ.1 1 3 = nI g) (hg40 : g ≤ 40) (hm : m < 2 ^ 30) (h : wcL K (min g m) 0 μ) : Ct l Y yDi_writePlaces wDi_writePlaces ({ frames := 1, cells := 0, slots := 0, locals := 30 }) [.ref (ad Y 1), .int (nI m)] μ (PV K) := by
  refine ct_of hY.1 (by decide) rfl (Nat.le_of_ble_eq_true rfl) (lv := [some (.ref (ad Y 1)), some (.int (nI m)), none]) rfl (fun X hC => ?_)
  have hB := hC.B
  obtain ⟨hFa, hDi, hTr, hSe, h4, h5, h6b, h7, h8, hpages, htrail, hturns, hplaces, hlog, hlp, hfound, hwait, hsq, hlk, hPg, hrow, hlrow, hfb⟩ := id hW
  have loop : ∀ (r k : Nat) (ν : Mu), k + r = min g m → ν.1 1 3 = nI g → wcL K r k ν → VG X (yA Y) 3 0 0 (VQ X Y (PV K)) (yI Y (ν)) 2 [some (.ref (ad Y 1)), some (.int (nI m)), some (.int (nI k))] [] := by
    intro r
    induction r with
    | zero =>
      intro k ν hk hν hf
      refine v_iload_n hB dDi_writePlaces_2 rfl ?_
      refine v_aload_n hB dDi_writePlaces_3 rfl ?_
      refine v_get hC (klDi hY.2) (F := FDi Y _) (by assumption) 3 dDi_writePlaces_4 kfDi_37 (by decide) rfl ?_
      refine v_icmp_ge hB 45 dDi_writePlaces_7 (by decide) (fun c => ?_) (fun c => ?_)
      · exact v_vret hC rfl dDi_writePlaces_45 ⟨rfl, hf⟩
      have hkg : k < g := by
        rw [hν, nI_leI (by omega) (by omega)] at c
        omega
      refine v_iload_n hB dDi_writePlaces_10 rfl ?_
      refine v_iload_n hB dDi_writePlaces_11 rfl ?_
      refine v_icmp_ge hB 45 dDi_writePlaces_12 (by decide) (fun c1 => ?_) (fun c1 => ?_)
      · exact v_vret hC rfl dDi_writePlaces_45 ⟨rfl, hf⟩
      exact absurd (nI_le (by omega) (by omega)) c1
    | succ r ih =>
      rintro k ν hk hν ⟨q, hq, hlq, hf⟩
      refine v_iload_n hB dDi_writePlaces_2 rfl ?_
      refine v_aload_n hB dDi_writePlaces_3 rfl ?_
      refine v_get hC (klDi hY.2) (F := FDi Y _) (by assumption) 3 dDi_writePlaces_4 kfDi_37 (by decide) rfl ?_
      refine v_icmp_ge hB 45 dDi_writePlaces_7 (by decide) (fun c => ?_) (fun c => ?_)
      · exact absurd c (by rw [hν]; exact (fun q => absurd ((nI_leI (by omega) (by omega)).mp q) (by omega)))
      refine v_iload_n hB dDi_writePlaces_10 rfl ?_
      refine v_iload_n hB dDi_writePlaces_11 rfl ?_
      refine v_icmp_ge hB 45 dDi_writePlaces_12 (by decide) (fun c1 => ?_) (fun c1 => ?_)
      · exact absurd c1 (fun q => absurd ((nI_leI (by omega) (by omega)).mp q) (by omega))
      refine v_aload_n hB dDi_writePlaces_15 rfl ?_
      refine v_get hC (klDi hY.2) (F := FDi Y _) (by assumption) 1 dDi_writePlaces_16 kfDi_16 (by decide) rfl ?_
      refine v_iload_n hB dDi_writePlaces_19 rfl ?_
      refine v_aald hC hlog k dDi_writePlaces_20 rfl (by omega) (by decide) ?_
      refine v_iconst hB dDi_writePlaces_21 (v := 0) (by decide) ?_
      refine v_aload_n hB dDi_writePlaces_22 rfl ?_
      refine v_get hC (klDi hY.2) (F := FDi Y _) (by assumption) 0 dDi_writePlaces_23 kfDi_11 (by decide) rfl ?_
      refine v_aload_n hB dDi_writePlaces_26 rfl ?_
      refine v_get hC (klDi hY.2) (F := FDi Y _) (by assumption) 2 dDi_writePlaces_27 kfDi_19 (by decide) rfl ?_
      refine v_iload_n hB dDi_writePlaces_30 rfl ?_
      refine v_iald hC hlp k dDi_writePlaces_31 rfl (by omega) (by decide) ?_
      refine v_aald hC hplaces q dDi_writePlaces_32 hlq (by omega) (by decide) ?_
      refine v_iconst hB dDi_writePlaces_33 (v := 0) (by decide) ?_
      refine v_bipush hB dDi_writePlaces_34 (v := 27) (by decide) ?_
      refine v_copy27 hC (hlrow k (by omega)) (hrow q hq) dDi_writePlaces_36 (Nat.le_of_ble_eq_true rfl) (Nat.le_of_ble_eq_true rfl) ?_
      refine v_iinc hB dDi_writePlaces_39 rfl (y := _) rfl rfl (by decide) (lv' := [_, _, _]) rfl ?_
      refine v_goto hB 2 dDi_writePlaces_42 (by decide) ?_
      rw [i1]
      exact ih (k + 1) _ (by omega) (by rw [wr_ne _ _ (pl_1 q)]; exact hν) hf
  refine v_iconst hB dDi_writePlaces_0 (v := 0) (by decide) ?_
  refine v_istore_n hB dDi_writePlaces_1 rfl (by decide) (lv' := [_, _, _]) rfl ?_
  exact loop (min g m) 0 μ (by omega) hg h

set_option maxHeartbeats 4000000 in
set_option maxRecDepth 100000 in
theorem cDi_writeLog {l : Launch} {Y : Yt} (hY : YB Y) (hW : YW Y) {m : Nat} (hm : m ≤ 40) {μ : Mu} {K : Mu → Prop} (h : wlL m K 40 0 μ) : Ct l Y yDi_writeLog wDi_writeLog ({ frames := 2, cells := 0, slots := 0, locals := 45 }) [.ref (ad Y 1), .ref (ad Y 2), .int (nI m)] μ (PV K) := by
  refine ct_of hY.1 (by decide) rfl (Nat.le_of_ble_eq_true rfl) (lv := [some (.ref (ad Y 1)), some (.ref (ad Y 2)), some (.int (nI m)), none]) rfl (fun X hC => ?_)
  have hB := hC.B
  obtain ⟨hFa, hDi, hTr, hSe, h4, h5, h6b, h7, h8, hpages, htrail, hturns, hplaces, hlog, hlp, hfound, hwait, hsq, hlk, hPg, hrow, hlrow, hfb⟩ := id hW
  have loop : ∀ (r q : Nat) (ν : Mu), q + r = 40 → wlL m K r q ν → VG X (yA Y) 4 0 0 (VQ X Y (PV K)) (yI Y (ν)) 2 [some (.ref (ad Y 1)), some (.ref (ad Y 2)), some (.int (nI m)), some (.int (nI q))] [] := by
    intro r
    induction r with
    | zero =>
      intro q ν hk hf
      refine v_iload_n hB dDi_writeLog_2 rfl ?_
      refine v_bipush hB dDi_writeLog_3 (v := 40) (by decide) ?_
      refine v_icmp_ge hB 64 dDi_writeLog_5 (by decide) (fun c => ?_) (fun c => ?_)
      · exact v_vret hC rfl dDi_writeLog_64 ⟨rfl, hf⟩
      · exact absurd (by rw [show (40 : Int32) = nI 40 from rfl]; exact nI_le (by omega) (by omega)) c
    | succ r ih =>
      rintro q ν hk ⟨g, hg40, hg, hi⟩
      have hq : q < 40 := by omega
      refine v_iload_n hB dDi_writeLog_2 rfl ?_
      refine v_bipush hB dDi_writeLog_3 (v := 40) (by decide) ?_
      refine v_icmp_ge hB 64 dDi_writeLog_5 (by decide) (fun c => ?_) (fun c => ?_)
      · exact absurd c (by rw [show (40 : Int32) = nI 40 from rfl]; exact (fun q => absurd ((nI_leI (by omega) (by omega)).mp q) (by omega)))
      refine v_aload_n hB dDi_writeLog_8 rfl ?_
      refine v_get hC (klDi hY.2) (F := FDi Y _) (by assumption) 3 dDi_writeLog_9 kfDi_37 (by decide) rfl ?_
      refine v_iload_n hB dDi_writeLog_12 rfl ?_
      refine v_icmp_ge hB 64 dDi_writeLog_13 (by decide) (fun c1 => ?_) (fun c1 => ?_)
      · rw [if_neg (fun z => by rw [hg, nI_leI (by omega) (by omega)] at c1; omega)] at hi
        exact v_vret hC rfl dDi_writeLog_64 ⟨rfl, hi⟩
      have hgm : g < m := by
        rw [hg, nI_leI (by omega) (by omega)] at c1
        omega
      rw [if_pos hgm] at hi
      obtain ⟨htb, hi⟩ := hi
      refine v_aload_n hB dDi_writeLog_16 rfl ?_
      refine v_iload_n hB dDi_writeLog_17 rfl ?_
      refine v_callV hC tbok kmDi_48 kiTr_isChanged ksTr_isChanged dDi_writeLog_18 (F := FTr Y _) (by assumption) (by rw [hY.2]; rfl) (cTr_isChanged hY hW hq ν htb) rfl rfl ⟨Nat.le_of_ble_eq_true rfl, Nat.le_of_ble_eq_true rfl⟩ rfl rfl (Nat.le_of_ble_eq_true rfl) ⟨Nat.zero_le _, Nat.zero_le _⟩ (kE rfl ?_)
      refine v_if_eq hB 58 dDi_writeLog_21 (by decide) (fun c2 => ?_) (fun c2 => ?_)
      · rw [if_pos c2] at hi
        refine v_iinc hB dDi_writeLog_58 rfl (y := _) rfl rfl (by decide) (lv' := [_, _, _, _]) rfl ?_
        refine v_goto hB 2 dDi_writeLog_61 (by decide) ?_
        rw [i1]
        exact ih (q + 1) ν (by omega) hi
      rw [if_neg c2] at hi
      obtain ⟨hg2, hi⟩ := hi
      refine v_aload_n hB dDi_writeLog_24 rfl ?_
      refine v_iload_n hB dDi_writeLog_25 rfl ?_
      refine v_aload_n hB dDi_writeLog_26 rfl ?_
      refine v_get hC (klDi hY.2) (F := FDi Y _) (by assumption) 1 dDi_writeLog_27 kfDi_16 (by decide) rfl ?_
      refine v_aload_n hB dDi_writeLog_30 rfl ?_
      refine v_get hC (klDi hY.2) (F := FDi Y _) (by assumption) 3 dDi_writeLog_31 kfDi_37 (by decide) rfl ?_
      refine v_aald hC hlog g dDi_writeLog_34 hg (by omega) (by decide) ?_
      refine v_callV hC tbok kmDi_52 kiTr_writePage ksTr_writePage dDi_writeLog_35 (F := FTr Y _) (by assumption) (by rw [hY.2]; rfl) (cTr_writePage hY hW hq (hlrow g hg2) hi) rfl rfl ⟨Nat.le_of_ble_eq_true rfl, Nat.le_of_ble_eq_true rfl⟩ rfl rfl (Nat.le_of_ble_eq_true rfl) ⟨Nat.zero_le _, Nat.zero_le _⟩ (kV fun ν1 h1 => ?_)
      obtain ⟨hg3, h1⟩ := h1
      refine v_aload_n hB dDi_writeLog_38 rfl ?_
      refine v_get hC (klDi hY.2) (F := FDi Y _) (by assumption) 2 dDi_writeLog_39 kfDi_19 (by decide) rfl ?_
      refine v_aload_n hB dDi_writeLog_42 rfl ?_
      refine v_get hC (klDi hY.2) (F := FDi Y _) (by assumption) 3 dDi_writeLog_43 kfDi_37 (by decide) rfl ?_
      refine v_iload_n hB dDi_writeLog_46 rfl ?_
      refine v_iast hC hlp g dDi_writeLog_47 hg3 (by omega) (by decide) ?_
      refine v_aload_n hB dDi_writeLog_48 rfl ?_
      refine v_dup hB dDi_writeLog_49 rfl ?_
      refine v_get hC (klDi hY.2) (F := FDi Y _) (by assumption) 3 dDi_writeLog_50 kfDi_37 (by decide) rfl ?_
      refine v_iconst hB dDi_writeLog_53 (v := 1) (by decide) ?_
      refine v_iadd hB dDi_writeLog_54 ?_
      rw [wi_ne ν1 g (nI q) (show (1 : Nat) ≠ 14 by decide), hg3, nI_1]
      refine v_puti hC (klDi hY.2) (F := FDi Y _) (by assumption) 3 dDi_writeLog_55 kfDi_37 (by decide) rfl rfl rfl (fun _ _ => rfl) (fun _ _ => Nat.le_of_ble_eq_true rfl) ?_
      refine v_iinc hB dDi_writeLog_58 rfl (y := _) rfl rfl (by decide) (lv' := [_, _, _, _]) rfl ?_
      refine v_goto hB 2 dDi_writeLog_61 (by decide) ?_
      rw [i1]
      exact ih (q + 1) _ (by omega) h1
  refine v_iconst hB dDi_writeLog_0 (v := 0) (by decide) ?_
  refine v_istore_n hB dDi_writeLog_1 rfl (by decide) (lv' := [_, _, _, _]) rfl ?_
  exact loop 40 0 μ (by decide) h

set_option maxHeartbeats 4000000 in
set_option maxRecDepth 100000 in
theorem cDi_recover {l : Launch} {Y : Yt} (hY : YB Y) (hW : YW Y) {μ : Mu} {K : Mu → Prop} (h : rcW μ K) : Ct l Y yDi_recover wDi_recover ({ frames := 2, cells := 0, slots := 0, locals := 52 }) [.ref (ad Y 1)] μ (PV K) := by
  refine ct_of hY.1 (by decide) rfl (Nat.le_of_ble_eq_true rfl) (lv := [some (.ref (ad Y 1))]) rfl (fun X hC => ?_)
  have hB := hC.B
  obtain ⟨hFa, hDi, hTr, hSe, h4, h5, h6b, h7, h8, hpages, htrail, hturns, hplaces, hlog, hlp, hfound, hwait, hsq, hlk, hPg, hrow, hlrow, hfb⟩ := id hW
  obtain ⟨g, hg40, hg, hi⟩ := h
  have last : ∀ ν : Mu, K (elM ν) → VG X (yA Y) 1 0 0 (VQ X Y (PV K)) (yI Y (ν)) 15 [some (.ref (ad Y 1))] [] := by
    intro ν hν
    refine v_aload_n hB dDi_recover_15 rfl ?_
    refine v_callV hC tbok kmDi_45 kiDi_emptyLog ksDi_emptyLog dDi_recover_16 (F := FDi Y _) (by assumption) (by rw [hY.2]; rfl) (cDi_emptyLog hY hW ν) rfl rfl ⟨Nat.le_of_ble_eq_true rfl, Nat.le_of_ble_eq_true rfl⟩ rfl rfl (Nat.le_of_ble_eq_true rfl) ⟨Nat.zero_le _, Nat.zero_le _⟩ (kE rfl ?_)
    exact v_vret hC rfl dDi_recover_19 ⟨rfl, hν⟩
  refine v_aload_n hB dDi_recover_0 rfl ?_
  refine v_get hC (klDi hY.2) (F := FDi Y _) (by assumption) 4 dDi_recover_1 kfDi_33 (by decide) rfl ?_
  refine v_if_eq hB 15 dDi_recover_4 (by decide) (fun c => ?_) (fun c => ?_)
  · rw [if_pos c] at hi
    exact last μ hi
  rw [if_neg c] at hi
  refine v_aload_n hB dDi_recover_7 rfl ?_
  refine v_aload_n hB dDi_recover_8 rfl ?_
  refine v_get hC (klDi hY.2) (F := FDi Y _) (by assumption) 3 dDi_recover_9 kfDi_37 (by decide) rfl ?_
  rw [hg]
  refine v_callV hC tbok kmDi_41 kiDi_writePlaces ksDi_writePlaces dDi_recover_12 (F := FDi Y _) (by assumption) (by rw [hY.2]; rfl) (cDi_writePlaces hY hW hg hg40 (by omega) (by rw [Nat.min_self]; exact hi)) rfl rfl ⟨Nat.le_of_ble_eq_true rfl, Nat.le_of_ble_eq_true rfl⟩ rfl rfl (Nat.le_of_ble_eq_true rfl) ⟨Nat.zero_le _, Nat.zero_le _⟩ (kV fun ν1 h1 => ?_)
  exact last ν1 h1

set_option maxHeartbeats 4000000 in
set_option maxRecDepth 100000 in
theorem cDi_keep {l : Launch} {Y : Yt} (hY : YB Y) (hW : YW Y) {k : Int32} {μ : Mu} {K : Bool → Mu → Prop} (h : kpW μ k K) : Ct l Y yDi_keep wDi_keep ({ frames := 3, cells := 0, slots := 0, locals := 68 }) [.ref (ad Y 1), .ref (ad Y 2), .int k] μ (PB K) := by
  refine ct_of hY.1 (by decide) rfl (Nat.le_of_ble_eq_true rfl) (lv := [some (.ref (ad Y 1)), some (.ref (ad Y 2)), some (.int k), none]) rfl (fun X hC => ?_)
  have hB := hC.B
  obtain ⟨hFa, hDi, hTr, hSe, h4, h5, h6b, h7, h8, hpages, htrail, hturns, hplaces, hlog, hlp, hfound, hwait, hsq, hlk, hPg, hrow, hlrow, hfb⟩ := id hW
  refine v_iload_n hB dDi_keep_0 rfl ?_
  refine v_if_ne hB 6 dDi_keep_1 (by decide) (fun c0 => ?_) (fun c0 => ?_)
  rotate_left
  · rw [kpW, if_pos c0] at h
    refine v_iconst hB dDi_keep_4 (v := 0) (by decide) ?_
    exact v_zret hC rfl (by decide) dDi_keep_5 ⟨false, rfl, h⟩
  rw [kpW, if_neg c0] at h
  obtain ⟨htb, h⟩ := h
  have hcl := cnt_le μ 40
  refine v_aload_n hB dDi_keep_6 rfl ?_
  refine v_callV hC tbok kmDi_23 kiTr_changedPages ksTr_changedPages dDi_keep_7 (F := FTr Y _) hTr (by rw [hY.2]; rfl) (cTr_changedPages hY hW μ htb) rfl rfl ⟨Nat.le_of_ble_eq_true rfl, Nat.le_of_ble_eq_true rfl⟩ rfl rfl (Nat.le_of_ble_eq_true rfl) ⟨Nat.zero_le _, Nat.zero_le _⟩ (kE rfl ?_)
  refine v_istore_n hB dDi_keep_10 rfl (by decide) (lv' := [_, _, _, _]) rfl ?_
  have key : ∀ m : Nat, m ≤ 40 → wlL m (fun μ1 => if k = 1 ∨ k = 2 then K false μ1 else if k = 3 then K false (wi μ1 1 4 1) else ∃ g, g ≤ 40 ∧ (wi μ1 1 4 1).1 1 3 = nI g ∧ wcL (fun μ3 => if k = 4 ∨ k = 5 then K false μ3 else K true (elM μ3)) (min g (if k = 4 then 1 else g)) 0 (wi μ1 1 4 1)) 40 0 μ → VG X (yA Y) 4 0 0 (VQ X Y (PB K)) (yI Y (μ)) 25 [some (.ref (ad Y 1)), some (.ref (ad Y 2)), some (.int k), some (.int (nI (cnt μ 40)))] [.int (nI m), .ref (ad Y 2), .ref (ad Y 1)] := by
    intro m hm hw
    refine v_callV hC tbok kmDi_29 kiDi_writeLog ksDi_writeLog dDi_keep_25 (F := FDi Y _) (by assumption) (by rw [hY.2]; rfl) (cDi_writeLog hY hW hm hw) rfl rfl ⟨Nat.le_of_ble_eq_true rfl, Nat.le_of_ble_eq_true rfl⟩ rfl rfl (Nat.le_of_ble_eq_true rfl) ⟨Nat.zero_le _, Nat.zero_le _⟩ (kV fun μ1 h1 => ?_)
    have f12 : (k = 1 ∨ k = 2) → VG X (yA Y) 4 0 0 (VQ X Y (PB K)) (yI Y (μ1)) 38 [some (.ref (ad Y 1)), some (.ref (ad Y 2)), some (.int k), some (.int (nI (cnt μ 40)))] [] := by
      intro hz
      rw [if_pos hz] at h1
      refine v_iconst hB dDi_keep_38 (v := 0) (by decide) ?_
      exact v_zret hC rfl (by decide) dDi_keep_39 ⟨false, rfl, h1⟩
    refine v_iload_n hB dDi_keep_28 rfl ?_
    refine v_iconst hB dDi_keep_29 (v := 1) (by decide) ?_
    refine v_icmp_eq hB 38 dDi_keep_30 (by decide) (fun c1 => ?_) (fun c1 => ?_)
    · exact f12 (Or.inl c1)
    refine v_iload_n hB dDi_keep_33 rfl ?_
    refine v_iconst hB dDi_keep_34 (v := 2) (by decide) ?_
    refine v_icmp_ne hB 40 dDi_keep_35 (by decide) (fun c2 => ?_) (fun c2 => ?_)
    rotate_left
    · exact f12 (Or.inr c2)
    rw [if_neg (fun z => z.elim c1 c2)] at h1
    refine v_aload_n hB dDi_keep_40 rfl ?_
    refine v_iconst hB dDi_keep_41 (v := 1) (by decide) ?_
    refine v_puti hC (klDi hY.2) (F := FDi Y _) (by assumption) 4 dDi_keep_42 kfDi_33 (by decide) rfl (by decide) (by decide) (fun _ _ => rfl) (fun _ _ => Nat.le_of_ble_eq_true rfl) ?_
    refine v_iload_n hB dDi_keep_45 rfl ?_
    refine v_iconst hB dDi_keep_46 (v := 3) (by decide) ?_
    refine v_icmp_ne hB 52 dDi_keep_47 (by decide) (fun c3 => ?_) (fun c3 => ?_)
    rotate_left
    · rw [if_pos c3] at h1
      refine v_iconst hB dDi_keep_50 (v := 0) (by decide) ?_
      exact v_zret hC rfl (by decide) dDi_keep_51 ⟨false, rfl, h1⟩
    rw [if_neg c3] at h1
    obtain ⟨g, hg40, hg, hw2⟩ := h1
    have key2 : ∀ m : Nat, m ≤ 40 → m = (if k = 4 then 1 else g) → VG X (yA Y) 4 0 0 (VQ X Y (PB K)) (yI Y (wi μ1 1 4 1)) 66 [some (.ref (ad Y 1)), some (.ref (ad Y 2)), some (.int k), some (.int (nI (cnt μ 40)))] [.int (nI m), .ref (ad Y 1)] := by
      intro m hm hm2
      subst hm2
      refine v_callV hC tbok kmDi_41 kiDi_writePlaces ksDi_writePlaces dDi_keep_66 (F := FDi Y _) (by assumption) (by rw [hY.2]; rfl) (cDi_writePlaces hY hW hg hg40 (by omega) hw2) rfl rfl ⟨Nat.le_of_ble_eq_true rfl, Nat.le_of_ble_eq_true rfl⟩ rfl rfl (Nat.le_of_ble_eq_true rfl) ⟨Nat.zero_le _, Nat.zero_le _⟩ (kV fun μ3 h3 => ?_)
      have f45 : (k = 4 ∨ k = 5) → VG X (yA Y) 4 0 0 (VQ X Y (PB K)) (yI Y (μ3)) 79 [some (.ref (ad Y 1)), some (.ref (ad Y 2)), some (.int k), some (.int (nI (cnt μ 40)))] [] := by
        intro hz
        rw [if_pos hz] at h3
        refine v_iconst hB dDi_keep_79 (v := 0) (by decide) ?_
        exact v_zret hC rfl (by decide) dDi_keep_80 ⟨false, rfl, h3⟩
      refine v_iload_n hB dDi_keep_69 rfl ?_
      refine v_iconst hB dDi_keep_70 (v := 4) (by decide) ?_
      refine v_icmp_eq hB 79 dDi_keep_71 (by decide) (fun c4 => ?_) (fun c4 => ?_)
      · exact f45 (Or.inl c4)
      refine v_iload_n hB dDi_keep_74 rfl ?_
      refine v_iconst hB dDi_keep_75 (v := 5) (by decide) ?_
      refine v_icmp_ne hB 81 dDi_keep_76 (by decide) (fun c5 => ?_) (fun c5 => ?_)
      rotate_left
      · exact f45 (Or.inr c5)
      rw [if_neg (fun z => z.elim c4 c5)] at h3
      refine v_aload_n hB dDi_keep_81 rfl ?_
      refine v_callV hC tbok kmDi_45 kiDi_emptyLog ksDi_emptyLog dDi_keep_82 (F := FDi Y _) (by assumption) (by rw [hY.2]; rfl) (cDi_emptyLog hY hW μ3) rfl rfl ⟨Nat.le_of_ble_eq_true rfl, Nat.le_of_ble_eq_true rfl⟩ rfl rfl (Nat.le_of_ble_eq_true rfl) ⟨Nat.zero_le _, Nat.zero_le _⟩ (kE rfl ?_)
      refine v_iconst hB dDi_keep_85 (v := 1) (by decide) ?_
      exact v_zret hC rfl (by decide) dDi_keep_86 ⟨true, rfl, h3⟩
    refine v_aload_n hB dDi_keep_52 rfl ?_
    refine v_iload_n hB dDi_keep_53 rfl ?_
    refine v_iconst hB dDi_keep_54 (v := 4) (by decide) ?_
    refine v_icmp_ne hB 62 dDi_keep_55 (by decide) (fun c4 => ?_) (fun c4 => ?_)
    · refine v_aload_n hB dDi_keep_62 rfl ?_
      refine v_get hC (klDi hY.2) (F := FDi Y _) (by assumption) 3 dDi_keep_63 kfDi_37 (by decide) rfl ?_
      rw [hg]
      exact key2 g hg40 (by rw [if_neg c4])
    · refine v_iconst hB dDi_keep_58 (v := 1) (by decide) ?_
      refine v_goto hB 66 dDi_keep_59 (by decide) ?_
      exact key2 1 (by decide) (by rw [if_pos c4])
  refine v_aload_n hB dDi_keep_11 rfl ?_
  refine v_aload_n hB dDi_keep_12 rfl ?_
  refine v_iload_n hB dDi_keep_13 rfl ?_
  refine v_iconst hB dDi_keep_14 (v := 1) (by decide) ?_
  refine v_icmp_ne hB 24 dDi_keep_15 (by decide) (fun c1 => ?_) (fun c1 => ?_)
  · refine v_iload_n hB dDi_keep_24 rfl ?_
    rw [if_neg c1] at h
    exact key _ hcl h
  refine v_iload_n hB dDi_keep_18 rfl ?_
  refine v_iconst hB dDi_keep_19 (v := 2) (by decide) ?_
  refine v_idiv hB dDi_keep_20 (by decide) ?_
  refine v_goto hB 25 dDi_keep_21 (by decide) ?_
  rw [if_pos c1] at h
  rw [show nI (cnt μ 40) / 2 = nI (cnt μ 40 / 2) from pk_div (d := 2) (by omega) (by decide) (by decide)]
  exact key _ (by omega) h

