/-! THE TREE: bits, divisions, mending. -/
theorem v_iushr {X : Xt} {A : Nat → Prop} {n cells slots : Nat} {Q : State → Prop} {I : Heap → Prop} {pc : Nat} {lv : List (Option Value)} {st : List Value} {cc : ByteArray} (B : VB X cc) {x y : Int32} (d : decode cc pc = .ok (.iushr, 1)) (k : VG X A n cells slots Q I (pc + 1) lv (.int (x.toUInt32 >>> (y.toUInt32 &&& Int32.toUInt32 31)).toInt32 :: st)) : VG X A n cells slots Q I pc lv (.int y :: .int x :: st) := fun H locs ls hI hS hl => lv_iushr B.1 B.2 d rfl (k H locs ls hI hS hl)
theorem v_ldcw {X : Xt} {Y : Yt} {A : Nat → Prop} {n cells slots : Nat} {Q : State → Prop} {I : Heap → Prop} {pc : Nat} {lv : List (Option Value)} {st : List Value} {cc : ByteArray} {l : Launch} {rm : Room} {ret : Option FieldType} {own : String} {TB : List Cond} {z : Cond} (C : VC X Y l rm cc n ret (z :: TB) own) {idx : Nat} {v : Int32} (hw : Cond.constant own idx v ∈ TB) (d : decode cc pc = .ok (.ldc_w idx, 3)) (k : VG X A n cells slots Q I (pc + 3) lv (.int v :: st)) : VG X A n cells slots Q I pc lv st := fun H locs ls hI hS hl => lv_ldcw C.1 C.2.1 C.2.2.2.1 (C.2.2.2.2.1 _ (List.mem_cons_of_mem _ hw)) d (k H locs ls hI hS hl)
def us (x y : Int32) : Int32 := (x.toUInt32 >>> (y.toUInt32 &&& Int32.toUInt32 31)).toInt32
def bc1 (x : Int32) : Int32 := x - (us x 1 &&& 1431655765)
def bc2 (x : Int32) : Int32 := (x &&& 858993459) + (us x 2 &&& 858993459)
def bc3 (x : Int32) : Int32 := (x + us x 4) &&& 252645135
def bc4 (x : Int32) : Int32 := x + us x 8
def bc5 (x : Int32) : Int32 := x + us x 16
def bcE (x : Int32) : Int32 := bc5 (bc4 (bc3 (bc2 (bc1 x)))) &&& 63
def popN (k : Nat) : Nat := k % 2 + k / 2 % 2 + k / 4 % 2 + k / 8 % 2 + k / 16 % 2
theorem bcE_small : ∀ k, k < 32 → bcE (nI k) = nI (popN k) := by decide +kernel
theorem popN_le : ∀ k, k < 32 → popN k ≤ 5 := by decide +kernel
theorem mnI_n {a b : Nat} (ha : a < 2 ^ 31) (hb : b < 2 ^ 31) : mnI (nI a) (nI b) = nI (min a b) := by
  unfold mnI
  by_cases h : nI b < nI a
  · rw [if_pos h]
    have := (nI_ltI hb ha).mp h
    rw [Nat.min_eq_right (by omega)]
  · rw [if_neg h]
    have : ¬ b < a := fun q => h ((nI_ltI hb ha).mpr q)
    rw [Nat.min_eq_left (by omega)]
theorem mxI_n {a b : Nat} (ha : a < 2 ^ 31) (hb : b < 2 ^ 31) : mxI (nI a) (nI b) = nI (max a b) := by
  unfold mxI
  by_cases h : nI a < nI b
  · rw [if_pos h]
    have := (nI_ltI ha hb).mp h
    rw [Nat.max_eq_right (by omega)]
  · rw [if_neg h]
    have : ¬ a < b := fun q => h ((nI_ltI ha hb).mpr q)
    rw [Nat.max_eq_left (by omega)]
theorem frL_l (p : Nat) (sl : Int32) (i : Nat) : ∀ (r k : Nat) (μ : Mu), (frL p sl i r k μ).2 = μ.2
  | 0, _, _ => rfl
  | r + 1, k, μ => by
    rw [frL, frL_l p sl i r (k + 1)]
    split <;> rfl
theorem frM_l (μ : Mu) (p u : Nat) (sl : Int32) (i : Nat) : (frM μ p u sl i).2 = μ.2 := frL_l p sl i u 0 _
/-- all but the tree's two boxes is the same -/
def sm56 (μ ν : Mu) : Prop := ν.2 = μ.2 ∧ ∀ i, i ≠ 5 → i ≠ 6 → ν.1 i = μ.1 i
def dv (x : Nat) : Prop := 0 < x ∧ x < 32 ∧ 2 ≤ popN x ∧ popN x ≤ 4
/-- what is done from 'Page child' on in mend -/
def mdB (μ : Mu) (p k : Nat) (K : Mu → Prop) : Prop := ∃ c u : Nat, k < 6 ∧ c < 40 ∧ u ≤ 6 ∧ μ.1 (bxI p k) 4 = nI c ∧ μ.1 (pgI c) 1 = nI u ∧ (if u = 6 then (∃ n, 0 < n ∧ n < 40 ∧ μ.1 (pgI n) 0 = 0) ∧ ∀ n, 0 < n → n < 40 → μ.1 (pgI n) 0 = 0 → c ≠ n ∧ ∀ (x : Nat) (ν : Mu), dv x → sm56 (opn μ n (μ.1 (pgI c) 0)) ν → mvW c (nI x) n (fun ν2 => hgW ν2 p n (fun ν3 => tfW ν3 p k K)) 6 6 0 ν else tfW μ p k K)
def mdW (μ : Mu) (p s : Nat) (K : Mu → Prop) : Prop := tfW μ p s (fun μ1 => ∃ c u : Nat, s < 6 ∧ c < 40 ∧ u ≤ 6 ∧ μ1.1 (bxI p s) 4 = nI c ∧ μ1.1 (pgI c) 1 = nI u ∧ (if u < 2 then ∃ n, 2 ≤ n ∧ n ≤ 6 ∧ s < n ∧ μ1.1 (pgI p) 1 = nI n ∧ (∀ j, j < n → withB (μ1.1 (bxI p j)) (μ1.1 (bxI p s)) < 9223372036854775807) ∧ ∀ b, b < n → b ≠ s → mgW μ1 p (min s b) (max s b) (fun μ2 => mdB μ2 p (min s b) K) else mdB μ1 p s K))
/-- climb, behind its loop, and its loop -/
def clE (μ : Mu) (K : Mu → Prop) : Prop := ∃ q u v : Nat, q < 40 ∧ u ≤ 6 ∧ v < 2 ^ 30 ∧ μ.1 2 0 = nI q ∧ μ.1 (pgI q) 1 = nI u ∧ μ.1 (pgI q) 0 = nI v ∧ (if u = 6 then (∃ n, 0 < n ∧ n < 40 ∧ μ.1 (pgI n) 0 = 0) ∧ ∀ n, 0 < n → n < 40 → μ.1 (pgI n) 0 = 0 → (opn μ n (nI (v + 1))).1 2 0 = nI q ∧ hgW (opn μ n (nI (v + 1))) n q (fun ν => mdW ν n 0 (fun ν2 => K (whM ν2 (nI n) (ν2.1 2 1)))) else if 1 < v ∧ u = 1 then K (opn (whM μ (μ.1 (bxI q 0) 4) (μ.1 2 1)) q 0) else K μ)
def clL (K : Mu → Prop) : Nat → Mu → Prop
  | 0, μ => clE μ K
  | k + 1, μ => ∃ p s : Nat, p < 40 ∧ s < 6 ∧ k < 4 ∧ μ.1 10 k = nI p ∧ μ.1 11 k = nI s ∧ mdW μ p s (fun ν => clL K k ν)
set_option maxHeartbeats 4000000 in
set_option maxRecDepth 100000 in
theorem cIn_bitCount {l : Launch} {Y : Yt} (hY : YB Y) {k : Nat} (hk : k < 32) (μ : Mu) : Ct l Y yIn_bitCount wIn_bitCount ({ frames := 0, cells := 0, slots := 0, locals := 0 }) [.int (nI k)] μ (PE (some (.int (nI (popN k)))) μ) := by
  refine ct_of hY.1 (by decide) rfl (Nat.le_of_ble_eq_true rfl) (lv := [some (.int (nI k))]) rfl (fun X hC => ?_)
  have hB := hC.B
  refine v_iload_n hB dIn_bitCount_0 rfl ?_
  refine v_iload_n hB dIn_bitCount_1 rfl ?_
  refine v_iconst hB dIn_bitCount_2 (v := 1) (by decide) ?_
  refine v_iushr hB dIn_bitCount_3 ?_
  refine v_ldcw hC (v := 1431655765) kfIn_265 dIn_bitCount_4 ?_
  refine v_iand hB dIn_bitCount_7 ?_
  refine v_isub hB dIn_bitCount_8 ?_
  refine v_istore_n hB dIn_bitCount_9 rfl (by decide) (lv' := [_]) rfl ?_
  refine v_iload_n hB dIn_bitCount_10 rfl ?_
  refine v_ldcw hC (v := 858993459) kfIn_266 dIn_bitCount_11 ?_
  refine v_iand hB dIn_bitCount_14 ?_
  refine v_iload_n hB dIn_bitCount_15 rfl ?_
  refine v_iconst hB dIn_bitCount_16 (v := 2) (by decide) ?_
  refine v_iushr hB dIn_bitCount_17 ?_
  refine v_ldcw hC (v := 858993459) kfIn_266 dIn_bitCount_18 ?_
  refine v_iand hB dIn_bitCount_21 ?_
  refine v_iadd hB dIn_bitCount_22 ?_
  refine v_istore_n hB dIn_bitCount_23 rfl (by decide) (lv' := [_]) rfl ?_
  refine v_iload_n hB dIn_bitCount_24 rfl ?_
  refine v_iload_n hB dIn_bitCount_25 rfl ?_
  refine v_iconst hB dIn_bitCount_26 (v := 4) (by decide) ?_
  refine v_iushr hB dIn_bitCount_27 ?_
  refine v_iadd hB dIn_bitCount_28 ?_
  refine v_ldcw hC (v := 252645135) kfIn_267 dIn_bitCount_29 ?_
  refine v_iand hB dIn_bitCount_32 ?_
  refine v_istore_n hB dIn_bitCount_33 rfl (by decide) (lv' := [_]) rfl ?_
  refine v_iload_n hB dIn_bitCount_34 rfl ?_
  refine v_iload_n hB dIn_bitCount_35 rfl ?_
  refine v_bipush hB dIn_bitCount_36 (v := 8) (by decide) ?_
  refine v_iushr hB dIn_bitCount_38 ?_
  refine v_iadd hB dIn_bitCount_39 ?_
  refine v_istore_n hB dIn_bitCount_40 rfl (by decide) (lv' := [_]) rfl ?_
  refine v_iload_n hB dIn_bitCount_41 rfl ?_
  refine v_iload_n hB dIn_bitCount_42 rfl ?_
  refine v_bipush hB dIn_bitCount_43 (v := 16) (by decide) ?_
  refine v_iushr hB dIn_bitCount_45 ?_
  refine v_iadd hB dIn_bitCount_46 ?_
  refine v_istore_n hB dIn_bitCount_47 rfl (by decide) (lv' := [_]) rfl ?_
  refine v_iload_n hB dIn_bitCount_48 rfl ?_
  refine v_bipush hB dIn_bitCount_49 (v := 63) (by decide) ?_
  refine v_iand hB dIn_bitCount_51 ?_
  exact v_iret hC rfl dIn_bitCount_52 ⟨congrArg (fun x => some (Value.int x)) (bcE_small k hk), rfl⟩

set_option maxHeartbeats 4000000 in
set_option maxRecDepth 100000 in
theorem cTr_bestDivision {l : Launch} {Y : Yt} (hY : YB Y) (hW : YW Y) {c : Nat} (hc : c < 40) (μ : Mu) (hu : μ.1 (pgI c) 1 = nI 6) : Ct l Y yTr_bestDivision wTr_bestDivision ({ frames := 2, cells := 0, slots := 0, locals := 44 }) [.ref (ad Y 2), .ref (ad Y (pgI c))] μ (PI (fun x ν => (∃ b, dv b ∧ x = nI b) ∧ sm56 μ ν)) := by
  refine ct_of hY.1 (by decide) rfl (Nat.le_of_ble_eq_true rfl) (lv := [some (.ref (ad Y 2)), some (.ref (ad Y (pgI c))), none, none, none, none, none, none, none, none, none, none, none]) rfl (fun X hC => ?_)
  have hB := hC.B
  obtain ⟨hFa, hDi, hTr, hSe, h4, h5, h6b, h7, h8, hpages, htrail, hturns, hplaces, hlog, hlp, hfound, hwait, hsq, hlk, hPg, hrow, hlrow, hfb⟩ := id hW
  have hcP := hPg c hc
  have hca := hcP.2.1
  have loop : ∀ (r k b : Nat) (g a : Int64) (ν : Mu), k + r = 32 → 0 < k → dv b → sm56 μ ν → VG X (yA Y) 13 0 0 (VQ X Y (PI (fun x ν => (∃ b, dv b ∧ x = nI b) ∧ sm56 μ ν))) (yI Y (ν)) 14 [some (.ref (ad Y 2)), some (.ref (ad Y (pgI c))), some (.int (nI b)), some (.long g), none, some (.long a), none, some (.int (nI k)), none, none, none, none, none] [] := by
    intro r
    induction r with
    | zero =>
      intro k b g a ν hk hk0 hb hs
      refine v_iload hB dTr_bestDivision_14 rfl ?_
      refine v_bipush hB dTr_bestDivision_16 (v := 32) (by decide) ?_
      refine v_icmp_ge hB 142 dTr_bestDivision_18 (by decide) (fun c1 => ?_) (fun c1 => ?_)
      · refine v_iload_n hB dTr_bestDivision_142 rfl ?_
        exact v_iret hC rfl dTr_bestDivision_143 ⟨_, rfl, ⟨b, hb, rfl⟩, hs⟩
      · exact absurd (by rw [show (32 : Int32) = nI 32 from rfl]; exact nI_le (by omega) (by omega)) c1
    | succ r ih =>
      intro k b g a ν hk hk0 hb hs
      have hp5 := popN_le k (by omega)
      have key : ∀ (b : Nat) (g a : Int64) (ν : Mu), dv b → sm56 μ ν → VG X (yA Y) 13 0 0 (VQ X Y (PI (fun x ν => (∃ b, dv b ∧ x = nI b) ∧ sm56 μ ν))) (yI Y (ν)) 136 [some (.ref (ad Y 2)), some (.ref (ad Y (pgI c))), some (.int (nI b)), some (.long g), none, some (.long a), none, some (.int (nI k)), some (.int (nI (popN k))), none, none, none, none] [] := by
        intro b g a ν hb hs
        refine v_iinc hB dTr_bestDivision_136 rfl (y := _) rfl rfl (by decide) (lv' := [_, _, _, _, _, _, _, _, _, _, _, _, _]) rfl ?_
        refine v_goto hB 14 dTr_bestDivision_139 (by decide) ?_
        refine v_drop 8 (lv' := [_, _, _, _, _, _, _, _, _, _, _, _, _]) rfl ?_
        rw [i1]
        exact ih (k + 1) b g a ν (by omega) (by omega) hb hs
      have hν : ν.1 (pgI c) 1 = nI 6 := by rw [hs.2 _ (pg_5 c) (pg_6 c)]; exact hu
      refine v_iload hB dTr_bestDivision_14 rfl ?_
      refine v_bipush hB dTr_bestDivision_16 (v := 32) (by decide) ?_
      refine v_icmp_ge hB 142 dTr_bestDivision_18 (by decide) (fun c1 => ?_) (fun c1 => ?_)
      · exact absurd c1 (by rw [show (32 : Int32) = nI 32 from rfl]; exact (fun q => absurd ((nI_leI (by omega) (by omega)).mp q) (by omega)))
      refine v_iload hB dTr_bestDivision_21 rfl ?_
      refine v_callS hC tbok kmTr_176 ktIn_bitCount dTr_bestDivision_23 (cIn_bitCount hY (k := k) (by omega) ν) rfl rfl ⟨Nat.le_of_ble_eq_true rfl, Nat.le_of_ble_eq_true rfl⟩ rfl rfl (Nat.le_of_ble_eq_true rfl) ⟨Nat.zero_le _, Nat.zero_le _⟩ (kE rfl ?_)
      refine v_istore hB dTr_bestDivision_26 rfl (by decide) (lv' := [_, _, _, _, _, _, _, _, _, _, _, _, _]) rfl ?_
      refine v_iload hB dTr_bestDivision_28 rfl ?_
      refine v_iconst hB dTr_bestDivision_30 (v := 2) (by decide) ?_
      refine v_icmp_lt hB 136 dTr_bestDivision_31 (by decide) (fun c2 => ?_) (fun c2 => ?_)
      · exact key b g a ν hb hs
      have h2 : 2 ≤ popN k := by
        rcases Nat.lt_or_ge (popN k) 2 with q | q
        · exact absurd (by rw [show (2 : Int32) = nI 2 from rfl]; exact nI_lt q (by decide)) c2
        · exact q
      refine v_aload_n hB dTr_bestDivision_34 rfl ?_
      refine v_get hC (klPa hY.2) (F := FPa Y _) (by assumption) 1 dTr_bestDivision_35 kfTr_129 (by decide) rfl ?_
      refine v_iload hB dTr_bestDivision_38 rfl ?_
      refine v_isub hB dTr_bestDivision_40 ?_
      rw [hν, pk_sub (a := 6) (by omega)]
      refine v_iconst hB dTr_bestDivision_41 (v := 2) (by decide) ?_
      refine v_icmp_ge hB 48 dTr_bestDivision_42 (by decide) (fun c3 => ?_) (fun c3 => ?_)
      rotate_left
      · refine v_goto hB 136 dTr_bestDivision_45 (by decide) ?_
        exact key b g a ν hb hs
      have h3 : popN k ≤ 4 := by
        rcases Nat.lt_or_ge 4 (popN k) with q | q
        · exact absurd c3 (by rw [show (2 : Int32) = nI 2 from rfl]; exact (fun q => absurd ((nI_leI (by omega) (by omega)).mp q) (by omega)))
        · exact q
      refine v_aload_n hB dTr_bestDivision_48 rfl ?_
      refine v_iload hB dTr_bestDivision_49 rfl ?_
      refine v_aload_n hB dTr_bestDivision_51 rfl ?_
      refine v_get hC (klTr hY.2) (F := FTr Y _) (by assumption) 6 dTr_bestDivision_52 kfTr_27 (by decide) rfl ?_
      refine v_callV hC tbok kmTr_168 kiPa_frame ksPa_frame dTr_bestDivision_55 (F := FPa Y _) (by assumption) (by rw [hY.2]; rfl) (cPa_frame hY hcP h5 (nI k) ν hν (by decide)) rfl rfl ⟨Nat.le_of_ble_eq_true rfl, Nat.le_of_ble_eq_true rfl⟩ rfl rfl (Nat.le_of_ble_eq_true rfl) ⟨Nat.zero_le _, Nat.zero_le _⟩ (kE rfl ?_)
      refine v_aload_n hB dTr_bestDivision_58 rfl ?_
      refine v_iload hB dTr_bestDivision_59 rfl ?_
      refine v_iconst hB dTr_bestDivision_61 (v := -1) (by decide) ?_
      refine v_ixor hB dTr_bestDivision_62 ?_
      refine v_aload_n hB dTr_bestDivision_63 rfl ?_
      refine v_get hC (klTr hY.2) (F := FTr Y _) (by assumption) 7 dTr_bestDivision_64 kfTr_31 (by decide) rfl ?_
      refine v_callV hC tbok kmTr_168 kiPa_frame ksPa_frame dTr_bestDivision_67 (F := FPa Y _) (by assumption) (by rw [hY.2]; rfl) (cPa_frame hY hcP h6b (nI k ^^^ (-1)) _ (by rw [frM_ne _ _ _ _ (pg_5 c)]; exact hν) (by decide)) rfl rfl ⟨Nat.le_of_ble_eq_true rfl, Nat.le_of_ble_eq_true rfl⟩ rfl rfl (Nat.le_of_ble_eq_true rfl) ⟨Nat.zero_le _, Nat.zero_le _⟩ (kE rfl ?_)
      generalize hν2 : frM (frM ν c 6 (nI k) 5) c 6 (nI k ^^^ (-1)) 6 = ν2
      have hs2 : sm56 μ ν2 := by
        rw [← hν2]
        exact ⟨by rw [frM_l, frM_l]; exact hs.1, fun i h1 h2 => by rw [frM_ne _ _ _ _ h2, frM_ne _ _ _ _ h1]; exact hs.2 i h1 h2⟩
      refine v_aload_n hB dTr_bestDivision_70 rfl ?_
      refine v_get hC (klTr hY.2) (F := FTr Y _) (by assumption) 6 dTr_bestDivision_71 kfTr_27 (by decide) rfl ?_
      refine v_callV hC tbok kmTr_181 kiBo_area ksBo_area dTr_bestDivision_74 (F := FBo Y _) (by assumption) (by rw [hY.2]; rfl) (cBo_area hY h5 ν2) rfl rfl ⟨Nat.le_of_ble_eq_true rfl, Nat.le_of_ble_eq_true rfl⟩ rfl rfl (Nat.le_of_ble_eq_true rfl) ⟨Nat.zero_le _, Nat.zero_le _⟩ (kE rfl ?_)
      refine v_aload_n hB dTr_bestDivision_77 rfl ?_
      refine v_get hC (klTr hY.2) (F := FTr Y _) (by assumption) 7 dTr_bestDivision_78 kfTr_31 (by decide) rfl ?_
      refine v_callV hC tbok kmTr_181 kiBo_area ksBo_area dTr_bestDivision_81 (F := FBo Y _) (by assumption) (by rw [hY.2]; rfl) (cBo_area hY h6b ν2) rfl rfl ⟨Nat.le_of_ble_eq_true rfl, Nat.le_of_ble_eq_true rfl⟩ rfl rfl (Nat.le_of_ble_eq_true rfl) ⟨Nat.zero_le _, Nat.zero_le _⟩ (kE rfl ?_)
      refine v_ladd hB dTr_bestDivision_84 ?_
      refine v_lstore hB dTr_bestDivision_85 rfl (by decide) (lv' := [_, _, _, _, _, _, _, _, _, _, _, _, _]) rfl ?_
      refine v_aload_n hB dTr_bestDivision_87 rfl ?_
      refine v_get hC (klTr hY.2) (F := FTr Y _) (by assumption) 6 dTr_bestDivision_88 kfTr_27 (by decide) rfl ?_
      refine v_callV hC tbok kmTr_185 kiBo_rim ksBo_rim dTr_bestDivision_91 (F := FBo Y _) (by assumption) (by rw [hY.2]; rfl) (cBo_rim hY h5 ν2) rfl rfl ⟨Nat.le_of_ble_eq_true rfl, Nat.le_of_ble_eq_true rfl⟩ rfl rfl (Nat.le_of_ble_eq_true rfl) ⟨Nat.zero_le _, Nat.zero_le _⟩ (kE rfl ?_)
      refine v_aload_n hB dTr_bestDivision_94 rfl ?_
      refine v_get hC (klTr hY.2) (F := FTr Y _) (by assumption) 7 dTr_bestDivision_95 kfTr_31 (by decide) rfl ?_
      refine v_callV hC tbok kmTr_185 kiBo_rim ksBo_rim dTr_bestDivision_98 (F := FBo Y _) (by assumption) (by rw [hY.2]; rfl) (cBo_rim hY h6b ν2) rfl rfl ⟨Nat.le_of_ble_eq_true rfl, Nat.le_of_ble_eq_true rfl⟩ rfl rfl (Nat.le_of_ble_eq_true rfl) ⟨Nat.zero_le _, Nat.zero_le _⟩ (kE rfl ?_)
      refine v_ladd hB dTr_bestDivision_101 ?_
      refine v_lstore hB dTr_bestDivision_102 rfl (by decide) (lv' := [_, _, _, _, _, _, _, _, _, _, _, _, _]) rfl ?_
      refine v_lload hB dTr_bestDivision_104 rfl ?_
      refine v_lload_n hB dTr_bestDivision_106 rfl ?_
      refine v_lcmp hB dTr_bestDivision_107 ?_
      have key3 : ∀ (b : Nat) (g a a2 r2 : Int64), dv b → VG X (yA Y) 13 0 0 (VQ X Y (PI (fun x ν => (∃ b, dv b ∧ x = nI b) ∧ sm56 μ ν))) (yI Y (ν2)) 136 [some (.ref (ad Y 2)), some (.ref (ad Y (pgI c))), some (.int (nI b)), some (.long g), none, some (.long a), none, some (.int (nI k)), some (.int (nI (popN k))), some (.long a2), none, some (.long r2), none] [] := by
        intro b g a a2 r2 hb
        refine v_drop 9 (lv' := [_, _, _, _, _, _, _, _, _, _, _, _, _]) rfl ?_
        refine v_drop 11 (lv' := [_, _, _, _, _, _, _, _, _, _, _, _, _]) rfl ?_
        exact key b g a ν2 hb hs2
      have key2 : ∀ (b : Nat) (g a a2 r2 : Int64), VG X (yA Y) 13 0 0 (VQ X Y (PI (fun x ν => (∃ b, dv b ∧ x = nI b) ∧ sm56 μ ν))) (yI Y (ν2)) 126 [some (.ref (ad Y 2)), some (.ref (ad Y (pgI c))), some (.int (nI b)), some (.long g), none, some (.long a), none, some (.int (nI k)), some (.int (nI (popN k))), some (.long a2), none, some (.long r2), none] [] := by
        intro b g a a2 r2
        refine v_iload hB dTr_bestDivision_126 rfl ?_
        refine v_istore_n hB dTr_bestDivision_128 rfl (by decide) (lv' := [_, _, _, _, _, _, _, _, _, _, _, _, _]) rfl ?_
        refine v_lload hB dTr_bestDivision_129 rfl ?_
        refine v_lstore_n hB dTr_bestDivision_131 rfl (by decide) (lv' := [_, _, _, _, _, _, _, _, _, _, _, _, _]) rfl ?_
        refine v_lload hB dTr_bestDivision_132 rfl ?_
        refine v_lstore hB dTr_bestDivision_134 rfl (by decide) (lv' := [_, _, _, _, _, _, _, _, _, _, _, _, _]) rfl ?_
        exact key3 k _ _ _ _ ⟨by omega, by omega, h2, h3⟩
      refine v_if_lt hB 126 dTr_bestDivision_108 (by decide) (fun d1 => ?_) (fun d1 => ?_)
      · exact key2 _ _ _ _ _
      refine v_lload hB dTr_bestDivision_111 rfl ?_
      refine v_lload_n hB dTr_bestDivision_113 rfl ?_
      refine v_lcmp hB dTr_bestDivision_114 ?_
      refine v_if_ne hB 136 dTr_bestDivision_115 (by decide) (fun d2 => ?_) (fun d2 => ?_)
      · exact key3 _ _ _ _ _ hb
      refine v_lload hB dTr_bestDivision_118 rfl ?_
      refine v_lload hB dTr_bestDivision_120 rfl ?_
      refine v_lcmp hB dTr_bestDivision_122 ?_
      refine v_if_ge hB 136 dTr_bestDivision_123 (by decide) (fun d3 => ?_) (fun d3 => ?_)
      · exact key3 _ _ _ _ _ hb
      exact key2 _ _ _ _ _
  refine v_iconst hB dTr_bestDivision_0 (v := 3) (by decide) ?_
  refine v_istore_n hB dTr_bestDivision_1 rfl (by decide) (lv' := [_, _, _, _, _, _, _, _, _, _, _, _, _]) rfl ?_
  refine v_ldc2 hC (v := 9223372036854775807) kfTr_174 dTr_bestDivision_2 ?_
  refine v_lstore_n hB dTr_bestDivision_5 rfl (by decide) (lv' := [_, _, _, _, _, _, _, _, _, _, _, _, _]) rfl ?_
  refine v_ldc2 hC (v := 9223372036854775807) kfTr_174 dTr_bestDivision_6 ?_
  refine v_lstore hB dTr_bestDivision_9 rfl (by decide) (lv' := [_, _, _, _, _, _, _, _, _, _, _, _, _]) rfl ?_
  refine v_iconst hB dTr_bestDivision_11 (v := 1) (by decide) ?_
  refine v_istore hB dTr_bestDivision_12 rfl (by decide) (lv' := [_, _, _, _, _, _, _, _, _, _, _, _, _]) rfl ?_
  exact loop 31 1 3 _ _ μ (by decide) (by decide) (by unfold dv; decide) ⟨rfl, fun _ _ _ => rfl⟩

set_option maxHeartbeats 4000000 in
set_option maxRecDepth 100000 in
theorem cTr_mend {l : Launch} {Y : Yt} (hY : YB Y) (hW : YW Y) {p s : Nat} (hp : p < 40) {μ : Mu} {K : Mu → Prop} (h : mdW μ p s K) : Ct l Y yTr_mend wTr_mend ({ frames := 3, cells := 0, slots := 0, locals := 76 }) [.ref (ad Y 2), .ref (ad Y (pgI p)), .int (nI s)] μ (PV K) := by
  refine ct_of hY.1 (by decide) rfl (Nat.le_of_ble_eq_true rfl) (lv := [some (.ref (ad Y 2)), some (.ref (ad Y (pgI p))), some (.int (nI s)), none, none, none]) rfl (fun X hC => ?_)
  have hB := hC.B
  obtain ⟨hFa, hDi, hTr, hSe, h4, h5, h6b, h7, h8, hpages, htrail, hturns, hplaces, hlog, hlp, hfound, hwait, hsq, hlk, hPg, hrow, hlrow, hfb⟩ := id hW
  have hpP := hPg p hp
  obtain ⟨-, hpa, har, hbx⟩ := hPg p hp
  have last : ∀ (k : Nat) (ν : Mu), tfW ν p k K → VG X (yA Y) 6 0 0 (VQ X Y (PV K)) (yI Y (ν)) 114 [some (.ref (ad Y 2)), some (.ref (ad Y (pgI p))), some (.int (nI s)), some (.int (nI k)), none, none] [] := by
    intro k ν hk
    refine v_aload_n hB dTr_mend_114 rfl ?_
    refine v_aload_n hB dTr_mend_115 rfl ?_
    refine v_iload_n hB dTr_mend_116 rfl ?_
    refine v_callV hC tbok kmTr_150 kiTr_tellFrame ksTr_tellFrame dTr_mend_117 (F := FTr Y _) (by assumption) (by rw [hY.2]; rfl) (cTr_tellFrame hY hW hp hk) rfl rfl ⟨Nat.le_of_ble_eq_true rfl, Nat.le_of_ble_eq_true rfl⟩ rfl rfl (Nat.le_of_ble_eq_true rfl) ⟨Nat.zero_le _, Nat.zero_le _⟩ (kV fun ν1 h1 => ?_)
    exact v_vret hC rfl dTr_mend_120 ⟨rfl, h1⟩
  have key : ∀ (k : Nat) (ν : Mu), mdB ν p k K → VG X (yA Y) 6 0 0 (VQ X Y (PV K)) (yI Y (ν)) 54 [some (.ref (ad Y 2)), some (.ref (ad Y (pgI p))), some (.int (nI s)), some (.int (nI k)), none, none] [] := by
    intro k ν ⟨c, u, hk, hc, hu6, hb, hu, hi⟩
    have hcP := hPg c hc
    have hca := hcP.2.1
    have hbk := hbx k hk
    refine v_aload_n hB dTr_mend_54 rfl ?_
    refine v_aload_n hB dTr_mend_55 rfl ?_
    refine v_get hC (klPa hY.2) (F := FPa Y _) (by assumption) 3 dTr_mend_56 kfTr_122 (by decide) rfl ?_
    refine v_iload_n hB dTr_mend_59 rfl ?_
    refine v_aald hC har k dTr_mend_60 rfl (by omega) (by decide) ?_
    refine v_get hC (klBo hY.2) (F := FBo Y _) (by assumption) 4 dTr_mend_61 kfTr_126 (by decide) rfl ?_
    rw [hb]
    refine v_callV hC tbok kmTr_46 kiTr_at ksTr_at dTr_mend_64 (F := FTr Y _) (by assumption) (by rw [hY.2]; rfl) (cTr_at hY hW hc ν) rfl rfl ⟨Nat.le_of_ble_eq_true rfl, Nat.le_of_ble_eq_true rfl⟩ rfl rfl (Nat.le_of_ble_eq_true rfl) ⟨Nat.zero_le _, Nat.zero_le _⟩ (kE rfl ?_)
    refine v_astore hB dTr_mend_67 rfl (by decide) (lv' := [_, _, _, _, _, _]) rfl ?_
    refine v_aload hB dTr_mend_69 rfl ?_
    refine v_get hC (klPa hY.2) (F := FPa Y _) (by assumption) 1 dTr_mend_71 kfTr_129 (by decide) rfl ?_
    refine v_iconst hB dTr_mend_74 (v := 5) (by decide) ?_
    refine v_icmp_le hB 114 dTr_mend_75 (by decide) (fun c1 => ?_) (fun c1 => ?_)
    · refine v_drop 4 (lv' := [_, _, _, _, _, _]) rfl ?_
      have h6 : u ≠ 6 := by
        rintro rfl
        rw [hu] at c1
        exact absurd c1 (by decide)
      rw [if_neg h6] at hi
      exact last k ν hi
    have h6 : u = 6 := by
      rw [hu, show (5 : Int32) = nI 5 from rfl, nI_leI (by omega) (by omega)] at c1
      omega
    subst h6
    rw [if_pos rfl] at hi
    obtain ⟨hex, hall⟩ := hi
    refine v_aload_n hB dTr_mend_78 rfl ?_
    refine v_aload hB dTr_mend_79 rfl ?_
    refine v_get hC (klPa hY.2) (F := FPa Y _) (by assumption) 0 dTr_mend_81 kfTr_35 (by decide) rfl ?_
    refine v_callV hC tbok kmTr_143 kiTr_openPage ksTr_openPage dTr_mend_84 (F := FTr Y _) (by assumption) (by rw [hY.2]; rfl) (cTr_openPage hY hW _ ν hex) rfl rfl ⟨Nat.le_of_ble_eq_true rfl, Nat.le_of_ble_eq_true rfl⟩ rfl rfl (Nat.le_of_ble_eq_true rfl) ⟨Nat.zero_le _, Nat.zero_le _⟩ (kI fun x ν1 h1 => ?_)
    obtain ⟨n, hn0, hn, rfl, hz, rfl⟩ := h1
    obtain ⟨hcn, hall⟩ := hall n hn0 hn hz
    refine v_istore hB dTr_mend_87 rfl (by decide) (lv' := [_, _, _, _, _, _]) rfl ?_
    refine v_aload_n hB dTr_mend_89 rfl ?_
    refine v_aload hB dTr_mend_90 rfl ?_
    refine v_aload_n hB dTr_mend_92 rfl ?_
    refine v_aload hB dTr_mend_93 rfl ?_
    have huc : (opn ν n (ν.1 (pgI c) 0)).1 (pgI c) 1 = nI 6 := by unfold opn; rw [wi_ne _ _ _ (pg_inj hcn), wi_ne _ _ _ (pg_inj hcn), wi_ne _ _ _ (pg_inj hcn)]; exact hu
    refine v_callV hC tbok kmTr_160 kiTr_bestDivision ksTr_bestDivision dTr_mend_95 (F := FTr Y _) (by assumption) (by rw [hY.2]; rfl) (cTr_bestDivision hY hW hc _ huc) rfl rfl ⟨Nat.le_of_ble_eq_true rfl, Nat.le_of_ble_eq_true rfl⟩ rfl rfl (Nat.le_of_ble_eq_true rfl) ⟨Nat.zero_le _, Nat.zero_le _⟩ (kI fun x ν2 h2 => ?_)
    obtain ⟨⟨x, hx, rfl⟩, hs⟩ := h2
    refine v_aload_n hB dTr_mend_98 rfl ?_
    refine v_iload hB dTr_mend_99 rfl ?_
    refine v_callV hC tbok kmTr_46 kiTr_at ksTr_at dTr_mend_101 (F := FTr Y _) (by assumption) (by rw [hY.2]; rfl) (cTr_at hY hW hn ν2) rfl rfl ⟨Nat.le_of_ble_eq_true rfl, Nat.le_of_ble_eq_true rfl⟩ rfl rfl (Nat.le_of_ble_eq_true rfl) ⟨Nat.zero_le _, Nat.zero_le _⟩ (kE rfl ?_)
    refine v_callV hC tbok kmTr_164 kiTr_moveOut ksTr_moveOut dTr_mend_104 (F := FTr Y _) (by assumption) (by rw [hY.2]; rfl) (cTr_moveOut hY hW (nI x) hc hn hcn (by rw [hs.2 _ (pg_5 c) (pg_6 c)]; exact huc) (by decide) (by rw [hs.2 _ (pg_5 n) (pg_6 n)]; unfold opn; simp only [wi_at]; rfl) (hall x ν2 hx hs)) rfl rfl ⟨Nat.le_of_ble_eq_true rfl, Nat.le_of_ble_eq_true rfl⟩ rfl rfl (Nat.le_of_ble_eq_true rfl) ⟨Nat.zero_le _, Nat.zero_le _⟩ (kV fun ν3 h3 => ?_)
    refine v_aload_n hB dTr_mend_107 rfl ?_
    refine v_aload_n hB dTr_mend_108 rfl ?_
    refine v_iload hB dTr_mend_109 rfl ?_
    refine v_callV hC tbok kmTr_147 kiTr_hang ksTr_hang dTr_mend_111 (F := FTr Y _) (by assumption) (by rw [hY.2]; rfl) (cTr_hang hY hW hp h3) rfl rfl ⟨Nat.le_of_ble_eq_true rfl, Nat.le_of_ble_eq_true rfl⟩ rfl rfl (Nat.le_of_ble_eq_true rfl) ⟨Nat.zero_le _, Nat.zero_le _⟩ (kV fun ν4 h4 => ?_)
    refine v_drop 4 (lv' := [_, _, _, _, _, _]) rfl ?_
    refine v_drop 5 (lv' := [_, _, _, _, _, _]) rfl ?_
    exact last k ν4 h4
  refine v_aload_n hB dTr_mend_0 rfl ?_
  refine v_aload_n hB dTr_mend_1 rfl ?_
  refine v_iload_n hB dTr_mend_2 rfl ?_
  refine v_callV hC tbok kmTr_150 kiTr_tellFrame ksTr_tellFrame dTr_mend_3 (F := FTr Y _) (by assumption) (by rw [hY.2]; rfl) (cTr_tellFrame hY hW hp h) rfl rfl ⟨Nat.le_of_ble_eq_true rfl, Nat.le_of_ble_eq_true rfl⟩ rfl rfl (Nat.le_of_ble_eq_true rfl) ⟨Nat.zero_le _, Nat.zero_le _⟩ (kV fun μ1 h1 => ?_)
  obtain ⟨c, u, hs, hc, hu6, hb, hu, hi⟩ := h1
  have hca := (hPg c hc).2.1
  have hbs := hbx s hs
  refine v_iload_n hB dTr_mend_6 rfl ?_
  refine v_istore_n hB dTr_mend_7 rfl (by decide) (lv' := [_, _, _, _, _, _]) rfl ?_
  refine v_aload_n hB dTr_mend_8 rfl ?_
  refine v_aload_n hB dTr_mend_9 rfl ?_
  refine v_get hC (klPa hY.2) (F := FPa Y _) (by assumption) 3 dTr_mend_10 kfTr_122 (by decide) rfl ?_
  refine v_iload_n hB dTr_mend_13 rfl ?_
  refine v_aald hC har s dTr_mend_14 rfl (by omega) (by decide) ?_
  refine v_get hC (klBo hY.2) (F := FBo Y _) (by assumption) 4 dTr_mend_15 kfTr_126 (by decide) rfl ?_
  rw [hb]
  refine v_callV hC tbok kmTr_46 kiTr_at ksTr_at dTr_mend_18 (F := FTr Y _) (by assumption) (by rw [hY.2]; rfl) (cTr_at hY hW hc μ1) rfl rfl ⟨Nat.le_of_ble_eq_true rfl, Nat.le_of_ble_eq_true rfl⟩ rfl rfl (Nat.le_of_ble_eq_true rfl) ⟨Nat.zero_le _, Nat.zero_le _⟩ (kE rfl ?_)
  refine v_get hC (klPa hY.2) (F := FPa Y _) (by assumption) 1 dTr_mend_21 kfTr_129 (by decide) rfl ?_
  refine v_iconst hB dTr_mend_24 (v := 2) (by decide) ?_
  refine v_icmp_ge hB 54 dTr_mend_25 (by decide) (fun c1 => ?_) (fun c1 => ?_)
  · have h2 : ¬ u < 2 := by
      rw [hu, show (2 : Int32) = nI 2 from rfl, nI_leI (by omega) (by omega)] at c1
      omega
    rw [if_neg h2] at hi
    exact key s μ1 hi
  have h2 : u < 2 := by
    rw [hu, show (2 : Int32) = nI 2 from rfl, nI_leI (by omega) (by omega)] at c1
    omega
  rw [if_pos h2] at hi
  obtain ⟨n, hn2, hn6, hsn, hpn, hwb, hall⟩ := hi
  refine v_aload_n hB dTr_mend_28 rfl ?_
  refine v_iload_n hB dTr_mend_29 rfl ?_
  refine v_callV hC tbok kmTr_153 kiPa_bestPartner ksPa_bestPartner dTr_mend_30 (F := FPa Y _) (by assumption) (by rw [hY.2]; rfl) (cPa_bestPartner hY hpP μ1 hpn hn2 hn6 hsn hwb) rfl rfl ⟨Nat.le_of_ble_eq_true rfl, Nat.le_of_ble_eq_true rfl⟩ rfl rfl (Nat.le_of_ble_eq_true rfl) ⟨Nat.zero_le _, Nat.zero_le _⟩ (kI fun x ν1 h1 => ?_)
  obtain ⟨rfl, b, hbn, hbs2, rfl⟩ := h1
  refine v_istore hB dTr_mend_33 rfl (by decide) (lv' := [_, _, _, _, _, _]) rfl ?_
  refine v_iload_n hB dTr_mend_35 rfl ?_
  refine v_iload hB dTr_mend_36 rfl ?_
  refine v_mmin hC (kmTr_110).1 dTr_mend_38 (Nat.le_of_ble_eq_true rfl) (Nat.le_of_ble_eq_true rfl) ⟨Nat.zero_le _, Nat.zero_le _⟩ ?_
  rw [mnI_n (by omega) (by omega)]
  refine v_istore_n hB dTr_mend_41 rfl (by decide) (lv' := [_, _, _, _, _, _]) rfl ?_
  refine v_aload_n hB dTr_mend_42 rfl ?_
  refine v_aload_n hB dTr_mend_43 rfl ?_
  refine v_iload_n hB dTr_mend_44 rfl ?_
  refine v_iload_n hB dTr_mend_45 rfl ?_
  refine v_iload hB dTr_mend_46 rfl ?_
  refine v_mmax hC (kmTr_116).1 dTr_mend_48 (Nat.le_of_ble_eq_true rfl) (Nat.le_of_ble_eq_true rfl) ⟨Nat.zero_le _, Nat.zero_le _⟩ ?_
  rw [mxI_n (by omega) (by omega)]
  refine v_callV hC tbok kmTr_156 kiTr_merge ksTr_merge dTr_mend_51 (F := FTr Y _) (by assumption) (by rw [hY.2]; rfl) (cTr_merge hY hW hp (hall b hbn hbs2)) rfl rfl ⟨Nat.le_of_ble_eq_true rfl, Nat.le_of_ble_eq_true rfl⟩ rfl rfl (Nat.le_of_ble_eq_true rfl) ⟨Nat.zero_le _, Nat.zero_le _⟩ (kV fun ν2 h2 => ?_)
  refine v_drop 4 (lv' := [_, _, _, _, _, _]) rfl ?_
  exact key (min s b) ν2 h2

set_option maxHeartbeats 4000000 in
set_option maxRecDepth 100000 in
theorem cTr_climb {l : Launch} {Y : Yt} (hY : YB Y) (hW : YW Y) {d : Nat} (hd : d ≤ 4) {μ : Mu} {K : Mu → Prop} (h : clL K d μ) : Ct l Y yTr_climb wTr_climb ({ frames := 4, cells := 0, slots := 0, locals := 101 }) [.ref (ad Y 2), .int (nI d)] μ (PV K) := by
  refine ct_of hY.1 (by decide) rfl (Nat.le_of_ble_eq_true rfl) (lv := [some (.ref (ad Y 2)), some (.int (nI d)), none, none]) rfl (fun X hC => ?_)
  have hB := hC.B
  obtain ⟨hFa, hDi, hTr, hSe, h4, h5, h6b, h7, h8, hpages, htrail, hturns, hplaces, hlog, hlp, hfound, hwait, hsq, hlk, hPg, hrow, hlrow, hfb⟩ := id hW
  have fin : ∀ ν : Mu, clE ν K → VG X (yA Y) 4 0 0 (VQ X Y (PV K)) (yI Y (ν)) 34 [some (.ref (ad Y 2)), some (.int (nI d)), none, none] [] := by
    rintro ν ⟨q, u, v, hq, hu6, hv30, hr, hu, hv, hi⟩
    have hqP := hPg q hq
    obtain ⟨-, hqa, hqar, hqbx⟩ := hPg q hq
    refine v_aload_n hB dTr_climb_34 rfl ?_
    refine v_aload_n hB dTr_climb_35 rfl ?_
    refine v_get hC (klTr hY.2) (F := FTr Y _) (by assumption) 0 dTr_climb_36 kfTr_39 (by decide) rfl ?_
    rw [hr]
    refine v_callV hC tbok kmTr_46 kiTr_at ksTr_at dTr_climb_39 (F := FTr Y _) (by assumption) (by rw [hY.2]; rfl) (cTr_at hY hW hq ν) rfl rfl ⟨Nat.le_of_ble_eq_true rfl, Nat.le_of_ble_eq_true rfl⟩ rfl rfl (Nat.le_of_ble_eq_true rfl) ⟨Nat.zero_le _, Nat.zero_le _⟩ (kE rfl ?_)
    refine v_astore_n hB dTr_climb_42 rfl (by decide) (lv' := [_, _, _, _]) rfl ?_
    refine v_aload_n hB dTr_climb_43 rfl ?_
    refine v_get hC (klPa hY.2) (F := FPa Y _) (by assumption) 1 dTr_climb_44 kfTr_129 (by decide) rfl ?_
    refine v_iconst hB dTr_climb_47 (v := 5) (by decide) ?_
    refine v_icmp_le hB 97 dTr_climb_48 (by decide) (fun c1 => ?_) (fun c1 => ?_)
    · have h6 : u ≠ 6 := by
        rintro rfl
        rw [hu] at c1
        exact absurd c1 (by decide)
      rw [if_neg h6] at hi
      refine v_aload_n hB dTr_climb_97 rfl ?_
      refine v_get hC (klPa hY.2) (F := FPa Y _) (by assumption) 0 dTr_climb_98 kfTr_35 (by decide) rfl ?_
      refine v_iconst hB dTr_climb_101 (v := 1) (by decide) ?_
      refine v_icmp_le hB 135 dTr_climb_102 (by decide) (fun c2 => ?_) (fun c2 => ?_)
      · rw [if_neg (fun z => by rw [hv, show (1 : Int32) = nI 1 from rfl, nI_leI (by omega) (by omega)] at c2; omega)] at hi
        exact v_vret hC rfl dTr_climb_135 ⟨rfl, hi⟩
      refine v_aload_n hB dTr_climb_105 rfl ?_
      refine v_get hC (klPa hY.2) (F := FPa Y _) (by assumption) 1 dTr_climb_106 kfTr_129 (by decide) rfl ?_
      refine v_iconst hB dTr_climb_109 (v := 1) (by decide) ?_
      refine v_icmp_ne hB 135 dTr_climb_110 (by decide) (fun c3 => ?_) (fun c3 => ?_)
      · rw [if_neg (fun z => c3 (by rw [hu, z.2]; rfl))] at hi
        exact v_vret hC rfl dTr_climb_135 ⟨rfl, hi⟩
      have h1 : 1 < v ∧ u = 1 := ⟨by rw [hv, show (1 : Int32) = nI 1 from rfl, nI_leI (by omega) (by omega)] at c2; omega, by rw [hu, show (1 : Int32) = nI 1 from rfl, nI_eq (by omega) (by omega)] at c3; exact c3⟩
      rw [if_pos h1] at hi
      have hb0 := hqbx 0 (by decide)
      refine v_aload_n hB dTr_climb_113 rfl ?_
      refine v_aload_n hB dTr_climb_114 rfl ?_
      refine v_get hC (klPa hY.2) (F := FPa Y _) (by assumption) 3 dTr_climb_115 kfTr_122 (by decide) rfl ?_
      refine v_iconst hB dTr_climb_118 (v := 0) (by decide) ?_
      refine v_aald hC hqar 0 dTr_climb_119 rfl (by omega) (by decide) ?_
      refine v_get hC (klBo hY.2) (F := FBo Y _) (by assumption) 4 dTr_climb_120 kfTr_126 (by decide) rfl ?_
      refine v_aload_n hB dTr_climb_123 rfl ?_
      refine v_get hC (klTr hY.2) (F := FTr Y _) (by assumption) 1 dTr_climb_124 kfTr_54 (by decide) rfl ?_
      refine v_callV hC tbok kmTr_57 kiTr_writeHeader ksTr_writeHeader dTr_climb_127 (F := FTr Y _) (by assumption) (by rw [hY.2]; rfl) (cTr_writeHeader hY hW _ _ ν) rfl rfl ⟨Nat.le_of_ble_eq_true rfl, Nat.le_of_ble_eq_true rfl⟩ rfl rfl (Nat.le_of_ble_eq_true rfl) ⟨Nat.zero_le _, Nat.zero_le _⟩ (kE rfl ?_)
      refine v_aload_n hB dTr_climb_130 rfl ?_
      refine v_iconst hB dTr_climb_131 (v := 0) (by decide) ?_
      refine v_callV hC tbok kmTr_104 kiPa_open ksPa_open dTr_climb_132 (F := FPa Y _) (by assumption) (by rw [hY.2]; rfl) (cPa_open hY hqP 0 _) rfl rfl ⟨Nat.le_of_ble_eq_true rfl, Nat.le_of_ble_eq_true rfl⟩ rfl rfl (Nat.le_of_ble_eq_true rfl) ⟨Nat.zero_le _, Nat.zero_le _⟩ (kE rfl ?_)
      exact v_vret hC rfl dTr_climb_135 ⟨rfl, hi⟩
    have h6 : u = 6 := by
      rw [hu, show (5 : Int32) = nI 5 from rfl, nI_leI (by omega) (by omega)] at c1
      omega
    rw [if_pos h6] at hi
    obtain ⟨hex, hall⟩ := hi
    refine v_aload_n hB dTr_climb_51 rfl ?_
    refine v_aload_n hB dTr_climb_52 rfl ?_
    refine v_get hC (klPa hY.2) (F := FPa Y _) (by assumption) 0 dTr_climb_53 kfTr_35 (by decide) rfl ?_
    refine v_iconst hB dTr_climb_56 (v := 1) (by decide) ?_
    refine v_iadd hB dTr_climb_57 ?_
    rw [hv, nI_1]
    refine v_callV hC tbok kmTr_143 kiTr_openPage ksTr_openPage dTr_climb_58 (F := FTr Y _) (by assumption) (by rw [hY.2]; rfl) (cTr_openPage hY hW _ ν hex) rfl rfl ⟨Nat.le_of_ble_eq_true rfl, Nat.le_of_ble_eq_true rfl⟩ rfl rfl (Nat.le_of_ble_eq_true rfl) ⟨Nat.zero_le _, Nat.zero_le _⟩ (kI fun x ν1 h1 => ?_)
    obtain ⟨n, hn0, hn, rfl, hz, rfl⟩ := h1
    obtain ⟨hr2, hh⟩ := hall n hn0 hn hz
    refine v_istore_n hB dTr_climb_61 rfl (by decide) (lv' := [_, _, _, _]) rfl ?_
    refine v_aload_n hB dTr_climb_62 rfl ?_
    refine v_aload_n hB dTr_climb_63 rfl ?_
    refine v_iload_n hB dTr_climb_64 rfl ?_
    refine v_callV hC tbok kmTr_46 kiTr_at ksTr_at dTr_climb_65 (F := FTr Y _) (by assumption) (by rw [hY.2]; rfl) (cTr_at hY hW hn _) rfl rfl ⟨Nat.le_of_ble_eq_true rfl, Nat.le_of_ble_eq_true rfl⟩ rfl rfl (Nat.le_of_ble_eq_true rfl) ⟨Nat.zero_le _, Nat.zero_le _⟩ (kE rfl ?_)
    refine v_aload_n hB dTr_climb_68 rfl ?_
    refine v_get hC (klTr hY.2) (F := FTr Y _) (by assumption) 0 dTr_climb_69 kfTr_39 (by decide) rfl ?_
    rw [hr2]
    refine v_callV hC tbok kmTr_147 kiTr_hang ksTr_hang dTr_climb_72 (F := FTr Y _) (by assumption) (by rw [hY.2]; rfl) (cTr_hang hY hW hn hh) rfl rfl ⟨Nat.le_of_ble_eq_true rfl, Nat.le_of_ble_eq_true rfl⟩ rfl rfl (Nat.le_of_ble_eq_true rfl) ⟨Nat.zero_le _, Nat.zero_le _⟩ (kV fun ν2 h2 => ?_)
    refine v_aload_n hB dTr_climb_75 rfl ?_
    refine v_aload_n hB dTr_climb_76 rfl ?_
    refine v_iload_n hB dTr_climb_77 rfl ?_
    refine v_callV hC tbok kmTr_46 kiTr_at ksTr_at dTr_climb_78 (F := FTr Y _) (by assumption) (by rw [hY.2]; rfl) (cTr_at hY hW hn _) rfl rfl ⟨Nat.le_of_ble_eq_true rfl, Nat.le_of_ble_eq_true rfl⟩ rfl rfl (Nat.le_of_ble_eq_true rfl) ⟨Nat.zero_le _, Nat.zero_le _⟩ (kE rfl ?_)
    refine v_iconst hB dTr_climb_81 (v := 0) (by decide) ?_
    refine v_callV hC tbok kmTr_139 kiTr_mend ksTr_mend dTr_climb_82 (F := FTr Y _) (by assumption) (by rw [hY.2]; rfl) (cTr_mend (s := 0) hY hW hn h2) rfl rfl ⟨Nat.le_of_ble_eq_true rfl, Nat.le_of_ble_eq_true rfl⟩ rfl rfl (Nat.le_of_ble_eq_true rfl) ⟨Nat.zero_le _, Nat.zero_le _⟩ (kV fun ν3 h3 => ?_)
    refine v_aload_n hB dTr_climb_85 rfl ?_
    refine v_iload_n hB dTr_climb_86 rfl ?_
    refine v_aload_n hB dTr_climb_87 rfl ?_
    refine v_get hC (klTr hY.2) (F := FTr Y _) (by assumption) 1 dTr_climb_88 kfTr_54 (by decide) rfl ?_
    refine v_callV hC tbok kmTr_57 kiTr_writeHeader ksTr_writeHeader dTr_climb_91 (F := FTr Y _) (by assumption) (by rw [hY.2]; rfl) (cTr_writeHeader hY hW _ _ ν3) rfl rfl ⟨Nat.le_of_ble_eq_true rfl, Nat.le_of_ble_eq_true rfl⟩ rfl rfl (Nat.le_of_ble_eq_true rfl) ⟨Nat.zero_le _, Nat.zero_le _⟩ (kE rfl ?_)
    refine v_goto hB 135 dTr_climb_94 (by decide) ?_
    exact v_vret hC rfl dTr_climb_135 ⟨rfl, h3⟩
  have loop : ∀ (k : Nat) (ν : Mu), clL K k ν → VG X (yA Y) 4 0 0 (VQ X Y (PV K)) (yI Y (ν)) 4 [some (.ref (ad Y 2)), some (.int (nI d)), some (.int (nI k - 1)), none] [] := by
    intro k
    induction k with
    | zero =>
      intro ν h
      refine v_iload_n hB dTr_climb_4 rfl ?_
      refine v_if_lt hB 34 dTr_climb_5 (by decide) (fun c => ?_) (fun c => ?_)
      · refine v_drop 2 (lv' := [_, _, _, _]) rfl ?_
        exact fin ν h
      · exact absurd (by decide) c
    | succ k ih =>
      rintro ν ⟨p, s, hp, hs, hk, hp1, hs1, hm⟩
      rw [nI_pred]
      refine v_iload_n hB dTr_climb_4 rfl ?_
      refine v_if_lt hB 34 dTr_climb_5 (by decide) (fun c => ?_) (fun c => ?_)
      · exact absurd c (nI_pos (by omega))
      refine v_aload_n hB dTr_climb_8 rfl ?_
      refine v_aload_n hB dTr_climb_9 rfl ?_
      refine v_aload_n hB dTr_climb_10 rfl ?_
      refine v_get hC (klTr hY.2) (F := FTr Y _) (by assumption) 4 dTr_climb_11 kfTr_17 (by decide) rfl ?_
      refine v_iload_n hB dTr_climb_14 rfl ?_
      refine v_iald hC htrail k dTr_climb_15 rfl (by omega) (by decide) ?_
      rw [hp1]
      refine v_callV hC tbok kmTr_46 kiTr_at ksTr_at dTr_climb_16 (F := FTr Y _) (by assumption) (by rw [hY.2]; rfl) (cTr_at hY hW hp ν) rfl rfl ⟨Nat.le_of_ble_eq_true rfl, Nat.le_of_ble_eq_true rfl⟩ rfl rfl (Nat.le_of_ble_eq_true rfl) ⟨Nat.zero_le _, Nat.zero_le _⟩ (kE rfl ?_)
      refine v_aload_n hB dTr_climb_19 rfl ?_
      refine v_get hC (klTr hY.2) (F := FTr Y _) (by assumption) 5 dTr_climb_20 kfTr_21 (by decide) rfl ?_
      refine v_iload_n hB dTr_climb_23 rfl ?_
      refine v_iald hC hturns k dTr_climb_24 rfl (by omega) (by decide) ?_
      rw [hs1]
      refine v_callV hC tbok kmTr_139 kiTr_mend ksTr_mend dTr_climb_25 (F := FTr Y _) (by assumption) (by rw [hY.2]; rfl) (cTr_mend hY hW hp hm) rfl rfl ⟨Nat.le_of_ble_eq_true rfl, Nat.le_of_ble_eq_true rfl⟩ rfl rfl (Nat.le_of_ble_eq_true rfl) ⟨Nat.zero_le _, Nat.zero_le _⟩ (kV fun ν2 h2 => ?_)
      refine v_iinc hB dTr_climb_28 rfl (y := _) rfl rfl (by decide) (lv' := [_, _, _, _]) rfl ?_
      refine v_goto hB 4 dTr_climb_31 (by decide) ?_
      rw [im1]
      exact ih ν2 h2
  refine v_iload_n hB dTr_climb_0 rfl ?_
  refine v_iconst hB dTr_climb_1 (v := 1) (by decide) ?_
  refine v_isub hB dTr_climb_2 ?_
  refine v_istore_n hB dTr_climb_3 rfl (by decide) (lv' := [_, _, _, _]) rfl ?_
  exact loop d μ h

