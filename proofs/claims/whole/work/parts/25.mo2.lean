/-! THE REFERENCE, the rest. -/
def mDl (μ : Mu) (m : Nat) (n a b c d : Int32) : Int32 := dlF μ n a b c d m 0 (-1)
def rDe (μ : Mu) (m : Nat) (n a b c d : Int32) : Int32 × Mu := if μ.1 0 0 = 0 then (-3, μ) else rTo μ m (mDl μ m n a b c d) (fun _ ν => ν.1 0 2)
def rTk (μ : Mu) (m : Nat) (a b c d : Int32) : Int32 × Mu := if μ.1 0 0 = 0 then (-3, μ) else rTo μ m (if isRc a b c d = true then mtN μ m a b c d 0 else -1) (fun k _ => μ.1 1 (5 * k))
/-- an index that is found is in its bounds -/
theorem dlF_in (μ : Mu) (n a b c d : Int32) (m : Nat) : ∀ (r k : Nat) (f : Int32), k + r = m → (f = -1 ∨ ∃ j, j < m ∧ f = nI j) → (dlF μ n a b c d r k f = -1 ∨ ∃ j, j < m ∧ dlF μ n a b c d r k f = nI j)
  | 0, _, _, _, hf => hf
  | r + 1, k, f, hk, hf => by
    rw [dlF]
    refine dlF_in μ n a b c d m r (k + 1) _ (by omega) ?_
    split
    · exact Or.inr ⟨k, by omega, rfl⟩
    · exact hf
theorem mtF_in (μ : Mu) (a b c d : Int32) (m : Nat) : ∀ (r k : Nat) (f : Int32), k + r = m → (mtF μ a b c d r k f = -1 ∨ ∃ j, j < m ∧ mtF μ a b c d r k f = nI j)
  | 0, _, _, _ => Or.inl rfl
  | r + 1, k, f, hk => by
    rw [mtF]
    split
    · split
      · exact Or.inr ⟨k, by omega, rfl⟩
      · exact mtF_in μ a b c d m r (k + 1) _ (by omega)
    · exact mtF_in μ a b c d m r (k + 1) _ (by omega)
theorem mtN_in (μ : Mu) (m : Nat) (a b c d n : Int32) : mtN μ m a b c d n = -1 ∨ ∃ j, j < m ∧ mtN μ m a b c d n = nI j := by
  rw [mtN]
  split
  · exact Or.inl rfl
  · exact mtF_in μ a b c d m m 0 n (by omega)
set_option maxHeartbeats 4000000 in
set_option maxRecDepth 100000 in
theorem cMo_delete {l : Launch} {Y : Yt} (hY : YB Y) (hW : YM Y) {m : Nat} (n a b c d : Int32) (μ : Mu) (hm : μ.1 0 2 = nI m) (hm40 : m ≤ 40) : Ct l Y yMo_delete wMo_delete ({ frames := 2, cells := 0, slots := 0, locals := 47 }) [.ref (ad Y 0), .int n, .int a, .int b, .int c, .int d] μ (PE (some (.int (rDe μ m n a b c d).1)) (rDe μ m n a b c d).2) := by
  refine ct_of hY.1 (by decide) rfl (Nat.le_of_ble_eq_true rfl) (lv := [some (.ref (ad Y 0)), some (.int n), some (.int a), some (.int b), some (.int c), some (.int d), none, none]) rfl (fun X hC => ?_)
  have hB := hC.B
  obtain ⟨hMo, hAr⟩ := id hW
  refine v_aload_n hB dMo_delete_0 rfl ?_
  refine v_get hC (klMo hY.2) (F := FMo Y _) (by assumption) 0 dMo_delete_1 kfMo_7 (by decide) rfl ?_
  refine v_if_ne hB 10 dMo_delete_4 (by decide) (fun c0 => ?_) (fun c0 => ?_)
  rotate_left
  · refine v_bipush hB dMo_delete_7 (v := -3) (by decide) ?_
    exact v_iret hC rfl dMo_delete_9 ⟨by rw [rDe, if_pos c0], by rw [rDe, if_pos c0]⟩
  have last : ∀ (f : Int32), f = mDl μ m n a b c d → VG X (yA Y) 8 0 0 (VQ X Y (PE (some (.int (rDe μ m n a b c d).1)) (rDe μ m n a b c d).2)) (yI Y (μ)) 68 [some (.ref (ad Y 0)), some (.int n), some (.int a), some (.int b), some (.int c), some (.int d), some (.int f), none] [] := by
    intro f hf
    have hr : (rDe μ m n a b c d) = rTo μ m f (fun _ ν => ν.1 0 2) := by rw [rDe, if_neg c0, hf]
    have hin : f = -1 ∨ ∃ j, j < m ∧ f = nI j := by rw [hf]; exact dlF_in μ n a b c d m m 0 (-1) (by omega) (Or.inl rfl)
    refine v_iload hB dMo_delete_68 rfl ?_
    refine v_if_ge hB 75 dMo_delete_70 (by decide) (fun c1 => ?_) (fun c1 => ?_)
    rotate_left
    · refine v_iconst hB dMo_delete_73 (v := -1) (by decide) ?_
      exact v_iret hC rfl dMo_delete_74 ⟨by rw [hr, rTo, if_pos (Int32.not_le.mp c1)], by rw [hr, rTo, if_pos (Int32.not_le.mp c1)]⟩
    obtain ⟨j, hj, hfj⟩ : ∃ j, j < m ∧ f = nI j := hin.resolve_left (fun z => by rw [z] at c1; exact absurd c1 (by decide))
    subst hfj
    have hcl : (nI j).toNatClampNeg = j := nI_clamp (by omega)
    rw [rTo, if_neg (Int32.not_lt.mpr c1), hcl] at hr
    have fin : ∀ ν : Mu, (rDe μ m n a b c d) = mEn ν (ν.1 0 2) → VG X (yA Y) 8 0 0 (VQ X Y (PE (some (.int (rDe μ m n a b c d).1)) (rDe μ m n a b c d).2)) (yI Y (ν)) 88 [some (.ref (ad Y 0)), some (.int n), some (.int a), some (.int b), some (.int c), some (.int d), some (.int (nI j)), none] [] := by
      intro ν hν
      refine v_aload_n hB dMo_delete_88 rfl ?_
      refine v_aload_n hB dMo_delete_89 rfl ?_
      refine v_get hC (klMo hY.2) (F := FMo Y _) (by assumption) 2 dMo_delete_90 kfMo_38 (by decide) rfl ?_
      refine v_callV hC tbok kmMo_53 kiMo_ended ksMo_ended dMo_delete_93 (F := FMo Y _) (by assumption) (by rw [hY.2]; rfl) (cMo_ended hY hW _ ν) rfl rfl ⟨Nat.le_of_ble_eq_true rfl, Nat.le_of_ble_eq_true rfl⟩ rfl rfl (Nat.le_of_ble_eq_true rfl) ⟨Nat.zero_le _, Nat.zero_le _⟩ (kE rfl ?_)
      exact v_iret hC rfl dMo_delete_96 ⟨by rw [hν], by rw [hν]⟩
    refine v_aload_n hB dMo_delete_75 rfl ?_
    refine v_callV hC tbok kmMo_41 kiMo_counts ksMo_counts dMo_delete_76 (F := FMo Y _) (by assumption) (by rw [hY.2]; rfl) (cMo_counts hY hW μ) rfl rfl ⟨Nat.le_of_ble_eq_true rfl, Nat.le_of_ble_eq_true rfl⟩ rfl rfl (Nat.le_of_ble_eq_true rfl) ⟨Nat.zero_le _, Nat.zero_le _⟩ (kE rfl ?_)
    refine v_if_eq hB 88 dMo_delete_79 (by decide) (fun c2 => ?_) (fun c2 => ?_)
    · exact fin μ (by rw [hr, if_neg (by rw [bI_0.mp c2]; decide)])
    refine v_aload_n hB dMo_delete_82 rfl ?_
    refine v_iload hB dMo_delete_83 rfl ?_
    refine v_callV hC tbok kmMo_61 kiMo_remove ksMo_remove dMo_delete_85 (F := FMo Y _) (by assumption) (by rw [hY.2]; rfl) (cMo_remove hY hW μ hm hm40 hj) rfl rfl ⟨Nat.le_of_ble_eq_true rfl, Nat.le_of_ble_eq_true rfl⟩ rfl rfl (Nat.le_of_ble_eq_true rfl) ⟨Nat.zero_le _, Nat.zero_le _⟩ (kE rfl ?_)
    exact fin _ (by rw [hr, if_pos (bI_n.mp c2)])
  have loop : ∀ (r k : Nat) (f : Int32), k + r = m → dlF μ n a b c d r k f = mDl μ m n a b c d → VG X (yA Y) 8 0 0 (VQ X Y (PE (some (.int (rDe μ m n a b c d).1)) (rDe μ m n a b c d).2)) (yI Y (μ)) 16 [some (.ref (ad Y 0)), some (.int n), some (.int a), some (.int b), some (.int c), some (.int d), some (.int f), some (.int (nI k))] [] := by
    intro r
    induction r with
    | zero =>
      intro k f hk hf
      refine v_iload hB dMo_delete_16 rfl ?_
      refine v_aload_n hB dMo_delete_18 rfl ?_
      refine v_get hC (klMo hY.2) (F := FMo Y _) (by assumption) 2 dMo_delete_19 kfMo_38 (by decide) rfl ?_
      rw [hm]
      refine v_icmp_ge hB 68 dMo_delete_22 (by decide) (fun e => ?_) (fun e => ?_)
      · refine v_drop 7 (lv' := [_, _, _, _, _, _, _, _]) rfl ?_
        exact last f hf
      exact absurd (nI_le (by omega) (by omega)) e
    | succ r ih =>
      intro k f hk hf
      refine v_iload hB dMo_delete_16 rfl ?_
      refine v_aload_n hB dMo_delete_18 rfl ?_
      refine v_get hC (klMo hY.2) (F := FMo Y _) (by assumption) 2 dMo_delete_19 kfMo_38 (by decide) rfl ?_
      rw [hm]
      refine v_icmp_ge hB 68 dMo_delete_22 (by decide) (fun e => ?_) (fun e => ?_)
      · exact absurd e (fun q => absurd ((nI_leI (by omega) (by omega)).mp q) (by omega))
      have key : ∀ g : Int32, g = (if sameB (eB μ k) (w5 a b c d n) = true then nI k else f) → VG X (yA Y) 8 0 0 (VQ X Y (PE (some (.int (rDe μ m n a b c d).1)) (rDe μ m n a b c d).2)) (yI Y (μ)) 60 [some (.ref (ad Y 0)), some (.int n), some (.int a), some (.int b), some (.int c), some (.int d), some (.int f), some (.int (nI k))] [.int g] := by
        intro g hg
        refine v_istore hB dMo_delete_60 rfl (by decide) (lv' := [_, _, _, _, _, _, _, _]) rfl ?_
        refine v_iinc hB dMo_delete_62 rfl (y := _) rfl rfl (by decide) (lv' := [_, _, _, _, _, _, _, _]) rfl ?_
        refine v_goto hB 16 dMo_delete_65 (by decide) ?_
        rw [i1]
        exact ih (k + 1) g (by omega) (by rw [← hf, dlF, hg])
      have e4 : eB μ k 4 = μ.1 1 (5 * k) := rfl
      refine v_aload_n hB dMo_delete_25 rfl ?_
      refine v_get hC (klMo hY.2) (F := FMo Y _) (by assumption) 3 dMo_delete_26 kfMo_17 (by decide) rfl ?_
      refine v_iconst hB dMo_delete_29 (v := 5) (by decide) ?_
      refine v_iload hB dMo_delete_30 rfl ?_
      refine v_imul hB dMo_delete_32 ?_
      refine v_iald hC hAr (5 * k) dMo_delete_33 (n5 k) (by omega) (by decide) ?_
      refine v_iload_n hB dMo_delete_34 rfl ?_
      refine v_icmp_ne hB 58 dMo_delete_35 (by decide) (fun f1 => ?_) (fun f1 => ?_)
      · refine v_iload hB dMo_delete_58 rfl ?_
        exact key f (by rw [if_neg (by simp only [sameB, w5, e4]; simp [f1])])
      refine v_aload_n hB dMo_delete_38 rfl ?_
      refine v_iload hB dMo_delete_39 rfl ?_
      refine v_iload_n hB dMo_delete_41 rfl ?_
      refine v_iload_n hB dMo_delete_42 rfl ?_
      refine v_iload hB dMo_delete_43 rfl ?_
      refine v_iload hB dMo_delete_45 rfl ?_
      refine v_callV hC tbok kmMo_57 kiMo_is ksMo_is dMo_delete_47 (F := FMo Y _) (by assumption) (by rw [hY.2]; rfl) (cMo_is hY hW (k := k) (by omega) a b c d μ) rfl rfl ⟨Nat.le_of_ble_eq_true rfl, Nat.le_of_ble_eq_true rfl⟩ rfl rfl (Nat.le_of_ble_eq_true rfl) ⟨Nat.zero_le _, Nat.zero_le _⟩ (kE rfl ?_)
      refine v_if_eq hB 58 dMo_delete_50 (by decide) (fun f2 => ?_) (fun f2 => ?_)
      · refine v_iload hB dMo_delete_58 rfl ?_
        have g2 := bI_0.mp f2
        exact key f (by rw [if_neg (by simp only [sameB, w5, e4, f1]; simpa using g2)])
      have g2 := bI_n.mp f2
      refine v_iload hB dMo_delete_53 rfl ?_
      refine v_goto hB 60 dMo_delete_55 (by decide) ?_
      exact key (nI k) (by rw [if_pos (by simp only [sameB, w5, e4, f1]; simpa using g2)])
  refine v_iconst hB dMo_delete_10 (v := -1) (by decide) ?_
  refine v_istore hB dMo_delete_11 rfl (by decide) (lv' := [_, _, _, _, _, _, _, _]) rfl ?_
  refine v_iconst hB dMo_delete_13 (v := 0) (by decide) ?_
  refine v_istore hB dMo_delete_14 rfl (by decide) (lv' := [_, _, _, _, _, _, _, _]) rfl ?_
  exact loop m 0 (-1) (by omega) rfl

set_option maxHeartbeats 4000000 in
set_option maxRecDepth 100000 in
theorem cMo_take {l : Launch} {Y : Yt} (hY : YB Y) (hW : YM Y) {m : Nat} (a b c d : Int32) (μ : Mu) (hm : μ.1 0 2 = nI m) (hm40 : m ≤ 40) : Ct l Y yMo_take wMo_take ({ frames := 3, cells := 0, slots := 0, locals := 74 }) [.ref (ad Y 0), .int a, .int b, .int c, .int d] μ (PE (some (.int (rTk μ m a b c d).1)) (rTk μ m a b c d).2) := by
  refine ct_of hY.1 (by decide) rfl (Nat.le_of_ble_eq_true rfl) (lv := [some (.ref (ad Y 0)), some (.int a), some (.int b), some (.int c), some (.int d), none, none]) rfl (fun X hC => ?_)
  have hB := hC.B
  obtain ⟨hMo, hAr⟩ := id hW
  refine v_aload_n hB dMo_take_0 rfl ?_
  refine v_get hC (klMo hY.2) (F := FMo Y _) (by assumption) 0 dMo_take_1 kfMo_7 (by decide) rfl ?_
  refine v_if_ne hB 10 dMo_take_4 (by decide) (fun c0 => ?_) (fun c0 => ?_)
  rotate_left
  · refine v_bipush hB dMo_take_7 (v := -3) (by decide) ?_
    exact v_iret hC rfl dMo_take_9 ⟨by rw [rTk, if_pos c0], by rw [rTk, if_pos c0]⟩
  have last : ∀ (f : Int32), f = (if isRc a b c d = true then mtN μ m a b c d 0 else -1) → VG X (yA Y) 7 0 0 (VQ X Y (PE (some (.int (rTk μ m a b c d).1)) (rTk μ m a b c d).2)) (yI Y (μ)) 35 [some (.ref (ad Y 0)), some (.int a), some (.int b), some (.int c), some (.int d), none, none] [.int f] := by
    intro f hf
    have hr : (rTk μ m a b c d) = rTo μ m f (fun k _ => μ.1 1 (5 * k)) := by rw [rTk, if_neg c0, hf]
    have hin : f = -1 ∨ ∃ j, j < m ∧ f = nI j := by
      rw [hf]
      split
      · exact mtN_in μ m a b c d 0
      · exact Or.inl rfl
    refine v_istore hB dMo_take_35 rfl (by decide) (lv' := [_, _, _, _, _, _, _]) rfl ?_
    refine v_iload hB dMo_take_37 rfl ?_
    refine v_if_ge hB 44 dMo_take_39 (by decide) (fun c1 => ?_) (fun c1 => ?_)
    rotate_left
    · refine v_iconst hB dMo_take_42 (v := -1) (by decide) ?_
      exact v_iret hC rfl dMo_take_43 ⟨by rw [hr, rTo, if_pos (Int32.not_le.mp c1)], by rw [hr, rTo, if_pos (Int32.not_le.mp c1)]⟩
    obtain ⟨j, hj, hfj⟩ : ∃ j, j < m ∧ f = nI j := hin.resolve_left (fun z => by rw [z] at c1; exact absurd c1 (by decide))
    subst hfj
    have hcl : (nI j).toNatClampNeg = j := nI_clamp (by omega)
    rw [rTo, if_neg (Int32.not_lt.mpr c1), hcl] at hr
    have fin : ∀ ν : Mu, (rTk μ m a b c d) = mEn ν (μ.1 1 (5 * j)) → VG X (yA Y) 7 0 0 (VQ X Y (PE (some (.int (rTk μ m a b c d).1)) (rTk μ m a b c d).2)) (yI Y (ν)) 68 [some (.ref (ad Y 0)), some (.int a), some (.int b), some (.int c), some (.int d), some (.int (nI j)), some (.int (μ.1 1 (5 * j)))] [] := by
      intro ν hν
      refine v_aload_n hB dMo_take_68 rfl ?_
      refine v_iload hB dMo_take_69 rfl ?_
      refine v_callV hC tbok kmMo_53 kiMo_ended ksMo_ended dMo_take_71 (F := FMo Y _) (by assumption) (by rw [hY.2]; rfl) (cMo_ended hY hW _ ν) rfl rfl ⟨Nat.le_of_ble_eq_true rfl, Nat.le_of_ble_eq_true rfl⟩ rfl rfl (Nat.le_of_ble_eq_true rfl) ⟨Nat.zero_le _, Nat.zero_le _⟩ (kE rfl ?_)
      exact v_iret hC rfl dMo_take_74 ⟨by rw [hν], by rw [hν]⟩
    refine v_aload_n hB dMo_take_44 rfl ?_
    refine v_get hC (klMo hY.2) (F := FMo Y _) (by assumption) 3 dMo_take_45 kfMo_17 (by decide) rfl ?_
    refine v_iconst hB dMo_take_48 (v := 5) (by decide) ?_
    refine v_iload hB dMo_take_49 rfl ?_
    refine v_imul hB dMo_take_51 ?_
    refine v_iald hC hAr (5 * j) dMo_take_52 (n5 j) (by omega) (by decide) ?_
    refine v_istore hB dMo_take_53 rfl (by decide) (lv' := [_, _, _, _, _, _, _]) rfl ?_
    refine v_aload_n hB dMo_take_55 rfl ?_
    refine v_callV hC tbok kmMo_41 kiMo_counts ksMo_counts dMo_take_56 (F := FMo Y _) (by assumption) (by rw [hY.2]; rfl) (cMo_counts hY hW μ) rfl rfl ⟨Nat.le_of_ble_eq_true rfl, Nat.le_of_ble_eq_true rfl⟩ rfl rfl (Nat.le_of_ble_eq_true rfl) ⟨Nat.zero_le _, Nat.zero_le _⟩ (kE rfl ?_)
    refine v_if_eq hB 68 dMo_take_59 (by decide) (fun c2 => ?_) (fun c2 => ?_)
    · exact fin μ (by rw [hr, if_neg (by rw [bI_0.mp c2]; decide)])
    refine v_aload_n hB dMo_take_62 rfl ?_
    refine v_iload hB dMo_take_63 rfl ?_
    refine v_callV hC tbok kmMo_61 kiMo_remove ksMo_remove dMo_take_65 (F := FMo Y _) (by assumption) (by rw [hY.2]; rfl) (cMo_remove hY hW μ hm hm40 hj) rfl rfl ⟨Nat.le_of_ble_eq_true rfl, Nat.le_of_ble_eq_true rfl⟩ rfl rfl (Nat.le_of_ble_eq_true rfl) ⟨Nat.zero_le _, Nat.zero_le _⟩ (kE rfl ?_)
    exact fin _ (by rw [hr, if_pos (bI_n.mp c2)])
  refine v_iload_n hB dMo_take_10 rfl ?_
  refine v_iload_n hB dMo_take_11 rfl ?_
  refine v_iload_n hB dMo_take_12 rfl ?_
  refine v_iload hB dMo_take_13 rfl ?_
  refine v_callS hC tbok kmMo_34 ktMo_bad dMo_take_15 (cMo_bad hY a b c d μ) rfl rfl ⟨Nat.le_of_ble_eq_true rfl, Nat.le_of_ble_eq_true rfl⟩ rfl rfl (Nat.le_of_ble_eq_true rfl) ⟨Nat.zero_le _, Nat.zero_le _⟩ (kE rfl ?_)
  refine v_if_eq hB 25 dMo_take_18 (by decide) (fun c1 => ?_) (fun c1 => ?_)
  · have hz : isRc a b c d = true := by have := bI_0.mp c1; simpa using this
    refine v_aload_n hB dMo_take_25 rfl ?_
    refine v_iload_n hB dMo_take_26 rfl ?_
    refine v_iload_n hB dMo_take_27 rfl ?_
    refine v_iload_n hB dMo_take_28 rfl ?_
    refine v_iload hB dMo_take_29 rfl ?_
    refine v_iconst hB dMo_take_31 (v := 0) (by decide) ?_
    refine v_callV hC tbok kmMo_68 kiMo_meeting ksMo_meeting dMo_take_32 (F := FMo Y _) (by assumption) (by rw [hY.2]; rfl) (cMo_meeting hY hW a b c d 0 μ hm hm40) rfl rfl ⟨Nat.le_of_ble_eq_true rfl, Nat.le_of_ble_eq_true rfl⟩ rfl rfl (Nat.le_of_ble_eq_true rfl) ⟨Nat.zero_le _, Nat.zero_le _⟩ (kE rfl ?_)
    exact last _ (by rw [if_pos hz])
  have hz : ¬ isRc a b c d = true := by have := bI_n.mp c1; simpa using this
  refine v_iconst hB dMo_take_21 (v := -1) (by decide) ?_
  refine v_goto hB 35 dMo_take_22 (by decide) ?_
  exact last _ (by rw [if_neg hz])

set_option maxHeartbeats 4000000 in
set_option maxRecDepth 100000 in
theorem cMo_pick {l : Launch} {Y : Yt} (hY : YB Y) (hW : YM Y) {m : Nat} (a b c d n : Int32) (μ : Mu) (hm : μ.1 0 2 = nI m) (hm40 : m ≤ 40) : Ct l Y yMo_pick wMo_pick ({ frames := 3, cells := 0, slots := 0, locals := 74 }) [.ref (ad Y 0), .int a, .int b, .int c, .int d, .int n] μ (PE (some (.int (if μ.1 0 0 = 0 then -3 else if isRc a b c d = true then (if mtN μ m a b c d n < 0 then -1 else μ.1 1 (5 * (mtN μ m a b c d n).toNatClampNeg)) else -1))) μ) := by
  refine ct_of hY.1 (by decide) rfl (Nat.le_of_ble_eq_true rfl) (lv := [some (.ref (ad Y 0)), some (.int a), some (.int b), some (.int c), some (.int d), some (.int n), none]) rfl (fun X hC => ?_)
  have hB := hC.B
  obtain ⟨hMo, hAr⟩ := id hW
  refine v_aload_n hB dMo_pick_0 rfl ?_
  refine v_get hC (klMo hY.2) (F := FMo Y _) (by assumption) 0 dMo_pick_1 kfMo_7 (by decide) rfl ?_
  refine v_if_ne hB 10 dMo_pick_4 (by decide) (fun c0 => ?_) (fun c0 => ?_)
  rotate_left
  · refine v_bipush hB dMo_pick_7 (v := -3) (by decide) ?_
    exact v_iret hC rfl dMo_pick_9 ⟨by rw [if_pos c0], rfl⟩
  rw [if_neg c0]
  refine v_iload_n hB dMo_pick_10 rfl ?_
  refine v_iload_n hB dMo_pick_11 rfl ?_
  refine v_iload_n hB dMo_pick_12 rfl ?_
  refine v_iload hB dMo_pick_13 rfl ?_
  refine v_callS hC tbok kmMo_34 ktMo_bad dMo_pick_15 (cMo_bad hY a b c d μ) rfl rfl ⟨Nat.le_of_ble_eq_true rfl, Nat.le_of_ble_eq_true rfl⟩ rfl rfl (Nat.le_of_ble_eq_true rfl) ⟨Nat.zero_le _, Nat.zero_le _⟩ (kE rfl ?_)
  refine v_if_eq hB 25 dMo_pick_18 (by decide) (fun c1 => ?_) (fun c1 => ?_)
  · have hz : isRc a b c d = true := by have := bI_0.mp c1; simpa using this
    rw [if_pos hz]
    refine v_aload_n hB dMo_pick_25 rfl ?_
    refine v_iload_n hB dMo_pick_26 rfl ?_
    refine v_iload_n hB dMo_pick_27 rfl ?_
    refine v_iload_n hB dMo_pick_28 rfl ?_
    refine v_iload hB dMo_pick_29 rfl ?_
    refine v_iload hB dMo_pick_31 rfl ?_
    refine v_callV hC tbok kmMo_68 kiMo_meeting ksMo_meeting dMo_pick_33 (F := FMo Y _) (by assumption) (by rw [hY.2]; rfl) (cMo_meeting hY hW a b c d n μ hm hm40) rfl rfl ⟨Nat.le_of_ble_eq_true rfl, Nat.le_of_ble_eq_true rfl⟩ rfl rfl (Nat.le_of_ble_eq_true rfl) ⟨Nat.zero_le _, Nat.zero_le _⟩ (kE rfl ?_)
    refine v_istore hB dMo_pick_36 rfl (by decide) (lv' := [_, _, _, _, _, _, _]) rfl ?_
    refine v_iload hB dMo_pick_38 rfl ?_
    refine v_if_ge hB 47 dMo_pick_40 (by decide) (fun c2 => ?_) (fun c2 => ?_)
    · obtain ⟨j, hj, hfj⟩ : ∃ j, j < m ∧ mtN μ m a b c d n = nI j := (mtN_in μ m a b c d n).resolve_left (fun z => by rw [z] at c2; exact absurd c2 (by decide))
      have hcl : (nI j).toNatClampNeg = j := nI_clamp (by omega)
      rw [if_neg (Int32.not_lt.mpr c2), hfj, hcl]
      refine v_aload_n hB dMo_pick_47 rfl ?_
      refine v_get hC (klMo hY.2) (F := FMo Y _) (by assumption) 3 dMo_pick_48 kfMo_17 (by decide) rfl ?_
      refine v_iconst hB dMo_pick_51 (v := 5) (by decide) ?_
      refine v_iload hB dMo_pick_52 rfl ?_
      refine v_imul hB dMo_pick_54 ?_
      refine v_iald hC hAr (5 * j) dMo_pick_55 (n5 j) (by omega) (by decide) ?_
      exact v_iret hC rfl dMo_pick_56 ⟨rfl, rfl⟩
    rw [if_pos (Int32.not_le.mp c2)]
    refine v_iconst hB dMo_pick_43 (v := -1) (by decide) ?_
    refine v_goto hB 56 dMo_pick_44 (by decide) ?_
    exact v_iret hC rfl dMo_pick_56 ⟨rfl, rfl⟩
  have hz : ¬ isRc a b c d = true := by have := bI_n.mp c1; simpa using this
  rw [if_neg hz]
  refine v_iconst hB dMo_pick_21 (v := -1) (by decide) ?_
  refine v_goto hB 36 dMo_pick_22 (by decide) ?_
  refine v_istore hB dMo_pick_36 rfl (by decide) (lv' := [_, _, _, _, _, _, _]) rfl ?_
  refine v_iload hB dMo_pick_38 rfl ?_
  refine v_if_ge hB 47 dMo_pick_40 (by decide) (fun c2 => ?_) (fun c2 => ?_)
  · exact absurd c2 (by decide)
  refine v_iconst hB dMo_pick_43 (v := -1) (by decide) ?_
  refine v_goto hB 56 dMo_pick_44 (by decide) ?_
  exact v_iret hC rfl dMo_pick_56 ⟨rfl, rfl⟩

set_option maxHeartbeats 4000000 in
set_option maxRecDepth 100000 in
theorem cMo_count {l : Launch} {Y : Yt} (hY : YB Y) (hW : YM Y) {m : Nat} (a b c d : Int32) (μ : Mu) (hm : μ.1 0 2 = nI m) (hm40 : m ≤ 40) : Ct l Y yMo_count wMo_count ({ frames := 2, cells := 0, slots := 0, locals := 47 }) [.ref (ad Y 0), .int a, .int b, .int c, .int d] μ (PE (some (.int (if μ.1 0 0 = 0 then -3 else if isRc a b c d = true then nI (cnF μ (fun e => meetB e (w5 a b c d 0)) m) else -1))) μ) := by
  refine ct_of hY.1 (by decide) rfl (Nat.le_of_ble_eq_true rfl) (lv := [some (.ref (ad Y 0)), some (.int a), some (.int b), some (.int c), some (.int d), none, none]) rfl (fun X hC => ?_)
  have hB := hC.B
  obtain ⟨hMo, hAr⟩ := id hW
  refine v_aload_n hB dMo_count_0 rfl ?_
  refine v_get hC (klMo hY.2) (F := FMo Y _) (by assumption) 0 dMo_count_1 kfMo_7 (by decide) rfl ?_
  refine v_if_ne hB 10 dMo_count_4 (by decide) (fun c0 => ?_) (fun c0 => ?_)
  rotate_left
  · refine v_bipush hB dMo_count_7 (v := -3) (by decide) ?_
    exact v_iret hC rfl dMo_count_9 ⟨by rw [if_pos c0], rfl⟩
  rw [if_neg c0]
  refine v_iload_n hB dMo_count_10 rfl ?_
  refine v_iload_n hB dMo_count_11 rfl ?_
  refine v_iload_n hB dMo_count_12 rfl ?_
  refine v_iload hB dMo_count_13 rfl ?_
  refine v_callS hC tbok kmMo_34 ktMo_bad dMo_count_15 (cMo_bad hY a b c d μ) rfl rfl ⟨Nat.le_of_ble_eq_true rfl, Nat.le_of_ble_eq_true rfl⟩ rfl rfl (Nat.le_of_ble_eq_true rfl) ⟨Nat.zero_le _, Nat.zero_le _⟩ (kE rfl ?_)
  refine v_if_eq hB 23 dMo_count_18 (by decide) (fun c1 => ?_) (fun c1 => ?_)
  rotate_left
  · have hz : ¬ isRc a b c d = true := by have := bI_n.mp c1; simpa using this
    rw [if_neg hz]
    refine v_iconst hB dMo_count_21 (v := -1) (by decide) ?_
    exact v_iret hC rfl dMo_count_22 ⟨rfl, rfl⟩
  have hz : isRc a b c d = true := by have := bI_0.mp c1; simpa using this
  rw [if_pos hz]
  have loop : ∀ (r k : Nat), k + r = m → VG X (yA Y) 7 0 0 (VQ X Y (PE (some (.int (nI (cnF μ (fun e => meetB e (w5 a b c d 0)) m)))) μ)) (yI Y (μ)) 29 [some (.ref (ad Y 0)), some (.int a), some (.int b), some (.int c), some (.int d), some (.int (nI (cnF μ (fun e => meetB e (w5 a b c d 0)) k))), some (.int (nI k))] [] := by
    intro r
    induction r with
    | zero =>
      intro k hk
      obtain rfl : k = m := by omega
      refine v_iload hB dMo_count_29 rfl ?_
      refine v_aload_n hB dMo_count_31 rfl ?_
      refine v_get hC (klMo hY.2) (F := FMo Y _) (by assumption) 2 dMo_count_32 kfMo_38 (by decide) rfl ?_
      rw [hm]
      refine v_icmp_ge hB 69 dMo_count_35 (by decide) (fun e => ?_) (fun e => ?_)
      · refine v_iload hB dMo_count_69 rfl ?_
        exact v_iret hC rfl dMo_count_71 ⟨rfl, rfl⟩
      exact absurd (nI_le (by omega) (by omega)) e
    | succ r ih =>
      intro k hk
      refine v_iload hB dMo_count_29 rfl ?_
      refine v_aload_n hB dMo_count_31 rfl ?_
      refine v_get hC (klMo hY.2) (F := FMo Y _) (by assumption) 2 dMo_count_32 kfMo_38 (by decide) rfl ?_
      rw [hm]
      refine v_icmp_ge hB 69 dMo_count_35 (by decide) (fun e => ?_) (fun e => ?_)
      · exact absurd e (fun q => absurd ((nI_leI (by omega) (by omega)).mp q) (by omega))
      refine v_aload_n hB dMo_count_38 rfl ?_
      refine v_iload hB dMo_count_39 rfl ?_
      refine v_iload_n hB dMo_count_41 rfl ?_
      refine v_iload_n hB dMo_count_42 rfl ?_
      refine v_iload_n hB dMo_count_43 rfl ?_
      refine v_iload hB dMo_count_44 rfl ?_
      refine v_callV hC tbok kmMo_65 kiMo_meets ksMo_meets dMo_count_46 (F := FMo Y _) (by assumption) (by rw [hY.2]; rfl) (cMo_meets hY hW (k := k) (by omega) a b c d μ) rfl rfl ⟨Nat.le_of_ble_eq_true rfl, Nat.le_of_ble_eq_true rfl⟩ rfl rfl (Nat.le_of_ble_eq_true rfl) ⟨Nat.zero_le _, Nat.zero_le _⟩ (kE rfl ?_)
      refine v_if_eq hB 59 dMo_count_49 (by decide) (fun f => ?_) (fun f => ?_)
      · refine v_iload hB dMo_count_59 rfl ?_
        refine v_istore hB dMo_count_61 rfl (by decide) (lv' := [_, _, _, _, _, _, _]) rfl ?_
        refine v_iinc hB dMo_count_63 rfl (y := _) rfl rfl (by decide) (lv' := [_, _, _, _, _, _, _]) rfl ?_
        refine v_goto hB 29 dMo_count_66 (by decide) ?_
        rw [i1, show cnF μ (fun e => meetB e (w5 a b c d 0)) k = cnF μ (fun e => meetB e (w5 a b c d 0)) (k + 1) by rw [cnF, if_neg (by rw [bI_0.mp f]; decide)]; rfl]
        exact ih (k + 1) (by omega)
      refine v_iload hB dMo_count_52 rfl ?_
      refine v_iconst hB dMo_count_54 (v := 1) (by decide) ?_
      refine v_iadd hB dMo_count_55 ?_
      refine v_goto hB 61 dMo_count_56 (by decide) ?_
      refine v_istore hB dMo_count_61 rfl (by decide) (lv' := [_, _, _, _, _, _, _]) rfl ?_
      refine v_iinc hB dMo_count_63 rfl (y := _) rfl rfl (by decide) (lv' := [_, _, _, _, _, _, _]) rfl ?_
      refine v_goto hB 29 dMo_count_66 (by decide) ?_
      rw [i1, nI_1, show cnF μ (fun e => meetB e (w5 a b c d 0)) k + 1 = cnF μ (fun e => meetB e (w5 a b c d 0)) (k + 1) by rw [cnF, if_pos (bI_n.mp f)]]
      exact ih (k + 1) (by omega)
  refine v_iconst hB dMo_count_23 (v := 0) (by decide) ?_
  refine v_istore hB dMo_count_24 rfl (by decide) (lv' := [_, _, _, _, _, _, _]) rfl ?_
  refine v_iconst hB dMo_count_26 (v := 0) (by decide) ?_
  refine v_istore hB dMo_count_27 rfl (by decide) (lv' := [_, _, _, _, _, _, _]) rfl ?_
  exact loop m 0 (by omega)

set_option maxHeartbeats 4000000 in
set_option maxRecDepth 100000 in
theorem cMo_within {l : Launch} {Y : Yt} (hY : YB Y) (hW : YM Y) {m : Nat} (a b c d : Int32) (μ : Mu) (hm : μ.1 0 2 = nI m) (hm40 : m ≤ 40) : Ct l Y yMo_within wMo_within ({ frames := 2, cells := 0, slots := 0, locals := 43 }) [.ref (ad Y 0), .int a, .int b, .int c, .int d] μ (PE (some (.int (if μ.1 0 0 = 0 then -3 else if isRc a b c d = true then nI (cnF μ (fun e => holdB (w5 a b c d 0) e) m) else -1))) μ) := by
  refine ct_of hY.1 (by decide) rfl (Nat.le_of_ble_eq_true rfl) (lv := [some (.ref (ad Y 0)), some (.int a), some (.int b), some (.int c), some (.int d), none, none]) rfl (fun X hC => ?_)
  have hB := hC.B
  obtain ⟨hMo, hAr⟩ := id hW
  refine v_aload_n hB dMo_within_0 rfl ?_
  refine v_get hC (klMo hY.2) (F := FMo Y _) (by assumption) 0 dMo_within_1 kfMo_7 (by decide) rfl ?_
  refine v_if_ne hB 10 dMo_within_4 (by decide) (fun c0 => ?_) (fun c0 => ?_)
  rotate_left
  · refine v_bipush hB dMo_within_7 (v := -3) (by decide) ?_
    exact v_iret hC rfl dMo_within_9 ⟨by rw [if_pos c0], rfl⟩
  rw [if_neg c0]
  refine v_iload_n hB dMo_within_10 rfl ?_
  refine v_iload_n hB dMo_within_11 rfl ?_
  refine v_iload_n hB dMo_within_12 rfl ?_
  refine v_iload hB dMo_within_13 rfl ?_
  refine v_callS hC tbok kmMo_34 ktMo_bad dMo_within_15 (cMo_bad hY a b c d μ) rfl rfl ⟨Nat.le_of_ble_eq_true rfl, Nat.le_of_ble_eq_true rfl⟩ rfl rfl (Nat.le_of_ble_eq_true rfl) ⟨Nat.zero_le _, Nat.zero_le _⟩ (kE rfl ?_)
  refine v_if_eq hB 23 dMo_within_18 (by decide) (fun c1 => ?_) (fun c1 => ?_)
  rotate_left
  · have hz : ¬ isRc a b c d = true := by have := bI_n.mp c1; simpa using this
    rw [if_neg hz]
    refine v_iconst hB dMo_within_21 (v := -1) (by decide) ?_
    exact v_iret hC rfl dMo_within_22 ⟨rfl, rfl⟩
  have hz : isRc a b c d = true := by have := bI_0.mp c1; simpa using this
  rw [if_pos hz]
  have loop : ∀ (r k : Nat), k + r = m → VG X (yA Y) 7 0 0 (VQ X Y (PE (some (.int (nI (cnF μ (fun e => holdB (w5 a b c d 0) e) m)))) μ)) (yI Y (μ)) 29 [some (.ref (ad Y 0)), some (.int a), some (.int b), some (.int c), some (.int d), some (.int (nI (cnF μ (fun e => holdB (w5 a b c d 0) e) k))), some (.int (nI k))] [] := by
    intro r
    induction r with
    | zero =>
      intro k hk
      obtain rfl : k = m := by omega
      refine v_iload hB dMo_within_29 rfl ?_
      refine v_aload_n hB dMo_within_31 rfl ?_
      refine v_get hC (klMo hY.2) (F := FMo Y _) (by assumption) 2 dMo_within_32 kfMo_38 (by decide) rfl ?_
      rw [hm]
      refine v_icmp_ge hB 100 dMo_within_35 (by decide) (fun e => ?_) (fun e => ?_)
      · refine v_iload hB dMo_within_100 rfl ?_
        exact v_iret hC rfl dMo_within_102 ⟨rfl, rfl⟩
      exact absurd (nI_le (by omega) (by omega)) e
    | succ r ih =>
      intro k hk
      refine v_iload hB dMo_within_29 rfl ?_
      refine v_aload_n hB dMo_within_31 rfl ?_
      refine v_get hC (klMo hY.2) (F := FMo Y _) (by assumption) 2 dMo_within_32 kfMo_38 (by decide) rfl ?_
      rw [hm]
      refine v_icmp_ge hB 100 dMo_within_35 (by decide) (fun e => ?_) (fun e => ?_)
      · exact absurd e (fun q => absurd ((nI_leI (by omega) (by omega)).mp q) (by omega))
      refine v_aload_n hB dMo_within_38 rfl ?_
      refine v_iload hB dMo_within_39 rfl ?_
      refine v_iconst hB dMo_within_41 (v := 0) (by decide) ?_
      refine v_callV hC tbok kmMo_27 kiMo_part ksMo_part dMo_within_42 (F := FMo Y _) (by assumption) (by rw [hY.2]; rfl) (cMo_part (k := k) (q := 0) hY hW (by omega) (by decide) μ) rfl rfl ⟨Nat.le_of_ble_eq_true rfl, Nat.le_of_ble_eq_true rfl⟩ rfl rfl (Nat.le_of_ble_eq_true rfl) ⟨Nat.zero_le _, Nat.zero_le _⟩ (kE rfl ?_)
      refine v_iload_n hB dMo_within_45 rfl ?_
      refine v_icmp_lt hB 90 dMo_within_46 (by decide) (fun f0 => ?_) (fun f0 => ?_)
      · refine v_iload hB dMo_within_90 rfl ?_
        refine v_istore hB dMo_within_92 rfl (by decide) (lv' := [_, _, _, _, _, _, _]) rfl ?_
        refine v_iinc hB dMo_within_94 rfl (y := _) rfl rfl (by decide) (lv' := [_, _, _, _, _, _, _]) rfl ?_
        refine v_goto hB 29 dMo_within_97 (by decide) ?_
        rw [i1, show cnF μ (fun e => holdB (w5 a b c d 0) e) k = cnF μ (fun e => holdB (w5 a b c d 0) e) (k + 1) by rw [cnF, if_neg (by simp only [holdB, w5]; simp [Int32.not_le.mpr f0])]; rfl]
        exact ih (k + 1) (by omega)
      refine v_aload_n hB dMo_within_49 rfl ?_
      refine v_iload hB dMo_within_50 rfl ?_
      refine v_iconst hB dMo_within_52 (v := 1) (by decide) ?_
      refine v_callV hC tbok kmMo_27 kiMo_part ksMo_part dMo_within_53 (F := FMo Y _) (by assumption) (by rw [hY.2]; rfl) (cMo_part (k := k) (q := 1) hY hW (by omega) (by decide) μ) rfl rfl ⟨Nat.le_of_ble_eq_true rfl, Nat.le_of_ble_eq_true rfl⟩ rfl rfl (Nat.le_of_ble_eq_true rfl) ⟨Nat.zero_le _, Nat.zero_le _⟩ (kE rfl ?_)
      refine v_iload_n hB dMo_within_56 rfl ?_
      refine v_icmp_lt hB 90 dMo_within_57 (by decide) (fun f1 => ?_) (fun f1 => ?_)
      · refine v_iload hB dMo_within_90 rfl ?_
        refine v_istore hB dMo_within_92 rfl (by decide) (lv' := [_, _, _, _, _, _, _]) rfl ?_
        refine v_iinc hB dMo_within_94 rfl (y := _) rfl rfl (by decide) (lv' := [_, _, _, _, _, _, _]) rfl ?_
        refine v_goto hB 29 dMo_within_97 (by decide) ?_
        rw [i1, show cnF μ (fun e => holdB (w5 a b c d 0) e) k = cnF μ (fun e => holdB (w5 a b c d 0) e) (k + 1) by rw [cnF, if_neg (by simp only [holdB, w5]; simp [Int32.not_le.mpr f1])]; rfl]
        exact ih (k + 1) (by omega)
      refine v_aload_n hB dMo_within_60 rfl ?_
      refine v_iload hB dMo_within_61 rfl ?_
      refine v_iconst hB dMo_within_63 (v := 2) (by decide) ?_
      refine v_callV hC tbok kmMo_27 kiMo_part ksMo_part dMo_within_64 (F := FMo Y _) (by assumption) (by rw [hY.2]; rfl) (cMo_part (k := k) (q := 2) hY hW (by omega) (by decide) μ) rfl rfl ⟨Nat.le_of_ble_eq_true rfl, Nat.le_of_ble_eq_true rfl⟩ rfl rfl (Nat.le_of_ble_eq_true rfl) ⟨Nat.zero_le _, Nat.zero_le _⟩ (kE rfl ?_)
      refine v_iload_n hB dMo_within_67 rfl ?_
      refine v_icmp_gt hB 90 dMo_within_68 (by decide) (fun f2 => ?_) (fun f2 => ?_)
      · refine v_iload hB dMo_within_90 rfl ?_
        refine v_istore hB dMo_within_92 rfl (by decide) (lv' := [_, _, _, _, _, _, _]) rfl ?_
        refine v_iinc hB dMo_within_94 rfl (y := _) rfl rfl (by decide) (lv' := [_, _, _, _, _, _, _]) rfl ?_
        refine v_goto hB 29 dMo_within_97 (by decide) ?_
        rw [i1, show cnF μ (fun e => holdB (w5 a b c d 0) e) k = cnF μ (fun e => holdB (w5 a b c d 0) e) (k + 1) by rw [cnF, if_neg (by simp only [holdB, w5]; simp [Int32.not_le.mpr f2])]; rfl]
        exact ih (k + 1) (by omega)
      refine v_aload_n hB dMo_within_71 rfl ?_
      refine v_iload hB dMo_within_72 rfl ?_
      refine v_iconst hB dMo_within_74 (v := 3) (by decide) ?_
      refine v_callV hC tbok kmMo_27 kiMo_part ksMo_part dMo_within_75 (F := FMo Y _) (by assumption) (by rw [hY.2]; rfl) (cMo_part (k := k) (q := 3) hY hW (by omega) (by decide) μ) rfl rfl ⟨Nat.le_of_ble_eq_true rfl, Nat.le_of_ble_eq_true rfl⟩ rfl rfl (Nat.le_of_ble_eq_true rfl) ⟨Nat.zero_le _, Nat.zero_le _⟩ (kE rfl ?_)
      refine v_iload hB dMo_within_78 rfl ?_
      refine v_icmp_gt hB 90 dMo_within_80 (by decide) (fun f3 => ?_) (fun f3 => ?_)
      · refine v_iload hB dMo_within_90 rfl ?_
        refine v_istore hB dMo_within_92 rfl (by decide) (lv' := [_, _, _, _, _, _, _]) rfl ?_
        refine v_iinc hB dMo_within_94 rfl (y := _) rfl rfl (by decide) (lv' := [_, _, _, _, _, _, _]) rfl ?_
        refine v_goto hB 29 dMo_within_97 (by decide) ?_
        rw [i1, show cnF μ (fun e => holdB (w5 a b c d 0) e) k = cnF μ (fun e => holdB (w5 a b c d 0) e) (k + 1) by rw [cnF, if_neg (by simp only [holdB, w5]; simp [Int32.not_le.mpr f3])]; rfl]
        exact ih (k + 1) (by omega)
      refine v_iload hB dMo_within_83 rfl ?_
      refine v_iconst hB dMo_within_85 (v := 1) (by decide) ?_
      refine v_iadd hB dMo_within_86 ?_
      refine v_goto hB 92 dMo_within_87 (by decide) ?_
      refine v_istore hB dMo_within_92 rfl (by decide) (lv' := [_, _, _, _, _, _, _]) rfl ?_
      refine v_iinc hB dMo_within_94 rfl (y := _) rfl rfl (by decide) (lv' := [_, _, _, _, _, _, _]) rfl ?_
      refine v_goto hB 29 dMo_within_97 (by decide) ?_
      rw [i1, nI_1, show cnF μ (fun e => holdB (w5 a b c d 0) e) k + 1 = cnF μ (fun e => holdB (w5 a b c d 0) e) (k + 1) by rw [cnF, if_pos (by simp only [holdB, w5]; simp [Int32.not_lt.mp f0, Int32.not_lt.mp f1, Int32.not_lt.mp f2, Int32.not_lt.mp f3])]]
      exact ih (k + 1) (by omega)
  refine v_iconst hB dMo_within_23 (v := 0) (by decide) ?_
  refine v_istore hB dMo_within_24 rfl (by decide) (lv' := [_, _, _, _, _, _, _]) rfl ?_
  refine v_iconst hB dMo_within_26 (v := 0) (by decide) ?_
  refine v_istore hB dMo_within_27 rfl (by decide) (lv' := [_, _, _, _, _, _, _]) rfl ?_
  exact loop m 0 (by omega)

set_option maxHeartbeats 4000000 in
set_option maxRecDepth 100000 in
theorem cMo_off {l : Launch} {Y : Yt} (hY : YB Y) (x lo hi : Int32) (μ : Mu) : Ct l Y yMo_off wMo_off ({ frames := 0, cells := 0, slots := 0, locals := 0 }) [.int x, .int lo, .int hi] μ (PE (some (.long (offB x lo hi))) μ) := by
  refine ct_of hY.1 (by decide) rfl (Nat.le_of_ble_eq_true rfl) (lv := [some (.int x), some (.int lo), some (.int hi)]) rfl (fun X hC => ?_)
  have hB := hC.B
  refine v_iload_n hB dMo_off_0 rfl ?_
  refine v_iload_n hB dMo_off_1 rfl ?_
  refine v_icmp_ge hB 13 dMo_off_2 (by decide) (fun c => ?_) (fun c => ?_)
  · refine v_iload_n hB dMo_off_13 rfl ?_
    refine v_iload_n hB dMo_off_14 rfl ?_
    refine v_icmp_le hB 26 dMo_off_15 (by decide) (fun e => ?_) (fun e => ?_)
    · refine v_lconst hB dMo_off_26 (v := 0) (by decide) ?_
      exact v_lret hC rfl dMo_off_27 ⟨by rw [offB, if_neg (Int32.not_lt.mpr c), if_neg (Int32.not_lt.mpr e)], rfl⟩
    refine v_iload_n hB dMo_off_18 rfl ?_
    refine v_i2l hB dMo_off_19 ?_
    refine v_iload_n hB dMo_off_20 rfl ?_
    refine v_i2l hB dMo_off_21 ?_
    refine v_lsub hB dMo_off_22 ?_
    refine v_goto hB 27 dMo_off_23 (by decide) ?_
    exact v_lret hC rfl dMo_off_27 ⟨by rw [offB, if_neg (Int32.not_lt.mpr c), if_pos (Int32.not_le.mp e)], rfl⟩
  refine v_iload_n hB dMo_off_5 rfl ?_
  refine v_i2l hB dMo_off_6 ?_
  refine v_iload_n hB dMo_off_7 rfl ?_
  refine v_i2l hB dMo_off_8 ?_
  refine v_lsub hB dMo_off_9 ?_
  refine v_goto hB 27 dMo_off_10 (by decide) ?_
  exact v_lret hC rfl dMo_off_27 ⟨by rw [offB, if_pos (Int32.not_le.mp c)], rfl⟩

set_option maxHeartbeats 4000000 in
set_option maxRecDepth 100000 in
theorem cMo_farFrom {l : Launch} {Y : Yt} (hY : YB Y) (hW : YM Y) {k : Nat} (hk : k ≤ 40) (x y : Int32) (μ : Mu) : Ct l Y yMo_farFrom wMo_farFrom ({ frames := 1, cells := 0, slots := 0, locals := 22 }) [.ref (ad Y 0), .int (nI k), .int x, .int y] μ (PE (some (.long (sqB (eB μ k) x y))) μ) := by
  refine ct_of hY.1 (by decide) rfl (Nat.le_of_ble_eq_true rfl) (lv := [some (.ref (ad Y 0)), some (.int (nI k)), some (.int x), some (.int y), none, none, none, none]) rfl (fun X hC => ?_)
  have hB := hC.B
  obtain ⟨hMo, hAr⟩ := id hW
  refine v_iload_n hB dMo_farFrom_0 rfl ?_
  refine v_aload_n hB dMo_farFrom_1 rfl ?_
  refine v_iload_n hB dMo_farFrom_2 rfl ?_
  refine v_iconst hB dMo_farFrom_3 (v := 0) (by decide) ?_
  refine v_callV hC tbok kmMo_27 kiMo_part ksMo_part dMo_farFrom_4 (F := FMo Y _) (by assumption) (by rw [hY.2]; rfl) (cMo_part (q := 0) hY hW hk (by decide) μ) rfl rfl ⟨Nat.le_of_ble_eq_true rfl, Nat.le_of_ble_eq_true rfl⟩ rfl rfl (Nat.le_of_ble_eq_true rfl) ⟨Nat.zero_le _, Nat.zero_le _⟩ (kE rfl ?_)
  refine v_aload_n hB dMo_farFrom_7 rfl ?_
  refine v_iload_n hB dMo_farFrom_8 rfl ?_
  refine v_iconst hB dMo_farFrom_9 (v := 2) (by decide) ?_
  refine v_callV hC tbok kmMo_27 kiMo_part ksMo_part dMo_farFrom_10 (F := FMo Y _) (by assumption) (by rw [hY.2]; rfl) (cMo_part (q := 2) hY hW hk (by decide) μ) rfl rfl ⟨Nat.le_of_ble_eq_true rfl, Nat.le_of_ble_eq_true rfl⟩ rfl rfl (Nat.le_of_ble_eq_true rfl) ⟨Nat.zero_le _, Nat.zero_le _⟩ (kE rfl ?_)
  refine v_callS hC tbok kmMo_72 ktMo_off dMo_farFrom_13 (cMo_off hY _ _ _ μ) rfl rfl ⟨Nat.le_of_ble_eq_true rfl, Nat.le_of_ble_eq_true rfl⟩ rfl rfl (Nat.le_of_ble_eq_true rfl) ⟨Nat.zero_le _, Nat.zero_le _⟩ (kE rfl ?_)
  refine v_lstore hB dMo_farFrom_16 rfl (by decide) (lv' := [_, _, _, _, _, _, _, _]) rfl ?_
  refine v_iload_n hB dMo_farFrom_18 rfl ?_
  refine v_aload_n hB dMo_farFrom_19 rfl ?_
  refine v_iload_n hB dMo_farFrom_20 rfl ?_
  refine v_iconst hB dMo_farFrom_21 (v := 1) (by decide) ?_
  refine v_callV hC tbok kmMo_27 kiMo_part ksMo_part dMo_farFrom_22 (F := FMo Y _) (by assumption) (by rw [hY.2]; rfl) (cMo_part (q := 1) hY hW hk (by decide) μ) rfl rfl ⟨Nat.le_of_ble_eq_true rfl, Nat.le_of_ble_eq_true rfl⟩ rfl rfl (Nat.le_of_ble_eq_true rfl) ⟨Nat.zero_le _, Nat.zero_le _⟩ (kE rfl ?_)
  refine v_aload_n hB dMo_farFrom_25 rfl ?_
  refine v_iload_n hB dMo_farFrom_26 rfl ?_
  refine v_iconst hB dMo_farFrom_27 (v := 3) (by decide) ?_
  refine v_callV hC tbok kmMo_27 kiMo_part ksMo_part dMo_farFrom_28 (F := FMo Y _) (by assumption) (by rw [hY.2]; rfl) (cMo_part (q := 3) hY hW hk (by decide) μ) rfl rfl ⟨Nat.le_of_ble_eq_true rfl, Nat.le_of_ble_eq_true rfl⟩ rfl rfl (Nat.le_of_ble_eq_true rfl) ⟨Nat.zero_le _, Nat.zero_le _⟩ (kE rfl ?_)
  refine v_callS hC tbok kmMo_72 ktMo_off dMo_farFrom_31 (cMo_off hY _ _ _ μ) rfl rfl ⟨Nat.le_of_ble_eq_true rfl, Nat.le_of_ble_eq_true rfl⟩ rfl rfl (Nat.le_of_ble_eq_true rfl) ⟨Nat.zero_le _, Nat.zero_le _⟩ (kE rfl ?_)
  refine v_lstore hB dMo_farFrom_34 rfl (by decide) (lv' := [_, _, _, _, _, _, _, _]) rfl ?_
  refine v_lload hB dMo_farFrom_36 rfl ?_
  refine v_lload hB dMo_farFrom_38 rfl ?_
  refine v_lmul hB dMo_farFrom_40 ?_
  refine v_lload hB dMo_farFrom_41 rfl ?_
  refine v_lload hB dMo_farFrom_43 rfl ?_
  refine v_lmul hB dMo_farFrom_45 ?_
  refine v_ladd hB dMo_farFrom_46 ?_
  exact v_lret hC rfl dMo_farFrom_47 ⟨rfl, rfl⟩

set_option maxHeartbeats 4000000 in
set_option maxRecDepth 100000 in
theorem cMo_nearestOne {l : Launch} {Y : Yt} (hY : YB Y) (hW : YM Y) {m : Nat} (x y : Int32) (μ : Mu) (hm : μ.1 0 2 = nI m) (hm40 : m ≤ 40) : Ct l Y yMo_nearestOne wMo_nearestOne ({ frames := 2, cells := 0, slots := 0, locals := 49 }) [.ref (ad Y 0), .int x, .int y] μ (PE (some (.int (nrN μ m x y))) μ) := by
  refine ct_of hY.1 (by decide) rfl (Nat.le_of_ble_eq_true rfl) (lv := [some (.ref (ad Y 0)), some (.int x), some (.int y), none, none]) rfl (fun X hC => ?_)
  have hB := hC.B
  obtain ⟨hMo, hAr⟩ := id hW
  have loop : isCo x = true → isCo y = true → ∀ (r k b : Nat), k + r = m → b < m → nrN μ m x y = nI (nrF μ x y r k b) → VG X (yA Y) 5 0 0 (VQ X Y (PE (some (.int (nrN μ m x y))) μ)) (yI Y (μ)) 5 [some (.ref (ad Y 0)), some (.int x), some (.int y), some (.int (nI b)), some (.int (nI k))] [] := by
    intro hx hy r
    induction r with
    | zero =>
      intro k b hk hb hf
      refine v_iload hB dMo_nearestOne_5 rfl ?_
      refine v_aload_n hB dMo_nearestOne_7 rfl ?_
      refine v_get hC (klMo hY.2) (F := FMo Y _) (by assumption) 2 dMo_nearestOne_8 kfMo_38 (by decide) rfl ?_
      rw [hm]
      refine v_icmp_ge hB 64 dMo_nearestOne_11 (by decide) (fun e => ?_) (fun e => ?_)
      · refine v_iload_n hB dMo_nearestOne_64 rfl ?_
        exact v_iret hC rfl dMo_nearestOne_65 ⟨by rw [hf]; rfl, rfl⟩
      exact absurd (nI_le (by omega) (by omega)) e
    | succ r ih =>
      intro k b hk hb hf
      refine v_iload hB dMo_nearestOne_5 rfl ?_
      refine v_aload_n hB dMo_nearestOne_7 rfl ?_
      refine v_get hC (klMo hY.2) (F := FMo Y _) (by assumption) 2 dMo_nearestOne_8 kfMo_38 (by decide) rfl ?_
      rw [hm]
      refine v_icmp_ge hB 64 dMo_nearestOne_11 (by decide) (fun e => ?_) (fun e => ?_)
      · exact absurd e (fun q => absurd ((nI_leI (by omega) (by omega)).mp q) (by omega))
      refine v_iload_n hB dMo_nearestOne_14 rfl ?_
      refine v_callS hC tbok kmMo_23 ktMo_far dMo_nearestOne_15 (cMo_far hY x μ) rfl rfl ⟨Nat.le_of_ble_eq_true rfl, Nat.le_of_ble_eq_true rfl⟩ rfl rfl (Nat.le_of_ble_eq_true rfl) ⟨Nat.zero_le _, Nat.zero_le _⟩ (kE rfl ?_)
      refine v_if_ne hB 64 dMo_nearestOne_18 (by decide) (fun e1 => ?_) (fun e1 => ?_)
      · exact absurd (bI_n.mp e1) (by rw [hx]; decide)
      refine v_iload_n hB dMo_nearestOne_21 rfl ?_
      refine v_callS hC tbok kmMo_23 ktMo_far dMo_nearestOne_22 (cMo_far hY y μ) rfl rfl ⟨Nat.le_of_ble_eq_true rfl, Nat.le_of_ble_eq_true rfl⟩ rfl rfl (Nat.le_of_ble_eq_true rfl) ⟨Nat.zero_le _, Nat.zero_le _⟩ (kE rfl ?_)
      refine v_if_ne hB 64 dMo_nearestOne_25 (by decide) (fun e2 => ?_) (fun e2 => ?_)
      · exact absurd (bI_n.mp e2) (by rw [hy]; decide)
      have key : ∀ g : Nat, g = (if sqB (eB μ k) x y < sqB (eB μ b) x y then k else b) → g < m → VG X (yA Y) 5 0 0 (VQ X Y (PE (some (.int (nrN μ m x y))) μ)) (yI Y (μ)) 57 [some (.ref (ad Y 0)), some (.int x), some (.int y), some (.int (nI b)), some (.int (nI k))] [.int (nI g)] := by
        intro g hg hgm
        refine v_istore_n hB dMo_nearestOne_57 rfl (by decide) (lv' := [_, _, _, _, _]) rfl ?_
        refine v_iinc hB dMo_nearestOne_58 rfl (y := _) rfl rfl (by decide) (lv' := [_, _, _, _, _]) rfl ?_
        refine v_goto hB 5 dMo_nearestOne_61 (by decide) ?_
        rw [i1]
        exact ih (k + 1) g (by omega) hgm (by rw [hf, nrF, hg])
      refine v_iload_n hB dMo_nearestOne_28 rfl ?_
      refine v_if_lt hB 51 dMo_nearestOne_29 (by decide) (fun e3 => ?_) (fun e3 => ?_)
      · exact absurd e3 (nI_pos (by omega))
      refine v_aload_n hB dMo_nearestOne_32 rfl ?_
      refine v_iload hB dMo_nearestOne_33 rfl ?_
      refine v_iload_n hB dMo_nearestOne_35 rfl ?_
      refine v_iload_n hB dMo_nearestOne_36 rfl ?_
      refine v_callV hC tbok kmMo_76 kiMo_farFrom ksMo_farFrom dMo_nearestOne_37 (F := FMo Y _) (by assumption) (by rw [hY.2]; rfl) (cMo_farFrom hY hW (k := k) (by omega) x y μ) rfl rfl ⟨Nat.le_of_ble_eq_true rfl, Nat.le_of_ble_eq_true rfl⟩ rfl rfl (Nat.le_of_ble_eq_true rfl) ⟨Nat.zero_le _, Nat.zero_le _⟩ (kE rfl ?_)
      refine v_aload_n hB dMo_nearestOne_40 rfl ?_
      refine v_iload_n hB dMo_nearestOne_41 rfl ?_
      refine v_iload_n hB dMo_nearestOne_42 rfl ?_
      refine v_iload_n hB dMo_nearestOne_43 rfl ?_
      refine v_callV hC tbok kmMo_76 kiMo_farFrom ksMo_farFrom dMo_nearestOne_44 (F := FMo Y _) (by assumption) (by rw [hY.2]; rfl) (cMo_farFrom hY hW (k := b) (by omega) x y μ) rfl rfl ⟨Nat.le_of_ble_eq_true rfl, Nat.le_of_ble_eq_true rfl⟩ rfl rfl (Nat.le_of_ble_eq_true rfl) ⟨Nat.zero_le _, Nat.zero_le _⟩ (kE rfl ?_)
      refine v_lcmp hB dMo_nearestOne_47 ?_
      refine v_if_ge hB 56 dMo_nearestOne_48 (by decide) (fun e4 => ?_) (fun e4 => ?_)
      · refine v_iload_n hB dMo_nearestOne_56 rfl ?_
        exact key b (by rw [if_neg (fun z => absurd (lc_lt.mpr z) (Int32.not_lt.mpr e4))]) hb
      refine v_iload hB dMo_nearestOne_51 rfl ?_
      refine v_goto hB 57 dMo_nearestOne_53 (by decide) ?_
      exact key k (by rw [if_pos (lc_lt.mp (Int32.not_le.mp e4))]) (by omega)
  refine v_iconst hB dMo_nearestOne_0 (v := -1) (by decide) ?_
  refine v_istore_n hB dMo_nearestOne_1 rfl (by decide) (lv' := [_, _, _, _, _]) rfl ?_
  refine v_iconst hB dMo_nearestOne_2 (v := 0) (by decide) ?_
  refine v_istore hB dMo_nearestOne_3 rfl (by decide) (lv' := [_, _, _, _, _]) rfl ?_
  refine v_iload hB dMo_nearestOne_5 rfl ?_
  refine v_aload_n hB dMo_nearestOne_7 rfl ?_
  refine v_get hC (klMo hY.2) (F := FMo Y _) (by assumption) 2 dMo_nearestOne_8 kfMo_38 (by decide) rfl ?_
  rw [hm]
  refine v_icmp_ge hB 64 dMo_nearestOne_11 (by decide) (fun e => ?_) (fun e => ?_)
  · have hm0 : m = 0 := by rw [show (0 : Int32) = nI 0 from rfl, nI_leI (by omega) (by omega)] at e; omega
    refine v_iload_n hB dMo_nearestOne_64 rfl ?_
    exact v_iret hC rfl dMo_nearestOne_65 ⟨by rw [nrN, if_neg (fun z => by have := z.2.2; omega)], rfl⟩
  have hm0 : 0 < m := by rw [show (0 : Int32) = nI 0 from rfl, nI_leI (by omega) (by omega)] at e; omega
  refine v_iload_n hB dMo_nearestOne_14 rfl ?_
  refine v_callS hC tbok kmMo_23 ktMo_far dMo_nearestOne_15 (cMo_far hY x μ) rfl rfl ⟨Nat.le_of_ble_eq_true rfl, Nat.le_of_ble_eq_true rfl⟩ rfl rfl (Nat.le_of_ble_eq_true rfl) ⟨Nat.zero_le _, Nat.zero_le _⟩ (kE rfl ?_)
  refine v_if_ne hB 64 dMo_nearestOne_18 (by decide) (fun e1 => ?_) (fun e1 => ?_)
  · refine v_iload_n hB dMo_nearestOne_64 rfl ?_
    exact v_iret hC rfl dMo_nearestOne_65 ⟨by rw [nrN, if_neg (fun z => by have := bI_n.mp e1; rw [z.1] at this; exact absurd this (by decide))], rfl⟩
  have hx : isCo x = true := by have := bI_0.mp e1; simpa using this
  refine v_iload_n hB dMo_nearestOne_21 rfl ?_
  refine v_callS hC tbok kmMo_23 ktMo_far dMo_nearestOne_22 (cMo_far hY y μ) rfl rfl ⟨Nat.le_of_ble_eq_true rfl, Nat.le_of_ble_eq_true rfl⟩ rfl rfl (Nat.le_of_ble_eq_true rfl) ⟨Nat.zero_le _, Nat.zero_le _⟩ (kE rfl ?_)
  refine v_if_ne hB 64 dMo_nearestOne_25 (by decide) (fun e2 => ?_) (fun e2 => ?_)
  · refine v_iload_n hB dMo_nearestOne_64 rfl ?_
    exact v_iret hC rfl dMo_nearestOne_65 ⟨by rw [nrN, if_neg (fun z => by have := bI_n.mp e2; rw [z.2.1] at this; exact absurd this (by decide))], rfl⟩
  have hy : isCo y = true := by have := bI_0.mp e2; simpa using this
  refine v_iload_n hB dMo_nearestOne_28 rfl ?_
  refine v_if_lt hB 51 dMo_nearestOne_29 (by decide) (fun e3 => ?_) (fun e3 => ?_)
  rotate_left
  · exact absurd (by decide) e3
  refine v_iload hB dMo_nearestOne_51 rfl ?_
  refine v_goto hB 57 dMo_nearestOne_53 (by decide) ?_
  refine v_istore_n hB dMo_nearestOne_57 rfl (by decide) (lv' := [_, _, _, _, _]) rfl ?_
  refine v_iinc hB dMo_nearestOne_58 rfl (y := _) rfl rfl (by decide) (lv' := [_, _, _, _, _]) rfl ?_
  refine v_goto hB 5 dMo_nearestOne_61 (by decide) ?_
  rw [show (0 : Int32) + Int32.ofInt 1 = nI 1 from rfl]
  exact loop hx hy (m - 1) 1 0 (by omega) hm0 (by rw [nrN, if_pos ⟨hx, hy, hm0⟩])

set_option maxHeartbeats 4000000 in
set_option maxRecDepth 100000 in
theorem cMo_distance {l : Launch} {Y : Yt} (hY : YB Y) (hW : YM Y) {m : Nat} (x y : Int32) (μ : Mu) (hm : μ.1 0 2 = nI m) (hm40 : m ≤ 40) : Ct l Y yMo_distance wMo_distance ({ frames := 3, cells := 0, slots := 0, locals := 73 }) [.ref (ad Y 0), .int x, .int y] μ (PE (some (.long (if μ.1 0 0 = 0 then -3 else if nrN μ m x y < 0 then -1 else sqB (eB μ (nrN μ m x y).toNatClampNeg) x y))) μ) := by
  refine ct_of hY.1 (by decide) rfl (Nat.le_of_ble_eq_true rfl) (lv := [some (.ref (ad Y 0)), some (.int x), some (.int y), none]) rfl (fun X hC => ?_)
  have hB := hC.B
  obtain ⟨hMo, hAr⟩ := id hW
  have hin : nrN μ m x y = -1 ∨ ∃ j, j < m ∧ nrN μ m x y = nI j := by
    rw [nrN]
    split
    · rename_i hz
      exact Or.inr ⟨_, nrF_lt μ x y m (m - 1) 1 0 (by have := hz.2.2; omega) hz.2.2, rfl⟩
    · exact Or.inl rfl
  refine v_aload_n hB dMo_distance_0 rfl ?_
  refine v_get hC (klMo hY.2) (F := FMo Y _) (by assumption) 0 dMo_distance_1 kfMo_7 (by decide) rfl ?_
  refine v_if_ne hB 11 dMo_distance_4 (by decide) (fun c0 => ?_) (fun c0 => ?_)
  rotate_left
  · refine v_ldc2 hC (v := -3) kfMo_79 dMo_distance_7 ?_
    exact v_lret hC rfl dMo_distance_10 ⟨by rw [if_pos c0], rfl⟩
  rw [if_neg c0]
  refine v_aload_n hB dMo_distance_11 rfl ?_
  refine v_iload_n hB dMo_distance_12 rfl ?_
  refine v_iload_n hB dMo_distance_13 rfl ?_
  refine v_callV hC tbok kmMo_81 kiMo_nearestOne ksMo_nearestOne dMo_distance_14 (F := FMo Y _) (by assumption) (by rw [hY.2]; rfl) (cMo_nearestOne hY hW x y μ hm hm40) rfl rfl ⟨Nat.le_of_ble_eq_true rfl, Nat.le_of_ble_eq_true rfl⟩ rfl rfl (Nat.le_of_ble_eq_true rfl) ⟨Nat.zero_le _, Nat.zero_le _⟩ (kE rfl ?_)
  refine v_istore_n hB dMo_distance_17 rfl (by decide) (lv' := [_, _, _, _]) rfl ?_
  refine v_iload_n hB dMo_distance_18 rfl ?_
  refine v_if_ge hB 28 dMo_distance_19 (by decide) (fun c1 => ?_) (fun c1 => ?_)
  · obtain ⟨j, hj, hfj⟩ := hin.resolve_left (fun z => by rw [z] at c1; exact absurd c1 (by decide))
    have hcl : (nI j).toNatClampNeg = j := nI_clamp (by omega)
    rw [if_neg (Int32.not_lt.mpr c1), hfj, hcl]
    refine v_aload_n hB dMo_distance_28 rfl ?_
    refine v_iload_n hB dMo_distance_29 rfl ?_
    refine v_iload_n hB dMo_distance_30 rfl ?_
    refine v_iload_n hB dMo_distance_31 rfl ?_
    refine v_callV hC tbok kmMo_76 kiMo_farFrom ksMo_farFrom dMo_distance_32 (F := FMo Y _) (by assumption) (by rw [hY.2]; rfl) (cMo_farFrom hY hW (k := j) (by omega) x y μ) rfl rfl ⟨Nat.le_of_ble_eq_true rfl, Nat.le_of_ble_eq_true rfl⟩ rfl rfl (Nat.le_of_ble_eq_true rfl) ⟨Nat.zero_le _, Nat.zero_le _⟩ (kE rfl ?_)
    exact v_lret hC rfl dMo_distance_35 ⟨rfl, rfl⟩
  rw [if_pos (Int32.not_le.mp c1)]
  refine v_ldc2 hC (v := -1) kfMo_84 dMo_distance_22 ?_
  refine v_goto hB 35 dMo_distance_25 (by decide) ?_
  exact v_lret hC rfl dMo_distance_35 ⟨rfl, rfl⟩

set_option maxHeartbeats 4000000 in
set_option maxRecDepth 100000 in
theorem cMo_nearest {l : Launch} {Y : Yt} (hY : YB Y) (hW : YM Y) {m : Nat} (x y : Int32) (μ : Mu) (hm : μ.1 0 2 = nI m) (hm40 : m ≤ 40) : Ct l Y yMo_nearest wMo_nearest ({ frames := 3, cells := 0, slots := 0, locals := 73 }) [.ref (ad Y 0), .int x, .int y] μ (PE (some (.int (if μ.1 0 0 = 0 then -3 else if nrN μ m x y < 0 then -1 else μ.1 1 (5 * (nrN μ m x y).toNatClampNeg)))) μ) := by
  refine ct_of hY.1 (by decide) rfl (Nat.le_of_ble_eq_true rfl) (lv := [some (.ref (ad Y 0)), some (.int x), some (.int y), none]) rfl (fun X hC => ?_)
  have hB := hC.B
  obtain ⟨hMo, hAr⟩ := id hW
  have hin : nrN μ m x y = -1 ∨ ∃ j, j < m ∧ nrN μ m x y = nI j := by
    rw [nrN]
    split
    · rename_i hz
      exact Or.inr ⟨_, nrF_lt μ x y m (m - 1) 1 0 (by have := hz.2.2; omega) hz.2.2, rfl⟩
    · exact Or.inl rfl
  refine v_aload_n hB dMo_nearest_0 rfl ?_
  refine v_get hC (klMo hY.2) (F := FMo Y _) (by assumption) 0 dMo_nearest_1 kfMo_7 (by decide) rfl ?_
  refine v_if_ne hB 10 dMo_nearest_4 (by decide) (fun c0 => ?_) (fun c0 => ?_)
  rotate_left
  · refine v_bipush hB dMo_nearest_7 (v := -3) (by decide) ?_
    exact v_iret hC rfl dMo_nearest_9 ⟨by rw [if_pos c0], rfl⟩
  rw [if_neg c0]
  refine v_aload_n hB dMo_nearest_10 rfl ?_
  refine v_iload_n hB dMo_nearest_11 rfl ?_
  refine v_iload_n hB dMo_nearest_12 rfl ?_
  refine v_callV hC tbok kmMo_81 kiMo_nearestOne ksMo_nearestOne dMo_nearest_13 (F := FMo Y _) (by assumption) (by rw [hY.2]; rfl) (cMo_nearestOne hY hW x y μ hm hm40) rfl rfl ⟨Nat.le_of_ble_eq_true rfl, Nat.le_of_ble_eq_true rfl⟩ rfl rfl (Nat.le_of_ble_eq_true rfl) ⟨Nat.zero_le _, Nat.zero_le _⟩ (kE rfl ?_)
  refine v_istore_n hB dMo_nearest_16 rfl (by decide) (lv' := [_, _, _, _]) rfl ?_
  refine v_iload_n hB dMo_nearest_17 rfl ?_
  refine v_if_ge hB 25 dMo_nearest_18 (by decide) (fun c1 => ?_) (fun c1 => ?_)
  · obtain ⟨j, hj, hfj⟩ := hin.resolve_left (fun z => by rw [z] at c1; exact absurd c1 (by decide))
    have hcl : (nI j).toNatClampNeg = j := nI_clamp (by omega)
    rw [if_neg (Int32.not_lt.mpr c1), hfj, hcl]
    refine v_aload_n hB dMo_nearest_25 rfl ?_
    refine v_get hC (klMo hY.2) (F := FMo Y _) (by assumption) 3 dMo_nearest_26 kfMo_17 (by decide) rfl ?_
    refine v_iconst hB dMo_nearest_29 (v := 5) (by decide) ?_
    refine v_iload_n hB dMo_nearest_30 rfl ?_
    refine v_imul hB dMo_nearest_31 ?_
    refine v_iald hC hAr (5 * j) dMo_nearest_32 (n5 j) (by omega) (by decide) ?_
    exact v_iret hC rfl dMo_nearest_33 ⟨rfl, rfl⟩
  rw [if_pos (Int32.not_le.mp c1)]
  refine v_iconst hB dMo_nearest_21 (v := -1) (by decide) ?_
  refine v_goto hB 33 dMo_nearest_22 (by decide) ?_
  exact v_iret hC rfl dMo_nearest_33 ⟨rfl, rfl⟩

def agN (μ : Mu) (m : Nat) (s : Int32) : Int32 := if μ.1 0 0 = 0 ∨ m = 0 ∨ s < 0 ∨ 3 < s then 2000000000 else agF μ s.toNatClampNeg (m - 1) 1 (eB μ 0 s.toNatClampNeg)
set_option maxHeartbeats 4000000 in
set_option maxRecDepth 100000 in
theorem cMo_around {l : Launch} {Y : Yt} (hY : YB Y) (hW : YM Y) {m : Nat} (s : Int32) (μ : Mu) (hm : μ.1 0 2 = nI m) (hm40 : m ≤ 40) : Ct l Y yMo_around wMo_around ({ frames := 1, cells := 0, slots := 0, locals := 22 }) [.ref (ad Y 0), .int s] μ (PE (some (.int (agN μ m s))) μ) := by
  refine ct_of hY.1 (by decide) rfl (Nat.le_of_ble_eq_true rfl) (lv := [some (.ref (ad Y 0)), some (.int s), none, none, none]) rfl (fun X hC => ?_)
  have hB := hC.B
  obtain ⟨hMo, hAr⟩ := id hW
  refine v_aload_n hB dMo_around_0 rfl ?_
  refine v_get hC (klMo hY.2) (F := FMo Y _) (by assumption) 0 dMo_around_1 kfMo_7 (by decide) rfl ?_
  refine v_if_eq hB 23 dMo_around_4 (by decide) (fun c0 => ?_) (fun c0 => ?_)
  · refine v_ldc hC (v := 2000000000) kfMo_86 dMo_around_23 ?_
    exact v_iret hC rfl dMo_around_25 ⟨by rw [agN, if_pos (Or.inl c0)], rfl⟩
  refine v_aload_n hB dMo_around_7 rfl ?_
  refine v_get hC (klMo hY.2) (F := FMo Y _) (by assumption) 2 dMo_around_8 kfMo_38 (by decide) rfl ?_
  rw [hm]
  refine v_if_eq hB 23 dMo_around_11 (by decide) (fun c1 => ?_) (fun c1 => ?_)
  · refine v_ldc hC (v := 2000000000) kfMo_86 dMo_around_23 ?_
    exact v_iret hC rfl dMo_around_25 ⟨by rw [agN, if_pos (Or.inr (Or.inl ((nI_eq (b := 0) (by omega) (by omega)).mp c1)))], rfl⟩
  have hm0 : m ≠ 0 := fun z => c1 (by rw [z]; rfl)
  refine v_iload_n hB dMo_around_14 rfl ?_
  refine v_if_lt hB 23 dMo_around_15 (by decide) (fun c2 => ?_) (fun c2 => ?_)
  · refine v_ldc hC (v := 2000000000) kfMo_86 dMo_around_23 ?_
    exact v_iret hC rfl dMo_around_25 ⟨by rw [agN, if_pos (Or.inr (Or.inr (Or.inl c2)))], rfl⟩
  refine v_iload_n hB dMo_around_18 rfl ?_
  refine v_iconst hB dMo_around_19 (v := 3) (by decide) ?_
  refine v_icmp_le hB 26 dMo_around_20 (by decide) (fun c3 => ?_) (fun c3 => ?_)
  rotate_left
  · refine v_ldc hC (v := 2000000000) kfMo_86 dMo_around_23 ?_
    exact v_iret hC rfl dMo_around_25 ⟨by rw [agN, if_pos (Or.inr (Or.inr (Or.inr (Int32.not_le.mp c3))))], rfl⟩
  have hs : agN μ m s = agF μ s.toNatClampNeg (m - 1) 1 (eB μ 0 s.toNatClampNeg) := by rw [agN, if_neg (fun z => z.elim c0 (fun z => z.elim hm0 (fun z => z.elim c2 (Int32.not_lt.mpr c3))))]
  obtain ⟨j, hj, hsj⟩ := nI_of2 (M := 3) (n := 3) (by decide) c2 c3
  subst hsj
  rw [nI_clamp (by omega)] at hs
  rw [hs]
  have loop : ∀ (r k : Nat) (v : Int32), k + r = m → agF μ j r k v = agF μ j (m - 1) 1 (eB μ 0 j) → VG X (yA Y) 5 0 0 (VQ X Y (PE (some (.int (agF μ j (m - 1) 1 (eB μ 0 j)))) μ)) (yI Y (μ)) 35 [some (.ref (ad Y 0)), some (.int (nI j)), some (.int v), some (.int (nI k)), none] [] := by
    intro r
    induction r with
    | zero =>
      intro k v hk hf
      refine v_iload_n hB dMo_around_35 rfl ?_
      refine v_aload_n hB dMo_around_36 rfl ?_
      refine v_get hC (klMo hY.2) (F := FMo Y _) (by assumption) 2 dMo_around_37 kfMo_38 (by decide) rfl ?_
      rw [hm]
      refine v_icmp_ge hB 90 dMo_around_40 (by decide) (fun e => ?_) (fun e => ?_)
      · refine v_iload_n hB dMo_around_90 rfl ?_
        exact v_iret hC rfl dMo_around_91 ⟨by rw [← hf]; rfl, rfl⟩
      exact absurd (nI_le (by omega) (by omega)) e
    | succ r ih =>
      intro k v hk hf
      refine v_iload_n hB dMo_around_35 rfl ?_
      refine v_aload_n hB dMo_around_36 rfl ?_
      refine v_get hC (klMo hY.2) (F := FMo Y _) (by assumption) 2 dMo_around_37 kfMo_38 (by decide) rfl ?_
      rw [hm]
      refine v_icmp_ge hB 90 dMo_around_40 (by decide) (fun e => ?_) (fun e => ?_)
      · exact absurd e (fun q => absurd ((nI_leI (by omega) (by omega)).mp q) (by omega))
      have key : ∀ g : Int32, g = (if j < 2 then (if eB μ k j < v then eB μ k j else v) else (if v < eB μ k j then eB μ k j else v)) → VG X (yA Y) 5 0 0 (VQ X Y (PE (some (.int (agF μ j (m - 1) 1 (eB μ 0 j)))) μ)) (yI Y (μ)) 83 [some (.ref (ad Y 0)), some (.int (nI j)), some (.int v), some (.int (nI k)), some (.int (eB μ k j))] [.int g] := by
        intro g hg
        refine v_istore_n hB dMo_around_83 rfl (by decide) (lv' := [_, _, _, _, _]) rfl ?_
        refine v_iinc hB dMo_around_84 rfl (y := _) rfl rfl (by decide) (lv' := [_, _, _, _, _]) rfl ?_
        refine v_goto hB 35 dMo_around_87 (by decide) ?_
        refine v_drop 4 (lv' := [_, _, _, _, _]) rfl ?_
        rw [i1]
        exact ih (k + 1) g (by omega) (by rw [← hf, agF, hg])
      refine v_aload_n hB dMo_around_43 rfl ?_
      refine v_iload_n hB dMo_around_44 rfl ?_
      refine v_iload_n hB dMo_around_45 rfl ?_
      refine v_callV hC tbok kmMo_27 kiMo_part ksMo_part dMo_around_46 (F := FMo Y _) (by assumption) (by rw [hY.2]; rfl) (cMo_part hY hW (k := k) (q := j) (by omega) (by omega) μ) rfl rfl ⟨Nat.le_of_ble_eq_true rfl, Nat.le_of_ble_eq_true rfl⟩ rfl rfl (Nat.le_of_ble_eq_true rfl) ⟨Nat.zero_le _, Nat.zero_le _⟩ (kE rfl ?_)
      refine v_istore hB dMo_around_49 rfl (by decide) (lv' := [_, _, _, _, _]) rfl ?_
      refine v_iload_n hB dMo_around_51 rfl ?_
      refine v_iconst hB dMo_around_52 (v := 2) (by decide) ?_
      refine v_icmp_ge hB 71 dMo_around_53 (by decide) (fun d => ?_) (fun d => ?_)
      · have hj2 : ¬ j < 2 := by rw [show (2 : Int32) = nI 2 from rfl, nI_leI (by omega) (by omega)] at d; omega
        refine v_iload hB dMo_around_71 rfl ?_
        refine v_iload_n hB dMo_around_73 rfl ?_
        refine v_icmp_le hB 82 dMo_around_74 (by decide) (fun d1 => ?_) (fun d1 => ?_)
        · refine v_iload_n hB dMo_around_82 rfl ?_
          exact key v (by rw [if_neg hj2, if_neg (Int32.not_lt.mpr d1)])
        refine v_iload hB dMo_around_77 rfl ?_
        refine v_goto hB 83 dMo_around_79 (by decide) ?_
        exact key _ (by rw [if_neg hj2, if_pos (Int32.not_le.mp d1)])
      have hj2 : j < 2 := by rw [show (2 : Int32) = nI 2 from rfl, nI_leI (by omega) (by omega)] at d; omega
      refine v_iload hB dMo_around_56 rfl ?_
      refine v_iload_n hB dMo_around_58 rfl ?_
      refine v_icmp_ge hB 67 dMo_around_59 (by decide) (fun d1 => ?_) (fun d1 => ?_)
      · refine v_iload_n hB dMo_around_67 rfl ?_
        refine v_goto hB 83 dMo_around_68 (by decide) ?_
        exact key v (by rw [if_pos hj2, if_neg (Int32.not_lt.mpr d1)])
      refine v_iload hB dMo_around_62 rfl ?_
      refine v_goto hB 83 dMo_around_64 (by decide) ?_
      exact key _ (by rw [if_pos hj2, if_pos (Int32.not_le.mp d1)])
  refine v_aload_n hB dMo_around_26 rfl ?_
  refine v_iconst hB dMo_around_27 (v := 0) (by decide) ?_
  refine v_iload_n hB dMo_around_28 rfl ?_
  refine v_callV hC tbok kmMo_27 kiMo_part ksMo_part dMo_around_29 (F := FMo Y _) (by assumption) (by rw [hY.2]; rfl) (cMo_part (k := 0) (q := j) hY hW (by decide) (by omega) μ) rfl rfl ⟨Nat.le_of_ble_eq_true rfl, Nat.le_of_ble_eq_true rfl⟩ rfl rfl (Nat.le_of_ble_eq_true rfl) ⟨Nat.zero_le _, Nat.zero_le _⟩ (kE rfl ?_)
  refine v_istore_n hB dMo_around_32 rfl (by decide) (lv' := [_, _, _, _, _]) rfl ?_
  refine v_iconst hB dMo_around_33 (v := 1) (by decide) ?_
  refine v_istore_n hB dMo_around_34 rfl (by decide) (lv' := [_, _, _, _, _]) rfl ?_
  exact loop (m - 1) 1 _ (by omega) rfl

