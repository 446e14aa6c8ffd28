/-! THE REFERENCE. Its entry k as a box: x1, y1, x2, y2, name. -/
def YM (Y : Yt) : Prop := isMo Y 0 ∧ AI Y 1 205
def eB (μ : Mu) (k : Nat) : Nat → Int32 := fun q => if q < 4 then μ.1 1 (5 * k + 1 + q) else μ.1 1 (5 * k)
def w5 (a b c d n : Int32) : Nat → Int32 := fun q => match q with
  | 0 => a
  | 1 => b
  | 2 => c
  | 3 => d
  | _ => n
theorem n5 (k : Nat) : 5 * nI k = nI (5 * k) := pk_mul 5 k
def mEn (μ : Mu) (a : Int32) : Int32 × Mu := if μ.1 0 1 < 0 then (a, μ) else (-4, wi (wi μ 0 1 (-1)) 0 0 0)
def mCt (μ : Mu) : Bool := decide (μ.1 0 1 < 0) || decide (3 ≤ μ.1 0 1)
def sw1 (μ : Mu) (i p : Nat) : Mu := wi (wi μ 1 (5 * (i + 1) + p) (μ.1 1 (5 * i + p))) 1 (5 * i + p) (μ.1 1 (5 * (i + 1) + p))
def swL (i : Nat) : Nat → Nat → Mu → Mu
  | 0, _, μ => μ
  | r + 1, p, μ => swL i r (p + 1) (sw1 μ i p)
def isL : Nat → Mu → Mu
  | 0, μ => μ
  | i + 1, μ => if precB (eB μ (i + 1)) (eB μ i) = true then isL i (swL i 5 0 μ) else μ
theorem sw1_0 (μ : Mu) (i p : Nat) : (sw1 μ i p).1 0 = μ.1 0 := by
  unfold sw1
  rw [wi_ne _ _ _ (show (0 : Nat) ≠ 1 by decide), wi_ne _ _ _ (show (0 : Nat) ≠ 1 by decide)]
theorem swL_0 (i : Nat) : ∀ (r p : Nat) (μ : Mu), (swL i r p μ).1 0 = μ.1 0
  | 0, _, _ => rfl
  | r + 1, p, μ => by rw [swL, swL_0 i r (p + 1), sw1_0]
theorem isL_0 : ∀ (i : Nat) (μ : Mu), (isL i μ).1 0 = μ.1 0
  | 0, _ => rfl
  | i + 1, μ => by
    rw [isL]
    split
    · rw [isL_0 i, swL_0]
    · rfl
def pt5 (μ : Mu) (m : Nat) (n a b c d : Int32) : Mu := wi (wi (wi (wi (wi μ 1 (5 * m + 0) n) 1 (5 * m + 1) a) 1 (5 * m + 2) b) 1 (5 * m + 3) c) 1 (5 * m + 4) d
def mIn (μ : Mu) (m : Nat) (n a b c d : Int32) : Mu := isL m (wi (pt5 μ m n a b c d) 0 2 (nI (m + 1)))
def rmL : Nat → Nat → Mu → Mu
  | 0, _, μ => μ
  | r + 1, i, μ => rmL r (i + 1) (wi μ 1 i (μ.1 1 (i + 5)))
def mRm (μ : Mu) (m k : Nat) : Mu := rmL (5 * (m - 1) - 5 * k) (5 * k) (wi μ 0 2 (nI (m - 1)))
def rIn (μ : Mu) (m : Nat) (n a b c d : Int32) : Int32 × Mu := if μ.1 0 0 = 0 then (-3, μ) else if isNm n = true ∧ isRc a b c d = true then (if m = 40 then (-2, μ) else if mCt μ = true then mEn (mIn μ m n a b c d) (nI (m + 1)) else mEn μ (nI m)) else (-1, μ)
def dlF (μ : Mu) (n a b c d : Int32) : Nat → Nat → Int32 → Int32
  | 0, _, f => f
  | r + 1, k, f => dlF μ n a b c d r (k + 1) (if sameB (eB μ k) (w5 a b c d n) = true then nI k else f)
def mtF (μ : Mu) (a b c d : Int32) : Nat → Nat → Int32 → Int32
  | 0, _, _ => -1
  | r + 1, k, f => if meetB (eB μ k) (w5 a b c d 0) = true then (if f = 0 then nI k else mtF μ a b c d r (k + 1) (f - 1)) else mtF μ a b c d r (k + 1) f
def mtN (μ : Mu) (m : Nat) (a b c d n : Int32) : Int32 := if n < 0 then -1 else mtF μ a b c d m 0 n
/-- what is done with the entry at f, or with none -/
def rTo (μ : Mu) (m : Nat) (f : Int32) (ans : Nat → Mu → Int32) : Int32 × Mu := if f < 0 then (-1, μ) else if mCt μ = true then mEn (mRm μ m f.toNatClampNeg) (ans f.toNatClampNeg (mRm μ m f.toNatClampNeg)) else mEn μ (ans f.toNatClampNeg μ)
def cnF (μ : Mu) (p : (Nat → Int32) → Bool) : Nat → Nat
  | 0 => 0
  | k + 1 => cnF μ p k + (if p (eB μ k) = true then 1 else 0)
theorem cnF_le (μ : Mu) (p : (Nat → Int32) → Bool) : ∀ k, cnF μ p k ≤ k
  | 0 => Nat.le_refl 0
  | k + 1 => by
    have := cnF_le μ p k
    rw [cnF]
    split <;> omega
def nrF (μ : Mu) (x y : Int32) : Nat → Nat → Nat → Nat
  | 0, _, b => b
  | r + 1, k, b => nrF μ x y r (k + 1) (if sqB (eB μ k) x y < sqB (eB μ b) x y then k else b)
theorem nrF_lt (μ : Mu) (x y : Int32) (m : Nat) : ∀ (r k b : Nat), k + r = m → b < m → nrF μ x y r k b < m
  | 0, _, _, _, hb => hb
  | r + 1, k, b, hk, hb => by
    rw [nrF]
    refine nrF_lt μ x y m r (k + 1) _ (by omega) ?_
    split <;> omega
def nrN (μ : Mu) (m : Nat) (x y : Int32) : Int32 := if isCo x = true ∧ isCo y = true ∧ 0 < m then nI (nrF μ x y (m - 1) 1 0) else -1
def agF (μ : Mu) (s : Nat) : Nat → Nat → Int32 → Int32
  | 0, _, v => v
  | r + 1, k, v => agF μ s r (k + 1) (if s < 2 then (if eB μ k s < v then eB μ k s else v) else (if v < eB μ k s then eB μ k s else v))
theorem ne_lt {x : Int32} (h : ¬ x < 0) : 0 ≤ x := Int32.not_lt.mp h
set_option maxHeartbeats 4000000 in
set_option maxRecDepth 100000 in
theorem cMo_far {l : Launch} {Y : Yt} (hY : YB Y) (n : Int32) (μ : Mu) : Ct l Y yMo_far wMo_far ({ frames := 0, cells := 0, slots := 0, locals := 0 }) [.int n] μ (PE (some (.int (bI (!isCo n)))) μ) := by
  refine ct_of hY.1 (by decide) rfl (Nat.le_of_ble_eq_true rfl) (lv := [some (.int n)]) rfl (fun X hC => ?_)
  have hB := hC.B
  refine v_iload_n hB dMo_far_0 rfl ?_
  refine v_ldc hC (v := -1000000000) kfMo_21 dMo_far_1 ?_
  refine v_icmp_lt hB 12 dMo_far_3 (by decide) (fun c => ?_) (fun c => ?_)
  · refine v_iconst hB dMo_far_12 (v := 1) (by decide) ?_
    refine v_goto hB 17 dMo_far_13 (by decide) ?_
    exact v_zret hC rfl (by decide) dMo_far_17 ⟨congrArg (fun x => some (Value.int x)) (bI_t (by simp only [isCo]; simp [c])), rfl⟩
  refine v_iload_n hB dMo_far_6 rfl ?_
  refine v_ldc hC (v := 1000000000) kfMo_22 dMo_far_7 ?_
  refine v_icmp_le hB 16 dMo_far_9 (by decide) (fun c1 => ?_) (fun c1 => ?_)
  · refine v_iconst hB dMo_far_16 (v := 0) (by decide) ?_
    exact v_zret hC rfl (by decide) dMo_far_17 ⟨congrArg (fun x => some (Value.int x)) (bI_ff (by simp only [isCo]; simp [Int32.not_lt.mp c, c1])), rfl⟩
  refine v_iconst hB dMo_far_12 (v := 1) (by decide) ?_
  refine v_goto hB 17 dMo_far_13 (by decide) ?_
  exact v_zret hC rfl (by decide) dMo_far_17 ⟨congrArg (fun x => some (Value.int x)) (bI_t (by simp only [isCo]; simp [Int32.not_le.mp c1])), rfl⟩

set_option maxHeartbeats 4000000 in
set_option maxRecDepth 100000 in
theorem cMo_badName {l : Launch} {Y : Yt} (hY : YB Y) (n : Int32) (μ : Mu) : Ct l Y yMo_badName wMo_badName ({ frames := 0, cells := 0, slots := 0, locals := 0 }) [.int n] μ (PE (some (.int (bI (!isNm n)))) μ) := by
  refine ct_of hY.1 (by decide) rfl (Nat.le_of_ble_eq_true rfl) (lv := [some (.int n)]) rfl (fun X hC => ?_)
  have hB := hC.B
  refine v_iload_n hB dMo_badName_0 rfl ?_
  refine v_if_lt hB 11 dMo_badName_1 (by decide) (fun c => ?_) (fun c => ?_)
  · refine v_iconst hB dMo_badName_11 (v := 1) (by decide) ?_
    refine v_goto hB 16 dMo_badName_12 (by decide) ?_
    exact v_zret hC rfl (by decide) dMo_badName_16 ⟨congrArg (fun x => some (Value.int x)) (bI_t (by simp only [isNm]; simp [c])), rfl⟩
  refine v_iload_n hB dMo_badName_4 rfl ?_
  refine v_sipush hB dMo_badName_5 (v := 999) (by decide) ?_
  refine v_icmp_le hB 15 dMo_badName_8 (by decide) (fun c1 => ?_) (fun c1 => ?_)
  · refine v_iconst hB dMo_badName_15 (v := 0) (by decide) ?_
    exact v_zret hC rfl (by decide) dMo_badName_16 ⟨congrArg (fun x => some (Value.int x)) (bI_ff (by simp only [isNm]; simp [Int32.not_lt.mp c, c1])), rfl⟩
  refine v_iconst hB dMo_badName_11 (v := 1) (by decide) ?_
  refine v_goto hB 16 dMo_badName_12 (by decide) ?_
  exact v_zret hC rfl (by decide) dMo_badName_16 ⟨congrArg (fun x => some (Value.int x)) (bI_t (by simp only [isNm]; simp [Int32.not_le.mp c1])), rfl⟩

set_option maxHeartbeats 4000000 in
set_option maxRecDepth 100000 in
theorem cMo_bad {l : Launch} {Y : Yt} (hY : YB Y) (a b c d : Int32) (μ : Mu) : Ct l Y yMo_bad wMo_bad ({ frames := 1, cells := 0, slots := 0, locals := 20 }) [.int a, .int b, .int c, .int d] μ (PE (some (.int (bI (!isRc a b c d)))) μ) := by
  refine ct_of hY.1 (by decide) rfl (Nat.le_of_ble_eq_true rfl) (lv := [some (.int a), some (.int b), some (.int c), some (.int d)]) rfl (fun X hC => ?_)
  have hB := hC.B
  refine v_iload_n hB dMo_bad_0 rfl ?_
  refine v_callS hC tbok kmMo_23 ktMo_far dMo_bad_1 (cMo_far hY a μ) rfl rfl ⟨Nat.le_of_ble_eq_true rfl, Nat.le_of_ble_eq_true rfl⟩ rfl rfl (Nat.le_of_ble_eq_true rfl) ⟨Nat.zero_le _, Nat.zero_le _⟩ (kE rfl ?_)
  refine v_if_ne hB 38 dMo_bad_4 (by decide) (fun e0 => ?_) (fun e0 => ?_)
  · have f : isCo a = false := by have := bI_n.mp e0; simpa using this
    refine v_iconst hB dMo_bad_38 (v := 1) (by decide) ?_
    refine v_goto hB 43 dMo_bad_39 (by decide) ?_
    exact v_zret hC rfl (by decide) dMo_bad_43 ⟨congrArg (fun x => some (Value.int x)) (bI_t (by simp only [isRc]; simp [f])), rfl⟩
  have f0 : isCo a = true := by have := bI_0.mp e0; simpa using this
  refine v_iload_n hB dMo_bad_7 rfl ?_
  refine v_callS hC tbok kmMo_23 ktMo_far dMo_bad_8 (cMo_far hY b μ) rfl rfl ⟨Nat.le_of_ble_eq_true rfl, Nat.le_of_ble_eq_true rfl⟩ rfl rfl (Nat.le_of_ble_eq_true rfl) ⟨Nat.zero_le _, Nat.zero_le _⟩ (kE rfl ?_)
  refine v_if_ne hB 38 dMo_bad_11 (by decide) (fun e1 => ?_) (fun e1 => ?_)
  · have f : isCo b = false := by have := bI_n.mp e1; simpa using this
    refine v_iconst hB dMo_bad_38 (v := 1) (by decide) ?_
    refine v_goto hB 43 dMo_bad_39 (by decide) ?_
    exact v_zret hC rfl (by decide) dMo_bad_43 ⟨congrArg (fun x => some (Value.int x)) (bI_t (by simp only [isRc]; simp [f])), rfl⟩
  have f1 : isCo b = true := by have := bI_0.mp e1; simpa using this
  refine v_iload_n hB dMo_bad_14 rfl ?_
  refine v_callS hC tbok kmMo_23 ktMo_far dMo_bad_15 (cMo_far hY c μ) rfl rfl ⟨Nat.le_of_ble_eq_true rfl, Nat.le_of_ble_eq_true rfl⟩ rfl rfl (Nat.le_of_ble_eq_true rfl) ⟨Nat.zero_le _, Nat.zero_le _⟩ (kE rfl ?_)
  refine v_if_ne hB 38 dMo_bad_18 (by decide) (fun e2 => ?_) (fun e2 => ?_)
  · have f : isCo c = false := by have := bI_n.mp e2; simpa using this
    refine v_iconst hB dMo_bad_38 (v := 1) (by decide) ?_
    refine v_goto hB 43 dMo_bad_39 (by decide) ?_
    exact v_zret hC rfl (by decide) dMo_bad_43 ⟨congrArg (fun x => some (Value.int x)) (bI_t (by simp only [isRc]; simp [f])), rfl⟩
  have f2 : isCo c = true := by have := bI_0.mp e2; simpa using this
  refine v_iload_n hB dMo_bad_21 rfl ?_
  refine v_callS hC tbok kmMo_23 ktMo_far dMo_bad_22 (cMo_far hY d μ) rfl rfl ⟨Nat.le_of_ble_eq_true rfl, Nat.le_of_ble_eq_true rfl⟩ rfl rfl (Nat.le_of_ble_eq_true rfl) ⟨Nat.zero_le _, Nat.zero_le _⟩ (kE rfl ?_)
  refine v_if_ne hB 38 dMo_bad_25 (by decide) (fun e3 => ?_) (fun e3 => ?_)
  · have f : isCo d = false := by have := bI_n.mp e3; simpa using this
    refine v_iconst hB dMo_bad_38 (v := 1) (by decide) ?_
    refine v_goto hB 43 dMo_bad_39 (by decide) ?_
    exact v_zret hC rfl (by decide) dMo_bad_43 ⟨congrArg (fun x => some (Value.int x)) (bI_t (by simp only [isRc]; simp [f])), rfl⟩
  have f3 : isCo d = true := by have := bI_0.mp e3; simpa using this
  refine v_iload_n hB dMo_bad_28 rfl ?_
  refine v_iload_n hB dMo_bad_29 rfl ?_
  refine v_icmp_gt hB 38 dMo_bad_30 (by decide) (fun e4 => ?_) (fun e4 => ?_)
  · refine v_iconst hB dMo_bad_38 (v := 1) (by decide) ?_
    refine v_goto hB 43 dMo_bad_39 (by decide) ?_
    exact v_zret hC rfl (by decide) dMo_bad_43 ⟨congrArg (fun x => some (Value.int x)) (bI_t (by simp only [isRc]; simp [Int32.not_le.mpr e4])), rfl⟩
  refine v_iload_n hB dMo_bad_33 rfl ?_
  refine v_iload_n hB dMo_bad_34 rfl ?_
  refine v_icmp_le hB 42 dMo_bad_35 (by decide) (fun e5 => ?_) (fun e5 => ?_)
  · refine v_iconst hB dMo_bad_42 (v := 0) (by decide) ?_
    exact v_zret hC rfl (by decide) dMo_bad_43 ⟨congrArg (fun x => some (Value.int x)) (bI_ff (by simp only [isRc]; simp [f0, f1, f2, f3, Int32.not_lt.mp e4, e5])), rfl⟩
  refine v_iconst hB dMo_bad_38 (v := 1) (by decide) ?_
  refine v_goto hB 43 dMo_bad_39 (by decide) ?_
  exact v_zret hC rfl (by decide) dMo_bad_43 ⟨congrArg (fun x => some (Value.int x)) (bI_t (by simp only [isRc]; simp [e5])), rfl⟩

set_option maxHeartbeats 4000000 in
set_option maxRecDepth 100000 in
theorem cMo_part {l : Launch} {Y : Yt} (hY : YB Y) (hW : YM Y) {k q : Nat} (hk : k ≤ 40) (hq : q < 5) (μ : Mu) : Ct l Y yMo_part wMo_part ({ frames := 0, cells := 0, slots := 0, locals := 0 }) [.ref (ad Y 0), .int (nI k), .int (nI q)] μ (PE (some (.int (eB μ k q))) μ) := by
  refine ct_of hY.1 (by decide) rfl (Nat.le_of_ble_eq_true rfl) (lv := [some (.ref (ad Y 0)), some (.int (nI k)), some (.int (nI q))]) rfl (fun X hC => ?_)
  have hB := hC.B
  obtain ⟨hMo, hAr⟩ := id hW
  refine v_iload_n hB dMo_part_0 rfl ?_
  refine v_iconst hB dMo_part_1 (v := 4) (by decide) ?_
  refine v_icmp_ge hB 20 dMo_part_2 (by decide) (fun c => ?_) (fun c => ?_)
  · have hq4 : ¬ q < 4 := by
      rw [show (4 : Int32) = nI 4 from rfl, nI_leI (by omega) (by omega)] at c
      omega
    refine v_aload_n hB dMo_part_20 rfl ?_
    refine v_get hC (klMo hY.2) (F := FMo Y _) (by assumption) 3 dMo_part_21 kfMo_17 (by decide) rfl ?_
    refine v_iconst hB dMo_part_24 (v := 5) (by decide) ?_
    refine v_iload_n hB dMo_part_25 rfl ?_
    refine v_imul hB dMo_part_26 ?_
    refine v_iald hC hAr (5 * k) dMo_part_27 (n5 k) (by omega) (by decide) ?_
    exact v_iret hC rfl dMo_part_28 ⟨by rw [eB, if_neg hq4], rfl⟩
  have hq4 : q < 4 := by
    rw [show (4 : Int32) = nI 4 from rfl, nI_leI (by omega) (by omega)] at c
    omega
  refine v_aload_n hB dMo_part_5 rfl ?_
  refine v_get hC (klMo hY.2) (F := FMo Y _) (by assumption) 3 dMo_part_6 kfMo_17 (by decide) rfl ?_
  refine v_iconst hB dMo_part_9 (v := 5) (by decide) ?_
  refine v_iload_n hB dMo_part_10 rfl ?_
  refine v_imul hB dMo_part_11 ?_
  refine v_iconst hB dMo_part_12 (v := 1) (by decide) ?_
  refine v_iadd hB dMo_part_13 ?_
  refine v_iload_n hB dMo_part_14 rfl ?_
  refine v_iadd hB dMo_part_15 ?_
  refine v_iald hC hAr (5 * k + 1 + q) dMo_part_16 (by rw [n5, nI_1, nI_add]) (by omega) (by decide) ?_
  refine v_goto hB 28 dMo_part_17 (by decide) ?_
  exact v_iret hC rfl dMo_part_28 ⟨by rw [eB, if_pos hq4], rfl⟩

set_option maxHeartbeats 4000000 in
set_option maxRecDepth 100000 in
theorem cMo_before {l : Launch} {Y : Yt} (hY : YB Y) (hW : YM Y) {k j : Nat} (hk : k ≤ 40) (hj : j ≤ 40) (μ : Mu) : Ct l Y yMo_before wMo_before ({ frames := 1, cells := 0, slots := 0, locals := 22 }) [.ref (ad Y 0), .int (nI k), .int (nI j)] μ (PE (some (.int (bI (precB (eB μ k) (eB μ j))))) μ) := by
  refine ct_of hY.1 (by decide) rfl (Nat.le_of_ble_eq_true rfl) (lv := [some (.ref (ad Y 0)), some (.int (nI k)), some (.int (nI j)), none]) rfl (fun X hC => ?_)
  have hB := hC.B
  obtain ⟨hMo, hAr⟩ := id hW
  have step : ∀ p : Nat, p < 5 → (eB μ k p = eB μ j p → VG X (yA Y) 4 0 0 (VQ X Y (PE (some (.int (bI (precB (eB μ k) (eB μ j))))) μ)) (yI Y (μ)) 2 [some (.ref (ad Y 0)), some (.int (nI k)), some (.int (nI j)), some (.int (nI (p + 1)))] []) → (¬ eB μ k p = eB μ j p → decide (eB μ k p < eB μ j p) = precB (eB μ k) (eB μ j)) → VG X (yA Y) 4 0 0 (VQ X Y (PE (some (.int (bI (precB (eB μ k) (eB μ j))))) μ)) (yI Y (μ)) 2 [some (.ref (ad Y 0)), some (.int (nI k)), some (.int (nI j)), some (.int (nI p))] [] := by
    intro p hp he hn
    refine v_iload_n hB dMo_before_2 rfl ?_
    refine v_iconst hB dMo_before_3 (v := 5) (by decide) ?_
    refine v_icmp_ge hB 49 dMo_before_4 (by decide) (fun c => ?_) (fun c => ?_)
    · exact absurd c (by rw [show (5 : Int32) = nI 5 from rfl]; exact (fun q => absurd ((nI_leI (by omega) (by omega)).mp q) (by omega)))
    refine v_aload_n hB dMo_before_7 rfl ?_
    refine v_iload_n hB dMo_before_8 rfl ?_
    refine v_iload_n hB dMo_before_9 rfl ?_
    refine v_callV hC tbok kmMo_27 kiMo_part ksMo_part dMo_before_10 (F := FMo Y _) (by assumption) (by rw [hY.2]; rfl) (cMo_part hY hW hk hp μ) rfl rfl ⟨Nat.le_of_ble_eq_true rfl, Nat.le_of_ble_eq_true rfl⟩ rfl rfl (Nat.le_of_ble_eq_true rfl) ⟨Nat.zero_le _, Nat.zero_le _⟩ (kE rfl ?_)
    refine v_aload_n hB dMo_before_13 rfl ?_
    refine v_iload_n hB dMo_before_14 rfl ?_
    refine v_iload_n hB dMo_before_15 rfl ?_
    refine v_callV hC tbok kmMo_27 kiMo_part ksMo_part dMo_before_16 (F := FMo Y _) (by assumption) (by rw [hY.2]; rfl) (cMo_part hY hW hj hp μ) rfl rfl ⟨Nat.le_of_ble_eq_true rfl, Nat.le_of_ble_eq_true rfl⟩ rfl rfl (Nat.le_of_ble_eq_true rfl) ⟨Nat.zero_le _, Nat.zero_le _⟩ (kE rfl ?_)
    refine v_icmp_eq hB 43 dMo_before_19 (by decide) (fun c1 => ?_) (fun c1 => ?_)
    · refine v_iinc hB dMo_before_43 rfl (y := _) rfl rfl (by decide) (lv' := [_, _, _, _]) rfl ?_
      refine v_goto hB 2 dMo_before_46 (by decide) ?_
      rw [i1]
      exact he c1
    refine v_aload_n hB dMo_before_22 rfl ?_
    refine v_iload_n hB dMo_before_23 rfl ?_
    refine v_iload_n hB dMo_before_24 rfl ?_
    refine v_callV hC tbok kmMo_27 kiMo_part ksMo_part dMo_before_25 (F := FMo Y _) (by assumption) (by rw [hY.2]; rfl) (cMo_part hY hW hk hp μ) rfl rfl ⟨Nat.le_of_ble_eq_true rfl, Nat.le_of_ble_eq_true rfl⟩ rfl rfl (Nat.le_of_ble_eq_true rfl) ⟨Nat.zero_le _, Nat.zero_le _⟩ (kE rfl ?_)
    refine v_aload_n hB dMo_before_28 rfl ?_
    refine v_iload_n hB dMo_before_29 rfl ?_
    refine v_iload_n hB dMo_before_30 rfl ?_
    refine v_callV hC tbok kmMo_27 kiMo_part ksMo_part dMo_before_31 (F := FMo Y _) (by assumption) (by rw [hY.2]; rfl) (cMo_part hY hW hj hp μ) rfl rfl ⟨Nat.le_of_ble_eq_true rfl, Nat.le_of_ble_eq_true rfl⟩ rfl rfl (Nat.le_of_ble_eq_true rfl) ⟨Nat.zero_le _, Nat.zero_le _⟩ (kE rfl ?_)
    refine v_icmp_ge hB 41 dMo_before_34 (by decide) (fun c2 => ?_) (fun c2 => ?_)
    · refine v_iconst hB dMo_before_41 (v := 0) (by decide) ?_
      exact v_zret hC rfl (by decide) dMo_before_42 ⟨congrArg (fun x => some (Value.int x)) (bI_ff (by rw [← hn c1]; simp [Int32.not_lt.mpr c2])), rfl⟩
    refine v_iconst hB dMo_before_37 (v := 1) (by decide) ?_
    refine v_goto hB 42 dMo_before_38 (by decide) ?_
    exact v_zret hC rfl (by decide) dMo_before_42 ⟨congrArg (fun x => some (Value.int x)) (bI_t (by rw [← hn c1]; simp [Int32.not_le.mp c2])), rfl⟩
  refine v_iconst hB dMo_before_0 (v := 0) (by decide) ?_
  refine v_istore_n hB dMo_before_1 rfl (by decide) (lv' := [_, _, _, _]) rfl ?_
  refine step 0 (by decide) (fun e0 => ?_) (fun n0 => by rw [precB, if_neg n0])
  refine step 1 (by decide) (fun e1 => ?_) (fun n1 => by rw [precB, if_pos e0, if_neg n1])
  refine step 2 (by decide) (fun e2 => ?_) (fun n2 => by rw [precB, if_pos e0, if_pos e1, if_neg n2])
  refine step 3 (by decide) (fun e3 => ?_) (fun n3 => by rw [precB, if_pos e0, if_pos e1, if_pos e2, if_neg n3])
  refine step 4 (by decide) (fun e4 => ?_) (fun n4 => by rw [precB, if_pos e0, if_pos e1, if_pos e2, if_pos e3])
  refine v_iload_n hB dMo_before_2 rfl ?_
  refine v_iconst hB dMo_before_3 (v := 5) (by decide) ?_
  refine v_icmp_ge hB 49 dMo_before_4 (by decide) (fun c => ?_) (fun c => ?_)
  · refine v_iconst hB dMo_before_49 (v := 0) (by decide) ?_
    exact v_zret hC rfl (by decide) dMo_before_50 ⟨congrArg (fun x => some (Value.int x)) (bI_ff (by rw [precB, if_pos e0, if_pos e1, if_pos e2, if_pos e3, e4]; simp)), rfl⟩
  exact absurd (by decide) c

set_option maxHeartbeats 4000000 in
set_option maxRecDepth 100000 in
theorem cMo_set {l : Launch} {Y : Yt} (hY : YB Y) (hW : YM Y) {k p : Nat} (hk : k ≤ 40) (hp : p < 5) (v : Int32) (μ : Mu) : Ct l Y yMo_set wMo_set ({ frames := 0, cells := 0, slots := 0, locals := 0 }) [.ref (ad Y 0), .int (nI k), .int (nI p), .int v] μ (PE none (wi μ 1 (5 * k + p) v)) := by
  refine ct_of hY.1 (by decide) rfl (Nat.le_of_ble_eq_true rfl) (lv := [some (.ref (ad Y 0)), some (.int (nI k)), some (.int (nI p)), some (.int v)]) rfl (fun X hC => ?_)
  have hB := hC.B
  obtain ⟨hMo, hAr⟩ := id hW
  refine v_aload_n hB dMo_set_0 rfl ?_
  refine v_get hC (klMo hY.2) (F := FMo Y _) (by assumption) 3 dMo_set_1 kfMo_17 (by decide) rfl ?_
  refine v_iconst hB dMo_set_4 (v := 5) (by decide) ?_
  refine v_iload_n hB dMo_set_5 rfl ?_
  refine v_imul hB dMo_set_6 ?_
  refine v_iload_n hB dMo_set_7 rfl ?_
  refine v_iadd hB dMo_set_8 ?_
  refine v_iload_n hB dMo_set_9 rfl ?_
  refine v_iast hC hAr (5 * k + p) dMo_set_10 (by rw [n5, nI_add]) (by omega) (by decide) ?_
  exact v_vret hC rfl dMo_set_11 ⟨rfl, rfl⟩

set_option maxHeartbeats 4000000 in
set_option maxRecDepth 100000 in
theorem cMo_ended {l : Launch} {Y : Yt} (hY : YB Y) (hW : YM Y) (a : Int32) (μ : Mu) : Ct l Y yMo_ended wMo_ended ({ frames := 0, cells := 0, slots := 0, locals := 0 }) [.ref (ad Y 0), .int a] μ (PE (some (.int (mEn μ a).1)) (mEn μ a).2) := by
  refine ct_of hY.1 (by decide) rfl (Nat.le_of_ble_eq_true rfl) (lv := [some (.ref (ad Y 0)), some (.int a)]) rfl (fun X hC => ?_)
  have hB := hC.B
  obtain ⟨hMo, hAr⟩ := id hW
  refine v_aload_n hB dMo_ended_0 rfl ?_
  refine v_get hC (klMo hY.2) (F := FMo Y _) (by assumption) 1 dMo_ended_1 kfMo_13 (by decide) rfl ?_
  refine v_if_ge hB 9 dMo_ended_4 (by decide) (fun c => ?_) (fun c => ?_)
  · refine v_aload_n hB dMo_ended_9 rfl ?_
    refine v_iconst hB dMo_ended_10 (v := -1) (by decide) ?_
    refine v_puti hC (klMo hY.2) (F := FMo Y _) (by assumption) 1 dMo_ended_11 kfMo_13 (by decide) rfl rfl rfl (fun _ _ => rfl) (fun _ _ => Nat.le_of_ble_eq_true rfl) ?_
    refine v_aload_n hB dMo_ended_14 rfl ?_
    refine v_iconst hB dMo_ended_15 (v := 0) (by decide) ?_
    refine v_puti hC (klMo hY.2) (F := FMo Y _) (by assumption) 0 dMo_ended_16 kfMo_7 (by decide) rfl (by decide) (by decide) (fun _ _ => rfl) (fun _ _ => Nat.le_of_ble_eq_true rfl) ?_
    refine v_bipush hB dMo_ended_19 (v := -4) (by decide) ?_
    exact v_iret hC rfl dMo_ended_21 ⟨by rw [mEn, if_neg (Int32.not_lt.mpr c)], by rw [mEn, if_neg (Int32.not_lt.mpr c)]⟩
  refine v_iload_n hB dMo_ended_7 rfl ?_
  exact v_iret hC rfl dMo_ended_8 ⟨by rw [mEn, if_pos (Int32.not_le.mp c)], by rw [mEn, if_pos (Int32.not_le.mp c)]⟩

set_option maxHeartbeats 4000000 in
set_option maxRecDepth 100000 in
theorem cMo_counts {l : Launch} {Y : Yt} (hY : YB Y) (hW : YM Y) (μ : Mu) : Ct l Y yMo_counts wMo_counts ({ frames := 0, cells := 0, slots := 0, locals := 0 }) [.ref (ad Y 0)] μ (PE (some (.int (bI (mCt μ)))) μ) := by
  refine ct_of hY.1 (by decide) rfl (Nat.le_of_ble_eq_true rfl) (lv := [some (.ref (ad Y 0))]) rfl (fun X hC => ?_)
  have hB := hC.B
  obtain ⟨hMo, hAr⟩ := id hW
  refine v_aload_n hB dMo_counts_0 rfl ?_
  refine v_get hC (klMo hY.2) (F := FMo Y _) (by assumption) 1 dMo_counts_1 kfMo_13 (by decide) rfl ?_
  refine v_if_lt hB 15 dMo_counts_4 (by decide) (fun c => ?_) (fun c => ?_)
  · refine v_iconst hB dMo_counts_15 (v := 1) (by decide) ?_
    refine v_goto hB 20 dMo_counts_16 (by decide) ?_
    exact v_zret hC rfl (by decide) dMo_counts_20 ⟨congrArg (fun x => some (Value.int x)) (bI_t (by simp only [mCt]; simp [c])), rfl⟩
  refine v_aload_n hB dMo_counts_7 rfl ?_
  refine v_get hC (klMo hY.2) (F := FMo Y _) (by assumption) 1 dMo_counts_8 kfMo_13 (by decide) rfl ?_
  refine v_iconst hB dMo_counts_11 (v := 3) (by decide) ?_
  refine v_icmp_lt hB 19 dMo_counts_12 (by decide) (fun c1 => ?_) (fun c1 => ?_)
  · refine v_iconst hB dMo_counts_19 (v := 0) (by decide) ?_
    exact v_zret hC rfl (by decide) dMo_counts_20 ⟨congrArg (fun x => some (Value.int x)) (bI_ff (by simp only [mCt]; simp [Int32.not_lt.mp c, c1])), rfl⟩
  refine v_iconst hB dMo_counts_15 (v := 1) (by decide) ?_
  refine v_goto hB 20 dMo_counts_16 (by decide) ?_
  exact v_zret hC rfl (by decide) dMo_counts_20 ⟨congrArg (fun x => some (Value.int x)) (bI_t (by simp only [mCt]; simp [Int32.not_lt.mp c1])), rfl⟩

set_option maxHeartbeats 4000000 in
set_option maxRecDepth 100000 in
theorem cMo_insert {l : Launch} {Y : Yt} (hY : YB Y) (hW : YM Y) {m : Nat} (n a b c d : Int32) (μ : Mu) (hm : μ.1 0 2 = nI m) (hm40 : m ≤ 40) : Ct l Y yMo_insert wMo_insert ({ frames := 2, cells := 0, slots := 0, locals := 45 }) [.ref (ad Y 0), .int n, .int a, .int b, .int c, .int d] μ (PE (some (.int (rIn μ m n a b c d).1)) (rIn μ m n a b c d).2) := by
  refine ct_of hY.1 (by decide) rfl (Nat.le_of_ble_eq_true rfl) (lv := [some (.ref (ad Y 0)), some (.int n), some (.int a), some (.int b), some (.int c), some (.int d), none, none, none]) rfl (fun X hC => ?_)
  have hB := hC.B
  obtain ⟨hMo, hAr⟩ := id hW
  refine v_aload_n hB dMo_insert_0 rfl ?_
  refine v_get hC (klMo hY.2) (F := FMo Y _) (by assumption) 0 dMo_insert_1 kfMo_7 (by decide) rfl ?_
  refine v_if_ne hB 10 dMo_insert_4 (by decide) (fun c0 => ?_) (fun c0 => ?_)
  rotate_left
  · refine v_bipush hB dMo_insert_7 (v := -3) (by decide) ?_
    exact v_iret hC rfl dMo_insert_9 ⟨by rw [rIn, if_pos c0], by rw [rIn, if_pos c0]⟩
  refine v_iload_n hB dMo_insert_10 rfl ?_
  refine v_callS hC tbok kmMo_31 ktMo_badName dMo_insert_11 (cMo_badName hY n μ) rfl rfl ⟨Nat.le_of_ble_eq_true rfl, Nat.le_of_ble_eq_true rfl⟩ rfl rfl (Nat.le_of_ble_eq_true rfl) ⟨Nat.zero_le _, Nat.zero_le _⟩ (kE rfl ?_)
  refine v_if_ne hB 29 dMo_insert_14 (by decide) (fun c1 => ?_) (fun c1 => ?_)
  · have hz : ¬ (isNm n = true ∧ isRc a b c d = true) := fun z => by have := bI_n.mp c1; rw [z.1] at this; exact absurd this (by decide)
    refine v_iconst hB dMo_insert_29 (v := -1) (by decide) ?_
    exact v_iret hC rfl dMo_insert_30 ⟨by rw [rIn, if_neg c0, if_neg hz], by rw [rIn, if_neg c0, if_neg hz]⟩
  refine v_iload_n hB dMo_insert_17 rfl ?_
  refine v_iload_n hB dMo_insert_18 rfl ?_
  refine v_iload hB dMo_insert_19 rfl ?_
  refine v_iload hB dMo_insert_21 rfl ?_
  refine v_callS hC tbok kmMo_34 ktMo_bad dMo_insert_23 (cMo_bad hY a b c d μ) rfl rfl ⟨Nat.le_of_ble_eq_true rfl, Nat.le_of_ble_eq_true rfl⟩ rfl rfl (Nat.le_of_ble_eq_true rfl) ⟨Nat.zero_le _, Nat.zero_le _⟩ (kE rfl ?_)
  refine v_if_eq hB 31 dMo_insert_26 (by decide) (fun c2 => ?_) (fun c2 => ?_)
  rotate_left
  · have hz : ¬ (isNm n = true ∧ isRc a b c d = true) := fun z => by have := bI_n.mp c2; rw [z.2] at this; exact absurd this (by decide)
    refine v_iconst hB dMo_insert_29 (v := -1) (by decide) ?_
    exact v_iret hC rfl dMo_insert_30 ⟨by rw [rIn, if_neg c0, if_neg hz], by rw [rIn, if_neg c0, if_neg hz]⟩
  have hz : isNm n = true ∧ isRc a b c d = true := ⟨by have := bI_0.mp c1; simpa using this, by have := bI_0.mp c2; simpa using this⟩
  refine v_aload_n hB dMo_insert_31 rfl ?_
  refine v_get hC (klMo hY.2) (F := FMo Y _) (by assumption) 2 dMo_insert_32 kfMo_38 (by decide) rfl ?_
  refine v_bipush hB dMo_insert_35 (v := 40) (by decide) ?_
  refine v_icmp_ne hB 43 dMo_insert_37 (by decide) (fun c3 => ?_) (fun c3 => ?_)
  rotate_left
  · have h40 : m = 40 := by rw [hm, show (40 : Int32) = nI 40 from rfl, nI_eq (by omega) (by omega)] at c3; exact c3
    refine v_bipush hB dMo_insert_40 (v := -2) (by decide) ?_
    exact v_iret hC rfl dMo_insert_42 ⟨by rw [rIn, if_neg c0, if_pos hz, if_pos h40], by rw [rIn, if_neg c0, if_pos hz, if_pos h40]⟩
  have h40 : ¬ m = 40 := fun z => c3 (by rw [hm, z]; rfl)
  have last : ∀ ν : Mu, (rIn μ m n a b c d) = mEn ν (ν.1 0 2) → VG X (yA Y) 9 0 0 (VQ X Y (PE (some (.int (rIn μ m n a b c d).1)) (rIn μ m n a b c d).2)) (yI Y (ν)) 205 [some (.ref (ad Y 0)), some (.int n), some (.int a), some (.int b), some (.int c), some (.int d), none, none, none] [] := by
    intro ν hν
    refine v_aload_n hB dMo_insert_205 rfl ?_
    refine v_aload_n hB dMo_insert_206 rfl ?_
    refine v_get hC (klMo hY.2) (F := FMo Y _) (by assumption) 2 dMo_insert_207 kfMo_38 (by decide) rfl ?_
    refine v_callV hC tbok kmMo_53 kiMo_ended ksMo_ended dMo_insert_210 (F := FMo Y _) (by assumption) (by rw [hY.2]; rfl) (cMo_ended hY hW _ ν) rfl rfl ⟨Nat.le_of_ble_eq_true rfl, Nat.le_of_ble_eq_true rfl⟩ rfl rfl (Nat.le_of_ble_eq_true rfl) ⟨Nat.zero_le _, Nat.zero_le _⟩ (kE rfl ?_)
    exact v_iret hC rfl dMo_insert_213 ⟨by rw [hν], by rw [hν]⟩
  refine v_aload_n hB dMo_insert_43 rfl ?_
  refine v_callV hC tbok kmMo_41 kiMo_counts ksMo_counts dMo_insert_44 (F := FMo Y _) (by assumption) (by rw [hY.2]; rfl) (cMo_counts hY hW μ) rfl rfl ⟨Nat.le_of_ble_eq_true rfl, Nat.le_of_ble_eq_true rfl⟩ rfl rfl (Nat.le_of_ble_eq_true rfl) ⟨Nat.zero_le _, Nat.zero_le _⟩ (kE rfl ?_)
  refine v_if_eq hB 205 dMo_insert_47 (by decide) (fun c4 => ?_) (fun c4 => ?_)
  · exact last μ (by rw [rIn, if_neg c0, if_pos hz, if_neg h40, if_neg (by rw [bI_0.mp c4]; decide), hm])
  refine v_aload_n hB dMo_insert_50 rfl ?_
  refine v_aload_n hB dMo_insert_51 rfl ?_
  refine v_get hC (klMo hY.2) (F := FMo Y _) (by assumption) 2 dMo_insert_52 kfMo_38 (by decide) rfl ?_
  rw [hm]
  refine v_iconst hB dMo_insert_55 (v := 0) (by decide) ?_
  refine v_iload_n hB dMo_insert_56 rfl ?_
  refine v_callV hC tbok kmMo_45 kiMo_set ksMo_set dMo_insert_57 (F := FMo Y _) (by assumption) (by rw [hY.2]; rfl) (cMo_set (p := 0) hY hW hm40 (by decide) n μ) rfl rfl ⟨Nat.le_of_ble_eq_true rfl, Nat.le_of_ble_eq_true rfl⟩ rfl rfl (Nat.le_of_ble_eq_true rfl) ⟨Nat.zero_le _, Nat.zero_le _⟩ (kE rfl ?_)
  have m0 : (wi μ 1 (5 * m + 0) n).1 0 2 = nI m := by rw [wi_ne _ _ _ (show (0 : Nat) ≠ 1 by decide)]; exact hm
  refine v_aload_n hB dMo_insert_60 rfl ?_
  refine v_aload_n hB dMo_insert_61 rfl ?_
  refine v_get hC (klMo hY.2) (F := FMo Y _) (by assumption) 2 dMo_insert_62 kfMo_38 (by decide) rfl ?_
  rw [m0]
  refine v_iconst hB dMo_insert_65 (v := 1) (by decide) ?_
  refine v_iload_n hB dMo_insert_66 rfl ?_
  refine v_callV hC tbok kmMo_45 kiMo_set ksMo_set dMo_insert_67 (F := FMo Y _) (by assumption) (by rw [hY.2]; rfl) (cMo_set (p := 1) hY hW hm40 (by decide) a _) rfl rfl ⟨Nat.le_of_ble_eq_true rfl, Nat.le_of_ble_eq_true rfl⟩ rfl rfl (Nat.le_of_ble_eq_true rfl) ⟨Nat.zero_le _, Nat.zero_le _⟩ (kE rfl ?_)
  have m1 : (wi (wi μ 1 (5 * m + 0) n) 1 (5 * m + 1) a).1 0 2 = nI m := by rw [wi_ne _ _ _ (show (0 : Nat) ≠ 1 by decide)]; exact m0
  refine v_aload_n hB dMo_insert_70 rfl ?_
  refine v_aload_n hB dMo_insert_71 rfl ?_
  refine v_get hC (klMo hY.2) (F := FMo Y _) (by assumption) 2 dMo_insert_72 kfMo_38 (by decide) rfl ?_
  rw [m1]
  refine v_iconst hB dMo_insert_75 (v := 2) (by decide) ?_
  refine v_iload_n hB dMo_insert_76 rfl ?_
  refine v_callV hC tbok kmMo_45 kiMo_set ksMo_set dMo_insert_77 (F := FMo Y _) (by assumption) (by rw [hY.2]; rfl) (cMo_set (p := 2) hY hW hm40 (by decide) b _) rfl rfl ⟨Nat.le_of_ble_eq_true rfl, Nat.le_of_ble_eq_true rfl⟩ rfl rfl (Nat.le_of_ble_eq_true rfl) ⟨Nat.zero_le _, Nat.zero_le _⟩ (kE rfl ?_)
  have m2 : (wi (wi (wi μ 1 (5 * m + 0) n) 1 (5 * m + 1) a) 1 (5 * m + 2) b).1 0 2 = nI m := by rw [wi_ne _ _ _ (show (0 : Nat) ≠ 1 by decide)]; exact m1
  refine v_aload_n hB dMo_insert_80 rfl ?_
  refine v_aload_n hB dMo_insert_81 rfl ?_
  refine v_get hC (klMo hY.2) (F := FMo Y _) (by assumption) 2 dMo_insert_82 kfMo_38 (by decide) rfl ?_
  rw [m2]
  refine v_iconst hB dMo_insert_85 (v := 3) (by decide) ?_
  refine v_iload hB dMo_insert_86 rfl ?_
  refine v_callV hC tbok kmMo_45 kiMo_set ksMo_set dMo_insert_88 (F := FMo Y _) (by assumption) (by rw [hY.2]; rfl) (cMo_set (p := 3) hY hW hm40 (by decide) c _) rfl rfl ⟨Nat.le_of_ble_eq_true rfl, Nat.le_of_ble_eq_true rfl⟩ rfl rfl (Nat.le_of_ble_eq_true rfl) ⟨Nat.zero_le _, Nat.zero_le _⟩ (kE rfl ?_)
  have m3 : (wi (wi (wi (wi μ 1 (5 * m + 0) n) 1 (5 * m + 1) a) 1 (5 * m + 2) b) 1 (5 * m + 3) c).1 0 2 = nI m := by rw [wi_ne _ _ _ (show (0 : Nat) ≠ 1 by decide)]; exact m2
  refine v_aload_n hB dMo_insert_91 rfl ?_
  refine v_aload_n hB dMo_insert_92 rfl ?_
  refine v_get hC (klMo hY.2) (F := FMo Y _) (by assumption) 2 dMo_insert_93 kfMo_38 (by decide) rfl ?_
  rw [m3]
  refine v_iconst hB dMo_insert_96 (v := 4) (by decide) ?_
  refine v_iload hB dMo_insert_97 rfl ?_
  refine v_callV hC tbok kmMo_45 kiMo_set ksMo_set dMo_insert_99 (F := FMo Y _) (by assumption) (by rw [hY.2]; rfl) (cMo_set (p := 4) hY hW hm40 (by decide) d _) rfl rfl ⟨Nat.le_of_ble_eq_true rfl, Nat.le_of_ble_eq_true rfl⟩ rfl rfl (Nat.le_of_ble_eq_true rfl) ⟨Nat.zero_le _, Nat.zero_le _⟩ (kE rfl ?_)
  have m4 : (wi (wi (wi (wi (wi μ 1 (5 * m + 0) n) 1 (5 * m + 1) a) 1 (5 * m + 2) b) 1 (5 * m + 3) c) 1 (5 * m + 4) d).1 0 2 = nI m := by rw [wi_ne _ _ _ (show (0 : Nat) ≠ 1 by decide)]; exact m3
  refine v_aload_n hB dMo_insert_102 rfl ?_
  refine v_get hC (klMo hY.2) (F := FMo Y _) (by assumption) 2 dMo_insert_103 kfMo_38 (by decide) rfl ?_
  rw [m4]
  refine v_istore hB dMo_insert_106 rfl (by decide) (lv' := [_, _, _, _, _, _, _, _, _]) rfl ?_
  refine v_aload_n hB dMo_insert_108 rfl ?_
  refine v_dup hB dMo_insert_109 rfl ?_
  refine v_get hC (klMo hY.2) (F := FMo Y _) (by assumption) 2 dMo_insert_110 kfMo_38 (by decide) rfl ?_
  rw [m4]
  refine v_iconst hB dMo_insert_113 (v := 1) (by decide) ?_
  refine v_iadd hB dMo_insert_114 ?_
  rw [nI_1]
  refine v_puti hC (klMo hY.2) (F := FMo Y _) (by assumption) 2 dMo_insert_115 kfMo_38 (by decide) rfl rfl rfl (fun _ _ => rfl) (fun _ _ => Nat.le_of_ble_eq_true rfl) ?_
  have fin : ∀ ν : Mu, ν = mIn μ m n a b c d → (rIn μ m n a b c d) = mEn ν (ν.1 0 2) := by
    intro ν hν
    rw [rIn, if_neg c0, if_pos hz, if_neg h40, if_pos (bI_n.mp c4), hν]
    congr 1
    unfold mIn
    rw [isL_0, wi_at]
    simp
  have loop : ∀ (i : Nat) (ν : Mu), i ≤ m → isL i ν = mIn μ m n a b c d → VG X (yA Y) 9 0 0 (VQ X Y (PE (some (.int (rIn μ m n a b c d).1)) (rIn μ m n a b c d).2)) (yI Y (ν)) 118 [some (.ref (ad Y 0)), some (.int n), some (.int a), some (.int b), some (.int c), some (.int d), some (.int (nI i)), none, none] [] := by
    intro i
    induction i with
    | zero =>
      intro ν hi hf
      refine v_iload hB dMo_insert_118 rfl ?_
      refine v_if_le hB 205 dMo_insert_120 (by decide) (fun d1 => ?_) (fun d1 => ?_)
      · refine v_drop 6 (lv' := [_, _, _, _, _, _, _, _, _]) rfl ?_
        exact last ν (fin ν hf)
      exact absurd (by decide) d1
    | succ i ih =>
      intro ν hi hf
      refine v_iload hB dMo_insert_118 rfl ?_
      refine v_if_le hB 205 dMo_insert_120 (by decide) (fun d1 => ?_) (fun d1 => ?_)
      · exact absurd d1 (nI_nle (by omega) (by omega))
      refine v_aload_n hB dMo_insert_123 rfl ?_
      refine v_iload hB dMo_insert_124 rfl ?_
      refine v_iload hB dMo_insert_126 rfl ?_
      refine v_iconst hB dMo_insert_128 (v := 1) (by decide) ?_
      refine v_isub hB dMo_insert_129 ?_
      rw [nI_pred]
      refine v_callV hC tbok kmMo_49 kiMo_before ksMo_before dMo_insert_130 (F := FMo Y _) (by assumption) (by rw [hY.2]; rfl) (cMo_before hY hW (k := i + 1) (j := i) (by omega) (by omega) ν) rfl rfl ⟨Nat.le_of_ble_eq_true rfl, Nat.le_of_ble_eq_true rfl⟩ rfl rfl (Nat.le_of_ble_eq_true rfl) ⟨Nat.zero_le _, Nat.zero_le _⟩ (kE rfl ?_)
      refine v_if_eq hB 205 dMo_insert_133 (by decide) (fun d2 => ?_) (fun d2 => ?_)
      · refine v_drop 6 (lv' := [_, _, _, _, _, _, _, _, _]) rfl ?_
        exact last ν (fin ν (by rw [← hf, isL, if_neg (by rw [bI_0.mp d2]; decide)]))
      rw [isL, if_pos (bI_n.mp d2)] at hf
      have inner : ∀ (r p : Nat) (ν2 : Mu), p + r = 5 → swL i r p ν2 = swL i 5 0 ν → VG X (yA Y) 9 0 0 (VQ X Y (PE (some (.int (rIn μ m n a b c d).1)) (rIn μ m n a b c d).2)) (yI Y (ν2)) 139 [some (.ref (ad Y 0)), some (.int n), some (.int a), some (.int b), some (.int c), some (.int d), some (.int (nI (i + 1))), some (.int (nI p)), none] [] := by
        intro r
        induction r with
        | zero =>
          intro p ν2 hp hs
          have hs : ν2 = swL i 5 0 ν := hs
          refine v_iload hB dMo_insert_139 rfl ?_
          refine v_iconst hB dMo_insert_141 (v := 5) (by decide) ?_
          refine v_icmp_ge hB 199 dMo_insert_142 (by decide) (fun f1 => ?_) (fun f1 => ?_)
          · refine v_iinc hB dMo_insert_199 rfl (y := _) rfl rfl (by decide) (lv' := [_, _, _, _, _, _, _, _, _]) rfl ?_
            refine v_goto hB 118 dMo_insert_202 (by decide) ?_
            refine v_drop 7 (lv' := [_, _, _, _, _, _, _, _, _]) rfl ?_
            rw [im1, nI_pred]
            exact ih ν2 (by omega) (by rw [hs]; exact hf)
          exact absurd (by rw [show (5 : Int32) = nI 5 from rfl]; exact nI_le (by omega) (by omega)) f1
        | succ r ihr =>
          intro p ν2 hp hs
          refine v_iload hB dMo_insert_139 rfl ?_
          refine v_iconst hB dMo_insert_141 (v := 5) (by decide) ?_
          refine v_icmp_ge hB 199 dMo_insert_142 (by decide) (fun f1 => ?_) (fun f1 => ?_)
          · exact absurd f1 (by rw [show (5 : Int32) = nI 5 from rfl]; exact (fun q => absurd ((nI_leI (by omega) (by omega)).mp q) (by omega)))
          refine v_aload_n hB dMo_insert_145 rfl ?_
          refine v_get hC (klMo hY.2) (F := FMo Y _) (by assumption) 3 dMo_insert_146 kfMo_17 (by decide) rfl ?_
          refine v_iconst hB dMo_insert_149 (v := 5) (by decide) ?_
          refine v_iload hB dMo_insert_150 rfl ?_
          refine v_imul hB dMo_insert_152 ?_
          refine v_iload hB dMo_insert_153 rfl ?_
          refine v_iadd hB dMo_insert_155 ?_
          refine v_iald hC hAr (5 * (i + 1) + p) dMo_insert_156 (by rw [n5, nI_add]) (by omega) (by decide) ?_
          refine v_istore hB dMo_insert_157 rfl (by decide) (lv' := [_, _, _, _, _, _, _, _, _]) rfl ?_
          refine v_aload_n hB dMo_insert_159 rfl ?_
          refine v_iload hB dMo_insert_160 rfl ?_
          refine v_iload hB dMo_insert_162 rfl ?_
          refine v_aload_n hB dMo_insert_164 rfl ?_
          refine v_get hC (klMo hY.2) (F := FMo Y _) (by assumption) 3 dMo_insert_165 kfMo_17 (by decide) rfl ?_
          refine v_iconst hB dMo_insert_168 (v := 5) (by decide) ?_
          refine v_iload hB dMo_insert_169 rfl ?_
          refine v_imul hB dMo_insert_171 ?_
          refine v_iconst hB dMo_insert_172 (v := 5) (by decide) ?_
          refine v_isub hB dMo_insert_173 ?_
          refine v_iload hB dMo_insert_174 rfl ?_
          refine v_iadd hB dMo_insert_176 ?_
          refine v_iald hC hAr (5 * i + p) dMo_insert_177 (by rw [n5, show (5 : Int32) = nI 5 from rfl, pk_sub (by omega), nI_add, show 5 * (i + 1) - 5 = 5 * i by omega]) (by omega) (by decide) ?_
          refine v_callV hC tbok kmMo_45 kiMo_set ksMo_set dMo_insert_178 (F := FMo Y _) (by assumption) (by rw [hY.2]; rfl) (cMo_set hY hW (k := i + 1) (p := p) (by omega) (by omega) _ ν2) rfl rfl ⟨Nat.le_of_ble_eq_true rfl, Nat.le_of_ble_eq_true rfl⟩ rfl rfl (Nat.le_of_ble_eq_true rfl) ⟨Nat.zero_le _, Nat.zero_le _⟩ (kE rfl ?_)
          refine v_aload_n hB dMo_insert_181 rfl ?_
          refine v_iload hB dMo_insert_182 rfl ?_
          refine v_iconst hB dMo_insert_184 (v := 1) (by decide) ?_
          refine v_isub hB dMo_insert_185 ?_
          rw [nI_pred]
          refine v_iload hB dMo_insert_186 rfl ?_
          refine v_iload hB dMo_insert_188 rfl ?_
          refine v_callV hC tbok kmMo_45 kiMo_set ksMo_set dMo_insert_190 (F := FMo Y _) (by assumption) (by rw [hY.2]; rfl) (cMo_set hY hW (k := i) (p := p) (by omega) (by omega) _ _) rfl rfl ⟨Nat.le_of_ble_eq_true rfl, Nat.le_of_ble_eq_true rfl⟩ rfl rfl (Nat.le_of_ble_eq_true rfl) ⟨Nat.zero_le _, Nat.zero_le _⟩ (kE rfl ?_)
          refine v_iinc hB dMo_insert_193 rfl (y := _) rfl rfl (by decide) (lv' := [_, _, _, _, _, _, _, _, _]) rfl ?_
          refine v_goto hB 139 dMo_insert_196 (by decide) ?_
          refine v_drop 8 (lv' := [_, _, _, _, _, _, _, _, _]) rfl ?_
          rw [i1]
          exact ihr (p + 1) _ (by omega) hs
      refine v_iconst hB dMo_insert_136 (v := 0) (by decide) ?_
      refine v_istore hB dMo_insert_137 rfl (by decide) (lv' := [_, _, _, _, _, _, _, _, _]) rfl ?_
      exact inner 5 0 ν (by decide) rfl
  exact loop m _ (Nat.le_refl m) rfl

set_option maxHeartbeats 4000000 in
set_option maxRecDepth 100000 in
theorem cMo_remove {l : Launch} {Y : Yt} (hY : YB Y) (hW : YM Y) {m k : Nat} (μ : Mu) (hm : μ.1 0 2 = nI m) (hm40 : m ≤ 40) (hk : k < m) : Ct l Y yMo_remove wMo_remove ({ frames := 0, cells := 0, slots := 0, locals := 0 }) [.ref (ad Y 0), .int (nI k)] μ (PE none (mRm μ m k)) := by
  refine ct_of hY.1 (by decide) rfl (Nat.le_of_ble_eq_true rfl) (lv := [some (.ref (ad Y 0)), some (.int (nI k)), none]) rfl (fun X hC => ?_)
  have hB := hC.B
  obtain ⟨hMo, hAr⟩ := id hW
  have loop : ∀ (r i : Nat) (ν : Mu), i + r = 5 * (m - 1) → ν.1 0 2 = nI (m - 1) → rmL r i ν = mRm μ m k → VG X (yA Y) 3 0 0 (VQ X Y (PE none (mRm μ m k))) (yI Y (ν)) 14 [some (.ref (ad Y 0)), some (.int (nI k)), some (.int (nI i))] [] := by
    intro r
    induction r with
    | zero =>
      intro i ν hi hν hf
      refine v_iload_n hB dMo_remove_14 rfl ?_
      refine v_iconst hB dMo_remove_15 (v := 5) (by decide) ?_
      refine v_aload_n hB dMo_remove_16 rfl ?_
      refine v_get hC (klMo hY.2) (F := FMo Y _) (by assumption) 2 dMo_remove_17 kfMo_38 (by decide) rfl ?_
      refine v_imul hB dMo_remove_20 ?_
      rw [hν, n5]
      refine v_icmp_ge hB 44 dMo_remove_21 (by decide) (fun c => ?_) (fun c => ?_)
      · exact v_vret hC rfl dMo_remove_44 ⟨rfl, hf⟩
      exact absurd (nI_le (by omega) (by omega)) c
    | succ r ih =>
      intro i ν hi hν hf
      refine v_iload_n hB dMo_remove_14 rfl ?_
      refine v_iconst hB dMo_remove_15 (v := 5) (by decide) ?_
      refine v_aload_n hB dMo_remove_16 rfl ?_
      refine v_get hC (klMo hY.2) (F := FMo Y _) (by assumption) 2 dMo_remove_17 kfMo_38 (by decide) rfl ?_
      refine v_imul hB dMo_remove_20 ?_
      rw [hν, n5]
      refine v_icmp_ge hB 44 dMo_remove_21 (by decide) (fun c => ?_) (fun c => ?_)
      · exact absurd c (fun q => absurd ((nI_leI (by omega) (by omega)).mp q) (by omega))
      refine v_aload_n hB dMo_remove_24 rfl ?_
      refine v_get hC (klMo hY.2) (F := FMo Y _) (by assumption) 3 dMo_remove_25 kfMo_17 (by decide) rfl ?_
      refine v_iload_n hB dMo_remove_28 rfl ?_
      refine v_aload_n hB dMo_remove_29 rfl ?_
      refine v_get hC (klMo hY.2) (F := FMo Y _) (by assumption) 3 dMo_remove_30 kfMo_17 (by decide) rfl ?_
      refine v_iload_n hB dMo_remove_33 rfl ?_
      refine v_iconst hB dMo_remove_34 (v := 5) (by decide) ?_
      refine v_iadd hB dMo_remove_35 ?_
      refine v_iald hC hAr (i + 5) dMo_remove_36 (nI_add i 5) (by omega) (by decide) ?_
      refine v_iast hC hAr i dMo_remove_37 rfl (by omega) (by decide) ?_
      refine v_iinc hB dMo_remove_38 rfl (y := _) rfl rfl (by decide) (lv' := [_, _, _]) rfl ?_
      refine v_goto hB 14 dMo_remove_41 (by decide) ?_
      rw [i1]
      exact ih (i + 1) _ (by omega) (by rw [wi_ne _ _ _ (show (0 : Nat) ≠ 1 by decide)]; exact hν) hf
  refine v_aload_n hB dMo_remove_0 rfl ?_
  refine v_dup hB dMo_remove_1 rfl ?_
  refine v_get hC (klMo hY.2) (F := FMo Y _) (by assumption) 2 dMo_remove_2 kfMo_38 (by decide) rfl ?_
  refine v_iconst hB dMo_remove_5 (v := 1) (by decide) ?_
  refine v_isub hB dMo_remove_6 ?_
  rw [hm, show nI m - 1 = nI (m - 1) from pk_sub (a := m) (b := 1) (by omega)]
  refine v_puti hC (klMo hY.2) (F := FMo Y _) (by assumption) 2 dMo_remove_7 kfMo_38 (by decide) rfl rfl rfl (fun _ _ => rfl) (fun _ _ => Nat.le_of_ble_eq_true rfl) ?_
  refine v_iconst hB dMo_remove_10 (v := 5) (by decide) ?_
  refine v_iload_n hB dMo_remove_11 rfl ?_
  refine v_imul hB dMo_remove_12 ?_
  rw [n5]
  refine v_istore_n hB dMo_remove_13 rfl (by decide) (lv' := [_, _, _]) rfl ?_
  exact loop (5 * (m - 1) - 5 * k) (5 * k) _ (by omega) (by rw [wi_at]; simp) rfl

set_option maxHeartbeats 4000000 in
set_option maxRecDepth 100000 in
theorem cMo_is {l : Launch} {Y : Yt} (hY : YB Y) (hW : YM Y) {k : Nat} (hk : k ≤ 40) (a b c d : Int32) (μ : Mu) : Ct l Y yMo_is wMo_is ({ frames := 1, cells := 0, slots := 0, locals := 22 }) [.ref (ad Y 0), .int (nI k), .int a, .int b, .int c, .int d] μ (PE (some (.int (bI (decide (eB μ k 0 = a) && (decide (eB μ k 1 = b) && (decide (eB μ k 2 = c) && decide (eB μ k 3 = d))))))) μ) := by
  refine ct_of hY.1 (by decide) rfl (Nat.le_of_ble_eq_true rfl) (lv := [some (.ref (ad Y 0)), some (.int (nI k)), some (.int a), some (.int b), some (.int c), some (.int d)]) rfl (fun X hC => ?_)
  have hB := hC.B
  obtain ⟨hMo, hAr⟩ := id hW
  refine v_aload_n hB dMo_is_0 rfl ?_
  refine v_iload_n hB dMo_is_1 rfl ?_
  refine v_iconst hB dMo_is_2 (v := 0) (by decide) ?_
  refine v_callV hC tbok kmMo_27 kiMo_part ksMo_part dMo_is_3 (F := FMo Y _) (by assumption) (by rw [hY.2]; rfl) (cMo_part (q := 0) hY hW hk (by decide) μ) rfl rfl ⟨Nat.le_of_ble_eq_true rfl, Nat.le_of_ble_eq_true rfl⟩ rfl rfl (Nat.le_of_ble_eq_true rfl) ⟨Nat.zero_le _, Nat.zero_le _⟩ (kE rfl ?_)
  refine v_iload_n hB dMo_is_6 rfl ?_
  refine v_icmp_ne hB 46 dMo_is_7 (by decide) (fun c0 => ?_) (fun c0 => ?_)
  · refine v_iconst hB dMo_is_46 (v := 0) (by decide) ?_
    exact v_zret hC rfl (by decide) dMo_is_47 ⟨congrArg (fun x => some (Value.int x)) (bI_ff (by simp [c0])), rfl⟩
  refine v_aload_n hB dMo_is_10 rfl ?_
  refine v_iload_n hB dMo_is_11 rfl ?_
  refine v_iconst hB dMo_is_12 (v := 1) (by decide) ?_
  refine v_callV hC tbok kmMo_27 kiMo_part ksMo_part dMo_is_13 (F := FMo Y _) (by assumption) (by rw [hY.2]; rfl) (cMo_part (q := 1) hY hW hk (by decide) μ) rfl rfl ⟨Nat.le_of_ble_eq_true rfl, Nat.le_of_ble_eq_true rfl⟩ rfl rfl (Nat.le_of_ble_eq_true rfl) ⟨Nat.zero_le _, Nat.zero_le _⟩ (kE rfl ?_)
  refine v_iload_n hB dMo_is_16 rfl ?_
  refine v_icmp_ne hB 46 dMo_is_17 (by decide) (fun c1 => ?_) (fun c1 => ?_)
  · refine v_iconst hB dMo_is_46 (v := 0) (by decide) ?_
    exact v_zret hC rfl (by decide) dMo_is_47 ⟨congrArg (fun x => some (Value.int x)) (bI_ff (by simp [c1])), rfl⟩
  refine v_aload_n hB dMo_is_20 rfl ?_
  refine v_iload_n hB dMo_is_21 rfl ?_
  refine v_iconst hB dMo_is_22 (v := 2) (by decide) ?_
  refine v_callV hC tbok kmMo_27 kiMo_part ksMo_part dMo_is_23 (F := FMo Y _) (by assumption) (by rw [hY.2]; rfl) (cMo_part (q := 2) hY hW hk (by decide) μ) rfl rfl ⟨Nat.le_of_ble_eq_true rfl, Nat.le_of_ble_eq_true rfl⟩ rfl rfl (Nat.le_of_ble_eq_true rfl) ⟨Nat.zero_le _, Nat.zero_le _⟩ (kE rfl ?_)
  refine v_iload hB dMo_is_26 rfl ?_
  refine v_icmp_ne hB 46 dMo_is_28 (by decide) (fun c2 => ?_) (fun c2 => ?_)
  · refine v_iconst hB dMo_is_46 (v := 0) (by decide) ?_
    exact v_zret hC rfl (by decide) dMo_is_47 ⟨congrArg (fun x => some (Value.int x)) (bI_ff (by simp [c2])), rfl⟩
  refine v_aload_n hB dMo_is_31 rfl ?_
  refine v_iload_n hB dMo_is_32 rfl ?_
  refine v_iconst hB dMo_is_33 (v := 3) (by decide) ?_
  refine v_callV hC tbok kmMo_27 kiMo_part ksMo_part dMo_is_34 (F := FMo Y _) (by assumption) (by rw [hY.2]; rfl) (cMo_part (q := 3) hY hW hk (by decide) μ) rfl rfl ⟨Nat.le_of_ble_eq_true rfl, Nat.le_of_ble_eq_true rfl⟩ rfl rfl (Nat.le_of_ble_eq_true rfl) ⟨Nat.zero_le _, Nat.zero_le _⟩ (kE rfl ?_)
  refine v_iload hB dMo_is_37 rfl ?_
  refine v_icmp_ne hB 46 dMo_is_39 (by decide) (fun c3 => ?_) (fun c3 => ?_)
  · refine v_iconst hB dMo_is_46 (v := 0) (by decide) ?_
    exact v_zret hC rfl (by decide) dMo_is_47 ⟨congrArg (fun x => some (Value.int x)) (bI_ff (by simp [c3])), rfl⟩
  refine v_iconst hB dMo_is_42 (v := 1) (by decide) ?_
  refine v_goto hB 47 dMo_is_43 (by decide) ?_
  exact v_zret hC rfl (by decide) dMo_is_47 ⟨congrArg (fun x => some (Value.int x)) (bI_t (by simp [c0, c1, c2, c3])), rfl⟩

set_option maxHeartbeats 4000000 in
set_option maxRecDepth 100000 in
theorem cMo_meets {l : Launch} {Y : Yt} (hY : YB Y) (hW : YM Y) {k : Nat} (hk : k ≤ 40) (a b c d : Int32) (μ : Mu) : Ct l Y yMo_meets wMo_meets ({ frames := 1, cells := 0, slots := 0, locals := 22 }) [.ref (ad Y 0), .int (nI k), .int a, .int b, .int c, .int d] μ (PE (some (.int (bI (meetB (eB μ k) (w5 a b c d 0))))) μ) := by
  refine ct_of hY.1 (by decide) rfl (Nat.le_of_ble_eq_true rfl) (lv := [some (.ref (ad Y 0)), some (.int (nI k)), some (.int a), some (.int b), some (.int c), some (.int d)]) rfl (fun X hC => ?_)
  have hB := hC.B
  obtain ⟨hMo, hAr⟩ := id hW
  refine v_aload_n hB dMo_meets_0 rfl ?_
  refine v_iload_n hB dMo_meets_1 rfl ?_
  refine v_iconst hB dMo_meets_2 (v := 0) (by decide) ?_
  refine v_callV hC tbok kmMo_27 kiMo_part ksMo_part dMo_meets_3 (F := FMo Y _) (by assumption) (by rw [hY.2]; rfl) (cMo_part (q := 0) hY hW hk (by decide) μ) rfl rfl ⟨Nat.le_of_ble_eq_true rfl, Nat.le_of_ble_eq_true rfl⟩ rfl rfl (Nat.le_of_ble_eq_true rfl) ⟨Nat.zero_le _, Nat.zero_le _⟩ (kE rfl ?_)
  refine v_iload hB dMo_meets_6 rfl ?_
  refine v_icmp_gt hB 46 dMo_meets_8 (by decide) (fun c0 => ?_) (fun c0 => ?_)
  · refine v_iconst hB dMo_meets_46 (v := 0) (by decide) ?_
    exact v_zret hC rfl (by decide) dMo_meets_47 ⟨congrArg (fun x => some (Value.int x)) (bI_ff (by simp only [meetB, w5]; simp [Int32.not_le.mpr c0])), rfl⟩
  refine v_aload_n hB dMo_meets_11 rfl ?_
  refine v_iload_n hB dMo_meets_12 rfl ?_
  refine v_iconst hB dMo_meets_13 (v := 2) (by decide) ?_
  refine v_callV hC tbok kmMo_27 kiMo_part ksMo_part dMo_meets_14 (F := FMo Y _) (by assumption) (by rw [hY.2]; rfl) (cMo_part (q := 2) hY hW hk (by decide) μ) rfl rfl ⟨Nat.le_of_ble_eq_true rfl, Nat.le_of_ble_eq_true rfl⟩ rfl rfl (Nat.le_of_ble_eq_true rfl) ⟨Nat.zero_le _, Nat.zero_le _⟩ (kE rfl ?_)
  refine v_iload_n hB dMo_meets_17 rfl ?_
  refine v_icmp_lt hB 46 dMo_meets_18 (by decide) (fun c1 => ?_) (fun c1 => ?_)
  · refine v_iconst hB dMo_meets_46 (v := 0) (by decide) ?_
    exact v_zret hC rfl (by decide) dMo_meets_47 ⟨congrArg (fun x => some (Value.int x)) (bI_ff (by simp only [meetB, w5]; simp [Int32.not_le.mpr c1])), rfl⟩
  refine v_aload_n hB dMo_meets_21 rfl ?_
  refine v_iload_n hB dMo_meets_22 rfl ?_
  refine v_iconst hB dMo_meets_23 (v := 1) (by decide) ?_
  refine v_callV hC tbok kmMo_27 kiMo_part ksMo_part dMo_meets_24 (F := FMo Y _) (by assumption) (by rw [hY.2]; rfl) (cMo_part (q := 1) hY hW hk (by decide) μ) rfl rfl ⟨Nat.le_of_ble_eq_true rfl, Nat.le_of_ble_eq_true rfl⟩ rfl rfl (Nat.le_of_ble_eq_true rfl) ⟨Nat.zero_le _, Nat.zero_le _⟩ (kE rfl ?_)
  refine v_iload hB dMo_meets_27 rfl ?_
  refine v_icmp_gt hB 46 dMo_meets_29 (by decide) (fun c2 => ?_) (fun c2 => ?_)
  · refine v_iconst hB dMo_meets_46 (v := 0) (by decide) ?_
    exact v_zret hC rfl (by decide) dMo_meets_47 ⟨congrArg (fun x => some (Value.int x)) (bI_ff (by simp only [meetB, w5]; simp [Int32.not_le.mpr c2])), rfl⟩
  refine v_aload_n hB dMo_meets_32 rfl ?_
  refine v_iload_n hB dMo_meets_33 rfl ?_
  refine v_iconst hB dMo_meets_34 (v := 3) (by decide) ?_
  refine v_callV hC tbok kmMo_27 kiMo_part ksMo_part dMo_meets_35 (F := FMo Y _) (by assumption) (by rw [hY.2]; rfl) (cMo_part (q := 3) hY hW hk (by decide) μ) rfl rfl ⟨Nat.le_of_ble_eq_true rfl, Nat.le_of_ble_eq_true rfl⟩ rfl rfl (Nat.le_of_ble_eq_true rfl) ⟨Nat.zero_le _, Nat.zero_le _⟩ (kE rfl ?_)
  refine v_iload_n hB dMo_meets_38 rfl ?_
  refine v_icmp_lt hB 46 dMo_meets_39 (by decide) (fun c3 => ?_) (fun c3 => ?_)
  · refine v_iconst hB dMo_meets_46 (v := 0) (by decide) ?_
    exact v_zret hC rfl (by decide) dMo_meets_47 ⟨congrArg (fun x => some (Value.int x)) (bI_ff (by simp only [meetB, w5]; simp [Int32.not_le.mpr c3])), rfl⟩
  refine v_iconst hB dMo_meets_42 (v := 1) (by decide) ?_
  refine v_goto hB 47 dMo_meets_43 (by decide) ?_
  exact v_zret hC rfl (by decide) dMo_meets_47 ⟨congrArg (fun x => some (Value.int x)) (bI_t (by simp only [meetB, w5]; simp [Int32.not_lt.mp c0, Int32.not_lt.mp c1, Int32.not_lt.mp c2, Int32.not_lt.mp c3])), rfl⟩

set_option maxHeartbeats 4000000 in
set_option maxRecDepth 100000 in
theorem cMo_meeting {l : Launch} {Y : Yt} (hY : YB Y) (hW : YM Y) {m : Nat} (a b c d n : Int32) (μ : Mu) (hm : μ.1 0 2 = nI m) (hm40 : m ≤ 40) : Ct l Y yMo_meeting wMo_meeting ({ frames := 2, cells := 0, slots := 0, locals := 47 }) [.ref (ad Y 0), .int a, .int b, .int c, .int d, .int n] μ (PE (some (.int (mtN μ m a b c d n))) μ) := by
  refine ct_of hY.1 (by decide) rfl (Nat.le_of_ble_eq_true rfl) (lv := [some (.ref (ad Y 0)), some (.int a), some (.int b), some (.int c), some (.int d), some (.int n), none, none]) rfl (fun X hC => ?_)
  have hB := hC.B
  obtain ⟨hMo, hAr⟩ := id hW
  have loop : ∀ (r k : Nat) (f : Int32), k + r = m → mtN μ m a b c d n = (if n < 0 then -1 else mtF μ a b c d r k f) → VG X (yA Y) 8 0 0 (VQ X Y (PE (some (.int (mtN μ m a b c d n))) μ)) (yI Y (μ)) 7 [some (.ref (ad Y 0)), some (.int a), some (.int b), some (.int c), some (.int d), some (.int n), some (.int f), some (.int (nI k))] [] := by
    intro r
    induction r with
    | zero =>
      intro k f hk hf
      refine v_iload hB dMo_meeting_7 rfl ?_
      refine v_aload_n hB dMo_meeting_9 rfl ?_
      refine v_get hC (klMo hY.2) (F := FMo Y _) (by assumption) 2 dMo_meeting_10 kfMo_38 (by decide) rfl ?_
      rw [hm]
      refine v_icmp_ge hB 52 dMo_meeting_13 (by decide) (fun e => ?_) (fun e => ?_)
      · refine v_iconst hB dMo_meeting_52 (v := -1) (by decide) ?_
        exact v_iret hC rfl dMo_meeting_53 ⟨by rw [hf]; split <;> rfl, rfl⟩
      exact absurd (nI_le (by omega) (by omega)) e
    | succ r ih =>
      intro k f hk hf
      refine v_iload hB dMo_meeting_7 rfl ?_
      refine v_aload_n hB dMo_meeting_9 rfl ?_
      refine v_get hC (klMo hY.2) (F := FMo Y _) (by assumption) 2 dMo_meeting_10 kfMo_38 (by decide) rfl ?_
      rw [hm]
      refine v_icmp_ge hB 52 dMo_meeting_13 (by decide) (fun e => ?_) (fun e => ?_)
      · exact absurd e (fun q => absurd ((nI_leI (by omega) (by omega)).mp q) (by omega))
      refine v_iload hB dMo_meeting_16 rfl ?_
      refine v_if_lt hB 52 dMo_meeting_18 (by decide) (fun e1 => ?_) (fun e1 => ?_)
      · refine v_iconst hB dMo_meeting_52 (v := -1) (by decide) ?_
        exact v_iret hC rfl dMo_meeting_53 ⟨by rw [hf, if_pos e1], rfl⟩
      refine v_aload_n hB dMo_meeting_21 rfl ?_
      refine v_iload hB dMo_meeting_22 rfl ?_
      refine v_iload_n hB dMo_meeting_24 rfl ?_
      refine v_iload_n hB dMo_meeting_25 rfl ?_
      refine v_iload_n hB dMo_meeting_26 rfl ?_
      refine v_iload hB dMo_meeting_27 rfl ?_
      refine v_callV hC tbok kmMo_65 kiMo_meets ksMo_meets dMo_meeting_29 (F := FMo Y _) (by assumption) (by rw [hY.2]; rfl) (cMo_meets hY hW (k := k) (by omega) a b c d μ) rfl rfl ⟨Nat.le_of_ble_eq_true rfl, Nat.le_of_ble_eq_true rfl⟩ rfl rfl (Nat.le_of_ble_eq_true rfl) ⟨Nat.zero_le _, Nat.zero_le _⟩ (kE rfl ?_)
      refine v_if_eq hB 46 dMo_meeting_32 (by decide) (fun e2 => ?_) (fun e2 => ?_)
      · refine v_iinc hB dMo_meeting_46 rfl (y := _) rfl rfl (by decide) (lv' := [_, _, _, _, _, _, _, _]) rfl ?_
        refine v_goto hB 7 dMo_meeting_49 (by decide) ?_
        rw [i1]
        exact ih (k + 1) f (by omega) (by rw [hf, if_neg e1, if_neg e1, mtF, if_neg (by rw [bI_0.mp e2]; decide)])
      refine v_iload hB dMo_meeting_35 rfl ?_
      refine v_if_ne hB 43 dMo_meeting_37 (by decide) (fun e3 => ?_) (fun e3 => ?_)
      · refine v_iinc hB dMo_meeting_43 rfl (y := _) rfl rfl (by decide) (lv' := [_, _, _, _, _, _, _, _]) rfl ?_
        refine v_iinc hB dMo_meeting_46 rfl (y := _) rfl rfl (by decide) (lv' := [_, _, _, _, _, _, _, _]) rfl ?_
        refine v_goto hB 7 dMo_meeting_49 (by decide) ?_
        rw [i1, im1]
        exact ih (k + 1) (f - 1) (by omega) (by rw [hf, if_neg e1, if_neg e1, mtF, if_pos (bI_n.mp e2), if_neg e3])
      refine v_iload hB dMo_meeting_40 rfl ?_
      exact v_iret hC rfl dMo_meeting_42 ⟨by rw [hf, if_neg e1, mtF, if_pos (bI_n.mp e2), if_pos e3], rfl⟩
  refine v_iload hB dMo_meeting_0 rfl ?_
  refine v_istore hB dMo_meeting_2 rfl (by decide) (lv' := [_, _, _, _, _, _, _, _]) rfl ?_
  refine v_iconst hB dMo_meeting_4 (v := 0) (by decide) ?_
  refine v_istore hB dMo_meeting_5 rfl (by decide) (lv' := [_, _, _, _, _, _, _, _]) rfl ?_
  exact loop m 0 n (by omega) rfl

set_option maxHeartbeats 4000000 in
set_option maxRecDepth 100000 in
theorem cMo_cut {l : Launch} {Y : Yt} (hY : YB Y) (hW : YM Y) (v : Int32) (μ : Mu) : Ct l Y yMo_cut wMo_cut ({ frames := 0, cells := 0, slots := 0, locals := 0 }) [.ref (ad Y 0), .int v] μ (PE (some (.int (bI (!(decide (v < -1) || decide (5 < v)))))) (if v < -1 ∨ 5 < v then μ else wi μ 0 1 v)) := by
  refine ct_of hY.1 (by decide) rfl (Nat.le_of_ble_eq_true rfl) (lv := [some (.ref (ad Y 0)), some (.int v)]) rfl (fun X hC => ?_)
  have hB := hC.B
  obtain ⟨hMo, hAr⟩ := id hW
  refine v_iload_n hB dMo_cut_0 rfl ?_
  refine v_iconst hB dMo_cut_1 (v := -1) (by decide) ?_
  refine v_icmp_lt hB 10 dMo_cut_2 (by decide) (fun c => ?_) (fun c => ?_)
  · refine v_iconst hB dMo_cut_10 (v := 0) (by decide) ?_
    exact v_zret hC rfl (by decide) dMo_cut_11 ⟨congrArg (fun x => some (Value.int x)) (bI_ff (by simp [c])), by rw [if_pos (Or.inl c)]⟩
  refine v_iload_n hB dMo_cut_5 rfl ?_
  refine v_iconst hB dMo_cut_6 (v := 5) (by decide) ?_
  refine v_icmp_le hB 12 dMo_cut_7 (by decide) (fun c1 => ?_) (fun c1 => ?_)
  rotate_left
  · refine v_iconst hB dMo_cut_10 (v := 0) (by decide) ?_
    exact v_zret hC rfl (by decide) dMo_cut_11 ⟨congrArg (fun x => some (Value.int x)) (bI_ff (by simp [Int32.not_le.mp c1])), by rw [if_pos (Or.inr (Int32.not_le.mp c1))]⟩
  refine v_aload_n hB dMo_cut_12 rfl ?_
  refine v_iload_n hB dMo_cut_13 rfl ?_
  refine v_puti hC (klMo hY.2) (F := FMo Y _) (by assumption) 1 dMo_cut_14 kfMo_13 (by decide) rfl rfl rfl (fun _ _ => rfl) (fun _ _ => Nat.le_of_ble_eq_true rfl) ?_
  refine v_iconst hB dMo_cut_17 (v := 1) (by decide) ?_
  exact v_zret hC rfl (by decide) dMo_cut_18 ⟨congrArg (fun x => some (Value.int x)) (bI_t (by simp [Int32.not_lt.mp c, c1])), by rw [if_neg (fun z => z.elim c (Int32.not_lt.mpr c1))]⟩

set_option maxHeartbeats 4000000 in
set_option maxRecDepth 100000 in
theorem cMo_stop {l : Launch} {Y : Yt} (hY : YB Y) (hW : YM Y) (μ : Mu) : Ct l Y yMo_stop wMo_stop ({ frames := 0, cells := 0, slots := 0, locals := 0 }) [.ref (ad Y 0)] μ (PE (some (.int (bI (!decide (μ.1 0 0 = 0))))) (if μ.1 0 0 = 0 then μ else wi μ 0 0 0)) := by
  refine ct_of hY.1 (by decide) rfl (Nat.le_of_ble_eq_true rfl) (lv := [some (.ref (ad Y 0))]) rfl (fun X hC => ?_)
  have hB := hC.B
  obtain ⟨hMo, hAr⟩ := id hW
  refine v_aload_n hB dMo_stop_0 rfl ?_
  refine v_get hC (klMo hY.2) (F := FMo Y _) (by assumption) 0 dMo_stop_1 kfMo_7 (by decide) rfl ?_
  refine v_if_ne hB 9 dMo_stop_4 (by decide) (fun c => ?_) (fun c => ?_)
  rotate_left
  · refine v_iconst hB dMo_stop_7 (v := 0) (by decide) ?_
    exact v_zret hC rfl (by decide) dMo_stop_8 ⟨congrArg (fun x => some (Value.int x)) (bI_ff (by simp [c])), by rw [if_pos c]⟩
  refine v_aload_n hB dMo_stop_9 rfl ?_
  refine v_iconst hB dMo_stop_10 (v := 0) (by decide) ?_
  refine v_puti hC (klMo hY.2) (F := FMo Y _) (by assumption) 0 dMo_stop_11 kfMo_7 (by decide) rfl (by decide) (by decide) (fun _ _ => rfl) (fun _ _ => Nat.le_of_ble_eq_true rfl) ?_
  refine v_iconst hB dMo_stop_14 (v := 1) (by decide) ?_
  exact v_zret hC rfl (by decide) dMo_stop_15 ⟨congrArg (fun x => some (Value.int x)) (bI_t (by simp [c])), by rw [if_neg c]⟩

set_option maxHeartbeats 4000000 in
set_option maxRecDepth 100000 in
theorem cMo_start {l : Launch} {Y : Yt} (hY : YB Y) (hW : YM Y) (μ : Mu) : Ct l Y yMo_start wMo_start ({ frames := 0, cells := 0, slots := 0, locals := 0 }) [.ref (ad Y 0)] μ (PE (some (.int (bI (decide (μ.1 0 0 = 0))))) (if μ.1 0 0 = 0 then wi μ 0 0 1 else μ)) := by
  refine ct_of hY.1 (by decide) rfl (Nat.le_of_ble_eq_true rfl) (lv := [some (.ref (ad Y 0))]) rfl (fun X hC => ?_)
  have hB := hC.B
  obtain ⟨hMo, hAr⟩ := id hW
  refine v_aload_n hB dMo_start_0 rfl ?_
  refine v_get hC (klMo hY.2) (F := FMo Y _) (by assumption) 0 dMo_start_1 kfMo_7 (by decide) rfl ?_
  refine v_if_eq hB 9 dMo_start_4 (by decide) (fun c => ?_) (fun c => ?_)
  rotate_left
  · refine v_iconst hB dMo_start_7 (v := 0) (by decide) ?_
    exact v_zret hC rfl (by decide) dMo_start_8 ⟨congrArg (fun x => some (Value.int x)) (bI_ff (by simp [c])), by rw [if_neg c]⟩
  refine v_aload_n hB dMo_start_9 rfl ?_
  refine v_iconst hB dMo_start_10 (v := 1) (by decide) ?_
  refine v_puti hC (klMo hY.2) (F := FMo Y _) (by assumption) 0 dMo_start_11 kfMo_7 (by decide) rfl (by decide) (by decide) (fun _ _ => rfl) (fun _ _ => Nat.le_of_ble_eq_true rfl) ?_
  refine v_iconst hB dMo_start_14 (v := 1) (by decide) ?_
  exact v_zret hC rfl (by decide) dMo_start_15 ⟨congrArg (fun x => some (Value.int x)) (bI_t (by simp [c])), by rw [if_pos c]⟩

set_option maxHeartbeats 4000000 in
set_option maxRecDepth 100000 in
theorem cMo_up {l : Launch} {Y : Yt} (hY : YB Y) (hW : YM Y) (μ : Mu) (ht : tB (μ.1 0 0)) : Ct l Y yMo_up wMo_up ({ frames := 0, cells := 0, slots := 0, locals := 0 }) [.ref (ad Y 0)] μ (PE (some (.int (μ.1 0 0))) μ) := by
  refine ct_of hY.1 (by decide) rfl (Nat.le_of_ble_eq_true rfl) (lv := [some (.ref (ad Y 0))]) rfl (fun X hC => ?_)
  have hB := hC.B
  obtain ⟨hMo, hAr⟩ := id hW
  refine v_aload_n hB dMo_up_0 rfl ?_
  refine v_get hC (klMo hY.2) (F := FMo Y _) (by assumption) 0 dMo_up_1 kfMo_7 (by decide) rfl ?_
  exact v_zret hC rfl (tB_z ht) dMo_up_4 ⟨rfl, rfl⟩

set_option maxHeartbeats 4000000 in
set_option maxRecDepth 100000 in
theorem cMo_sound {l : Launch} {Y : Yt} (hY : YB Y) (hW : YM Y) (μ : Mu) (ht : tB (μ.1 0 0)) : Ct l Y yMo_sound wMo_sound ({ frames := 0, cells := 0, slots := 0, locals := 0 }) [.ref (ad Y 0)] μ (PE (some (.int (μ.1 0 0))) μ) := by
  refine ct_of hY.1 (by decide) rfl (Nat.le_of_ble_eq_true rfl) (lv := [some (.ref (ad Y 0))]) rfl (fun X hC => ?_)
  have hB := hC.B
  obtain ⟨hMo, hAr⟩ := id hW
  refine v_aload_n hB dMo_sound_0 rfl ?_
  refine v_get hC (klMo hY.2) (F := FMo Y _) (by assumption) 0 dMo_sound_1 kfMo_7 (by decide) rfl ?_
  exact v_zret hC rfl (tB_z ht) dMo_sound_4 ⟨rfl, rfl⟩

set_option maxHeartbeats 4000000 in
set_option maxRecDepth 100000 in
theorem cMo_frugal {l : Launch} {Y : Yt} (hY : YB Y) (μ : Mu) : Ct l Y yMo_frugal wMo_frugal ({ frames := 0, cells := 0, slots := 0, locals := 0 }) [.ref (ad Y 0)] μ (PE (some (.int 1)) μ) := by
  refine ct_of hY.1 (by decide) rfl (Nat.le_of_ble_eq_true rfl) (lv := [some (.ref (ad Y 0))]) rfl (fun X hC => ?_)
  have hB := hC.B
  refine v_iconst hB dMo_frugal_0 (v := 1) (by decide) ?_
  exact v_zret hC rfl (by decide) dMo_frugal_1 ⟨rfl, rfl⟩

set_option maxHeartbeats 4000000 in
set_option maxRecDepth 100000 in
theorem cMo_size {l : Launch} {Y : Yt} (hY : YB Y) (hW : YM Y) (μ : Mu) : Ct l Y yMo_size wMo_size ({ frames := 0, cells := 0, slots := 0, locals := 0 }) [.ref (ad Y 0)] μ (PE (some (.int (if μ.1 0 0 = 0 then -3 else μ.1 0 2))) μ) := by
  refine ct_of hY.1 (by decide) rfl (Nat.le_of_ble_eq_true rfl) (lv := [some (.ref (ad Y 0))]) rfl (fun X hC => ?_)
  have hB := hC.B
  obtain ⟨hMo, hAr⟩ := id hW
  refine v_aload_n hB dMo_size_0 rfl ?_
  refine v_get hC (klMo hY.2) (F := FMo Y _) (by assumption) 0 dMo_size_1 kfMo_7 (by decide) rfl ?_
  refine v_if_eq hB 14 dMo_size_4 (by decide) (fun c => ?_) (fun c => ?_)
  · refine v_bipush hB dMo_size_14 (v := -3) (by decide) ?_
    exact v_iret hC rfl dMo_size_16 ⟨by rw [if_pos c], rfl⟩
  refine v_aload_n hB dMo_size_7 rfl ?_
  refine v_get hC (klMo hY.2) (F := FMo Y _) (by assumption) 2 dMo_size_8 kfMo_38 (by decide) rfl ?_
  refine v_goto hB 16 dMo_size_11 (by decide) ?_
  exact v_iret hC rfl dMo_size_16 ⟨by rw [if_neg c], rfl⟩

