/-! THE FACE. -/
def isNm (n : Int32) : Bool := decide (0 ≤ n) && decide (n ≤ 999)
def isCo (x : Int32) : Bool := decide (-1000000000 ≤ x) && decide (x ≤ 1000000000)
def isRc (a b c d : Int32) : Bool := isCo a && (isCo b && (isCo c && (isCo d && (decide (a ≤ c) && decide (b ≤ d)))))
def swW (μ : Mu) (a b c d : Int32) (K : Mu → Prop) : Prop := gaW (asg μ 4 a b c d 0) 4 K
def ntW (μ : Mu) (K : Mu → Prop) : Prop := lmW μ 4 (fun b ν => K (wi ν 0 5 (bI b)))
def spW (μ : Mu) (x y : Int32) (K : Mu → Prop) : Prop := apW μ x y (fun ν => lfW ν x y (fun b ν2 => K (wi ν2 0 5 (bI b))))
def lpM (μ : Mu) : Mu := wi (fgM μ) 0 4 0
def seW (μ : Mu) (a : Int32) (K : Int32 → Mu → Prop) : Prop := kpW (wi μ 0 6 (-1)) (μ.1 0 6) (fun b ν => if b = true then K a (muM ν) else K (-4) (lpM ν))
def inW (μ : Mu) (n a b c d : Int32) (K : Int32 → Mu → Prop) : Prop := if μ.1 0 4 = 0 then K (-3) μ else if isNm n = true ∧ isRc a b c d = true then (if 40 ≤ μ.1 2 1 then K (-2) μ else plW (asg μ 4 a b c d n) 4 (fun ν => seW ν (ν.1 2 1) K)) else K (-1) μ
def deW (μ : Mu) (n a b c d : Int32) (K : Int32 → Mu → Prop) : Prop := if μ.1 0 4 = 0 then K (-3) μ else if isNm n = true ∧ isRc a b c d = true then upW (asg μ 4 a b c d n) 4 (fun q ν => if q = true then seW ν (ν.1 2 1) K else K (-1) ν) else K (-1) μ
def tkW (μ : Mu) (a b c d : Int32) (K : Int32 → Mu → Prop) : Prop := if μ.1 0 4 = 0 then K (-3) μ else if isRc a b c d = true then swW μ a b c d (fun ν => if ν.1 3 1 = 0 then K (-1) ν else upW ν (fdI 0) (fun q ν2 => if q = true then seW ν2 (ν2.1 (fdI 0) 4) K else K (-1) ν2)) else K (-1) μ
def cuM (μ : Mu) (w : Int32) : Mu := if w < -1 ∨ 5 < w then μ else wi μ 0 6 w
def soW (μ : Mu) (K : Bool → Mu → Prop) : Prop := if μ.1 0 4 = 0 then K false μ else K true (lpM μ)
def saW (μ : Mu) (K : Bool → Mu → Prop) : Prop := if μ.1 0 4 = 0 then rcW μ (fun ν => rfW ν (fun ν2 => K true (wi ν2 0 4 1))) else K false μ
def coW (μ : Mu) (a b c d : Int32) (K : Int32 → Mu → Prop) : Prop := if μ.1 0 4 = 0 then K (-3) μ else if isRc a b c d = true then swW μ a b c d (fun ν => ntW ν (fun ν2 => K (ν2.1 3 1) ν2)) else K (-1) μ
def wnW (μ : Mu) (a b c d : Int32) (K : Int32 → Mu → Prop) : Prop := if μ.1 0 4 = 0 then K (-3) μ else if isRc a b c d = true then swW μ a b c d (fun ν => ntW ν (fun ν2 => ∃ h, h ≤ 40 ∧ ν2.1 3 1 = nI h ∧ K (nI (hiN ν2 4 h)) ν2)) else K (-1) μ
def pcW (μ : Mu) (a b c d k : Int32) (K : Int32 → Mu → Prop) : Prop := if μ.1 0 4 = 0 then K (-3) μ else if isRc a b c d = true then swW μ a b c d (fun ν => if k < 0 ∨ ¬ k < ν.1 3 1 then K (-1) ν else ntW ν (fun ν2 => ∃ j, j < 40 ∧ k = nI j ∧ K (ν2.1 (fdI j) 4) ν2)) else K (-1) μ
def diW (μ : Mu) (x y : Int32) (K : Int64 → Mu → Prop) : Prop := if μ.1 0 4 = 0 then K (-3) μ else if isCo x = true ∧ isCo y = true ∧ ¬ μ.1 2 1 = 0 then spW μ x y (fun ν => K (ν.2 3 3) ν) else K (-1) μ
def neW (μ : Mu) (x y : Int32) (K : Int32 → Mu → Prop) : Prop := if μ.1 0 4 = 0 then K (-3) μ else if isCo x = true ∧ isCo y = true ∧ ¬ μ.1 2 1 = 0 then spW μ x y (fun ν => K (ν.1 7 4) ν) else K (-1) μ
def sdN (ν : Mu) (s : Int32) : Int32 := if s = 0 then ν.1 4 0 else if s = 1 then ν.1 4 1 else if s = 2 then ν.1 4 2 else if s = 3 then ν.1 4 3 else 2000000000
def arW (μ : Mu) (s : Int32) (K : Int32 → Mu → Prop) : Prop := if μ.1 0 4 = 0 ∨ μ.1 2 1 = 0 then K 2000000000 μ else ∃ q u, q < 40 ∧ u ≤ 6 ∧ μ.1 2 0 = nI q ∧ μ.1 (pgI q) 1 = nI u ∧ K (sdN (frM μ q u (-1) 4) s) (frM μ q u (-1) 4)
def snW (μ : Mu) (K : Bool → Mu → Prop) : Prop := if μ.1 0 4 = 0 then K false μ else whW μ K
set_option maxHeartbeats 4000000 in
set_option maxRecDepth 100000 in
theorem cFa_isName {l : Launch} {Y : Yt} (hY : YB Y) (n : Int32) (μ : Mu) : Ct l Y yFa_isName wFa_isName ({ frames := 0, cells := 0, slots := 0, locals := 0 }) [.int n] μ (PE (some (.int (bI (isNm n)))) μ) := by
  refine ct_of hY.1 (by decide) rfl (Nat.le_of_ble_eq_true rfl) (lv := [some (.int n)]) rfl (fun X hC => ?_)
  have hB := hC.B
  refine v_iload_n hB dFa_isName_0 rfl ?_
  refine v_if_lt hB 15 dFa_isName_1 (by decide) (fun c => ?_) (fun c => ?_)
  · refine v_iconst hB dFa_isName_15 (v := 0) (by decide) ?_
    exact v_zret hC rfl (by decide) dFa_isName_16 ⟨congrArg (fun x => some (Value.int x)) (bI_ff (by simp only [isNm]; simp [Int32.not_le.mpr c])), rfl⟩
  refine v_iload_n hB dFa_isName_4 rfl ?_
  refine v_sipush hB dFa_isName_5 (v := 999) (by decide) ?_
  refine v_icmp_gt hB 15 dFa_isName_8 (by decide) (fun c1 => ?_) (fun c1 => ?_)
  · refine v_iconst hB dFa_isName_15 (v := 0) (by decide) ?_
    exact v_zret hC rfl (by decide) dFa_isName_16 ⟨congrArg (fun x => some (Value.int x)) (bI_ff (by simp only [isNm]; simp [Int32.not_le.mpr c1])), rfl⟩
  refine v_iconst hB dFa_isName_11 (v := 1) (by decide) ?_
  refine v_goto hB 16 dFa_isName_12 (by decide) ?_
  exact v_zret hC rfl (by decide) dFa_isName_16 ⟨congrArg (fun x => some (Value.int x)) (bI_t (by simp only [isNm]; simp [Int32.not_lt.mp c, Int32.not_lt.mp c1])), rfl⟩

set_option maxHeartbeats 4000000 in
set_option maxRecDepth 100000 in
theorem cFa_isCoordinate {l : Launch} {Y : Yt} (hY : YB Y) (n : Int32) (μ : Mu) : Ct l Y yFa_isCoordinate wFa_isCoordinate ({ frames := 0, cells := 0, slots := 0, locals := 0 }) [.int n] μ (PE (some (.int (bI (isCo n)))) μ) := by
  refine ct_of hY.1 (by decide) rfl (Nat.le_of_ble_eq_true rfl) (lv := [some (.int n)]) rfl (fun X hC => ?_)
  have hB := hC.B
  refine v_iload_n hB dFa_isCoordinate_0 rfl ?_
  refine v_ldc hC (v := -1000000000) kfFa_154 dFa_isCoordinate_1 ?_
  refine v_icmp_lt hB 16 dFa_isCoordinate_3 (by decide) (fun c => ?_) (fun c => ?_)
  · refine v_iconst hB dFa_isCoordinate_16 (v := 0) (by decide) ?_
    exact v_zret hC rfl (by decide) dFa_isCoordinate_17 ⟨congrArg (fun x => some (Value.int x)) (bI_ff (by simp only [isCo]; simp [Int32.not_le.mpr c])), rfl⟩
  refine v_iload_n hB dFa_isCoordinate_6 rfl ?_
  refine v_ldc hC (v := 1000000000) kfFa_155 dFa_isCoordinate_7 ?_
  refine v_icmp_gt hB 16 dFa_isCoordinate_9 (by decide) (fun c1 => ?_) (fun c1 => ?_)
  · refine v_iconst hB dFa_isCoordinate_16 (v := 0) (by decide) ?_
    exact v_zret hC rfl (by decide) dFa_isCoordinate_17 ⟨congrArg (fun x => some (Value.int x)) (bI_ff (by simp only [isCo]; simp [Int32.not_le.mpr c1])), rfl⟩
  refine v_iconst hB dFa_isCoordinate_12 (v := 1) (by decide) ?_
  refine v_goto hB 17 dFa_isCoordinate_13 (by decide) ?_
  exact v_zret hC rfl (by decide) dFa_isCoordinate_17 ⟨congrArg (fun x => some (Value.int x)) (bI_t (by simp only [isCo]; simp [Int32.not_lt.mp c, Int32.not_lt.mp c1])), rfl⟩

set_option maxHeartbeats 4000000 in
set_option maxRecDepth 100000 in
theorem cFa_isRectangle {l : Launch} {Y : Yt} (hY : YB Y) (a b c d : Int32) (μ : Mu) : Ct l Y yFa_isRectangle wFa_isRectangle ({ frames := 1, cells := 0, slots := 0, locals := 20 }) [.int a, .int b, .int c, .int d] μ (PE (some (.int (bI (isRc a b c d)))) μ) := by
  refine ct_of hY.1 (by decide) rfl (Nat.le_of_ble_eq_true rfl) (lv := [some (.int a), some (.int b), some (.int c), some (.int d)]) rfl (fun X hC => ?_)
  have hB := hC.B
  refine v_iload_n hB dFa_isRectangle_0 rfl ?_
  refine v_callS hC tbok kmFa_108 ktFa_isCoordinate dFa_isRectangle_1 (cFa_isCoordinate hY a μ) rfl rfl ⟨Nat.le_of_ble_eq_true rfl, Nat.le_of_ble_eq_true rfl⟩ rfl rfl (Nat.le_of_ble_eq_true rfl) ⟨Nat.zero_le _, Nat.zero_le _⟩ (kE rfl ?_)
  refine v_if_eq hB 42 dFa_isRectangle_4 (by decide) (fun e0 => ?_) (fun e0 => ?_)
  · refine v_iconst hB dFa_isRectangle_42 (v := 0) (by decide) ?_
    exact v_zret hC rfl (by decide) dFa_isRectangle_43 ⟨congrArg (fun x => some (Value.int x)) (bI_ff (by simp only [isRc]; simp [bI_0.mp e0])), rfl⟩
  refine v_iload_n hB dFa_isRectangle_7 rfl ?_
  refine v_callS hC tbok kmFa_108 ktFa_isCoordinate dFa_isRectangle_8 (cFa_isCoordinate hY b μ) rfl rfl ⟨Nat.le_of_ble_eq_true rfl, Nat.le_of_ble_eq_true rfl⟩ rfl rfl (Nat.le_of_ble_eq_true rfl) ⟨Nat.zero_le _, Nat.zero_le _⟩ (kE rfl ?_)
  refine v_if_eq hB 42 dFa_isRectangle_11 (by decide) (fun e1 => ?_) (fun e1 => ?_)
  · refine v_iconst hB dFa_isRectangle_42 (v := 0) (by decide) ?_
    exact v_zret hC rfl (by decide) dFa_isRectangle_43 ⟨congrArg (fun x => some (Value.int x)) (bI_ff (by simp only [isRc]; simp [bI_0.mp e1])), rfl⟩
  refine v_iload_n hB dFa_isRectangle_14 rfl ?_
  refine v_callS hC tbok kmFa_108 ktFa_isCoordinate dFa_isRectangle_15 (cFa_isCoordinate hY c μ) rfl rfl ⟨Nat.le_of_ble_eq_true rfl, Nat.le_of_ble_eq_true rfl⟩ rfl rfl (Nat.le_of_ble_eq_true rfl) ⟨Nat.zero_le _, Nat.zero_le _⟩ (kE rfl ?_)
  refine v_if_eq hB 42 dFa_isRectangle_18 (by decide) (fun e2 => ?_) (fun e2 => ?_)
  · refine v_iconst hB dFa_isRectangle_42 (v := 0) (by decide) ?_
    exact v_zret hC rfl (by decide) dFa_isRectangle_43 ⟨congrArg (fun x => some (Value.int x)) (bI_ff (by simp only [isRc]; simp [bI_0.mp e2])), rfl⟩
  refine v_iload_n hB dFa_isRectangle_21 rfl ?_
  refine v_callS hC tbok kmFa_108 ktFa_isCoordinate dFa_isRectangle_22 (cFa_isCoordinate hY d μ) rfl rfl ⟨Nat.le_of_ble_eq_true rfl, Nat.le_of_ble_eq_true rfl⟩ rfl rfl (Nat.le_of_ble_eq_true rfl) ⟨Nat.zero_le _, Nat.zero_le _⟩ (kE rfl ?_)
  refine v_if_eq hB 42 dFa_isRectangle_25 (by decide) (fun e3 => ?_) (fun e3 => ?_)
  · refine v_iconst hB dFa_isRectangle_42 (v := 0) (by decide) ?_
    exact v_zret hC rfl (by decide) dFa_isRectangle_43 ⟨congrArg (fun x => some (Value.int x)) (bI_ff (by simp only [isRc]; simp [bI_0.mp e3])), rfl⟩
  refine v_iload_n hB dFa_isRectangle_28 rfl ?_
  refine v_iload_n hB dFa_isRectangle_29 rfl ?_
  refine v_icmp_gt hB 42 dFa_isRectangle_30 (by decide) (fun e4 => ?_) (fun e4 => ?_)
  · refine v_iconst hB dFa_isRectangle_42 (v := 0) (by decide) ?_
    exact v_zret hC rfl (by decide) dFa_isRectangle_43 ⟨congrArg (fun x => some (Value.int x)) (bI_ff (by simp only [isRc]; simp [Int32.not_le.mpr e4])), rfl⟩
  refine v_iload_n hB dFa_isRectangle_33 rfl ?_
  refine v_iload_n hB dFa_isRectangle_34 rfl ?_
  refine v_icmp_gt hB 42 dFa_isRectangle_35 (by decide) (fun e5 => ?_) (fun e5 => ?_)
  · refine v_iconst hB dFa_isRectangle_42 (v := 0) (by decide) ?_
    exact v_zret hC rfl (by decide) dFa_isRectangle_43 ⟨congrArg (fun x => some (Value.int x)) (bI_ff (by simp only [isRc]; simp [Int32.not_le.mpr e5])), rfl⟩
  refine v_iconst hB dFa_isRectangle_38 (v := 1) (by decide) ?_
  refine v_goto hB 43 dFa_isRectangle_39 (by decide) ?_
  exact v_zret hC rfl (by decide) dFa_isRectangle_43 ⟨congrArg (fun x => some (Value.int x)) (bI_t (by simp only [isRc]; simp [bI_n.mp e0, bI_n.mp e1, bI_n.mp e2, bI_n.mp e3, Int32.not_lt.mp e4, Int32.not_lt.mp e5])), rfl⟩

set_option maxHeartbeats 4000000 in
set_option maxRecDepth 100000 in
theorem cFa_searchWindow {l : Launch} {Y : Yt} (hY : YB Y) (hW : YW Y) (a b c d : Int32) {μ : Mu} {K : Mu → Prop} (h : swW μ a b c d K) : Ct l Y yFa_searchWindow wFa_searchWindow ({ frames := 3, cells := 0, slots := 0, locals := 70 }) [.ref (ad Y 0), .int a, .int b, .int c, .int d] μ (PV K) := by
  refine ct_of hY.1 (by decide) rfl (Nat.le_of_ble_eq_true rfl) (lv := [some (.ref (ad Y 0)), some (.int a), some (.int b), some (.int c), some (.int d)]) rfl (fun X hC => ?_)
  have hB := hC.B
  obtain ⟨hFa, hDi, hTr, hSe, h4, h5, h6b, h7, h8, hpages, htrail, hturns, hplaces, hlog, hlp, hfound, hwait, hsq, hlk, hPg, hrow, hlrow, hfb⟩ := id hW
  refine v_aload_n hB dFa_searchWindow_0 rfl ?_
  refine v_get hC (klFa hY.2) (F := FFa Y _) (by assumption) 3 dFa_searchWindow_1 kfFa_33 (by decide) rfl ?_
  refine v_iload_n hB dFa_searchWindow_4 rfl ?_
  refine v_iload_n hB dFa_searchWindow_5 rfl ?_
  refine v_iload_n hB dFa_searchWindow_6 rfl ?_
  refine v_iload hB dFa_searchWindow_7 rfl ?_
  refine v_iconst hB dFa_searchWindow_9 (v := 0) (by decide) ?_
  refine v_callV hC tbok kmFa_59 kiBo_assign ksBo_assign dFa_searchWindow_10 (F := FBo Y _) (by assumption) (by rw [hY.2]; rfl) (cBo_assign hY h4 a b c d 0 μ) rfl rfl ⟨Nat.le_of_ble_eq_true rfl, Nat.le_of_ble_eq_true rfl⟩ rfl rfl (Nat.le_of_ble_eq_true rfl) ⟨Nat.zero_le _, Nat.zero_le _⟩ (kE rfl ?_)
  refine v_aload_n hB dFa_searchWindow_13 rfl ?_
  refine v_get hC (klFa hY.2) (F := FFa Y _) (by assumption) 2 dFa_searchWindow_14 kfFa_26 (by decide) rfl ?_
  refine v_aload_n hB dFa_searchWindow_17 rfl ?_
  refine v_get hC (klFa hY.2) (F := FFa Y _) (by assumption) 1 dFa_searchWindow_18 kfFa_19 (by decide) rfl ?_
  refine v_aload_n hB dFa_searchWindow_21 rfl ?_
  refine v_get hC (klFa hY.2) (F := FFa Y _) (by assumption) 3 dFa_searchWindow_22 kfFa_33 (by decide) rfl ?_
  refine v_callV hC tbok kmFa_156 kiSe_gather ksSe_gather dFa_searchWindow_25 (F := FSe Y _) (by assumption) (by rw [hY.2]; rfl) (cSe_gather hY hW h4 h) rfl rfl ⟨Nat.le_of_ble_eq_true rfl, Nat.le_of_ble_eq_true rfl⟩ rfl rfl (Nat.le_of_ble_eq_true rfl) ⟨Nat.zero_le _, Nat.zero_le _⟩ (kV fun ν h1 => ?_)
  exact v_vret hC rfl dFa_searchWindow_28 ⟨rfl, h1⟩

set_option maxHeartbeats 4000000 in
set_option maxRecDepth 100000 in
theorem cFa_noteThrift {l : Launch} {Y : Yt} (hY : YB Y) (hW : YW Y) {μ : Mu} {K : Mu → Prop} (h : ntW μ K) : Ct l Y yFa_noteThrift wFa_noteThrift ({ frames := 3, cells := 0, slots := 0, locals := 67 }) [.ref (ad Y 0)] μ (PV K) := by
  refine ct_of hY.1 (by decide) rfl (Nat.le_of_ble_eq_true rfl) (lv := [some (.ref (ad Y 0))]) rfl (fun X hC => ?_)
  have hB := hC.B
  obtain ⟨hFa, hDi, hTr, hSe, h4, h5, h6b, h7, h8, hpages, htrail, hturns, hplaces, hlog, hlp, hfound, hwait, hsq, hlk, hPg, hrow, hlrow, hfb⟩ := id hW
  refine v_aload_n hB dFa_noteThrift_0 rfl ?_
  refine v_aload_n hB dFa_noteThrift_1 rfl ?_
  refine v_get hC (klFa hY.2) (F := FFa Y _) (by assumption) 2 dFa_noteThrift_2 kfFa_26 (by decide) rfl ?_
  refine v_aload_n hB dFa_noteThrift_5 rfl ?_
  refine v_get hC (klFa hY.2) (F := FFa Y _) (by assumption) 1 dFa_noteThrift_6 kfFa_19 (by decide) rfl ?_
  refine v_aload_n hB dFa_noteThrift_9 rfl ?_
  refine v_get hC (klFa hY.2) (F := FFa Y _) (by assumption) 3 dFa_noteThrift_10 kfFa_33 (by decide) rfl ?_
  refine v_callV hC tbok kmFa_160 kiSe_lookedOnlyWhereMet ksSe_lookedOnlyWhereMet dFa_noteThrift_13 (F := FSe Y _) (by assumption) (by rw [hY.2]; rfl) (cSe_lookedOnlyWhereMet hY hW h4 h) rfl rfl ⟨Nat.le_of_ble_eq_true rfl, Nat.le_of_ble_eq_true rfl⟩ rfl rfl (Nat.le_of_ble_eq_true rfl) ⟨Nat.zero_le _, Nat.zero_le _⟩ (kB fun b ν h1 => ?_)
  refine v_puti hC (klFa hY.2) (F := FFa Y _) (by assumption) 5 dFa_noteThrift_16 kfFa_41 (by decide) rfl (bI_z b) (bI_f b) (fun _ _ => rfl) (fun _ _ => Nat.le_of_ble_eq_true rfl) ?_
  exact v_vret hC rfl dFa_noteThrift_19 ⟨rfl, h1⟩

set_option maxHeartbeats 4000000 in
set_option maxRecDepth 100000 in
theorem cFa_searchPoint {l : Launch} {Y : Yt} (hY : YB Y) (hW : YW Y) (x y : Int32) {μ : Mu} {K : Mu → Prop} (h : spW μ x y K) : Ct l Y yFa_searchPoint wFa_searchPoint ({ frames := 3, cells := 0, slots := 0, locals := 74 }) [.ref (ad Y 0), .int x, .int y] μ (PV K) := by
  refine ct_of hY.1 (by decide) rfl (Nat.le_of_ble_eq_true rfl) (lv := [some (.ref (ad Y 0)), some (.int x), some (.int y)]) rfl (fun X hC => ?_)
  have hB := hC.B
  obtain ⟨hFa, hDi, hTr, hSe, h4, h5, h6b, h7, h8, hpages, htrail, hturns, hplaces, hlog, hlp, hfound, hwait, hsq, hlk, hPg, hrow, hlrow, hfb⟩ := id hW
  refine v_aload_n hB dFa_searchPoint_0 rfl ?_
  refine v_get hC (klFa hY.2) (F := FFa Y _) (by assumption) 2 dFa_searchPoint_1 kfFa_26 (by decide) rfl ?_
  refine v_aload_n hB dFa_searchPoint_4 rfl ?_
  refine v_get hC (klFa hY.2) (F := FFa Y _) (by assumption) 1 dFa_searchPoint_5 kfFa_19 (by decide) rfl ?_
  refine v_iload_n hB dFa_searchPoint_8 rfl ?_
  refine v_iload_n hB dFa_searchPoint_9 rfl ?_
  refine v_callV hC tbok kmFa_164 kiSe_approach ksSe_approach dFa_searchPoint_10 (F := FSe Y _) (by assumption) (by rw [hY.2]; rfl) (cSe_approach hY hW x y h) rfl rfl ⟨Nat.le_of_ble_eq_true rfl, Nat.le_of_ble_eq_true rfl⟩ rfl rfl (Nat.le_of_ble_eq_true rfl) ⟨Nat.zero_le _, Nat.zero_le _⟩ (kV fun ν h1 => ?_)
  refine v_aload_n hB dFa_searchPoint_13 rfl ?_
  refine v_aload_n hB dFa_searchPoint_14 rfl ?_
  refine v_get hC (klFa hY.2) (F := FFa Y _) (by assumption) 2 dFa_searchPoint_15 kfFa_26 (by decide) rfl ?_
  refine v_aload_n hB dFa_searchPoint_18 rfl ?_
  refine v_get hC (klFa hY.2) (F := FFa Y _) (by assumption) 1 dFa_searchPoint_19 kfFa_19 (by decide) rfl ?_
  refine v_iload_n hB dFa_searchPoint_22 rfl ?_
  refine v_iload_n hB dFa_searchPoint_23 rfl ?_
  refine v_callV hC tbok kmFa_168 kiSe_lookedNoFarther ksSe_lookedNoFarther dFa_searchPoint_24 (F := FSe Y _) (by assumption) (by rw [hY.2]; rfl) (cSe_lookedNoFarther hY hW x y h1) rfl rfl ⟨Nat.le_of_ble_eq_true rfl, Nat.le_of_ble_eq_true rfl⟩ rfl rfl (Nat.le_of_ble_eq_true rfl) ⟨Nat.zero_le _, Nat.zero_le _⟩ (kB fun b ν2 h2 => ?_)
  refine v_puti hC (klFa hY.2) (F := FFa Y _) (by assumption) 5 dFa_searchPoint_27 kfFa_41 (by decide) rfl (bI_z b) (bI_f b) (fun _ _ => rfl) (fun _ _ => Nat.le_of_ble_eq_true rfl) ?_
  exact v_vret hC rfl dFa_searchPoint_30 ⟨rfl, h2⟩

set_option maxHeartbeats 4000000 in
set_option maxRecDepth 100000 in
theorem cFa_losePower {l : Launch} {Y : Yt} (hY : YB Y) (hW : YW Y) (μ : Mu) : Ct l Y yFa_losePower wFa_losePower ({ frames := 2, cells := 0, slots := 0, locals := 42 }) [.ref (ad Y 0)] μ (PE none (lpM μ)) := by
  refine ct_of hY.1 (by decide) rfl (Nat.le_of_ble_eq_true rfl) (lv := [some (.ref (ad Y 0))]) rfl (fun X hC => ?_)
  have hB := hC.B
  obtain ⟨hFa, hDi, hTr, hSe, h4, h5, h6b, h7, h8, hpages, htrail, hturns, hplaces, hlog, hlp, hfound, hwait, hsq, hlk, hPg, hrow, hlrow, hfb⟩ := id hW
  refine v_aload_n hB dFa_losePower_0 rfl ?_
  refine v_get hC (klFa hY.2) (F := FFa Y _) (by assumption) 1 dFa_losePower_1 kfFa_19 (by decide) rfl ?_
  refine v_callV hC tbok kmFa_179 kiTr_forget ksTr_forget dFa_losePower_4 (F := FTr Y _) (by assumption) (by rw [hY.2]; rfl) (cTr_forget hY hW μ) rfl rfl ⟨Nat.le_of_ble_eq_true rfl, Nat.le_of_ble_eq_true rfl⟩ rfl rfl (Nat.le_of_ble_eq_true rfl) ⟨Nat.zero_le _, Nat.zero_le _⟩ (kE rfl ?_)
  refine v_aload_n hB dFa_losePower_7 rfl ?_
  refine v_iconst hB dFa_losePower_8 (v := 0) (by decide) ?_
  refine v_puti hC (klFa hY.2) (F := FFa Y _) (by assumption) 4 dFa_losePower_9 kfFa_37 (by decide) rfl (by decide) (by decide) (fun _ _ => rfl) (fun _ _ => Nat.le_of_ble_eq_true rfl) ?_
  exact v_vret hC rfl dFa_losePower_12 ⟨rfl, rfl⟩

set_option maxHeartbeats 4000000 in
set_option maxRecDepth 100000 in
theorem cFa_settle {l : Launch} {Y : Yt} (hY : YB Y) (hW : YW Y) (a : Int32) {μ : Mu} {K : Int32 → Mu → Prop} (h : seW μ a K) : Ct l Y yFa_settle wFa_settle ({ frames := 4, cells := 0, slots := 0, locals := 91 }) [.ref (ad Y 0), .int a] μ (PI K) := by
  refine ct_of hY.1 (by decide) rfl (Nat.le_of_ble_eq_true rfl) (lv := [some (.ref (ad Y 0)), some (.int a), none]) rfl (fun X hC => ?_)
  have hB := hC.B
  obtain ⟨hFa, hDi, hTr, hSe, h4, h5, h6b, h7, h8, hpages, htrail, hturns, hplaces, hlog, hlp, hfound, hwait, hsq, hlk, hPg, hrow, hlrow, hfb⟩ := id hW
  refine v_aload_n hB dFa_settle_0 rfl ?_
  refine v_get hC (klFa hY.2) (F := FFa Y _) (by assumption) 6 dFa_settle_1 kfFa_44 (by decide) rfl ?_
  refine v_istore_n hB dFa_settle_4 rfl (by decide) (lv' := [_, _, _]) rfl ?_
  refine v_aload_n hB dFa_settle_5 rfl ?_
  refine v_iconst hB dFa_settle_6 (v := -1) (by decide) ?_
  refine v_puti hC (klFa hY.2) (F := FFa Y _) (by assumption) 6 dFa_settle_7 kfFa_44 (by decide) rfl rfl rfl (fun _ _ => rfl) (fun _ _ => Nat.le_of_ble_eq_true rfl) ?_
  refine v_aload_n hB dFa_settle_10 rfl ?_
  refine v_get hC (klFa hY.2) (F := FFa Y _) (by assumption) 0 dFa_settle_11 kfFa_12 (by decide) rfl ?_
  refine v_aload_n hB dFa_settle_14 rfl ?_
  refine v_get hC (klFa hY.2) (F := FFa Y _) (by assumption) 1 dFa_settle_15 kfFa_19 (by decide) rfl ?_
  refine v_iload_n hB dFa_settle_18 rfl ?_
  refine v_callV hC tbok kmFa_172 kiDi_keep ksDi_keep dFa_settle_19 (F := FDi Y _) (by assumption) (by rw [hY.2]; rfl) (cDi_keep hY hW h) rfl rfl ⟨Nat.le_of_ble_eq_true rfl, Nat.le_of_ble_eq_true rfl⟩ rfl rfl (Nat.le_of_ble_eq_true rfl) ⟨Nat.zero_le _, Nat.zero_le _⟩ (kB fun b ν h1 => ?_)
  refine v_if_eq hB 34 dFa_settle_22 (by decide) (fun c => ?_) (fun c => ?_)
  · rw [if_neg (by rw [bI_0.mp c]; decide)] at h1
    refine v_aload_n hB dFa_settle_34 rfl ?_
    refine v_callV hC tbok kmFa_89 kiFa_losePower ksFa_losePower dFa_settle_35 (F := FFa Y _) (by assumption) (by rw [hY.2]; rfl) (cFa_losePower hY hW ν) rfl rfl ⟨Nat.le_of_ble_eq_true rfl, Nat.le_of_ble_eq_true rfl⟩ rfl rfl (Nat.le_of_ble_eq_true rfl) ⟨Nat.zero_le _, Nat.zero_le _⟩ (kE rfl ?_)
    refine v_bipush hB dFa_settle_38 (v := -4) (by decide) ?_
    exact v_iret hC rfl dFa_settle_40 ⟨_, rfl, h1⟩
  rw [if_pos (bI_n.mp c)] at h1
  refine v_aload_n hB dFa_settle_25 rfl ?_
  refine v_get hC (klFa hY.2) (F := FFa Y _) (by assumption) 1 dFa_settle_26 kfFa_19 (by decide) rfl ?_
  refine v_callV hC tbok kmFa_176 kiTr_markUnchanged ksTr_markUnchanged dFa_settle_29 (F := FTr Y _) (by assumption) (by rw [hY.2]; rfl) (cTr_markUnchanged hY hW ν) rfl rfl ⟨Nat.le_of_ble_eq_true rfl, Nat.le_of_ble_eq_true rfl⟩ rfl rfl (Nat.le_of_ble_eq_true rfl) ⟨Nat.zero_le _, Nat.zero_le _⟩ (kE rfl ?_)
  refine v_iload_n hB dFa_settle_32 rfl ?_
  exact v_iret hC rfl dFa_settle_33 ⟨_, rfl, h1⟩

set_option maxHeartbeats 4000000 in
set_option maxRecDepth 100000 in
theorem cFa_insert {l : Launch} {Y : Yt} (hY : YB Y) (hW : YW Y) (n a b c d : Int32) {μ : Mu} {K : Int32 → Mu → Prop} (h : inW μ n a b c d K) : Ct l Y yFa_insert wFa_insert ({ frames := 6, cells := 0, slots := 0, locals := 146 }) [.ref (ad Y 0), .int n, .int a, .int b, .int c, .int d] μ (PI K) := by
  refine ct_of hY.1 (by decide) rfl (Nat.le_of_ble_eq_true rfl) (lv := [some (.ref (ad Y 0)), some (.int n), some (.int a), some (.int b), some (.int c), some (.int d)]) rfl (fun X hC => ?_)
  have hB := hC.B
  obtain ⟨hFa, hDi, hTr, hSe, h4, h5, h6b, h7, h8, hpages, htrail, hturns, hplaces, hlog, hlp, hfound, hwait, hsq, hlk, hPg, hrow, hlrow, hfb⟩ := id hW
  refine v_aload_n hB dFa_insert_0 rfl ?_
  refine v_get hC (klFa hY.2) (F := FFa Y _) (by assumption) 4 dFa_insert_1 kfFa_37 (by decide) rfl ?_
  refine v_if_ne hB 10 dFa_insert_4 (by decide) (fun c0 => ?_) (fun c0 => ?_)
  rotate_left
  · rw [inW, if_pos c0] at h
    refine v_bipush hB dFa_insert_7 (v := -3) (by decide) ?_
    exact v_iret hC rfl dFa_insert_9 ⟨_, rfl, h⟩
  rw [inW, if_neg c0] at h
  refine v_iload_n hB dFa_insert_10 rfl ?_
  refine v_callS hC tbok kmFa_48 ktFa_isName dFa_insert_11 (cFa_isName hY n μ) rfl rfl ⟨Nat.le_of_ble_eq_true rfl, Nat.le_of_ble_eq_true rfl⟩ rfl rfl (Nat.le_of_ble_eq_true rfl) ⟨Nat.zero_le _, Nat.zero_le _⟩ (kE rfl ?_)
  refine v_if_eq hB 29 dFa_insert_14 (by decide) (fun c1 => ?_) (fun c1 => ?_)
  · rw [if_neg (fun z => by rw [bI_0.mp c1] at z; exact absurd z.1 (by decide))] at h
    refine v_iconst hB dFa_insert_29 (v := -1) (by decide) ?_
    exact v_iret hC rfl dFa_insert_30 ⟨_, rfl, h⟩
  refine v_iload_n hB dFa_insert_17 rfl ?_
  refine v_iload_n hB dFa_insert_18 rfl ?_
  refine v_iload hB dFa_insert_19 rfl ?_
  refine v_iload hB dFa_insert_21 rfl ?_
  refine v_callS hC tbok kmFa_52 ktFa_isRectangle dFa_insert_23 (cFa_isRectangle hY a b c d μ) rfl rfl ⟨Nat.le_of_ble_eq_true rfl, Nat.le_of_ble_eq_true rfl⟩ rfl rfl (Nat.le_of_ble_eq_true rfl) ⟨Nat.zero_le _, Nat.zero_le _⟩ (kE rfl ?_)
  refine v_if_ne hB 31 dFa_insert_26 (by decide) (fun c2 => ?_) (fun c2 => ?_)
  rotate_left
  · rw [if_neg (fun z => by rw [bI_0.mp c2] at z; exact absurd z.2 (by decide))] at h
    refine v_iconst hB dFa_insert_29 (v := -1) (by decide) ?_
    exact v_iret hC rfl dFa_insert_30 ⟨_, rfl, h⟩
  rw [if_pos ⟨bI_n.mp c1, bI_n.mp c2⟩] at h
  refine v_aload_n hB dFa_insert_31 rfl ?_
  refine v_get hC (klFa hY.2) (F := FFa Y _) (by assumption) 1 dFa_insert_32 kfFa_19 (by decide) rfl ?_
  refine v_get hC (klTr hY.2) (F := FTr Y _) (by assumption) 1 dFa_insert_35 kfFa_56 (by decide) rfl ?_
  refine v_bipush hB dFa_insert_38 (v := 40) (by decide) ?_
  refine v_icmp_lt hB 46 dFa_insert_40 (by decide) (fun c3 => ?_) (fun c3 => ?_)
  rotate_left
  · rw [if_pos (Int32.not_lt.mp c3)] at h
    refine v_bipush hB dFa_insert_43 (v := -2) (by decide) ?_
    exact v_iret hC rfl dFa_insert_45 ⟨_, rfl, h⟩
  rw [if_neg (Int32.not_le.mpr c3)] at h
  refine v_aload_n hB dFa_insert_46 rfl ?_
  refine v_get hC (klFa hY.2) (F := FFa Y _) (by assumption) 3 dFa_insert_47 kfFa_33 (by decide) rfl ?_
  refine v_iload_n hB dFa_insert_50 rfl ?_
  refine v_iload_n hB dFa_insert_51 rfl ?_
  refine v_iload hB dFa_insert_52 rfl ?_
  refine v_iload hB dFa_insert_54 rfl ?_
  refine v_iload_n hB dFa_insert_56 rfl ?_
  refine v_callV hC tbok kmFa_59 kiBo_assign ksBo_assign dFa_insert_57 (F := FBo Y _) (by assumption) (by rw [hY.2]; rfl) (cBo_assign hY h4 a b c d n μ) rfl rfl ⟨Nat.le_of_ble_eq_true rfl, Nat.le_of_ble_eq_true rfl⟩ rfl rfl (Nat.le_of_ble_eq_true rfl) ⟨Nat.zero_le _, Nat.zero_le _⟩ (kE rfl ?_)
  refine v_aload_n hB dFa_insert_60 rfl ?_
  refine v_get hC (klFa hY.2) (F := FFa Y _) (by assumption) 1 dFa_insert_61 kfFa_19 (by decide) rfl ?_
  refine v_aload_n hB dFa_insert_64 rfl ?_
  refine v_get hC (klFa hY.2) (F := FFa Y _) (by assumption) 3 dFa_insert_65 kfFa_33 (by decide) rfl ?_
  refine v_callV hC tbok kmFa_63 kiTr_plant ksTr_plant dFa_insert_68 (F := FTr Y _) (by assumption) (by rw [hY.2]; rfl) (cTr_plant hY hW h4 h) rfl rfl ⟨Nat.le_of_ble_eq_true rfl, Nat.le_of_ble_eq_true rfl⟩ rfl rfl (Nat.le_of_ble_eq_true rfl) ⟨Nat.zero_le _, Nat.zero_le _⟩ (kV fun ν h1 => ?_)
  refine v_aload_n hB dFa_insert_71 rfl ?_
  refine v_aload_n hB dFa_insert_72 rfl ?_
  refine v_get hC (klFa hY.2) (F := FFa Y _) (by assumption) 1 dFa_insert_73 kfFa_19 (by decide) rfl ?_
  refine v_get hC (klTr hY.2) (F := FTr Y _) (by assumption) 1 dFa_insert_76 kfFa_56 (by decide) rfl ?_
  refine v_callV hC tbok kmFa_67 kiFa_settle ksFa_settle dFa_insert_79 (F := FFa Y _) (by assumption) (by rw [hY.2]; rfl) (cFa_settle hY hW _ h1) rfl rfl ⟨Nat.le_of_ble_eq_true rfl, Nat.le_of_ble_eq_true rfl⟩ rfl rfl (Nat.le_of_ble_eq_true rfl) ⟨Nat.zero_le _, Nat.zero_le _⟩ (kI fun x ν2 h2 => ?_)
  exact v_iret hC rfl dFa_insert_82 ⟨_, rfl, h2⟩

set_option maxHeartbeats 4000000 in
set_option maxRecDepth 100000 in
theorem cFa_delete {l : Launch} {Y : Yt} (hY : YB Y) (hW : YW Y) (n a b c d : Int32) {μ : Mu} {K : Int32 → Mu → Prop} (h : deW μ n a b c d K) : Ct l Y yFa_delete wFa_delete ({ frames := 8, cells := 0, slots := 0, locals := 199 }) [.ref (ad Y 0), .int n, .int a, .int b, .int c, .int d] μ (PI K) := by
  refine ct_of hY.1 (by decide) rfl (Nat.le_of_ble_eq_true rfl) (lv := [some (.ref (ad Y 0)), some (.int n), some (.int a), some (.int b), some (.int c), some (.int d)]) rfl (fun X hC => ?_)
  have hB := hC.B
  obtain ⟨hFa, hDi, hTr, hSe, h4, h5, h6b, h7, h8, hpages, htrail, hturns, hplaces, hlog, hlp, hfound, hwait, hsq, hlk, hPg, hrow, hlrow, hfb⟩ := id hW
  refine v_aload_n hB dFa_delete_0 rfl ?_
  refine v_get hC (klFa hY.2) (F := FFa Y _) (by assumption) 4 dFa_delete_1 kfFa_37 (by decide) rfl ?_
  refine v_if_ne hB 10 dFa_delete_4 (by decide) (fun c0 => ?_) (fun c0 => ?_)
  rotate_left
  · rw [deW, if_pos c0] at h
    refine v_bipush hB dFa_delete_7 (v := -3) (by decide) ?_
    exact v_iret hC rfl dFa_delete_9 ⟨_, rfl, h⟩
  rw [deW, if_neg c0] at h
  refine v_iload_n hB dFa_delete_10 rfl ?_
  refine v_callS hC tbok kmFa_48 ktFa_isName dFa_delete_11 (cFa_isName hY n μ) rfl rfl ⟨Nat.le_of_ble_eq_true rfl, Nat.le_of_ble_eq_true rfl⟩ rfl rfl (Nat.le_of_ble_eq_true rfl) ⟨Nat.zero_le _, Nat.zero_le _⟩ (kE rfl ?_)
  refine v_if_eq hB 29 dFa_delete_14 (by decide) (fun c1 => ?_) (fun c1 => ?_)
  · rw [if_neg (fun z => by rw [bI_0.mp c1] at z; exact absurd z.1 (by decide))] at h
    refine v_iconst hB dFa_delete_29 (v := -1) (by decide) ?_
    exact v_iret hC rfl dFa_delete_30 ⟨_, rfl, h⟩
  refine v_iload_n hB dFa_delete_17 rfl ?_
  refine v_iload_n hB dFa_delete_18 rfl ?_
  refine v_iload hB dFa_delete_19 rfl ?_
  refine v_iload hB dFa_delete_21 rfl ?_
  refine v_callS hC tbok kmFa_52 ktFa_isRectangle dFa_delete_23 (cFa_isRectangle hY a b c d μ) rfl rfl ⟨Nat.le_of_ble_eq_true rfl, Nat.le_of_ble_eq_true rfl⟩ rfl rfl (Nat.le_of_ble_eq_true rfl) ⟨Nat.zero_le _, Nat.zero_le _⟩ (kE rfl ?_)
  refine v_if_ne hB 31 dFa_delete_26 (by decide) (fun c2 => ?_) (fun c2 => ?_)
  rotate_left
  · rw [if_neg (fun z => by rw [bI_0.mp c2] at z; exact absurd z.2 (by decide))] at h
    refine v_iconst hB dFa_delete_29 (v := -1) (by decide) ?_
    exact v_iret hC rfl dFa_delete_30 ⟨_, rfl, h⟩
  rw [if_pos ⟨bI_n.mp c1, bI_n.mp c2⟩] at h
  refine v_aload_n hB dFa_delete_31 rfl ?_
  refine v_get hC (klFa hY.2) (F := FFa Y _) (by assumption) 3 dFa_delete_32 kfFa_33 (by decide) rfl ?_
  refine v_iload_n hB dFa_delete_35 rfl ?_
  refine v_iload_n hB dFa_delete_36 rfl ?_
  refine v_iload hB dFa_delete_37 rfl ?_
  refine v_iload hB dFa_delete_39 rfl ?_
  refine v_iload_n hB dFa_delete_41 rfl ?_
  refine v_callV hC tbok kmFa_59 kiBo_assign ksBo_assign dFa_delete_42 (F := FBo Y _) (by assumption) (by rw [hY.2]; rfl) (cBo_assign hY h4 a b c d n μ) rfl rfl ⟨Nat.le_of_ble_eq_true rfl, Nat.le_of_ble_eq_true rfl⟩ rfl rfl (Nat.le_of_ble_eq_true rfl) ⟨Nat.zero_le _, Nat.zero_le _⟩ (kE rfl ?_)
  refine v_aload_n hB dFa_delete_45 rfl ?_
  refine v_get hC (klFa hY.2) (F := FFa Y _) (by assumption) 1 dFa_delete_46 kfFa_19 (by decide) rfl ?_
  refine v_aload_n hB dFa_delete_49 rfl ?_
  refine v_get hC (klFa hY.2) (F := FFa Y _) (by assumption) 3 dFa_delete_50 kfFa_33 (by decide) rfl ?_
  refine v_callV hC tbok kmFa_71 kiTr_uproot ksTr_uproot dFa_delete_53 (F := FTr Y _) (by assumption) (by rw [hY.2]; rfl) (cTr_uproot hY hW h4 h) rfl rfl ⟨Nat.le_of_ble_eq_true rfl, Nat.le_of_ble_eq_true rfl⟩ rfl rfl (Nat.le_of_ble_eq_true rfl) ⟨Nat.zero_le _, Nat.zero_le _⟩ (kB fun q ν h1 => ?_)
  refine v_if_eq hB 73 dFa_delete_56 (by decide) (fun c3 => ?_) (fun c3 => ?_)
  · rw [if_neg (by rw [bI_0.mp c3]; decide)] at h1
    refine v_iconst hB dFa_delete_73 (v := -1) (by decide) ?_
    exact v_iret hC rfl dFa_delete_74 ⟨_, rfl, h1⟩
  rw [if_pos (bI_n.mp c3)] at h1
  refine v_aload_n hB dFa_delete_59 rfl ?_
  refine v_aload_n hB dFa_delete_60 rfl ?_
  refine v_get hC (klFa hY.2) (F := FFa Y _) (by assumption) 1 dFa_delete_61 kfFa_19 (by decide) rfl ?_
  refine v_get hC (klTr hY.2) (F := FTr Y _) (by assumption) 1 dFa_delete_64 kfFa_56 (by decide) rfl ?_
  refine v_callV hC tbok kmFa_67 kiFa_settle ksFa_settle dFa_delete_67 (F := FFa Y _) (by assumption) (by rw [hY.2]; rfl) (cFa_settle hY hW _ h1) rfl rfl ⟨Nat.le_of_ble_eq_true rfl, Nat.le_of_ble_eq_true rfl⟩ rfl rfl (Nat.le_of_ble_eq_true rfl) ⟨Nat.zero_le _, Nat.zero_le _⟩ (kI fun x ν2 h2 => ?_)
  refine v_goto hB 74 dFa_delete_70 (by decide) ?_
  exact v_iret hC rfl dFa_delete_74 ⟨_, rfl, h2⟩

set_option maxHeartbeats 4000000 in
set_option maxRecDepth 100000 in
theorem cFa_take {l : Launch} {Y : Yt} (hY : YB Y) (hW : YW Y) (a b c d : Int32) {μ : Mu} {K : Int32 → Mu → Prop} (h : tkW μ a b c d K) : Ct l Y yFa_take wFa_take ({ frames := 8, cells := 0, slots := 0, locals := 199 }) [.ref (ad Y 0), .int a, .int b, .int c, .int d] μ (PI K) := by
  refine ct_of hY.1 (by decide) rfl (Nat.le_of_ble_eq_true rfl) (lv := [some (.ref (ad Y 0)), some (.int a), some (.int b), some (.int c), some (.int d), none]) rfl (fun X hC => ?_)
  have hB := hC.B
  obtain ⟨hFa, hDi, hTr, hSe, h4, h5, h6b, h7, h8, hpages, htrail, hturns, hplaces, hlog, hlp, hfound, hwait, hsq, hlk, hPg, hrow, hlrow, hfb⟩ := id hW
  have hf0 := hfb 0 (by decide)
  refine v_aload_n hB dFa_take_0 rfl ?_
  refine v_get hC (klFa hY.2) (F := FFa Y _) (by assumption) 4 dFa_take_1 kfFa_37 (by decide) rfl ?_
  refine v_if_ne hB 10 dFa_take_4 (by decide) (fun c0 => ?_) (fun c0 => ?_)
  rotate_left
  · rw [tkW, if_pos c0] at h
    refine v_bipush hB dFa_take_7 (v := -3) (by decide) ?_
    exact v_iret hC rfl dFa_take_9 ⟨_, rfl, h⟩
  rw [tkW, if_neg c0] at h
  refine v_iload_n hB dFa_take_10 rfl ?_
  refine v_iload_n hB dFa_take_11 rfl ?_
  refine v_iload_n hB dFa_take_12 rfl ?_
  refine v_iload hB dFa_take_13 rfl ?_
  refine v_callS hC tbok kmFa_52 ktFa_isRectangle dFa_take_15 (cFa_isRectangle hY a b c d μ) rfl rfl ⟨Nat.le_of_ble_eq_true rfl, Nat.le_of_ble_eq_true rfl⟩ rfl rfl (Nat.le_of_ble_eq_true rfl) ⟨Nat.zero_le _, Nat.zero_le _⟩ (kE rfl ?_)
  refine v_if_ne hB 23 dFa_take_18 (by decide) (fun c1 => ?_) (fun c1 => ?_)
  rotate_left
  · rw [if_neg (by rw [bI_0.mp c1]; decide)] at h
    refine v_iconst hB dFa_take_21 (v := -1) (by decide) ?_
    exact v_iret hC rfl dFa_take_22 ⟨_, rfl, h⟩
  rw [if_pos (bI_n.mp c1)] at h
  refine v_aload_n hB dFa_take_23 rfl ?_
  refine v_iload_n hB dFa_take_24 rfl ?_
  refine v_iload_n hB dFa_take_25 rfl ?_
  refine v_iload_n hB dFa_take_26 rfl ?_
  refine v_iload hB dFa_take_27 rfl ?_
  refine v_callV hC tbok kmFa_75 kiFa_searchWindow ksFa_searchWindow dFa_take_29 (F := FFa Y _) (by assumption) (by rw [hY.2]; rfl) (cFa_searchWindow hY hW a b c d h) rfl rfl ⟨Nat.le_of_ble_eq_true rfl, Nat.le_of_ble_eq_true rfl⟩ rfl rfl (Nat.le_of_ble_eq_true rfl) ⟨Nat.zero_le _, Nat.zero_le _⟩ (kV fun ν h1 => ?_)
  refine v_aload_n hB dFa_take_32 rfl ?_
  refine v_get hC (klFa hY.2) (F := FFa Y _) (by assumption) 2 dFa_take_33 kfFa_26 (by decide) rfl ?_
  refine v_get hC (klSe hY.2) (F := FSe Y _) (by assumption) 1 dFa_take_36 kfFa_79 (by decide) rfl ?_
  refine v_if_ne hB 44 dFa_take_39 (by decide) (fun c2 => ?_) (fun c2 => ?_)
  rotate_left
  · rw [if_pos c2] at h1
    refine v_iconst hB dFa_take_42 (v := -1) (by decide) ?_
    exact v_iret hC rfl dFa_take_43 ⟨_, rfl, h1⟩
  rw [if_neg c2] at h1
  refine v_aload_n hB dFa_take_44 rfl ?_
  refine v_get hC (klFa hY.2) (F := FFa Y _) (by assumption) 2 dFa_take_45 kfFa_26 (by decide) rfl ?_
  refine v_get hC (klSe hY.2) (F := FSe Y _) (by assumption) 0 dFa_take_48 kfFa_82 (by decide) rfl ?_
  refine v_iconst hB dFa_take_51 (v := 0) (by decide) ?_
  refine v_aald hC hfound 0 dFa_take_52 rfl (by omega) (by decide) ?_
  refine v_astore hB dFa_take_53 rfl (by decide) (lv' := [_, _, _, _, _, _]) rfl ?_
  refine v_aload_n hB dFa_take_55 rfl ?_
  refine v_get hC (klFa hY.2) (F := FFa Y _) (by assumption) 1 dFa_take_56 kfFa_19 (by decide) rfl ?_
  refine v_aload hB dFa_take_59 rfl ?_
  refine v_callV hC tbok kmFa_71 kiTr_uproot ksTr_uproot dFa_take_61 (F := FTr Y _) (by assumption) (by rw [hY.2]; rfl) (cTr_uproot hY hW hf0 h1) rfl rfl ⟨Nat.le_of_ble_eq_true rfl, Nat.le_of_ble_eq_true rfl⟩ rfl rfl (Nat.le_of_ble_eq_true rfl) ⟨Nat.zero_le _, Nat.zero_le _⟩ (kB fun q ν2 h2 => ?_)
  refine v_if_eq hB 79 dFa_take_64 (by decide) (fun c3 => ?_) (fun c3 => ?_)
  · rw [if_neg (by rw [bI_0.mp c3]; decide)] at h2
    refine v_iconst hB dFa_take_79 (v := -1) (by decide) ?_
    exact v_iret hC rfl dFa_take_80 ⟨_, rfl, h2⟩
  rw [if_pos (bI_n.mp c3)] at h2
  refine v_aload_n hB dFa_take_67 rfl ?_
  refine v_aload hB dFa_take_68 rfl ?_
  refine v_get hC (klBo hY.2) (F := FBo Y _) (by assumption) 4 dFa_take_70 kfFa_86 (by decide) rfl ?_
  refine v_callV hC tbok kmFa_67 kiFa_settle ksFa_settle dFa_take_73 (F := FFa Y _) (by assumption) (by rw [hY.2]; rfl) (cFa_settle hY hW _ h2) rfl rfl ⟨Nat.le_of_ble_eq_true rfl, Nat.le_of_ble_eq_true rfl⟩ rfl rfl (Nat.le_of_ble_eq_true rfl) ⟨Nat.zero_le _, Nat.zero_le _⟩ (kI fun x ν3 h3 => ?_)
  refine v_goto hB 80 dFa_take_76 (by decide) ?_
  exact v_iret hC rfl dFa_take_80 ⟨_, rfl, h3⟩

set_option maxHeartbeats 4000000 in
set_option maxRecDepth 100000 in
theorem cFa_cut {l : Launch} {Y : Yt} (hY : YB Y) (hW : YW Y) (v : Int32) (μ : Mu) : Ct l Y yFa_cut wFa_cut ({ frames := 0, cells := 0, slots := 0, locals := 0 }) [.ref (ad Y 0), .int v] μ (PE (some (.int (bI (!(decide (v < -1) || decide (5 < v)))))) (cuM μ v)) := by
  refine ct_of hY.1 (by decide) rfl (Nat.le_of_ble_eq_true rfl) (lv := [some (.ref (ad Y 0)), some (.int v)]) rfl (fun X hC => ?_)
  have hB := hC.B
  obtain ⟨hFa, hDi, hTr, hSe, h4, h5, h6b, h7, h8, hpages, htrail, hturns, hplaces, hlog, hlp, hfound, hwait, hsq, hlk, hPg, hrow, hlrow, hfb⟩ := id hW
  refine v_iload_n hB dFa_cut_0 rfl ?_
  refine v_iconst hB dFa_cut_1 (v := -1) (by decide) ?_
  refine v_icmp_lt hB 10 dFa_cut_2 (by decide) (fun c => ?_) (fun c => ?_)
  · refine v_iconst hB dFa_cut_10 (v := 0) (by decide) ?_
    exact v_zret hC rfl (by decide) dFa_cut_11 ⟨congrArg (fun x => some (Value.int x)) (bI_ff (by simp [c])), by rw [cuM, if_pos (Or.inl c)]⟩
  refine v_iload_n hB dFa_cut_5 rfl ?_
  refine v_iconst hB dFa_cut_6 (v := 5) (by decide) ?_
  refine v_icmp_le hB 12 dFa_cut_7 (by decide) (fun c1 => ?_) (fun c1 => ?_)
  rotate_left
  · refine v_iconst hB dFa_cut_10 (v := 0) (by decide) ?_
    exact v_zret hC rfl (by decide) dFa_cut_11 ⟨congrArg (fun x => some (Value.int x)) (bI_ff (by simp [Int32.not_le.mp c1])), by rw [cuM, if_pos (Or.inr (Int32.not_le.mp c1))]⟩
  refine v_aload_n hB dFa_cut_12 rfl ?_
  refine v_iload_n hB dFa_cut_13 rfl ?_
  refine v_puti hC (klFa hY.2) (F := FFa Y _) (by assumption) 6 dFa_cut_14 kfFa_44 (by decide) rfl rfl rfl (fun _ _ => rfl) (fun _ _ => Nat.le_of_ble_eq_true rfl) ?_
  refine v_iconst hB dFa_cut_17 (v := 1) (by decide) ?_
  exact v_zret hC rfl (by decide) dFa_cut_18 ⟨congrArg (fun x => some (Value.int x)) (bI_t (by simp [Int32.not_lt.mp c, c1])), by rw [cuM, if_neg (fun z => z.elim c (Int32.not_lt.mpr c1))]⟩

set_option maxHeartbeats 4000000 in
set_option maxRecDepth 100000 in
theorem cFa_stop {l : Launch} {Y : Yt} (hY : YB Y) (hW : YW Y) {μ : Mu} {K : Bool → Mu → Prop} (h : soW μ K) : Ct l Y yFa_stop wFa_stop ({ frames := 3, cells := 0, slots := 0, locals := 62 }) [.ref (ad Y 0)] μ (PB K) := by
  refine ct_of hY.1 (by decide) rfl (Nat.le_of_ble_eq_true rfl) (lv := [some (.ref (ad Y 0))]) rfl (fun X hC => ?_)
  have hB := hC.B
  obtain ⟨hFa, hDi, hTr, hSe, h4, h5, h6b, h7, h8, hpages, htrail, hturns, hplaces, hlog, hlp, hfound, hwait, hsq, hlk, hPg, hrow, hlrow, hfb⟩ := id hW
  refine v_aload_n hB dFa_stop_0 rfl ?_
  refine v_get hC (klFa hY.2) (F := FFa Y _) (by assumption) 4 dFa_stop_1 kfFa_37 (by decide) rfl ?_
  refine v_if_ne hB 9 dFa_stop_4 (by decide) (fun c0 => ?_) (fun c0 => ?_)
  rotate_left
  · rw [soW, if_pos c0] at h
    refine v_iconst hB dFa_stop_7 (v := 0) (by decide) ?_
    exact v_zret hC rfl (by decide) dFa_stop_8 ⟨false, rfl, h⟩
  rw [soW, if_neg c0] at h
  refine v_aload_n hB dFa_stop_9 rfl ?_
  refine v_callV hC tbok kmFa_89 kiFa_losePower ksFa_losePower dFa_stop_10 (F := FFa Y _) (by assumption) (by rw [hY.2]; rfl) (cFa_losePower hY hW μ) rfl rfl ⟨Nat.le_of_ble_eq_true rfl, Nat.le_of_ble_eq_true rfl⟩ rfl rfl (Nat.le_of_ble_eq_true rfl) ⟨Nat.zero_le _, Nat.zero_le _⟩ (kE rfl ?_)
  refine v_iconst hB dFa_stop_13 (v := 1) (by decide) ?_
  exact v_zret hC rfl (by decide) dFa_stop_14 ⟨true, rfl, h⟩

set_option maxHeartbeats 4000000 in
set_option maxRecDepth 100000 in
theorem cFa_start {l : Launch} {Y : Yt} (hY : YB Y) (hW : YW Y) {μ : Mu} {K : Bool → Mu → Prop} (h : saW μ K) : Ct l Y yFa_start wFa_start ({ frames := 3, cells := 0, slots := 0, locals := 72 }) [.ref (ad Y 0)] μ (PB K) := by
  refine ct_of hY.1 (by decide) rfl (Nat.le_of_ble_eq_true rfl) (lv := [some (.ref (ad Y 0))]) rfl (fun X hC => ?_)
  have hB := hC.B
  obtain ⟨hFa, hDi, hTr, hSe, h4, h5, h6b, h7, h8, hpages, htrail, hturns, hplaces, hlog, hlp, hfound, hwait, hsq, hlk, hPg, hrow, hlrow, hfb⟩ := id hW
  refine v_aload_n hB dFa_start_0 rfl ?_
  refine v_get hC (klFa hY.2) (F := FFa Y _) (by assumption) 4 dFa_start_1 kfFa_37 (by decide) rfl ?_
  refine v_if_eq hB 9 dFa_start_4 (by decide) (fun c0 => ?_) (fun c0 => ?_)
  rotate_left
  · rw [saW, if_neg c0] at h
    refine v_iconst hB dFa_start_7 (v := 0) (by decide) ?_
    exact v_zret hC rfl (by decide) dFa_start_8 ⟨false, rfl, h⟩
  rw [saW, if_pos c0] at h
  refine v_aload_n hB dFa_start_9 rfl ?_
  refine v_get hC (klFa hY.2) (F := FFa Y _) (by assumption) 0 dFa_start_10 kfFa_12 (by decide) rfl ?_
  refine v_callV hC tbok kmFa_92 kiDi_recover ksDi_recover dFa_start_13 (F := FDi Y _) (by assumption) (by rw [hY.2]; rfl) (cDi_recover hY hW h) rfl rfl ⟨Nat.le_of_ble_eq_true rfl, Nat.le_of_ble_eq_true rfl⟩ rfl rfl (Nat.le_of_ble_eq_true rfl) ⟨Nat.zero_le _, Nat.zero_le _⟩ (kV fun ν h1 => ?_)
  refine v_aload_n hB dFa_start_16 rfl ?_
  refine v_get hC (klFa hY.2) (F := FFa Y _) (by assumption) 1 dFa_start_17 kfFa_19 (by decide) rfl ?_
  refine v_aload_n hB dFa_start_20 rfl ?_
  refine v_get hC (klFa hY.2) (F := FFa Y _) (by assumption) 0 dFa_start_21 kfFa_12 (by decide) rfl ?_
  refine v_callV hC tbok kmFa_95 kiTr_readFrom ksTr_readFrom dFa_start_24 (F := FTr Y _) (by assumption) (by rw [hY.2]; rfl) (cTr_readFrom hY hW h1) rfl rfl ⟨Nat.le_of_ble_eq_true rfl, Nat.le_of_ble_eq_true rfl⟩ rfl rfl (Nat.le_of_ble_eq_true rfl) ⟨Nat.zero_le _, Nat.zero_le _⟩ (kV fun ν2 h2 => ?_)
  refine v_aload_n hB dFa_start_27 rfl ?_
  refine v_iconst hB dFa_start_28 (v := 1) (by decide) ?_
  refine v_puti hC (klFa hY.2) (F := FFa Y _) (by assumption) 4 dFa_start_29 kfFa_37 (by decide) rfl (by decide) (by decide) (fun _ _ => rfl) (fun _ _ => Nat.le_of_ble_eq_true rfl) ?_
  refine v_iconst hB dFa_start_32 (v := 1) (by decide) ?_
  exact v_zret hC rfl (by decide) dFa_start_33 ⟨true, rfl, h2⟩

set_option maxHeartbeats 4000000 in
set_option maxRecDepth 100000 in
theorem cFa_up {l : Launch} {Y : Yt} (hY : YB Y) (hW : YW Y) (μ : Mu) (ht : tB (μ.1 0 4)) : Ct l Y yFa_up wFa_up ({ frames := 0, cells := 0, slots := 0, locals := 0 }) [.ref (ad Y 0)] μ (PE (some (.int (μ.1 0 4))) μ) := by
  refine ct_of hY.1 (by decide) rfl (Nat.le_of_ble_eq_true rfl) (lv := [some (.ref (ad Y 0))]) rfl (fun X hC => ?_)
  have hB := hC.B
  obtain ⟨hFa, hDi, hTr, hSe, h4, h5, h6b, h7, h8, hpages, htrail, hturns, hplaces, hlog, hlp, hfound, hwait, hsq, hlk, hPg, hrow, hlrow, hfb⟩ := id hW
  refine v_aload_n hB dFa_up_0 rfl ?_
  refine v_get hC (klFa hY.2) (F := FFa Y _) (by assumption) 4 dFa_up_1 kfFa_37 (by decide) rfl ?_
  exact v_zret hC rfl (tB_z ht) dFa_up_4 ⟨rfl, rfl⟩

set_option maxHeartbeats 4000000 in
set_option maxRecDepth 100000 in
theorem cFa_frugal {l : Launch} {Y : Yt} (hY : YB Y) (hW : YW Y) (μ : Mu) (ht : tB (μ.1 0 5)) : Ct l Y yFa_frugal wFa_frugal ({ frames := 0, cells := 0, slots := 0, locals := 0 }) [.ref (ad Y 0)] μ (PE (some (.int (μ.1 0 5))) μ) := by
  refine ct_of hY.1 (by decide) rfl (Nat.le_of_ble_eq_true rfl) (lv := [some (.ref (ad Y 0))]) rfl (fun X hC => ?_)
  have hB := hC.B
  obtain ⟨hFa, hDi, hTr, hSe, h4, h5, h6b, h7, h8, hpages, htrail, hturns, hplaces, hlog, hlp, hfound, hwait, hsq, hlk, hPg, hrow, hlrow, hfb⟩ := id hW
  refine v_aload_n hB dFa_frugal_0 rfl ?_
  refine v_get hC (klFa hY.2) (F := FFa Y _) (by assumption) 5 dFa_frugal_1 kfFa_41 (by decide) rfl ?_
  exact v_zret hC rfl (tB_z ht) dFa_frugal_4 ⟨rfl, rfl⟩

set_option maxHeartbeats 4000000 in
set_option maxRecDepth 100000 in
theorem cFa_size {l : Launch} {Y : Yt} (hY : YB Y) (hW : YW Y) (μ : Mu) : Ct l Y yFa_size wFa_size ({ frames := 0, cells := 0, slots := 0, locals := 0 }) [.ref (ad Y 0)] μ (PE (some (.int (if μ.1 0 4 = 0 then -3 else μ.1 2 1))) μ) := by
  refine ct_of hY.1 (by decide) rfl (Nat.le_of_ble_eq_true rfl) (lv := [some (.ref (ad Y 0))]) rfl (fun X hC => ?_)
  have hB := hC.B
  obtain ⟨hFa, hDi, hTr, hSe, h4, h5, h6b, h7, h8, hpages, htrail, hturns, hplaces, hlog, hlp, hfound, hwait, hsq, hlk, hPg, hrow, hlrow, hfb⟩ := id hW
  refine v_aload_n hB dFa_size_0 rfl ?_
  refine v_get hC (klFa hY.2) (F := FFa Y _) (by assumption) 4 dFa_size_1 kfFa_37 (by decide) rfl ?_
  refine v_if_eq hB 17 dFa_size_4 (by decide) (fun c0 => ?_) (fun c0 => ?_)
  · refine v_bipush hB dFa_size_17 (v := -3) (by decide) ?_
    exact v_iret hC rfl dFa_size_19 ⟨by rw [if_pos c0], rfl⟩
  refine v_aload_n hB dFa_size_7 rfl ?_
  refine v_get hC (klFa hY.2) (F := FFa Y _) (by assumption) 1 dFa_size_8 kfFa_19 (by decide) rfl ?_
  refine v_get hC (klTr hY.2) (F := FTr Y _) (by assumption) 1 dFa_size_11 kfFa_56 (by decide) rfl ?_
  refine v_goto hB 19 dFa_size_14 (by decide) ?_
  exact v_iret hC rfl dFa_size_19 ⟨by rw [if_neg c0], rfl⟩

set_option maxHeartbeats 4000000 in
set_option maxRecDepth 100000 in
theorem cFa_count {l : Launch} {Y : Yt} (hY : YB Y) (hW : YW Y) (a b c d : Int32) {μ : Mu} {K : Int32 → Mu → Prop} (h : coW μ a b c d K) : Ct l Y yFa_count wFa_count ({ frames := 4, cells := 0, slots := 0, locals := 94 }) [.ref (ad Y 0), .int a, .int b, .int c, .int d] μ (PI K) := by
  refine ct_of hY.1 (by decide) rfl (Nat.le_of_ble_eq_true rfl) (lv := [some (.ref (ad Y 0)), some (.int a), some (.int b), some (.int c), some (.int d)]) rfl (fun X hC => ?_)
  have hB := hC.B
  obtain ⟨hFa, hDi, hTr, hSe, h4, h5, h6b, h7, h8, hpages, htrail, hturns, hplaces, hlog, hlp, hfound, hwait, hsq, hlk, hPg, hrow, hlrow, hfb⟩ := id hW
  refine v_aload_n hB dFa_count_0 rfl ?_
  refine v_get hC (klFa hY.2) (F := FFa Y _) (by assumption) 4 dFa_count_1 kfFa_37 (by decide) rfl ?_
  refine v_if_ne hB 10 dFa_count_4 (by decide) (fun c0 => ?_) (fun c0 => ?_)
  rotate_left
  · rw [coW, if_pos c0] at h
    refine v_bipush hB dFa_count_7 (v := -3) (by decide) ?_
    exact v_iret hC rfl dFa_count_9 ⟨_, rfl, h⟩
  rw [coW, if_neg c0] at h
  refine v_iload_n hB dFa_count_10 rfl ?_
  refine v_iload_n hB dFa_count_11 rfl ?_
  refine v_iload_n hB dFa_count_12 rfl ?_
  refine v_iload hB dFa_count_13 rfl ?_
  refine v_callS hC tbok kmFa_52 ktFa_isRectangle dFa_count_15 (cFa_isRectangle hY a b c d μ) rfl rfl ⟨Nat.le_of_ble_eq_true rfl, Nat.le_of_ble_eq_true rfl⟩ rfl rfl (Nat.le_of_ble_eq_true rfl) ⟨Nat.zero_le _, Nat.zero_le _⟩ (kE rfl ?_)
  refine v_if_ne hB 23 dFa_count_18 (by decide) (fun c1 => ?_) (fun c1 => ?_)
  rotate_left
  · rw [if_neg (by rw [bI_0.mp c1]; decide)] at h
    refine v_iconst hB dFa_count_21 (v := -1) (by decide) ?_
    exact v_iret hC rfl dFa_count_22 ⟨_, rfl, h⟩
  rw [if_pos (bI_n.mp c1)] at h
  refine v_aload_n hB dFa_count_23 rfl ?_
  refine v_iload_n hB dFa_count_24 rfl ?_
  refine v_iload_n hB dFa_count_25 rfl ?_
  refine v_iload_n hB dFa_count_26 rfl ?_
  refine v_iload hB dFa_count_27 rfl ?_
  refine v_callV hC tbok kmFa_75 kiFa_searchWindow ksFa_searchWindow dFa_count_29 (F := FFa Y _) (by assumption) (by rw [hY.2]; rfl) (cFa_searchWindow hY hW a b c d h) rfl rfl ⟨Nat.le_of_ble_eq_true rfl, Nat.le_of_ble_eq_true rfl⟩ rfl rfl (Nat.le_of_ble_eq_true rfl) ⟨Nat.zero_le _, Nat.zero_le _⟩ (kV fun ν h1 => ?_)
  refine v_aload_n hB dFa_count_32 rfl ?_
  refine v_callV hC tbok kmFa_99 kiFa_noteThrift ksFa_noteThrift dFa_count_33 (F := FFa Y _) (by assumption) (by rw [hY.2]; rfl) (cFa_noteThrift hY hW h1) rfl rfl ⟨Nat.le_of_ble_eq_true rfl, Nat.le_of_ble_eq_true rfl⟩ rfl rfl (Nat.le_of_ble_eq_true rfl) ⟨Nat.zero_le _, Nat.zero_le _⟩ (kV fun ν2 h2 => ?_)
  refine v_aload_n hB dFa_count_36 rfl ?_
  refine v_get hC (klFa hY.2) (F := FFa Y _) (by assumption) 2 dFa_count_37 kfFa_26 (by decide) rfl ?_
  refine v_get hC (klSe hY.2) (F := FSe Y _) (by assumption) 1 dFa_count_40 kfFa_79 (by decide) rfl ?_
  exact v_iret hC rfl dFa_count_43 ⟨_, rfl, h2⟩

set_option maxHeartbeats 4000000 in
set_option maxRecDepth 100000 in
theorem cFa_within {l : Launch} {Y : Yt} (hY : YB Y) (hW : YW Y) (a b c d : Int32) {μ : Mu} {K : Int32 → Mu → Prop} (h : wnW μ a b c d K) : Ct l Y yFa_within wFa_within ({ frames := 4, cells := 0, slots := 0, locals := 94 }) [.ref (ad Y 0), .int a, .int b, .int c, .int d] μ (PI K) := by
  refine ct_of hY.1 (by decide) rfl (Nat.le_of_ble_eq_true rfl) (lv := [some (.ref (ad Y 0)), some (.int a), some (.int b), some (.int c), some (.int d)]) rfl (fun X hC => ?_)
  have hB := hC.B
  obtain ⟨hFa, hDi, hTr, hSe, h4, h5, h6b, h7, h8, hpages, htrail, hturns, hplaces, hlog, hlp, hfound, hwait, hsq, hlk, hPg, hrow, hlrow, hfb⟩ := id hW
  refine v_aload_n hB dFa_within_0 rfl ?_
  refine v_get hC (klFa hY.2) (F := FFa Y _) (by assumption) 4 dFa_within_1 kfFa_37 (by decide) rfl ?_
  refine v_if_ne hB 10 dFa_within_4 (by decide) (fun c0 => ?_) (fun c0 => ?_)
  rotate_left
  · rw [wnW, if_pos c0] at h
    refine v_bipush hB dFa_within_7 (v := -3) (by decide) ?_
    exact v_iret hC rfl dFa_within_9 ⟨_, rfl, h⟩
  rw [wnW, if_neg c0] at h
  refine v_iload_n hB dFa_within_10 rfl ?_
  refine v_iload_n hB dFa_within_11 rfl ?_
  refine v_iload_n hB dFa_within_12 rfl ?_
  refine v_iload hB dFa_within_13 rfl ?_
  refine v_callS hC tbok kmFa_52 ktFa_isRectangle dFa_within_15 (cFa_isRectangle hY a b c d μ) rfl rfl ⟨Nat.le_of_ble_eq_true rfl, Nat.le_of_ble_eq_true rfl⟩ rfl rfl (Nat.le_of_ble_eq_true rfl) ⟨Nat.zero_le _, Nat.zero_le _⟩ (kE rfl ?_)
  refine v_if_ne hB 23 dFa_within_18 (by decide) (fun c1 => ?_) (fun c1 => ?_)
  rotate_left
  · rw [if_neg (by rw [bI_0.mp c1]; decide)] at h
    refine v_iconst hB dFa_within_21 (v := -1) (by decide) ?_
    exact v_iret hC rfl dFa_within_22 ⟨_, rfl, h⟩
  rw [if_pos (bI_n.mp c1)] at h
  refine v_aload_n hB dFa_within_23 rfl ?_
  refine v_iload_n hB dFa_within_24 rfl ?_
  refine v_iload_n hB dFa_within_25 rfl ?_
  refine v_iload_n hB dFa_within_26 rfl ?_
  refine v_iload hB dFa_within_27 rfl ?_
  refine v_callV hC tbok kmFa_75 kiFa_searchWindow ksFa_searchWindow dFa_within_29 (F := FFa Y _) (by assumption) (by rw [hY.2]; rfl) (cFa_searchWindow hY hW a b c d h) rfl rfl ⟨Nat.le_of_ble_eq_true rfl, Nat.le_of_ble_eq_true rfl⟩ rfl rfl (Nat.le_of_ble_eq_true rfl) ⟨Nat.zero_le _, Nat.zero_le _⟩ (kV fun ν h1 => ?_)
  refine v_aload_n hB dFa_within_32 rfl ?_
  refine v_callV hC tbok kmFa_99 kiFa_noteThrift ksFa_noteThrift dFa_within_33 (F := FFa Y _) (by assumption) (by rw [hY.2]; rfl) (cFa_noteThrift hY hW h1) rfl rfl ⟨Nat.le_of_ble_eq_true rfl, Nat.le_of_ble_eq_true rfl⟩ rfl rfl (Nat.le_of_ble_eq_true rfl) ⟨Nat.zero_le _, Nat.zero_le _⟩ (kV fun ν2 h2 => ?_)
  obtain ⟨hh, hh40, hhq, h2⟩ := h2
  refine v_aload_n hB dFa_within_36 rfl ?_
  refine v_get hC (klFa hY.2) (F := FFa Y _) (by assumption) 2 dFa_within_37 kfFa_26 (by decide) rfl ?_
  refine v_aload_n hB dFa_within_40 rfl ?_
  refine v_get hC (klFa hY.2) (F := FFa Y _) (by assumption) 3 dFa_within_41 kfFa_33 (by decide) rfl ?_
  refine v_callV hC tbok kmFa_102 kiSe_hitsInside ksSe_hitsInside dFa_within_44 (F := FSe Y _) (by assumption) (by rw [hY.2]; rfl) (cSe_hitsInside hY hW h4 ν2 hhq hh40) rfl rfl ⟨Nat.le_of_ble_eq_true rfl, Nat.le_of_ble_eq_true rfl⟩ rfl rfl (Nat.le_of_ble_eq_true rfl) ⟨Nat.zero_le _, Nat.zero_le _⟩ (kE rfl ?_)
  exact v_iret hC rfl dFa_within_47 ⟨_, rfl, h2⟩

set_option maxHeartbeats 4000000 in
set_option maxRecDepth 100000 in
theorem cFa_pick {l : Launch} {Y : Yt} (hY : YB Y) (hW : YW Y) (a b c d k : Int32) {μ : Mu} {K : Int32 → Mu → Prop} (h : pcW μ a b c d k K) : Ct l Y yFa_pick wFa_pick ({ frames := 4, cells := 0, slots := 0, locals := 94 }) [.ref (ad Y 0), .int a, .int b, .int c, .int d, .int k] μ (PI K) := by
  refine ct_of hY.1 (by decide) rfl (Nat.le_of_ble_eq_true rfl) (lv := [some (.ref (ad Y 0)), some (.int a), some (.int b), some (.int c), some (.int d), some (.int k)]) rfl (fun X hC => ?_)
  have hB := hC.B
  obtain ⟨hFa, hDi, hTr, hSe, h4, h5, h6b, h7, h8, hpages, htrail, hturns, hplaces, hlog, hlp, hfound, hwait, hsq, hlk, hPg, hrow, hlrow, hfb⟩ := id hW
  refine v_aload_n hB dFa_pick_0 rfl ?_
  refine v_get hC (klFa hY.2) (F := FFa Y _) (by assumption) 4 dFa_pick_1 kfFa_37 (by decide) rfl ?_
  refine v_if_ne hB 10 dFa_pick_4 (by decide) (fun c0 => ?_) (fun c0 => ?_)
  rotate_left
  · rw [pcW, if_pos c0] at h
    refine v_bipush hB dFa_pick_7 (v := -3) (by decide) ?_
    exact v_iret hC rfl dFa_pick_9 ⟨_, rfl, h⟩
  rw [pcW, if_neg c0] at h
  refine v_iload_n hB dFa_pick_10 rfl ?_
  refine v_iload_n hB dFa_pick_11 rfl ?_
  refine v_iload_n hB dFa_pick_12 rfl ?_
  refine v_iload hB dFa_pick_13 rfl ?_
  refine v_callS hC tbok kmFa_52 ktFa_isRectangle dFa_pick_15 (cFa_isRectangle hY a b c d μ) rfl rfl ⟨Nat.le_of_ble_eq_true rfl, Nat.le_of_ble_eq_true rfl⟩ rfl rfl (Nat.le_of_ble_eq_true rfl) ⟨Nat.zero_le _, Nat.zero_le _⟩ (kE rfl ?_)
  refine v_if_ne hB 23 dFa_pick_18 (by decide) (fun c1 => ?_) (fun c1 => ?_)
  rotate_left
  · rw [if_neg (by rw [bI_0.mp c1]; decide)] at h
    refine v_iconst hB dFa_pick_21 (v := -1) (by decide) ?_
    exact v_iret hC rfl dFa_pick_22 ⟨_, rfl, h⟩
  rw [if_pos (bI_n.mp c1)] at h
  refine v_aload_n hB dFa_pick_23 rfl ?_
  refine v_iload_n hB dFa_pick_24 rfl ?_
  refine v_iload_n hB dFa_pick_25 rfl ?_
  refine v_iload_n hB dFa_pick_26 rfl ?_
  refine v_iload hB dFa_pick_27 rfl ?_
  refine v_callV hC tbok kmFa_75 kiFa_searchWindow ksFa_searchWindow dFa_pick_29 (F := FFa Y _) (by assumption) (by rw [hY.2]; rfl) (cFa_searchWindow hY hW a b c d h) rfl rfl ⟨Nat.le_of_ble_eq_true rfl, Nat.le_of_ble_eq_true rfl⟩ rfl rfl (Nat.le_of_ble_eq_true rfl) ⟨Nat.zero_le _, Nat.zero_le _⟩ (kV fun ν h1 => ?_)
  refine v_iload hB dFa_pick_32 rfl ?_
  refine v_if_lt hB 49 dFa_pick_34 (by decide) (fun c2 => ?_) (fun c2 => ?_)
  · rw [if_pos (Or.inl c2)] at h1
    refine v_iconst hB dFa_pick_49 (v := -1) (by decide) ?_
    exact v_iret hC rfl dFa_pick_50 ⟨_, rfl, h1⟩
  refine v_iload hB dFa_pick_37 rfl ?_
  refine v_aload_n hB dFa_pick_39 rfl ?_
  refine v_get hC (klFa hY.2) (F := FFa Y _) (by assumption) 2 dFa_pick_40 kfFa_26 (by decide) rfl ?_
  refine v_get hC (klSe hY.2) (F := FSe Y _) (by assumption) 1 dFa_pick_43 kfFa_79 (by decide) rfl ?_
  refine v_icmp_lt hB 51 dFa_pick_46 (by decide) (fun c3 => ?_) (fun c3 => ?_)
  rotate_left
  · rw [if_pos (Or.inr c3)] at h1
    refine v_iconst hB dFa_pick_49 (v := -1) (by decide) ?_
    exact v_iret hC rfl dFa_pick_50 ⟨_, rfl, h1⟩
  rw [if_neg (fun z => z.elim c2 (fun q => q c3))] at h1
  refine v_aload_n hB dFa_pick_51 rfl ?_
  refine v_callV hC tbok kmFa_99 kiFa_noteThrift ksFa_noteThrift dFa_pick_52 (F := FFa Y _) (by assumption) (by rw [hY.2]; rfl) (cFa_noteThrift hY hW h1) rfl rfl ⟨Nat.le_of_ble_eq_true rfl, Nat.le_of_ble_eq_true rfl⟩ rfl rfl (Nat.le_of_ble_eq_true rfl) ⟨Nat.zero_le _, Nat.zero_le _⟩ (kV fun ν2 h2 => ?_)
  obtain ⟨j, hj, hkj, h2⟩ := h2
  have hbj := hfb j hj
  refine v_aload_n hB dFa_pick_55 rfl ?_
  refine v_get hC (klFa hY.2) (F := FFa Y _) (by assumption) 2 dFa_pick_56 kfFa_26 (by decide) rfl ?_
  refine v_get hC (klSe hY.2) (F := FSe Y _) (by assumption) 0 dFa_pick_59 kfFa_82 (by decide) rfl ?_
  refine v_iload hB dFa_pick_62 rfl ?_
  refine v_aald hC hfound j dFa_pick_64 hkj (by omega) (by decide) ?_
  refine v_get hC (klBo hY.2) (F := FBo Y _) (by assumption) 4 dFa_pick_65 kfFa_86 (by decide) rfl ?_
  exact v_iret hC rfl dFa_pick_68 ⟨_, rfl, h2⟩

set_option maxHeartbeats 4000000 in
set_option maxRecDepth 100000 in
theorem cFa_distance {l : Launch} {Y : Yt} (hY : YB Y) (hW : YW Y) (x y : Int32) {μ : Mu} {K : Int64 → Mu → Prop} (h : diW μ x y K) : Ct l Y yFa_distance wFa_distance ({ frames := 4, cells := 0, slots := 0, locals := 96 }) [.ref (ad Y 0), .int x, .int y] μ (PL K) := by
  refine ct_of hY.1 (by decide) rfl (Nat.le_of_ble_eq_true rfl) (lv := [some (.ref (ad Y 0)), some (.int x), some (.int y)]) rfl (fun X hC => ?_)
  have hB := hC.B
  obtain ⟨hFa, hDi, hTr, hSe, h4, h5, h6b, h7, h8, hpages, htrail, hturns, hplaces, hlog, hlp, hfound, hwait, hsq, hlk, hPg, hrow, hlrow, hfb⟩ := id hW
  refine v_aload_n hB dFa_distance_0 rfl ?_
  refine v_get hC (klFa hY.2) (F := FFa Y _) (by assumption) 4 dFa_distance_1 kfFa_37 (by decide) rfl ?_
  refine v_if_ne hB 11 dFa_distance_4 (by decide) (fun c0 => ?_) (fun c0 => ?_)
  rotate_left
  · rw [diW, if_pos c0] at h
    refine v_ldc2 hC (v := -3) kfFa_106 dFa_distance_7 ?_
    exact v_lret hC rfl dFa_distance_10 ⟨_, rfl, h⟩
  rw [diW, if_neg c0] at h
  refine v_iload_n hB dFa_distance_11 rfl ?_
  refine v_callS hC tbok kmFa_108 ktFa_isCoordinate dFa_distance_12 (cFa_isCoordinate hY x μ) rfl rfl ⟨Nat.le_of_ble_eq_true rfl, Nat.le_of_ble_eq_true rfl⟩ rfl rfl (Nat.le_of_ble_eq_true rfl) ⟨Nat.zero_le _, Nat.zero_le _⟩ (kE rfl ?_)
  refine v_if_eq hB 35 dFa_distance_15 (by decide) (fun c1 => ?_) (fun c1 => ?_)
  · rw [if_neg (fun z => by rw [bI_0.mp c1] at z; exact absurd z.1 (by decide))] at h
    refine v_ldc2 hC (v := -1) kfFa_111 dFa_distance_35 ?_
    exact v_lret hC rfl dFa_distance_38 ⟨_, rfl, h⟩
  refine v_iload_n hB dFa_distance_18 rfl ?_
  refine v_callS hC tbok kmFa_108 ktFa_isCoordinate dFa_distance_19 (cFa_isCoordinate hY y μ) rfl rfl ⟨Nat.le_of_ble_eq_true rfl, Nat.le_of_ble_eq_true rfl⟩ rfl rfl (Nat.le_of_ble_eq_true rfl) ⟨Nat.zero_le _, Nat.zero_le _⟩ (kE rfl ?_)
  refine v_if_eq hB 35 dFa_distance_22 (by decide) (fun c2 => ?_) (fun c2 => ?_)
  · rw [if_neg (fun z => by rw [bI_0.mp c2] at z; exact absurd z.2.1 (by decide))] at h
    refine v_ldc2 hC (v := -1) kfFa_111 dFa_distance_35 ?_
    exact v_lret hC rfl dFa_distance_38 ⟨_, rfl, h⟩
  refine v_aload_n hB dFa_distance_25 rfl ?_
  refine v_get hC (klFa hY.2) (F := FFa Y _) (by assumption) 1 dFa_distance_26 kfFa_19 (by decide) rfl ?_
  refine v_get hC (klTr hY.2) (F := FTr Y _) (by assumption) 1 dFa_distance_29 kfFa_56 (by decide) rfl ?_
  refine v_if_ne hB 39 dFa_distance_32 (by decide) (fun c3 => ?_) (fun c3 => ?_)
  rotate_left
  · rw [if_neg (fun z => z.2.2 c3)] at h
    refine v_ldc2 hC (v := -1) kfFa_111 dFa_distance_35 ?_
    exact v_lret hC rfl dFa_distance_38 ⟨_, rfl, h⟩
  rw [if_pos ⟨bI_n.mp c1, bI_n.mp c2, c3⟩] at h
  refine v_aload_n hB dFa_distance_39 rfl ?_
  refine v_iload_n hB dFa_distance_40 rfl ?_
  refine v_iload_n hB dFa_distance_41 rfl ?_
  refine v_callV hC tbok kmFa_113 kiFa_searchPoint ksFa_searchPoint dFa_distance_42 (F := FFa Y _) (by assumption) (by rw [hY.2]; rfl) (cFa_searchPoint hY hW x y h) rfl rfl ⟨Nat.le_of_ble_eq_true rfl, Nat.le_of_ble_eq_true rfl⟩ rfl rfl (Nat.le_of_ble_eq_true rfl) ⟨Nat.zero_le _, Nat.zero_le _⟩ (kV fun ν h1 => ?_)
  refine v_aload_n hB dFa_distance_45 rfl ?_
  refine v_get hC (klFa hY.2) (F := FFa Y _) (by assumption) 2 dFa_distance_46 kfFa_26 (by decide) rfl ?_
  refine v_get hC (klSe hY.2) (F := FSe Y _) (by assumption) 3 dFa_distance_49 kfFa_117 (by decide) rfl ?_
  exact v_lret hC rfl dFa_distance_52 ⟨_, rfl, h1⟩

set_option maxHeartbeats 4000000 in
set_option maxRecDepth 100000 in
theorem cFa_nearest {l : Launch} {Y : Yt} (hY : YB Y) (hW : YW Y) (x y : Int32) {μ : Mu} {K : Int32 → Mu → Prop} (h : neW μ x y K) : Ct l Y yFa_nearest wFa_nearest ({ frames := 4, cells := 0, slots := 0, locals := 96 }) [.ref (ad Y 0), .int x, .int y] μ (PI K) := by
  refine ct_of hY.1 (by decide) rfl (Nat.le_of_ble_eq_true rfl) (lv := [some (.ref (ad Y 0)), some (.int x), some (.int y)]) rfl (fun X hC => ?_)
  have hB := hC.B
  obtain ⟨hFa, hDi, hTr, hSe, h4, h5, h6b, h7, h8, hpages, htrail, hturns, hplaces, hlog, hlp, hfound, hwait, hsq, hlk, hPg, hrow, hlrow, hfb⟩ := id hW
  refine v_aload_n hB dFa_nearest_0 rfl ?_
  refine v_get hC (klFa hY.2) (F := FFa Y _) (by assumption) 4 dFa_nearest_1 kfFa_37 (by decide) rfl ?_
  refine v_if_ne hB 10 dFa_nearest_4 (by decide) (fun c0 => ?_) (fun c0 => ?_)
  rotate_left
  · rw [neW, if_pos c0] at h
    refine v_bipush hB dFa_nearest_7 (v := -3) (by decide) ?_
    exact v_iret hC rfl dFa_nearest_9 ⟨_, rfl, h⟩
  rw [neW, if_neg c0] at h
  refine v_iload_n hB dFa_nearest_10 rfl ?_
  refine v_callS hC tbok kmFa_108 ktFa_isCoordinate dFa_nearest_11 (cFa_isCoordinate hY x μ) rfl rfl ⟨Nat.le_of_ble_eq_true rfl, Nat.le_of_ble_eq_true rfl⟩ rfl rfl (Nat.le_of_ble_eq_true rfl) ⟨Nat.zero_le _, Nat.zero_le _⟩ (kE rfl ?_)
  refine v_if_eq hB 34 dFa_nearest_14 (by decide) (fun c1 => ?_) (fun c1 => ?_)
  · rw [if_neg (fun z => by rw [bI_0.mp c1] at z; exact absurd z.1 (by decide))] at h
    refine v_iconst hB dFa_nearest_34 (v := -1) (by decide) ?_
    exact v_iret hC rfl dFa_nearest_35 ⟨_, rfl, h⟩
  refine v_iload_n hB dFa_nearest_17 rfl ?_
  refine v_callS hC tbok kmFa_108 ktFa_isCoordinate dFa_nearest_18 (cFa_isCoordinate hY y μ) rfl rfl ⟨Nat.le_of_ble_eq_true rfl, Nat.le_of_ble_eq_true rfl⟩ rfl rfl (Nat.le_of_ble_eq_true rfl) ⟨Nat.zero_le _, Nat.zero_le _⟩ (kE rfl ?_)
  refine v_if_eq hB 34 dFa_nearest_21 (by decide) (fun c2 => ?_) (fun c2 => ?_)
  · rw [if_neg (fun z => by rw [bI_0.mp c2] at z; exact absurd z.2.1 (by decide))] at h
    refine v_iconst hB dFa_nearest_34 (v := -1) (by decide) ?_
    exact v_iret hC rfl dFa_nearest_35 ⟨_, rfl, h⟩
  refine v_aload_n hB dFa_nearest_24 rfl ?_
  refine v_get hC (klFa hY.2) (F := FFa Y _) (by assumption) 1 dFa_nearest_25 kfFa_19 (by decide) rfl ?_
  refine v_get hC (klTr hY.2) (F := FTr Y _) (by assumption) 1 dFa_nearest_28 kfFa_56 (by decide) rfl ?_
  refine v_if_ne hB 36 dFa_nearest_31 (by decide) (fun c3 => ?_) (fun c3 => ?_)
  rotate_left
  · rw [if_neg (fun z => z.2.2 c3)] at h
    refine v_iconst hB dFa_nearest_34 (v := -1) (by decide) ?_
    exact v_iret hC rfl dFa_nearest_35 ⟨_, rfl, h⟩
  rw [if_pos ⟨bI_n.mp c1, bI_n.mp c2, c3⟩] at h
  refine v_aload_n hB dFa_nearest_36 rfl ?_
  refine v_iload_n hB dFa_nearest_37 rfl ?_
  refine v_iload_n hB dFa_nearest_38 rfl ?_
  refine v_callV hC tbok kmFa_113 kiFa_searchPoint ksFa_searchPoint dFa_nearest_39 (F := FFa Y _) (by assumption) (by rw [hY.2]; rfl) (cFa_searchPoint hY hW x y h) rfl rfl ⟨Nat.le_of_ble_eq_true rfl, Nat.le_of_ble_eq_true rfl⟩ rfl rfl (Nat.le_of_ble_eq_true rfl) ⟨Nat.zero_le _, Nat.zero_le _⟩ (kV fun ν h1 => ?_)
  refine v_aload_n hB dFa_nearest_42 rfl ?_
  refine v_get hC (klFa hY.2) (F := FFa Y _) (by assumption) 2 dFa_nearest_43 kfFa_26 (by decide) rfl ?_
  refine v_get hC (klSe hY.2) (F := FSe Y _) (by assumption) 2 dFa_nearest_46 kfFa_121 (by decide) rfl ?_
  refine v_get hC (klBo hY.2) (F := FBo Y _) (by assumption) 4 dFa_nearest_49 kfFa_86 (by decide) rfl ?_
  exact v_iret hC rfl dFa_nearest_52 ⟨_, rfl, h1⟩

set_option maxHeartbeats 4000000 in
set_option maxRecDepth 100000 in
theorem cFa_around {l : Launch} {Y : Yt} (hY : YB Y) (hW : YW Y) (s : Int32) {μ : Mu} {K : Int32 → Mu → Prop} (h : arW μ s K) : Ct l Y yFa_around wFa_around ({ frames := 2, cells := 0, slots := 0, locals := 44 }) [.ref (ad Y 0), .int s] μ (PI K) := by
  refine ct_of hY.1 (by decide) rfl (Nat.le_of_ble_eq_true rfl) (lv := [some (.ref (ad Y 0)), some (.int s)]) rfl (fun X hC => ?_)
  have hB := hC.B
  obtain ⟨hFa, hDi, hTr, hSe, h4, h5, h6b, h7, h8, hpages, htrail, hturns, hplaces, hlog, hlp, hfound, hwait, hsq, hlk, hPg, hrow, hlrow, hfb⟩ := id hW
  refine v_aload_n hB dFa_around_0 rfl ?_
  refine v_get hC (klFa hY.2) (F := FFa Y _) (by assumption) 4 dFa_around_1 kfFa_37 (by decide) rfl ?_
  refine v_if_eq hB 17 dFa_around_4 (by decide) (fun c0 => ?_) (fun c0 => ?_)
  · rw [arW, if_pos (Or.inl c0)] at h
    refine v_ldc hC (v := 2000000000) kfFa_124 dFa_around_17 ?_
    exact v_iret hC rfl dFa_around_19 ⟨_, rfl, h⟩
  refine v_aload_n hB dFa_around_7 rfl ?_
  refine v_get hC (klFa hY.2) (F := FFa Y _) (by assumption) 1 dFa_around_8 kfFa_19 (by decide) rfl ?_
  refine v_get hC (klTr hY.2) (F := FTr Y _) (by assumption) 1 dFa_around_11 kfFa_56 (by decide) rfl ?_
  refine v_if_ne hB 20 dFa_around_14 (by decide) (fun c1 => ?_) (fun c1 => ?_)
  rotate_left
  · rw [arW, if_pos (Or.inr c1)] at h
    refine v_ldc hC (v := 2000000000) kfFa_124 dFa_around_17 ?_
    exact v_iret hC rfl dFa_around_19 ⟨_, rfl, h⟩
  rw [arW, if_neg (fun z => z.elim c0 c1)] at h
  obtain ⟨q, u, hq, hu6, hr, hu, h⟩ := h
  have hqP := hPg q hq
  refine v_aload_n hB dFa_around_20 rfl ?_
  refine v_get hC (klFa hY.2) (F := FFa Y _) (by assumption) 1 dFa_around_21 kfFa_19 (by decide) rfl ?_
  refine v_aload_n hB dFa_around_24 rfl ?_
  refine v_get hC (klFa hY.2) (F := FFa Y _) (by assumption) 1 dFa_around_25 kfFa_19 (by decide) rfl ?_
  refine v_get hC (klTr hY.2) (F := FTr Y _) (by assumption) 0 dFa_around_28 kfFa_125 (by decide) rfl ?_
  rw [hr]
  refine v_callV hC tbok kmFa_128 kiTr_at ksTr_at dFa_around_31 (F := FTr Y _) (by assumption) (by rw [hY.2]; rfl) (cTr_at hY hW hq μ) rfl rfl ⟨Nat.le_of_ble_eq_true rfl, Nat.le_of_ble_eq_true rfl⟩ rfl rfl (Nat.le_of_ble_eq_true rfl) ⟨Nat.zero_le _, Nat.zero_le _⟩ (kE rfl ?_)
  refine v_iconst hB dFa_around_34 (v := -1) (by decide) ?_
  refine v_aload_n hB dFa_around_35 rfl ?_
  refine v_get hC (klFa hY.2) (F := FFa Y _) (by assumption) 3 dFa_around_36 kfFa_33 (by decide) rfl ?_
  refine v_callV hC tbok kmFa_132 kiPa_frame ksPa_frame dFa_around_39 (F := FPa Y _) hqP.2.1 (by rw [hY.2]; rfl) (cPa_frame hY hqP h4 (-1) μ hu hu6) rfl rfl ⟨Nat.le_of_ble_eq_true rfl, Nat.le_of_ble_eq_true rfl⟩ rfl rfl (Nat.le_of_ble_eq_true rfl) ⟨Nat.zero_le _, Nat.zero_le _⟩ (kE rfl ?_)
  refine v_iload_n hB dFa_around_42 rfl ?_
  generalize hν : frM μ q u (-1) 4 = ν at h ⊢
  by_cases hlo : s.toInt < 0 ∨ 3 < s.toInt
  · refine v_tableOut hB 104 dFa_around_43 hlo (by decide) ?_
    have n0 : ¬ s = 0 := fun z => by rw [z] at hlo; exact absurd hlo (by decide)
    have n1 : ¬ s = 1 := fun z => by rw [z] at hlo; exact absurd hlo (by decide)
    have n2 : ¬ s = 2 := fun z => by rw [z] at hlo; exact absurd hlo (by decide)
    have n3 : ¬ s = 3 := fun z => by rw [z] at hlo; exact absurd hlo (by decide)
    rw [sdN, if_neg n0, if_neg n1, if_neg n2, if_neg n3] at h
    refine v_ldc hC (v := 2000000000) kfFa_124 dFa_around_104 ?_
    exact v_iret hC rfl dFa_around_106 ⟨_, rfl, h⟩
  have hcase : s = 0 ∨ s = 1 ∨ s = 2 ∨ s = 3 := by
    have h1 : 0 ≤ s.toInt := by omega
    have h2 : s.toInt ≤ 3 := by omega
    have e : ∀ (t : Int32), s.toInt = t.toInt → s = t := fun t h => Int32.toInt_inj.mp h
    rcases (show s.toInt = 0 ∨ s.toInt = 1 ∨ s.toInt = 2 ∨ s.toInt = 3 by omega) with z | z | z | z
    · exact Or.inl (e 0 (by rw [z]; decide))
    · exact Or.inr (Or.inl (e 1 (by rw [z]; decide)))
    · exact Or.inr (Or.inr (Or.inl (e 2 (by rw [z]; decide))))
    · exact Or.inr (Or.inr (Or.inr (e 3 (by rw [z]; decide))))
  rcases hcase with rfl | rfl | rfl | rfl
  · refine v_tableIn hB (off := 29) 72 dFa_around_43 (by decide) (by decide) (by decide) (by decide) ?_
    refine v_aload_n hB dFa_around_72 rfl ?_
    refine v_get hC (klFa hY.2) (F := FFa Y _) (by assumption) 3 dFa_around_73 kfFa_33 (by decide) rfl ?_
    refine v_get hC (klBo hY.2) (F := FBo Y _) (by assumption) 0 dFa_around_76 kfFa_138 (by decide) rfl ?_
    exact v_iret hC rfl dFa_around_79 ⟨_, rfl, h⟩
  · refine v_tableIn hB (off := 37) 80 dFa_around_43 (by decide) (by decide) (by decide) (by decide) ?_
    refine v_aload_n hB dFa_around_80 rfl ?_
    refine v_get hC (klFa hY.2) (F := FFa Y _) (by assumption) 3 dFa_around_81 kfFa_33 (by decide) rfl ?_
    refine v_get hC (klBo hY.2) (F := FBo Y _) (by assumption) 1 dFa_around_84 kfFa_141 (by decide) rfl ?_
    exact v_iret hC rfl dFa_around_87 ⟨_, rfl, h⟩
  · refine v_tableIn hB (off := 45) 88 dFa_around_43 (by decide) (by decide) (by decide) (by decide) ?_
    refine v_aload_n hB dFa_around_88 rfl ?_
    refine v_get hC (klFa hY.2) (F := FFa Y _) (by assumption) 3 dFa_around_89 kfFa_33 (by decide) rfl ?_
    refine v_get hC (klBo hY.2) (F := FBo Y _) (by assumption) 2 dFa_around_92 kfFa_144 (by decide) rfl ?_
    exact v_iret hC rfl dFa_around_95 ⟨_, rfl, h⟩
  · refine v_tableIn hB (off := 53) 96 dFa_around_43 (by decide) (by decide) (by decide) (by decide) ?_
    refine v_aload_n hB dFa_around_96 rfl ?_
    refine v_get hC (klFa hY.2) (F := FFa Y _) (by assumption) 3 dFa_around_97 kfFa_33 (by decide) rfl ?_
    refine v_get hC (klBo hY.2) (F := FBo Y _) (by assumption) 3 dFa_around_100 kfFa_147 (by decide) rfl ?_
    exact v_iret hC rfl dFa_around_103 ⟨_, rfl, h⟩

set_option maxHeartbeats 4000000 in
set_option maxRecDepth 100000 in
theorem cFa_sound {l : Launch} {Y : Yt} (hY : YB Y) (hW : YW Y) {μ : Mu} {K : Bool → Mu → Prop} (h : snW μ K) : Ct l Y yFa_sound wFa_sound ({ frames := 9, cells := 0, slots := 0, locals := 227 }) [.ref (ad Y 0)] μ (PB K) := by
  refine ct_of hY.1 (by decide) rfl (Nat.le_of_ble_eq_true rfl) (lv := [some (.ref (ad Y 0))]) rfl (fun X hC => ?_)
  have hB := hC.B
  obtain ⟨hFa, hDi, hTr, hSe, h4, h5, h6b, h7, h8, hpages, htrail, hturns, hplaces, hlog, hlp, hfound, hwait, hsq, hlk, hPg, hrow, hlrow, hfb⟩ := id hW
  refine v_aload_n hB dFa_sound_0 rfl ?_
  refine v_get hC (klFa hY.2) (F := FFa Y _) (by assumption) 4 dFa_sound_1 kfFa_37 (by decide) rfl ?_
  refine v_if_eq hB 21 dFa_sound_4 (by decide) (fun c0 => ?_) (fun c0 => ?_)
  · rw [snW, if_pos c0] at h
    refine v_iconst hB dFa_sound_21 (v := 0) (by decide) ?_
    exact v_zret hC rfl (by decide) dFa_sound_22 ⟨false, rfl, h⟩
  rw [snW, if_neg c0] at h
  refine v_aload_n hB dFa_sound_7 rfl ?_
  refine v_get hC (klFa hY.2) (F := FFa Y _) (by assumption) 1 dFa_sound_8 kfFa_19 (by decide) rfl ?_
  refine v_callV hC tbok kmFa_150 kiTr_isWhole ksTr_isWhole dFa_sound_11 (F := FTr Y _) (by assumption) (by rw [hY.2]; rfl) (cTr_isWhole hY hW h) rfl rfl ⟨Nat.le_of_ble_eq_true rfl, Nat.le_of_ble_eq_true rfl⟩ rfl rfl (Nat.le_of_ble_eq_true rfl) ⟨Nat.zero_le _, Nat.zero_le _⟩ (kB fun b ν h1 => ?_)
  refine v_if_eq hB 21 dFa_sound_14 (by decide) (fun c1 => ?_) (fun c1 => ?_)
  · rw [bI_0.mp c1] at h1
    refine v_iconst hB dFa_sound_21 (v := 0) (by decide) ?_
    exact v_zret hC rfl (by decide) dFa_sound_22 ⟨false, rfl, h1⟩
  rw [bI_n.mp c1] at h1
  refine v_iconst hB dFa_sound_17 (v := 1) (by decide) ?_
  refine v_goto hB 22 dFa_sound_18 (by decide) ?_
  exact v_zret hC rfl (by decide) dFa_sound_22 ⟨true, rfl, h1⟩

