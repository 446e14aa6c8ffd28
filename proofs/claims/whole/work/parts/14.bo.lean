/-! BOXES: a box is its five ints. -/
def meetB (a b : Nat → Int32) : Bool := decide (a 0 ≤ b 2) && (decide (b 0 ≤ a 2) && (decide (a 1 ≤ b 3) && decide (b 1 ≤ a 3)))
def holdB (a b : Nat → Int32) : Bool := decide (a 0 ≤ b 0) && (decide (b 2 ≤ a 2) && (decide (a 1 ≤ b 1) && decide (b 3 ≤ a 3)))
def sameB (a b : Nat → Int32) : Bool := decide (a 0 = b 0) && (decide (a 1 = b 1) && (decide (a 2 = b 2) && (decide (a 3 = b 3) && decide (a 4 = b 4))))
def precB (a b : Nat → Int32) : Bool := if a 0 = b 0 then (if a 1 = b 1 then (if a 2 = b 2 then (if a 3 = b 3 then decide (a 4 < b 4) else decide (a 3 < b 3)) else decide (a 2 < b 2)) else decide (a 1 < b 1)) else decide (a 0 < b 0)
def areaB (a : Nat → Int32) : Int64 := ((a 2).toInt64 - (a 0).toInt64) * ((a 3).toInt64 - (a 1).toInt64)
def rimB (a : Nat → Int32) : Int64 := ((a 2).toInt64 - (a 0).toInt64) + ((a 3).toInt64 - (a 1).toInt64)
def withB (a b : Nat → Int32) : Int64 := ((mxI (a 2) (b 2)).toInt64 - (mnI (a 0) (b 0)).toInt64) * ((mxI (a 3) (b 3)).toInt64 - (mnI (a 1) (b 1)).toInt64)
def offB (x lo hi : Int32) : Int64 := if x < lo then lo.toInt64 - x.toInt64 else if hi < x then x.toInt64 - hi.toInt64 else 0
def sqB (a : Nat → Int32) (x y : Int32) : Int64 := offB x (a 0) (a 2) * offB x (a 0) (a 2) + offB y (a 1) (a 3) * offB y (a 1) (a 3)
/-- the memory behind assign, become, shrinkToNothing, widen -/
def asg (μ : Mu) (i : Nat) (a b c d e : Int32) : Mu := wi (wi (wi (wi (wi μ i 0 a) i 1 b) i 2 c) i 3 d) i 4 e
def bec (μ : Mu) (i j : Nat) : Mu := asg μ i (μ.1 j 0) (μ.1 j 1) (μ.1 j 2) (μ.1 j 3) (μ.1 j 4)
def shr (μ : Mu) (i : Nat) : Mu := wi (wi (wi (wi μ i 0 2000000000) i 1 2000000000) i 2 (-2000000000)) i 3 (-2000000000)
def wid (μ : Mu) (i j : Nat) : Mu := wi (wi (wi (wi μ i 0 (mnI (μ.1 i 0) (μ.1 j 0))) i 1 (mnI (μ.1 i 1) (μ.1 j 1))) i 2 (mxI (μ.1 i 2) (μ.1 j 2))) i 3 (mxI (μ.1 i 3) (μ.1 j 3))
/-- what a write leaves -/
theorem wi_at (μ : Mu) (i k : Nat) (x : Int32) (j q : Nat) : (wi μ i k x).1 j q = if j = i ∧ q = k then x else μ.1 j q := by
  by_cases h : j = i
  · subst h
    rw [wi_self]
    by_cases h2 : q = k <;> simp [upd, h2]
  · rw [wi_ne μ k x h]
    simp [h]
theorem wi_l (μ : Mu) (i k : Nat) (x : Int32) : (wi μ i k x).2 = μ.2 := rfl
theorem wi_q (μ : Mu) (i k : Nat) (x : Int32) (j q : Nat) (h : q ≠ k) : (wi μ i k x).1 j q = μ.1 j q := by rw [wi_at]; simp [h]
set_option maxHeartbeats 4000000 in
set_option maxRecDepth 100000 in
theorem cBo_assign {l : Launch} {Y : Yt} (hY : YB Y) {i : Nat} (hi : isBo Y i) (a b c d e : Int32) (μ : Mu) : Ct l Y yBo_assign wBo_assign ({ frames := 0, cells := 0, slots := 0, locals := 0 }) [.ref (ad Y i), .int a, .int b, .int c, .int d, .int e] μ (PE none (asg μ i a b c d e)) := by
  refine ct_of hY.1 (by decide) rfl (Nat.le_of_ble_eq_true rfl) (lv := [some (.ref (ad Y i)), some (.int a), some (.int b), some (.int c), some (.int d), some (.int e)]) rfl (fun X hC => ?_)
  have hB := hC.B
  refine v_aload_n hB dBo_assign_0 rfl ?_
  refine v_iload_n hB dBo_assign_1 rfl ?_
  refine v_puti hC (klBo hY.2) (F := FBo Y _) (by assumption) 0 dBo_assign_2 kfBo_9 (by decide) rfl rfl rfl (fun _ _ => rfl) (fun _ _ => Nat.le_of_ble_eq_true rfl) ?_
  refine v_aload_n hB dBo_assign_5 rfl ?_
  refine v_iload_n hB dBo_assign_6 rfl ?_
  refine v_puti hC (klBo hY.2) (F := FBo Y _) (by assumption) 1 dBo_assign_7 kfBo_15 (by decide) rfl rfl rfl (fun _ _ => rfl) (fun _ _ => Nat.le_of_ble_eq_true rfl) ?_
  refine v_aload_n hB dBo_assign_10 rfl ?_
  refine v_iload_n hB dBo_assign_11 rfl ?_
  refine v_puti hC (klBo hY.2) (F := FBo Y _) (by assumption) 2 dBo_assign_12 kfBo_18 (by decide) rfl rfl rfl (fun _ _ => rfl) (fun _ _ => Nat.le_of_ble_eq_true rfl) ?_
  refine v_aload_n hB dBo_assign_15 rfl ?_
  refine v_iload hB dBo_assign_16 rfl ?_
  refine v_puti hC (klBo hY.2) (F := FBo Y _) (by assumption) 3 dBo_assign_18 kfBo_21 (by decide) rfl rfl rfl (fun _ _ => rfl) (fun _ _ => Nat.le_of_ble_eq_true rfl) ?_
  refine v_aload_n hB dBo_assign_21 rfl ?_
  refine v_iload hB dBo_assign_22 rfl ?_
  refine v_puti hC (klBo hY.2) (F := FBo Y _) (by assumption) 4 dBo_assign_24 kfBo_24 (by decide) rfl rfl rfl (fun _ _ => rfl) (fun _ _ => Nat.le_of_ble_eq_true rfl) ?_
  exact v_vret hC rfl dBo_assign_27 ⟨rfl, rfl⟩

set_option maxHeartbeats 4000000 in
set_option maxRecDepth 100000 in
theorem cBo_become {l : Launch} {Y : Yt} (hY : YB Y) {i j : Nat} (hi : isBo Y i) (hj : isBo Y j) (μ : Mu) : Ct l Y yBo_become wBo_become ({ frames := 0, cells := 0, slots := 0, locals := 0 }) [.ref (ad Y i), .ref (ad Y j)] μ (PE none (bec μ i j)) := by
  refine ct_of hY.1 (by decide) rfl (Nat.le_of_ble_eq_true rfl) (lv := [some (.ref (ad Y i)), some (.ref (ad Y j))]) rfl (fun X hC => ?_)
  have hB := hC.B
  refine v_aload_n hB dBo_become_0 rfl ?_
  refine v_aload_n hB dBo_become_1 rfl ?_
  refine v_get hC (klBo hY.2) (F := FBo Y _) (by assumption) 0 dBo_become_2 kfBo_9 (by decide) rfl ?_
  refine v_puti hC (klBo hY.2) (F := FBo Y _) (by assumption) 0 dBo_become_5 kfBo_9 (by decide) rfl rfl rfl (fun _ _ => rfl) (fun _ _ => Nat.le_of_ble_eq_true rfl) ?_
  refine v_aload_n hB dBo_become_8 rfl ?_
  refine v_aload_n hB dBo_become_9 rfl ?_
  refine v_get hC (klBo hY.2) (F := FBo Y _) (by assumption) 1 dBo_become_10 kfBo_15 (by decide) rfl ?_
  refine v_puti hC (klBo hY.2) (F := FBo Y _) (by assumption) 1 dBo_become_13 kfBo_15 (by decide) rfl rfl rfl (fun _ _ => rfl) (fun _ _ => Nat.le_of_ble_eq_true rfl) ?_
  refine v_aload_n hB dBo_become_16 rfl ?_
  refine v_aload_n hB dBo_become_17 rfl ?_
  refine v_get hC (klBo hY.2) (F := FBo Y _) (by assumption) 2 dBo_become_18 kfBo_18 (by decide) rfl ?_
  refine v_puti hC (klBo hY.2) (F := FBo Y _) (by assumption) 2 dBo_become_21 kfBo_18 (by decide) rfl rfl rfl (fun _ _ => rfl) (fun _ _ => Nat.le_of_ble_eq_true rfl) ?_
  refine v_aload_n hB dBo_become_24 rfl ?_
  refine v_aload_n hB dBo_become_25 rfl ?_
  refine v_get hC (klBo hY.2) (F := FBo Y _) (by assumption) 3 dBo_become_26 kfBo_21 (by decide) rfl ?_
  refine v_puti hC (klBo hY.2) (F := FBo Y _) (by assumption) 3 dBo_become_29 kfBo_21 (by decide) rfl rfl rfl (fun _ _ => rfl) (fun _ _ => Nat.le_of_ble_eq_true rfl) ?_
  refine v_aload_n hB dBo_become_32 rfl ?_
  refine v_aload_n hB dBo_become_33 rfl ?_
  refine v_get hC (klBo hY.2) (F := FBo Y _) (by assumption) 4 dBo_become_34 kfBo_24 (by decide) rfl ?_
  refine v_puti hC (klBo hY.2) (F := FBo Y _) (by assumption) 4 dBo_become_37 kfBo_24 (by decide) rfl rfl rfl (fun _ _ => rfl) (fun _ _ => Nat.le_of_ble_eq_true rfl) ?_
  exact v_vret hC rfl dBo_become_40 ⟨rfl, by simp only [bec, asg, wi_at]; simp⟩

set_option maxHeartbeats 4000000 in
set_option maxRecDepth 100000 in
theorem cBo_shrinkToNothing {l : Launch} {Y : Yt} (hY : YB Y) {i : Nat} (hi : isBo Y i) (μ : Mu) : Ct l Y yBo_shrinkToNothing wBo_shrinkToNothing ({ frames := 0, cells := 0, slots := 0, locals := 0 }) [.ref (ad Y i)] μ (PE none (shr μ i)) := by
  refine ct_of hY.1 (by decide) rfl (Nat.le_of_ble_eq_true rfl) (lv := [some (.ref (ad Y i))]) rfl (fun X hC => ?_)
  have hB := hC.B
  refine v_aload_n hB dBo_shrinkToNothing_0 rfl ?_
  refine v_ldc hC (v := 2000000000) kfBo_27 dBo_shrinkToNothing_1 ?_
  refine v_puti hC (klBo hY.2) (F := FBo Y _) (by assumption) 0 dBo_shrinkToNothing_3 kfBo_9 (by decide) rfl rfl rfl (fun _ _ => rfl) (fun _ _ => Nat.le_of_ble_eq_true rfl) ?_
  refine v_aload_n hB dBo_shrinkToNothing_6 rfl ?_
  refine v_ldc hC (v := 2000000000) kfBo_27 dBo_shrinkToNothing_7 ?_
  refine v_puti hC (klBo hY.2) (F := FBo Y _) (by assumption) 1 dBo_shrinkToNothing_9 kfBo_15 (by decide) rfl rfl rfl (fun _ _ => rfl) (fun _ _ => Nat.le_of_ble_eq_true rfl) ?_
  refine v_aload_n hB dBo_shrinkToNothing_12 rfl ?_
  refine v_ldc hC (v := -2000000000) kfBo_28 dBo_shrinkToNothing_13 ?_
  refine v_puti hC (klBo hY.2) (F := FBo Y _) (by assumption) 2 dBo_shrinkToNothing_15 kfBo_18 (by decide) rfl rfl rfl (fun _ _ => rfl) (fun _ _ => Nat.le_of_ble_eq_true rfl) ?_
  refine v_aload_n hB dBo_shrinkToNothing_18 rfl ?_
  refine v_ldc hC (v := -2000000000) kfBo_28 dBo_shrinkToNothing_19 ?_
  refine v_puti hC (klBo hY.2) (F := FBo Y _) (by assumption) 3 dBo_shrinkToNothing_21 kfBo_21 (by decide) rfl rfl rfl (fun _ _ => rfl) (fun _ _ => Nat.le_of_ble_eq_true rfl) ?_
  exact v_vret hC rfl dBo_shrinkToNothing_24 ⟨rfl, rfl⟩

set_option maxHeartbeats 4000000 in
set_option maxRecDepth 100000 in
theorem cBo_widen {l : Launch} {Y : Yt} (hY : YB Y) {i j : Nat} (hi : isBo Y i) (hj : isBo Y j) (μ : Mu) : Ct l Y yBo_widen wBo_widen ({ frames := 0, cells := 0, slots := 0, locals := 0 }) [.ref (ad Y i), .ref (ad Y j)] μ (PE none (wid μ i j)) := by
  refine ct_of hY.1 (by decide) rfl (Nat.le_of_ble_eq_true rfl) (lv := [some (.ref (ad Y i)), some (.ref (ad Y j))]) rfl (fun X hC => ?_)
  have hB := hC.B
  have key : ∀ v, v = mnI (μ.1 i 0) (μ.1 j 0) → VG X (yA Y) 2 0 0 (VQ X Y (PE none (wid μ i j))) (yI Y (μ)) 23 [some (.ref (ad Y i)), some (.ref (ad Y j))] [.int v, .ref (ad Y i)] := by
    intro v hv
    subst hv
    refine v_puti hC (klBo hY.2) (F := FBo Y _) (by assumption) 0 dBo_widen_23 kfBo_9 (by decide) rfl rfl rfl (fun _ _ => rfl) (fun _ _ => Nat.le_of_ble_eq_true rfl) ?_
    have key : ∀ v, v = mnI (μ.1 i 1) (μ.1 j 1) → VG X (yA Y) 2 0 0 (VQ X Y (PE none (wid μ i j))) (yI Y (wi (μ) i 0 (mnI (μ.1 i 0) (μ.1 j 0)))) 49 [some (.ref (ad Y i)), some (.ref (ad Y j))] [.int v, .ref (ad Y i)] := by
      intro v hv
      subst hv
      refine v_puti hC (klBo hY.2) (F := FBo Y _) (by assumption) 1 dBo_widen_49 kfBo_15 (by decide) rfl rfl rfl (fun _ _ => rfl) (fun _ _ => Nat.le_of_ble_eq_true rfl) ?_
      have key : ∀ v, v = mxI (μ.1 i 2) (μ.1 j 2) → VG X (yA Y) 2 0 0 (VQ X Y (PE none (wid μ i j))) (yI Y (wi (wi (μ) i 0 (mnI (μ.1 i 0) (μ.1 j 0))) i 1 (mnI (μ.1 i 1) (μ.1 j 1)))) 75 [some (.ref (ad Y i)), some (.ref (ad Y j))] [.int v, .ref (ad Y i)] := by
        intro v hv
        subst hv
        refine v_puti hC (klBo hY.2) (F := FBo Y _) (by assumption) 2 dBo_widen_75 kfBo_18 (by decide) rfl rfl rfl (fun _ _ => rfl) (fun _ _ => Nat.le_of_ble_eq_true rfl) ?_
        have key : ∀ v, v = mxI (μ.1 i 3) (μ.1 j 3) → VG X (yA Y) 2 0 0 (VQ X Y (PE none (wid μ i j))) (yI Y (wi (wi (wi (μ) i 0 (mnI (μ.1 i 0) (μ.1 j 0))) i 1 (mnI (μ.1 i 1) (μ.1 j 1))) i 2 (mxI (μ.1 i 2) (μ.1 j 2)))) 101 [some (.ref (ad Y i)), some (.ref (ad Y j))] [.int v, .ref (ad Y i)] := by
          intro v hv
          subst hv
          refine v_puti hC (klBo hY.2) (F := FBo Y _) (by assumption) 3 dBo_widen_101 kfBo_21 (by decide) rfl rfl rfl (fun _ _ => rfl) (fun _ _ => Nat.le_of_ble_eq_true rfl) ?_
          exact v_vret hC rfl dBo_widen_104 ⟨rfl, rfl⟩
        refine v_aload_n hB dBo_widen_78 rfl ?_
        refine v_aload_n hB dBo_widen_79 rfl ?_
        refine v_get hC (klBo hY.2) (F := FBo Y _) (by assumption) 3 dBo_widen_80 kfBo_21 (by decide) rfl ?_
        refine v_aload_n hB dBo_widen_83 rfl ?_
        refine v_get hC (klBo hY.2) (F := FBo Y _) (by assumption) 3 dBo_widen_84 kfBo_21 (by decide) rfl ?_
        refine v_icmp_le hB 97 dBo_widen_87 (by decide) (fun c => ?_) (fun c => ?_)
        · refine v_aload_n hB dBo_widen_97 rfl ?_
          refine v_get hC (klBo hY.2) (F := FBo Y _) (by assumption) 3 dBo_widen_98 kfBo_21 (by decide) rfl ?_
          refine key _ ?_
          try simp only [wi_at] at c ⊢
          try simp at c ⊢
          rw [mxI, if_neg (Int32.not_lt.mpr c)]
        · refine v_aload_n hB dBo_widen_90 rfl ?_
          refine v_get hC (klBo hY.2) (F := FBo Y _) (by assumption) 3 dBo_widen_91 kfBo_21 (by decide) rfl ?_
          refine v_goto hB 101 dBo_widen_94 (by decide) ?_
          refine key _ ?_
          try simp only [wi_at] at c ⊢
          try simp at c ⊢
          rw [mxI, if_pos c]
      refine v_aload_n hB dBo_widen_52 rfl ?_
      refine v_aload_n hB dBo_widen_53 rfl ?_
      refine v_get hC (klBo hY.2) (F := FBo Y _) (by assumption) 2 dBo_widen_54 kfBo_18 (by decide) rfl ?_
      refine v_aload_n hB dBo_widen_57 rfl ?_
      refine v_get hC (klBo hY.2) (F := FBo Y _) (by assumption) 2 dBo_widen_58 kfBo_18 (by decide) rfl ?_
      refine v_icmp_le hB 71 dBo_widen_61 (by decide) (fun c => ?_) (fun c => ?_)
      · refine v_aload_n hB dBo_widen_71 rfl ?_
        refine v_get hC (klBo hY.2) (F := FBo Y _) (by assumption) 2 dBo_widen_72 kfBo_18 (by decide) rfl ?_
        refine key _ ?_
        try simp only [wi_at] at c ⊢
        try simp at c ⊢
        rw [mxI, if_neg (Int32.not_lt.mpr c)]
      · refine v_aload_n hB dBo_widen_64 rfl ?_
        refine v_get hC (klBo hY.2) (F := FBo Y _) (by assumption) 2 dBo_widen_65 kfBo_18 (by decide) rfl ?_
        refine v_goto hB 75 dBo_widen_68 (by decide) ?_
        refine key _ ?_
        try simp only [wi_at] at c ⊢
        try simp at c ⊢
        rw [mxI, if_pos c]
    refine v_aload_n hB dBo_widen_26 rfl ?_
    refine v_aload_n hB dBo_widen_27 rfl ?_
    refine v_get hC (klBo hY.2) (F := FBo Y _) (by assumption) 1 dBo_widen_28 kfBo_15 (by decide) rfl ?_
    refine v_aload_n hB dBo_widen_31 rfl ?_
    refine v_get hC (klBo hY.2) (F := FBo Y _) (by assumption) 1 dBo_widen_32 kfBo_15 (by decide) rfl ?_
    refine v_icmp_ge hB 45 dBo_widen_35 (by decide) (fun c => ?_) (fun c => ?_)
    · refine v_aload_n hB dBo_widen_45 rfl ?_
      refine v_get hC (klBo hY.2) (F := FBo Y _) (by assumption) 1 dBo_widen_46 kfBo_15 (by decide) rfl ?_
      refine key _ ?_
      try simp only [wi_at] at c ⊢
      try simp at c ⊢
      rw [mnI, if_neg (Int32.not_lt.mpr c)]
    · refine v_aload_n hB dBo_widen_38 rfl ?_
      refine v_get hC (klBo hY.2) (F := FBo Y _) (by assumption) 1 dBo_widen_39 kfBo_15 (by decide) rfl ?_
      refine v_goto hB 49 dBo_widen_42 (by decide) ?_
      refine key _ ?_
      try simp only [wi_at] at c ⊢
      try simp at c ⊢
      rw [mnI, if_pos c]
  refine v_aload_n hB dBo_widen_0 rfl ?_
  refine v_aload_n hB dBo_widen_1 rfl ?_
  refine v_get hC (klBo hY.2) (F := FBo Y _) (by assumption) 0 dBo_widen_2 kfBo_9 (by decide) rfl ?_
  refine v_aload_n hB dBo_widen_5 rfl ?_
  refine v_get hC (klBo hY.2) (F := FBo Y _) (by assumption) 0 dBo_widen_6 kfBo_9 (by decide) rfl ?_
  refine v_icmp_ge hB 19 dBo_widen_9 (by decide) (fun c => ?_) (fun c => ?_)
  · refine v_aload_n hB dBo_widen_19 rfl ?_
    refine v_get hC (klBo hY.2) (F := FBo Y _) (by assumption) 0 dBo_widen_20 kfBo_9 (by decide) rfl ?_
    refine key _ ?_
    try simp only [wi_at] at c ⊢
    try simp at c ⊢
    rw [mnI, if_neg (Int32.not_lt.mpr c)]
  · refine v_aload_n hB dBo_widen_12 rfl ?_
    refine v_get hC (klBo hY.2) (F := FBo Y _) (by assumption) 0 dBo_widen_13 kfBo_9 (by decide) rfl ?_
    refine v_goto hB 23 dBo_widen_16 (by decide) ?_
    refine key _ ?_
    try simp only [wi_at] at c ⊢
    try simp at c ⊢
    rw [mnI, if_pos c]

set_option maxHeartbeats 4000000 in
set_option maxRecDepth 100000 in
theorem cBo_meets {l : Launch} {Y : Yt} (hY : YB Y) {i j : Nat} (hi : isBo Y i) (hj : isBo Y j) (μ : Mu) : Ct l Y yBo_meets wBo_meets ({ frames := 0, cells := 0, slots := 0, locals := 0 }) [.ref (ad Y i), .ref (ad Y j)] μ (PE (some (.int (bI (meetB (μ.1 i) (μ.1 j))))) μ) := by
  refine ct_of hY.1 (by decide) rfl (Nat.le_of_ble_eq_true rfl) (lv := [some (.ref (ad Y i)), some (.ref (ad Y j))]) rfl (fun X hC => ?_)
  have hB := hC.B
  refine v_aload_n hB dBo_meets_0 rfl ?_
  refine v_get hC (klBo hY.2) (F := FBo Y _) (by assumption) 0 dBo_meets_1 kfBo_9 (by decide) rfl ?_
  refine v_aload_n hB dBo_meets_4 rfl ?_
  refine v_get hC (klBo hY.2) (F := FBo Y _) (by assumption) 2 dBo_meets_5 kfBo_18 (by decide) rfl ?_
  refine v_icmp_gt hB 48 dBo_meets_8 (by decide) (fun c0 => ?_) (fun c0 => ?_)
  · refine v_iconst hB dBo_meets_48 (v := 0) (by decide) ?_
    exact v_zret hC rfl (by decide) dBo_meets_49 ⟨congrArg (fun x => some (Value.int x)) (bI_ff (by simp only [meetB]; simp [Int32.not_le.mpr c0])), rfl⟩
  refine v_aload_n hB dBo_meets_11 rfl ?_
  refine v_get hC (klBo hY.2) (F := FBo Y _) (by assumption) 0 dBo_meets_12 kfBo_9 (by decide) rfl ?_
  refine v_aload_n hB dBo_meets_15 rfl ?_
  refine v_get hC (klBo hY.2) (F := FBo Y _) (by assumption) 2 dBo_meets_16 kfBo_18 (by decide) rfl ?_
  refine v_icmp_gt hB 48 dBo_meets_19 (by decide) (fun c1 => ?_) (fun c1 => ?_)
  · refine v_iconst hB dBo_meets_48 (v := 0) (by decide) ?_
    exact v_zret hC rfl (by decide) dBo_meets_49 ⟨congrArg (fun x => some (Value.int x)) (bI_ff (by simp only [meetB]; simp [Int32.not_le.mpr c1])), rfl⟩
  refine v_aload_n hB dBo_meets_22 rfl ?_
  refine v_get hC (klBo hY.2) (F := FBo Y _) (by assumption) 1 dBo_meets_23 kfBo_15 (by decide) rfl ?_
  refine v_aload_n hB dBo_meets_26 rfl ?_
  refine v_get hC (klBo hY.2) (F := FBo Y _) (by assumption) 3 dBo_meets_27 kfBo_21 (by decide) rfl ?_
  refine v_icmp_gt hB 48 dBo_meets_30 (by decide) (fun c2 => ?_) (fun c2 => ?_)
  · refine v_iconst hB dBo_meets_48 (v := 0) (by decide) ?_
    exact v_zret hC rfl (by decide) dBo_meets_49 ⟨congrArg (fun x => some (Value.int x)) (bI_ff (by simp only [meetB]; simp [Int32.not_le.mpr c2])), rfl⟩
  refine v_aload_n hB dBo_meets_33 rfl ?_
  refine v_get hC (klBo hY.2) (F := FBo Y _) (by assumption) 1 dBo_meets_34 kfBo_15 (by decide) rfl ?_
  refine v_aload_n hB dBo_meets_37 rfl ?_
  refine v_get hC (klBo hY.2) (F := FBo Y _) (by assumption) 3 dBo_meets_38 kfBo_21 (by decide) rfl ?_
  refine v_icmp_gt hB 48 dBo_meets_41 (by decide) (fun c3 => ?_) (fun c3 => ?_)
  · refine v_iconst hB dBo_meets_48 (v := 0) (by decide) ?_
    exact v_zret hC rfl (by decide) dBo_meets_49 ⟨congrArg (fun x => some (Value.int x)) (bI_ff (by simp only [meetB]; simp [Int32.not_le.mpr c3])), rfl⟩
  refine v_iconst hB dBo_meets_44 (v := 1) (by decide) ?_
  refine v_goto hB 49 dBo_meets_45 (by decide) ?_
  exact v_zret hC rfl (by decide) dBo_meets_49 ⟨congrArg (fun x => some (Value.int x)) (bI_t (by simp only [meetB]; simp [Int32.not_lt.mp c0, Int32.not_lt.mp c1, Int32.not_lt.mp c2, Int32.not_lt.mp c3])), rfl⟩

set_option maxHeartbeats 4000000 in
set_option maxRecDepth 100000 in
theorem cBo_holds {l : Launch} {Y : Yt} (hY : YB Y) {i j : Nat} (hi : isBo Y i) (hj : isBo Y j) (μ : Mu) : Ct l Y yBo_holds wBo_holds ({ frames := 0, cells := 0, slots := 0, locals := 0 }) [.ref (ad Y i), .ref (ad Y j)] μ (PE (some (.int (bI (holdB (μ.1 i) (μ.1 j))))) μ) := by
  refine ct_of hY.1 (by decide) rfl (Nat.le_of_ble_eq_true rfl) (lv := [some (.ref (ad Y i)), some (.ref (ad Y j))]) rfl (fun X hC => ?_)
  have hB := hC.B
  refine v_aload_n hB dBo_holds_0 rfl ?_
  refine v_get hC (klBo hY.2) (F := FBo Y _) (by assumption) 0 dBo_holds_1 kfBo_9 (by decide) rfl ?_
  refine v_aload_n hB dBo_holds_4 rfl ?_
  refine v_get hC (klBo hY.2) (F := FBo Y _) (by assumption) 0 dBo_holds_5 kfBo_9 (by decide) rfl ?_
  refine v_icmp_gt hB 48 dBo_holds_8 (by decide) (fun c0 => ?_) (fun c0 => ?_)
  · refine v_iconst hB dBo_holds_48 (v := 0) (by decide) ?_
    exact v_zret hC rfl (by decide) dBo_holds_49 ⟨congrArg (fun x => some (Value.int x)) (bI_ff (by simp only [holdB]; simp [Int32.not_le.mpr c0])), rfl⟩
  refine v_aload_n hB dBo_holds_11 rfl ?_
  refine v_get hC (klBo hY.2) (F := FBo Y _) (by assumption) 2 dBo_holds_12 kfBo_18 (by decide) rfl ?_
  refine v_aload_n hB dBo_holds_15 rfl ?_
  refine v_get hC (klBo hY.2) (F := FBo Y _) (by assumption) 2 dBo_holds_16 kfBo_18 (by decide) rfl ?_
  refine v_icmp_gt hB 48 dBo_holds_19 (by decide) (fun c1 => ?_) (fun c1 => ?_)
  · refine v_iconst hB dBo_holds_48 (v := 0) (by decide) ?_
    exact v_zret hC rfl (by decide) dBo_holds_49 ⟨congrArg (fun x => some (Value.int x)) (bI_ff (by simp only [holdB]; simp [Int32.not_le.mpr c1])), rfl⟩
  refine v_aload_n hB dBo_holds_22 rfl ?_
  refine v_get hC (klBo hY.2) (F := FBo Y _) (by assumption) 1 dBo_holds_23 kfBo_15 (by decide) rfl ?_
  refine v_aload_n hB dBo_holds_26 rfl ?_
  refine v_get hC (klBo hY.2) (F := FBo Y _) (by assumption) 1 dBo_holds_27 kfBo_15 (by decide) rfl ?_
  refine v_icmp_gt hB 48 dBo_holds_30 (by decide) (fun c2 => ?_) (fun c2 => ?_)
  · refine v_iconst hB dBo_holds_48 (v := 0) (by decide) ?_
    exact v_zret hC rfl (by decide) dBo_holds_49 ⟨congrArg (fun x => some (Value.int x)) (bI_ff (by simp only [holdB]; simp [Int32.not_le.mpr c2])), rfl⟩
  refine v_aload_n hB dBo_holds_33 rfl ?_
  refine v_get hC (klBo hY.2) (F := FBo Y _) (by assumption) 3 dBo_holds_34 kfBo_21 (by decide) rfl ?_
  refine v_aload_n hB dBo_holds_37 rfl ?_
  refine v_get hC (klBo hY.2) (F := FBo Y _) (by assumption) 3 dBo_holds_38 kfBo_21 (by decide) rfl ?_
  refine v_icmp_gt hB 48 dBo_holds_41 (by decide) (fun c3 => ?_) (fun c3 => ?_)
  · refine v_iconst hB dBo_holds_48 (v := 0) (by decide) ?_
    exact v_zret hC rfl (by decide) dBo_holds_49 ⟨congrArg (fun x => some (Value.int x)) (bI_ff (by simp only [holdB]; simp [Int32.not_le.mpr c3])), rfl⟩
  refine v_iconst hB dBo_holds_44 (v := 1) (by decide) ?_
  refine v_goto hB 49 dBo_holds_45 (by decide) ?_
  exact v_zret hC rfl (by decide) dBo_holds_49 ⟨congrArg (fun x => some (Value.int x)) (bI_t (by simp only [holdB]; simp [Int32.not_lt.mp c0, Int32.not_lt.mp c1, Int32.not_lt.mp c2, Int32.not_lt.mp c3])), rfl⟩

set_option maxHeartbeats 4000000 in
set_option maxRecDepth 100000 in
theorem cBo_isSame {l : Launch} {Y : Yt} (hY : YB Y) {i j : Nat} (hi : isBo Y i) (hj : isBo Y j) (μ : Mu) : Ct l Y yBo_isSame wBo_isSame ({ frames := 0, cells := 0, slots := 0, locals := 0 }) [.ref (ad Y i), .ref (ad Y j)] μ (PE (some (.int (bI (sameB (μ.1 i) (μ.1 j))))) μ) := by
  refine ct_of hY.1 (by decide) rfl (Nat.le_of_ble_eq_true rfl) (lv := [some (.ref (ad Y i)), some (.ref (ad Y j))]) rfl (fun X hC => ?_)
  have hB := hC.B
  refine v_aload_n hB dBo_isSame_0 rfl ?_
  refine v_get hC (klBo hY.2) (F := FBo Y _) (by assumption) 0 dBo_isSame_1 kfBo_9 (by decide) rfl ?_
  refine v_aload_n hB dBo_isSame_4 rfl ?_
  refine v_get hC (klBo hY.2) (F := FBo Y _) (by assumption) 0 dBo_isSame_5 kfBo_9 (by decide) rfl ?_
  refine v_icmp_ne hB 59 dBo_isSame_8 (by decide) (fun c0 => ?_) (fun c0 => ?_)
  · refine v_iconst hB dBo_isSame_59 (v := 0) (by decide) ?_
    exact v_zret hC rfl (by decide) dBo_isSame_60 ⟨congrArg (fun x => some (Value.int x)) (bI_ff (by simp only [sameB]; simp [c0])), rfl⟩
  refine v_aload_n hB dBo_isSame_11 rfl ?_
  refine v_get hC (klBo hY.2) (F := FBo Y _) (by assumption) 1 dBo_isSame_12 kfBo_15 (by decide) rfl ?_
  refine v_aload_n hB dBo_isSame_15 rfl ?_
  refine v_get hC (klBo hY.2) (F := FBo Y _) (by assumption) 1 dBo_isSame_16 kfBo_15 (by decide) rfl ?_
  refine v_icmp_ne hB 59 dBo_isSame_19 (by decide) (fun c1 => ?_) (fun c1 => ?_)
  · refine v_iconst hB dBo_isSame_59 (v := 0) (by decide) ?_
    exact v_zret hC rfl (by decide) dBo_isSame_60 ⟨congrArg (fun x => some (Value.int x)) (bI_ff (by simp only [sameB]; simp [c1])), rfl⟩
  refine v_aload_n hB dBo_isSame_22 rfl ?_
  refine v_get hC (klBo hY.2) (F := FBo Y _) (by assumption) 2 dBo_isSame_23 kfBo_18 (by decide) rfl ?_
  refine v_aload_n hB dBo_isSame_26 rfl ?_
  refine v_get hC (klBo hY.2) (F := FBo Y _) (by assumption) 2 dBo_isSame_27 kfBo_18 (by decide) rfl ?_
  refine v_icmp_ne hB 59 dBo_isSame_30 (by decide) (fun c2 => ?_) (fun c2 => ?_)
  · refine v_iconst hB dBo_isSame_59 (v := 0) (by decide) ?_
    exact v_zret hC rfl (by decide) dBo_isSame_60 ⟨congrArg (fun x => some (Value.int x)) (bI_ff (by simp only [sameB]; simp [c2])), rfl⟩
  refine v_aload_n hB dBo_isSame_33 rfl ?_
  refine v_get hC (klBo hY.2) (F := FBo Y _) (by assumption) 3 dBo_isSame_34 kfBo_21 (by decide) rfl ?_
  refine v_aload_n hB dBo_isSame_37 rfl ?_
  refine v_get hC (klBo hY.2) (F := FBo Y _) (by assumption) 3 dBo_isSame_38 kfBo_21 (by decide) rfl ?_
  refine v_icmp_ne hB 59 dBo_isSame_41 (by decide) (fun c3 => ?_) (fun c3 => ?_)
  · refine v_iconst hB dBo_isSame_59 (v := 0) (by decide) ?_
    exact v_zret hC rfl (by decide) dBo_isSame_60 ⟨congrArg (fun x => some (Value.int x)) (bI_ff (by simp only [sameB]; simp [c3])), rfl⟩
  refine v_aload_n hB dBo_isSame_44 rfl ?_
  refine v_get hC (klBo hY.2) (F := FBo Y _) (by assumption) 4 dBo_isSame_45 kfBo_24 (by decide) rfl ?_
  refine v_aload_n hB dBo_isSame_48 rfl ?_
  refine v_get hC (klBo hY.2) (F := FBo Y _) (by assumption) 4 dBo_isSame_49 kfBo_24 (by decide) rfl ?_
  refine v_icmp_ne hB 59 dBo_isSame_52 (by decide) (fun c4 => ?_) (fun c4 => ?_)
  · refine v_iconst hB dBo_isSame_59 (v := 0) (by decide) ?_
    exact v_zret hC rfl (by decide) dBo_isSame_60 ⟨congrArg (fun x => some (Value.int x)) (bI_ff (by simp only [sameB]; simp [c4])), rfl⟩
  refine v_iconst hB dBo_isSame_55 (v := 1) (by decide) ?_
  refine v_goto hB 60 dBo_isSame_56 (by decide) ?_
  exact v_zret hC rfl (by decide) dBo_isSame_60 ⟨congrArg (fun x => some (Value.int x)) (bI_t (by simp only [sameB]; simp [c0, c1, c2, c3, c4])), rfl⟩

set_option maxHeartbeats 4000000 in
set_option maxRecDepth 100000 in
theorem cBo_precedes {l : Launch} {Y : Yt} (hY : YB Y) {i j : Nat} (hi : isBo Y i) (hj : isBo Y j) (μ : Mu) : Ct l Y yBo_precedes wBo_precedes ({ frames := 0, cells := 0, slots := 0, locals := 0 }) [.ref (ad Y i), .ref (ad Y j)] μ (PE (some (.int (bI (precB (μ.1 i) (μ.1 j))))) μ) := by
  refine ct_of hY.1 (by decide) rfl (Nat.le_of_ble_eq_true rfl) (lv := [some (.ref (ad Y i)), some (.ref (ad Y j))]) rfl (fun X hC => ?_)
  have hB := hC.B
  refine v_aload_n hB dBo_precedes_0 rfl ?_
  refine v_get hC (klBo hY.2) (F := FBo Y _) (by assumption) 0 dBo_precedes_1 kfBo_9 (by decide) rfl ?_
  refine v_aload_n hB dBo_precedes_4 rfl ?_
  refine v_get hC (klBo hY.2) (F := FBo Y _) (by assumption) 0 dBo_precedes_5 kfBo_9 (by decide) rfl ?_
  refine v_icmp_eq hB 28 dBo_precedes_8 (by decide) (fun c0 => ?_) (fun c0 => ?_)
  rotate_left
  · refine v_aload_n hB dBo_precedes_11 rfl ?_
    refine v_get hC (klBo hY.2) (F := FBo Y _) (by assumption) 0 dBo_precedes_12 kfBo_9 (by decide) rfl ?_
    refine v_aload_n hB dBo_precedes_15 rfl ?_
    refine v_get hC (klBo hY.2) (F := FBo Y _) (by assumption) 0 dBo_precedes_16 kfBo_9 (by decide) rfl ?_
    refine v_icmp_ge hB 26 dBo_precedes_19 (by decide) (fun e => ?_) (fun e => ?_)
    · refine v_iconst hB dBo_precedes_26 (v := 0) (by decide) ?_
      exact v_zret hC rfl (by decide) dBo_precedes_27 ⟨congrArg (fun x => some (Value.int x)) (bI_ff (by simp only [precB, c0]; simp [Int32.not_lt.mpr e])), rfl⟩
    · refine v_iconst hB dBo_precedes_22 (v := 1) (by decide) ?_
      refine v_goto hB 27 dBo_precedes_23 (by decide) ?_
      exact v_zret hC rfl (by decide) dBo_precedes_27 ⟨congrArg (fun x => some (Value.int x)) (bI_t (by simp only [precB, c0]; simp [Int32.not_le.mp e])), rfl⟩
  refine v_aload_n hB dBo_precedes_28 rfl ?_
  refine v_get hC (klBo hY.2) (F := FBo Y _) (by assumption) 1 dBo_precedes_29 kfBo_15 (by decide) rfl ?_
  refine v_aload_n hB dBo_precedes_32 rfl ?_
  refine v_get hC (klBo hY.2) (F := FBo Y _) (by assumption) 1 dBo_precedes_33 kfBo_15 (by decide) rfl ?_
  refine v_icmp_eq hB 56 dBo_precedes_36 (by decide) (fun c1 => ?_) (fun c1 => ?_)
  rotate_left
  · refine v_aload_n hB dBo_precedes_39 rfl ?_
    refine v_get hC (klBo hY.2) (F := FBo Y _) (by assumption) 1 dBo_precedes_40 kfBo_15 (by decide) rfl ?_
    refine v_aload_n hB dBo_precedes_43 rfl ?_
    refine v_get hC (klBo hY.2) (F := FBo Y _) (by assumption) 1 dBo_precedes_44 kfBo_15 (by decide) rfl ?_
    refine v_icmp_ge hB 54 dBo_precedes_47 (by decide) (fun e => ?_) (fun e => ?_)
    · refine v_iconst hB dBo_precedes_54 (v := 0) (by decide) ?_
      exact v_zret hC rfl (by decide) dBo_precedes_55 ⟨congrArg (fun x => some (Value.int x)) (bI_ff (by simp only [precB, c0, c1]; simp [Int32.not_lt.mpr e])), rfl⟩
    · refine v_iconst hB dBo_precedes_50 (v := 1) (by decide) ?_
      refine v_goto hB 55 dBo_precedes_51 (by decide) ?_
      exact v_zret hC rfl (by decide) dBo_precedes_55 ⟨congrArg (fun x => some (Value.int x)) (bI_t (by simp only [precB, c0, c1]; simp [Int32.not_le.mp e])), rfl⟩
  refine v_aload_n hB dBo_precedes_56 rfl ?_
  refine v_get hC (klBo hY.2) (F := FBo Y _) (by assumption) 2 dBo_precedes_57 kfBo_18 (by decide) rfl ?_
  refine v_aload_n hB dBo_precedes_60 rfl ?_
  refine v_get hC (klBo hY.2) (F := FBo Y _) (by assumption) 2 dBo_precedes_61 kfBo_18 (by decide) rfl ?_
  refine v_icmp_eq hB 84 dBo_precedes_64 (by decide) (fun c2 => ?_) (fun c2 => ?_)
  rotate_left
  · refine v_aload_n hB dBo_precedes_67 rfl ?_
    refine v_get hC (klBo hY.2) (F := FBo Y _) (by assumption) 2 dBo_precedes_68 kfBo_18 (by decide) rfl ?_
    refine v_aload_n hB dBo_precedes_71 rfl ?_
    refine v_get hC (klBo hY.2) (F := FBo Y _) (by assumption) 2 dBo_precedes_72 kfBo_18 (by decide) rfl ?_
    refine v_icmp_ge hB 82 dBo_precedes_75 (by decide) (fun e => ?_) (fun e => ?_)
    · refine v_iconst hB dBo_precedes_82 (v := 0) (by decide) ?_
      exact v_zret hC rfl (by decide) dBo_precedes_83 ⟨congrArg (fun x => some (Value.int x)) (bI_ff (by simp only [precB, c0, c1, c2]; simp [Int32.not_lt.mpr e])), rfl⟩
    · refine v_iconst hB dBo_precedes_78 (v := 1) (by decide) ?_
      refine v_goto hB 83 dBo_precedes_79 (by decide) ?_
      exact v_zret hC rfl (by decide) dBo_precedes_83 ⟨congrArg (fun x => some (Value.int x)) (bI_t (by simp only [precB, c0, c1, c2]; simp [Int32.not_le.mp e])), rfl⟩
  refine v_aload_n hB dBo_precedes_84 rfl ?_
  refine v_get hC (klBo hY.2) (F := FBo Y _) (by assumption) 3 dBo_precedes_85 kfBo_21 (by decide) rfl ?_
  refine v_aload_n hB dBo_precedes_88 rfl ?_
  refine v_get hC (klBo hY.2) (F := FBo Y _) (by assumption) 3 dBo_precedes_89 kfBo_21 (by decide) rfl ?_
  refine v_icmp_eq hB 112 dBo_precedes_92 (by decide) (fun c3 => ?_) (fun c3 => ?_)
  rotate_left
  · refine v_aload_n hB dBo_precedes_95 rfl ?_
    refine v_get hC (klBo hY.2) (F := FBo Y _) (by assumption) 3 dBo_precedes_96 kfBo_21 (by decide) rfl ?_
    refine v_aload_n hB dBo_precedes_99 rfl ?_
    refine v_get hC (klBo hY.2) (F := FBo Y _) (by assumption) 3 dBo_precedes_100 kfBo_21 (by decide) rfl ?_
    refine v_icmp_ge hB 110 dBo_precedes_103 (by decide) (fun e => ?_) (fun e => ?_)
    · refine v_iconst hB dBo_precedes_110 (v := 0) (by decide) ?_
      exact v_zret hC rfl (by decide) dBo_precedes_111 ⟨congrArg (fun x => some (Value.int x)) (bI_ff (by simp only [precB, c0, c1, c2, c3]; simp [Int32.not_lt.mpr e])), rfl⟩
    · refine v_iconst hB dBo_precedes_106 (v := 1) (by decide) ?_
      refine v_goto hB 111 dBo_precedes_107 (by decide) ?_
      exact v_zret hC rfl (by decide) dBo_precedes_111 ⟨congrArg (fun x => some (Value.int x)) (bI_t (by simp only [precB, c0, c1, c2, c3]; simp [Int32.not_le.mp e])), rfl⟩
  refine v_aload_n hB dBo_precedes_112 rfl ?_
  refine v_get hC (klBo hY.2) (F := FBo Y _) (by assumption) 4 dBo_precedes_113 kfBo_24 (by decide) rfl ?_
  refine v_aload_n hB dBo_precedes_116 rfl ?_
  refine v_get hC (klBo hY.2) (F := FBo Y _) (by assumption) 4 dBo_precedes_117 kfBo_24 (by decide) rfl ?_
  refine v_icmp_ge hB 127 dBo_precedes_120 (by decide) (fun e => ?_) (fun e => ?_)
  · refine v_iconst hB dBo_precedes_127 (v := 0) (by decide) ?_
    exact v_zret hC rfl (by decide) dBo_precedes_128 ⟨congrArg (fun x => some (Value.int x)) (bI_ff (by simp only [precB, c0, c1, c2, c3]; simp [Int32.not_lt.mpr e])), rfl⟩
  · refine v_iconst hB dBo_precedes_123 (v := 1) (by decide) ?_
    refine v_goto hB 128 dBo_precedes_124 (by decide) ?_
    exact v_zret hC rfl (by decide) dBo_precedes_128 ⟨congrArg (fun x => some (Value.int x)) (bI_t (by simp only [precB, c0, c1, c2, c3]; simp [Int32.not_le.mp e])), rfl⟩

set_option maxHeartbeats 4000000 in
set_option maxRecDepth 100000 in
theorem cBo_area {l : Launch} {Y : Yt} (hY : YB Y) {i : Nat} (hi : isBo Y i) (μ : Mu) : Ct l Y yBo_area wBo_area ({ frames := 0, cells := 0, slots := 0, locals := 0 }) [.ref (ad Y i)] μ (PE (some (.long (areaB (μ.1 i)))) μ) := by
  refine ct_of hY.1 (by decide) rfl (Nat.le_of_ble_eq_true rfl) (lv := [some (.ref (ad Y i))]) rfl (fun X hC => ?_)
  have hB := hC.B
  refine v_aload_n hB dBo_area_0 rfl ?_
  refine v_get hC (klBo hY.2) (F := FBo Y _) (by assumption) 2 dBo_area_1 kfBo_18 (by decide) rfl ?_
  refine v_i2l hB dBo_area_4 ?_
  refine v_aload_n hB dBo_area_5 rfl ?_
  refine v_get hC (klBo hY.2) (F := FBo Y _) (by assumption) 0 dBo_area_6 kfBo_9 (by decide) rfl ?_
  refine v_i2l hB dBo_area_9 ?_
  refine v_lsub hB dBo_area_10 ?_
  refine v_aload_n hB dBo_area_11 rfl ?_
  refine v_get hC (klBo hY.2) (F := FBo Y _) (by assumption) 3 dBo_area_12 kfBo_21 (by decide) rfl ?_
  refine v_i2l hB dBo_area_15 ?_
  refine v_aload_n hB dBo_area_16 rfl ?_
  refine v_get hC (klBo hY.2) (F := FBo Y _) (by assumption) 1 dBo_area_17 kfBo_15 (by decide) rfl ?_
  refine v_i2l hB dBo_area_20 ?_
  refine v_lsub hB dBo_area_21 ?_
  refine v_lmul hB dBo_area_22 ?_
  exact v_lret hC rfl dBo_area_23 ⟨rfl, rfl⟩

set_option maxHeartbeats 4000000 in
set_option maxRecDepth 100000 in
theorem cBo_rim {l : Launch} {Y : Yt} (hY : YB Y) {i : Nat} (hi : isBo Y i) (μ : Mu) : Ct l Y yBo_rim wBo_rim ({ frames := 0, cells := 0, slots := 0, locals := 0 }) [.ref (ad Y i)] μ (PE (some (.long (rimB (μ.1 i)))) μ) := by
  refine ct_of hY.1 (by decide) rfl (Nat.le_of_ble_eq_true rfl) (lv := [some (.ref (ad Y i))]) rfl (fun X hC => ?_)
  have hB := hC.B
  refine v_aload_n hB dBo_rim_0 rfl ?_
  refine v_get hC (klBo hY.2) (F := FBo Y _) (by assumption) 2 dBo_rim_1 kfBo_18 (by decide) rfl ?_
  refine v_i2l hB dBo_rim_4 ?_
  refine v_aload_n hB dBo_rim_5 rfl ?_
  refine v_get hC (klBo hY.2) (F := FBo Y _) (by assumption) 0 dBo_rim_6 kfBo_9 (by decide) rfl ?_
  refine v_i2l hB dBo_rim_9 ?_
  refine v_lsub hB dBo_rim_10 ?_
  refine v_aload_n hB dBo_rim_11 rfl ?_
  refine v_get hC (klBo hY.2) (F := FBo Y _) (by assumption) 3 dBo_rim_12 kfBo_21 (by decide) rfl ?_
  refine v_i2l hB dBo_rim_15 ?_
  refine v_aload_n hB dBo_rim_16 rfl ?_
  refine v_get hC (klBo hY.2) (F := FBo Y _) (by assumption) 1 dBo_rim_17 kfBo_15 (by decide) rfl ?_
  refine v_i2l hB dBo_rim_20 ?_
  refine v_lsub hB dBo_rim_21 ?_
  refine v_ladd hB dBo_rim_22 ?_
  exact v_lret hC rfl dBo_rim_23 ⟨rfl, rfl⟩

set_option maxHeartbeats 4000000 in
set_option maxRecDepth 100000 in
theorem cBo_areaWith {l : Launch} {Y : Yt} (hY : YB Y) {i j : Nat} (hi : isBo Y i) (hj : isBo Y j) (μ : Mu) : Ct l Y yBo_areaWith wBo_areaWith ({ frames := 1, cells := 0, slots := 0, locals := 21 }) [.ref (ad Y i), .ref (ad Y j)] μ (PE (some (.long (withB (μ.1 i) (μ.1 j)))) μ) := by
  refine ct_of hY.1 (by decide) rfl (Nat.le_of_ble_eq_true rfl) (lv := [some (.ref (ad Y i)), some (.ref (ad Y j)), none, none, none, none]) rfl (fun X hC => ?_)
  have hB := hC.B
  refine v_aload_n hB dBo_areaWith_0 rfl ?_
  refine v_get hC (klBo hY.2) (F := FBo Y _) (by assumption) 2 dBo_areaWith_1 kfBo_18 (by decide) rfl ?_
  refine v_aload_n hB dBo_areaWith_4 rfl ?_
  refine v_get hC (klBo hY.2) (F := FBo Y _) (by assumption) 2 dBo_areaWith_5 kfBo_18 (by decide) rfl ?_
  refine v_mmax hC (kmBo_29).1 dBo_areaWith_8 (Nat.le_of_ble_eq_true rfl) (Nat.le_of_ble_eq_true rfl) ⟨Nat.zero_le _, Nat.zero_le _⟩ ?_
  refine v_i2l hB dBo_areaWith_11 ?_
  refine v_aload_n hB dBo_areaWith_12 rfl ?_
  refine v_get hC (klBo hY.2) (F := FBo Y _) (by assumption) 0 dBo_areaWith_13 kfBo_9 (by decide) rfl ?_
  refine v_aload_n hB dBo_areaWith_16 rfl ?_
  refine v_get hC (klBo hY.2) (F := FBo Y _) (by assumption) 0 dBo_areaWith_17 kfBo_9 (by decide) rfl ?_
  refine v_mmin hC (kmBo_35).1 dBo_areaWith_20 (Nat.le_of_ble_eq_true rfl) (Nat.le_of_ble_eq_true rfl) ⟨Nat.zero_le _, Nat.zero_le _⟩ ?_
  refine v_i2l hB dBo_areaWith_23 ?_
  refine v_lsub hB dBo_areaWith_24 ?_
  refine v_lstore_n hB dBo_areaWith_25 rfl (by decide) (lv' := [_, _, _, _, _, _]) rfl ?_
  refine v_aload_n hB dBo_areaWith_26 rfl ?_
  refine v_get hC (klBo hY.2) (F := FBo Y _) (by assumption) 3 dBo_areaWith_27 kfBo_21 (by decide) rfl ?_
  refine v_aload_n hB dBo_areaWith_30 rfl ?_
  refine v_get hC (klBo hY.2) (F := FBo Y _) (by assumption) 3 dBo_areaWith_31 kfBo_21 (by decide) rfl ?_
  refine v_mmax hC (kmBo_29).1 dBo_areaWith_34 (Nat.le_of_ble_eq_true rfl) (Nat.le_of_ble_eq_true rfl) ⟨Nat.zero_le _, Nat.zero_le _⟩ ?_
  refine v_i2l hB dBo_areaWith_37 ?_
  refine v_aload_n hB dBo_areaWith_38 rfl ?_
  refine v_get hC (klBo hY.2) (F := FBo Y _) (by assumption) 1 dBo_areaWith_39 kfBo_15 (by decide) rfl ?_
  refine v_aload_n hB dBo_areaWith_42 rfl ?_
  refine v_get hC (klBo hY.2) (F := FBo Y _) (by assumption) 1 dBo_areaWith_43 kfBo_15 (by decide) rfl ?_
  refine v_mmin hC (kmBo_35).1 dBo_areaWith_46 (Nat.le_of_ble_eq_true rfl) (Nat.le_of_ble_eq_true rfl) ⟨Nat.zero_le _, Nat.zero_le _⟩ ?_
  refine v_i2l hB dBo_areaWith_49 ?_
  refine v_lsub hB dBo_areaWith_50 ?_
  refine v_lstore hB dBo_areaWith_51 rfl (by decide) (lv' := [_, _, _, _, _, _]) rfl ?_
  refine v_lload_n hB dBo_areaWith_53 rfl ?_
  refine v_lload hB dBo_areaWith_54 rfl ?_
  refine v_lmul hB dBo_areaWith_56 ?_
  exact v_lret hC rfl dBo_areaWith_57 ⟨rfl, rfl⟩

set_option maxHeartbeats 4000000 in
set_option maxRecDepth 100000 in
theorem cBo_squareFrom {l : Launch} {Y : Yt} (hY : YB Y) {i : Nat} (hi : isBo Y i) (x y : Int32) (μ : Mu) : Ct l Y yBo_squareFrom wBo_squareFrom ({ frames := 0, cells := 0, slots := 0, locals := 0 }) [.ref (ad Y i), .int x, .int y] μ (PE (some (.long (sqB (μ.1 i) x y))) μ) := by
  refine ct_of hY.1 (by decide) rfl (Nat.le_of_ble_eq_true rfl) (lv := [some (.ref (ad Y i)), some (.int x), some (.int y), none, none, none, none]) rfl (fun X hC => ?_)
  have hB := hC.B
  have key2 : ∀ v, v = offB y (μ.1 i 1) (μ.1 i 3) → VG X (yA Y) 7 0 0 (VQ X Y (PE (some (.long (sqB (μ.1 i) x y))) μ)) (yI Y (μ)) 79 [some (.ref (ad Y i)), some (.int x), some (.int y), some (.long (offB x (μ.1 i 0) (μ.1 i 2))), none, none, none] [.long v] := by
    intro v hv
    subst hv
    refine v_lstore hB dBo_squareFrom_79 rfl (by decide) (lv' := [_, _, _, _, _, _, _]) rfl ?_
    refine v_lload_n hB dBo_squareFrom_81 rfl ?_
    refine v_lload_n hB dBo_squareFrom_82 rfl ?_
    refine v_lmul hB dBo_squareFrom_83 ?_
    refine v_lload hB dBo_squareFrom_84 rfl ?_
    refine v_lload hB dBo_squareFrom_86 rfl ?_
    refine v_lmul hB dBo_squareFrom_88 ?_
    refine v_ladd hB dBo_squareFrom_89 ?_
    exact v_lret hC rfl dBo_squareFrom_90 ⟨rfl, rfl⟩
  have key1 : ∀ v, v = offB x (μ.1 i 0) (μ.1 i 2) → VG X (yA Y) 7 0 0 (VQ X Y (PE (some (.long (sqB (μ.1 i) x y))) μ)) (yI Y (μ)) 39 [some (.ref (ad Y i)), some (.int x), some (.int y), none, none, none, none] [.long v] := by
    intro v hv
    subst hv
    refine v_lstore_n hB dBo_squareFrom_39 rfl (by decide) (lv' := [_, _, _, _, _, _, _]) rfl ?_
    refine v_iload_n hB dBo_squareFrom_40 rfl ?_
    refine v_aload_n hB dBo_squareFrom_41 rfl ?_
    refine v_get hC (klBo hY.2) (F := FBo Y _) (by assumption) 1 dBo_squareFrom_42 kfBo_15 (by decide) rfl ?_
    refine v_icmp_ge hB 59 dBo_squareFrom_45 (by decide) (fun c => ?_) (fun c => ?_)
    · refine v_iload_n hB dBo_squareFrom_59 rfl ?_
      refine v_aload_n hB dBo_squareFrom_60 rfl ?_
      refine v_get hC (klBo hY.2) (F := FBo Y _) (by assumption) 3 dBo_squareFrom_61 kfBo_21 (by decide) rfl ?_
      refine v_icmp_le hB 78 dBo_squareFrom_64 (by decide) (fun e => ?_) (fun e => ?_)
      · refine v_lconst hB dBo_squareFrom_78 (v := 0) (by decide) ?_
        exact key2 _ (by rw [offB, if_neg (Int32.not_lt.mpr c), if_neg (Int32.not_lt.mpr e)])
      · refine v_iload_n hB dBo_squareFrom_67 rfl ?_
        refine v_i2l hB dBo_squareFrom_68 ?_
        refine v_aload_n hB dBo_squareFrom_69 rfl ?_
        refine v_get hC (klBo hY.2) (F := FBo Y _) (by assumption) 3 dBo_squareFrom_70 kfBo_21 (by decide) rfl ?_
        refine v_i2l hB dBo_squareFrom_73 ?_
        refine v_lsub hB dBo_squareFrom_74 ?_
        refine v_goto hB 79 dBo_squareFrom_75 (by decide) ?_
        exact key2 _ (by rw [offB, if_neg (Int32.not_lt.mpr c), if_pos (Int32.not_le.mp e)])
    · refine v_aload_n hB dBo_squareFrom_48 rfl ?_
      refine v_get hC (klBo hY.2) (F := FBo Y _) (by assumption) 1 dBo_squareFrom_49 kfBo_15 (by decide) rfl ?_
      refine v_i2l hB dBo_squareFrom_52 ?_
      refine v_iload_n hB dBo_squareFrom_53 rfl ?_
      refine v_i2l hB dBo_squareFrom_54 ?_
      refine v_lsub hB dBo_squareFrom_55 ?_
      refine v_goto hB 79 dBo_squareFrom_56 (by decide) ?_
      exact key2 _ (by rw [offB, if_pos (Int32.not_le.mp c)])
  refine v_iload_n hB dBo_squareFrom_0 rfl ?_
  refine v_aload_n hB dBo_squareFrom_1 rfl ?_
  refine v_get hC (klBo hY.2) (F := FBo Y _) (by assumption) 0 dBo_squareFrom_2 kfBo_9 (by decide) rfl ?_
  refine v_icmp_ge hB 19 dBo_squareFrom_5 (by decide) (fun c => ?_) (fun c => ?_)
  · refine v_iload_n hB dBo_squareFrom_19 rfl ?_
    refine v_aload_n hB dBo_squareFrom_20 rfl ?_
    refine v_get hC (klBo hY.2) (F := FBo Y _) (by assumption) 2 dBo_squareFrom_21 kfBo_18 (by decide) rfl ?_
    refine v_icmp_le hB 38 dBo_squareFrom_24 (by decide) (fun e => ?_) (fun e => ?_)
    · refine v_lconst hB dBo_squareFrom_38 (v := 0) (by decide) ?_
      exact key1 _ (by rw [offB, if_neg (Int32.not_lt.mpr c), if_neg (Int32.not_lt.mpr e)])
    · refine v_iload_n hB dBo_squareFrom_27 rfl ?_
      refine v_i2l hB dBo_squareFrom_28 ?_
      refine v_aload_n hB dBo_squareFrom_29 rfl ?_
      refine v_get hC (klBo hY.2) (F := FBo Y _) (by assumption) 2 dBo_squareFrom_30 kfBo_18 (by decide) rfl ?_
      refine v_i2l hB dBo_squareFrom_33 ?_
      refine v_lsub hB dBo_squareFrom_34 ?_
      refine v_goto hB 39 dBo_squareFrom_35 (by decide) ?_
      exact key1 _ (by rw [offB, if_neg (Int32.not_lt.mpr c), if_pos (Int32.not_le.mp e)])
  · refine v_aload_n hB dBo_squareFrom_8 rfl ?_
    refine v_get hC (klBo hY.2) (F := FBo Y _) (by assumption) 0 dBo_squareFrom_9 kfBo_9 (by decide) rfl ?_
    refine v_i2l hB dBo_squareFrom_12 ?_
    refine v_iload_n hB dBo_squareFrom_13 rfl ?_
    refine v_i2l hB dBo_squareFrom_14 ?_
    refine v_lsub hB dBo_squareFrom_15 ?_
    refine v_goto hB 39 dBo_squareFrom_16 (by decide) ?_
    exact key1 _ (by rw [offB, if_pos (Int32.not_le.mp c)])

