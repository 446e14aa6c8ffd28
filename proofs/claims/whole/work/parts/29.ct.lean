/-! CONSTRUCTORS: the contracts. -/
def TY (cI0 cJ cB cP cII : ClassId) : List (ClassId × FieldType) := [(cI0, .int), (cJ, .long), (cB, .object RBo), (cP, .object RPa), (cII, .array .int)]
abbrev rfs (f : Nat → Option Nat) : (Nat → Int32) ⊕ (Nat → Int64) ⊕ (Nat → UInt32) ⊕ (Nat → UInt64) ⊕ (Nat → Option Nat) := .inr (.inr (.inr (.inr f)))
def bx0 : va_E := .inr (0, [.int 0, .int 0, .int 0, .int 0, .int 0])
/-- cell k is an array of N references to the cells h q -/
def rA (b : Nat) (g : Nat → va_E) (k : Nat) (c : ClassId) (N M : Nat) (h : Nat → Nat) : Prop := ∃ f, g k = .inl (c, N, rfs f) ∧ ∀ q, q < M → f q = some (b + h q)
def pgF (b m i : Nat) (g g' : Nat → va_E) : Prop := (∀ j, j < m → j ≠ i → g' j = g j) ∧ g' i = .inr (2, [.int 0, .int 0, .int 0, .ref (b + m)])
def pgP (b m i : Nat) (cB : ClassId) (g g' : Nat → va_E) : Prop := pgF b m i g g' ∧ rA b g' m cB 6 6 (fun q => m + 1 + q) ∧ ∀ q, q < 6 → g' (m + 1 + q) = bx0
def diP (b m i : Nat) (cI0 cII : ClassId) (g g' : Nat → va_E) : Prop := (∀ j, j < m → j ≠ i → g' j = g j) ∧ g' i = .inr (1, [.ref (b + m), .ref (b + (m + 41)), .ref (b + (m + 82)), .int 0, .int 0]) ∧ rA b g' m cII 40 40 (fun q => m + 1 + q) ∧ rA b g' (m + 41) cII 40 40 (fun q => m + 42 + q) ∧ (∀ r, r < 40 → ∃ h, g' (m + 1 + r) = .inl (cI0, 27, .inl h) ∧ ∀ c, h c = if r < 2 ∧ c = 0 then 1 else 0) ∧ (∀ r, r < 40 → g' (m + 42 + r) = .inl (cI0, 27, .inl (fun _ => 0))) ∧ g' (m + 82) = .inl (cI0, 40, .inl (fun _ => 0))
def trF (b m i : Nat) (cI0 : ClassId) (r : Int32) (g g' : Nat → va_E) : Prop := (∀ j, j < m → j ≠ i → g' j = g j) ∧ g' i = .inr (4, [.int r, .int 0, .int 0, .ref (b + m), .ref (b + (m + 1)), .ref (b + (m + 2)), .ref (b + (m + 3)), .ref (b + (m + 4))]) ∧ g' (m + 1) = .inl (cI0, 4, .inl (fun _ => 0)) ∧ g' (m + 2) = .inl (cI0, 4, .inl (fun _ => 0)) ∧ g' (m + 3) = bx0 ∧ g' (m + 4) = bx0
/-- page p, its array, its boxes, with a level v -/
def trG (b m : Nat) (cB : ClassId) (g' : Nat → va_E) (v : Int32) (p : Nat) : Prop := g' (m + 5 + 8 * p) = .inr (2, [.int v, .int 0, .int 0, .ref (b + (m + 5 + 8 * p + 1))]) ∧ rA b g' (m + 5 + 8 * p + 1) cB 6 6 (fun q => m + 5 + 8 * p + 1 + 1 + q) ∧ ∀ q, q < 6 → g' (m + 5 + 8 * p + 1 + 1 + q) = bx0
def trP (b m i : Nat) (cI0 cB cP : ClassId) (g g' : Nat → va_E) : Prop := trF b m i cI0 1 g g' ∧ rA b g' m cP 40 40 (fun q => m + 5 + 8 * q) ∧ ∀ p, p < 40 → trG b m cB g' (if p = 1 then 1 else 0) p
def srF (b m i : Nat) (cI0 cJ : ClassId) (g g' : Nat → va_E) : Prop := (∀ j, j < m → j ≠ i → g' j = g j) ∧ g' i = .inr (3, [.ref (b + m), .int 0, .ref (b + (m + 1)), .long 0, .ref (b + (m + 2)), .ref (b + (m + 3)), .int 0, .ref (b + (m + 4)), .int 0, .ref (b + (m + 5))]) ∧ g' (m + 1) = bx0 ∧ g' (m + 2) = .inl (cI0, 40, .inl (fun _ => 0)) ∧ g' (m + 3) = .inl (cJ, 40, .inr (.inl (fun _ => 0))) ∧ g' (m + 4) = .inl (cI0, 40, .inl (fun _ => 0)) ∧ g' (m + 5) = bx0
def srP (b m i : Nat) (cI0 cJ cB : ClassId) (g g' : Nat → va_E) : Prop := srF b m i cI0 cJ g g' ∧ rA b g' m cB 40 40 (fun q => m + 6 + q) ∧ ∀ q, q < 40 → g' (m + 6 + q) = bx0
theorem klY {D : va_G} {tys : List (ClassId × FieldType)} : yC (Y0 D tys) = cls := rfl
theorem raI (U : State) (c : ClassId) (h : va_RA U c .int) : U.vm.findClass ("[" ++ FieldType.int.toString) = some c := h
theorem raJ (U : State) (c : ClassId) (h : va_RA U c .long) : U.vm.findClass ("[" ++ FieldType.long.toString) = some c := h
/-- an array of references, one place more -/
theorem rA_up {b k N M : Nat} {c : ClassId} {g : Nat → va_E} {h : Nat → Nat} {f : Nat → Option Nat} {a : Nat} (hf : ∀ q, q < M → f q = some (b + h q)) (ha : a = b + h M) : rA b (va_up g k (.inl (c, N, rfs (va_up f M (some a))))) k c N (M + 1) h := by
  refine ⟨_, va_up_self _ _ _, fun q hq => ?_⟩
  by_cases hqM : q = M
  · subst hqM
    rw [va_up_self, ha]
  · rw [va_up_ne _ _ hqM]
    exact hf q (by omega)
theorem rA_ne {b k N M j : Nat} {c : ClassId} {g : Nat → va_E} {h : Nat → Nat} {e : va_E} (hr : rA b g k c N M h) (hne : k ≠ j) : rA b (va_up g j e) k c N M h := by
  obtain ⟨f, h1, h2⟩ := hr
  exact ⟨f, by rw [va_up_ne _ _ hne]; exact h1, h2⟩
theorem rA_eq {b k N M : Nat} {c : ClassId} {g g' : Nat → va_E} {h : Nat → Nat} (hr : rA b g k c N M h) (e : g' k = g k) : rA b g' k c N M h := by
  obtain ⟨f, h1, h2⟩ := hr
  exact ⟨f, by rw [e]; exact h1, h2⟩
set_option maxHeartbeats 4000000 in
set_option maxRecDepth 100000 in
theorem cBo_init {l : Launch} {D : va_G} {tys : List (ClassId × FieldType)} {b m i : Nat} {g : Nat → va_E} (hi : i < m) : Cn l D tys yBo_init wBo_init { frames := 1, cells := 0, slots := 0, locals := 21 } [.ref (b + i)] b m g 0 0 (fun g' => g' = g) := by
  refine cn_of (by decide) rfl rfl (Nat.le_of_ble_eq_true rfl) (lv := [some (.ref (b + i))]) rfl (fun X hC hN hin => ?_)
  have hB := hC.B
  refine v_aload_n hB dBo_init_0 rfl ?_
  refine g_init hC ol_Bo dBo_init_1 (Nat.le_of_ble_eq_true rfl) (Nat.le_of_ble_eq_true rfl) ?_
  exact g_ret hC rfl dBo_init_4 rfl

set_option maxHeartbeats 4000000 in
set_option maxRecDepth 100000 in
theorem cPa_init {l : Launch} {D : va_G} {cI0 cJ cB cP cII : ClassId} {b m i : Nat} {g : Nat → va_E} (hi : i < m) (hg : g i = .inr (2, [.int 0, .int 0, .int 0, .null])) : Cn l D (TY cI0 cJ cB cP cII) yPa_init wPa_init { frames := 2, cells := 7, slots := 36, locals := 41 } [.ref (b + i)] b m g 7 36 (fun g' => pgP b m i cB g g') := by
  refine cn_of (by decide) rfl rfl (Nat.le_of_ble_eq_true rfl) (lv := [some (.ref (b + i)), none]) rfl (fun X hC hN hin => ?_)
  have hB := hC.B
  refine v_aload_n hB dPa_init_0 rfl ?_
  refine g_init hC ol_Pa dPa_init_1 (Nat.le_of_ble_eq_true rfl) (Nat.le_of_ble_eq_true rfl) ?_
  refine v_aload_n hB dPa_init_4 rfl ?_
  refine v_bipush hB dPa_init_5 (v := 6) (by decide) ?_
  refine g_anew hC cl_Pa_9 hN.2.2.2.2.1 2 rfl (N' := 6) (by decide) (by decide) (by decide) dPa_init_7 (by show 0 + 1 ≤ 7; omega) (by show 0 + 6 ≤ 36; omega) ?_
  refine g_putF hC hin (klPa klY) (Nat.lt_succ_of_lt hi) (by rw [va_up_ne _ _ (show i ≠ m by omega)]; exact hg) 3 dPa_init_10 kfPa_11 (by decide) rfl rfl rfl rfl (Nat.le_of_ble_eq_true rfl) ?_
  refine v_iconst hB dPa_init_13 (v := 0) (by decide) ?_
  refine v_istore_n hB dPa_init_14 rfl (by decide) (lv' := [_, _]) rfl ?_
  have loop : ∀ (r k : Nat) (G : Nat → va_E), k + r = 6 → pgF b m i g G → rA b G m cB 6 k (fun q => m + 1 + q) → (∀ q, q < k → G (m + 1 + q) = bx0) → VG X (cA_ b) 2 (1 + k) (6 + 5 * k) (cV X D b (m + 7) (fun g' => pgP b m i cB g g') 7 36) (cI D b (m + 1 + k) G) 15 [some (.ref (b + i)), some (.int (nI k))] [] := by
    intro r
    induction r with
    | zero =>
      intro k G hk hF hA hb
      obtain rfl : k = 6 := by omega
      obtain ⟨f, hf1, hf2⟩ := id hA
      refine v_iload_n hB dPa_init_15 rfl ?_
      refine v_aload_n hB dPa_init_16 rfl ?_
      refine g_get hC (klPa klY) (by omega) hF.2 3 dPa_init_17 kfPa_11 (by decide) rfl ?_
      refine g_alen hC (by omega) hf1 (t0 := 2) rfl dPa_init_20 ?_
      refine v_icmp_ge hB 43 dPa_init_21 (by decide) (fun c => ?_) (fun c => ?_)
      · exact g_ret hC rfl dPa_init_43 ⟨hF, hA, hb⟩
      · exact absurd (nI_le (by omega) (by omega)) c
    | succ r ih =>
      intro k G hk hF hA hb
      obtain ⟨f, hf1, hf2⟩ := id hA
      refine v_iload_n hB dPa_init_15 rfl ?_
      refine v_aload_n hB dPa_init_16 rfl ?_
      refine g_get hC (klPa klY) (by omega) hF.2 3 dPa_init_17 kfPa_11 (by decide) rfl ?_
      refine g_alen hC (by omega) hf1 (t0 := 2) rfl dPa_init_20 ?_
      refine v_icmp_ge hB 43 dPa_init_21 (by decide) (fun c => ?_) (fun c => ?_)
      · exact absurd c (fun q => absurd ((nI_leI (by omega) (by omega)).mp q) (by omega))
      refine v_aload_n hB dPa_init_24 rfl ?_
      refine g_get hC (klPa klY) (by omega) hF.2 3 dPa_init_25 kfPa_11 (by decide) rfl ?_
      refine v_iload_n hB dPa_init_28 rfl ?_
      refine g_new hC (klBo klY) dPa_init_29 cl_Pa_9 in_Bo ii_Bo (fs := [.int 0, .int 0, .int 0, .int 0, .int 0]) (fun j hj => by rcases (show j = 0 ∨ j = 1 ∨ j = 2 ∨ j = 3 ∨ j = 4 by omega) with rfl | rfl | rfl | rfl | rfl <;> rfl) (by show 1 + k + 1 ≤ 7; omega) (by show 6 + 5 * k + 5 ≤ 36; omega) ?_
      refine v_dup hB dPa_init_32 rfl ?_
      refine g_callIN hC hN hN.2.1 ii_Bo kcBo_init ⟨by decide +kernel, by decide +kernel, by decide +kernel⟩ kiBo_init rfl dPa_init_33 (cBo_init (by omega)) rfl rfl ⟨Nat.le_of_ble_eq_true rfl, Nat.le_of_ble_eq_true rfl⟩ rfl (Nat.le_of_ble_eq_true rfl) ⟨by show _ ≤ 7; omega, by show _ ≤ 36; omega⟩ (fun g0 hg0 => ?_)
      subst hg0
      refine g_aast hC (t0 := 2) (r := (RBo, TBo, 5)) (q := k) (by omega) (by rw [va_up_ne _ _ (show m ≠ m + 1 + k by omega)]; exact hf1) rfl (by omega) (va_up_self _ _ _) rfl dPa_init_36 rfl (by omega) (by decide) ?_
      refine v_iinc hB dPa_init_37 rfl (y := _) rfl rfl (by decide) (lv' := [_, _]) rfl ?_
      refine v_goto hB 15 dPa_init_40 (by decide) ?_
      rw [i1]
      refine g_widen (k1 := 1 + (k + 1)) (k2 := 6 + 5 * (k + 1)) (by omega) (by omega) ?_
      refine ih (k + 1) _ (by omega) ⟨fun j hj hji => ?_, ?_⟩ (rA_up hf2 rfl) (fun q hq => ?_)
      · rw [va_up_ne _ _ (show j ≠ m by omega), va_up_ne _ _ (show j ≠ m + 1 + k by omega)]
        exact hF.1 j hj hji
      · rw [va_up_ne _ _ (show i ≠ m by omega), va_up_ne _ _ (show i ≠ m + 1 + k by omega)]
        exact hF.2
      · rw [va_up_ne _ _ (show m + 1 + q ≠ m by omega)]
        by_cases hqk : q = k
        · subst hqk
          rw [va_up_self]
          rfl
        · rw [va_up_ne _ _ (show m + 1 + q ≠ m + 1 + k by omega)]
          exact hb q (by omega)
  refine loop 6 0 _ (by omega) ⟨fun j hj hji => ?_, va_up_self _ _ _⟩ ⟨_, by rw [va_up_ne _ _ (show m ≠ i by omega)]; exact va_up_self _ _ _, fun q hq => absurd hq (Nat.not_lt_zero q)⟩ (fun q hq => absurd hq (Nat.not_lt_zero q))
  rw [va_up_ne _ _ hji, va_up_ne _ _ (show j ≠ m by omega)]

set_option maxHeartbeats 4000000 in
set_option maxRecDepth 100000 in
theorem cDi_init {l : Launch} {D : va_G} {cI0 cJ cB cP cII : ClassId} {b m i : Nat} {g : Nat → va_E} (hi : i < m) (hg : g i = .inr (1, [.null, .null, .null, .int 0, .int 0])) : Cn l D (TY cI0 cJ cB cP cII) yDi_init wDi_init { frames := 1, cells := 83, slots := 2280, locals := 21 } [.ref (b + i)] b m g 83 2280 (fun g' => diP b m i cI0 cII g g') := by
  refine cn_of (by decide) rfl rfl (Nat.le_of_ble_eq_true rfl) (lv := [some (.ref (b + i))]) rfl (fun X hC hN hin => ?_)
  have hB := hC.B
  refine v_aload_n hB dDi_init_0 rfl ?_
  refine g_init hC ol_Di dDi_init_1 (Nat.le_of_ble_eq_true rfl) (Nat.le_of_ble_eq_true rfl) ?_
  refine v_aload_n hB dDi_init_4 rfl ?_
  refine v_bipush hB dDi_init_5 (v := 40) (by decide) ?_
  refine v_bipush hB dDi_init_7 (v := 27) (by decide) ?_
  refine g_mna hC cl_Di_9 hN.2.2.2.2.2.2 0 4 rfl rfl (N := 40) (K := 27) (by decide) (by decide) (by decide) (by decide) (by decide) (by decide) (by decide) dDi_init_9 (by show _ ≤ 83; omega) (by show _ ≤ 2280; omega) ?_
  have q1 : ∀ j, j < m → mnG b m 40 27 cII cI0 g j = g j := fun j hj => by rw [mnG, if_pos hj]
  refine g_putF hC hin (klDi klY) (by omega) (by rw [q1 i hi]; exact hg) 0 dDi_init_13 kfDi_11 (by decide) rfl rfl rfl rfl (Nat.le_of_ble_eq_true rfl) ?_
  generalize hg1 : va_up (mnG b m 40 27 cII cI0 g) i (.inr (1, [Value.null, .null, .null, .int 0, .int 0].set 0 (.ref (b + m)))) = g1
  have a1 : ∀ j, j < m → j ≠ i → g1 j = g j := fun j hj hji => by rw [← hg1, va_up_ne _ _ hji, q1 j hj]
  have a2 : g1 i = .inr (1, [.ref (b + m), .null, .null, .int 0, .int 0]) := by rw [← hg1, va_up_self]; rfl
  have a3 : rA b g1 m cII 40 40 (fun q => m + 1 + q) := by
    refine ⟨fun q => if q < 40 then some (b + (m + 1 + q)) else none, ?_, fun q hq => if_pos hq⟩
    rw [← hg1, va_up_ne _ _ (show m ≠ i by omega), mnG, if_neg (Nat.lt_irrefl m), if_pos rfl]
  have a4 : ∀ r, r < 40 → g1 (m + 1 + r) = .inl (cI0, 27, .inl (fun _ => 0)) := fun r hr => by
    rw [← hg1, va_up_ne _ _ (show m + 1 + r ≠ i by omega), mnG, if_neg (by omega), if_neg (by omega)]
  refine v_aload_n hB dDi_init_16 rfl ?_
  refine v_bipush hB dDi_init_17 (v := 40) (by decide) ?_
  refine v_bipush hB dDi_init_19 (v := 27) (by decide) ?_
  refine g_mna hC cl_Di_9 hN.2.2.2.2.2.2 0 4 rfl rfl (N := 40) (K := 27) (by decide) (by decide) (by decide) (by decide) (by decide) (by decide) (by decide) dDi_init_21 (by show _ ≤ 83; omega) (by show _ ≤ 2280; omega) ?_
  have q2 : ∀ j, j < m + 1 + 40 → mnG b (m + 1 + 40) 40 27 cII cI0 g1 j = g1 j := fun j hj => by rw [mnG, if_pos hj]
  refine g_putF hC hin (klDi klY) (by omega) (by rw [q2 i (by omega)]; exact a2) 1 dDi_init_25 kfDi_16 (by decide) rfl rfl rfl rfl (Nat.le_of_ble_eq_true rfl) ?_
  generalize hg2 : va_up (mnG b (m + 1 + 40) 40 27 cII cI0 g1) i (.inr (1, [Value.ref (b + m), .null, .null, .int 0, .int 0].set 1 (.ref (b + (m + 1 + 40))))) = g2
  have b1 : ∀ j, j < m + 1 + 40 → j ≠ i → g2 j = g1 j := fun j hj hji => by rw [← hg2, va_up_ne _ _ hji, q2 j hj]
  have b2 : g2 i = .inr (1, [.ref (b + m), .ref (b + (m + 1 + 40)), .null, .int 0, .int 0]) := by rw [← hg2, va_up_self]; rfl
  have b3 : rA b g2 (m + 1 + 40) cII 40 40 (fun q => m + 42 + q) := by
    refine ⟨fun q => if q < 40 then some (b + (m + 1 + 40 + 1 + q)) else none, ?_, fun q hq => by show (if q < 40 then some (b + (m + 1 + 40 + 1 + q)) else none) = some (b + (m + 42 + q)); rw [if_pos hq]⟩
    rw [← hg2, va_up_ne _ _ (show m + 1 + 40 ≠ i by omega), mnG, if_neg (Nat.lt_irrefl _), if_pos rfl]
  have b4 : ∀ r, r < 40 → g2 (m + 42 + r) = .inl (cI0, 27, .inl (fun _ => 0)) := fun r hr => by
    rw [← hg2, va_up_ne _ _ (show m + 42 + r ≠ i by omega), mnG, if_neg (by omega), if_neg (by omega)]
  refine v_aload_n hB dDi_init_28 rfl ?_
  refine v_bipush hB dDi_init_29 (v := 40) (by decide) ?_
  refine g_newa hC (atype := .int) (ty := .int) rfl ac_I 0 rfl raI (N' := 40) (a0 := (40, .inl (fun _ => 0))) (fun _ => rfl) (by decide) (by decide) (by decide) dDi_init_31 (by show _ ≤ 83; omega) (by show _ ≤ 2280; omega) ?_
  refine g_putF hC hin (klDi klY) (by omega) (by rw [va_up_ne _ _ (show i ≠ m + 1 + 40 + 1 + 40 by omega)]; exact b2) 2 dDi_init_33 kfDi_19 (by decide) rfl rfl rfl rfl (Nat.le_of_ble_eq_true rfl) ?_
  generalize hg3 : va_up (va_up g2 (m + 1 + 40 + 1 + 40) _) i _ = g3
  have c1 : ∀ j, j < m + 1 + 40 + 1 + 40 → j ≠ i → g3 j = g2 j := fun j hj hji => by rw [← hg3, va_up_ne _ _ hji, va_up_ne _ _ (by omega)]
  have c2 : g3 i = .inr (1, [.ref (b + m), .ref (b + (m + 41)), .ref (b + (m + 82)), .int 0, .int 0]) := by rw [← hg3, va_up_self]; rfl
  have c3 : g3 (m + 82) = .inl (cI0, 40, .inl (fun _ => 0)) := by rw [← hg3, va_up_ne _ _ (show m + 82 ≠ i by omega)]; exact va_up_self _ _ _
  obtain ⟨f, hf1, hf2⟩ := a3
  have hf3 : g3 m = .inl (cII, 40, rfs f) := by rw [c1 m (by omega) (by omega), b1 m (by omega) (by omega)]; exact hf1
  have r4 : ∀ r, r < 40 → g3 (m + 1 + r) = .inl (cI0, 27, .inl (fun _ => 0)) := fun r hr => by rw [c1 _ (by omega) (by omega), b1 _ (by omega) (by omega)]; exact a4 r hr
  refine v_aload_n hB dDi_init_36 rfl ?_
  refine g_get hC (klDi klY) (by omega) c2 0 dDi_init_37 kfDi_11 (by decide) rfl ?_
  refine v_iconst hB dDi_init_40 (v := 0) (by decide) ?_
  refine g_aald hC (q := 0) (by omega) hf3 (t0 := 4) rfl rfl dDi_init_41 rfl (by decide) (by decide) (hf2 0 (by decide)) ?_
  refine v_iconst hB dDi_init_42 (v := 0) (by decide) ?_
  refine v_iconst hB dDi_init_43 (v := 1) (by decide) ?_
  refine g_iast hC (i := m + 1 + 0) (q := 0) (by omega) (r4 0 (by decide)) (t0 := 0) rfl dDi_init_44 rfl (by decide) (by decide) ?_
  refine v_aload_n hB dDi_init_45 rfl ?_
  refine g_get hC (klDi klY) (by omega) (by rw [va_up_ne _ _ (show i ≠ m + 1 + 0 by omega)]; exact c2) 0 dDi_init_46 kfDi_11 (by decide) rfl ?_
  refine v_iconst hB dDi_init_49 (v := 1) (by decide) ?_
  refine g_aald hC (q := 1) (by omega) (by rw [va_up_ne _ _ (show m ≠ m + 1 + 0 by omega)]; exact hf3) (t0 := 4) rfl rfl dDi_init_50 rfl (by decide) (by decide) (hf2 1 (by decide)) ?_
  refine v_iconst hB dDi_init_51 (v := 0) (by decide) ?_
  refine v_iconst hB dDi_init_52 (v := 1) (by decide) ?_
  refine g_iast hC (i := m + 1 + 1) (q := 0) (by omega) (by rw [va_up_ne _ _ (show m + 1 + 1 ≠ m + 1 + 0 by omega)]; exact r4 1 (by decide)) (t0 := 0) rfl dDi_init_53 rfl (by decide) (by decide) ?_
  refine g_widen (k1 := 83) (k2 := 2280) (by omega) (by omega) ?_
  have u : ∀ (e1 e2 : va_E) (j : Nat), j ≠ m + 1 + 0 → j ≠ m + 1 + 1 → va_up (va_up g3 (m + 1 + 0) e1) (m + 1 + 1) e2 j = g3 j := fun e1 e2 j h1 h2 => by rw [va_up_ne _ _ h2, va_up_ne _ _ h1]
  refine g_ret hC rfl dDi_init_54 ⟨fun j hj hji => ?_, ?_, ⟨f, ?_, hf2⟩, rA_eq b3 ?_, fun r hr => ?_, fun r hr => ?_, ?_⟩
  · rw [u _ _ _ (by omega) (by omega), c1 j (by omega) hji, b1 j (by omega) hji, a1 j hj hji]
  · rw [u _ _ _ (by omega) (by omega)]
    exact c2
  · rw [u _ _ _ (by omega) (by omega)]
    exact hf3
  · rw [u _ _ _ (by omega) (by omega)]
    exact c1 _ (by omega) (by omega)
  · by_cases h1 : r = 1
    · subst h1
      exact ⟨_, va_up_self _ _ _, fun c => by by_cases hc : c = 0 <;> simp [upd, hc]⟩
    by_cases h0 : r = 0
    · subst h0
      refine ⟨_, by rw [va_up_ne _ _ (show m + 1 + 0 ≠ m + 1 + 1 by omega)]; exact va_up_self _ _ _, fun c => by by_cases hc : c = 0 <;> simp [upd, hc]⟩
    refine ⟨fun _ => 0, by rw [u _ _ _ (by omega) (by omega)]; exact r4 r hr, fun c => ?_⟩
    rw [if_neg (by omega)]
  · rw [u _ _ _ (by omega) (by omega), c1 _ (by omega) (by omega)]
    exact b4 r hr
  · rw [u _ _ _ (by omega) (by omega)]
    exact c3

set_option maxHeartbeats 4000000 in
set_option maxRecDepth 100000 in
theorem cTr_init {l : Launch} {D : va_G} {cI0 cJ cB cP cII : ClassId} {b m i : Nat} {g : Nat → va_E} (hi : i < m) (hg : g i = .inr (4, [.int 0, .int 0, .int 0, .null, .null, .null, .null, .null])) : Cn l D (TY cI0 cJ cB cP cII) yTr_init wTr_init { frames := 3, cells := 325, slots := 1658, locals := 62 } [.ref (b + i)] b m g 325 1658 (fun g' => trP b m i cI0 cB cP g g') := by
  refine cn_of (by decide) rfl rfl (Nat.le_of_ble_eq_true rfl) (lv := [some (.ref (b + i)), none]) rfl (fun X hC hN hin => ?_)
  have hB := hC.B
  refine v_aload_n hB dTr_init_0 rfl ?_
  refine g_init hC ol_Tr dTr_init_1 (Nat.le_of_ble_eq_true rfl) (Nat.le_of_ble_eq_true rfl) ?_
  refine v_aload_n hB dTr_init_4 rfl ?_
  refine v_bipush hB dTr_init_5 (v := 40) (by decide) ?_
  refine g_anew hC cl_Tr_9 hN.2.2.2.2.2.1 3 rfl (N' := 40) (by decide) (by decide) (by decide) dTr_init_7 (by show _ ≤ 325; omega) (by show _ ≤ 1658; omega) ?_
  refine g_putF hC hin (klTr klY) (by omega) (by rw [va_up_ne _ _ (show i ≠ m by omega)]; exact hg) 3 dTr_init_10 kfTr_11 (by decide) rfl rfl rfl rfl (Nat.le_of_ble_eq_true rfl) ?_
  refine v_aload_n hB dTr_init_13 rfl ?_
  refine v_iconst hB dTr_init_14 (v := 4) (by decide) ?_
  refine g_newa hC (atype := .int) (ty := .int) rfl ac_I 0 rfl raI (N' := 4) (a0 := (4, .inl (fun _ => 0))) (fun _ => rfl) (by decide) (by decide) (by decide) dTr_init_15 (by show _ ≤ 325; omega) (by show _ ≤ 1658; omega) ?_
  refine g_putF hC hin (klTr klY) (by omega) (by rw [va_up_ne _ _ (show i ≠ m + 1 by omega), va_up_self]) 4 dTr_init_17 kfTr_17 (by decide) rfl rfl rfl rfl (Nat.le_of_ble_eq_true rfl) ?_
  refine v_aload_n hB dTr_init_20 rfl ?_
  refine v_iconst hB dTr_init_21 (v := 4) (by decide) ?_
  refine g_newa hC (atype := .int) (ty := .int) rfl ac_I 0 rfl raI (N' := 4) (a0 := (4, .inl (fun _ => 0))) (fun _ => rfl) (by decide) (by decide) (by decide) dTr_init_22 (by show _ ≤ 325; omega) (by show _ ≤ 1658; omega) ?_
  refine g_putF hC hin (klTr klY) (by omega) (by rw [va_up_ne _ _ (show i ≠ m + 1 + 1 by omega), va_up_self]) 5 dTr_init_24 kfTr_21 (by decide) rfl rfl rfl rfl (Nat.le_of_ble_eq_true rfl) ?_
  refine v_aload_n hB dTr_init_27 rfl ?_
  refine g_new hC (klBo klY) dTr_init_28 cl_Tr_24 in_Bo ii_Bo (fs := [.int 0, .int 0, .int 0, .int 0, .int 0]) (fun j hj => by rcases (show j = 0 ∨ j = 1 ∨ j = 2 ∨ j = 3 ∨ j = 4 by omega) with rfl | rfl | rfl | rfl | rfl <;> rfl) (by show _ ≤ 325; omega) (by show _ ≤ 1658; omega) ?_
  refine v_dup hB dTr_init_31 rfl ?_
  refine g_callIN hC hN hN.1 ii_Bo kcBo_init ⟨by decide +kernel, by decide +kernel, by decide +kernel⟩ kiBo_init rfl dTr_init_32 (cBo_init (by omega)) rfl rfl ⟨Nat.le_of_ble_eq_true rfl, Nat.le_of_ble_eq_true rfl⟩ rfl (Nat.le_of_ble_eq_true rfl) ⟨by show _ ≤ 325; omega, by show _ ≤ 1658; omega⟩ (fun g0 hg0 => ?_)
  subst hg0
  refine g_putF hC hin (klTr klY) (by omega) (by rw [va_up_ne _ _ (show i ≠ m + 1 + 1 + 1 by omega), va_up_self]) 6 dTr_init_35 kfTr_27 (by decide) rfl rfl rfl rfl (Nat.le_of_ble_eq_true rfl) ?_
  refine v_aload_n hB dTr_init_38 rfl ?_
  refine g_new hC (klBo klY) dTr_init_39 cl_Tr_24 in_Bo ii_Bo (fs := [.int 0, .int 0, .int 0, .int 0, .int 0]) (fun j hj => by rcases (show j = 0 ∨ j = 1 ∨ j = 2 ∨ j = 3 ∨ j = 4 by omega) with rfl | rfl | rfl | rfl | rfl <;> rfl) (by show _ ≤ 325; omega) (by show _ ≤ 1658; omega) ?_
  refine v_dup hB dTr_init_42 rfl ?_
  refine g_callIN hC hN hN.1 ii_Bo kcBo_init ⟨by decide +kernel, by decide +kernel, by decide +kernel⟩ kiBo_init rfl dTr_init_43 (cBo_init (by omega)) rfl rfl ⟨Nat.le_of_ble_eq_true rfl, Nat.le_of_ble_eq_true rfl⟩ rfl (Nat.le_of_ble_eq_true rfl) ⟨by show _ ≤ 325; omega, by show _ ≤ 1658; omega⟩ (fun g0 hg0 => ?_)
  subst hg0
  refine g_putF hC hin (klTr klY) (by omega) (by rw [va_up_ne _ _ (show i ≠ m + 1 + 1 + 1 + 1 by omega), va_up_self]) 7 dTr_init_46 kfTr_31 (by decide) rfl rfl rfl rfl (Nat.le_of_ble_eq_true rfl) ?_
  refine v_iconst hB dTr_init_49 (v := 0) (by decide) ?_
  refine v_istore_n hB dTr_init_50 rfl (by decide) (lv' := [_, _]) rfl ?_
  have loop : ∀ (r k : Nat) (G : Nat → va_E), k + r = 40 → trF b m i cI0 0 g G → rA b G m cP 40 k (fun q => m + 5 + 8 * q) → (∀ p, p < k → trG b m cB G 0 p) → VG X (cA_ b) 2 (5 + 8 * k) (58 + 40 * k) (cV X D b (m + 325) (fun g' => trP b m i cI0 cB cP g g') 325 1658) (cI D b (m + 5 + 8 * k) G) 51 [some (.ref (b + i)), some (.int (nI k))] [] := by
    intro r
    induction r with
    | zero =>
      intro k G hk hF hA hG
      obtain rfl : k = 40 := by omega
      obtain ⟨f, hf1, hf2⟩ := id hA
      refine v_iload_n hB dTr_init_51 rfl ?_
      refine v_bipush hB dTr_init_52 (v := 40) (by decide) ?_
      refine v_icmp_ge hB 76 dTr_init_54 (by decide) (fun c => ?_) (fun c => ?_)
      · refine v_aload_n hB dTr_init_76 rfl ?_
        refine g_get hC (klTr klY) (by omega) hF.2.1 3 dTr_init_77 kfTr_11 (by decide) rfl ?_
        refine v_iconst hB dTr_init_80 (v := 1) (by decide) ?_
        refine g_aald hC (q := 1) (by omega) hf1 (t0 := 3) rfl rfl dTr_init_81 rfl (by decide) (by decide) (hf2 1 (by decide)) ?_
        refine v_iconst hB dTr_init_82 (v := 1) (by decide) ?_
        refine g_put hC (klPa klY) (i := m + 5 + 8 * 1) (by omega) (hG 1 (by decide)).1 0 dTr_init_83 kfTr_35 (by decide) rfl rfl rfl (Nat.le_of_ble_eq_true rfl) ?_
        refine v_aload_n hB dTr_init_86 rfl ?_
        refine v_iconst hB dTr_init_87 (v := 1) (by decide) ?_
        refine g_put hC (klTr klY) (by omega) (by rw [va_up_ne _ _ (show i ≠ m + 5 + 8 * 1 by omega)]; exact hF.2.1) 0 dTr_init_88 kfTr_39 (by decide) rfl rfl rfl (Nat.le_of_ble_eq_true rfl) ?_
        have u : ∀ (e1 e2 : va_E) (j : Nat), j ≠ i → j ≠ m + 5 + 8 * 1 → va_up (va_up G (m + 5 + 8 * 1) e1) i e2 j = G j := fun e1 e2 j h1 h2 => by rw [va_up_ne _ _ h1, va_up_ne _ _ h2]
        obtain ⟨F1, F2, F3, F4, F5, F6⟩ := hF
        refine g_ret hC rfl dTr_init_91 ⟨⟨fun j hj hji => ?_, va_up_self _ _ _, ?_, ?_, ?_, ?_⟩, rA_eq hA ?_, fun p hp => ⟨?_, rA_eq (hG p hp).2.1 ?_, fun q hq => ?_⟩⟩
        · rw [u _ _ _ hji (by omega)]
          exact F1 j hj hji
        · rw [u _ _ _ (by omega) (by omega)]
          exact F3
        · rw [u _ _ _ (by omega) (by omega)]
          exact F4
        · rw [u _ _ _ (by omega) (by omega)]
          exact F5
        · rw [u _ _ _ (by omega) (by omega)]
          exact F6
        · exact u _ _ _ (by omega) (by omega)
        · by_cases h1 : p = 1
          · subst h1
            rw [va_up_ne _ _ (show m + 5 + 8 * 1 ≠ i by omega), va_up_self, if_pos rfl]
            rfl
          · rw [u _ _ _ (by omega) (by omega), if_neg h1]
            exact (hG p hp).1
        · exact u _ _ _ (by omega) (by omega)
        · rw [u _ _ _ (by omega) (by omega)]
          exact (hG p hp).2.2 q hq
      · exact absurd (by rw [show (40 : Int32) = nI 40 from rfl]; exact nI_le (by omega) (by omega)) c
    | succ r ih =>
      intro k G hk hF hA hG
      obtain ⟨f, hf1, hf2⟩ := id hA
      refine v_iload_n hB dTr_init_51 rfl ?_
      refine v_bipush hB dTr_init_52 (v := 40) (by decide) ?_
      refine v_icmp_ge hB 76 dTr_init_54 (by decide) (fun c => ?_) (fun c => ?_)
      · exact absurd c (by rw [show (40 : Int32) = nI 40 from rfl]; exact (fun q => absurd ((nI_leI (by omega) (by omega)).mp q) (by omega)))
      refine v_aload_n hB dTr_init_57 rfl ?_
      refine g_get hC (klTr klY) (by omega) hF.2.1 3 dTr_init_58 kfTr_11 (by decide) rfl ?_
      refine v_iload_n hB dTr_init_61 rfl ?_
      refine g_new hC (klPa klY) dTr_init_62 cl_Tr_9 in_Pa ii_Pa (fs := [.int 0, .int 0, .int 0, .null]) (fun j hj => by rcases (show j = 0 ∨ j = 1 ∨ j = 2 ∨ j = 3 by omega) with rfl | rfl | rfl | rfl <;> rfl) (by show _ ≤ 325; omega) (by show _ ≤ 1658; omega) ?_
      refine v_dup hB dTr_init_65 rfl ?_
      refine g_callI hC hN kmTr_34 kiPa_init rfl dTr_init_66 (cPa_init (cI0 := cI0) (cJ := cJ) (cB := cB) (cP := cP) (cII := cII) (i := m + 5 + 8 * k) (by omega) (va_up_self _ _ _)) rfl rfl ⟨Nat.le_of_ble_eq_true rfl, Nat.le_of_ble_eq_true rfl⟩ rfl (Nat.le_of_ble_eq_true rfl) ⟨by show _ ≤ 325; omega, by show _ ≤ 1658; omega⟩ (fun G1 hG1 => ?_)
      obtain ⟨⟨p1, p2⟩, p3, p4⟩ := hG1
      have old : ∀ j, j < m + 5 + 8 * k → G1 j = G j := fun j hj => by rw [p1 j (by omega) (by omega), va_up_ne _ _ (by omega)]
      refine g_aast hC (t0 := 3) (r := (RPa, TPa, 4)) (q := k) (by omega) (by rw [old m (by omega)]; exact hf1) rfl (by omega) p2 rfl dTr_init_69 rfl (by omega) (by decide) ?_
      refine v_iinc hB dTr_init_70 rfl (y := _) rfl rfl (by decide) (lv' := [_, _]) rfl ?_
      refine v_goto hB 51 dTr_init_73 (by decide) ?_
      rw [i1]
      refine g_widen (k1 := 5 + 8 * (k + 1)) (k2 := 58 + 40 * (k + 1)) (by omega) (by omega) ?_
      have new : ∀ (e : va_E) (j : Nat), j ≠ m → va_up G1 m e j = G1 j := fun e j h => va_up_ne _ _ h
      obtain ⟨F1, F2, F3, F4, F5, F6⟩ := hF
      refine ih (k + 1) _ (by omega) ⟨fun j hj hji => ?_, ?_, ?_, ?_, ?_, ?_⟩ (rA_up hf2 rfl) (fun p hp => ?_)
      · rw [new _ _ (by omega), old j (by omega)]
        exact F1 j hj hji
      · rw [new _ _ (by omega), old _ (by omega)]
        exact F2
      · rw [new _ _ (by omega), old _ (by omega)]
        exact F3
      · rw [new _ _ (by omega), old _ (by omega)]
        exact F4
      · rw [new _ _ (by omega), old _ (by omega)]
        exact F5
      · rw [new _ _ (by omega), old _ (by omega)]
        exact F6
      · by_cases hpk : p = k
        · subst hpk
          exact ⟨by rw [new _ _ (by omega)]; exact p2, rA_eq p3 (new _ _ (by omega)), fun q hq => by rw [new _ _ (by omega)]; exact p4 q hq⟩
        · obtain ⟨g1, g2, g3⟩ := hG p (by omega)
          exact ⟨by rw [new _ _ (by omega), old _ (by omega)]; exact g1, rA_eq g2 (by rw [new _ _ (by omega), old _ (by omega)]), fun q hq => by rw [new _ _ (by omega), old _ (by omega)]; exact g3 q hq⟩
  refine g_widen (k1 := 5 + 8 * 0) (k2 := 58 + 40 * 0) (by omega) (by omega) ?_
  refine loop 40 0 _ (by omega) ⟨fun j hj hji => ?_, va_up_self _ _ _, ?_, ?_, ?_, ?_⟩ ⟨fun _ => none, ?_, fun q hq => absurd hq (Nat.not_lt_zero q)⟩ (fun p hp => absurd hp (Nat.not_lt_zero p))
  · rw [va_up_ne _ _ hji, va_up_ne _ _ (by omega), va_up_ne _ _ hji, va_up_ne _ _ (by omega), va_up_ne _ _ hji, va_up_ne _ _ (by omega), va_up_ne _ _ hji, va_up_ne _ _ (by omega), va_up_ne _ _ hji, va_up_ne _ _ (by omega)]
  · rw [va_up_ne _ _ (by omega), va_up_ne _ _ (by omega), va_up_ne _ _ (by omega), va_up_ne _ _ (by omega), va_up_ne _ _ (by omega), va_up_ne _ _ (by omega), va_up_ne _ _ (by omega)]
    exact va_up_self _ _ _
  · rw [va_up_ne _ _ (by omega), va_up_ne _ _ (by omega), va_up_ne _ _ (by omega), va_up_ne _ _ (by omega), va_up_ne _ _ (by omega)]
    exact va_up_self _ _ _
  · rw [va_up_ne _ _ (by omega), va_up_ne _ _ (by omega), va_up_ne _ _ (by omega)]
    exact va_up_self _ _ _
  · rw [va_up_ne _ _ (by omega)]
    exact va_up_self _ _ _
  · rw [va_up_ne _ _ (by omega), va_up_ne _ _ (by omega), va_up_ne _ _ (by omega), va_up_ne _ _ (by omega), va_up_ne _ _ (by omega), va_up_ne _ _ (by omega), va_up_ne _ _ (by omega), va_up_ne _ _ (by omega), va_up_ne _ _ (by omega)]
    exact va_up_self _ _ _

set_option maxHeartbeats 4000000 in
set_option maxRecDepth 100000 in
theorem cSe_init {l : Launch} {D : va_G} {cI0 cJ cB cP cII : ClassId} {b m i : Nat} {g : Nat → va_E} (hi : i < m) (hg : g i = .inr (3, [.null, .int 0, .null, .long 0, .null, .null, .int 0, .null, .int 0, .null])) : Cn l D (TY cI0 cJ cB cP cII) ySe_init wSe_init { frames := 2, cells := 46, slots := 370, locals := 41 } [.ref (b + i)] b m g 46 370 (fun g' => srP b m i cI0 cJ cB g g') := by
  refine cn_of (by decide) rfl rfl (Nat.le_of_ble_eq_true rfl) (lv := [some (.ref (b + i)), none]) rfl (fun X hC hN hin => ?_)
  have hB := hC.B
  refine v_aload_n hB dSe_init_0 rfl ?_
  refine g_init hC ol_Se dSe_init_1 (Nat.le_of_ble_eq_true rfl) (Nat.le_of_ble_eq_true rfl) ?_
  refine v_aload_n hB dSe_init_4 rfl ?_
  refine v_bipush hB dSe_init_5 (v := 40) (by decide) ?_
  refine g_anew hC cl_Se_9 hN.2.2.2.2.1 2 rfl (N' := 40) (by decide) (by decide) (by decide) dSe_init_7 (by show _ ≤ 46; omega) (by show _ ≤ 370; omega) ?_
  refine g_putF hC hin (klSe klY) (by omega) (by rw [va_up_ne _ _ (show i ≠ m by omega)]; exact hg) 0 dSe_init_10 kfSe_11 (by decide) rfl rfl rfl rfl (Nat.le_of_ble_eq_true rfl) ?_
  refine v_aload_n hB dSe_init_13 rfl ?_
  refine g_new hC (klBo klY) dSe_init_14 cl_Se_9 in_Bo ii_Bo (fs := [.int 0, .int 0, .int 0, .int 0, .int 0]) (fun j hj => by rcases (show j = 0 ∨ j = 1 ∨ j = 2 ∨ j = 3 ∨ j = 4 by omega) with rfl | rfl | rfl | rfl | rfl <;> rfl) (by show _ ≤ 46; omega) (by show _ ≤ 370; omega) ?_
  refine v_dup hB dSe_init_17 rfl ?_
  refine g_callIN hC hN hN.2.2.1 ii_Bo kcBo_init ⟨by decide +kernel, by decide +kernel, by decide +kernel⟩ kiBo_init rfl dSe_init_18 (cBo_init (by omega)) rfl rfl ⟨Nat.le_of_ble_eq_true rfl, Nat.le_of_ble_eq_true rfl⟩ rfl (Nat.le_of_ble_eq_true rfl) ⟨by show _ ≤ 46; omega, by show _ ≤ 370; omega⟩ (fun g0 hg0 => ?_)
  subst hg0
  refine g_putF hC hin (klSe klY) (by omega) (by rw [va_up_ne _ _ (show i ≠ m + 1 by omega), va_up_self]) 2 dSe_init_21 kfSe_18 (by decide) rfl rfl rfl rfl (Nat.le_of_ble_eq_true rfl) ?_
  refine v_aload_n hB dSe_init_24 rfl ?_
  refine v_bipush hB dSe_init_25 (v := 40) (by decide) ?_
  refine g_newa hC (atype := .int) (ty := .int) rfl ac_I 0 rfl raI (N' := 40) (a0 := (40, .inl (fun _ => 0))) (fun _ => rfl) (by decide) (by decide) (by decide) dSe_init_27 (by show _ ≤ 46; omega) (by show _ ≤ 370; omega) ?_
  refine g_putF hC hin (klSe klY) (by omega) (by rw [va_up_ne _ _ (show i ≠ m + 1 + 1 by omega), va_up_self]) 4 dSe_init_29 kfSe_22 (by decide) rfl rfl rfl rfl (Nat.le_of_ble_eq_true rfl) ?_
  refine v_aload_n hB dSe_init_32 rfl ?_
  refine v_bipush hB dSe_init_33 (v := 40) (by decide) ?_
  refine g_newa hC (atype := .long) (ty := .long) rfl ac_J 1 rfl raJ (N' := 40) (a0 := (40, .inr (.inl (fun _ => 0)))) (fun _ => rfl) (by decide) (by decide) (by decide) dSe_init_35 (by show _ ≤ 46; omega) (by show _ ≤ 370; omega) ?_
  refine g_putF hC hin (klSe klY) (by omega) (by rw [va_up_ne _ _ (show i ≠ m + 1 + 1 + 1 by omega), va_up_self]) 5 dSe_init_37 kfSe_26 (by decide) rfl rfl rfl rfl (Nat.le_of_ble_eq_true rfl) ?_
  refine v_aload_n hB dSe_init_40 rfl ?_
  refine v_bipush hB dSe_init_41 (v := 40) (by decide) ?_
  refine g_newa hC (atype := .int) (ty := .int) rfl ac_I 0 rfl raI (N' := 40) (a0 := (40, .inl (fun _ => 0))) (fun _ => rfl) (by decide) (by decide) (by decide) dSe_init_43 (by show _ ≤ 46; omega) (by show _ ≤ 370; omega) ?_
  refine g_putF hC hin (klSe klY) (by omega) (by rw [va_up_ne _ _ (show i ≠ m + 1 + 1 + 1 + 1 by omega), va_up_self]) 7 dSe_init_45 kfSe_30 (by decide) rfl rfl rfl rfl (Nat.le_of_ble_eq_true rfl) ?_
  refine v_aload_n hB dSe_init_48 rfl ?_
  refine g_new hC (klBo klY) dSe_init_49 cl_Se_9 in_Bo ii_Bo (fs := [.int 0, .int 0, .int 0, .int 0, .int 0]) (fun j hj => by rcases (show j = 0 ∨ j = 1 ∨ j = 2 ∨ j = 3 ∨ j = 4 by omega) with rfl | rfl | rfl | rfl | rfl <;> rfl) (by show _ ≤ 46; omega) (by show _ ≤ 370; omega) ?_
  refine v_dup hB dSe_init_52 rfl ?_
  refine g_callIN hC hN hN.2.2.1 ii_Bo kcBo_init ⟨by decide +kernel, by decide +kernel, by decide +kernel⟩ kiBo_init rfl dSe_init_53 (cBo_init (by omega)) rfl rfl ⟨Nat.le_of_ble_eq_true rfl, Nat.le_of_ble_eq_true rfl⟩ rfl (Nat.le_of_ble_eq_true rfl) ⟨by show _ ≤ 46; omega, by show _ ≤ 370; omega⟩ (fun g0 hg0 => ?_)
  subst hg0
  refine g_putF hC hin (klSe klY) (by omega) (by rw [va_up_ne _ _ (show i ≠ m + 1 + 1 + 1 + 1 + 1 by omega), va_up_self]) 9 dSe_init_56 kfSe_33 (by decide) rfl rfl rfl rfl (Nat.le_of_ble_eq_true rfl) ?_
  refine v_iconst hB dSe_init_59 (v := 0) (by decide) ?_
  refine v_istore_n hB dSe_init_60 rfl (by decide) (lv' := [_, _]) rfl ?_
  have loop : ∀ (r k : Nat) (G : Nat → va_E), k + r = 40 → srF b m i cI0 cJ g G → rA b G m cB 40 k (fun q => m + 6 + q) → (∀ q, q < k → G (m + 6 + q) = bx0) → VG X (cA_ b) 2 (6 + k) (170 + 5 * k) (cV X D b (m + 46) (fun g' => srP b m i cI0 cJ cB g g') 46 370) (cI D b (m + 6 + k) G) 61 [some (.ref (b + i)), some (.int (nI k))] [] := by
    intro r
    induction r with
    | zero =>
      intro k G hk hF hA hb
      obtain rfl : k = 40 := by omega
      refine v_iload_n hB dSe_init_61 rfl ?_
      refine v_bipush hB dSe_init_62 (v := 40) (by decide) ?_
      refine v_icmp_ge hB 86 dSe_init_64 (by decide) (fun c => ?_) (fun c => ?_)
      · exact g_ret hC rfl dSe_init_86 ⟨hF, hA, hb⟩
      · exact absurd (by rw [show (40 : Int32) = nI 40 from rfl]; exact nI_le (by omega) (by omega)) c
    | succ r ih =>
      intro k G hk hF hA hb
      obtain ⟨f, hf1, hf2⟩ := id hA
      refine v_iload_n hB dSe_init_61 rfl ?_
      refine v_bipush hB dSe_init_62 (v := 40) (by decide) ?_
      refine v_icmp_ge hB 86 dSe_init_64 (by decide) (fun c => ?_) (fun c => ?_)
      · exact absurd c (by rw [show (40 : Int32) = nI 40 from rfl]; exact (fun q => absurd ((nI_leI (by omega) (by omega)).mp q) (by omega)))
      refine v_aload_n hB dSe_init_67 rfl ?_
      refine g_get hC (klSe klY) (by omega) hF.2.1 0 dSe_init_68 kfSe_11 (by decide) rfl ?_
      refine v_iload_n hB dSe_init_71 rfl ?_
      refine g_new hC (klBo klY) dSe_init_72 cl_Se_9 in_Bo ii_Bo (fs := [.int 0, .int 0, .int 0, .int 0, .int 0]) (fun j hj => by rcases (show j = 0 ∨ j = 1 ∨ j = 2 ∨ j = 3 ∨ j = 4 by omega) with rfl | rfl | rfl | rfl | rfl <;> rfl) (by show _ ≤ 46; omega) (by show _ ≤ 370; omega) ?_
      refine v_dup hB dSe_init_75 rfl ?_
      refine g_callIN hC hN hN.2.2.1 ii_Bo kcBo_init ⟨by decide +kernel, by decide +kernel, by decide +kernel⟩ kiBo_init rfl dSe_init_76 (cBo_init (by omega)) rfl rfl ⟨Nat.le_of_ble_eq_true rfl, Nat.le_of_ble_eq_true rfl⟩ rfl (Nat.le_of_ble_eq_true rfl) ⟨by show _ ≤ 46; omega, by show _ ≤ 370; omega⟩ (fun g0 hg0 => ?_)
      subst hg0
      refine g_aast hC (t0 := 2) (r := (RBo, TBo, 5)) (q := k) (by omega) (by rw [va_up_ne _ _ (show m ≠ m + 6 + k by omega)]; exact hf1) rfl (by omega) (va_up_self _ _ _) rfl dSe_init_79 rfl (by omega) (by decide) ?_
      refine v_iinc hB dSe_init_80 rfl (y := _) rfl rfl (by decide) (lv' := [_, _]) rfl ?_
      refine v_goto hB 61 dSe_init_83 (by decide) ?_
      rw [i1]
      refine g_widen (k1 := 6 + (k + 1)) (k2 := 170 + 5 * (k + 1)) (by omega) (by omega) ?_
      have new : ∀ (e1 e2 : va_E) (j : Nat), j ≠ m → j ≠ m + 6 + k → va_up (va_up G (m + 6 + k) e1) m e2 j = G j := fun e1 e2 j h1 h2 => by rw [va_up_ne _ _ h1, va_up_ne _ _ h2]
      obtain ⟨F1, F2, F3, F4, F5, F6, F7⟩ := hF
      refine ih (k + 1) _ (by omega) ⟨fun j hj hji => ?_, ?_, ?_, ?_, ?_, ?_, ?_⟩ (rA_up hf2 rfl) (fun q hq => ?_)
      · rw [new _ _ _ (by omega) (by omega)]
        exact F1 j hj hji
      · rw [new _ _ _ (by omega) (by omega)]
        exact F2
      · rw [new _ _ _ (by omega) (by omega)]
        exact F3
      · rw [new _ _ _ (by omega) (by omega)]
        exact F4
      · rw [new _ _ _ (by omega) (by omega)]
        exact F5
      · rw [new _ _ _ (by omega) (by omega)]
        exact F6
      · rw [new _ _ _ (by omega) (by omega)]
        exact F7
      · by_cases hqk : q = k
        · subst hqk
          rw [va_up_ne _ _ (show m + 6 + q ≠ m by omega), va_up_self]
          rfl
        · rw [new _ _ _ (by omega) (by omega)]
          exact hb q (by omega)
  refine g_widen (k1 := 6 + 0) (k2 := 170 + 5 * 0) (by omega) (by omega) ?_
  refine loop 40 0 _ (by omega) ⟨fun j hj hji => ?_, va_up_self _ _ _, ?_, ?_, ?_, ?_, ?_⟩ ⟨fun _ => none, ?_, fun q hq => absurd hq (Nat.not_lt_zero q)⟩ (fun p hp => absurd hp (Nat.not_lt_zero p))
  · rw [va_up_ne _ _ hji, va_up_ne _ _ (by omega), va_up_ne _ _ hji, va_up_ne _ _ (by omega), va_up_ne _ _ hji, va_up_ne _ _ (by omega), va_up_ne _ _ hji, va_up_ne _ _ (by omega), va_up_ne _ _ hji, va_up_ne _ _ (by omega), va_up_ne _ _ hji, va_up_ne _ _ (by omega)]
  · rw [va_up_ne _ _ (by omega), va_up_ne _ _ (by omega), va_up_ne _ _ (by omega), va_up_ne _ _ (by omega), va_up_ne _ _ (by omega), va_up_ne _ _ (by omega), va_up_ne _ _ (by omega), va_up_ne _ _ (by omega), va_up_ne _ _ (by omega)]
    exact va_up_self _ _ _
  · rw [va_up_ne _ _ (by omega), va_up_ne _ _ (by omega), va_up_ne _ _ (by omega), va_up_ne _ _ (by omega), va_up_ne _ _ (by omega), va_up_ne _ _ (by omega), va_up_ne _ _ (by omega)]
    exact va_up_self _ _ _
  · rw [va_up_ne _ _ (by omega), va_up_ne _ _ (by omega), va_up_ne _ _ (by omega), va_up_ne _ _ (by omega), va_up_ne _ _ (by omega)]
    exact va_up_self _ _ _
  · rw [va_up_ne _ _ (by omega), va_up_ne _ _ (by omega), va_up_ne _ _ (by omega)]
    exact va_up_self _ _ _
  · rw [va_up_ne _ _ (by omega)]
    exact va_up_self _ _ _
  · rw [va_up_ne _ _ (by omega), va_up_ne _ _ (by omega), va_up_ne _ _ (by omega), va_up_ne _ _ (by omega), va_up_ne _ _ (by omega), va_up_ne _ _ (by omega), va_up_ne _ _ (by omega), va_up_ne _ _ (by omega), va_up_ne _ _ (by omega), va_up_ne _ _ (by omega), va_up_ne _ _ (by omega)]
    exact va_up_self _ _ _

/-- all cells of a new object: by their numbers -/
def faP (b : Nat) (cI0 cJ cB cP cII : ClassId) (g' : Nat → va_E) : Prop := g' 0 = .inr (5, [.ref (b + 1), .ref (b + 85), .ref (b + 411), .ref (b + 458), .int 1, .int 1, .int (-1)]) ∧ (∃ g1, diP b 2 1 cI0 cII g1 g1 ∧ ∀ j, 1 ≤ j → j < 85 → g' j = g1 j) ∧ (∃ g1, trP b 86 85 cI0 cB cP g1 g1 ∧ ∀ j, 85 ≤ j → j < 411 → g' j = g1 j) ∧ (∃ g1, srP b 412 411 cI0 cJ cB g1 g1 ∧ ∀ j, 411 ≤ j → j < 458 → g' j = g1 j) ∧ g' 458 = bx0
theorem diP_self {b m i : Nat} {c1 c2 : ClassId} {g g' : Nat → va_E} (h : diP b m i c1 c2 g g') : diP b m i c1 c2 g' g' := ⟨fun _ _ _ => rfl, h.2⟩
theorem trP_self {b m i : Nat} {c1 c2 c3 : ClassId} {g g' : Nat → va_E} (h : trP b m i c1 c2 c3 g g') : trP b m i c1 c2 c3 g' g' := ⟨⟨fun _ _ _ => rfl, h.1.2⟩, h.2⟩
theorem srP_self {b m i : Nat} {c1 c2 c3 : ClassId} {g g' : Nat → va_E} (h : srP b m i c1 c2 c3 g g') : srP b m i c1 c2 c3 g' g' := ⟨⟨fun _ _ _ => rfl, h.1.2⟩, h.2⟩
set_option maxHeartbeats 4000000 in
set_option maxRecDepth 100000 in
theorem cFa_init {l : Launch} {D : va_G} {cI0 cJ cB cP cII : ClassId} {b : Nat} {g : Nat → va_E} (hg : g 0 = .inr (5, [.null, .null, .null, .null, .int 0, .int 0, .int 0])) : Cn l D (TY cI0 cJ cB cP cII) yFa_init wFa_init { frames := 4, cells := 458, slots := 4336, locals := 83 } [.ref (b + 0)] b 1 g 458 4336 (fun g' => faP b cI0 cJ cB cP cII g') := by
  refine cn_of (by decide) rfl rfl (Nat.le_of_ble_eq_true rfl) (lv := [some (.ref (b + 0))]) rfl (fun X hC hN hin => ?_)
  have hB := hC.B
  refine v_aload_n hB dFa_init_0 rfl ?_
  refine g_init hC ol_Fa dFa_init_1 (Nat.le_of_ble_eq_true rfl) (Nat.le_of_ble_eq_true rfl) ?_
  refine v_aload_n hB dFa_init_4 rfl ?_
  refine g_new hC (klDi klY) dFa_init_5 cl_Fa_9 in_Di ii_Di (fs := [.null, .null, .null, .int 0, .int 0]) (fun j hj => by rcases (show j = 0 ∨ j = 1 ∨ j = 2 ∨ j = 3 ∨ j = 4 by omega) with rfl | rfl | rfl | rfl | rfl <;> rfl) (by show _ ≤ 458; omega) (by show _ ≤ 4336; omega) ?_
  refine v_dup hB dFa_init_8 rfl ?_
  refine g_callI hC hN kmFa_11 kiDi_init rfl dFa_init_9 (cDi_init (cI0 := cI0) (cJ := cJ) (cB := cB) (cP := cP) (cII := cII) (i := 1) (by omega) (va_up_self _ _ _)) rfl rfl ⟨Nat.le_of_ble_eq_true rfl, Nat.le_of_ble_eq_true rfl⟩ rfl (Nat.le_of_ble_eq_true rfl) ⟨by show _ ≤ 458; omega, by show _ ≤ 4336; omega⟩ (fun G1 h1 => ?_)
  have z1 : G1 0 = .inr (5, [.null, .null, .null, .null, .int 0, .int 0, .int 0]) := by rw [h1.1 0 (by omega) (by omega), va_up_ne _ _ (by omega)]; exact hg
  refine g_putF hC hin (klFa klY) (by omega) z1 0 dFa_init_12 kfFa_12 (by decide) rfl rfl rfl rfl (Nat.le_of_ble_eq_true rfl) ?_
  refine v_aload_n hB dFa_init_15 rfl ?_
  refine g_new hC (klTr klY) dFa_init_16 cl_Fa_16 in_Tr ii_Tr (fs := [.int 0, .int 0, .int 0, .null, .null, .null, .null, .null]) (fun j hj => by rcases (show j = 0 ∨ j = 1 ∨ j = 2 ∨ j = 3 ∨ j = 4 ∨ j = 5 ∨ j = 6 ∨ j = 7 by omega) with rfl | rfl | rfl | rfl | rfl | rfl | rfl | rfl <;> rfl) (by show _ ≤ 458; omega) (by show _ ≤ 4336; omega) ?_
  refine v_dup hB dFa_init_19 rfl ?_
  refine g_callI hC hN kmFa_18 kiTr_init rfl dFa_init_20 (cTr_init (cI0 := cI0) (cJ := cJ) (cB := cB) (cP := cP) (cII := cII) (i := 85) (by omega) (va_up_self _ _ _)) rfl rfl ⟨Nat.le_of_ble_eq_true rfl, Nat.le_of_ble_eq_true rfl⟩ rfl (Nat.le_of_ble_eq_true rfl) ⟨by show _ ≤ 458; omega, by show _ ≤ 4336; omega⟩ (fun G2 h2 => ?_)
  have o2 : ∀ j, j < 85 → j ≠ 0 → G2 j = G1 j := fun j hj h0 => by rw [h2.1.1 j (by omega) (by omega), va_up_ne _ _ (by omega), va_up_ne _ _ h0]
  have z2 : G2 0 = .inr (5, [.ref (b + 1), .null, .null, .null, .int 0, .int 0, .int 0]) := by rw [h2.1.1 0 (by omega) (by omega), va_up_ne _ _ (by omega), va_up_self]; rfl
  refine g_putF hC hin (klFa klY) (by omega) z2 1 dFa_init_23 kfFa_19 (by decide) rfl rfl rfl rfl (Nat.le_of_ble_eq_true rfl) ?_
  refine v_aload_n hB dFa_init_26 rfl ?_
  refine g_new hC (klSe klY) dFa_init_27 cl_Fa_23 in_Se ii_Se (fs := [.null, .int 0, .null, .long 0, .null, .null, .int 0, .null, .int 0, .null]) (fun j hj => by rcases (show j = 0 ∨ j = 1 ∨ j = 2 ∨ j = 3 ∨ j = 4 ∨ j = 5 ∨ j = 6 ∨ j = 7 ∨ j = 8 ∨ j = 9 by omega) with rfl | rfl | rfl | rfl | rfl | rfl | rfl | rfl | rfl | rfl <;> rfl) (by show _ ≤ 458; omega) (by show _ ≤ 4336; omega) ?_
  refine v_dup hB dFa_init_30 rfl ?_
  refine g_callI hC hN kmFa_25 kiSe_init rfl dFa_init_31 (cSe_init (cI0 := cI0) (cJ := cJ) (cB := cB) (cP := cP) (cII := cII) (i := 411) (by omega) (va_up_self _ _ _)) rfl rfl ⟨Nat.le_of_ble_eq_true rfl, Nat.le_of_ble_eq_true rfl⟩ rfl (Nat.le_of_ble_eq_true rfl) ⟨by show _ ≤ 458; omega, by show _ ≤ 4336; omega⟩ (fun G3 h3 => ?_)
  have o3 : ∀ j, j < 411 → j ≠ 0 → G3 j = G2 j := fun j hj h0 => by rw [h3.1.1 j (by omega) (by omega), va_up_ne _ _ (by omega), va_up_ne _ _ h0]
  have z3 : G3 0 = .inr (5, [.ref (b + 1), .ref (b + 85), .null, .null, .int 0, .int 0, .int 0]) := by rw [h3.1.1 0 (by omega) (by omega), va_up_ne _ _ (by omega), va_up_self]; rfl
  refine g_putF hC hin (klFa klY) (by omega) z3 2 dFa_init_34 kfFa_26 (by decide) rfl rfl rfl rfl (Nat.le_of_ble_eq_true rfl) ?_
  refine v_aload_n hB dFa_init_37 rfl ?_
  refine g_new hC (klBo klY) dFa_init_38 cl_Fa_30 in_Bo ii_Bo (fs := [.int 0, .int 0, .int 0, .int 0, .int 0]) (fun j hj => by rcases (show j = 0 ∨ j = 1 ∨ j = 2 ∨ j = 3 ∨ j = 4 by omega) with rfl | rfl | rfl | rfl | rfl <;> rfl) (by show _ ≤ 458; omega) (by show _ ≤ 4336; omega) ?_
  refine v_dup hB dFa_init_41 rfl ?_
  refine g_callIN hC hN hN.2.2.2.1 ii_Bo kcBo_init ⟨by decide +kernel, by decide +kernel, by decide +kernel⟩ kiBo_init rfl dFa_init_42 (cBo_init (by omega)) rfl rfl ⟨Nat.le_of_ble_eq_true rfl, Nat.le_of_ble_eq_true rfl⟩ rfl (Nat.le_of_ble_eq_true rfl) ⟨by show _ ≤ 458; omega, by show _ ≤ 4336; omega⟩ (fun g0 hg0 => ?_)
  subst hg0
  refine g_putF hC hin (klFa klY) (by omega) (by rw [va_up_ne _ _ (show 0 ≠ 458 by omega), va_up_self]) 3 dFa_init_45 kfFa_33 (by decide) rfl rfl rfl rfl (Nat.le_of_ble_eq_true rfl) ?_
  refine v_aload_n hB dFa_init_48 rfl ?_
  refine v_iconst hB dFa_init_49 (v := 1) (by decide) ?_
  refine g_put hC (klFa klY) (by omega) (va_up_self _ _ _) 4 dFa_init_50 kfFa_37 (by decide) rfl (by decide) (by decide) (Nat.le_of_ble_eq_true rfl) ?_
  refine v_aload_n hB dFa_init_53 rfl ?_
  refine v_iconst hB dFa_init_54 (v := 1) (by decide) ?_
  refine g_put hC (klFa klY) (by omega) (va_up_self _ _ _) 5 dFa_init_55 kfFa_41 (by decide) rfl (by decide) (by decide) (Nat.le_of_ble_eq_true rfl) ?_
  refine v_aload_n hB dFa_init_58 rfl ?_
  refine v_iconst hB dFa_init_59 (v := -1) (by decide) ?_
  refine g_put hC (klFa klY) (by omega) (va_up_self _ _ _) 6 dFa_init_60 kfFa_44 (by decide) rfl rfl rfl (Nat.le_of_ble_eq_true rfl) ?_
  refine g_widen (k1 := 458) (k2 := 4336) (by omega) (by omega) ?_
  refine g_ret hC rfl dFa_init_63 ⟨va_up_self _ _ _, ⟨G1, diP_self h1, fun j h1 h2 => ?_⟩, ⟨G2, trP_self h2, fun j h1 h2 => ?_⟩, ⟨G3, srP_self h3, fun j h1 h2 => ?_⟩, ?_⟩
  · rw [va_up_ne _ _ (show j ≠ 0 by omega), va_up_ne _ _ (show j ≠ 0 by omega), va_up_ne _ _ (show j ≠ 0 by omega), va_up_ne _ _ (show j ≠ 0 by omega), va_up_ne _ _ (show j ≠ 458 by omega), va_up_ne _ _ (show j ≠ 0 by omega), o3 j (by omega) (by omega), o2 j (by omega) (by omega)]
  · rw [va_up_ne _ _ (show j ≠ 0 by omega), va_up_ne _ _ (show j ≠ 0 by omega), va_up_ne _ _ (show j ≠ 0 by omega), va_up_ne _ _ (show j ≠ 0 by omega), va_up_ne _ _ (show j ≠ 458 by omega), va_up_ne _ _ (show j ≠ 0 by omega), o3 j (by omega) (by omega)]
  · rw [va_up_ne _ _ (show j ≠ 0 by omega), va_up_ne _ _ (show j ≠ 0 by omega), va_up_ne _ _ (show j ≠ 0 by omega), va_up_ne _ _ (show j ≠ 0 by omega), va_up_ne _ _ (show j ≠ 458 by omega), va_up_ne _ _ (show j ≠ 0 by omega)]
  · rw [va_up_ne _ _ (show 458 ≠ 0 by omega), va_up_ne _ _ (show 458 ≠ 0 by omega), va_up_ne _ _ (show 458 ≠ 0 by omega), va_up_ne _ _ (show 458 ≠ 0 by omega)]
    exact va_up_self _ _ _

set_option maxHeartbeats 4000000 in
set_option maxRecDepth 100000 in
theorem cMo_init {l : Launch} {D : va_G} {cI0 cJ cB cP cII : ClassId} {b m i : Nat} {g : Nat → va_E} (hi : i < m) (hg : g i = .inr (6, [.int 0, .int 0, .int 0, .null])) : Cn l D (TY cI0 cJ cB cP cII) yMo_init wMo_init { frames := 1, cells := 1, slots := 205, locals := 21 } [.ref (b + i)] b m g 1 205 (fun g' => (∀ j, j < m → j ≠ i → g' j = g j) ∧ g' i = .inr (6, [.int 1, .int (-1), .int 0, .ref (b + m)]) ∧ g' m = .inl (cI0, 205, .inl (fun _ => 0))) := by
  refine cn_of (by decide) rfl rfl (Nat.le_of_ble_eq_true rfl) (lv := [some (.ref (b + i))]) rfl (fun X hC hN hin => ?_)
  have hB := hC.B
  refine v_aload_n hB dMo_init_0 rfl ?_
  refine g_init hC ol_Mo dMo_init_1 (Nat.le_of_ble_eq_true rfl) (Nat.le_of_ble_eq_true rfl) ?_
  refine v_aload_n hB dMo_init_4 rfl ?_
  refine v_iconst hB dMo_init_5 (v := 1) (by decide) ?_
  refine g_put hC (klMo klY) hi hg 0 dMo_init_6 kfMo_7 (by decide) rfl (by decide) (by decide) (Nat.le_of_ble_eq_true rfl) ?_
  refine v_aload_n hB dMo_init_9 rfl ?_
  refine v_iconst hB dMo_init_10 (v := -1) (by decide) ?_
  refine g_put hC (klMo klY) hi (va_up_self _ _ _) 1 dMo_init_11 kfMo_13 (by decide) rfl rfl rfl (Nat.le_of_ble_eq_true rfl) ?_
  refine v_aload_n hB dMo_init_14 rfl ?_
  refine v_sipush hB dMo_init_15 (v := 205) (by decide) ?_
  refine g_newa hC (atype := .int) (ty := .int) rfl ac_I 0 rfl raI (N' := 205) (a0 := (205, .inl (fun _ => 0))) (fun _ => rfl) (by decide) (by decide) (by decide) dMo_init_18 (by show _ ≤ 1; omega) (by show _ ≤ 205; omega) ?_
  refine g_putF hC hin (klMo klY) (by omega) (by rw [va_up_ne _ _ (show i ≠ m by omega), va_up_self]) 3 dMo_init_20 kfMo_17 (by decide) rfl rfl rfl rfl (Nat.le_of_ble_eq_true rfl) ?_
  refine g_widen (k1 := 1) (k2 := 205) (by omega) (by omega) ?_
  refine g_ret hC rfl dMo_init_23 ⟨fun j hj hji => ?_, va_up_self _ _ _, ?_⟩
  · rw [va_up_ne _ _ hji, va_up_ne _ _ (by omega), va_up_ne _ _ hji, va_up_ne _ _ hji]
  · rw [va_up_ne _ _ (by omega)]
    exact va_up_self _ _ _

