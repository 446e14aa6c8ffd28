/-! THE LAW FROM ITS ENTRY. -/
theorem ka_p {ty : FieldType} {args : Array Value} {s : State} (h : (Cond.arrayClass ty).before args s = true) : ∃ cA, ArrOfT s cA ty ∧ s.vm.findClass ("[" ++ ty.toString) = some cA := by
  obtain ⟨cA, kA, comp, h1, h2, h3⟩ := Cond.arrayClass_spec h
  exact ⟨cA, fun n z => ⟨fun k h => (by cases h), kA, h2, comp, h3⟩, h1⟩
theorem ka_o {C : String} {s : State} (h : va_AO C s) : ∃ cA, ArrOfT s cA (.object C) ∧ va_RA s cA (.object C) := by
  obtain ⟨comp, c, k, h1, h2, h3, h4, h5⟩ := Cond.arrayOver_spec h
  exact ⟨c, fun N z => ⟨fun k h => (by cases h), k, h3, comp, h4⟩, k, comp, h3, h4, h1, h5⟩
theorem ka_a {s : State} (h : AOA s) : ∃ cA, ArrOfT s cA (.array .int) ∧ s.vm.findClass ("[" ++ (FieldType.array .int).toString) = some cA := by
  obtain ⟨comp, c, k, h1, h2, h3, h4, h5⟩ := arrayOverA_spec h
  exact ⟨c, fun N z => ⟨fun k h => (by cases h), k, h3, comp, h4⟩, h5⟩
theorem l_K {args : Array Value} {s : State} (hT : ∀ w ∈ tbl, w.before args s = true) (hB : va_AO RBo s) (hP : va_AO RPa s) (hA : AOA s) : ∃ D cI0 cJ cB cP cII, va_K D cls (TY cI0 cJ cB cP cII) s := by
  obtain ⟨c0, i0, k0⟩ := u_known (C := RBo) (T := TBo) (N := 5) (n := 5) hT usBo (hT _ in_Bo)
  obtain ⟨c1, i1, k1⟩ := u_known (C := RDi) (T := TDi) (N := 5) (n := 5) hT usDi (hT _ in_Di)
  obtain ⟨c2, i2, k2⟩ := u_known (C := RPa) (T := TPa) (N := 4) (n := 4) hT usPa (hT _ in_Pa)
  obtain ⟨c3, i3, k3⟩ := u_known (C := RSe) (T := TSe) (N := 10) (n := 10) hT usSe (hT _ in_Se)
  obtain ⟨c4, i4, k4⟩ := u_known (C := RTr) (T := TTr) (N := 8) (n := 8) hT usTr (hT _ in_Tr)
  obtain ⟨c5, i5, k5⟩ := u_known (C := RFa) (T := TFa) (N := 7) (n := 7) hT usFa (hT _ in_Fa)
  obtain ⟨c6, i6, k6⟩ := u_known (C := RMo) (T := TMo) (N := 4) (n := 4) hT usMo (hT _ in_Mo)
  obtain ⟨cI0, a1, a2⟩ := ka_p (hT _ ac_I)
  obtain ⟨cJ, b1, b2⟩ := ka_p (hT _ ac_J)
  obtain ⟨cB, d1, d2⟩ := ka_o hB
  obtain ⟨cP, e1, e2⟩ := ka_o hP
  obtain ⟨cII, f1, f2⟩ := ka_a hA
  refine ⟨(fun k => if k = 0 then c0 else if k = 1 then c1 else if k = 2 then c2 else if k = 3 then c3 else if k = 4 then c4 else if k = 5 then c5 else c6, fun k => if k = 0 then i0 else if k = 1 then i1 else if k = 2 then i2 else if k = 3 then i3 else if k = 4 then i4 else if k = 5 then i5 else i6), cI0, cJ, cB, cP, cII, fun k q hq => ?_, fun k q hq => ?_⟩
  · match k, hq with
    | 0, hq => cases hq; exact k0
    | 1, hq => cases hq; exact k1
    | 2, hq => cases hq; exact k2
    | 3, hq => cases hq; exact k3
    | 4, hq => cases hq; exact k4
    | 5, hq => cases hq; exact k5
    | 6, hq => cases hq; exact k6
    | k + 7, hq => simp [cls] at hq
  · match k, hq with
    | 0, hq => cases hq; exact ⟨a1, a2⟩
    | 1, hq => cases hq; exact ⟨b1, b2⟩
    | 2, hq => cases hq; exact ⟨d1, d2⟩
    | 3, hq => cases hq; exact ⟨e1, e2⟩
    | 4, hq => cases hq; exact ⟨f1, f2⟩
    | k + 5, hq => simp [TY] at hq
theorem nw_1 : Cond.methodLinkNest RTr 26 yBo_init "BoxedPages" ∈ lw_tbl := by decide +kernel
theorem nw_2 : Cond.methodLinkNest RPa 17 yBo_init "BoxedPages" ∈ lw_tbl := by decide +kernel
theorem nw_3 : Cond.methodLinkNest RSe 17 yBo_init "BoxedPages" ∈ lw_tbl := by decide +kernel
theorem nw_4 : Cond.methodLinkNest RFa 32 yBo_init "BoxedPages" ∈ lw_tbl := by decide +kernel
theorem nw_5 : Cond.arrayOver (.object "BoxedPages$Box") ∈ lw_tbl := by decide +kernel
theorem nw_6 : Cond.arrayOver (.object "BoxedPages$Page") ∈ lw_tbl := by decide +kernel
theorem nw_7 : Cond.arrayOver (.array .int) ∈ lw_tbl := by decide +kernel
theorem l_N {args : Array Value} {s : State} (h : ∀ w ∈ lw_tbl, w.before args s = true) : NW s := ⟨va_Nw.of rfl (h _ nw_1), va_Nw.of rfl (h _ nw_2), va_Nw.of rfl (h _ nw_3), va_Nw.of rfl (h _ nw_4), va_AO.of (h _ nw_5), va_AO.of (h _ nw_6), h _ nw_7⟩
set_option maxHeartbeats 4000000 in
set_option maxRecDepth 100000 in
theorem l_entry {X : Xt} {l : Launch} {D : va_G} {cI0 cJ cB cP cII : ClassId} {bs L : Nat} {xs : Nat → Int32} {Q : State → Prop} (C : LX X l D cI0 cJ cB cP cII bs L xs) (hN : NW (xS X)) (kend : ∀ μ ρ i, VG X (cA_ (xS X).heap.size) 4 461 4552 Q (I2 D (xS X).heap.size cI0 cJ cB cP cII μ ρ) 657 [some (.ref bs), some (.ref ((xS X).heap.size + 0)), some (.ref ((xS X).heap.size + 459)), some (.int (nI i))] []) : VG X (cA_ (xS X).heap.size) 4 0 0 Q (cI D (xS X).heap.size 0 (fun _ => bx0)) 0 [some (.ref bs), none, none, none] [] := by
  have hB := C.B
  generalize hb : (xS X).heap.size = b at *
  refine g_new C.1 (klFa klY) dLa_law_0 cl_La_7 in_Fa ii_Fa (fs := [.null, .null, .null, .null, .int 0, .int 0, .int 0]) (fun j hj => by rcases (show j = 0 ∨ j = 1 ∨ j = 2 ∨ j = 3 ∨ j = 4 ∨ j = 5 ∨ j = 6 by omega) with rfl | rfl | rfl | rfl | rfl | rfl | rfl <;> rfl) (Nat.le_of_ble_eq_true rfl) (Nat.le_of_ble_eq_true rfl) ?_
  refine v_dup hB dLa_law_3 rfl ?_
  refine g_callI C.1 hN kmLa_9 kiFa_init rfl dLa_law_4 (cFa_init (cI0 := cI0) (cJ := cJ) (cB := cB) (cP := cP) (cII := cII) (va_up_self _ _ _)) rfl rfl ⟨Nat.le_of_ble_eq_true rfl, Nat.le_of_ble_eq_true rfl⟩ rfl (Nat.le_of_ble_eq_true rfl) ⟨Nat.le_of_ble_eq_true rfl, Nat.le_of_ble_eq_true rfl⟩ (fun g1 h1 => ?_)
  refine v_astore_n hB dLa_law_7 rfl (by decide) (lv' := [_, _, _, _]) rfl ?_
  refine g_new C.1 (klMo klY) dLa_law_8 cl_La_10 in_Mo ii_Mo (fs := [.int 0, .int 0, .int 0, .null]) (fun j hj => by rcases (show j = 0 ∨ j = 1 ∨ j = 2 ∨ j = 3 by omega) with rfl | rfl | rfl | rfl <;> rfl) (Nat.le_of_ble_eq_true rfl) (Nat.le_of_ble_eq_true rfl) ?_
  refine v_dup hB dLa_law_11 rfl ?_
  refine g_callI C.1 hN kmLa_12 kiMo_init rfl dLa_law_12 (cMo_init (cI0 := cI0) (cJ := cJ) (cB := cB) (cP := cP) (cII := cII) (i := 459) (m := 460) (by omega) (va_up_self _ _ _)) rfl rfl ⟨Nat.le_of_ble_eq_true rfl, Nat.le_of_ble_eq_true rfl⟩ rfl (Nat.le_of_ble_eq_true rfl) ⟨Nat.le_of_ble_eq_true rfl, Nat.le_of_ble_eq_true rfl⟩ (fun g2 h2 => ?_)
  refine v_astore_n hB dLa_law_15 rfl (by decide) (lv' := [_, _, _, _]) rfl ?_
  refine v_iconst hB dLa_law_16 (v := 0) (by decide) ?_
  refine v_istore_n hB dLa_law_17 rfl (by decide) (lv' := [_, _, _, _]) rfl ?_
  refine v_I (I' := I2 D b cI0 cJ cB cP cII mu0 rho0) (fun H hI => ?_) ?_
  · have hI : cI D b 461 g2 H := hI
    refine ⟨fa_w (g := g1) (fun i hi => ?_) h1, mo_w ?_ ?_, by rw [hI.1]; exact Nat.le_refl _⟩
    · have h3 := cI_at hI (show i < 461 by omega)
      rw [h2.1 i (by omega) (by omega), va_up_ne _ _ (show i ≠ 459 by omega)] at h3
      exact h3
    · have h3 := cI_at hI (show 459 < 461 by omega)
      rw [h2.2.1] at h3
      exact h3
    · have h3 := cI_at hI (show 460 < 461 by omega)
      rw [h2.2.2] at h3
      exact h3
  · subst hb
    exact l_loop C ⟨Nat.le_of_ble_eq_true rfl, Nat.le_of_ble_eq_true rfl⟩ kend (L + 1) 0 mu0 rho0 (by omega) (by omega) sm0
set_option maxHeartbeats 4000000 in
set_option maxRecDepth 100000 in
theorem whole_start {p : Program} {e : Env} {s : State} {m : MethodId} {below : List Frame} {meth : Method} {c : Code} (l : Launch) {b L : Nat} {xs : Nat → Int32} (hL : L ≤ 3072) (C0 : lw_At p s m meth c b L xs) : W p l e room_1 s m #[Value.ref b] below meth c s.heap [] 0 0 (lw_Z below #[Value.ref b] s) (entryFrame m ([Value.ref b] : List Value).toArray 4) := by
  obtain ⟨hx, hb, hr, hml, hown, hts, hX, hbl, hlocks, hgv⟩ := id C0
  have hT : ∀ w ∈ tbl, w.before #[Value.ref b] s = true := fun w hw => hts w (List.mem_filter.mp hw).1
  have hN : NW s := l_N hts
  obtain ⟨D, cI0, cJ, cB, cP, cII, hK⟩ := l_K hT hN.2.2.2.2.1 hN.2.2.2.2.2.1 hN.2.2.2.2.2.2
  have C : LX (p, l, e, room_1, s, m, #[Value.ref b], below, meth, c) l D cI0 cJ cB cP cII b L xs := ⟨⟨hx, hb, hml, hown, fun w hw => by
    rcases List.mem_cons.mp hw with rfl | hw
    · exact hT _ ii_La
    · exact hT _ hw, hr, hlocks, hK, Y0_O D _, rfl, rfl⟩, hX, hbl, hL⟩
  have hV := l_entry (Q := lw_Z below #[Value.ref b] s) C hN (fun μ ρ i => by
    refine v_iconst C.B dLa_law_657 (v := 1) (by decide) ?_
    intro H locs ls hI hS hl
    refine va_forget (fun q hq => hS.2.2 q hq) ?_
    refine W.widen (k := 600000) (n := 7302250) (by omega) (by omega) ?_
    exact lw_ret hx hb hr hlocks dLa_law_658)
  have hl := lv_entry ([.ref b]) (n := 4) (Nat.le_of_ble_eq_true rfl)
  rw [lg_entry_eq]
  exact hV s.heap [] _ ⟨rfl, fun k q hk => by simp [cW] at hk⟩ va_S.rf (lh_entry hl)
