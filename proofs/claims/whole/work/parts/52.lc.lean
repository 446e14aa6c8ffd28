/-! THE LAW'S LOOP AND ITS ENTRY. -/
theorem and15 (x : Int32) : ∃ k, k < 16 ∧ x &&& 15 = nI k := by
  have e : x = nI x.toBitVec.toNat := by
    apply Int32.toBitVec_inj.1
    show x.toBitVec = BitVec.ofNat 32 x.toBitVec.toNat
    simp
  have h : ∀ a b : Nat, nI a &&& nI b = nI (a &&& b) := fun a b => by
    apply Int32.toBitVec_inj.1
    show BitVec.ofNat 32 a &&& BitVec.ofNat 32 b = BitVec.ofNat 32 (a &&& b)
    apply BitVec.eq_of_getLsbD_eq
    intro i hi
    simp [hi]
  refine ⟨x.toBitVec.toNat % 16, Nat.mod_lt _ (by omega), ?_⟩
  rw [e]
  show nI _ &&& nI 15 = _
  rw [h, show (15 : Nat) = 2 ^ 4 - 1 from rfl, Nat.and_two_pow_sub_one_eq_mod, ← e]
theorem sub6 {L i : Nat} (hL : L ≤ 3072) (hi : i ≤ 4000) : (nI L - 6 < nI i) ↔ L < i + 6 := by
  by_cases h6 : 6 ≤ L
  · obtain ⟨k, rfl⟩ : ∃ k, L = k + 6 := ⟨L - 6, by omega⟩
    rw [show nI (k + 6) - 6 = nI k by rw [← nI_6]; exact Int32.add_sub_cancel .., nI_ltI (by omega) (by omega)]
    omega
  · have h : ∀ L, L < 6 → (nI L - 6).toInt < 0 := by decide +kernel
    have h1 := h L (by omega)
    rw [Int32.lt_iff_toInt_lt, nI_toInt (by omega)]
    constructor
    · exact fun _ => by omega
    · exact fun _ => by omega
theorem sw16 : ∀ k, k < 16 → (nI k).toInt = (k : Int) := by decide +kernel
set_option maxHeartbeats 4000000 in
set_option maxRecDepth 100000 in
theorem l_loop {X : Xt} {l : Launch} {D : va_G} {cI0 cJ cB cP cII : ClassId} {bs L : Nat} {xs : Nat → Int32} {cells slots : Nat} {Q : State → Prop} (C : LX X l D cI0 cJ cB cP cII bs L xs) (hcs : cells ≤ room_1.cells ∧ slots ≤ room_1.slots) (kend : ∀ μ ρ i, VG X (cA_ (xS X).heap.size) 4 cells slots Q (I2 D (xS X).heap.size cI0 cJ cB cP cII μ ρ) 657 [some (.ref bs), some (.ref ((xS X).heap.size + 0)), some (.ref ((xS X).heap.size + 459)), some (.int (nI i))] []) : ∀ (n i : Nat) (μ ρ : Mu), L < i + 6 * n → i ≤ L + 6 → SimE μ ρ → VG X (cA_ (xS X).heap.size) 4 cells slots Q (I2 D (xS X).heap.size cI0 cJ cB cP cII μ ρ) 18 [some (.ref bs), some (.ref ((xS X).heap.size + 0)), some (.ref ((xS X).heap.size + 459)), some (.int (nI i))] [] := by
  have hB := C.B
  have hL := C.2.2.2
  intro n
  induction n with
  | zero =>
    intro i μ ρ hn hi hs
    refine v_iload_n hB dLa_law_18 rfl ?_
    refine v_aload_n hB dLa_law_19 rfl ?_
    refine v_slen hB C.2.1 C.2.2.1 (Nat.not_le.mpr C.2.2.1) dLa_law_20 ?_
    refine v_bipush hB dLa_law_21 (v := 6) (by decide) ?_
    refine v_isub hB dLa_law_23 ?_
    refine v_icmp_gt hB 657 dLa_law_24 (by decide) (fun c1 => ?_) (fun c1 => ?_)
    · exact kend μ ρ i
    · exact absurd ((sub6 hL (by omega)).mpr (by omega)) c1
  | succ n ih =>
    intro i μ ρ hn hi hs
    refine v_iload_n hB dLa_law_18 rfl ?_
    refine v_aload_n hB dLa_law_19 rfl ?_
    refine v_slen hB C.2.1 C.2.2.1 (Nat.not_le.mpr C.2.2.1) dLa_law_20 ?_
    refine v_bipush hB dLa_law_21 (v := 6) (by decide) ?_
    refine v_isub hB dLa_law_23 ?_
    refine v_icmp_gt hB 657 dLa_law_24 (by decide) (fun c1 => ?_) (fun c1 => ?_)
    · exact kend μ ρ i
    rw [sub6 hL (by omega)] at c1
    have hi6 : i + 6 ≤ L := by omega
    have knext : ∀ μ' ρ', SimE μ' ρ' → VG X (cA_ (xS X).heap.size) 4 cells slots Q (I2 D (xS X).heap.size cI0 cJ cB cP cII μ' ρ') 651 [some (.ref bs), some (.ref ((xS X).heap.size + 0)), some (.ref ((xS X).heap.size + 459)), some (.int (nI i))] [] := by
      intro μ' ρ' hs'
      refine v_iinc hB dLa_law_651 rfl (y := nI (i + 6)) (nI_6 i) rfl (by decide) (lv' := [_, _, _, _]) rfl ?_
      refine v_goto hB 18 dLa_law_654 (by decide) ?_
      exact ih (i + 6) μ' ρ' (by omega) (by omega) hs'
    refine v_aload_n hB dLa_law_27 rfl ?_
    refine v_iload_n hB dLa_law_28 rfl ?_
    refine l_s C i rfl (by omega) dLa_law_29 ?_
    refine v_bipush hB dLa_law_30 (v := 15) (by decide) ?_
    refine v_iand hB dLa_law_32 ?_
    obtain ⟨k, hk, ek⟩ := and15 (xs i)
    rw [ek]
    have hk0 := sw16 k hk
    rcases (show k = 0 ∨ k = 1 ∨ k = 2 ∨ k = 3 ∨ k = 4 ∨ k = 5 ∨ k = 6 ∨ k = 7 ∨ k = 8 ∨ k = 9 ∨ k = 10 ∨ k = 11 ∨ k = 12 ∨ k = 13 ∨ k = 14 ∨ k = 15 by omega) with rfl | rfl | rfl | rfl | rfl | rfl | rfl | rfl | rfl | rfl | rfl | rfl | rfl | rfl | rfl | rfl
    · refine v_tableIn hB 112 dLa_law_33 (by rw [hk0]; decide) (by rw [hk0]; decide) (off := 79) (by rw [hk0]; rfl) (by decide) ?_
      exact lc_insert C hcs hi6 hs knext
    · refine v_tableIn hB 175 dLa_law_33 (by rw [hk0]; decide) (by rw [hk0]; decide) (off := 142) (by rw [hk0]; rfl) (by decide) ?_
      exact lc_delete C hcs hi6 hs knext
    · refine v_tableIn hB 238 dLa_law_33 (by rw [hk0]; decide) (by rw [hk0]; decide) (off := 205) (by rw [hk0]; rfl) (by decide) ?_
      exact lc_take C hcs hi6 hs knext
    · refine v_tableIn hB 291 dLa_law_33 (by rw [hk0]; decide) (by rw [hk0]; decide) (off := 258) (by rw [hk0]; rfl) (by decide) ?_
      exact lc_cut C hcs hi6 hs knext
    · refine v_tableIn hB 314 dLa_law_33 (by rw [hk0]; decide) (by rw [hk0]; decide) (off := 281) (by rw [hk0]; rfl) (by decide) ?_
      exact lc_stop C hcs hi6 hs knext
    · refine v_tableIn hB 327 dLa_law_33 (by rw [hk0]; decide) (by rw [hk0]; decide) (off := 294) (by rw [hk0]; rfl) (by decide) ?_
      exact lc_start C hcs hi6 hs knext
    · refine v_tableIn hB 340 dLa_law_33 (by rw [hk0]; decide) (by rw [hk0]; decide) (off := 307) (by rw [hk0]; rfl) (by decide) ?_
      exact lc_up C hcs hi6 hs knext
    · refine v_tableIn hB 353 dLa_law_33 (by rw [hk0]; decide) (by rw [hk0]; decide) (off := 320) (by rw [hk0]; rfl) (by decide) ?_
      exact lc_size C hcs hi6 hs knext
    · refine v_tableIn hB 366 dLa_law_33 (by rw [hk0]; decide) (by rw [hk0]; decide) (off := 333) (by rw [hk0]; rfl) (by decide) ?_
      exact lc_count C hcs hi6 hs knext
    · refine v_tableIn hB 419 dLa_law_33 (by rw [hk0]; decide) (by rw [hk0]; decide) (off := 386) (by rw [hk0]; rfl) (by decide) ?_
      exact lc_within C hcs hi6 hs knext
    · refine v_tableIn hB 472 dLa_law_33 (by rw [hk0]; decide) (by rw [hk0]; decide) (off := 439) (by rw [hk0]; rfl) (by decide) ?_
      exact lc_pick C hcs hi6 hs knext
    · refine v_tableIn hB 535 dLa_law_33 (by rw [hk0]; decide) (by rw [hk0]; decide) (off := 502) (by rw [hk0]; rfl) (by decide) ?_
      exact lc_distance C hcs hi6 hs knext
    · refine v_tableIn hB 569 dLa_law_33 (by rw [hk0]; decide) (by rw [hk0]; decide) (off := 536) (by rw [hk0]; rfl) (by decide) ?_
      exact lc_nearest C hcs hi6 hs knext
    · refine v_tableIn hB 602 dLa_law_33 (by rw [hk0]; decide) (by rw [hk0]; decide) (off := 569) (by rw [hk0]; rfl) (by decide) ?_
      exact lc_around C hcs hi6 hs knext
    · refine v_tableIn hB 625 dLa_law_33 (by rw [hk0]; decide) (by rw [hk0]; decide) (off := 592) (by rw [hk0]; rfl) (by decide) ?_
      exact lc_sound C hcs hi6 hs knext
    · refine v_tableIn hB 638 dLa_law_33 (by rw [hk0]; decide) (by rw [hk0]; decide) (off := 605) (by rw [hk0]; rfl) (by decide) ?_
      exact lc_frugal C hcs hi6 hs knext
