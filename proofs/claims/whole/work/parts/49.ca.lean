/-! THE WORLDS that the constructors leave. -/
def offC (i : Nat) : Nat := if i = 0 then 0 else if i = 1 then 1 else if i = 2 then 85 else if i = 3 then 411 else if i = 4 then 458 else if i = 5 then 89 else if i = 6 then 90 else if i = 7 then 413 else if i = 8 then 417 else if i = 9 then 86 else if i = 10 then 87 else if i = 11 then 88 else if i = 12 then 2 else if i = 13 then 43 else if i = 14 then 84 else if i = 15 then 412 else if i = 16 then 414 else if i = 17 then 415 else if i = 18 then 416 else if i < 59 then 91 + 8 * (i - 19) else if i < 99 then 92 + 8 * (i - 59) else if i < 139 then 3 + (i - 99) else if i < 179 then 44 + (i - 139) else if i < 219 then 418 + (i - 179) else 93 + 8 * ((i - 219) / 6) + (i - 219) % 6
def shC (A : Nat → Nat) (cI0 cJ cB cP cII : ClassId) (i : Nat) (m : Nat → Int32) (lm : Nat → Int64) : va_E := if i = 0 then .inr (5, [.ref (A 1), .ref (A 2), .ref (A 3), .ref (A 4), .int (m 4), .int (m 5), .int (m 6)]) else if i = 1 then .inr (1, [.ref (A 12), .ref (A 13), .ref (A 14), .int (m 3), .int (m 4)]) else if i = 2 then .inr (4, [.int (m 0), .int (m 1), .int (m 2), .ref (A 9), .ref (A 10), .ref (A 11), .ref (A 5), .ref (A 6)]) else if i = 3 then .inr (3, [.ref (A 15), .int (m 1), .ref (A 7), .long (lm 3), .ref (A 16), .ref (A 17), .int (m 6), .ref (A 18), .int (m 8), .ref (A 8)]) else if i < 9 then .inr (0, [.int (m 0), .int (m 1), .int (m 2), .int (m 3), .int (m 4)]) else if i = 9 then .inl (cP, 40, rfs (fun j => some (A (pgI j)))) else if i = 10 then .inl (cI0, 4, .inl m) else if i = 11 then .inl (cI0, 4, .inl m) else if i = 12 then .inl (cII, 40, rfs (fun j => some (A (plI j)))) else if i = 13 then .inl (cII, 40, rfs (fun j => some (A (lgI j)))) else if i = 14 then .inl (cI0, 40, .inl m) else if i = 15 then .inl (cB, 40, rfs (fun j => some (A (fdI j)))) else if i = 16 then .inl (cI0, 40, .inl m) else if i = 17 then .inl (cJ, 40, .inr (.inl lm)) else if i = 18 then .inl (cI0, 40, .inl m) else if i < 59 then .inr (2, [.int (m 0), .int (m 1), .int (m 2), .ref (A (i + 40))]) else if i < 99 then .inl (cB, 6, rfs (fun j => some (A (bxI (i - 59) j)))) else if i < 179 then .inl (cI0, 27, .inl m) else .inr (0, [.int (m 0), .int (m 1), .int (m 2), .int (m 3), .int (m 4)])
def YF (D : va_G) (b : Nat) (cI0 cJ cB cP cII : ClassId) : Yt := (D, cls, TY cI0 cJ cB cP cII, fun i => b + offC i, 459, shC (fun i => b + offC i) cI0 cJ cB cP cII)
/-- the memory of a new object -/
def mu0 : Mu := (fun i k => if i = 0 then (if k = 6 then -1 else if k = 4 ∨ k = 5 then 1 else 0) else if (i = 2 ∨ i = 20 ∨ i = 99 ∨ i = 100) ∧ k = 0 then 1 else 0, fun _ _ => 0)
theorem of_pg {p : Nat} (h : p < 40) : offC (pgI p) = 91 + 8 * p := by
  unfold pgI
  rw [offC, if_neg (by omega), if_neg (by omega), if_neg (by omega), if_neg (by omega), if_neg (by omega), if_neg (by omega), if_neg (by omega), if_neg (by omega), if_neg (by omega), if_neg (by omega), if_neg (by omega), if_neg (by omega), if_neg (by omega), if_neg (by omega), if_neg (by omega), if_neg (by omega), if_neg (by omega), if_neg (by omega), if_neg (by omega), if_pos (by omega)]
  omega
theorem of_ba {p : Nat} (h : p < 40) : offC (pgI p + 40) = 92 + 8 * p := by
  unfold pgI
  rw [offC, if_neg (by omega), if_neg (by omega), if_neg (by omega), if_neg (by omega), if_neg (by omega), if_neg (by omega), if_neg (by omega), if_neg (by omega), if_neg (by omega), if_neg (by omega), if_neg (by omega), if_neg (by omega), if_neg (by omega), if_neg (by omega), if_neg (by omega), if_neg (by omega), if_neg (by omega), if_neg (by omega), if_neg (by omega), if_neg (by omega), if_pos (by omega)]
  omega
theorem of_pl {p : Nat} (h : p < 40) : offC (plI p) = 3 + p := by
  unfold plI
  rw [offC, if_neg (by omega), if_neg (by omega), if_neg (by omega), if_neg (by omega), if_neg (by omega), if_neg (by omega), if_neg (by omega), if_neg (by omega), if_neg (by omega), if_neg (by omega), if_neg (by omega), if_neg (by omega), if_neg (by omega), if_neg (by omega), if_neg (by omega), if_neg (by omega), if_neg (by omega), if_neg (by omega), if_neg (by omega), if_neg (by omega), if_neg (by omega), if_pos (by omega)]
  omega
theorem of_lg {p : Nat} (h : p < 40) : offC (lgI p) = 44 + p := by
  unfold lgI
  rw [offC, if_neg (by omega), if_neg (by omega), if_neg (by omega), if_neg (by omega), if_neg (by omega), if_neg (by omega), if_neg (by omega), if_neg (by omega), if_neg (by omega), if_neg (by omega), if_neg (by omega), if_neg (by omega), if_neg (by omega), if_neg (by omega), if_neg (by omega), if_neg (by omega), if_neg (by omega), if_neg (by omega), if_neg (by omega), if_neg (by omega), if_neg (by omega), if_neg (by omega), if_pos (by omega)]
  omega
theorem of_fd {p : Nat} (h : p < 40) : offC (fdI p) = 418 + p := by
  unfold fdI
  rw [offC, if_neg (by omega), if_neg (by omega), if_neg (by omega), if_neg (by omega), if_neg (by omega), if_neg (by omega), if_neg (by omega), if_neg (by omega), if_neg (by omega), if_neg (by omega), if_neg (by omega), if_neg (by omega), if_neg (by omega), if_neg (by omega), if_neg (by omega), if_neg (by omega), if_neg (by omega), if_neg (by omega), if_neg (by omega), if_neg (by omega), if_neg (by omega), if_neg (by omega), if_neg (by omega), if_pos (by omega)]
  omega
theorem of_bx {p j : Nat} (h : p < 40) (hj : j < 6) : offC (bxI p j) = 93 + 8 * p + j := by
  unfold bxI
  rw [offC, if_neg (by omega), if_neg (by omega), if_neg (by omega), if_neg (by omega), if_neg (by omega), if_neg (by omega), if_neg (by omega), if_neg (by omega), if_neg (by omega), if_neg (by omega), if_neg (by omega), if_neg (by omega), if_neg (by omega), if_neg (by omega), if_neg (by omega), if_neg (by omega), if_neg (by omega), if_neg (by omega), if_neg (by omega), if_neg (by omega), if_neg (by omega), if_neg (by omega), if_neg (by omega), if_neg (by omega)]
  omega
def invC (a : Nat) : Nat := if a = 0 then 0 else if a = 1 then 1 else if a = 2 then 12 else if a < 43 then 99 + (a - 3) else if a = 43 then 13 else if a < 84 then 139 + (a - 44) else if a = 84 then 14 else if a = 85 then 2 else if a = 86 then 9 else if a = 87 then 10 else if a = 88 then 11 else if a = 89 then 5 else if a = 90 then 6 else if a < 411 then if (a - 91) % 8 = 0 then 19 + (a - 91) / 8 else if (a - 91) % 8 = 1 then 59 + (a - 91) / 8 else 219 + 6 * ((a - 91) / 8) + ((a - 91) % 8 - 2) else if a = 411 then 3 else if a = 412 then 15 else if a = 413 then 7 else if a = 414 then 16 else if a = 415 then 17 else if a = 416 then 18 else if a = 417 then 8 else if a < 458 then 179 + (a - 418) else 4
theorem inv_off : ∀ i, i < 459 → invC (offC i) = i := by decide +kernel
theorem off_lt : ∀ i, i < 459 → offC i < 459 := by decide +kernel
theorem YF_B (D : va_G) (b : Nat) (cI0 cJ cB cP cII : ClassId) : YB (YF D b cI0 cJ cB cP cII) := by
  refine ⟨fun i j hi hj h => ?_, rfl⟩
  have h1 : b + offC i = b + offC j := h
  have h2 : offC i = offC j := by omega
  rw [← inv_off i hi, ← inv_off j hj, h2]
theorem sh_pg (A : Nat → Nat) (cI0 cJ cB cP cII : ClassId) {p : Nat} (h : p < 40) (m : Nat → Int32) (lm : Nat → Int64) : shC A cI0 cJ cB cP cII (19 + p) m lm = .inr (2, [.int (m 0), .int (m 1), .int (m 2), .ref (A (19 + p + 40))]) := by
  rw [shC, if_neg (by omega), if_neg (by omega), if_neg (by omega), if_neg (by omega), if_neg (by omega), if_neg (by omega), if_neg (by omega), if_neg (by omega), if_neg (by omega), if_neg (by omega), if_neg (by omega), if_neg (by omega), if_neg (by omega), if_neg (by omega), if_neg (by omega), if_pos (by omega)]
theorem sh_ba (A : Nat → Nat) (cI0 cJ cB cP cII : ClassId) {p : Nat} (h : p < 40) (m : Nat → Int32) (lm : Nat → Int64) : shC A cI0 cJ cB cP cII (59 + p) m lm = .inl (cB, 6, rfs (fun j => some (A (bxI p j)))) := by
  rw [shC, if_neg (by omega), if_neg (by omega), if_neg (by omega), if_neg (by omega), if_neg (by omega), if_neg (by omega), if_neg (by omega), if_neg (by omega), if_neg (by omega), if_neg (by omega), if_neg (by omega), if_neg (by omega), if_neg (by omega), if_neg (by omega), if_neg (by omega), if_neg (by omega), if_pos (by omega)]
  rw [show 59 + p - 59 = p by omega]
theorem sh_row (A : Nat → Nat) (cI0 cJ cB cP cII : ClassId) {p : Nat} (h : p < 80) (m : Nat → Int32) (lm : Nat → Int64) : shC A cI0 cJ cB cP cII (99 + p) m lm = .inl (cI0, 27, .inl m) := by
  rw [shC, if_neg (by omega), if_neg (by omega), if_neg (by omega), if_neg (by omega), if_neg (by omega), if_neg (by omega), if_neg (by omega), if_neg (by omega), if_neg (by omega), if_neg (by omega), if_neg (by omega), if_neg (by omega), if_neg (by omega), if_neg (by omega), if_neg (by omega), if_neg (by omega), if_neg (by omega), if_pos (by omega)]
theorem sh_bx (A : Nat → Nat) (cI0 cJ cB cP cII : ClassId) {p : Nat} (h : p < 280) (m : Nat → Int32) (lm : Nat → Int64) : shC A cI0 cJ cB cP cII (179 + p) m lm = .inr (0, [.int (m 0), .int (m 1), .int (m 2), .int (m 3), .int (m 4)]) := by
  rw [shC, if_neg (by omega), if_neg (by omega), if_neg (by omega), if_neg (by omega), if_neg (by omega), if_neg (by omega), if_neg (by omega), if_neg (by omega), if_neg (by omega), if_neg (by omega), if_neg (by omega), if_neg (by omega), if_neg (by omega), if_neg (by omega), if_neg (by omega), if_neg (by omega), if_neg (by omega), if_neg (by omega)]
theorem sh_0 (A : Nat → Nat) (cI0 cJ cB cP cII : ClassId) (m : Nat → Int32) (lm : Nat → Int64) : shC A cI0 cJ cB cP cII 0 m lm = .inr (5, [.ref (A 1), .ref (A 2), .ref (A 3), .ref (A 4), .int (m 4), .int (m 5), .int (m 6)]) := rfl
theorem sh_1 (A : Nat → Nat) (cI0 cJ cB cP cII : ClassId) (m : Nat → Int32) (lm : Nat → Int64) : shC A cI0 cJ cB cP cII 1 m lm = .inr (1, [.ref (A 12), .ref (A 13), .ref (A 14), .int (m 3), .int (m 4)]) := rfl
theorem sh_2 (A : Nat → Nat) (cI0 cJ cB cP cII : ClassId) (m : Nat → Int32) (lm : Nat → Int64) : shC A cI0 cJ cB cP cII 2 m lm = .inr (4, [.int (m 0), .int (m 1), .int (m 2), .ref (A 9), .ref (A 10), .ref (A 11), .ref (A 5), .ref (A 6)]) := rfl
theorem sh_3 (A : Nat → Nat) (cI0 cJ cB cP cII : ClassId) (m : Nat → Int32) (lm : Nat → Int64) : shC A cI0 cJ cB cP cII 3 m lm = .inr (3, [.ref (A 15), .int (m 1), .ref (A 7), .long (lm 3), .ref (A 16), .ref (A 17), .int (m 6), .ref (A 18), .int (m 8), .ref (A 8)]) := rfl
theorem sh_4 (A : Nat → Nat) (cI0 cJ cB cP cII : ClassId) (m : Nat → Int32) (lm : Nat → Int64) : shC A cI0 cJ cB cP cII 4 m lm = .inr (0, [.int (m 0), .int (m 1), .int (m 2), .int (m 3), .int (m 4)]) := rfl
theorem sh_5 (A : Nat → Nat) (cI0 cJ cB cP cII : ClassId) (m : Nat → Int32) (lm : Nat → Int64) : shC A cI0 cJ cB cP cII 5 m lm = .inr (0, [.int (m 0), .int (m 1), .int (m 2), .int (m 3), .int (m 4)]) := rfl
theorem sh_6 (A : Nat → Nat) (cI0 cJ cB cP cII : ClassId) (m : Nat → Int32) (lm : Nat → Int64) : shC A cI0 cJ cB cP cII 6 m lm = .inr (0, [.int (m 0), .int (m 1), .int (m 2), .int (m 3), .int (m 4)]) := rfl
theorem sh_7 (A : Nat → Nat) (cI0 cJ cB cP cII : ClassId) (m : Nat → Int32) (lm : Nat → Int64) : shC A cI0 cJ cB cP cII 7 m lm = .inr (0, [.int (m 0), .int (m 1), .int (m 2), .int (m 3), .int (m 4)]) := rfl
theorem sh_8 (A : Nat → Nat) (cI0 cJ cB cP cII : ClassId) (m : Nat → Int32) (lm : Nat → Int64) : shC A cI0 cJ cB cP cII 8 m lm = .inr (0, [.int (m 0), .int (m 1), .int (m 2), .int (m 3), .int (m 4)]) := rfl
theorem sh_9 (A : Nat → Nat) (cI0 cJ cB cP cII : ClassId) (m : Nat → Int32) (lm : Nat → Int64) : shC A cI0 cJ cB cP cII 9 m lm = .inl (cP, 40, rfs (fun j => some (A (pgI j)))) := rfl
theorem sh_10 (A : Nat → Nat) (cI0 cJ cB cP cII : ClassId) (m : Nat → Int32) (lm : Nat → Int64) : shC A cI0 cJ cB cP cII 10 m lm = .inl (cI0, 4, .inl m) := rfl
theorem sh_11 (A : Nat → Nat) (cI0 cJ cB cP cII : ClassId) (m : Nat → Int32) (lm : Nat → Int64) : shC A cI0 cJ cB cP cII 11 m lm = .inl (cI0, 4, .inl m) := rfl
theorem sh_12 (A : Nat → Nat) (cI0 cJ cB cP cII : ClassId) (m : Nat → Int32) (lm : Nat → Int64) : shC A cI0 cJ cB cP cII 12 m lm = .inl (cII, 40, rfs (fun j => some (A (plI j)))) := rfl
theorem sh_13 (A : Nat → Nat) (cI0 cJ cB cP cII : ClassId) (m : Nat → Int32) (lm : Nat → Int64) : shC A cI0 cJ cB cP cII 13 m lm = .inl (cII, 40, rfs (fun j => some (A (lgI j)))) := rfl
theorem sh_14 (A : Nat → Nat) (cI0 cJ cB cP cII : ClassId) (m : Nat → Int32) (lm : Nat → Int64) : shC A cI0 cJ cB cP cII 14 m lm = .inl (cI0, 40, .inl m) := rfl
theorem sh_15 (A : Nat → Nat) (cI0 cJ cB cP cII : ClassId) (m : Nat → Int32) (lm : Nat → Int64) : shC A cI0 cJ cB cP cII 15 m lm = .inl (cB, 40, rfs (fun j => some (A (fdI j)))) := rfl
theorem sh_16 (A : Nat → Nat) (cI0 cJ cB cP cII : ClassId) (m : Nat → Int32) (lm : Nat → Int64) : shC A cI0 cJ cB cP cII 16 m lm = .inl (cI0, 40, .inl m) := rfl
theorem sh_17 (A : Nat → Nat) (cI0 cJ cB cP cII : ClassId) (m : Nat → Int32) (lm : Nat → Int64) : shC A cI0 cJ cB cP cII 17 m lm = .inl (cJ, 40, .inr (.inl lm)) := rfl
theorem sh_18 (A : Nat → Nat) (cI0 cJ cB cP cII : ClassId) (m : Nat → Int32) (lm : Nat → Int64) : shC A cI0 cJ cB cP cII 18 m lm = .inl (cI0, 40, .inl m) := rfl
theorem YF_sh (D : va_G) (b : Nat) (cI0 cJ cB cP cII : ClassId) : sh (YF D b cI0 cJ cB cP cII) = shC (fun i => b + offC i) cI0 cJ cB cP cII := rfl
theorem YF_n (D : va_G) (b : Nat) (cI0 cJ cB cP cII : ClassId) : yN (YF D b cI0 cJ cB cP cII) = 459 := rfl
theorem YF_ad (D : va_G) (b : Nat) (cI0 cJ cB cP cII : ClassId) (i : Nat) : ad (YF D b cI0 cJ cB cP cII) i = b + offC i := rfl
theorem YF_0 (D : va_G) (b : Nat) (cI0 cJ cB cP cII : ClassId) : isFa (YF D b cI0 cJ cB cP cII) 0 := by
  refine ⟨by rw [YF_n]; omega, fun m lm => ?_⟩
  rw [YF_sh, sh_0]
  rfl
theorem YF_1 (D : va_G) (b : Nat) (cI0 cJ cB cP cII : ClassId) : isDi (YF D b cI0 cJ cB cP cII) 1 := by
  refine ⟨by rw [YF_n]; omega, fun m lm => ?_⟩
  rw [YF_sh, sh_1]
  rfl
theorem YF_2 (D : va_G) (b : Nat) (cI0 cJ cB cP cII : ClassId) : isTr (YF D b cI0 cJ cB cP cII) 2 := by
  refine ⟨by rw [YF_n]; omega, fun m lm => ?_⟩
  rw [YF_sh, sh_2]
  rfl
theorem YF_3 (D : va_G) (b : Nat) (cI0 cJ cB cP cII : ClassId) : isSe (YF D b cI0 cJ cB cP cII) 3 := by
  refine ⟨by rw [YF_n]; omega, fun m lm => ?_⟩
  rw [YF_sh, sh_3]
  rfl
theorem YF_4 (D : va_G) (b : Nat) (cI0 cJ cB cP cII : ClassId) : isBo (YF D b cI0 cJ cB cP cII) 4 := by
  refine ⟨by rw [YF_n]; omega, fun m lm => ?_⟩
  rw [YF_sh, sh_4]
  rfl
theorem YF_5 (D : va_G) (b : Nat) (cI0 cJ cB cP cII : ClassId) : isBo (YF D b cI0 cJ cB cP cII) 5 := by
  refine ⟨by rw [YF_n]; omega, fun m lm => ?_⟩
  rw [YF_sh, sh_5]
  rfl
theorem YF_6 (D : va_G) (b : Nat) (cI0 cJ cB cP cII : ClassId) : isBo (YF D b cI0 cJ cB cP cII) 6 := by
  refine ⟨by rw [YF_n]; omega, fun m lm => ?_⟩
  rw [YF_sh, sh_6]
  rfl
theorem YF_7 (D : va_G) (b : Nat) (cI0 cJ cB cP cII : ClassId) : isBo (YF D b cI0 cJ cB cP cII) 7 := by
  refine ⟨by rw [YF_n]; omega, fun m lm => ?_⟩
  rw [YF_sh, sh_7]
  rfl
theorem YF_8 (D : va_G) (b : Nat) (cI0 cJ cB cP cII : ClassId) : isBo (YF D b cI0 cJ cB cP cII) 8 := by
  refine ⟨by rw [YF_n]; omega, fun m lm => ?_⟩
  rw [YF_sh, sh_8]
  rfl
theorem YF_9 (D : va_G) (b : Nat) (cI0 cJ cB cP cII : ClassId) : AR (YF D b cI0 cJ cB cP cII) 9 40 pgI := by
  refine ⟨by rw [YF_n]; omega, cP, 3, _, rfl, rfl, fun m lm => ?_⟩
  rw [YF_sh, sh_9]
  rfl
theorem YF_10 (D : va_G) (b : Nat) (cI0 cJ cB cP cII : ClassId) : AI (YF D b cI0 cJ cB cP cII) 10 4 := by
  refine ⟨by rw [YF_n]; omega, cI0, 0, rfl, fun m lm => ?_⟩
  rw [YF_sh, sh_10]
theorem YF_11 (D : va_G) (b : Nat) (cI0 cJ cB cP cII : ClassId) : AI (YF D b cI0 cJ cB cP cII) 11 4 := by
  refine ⟨by rw [YF_n]; omega, cI0, 0, rfl, fun m lm => ?_⟩
  rw [YF_sh, sh_11]
theorem YF_12 (D : va_G) (b : Nat) (cI0 cJ cB cP cII : ClassId) : AR (YF D b cI0 cJ cB cP cII) 12 40 plI := by
  refine ⟨by rw [YF_n]; omega, cII, 4, _, rfl, rfl, fun m lm => ?_⟩
  rw [YF_sh, sh_12]
  rfl
theorem YF_13 (D : va_G) (b : Nat) (cI0 cJ cB cP cII : ClassId) : AR (YF D b cI0 cJ cB cP cII) 13 40 lgI := by
  refine ⟨by rw [YF_n]; omega, cII, 4, _, rfl, rfl, fun m lm => ?_⟩
  rw [YF_sh, sh_13]
  rfl
theorem YF_14 (D : va_G) (b : Nat) (cI0 cJ cB cP cII : ClassId) : AI (YF D b cI0 cJ cB cP cII) 14 40 := by
  refine ⟨by rw [YF_n]; omega, cI0, 0, rfl, fun m lm => ?_⟩
  rw [YF_sh, sh_14]
theorem YF_15 (D : va_G) (b : Nat) (cI0 cJ cB cP cII : ClassId) : AR (YF D b cI0 cJ cB cP cII) 15 40 fdI := by
  refine ⟨by rw [YF_n]; omega, cB, 2, _, rfl, rfl, fun m lm => ?_⟩
  rw [YF_sh, sh_15]
  rfl
theorem YF_16 (D : va_G) (b : Nat) (cI0 cJ cB cP cII : ClassId) : AI (YF D b cI0 cJ cB cP cII) 16 40 := by
  refine ⟨by rw [YF_n]; omega, cI0, 0, rfl, fun m lm => ?_⟩
  rw [YF_sh, sh_16]
theorem YF_17 (D : va_G) (b : Nat) (cI0 cJ cB cP cII : ClassId) : AL (YF D b cI0 cJ cB cP cII) 17 40 := by
  refine ⟨by rw [YF_n]; omega, cJ, 1, rfl, fun m lm => ?_⟩
  rw [YF_sh, sh_17]
theorem YF_18 (D : va_G) (b : Nat) (cI0 cJ cB cP cII : ClassId) : AI (YF D b cI0 cJ cB cP cII) 18 40 := by
  refine ⟨by rw [YF_n]; omega, cI0, 0, rfl, fun m lm => ?_⟩
  rw [YF_sh, sh_18]
theorem YF_pg (D : va_G) (b : Nat) (cI0 cJ cB cP cII : ClassId) {p : Nat} (h : p < 40) : isPa (YF D b cI0 cJ cB cP cII) (19 + p) := by
  refine ⟨by rw [YF_n]; omega, fun m lm => ?_⟩
  rw [YF_sh, sh_pg _ _ _ _ _ _ h]
  rfl
theorem YF_ba (D : va_G) (b : Nat) (cI0 cJ cB cP cII : ClassId) {p : Nat} (h : p < 40) : AR (YF D b cI0 cJ cB cP cII) (19 + p + 40) 6 (bxI p) := by
  refine ⟨by rw [YF_n]; omega, cB, 2, _, rfl, rfl, fun m lm => ?_⟩
  rw [YF_sh, show 19 + p + 40 = 59 + p by omega, sh_ba _ _ _ _ _ _ h]
  rfl
theorem YF_row (D : va_G) (b : Nat) (cI0 cJ cB cP cII : ClassId) {p : Nat} (h : p < 80) : AI (YF D b cI0 cJ cB cP cII) (99 + p) 27 := by
  refine ⟨by rw [YF_n]; omega, cI0, 0, rfl, fun m lm => ?_⟩
  rw [YF_sh, sh_row _ _ _ _ _ _ h]
theorem YF_bx (D : va_G) (b : Nat) (cI0 cJ cB cP cII : ClassId) {p : Nat} (h : p < 280) : isBo (YF D b cI0 cJ cB cP cII) (179 + p) := by
  refine ⟨by rw [YF_n]; omega, fun m lm => ?_⟩
  rw [YF_sh, sh_bx _ _ _ _ _ _ h]
  rfl
theorem YF_W (D : va_G) (b : Nat) (cI0 cJ cB cP cII : ClassId) : YW (YF D b cI0 cJ cB cP cII) := by
  refine ⟨YF_0 D b cI0 cJ cB cP cII, YF_1 D b cI0 cJ cB cP cII, YF_2 D b cI0 cJ cB cP cII, YF_3 D b cI0 cJ cB cP cII, YF_4 D b cI0 cJ cB cP cII, YF_5 D b cI0 cJ cB cP cII, YF_6 D b cI0 cJ cB cP cII, YF_7 D b cI0 cJ cB cP cII, YF_8 D b cI0 cJ cB cP cII, YF_9 D b cI0 cJ cB cP cII, YF_10 D b cI0 cJ cB cP cII, YF_11 D b cI0 cJ cB cP cII, YF_12 D b cI0 cJ cB cP cII, YF_13 D b cI0 cJ cB cP cII, YF_14 D b cI0 cJ cB cP cII, YF_15 D b cI0 cJ cB cP cII, YF_16 D b cI0 cJ cB cP cII, YF_17 D b cI0 cJ cB cP cII, YF_18 D b cI0 cJ cB cP cII, fun p hp => ⟨hp, ?_, ?_, fun j hj => ?_⟩, fun r hr => ?_, fun r hr => ?_, fun h hh => ?_⟩
  · exact YF_pg D b cI0 cJ cB cP cII hp
  · exact YF_ba D b cI0 cJ cB cP cII hp
  · have := YF_bx D b cI0 cJ cB cP cII (p := 40 + 6 * p + j) (by omega)
    unfold bxI
    rw [show 219 + 6 * p + j = 179 + (40 + 6 * p + j) by omega]
    exact this
  · exact YF_row D b cI0 cJ cB cP cII (p := r) (by omega)
  · have := YF_row D b cI0 cJ cB cP cII (p := 40 + r) (by omega)
    unfold lgI
    rw [show 139 + r = 99 + (40 + r) by omega]
    exact this
  · exact YF_bx D b cI0 cJ cB cP cII (p := h) (by omega)
/-- cells that say the same -/
def veq (e e' : va_E) : Prop := e = e' ∨ ∃ (c : ClassId) (N : Nat) (f f' : Nat → Option Nat), e = .inl (c, N, rfs f) ∧ e' = .inl (c, N, rfs f') ∧ ∀ q, q < N → f q = f' q
theorem arr_cg (c : ClassId) (N : Nat) {f f' : Nat → Value} (h : ∀ q, q < N → f q = f' q) : arrV c N f = arrV c N f' := by
  unfold arrV
  congr 1
  congr 1
  funext j
  exact h j.val j.isLt
theorem veq_at {D : va_G} {a : Nat} {e e' : va_E} {H : Heap} (h : va_at D cls (a, e) H) (k : veq e e') : va_at D cls (a, e') H := by
  rcases k with rfl | ⟨c, N, f, f', rfl, rfl, hf⟩
  · exact h
  · show H[a]? = some (vp_cell c (N, rfs f'))
    have h1 : H[a]? = some (vp_cell c (N, rfs f)) := h
    rw [h1, vp_cell_q, vp_cell_q, arr_cg c N (fun q hq => congrArg va_rf (hf q hq))]
theorem mu_z {i : Nat} (h : i ≠ 0 ∧ i ≠ 2 ∧ i ≠ 20 ∧ i ≠ 99 ∧ i ≠ 100) : mu0.1 i = fun _ => 0 := by
  funext k
  show (if i = 0 then _ else if (i = 2 ∨ i = 20 ∨ i = 99 ∨ i = 100) ∧ k = 0 then (1 : Int32) else 0) = 0
  rw [if_neg h.1, if_neg (by omega)]
theorem mu_1 {i : Nat} (h0 : i ≠ 0) (h : i = 2 ∨ i = 20 ∨ i = 99 ∨ i = 100) (k : Nat) : mu0.1 i k = if k = 0 then 1 else 0 := by
  show (if i = 0 then _ else if (i = 2 ∨ i = 20 ∨ i = 99 ∨ i = 100) ∧ k = 0 then (1 : Int32) else 0) = _
  rw [if_neg h0]
  by_cases hk : k = 0
  · rw [if_pos ⟨h, hk⟩, if_pos hk]
  · rw [if_neg (fun q => hk q.2), if_neg hk]
theorem rA_veq {b k N : Nat} {c : ClassId} {g : Nat → va_E} {h h' : Nat → Nat} (hr : rA b g k c N N h) (he : ∀ q, q < N → h q = h' q) : veq (g k) (.inl (c, N, rfs (fun j => some (b + h' j)))) := by
  obtain ⟨f, h1, h2⟩ := hr
  exact Or.inr ⟨c, N, f, _, h1, rfl, fun q hq => by rw [h2 q hq, he q hq]⟩
/-- cell k of a new object -/
def cK (b : Nat) (cI0 cJ cB cP cII : ClassId) (g : Nat → va_E) (k : Nat) : Prop := veq (g (offC k)) (shC (fun i => b + offC i) cI0 cJ cB cP cII k (mu0.1 k) (mu0.2 k))
theorem ck_0 {b : Nat} {cI0 cJ cB cP cII : ClassId} {g : Nat → va_E} (h : faP b cI0 cJ cB cP cII g) : cK b cI0 cJ cB cP cII g 0 := by
  unfold cK
  rw [sh_0]
  exact Or.inl h.1
theorem ck_1 {b : Nat} {cI0 cJ cB cP cII : ClassId} {g : Nat → va_E} (h : faP b cI0 cJ cB cP cII g) : cK b cI0 cJ cB cP cII g 1 := by
  unfold cK
  rw [sh_1]
  obtain ⟨_, ⟨g1, h1, e1⟩, _⟩ := h
  left
  show g 1 = _
  rw [e1 1 (by omega) (by omega), h1.2.1]
  rfl
theorem ck_2 {b : Nat} {cI0 cJ cB cP cII : ClassId} {g : Nat → va_E} (h : faP b cI0 cJ cB cP cII g) : cK b cI0 cJ cB cP cII g 2 := by
  unfold cK
  rw [sh_2]
  obtain ⟨_, _, ⟨g1, h1, e1⟩, _⟩ := h
  left
  show g 85 = _
  rw [e1 85 (by omega) (by omega), h1.1.2.1]
  rfl
theorem ck_3 {b : Nat} {cI0 cJ cB cP cII : ClassId} {g : Nat → va_E} (h : faP b cI0 cJ cB cP cII g) : cK b cI0 cJ cB cP cII g 3 := by
  unfold cK
  rw [sh_3]
  obtain ⟨_, _, _, ⟨g1, h1, e1⟩, _⟩ := h
  left
  show g 411 = _
  rw [e1 411 (by omega) (by omega), h1.1.2.1]
  rfl
theorem ck_4 {b : Nat} {cI0 cJ cB cP cII : ClassId} {g : Nat → va_E} (h : faP b cI0 cJ cB cP cII g) : cK b cI0 cJ cB cP cII g 4 := by
  unfold cK
  rw [sh_4]
  left
  show g 458 = _
  rw [h.2.2.2.2]
  rfl
theorem ck_5 {b : Nat} {cI0 cJ cB cP cII : ClassId} {g : Nat → va_E} (h : faP b cI0 cJ cB cP cII g) : cK b cI0 cJ cB cP cII g 5 := by
  unfold cK
  rw [sh_5]
  obtain ⟨_, _, ⟨g1, h1, e1⟩, _⟩ := h
  left
  show g 89 = _
  rw [e1 89 (by omega) (by omega), h1.1.2.2.2.2.1]
  rfl
theorem ck_6 {b : Nat} {cI0 cJ cB cP cII : ClassId} {g : Nat → va_E} (h : faP b cI0 cJ cB cP cII g) : cK b cI0 cJ cB cP cII g 6 := by
  unfold cK
  rw [sh_6]
  obtain ⟨_, _, ⟨g1, h1, e1⟩, _⟩ := h
  left
  show g 90 = _
  rw [e1 90 (by omega) (by omega), h1.1.2.2.2.2.2]
  rfl
theorem ck_7 {b : Nat} {cI0 cJ cB cP cII : ClassId} {g : Nat → va_E} (h : faP b cI0 cJ cB cP cII g) : cK b cI0 cJ cB cP cII g 7 := by
  unfold cK
  rw [sh_7]
  obtain ⟨_, _, _, ⟨g1, h1, e1⟩, _⟩ := h
  left
  show g 413 = _
  rw [e1 413 (by omega) (by omega), h1.1.2.2.1]
  rfl
theorem ck_8 {b : Nat} {cI0 cJ cB cP cII : ClassId} {g : Nat → va_E} (h : faP b cI0 cJ cB cP cII g) : cK b cI0 cJ cB cP cII g 8 := by
  unfold cK
  rw [sh_8]
  obtain ⟨_, _, _, ⟨g1, h1, e1⟩, _⟩ := h
  left
  show g 417 = _
  rw [e1 417 (by omega) (by omega), h1.1.2.2.2.2.2.2]
  rfl
theorem ck_9 {b : Nat} {cI0 cJ cB cP cII : ClassId} {g : Nat → va_E} (h : faP b cI0 cJ cB cP cII g) : cK b cI0 cJ cB cP cII g 9 := by
  unfold cK
  rw [sh_9]
  obtain ⟨_, _, ⟨g1, h1, e1⟩, _⟩ := h
  refine rA_veq (k := 86) (rA_eq (h1.2.1) (e1 86 (by omega) (by omega))) (fun q hq => ?_)
  show 86 + 5 + 8 * q = offC (pgI q)
  rw [of_pg hq]
  all_goals omega
theorem ck_10 {b : Nat} {cI0 cJ cB cP cII : ClassId} {g : Nat → va_E} (h : faP b cI0 cJ cB cP cII g) : cK b cI0 cJ cB cP cII g 10 := by
  unfold cK
  rw [sh_10]
  obtain ⟨_, _, ⟨g1, h1, e1⟩, _⟩ := h
  left
  show g 87 = _
  rw [e1 87 (by omega) (by omega), h1.1.2.2.1, mu_z (by decide)]
theorem ck_11 {b : Nat} {cI0 cJ cB cP cII : ClassId} {g : Nat → va_E} (h : faP b cI0 cJ cB cP cII g) : cK b cI0 cJ cB cP cII g 11 := by
  unfold cK
  rw [sh_11]
  obtain ⟨_, _, ⟨g1, h1, e1⟩, _⟩ := h
  left
  show g 88 = _
  rw [e1 88 (by omega) (by omega), h1.1.2.2.2.1, mu_z (by decide)]
theorem ck_12 {b : Nat} {cI0 cJ cB cP cII : ClassId} {g : Nat → va_E} (h : faP b cI0 cJ cB cP cII g) : cK b cI0 cJ cB cP cII g 12 := by
  unfold cK
  rw [sh_12]
  obtain ⟨_, ⟨g1, h1, e1⟩, _⟩ := h
  refine rA_veq (k := 2) (rA_eq (h1.2.2.1) (e1 2 (by omega) (by omega))) (fun q hq => ?_)
  show 2 + 1 + q = offC (plI q)
  rw [of_pl hq]
  all_goals omega
theorem ck_13 {b : Nat} {cI0 cJ cB cP cII : ClassId} {g : Nat → va_E} (h : faP b cI0 cJ cB cP cII g) : cK b cI0 cJ cB cP cII g 13 := by
  unfold cK
  rw [sh_13]
  obtain ⟨_, ⟨g1, h1, e1⟩, _⟩ := h
  refine rA_veq (k := 43) (rA_eq (h1.2.2.2.1) (e1 43 (by omega) (by omega))) (fun q hq => ?_)
  show 2 + 42 + q = offC (lgI q)
  rw [of_lg hq]
  all_goals omega
theorem ck_14 {b : Nat} {cI0 cJ cB cP cII : ClassId} {g : Nat → va_E} (h : faP b cI0 cJ cB cP cII g) : cK b cI0 cJ cB cP cII g 14 := by
  unfold cK
  rw [sh_14]
  obtain ⟨_, ⟨g1, h1, e1⟩, _⟩ := h
  left
  show g 84 = _
  rw [e1 84 (by omega) (by omega), h1.2.2.2.2.2.2, mu_z (by decide)]
theorem ck_15 {b : Nat} {cI0 cJ cB cP cII : ClassId} {g : Nat → va_E} (h : faP b cI0 cJ cB cP cII g) : cK b cI0 cJ cB cP cII g 15 := by
  unfold cK
  rw [sh_15]
  obtain ⟨_, _, _, ⟨g1, h1, e1⟩, _⟩ := h
  refine rA_veq (k := 412) (rA_eq (h1.2.1) (e1 412 (by omega) (by omega))) (fun q hq => ?_)
  show 412 + 6 + q = offC (fdI q)
  rw [of_fd hq]
  all_goals omega
theorem ck_16 {b : Nat} {cI0 cJ cB cP cII : ClassId} {g : Nat → va_E} (h : faP b cI0 cJ cB cP cII g) : cK b cI0 cJ cB cP cII g 16 := by
  unfold cK
  rw [sh_16]
  obtain ⟨_, _, _, ⟨g1, h1, e1⟩, _⟩ := h
  left
  show g 414 = _
  rw [e1 414 (by omega) (by omega), h1.1.2.2.2.1, mu_z (by decide)]
theorem ck_17 {b : Nat} {cI0 cJ cB cP cII : ClassId} {g : Nat → va_E} (h : faP b cI0 cJ cB cP cII g) : cK b cI0 cJ cB cP cII g 17 := by
  unfold cK
  rw [sh_17]
  obtain ⟨_, _, _, ⟨g1, h1, e1⟩, _⟩ := h
  left
  show g 415 = _
  rw [e1 415 (by omega) (by omega), h1.1.2.2.2.2.1]
  rfl
theorem ck_18 {b : Nat} {cI0 cJ cB cP cII : ClassId} {g : Nat → va_E} (h : faP b cI0 cJ cB cP cII g) : cK b cI0 cJ cB cP cII g 18 := by
  unfold cK
  rw [sh_18]
  obtain ⟨_, _, _, ⟨g1, h1, e1⟩, _⟩ := h
  left
  show g 416 = _
  rw [e1 416 (by omega) (by omega), h1.1.2.2.2.2.2.1, mu_z (by decide)]
theorem ck_pg {b : Nat} {cI0 cJ cB cP cII : ClassId} {g : Nat → va_E} (h : faP b cI0 cJ cB cP cII g) {p : Nat} (hp : p < 40) : cK b cI0 cJ cB cP cII g (19 + p) := by
  unfold cK
  obtain ⟨_, _, ⟨g1, h1, e1⟩, _⟩ := h
  rw [sh_pg _ _ _ _ _ _ hp, show offC (19 + p) = 91 + 8 * p from of_pg hp, e1 _ (by omega) (by omega), show 91 + 8 * p = 86 + 5 + 8 * p by omega, (h1.2.2 p hp).1]
  left
  have e2 : b + offC (19 + p + 40) = b + (86 + 5 + 8 * p + 1) := by
    rw [show offC (19 + p + 40) = 92 + 8 * p from of_ba hp]
    omega
  try dsimp only
  rw [e2]
  by_cases h1p : p = 1
  · subst h1p
    rfl
  · rw [if_neg h1p, mu_z (by omega)]
theorem ck_ba {b : Nat} {cI0 cJ cB cP cII : ClassId} {g : Nat → va_E} (h : faP b cI0 cJ cB cP cII g) {p : Nat} (hp : p < 40) : cK b cI0 cJ cB cP cII g (59 + p) := by
  unfold cK
  obtain ⟨_, _, ⟨g1, h1, e1⟩, _⟩ := h
  rw [sh_ba _ _ _ _ _ _ hp, show offC (59 + p) = 92 + 8 * p from (by rw [← of_ba hp]; congr 1; unfold pgI; omega)]
  refine rA_veq (k := 92 + 8 * p) (h := fun q => 86 + 5 + 8 * p + 1 + 1 + q) ?_ (fun q hq => ?_)
  · refine rA_eq (g := g1) ?_ (e1 _ (by omega) (by omega))
    rw [show 92 + 8 * p = 86 + 5 + 8 * p + 1 by omega]
    exact (h1.2.2 p hp).2.1
  · show 86 + 5 + 8 * p + 1 + 1 + q = offC (bxI p q)
    rw [of_bx hp hq]
    omega
theorem ck_pl {b : Nat} {cI0 cJ cB cP cII : ClassId} {g : Nat → va_E} (h : faP b cI0 cJ cB cP cII g) {p : Nat} (hp : p < 40) : cK b cI0 cJ cB cP cII g (99 + p) := by
  unfold cK
  obtain ⟨_, ⟨g1, h1, e1⟩, _⟩ := h
  rw [sh_row _ _ _ _ _ _ (show p < 80 by omega), show offC (99 + p) = 3 + p from of_pl hp, e1 _ (by omega) (by omega), show 3 + p = 2 + 1 + p by omega]
  obtain ⟨f, f1, f2⟩ := h1.2.2.2.2.1 p hp
  left
  rw [f1]
  congr 4
  funext c
  rw [f2 c]
  by_cases h2 : p < 2
  · rw [mu_1 (by omega) (by omega)]
    by_cases hc : c = 0
    · rw [if_pos ⟨h2, hc⟩, if_pos hc]
    · rw [if_neg (fun q => hc q.2), if_neg hc]
  · rw [if_neg (fun q => h2 q.1), mu_z (by omega)]
theorem ck_lg {b : Nat} {cI0 cJ cB cP cII : ClassId} {g : Nat → va_E} (h : faP b cI0 cJ cB cP cII g) {p : Nat} (hp : p < 40) : cK b cI0 cJ cB cP cII g (139 + p) := by
  unfold cK
  obtain ⟨_, ⟨g1, h1, e1⟩, _⟩ := h
  rw [show 139 + p = 99 + (40 + p) by omega, sh_row _ _ _ _ _ _ (show 40 + p < 80 by omega), show offC (99 + (40 + p)) = 44 + p from (by rw [← of_lg hp]; congr 1; unfold lgI; omega), e1 _ (by omega) (by omega), show 44 + p = 2 + 42 + p by omega, h1.2.2.2.2.2.1 p hp, mu_z (by omega)]
  left
  rfl
theorem ck_fd {b : Nat} {cI0 cJ cB cP cII : ClassId} {g : Nat → va_E} (h : faP b cI0 cJ cB cP cII g) {p : Nat} (hp : p < 40) : cK b cI0 cJ cB cP cII g (179 + p) := by
  unfold cK
  obtain ⟨_, _, _, ⟨g1, h1, e1⟩, _⟩ := h
  rw [sh_bx _ _ _ _ _ _ (show p < 280 by omega), show offC (179 + p) = 418 + p from of_fd hp, e1 _ (by omega) (by omega), show 418 + p = 412 + 6 + p by omega, h1.2.2 p hp, mu_z (by omega)]
  left
  rfl
theorem ck_bx {b : Nat} {cI0 cJ cB cP cII : ClassId} {g : Nat → va_E} (h : faP b cI0 cJ cB cP cII g) {p j : Nat} (hp : p < 40) (hj : j < 6) : cK b cI0 cJ cB cP cII g (219 + 6 * p + j) := by
  unfold cK
  obtain ⟨_, _, ⟨g1, h1, e1⟩, _⟩ := h
  rw [show 219 + 6 * p + j = 179 + (40 + 6 * p + j) by omega, sh_bx _ _ _ _ _ _ (show 40 + 6 * p + j < 280 by omega), show offC (179 + (40 + 6 * p + j)) = 93 + 8 * p + j from (by rw [← of_bx hp hj]; congr 1; unfold bxI; omega), e1 _ (by omega) (by omega), show 93 + 8 * p + j = 86 + 5 + 8 * p + 1 + 1 + j by omega, (h1.2.2 p hp).2.2 j hj, mu_z (by omega)]
  left
  rfl
theorem ck_all {b : Nat} {cI0 cJ cB cP cII : ClassId} {g : Nat → va_E} (h : faP b cI0 cJ cB cP cII g) {k : Nat} (hk : k < 459) : cK b cI0 cJ cB cP cII g k := by
  by_cases h19 : k < 19
  · rcases (show k = 0 ∨ k = 1 ∨ k = 2 ∨ k = 3 ∨ k = 4 ∨ k = 5 ∨ k = 6 ∨ k = 7 ∨ k = 8 ∨ k = 9 ∨ k = 10 ∨ k = 11 ∨ k = 12 ∨ k = 13 ∨ k = 14 ∨ k = 15 ∨ k = 16 ∨ k = 17 ∨ k = 18 by omega) with rfl | rfl | rfl | rfl | rfl | rfl | rfl | rfl | rfl | rfl | rfl | rfl | rfl | rfl | rfl | rfl | rfl | rfl | rfl
    · exact ck_0 h
    · exact ck_1 h
    · exact ck_2 h
    · exact ck_3 h
    · exact ck_4 h
    · exact ck_5 h
    · exact ck_6 h
    · exact ck_7 h
    · exact ck_8 h
    · exact ck_9 h
    · exact ck_10 h
    · exact ck_11 h
    · exact ck_12 h
    · exact ck_13 h
    · exact ck_14 h
    · exact ck_15 h
    · exact ck_16 h
    · exact ck_17 h
    · exact ck_18 h
  · by_cases h59 : k < 59
    · rw [show k = 19 + (k - 19) by omega]
      exact ck_pg h (by omega)
    · by_cases h99 : k < 99
      · rw [show k = 59 + (k - 59) by omega]
        exact ck_ba h (by omega)
      · by_cases h139 : k < 139
        · rw [show k = 99 + (k - 99) by omega]
          exact ck_pl h (by omega)
        · by_cases h179 : k < 179
          · rw [show k = 139 + (k - 139) by omega]
            exact ck_lg h (by omega)
          · by_cases h219 : k < 219
            · rw [show k = 179 + (k - 179) by omega]
              exact ck_fd h (by omega)
            · rw [show k = 219 + 6 * ((k - 219) / 6) + (k - 219) % 6 by omega]
              exact ck_bx h (by omega) (by omega)
theorem fa_w {D : va_G} {b : Nat} {cI0 cJ cB cP cII : ClassId} {g : Nat → va_E} {H : Heap} (hI : ∀ i, i < 459 → va_at D cls (b + i, g i) H) (h : faP b cI0 cJ cB cP cII g) : yI (YF D b cI0 cJ cB cP cII) mu0 H := by
  intro k q hk
  obtain ⟨h1, rfl⟩ := yW_in hk
  have h1 : k < 459 := h1
  exact veq_at (hI _ (off_lt k h1)) (ck_all h h1)
/-- the reference's world -/
def shM (b : Nat) (cI0 : ClassId) (i : Nat) (m : Nat → Int32) (_ : Nat → Int64) : va_E := if i = 0 then .inr (6, [.int (m 0), .int (m 1), .int (m 2), .ref (b + 1)]) else .inl (cI0, 205, .inl m)
def YR (D : va_G) (b : Nat) (cI0 cJ cB cP cII : ClassId) : Yt := (D, cls, TY cI0 cJ cB cP cII, fun i => b + i, 2, shM b cI0)
def rho0 : Mu := (fun i k => if i = 0 then (if k = 0 then 1 else if k = 1 then -1 else 0) else 0, fun _ _ => 0)
theorem YR_B (D : va_G) (b : Nat) (cI0 cJ cB cP cII : ClassId) : YB (YR D b cI0 cJ cB cP cII) := by
  refine ⟨fun i j hi hj h => ?_, rfl⟩
  have h1 : b + i = b + j := h
  omega
theorem YR_M (D : va_G) (b : Nat) (cI0 cJ cB cP cII : ClassId) : YM (YR D b cI0 cJ cB cP cII) := ⟨⟨by show 0 < 2; omega, fun m lm => rfl⟩, ⟨by show 1 < 2; omega, cI0, 0, rfl, fun m lm => rfl⟩⟩
theorem mo_w {D : va_G} {b : Nat} {cI0 cJ cB cP cII : ClassId} {H : Heap} (h0 : va_at D cls (b, .inr (6, [.int 1, .int (-1), .int 0, .ref (b + 1)])) H) (h1 : va_at D cls (b + 1, .inl (cI0, 205, .inl (fun _ => 0))) H) : yI (YR D b cI0 cJ cB cP cII) rho0 H := by
  intro k q hk
  obtain ⟨hk2, rfl⟩ := yW_in hk
  have hk3 : k < 2 := hk2
  rcases (show k = 0 ∨ k = 1 by omega) with rfl | rfl
  · exact h0
  · exact h1
/-- how they begin -/
def sg0 : Sg := fun q => if q = 1 then (1, []) else (0, [])
theorem sg0_1 : sg0 1 = (1, []) := rfl
theorem sg0_n {q : Nat} (h : q ≠ 1) : sg0 q = (0, []) := if_neg h
theorem sg0_2 (q : Nat) : (sg0 q).2 = [] := by
  unfold sg0
  split <;> rfl
theorem sg0_l (q : Nat) (i : Nat) (hi : i ≠ 0 ∧ i ≠ 2) (h : q = 1 → i = 20 ∨ i = 100) (h2 : q ≠ 1 → i ≠ 20 ∧ i ≠ 99 ∧ i ≠ 100) : mu0.1 i 0 = nI (sg0 q).1 ∧ mu0.1 i 1 = nI (sg0 q).2.length ∧ ∀ k, k ≠ 0 → mu0.1 i k = 0 := by
  by_cases hq : q = 1
  · have h3 := h hq
    subst hq
    refine ⟨?_, ?_, fun k hk => ?_⟩
    · rw [mu_1 hi.1 (by omega), if_pos rfl]
      rfl
    · rw [mu_1 hi.1 (by omega), if_neg (by omega)]
      rfl
    · rw [mu_1 hi.1 (by omega), if_neg hk]
  · have h3 := h2 hq
    rw [sg0_n hq, mu_z (by omega)]
    exact ⟨nI_0.symm, nI_0.symm, fun _ _ => rfl⟩
theorem sm0 : SimE mu0 rho0 := by
  refine ⟨[], List.Pairwise.nil, ⟨rfl, fun k t ht => by simp at ht⟩, rfl, rfl, Or.inl rfl, rfl, Or.inl ⟨rfl, sg0, 1, 1, fun q h1 h2 => ?_, fun q hq => ?_, ⟨by omega, ?_, ⟨?_, fun q h1 h2 => ?_⟩, List.Perm.refl _⟩, by simp, rfl, rfl, fun q hq => ?_, rfl, rfl⟩⟩
  · have h := sg0_l q (pgI q) (by unfold pgI; omega) (fun h => by unfold pgI; omega) (fun h => by unfold pgI; omega)
    refine ⟨⟨h.1, h.2.1, ⟨?_, fun _ => sg0_2 q⟩, by rw [sg0_2]; simp, fun j t ht => by rw [sg0_2] at ht; simp at ht⟩, ?_, fun _ => rfl⟩
    · by_cases hq : q = 1
      · subst hq
        show 1 ≤ 5
        omega
      · rw [sg0_n hq]
        show 0 ≤ 5
        omega
    · rw [h.2.2 2 (by omega)]
      exact tB0
  · unfold chg
    by_cases hq0 : q = 0
    · rw [if_pos hq0]
      rfl
    · rw [if_neg hq0]
      exact (sg0_l q (pgI q) (by unfold pgI; omega) (fun h => by unfold pgI; omega) (fun h => by unfold pgI; omega)).2.2 2 (by omega)
  · rw [if_pos rfl, wf_1]
    refine ⟨by omega, by omega, rfl, Nat.zero_le _, ?_, fun b hb => ?_⟩
    · show 0 ≤ 5
      omega
    · rw [sg0_2] at hb
      cases hb
  · show [1].Nodup
    simp
  · show q ∈ [1] ↔ _
    by_cases hq : q = 1
    · subst hq
      rw [sg0_1]
      simp
    · rw [sg0_n hq]
      simp [hq]
  · show enQ sg0 1 0 q _
    unfold enQ
    by_cases hq0 : q = 0
    · rw [if_pos hq0]
      subst hq0
      exact ⟨rfl, rfl⟩
    · rw [if_neg hq0]
      have h := sg0_l q (plI q) (by unfold plI; omega) (fun h => by unfold plI; omega) (fun h => by unfold plI; omega)
      refine ⟨h.1, h.2.1, ⟨?_, fun _ => sg0_2 q⟩, by rw [sg0_2]; simp, fun j t ht => by rw [sg0_2] at ht; simp at ht⟩
      by_cases hq : q = 1
      · subst hq
        show 1 ≤ 5
        omega
      · rw [sg0_n hq]
        show 0 ≤ 5
        omega
