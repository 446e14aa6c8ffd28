/-! NEARNESS. -/
def oI (x lo hi : Int) : Int := if x < lo then lo - x else if hi < x then x - hi else 0
def sI (t : T5) (x y : Int32) : Int := oI x.toInt t.1.toInt t.2.2.1.toInt * oI x.toInt t.1.toInt t.2.2.1.toInt + oI y.toInt t.2.1.toInt t.2.2.2.1.toInt * oI y.toInt t.2.1.toInt t.2.2.2.1.toInt
theorem oI_b {x lo hi : Int} (h1 : -1000000000 ≤ x) (h2 : x ≤ 1000000000) (h3 : -1000000000 ≤ lo) (h4 : lo ≤ 1000000000) (h5 : -1000000000 ≤ hi) (h6 : hi ≤ 1000000000) : 0 ≤ oI x lo hi ∧ oI x lo hi ≤ 2000000000 := by
  unfold oI
  repeat' split
  all_goals omega
theorem off_I {x lo hi : Int32} : (offB x lo hi).toInt = oI x.toInt lo.toInt hi.toInt := by
  unfold offB oI
  simp only [Int32.lt_iff_toInt_lt]
  split
  · exact i64_sub
  · split
    · exact i64_sub
    · rfl
theorem sq_I {t : T5} {x y : Int32} (h : co4 (b4 t)) (hx : isCo x = true) (hy : isCo y = true) : (sqT t x y).toInt = sI t x y ∧ 0 ≤ sI t x y ∧ sI t x y ≤ 8000000000000000000 := by
  rw [isCo_iff] at hx hy
  obtain ⟨c1, c2, c3, c4, c5, c6, c7, c8⟩ := h
  have o1 := oI_b hx.1 hx.2 c1 c2 c5 c6
  have o2 := oI_b hy.1 hy.2 c3 c4 c7 c8
  have m1 := mul_b (A := 2000000000) (by omega) o1.2 (by omega) o1.2
  have m2 := mul_b (A := 2000000000) (by omega) o2.2 (by omega) o2.2
  have n1 := Int.mul_nonneg o1.1 o1.1
  have n2 := Int.mul_nonneg o2.1 o2.1
  have e : (sqT t x y).toInt = ((oI x.toInt t.1.toInt t.2.2.1.toInt * oI x.toInt t.1.toInt t.2.2.1.toInt).bmod (2 ^ 64) + (oI y.toInt t.2.1.toInt t.2.2.2.1.toInt * oI y.toInt t.2.1.toInt t.2.2.2.1.toInt).bmod (2 ^ 64)).bmod (2 ^ 64) := by
    show (offB x t.1 t.2.2.1 * offB x t.1 t.2.2.1 + offB y t.2.1 t.2.2.2.1 * offB y t.2.1 t.2.2.2.1).toInt = _
    rw [Int64.toInt_add, Int64.toInt_mul, Int64.toInt_mul, off_I, off_I]
  have key : ∀ A B : Int, 0 ≤ A → A ≤ 2000000000 * 2000000000 → 0 ≤ B → B ≤ 2000000000 * 2000000000 → (A.bmod (2 ^ 64) + B.bmod (2 ^ 64)).bmod (2 ^ 64) = A + B ∧ 0 ≤ A + B ∧ A + B ≤ 8000000000000000000 := by
    intro A B h1 h2 h3 h4
    rw [bm64 (n := A) (by omega) (by omega), bm64 (n := B) (by omega) (by omega), bm64 (n := A + B) (by omega) (by omega)]
    omega
  rw [e]
  exact key _ _ n1 m1.2 n2 m2.2
theorem oI_mono {x A B a b : Int} (h1 : A ≤ a) (h2 : b ≤ B) (h3 : a ≤ b) : 0 ≤ oI x A B ∧ oI x A B ≤ oI x a b := by
  unfold oI
  repeat' split
  all_goals omega
theorem sI_mono {A t : T5} {x y : Int32} (h : inn (b4 A) (b4 t)) (hr : re4 (b4 t)) : sI A x y ≤ sI t x y := by
  obtain ⟨h1, h2, h3, h4⟩ := h
  simp only [b4, Int32.le_iff_toInt_le] at h1 h2 h3 h4
  obtain ⟨_, h5, h6⟩ := hr
  simp only [b4] at h5 h6
  have m1 := oI_mono (x := x.toInt) h1 h3 h5
  have m2 := oI_mono (x := y.toInt) h2 h4 h6
  unfold sI
  exact Int.add_le_add (Int.mul_le_mul m1.2 m1.2 m1.1 (by omega)) (Int.mul_le_mul m2.2 m2.2 m2.1 (by omega))
def mxL : Int64 := 9223372036854775807
theorem mx_I : mxL.toInt = 9223372036854775807 := by decide +kernel
/-- the best of those seen -/
def bs (S : List T5) (x y : Int32) (c : T5) (ls : Int64) : Prop := (S = [] ∧ ls = mxL) ∨ (c ∈ S ∧ ls.toInt = sI c x y ∧ ∀ t ∈ S, sI c x y < sI t x y ∨ (sI c x y = sI t x y ∧ leT c t))
theorem bs_step {S : List T5} {x y : Int32} {c b : T5} {ls : Int64} (h : bs S x y c ls) (hb : co4 (b4 b)) (hx : isCo x = true) (hy : isCo y = true) : bs (b :: S) x y (if sqT b x y < ls ∨ (sqT b x y = ls ∧ prT b c = true) then b else c) (if sqT b x y < ls ∨ (sqT b x y = ls ∧ prT b c = true) then sqT b x y else ls) := by
  have hq := sq_I hb hx hy
  have hself : sI b x y < sI b x y ∨ (sI b x y = sI b x y ∧ leT b b) := Or.inr ⟨rfl, le_rf b⟩
  by_cases hc : sqT b x y < ls ∨ (sqT b x y = ls ∧ prT b c = true)
  · rw [if_pos hc, if_pos hc]
    refine Or.inr ⟨List.mem_cons_self, hq.1, fun t ht => ?_⟩
    rcases List.mem_cons.mp ht with rfl | ht
    · exact hself
    · rcases h with ⟨h1, _⟩ | ⟨h1, h2, h3⟩
      · rw [h1] at ht
        cases ht
      · rw [Int64.lt_iff_toInt_lt, ← Int64.toInt_inj, hq.1, h2] at hc
        rcases hc with hc | ⟨hc, hp⟩
        · rcases h3 t ht with h4 | ⟨h4, _⟩
          · exact Or.inl (by omega)
          · exact Or.inl (by omega)
        · rcases h3 t ht with h4 | ⟨h4, h5⟩
          · exact Or.inl (by omega)
          · exact Or.inr ⟨by omega, le_tr (le_of_pr hp) h5⟩
  · rw [if_neg hc, if_neg hc]
    rcases h with ⟨_, h2⟩ | ⟨h1, h2, h3⟩
    · refine absurd (Or.inl ?_) hc
      rw [h2, Int64.lt_iff_toInt_lt, mx_I, hq.1]
      omega
    · refine Or.inr ⟨List.mem_cons_of_mem _ h1, h2, fun t ht => ?_⟩
      rcases List.mem_cons.mp ht with rfl | ht
      · by_cases hlt : sI c x y < sI t x y
        · exact Or.inl hlt
        · right
          rw [Int64.lt_iff_toInt_lt, ← Int64.toInt_inj, hq.1, h2] at hc
          have e : sI t x y = sI c x y := by
            by_cases h5 : sI t x y < sI c x y
            · exact absurd (Or.inl h5) hc
            · omega
          refine ⟨e.symm, ?_⟩
          exact Bool.eq_false_iff.mpr (fun hp => hc (Or.inr ⟨e, hp⟩))
      · exact h3 t ht
theorem bs_le {x y : Int32} {c b : T5} {ls : Int64} {z : Int} (hb : co4 (b4 b)) (hx : isCo x = true) (hy : isCo y = true) (h1 : z ≤ ls.toInt) (h2 : z ≤ sI b x y) : z ≤ (if sqT b x y < ls ∨ (sqT b x y = ls ∧ prT b c = true) then sqT b x y else ls).toInt := by
  split
  · rw [(sq_I hb hx hy).1]
    exact h2
  · exact h1
/-- the memory's step -/
theorem kc_ok (ν : Mu) (e : Nat) (x y : Int32) (he : e ≠ 7) : tp ((kcM ν e (sqB (ν.1 e) x y)).1 7) = (if sqT (tp (ν.1 e)) x y < ν.2 3 3 ∨ (sqT (tp (ν.1 e)) x y = ν.2 3 3 ∧ prT (tp (ν.1 e)) (tp (ν.1 7)) = true) then tp (ν.1 e) else tp (ν.1 7)) ∧ (kcM ν e (sqB (ν.1 e) x y)).2 3 3 = (if sqT (tp (ν.1 e)) x y < ν.2 3 3 ∨ (sqT (tp (ν.1 e)) x y = ν.2 3 3 ∧ prT (tp (ν.1 e)) (tp (ν.1 7)) = true) then sqT (tp (ν.1 e)) x y else ν.2 3 3) ∧ (∀ i, i ≠ 7 → (kcM ν e (sqB (ν.1 e) x y)).1 i = ν.1 i) ∧ ∀ i, i ≠ 3 → (kcM ν e (sqB (ν.1 e) x y)).2 i = ν.2 i := by
  rw [sq_tp]
  unfold kcM
  rw [pr_tp]
  by_cases hc : sqT (tp (ν.1 e)) x y < ν.2 3 3 ∨ (sqT (tp (ν.1 e)) x y = ν.2 3 3 ∧ prT (tp (ν.1 e)) (tp (ν.1 7)) = true)
  · simp only [if_pos hc]
    refine ⟨bec_s ν 7 e, ?_, fun i hi => bec_n ν e hi, fun i hi => wl_ne _ _ _ hi⟩
    rw [wl_at, if_pos ⟨rfl, rfl⟩]
  · simp only [if_neg hc]
    exact ⟨trivial, trivial, fun _ _ => trivial, fun _ _ => trivial⟩
