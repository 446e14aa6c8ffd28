/-! THE LAW'S CASES. -/
theorem SimE.t4 {μ ρ : Mu} (h : SimE μ ρ) : tB (μ.1 0 4) := by
  obtain ⟨L, hS⟩ := h
  exact hS.tb
theorem SimE.e0 {μ ρ : Mu} (h : SimE μ ρ) : ρ.1 0 0 = μ.1 0 4 := by
  obtain ⟨L, hS⟩ := h
  exact hS.2.2.1
theorem SimE.t0 {μ ρ : Mu} (h : SimE μ ρ) : tB (ρ.1 0 0) := by
  rw [h.e0]
  exact h.t4
theorem SimE.e5 {μ ρ : Mu} (h : SimE μ ρ) : μ.1 0 5 = 1 := by
  obtain ⟨L, hS⟩ := h
  exact hS.2.2.2.2.2.1
theorem SimE.t5 {μ ρ : Mu} (h : SimE μ ρ) : tB (μ.1 0 5) := by
  rw [h.e5]
  exact tB1

set_option maxHeartbeats 4000000 in
set_option maxRecDepth 100000 in
theorem lc_insert {X : Xt} {l : Launch} {D : va_G} {cI0 cJ cB cP cII : ClassId} {bs L : Nat} {xs : Nat → Int32} {cells slots : Nat} {Q : State → Prop} {μ ρ : Mu} (C : LX X l D cI0 cJ cB cP cII bs L xs) (hcs : cells ≤ room_1.cells ∧ slots ≤ room_1.slots) {i : Nat} (hi : i + 6 ≤ L) (hs : SimE μ ρ) (kk : ∀ μ' ρ', SimE μ' ρ' → VG X (cA_ (xS X).heap.size) 4 cells slots Q (I2 D (xS X).heap.size cI0 cJ cB cP cII μ' ρ') 651 [some (.ref bs), some (.ref ((xS X).heap.size + 0)), some (.ref ((xS X).heap.size + 459)), some (.int (nI i))] []) : VG X (cA_ (xS X).heap.size) 4 cells slots Q (I2 D (xS X).heap.size cI0 cJ cB cP cII μ ρ) 112 [some (.ref bs), some (.ref ((xS X).heap.size + 0)), some (.ref ((xS X).heap.size + 459)), some (.int (nI i))] [] := by
  have hB := C.B
  obtain ⟨m, hm, hm40⟩ := hs.mm
  refine v_aload_n hB dLa_law_112 rfl ?_
  refine v_aload_n hB dLa_law_113 rfl ?_
  refine v_iload_n hB dLa_law_114 rfl ?_
  refine v_iconst hB dLa_law_115 (v := 1) (by decide) ?_
  refine v_iadd hB dLa_law_116 ?_
  refine l_s C (i + 1) (nI_1 i) (by omega) dLa_law_117 ?_
  refine v_aload_n hB dLa_law_118 rfl ?_
  refine v_iload_n hB dLa_law_119 rfl ?_
  refine v_iconst hB dLa_law_120 (v := 2) (by decide) ?_
  refine v_iadd hB dLa_law_121 ?_
  refine l_s C (i + 2) (nI_2 i) (by omega) dLa_law_122 ?_
  refine v_aload_n hB dLa_law_123 rfl ?_
  refine v_iload_n hB dLa_law_124 rfl ?_
  refine v_iconst hB dLa_law_125 (v := 3) (by decide) ?_
  refine v_iadd hB dLa_law_126 ?_
  refine l_s C (i + 3) (nI_3 i) (by omega) dLa_law_127 ?_
  refine v_aload_n hB dLa_law_128 rfl ?_
  refine v_iload_n hB dLa_law_129 rfl ?_
  refine v_iconst hB dLa_law_130 (v := 4) (by decide) ?_
  refine v_iadd hB dLa_law_131 ?_
  refine l_s C (i + 4) (nI_4 i) (by omega) dLa_law_132 ?_
  refine v_aload_n hB dLa_law_133 rfl ?_
  refine v_iload_n hB dLa_law_134 rfl ?_
  refine v_iconst hB dLa_law_135 (v := 5) (by decide) ?_
  refine v_iadd hB dLa_law_136 ?_
  refine l_s C (i + 5) (nI_5 i) (by omega) dLa_law_137 ?_
  refine l_cx C kmLa_13 kiFa_insert ksFa_insert dLa_law_138 rfl (cFa_insert (YF_B D _ cI0 cJ cB cP cII) (YF_W D _ cI0 cJ cB cP cII) _ _ _ _ _ (s_in hs hm hm40 _ _ _ _ _)) rfl rfl ⟨Nat.le_of_ble_eq_true rfl, Nat.le_of_ble_eq_true rfl⟩ rfl rfl (Nat.le_of_ble_eq_true rfl) hcs (fun r μ' hP => ?_)
  obtain ⟨x, rfl, rfl, hs2⟩ := hP
  refine v_st (st' := [_]) rfl ?_
  refine v_aload_n hB dLa_law_141 rfl ?_
  refine v_aload_n hB dLa_law_142 rfl ?_
  refine v_iload_n hB dLa_law_143 rfl ?_
  refine v_iconst hB dLa_law_144 (v := 1) (by decide) ?_
  refine v_iadd hB dLa_law_145 ?_
  refine l_s C (i + 1) (nI_1 i) (by omega) dLa_law_146 ?_
  refine v_aload_n hB dLa_law_147 rfl ?_
  refine v_iload_n hB dLa_law_148 rfl ?_
  refine v_iconst hB dLa_law_149 (v := 2) (by decide) ?_
  refine v_iadd hB dLa_law_150 ?_
  refine l_s C (i + 2) (nI_2 i) (by omega) dLa_law_151 ?_
  refine v_aload_n hB dLa_law_152 rfl ?_
  refine v_iload_n hB dLa_law_153 rfl ?_
  refine v_iconst hB dLa_law_154 (v := 3) (by decide) ?_
  refine v_iadd hB dLa_law_155 ?_
  refine l_s C (i + 3) (nI_3 i) (by omega) dLa_law_156 ?_
  refine v_aload_n hB dLa_law_157 rfl ?_
  refine v_iload_n hB dLa_law_158 rfl ?_
  refine v_iconst hB dLa_law_159 (v := 4) (by decide) ?_
  refine v_iadd hB dLa_law_160 ?_
  refine l_s C (i + 4) (nI_4 i) (by omega) dLa_law_161 ?_
  refine v_aload_n hB dLa_law_162 rfl ?_
  refine v_iload_n hB dLa_law_163 rfl ?_
  refine v_iconst hB dLa_law_164 (v := 5) (by decide) ?_
  refine v_iadd hB dLa_law_165 ?_
  refine l_s C (i + 5) (nI_5 i) (by omega) dLa_law_166 ?_
  refine l_cm C kmLa_17 kiMo_insert ksMo_insert dLa_law_167 rfl (cMo_insert (YR_B D _ cI0 cJ cB cP cII) (YR_M D _ cI0 cJ cB cP cII) _ _ _ _ _ ρ hm hm40) rfl rfl ⟨Nat.le_of_ble_eq_true rfl, Nat.le_of_ble_eq_true rfl⟩ rfl rfl (Nat.le_of_ble_eq_true rfl) hcs (fun r ρ' hP => ?_)
  obtain ⟨rfl, rfl⟩ := hP
  refine v_st (st' := [_, _]) rfl ?_
  refine v_icmp_eq hB 651 dLa_law_170 (by decide) (fun _ => ?_) (fun c1 => ?_)
  · exact kk _ _ hs2
  · exact absurd rfl c1

set_option maxHeartbeats 4000000 in
set_option maxRecDepth 100000 in
theorem lc_delete {X : Xt} {l : Launch} {D : va_G} {cI0 cJ cB cP cII : ClassId} {bs L : Nat} {xs : Nat → Int32} {cells slots : Nat} {Q : State → Prop} {μ ρ : Mu} (C : LX X l D cI0 cJ cB cP cII bs L xs) (hcs : cells ≤ room_1.cells ∧ slots ≤ room_1.slots) {i : Nat} (hi : i + 6 ≤ L) (hs : SimE μ ρ) (kk : ∀ μ' ρ', SimE μ' ρ' → VG X (cA_ (xS X).heap.size) 4 cells slots Q (I2 D (xS X).heap.size cI0 cJ cB cP cII μ' ρ') 651 [some (.ref bs), some (.ref ((xS X).heap.size + 0)), some (.ref ((xS X).heap.size + 459)), some (.int (nI i))] []) : VG X (cA_ (xS X).heap.size) 4 cells slots Q (I2 D (xS X).heap.size cI0 cJ cB cP cII μ ρ) 175 [some (.ref bs), some (.ref ((xS X).heap.size + 0)), some (.ref ((xS X).heap.size + 459)), some (.int (nI i))] [] := by
  have hB := C.B
  obtain ⟨m, hm, hm40⟩ := hs.mm
  refine v_aload_n hB dLa_law_175 rfl ?_
  refine v_aload_n hB dLa_law_176 rfl ?_
  refine v_iload_n hB dLa_law_177 rfl ?_
  refine v_iconst hB dLa_law_178 (v := 1) (by decide) ?_
  refine v_iadd hB dLa_law_179 ?_
  refine l_s C (i + 1) (nI_1 i) (by omega) dLa_law_180 ?_
  refine v_aload_n hB dLa_law_181 rfl ?_
  refine v_iload_n hB dLa_law_182 rfl ?_
  refine v_iconst hB dLa_law_183 (v := 2) (by decide) ?_
  refine v_iadd hB dLa_law_184 ?_
  refine l_s C (i + 2) (nI_2 i) (by omega) dLa_law_185 ?_
  refine v_aload_n hB dLa_law_186 rfl ?_
  refine v_iload_n hB dLa_law_187 rfl ?_
  refine v_iconst hB dLa_law_188 (v := 3) (by decide) ?_
  refine v_iadd hB dLa_law_189 ?_
  refine l_s C (i + 3) (nI_3 i) (by omega) dLa_law_190 ?_
  refine v_aload_n hB dLa_law_191 rfl ?_
  refine v_iload_n hB dLa_law_192 rfl ?_
  refine v_iconst hB dLa_law_193 (v := 4) (by decide) ?_
  refine v_iadd hB dLa_law_194 ?_
  refine l_s C (i + 4) (nI_4 i) (by omega) dLa_law_195 ?_
  refine v_aload_n hB dLa_law_196 rfl ?_
  refine v_iload_n hB dLa_law_197 rfl ?_
  refine v_iconst hB dLa_law_198 (v := 5) (by decide) ?_
  refine v_iadd hB dLa_law_199 ?_
  refine l_s C (i + 5) (nI_5 i) (by omega) dLa_law_200 ?_
  refine l_cx C kmLa_18 kiFa_delete ksFa_delete dLa_law_201 rfl (cFa_delete (YF_B D _ cI0 cJ cB cP cII) (YF_W D _ cI0 cJ cB cP cII) _ _ _ _ _ (s_de hs hm hm40 _ _ _ _ _)) rfl rfl ⟨Nat.le_of_ble_eq_true rfl, Nat.le_of_ble_eq_true rfl⟩ rfl rfl (Nat.le_of_ble_eq_true rfl) hcs (fun r μ' hP => ?_)
  obtain ⟨x, rfl, rfl, hs2⟩ := hP
  refine v_st (st' := [_]) rfl ?_
  refine v_aload_n hB dLa_law_204 rfl ?_
  refine v_aload_n hB dLa_law_205 rfl ?_
  refine v_iload_n hB dLa_law_206 rfl ?_
  refine v_iconst hB dLa_law_207 (v := 1) (by decide) ?_
  refine v_iadd hB dLa_law_208 ?_
  refine l_s C (i + 1) (nI_1 i) (by omega) dLa_law_209 ?_
  refine v_aload_n hB dLa_law_210 rfl ?_
  refine v_iload_n hB dLa_law_211 rfl ?_
  refine v_iconst hB dLa_law_212 (v := 2) (by decide) ?_
  refine v_iadd hB dLa_law_213 ?_
  refine l_s C (i + 2) (nI_2 i) (by omega) dLa_law_214 ?_
  refine v_aload_n hB dLa_law_215 rfl ?_
  refine v_iload_n hB dLa_law_216 rfl ?_
  refine v_iconst hB dLa_law_217 (v := 3) (by decide) ?_
  refine v_iadd hB dLa_law_218 ?_
  refine l_s C (i + 3) (nI_3 i) (by omega) dLa_law_219 ?_
  refine v_aload_n hB dLa_law_220 rfl ?_
  refine v_iload_n hB dLa_law_221 rfl ?_
  refine v_iconst hB dLa_law_222 (v := 4) (by decide) ?_
  refine v_iadd hB dLa_law_223 ?_
  refine l_s C (i + 4) (nI_4 i) (by omega) dLa_law_224 ?_
  refine v_aload_n hB dLa_law_225 rfl ?_
  refine v_iload_n hB dLa_law_226 rfl ?_
  refine v_iconst hB dLa_law_227 (v := 5) (by decide) ?_
  refine v_iadd hB dLa_law_228 ?_
  refine l_s C (i + 5) (nI_5 i) (by omega) dLa_law_229 ?_
  refine l_cm C kmLa_21 kiMo_delete ksMo_delete dLa_law_230 rfl (cMo_delete (YR_B D _ cI0 cJ cB cP cII) (YR_M D _ cI0 cJ cB cP cII) _ _ _ _ _ ρ hm hm40) rfl rfl ⟨Nat.le_of_ble_eq_true rfl, Nat.le_of_ble_eq_true rfl⟩ rfl rfl (Nat.le_of_ble_eq_true rfl) hcs (fun r ρ' hP => ?_)
  obtain ⟨rfl, rfl⟩ := hP
  refine v_st (st' := [_, _]) rfl ?_
  refine v_icmp_eq hB 651 dLa_law_233 (by decide) (fun _ => ?_) (fun c1 => ?_)
  · exact kk _ _ hs2
  · exact absurd rfl c1

set_option maxHeartbeats 4000000 in
set_option maxRecDepth 100000 in
theorem lc_take {X : Xt} {l : Launch} {D : va_G} {cI0 cJ cB cP cII : ClassId} {bs L : Nat} {xs : Nat → Int32} {cells slots : Nat} {Q : State → Prop} {μ ρ : Mu} (C : LX X l D cI0 cJ cB cP cII bs L xs) (hcs : cells ≤ room_1.cells ∧ slots ≤ room_1.slots) {i : Nat} (hi : i + 6 ≤ L) (hs : SimE μ ρ) (kk : ∀ μ' ρ', SimE μ' ρ' → VG X (cA_ (xS X).heap.size) 4 cells slots Q (I2 D (xS X).heap.size cI0 cJ cB cP cII μ' ρ') 651 [some (.ref bs), some (.ref ((xS X).heap.size + 0)), some (.ref ((xS X).heap.size + 459)), some (.int (nI i))] []) : VG X (cA_ (xS X).heap.size) 4 cells slots Q (I2 D (xS X).heap.size cI0 cJ cB cP cII μ ρ) 238 [some (.ref bs), some (.ref ((xS X).heap.size + 0)), some (.ref ((xS X).heap.size + 459)), some (.int (nI i))] [] := by
  have hB := C.B
  obtain ⟨m, hm, hm40⟩ := hs.mm
  refine v_aload_n hB dLa_law_238 rfl ?_
  refine v_aload_n hB dLa_law_239 rfl ?_
  refine v_iload_n hB dLa_law_240 rfl ?_
  refine v_iconst hB dLa_law_241 (v := 1) (by decide) ?_
  refine v_iadd hB dLa_law_242 ?_
  refine l_s C (i + 1) (nI_1 i) (by omega) dLa_law_243 ?_
  refine v_aload_n hB dLa_law_244 rfl ?_
  refine v_iload_n hB dLa_law_245 rfl ?_
  refine v_iconst hB dLa_law_246 (v := 2) (by decide) ?_
  refine v_iadd hB dLa_law_247 ?_
  refine l_s C (i + 2) (nI_2 i) (by omega) dLa_law_248 ?_
  refine v_aload_n hB dLa_law_249 rfl ?_
  refine v_iload_n hB dLa_law_250 rfl ?_
  refine v_iconst hB dLa_law_251 (v := 3) (by decide) ?_
  refine v_iadd hB dLa_law_252 ?_
  refine l_s C (i + 3) (nI_3 i) (by omega) dLa_law_253 ?_
  refine v_aload_n hB dLa_law_254 rfl ?_
  refine v_iload_n hB dLa_law_255 rfl ?_
  refine v_iconst hB dLa_law_256 (v := 4) (by decide) ?_
  refine v_iadd hB dLa_law_257 ?_
  refine l_s C (i + 4) (nI_4 i) (by omega) dLa_law_258 ?_
  refine l_cx C kmLa_22 kiFa_take ksFa_take dLa_law_259 rfl (cFa_take (YF_B D _ cI0 cJ cB cP cII) (YF_W D _ cI0 cJ cB cP cII) _ _ _ _ (s_tk hs hm hm40 _ _ _ _)) rfl rfl ⟨Nat.le_of_ble_eq_true rfl, Nat.le_of_ble_eq_true rfl⟩ rfl rfl (Nat.le_of_ble_eq_true rfl) hcs (fun r μ' hP => ?_)
  obtain ⟨x, rfl, rfl, hs2⟩ := hP
  refine v_st (st' := [_]) rfl ?_
  refine v_aload_n hB dLa_law_262 rfl ?_
  refine v_aload_n hB dLa_law_263 rfl ?_
  refine v_iload_n hB dLa_law_264 rfl ?_
  refine v_iconst hB dLa_law_265 (v := 1) (by decide) ?_
  refine v_iadd hB dLa_law_266 ?_
  refine l_s C (i + 1) (nI_1 i) (by omega) dLa_law_267 ?_
  refine v_aload_n hB dLa_law_268 rfl ?_
  refine v_iload_n hB dLa_law_269 rfl ?_
  refine v_iconst hB dLa_law_270 (v := 2) (by decide) ?_
  refine v_iadd hB dLa_law_271 ?_
  refine l_s C (i + 2) (nI_2 i) (by omega) dLa_law_272 ?_
  refine v_aload_n hB dLa_law_273 rfl ?_
  refine v_iload_n hB dLa_law_274 rfl ?_
  refine v_iconst hB dLa_law_275 (v := 3) (by decide) ?_
  refine v_iadd hB dLa_law_276 ?_
  refine l_s C (i + 3) (nI_3 i) (by omega) dLa_law_277 ?_
  refine v_aload_n hB dLa_law_278 rfl ?_
  refine v_iload_n hB dLa_law_279 rfl ?_
  refine v_iconst hB dLa_law_280 (v := 4) (by decide) ?_
  refine v_iadd hB dLa_law_281 ?_
  refine l_s C (i + 4) (nI_4 i) (by omega) dLa_law_282 ?_
  refine l_cm C kmLa_26 kiMo_take ksMo_take dLa_law_283 rfl (cMo_take (YR_B D _ cI0 cJ cB cP cII) (YR_M D _ cI0 cJ cB cP cII) _ _ _ _ ρ hm hm40) rfl rfl ⟨Nat.le_of_ble_eq_true rfl, Nat.le_of_ble_eq_true rfl⟩ rfl rfl (Nat.le_of_ble_eq_true rfl) hcs (fun r ρ' hP => ?_)
  obtain ⟨rfl, rfl⟩ := hP
  refine v_st (st' := [_, _]) rfl ?_
  refine v_icmp_eq hB 651 dLa_law_286 (by decide) (fun _ => ?_) (fun c1 => ?_)
  · exact kk _ _ hs2
  · exact absurd rfl c1

set_option maxHeartbeats 4000000 in
set_option maxRecDepth 100000 in
theorem lc_cut {X : Xt} {l : Launch} {D : va_G} {cI0 cJ cB cP cII : ClassId} {bs L : Nat} {xs : Nat → Int32} {cells slots : Nat} {Q : State → Prop} {μ ρ : Mu} (C : LX X l D cI0 cJ cB cP cII bs L xs) (hcs : cells ≤ room_1.cells ∧ slots ≤ room_1.slots) {i : Nat} (hi : i + 6 ≤ L) (hs : SimE μ ρ) (kk : ∀ μ' ρ', SimE μ' ρ' → VG X (cA_ (xS X).heap.size) 4 cells slots Q (I2 D (xS X).heap.size cI0 cJ cB cP cII μ' ρ') 651 [some (.ref bs), some (.ref ((xS X).heap.size + 0)), some (.ref ((xS X).heap.size + 459)), some (.int (nI i))] []) : VG X (cA_ (xS X).heap.size) 4 cells slots Q (I2 D (xS X).heap.size cI0 cJ cB cP cII μ ρ) 291 [some (.ref bs), some (.ref ((xS X).heap.size + 0)), some (.ref ((xS X).heap.size + 459)), some (.int (nI i))] [] := by
  have hB := C.B
  obtain ⟨m, hm, hm40⟩ := hs.mm
  refine v_aload_n hB dLa_law_291 rfl ?_
  refine v_aload_n hB dLa_law_292 rfl ?_
  refine v_iload_n hB dLa_law_293 rfl ?_
  refine v_iconst hB dLa_law_294 (v := 1) (by decide) ?_
  refine v_iadd hB dLa_law_295 ?_
  refine l_s C (i + 1) (nI_1 i) (by omega) dLa_law_296 ?_
  refine l_cx C kmLa_27 kiFa_cut ksFa_cut dLa_law_297 rfl (cFa_cut (YF_B D _ cI0 cJ cB cP cII) (YF_W D _ cI0 cJ cB cP cII) _ μ) rfl rfl ⟨Nat.le_of_ble_eq_true rfl, Nat.le_of_ble_eq_true rfl⟩ rfl rfl (Nat.le_of_ble_eq_true rfl) hcs (fun r μ' hP => ?_)
  obtain ⟨rfl, rfl⟩ := hP
  refine v_st (st' := [_]) rfl ?_
  refine v_aload_n hB dLa_law_300 rfl ?_
  refine v_aload_n hB dLa_law_301 rfl ?_
  refine v_iload_n hB dLa_law_302 rfl ?_
  refine v_iconst hB dLa_law_303 (v := 1) (by decide) ?_
  refine v_iadd hB dLa_law_304 ?_
  refine l_s C (i + 1) (nI_1 i) (by omega) dLa_law_305 ?_
  refine l_cm C kmLa_31 kiMo_cut ksMo_cut dLa_law_306 rfl (cMo_cut (YR_B D _ cI0 cJ cB cP cII) (YR_M D _ cI0 cJ cB cP cII) _ ρ) rfl rfl ⟨Nat.le_of_ble_eq_true rfl, Nat.le_of_ble_eq_true rfl⟩ rfl rfl (Nat.le_of_ble_eq_true rfl) hcs (fun r ρ' hP => ?_)
  obtain ⟨rfl, rfl⟩ := hP
  refine v_st (st' := [_, _]) rfl ?_
  refine v_icmp_eq hB 651 dLa_law_309 (by decide) (fun _ => ?_) (fun c1 => ?_)
  · exact kk _ _ (s_cu hs _)
  · exact absurd rfl c1

set_option maxHeartbeats 4000000 in
set_option maxRecDepth 100000 in
theorem lc_stop {X : Xt} {l : Launch} {D : va_G} {cI0 cJ cB cP cII : ClassId} {bs L : Nat} {xs : Nat → Int32} {cells slots : Nat} {Q : State → Prop} {μ ρ : Mu} (C : LX X l D cI0 cJ cB cP cII bs L xs) (hcs : cells ≤ room_1.cells ∧ slots ≤ room_1.slots) {i : Nat} (hi : i + 6 ≤ L) (hs : SimE μ ρ) (kk : ∀ μ' ρ', SimE μ' ρ' → VG X (cA_ (xS X).heap.size) 4 cells slots Q (I2 D (xS X).heap.size cI0 cJ cB cP cII μ' ρ') 651 [some (.ref bs), some (.ref ((xS X).heap.size + 0)), some (.ref ((xS X).heap.size + 459)), some (.int (nI i))] []) : VG X (cA_ (xS X).heap.size) 4 cells slots Q (I2 D (xS X).heap.size cI0 cJ cB cP cII μ ρ) 314 [some (.ref bs), some (.ref ((xS X).heap.size + 0)), some (.ref ((xS X).heap.size + 459)), some (.int (nI i))] [] := by
  have hB := C.B
  obtain ⟨m, hm, hm40⟩ := hs.mm
  refine v_aload_n hB dLa_law_314 rfl ?_
  refine l_cx C kmLa_32 kiFa_stop ksFa_stop dLa_law_315 rfl (cFa_stop (YF_B D _ cI0 cJ cB cP cII) (YF_W D _ cI0 cJ cB cP cII) (s_so hs)) rfl rfl ⟨Nat.le_of_ble_eq_true rfl, Nat.le_of_ble_eq_true rfl⟩ rfl rfl (Nat.le_of_ble_eq_true rfl) hcs (fun r μ' hP => ?_)
  obtain ⟨b, rfl, rfl, hs2⟩ := hP
  refine v_st (st' := [_]) rfl ?_
  refine v_aload_n hB dLa_law_318 rfl ?_
  refine l_cm C kmLa_36 kiMo_stop ksMo_stop dLa_law_319 rfl (cMo_stop (YR_B D _ cI0 cJ cB cP cII) (YR_M D _ cI0 cJ cB cP cII) ρ) rfl rfl ⟨Nat.le_of_ble_eq_true rfl, Nat.le_of_ble_eq_true rfl⟩ rfl rfl (Nat.le_of_ble_eq_true rfl) hcs (fun r ρ' hP => ?_)
  obtain ⟨rfl, rfl⟩ := hP
  refine v_st (st' := [_, _]) rfl ?_
  refine v_icmp_eq hB 651 dLa_law_322 (by decide) (fun _ => ?_) (fun c1 => ?_)
  · exact kk _ _ hs2
  · exact absurd rfl c1

set_option maxHeartbeats 4000000 in
set_option maxRecDepth 100000 in
theorem lc_start {X : Xt} {l : Launch} {D : va_G} {cI0 cJ cB cP cII : ClassId} {bs L : Nat} {xs : Nat → Int32} {cells slots : Nat} {Q : State → Prop} {μ ρ : Mu} (C : LX X l D cI0 cJ cB cP cII bs L xs) (hcs : cells ≤ room_1.cells ∧ slots ≤ room_1.slots) {i : Nat} (hi : i + 6 ≤ L) (hs : SimE μ ρ) (kk : ∀ μ' ρ', SimE μ' ρ' → VG X (cA_ (xS X).heap.size) 4 cells slots Q (I2 D (xS X).heap.size cI0 cJ cB cP cII μ' ρ') 651 [some (.ref bs), some (.ref ((xS X).heap.size + 0)), some (.ref ((xS X).heap.size + 459)), some (.int (nI i))] []) : VG X (cA_ (xS X).heap.size) 4 cells slots Q (I2 D (xS X).heap.size cI0 cJ cB cP cII μ ρ) 327 [some (.ref bs), some (.ref ((xS X).heap.size + 0)), some (.ref ((xS X).heap.size + 459)), some (.int (nI i))] [] := by
  have hB := C.B
  obtain ⟨m, hm, hm40⟩ := hs.mm
  refine v_aload_n hB dLa_law_327 rfl ?_
  refine l_cx C kmLa_37 kiFa_start ksFa_start dLa_law_328 rfl (cFa_start (YF_B D _ cI0 cJ cB cP cII) (YF_W D _ cI0 cJ cB cP cII) (s_sa hs)) rfl rfl ⟨Nat.le_of_ble_eq_true rfl, Nat.le_of_ble_eq_true rfl⟩ rfl rfl (Nat.le_of_ble_eq_true rfl) hcs (fun r μ' hP => ?_)
  obtain ⟨b, rfl, rfl, hs2⟩ := hP
  refine v_st (st' := [_]) rfl ?_
  refine v_aload_n hB dLa_law_331 rfl ?_
  refine l_cm C kmLa_40 kiMo_start ksMo_start dLa_law_332 rfl (cMo_start (YR_B D _ cI0 cJ cB cP cII) (YR_M D _ cI0 cJ cB cP cII) ρ) rfl rfl ⟨Nat.le_of_ble_eq_true rfl, Nat.le_of_ble_eq_true rfl⟩ rfl rfl (Nat.le_of_ble_eq_true rfl) hcs (fun r ρ' hP => ?_)
  obtain ⟨rfl, rfl⟩ := hP
  refine v_st (st' := [_, _]) rfl ?_
  refine v_icmp_eq hB 651 dLa_law_335 (by decide) (fun _ => ?_) (fun c1 => ?_)
  · exact kk _ _ hs2
  · exact absurd rfl c1

set_option maxHeartbeats 4000000 in
set_option maxRecDepth 100000 in
theorem lc_up {X : Xt} {l : Launch} {D : va_G} {cI0 cJ cB cP cII : ClassId} {bs L : Nat} {xs : Nat → Int32} {cells slots : Nat} {Q : State → Prop} {μ ρ : Mu} (C : LX X l D cI0 cJ cB cP cII bs L xs) (hcs : cells ≤ room_1.cells ∧ slots ≤ room_1.slots) {i : Nat} (hi : i + 6 ≤ L) (hs : SimE μ ρ) (kk : ∀ μ' ρ', SimE μ' ρ' → VG X (cA_ (xS X).heap.size) 4 cells slots Q (I2 D (xS X).heap.size cI0 cJ cB cP cII μ' ρ') 651 [some (.ref bs), some (.ref ((xS X).heap.size + 0)), some (.ref ((xS X).heap.size + 459)), some (.int (nI i))] []) : VG X (cA_ (xS X).heap.size) 4 cells slots Q (I2 D (xS X).heap.size cI0 cJ cB cP cII μ ρ) 340 [some (.ref bs), some (.ref ((xS X).heap.size + 0)), some (.ref ((xS X).heap.size + 459)), some (.int (nI i))] [] := by
  have hB := C.B
  obtain ⟨m, hm, hm40⟩ := hs.mm
  refine v_aload_n hB dLa_law_340 rfl ?_
  refine l_cx C kmLa_41 kiFa_up ksFa_up dLa_law_341 rfl (cFa_up (YF_B D _ cI0 cJ cB cP cII) (YF_W D _ cI0 cJ cB cP cII) μ (SimE.t4 hs)) rfl rfl ⟨Nat.le_of_ble_eq_true rfl, Nat.le_of_ble_eq_true rfl⟩ rfl rfl (Nat.le_of_ble_eq_true rfl) hcs (fun r μ' hP => ?_)
  obtain ⟨rfl, rfl⟩ := hP
  refine v_st (st' := [_]) rfl ?_
  refine v_aload_n hB dLa_law_344 rfl ?_
  refine l_cm C kmLa_44 kiMo_up ksMo_up dLa_law_345 rfl (cMo_up (YR_B D _ cI0 cJ cB cP cII) (YR_M D _ cI0 cJ cB cP cII) ρ (SimE.t0 hs)) rfl rfl ⟨Nat.le_of_ble_eq_true rfl, Nat.le_of_ble_eq_true rfl⟩ rfl rfl (Nat.le_of_ble_eq_true rfl) hcs (fun r ρ' hP => ?_)
  obtain ⟨rfl, rfl⟩ := hP
  refine v_st (st' := [_, _]) rfl ?_
  refine v_icmp_eq hB 651 dLa_law_348 (by decide) (fun _ => ?_) (fun c1 => ?_)
  · exact kk _ _ hs
  · exact absurd hs.e0.symm c1

set_option maxHeartbeats 4000000 in
set_option maxRecDepth 100000 in
theorem lc_size {X : Xt} {l : Launch} {D : va_G} {cI0 cJ cB cP cII : ClassId} {bs L : Nat} {xs : Nat → Int32} {cells slots : Nat} {Q : State → Prop} {μ ρ : Mu} (C : LX X l D cI0 cJ cB cP cII bs L xs) (hcs : cells ≤ room_1.cells ∧ slots ≤ room_1.slots) {i : Nat} (hi : i + 6 ≤ L) (hs : SimE μ ρ) (kk : ∀ μ' ρ', SimE μ' ρ' → VG X (cA_ (xS X).heap.size) 4 cells slots Q (I2 D (xS X).heap.size cI0 cJ cB cP cII μ' ρ') 651 [some (.ref bs), some (.ref ((xS X).heap.size + 0)), some (.ref ((xS X).heap.size + 459)), some (.int (nI i))] []) : VG X (cA_ (xS X).heap.size) 4 cells slots Q (I2 D (xS X).heap.size cI0 cJ cB cP cII μ ρ) 353 [some (.ref bs), some (.ref ((xS X).heap.size + 0)), some (.ref ((xS X).heap.size + 459)), some (.int (nI i))] [] := by
  have hB := C.B
  obtain ⟨m, hm, hm40⟩ := hs.mm
  refine v_aload_n hB dLa_law_353 rfl ?_
  refine l_cx C kmLa_45 kiFa_size ksFa_size dLa_law_354 rfl (cFa_size (YF_B D _ cI0 cJ cB cP cII) (YF_W D _ cI0 cJ cB cP cII) μ) rfl rfl ⟨Nat.le_of_ble_eq_true rfl, Nat.le_of_ble_eq_true rfl⟩ rfl rfl (Nat.le_of_ble_eq_true rfl) hcs (fun r μ' hP => ?_)
  obtain ⟨rfl, rfl⟩ := hP
  refine v_st (st' := [_]) rfl ?_
  refine v_aload_n hB dLa_law_357 rfl ?_
  refine l_cm C kmLa_49 kiMo_size ksMo_size dLa_law_358 rfl (cMo_size (YR_B D _ cI0 cJ cB cP cII) (YR_M D _ cI0 cJ cB cP cII) ρ) rfl rfl ⟨Nat.le_of_ble_eq_true rfl, Nat.le_of_ble_eq_true rfl⟩ rfl rfl (Nat.le_of_ble_eq_true rfl) hcs (fun r ρ' hP => ?_)
  obtain ⟨rfl, rfl⟩ := hP
  refine v_st (st' := [_, _]) rfl ?_
  refine v_icmp_eq hB 651 dLa_law_361 (by decide) (fun _ => ?_) (fun c1 => ?_)
  · exact kk _ _ hs
  · exact absurd (s_sz hs) c1

set_option maxHeartbeats 4000000 in
set_option maxRecDepth 100000 in
theorem lc_count {X : Xt} {l : Launch} {D : va_G} {cI0 cJ cB cP cII : ClassId} {bs L : Nat} {xs : Nat → Int32} {cells slots : Nat} {Q : State → Prop} {μ ρ : Mu} (C : LX X l D cI0 cJ cB cP cII bs L xs) (hcs : cells ≤ room_1.cells ∧ slots ≤ room_1.slots) {i : Nat} (hi : i + 6 ≤ L) (hs : SimE μ ρ) (kk : ∀ μ' ρ', SimE μ' ρ' → VG X (cA_ (xS X).heap.size) 4 cells slots Q (I2 D (xS X).heap.size cI0 cJ cB cP cII μ' ρ') 651 [some (.ref bs), some (.ref ((xS X).heap.size + 0)), some (.ref ((xS X).heap.size + 459)), some (.int (nI i))] []) : VG X (cA_ (xS X).heap.size) 4 cells slots Q (I2 D (xS X).heap.size cI0 cJ cB cP cII μ ρ) 366 [some (.ref bs), some (.ref ((xS X).heap.size + 0)), some (.ref ((xS X).heap.size + 459)), some (.int (nI i))] [] := by
  have hB := C.B
  obtain ⟨m, hm, hm40⟩ := hs.mm
  refine v_aload_n hB dLa_law_366 rfl ?_
  refine v_aload_n hB dLa_law_367 rfl ?_
  refine v_iload_n hB dLa_law_368 rfl ?_
  refine v_iconst hB dLa_law_369 (v := 1) (by decide) ?_
  refine v_iadd hB dLa_law_370 ?_
  refine l_s C (i + 1) (nI_1 i) (by omega) dLa_law_371 ?_
  refine v_aload_n hB dLa_law_372 rfl ?_
  refine v_iload_n hB dLa_law_373 rfl ?_
  refine v_iconst hB dLa_law_374 (v := 2) (by decide) ?_
  refine v_iadd hB dLa_law_375 ?_
  refine l_s C (i + 2) (nI_2 i) (by omega) dLa_law_376 ?_
  refine v_aload_n hB dLa_law_377 rfl ?_
  refine v_iload_n hB dLa_law_378 rfl ?_
  refine v_iconst hB dLa_law_379 (v := 3) (by decide) ?_
  refine v_iadd hB dLa_law_380 ?_
  refine l_s C (i + 3) (nI_3 i) (by omega) dLa_law_381 ?_
  refine v_aload_n hB dLa_law_382 rfl ?_
  refine v_iload_n hB dLa_law_383 rfl ?_
  refine v_iconst hB dLa_law_384 (v := 4) (by decide) ?_
  refine v_iadd hB dLa_law_385 ?_
  refine l_s C (i + 4) (nI_4 i) (by omega) dLa_law_386 ?_
  refine l_cx C kmLa_50 kiFa_count ksFa_count dLa_law_387 rfl (cFa_count (YF_B D _ cI0 cJ cB cP cII) (YF_W D _ cI0 cJ cB cP cII) _ _ _ _ (s_co hs hm hm40 _ _ _ _)) rfl rfl ⟨Nat.le_of_ble_eq_true rfl, Nat.le_of_ble_eq_true rfl⟩ rfl rfl (Nat.le_of_ble_eq_true rfl) hcs (fun r μ' hP => ?_)
  obtain ⟨x, rfl, rfl, hs2⟩ := hP
  refine v_st (st' := [_]) rfl ?_
  refine v_aload_n hB dLa_law_390 rfl ?_
  refine v_aload_n hB dLa_law_391 rfl ?_
  refine v_iload_n hB dLa_law_392 rfl ?_
  refine v_iconst hB dLa_law_393 (v := 1) (by decide) ?_
  refine v_iadd hB dLa_law_394 ?_
  refine l_s C (i + 1) (nI_1 i) (by omega) dLa_law_395 ?_
  refine v_aload_n hB dLa_law_396 rfl ?_
  refine v_iload_n hB dLa_law_397 rfl ?_
  refine v_iconst hB dLa_law_398 (v := 2) (by decide) ?_
  refine v_iadd hB dLa_law_399 ?_
  refine l_s C (i + 2) (nI_2 i) (by omega) dLa_law_400 ?_
  refine v_aload_n hB dLa_law_401 rfl ?_
  refine v_iload_n hB dLa_law_402 rfl ?_
  refine v_iconst hB dLa_law_403 (v := 3) (by decide) ?_
  refine v_iadd hB dLa_law_404 ?_
  refine l_s C (i + 3) (nI_3 i) (by omega) dLa_law_405 ?_
  refine v_aload_n hB dLa_law_406 rfl ?_
  refine v_iload_n hB dLa_law_407 rfl ?_
  refine v_iconst hB dLa_law_408 (v := 4) (by decide) ?_
  refine v_iadd hB dLa_law_409 ?_
  refine l_s C (i + 4) (nI_4 i) (by omega) dLa_law_410 ?_
  refine l_cm C kmLa_53 kiMo_count ksMo_count dLa_law_411 rfl (cMo_count (YR_B D _ cI0 cJ cB cP cII) (YR_M D _ cI0 cJ cB cP cII) _ _ _ _ ρ hm hm40) rfl rfl ⟨Nat.le_of_ble_eq_true rfl, Nat.le_of_ble_eq_true rfl⟩ rfl rfl (Nat.le_of_ble_eq_true rfl) hcs (fun r ρ' hP => ?_)
  obtain ⟨rfl, rfl⟩ := hP
  refine v_st (st' := [_, _]) rfl ?_
  refine v_icmp_eq hB 651 dLa_law_414 (by decide) (fun _ => ?_) (fun c1 => ?_)
  · exact kk _ _ hs2
  · exact absurd rfl c1

set_option maxHeartbeats 4000000 in
set_option maxRecDepth 100000 in
theorem lc_within {X : Xt} {l : Launch} {D : va_G} {cI0 cJ cB cP cII : ClassId} {bs L : Nat} {xs : Nat → Int32} {cells slots : Nat} {Q : State → Prop} {μ ρ : Mu} (C : LX X l D cI0 cJ cB cP cII bs L xs) (hcs : cells ≤ room_1.cells ∧ slots ≤ room_1.slots) {i : Nat} (hi : i + 6 ≤ L) (hs : SimE μ ρ) (kk : ∀ μ' ρ', SimE μ' ρ' → VG X (cA_ (xS X).heap.size) 4 cells slots Q (I2 D (xS X).heap.size cI0 cJ cB cP cII μ' ρ') 651 [some (.ref bs), some (.ref ((xS X).heap.size + 0)), some (.ref ((xS X).heap.size + 459)), some (.int (nI i))] []) : VG X (cA_ (xS X).heap.size) 4 cells slots Q (I2 D (xS X).heap.size cI0 cJ cB cP cII μ ρ) 419 [some (.ref bs), some (.ref ((xS X).heap.size + 0)), some (.ref ((xS X).heap.size + 459)), some (.int (nI i))] [] := by
  have hB := C.B
  obtain ⟨m, hm, hm40⟩ := hs.mm
  refine v_aload_n hB dLa_law_419 rfl ?_
  refine v_aload_n hB dLa_law_420 rfl ?_
  refine v_iload_n hB dLa_law_421 rfl ?_
  refine v_iconst hB dLa_law_422 (v := 1) (by decide) ?_
  refine v_iadd hB dLa_law_423 ?_
  refine l_s C (i + 1) (nI_1 i) (by omega) dLa_law_424 ?_
  refine v_aload_n hB dLa_law_425 rfl ?_
  refine v_iload_n hB dLa_law_426 rfl ?_
  refine v_iconst hB dLa_law_427 (v := 2) (by decide) ?_
  refine v_iadd hB dLa_law_428 ?_
  refine l_s C (i + 2) (nI_2 i) (by omega) dLa_law_429 ?_
  refine v_aload_n hB dLa_law_430 rfl ?_
  refine v_iload_n hB dLa_law_431 rfl ?_
  refine v_iconst hB dLa_law_432 (v := 3) (by decide) ?_
  refine v_iadd hB dLa_law_433 ?_
  refine l_s C (i + 3) (nI_3 i) (by omega) dLa_law_434 ?_
  refine v_aload_n hB dLa_law_435 rfl ?_
  refine v_iload_n hB dLa_law_436 rfl ?_
  refine v_iconst hB dLa_law_437 (v := 4) (by decide) ?_
  refine v_iadd hB dLa_law_438 ?_
  refine l_s C (i + 4) (nI_4 i) (by omega) dLa_law_439 ?_
  refine l_cx C kmLa_54 kiFa_within ksFa_within dLa_law_440 rfl (cFa_within (YF_B D _ cI0 cJ cB cP cII) (YF_W D _ cI0 cJ cB cP cII) _ _ _ _ (s_wn hs hm hm40 _ _ _ _)) rfl rfl ⟨Nat.le_of_ble_eq_true rfl, Nat.le_of_ble_eq_true rfl⟩ rfl rfl (Nat.le_of_ble_eq_true rfl) hcs (fun r μ' hP => ?_)
  obtain ⟨x, rfl, rfl, hs2⟩ := hP
  refine v_st (st' := [_]) rfl ?_
  refine v_aload_n hB dLa_law_443 rfl ?_
  refine v_aload_n hB dLa_law_444 rfl ?_
  refine v_iload_n hB dLa_law_445 rfl ?_
  refine v_iconst hB dLa_law_446 (v := 1) (by decide) ?_
  refine v_iadd hB dLa_law_447 ?_
  refine l_s C (i + 1) (nI_1 i) (by omega) dLa_law_448 ?_
  refine v_aload_n hB dLa_law_449 rfl ?_
  refine v_iload_n hB dLa_law_450 rfl ?_
  refine v_iconst hB dLa_law_451 (v := 2) (by decide) ?_
  refine v_iadd hB dLa_law_452 ?_
  refine l_s C (i + 2) (nI_2 i) (by omega) dLa_law_453 ?_
  refine v_aload_n hB dLa_law_454 rfl ?_
  refine v_iload_n hB dLa_law_455 rfl ?_
  refine v_iconst hB dLa_law_456 (v := 3) (by decide) ?_
  refine v_iadd hB dLa_law_457 ?_
  refine l_s C (i + 3) (nI_3 i) (by omega) dLa_law_458 ?_
  refine v_aload_n hB dLa_law_459 rfl ?_
  refine v_iload_n hB dLa_law_460 rfl ?_
  refine v_iconst hB dLa_law_461 (v := 4) (by decide) ?_
  refine v_iadd hB dLa_law_462 ?_
  refine l_s C (i + 4) (nI_4 i) (by omega) dLa_law_463 ?_
  refine l_cm C kmLa_57 kiMo_within ksMo_within dLa_law_464 rfl (cMo_within (YR_B D _ cI0 cJ cB cP cII) (YR_M D _ cI0 cJ cB cP cII) _ _ _ _ ρ hm hm40) rfl rfl ⟨Nat.le_of_ble_eq_true rfl, Nat.le_of_ble_eq_true rfl⟩ rfl rfl (Nat.le_of_ble_eq_true rfl) hcs (fun r ρ' hP => ?_)
  obtain ⟨rfl, rfl⟩ := hP
  refine v_st (st' := [_, _]) rfl ?_
  refine v_icmp_eq hB 651 dLa_law_467 (by decide) (fun _ => ?_) (fun c1 => ?_)
  · exact kk _ _ hs2
  · exact absurd rfl c1

set_option maxHeartbeats 4000000 in
set_option maxRecDepth 100000 in
theorem lc_pick {X : Xt} {l : Launch} {D : va_G} {cI0 cJ cB cP cII : ClassId} {bs L : Nat} {xs : Nat → Int32} {cells slots : Nat} {Q : State → Prop} {μ ρ : Mu} (C : LX X l D cI0 cJ cB cP cII bs L xs) (hcs : cells ≤ room_1.cells ∧ slots ≤ room_1.slots) {i : Nat} (hi : i + 6 ≤ L) (hs : SimE μ ρ) (kk : ∀ μ' ρ', SimE μ' ρ' → VG X (cA_ (xS X).heap.size) 4 cells slots Q (I2 D (xS X).heap.size cI0 cJ cB cP cII μ' ρ') 651 [some (.ref bs), some (.ref ((xS X).heap.size + 0)), some (.ref ((xS X).heap.size + 459)), some (.int (nI i))] []) : VG X (cA_ (xS X).heap.size) 4 cells slots Q (I2 D (xS X).heap.size cI0 cJ cB cP cII μ ρ) 472 [some (.ref bs), some (.ref ((xS X).heap.size + 0)), some (.ref ((xS X).heap.size + 459)), some (.int (nI i))] [] := by
  have hB := C.B
  obtain ⟨m, hm, hm40⟩ := hs.mm
  refine v_aload_n hB dLa_law_472 rfl ?_
  refine v_aload_n hB dLa_law_473 rfl ?_
  refine v_iload_n hB dLa_law_474 rfl ?_
  refine v_iconst hB dLa_law_475 (v := 1) (by decide) ?_
  refine v_iadd hB dLa_law_476 ?_
  refine l_s C (i + 1) (nI_1 i) (by omega) dLa_law_477 ?_
  refine v_aload_n hB dLa_law_478 rfl ?_
  refine v_iload_n hB dLa_law_479 rfl ?_
  refine v_iconst hB dLa_law_480 (v := 2) (by decide) ?_
  refine v_iadd hB dLa_law_481 ?_
  refine l_s C (i + 2) (nI_2 i) (by omega) dLa_law_482 ?_
  refine v_aload_n hB dLa_law_483 rfl ?_
  refine v_iload_n hB dLa_law_484 rfl ?_
  refine v_iconst hB dLa_law_485 (v := 3) (by decide) ?_
  refine v_iadd hB dLa_law_486 ?_
  refine l_s C (i + 3) (nI_3 i) (by omega) dLa_law_487 ?_
  refine v_aload_n hB dLa_law_488 rfl ?_
  refine v_iload_n hB dLa_law_489 rfl ?_
  refine v_iconst hB dLa_law_490 (v := 4) (by decide) ?_
  refine v_iadd hB dLa_law_491 ?_
  refine l_s C (i + 4) (nI_4 i) (by omega) dLa_law_492 ?_
  refine v_aload_n hB dLa_law_493 rfl ?_
  refine v_iload_n hB dLa_law_494 rfl ?_
  refine v_iconst hB dLa_law_495 (v := 5) (by decide) ?_
  refine v_iadd hB dLa_law_496 ?_
  refine l_s C (i + 5) (nI_5 i) (by omega) dLa_law_497 ?_
  refine l_cx C kmLa_58 kiFa_pick ksFa_pick dLa_law_498 rfl (cFa_pick (YF_B D _ cI0 cJ cB cP cII) (YF_W D _ cI0 cJ cB cP cII) _ _ _ _ _ (s_pc hs hm hm40 _ _ _ _ _)) rfl rfl ⟨Nat.le_of_ble_eq_true rfl, Nat.le_of_ble_eq_true rfl⟩ rfl rfl (Nat.le_of_ble_eq_true rfl) hcs (fun r μ' hP => ?_)
  obtain ⟨x, rfl, rfl, hs2⟩ := hP
  refine v_st (st' := [_]) rfl ?_
  refine v_aload_n hB dLa_law_501 rfl ?_
  refine v_aload_n hB dLa_law_502 rfl ?_
  refine v_iload_n hB dLa_law_503 rfl ?_
  refine v_iconst hB dLa_law_504 (v := 1) (by decide) ?_
  refine v_iadd hB dLa_law_505 ?_
  refine l_s C (i + 1) (nI_1 i) (by omega) dLa_law_506 ?_
  refine v_aload_n hB dLa_law_507 rfl ?_
  refine v_iload_n hB dLa_law_508 rfl ?_
  refine v_iconst hB dLa_law_509 (v := 2) (by decide) ?_
  refine v_iadd hB dLa_law_510 ?_
  refine l_s C (i + 2) (nI_2 i) (by omega) dLa_law_511 ?_
  refine v_aload_n hB dLa_law_512 rfl ?_
  refine v_iload_n hB dLa_law_513 rfl ?_
  refine v_iconst hB dLa_law_514 (v := 3) (by decide) ?_
  refine v_iadd hB dLa_law_515 ?_
  refine l_s C (i + 3) (nI_3 i) (by omega) dLa_law_516 ?_
  refine v_aload_n hB dLa_law_517 rfl ?_
  refine v_iload_n hB dLa_law_518 rfl ?_
  refine v_iconst hB dLa_law_519 (v := 4) (by decide) ?_
  refine v_iadd hB dLa_law_520 ?_
  refine l_s C (i + 4) (nI_4 i) (by omega) dLa_law_521 ?_
  refine v_aload_n hB dLa_law_522 rfl ?_
  refine v_iload_n hB dLa_law_523 rfl ?_
  refine v_iconst hB dLa_law_524 (v := 5) (by decide) ?_
  refine v_iadd hB dLa_law_525 ?_
  refine l_s C (i + 5) (nI_5 i) (by omega) dLa_law_526 ?_
  refine l_cm C kmLa_61 kiMo_pick ksMo_pick dLa_law_527 rfl (cMo_pick (YR_B D _ cI0 cJ cB cP cII) (YR_M D _ cI0 cJ cB cP cII) _ _ _ _ _ ρ hm hm40) rfl rfl ⟨Nat.le_of_ble_eq_true rfl, Nat.le_of_ble_eq_true rfl⟩ rfl rfl (Nat.le_of_ble_eq_true rfl) hcs (fun r ρ' hP => ?_)
  obtain ⟨rfl, rfl⟩ := hP
  refine v_st (st' := [_, _]) rfl ?_
  refine v_icmp_eq hB 651 dLa_law_530 (by decide) (fun _ => ?_) (fun c1 => ?_)
  · exact kk _ _ hs2
  · exact absurd rfl c1

set_option maxHeartbeats 4000000 in
set_option maxRecDepth 100000 in
theorem lc_distance {X : Xt} {l : Launch} {D : va_G} {cI0 cJ cB cP cII : ClassId} {bs L : Nat} {xs : Nat → Int32} {cells slots : Nat} {Q : State → Prop} {μ ρ : Mu} (C : LX X l D cI0 cJ cB cP cII bs L xs) (hcs : cells ≤ room_1.cells ∧ slots ≤ room_1.slots) {i : Nat} (hi : i + 6 ≤ L) (hs : SimE μ ρ) (kk : ∀ μ' ρ', SimE μ' ρ' → VG X (cA_ (xS X).heap.size) 4 cells slots Q (I2 D (xS X).heap.size cI0 cJ cB cP cII μ' ρ') 651 [some (.ref bs), some (.ref ((xS X).heap.size + 0)), some (.ref ((xS X).heap.size + 459)), some (.int (nI i))] []) : VG X (cA_ (xS X).heap.size) 4 cells slots Q (I2 D (xS X).heap.size cI0 cJ cB cP cII μ ρ) 535 [some (.ref bs), some (.ref ((xS X).heap.size + 0)), some (.ref ((xS X).heap.size + 459)), some (.int (nI i))] [] := by
  have hB := C.B
  obtain ⟨m, hm, hm40⟩ := hs.mm
  refine v_aload_n hB dLa_law_535 rfl ?_
  refine v_aload_n hB dLa_law_536 rfl ?_
  refine v_iload_n hB dLa_law_537 rfl ?_
  refine v_iconst hB dLa_law_538 (v := 1) (by decide) ?_
  refine v_iadd hB dLa_law_539 ?_
  refine l_s C (i + 1) (nI_1 i) (by omega) dLa_law_540 ?_
  refine v_aload_n hB dLa_law_541 rfl ?_
  refine v_iload_n hB dLa_law_542 rfl ?_
  refine v_iconst hB dLa_law_543 (v := 2) (by decide) ?_
  refine v_iadd hB dLa_law_544 ?_
  refine l_s C (i + 2) (nI_2 i) (by omega) dLa_law_545 ?_
  refine l_cx C kmLa_62 kiFa_distance ksFa_distance dLa_law_546 rfl (cFa_distance (YF_B D _ cI0 cJ cB cP cII) (YF_W D _ cI0 cJ cB cP cII) _ _ (s_di hs hm hm40 _ _)) rfl rfl ⟨Nat.le_of_ble_eq_true rfl, Nat.le_of_ble_eq_true rfl⟩ rfl rfl (Nat.le_of_ble_eq_true rfl) hcs (fun r μ' hP => ?_)
  obtain ⟨x, rfl, rfl, hs2⟩ := hP
  refine v_st (st' := [_]) rfl ?_
  refine v_aload_n hB dLa_law_549 rfl ?_
  refine v_aload_n hB dLa_law_550 rfl ?_
  refine v_iload_n hB dLa_law_551 rfl ?_
  refine v_iconst hB dLa_law_552 (v := 1) (by decide) ?_
  refine v_iadd hB dLa_law_553 ?_
  refine l_s C (i + 1) (nI_1 i) (by omega) dLa_law_554 ?_
  refine v_aload_n hB dLa_law_555 rfl ?_
  refine v_iload_n hB dLa_law_556 rfl ?_
  refine v_iconst hB dLa_law_557 (v := 2) (by decide) ?_
  refine v_iadd hB dLa_law_558 ?_
  refine l_s C (i + 2) (nI_2 i) (by omega) dLa_law_559 ?_
  refine l_cm C kmLa_66 kiMo_distance ksMo_distance dLa_law_560 rfl (cMo_distance (YR_B D _ cI0 cJ cB cP cII) (YR_M D _ cI0 cJ cB cP cII) _ _ ρ hm hm40) rfl rfl ⟨Nat.le_of_ble_eq_true rfl, Nat.le_of_ble_eq_true rfl⟩ rfl rfl (Nat.le_of_ble_eq_true rfl) hcs (fun r ρ' hP => ?_)
  obtain ⟨rfl, rfl⟩ := hP
  refine v_st (st' := [_, _]) rfl ?_
  refine v_lcmp hB dLa_law_563 ?_
  refine v_if_eq hB 651 dLa_law_564 (by decide) (fun _ => ?_) (fun c1 => ?_)
  · exact kk _ _ hs2
  · exact absurd (lc_eq.mpr rfl) c1

set_option maxHeartbeats 4000000 in
set_option maxRecDepth 100000 in
theorem lc_nearest {X : Xt} {l : Launch} {D : va_G} {cI0 cJ cB cP cII : ClassId} {bs L : Nat} {xs : Nat → Int32} {cells slots : Nat} {Q : State → Prop} {μ ρ : Mu} (C : LX X l D cI0 cJ cB cP cII bs L xs) (hcs : cells ≤ room_1.cells ∧ slots ≤ room_1.slots) {i : Nat} (hi : i + 6 ≤ L) (hs : SimE μ ρ) (kk : ∀ μ' ρ', SimE μ' ρ' → VG X (cA_ (xS X).heap.size) 4 cells slots Q (I2 D (xS X).heap.size cI0 cJ cB cP cII μ' ρ') 651 [some (.ref bs), some (.ref ((xS X).heap.size + 0)), some (.ref ((xS X).heap.size + 459)), some (.int (nI i))] []) : VG X (cA_ (xS X).heap.size) 4 cells slots Q (I2 D (xS X).heap.size cI0 cJ cB cP cII μ ρ) 569 [some (.ref bs), some (.ref ((xS X).heap.size + 0)), some (.ref ((xS X).heap.size + 459)), some (.int (nI i))] [] := by
  have hB := C.B
  obtain ⟨m, hm, hm40⟩ := hs.mm
  refine v_aload_n hB dLa_law_569 rfl ?_
  refine v_aload_n hB dLa_law_570 rfl ?_
  refine v_iload_n hB dLa_law_571 rfl ?_
  refine v_iconst hB dLa_law_572 (v := 1) (by decide) ?_
  refine v_iadd hB dLa_law_573 ?_
  refine l_s C (i + 1) (nI_1 i) (by omega) dLa_law_574 ?_
  refine v_aload_n hB dLa_law_575 rfl ?_
  refine v_iload_n hB dLa_law_576 rfl ?_
  refine v_iconst hB dLa_law_577 (v := 2) (by decide) ?_
  refine v_iadd hB dLa_law_578 ?_
  refine l_s C (i + 2) (nI_2 i) (by omega) dLa_law_579 ?_
  refine l_cx C kmLa_67 kiFa_nearest ksFa_nearest dLa_law_580 rfl (cFa_nearest (YF_B D _ cI0 cJ cB cP cII) (YF_W D _ cI0 cJ cB cP cII) _ _ (s_ne hs hm hm40 _ _)) rfl rfl ⟨Nat.le_of_ble_eq_true rfl, Nat.le_of_ble_eq_true rfl⟩ rfl rfl (Nat.le_of_ble_eq_true rfl) hcs (fun r μ' hP => ?_)
  obtain ⟨x, rfl, rfl, hs2⟩ := hP
  refine v_st (st' := [_]) rfl ?_
  refine v_aload_n hB dLa_law_583 rfl ?_
  refine v_aload_n hB dLa_law_584 rfl ?_
  refine v_iload_n hB dLa_law_585 rfl ?_
  refine v_iconst hB dLa_law_586 (v := 1) (by decide) ?_
  refine v_iadd hB dLa_law_587 ?_
  refine l_s C (i + 1) (nI_1 i) (by omega) dLa_law_588 ?_
  refine v_aload_n hB dLa_law_589 rfl ?_
  refine v_iload_n hB dLa_law_590 rfl ?_
  refine v_iconst hB dLa_law_591 (v := 2) (by decide) ?_
  refine v_iadd hB dLa_law_592 ?_
  refine l_s C (i + 2) (nI_2 i) (by omega) dLa_law_593 ?_
  refine l_cm C kmLa_71 kiMo_nearest ksMo_nearest dLa_law_594 rfl (cMo_nearest (YR_B D _ cI0 cJ cB cP cII) (YR_M D _ cI0 cJ cB cP cII) _ _ ρ hm hm40) rfl rfl ⟨Nat.le_of_ble_eq_true rfl, Nat.le_of_ble_eq_true rfl⟩ rfl rfl (Nat.le_of_ble_eq_true rfl) hcs (fun r ρ' hP => ?_)
  obtain ⟨rfl, rfl⟩ := hP
  refine v_st (st' := [_, _]) rfl ?_
  refine v_icmp_eq hB 651 dLa_law_597 (by decide) (fun _ => ?_) (fun c1 => ?_)
  · exact kk _ _ hs2
  · exact absurd rfl c1

set_option maxHeartbeats 4000000 in
set_option maxRecDepth 100000 in
theorem lc_around {X : Xt} {l : Launch} {D : va_G} {cI0 cJ cB cP cII : ClassId} {bs L : Nat} {xs : Nat → Int32} {cells slots : Nat} {Q : State → Prop} {μ ρ : Mu} (C : LX X l D cI0 cJ cB cP cII bs L xs) (hcs : cells ≤ room_1.cells ∧ slots ≤ room_1.slots) {i : Nat} (hi : i + 6 ≤ L) (hs : SimE μ ρ) (kk : ∀ μ' ρ', SimE μ' ρ' → VG X (cA_ (xS X).heap.size) 4 cells slots Q (I2 D (xS X).heap.size cI0 cJ cB cP cII μ' ρ') 651 [some (.ref bs), some (.ref ((xS X).heap.size + 0)), some (.ref ((xS X).heap.size + 459)), some (.int (nI i))] []) : VG X (cA_ (xS X).heap.size) 4 cells slots Q (I2 D (xS X).heap.size cI0 cJ cB cP cII μ ρ) 602 [some (.ref bs), some (.ref ((xS X).heap.size + 0)), some (.ref ((xS X).heap.size + 459)), some (.int (nI i))] [] := by
  have hB := C.B
  obtain ⟨m, hm, hm40⟩ := hs.mm
  refine v_aload_n hB dLa_law_602 rfl ?_
  refine v_aload_n hB dLa_law_603 rfl ?_
  refine v_iload_n hB dLa_law_604 rfl ?_
  refine v_iconst hB dLa_law_605 (v := 1) (by decide) ?_
  refine v_iadd hB dLa_law_606 ?_
  refine l_s C (i + 1) (nI_1 i) (by omega) dLa_law_607 ?_
  refine l_cx C kmLa_72 kiFa_around ksFa_around dLa_law_608 rfl (cFa_around (YF_B D _ cI0 cJ cB cP cII) (YF_W D _ cI0 cJ cB cP cII) _ (s_ar hs hm hm40 _)) rfl rfl ⟨Nat.le_of_ble_eq_true rfl, Nat.le_of_ble_eq_true rfl⟩ rfl rfl (Nat.le_of_ble_eq_true rfl) hcs (fun r μ' hP => ?_)
  obtain ⟨x, rfl, rfl, hs2⟩ := hP
  refine v_st (st' := [_]) rfl ?_
  refine v_aload_n hB dLa_law_611 rfl ?_
  refine v_aload_n hB dLa_law_612 rfl ?_
  refine v_iload_n hB dLa_law_613 rfl ?_
  refine v_iconst hB dLa_law_614 (v := 1) (by decide) ?_
  refine v_iadd hB dLa_law_615 ?_
  refine l_s C (i + 1) (nI_1 i) (by omega) dLa_law_616 ?_
  refine l_cm C kmLa_76 kiMo_around ksMo_around dLa_law_617 rfl (cMo_around (YR_B D _ cI0 cJ cB cP cII) (YR_M D _ cI0 cJ cB cP cII) _ ρ hm hm40) rfl rfl ⟨Nat.le_of_ble_eq_true rfl, Nat.le_of_ble_eq_true rfl⟩ rfl rfl (Nat.le_of_ble_eq_true rfl) hcs (fun r ρ' hP => ?_)
  obtain ⟨rfl, rfl⟩ := hP
  refine v_st (st' := [_, _]) rfl ?_
  refine v_icmp_eq hB 651 dLa_law_620 (by decide) (fun _ => ?_) (fun c1 => ?_)
  · exact kk _ _ hs2
  · exact absurd rfl c1

set_option maxHeartbeats 4000000 in
set_option maxRecDepth 100000 in
theorem lc_sound {X : Xt} {l : Launch} {D : va_G} {cI0 cJ cB cP cII : ClassId} {bs L : Nat} {xs : Nat → Int32} {cells slots : Nat} {Q : State → Prop} {μ ρ : Mu} (C : LX X l D cI0 cJ cB cP cII bs L xs) (hcs : cells ≤ room_1.cells ∧ slots ≤ room_1.slots) {i : Nat} (hi : i + 6 ≤ L) (hs : SimE μ ρ) (kk : ∀ μ' ρ', SimE μ' ρ' → VG X (cA_ (xS X).heap.size) 4 cells slots Q (I2 D (xS X).heap.size cI0 cJ cB cP cII μ' ρ') 651 [some (.ref bs), some (.ref ((xS X).heap.size + 0)), some (.ref ((xS X).heap.size + 459)), some (.int (nI i))] []) : VG X (cA_ (xS X).heap.size) 4 cells slots Q (I2 D (xS X).heap.size cI0 cJ cB cP cII μ ρ) 625 [some (.ref bs), some (.ref ((xS X).heap.size + 0)), some (.ref ((xS X).heap.size + 459)), some (.int (nI i))] [] := by
  have hB := C.B
  obtain ⟨m, hm, hm40⟩ := hs.mm
  refine v_aload_n hB dLa_law_625 rfl ?_
  refine l_cx C kmLa_77 kiFa_sound ksFa_sound dLa_law_626 rfl (cFa_sound (YF_B D _ cI0 cJ cB cP cII) (YF_W D _ cI0 cJ cB cP cII) (s_sn hs)) rfl rfl ⟨Nat.le_of_ble_eq_true rfl, Nat.le_of_ble_eq_true rfl⟩ rfl rfl (Nat.le_of_ble_eq_true rfl) hcs (fun r μ' hP => ?_)
  obtain ⟨b, rfl, eb, hs2⟩ := hP
  refine v_st (st' := [_]) rfl ?_
  refine v_aload_n hB dLa_law_629 rfl ?_
  refine l_cm C kmLa_80 kiMo_sound ksMo_sound dLa_law_630 rfl (cMo_sound (YR_B D _ cI0 cJ cB cP cII) (YR_M D _ cI0 cJ cB cP cII) ρ (SimE.t0 hs)) rfl rfl ⟨Nat.le_of_ble_eq_true rfl, Nat.le_of_ble_eq_true rfl⟩ rfl rfl (Nat.le_of_ble_eq_true rfl) hcs (fun r ρ' hP => ?_)
  obtain ⟨rfl, rfl⟩ := hP
  refine v_st (st' := [_, _]) rfl ?_
  refine v_icmp_eq hB 651 dLa_law_633 (by decide) (fun _ => ?_) (fun c1 => ?_)
  · exact kk _ _ hs2
  · exact absurd eb c1

set_option maxHeartbeats 4000000 in
set_option maxRecDepth 100000 in
theorem lc_frugal {X : Xt} {l : Launch} {D : va_G} {cI0 cJ cB cP cII : ClassId} {bs L : Nat} {xs : Nat → Int32} {cells slots : Nat} {Q : State → Prop} {μ ρ : Mu} (C : LX X l D cI0 cJ cB cP cII bs L xs) (hcs : cells ≤ room_1.cells ∧ slots ≤ room_1.slots) {i : Nat} (hi : i + 6 ≤ L) (hs : SimE μ ρ) (kk : ∀ μ' ρ', SimE μ' ρ' → VG X (cA_ (xS X).heap.size) 4 cells slots Q (I2 D (xS X).heap.size cI0 cJ cB cP cII μ' ρ') 651 [some (.ref bs), some (.ref ((xS X).heap.size + 0)), some (.ref ((xS X).heap.size + 459)), some (.int (nI i))] []) : VG X (cA_ (xS X).heap.size) 4 cells slots Q (I2 D (xS X).heap.size cI0 cJ cB cP cII μ ρ) 638 [some (.ref bs), some (.ref ((xS X).heap.size + 0)), some (.ref ((xS X).heap.size + 459)), some (.int (nI i))] [] := by
  have hB := C.B
  obtain ⟨m, hm, hm40⟩ := hs.mm
  refine v_aload_n hB dLa_law_638 rfl ?_
  refine l_cx C kmLa_81 kiFa_frugal ksFa_frugal dLa_law_639 rfl (cFa_frugal (YF_B D _ cI0 cJ cB cP cII) (YF_W D _ cI0 cJ cB cP cII) μ (SimE.t5 hs)) rfl rfl ⟨Nat.le_of_ble_eq_true rfl, Nat.le_of_ble_eq_true rfl⟩ rfl rfl (Nat.le_of_ble_eq_true rfl) hcs (fun r μ' hP => ?_)
  obtain ⟨rfl, rfl⟩ := hP
  refine v_st (st' := [_]) rfl ?_
  refine v_aload_n hB dLa_law_642 rfl ?_
  refine l_cm C kmLa_84 kiMo_frugal ksMo_frugal dLa_law_643 rfl (cMo_frugal (YR_B D _ cI0 cJ cB cP cII) ρ) rfl rfl ⟨Nat.le_of_ble_eq_true rfl, Nat.le_of_ble_eq_true rfl⟩ rfl rfl (Nat.le_of_ble_eq_true rfl) hcs (fun r ρ' hP => ?_)
  obtain ⟨rfl, rfl⟩ := hP
  refine v_st (st' := [_, _]) rfl ?_
  refine v_icmp_eq hB 651 dLa_law_646 (by decide) (fun _ => ?_) (fun c1 => ?_)
  · exact kk _ _ hs
  · exact absurd hs.e5 c1
