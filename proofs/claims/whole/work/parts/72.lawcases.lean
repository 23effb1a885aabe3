/-! ===== the law: a theorem a case ===== -/
section
variable {Γ : cx_T} {own : String} {b L i N s n : Nat} {xs : Nat → Int32} {Qz : State → Prop} {σ0 : qx_S × qm_S} {x : qx_S} {m : qm_S} {K : Nat → Nat}
set_option maxHeartbeats 4000000 in
set_option maxRecDepth 100000 in
theorem lc_pushInteger (C : cx_C Γ (lww (gK Γ)) qcl R_law code 4 ret (12, 480)) (hX : va_X b L xs (gs Γ) (gs Γ).heap) (hbl : b < (gs Γ).heap.size) (hbA : ¬ gA Γ b) (hi : i + 2 < L) (hL : L ≤ 1536) (hN : 60000000 ≤ N) (X : XR s n K x m) (hk : ∀ σ : qx_S × qm_S, (∃ s n K, XR s n K σ.1 σ.2) → LJ Γ Qz σ0 σ 709 [(0, .ref b), (1, .ref (kq (gK Γ) 0)), (2, .ref (kq (gK Γ) 18)), (3, .int (nI i))] []) : LJ Γ Qz σ0 (x, m) 144 [(0, .ref b), (1, .ref (kq (gK Γ) 0)), (2, .ref (kq (gK Γ) 18)), (3, .int (nI i))] [] := by
  refine j_aload_n C d_law_144 rfl 1 rfl ?_
  refine j_aload_n C d_law_145 rfl 0 rfl ?_
  refine j_iload_n C d_law_146 rfl 3 rfl ?_
  refine j_iconst C (v := 1) d_law_147 rfl (by decide) ?_
  refine j_iadd C d_law_148 rfl ?_
  refine l_ld C hX hbl hbA (l_in1 hi hL) d_law_149 rfl ?_
  refine j_i2l C d_law_150 rfl ?_
  refine j_bipush C (v := 32) d_law_151 rfl (by decide) ?_
  refine j_lshl C d_law_153 rfl rfl ?_
  refine j_aload_n C d_law_154 rfl 0 rfl ?_
  refine j_iload_n C d_law_155 rfl 3 rfl ?_
  refine j_iconst C (v := 2) d_law_156 rfl (by decide) ?_
  refine j_iadd C d_law_157 rfl ?_
  refine l_ld C hX hbl hbA (l_in2 hi hL) d_law_158 rfl ?_
  refine j_i2l C d_law_159 rfl ?_
  refine j_ldc2 C d_law_160 rfl k_1232 ?_
  refine j_land C d_law_163 rfl ?_
  refine j_lor C d_law_164 rfl ?_
  obtain ⟨m2, s2, n2, K2, E, X2⟩ := X.pushInteger ((((xs ((nI i) + (1 : Int32)).toNatClampNeg).toInt64) <<< ((32 : Int32).toInt64 &&& 63)) ||| (((xs ((nI i) + (2 : Int32)).toNatClampNeg).toInt64) &&& (4294967295 : Int64)))
  refine l_x C (x2 := ((qx_pushInteger x ((((xs ((nI i) + (1 : Int32)).toNatClampNeg).toInt64) <<< ((32 : Int32).toInt64 &&& 63)) ||| (((xs ((nI i) + (2 : Int32)).toNatClampNeg).toInt64) &&& (4294967295 : Int64)))).2)) (mc_qx_pushInteger (gl Γ) (gK Γ) x ((((xs ((nI i) + (1 : Int32)).toNatClampNeg).toInt64) <<< ((32 : Int32).toInt64 &&& 63)) ||| (((xs ((nI i) + (2 : Int32)).toNatClampNeg).toInt64) &&& (4294967295 : Int64)))) qx_pushInteger_I k_285 ⟨Nat.le_of_ble_eq_true rfl, Nat.le_of_ble_eq_true rfl⟩ d_law_165 rfl (rest := []) rfl ⟨rfl, Nat.le_of_ble_eq_true rfl⟩ ?_
  refine j_aload_n C d_law_168 rfl 2 rfl ?_
  refine j_aload_n C d_law_169 rfl 0 rfl ?_
  refine j_iload_n C d_law_170 rfl 3 rfl ?_
  refine j_iconst C (v := 1) d_law_171 rfl (by decide) ?_
  refine j_iadd C d_law_172 rfl ?_
  refine l_ld C hX hbl hbA (l_in1 hi hL) d_law_173 rfl ?_
  refine j_i2l C d_law_174 rfl ?_
  refine j_bipush C (v := 32) d_law_175 rfl (by decide) ?_
  refine j_lshl C d_law_177 rfl rfl ?_
  refine j_aload_n C d_law_178 rfl 0 rfl ?_
  refine j_iload_n C d_law_179 rfl 3 rfl ?_
  refine j_iconst C (v := 2) d_law_180 rfl (by decide) ?_
  refine j_iadd C d_law_181 rfl ?_
  refine l_ld C hX hbl hbA (l_in2 hi hL) d_law_182 rfl ?_
  refine j_i2l C d_law_183 rfl ?_
  refine j_ldc2 C d_law_184 rfl k_1232 ?_
  refine j_land C d_law_187 rfl ?_
  refine j_lor C d_law_188 rfl ?_
  refine l_m C (m2 := m2) (mc_qm_pushInteger (gl Γ) (gK Γ) m ((((xs ((nI i) + (1 : Int32)).toNatClampNeg).toInt64) <<< ((32 : Int32).toInt64 &&& 63)) ||| (((xs ((nI i) + (2 : Int32)).toNatClampNeg).toInt64) &&& (4294967295 : Int64))) ((qx_pushInteger x ((((xs ((nI i) + (1 : Int32)).toNatClampNeg).toInt64) <<< ((32 : Int32).toInt64 &&& 63)) ||| (((xs ((nI i) + (2 : Int32)).toNatClampNeg).toInt64) &&& (4294967295 : Int64)))).1, m2) E) qm_pushInteger_I k_952 ⟨Nat.le_of_ble_eq_true rfl, Nat.le_of_ble_eq_true rfl⟩ d_law_189 rfl (rest := [.int ((qx_pushInteger x ((((xs ((nI i) + (1 : Int32)).toNatClampNeg).toInt64) <<< ((32 : Int32).toInt64 &&& 63)) ||| (((xs ((nI i) + (2 : Int32)).toNatClampNeg).toInt64) &&& (4294967295 : Int64)))).1)]) rfl ⟨rfl, Nat.le_of_ble_eq_true rfl⟩ ?_
  refine j_icmp_eq C d_law_192 (tgt := 709) (by decide) rfl (fun _ => ?_) (fun h => absurd (rfl) h)
  exact hk (((qx_pushInteger x ((((xs ((nI i) + (1 : Int32)).toNatClampNeg).toInt64) <<< ((32 : Int32).toInt64 &&& 63)) ||| (((xs ((nI i) + (2 : Int32)).toNatClampNeg).toInt64) &&& (4294967295 : Int64)))).2), m2) ⟨s2, n2, K2, X2⟩
set_option maxHeartbeats 4000000 in
set_option maxRecDepth 100000 in
theorem lc_pushBoolean (C : cx_C Γ (lww (gK Γ)) qcl R_law code 4 ret (12, 480)) (hX : va_X b L xs (gs Γ) (gs Γ).heap) (hbl : b < (gs Γ).heap.size) (hbA : ¬ gA Γ b) (hi : i + 2 < L) (hL : L ≤ 1536) (hN : 60000000 ≤ N) (X : XR s n K x m) (hk : ∀ σ : qx_S × qm_S, (∃ s n K, XR s n K σ.1 σ.2) → LJ Γ Qz σ0 σ 709 [(0, .ref b), (1, .ref (kq (gK Γ) 0)), (2, .ref (kq (gK Γ) 18)), (3, .int (nI i))] []) : LJ Γ Qz σ0 (x, m) 197 [(0, .ref b), (1, .ref (kq (gK Γ) 0)), (2, .ref (kq (gK Γ) 18)), (3, .int (nI i))] [] := by
  refine j_aload_n C d_law_197 rfl 1 rfl ?_
  refine j_aload_n C d_law_198 rfl 0 rfl ?_
  refine j_iload_n C d_law_199 rfl 3 rfl ?_
  refine j_iconst C (v := 1) d_law_200 rfl (by decide) ?_
  refine j_iadd C d_law_201 rfl ?_
  refine l_ld C hX hbl hbA (l_in1 hi hL) d_law_202 rfl ?_
  refine l_bool C d_law_203 d_law_206 d_law_207 d_law_210 ?_
  obtain ⟨m2, s2, n2, K2, E, X2⟩ := X.pushBoolean (if (xs ((nI i) + (1 : Int32)).toNatClampNeg) = 0 then (0 : Int32) else 1)
  refine l_x C (x2 := ((qx_pushBoolean x (if (xs ((nI i) + (1 : Int32)).toNatClampNeg) = 0 then (0 : Int32) else 1)).2)) (mc_qx_pushBoolean (gl Γ) (gK Γ) x (if (xs ((nI i) + (1 : Int32)).toNatClampNeg) = 0 then (0 : Int32) else 1)) qx_pushBoolean_I k_299 ⟨Nat.le_of_ble_eq_true rfl, Nat.le_of_ble_eq_true rfl⟩ d_law_211 rfl (rest := []) rfl ⟨rfl, Nat.le_of_ble_eq_true rfl⟩ ?_
  refine j_aload_n C d_law_214 rfl 2 rfl ?_
  refine j_aload_n C d_law_215 rfl 0 rfl ?_
  refine j_iload_n C d_law_216 rfl 3 rfl ?_
  refine j_iconst C (v := 1) d_law_217 rfl (by decide) ?_
  refine j_iadd C d_law_218 rfl ?_
  refine l_ld C hX hbl hbA (l_in1 hi hL) d_law_219 rfl ?_
  refine l_bool C d_law_220 d_law_223 d_law_224 d_law_227 ?_
  refine l_m C (m2 := m2) (mc_qm_pushBoolean (gl Γ) (gK Γ) m (if (xs ((nI i) + (1 : Int32)).toNatClampNeg) = 0 then (0 : Int32) else 1) ((qx_pushBoolean x (if (xs ((nI i) + (1 : Int32)).toNatClampNeg) = 0 then (0 : Int32) else 1)).1, m2) E) qm_pushBoolean_I k_962 ⟨Nat.le_of_ble_eq_true rfl, Nat.le_of_ble_eq_true rfl⟩ d_law_228 rfl (rest := [.int ((qx_pushBoolean x (if (xs ((nI i) + (1 : Int32)).toNatClampNeg) = 0 then (0 : Int32) else 1)).1)]) rfl ⟨rfl, Nat.le_of_ble_eq_true rfl⟩ ?_
  refine j_icmp_eq C d_law_231 (tgt := 709) (by decide) rfl (fun _ => ?_) (fun h => absurd (rfl) h)
  exact hk (((qx_pushBoolean x (if (xs ((nI i) + (1 : Int32)).toNatClampNeg) = 0 then (0 : Int32) else 1)).2), m2) ⟨s2, n2, K2, X2⟩
set_option maxHeartbeats 4000000 in
set_option maxRecDepth 100000 in
theorem lc_pushSymbol (C : cx_C Γ (lww (gK Γ)) qcl R_law code 4 ret (12, 480)) (hX : va_X b L xs (gs Γ) (gs Γ).heap) (hbl : b < (gs Γ).heap.size) (hbA : ¬ gA Γ b) (hi : i + 2 < L) (hL : L ≤ 1536) (hN : 60000000 ≤ N) (X : XR s n K x m) (hk : ∀ σ : qx_S × qm_S, (∃ s n K, XR s n K σ.1 σ.2) → LJ Γ Qz σ0 σ 709 [(0, .ref b), (1, .ref (kq (gK Γ) 0)), (2, .ref (kq (gK Γ) 18)), (3, .int (nI i))] []) : LJ Γ Qz σ0 (x, m) 236 [(0, .ref b), (1, .ref (kq (gK Γ) 0)), (2, .ref (kq (gK Γ) 18)), (3, .int (nI i))] [] := by
  refine j_aload_n C d_law_236 rfl 1 rfl ?_
  refine j_aload_n C d_law_237 rfl 0 rfl ?_
  refine j_iload_n C d_law_238 rfl 3 rfl ?_
  refine j_iconst C (v := 1) d_law_239 rfl (by decide) ?_
  refine j_iadd C d_law_240 rfl ?_
  refine l_ld C hX hbl hbA (l_in1 hi hL) d_law_241 rfl ?_
  obtain ⟨m2, s2, n2, K2, E, X2⟩ := X.pushSymbol (xs ((nI i) + (1 : Int32)).toNatClampNeg)
  refine l_x C (x2 := ((qx_pushSymbol x (xs ((nI i) + (1 : Int32)).toNatClampNeg)).2)) (mc_qx_pushSymbol (gl Γ) (gK Γ) x (xs ((nI i) + (1 : Int32)).toNatClampNeg)) qx_pushSymbol_I k_307 ⟨Nat.le_of_ble_eq_true rfl, Nat.le_of_ble_eq_true rfl⟩ d_law_242 rfl (rest := []) rfl ⟨rfl, Nat.le_of_ble_eq_true rfl⟩ ?_
  refine j_aload_n C d_law_245 rfl 2 rfl ?_
  refine j_aload_n C d_law_246 rfl 0 rfl ?_
  refine j_iload_n C d_law_247 rfl 3 rfl ?_
  refine j_iconst C (v := 1) d_law_248 rfl (by decide) ?_
  refine j_iadd C d_law_249 rfl ?_
  refine l_ld C hX hbl hbA (l_in1 hi hL) d_law_250 rfl ?_
  refine l_m C (m2 := m2) (mc_qm_pushSymbol (gl Γ) (gK Γ) m (xs ((nI i) + (1 : Int32)).toNatClampNeg) ((qx_pushSymbol x (xs ((nI i) + (1 : Int32)).toNatClampNeg)).1, m2) E) qm_pushSymbol_I k_969 ⟨Nat.le_of_ble_eq_true rfl, Nat.le_of_ble_eq_true rfl⟩ d_law_251 rfl (rest := [.int ((qx_pushSymbol x (xs ((nI i) + (1 : Int32)).toNatClampNeg)).1)]) rfl ⟨rfl, Nat.le_of_ble_eq_true rfl⟩ ?_
  refine j_icmp_eq C d_law_254 (tgt := 709) (by decide) rfl (fun _ => ?_) (fun h => absurd (rfl) h)
  exact hk (((qx_pushSymbol x (xs ((nI i) + (1 : Int32)).toNatClampNeg)).2), m2) ⟨s2, n2, K2, X2⟩
set_option maxHeartbeats 4000000 in
set_option maxRecDepth 100000 in
theorem lc_pushEmpty (C : cx_C Γ (lww (gK Γ)) qcl R_law code 4 ret (12, 480)) (hX : va_X b L xs (gs Γ) (gs Γ).heap) (hbl : b < (gs Γ).heap.size) (hbA : ¬ gA Γ b) (hi : i + 2 < L) (hL : L ≤ 1536) (hN : 60000000 ≤ N) (X : XR s n K x m) (hk : ∀ σ : qx_S × qm_S, (∃ s n K, XR s n K σ.1 σ.2) → LJ Γ Qz σ0 σ 709 [(0, .ref b), (1, .ref (kq (gK Γ) 0)), (2, .ref (kq (gK Γ) 18)), (3, .int (nI i))] []) : LJ Γ Qz σ0 (x, m) 259 [(0, .ref b), (1, .ref (kq (gK Γ) 0)), (2, .ref (kq (gK Γ) 18)), (3, .int (nI i))] [] := by
  refine j_aload_n C d_law_259 rfl 1 rfl ?_
  refine j_aload_n C d_law_260 rfl 0 rfl ?_
  refine j_iload_n C d_law_261 rfl 3 rfl ?_
  refine j_iconst C (v := 1) d_law_262 rfl (by decide) ?_
  refine j_iadd C d_law_263 rfl ?_
  refine l_ld C hX hbl hbA (l_in1 hi hL) d_law_264 rfl ?_
  refine l_bool C d_law_265 d_law_268 d_law_269 d_law_272 ?_
  obtain ⟨m2, s2, n2, K2, E, X2⟩ := X.pushEmpty (if (xs ((nI i) + (1 : Int32)).toNatClampNeg) = 0 then (0 : Int32) else 1)
  refine l_x C (x2 := ((qx_pushEmpty x (if (xs ((nI i) + (1 : Int32)).toNatClampNeg) = 0 then (0 : Int32) else 1)).2)) (mc_qx_pushEmpty (gl Γ) (gK Γ) x (if (xs ((nI i) + (1 : Int32)).toNatClampNeg) = 0 then (0 : Int32) else 1)) qx_pushEmpty_I k_314 ⟨Nat.le_of_ble_eq_true rfl, Nat.le_of_ble_eq_true rfl⟩ d_law_273 rfl (rest := []) rfl ⟨rfl, Nat.le_of_ble_eq_true rfl⟩ ?_
  refine j_aload_n C d_law_276 rfl 2 rfl ?_
  refine j_aload_n C d_law_277 rfl 0 rfl ?_
  refine j_iload_n C d_law_278 rfl 3 rfl ?_
  refine j_iconst C (v := 1) d_law_279 rfl (by decide) ?_
  refine j_iadd C d_law_280 rfl ?_
  refine l_ld C hX hbl hbA (l_in1 hi hL) d_law_281 rfl ?_
  refine l_bool C d_law_282 d_law_285 d_law_286 d_law_289 ?_
  refine l_m C (m2 := m2) (mc_qm_pushEmpty (gl Γ) (gK Γ) m (if (xs ((nI i) + (1 : Int32)).toNatClampNeg) = 0 then (0 : Int32) else 1) ((qx_pushEmpty x (if (xs ((nI i) + (1 : Int32)).toNatClampNeg) = 0 then (0 : Int32) else 1)).1, m2) E) qm_pushEmpty_I k_974 ⟨Nat.le_of_ble_eq_true rfl, Nat.le_of_ble_eq_true rfl⟩ d_law_290 rfl (rest := [.int ((qx_pushEmpty x (if (xs ((nI i) + (1 : Int32)).toNatClampNeg) = 0 then (0 : Int32) else 1)).1)]) rfl ⟨rfl, Nat.le_of_ble_eq_true rfl⟩ ?_
  refine j_icmp_eq C d_law_293 (tgt := 709) (by decide) rfl (fun _ => ?_) (fun h => absurd (rfl) h)
  exact hk (((qx_pushEmpty x (if (xs ((nI i) + (1 : Int32)).toNatClampNeg) = 0 then (0 : Int32) else 1)).2), m2) ⟨s2, n2, K2, X2⟩
set_option maxHeartbeats 4000000 in
set_option maxRecDepth 100000 in
theorem lc_pushEnvironment (C : cx_C Γ (lww (gK Γ)) qcl R_law code 4 ret (12, 480)) (hX : va_X b L xs (gs Γ) (gs Γ).heap) (hbl : b < (gs Γ).heap.size) (hbA : ¬ gA Γ b) (hi : i + 2 < L) (hL : L ≤ 1536) (hN : 60000000 ≤ N) (X : XR s n K x m) (hk : ∀ σ : qx_S × qm_S, (∃ s n K, XR s n K σ.1 σ.2) → LJ Γ Qz σ0 σ 709 [(0, .ref b), (1, .ref (kq (gK Γ) 0)), (2, .ref (kq (gK Γ) 18)), (3, .int (nI i))] []) : LJ Γ Qz σ0 (x, m) 298 [(0, .ref b), (1, .ref (kq (gK Γ) 0)), (2, .ref (kq (gK Γ) 18)), (3, .int (nI i))] [] := by
  refine j_aload_n C d_law_298 rfl 1 rfl ?_
  obtain ⟨m2, s2, n2, K2, E, X2⟩ := X.pushEnvironment
  refine l_x C (x2 := ((qx_pushEnvironment x).2)) (mc_qx_pushEnvironment (gl Γ) (gK Γ) x) qx_pushEnvironment_I k_320 ⟨Nat.le_of_ble_eq_true rfl, Nat.le_of_ble_eq_true rfl⟩ d_law_299 rfl (rest := []) rfl ⟨rfl, Nat.le_of_ble_eq_true rfl⟩ ?_
  refine j_aload_n C d_law_302 rfl 2 rfl ?_
  refine l_m C (m2 := m2) (mc_qm_pushEnvironment (gl Γ) (gK Γ) m ((qx_pushEnvironment x).1, m2) E) qm_pushEnvironment_I k_980 ⟨Nat.le_of_ble_eq_true rfl, Nat.le_of_ble_eq_true rfl⟩ d_law_303 rfl (rest := [.int ((qx_pushEnvironment x).1)]) rfl ⟨rfl, Nat.le_of_ble_eq_true rfl⟩ ?_
  refine j_icmp_eq C d_law_306 (tgt := 709) (by decide) rfl (fun _ => ?_) (fun h => absurd (rfl) h)
  exact hk (((qx_pushEnvironment x).2), m2) ⟨s2, n2, K2, X2⟩
set_option maxHeartbeats 4000000 in
set_option maxRecDepth 100000 in
theorem lc_pushCopy (C : cx_C Γ (lww (gK Γ)) qcl R_law code 4 ret (12, 480)) (hX : va_X b L xs (gs Γ) (gs Γ).heap) (hbl : b < (gs Γ).heap.size) (hbA : ¬ gA Γ b) (hi : i + 2 < L) (hL : L ≤ 1536) (hN : 60000000 ≤ N) (X : XR s n K x m) (hk : ∀ σ : qx_S × qm_S, (∃ s n K, XR s n K σ.1 σ.2) → LJ Γ Qz σ0 σ 709 [(0, .ref b), (1, .ref (kq (gK Γ) 0)), (2, .ref (kq (gK Γ) 18)), (3, .int (nI i))] []) : LJ Γ Qz σ0 (x, m) 311 [(0, .ref b), (1, .ref (kq (gK Γ) 0)), (2, .ref (kq (gK Γ) 18)), (3, .int (nI i))] [] := by
  refine j_aload_n C d_law_311 rfl 1 rfl ?_
  refine j_aload_n C d_law_312 rfl 0 rfl ?_
  refine j_iload_n C d_law_313 rfl 3 rfl ?_
  refine j_iconst C (v := 1) d_law_314 rfl (by decide) ?_
  refine j_iadd C d_law_315 rfl ?_
  refine l_ld C hX hbl hbA (l_in1 hi hL) d_law_316 rfl ?_
  obtain ⟨m2, s2, n2, K2, E, X2⟩ := X.pushCopy (xs ((nI i) + (1 : Int32)).toNatClampNeg)
  refine l_x C (x2 := ((qx_pushCopy x (xs ((nI i) + (1 : Int32)).toNatClampNeg)).2)) (mc_qx_pushCopy (gl Γ) (gK Γ) x (xs ((nI i) + (1 : Int32)).toNatClampNeg)) qx_pushCopy_I k_324 ⟨Nat.le_of_ble_eq_true rfl, Nat.le_of_ble_eq_true rfl⟩ d_law_317 rfl (rest := []) rfl ⟨rfl, Nat.le_of_ble_eq_true rfl⟩ ?_
  refine j_aload_n C d_law_320 rfl 2 rfl ?_
  refine j_aload_n C d_law_321 rfl 0 rfl ?_
  refine j_iload_n C d_law_322 rfl 3 rfl ?_
  refine j_iconst C (v := 1) d_law_323 rfl (by decide) ?_
  refine j_iadd C d_law_324 rfl ?_
  refine l_ld C hX hbl hbA (l_in1 hi hL) d_law_325 rfl ?_
  refine l_m C (m2 := m2) (mc_qm_pushCopy (gl Γ) (gK Γ) m (xs ((nI i) + (1 : Int32)).toNatClampNeg) ((qx_pushCopy x (xs ((nI i) + (1 : Int32)).toNatClampNeg)).1, m2) E) qm_pushCopy_I k_984 ⟨Nat.le_of_ble_eq_true rfl, Nat.le_of_ble_eq_true rfl⟩ d_law_326 rfl (rest := [.int ((qx_pushCopy x (xs ((nI i) + (1 : Int32)).toNatClampNeg)).1)]) rfl ⟨rfl, Nat.le_of_ble_eq_true rfl⟩ ?_
  refine j_icmp_eq C d_law_329 (tgt := 709) (by decide) rfl (fun _ => ?_) (fun h => absurd (rfl) h)
  exact hk (((qx_pushCopy x (xs ((nI i) + (1 : Int32)).toNatClampNeg)).2), m2) ⟨s2, n2, K2, X2⟩
set_option maxHeartbeats 4000000 in
set_option maxRecDepth 100000 in
theorem lc_pushPart (C : cx_C Γ (lww (gK Γ)) qcl R_law code 4 ret (12, 480)) (hX : va_X b L xs (gs Γ) (gs Γ).heap) (hbl : b < (gs Γ).heap.size) (hbA : ¬ gA Γ b) (hi : i + 2 < L) (hL : L ≤ 1536) (hN : 60000000 ≤ N) (X : XR s n K x m) (hk : ∀ σ : qx_S × qm_S, (∃ s n K, XR s n K σ.1 σ.2) → LJ Γ Qz σ0 σ 709 [(0, .ref b), (1, .ref (kq (gK Γ) 0)), (2, .ref (kq (gK Γ) 18)), (3, .int (nI i))] []) : LJ Γ Qz σ0 (x, m) 334 [(0, .ref b), (1, .ref (kq (gK Γ) 0)), (2, .ref (kq (gK Γ) 18)), (3, .int (nI i))] [] := by
  refine j_aload_n C d_law_334 rfl 1 rfl ?_
  refine j_aload_n C d_law_335 rfl 0 rfl ?_
  refine j_iload_n C d_law_336 rfl 3 rfl ?_
  refine j_iconst C (v := 1) d_law_337 rfl (by decide) ?_
  refine j_iadd C d_law_338 rfl ?_
  refine l_ld C hX hbl hbA (l_in1 hi hL) d_law_339 rfl ?_
  refine j_aload_n C d_law_340 rfl 0 rfl ?_
  refine j_iload_n C d_law_341 rfl 3 rfl ?_
  refine j_iconst C (v := 2) d_law_342 rfl (by decide) ?_
  refine j_iadd C d_law_343 rfl ?_
  refine l_ld C hX hbl hbA (l_in2 hi hL) d_law_344 rfl ?_
  obtain ⟨m2, s2, n2, K2, E, X2⟩ := X.pushPart (xs ((nI i) + (1 : Int32)).toNatClampNeg) (xs ((nI i) + (2 : Int32)).toNatClampNeg)
  refine l_x C (x2 := ((qx_pushPart x (xs ((nI i) + (1 : Int32)).toNatClampNeg) (xs ((nI i) + (2 : Int32)).toNatClampNeg)).2)) (mc_qx_pushPart (gl Γ) (gK Γ) x (xs ((nI i) + (1 : Int32)).toNatClampNeg) (xs ((nI i) + (2 : Int32)).toNatClampNeg)) qx_pushPart_I k_336 ⟨Nat.le_of_ble_eq_true rfl, Nat.le_of_ble_eq_true rfl⟩ d_law_345 rfl (rest := []) rfl ⟨rfl, Nat.le_of_ble_eq_true rfl⟩ ?_
  refine j_aload_n C d_law_348 rfl 2 rfl ?_
  refine j_aload_n C d_law_349 rfl 0 rfl ?_
  refine j_iload_n C d_law_350 rfl 3 rfl ?_
  refine j_iconst C (v := 1) d_law_351 rfl (by decide) ?_
  refine j_iadd C d_law_352 rfl ?_
  refine l_ld C hX hbl hbA (l_in1 hi hL) d_law_353 rfl ?_
  refine j_aload_n C d_law_354 rfl 0 rfl ?_
  refine j_iload_n C d_law_355 rfl 3 rfl ?_
  refine j_iconst C (v := 2) d_law_356 rfl (by decide) ?_
  refine j_iadd C d_law_357 rfl ?_
  refine l_ld C hX hbl hbA (l_in2 hi hL) d_law_358 rfl ?_
  refine l_m C (m2 := m2) (mc_qm_pushPart (gl Γ) (gK Γ) m (xs ((nI i) + (1 : Int32)).toNatClampNeg) (xs ((nI i) + (2 : Int32)).toNatClampNeg) ((qx_pushPart x (xs ((nI i) + (1 : Int32)).toNatClampNeg) (xs ((nI i) + (2 : Int32)).toNatClampNeg)).1, m2) E) qm_pushPart_I k_996 ⟨Nat.le_of_ble_eq_true rfl, Nat.le_of_ble_eq_true rfl⟩ d_law_359 rfl (rest := [.int ((qx_pushPart x (xs ((nI i) + (1 : Int32)).toNatClampNeg) (xs ((nI i) + (2 : Int32)).toNatClampNeg)).1)]) rfl ⟨rfl, Nat.le_of_ble_eq_true rfl⟩ ?_
  refine j_icmp_eq C d_law_362 (tgt := 709) (by decide) rfl (fun _ => ?_) (fun h => absurd (rfl) h)
  exact hk (((qx_pushPart x (xs ((nI i) + (1 : Int32)).toNatClampNeg) (xs ((nI i) + (2 : Int32)).toNatClampNeg)).2), m2) ⟨s2, n2, K2, X2⟩
set_option maxHeartbeats 4000000 in
set_option maxRecDepth 100000 in
theorem lc_pushBinding (C : cx_C Γ (lww (gK Γ)) qcl R_law code 4 ret (12, 480)) (hX : va_X b L xs (gs Γ) (gs Γ).heap) (hbl : b < (gs Γ).heap.size) (hbA : ¬ gA Γ b) (hi : i + 2 < L) (hL : L ≤ 1536) (hN : 60000000 ≤ N) (X : XR s n K x m) (hk : ∀ σ : qx_S × qm_S, (∃ s n K, XR s n K σ.1 σ.2) → LJ Γ Qz σ0 σ 709 [(0, .ref b), (1, .ref (kq (gK Γ) 0)), (2, .ref (kq (gK Γ) 18)), (3, .int (nI i))] []) : LJ Γ Qz σ0 (x, m) 367 [(0, .ref b), (1, .ref (kq (gK Γ) 0)), (2, .ref (kq (gK Γ) 18)), (3, .int (nI i))] [] := by
  refine j_aload_n C d_law_367 rfl 1 rfl ?_
  refine j_aload_n C d_law_368 rfl 0 rfl ?_
  refine j_iload_n C d_law_369 rfl 3 rfl ?_
  refine j_iconst C (v := 1) d_law_370 rfl (by decide) ?_
  refine j_iadd C d_law_371 rfl ?_
  refine l_ld C hX hbl hbA (l_in1 hi hL) d_law_372 rfl ?_
  refine j_aload_n C d_law_373 rfl 0 rfl ?_
  refine j_iload_n C d_law_374 rfl 3 rfl ?_
  refine j_iconst C (v := 2) d_law_375 rfl (by decide) ?_
  refine j_iadd C d_law_376 rfl ?_
  refine l_ld C hX hbl hbA (l_in2 hi hL) d_law_377 rfl ?_
  obtain ⟨p, E1, m2, s2, n2, K2, E, X2⟩ := X.pushBinding (N := N) (by omega) (xs ((nI i) + (1 : Int32)).toNatClampNeg) (xs ((nI i) + (2 : Int32)).toNatClampNeg)
  refine l_x C (x2 := p.2) (mc_qx_pushBinding (gl Γ) (gK Γ) N x (xs ((nI i) + (1 : Int32)).toNatClampNeg) (xs ((nI i) + (2 : Int32)).toNatClampNeg) p E1) qx_pushBinding_I k_372 ⟨Nat.le_of_ble_eq_true rfl, Nat.le_of_ble_eq_true rfl⟩ d_law_378 rfl (rest := []) rfl ⟨rfl, Nat.le_of_ble_eq_true rfl⟩ ?_
  refine j_aload_n C d_law_381 rfl 2 rfl ?_
  refine j_aload_n C d_law_382 rfl 0 rfl ?_
  refine j_iload_n C d_law_383 rfl 3 rfl ?_
  refine j_iconst C (v := 1) d_law_384 rfl (by decide) ?_
  refine j_iadd C d_law_385 rfl ?_
  refine l_ld C hX hbl hbA (l_in1 hi hL) d_law_386 rfl ?_
  refine j_aload_n C d_law_387 rfl 0 rfl ?_
  refine j_iload_n C d_law_388 rfl 3 rfl ?_
  refine j_iconst C (v := 2) d_law_389 rfl (by decide) ?_
  refine j_iadd C d_law_390 rfl ?_
  refine l_ld C hX hbl hbA (l_in2 hi hL) d_law_391 rfl ?_
  refine l_m C (m2 := m2) (mc_qm_pushBinding (gl Γ) (gK Γ) N m (xs ((nI i) + (1 : Int32)).toNatClampNeg) (xs ((nI i) + (2 : Int32)).toNatClampNeg) (p.1, m2) E) qm_pushBinding_I k_1028 ⟨Nat.le_of_ble_eq_true rfl, Nat.le_of_ble_eq_true rfl⟩ d_law_392 rfl (rest := [.int p.1]) rfl ⟨rfl, Nat.le_of_ble_eq_true rfl⟩ ?_
  refine j_icmp_eq C d_law_395 (tgt := 709) (by decide) rfl (fun _ => ?_) (fun h => absurd (rfl) h)
  exact hk (p.2, m2) ⟨s2, n2, K2, X2⟩
set_option maxHeartbeats 4000000 in
set_option maxRecDepth 100000 in
theorem lc_makePair (C : cx_C Γ (lww (gK Γ)) qcl R_law code 4 ret (12, 480)) (hX : va_X b L xs (gs Γ) (gs Γ).heap) (hbl : b < (gs Γ).heap.size) (hbA : ¬ gA Γ b) (hi : i + 2 < L) (hL : L ≤ 1536) (hN : 60000000 ≤ N) (X : XR s n K x m) (hk : ∀ σ : qx_S × qm_S, (∃ s n K, XR s n K σ.1 σ.2) → LJ Γ Qz σ0 σ 709 [(0, .ref b), (1, .ref (kq (gK Γ) 0)), (2, .ref (kq (gK Γ) 18)), (3, .int (nI i))] []) : LJ Γ Qz σ0 (x, m) 400 [(0, .ref b), (1, .ref (kq (gK Γ) 0)), (2, .ref (kq (gK Γ) 18)), (3, .int (nI i))] [] := by
  refine j_aload_n C d_law_400 rfl 1 rfl ?_
  obtain ⟨m2, s2, n2, K2, E, X2⟩ := X.makePair
  refine l_x C (x2 := ((qx_makePair x).2)) (mc_qx_makePair (gl Γ) (gK Γ) x) qx_makePair_I k_400 ⟨Nat.le_of_ble_eq_true rfl, Nat.le_of_ble_eq_true rfl⟩ d_law_401 rfl (rest := []) rfl ⟨rfl, Nat.le_of_ble_eq_true rfl⟩ ?_
  refine j_aload_n C d_law_404 rfl 2 rfl ?_
  refine l_m C (m2 := m2) (mc_qm_makePair (gl Γ) (gK Γ) m ((qx_makePair x).1, m2) E) qm_makePair_I k_1040 ⟨Nat.le_of_ble_eq_true rfl, Nat.le_of_ble_eq_true rfl⟩ d_law_405 rfl (rest := [.int ((qx_makePair x).1)]) rfl ⟨rfl, Nat.le_of_ble_eq_true rfl⟩ ?_
  refine j_icmp_eq C d_law_408 (tgt := 709) (by decide) rfl (fun _ => ?_) (fun h => absurd (rfl) h)
  exact hk (((qx_makePair x).2), m2) ⟨s2, n2, K2, X2⟩
set_option maxHeartbeats 4000000 in
set_option maxRecDepth 100000 in
theorem lc_makeList (C : cx_C Γ (lww (gK Γ)) qcl R_law code 4 ret (12, 480)) (hX : va_X b L xs (gs Γ) (gs Γ).heap) (hbl : b < (gs Γ).heap.size) (hbA : ¬ gA Γ b) (hi : i + 2 < L) (hL : L ≤ 1536) (hN : 60000000 ≤ N) (X : XR s n K x m) (hk : ∀ σ : qx_S × qm_S, (∃ s n K, XR s n K σ.1 σ.2) → LJ Γ Qz σ0 σ 709 [(0, .ref b), (1, .ref (kq (gK Γ) 0)), (2, .ref (kq (gK Γ) 18)), (3, .int (nI i))] []) : LJ Γ Qz σ0 (x, m) 413 [(0, .ref b), (1, .ref (kq (gK Γ) 0)), (2, .ref (kq (gK Γ) 18)), (3, .int (nI i))] [] := by
  refine j_aload_n C d_law_413 rfl 1 rfl ?_
  refine j_aload_n C d_law_414 rfl 0 rfl ?_
  refine j_iload_n C d_law_415 rfl 3 rfl ?_
  refine j_iconst C (v := 1) d_law_416 rfl (by decide) ?_
  refine j_iadd C d_law_417 rfl ?_
  refine l_ld C hX hbl hbA (l_in1 hi hL) d_law_418 rfl ?_
  obtain ⟨p, E1, m2, s2, n2, K2, E, X2⟩ := X.makeList (N := N) (by omega) (xs ((nI i) + (1 : Int32)).toNatClampNeg)
  refine l_x C (x2 := p.2) (mc_qx_makeList (gl Γ) (gK Γ) N x (xs ((nI i) + (1 : Int32)).toNatClampNeg) p E1) qx_makeList_I k_412 ⟨Nat.le_of_ble_eq_true rfl, Nat.le_of_ble_eq_true rfl⟩ d_law_419 rfl (rest := []) rfl ⟨rfl, Nat.le_of_ble_eq_true rfl⟩ ?_
  refine j_aload_n C d_law_422 rfl 2 rfl ?_
  refine j_aload_n C d_law_423 rfl 0 rfl ?_
  refine j_iload_n C d_law_424 rfl 3 rfl ?_
  refine j_iconst C (v := 1) d_law_425 rfl (by decide) ?_
  refine j_iadd C d_law_426 rfl ?_
  refine l_ld C hX hbl hbA (l_in1 hi hL) d_law_427 rfl ?_
  refine l_m C (m2 := m2) (mc_qm_makeList (gl Γ) (gK Γ) N m (xs ((nI i) + (1 : Int32)).toNatClampNeg) (p.1, m2) E) qm_makeList_I k_1052 ⟨Nat.le_of_ble_eq_true rfl, Nat.le_of_ble_eq_true rfl⟩ d_law_428 rfl (rest := [.int p.1]) rfl ⟨rfl, Nat.le_of_ble_eq_true rfl⟩ ?_
  refine j_icmp_eq C d_law_431 (tgt := 709) (by decide) rfl (fun _ => ?_) (fun h => absurd (rfl) h)
  exact hk (p.2, m2) ⟨s2, n2, K2, X2⟩
set_option maxHeartbeats 4000000 in
set_option maxRecDepth 100000 in
theorem lc_drop (C : cx_C Γ (lww (gK Γ)) qcl R_law code 4 ret (12, 480)) (hX : va_X b L xs (gs Γ) (gs Γ).heap) (hbl : b < (gs Γ).heap.size) (hbA : ¬ gA Γ b) (hi : i + 2 < L) (hL : L ≤ 1536) (hN : 60000000 ≤ N) (X : XR s n K x m) (hk : ∀ σ : qx_S × qm_S, (∃ s n K, XR s n K σ.1 σ.2) → LJ Γ Qz σ0 σ 709 [(0, .ref b), (1, .ref (kq (gK Γ) 0)), (2, .ref (kq (gK Γ) 18)), (3, .int (nI i))] []) : LJ Γ Qz σ0 (x, m) 436 [(0, .ref b), (1, .ref (kq (gK Γ) 0)), (2, .ref (kq (gK Γ) 18)), (3, .int (nI i))] [] := by
  refine j_aload_n C d_law_436 rfl 1 rfl ?_
  refine j_aload_n C d_law_437 rfl 0 rfl ?_
  refine j_iload_n C d_law_438 rfl 3 rfl ?_
  refine j_iconst C (v := 1) d_law_439 rfl (by decide) ?_
  refine j_iadd C d_law_440 rfl ?_
  refine l_ld C hX hbl hbA (l_in1 hi hL) d_law_441 rfl ?_
  obtain ⟨m2, s2, n2, K2, E, X2⟩ := X.drop (xs ((nI i) + (1 : Int32)).toNatClampNeg)
  refine l_x C (x2 := ((qx_drop x (xs ((nI i) + (1 : Int32)).toNatClampNeg)).2)) (mc_qx_drop (gl Γ) (gK Γ) x (xs ((nI i) + (1 : Int32)).toNatClampNeg)) qx_drop_I k_424 ⟨Nat.le_of_ble_eq_true rfl, Nat.le_of_ble_eq_true rfl⟩ d_law_442 rfl (rest := []) rfl ⟨rfl, Nat.le_of_ble_eq_true rfl⟩ ?_
  refine j_aload_n C d_law_445 rfl 2 rfl ?_
  refine j_aload_n C d_law_446 rfl 0 rfl ?_
  refine j_iload_n C d_law_447 rfl 3 rfl ?_
  refine j_iconst C (v := 1) d_law_448 rfl (by decide) ?_
  refine j_iadd C d_law_449 rfl ?_
  refine l_ld C hX hbl hbA (l_in1 hi hL) d_law_450 rfl ?_
  refine l_m C (m2 := ((qm_drop m (xs ((nI i) + (1 : Int32)).toNatClampNeg)).2)) (mc_qm_drop (gl Γ) (gK Γ) m (xs ((nI i) + (1 : Int32)).toNatClampNeg)) qm_drop_I k_1057 ⟨Nat.le_of_ble_eq_true rfl, Nat.le_of_ble_eq_true rfl⟩ d_law_451 rfl (rest := [.int ((qx_drop x (xs ((nI i) + (1 : Int32)).toNatClampNeg)).1)]) rfl ⟨rfl, Nat.le_of_ble_eq_true rfl⟩ ?_
  refine j_icmp_eq C d_law_454 (tgt := 709) (by decide) rfl (fun _ => ?_) (fun h => absurd ((congrArg Prod.fst (Option.some.inj E)).symm) h)
  exact hk (((qx_drop x (xs ((nI i) + (1 : Int32)).toNatClampNeg)).2), ((qm_drop m (xs ((nI i) + (1 : Int32)).toNatClampNeg)).2)) ⟨s2, n2, K2, by rw [show ((qm_drop m (xs ((nI i) + (1 : Int32)).toNatClampNeg)).2) = _ from congrArg Prod.snd (Option.some.inj E)]; exact X2⟩
set_option maxHeartbeats 4000000 in
set_option maxRecDepth 100000 in
theorem lc_reset (C : cx_C Γ (lww (gK Γ)) qcl R_law code 4 ret (12, 480)) (hX : va_X b L xs (gs Γ) (gs Γ).heap) (hbl : b < (gs Γ).heap.size) (hbA : ¬ gA Γ b) (hi : i + 2 < L) (hL : L ≤ 1536) (hN : 60000000 ≤ N) (X : XR s n K x m) (hk : ∀ σ : qx_S × qm_S, (∃ s n K, XR s n K σ.1 σ.2) → LJ Γ Qz σ0 σ 709 [(0, .ref b), (1, .ref (kq (gK Γ) 0)), (2, .ref (kq (gK Γ) 18)), (3, .int (nI i))] []) : LJ Γ Qz σ0 (x, m) 459 [(0, .ref b), (1, .ref (kq (gK Γ) 0)), (2, .ref (kq (gK Γ) 18)), (3, .int (nI i))] [] := by
  refine j_aload_n C d_law_459 rfl 1 rfl ?_
  obtain ⟨p, E1, m2, s2, n2, K2, E, X2⟩ := X.reset (N := N) (by omega)
  refine l_x C (x2 := p.2) (mc_qx_reset (gl Γ) (gK Γ) N x p E1) qx_reset_I k_428 ⟨Nat.le_of_ble_eq_true rfl, Nat.le_of_ble_eq_true rfl⟩ d_law_460 rfl (rest := []) rfl ⟨rfl, Nat.le_of_ble_eq_true rfl⟩ ?_
  refine j_aload_n C d_law_463 rfl 2 rfl ?_
  refine l_m C (m2 := m2) (mc_qm_reset (gl Γ) (gK Γ) N m (p.1, m2) E) qm_reset_I k_1061 ⟨Nat.le_of_ble_eq_true rfl, Nat.le_of_ble_eq_true rfl⟩ d_law_464 rfl (rest := [.int p.1]) rfl ⟨rfl, Nat.le_of_ble_eq_true rfl⟩ ?_
  refine j_icmp_eq C d_law_467 (tgt := 709) (by decide) rfl (fun _ => ?_) (fun h => absurd (rfl) h)
  exact hk (p.2, m2) ⟨s2, n2, K2, X2⟩
set_option maxHeartbeats 4000000 in
set_option maxRecDepth 100000 in
theorem lc_size (C : cx_C Γ (lww (gK Γ)) qcl R_law code 4 ret (12, 480)) (hX : va_X b L xs (gs Γ) (gs Γ).heap) (hbl : b < (gs Γ).heap.size) (hbA : ¬ gA Γ b) (hi : i + 2 < L) (hL : L ≤ 1536) (hN : 60000000 ≤ N) (X : XR s n K x m) (hk : ∀ σ : qx_S × qm_S, (∃ s n K, XR s n K σ.1 σ.2) → LJ Γ Qz σ0 σ 709 [(0, .ref b), (1, .ref (kq (gK Γ) 0)), (2, .ref (kq (gK Γ) 18)), (3, .int (nI i))] []) : LJ Γ Qz σ0 (x, m) 472 [(0, .ref b), (1, .ref (kq (gK Γ) 0)), (2, .ref (kq (gK Γ) 18)), (3, .int (nI i))] [] := by
  refine j_aload_n C d_law_472 rfl 1 rfl ?_
  have E := X.size
  refine l_x C (x2 := x) (mc_qx_size (gl Γ) (gK Γ) x) qx_size_I k_438 ⟨Nat.le_of_ble_eq_true rfl, Nat.le_of_ble_eq_true rfl⟩ d_law_473 rfl (rest := []) rfl ⟨rfl, Nat.le_of_ble_eq_true rfl⟩ ?_
  refine j_aload_n C d_law_476 rfl 2 rfl ?_
  refine l_m C (m2 := m) (mc_qm_size (gl Γ) (gK Γ) m) qm_size_I k_1065 ⟨Nat.le_of_ble_eq_true rfl, Nat.le_of_ble_eq_true rfl⟩ d_law_477 rfl (rest := [.int (qx_size x)]) rfl ⟨rfl, Nat.le_of_ble_eq_true rfl⟩ ?_
  refine j_icmp_eq C d_law_480 (tgt := 709) (by decide) rfl (fun _ => ?_) (fun h => absurd (E) h)
  exact hk (x, m) ⟨s, n, K, X⟩
set_option maxHeartbeats 4000000 in
set_option maxRecDepth 100000 in
theorem lc_kind (C : cx_C Γ (lww (gK Γ)) qcl R_law code 4 ret (12, 480)) (hX : va_X b L xs (gs Γ) (gs Γ).heap) (hbl : b < (gs Γ).heap.size) (hbA : ¬ gA Γ b) (hi : i + 2 < L) (hL : L ≤ 1536) (hN : 60000000 ≤ N) (X : XR s n K x m) (hk : ∀ σ : qx_S × qm_S, (∃ s n K, XR s n K σ.1 σ.2) → LJ Γ Qz σ0 σ 709 [(0, .ref b), (1, .ref (kq (gK Γ) 0)), (2, .ref (kq (gK Γ) 18)), (3, .int (nI i))] []) : LJ Γ Qz σ0 (x, m) 485 [(0, .ref b), (1, .ref (kq (gK Γ) 0)), (2, .ref (kq (gK Γ) 18)), (3, .int (nI i))] [] := by
  refine j_aload_n C d_law_485 rfl 1 rfl ?_
  refine j_aload_n C d_law_486 rfl 0 rfl ?_
  refine j_iload_n C d_law_487 rfl 3 rfl ?_
  refine j_iconst C (v := 1) d_law_488 rfl (by decide) ?_
  refine j_iadd C d_law_489 rfl ?_
  refine l_ld C hX hbl hbA (l_in1 hi hL) d_law_490 rfl ?_
  have E := X.kind (xs ((nI i) + (1 : Int32)).toNatClampNeg)
  refine l_x C (x2 := x) (mc_qx_kind (gl Γ) (gK Γ) x (xs ((nI i) + (1 : Int32)).toNatClampNeg)) qx_kind_I k_442 ⟨Nat.le_of_ble_eq_true rfl, Nat.le_of_ble_eq_true rfl⟩ d_law_491 rfl (rest := []) rfl ⟨rfl, Nat.le_of_ble_eq_true rfl⟩ ?_
  refine j_aload_n C d_law_494 rfl 2 rfl ?_
  refine j_aload_n C d_law_495 rfl 0 rfl ?_
  refine j_iload_n C d_law_496 rfl 3 rfl ?_
  refine j_iconst C (v := 1) d_law_497 rfl (by decide) ?_
  refine j_iadd C d_law_498 rfl ?_
  refine l_ld C hX hbl hbA (l_in1 hi hL) d_law_499 rfl ?_
  refine l_m C (m2 := m) (mc_qm_kind (gl Γ) (gK Γ) m (xs ((nI i) + (1 : Int32)).toNatClampNeg) (qx_kind x (xs ((nI i) + (1 : Int32)).toNatClampNeg)) E) qm_kind_I k_1069 ⟨Nat.le_of_ble_eq_true rfl, Nat.le_of_ble_eq_true rfl⟩ d_law_500 rfl (rest := [.int (qx_kind x (xs ((nI i) + (1 : Int32)).toNatClampNeg))]) rfl ⟨rfl, Nat.le_of_ble_eq_true rfl⟩ ?_
  refine j_icmp_eq C d_law_503 (tgt := 709) (by decide) rfl (fun _ => ?_) (fun h => absurd (rfl) h)
  exact hk (x, m) ⟨s, n, K, X⟩
set_option maxHeartbeats 4000000 in
set_option maxRecDepth 100000 in
theorem lc_value (C : cx_C Γ (lww (gK Γ)) qcl R_law code 4 ret (12, 480)) (hX : va_X b L xs (gs Γ) (gs Γ).heap) (hbl : b < (gs Γ).heap.size) (hbA : ¬ gA Γ b) (hi : i + 2 < L) (hL : L ≤ 1536) (hN : 60000000 ≤ N) (X : XR s n K x m) (hk : ∀ σ : qx_S × qm_S, (∃ s n K, XR s n K σ.1 σ.2) → LJ Γ Qz σ0 σ 709 [(0, .ref b), (1, .ref (kq (gK Γ) 0)), (2, .ref (kq (gK Γ) 18)), (3, .int (nI i))] []) : LJ Γ Qz σ0 (x, m) 508 [(0, .ref b), (1, .ref (kq (gK Γ) 0)), (2, .ref (kq (gK Γ) 18)), (3, .int (nI i))] [] := by
  refine j_aload_n C d_law_508 rfl 1 rfl ?_
  refine j_aload_n C d_law_509 rfl 0 rfl ?_
  refine j_iload_n C d_law_510 rfl 3 rfl ?_
  refine j_iconst C (v := 1) d_law_511 rfl (by decide) ?_
  refine j_iadd C d_law_512 rfl ?_
  refine l_ld C hX hbl hbA (l_in1 hi hL) d_law_513 rfl ?_
  have E := X.value (xs ((nI i) + (1 : Int32)).toNatClampNeg)
  refine l_x C (x2 := x) (mc_qx_value (gl Γ) (gK Γ) x (xs ((nI i) + (1 : Int32)).toNatClampNeg)) qx_value_I k_446 ⟨Nat.le_of_ble_eq_true rfl, Nat.le_of_ble_eq_true rfl⟩ d_law_514 rfl (rest := []) rfl ⟨rfl, Nat.le_of_ble_eq_true rfl⟩ ?_
  refine j_aload_n C d_law_517 rfl 2 rfl ?_
  refine j_aload_n C d_law_518 rfl 0 rfl ?_
  refine j_iload_n C d_law_519 rfl 3 rfl ?_
  refine j_iconst C (v := 1) d_law_520 rfl (by decide) ?_
  refine j_iadd C d_law_521 rfl ?_
  refine l_ld C hX hbl hbA (l_in1 hi hL) d_law_522 rfl ?_
  refine l_m C (m2 := m) (mc_qm_value (gl Γ) (gK Γ) m (xs ((nI i) + (1 : Int32)).toNatClampNeg) (qx_value x (xs ((nI i) + (1 : Int32)).toNatClampNeg)) E) qm_value_I k_1073 ⟨Nat.le_of_ble_eq_true rfl, Nat.le_of_ble_eq_true rfl⟩ d_law_523 rfl (rest := [.long (qx_value x (xs ((nI i) + (1 : Int32)).toNatClampNeg))]) rfl ⟨rfl, Nat.le_of_ble_eq_true rfl⟩ ?_
  refine j_lcmp_eq C d_law_526 d_law_527 (tgt := 709) (by decide) rfl (fun _ => ?_) (fun h => absurd (rfl) h)
  exact hk (x, m) ⟨s, n, K, X⟩
set_option maxHeartbeats 4000000 in
set_option maxRecDepth 100000 in
theorem lc_areSame (C : cx_C Γ (lww (gK Γ)) qcl R_law code 4 ret (12, 480)) (hX : va_X b L xs (gs Γ) (gs Γ).heap) (hbl : b < (gs Γ).heap.size) (hbA : ¬ gA Γ b) (hi : i + 2 < L) (hL : L ≤ 1536) (hN : 60000000 ≤ N) (X : XR s n K x m) (hk : ∀ σ : qx_S × qm_S, (∃ s n K, XR s n K σ.1 σ.2) → LJ Γ Qz σ0 σ 709 [(0, .ref b), (1, .ref (kq (gK Γ) 0)), (2, .ref (kq (gK Γ) 18)), (3, .int (nI i))] []) : LJ Γ Qz σ0 (x, m) 532 [(0, .ref b), (1, .ref (kq (gK Γ) 0)), (2, .ref (kq (gK Γ) 18)), (3, .int (nI i))] [] := by
  refine j_aload_n C d_law_532 rfl 1 rfl ?_
  refine j_aload_n C d_law_533 rfl 0 rfl ?_
  refine j_iload_n C d_law_534 rfl 3 rfl ?_
  refine j_iconst C (v := 1) d_law_535 rfl (by decide) ?_
  refine j_iadd C d_law_536 rfl ?_
  refine l_ld C hX hbl hbA (l_in1 hi hL) d_law_537 rfl ?_
  refine j_aload_n C d_law_538 rfl 0 rfl ?_
  refine j_iload_n C d_law_539 rfl 3 rfl ?_
  refine j_iconst C (v := 2) d_law_540 rfl (by decide) ?_
  refine j_iadd C d_law_541 rfl ?_
  refine l_ld C hX hbl hbA (l_in2 hi hL) d_law_542 rfl ?_
  have E := X.areSame (xs ((nI i) + (1 : Int32)).toNatClampNeg) (xs ((nI i) + (2 : Int32)).toNatClampNeg)
  refine l_x C (x2 := x) (mc_qx_areSame (gl Γ) (gK Γ) x (xs ((nI i) + (1 : Int32)).toNatClampNeg) (xs ((nI i) + (2 : Int32)).toNatClampNeg)) qx_areSame_I k_454 ⟨Nat.le_of_ble_eq_true rfl, Nat.le_of_ble_eq_true rfl⟩ d_law_543 rfl (rest := []) rfl ⟨rfl, Nat.le_of_ble_eq_true rfl⟩ ?_
  refine j_aload_n C d_law_546 rfl 2 rfl ?_
  refine j_aload_n C d_law_547 rfl 0 rfl ?_
  refine j_iload_n C d_law_548 rfl 3 rfl ?_
  refine j_iconst C (v := 1) d_law_549 rfl (by decide) ?_
  refine j_iadd C d_law_550 rfl ?_
  refine l_ld C hX hbl hbA (l_in1 hi hL) d_law_551 rfl ?_
  refine j_aload_n C d_law_552 rfl 0 rfl ?_
  refine j_iload_n C d_law_553 rfl 3 rfl ?_
  refine j_iconst C (v := 2) d_law_554 rfl (by decide) ?_
  refine j_iadd C d_law_555 rfl ?_
  refine l_ld C hX hbl hbA (l_in2 hi hL) d_law_556 rfl ?_
  refine l_m C (m2 := m) (mc_qm_areSame (gl Γ) (gK Γ) m (xs ((nI i) + (1 : Int32)).toNatClampNeg) (xs ((nI i) + (2 : Int32)).toNatClampNeg) (qx_areSame x (xs ((nI i) + (1 : Int32)).toNatClampNeg) (xs ((nI i) + (2 : Int32)).toNatClampNeg)) E) qm_areSame_I k_1081 ⟨Nat.le_of_ble_eq_true rfl, Nat.le_of_ble_eq_true rfl⟩ d_law_557 rfl (rest := [.int (qx_areSame x (xs ((nI i) + (1 : Int32)).toNatClampNeg) (xs ((nI i) + (2 : Int32)).toNatClampNeg))]) rfl ⟨rfl, Nat.le_of_ble_eq_true rfl⟩ ?_
  refine j_icmp_eq C d_law_560 (tgt := 709) (by decide) rfl (fun _ => ?_) (fun h => absurd (rfl) h)
  exact hk (x, m) ⟨s, n, K, X⟩
set_option maxHeartbeats 4000000 in
set_option maxRecDepth 100000 in
theorem lc_length (C : cx_C Γ (lww (gK Γ)) qcl R_law code 4 ret (12, 480)) (hX : va_X b L xs (gs Γ) (gs Γ).heap) (hbl : b < (gs Γ).heap.size) (hbA : ¬ gA Γ b) (hi : i + 2 < L) (hL : L ≤ 1536) (hN : 60000000 ≤ N) (X : XR s n K x m) (hk : ∀ σ : qx_S × qm_S, (∃ s n K, XR s n K σ.1 σ.2) → LJ Γ Qz σ0 σ 709 [(0, .ref b), (1, .ref (kq (gK Γ) 0)), (2, .ref (kq (gK Γ) 18)), (3, .int (nI i))] []) : LJ Γ Qz σ0 (x, m) 565 [(0, .ref b), (1, .ref (kq (gK Γ) 0)), (2, .ref (kq (gK Γ) 18)), (3, .int (nI i))] [] := by
  refine j_aload_n C d_law_565 rfl 1 rfl ?_
  refine j_aload_n C d_law_566 rfl 0 rfl ?_
  refine j_iload_n C d_law_567 rfl 3 rfl ?_
  refine j_iconst C (v := 1) d_law_568 rfl (by decide) ?_
  refine j_iadd C d_law_569 rfl ?_
  refine l_ld C hX hbl hbA (l_in1 hi hL) d_law_570 rfl ?_
  obtain ⟨v, E1, E2⟩ := X.length (N := N) (by omega) (xs ((nI i) + (1 : Int32)).toNatClampNeg)
  refine l_x C (x2 := x) (mc_qx_length (gl Γ) (gK Γ) N x (xs ((nI i) + (1 : Int32)).toNatClampNeg) v E1) qx_length_I k_458 ⟨Nat.le_of_ble_eq_true rfl, Nat.le_of_ble_eq_true rfl⟩ d_law_571 rfl (rest := []) rfl ⟨rfl, Nat.le_of_ble_eq_true rfl⟩ ?_
  refine j_aload_n C d_law_574 rfl 2 rfl ?_
  refine j_aload_n C d_law_575 rfl 0 rfl ?_
  refine j_iload_n C d_law_576 rfl 3 rfl ?_
  refine j_iconst C (v := 1) d_law_577 rfl (by decide) ?_
  refine j_iadd C d_law_578 rfl ?_
  refine l_ld C hX hbl hbA (l_in1 hi hL) d_law_579 rfl ?_
  refine l_m C (m2 := m) (mc_qm_length (gl Γ) (gK Γ) N m (xs ((nI i) + (1 : Int32)).toNatClampNeg) v E2) qm_length_I k_1085 ⟨Nat.le_of_ble_eq_true rfl, Nat.le_of_ble_eq_true rfl⟩ d_law_580 rfl (rest := [.int v]) rfl ⟨rfl, Nat.le_of_ble_eq_true rfl⟩ ?_
  refine j_icmp_eq C d_law_583 (tgt := 709) (by decide) rfl (fun _ => ?_) (fun h => absurd (rfl) h)
  exact hk (x, m) ⟨s, n, K, X⟩
set_option maxHeartbeats 4000000 in
set_option maxRecDepth 100000 in
theorem lc_bindingCount (C : cx_C Γ (lww (gK Γ)) qcl R_law code 4 ret (12, 480)) (hX : va_X b L xs (gs Γ) (gs Γ).heap) (hbl : b < (gs Γ).heap.size) (hbA : ¬ gA Γ b) (hi : i + 2 < L) (hL : L ≤ 1536) (hN : 60000000 ≤ N) (X : XR s n K x m) (hk : ∀ σ : qx_S × qm_S, (∃ s n K, XR s n K σ.1 σ.2) → LJ Γ Qz σ0 σ 709 [(0, .ref b), (1, .ref (kq (gK Γ) 0)), (2, .ref (kq (gK Γ) 18)), (3, .int (nI i))] []) : LJ Γ Qz σ0 (x, m) 588 [(0, .ref b), (1, .ref (kq (gK Γ) 0)), (2, .ref (kq (gK Γ) 18)), (3, .int (nI i))] [] := by
  refine j_aload_n C d_law_588 rfl 1 rfl ?_
  refine j_aload_n C d_law_589 rfl 0 rfl ?_
  refine j_iload_n C d_law_590 rfl 3 rfl ?_
  refine j_iconst C (v := 1) d_law_591 rfl (by decide) ?_
  refine j_iadd C d_law_592 rfl ?_
  refine l_ld C hX hbl hbA (l_in1 hi hL) d_law_593 rfl ?_
  obtain ⟨v, E1, m2, s2, n2, K2, E, X2⟩ := X.bindingCount (N := N) (by omega) (xs ((nI i) + (1 : Int32)).toNatClampNeg)
  refine l_x C (x2 := x) (mc_qx_bindingCount (gl Γ) (gK Γ) N x (xs ((nI i) + (1 : Int32)).toNatClampNeg) v E1) qx_bindingCount_I k_468 ⟨Nat.le_of_ble_eq_true rfl, Nat.le_of_ble_eq_true rfl⟩ d_law_594 rfl (rest := []) rfl ⟨rfl, Nat.le_of_ble_eq_true rfl⟩ ?_
  refine j_aload_n C d_law_597 rfl 2 rfl ?_
  refine j_aload_n C d_law_598 rfl 0 rfl ?_
  refine j_iload_n C d_law_599 rfl 3 rfl ?_
  refine j_iconst C (v := 1) d_law_600 rfl (by decide) ?_
  refine j_iadd C d_law_601 rfl ?_
  refine l_ld C hX hbl hbA (l_in1 hi hL) d_law_602 rfl ?_
  refine l_m C (m2 := m2) (mc_qm_bindingCount (gl Γ) (gK Γ) N m (xs ((nI i) + (1 : Int32)).toNatClampNeg) (v, m2) E) qm_bindingCount_I k_1093 ⟨Nat.le_of_ble_eq_true rfl, Nat.le_of_ble_eq_true rfl⟩ d_law_603 rfl (rest := [.int v]) rfl ⟨rfl, Nat.le_of_ble_eq_true rfl⟩ ?_
  refine j_icmp_eq C d_law_606 (tgt := 709) (by decide) rfl (fun _ => ?_) (fun h => absurd (rfl) h)
  exact hk (x, m2) ⟨s2, n2, K2, X2⟩
set_option maxHeartbeats 4000000 in
set_option maxRecDepth 100000 in
theorem lc_evaluate (C : cx_C Γ (lww (gK Γ)) qcl R_law code 4 ret (12, 480)) (hX : va_X b L xs (gs Γ) (gs Γ).heap) (hbl : b < (gs Γ).heap.size) (hbA : ¬ gA Γ b) (hi : i + 2 < L) (hL : L ≤ 1536) (hN : 60000000 ≤ N) (X : XR s n K x m) (hk : ∀ σ : qx_S × qm_S, (∃ s n K, XR s n K σ.1 σ.2) → LJ Γ Qz σ0 σ 709 [(0, .ref b), (1, .ref (kq (gK Γ) 0)), (2, .ref (kq (gK Γ) 18)), (3, .int (nI i))] []) : LJ Γ Qz σ0 (x, m) 611 [(0, .ref b), (1, .ref (kq (gK Γ) 0)), (2, .ref (kq (gK Γ) 18)), (3, .int (nI i))] [] := by
  refine j_aload_n C d_law_611 rfl 1 rfl ?_
  obtain ⟨p, E1, m2, s2, n2, K2, E, X2⟩ := X.evaluate (N := N) (by omega)
  refine l_x C (x2 := p.2) (mc_qx_evaluate (gl Γ) (gK Γ) N x p E1) qx_evaluate_I k_476 ⟨Nat.le_of_ble_eq_true rfl, Nat.le_of_ble_eq_true rfl⟩ d_law_612 rfl (rest := []) rfl ⟨rfl, Nat.le_of_ble_eq_true rfl⟩ ?_
  refine j_aload_n C d_law_615 rfl 2 rfl ?_
  refine l_m C (m2 := m2) (mc_qm_evaluate (gl Γ) (gK Γ) N m (p.1, m2) E) qm_evaluate_I k_1097 ⟨Nat.le_of_ble_eq_true rfl, Nat.le_of_ble_eq_true rfl⟩ d_law_616 rfl (rest := [.int p.1]) rfl ⟨rfl, Nat.le_of_ble_eq_true rfl⟩ ?_
  refine j_icmp_eq C d_law_619 (tgt := 709) (by decide) rfl (fun _ => ?_) (fun h => absurd (rfl) h)
  exact hk (p.2, m2) ⟨s2, n2, K2, X2⟩
set_option maxHeartbeats 4000000 in
set_option maxRecDepth 100000 in
theorem lc_useEnvironment (C : cx_C Γ (lww (gK Γ)) qcl R_law code 4 ret (12, 480)) (hX : va_X b L xs (gs Γ) (gs Γ).heap) (hbl : b < (gs Γ).heap.size) (hbA : ¬ gA Γ b) (hi : i + 2 < L) (hL : L ≤ 1536) (hN : 60000000 ≤ N) (X : XR s n K x m) (hk : ∀ σ : qx_S × qm_S, (∃ s n K, XR s n K σ.1 σ.2) → LJ Γ Qz σ0 σ 709 [(0, .ref b), (1, .ref (kq (gK Γ) 0)), (2, .ref (kq (gK Γ) 18)), (3, .int (nI i))] []) : LJ Γ Qz σ0 (x, m) 624 [(0, .ref b), (1, .ref (kq (gK Γ) 0)), (2, .ref (kq (gK Γ) 18)), (3, .int (nI i))] [] := by
  refine j_aload_n C d_law_624 rfl 1 rfl ?_
  obtain ⟨m2, s2, n2, K2, E, X2⟩ := X.useEnvironment
  refine l_x C (x2 := ((qx_useEnvironment x).2)) (mc_qx_useEnvironment (gl Γ) (gK Γ) x) qx_useEnvironment_I k_789 ⟨Nat.le_of_ble_eq_true rfl, Nat.le_of_ble_eq_true rfl⟩ d_law_625 rfl (rest := []) rfl ⟨rfl, Nat.le_of_ble_eq_true rfl⟩ ?_
  refine j_aload_n C d_law_628 rfl 2 rfl ?_
  refine l_m C (m2 := m2) (mc_qm_useEnvironment (gl Γ) (gK Γ) m ((qx_useEnvironment x).1, m2) E) qm_useEnvironment_I k_1211 ⟨Nat.le_of_ble_eq_true rfl, Nat.le_of_ble_eq_true rfl⟩ d_law_629 rfl (rest := [.int ((qx_useEnvironment x).1)]) rfl ⟨rfl, Nat.le_of_ble_eq_true rfl⟩ ?_
  refine j_icmp_eq C d_law_632 (tgt := 709) (by decide) rfl (fun _ => ?_) (fun h => absurd (rfl) h)
  exact hk (((qx_useEnvironment x).2), m2) ⟨s2, n2, K2, X2⟩
set_option maxHeartbeats 4000000 in
set_option maxRecDepth 100000 in
theorem lc_useUser (C : cx_C Γ (lww (gK Γ)) qcl R_law code 4 ret (12, 480)) (hX : va_X b L xs (gs Γ) (gs Γ).heap) (hbl : b < (gs Γ).heap.size) (hbA : ¬ gA Γ b) (hi : i + 2 < L) (hL : L ≤ 1536) (hN : 60000000 ≤ N) (X : XR s n K x m) (hk : ∀ σ : qx_S × qm_S, (∃ s n K, XR s n K σ.1 σ.2) → LJ Γ Qz σ0 σ 709 [(0, .ref b), (1, .ref (kq (gK Γ) 0)), (2, .ref (kq (gK Γ) 18)), (3, .int (nI i))] []) : LJ Γ Qz σ0 (x, m) 637 [(0, .ref b), (1, .ref (kq (gK Γ) 0)), (2, .ref (kq (gK Γ) 18)), (3, .int (nI i))] [] := by
  refine j_aload_n C d_law_637 rfl 1 rfl ?_
  obtain ⟨m2, s2, n2, K2, E, X2⟩ := X.useUser
  refine l_x C (x2 := ((qx_useUser x).2)) (mc_qx_useUser (gl Γ) (gK Γ) x) qx_useUser_I k_793 ⟨Nat.le_of_ble_eq_true rfl, Nat.le_of_ble_eq_true rfl⟩ d_law_638 rfl (rest := []) rfl ⟨rfl, Nat.le_of_ble_eq_true rfl⟩ ?_
  refine j_aload_n C d_law_641 rfl 2 rfl ?_
  refine l_m C (m2 := ((qm_useUser m).2)) (mc_qm_useUser (gl Γ) (gK Γ) m) qm_useUser_I k_1215 ⟨Nat.le_of_ble_eq_true rfl, Nat.le_of_ble_eq_true rfl⟩ d_law_642 rfl (rest := [.int ((qx_useUser x).1)]) rfl ⟨rfl, Nat.le_of_ble_eq_true rfl⟩ ?_
  refine j_icmp_eq C d_law_645 (tgt := 709) (by decide) rfl (fun _ => ?_) (fun h => absurd ((congrArg Prod.fst (Option.some.inj E)).symm) h)
  exact hk (((qx_useUser x).2), ((qm_useUser m).2)) ⟨s2, n2, K2, by rw [show ((qm_useUser m).2) = _ from congrArg Prod.snd (Option.some.inj E)]; exact X2⟩
set_option maxHeartbeats 4000000 in
set_option maxRecDepth 100000 in
theorem lc_setLimit (C : cx_C Γ (lww (gK Γ)) qcl R_law code 4 ret (12, 480)) (hX : va_X b L xs (gs Γ) (gs Γ).heap) (hbl : b < (gs Γ).heap.size) (hbA : ¬ gA Γ b) (hi : i + 2 < L) (hL : L ≤ 1536) (hN : 60000000 ≤ N) (X : XR s n K x m) (hk : ∀ σ : qx_S × qm_S, (∃ s n K, XR s n K σ.1 σ.2) → LJ Γ Qz σ0 σ 709 [(0, .ref b), (1, .ref (kq (gK Γ) 0)), (2, .ref (kq (gK Γ) 18)), (3, .int (nI i))] []) : LJ Γ Qz σ0 (x, m) 650 [(0, .ref b), (1, .ref (kq (gK Γ) 0)), (2, .ref (kq (gK Γ) 18)), (3, .int (nI i))] [] := by
  refine j_aload_n C d_law_650 rfl 1 rfl ?_
  refine j_aload_n C d_law_651 rfl 0 rfl ?_
  refine j_iload_n C d_law_652 rfl 3 rfl ?_
  refine j_iconst C (v := 1) d_law_653 rfl (by decide) ?_
  refine j_iadd C d_law_654 rfl ?_
  refine l_ld C hX hbl hbA (l_in1 hi hL) d_law_655 rfl ?_
  obtain ⟨m2, s2, n2, K2, E, X2⟩ := X.setLimit (xs ((nI i) + (1 : Int32)).toNatClampNeg)
  refine l_x C (x2 := ((qx_setLimit x (xs ((nI i) + (1 : Int32)).toNatClampNeg)).2)) (mc_qx_setLimit (gl Γ) (gK Γ) x (xs ((nI i) + (1 : Int32)).toNatClampNeg)) qx_setLimit_I k_797 ⟨Nat.le_of_ble_eq_true rfl, Nat.le_of_ble_eq_true rfl⟩ d_law_656 rfl (rest := []) rfl ⟨rfl, Nat.le_of_ble_eq_true rfl⟩ ?_
  refine j_aload_n C d_law_659 rfl 2 rfl ?_
  refine j_aload_n C d_law_660 rfl 0 rfl ?_
  refine j_iload_n C d_law_661 rfl 3 rfl ?_
  refine j_iconst C (v := 1) d_law_662 rfl (by decide) ?_
  refine j_iadd C d_law_663 rfl ?_
  refine l_ld C hX hbl hbA (l_in1 hi hL) d_law_664 rfl ?_
  refine l_m C (m2 := ((qm_setLimit m (xs ((nI i) + (1 : Int32)).toNatClampNeg)).2)) (mc_qm_setLimit (gl Γ) (gK Γ) m (xs ((nI i) + (1 : Int32)).toNatClampNeg)) qm_setLimit_I k_1219 ⟨Nat.le_of_ble_eq_true rfl, Nat.le_of_ble_eq_true rfl⟩ d_law_665 rfl (rest := [.int ((qx_setLimit x (xs ((nI i) + (1 : Int32)).toNatClampNeg)).1)]) rfl ⟨rfl, Nat.le_of_ble_eq_true rfl⟩ ?_
  refine j_icmp_eq C d_law_668 (tgt := 709) (by decide) rfl (fun _ => ?_) (fun h => absurd ((congrArg Prod.fst (Option.some.inj E)).symm) h)
  exact hk (((qx_setLimit x (xs ((nI i) + (1 : Int32)).toNatClampNeg)).2), ((qm_setLimit m (xs ((nI i) + (1 : Int32)).toNatClampNeg)).2)) ⟨s2, n2, K2, by rw [show ((qm_setLimit m (xs ((nI i) + (1 : Int32)).toNatClampNeg)).2) = _ from congrArg Prod.snd (Option.some.inj E)]; exact X2⟩
set_option maxHeartbeats 4000000 in
set_option maxRecDepth 100000 in
theorem lc_latest (C : cx_C Γ (lww (gK Γ)) qcl R_law code 4 ret (12, 480)) (hX : va_X b L xs (gs Γ) (gs Γ).heap) (hbl : b < (gs Γ).heap.size) (hbA : ¬ gA Γ b) (hi : i + 2 < L) (hL : L ≤ 1536) (hN : 60000000 ≤ N) (X : XR s n K x m) (hk : ∀ σ : qx_S × qm_S, (∃ s n K, XR s n K σ.1 σ.2) → LJ Γ Qz σ0 σ 709 [(0, .ref b), (1, .ref (kq (gK Γ) 0)), (2, .ref (kq (gK Γ) 18)), (3, .int (nI i))] []) : LJ Γ Qz σ0 (x, m) 673 [(0, .ref b), (1, .ref (kq (gK Γ) 0)), (2, .ref (kq (gK Γ) 18)), (3, .int (nI i))] [] := by
  refine j_aload_n C d_law_673 rfl 1 rfl ?_
  refine j_aload_n C d_law_674 rfl 0 rfl ?_
  refine j_iload_n C d_law_675 rfl 3 rfl ?_
  refine j_iconst C (v := 1) d_law_676 rfl (by decide) ?_
  refine j_iadd C d_law_677 rfl ?_
  refine l_ld C hX hbl hbA (l_in1 hi hL) d_law_678 rfl ?_
  have E := X.latest (xs ((nI i) + (1 : Int32)).toNatClampNeg)
  refine l_x C (x2 := x) (mc_qx_latest (gl Γ) (gK Γ) x (xs ((nI i) + (1 : Int32)).toNatClampNeg)) qx_latest_I k_801 ⟨Nat.le_of_ble_eq_true rfl, Nat.le_of_ble_eq_true rfl⟩ d_law_679 rfl (rest := []) rfl ⟨rfl, Nat.le_of_ble_eq_true rfl⟩ ?_
  refine j_aload_n C d_law_682 rfl 2 rfl ?_
  refine j_aload_n C d_law_683 rfl 0 rfl ?_
  refine j_iload_n C d_law_684 rfl 3 rfl ?_
  refine j_iconst C (v := 1) d_law_685 rfl (by decide) ?_
  refine j_iadd C d_law_686 rfl ?_
  refine l_ld C hX hbl hbA (l_in1 hi hL) d_law_687 rfl ?_
  refine l_m C (m2 := m) (mc_qm_latest (gl Γ) (gK Γ) m (xs ((nI i) + (1 : Int32)).toNatClampNeg)) qm_latest_I k_1224 ⟨Nat.le_of_ble_eq_true rfl, Nat.le_of_ble_eq_true rfl⟩ d_law_688 rfl (rest := [.int (qx_latest x (xs ((nI i) + (1 : Int32)).toNatClampNeg))]) rfl ⟨rfl, Nat.le_of_ble_eq_true rfl⟩ ?_
  refine j_icmp_eq C d_law_691 (tgt := 709) (by decide) rfl (fun _ => ?_) (fun h => absurd (E) h)
  exact hk (x, m) ⟨s, n, K, X⟩
set_option maxHeartbeats 4000000 in
set_option maxRecDepth 100000 in
theorem lc_heapSize (C : cx_C Γ (lww (gK Γ)) qcl R_law code 4 ret (12, 480)) (hX : va_X b L xs (gs Γ) (gs Γ).heap) (hbl : b < (gs Γ).heap.size) (hbA : ¬ gA Γ b) (hi : i + 2 < L) (hL : L ≤ 1536) (hN : 60000000 ≤ N) (X : XR s n K x m) (hk : ∀ σ : qx_S × qm_S, (∃ s n K, XR s n K σ.1 σ.2) → LJ Γ Qz σ0 σ 709 [(0, .ref b), (1, .ref (kq (gK Γ) 0)), (2, .ref (kq (gK Γ) 18)), (3, .int (nI i))] []) : LJ Γ Qz σ0 (x, m) 696 [(0, .ref b), (1, .ref (kq (gK Γ) 0)), (2, .ref (kq (gK Γ) 18)), (3, .int (nI i))] [] := by
  refine j_aload_n C d_law_696 rfl 1 rfl ?_
  have E := X.heapSize
  refine l_x C (x2 := x) (mc_qx_heapSize (gl Γ) (gK Γ) x) qx_heapSize_I k_817 ⟨Nat.le_of_ble_eq_true rfl, Nat.le_of_ble_eq_true rfl⟩ d_law_697 rfl (rest := []) rfl ⟨rfl, Nat.le_of_ble_eq_true rfl⟩ ?_
  refine j_aload_n C d_law_700 rfl 2 rfl ?_
  refine l_m C (m2 := m) (mc_qm_heapSize (gl Γ) (gK Γ) m) qm_heapSize_I k_1228 ⟨Nat.le_of_ble_eq_true rfl, Nat.le_of_ble_eq_true rfl⟩ d_law_701 rfl (rest := [.int (qx_heapSize x)]) rfl ⟨rfl, Nat.le_of_ble_eq_true rfl⟩ ?_
  refine j_icmp_eq C d_law_704 (tgt := 709) (by decide) rfl (fun _ => ?_) (fun h => absurd (E) h)
  exact hk (x, m) ⟨s, n, K, X⟩
end
