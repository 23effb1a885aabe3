theorem gs_qx_limit_s_stackSize (σ : qx_S) (v : Int32) : qx_g_limit (qx_s_stackSize σ v) = qx_g_limit σ := rfl
theorem gs_qx_present_s_stackSize (σ : qx_S) (v : Int32) : qx_g_present (qx_s_stackSize σ v) = qx_g_present σ := rfl
theorem gs_qx_stackSize_s_present (σ : qx_S) (v : Int32) : qx_g_stackSize (qx_s_present σ v) = qx_g_stackSize σ := rfl
theorem gs_qx_stackSize_t_stack (σ : qx_S) (i : Int32) (v : Int64) : qx_g_stackSize (qx_t_stack σ i v) = qx_g_stackSize σ := rfl
theorem gs_qx_stackSize_u_H (σ : qx_S) (v : qh_S) : qx_g_stackSize (qx_sH σ v) = qx_g_stackSize σ := rfl
theorem gv_qx_stackSize (σ : qx_S) (v : Int32) : qx_g_stackSize (qx_s_stackSize σ v) = v := rfl
theorem w_qx_push {Γ : cx_T} (C : cx_C Γ (qx_w (gK Γ)) qcl qx_R qx_push_c 3 (some .int) (0, 0)) (σ : qx_S) (a1 : Int64) : J Γ (qx_w (gK Γ)) qcl (QF Γ (qx_w (gK Γ)) qcl ovI) (shT (qx_push σ a1)) σ 0 [(0, .ref (kq (gK Γ) 0)), (1, .long a1)] [] := by
  unfold qx_push
  refine j_aload_n C d_qx_push_0 rfl 0 rfl ?_
  refine qx_r_stackSize C k_269 d_qx_push_1 rfl rfl ?_
  refine j_if_lt C d_qx_push_4 (tgt := 16) (by decide) rfl (fun c_1 => ?_) (fun c_1 => ?_)
  · refine J.pos shT c_1 ?_
    refine j_bipush C d_qx_push_16 rfl kc_b_m3 ?_
    exact j_iret C d_qx_push_18
  · refine J.neg shT c_1 ?_
    refine j_aload_n C d_qx_push_7 rfl 0 rfl ?_
    refine qx_r_stackSize C k_269 d_qx_push_8 rfl rfl ?_
    refine j_bipush C d_qx_push_11 rfl kc_b_40 ?_
    refine j_icmp_lt C d_qx_push_13 (tgt := 19) (by decide) rfl (fun c_2 => ?_) (fun c_2 => ?_)
    · refine J.pos shT c_2 ?_
      refine j_aload_n C d_qx_push_19 rfl 0 rfl ?_
      refine qx_r_stack C k_268 d_qx_push_20 rfl ?_
      refine j_aload_n C d_qx_push_23 rfl 0 rfl ?_
      refine qx_r_stackSize C k_269 d_qx_push_24 rfl rfl ?_
      refine j_lload_n C d_qx_push_27 rfl 1 rfl ?_
      refine qx_a_stack C (in_c (M := 40) c_1 c_2 (by decide) (Nat.le_of_ble_eq_true rfl)) d_qx_push_28 rfl ?_
      refine j_aload_n C d_qx_push_29 rfl 0 rfl ?_
      refine j_dup C d_qx_push_30 rfl rfl ?_
      refine qx_r_stackSize C k_269 d_qx_push_31 rfl (x := (qx_g_stackSize σ)) (gs_qx_stackSize_t_stack _ _ _) ?_
      refine j_iconst C d_qx_push_34 rfl kc_i_1 ?_
      refine j_iadd C d_qx_push_35 rfl ?_
      refine qx_p_stackSize C k_269 d_qx_push_36 rfl ?_
      refine j_aload_n C d_qx_push_39 rfl 0 rfl ?_
      refine qx_r_stackSize C k_269 d_qx_push_40 rfl (x := ((qx_g_stackSize σ) + (1 : Int32))) (gv_qx_stackSize _ _) ?_
      exact j_iret C d_qx_push_43
    · refine J.neg shT c_2 ?_
      refine j_bipush C d_qx_push_16 rfl kc_b_m3 ?_
      exact j_iret C d_qx_push_18
theorem mc_qx_push (l : Launch) (K : kk_T) (σ : qx_S) (a1 : Int64) : MC l qx_push_y qx_push_c 3 (some .int) (0, 0) K (qx_w K) qcl σ [.ref (kq K 0), .long a1] (some (.int (qx_push σ a1).1)) (qx_push σ a1).2 := mc_of (ov := ovI) (X := shT (qx_push σ a1)) (by decide +kernel) (Nat.le_of_ble_eq_true rfl) (fun _ => rfl) rfl (fun Γ e1 e2 C => by subst e1; subst e2; exact w_qx_push C σ a1)
theorem qx_push_I : ck_V qx_push_y qx_push_c 3 (some .int) 1 := ⟨k_298, k_96, by decide +kernel, k_297, k_4⟩
theorem w_qx_pushInteger {Γ : cx_T} (C : cx_C Γ (qx_w (gK Γ)) qcl qx_R qx_pushInteger_c 3 (some .int) (1, 22)) (σ : qx_S) (a1 : Int64) : J Γ (qx_w (gK Γ)) qcl (QF Γ (qx_w (gK Γ)) qcl ovI) (shT (qx_pushInteger σ a1)) σ 0 [(0, .ref (kq (gK Γ) 0)), (1, .long a1)] [] := by
  unfold qx_pushInteger
  refine j_lload_n C d_qx_pushInteger_0 rfl 1 rfl ?_
  refine cs_qx C (mc_qw_isInteger (gl Γ) (gK Γ) a1) qw_isInteger_I k_289 (by decide) d_qx_pushInteger_1 rfl (rest := []) rfl (Nat.le_of_ble_eq_true rfl) ?_
  refine j_if_ne C d_qx_pushInteger_4 (tgt := 9) (by decide) rfl (fun c_1 => ?_) (fun c_1 => ?_)
  · refine J.neg shT c_1 ?_
    refine j_aload_n C d_qx_pushInteger_9 rfl 0 rfl ?_
    refine j_iconst C d_qx_pushInteger_10 rfl kc_i_0 ?_
    refine j_lload_n C d_qx_pushInteger_11 rfl 1 rfl ?_
    refine cs_qx C (mc_qw_make (gl Γ) (gK Γ) (0 : Int32) a1) qw_make_I k_294 (by decide) d_qx_pushInteger_12 rfl (rest := [.ref (kq (gK Γ) 0)]) rfl (Nat.le_of_ble_eq_true rfl) ?_
    refine cv_qx_qx C (mc_qx_push (gl Γ) (gK Γ) σ (qw_make (0 : Int32) a1)) qx_push_I k_295 (by decide) d_qx_pushInteger_15 rfl (rest := []) rfl ⟨rfl, Nat.le_of_ble_eq_true rfl⟩ ?_
    exact j_iret C d_qx_pushInteger_18
  · refine J.pos shT c_1 ?_
    refine j_iconst C d_qx_pushInteger_7 rfl kc_i_m1 ?_
    exact j_iret C d_qx_pushInteger_8
theorem mc_qx_pushInteger (l : Launch) (K : kk_T) (σ : qx_S) (a1 : Int64) : MC l qx_pushInteger_y qx_pushInteger_c 3 (some .int) (1, 22) K (qx_w K) qcl σ [.ref (kq K 0), .long a1] (some (.int (qx_pushInteger σ a1).1)) (qx_pushInteger σ a1).2 := mc_of (ov := ovI) (X := shT (qx_pushInteger σ a1)) (by decide +kernel) (Nat.le_of_ble_eq_true rfl) (fun _ => rfl) rfl (fun Γ e1 e2 C => by subst e1; subst e2; exact w_qx_pushInteger C σ a1)
theorem qx_pushInteger_I : ck_V qx_pushInteger_y qx_pushInteger_c 3 (some .int) 1 := ⟨k_288, k_96, by decide +kernel, k_286, k_287⟩
theorem w_qx_pushBoolean {Γ : cx_T} (C : cx_C Γ (qx_w (gK Γ)) qcl qx_R qx_pushBoolean_c 2 (some .int) (2, 42)) (σ : qx_S) (a1 : Int32) : J Γ (qx_w (gK Γ)) qcl (QF Γ (qx_w (gK Γ)) qcl ovI) (shT (qx_pushBoolean σ a1)) σ 0 [(0, .ref (kq (gK Γ) 0)), (1, .int a1)] [] := by
  unfold qx_pushBoolean
  refine j_aload_n C d_qx_pushBoolean_0 rfl 0 rfl ?_
  refine j_iload_n C d_qx_pushBoolean_1 rfl 1 rfl ?_
  refine cs_qx C (mc_qw_makeBoolean (gl Γ) (gK Γ) a1) qw_makeBoolean_I k_303 (by decide) d_qx_pushBoolean_2 rfl (rest := [.ref (kq (gK Γ) 0)]) rfl (Nat.le_of_ble_eq_true rfl) ?_
  refine cv_qx_qx C (mc_qx_push (gl Γ) (gK Γ) σ (qw_makeBoolean a1)) qx_push_I k_295 (by decide) d_qx_pushBoolean_5 rfl (rest := []) rfl ⟨rfl, Nat.le_of_ble_eq_true rfl⟩ ?_
  exact j_iret C d_qx_pushBoolean_8
theorem mc_qx_pushBoolean (l : Launch) (K : kk_T) (σ : qx_S) (a1 : Int32) : MC l qx_pushBoolean_y qx_pushBoolean_c 2 (some .int) (2, 42) K (qx_w K) qcl σ [.ref (kq K 0), .int a1] (some (.int (qx_pushBoolean σ a1).1)) (qx_pushBoolean σ a1).2 := mc_of (ov := ovI) (X := shT (qx_pushBoolean σ a1)) (by decide +kernel) (Nat.le_of_ble_eq_true rfl) (fun _ => rfl) rfl (fun Γ e1 e2 C => by subst e1; subst e2; exact w_qx_pushBoolean C σ a1)
theorem qx_pushBoolean_I : ck_V qx_pushBoolean_y qx_pushBoolean_c 2 (some .int) 1 := ⟨k_302, k_96, by decide +kernel, k_300, k_301⟩
theorem w_qx_pushSymbol {Γ : cx_T} (C : cx_C Γ (qx_w (gK Γ)) qcl qx_R qx_pushSymbol_c 2 (some .int) (1, 22)) (σ : qx_S) (a1 : Int32) : J Γ (qx_w (gK Γ)) qcl (QF Γ (qx_w (gK Γ)) qcl ovI) (shT (qx_pushSymbol σ a1)) σ 0 [(0, .ref (kq (gK Γ) 0)), (1, .int a1)] [] := by
  unfold qx_pushSymbol
  refine j_iload_n C d_qx_pushSymbol_0 rfl 1 rfl ?_
  refine cs_qx C (mc_qw_isSymbol (gl Γ) (gK Γ) a1) qw_isSymbol_I k_311 (by decide) d_qx_pushSymbol_1 rfl (rest := []) rfl (Nat.le_of_ble_eq_true rfl) ?_
  refine j_if_ne C d_qx_pushSymbol_4 (tgt := 9) (by decide) rfl (fun c_1 => ?_) (fun c_1 => ?_)
  · refine J.neg shT c_1 ?_
    refine j_aload_n C d_qx_pushSymbol_9 rfl 0 rfl ?_
    refine j_iconst C d_qx_pushSymbol_10 rfl kc_i_2 ?_
    refine j_iload_n C d_qx_pushSymbol_11 rfl 1 rfl ?_
    refine j_i2l C d_qx_pushSymbol_12 rfl ?_
    refine cs_qx C (mc_qw_make (gl Γ) (gK Γ) (2 : Int32) (Int32.toInt64 a1)) qw_make_I k_294 (by decide) d_qx_pushSymbol_13 rfl (rest := [.ref (kq (gK Γ) 0)]) rfl (Nat.le_of_ble_eq_true rfl) ?_
    refine cv_qx_qx C (mc_qx_push (gl Γ) (gK Γ) σ (qw_make (2 : Int32) (Int32.toInt64 a1))) qx_push_I k_295 (by decide) d_qx_pushSymbol_16 rfl (rest := []) rfl ⟨rfl, Nat.le_of_ble_eq_true rfl⟩ ?_
    exact j_iret C d_qx_pushSymbol_19
  · refine J.pos shT c_1 ?_
    refine j_iconst C d_qx_pushSymbol_7 rfl kc_i_m1 ?_
    exact j_iret C d_qx_pushSymbol_8
theorem mc_qx_pushSymbol (l : Launch) (K : kk_T) (σ : qx_S) (a1 : Int32) : MC l qx_pushSymbol_y qx_pushSymbol_c 2 (some .int) (1, 22) K (qx_w K) qcl σ [.ref (kq K 0), .int a1] (some (.int (qx_pushSymbol σ a1).1)) (qx_pushSymbol σ a1).2 := mc_of (ov := ovI) (X := shT (qx_pushSymbol σ a1)) (by decide +kernel) (Nat.le_of_ble_eq_true rfl) (fun _ => rfl) rfl (fun Γ e1 e2 C => by subst e1; subst e2; exact w_qx_pushSymbol C σ a1)
theorem qx_pushSymbol_I : ck_V qx_pushSymbol_y qx_pushSymbol_c 2 (some .int) 1 := ⟨k_310, k_96, by decide +kernel, k_308, k_309⟩
theorem w_qx_pushEmpty {Γ : cx_T} (C : cx_C Γ (qx_w (gK Γ)) qcl qx_R qx_pushEmpty_c 2 (some .int) (1, 22)) (σ : qx_S) (a1 : Int32) : J Γ (qx_w (gK Γ)) qcl (QF Γ (qx_w (gK Γ)) qcl ovI) (shT (qx_pushEmpty σ a1)) σ 0 [(0, .ref (kq (gK Γ) 0)), (1, .int a1)] [] := by
  unfold qx_pushEmpty
  refine j_aload_n C d_qx_pushEmpty_0 rfl 0 rfl ?_
  refine j_iload_n C d_qx_pushEmpty_1 rfl 1 rfl ?_
  refine j_if_eq C d_qx_pushEmpty_2 (tgt := 11) (by decide) rfl (fun c_1 => ?_) (fun c_1 => ?_)
  · refine J.pos shT c_1 ?_
    refine j_ldc2 C d_qx_pushEmpty_11 rfl k_319 ?_
    refine cv_qx_qx C (mc_qx_push (gl Γ) (gK Γ) σ (3 : Int64)) qx_push_I k_295 (by decide) d_qx_pushEmpty_14 rfl (rest := []) rfl ⟨rfl, Nat.le_of_ble_eq_true rfl⟩ ?_
    exact j_iret C d_qx_pushEmpty_17
  · refine J.neg shT c_1 ?_
    refine j_ldc2 C d_qx_pushEmpty_5 rfl k_318 ?_
    refine j_goto C d_qx_pushEmpty_8 (tgt := 14) (by decide) ?_
    refine cv_qx_qx C (mc_qx_push (gl Γ) (gK Γ) σ (8 : Int64)) qx_push_I k_295 (by decide) d_qx_pushEmpty_14 rfl (rest := []) rfl ⟨rfl, Nat.le_of_ble_eq_true rfl⟩ ?_
    exact j_iret C d_qx_pushEmpty_17
theorem mc_qx_pushEmpty (l : Launch) (K : kk_T) (σ : qx_S) (a1 : Int32) : MC l qx_pushEmpty_y qx_pushEmpty_c 2 (some .int) (1, 22) K (qx_w K) qcl σ [.ref (kq K 0), .int a1] (some (.int (qx_pushEmpty σ a1).1)) (qx_pushEmpty σ a1).2 := mc_of (ov := ovI) (X := shT (qx_pushEmpty σ a1)) (by decide +kernel) (Nat.le_of_ble_eq_true rfl) (fun _ => rfl) rfl (fun Γ e1 e2 C => by subst e1; subst e2; exact w_qx_pushEmpty C σ a1)
theorem qx_pushEmpty_I : ck_V qx_pushEmpty_y qx_pushEmpty_c 2 (some .int) 1 := ⟨k_317, k_96, by decide +kernel, k_315, k_316⟩
theorem w_qx_pushEnvironment {Γ : cx_T} (C : cx_C Γ (qx_w (gK Γ)) qcl qx_R qx_pushEnvironment_c 1 (some .int) (1, 22)) (σ : qx_S)  : J Γ (qx_w (gK Γ)) qcl (QF Γ (qx_w (gK Γ)) qcl ovI) (shT (qx_pushEnvironment σ)) σ 0 [(0, .ref (kq (gK Γ) 0))] [] := by
  unfold qx_pushEnvironment
  refine j_aload_n C d_qx_pushEnvironment_0 rfl 0 rfl ?_
  refine j_bipush C d_qx_pushEnvironment_1 rfl kc_b_7 ?_
  refine j_aload_n C d_qx_pushEnvironment_3 rfl 0 rfl ?_
  refine qx_r_present C k_270 d_qx_pushEnvironment_4 rfl rfl ?_
  refine j_i2l C d_qx_pushEnvironment_7 rfl ?_
  refine cs_qx C (mc_qw_make (gl Γ) (gK Γ) (7 : Int32) (Int32.toInt64 (qx_g_present σ))) qw_make_I k_294 (by decide) d_qx_pushEnvironment_8 rfl (rest := [.ref (kq (gK Γ) 0)]) rfl (Nat.le_of_ble_eq_true rfl) ?_
  refine cv_qx_qx C (mc_qx_push (gl Γ) (gK Γ) σ (qw_make (7 : Int32) (Int32.toInt64 (qx_g_present σ)))) qx_push_I k_295 (by decide) d_qx_pushEnvironment_11 rfl (rest := []) rfl ⟨rfl, Nat.le_of_ble_eq_true rfl⟩ ?_
  exact j_iret C d_qx_pushEnvironment_14
theorem mc_qx_pushEnvironment (l : Launch) (K : kk_T) (σ : qx_S)  : MC l qx_pushEnvironment_y qx_pushEnvironment_c 1 (some .int) (1, 22) K (qx_w K) qcl σ [.ref (kq K 0)] (some (.int (qx_pushEnvironment σ).1)) (qx_pushEnvironment σ).2 := mc_of (ov := ovI) (X := shT (qx_pushEnvironment σ)) (by decide +kernel) (Nat.le_of_ble_eq_true rfl) (fun _ => rfl) rfl (fun Γ e1 e2 C => by subst e1; subst e2; exact w_qx_pushEnvironment C σ)
theorem qx_pushEnvironment_I : ck_V qx_pushEnvironment_y qx_pushEnvironment_c 1 (some .int) 0 := ⟨k_323, k_96, by decide +kernel, k_321, k_322⟩
theorem w_qx_depthError {Γ : cx_T} (C : cx_C Γ (qx_w (gK Γ)) qcl qx_R qx_depthError_c 2 (some .int) (0, 0)) (σ : qx_S) (a1 : Int32) : J Γ (qx_w (gK Γ)) qcl (QF Γ (qx_w (gK Γ)) qcl ovI) ((shP σ) (qx_depthError σ a1)) σ 0 [(0, .ref (kq (gK Γ) 0)), (1, .int a1)] [] := by
  unfold qx_depthError
  refine j_iload_n C d_qx_depthError_0 rfl 1 rfl ?_
  refine j_if_ge C d_qx_depthError_1 (tgt := 6) (by decide) rfl (fun c_1 => ?_) (fun c_1 => ?_)
  · refine J.pos (shP σ) c_1 ?_
    refine j_iload_n C d_qx_depthError_6 rfl 1 rfl ?_
    refine j_aload_n C d_qx_depthError_7 rfl 0 rfl ?_
    refine qx_r_stackSize C k_269 d_qx_depthError_8 rfl rfl ?_
    refine j_icmp_lt C d_qx_depthError_11 (tgt := 19) (by decide) rfl (fun c_2 => ?_) (fun c_2 => ?_)
    · refine J.pos (shP σ) c_2 ?_
      refine j_iconst C d_qx_depthError_19 rfl kc_i_0 ?_
      exact j_iret C d_qx_depthError_20
    · refine J.neg (shP σ) c_2 ?_
      refine j_bipush C d_qx_depthError_14 rfl kc_b_m2 ?_
      refine j_goto C d_qx_depthError_16 (tgt := 20) (by decide) ?_
      exact j_iret C d_qx_depthError_20
  · refine J.neg (shP σ) c_1 ?_
    refine j_iconst C d_qx_depthError_4 rfl kc_i_m1 ?_
    exact j_iret C d_qx_depthError_5
theorem mc_qx_depthError (l : Launch) (K : kk_T) (σ : qx_S) (a1 : Int32) : MC l qx_depthError_y qx_depthError_c 2 (some .int) (0, 0) K (qx_w K) qcl σ [.ref (kq K 0), .int a1] (some (.int (qx_depthError σ a1))) σ := mc_of (ov := ovI) (X := (shP σ) (qx_depthError σ a1)) (by decide +kernel) (Nat.le_of_ble_eq_true rfl) (fun _ => rfl) rfl (fun Γ e1 e2 C => by subst e1; subst e2; exact w_qx_depthError C σ a1)
theorem qx_depthError_I : ck_V qx_depthError_y qx_depthError_c 2 (some .int) 1 := ⟨k_331, k_96, by decide +kernel, k_330, k_5⟩
theorem w_qx_valueAt {Γ : cx_T} (C : cx_C Γ (qx_w (gK Γ)) qcl qx_R qx_valueAt_c 3 (some .long) (0, 0)) (σ : qx_S) (a1 : Int32) : J Γ (qx_w (gK Γ)) qcl (QF Γ (qx_w (gK Γ)) qcl ovL) ((shP σ) (qx_valueAt σ a1)) σ 0 [(0, .ref (kq (gK Γ) 0)), (1, .int a1)] [] := by
  unfold qx_valueAt
  refine j_aload_n C d_qx_valueAt_0 rfl 0 rfl ?_
  refine qx_r_stackSize C k_269 d_qx_valueAt_1 rfl rfl ?_
  refine j_iconst C d_qx_valueAt_4 rfl kc_i_1 ?_
  refine j_isub C d_qx_valueAt_5 rfl ?_
  refine j_iload_n C d_qx_valueAt_6 rfl 1 rfl ?_
  refine j_isub C d_qx_valueAt_7 rfl ?_
  refine j_istore_n C (lv' := [(2, .int (((qx_g_stackSize σ) - (1 : Int32)) - a1)), (0, .ref (kq (gK Γ) 0)), (1, .int a1)]) d_qx_valueAt_8 rfl rfl (by decide) rfl ?_
  refine j_iload_n C d_qx_valueAt_9 rfl 0 rfl ?_
  refine j_if_lt C d_qx_valueAt_10 (tgt := 28) (by decide) rfl (fun c_1 => ?_) (fun c_1 => ?_)
  · refine J.pos (shP σ) c_1 ?_
    refine j_ldc2 C d_qx_valueAt_28 rfl k_319 ?_
    exact j_lret C d_qx_valueAt_31
  · refine J.neg (shP σ) c_1 ?_
    refine j_iload_n C d_qx_valueAt_13 rfl 0 rfl ?_
    refine j_bipush C d_qx_valueAt_14 rfl kc_b_40 ?_
    refine j_icmp_ge C d_qx_valueAt_16 (tgt := 28) (by decide) rfl (fun c_2 => ?_) (fun c_2 => ?_)
    · refine J.pos (shP σ) c_2 ?_
      refine j_ldc2 C d_qx_valueAt_28 rfl k_319 ?_
      exact j_lret C d_qx_valueAt_31
    · refine J.neg (shP σ) c_2 ?_
      refine j_aload_n C d_qx_valueAt_19 rfl 1 rfl ?_
      refine qx_r_stack C k_268 d_qx_valueAt_20 rfl ?_
      refine j_iload_n C d_qx_valueAt_23 rfl 0 rfl ?_
      refine qx_l_stack C (in_a (M := 40) c_1 c_2 (by decide) (Nat.le_of_ble_eq_true rfl)) d_qx_valueAt_24 rfl rfl ?_
      refine j_goto C d_qx_valueAt_25 (tgt := 31) (by decide) ?_
      exact j_lret C d_qx_valueAt_31
theorem mc_qx_valueAt (l : Launch) (K : kk_T) (σ : qx_S) (a1 : Int32) : MC l qx_valueAt_y qx_valueAt_c 3 (some .long) (0, 0) K (qx_w K) qcl σ [.ref (kq K 0), .int a1] (some (.long (qx_valueAt σ a1))) σ := mc_of (ov := ovL) (X := (shP σ) (qx_valueAt σ a1)) (by decide +kernel) (Nat.le_of_ble_eq_true rfl) (fun _ => rfl) rfl (fun Γ e1 e2 C => by subst e1; subst e2; exact w_qx_valueAt C σ a1)
theorem qx_valueAt_I : ck_V qx_valueAt_y qx_valueAt_c 3 (some .long) 1 := ⟨k_335, k_96, by decide +kernel, k_334, k_6⟩
theorem w_qx_pushCopy {Γ : cx_T} (C : cx_C Γ (qx_w (gK Γ)) qcl qx_R qx_pushCopy_c 3 (some .int) (1, 22)) (σ : qx_S) (a1 : Int32) : J Γ (qx_w (gK Γ)) qcl (QF Γ (qx_w (gK Γ)) qcl ovI) (shT (qx_pushCopy σ a1)) σ 0 [(0, .ref (kq (gK Γ) 0)), (1, .int a1)] [] := by
  unfold qx_pushCopy
  refine j_aload_n C d_qx_pushCopy_0 rfl 0 rfl ?_
  refine j_iload_n C d_qx_pushCopy_1 rfl 1 rfl ?_
  refine cvr_qx_qx C (mc_qx_depthError (gl Γ) (gK Γ) σ a1) qx_depthError_I k_328 (by decide) d_qx_pushCopy_2 rfl (rest := []) rfl ⟨rfl, Nat.le_of_ble_eq_true rfl⟩ ?_
  refine j_istore_n C (lv' := [(2, .int (qx_depthError σ a1)), (0, .ref (kq (gK Γ) 0)), (1, .int a1)]) d_qx_pushCopy_5 rfl rfl (by decide) rfl ?_
  refine j_iload_n C d_qx_pushCopy_6 rfl 0 rfl ?_
  refine j_if_eq C d_qx_pushCopy_7 (tgt := 12) (by decide) rfl (fun c_1 => ?_) (fun c_1 => ?_)
  · refine J.pos shT c_1 ?_
    refine j_aload_n C d_qx_pushCopy_12 rfl 1 rfl ?_
    refine j_aload_n C d_qx_pushCopy_13 rfl 1 rfl ?_
    refine j_iload_n C d_qx_pushCopy_14 rfl 2 rfl ?_
    refine cvr_qx_qx C (mc_qx_valueAt (gl Γ) (gK Γ) σ a1) qx_valueAt_I k_332 (by decide) d_qx_pushCopy_15 rfl (rest := [.ref (kq (gK Γ) 0)]) rfl ⟨rfl, Nat.le_of_ble_eq_true rfl⟩ ?_
    refine cv_qx_qx C (mc_qx_push (gl Γ) (gK Γ) σ (qx_valueAt σ a1)) qx_push_I k_295 (by decide) d_qx_pushCopy_18 rfl (rest := []) rfl ⟨rfl, Nat.le_of_ble_eq_true rfl⟩ ?_
    exact j_iret C d_qx_pushCopy_21
  · refine J.neg shT c_1 ?_
    refine j_iload_n C d_qx_pushCopy_10 rfl 0 rfl ?_
    exact j_iret C d_qx_pushCopy_11
theorem mc_qx_pushCopy (l : Launch) (K : kk_T) (σ : qx_S) (a1 : Int32) : MC l qx_pushCopy_y qx_pushCopy_c 3 (some .int) (1, 22) K (qx_w K) qcl σ [.ref (kq K 0), .int a1] (some (.int (qx_pushCopy σ a1).1)) (qx_pushCopy σ a1).2 := mc_of (ov := ovI) (X := shT (qx_pushCopy σ a1)) (by decide +kernel) (Nat.le_of_ble_eq_true rfl) (fun _ => rfl) rfl (fun Γ e1 e2 C => by subst e1; subst e2; exact w_qx_pushCopy C σ a1)
theorem qx_pushCopy_I : ck_V qx_pushCopy_y qx_pushCopy_c 3 (some .int) 1 := ⟨k_327, k_96, by decide +kernel, k_325, k_326⟩
theorem w_qx_pushParent {Γ : cx_T} (C : cx_C Γ (qx_w (gK Γ)) qcl qx_R qx_pushParent_c 3 (some .int) (2, 42)) (σ : qx_S) (a1 : Int32) : J Γ (qx_w (gK Γ)) qcl (QF Γ (qx_w (gK Γ)) qcl ovI) (shT (qx_pushParent σ a1)) σ 0 [(0, .ref (kq (gK Γ) 0)), (1, .int a1)] [] := by
  unfold qx_pushParent
  refine j_aload_n C d_qx_pushParent_0 rfl 0 rfl ?_
  refine qx_r_stackSize C k_269 d_qx_pushParent_1 rfl rfl ?_
  refine j_bipush C d_qx_pushParent_4 rfl kc_b_40 ?_
  refine j_icmp_lt C d_qx_pushParent_6 (tgt := 12) (by decide) rfl (fun c_1 => ?_) (fun c_1 => ?_)
  · refine J.pos shT c_1 ?_
    refine j_aload_n C d_qx_pushParent_12 rfl 0 rfl ?_
    refine qx_r_heap C k_266 d_qx_pushParent_13 rfl ?_
    refine j_iload_n C d_qx_pushParent_16 rfl 1 rfl ?_
    refine cvr_qx_qh C (mc_qh_parentOf (gl Γ) (gK Γ) (qx_gH σ) a1) qh_parentOf_I k_368 (by decide) d_qx_pushParent_17 rfl (rest := []) rfl ⟨rfl, Nat.le_of_ble_eq_true rfl⟩ ?_
    refine j_istore_n C (lv' := [(2, .int (qh_parentOf (qx_gH σ) a1)), (0, .ref (kq (gK Γ) 0)), (1, .int a1)]) d_qx_pushParent_20 rfl rfl (by decide) rfl ?_
    refine j_iload_n C d_qx_pushParent_21 rfl 0 rfl ?_
    refine j_iconst C d_qx_pushParent_22 rfl kc_i_m1 ?_
    refine j_icmp_ne C d_qx_pushParent_23 (tgt := 31) (by decide) rfl (fun c_2 => ?_) (fun c_2 => ?_)
    · refine J.neg shT c_2 ?_
      refine j_aload_n C d_qx_pushParent_31 rfl 1 rfl ?_
      refine j_bipush C d_qx_pushParent_32 rfl kc_b_7 ?_
      refine j_iload_n C d_qx_pushParent_34 rfl 0 rfl ?_
      refine j_i2l C d_qx_pushParent_35 rfl ?_
      refine cs_qx C (mc_qw_make (gl Γ) (gK Γ) (7 : Int32) (Int32.toInt64 (qh_parentOf (qx_gH σ) a1))) qw_make_I k_294 (by decide) d_qx_pushParent_36 rfl (rest := [.ref (kq (gK Γ) 0)]) rfl (Nat.le_of_ble_eq_true rfl) ?_
      refine cv_qx_qx C (mc_qx_push (gl Γ) (gK Γ) σ (qw_make (7 : Int32) (Int32.toInt64 (qh_parentOf (qx_gH σ) a1)))) qx_push_I k_295 (by decide) d_qx_pushParent_39 rfl (rest := []) rfl ⟨rfl, Nat.le_of_ble_eq_true rfl⟩ ?_
      exact j_iret C d_qx_pushParent_42
    · refine J.pos shT c_2 ?_
      refine j_bipush C d_qx_pushParent_26 rfl kc_b_m12 ?_
      refine j_goto C d_qx_pushParent_28 (tgt := 42) (by decide) ?_
      exact j_iret C d_qx_pushParent_42
  · refine J.neg shT c_1 ?_
    refine j_bipush C d_qx_pushParent_9 rfl kc_b_m3 ?_
    exact j_iret C d_qx_pushParent_11
theorem mc_qx_pushParent (l : Launch) (K : kk_T) (σ : qx_S) (a1 : Int32) : MC l qx_pushParent_y qx_pushParent_c 3 (some .int) (2, 42) K (qx_w K) qcl σ [.ref (kq K 0), .int a1] (some (.int (qx_pushParent σ a1).1)) (qx_pushParent σ a1).2 := mc_of (ov := ovI) (X := shT (qx_pushParent σ a1)) (by decide +kernel) (Nat.le_of_ble_eq_true rfl) (fun _ => rfl) rfl (fun Γ e1 e2 C => by subst e1; subst e2; exact w_qx_pushParent C σ a1)
theorem qx_pushParent_I : ck_V qx_pushParent_y qx_pushParent_c 3 (some .int) 1 := ⟨k_367, k_96, by decide +kernel, k_366, k_8⟩
theorem w_qx_pushPart_B11 {Γ : cx_T} (C : cx_C Γ (qx_w (gK Γ)) qcl qx_R qx_pushPart_c 7 (some .int) (3, 64)) (σ : qx_S) (x1 : Int32) (x2 : Int32) : J Γ (qx_w (gK Γ)) qcl (QF Γ (qx_w (gK Γ)) qcl ovI) (shT (qx_pushPart_B11 σ x1 x2)) σ 11 [(0, .ref (kq (gK Γ) 0)), (1, .int x1), (2, .int x2)] [] := by
  unfold qx_pushPart_B11
  refine j_aload_n C d_qx_pushPart_11 rfl 0 rfl ?_
  refine j_iload_n C d_qx_pushPart_12 rfl 1 rfl ?_
  refine cvr_qx_qx C (mc_qx_depthError (gl Γ) (gK Γ) σ x1) qx_depthError_I k_328 (by decide) d_qx_pushPart_13 rfl (rest := []) rfl ⟨rfl, Nat.le_of_ble_eq_true rfl⟩ ?_
  refine j_istore_n C (lv' := [(3, .int (qx_depthError σ x1)), (0, .ref (kq (gK Γ) 0)), (1, .int x1), (2, .int x2)]) d_qx_pushPart_16 rfl rfl (by decide) rfl ?_
  refine j_iload_n C d_qx_pushPart_17 rfl 0 rfl ?_
  refine j_if_eq C d_qx_pushPart_18 (tgt := 23) (by decide) rfl (fun c_3 => ?_) (fun c_3 => ?_)
  · refine J.pos shT c_3 ?_
    refine j_aload_n C d_qx_pushPart_23 rfl 1 rfl ?_
    refine j_iload_n C d_qx_pushPart_24 rfl 2 rfl ?_
    refine cvr_qx_qx C (mc_qx_valueAt (gl Γ) (gK Γ) σ x1) qx_valueAt_I k_332 (by decide) d_qx_pushPart_25 rfl (rest := []) rfl ⟨rfl, Nat.le_of_ble_eq_true rfl⟩ ?_
    refine j_lstore C (lv' := [(4, .long (qx_valueAt σ x1)), (3, .int (qx_depthError σ x1)), (0, .ref (kq (gK Γ) 0)), (1, .int x1), (2, .int x2)]) d_qx_pushPart_28 rfl (by decide) rfl ?_
    refine j_lload C d_qx_pushPart_30 rfl 0 rfl ?_
    refine cs_qx C (mc_qw_kindOf (gl Γ) (gK Γ) (qx_valueAt σ x1)) qw_kindOf_I k_340 (by decide) d_qx_pushPart_32 rfl (rest := []) rfl (Nat.le_of_ble_eq_true rfl) ?_
    refine j_istore C (lv' := [(6, .int (qw_kindOf (qx_valueAt σ x1))), (4, .long (qx_valueAt σ x1)), (3, .int (qx_depthError σ x1)), (0, .ref (kq (gK Γ) 0)), (1, .int x1), (2, .int x2)]) d_qx_pushPart_35 rfl (by decide) rfl ?_
    refine j_iload C d_qx_pushPart_37 rfl 0 rfl ?_
    refine j_iconst C d_qx_pushPart_39 rfl kc_i_4 ?_
    refine j_icmp_ne C d_qx_pushPart_40 (tgt := 73) (by decide) rfl (fun c_4 => ?_) (fun c_4 => ?_)
    · refine J.neg shT c_4 ?_
      refine j_iload_n C d_qx_pushPart_73 rfl 5 rfl ?_
      refine j_if_ne C d_qx_pushPart_74 (tgt := 98) (by decide) rfl (fun c_5 => ?_) (fun c_5 => ?_)
      · refine J.neg shT c_5 ?_
        refine j_iload_n C d_qx_pushPart_98 rfl 5 rfl ?_
        refine j_if_ne C d_qx_pushPart_99 (tgt := 119) (by decide) rfl (fun c_6 => ?_) (fun c_6 => ?_)
        · refine J.neg shT c_6 ?_
          refine j_bipush C d_qx_pushPart_119 rfl kc_b_m4 ?_
          exact j_iret C d_qx_pushPart_121
        · refine J.pos shT c_6 ?_
          refine j_iload C d_qx_pushPart_102 rfl 0 rfl ?_
          refine j_bipush C d_qx_pushPart_104 rfl kc_b_7 ?_
          refine j_icmp_ne C d_qx_pushPart_106 (tgt := 119) (by decide) rfl (fun c_7 => ?_) (fun c_7 => ?_)
          · refine J.neg shT c_7 ?_
            refine j_bipush C d_qx_pushPart_119 rfl kc_b_m4 ?_
            exact j_iret C d_qx_pushPart_121
          · refine J.pos shT c_7 ?_
            refine j_aload_n C d_qx_pushPart_109 rfl 3 rfl ?_
            refine j_lload C d_qx_pushPart_110 rfl 1 rfl ?_
            refine cs_qx C (mc_qw_rowOf (gl Γ) (gK Γ) (qx_valueAt σ x1)) qw_rowOf_I k_363 (by decide) d_qx_pushPart_112 rfl (rest := [.ref (kq (gK Γ) 0)]) rfl (Nat.le_of_ble_eq_true rfl) ?_
            refine cv_qx_qx C (mc_qx_pushParent (gl Γ) (gK Γ) σ (qw_rowOf (qx_valueAt σ x1))) qx_pushParent_I k_364 (by decide) d_qx_pushPart_115 rfl (rest := []) rfl ⟨rfl, Nat.le_of_ble_eq_true rfl⟩ ?_
            exact j_iret C d_qx_pushPart_118
      · refine J.pos shT c_5 ?_
        refine j_iload C d_qx_pushPart_77 rfl 0 rfl ?_
        refine j_bipush C d_qx_pushPart_79 rfl kc_b_6 ?_
        refine j_icmp_ne C d_qx_pushPart_81 (tgt := 98) (by decide) rfl (fun c_8 => ?_) (fun c_8 => ?_)
        · refine J.neg shT c_8 ?_
          refine j_iload_n C d_qx_pushPart_98 rfl 5 rfl ?_
          refine j_if_ne C d_qx_pushPart_99 (tgt := 119) (by decide) rfl (fun c_9 => ?_) (fun c_9 => ?_)
          · refine J.neg shT c_9 ?_
            refine j_bipush C d_qx_pushPart_119 rfl kc_b_m4 ?_
            exact j_iret C d_qx_pushPart_121
          · refine J.pos shT c_9 ?_
            refine j_iload C d_qx_pushPart_102 rfl 0 rfl ?_
            refine j_bipush C d_qx_pushPart_104 rfl kc_b_7 ?_
            refine j_icmp_ne C d_qx_pushPart_106 (tgt := 119) (by decide) rfl (fun c_10 => ?_) (fun c_10 => ?_)
            · refine J.neg shT c_10 ?_
              refine j_bipush C d_qx_pushPart_119 rfl kc_b_m4 ?_
              exact j_iret C d_qx_pushPart_121
            · refine J.pos shT c_10 ?_
              refine j_aload_n C d_qx_pushPart_109 rfl 3 rfl ?_
              refine j_lload C d_qx_pushPart_110 rfl 1 rfl ?_
              refine cs_qx C (mc_qw_rowOf (gl Γ) (gK Γ) (qx_valueAt σ x1)) qw_rowOf_I k_363 (by decide) d_qx_pushPart_112 rfl (rest := [.ref (kq (gK Γ) 0)]) rfl (Nat.le_of_ble_eq_true rfl) ?_
              refine cv_qx_qx C (mc_qx_pushParent (gl Γ) (gK Γ) σ (qw_rowOf (qx_valueAt σ x1))) qx_pushParent_I k_364 (by decide) d_qx_pushPart_115 rfl (rest := []) rfl ⟨rfl, Nat.le_of_ble_eq_true rfl⟩ ?_
              exact j_iret C d_qx_pushPart_118
        · refine J.pos shT c_8 ?_
          refine j_aload_n C d_qx_pushPart_84 rfl 3 rfl ?_
          refine j_aload_n C d_qx_pushPart_85 rfl 3 rfl ?_
          refine qx_r_heap C k_266 d_qx_pushPart_86 rfl ?_
          refine j_lload C d_qx_pushPart_89 rfl 1 rfl ?_
          refine cvr_qx_qh C (mc_qh_underlyingOf (gl Γ) (gK Γ) (qx_gH σ) (qx_valueAt σ x1)) qh_underlyingOf_I k_359 (by decide) d_qx_pushPart_91 rfl (rest := [.ref (kq (gK Γ) 0)]) rfl ⟨rfl, Nat.le_of_ble_eq_true rfl⟩ ?_
          refine cv_qx_qx C (mc_qx_push (gl Γ) (gK Γ) σ (qh_underlyingOf (qx_gH σ) (qx_valueAt σ x1))) qx_push_I k_295 (by decide) d_qx_pushPart_94 rfl (rest := []) rfl ⟨rfl, Nat.le_of_ble_eq_true rfl⟩ ?_
          exact j_iret C d_qx_pushPart_97
    · refine J.pos shT c_4 ?_
      refine j_aload_n C d_qx_pushPart_43 rfl 3 rfl ?_
      refine j_iload_n C d_qx_pushPart_44 rfl 5 rfl ?_
      refine j_if_ne C d_qx_pushPart_45 (tgt := 60) (by decide) rfl (fun c_11 => ?_) (fun c_11 => ?_)
      · refine J.neg shT c_11 ?_
        refine j_aload_n C d_qx_pushPart_60 rfl 3 rfl ?_
        refine qx_r_heap C k_266 d_qx_pushPart_61 rfl ?_
        refine j_lload C d_qx_pushPart_64 rfl 1 rfl ?_
        refine cvr_qx_qh C (mc_qh_cdrOf (gl Γ) (gK Γ) (qx_gH σ) (qx_valueAt σ x1)) qh_cdrOf_I k_355 (by decide) d_qx_pushPart_66 rfl (rest := [.ref (kq (gK Γ) 0)]) rfl ⟨rfl, Nat.le_of_ble_eq_true rfl⟩ ?_
        refine cv_qx_qx C (mc_qx_push (gl Γ) (gK Γ) σ (qh_cdrOf (qx_gH σ) (qx_valueAt σ x1))) qx_push_I k_295 (by decide) d_qx_pushPart_69 rfl (rest := []) rfl ⟨rfl, Nat.le_of_ble_eq_true rfl⟩ ?_
        exact j_iret C d_qx_pushPart_72
      · refine J.pos shT c_11 ?_
        refine j_aload_n C d_qx_pushPart_48 rfl 3 rfl ?_
        refine qx_r_heap C k_266 d_qx_pushPart_49 rfl ?_
        refine j_lload C d_qx_pushPart_52 rfl 1 rfl ?_
        refine cvr_qx_qh C (mc_qh_carOf (gl Γ) (gK Γ) (qx_gH σ) (qx_valueAt σ x1)) qh_carOf_I k_344 (by decide) d_qx_pushPart_54 rfl (rest := [.ref (kq (gK Γ) 0)]) rfl ⟨rfl, Nat.le_of_ble_eq_true rfl⟩ ?_
        refine j_goto C d_qx_pushPart_57 (tgt := 69) (by decide) ?_
        refine cv_qx_qx C (mc_qx_push (gl Γ) (gK Γ) σ (qh_carOf (qx_gH σ) (qx_valueAt σ x1))) qx_push_I k_295 (by decide) d_qx_pushPart_69 rfl (rest := []) rfl ⟨rfl, Nat.le_of_ble_eq_true rfl⟩ ?_
        exact j_iret C d_qx_pushPart_72
  · refine J.neg shT c_3 ?_
    refine j_iload_n C d_qx_pushPart_21 rfl 0 rfl ?_
    exact j_iret C d_qx_pushPart_22
theorem w_qx_pushPart {Γ : cx_T} (C : cx_C Γ (qx_w (gK Γ)) qcl qx_R qx_pushPart_c 7 (some .int) (3, 64)) (σ : qx_S) (a1 : Int32) (a2 : Int32) : J Γ (qx_w (gK Γ)) qcl (QF Γ (qx_w (gK Γ)) qcl ovI) (shT (qx_pushPart σ a1 a2)) σ 0 [(0, .ref (kq (gK Γ) 0)), (1, .int a1), (2, .int a2)] [] := by
  unfold qx_pushPart
  refine j_iload_n C d_qx_pushPart_0 rfl 2 rfl ?_
  refine j_if_eq C d_qx_pushPart_1 (tgt := 11) (by decide) rfl (fun c_1 => ?_) (fun c_1 => ?_)
  · refine J.pos shT c_1 ?_
    refine J.loc (lv' := [(0, .ref (kq (gK Γ) 0)), (1, .int a1), (2, .int a2)]) [0, 1, 2] rfl ?_
    exact w_qx_pushPart_B11 C σ a1 a2
  · refine J.neg shT c_1 ?_
    refine j_iload_n C d_qx_pushPart_4 rfl 2 rfl ?_
    refine j_iconst C d_qx_pushPart_5 rfl kc_i_1 ?_
    refine j_icmp_eq C d_qx_pushPart_6 (tgt := 11) (by decide) rfl (fun c_2 => ?_) (fun c_2 => ?_)
    · refine J.pos shT c_2 ?_
      refine J.loc (lv' := [(0, .ref (kq (gK Γ) 0)), (1, .int a1), (2, .int a2)]) [0, 1, 2] rfl ?_
      exact w_qx_pushPart_B11 C σ a1 a2
    · refine J.neg shT c_2 ?_
      refine j_iconst C d_qx_pushPart_9 rfl kc_i_m1 ?_
      exact j_iret C d_qx_pushPart_10
theorem mc_qx_pushPart (l : Launch) (K : kk_T) (σ : qx_S) (a1 : Int32) (a2 : Int32) : MC l qx_pushPart_y qx_pushPart_c 7 (some .int) (3, 64) K (qx_w K) qcl σ [.ref (kq K 0), .int a1, .int a2] (some (.int (qx_pushPart σ a1 a2).1)) (qx_pushPart σ a1 a2).2 := mc_of (ov := ovI) (X := shT (qx_pushPart σ a1 a2)) (by decide +kernel) (Nat.le_of_ble_eq_true rfl) (fun _ => rfl) rfl (fun Γ e1 e2 C => by subst e1; subst e2; exact w_qx_pushPart C σ a1 a2)
theorem qx_pushPart_I : ck_V qx_pushPart_y qx_pushPart_c 7 (some .int) 2 := ⟨k_339, k_96, by decide +kernel, k_337, k_338⟩
theorem w_qx_kindError {Γ : cx_T} (C : cx_C Γ (qx_w (gK Γ)) qcl qx_R qx_kindError_c 4 (some .int) (1, 22)) (σ : qx_S) (a1 : Int32) (a2 : Int32) : J Γ (qx_w (gK Γ)) qcl (QF Γ (qx_w (gK Γ)) qcl ovI) ((shP σ) (qx_kindError σ a1 a2)) σ 0 [(0, .ref (kq (gK Γ) 0)), (1, .int a1), (2, .int a2)] [] := by
  unfold qx_kindError
  refine j_aload_n C d_qx_kindError_0 rfl 0 rfl ?_
  refine j_iload_n C d_qx_kindError_1 rfl 1 rfl ?_
  refine cvr_qx_qx C (mc_qx_depthError (gl Γ) (gK Γ) σ a1) qx_depthError_I k_328 (by decide) d_qx_kindError_2 rfl (rest := []) rfl ⟨rfl, Nat.le_of_ble_eq_true rfl⟩ ?_
  refine j_istore_n C (lv' := [(3, .int (qx_depthError σ a1)), (0, .ref (kq (gK Γ) 0)), (1, .int a1), (2, .int a2)]) d_qx_kindError_5 rfl rfl (by decide) rfl ?_
  refine j_iload_n C d_qx_kindError_6 rfl 0 rfl ?_
  refine j_if_eq C d_qx_kindError_7 (tgt := 12) (by decide) rfl (fun c_1 => ?_) (fun c_1 => ?_)
  · refine J.pos (shP σ) c_1 ?_
    refine j_aload_n C d_qx_kindError_12 rfl 1 rfl ?_
    refine j_iload_n C d_qx_kindError_13 rfl 2 rfl ?_
    refine cvr_qx_qx C (mc_qx_valueAt (gl Γ) (gK Γ) σ a1) qx_valueAt_I k_332 (by decide) d_qx_kindError_14 rfl (rest := []) rfl ⟨rfl, Nat.le_of_ble_eq_true rfl⟩ ?_
    refine cs_qx C (mc_qw_kindOf (gl Γ) (gK Γ) (qx_valueAt σ a1)) qw_kindOf_I k_340 (by decide) d_qx_kindError_17 rfl (rest := []) rfl (Nat.le_of_ble_eq_true rfl) ?_
    refine j_iload_n C d_qx_kindError_20 rfl 3 rfl ?_
    refine j_icmp_ne C d_qx_kindError_21 (tgt := 28) (by decide) rfl (fun c_2 => ?_) (fun c_2 => ?_)
    · refine J.neg (shP σ) c_2 ?_
      refine j_bipush C d_qx_kindError_28 rfl kc_b_m4 ?_
      exact j_iret C d_qx_kindError_30
    · refine J.pos (shP σ) c_2 ?_
      refine j_iconst C d_qx_kindError_24 rfl kc_i_0 ?_
      refine j_goto C d_qx_kindError_25 (tgt := 30) (by decide) ?_
      exact j_iret C d_qx_kindError_30
  · refine J.neg (shP σ) c_1 ?_
    refine j_iload_n C d_qx_kindError_10 rfl 0 rfl ?_
    exact j_iret C d_qx_kindError_11
theorem mc_qx_kindError (l : Launch) (K : kk_T) (σ : qx_S) (a1 : Int32) (a2 : Int32) : MC l qx_kindError_y qx_kindError_c 4 (some .int) (1, 22) K (qx_w K) qcl σ [.ref (kq K 0), .int a1, .int a2] (some (.int (qx_kindError σ a1 a2))) σ := mc_of (ov := ovI) (X := (shP σ) (qx_kindError σ a1 a2)) (by decide +kernel) (Nat.le_of_ble_eq_true rfl) (fun _ => rfl) rfl (fun Γ e1 e2 C => by subst e1; subst e2; exact w_qx_kindError C σ a1 a2)
theorem qx_kindError_I : ck_V qx_kindError_y qx_kindError_c 4 (some .int) 2 := ⟨k_379, k_96, by decide +kernel, k_378, k_9⟩
theorem w_qx_pushBinding {Γ : cx_T} (C : cx_C Γ (qx_w (gK Γ)) qcl qx_R qx_pushBinding_c 5 (some .int) (4, 93)) (N : Nat) (σ : qx_S) (a1 : Int32) (a2 : Int32) : J Γ (qx_w (gK Γ)) qcl (QF Γ (qx_w (gK Γ)) qcl ovI) (shO (qx_pushBinding N σ a1 a2)) σ 0 [(0, .ref (kq (gK Γ) 0)), (1, .int a1), (2, .int a2)] [] := by
  unfold qx_pushBinding
  refine j_iload_n C d_qx_pushBinding_0 rfl 2 rfl ?_
  refine cs_qx C (mc_qw_isSymbol (gl Γ) (gK Γ) a2) qw_isSymbol_I k_311 (by decide) d_qx_pushBinding_1 rfl (rest := []) rfl (Nat.le_of_ble_eq_true rfl) ?_
  refine j_if_ne C d_qx_pushBinding_4 (tgt := 9) (by decide) rfl (fun c_1 => ?_) (fun c_1 => ?_)
  · refine J.neg shO c_1 ?_
    refine j_aload_n C d_qx_pushBinding_9 rfl 0 rfl ?_
    refine j_iload_n C d_qx_pushBinding_10 rfl 1 rfl ?_
    refine j_bipush C d_qx_pushBinding_11 rfl kc_b_7 ?_
    refine cvr_qx_qx C (mc_qx_kindError (gl Γ) (gK Γ) σ a1 (7 : Int32)) qx_kindError_I k_376 (by decide) d_qx_pushBinding_13 rfl (rest := []) rfl ⟨rfl, Nat.le_of_ble_eq_true rfl⟩ ?_
    refine j_istore_n C (lv' := [(3, .int (qx_kindError σ a1 (7 : Int32))), (0, .ref (kq (gK Γ) 0)), (1, .int a1), (2, .int a2)]) d_qx_pushBinding_16 rfl rfl (by decide) rfl ?_
    refine j_iload_n C d_qx_pushBinding_17 rfl 0 rfl ?_
    refine j_if_eq C d_qx_pushBinding_18 (tgt := 23) (by decide) rfl (fun c_2 => ?_) (fun c_2 => ?_)
    · refine J.pos shO c_2 ?_
      refine j_aload_n C d_qx_pushBinding_23 rfl 1 rfl ?_
      refine qx_r_heap C k_266 d_qx_pushBinding_24 rfl ?_
      refine j_aload_n C d_qx_pushBinding_27 rfl 1 rfl ?_
      refine j_iload_n C d_qx_pushBinding_28 rfl 2 rfl ?_
      refine cvr_qx_qx C (mc_qx_valueAt (gl Γ) (gK Γ) σ a1) qx_valueAt_I k_332 (by decide) d_qx_pushBinding_29 rfl (rest := [.ref (kq (gK Γ) 15)]) rfl ⟨rfl, Nat.le_of_ble_eq_true rfl⟩ ?_
      refine cs_qx C (mc_qw_rowOf (gl Γ) (gK Γ) (qx_valueAt σ a1)) qw_rowOf_I k_363 (by decide) d_qx_pushBinding_32 rfl (rest := [.ref (kq (gK Γ) 15)]) rfl (Nat.le_of_ble_eq_true rfl) ?_
      refine j_iload_n C d_qx_pushBinding_35 rfl 3 rfl ?_
      refine J.goO (fun r3 h_4 => ?_)
      refine cvr_qx_qh C (mc_qh_visibleBinding (gl Γ) (gK Γ) N (qx_gH σ) (qw_rowOf (qx_valueAt σ a1)) a2 r3 h_4) qh_visibleBinding_I k_380 (by decide) d_qx_pushBinding_36 rfl (rest := []) rfl ⟨rfl, Nat.le_of_ble_eq_true rfl⟩ ?_
      refine j_istore C (lv' := [(4, .int r3), (3, .int (qx_kindError σ a1 (7 : Int32))), (0, .ref (kq (gK Γ) 0)), (1, .int a1), (2, .int a2)]) d_qx_pushBinding_39 rfl (by decide) rfl ?_
      refine j_iload C d_qx_pushBinding_41 rfl 0 rfl ?_
      refine j_iconst C d_qx_pushBinding_43 rfl kc_i_m1 ?_
      refine j_icmp_ne C d_qx_pushBinding_44 (tgt := 50) (by decide) rfl (fun c_5 => ?_) (fun c_5 => ?_)
      · refine J.neg shO c_5 ?_
        refine j_aload_n C d_qx_pushBinding_50 rfl 2 rfl ?_
        refine j_aload_n C d_qx_pushBinding_51 rfl 2 rfl ?_
        refine qx_r_heap C k_266 d_qx_pushBinding_52 rfl ?_
        refine j_iload C d_qx_pushBinding_55 rfl 0 rfl ?_
        refine cvr_qx_qh C (mc_qh_boundValueOf (gl Γ) (gK Γ) (qx_gH σ) r3) qh_boundValueOf_I k_396 (by decide) d_qx_pushBinding_57 rfl (rest := [.ref (kq (gK Γ) 0)]) rfl ⟨rfl, Nat.le_of_ble_eq_true rfl⟩ ?_
        refine cv_qx_qx C (mc_qx_push (gl Γ) (gK Γ) σ (qh_boundValueOf (qx_gH σ) r3)) qx_push_I k_295 (by decide) d_qx_pushBinding_60 rfl (rest := []) rfl ⟨rfl, Nat.le_of_ble_eq_true rfl⟩ ?_
        exact j_iret C d_qx_pushBinding_63
      · refine J.pos shO c_5 ?_
        refine j_bipush C d_qx_pushBinding_47 rfl kc_b_m6 ?_
        exact j_iret C d_qx_pushBinding_49
    · refine J.neg shO c_2 ?_
      refine j_iload_n C d_qx_pushBinding_21 rfl 0 rfl ?_
      exact j_iret C d_qx_pushBinding_22
  · refine J.pos shO c_1 ?_
    refine j_iconst C d_qx_pushBinding_7 rfl kc_i_m1 ?_
    exact j_iret C d_qx_pushBinding_8
theorem mc_qx_pushBinding (l : Launch) (K : kk_T) (N : Nat) (σ : qx_S) (a1 : Int32) (a2 : Int32) (r : Int32 × qx_S) (h : qx_pushBinding N σ a1 a2 = some r) : MC l qx_pushBinding_y qx_pushBinding_c 5 (some .int) (4, 93) K (qx_w K) qcl σ [.ref (kq K 0), .int a1, .int a2] (some (.int r.1)) r.2 := mc_of (ov := ovI) (X := shO (qx_pushBinding N σ a1 a2)) (by decide +kernel) (Nat.le_of_ble_eq_true rfl) (fun _ => rfl) (by rw [h]; rfl) (fun Γ e1 e2 C => by subst e1; subst e2; exact w_qx_pushBinding C N σ a1 a2)
theorem qx_pushBinding_I : ck_V qx_pushBinding_y qx_pushBinding_c 5 (some .int) 2 := ⟨k_375, k_96, by decide +kernel, k_373, k_374⟩
theorem w_qx_makePair {Γ : cx_T} (C : cx_C Γ (qx_w (gK Γ)) qcl qx_R qx_makePair_c 2 (some .int) (2, 49)) (σ : qx_S)  : J Γ (qx_w (gK Γ)) qcl (QF Γ (qx_w (gK Γ)) qcl ovI) (shT (qx_makePair σ)) σ 0 [(0, .ref (kq (gK Γ) 0))] [] := by
  unfold qx_makePair
  refine j_aload_n C d_qx_makePair_0 rfl 0 rfl ?_
  refine qx_r_stackSize C k_269 d_qx_makePair_1 rfl rfl ?_
  refine j_iconst C d_qx_makePair_4 rfl kc_i_2 ?_
  refine j_icmp_ge C d_qx_makePair_5 (tgt := 11) (by decide) rfl (fun c_1 => ?_) (fun c_1 => ?_)
  · refine J.pos shT c_1 ?_
    refine j_aload_n C d_qx_makePair_11 rfl 0 rfl ?_
    refine qx_r_heap C k_266 d_qx_makePair_12 rfl ?_
    refine j_aload_n C d_qx_makePair_15 rfl 0 rfl ?_
    refine j_iconst C d_qx_makePair_16 rfl kc_i_1 ?_
    refine cvr_qx_qx C (mc_qx_valueAt (gl Γ) (gK Γ) σ (1 : Int32)) qx_valueAt_I k_332 (by decide) d_qx_makePair_17 rfl (rest := [.ref (kq (gK Γ) 15)]) rfl ⟨rfl, Nat.le_of_ble_eq_true rfl⟩ ?_
    refine j_aload_n C d_qx_makePair_20 rfl 0 rfl ?_
    refine j_iconst C d_qx_makePair_21 rfl kc_i_0 ?_
    refine cvr_qx_qx C (mc_qx_valueAt (gl Γ) (gK Γ) σ (0 : Int32)) qx_valueAt_I k_332 (by decide) d_qx_makePair_22 rfl (rest := [.long (qx_valueAt σ (1 : Int32)), .ref (kq (gK Γ) 15)]) rfl ⟨rfl, Nat.le_of_ble_eq_true rfl⟩ ?_
    refine cv_qx_qh C (mc_qh_addPair (gl Γ) (gK Γ) (qx_gH σ) (qx_valueAt σ (1 : Int32)) (qx_valueAt σ (0 : Int32))) qh_addPair_I k_404 (by decide) d_qx_makePair_25 rfl (rest := []) rfl ⟨rfl, Nat.le_of_ble_eq_true rfl⟩ ?_
    refine j_istore_n C (lv' := [(1, .int (qh_addPair (qx_gH σ) (qx_valueAt σ (1 : Int32)) (qx_valueAt σ (0 : Int32))).1), (0, .ref (kq (gK Γ) 0))]) d_qx_makePair_28 rfl rfl (by decide) rfl ?_
    refine j_iload_n C d_qx_makePair_29 rfl 0 rfl ?_
    refine j_iconst C d_qx_makePair_30 rfl kc_i_m1 ?_
    refine j_icmp_ne C d_qx_makePair_31 (tgt := 37) (by decide) rfl (fun c_2 => ?_) (fun c_2 => ?_)
    · refine J.neg shT c_2 ?_
      refine j_aload_n C d_qx_makePair_37 rfl 1 rfl ?_
      refine j_dup C d_qx_makePair_38 rfl rfl ?_
      refine qx_r_stackSize C k_269 d_qx_makePair_39 rfl (x := (qx_g_stackSize σ)) (gs_qx_stackSize_u_H _ _) ?_
      refine j_iconst C d_qx_makePair_42 rfl kc_i_2 ?_
      refine j_isub C d_qx_makePair_43 rfl ?_
      refine qx_p_stackSize C k_269 d_qx_makePair_44 rfl ?_
      refine j_aload_n C d_qx_makePair_47 rfl 1 rfl ?_
      refine j_iconst C d_qx_makePair_48 rfl kc_i_4 ?_
      refine j_iload_n C d_qx_makePair_49 rfl 0 rfl ?_
      refine j_i2l C d_qx_makePair_50 rfl ?_
      refine cs_qx C (mc_qw_make (gl Γ) (gK Γ) (4 : Int32) (Int32.toInt64 (qh_addPair (qx_gH σ) (qx_valueAt σ (1 : Int32)) (qx_valueAt σ (0 : Int32))).1)) qw_make_I k_294 (by decide) d_qx_makePair_51 rfl (rest := [.ref (kq (gK Γ) 0)]) rfl (Nat.le_of_ble_eq_true rfl) ?_
      refine cv_qx_qx C (mc_qx_push (gl Γ) (gK Γ) (qx_s_stackSize (qx_sH σ (qh_addPair (qx_gH σ) (qx_valueAt σ (1 : Int32)) (qx_valueAt σ (0 : Int32))).2) ((qx_g_stackSize σ) - (2 : Int32))) (qw_make (4 : Int32) (Int32.toInt64 (qh_addPair (qx_gH σ) (qx_valueAt σ (1 : Int32)) (qx_valueAt σ (0 : Int32))).1))) qx_push_I k_295 (by decide) d_qx_makePair_54 rfl (rest := []) rfl ⟨rfl, Nat.le_of_ble_eq_true rfl⟩ ?_
      exact j_iret C d_qx_makePair_57
    · refine J.pos shT c_2 ?_
      refine j_bipush C d_qx_makePair_34 rfl kc_b_m5 ?_
      exact j_iret C d_qx_makePair_36
  · refine J.neg shT c_1 ?_
    refine j_bipush C d_qx_makePair_8 rfl kc_b_m2 ?_
    exact j_iret C d_qx_makePair_10
theorem mc_qx_makePair (l : Launch) (K : kk_T) (σ : qx_S)  : MC l qx_makePair_y qx_makePair_c 2 (some .int) (2, 49) K (qx_w K) qcl σ [.ref (kq K 0)] (some (.int (qx_makePair σ).1)) (qx_makePair σ).2 := mc_of (ov := ovI) (X := shT (qx_makePair σ)) (by decide +kernel) (Nat.le_of_ble_eq_true rfl) (fun _ => rfl) rfl (fun Γ e1 e2 C => by subst e1; subst e2; exact w_qx_makePair C σ)
theorem qx_makePair_I : ck_V qx_makePair_y qx_makePair_c 2 (some .int) 0 := ⟨k_403, k_96, by decide +kernel, k_401, k_402⟩
theorem w_qx_countError {Γ : cx_T} (C : cx_C Γ (qx_w (gK Γ)) qcl qx_R qx_countError_c 2 (some .int) (0, 0)) (σ : qx_S) (a1 : Int32) : J Γ (qx_w (gK Γ)) qcl (QF Γ (qx_w (gK Γ)) qcl ovI) ((shP σ) (qx_countError σ a1)) σ 0 [(0, .ref (kq (gK Γ) 0)), (1, .int a1)] [] := by
  unfold qx_countError
  refine j_iload_n C d_qx_countError_0 rfl 1 rfl ?_
  refine j_if_lt C d_qx_countError_1 (tgt := 10) (by decide) rfl (fun c_1 => ?_) (fun c_1 => ?_)
  · refine J.pos (shP σ) c_1 ?_
    refine j_iconst C d_qx_countError_10 rfl kc_i_m1 ?_
    exact j_iret C d_qx_countError_11
  · refine J.neg (shP σ) c_1 ?_
    refine j_iload_n C d_qx_countError_4 rfl 1 rfl ?_
    refine j_bipush C d_qx_countError_5 rfl kc_b_40 ?_
    refine j_icmp_le C d_qx_countError_7 (tgt := 12) (by decide) rfl (fun c_2 => ?_) (fun c_2 => ?_)
    · refine J.pos (shP σ) c_2 ?_
      refine j_iload_n C d_qx_countError_12 rfl 1 rfl ?_
      refine j_aload_n C d_qx_countError_13 rfl 0 rfl ?_
      refine qx_r_stackSize C k_269 d_qx_countError_14 rfl rfl ?_
      refine j_icmp_le C d_qx_countError_17 (tgt := 25) (by decide) rfl (fun c_3 => ?_) (fun c_3 => ?_)
      · refine J.pos (shP σ) c_3 ?_
        refine j_iconst C d_qx_countError_25 rfl kc_i_0 ?_
        exact j_iret C d_qx_countError_26
      · refine J.neg (shP σ) c_3 ?_
        refine j_bipush C d_qx_countError_20 rfl kc_b_m2 ?_
        refine j_goto C d_qx_countError_22 (tgt := 26) (by decide) ?_
        exact j_iret C d_qx_countError_26
    · refine J.neg (shP σ) c_2 ?_
      refine j_iconst C d_qx_countError_10 rfl kc_i_m1 ?_
      exact j_iret C d_qx_countError_11
theorem mc_qx_countError (l : Launch) (K : kk_T) (σ : qx_S) (a1 : Int32) : MC l qx_countError_y qx_countError_c 2 (some .int) (0, 0) K (qx_w K) qcl σ [.ref (kq K 0), .int a1] (some (.int (qx_countError σ a1))) σ := mc_of (ov := ovI) (X := (shP σ) (qx_countError σ a1)) (by decide +kernel) (Nat.le_of_ble_eq_true rfl) (fun _ => rfl) rfl (fun Γ e1 e2 C => by subst e1; subst e2; exact w_qx_countError C σ a1)
theorem qx_countError_I : ck_V qx_countError_y qx_countError_c 2 (some .int) 1 := ⟨k_419, k_96, by decide +kernel, k_418, k_12⟩
theorem w_qx_makeList_L33 {Γ : cx_T} (C : cx_C Γ (qx_w (gK Γ)) qcl qx_R qx_makeList_c 6 (some .int) (2, 49)) (N : Nat) : ∀ (k : Nat) (σ : qx_S) (x1 : Int32) (x3 : Int64) (x5 : Int32), J Γ (qx_w (gK Γ)) qcl (QF Γ (qx_w (gK Γ)) qcl ovI) (shO (qx_makeList_L33 N k σ x1 x3 x5)) σ 33 [(0, .ref (kq (gK Γ) 0)), (1, .int x1), (3, .long x3), (5, .int x5)] [] := by
  intro k
  induction k with
  | zero => intro σ x1 x3 x5; exact J.none rfl
  | succ k ih =>
    intro σ x1 x3 x5
    rw [qx_makeList_L33]
    refine j_iload C d_qx_makeList_33 rfl 3 rfl ?_
    refine j_iload_n C d_qx_makeList_35 rfl 1 rfl ?_
    refine j_icmp_ge C d_qx_makeList_36 (tgt := 65) (by decide) rfl (fun c_3 => ?_) (fun c_3 => ?_)
    · refine J.pos shO c_3 ?_
      refine j_aload_n C d_qx_makeList_65 rfl 0 rfl ?_
      refine j_dup C d_qx_makeList_66 rfl rfl ?_
      refine qx_r_stackSize C k_269 d_qx_makeList_67 rfl rfl ?_
      refine j_iload_n C d_qx_makeList_70 rfl 1 rfl ?_
      refine j_isub C d_qx_makeList_71 rfl ?_
      refine qx_p_stackSize C k_269 d_qx_makeList_72 rfl ?_
      refine j_aload_n C d_qx_makeList_75 rfl 0 rfl ?_
      refine j_lload_n C d_qx_makeList_76 rfl 2 rfl ?_
      refine cv_qx_qx C (mc_qx_push (gl Γ) (gK Γ) (qx_s_stackSize σ ((qx_g_stackSize σ) - x1)) x3) qx_push_I k_295 (by decide) d_qx_makeList_77 rfl (rest := []) rfl ⟨rfl, Nat.le_of_ble_eq_true rfl⟩ ?_
      exact j_iret C d_qx_makeList_80
    · refine J.neg shO c_3 ?_
      refine j_iconst C d_qx_makeList_39 rfl kc_i_4 ?_
      refine j_aload_n C d_qx_makeList_40 rfl 0 rfl ?_
      refine qx_r_heap C k_266 d_qx_makeList_41 rfl ?_
      refine j_aload_n C d_qx_makeList_44 rfl 0 rfl ?_
      refine j_iload C d_qx_makeList_45 rfl 3 rfl ?_
      refine cvr_qx_qx C (mc_qx_valueAt (gl Γ) (gK Γ) σ x5) qx_valueAt_I k_332 (by decide) d_qx_makeList_47 rfl (rest := [.ref (kq (gK Γ) 15), .int (4 : Int32)]) rfl ⟨rfl, Nat.le_of_ble_eq_true rfl⟩ ?_
      refine j_lload_n C d_qx_makeList_50 rfl 2 rfl ?_
      refine cv_qx_qh C (mc_qh_addPair (gl Γ) (gK Γ) (qx_gH σ) (qx_valueAt σ x5) x3) qh_addPair_I k_404 (by decide) d_qx_makeList_51 rfl (rest := [.int (4 : Int32)]) rfl ⟨rfl, Nat.le_of_ble_eq_true rfl⟩ ?_
      refine j_i2l C d_qx_makeList_54 rfl ?_
      refine cs_qx C (mc_qw_make (gl Γ) (gK Γ) (4 : Int32) (Int32.toInt64 (qh_addPair (qx_gH σ) (qx_valueAt σ x5) x3).1)) qw_make_I k_294 (by decide) d_qx_makeList_55 rfl (rest := []) rfl (Nat.le_of_ble_eq_true rfl) ?_
      refine j_lstore_n C (lv' := [(3, .long (qw_make (4 : Int32) (Int32.toInt64 (qh_addPair (qx_gH σ) (qx_valueAt σ x5) x3).1))), (0, .ref (kq (gK Γ) 0)), (1, .int x1), (5, .int x5)]) d_qx_makeList_58 rfl rfl (by decide) rfl ?_
      refine j_iinc C (v := (x5 + (1 : Int32))) (lv' := [(5, .int (x5 + (1 : Int32))), (3, .long (qw_make (4 : Int32) (Int32.toInt64 (qh_addPair (qx_gH σ) (qx_valueAt σ x5) x3).1))), (0, .ref (kq (gK Γ) 0)), (1, .int x1)]) d_qx_makeList_59 rfl 3 rfl (kc_inc_1 _) (by decide) rfl ?_
      refine j_goto C d_qx_makeList_62 (tgt := 33) (by decide) ?_
      refine J.loc (lv' := [(0, .ref (kq (gK Γ) 0)), (1, .int x1), (3, .long (qw_make (4 : Int32) (Int32.toInt64 (qh_addPair (qx_gH σ) (qx_valueAt σ x5) x3).1))), (5, .int (x5 + (1 : Int32)))]) [2, 3, 1, 0] rfl ?_
      exact ih (qx_sH σ (qh_addPair (qx_gH σ) (qx_valueAt σ x5) x3).2) x1 (qw_make (4 : Int32) (Int32.toInt64 (qh_addPair (qx_gH σ) (qx_valueAt σ x5) x3).1)) (x5 + (1 : Int32))
theorem w_qx_makeList {Γ : cx_T} (C : cx_C Γ (qx_w (gK Γ)) qcl qx_R qx_makeList_c 6 (some .int) (2, 49)) (N : Nat) (σ : qx_S) (a1 : Int32) : J Γ (qx_w (gK Γ)) qcl (QF Γ (qx_w (gK Γ)) qcl ovI) (shO (qx_makeList N σ a1)) σ 0 [(0, .ref (kq (gK Γ) 0)), (1, .int a1)] [] := by
  unfold qx_makeList
  refine j_aload_n C d_qx_makeList_0 rfl 0 rfl ?_
  refine j_iload_n C d_qx_makeList_1 rfl 1 rfl ?_
  refine cvr_qx_qx C (mc_qx_countError (gl Γ) (gK Γ) σ a1) qx_countError_I k_416 (by decide) d_qx_makeList_2 rfl (rest := []) rfl ⟨rfl, Nat.le_of_ble_eq_true rfl⟩ ?_
  refine j_istore_n C (lv' := [(2, .int (qx_countError σ a1)), (0, .ref (kq (gK Γ) 0)), (1, .int a1)]) d_qx_makeList_5 rfl rfl (by decide) rfl ?_
  refine j_iload_n C d_qx_makeList_6 rfl 0 rfl ?_
  refine j_if_eq C d_qx_makeList_7 (tgt := 12) (by decide) rfl (fun c_1 => ?_) (fun c_1 => ?_)
  · refine J.pos shO c_1 ?_
    refine j_aload_n C d_qx_makeList_12 rfl 1 rfl ?_
    refine qx_r_heap C k_266 d_qx_makeList_13 rfl ?_
    refine j_iload_n C d_qx_makeList_16 rfl 2 rfl ?_
    refine cvr_qx_qh C (mc_qh_hasRoomFor (gl Γ) (gK Γ) (qx_gH σ) a1) qh_hasRoomFor_I k_420 (by decide) d_qx_makeList_17 rfl (rest := []) rfl ⟨rfl, Nat.le_of_ble_eq_true rfl⟩ ?_
    refine j_if_ne C d_qx_makeList_20 (tgt := 26) (by decide) rfl (fun c_2 => ?_) (fun c_2 => ?_)
    · refine J.neg shO c_2 ?_
      refine j_ldc2 C d_qx_makeList_26 rfl k_319 ?_
      refine j_lstore_n C (lv' := [(3, .long (3 : Int64)), (2, .int (qx_countError σ a1)), (0, .ref (kq (gK Γ) 0)), (1, .int a1)]) d_qx_makeList_29 rfl rfl (by decide) rfl ?_
      refine j_iconst C d_qx_makeList_30 rfl kc_i_0 ?_
      refine j_istore C (lv' := [(5, .int (0 : Int32)), (3, .long (3 : Int64)), (2, .int (qx_countError σ a1)), (0, .ref (kq (gK Γ) 0)), (1, .int a1)]) d_qx_makeList_31 rfl (by decide) rfl ?_
      refine J.loc (lv' := [(0, .ref (kq (gK Γ) 0)), (1, .int a1), (3, .long (3 : Int64)), (5, .int (0 : Int32))]) [3, 4, 1, 0] rfl ?_
      exact w_qx_makeList_L33 C N N σ a1 (3 : Int64) (0 : Int32)
    · refine J.pos shO c_2 ?_
      refine j_bipush C d_qx_makeList_23 rfl kc_b_m5 ?_
      exact j_iret C d_qx_makeList_25
  · refine J.neg shO c_1 ?_
    refine j_iload_n C d_qx_makeList_10 rfl 0 rfl ?_
    exact j_iret C d_qx_makeList_11
theorem mc_qx_makeList (l : Launch) (K : kk_T) (N : Nat) (σ : qx_S) (a1 : Int32) (r : Int32 × qx_S) (h : qx_makeList N σ a1 = some r) : MC l qx_makeList_y qx_makeList_c 6 (some .int) (2, 49) K (qx_w K) qcl σ [.ref (kq K 0), .int a1] (some (.int r.1)) r.2 := mc_of (ov := ovI) (X := shO (qx_makeList N σ a1)) (by decide +kernel) (Nat.le_of_ble_eq_true rfl) (fun _ => rfl) (by rw [h]; rfl) (fun Γ e1 e2 C => by subst e1; subst e2; exact w_qx_makeList C N σ a1)
theorem qx_makeList_I : ck_V qx_makeList_y qx_makeList_c 6 (some .int) 1 := ⟨k_415, k_96, by decide +kernel, k_413, k_414⟩
theorem w_qx_drop {Γ : cx_T} (C : cx_C Γ (qx_w (gK Γ)) qcl qx_R qx_drop_c 3 (some .int) (1, 21)) (σ : qx_S) (a1 : Int32) : J Γ (qx_w (gK Γ)) qcl (QF Γ (qx_w (gK Γ)) qcl ovI) (shT (qx_drop σ a1)) σ 0 [(0, .ref (kq (gK Γ) 0)), (1, .int a1)] [] := by
  unfold qx_drop
  refine j_aload_n C d_qx_drop_0 rfl 0 rfl ?_
  refine j_iload_n C d_qx_drop_1 rfl 1 rfl ?_
  refine cvr_qx_qx C (mc_qx_countError (gl Γ) (gK Γ) σ a1) qx_countError_I k_416 (by decide) d_qx_drop_2 rfl (rest := []) rfl ⟨rfl, Nat.le_of_ble_eq_true rfl⟩ ?_
  refine j_istore_n C (lv' := [(2, .int (qx_countError σ a1)), (0, .ref (kq (gK Γ) 0)), (1, .int a1)]) d_qx_drop_5 rfl rfl (by decide) rfl ?_
  refine j_iload_n C d_qx_drop_6 rfl 0 rfl ?_
  refine j_if_eq C d_qx_drop_7 (tgt := 12) (by decide) rfl (fun c_1 => ?_) (fun c_1 => ?_)
  · refine J.pos shT c_1 ?_
    refine j_aload_n C d_qx_drop_12 rfl 1 rfl ?_
    refine j_dup C d_qx_drop_13 rfl rfl ?_
    refine qx_r_stackSize C k_269 d_qx_drop_14 rfl rfl ?_
    refine j_iload_n C d_qx_drop_17 rfl 2 rfl ?_
    refine j_isub C d_qx_drop_18 rfl ?_
    refine qx_p_stackSize C k_269 d_qx_drop_19 rfl ?_
    refine j_aload_n C d_qx_drop_22 rfl 1 rfl ?_
    refine qx_r_stackSize C k_269 d_qx_drop_23 rfl (x := ((qx_g_stackSize σ) - a1)) (gv_qx_stackSize _ _) ?_
    exact j_iret C d_qx_drop_26
  · refine J.neg shT c_1 ?_
    refine j_iload_n C d_qx_drop_10 rfl 0 rfl ?_
    exact j_iret C d_qx_drop_11
theorem mc_qx_drop (l : Launch) (K : kk_T) (σ : qx_S) (a1 : Int32) : MC l qx_drop_y qx_drop_c 3 (some .int) (1, 21) K (qx_w K) qcl σ [.ref (kq K 0), .int a1] (some (.int (qx_drop σ a1).1)) (qx_drop σ a1).2 := mc_of (ov := ovI) (X := shT (qx_drop σ a1)) (by decide +kernel) (Nat.le_of_ble_eq_true rfl) (fun _ => rfl) rfl (fun Γ e1 e2 C => by subst e1; subst e2; exact w_qx_drop C σ a1)
theorem qx_drop_I : ck_V qx_drop_y qx_drop_c 3 (some .int) 1 := ⟨k_427, k_96, by decide +kernel, k_425, k_426⟩
theorem w_qx_reset {Γ : cx_T} (C : cx_C Γ (qx_w (gK Γ)) qcl qx_R qx_reset_c 2 (some .int) (4, 87)) (N : Nat) (σ : qx_S)  : J Γ (qx_w (gK Γ)) qcl (QF Γ (qx_w (gK Γ)) qcl ovI) (shO (qx_reset N σ)) σ 0 [(0, .ref (kq (gK Γ) 0))] [] := by
  unfold qx_reset
  refine j_aload_n C d_qx_reset_0 rfl 0 rfl ?_
  refine qx_r_heap C k_266 d_qx_reset_1 rfl ?_
  refine cvr_qx_qh C (mc_qh_objectCount (gl Γ) (gK Γ) (qx_gH σ)) qh_objectCount_I k_432 (by decide) d_qx_reset_4 rfl (rest := []) rfl ⟨rfl, Nat.le_of_ble_eq_true rfl⟩ ?_
  refine j_istore_n C (lv' := [(1, .int (qh_objectCount (qx_gH σ))), (0, .ref (kq (gK Γ) 0))]) d_qx_reset_7 rfl rfl (by decide) rfl ?_
  refine j_aload_n C d_qx_reset_8 rfl 1 rfl ?_
  refine qx_r_heap C k_266 d_qx_reset_9 rfl ?_
  refine J.goO (fun r1 h_2 => ?_)
  refine cv0_qx_qh C (mc_qh_restoreGround (gl Γ) (gK Γ) N (qx_gH σ) r1 h_2) qh_restoreGround_I k_436 (by decide) d_qx_reset_12 rfl (rest := []) rfl ⟨rfl, Nat.le_of_ble_eq_true rfl⟩ ?_
  refine j_aload_n C d_qx_reset_15 rfl 1 rfl ?_
  refine qx_r_machine C k_267 d_qx_reset_16 rfl ?_
  refine cv0_qx_qn C (mc_qn_forget (gl Γ) (gK Γ) (qx_gN (qx_sH σ r1))) qn_forget_I k_437 (by decide) d_qx_reset_19 rfl (rest := []) rfl ⟨rfl, Nat.le_of_ble_eq_true rfl⟩ ?_
  refine j_aload_n C d_qx_reset_22 rfl 1 rfl ?_
  refine j_iconst C d_qx_reset_23 rfl kc_i_0 ?_
  refine qx_p_stackSize C k_269 d_qx_reset_24 rfl ?_
  refine j_aload_n C d_qx_reset_27 rfl 1 rfl ?_
  refine j_iconst C d_qx_reset_28 rfl kc_i_1 ?_
  refine qx_p_present C k_270 d_qx_reset_29 rfl ?_
  refine j_aload_n C d_qx_reset_32 rfl 1 rfl ?_
  refine j_sipush C d_qx_reset_33 rfl kc_s_1000 ?_
  refine qx_p_limit C k_271 d_qx_reset_36 rfl ?_
  refine j_iload_n C d_qx_reset_39 rfl 0 rfl ?_
  exact j_iret C d_qx_reset_40
theorem mc_qx_reset (l : Launch) (K : kk_T) (N : Nat) (σ : qx_S)  (r : Int32 × qx_S) (h : qx_reset N σ = some r) : MC l qx_reset_y qx_reset_c 2 (some .int) (4, 87) K (qx_w K) qcl σ [.ref (kq K 0)] (some (.int r.1)) r.2 := mc_of (ov := ovI) (X := shO (qx_reset N σ)) (by decide +kernel) (Nat.le_of_ble_eq_true rfl) (fun _ => rfl) (by rw [h]; rfl) (fun Γ e1 e2 C => by subst e1; subst e2; exact w_qx_reset C N σ)
theorem qx_reset_I : ck_V qx_reset_y qx_reset_c 2 (some .int) 0 := ⟨k_431, k_96, by decide +kernel, k_429, k_430⟩
theorem w_qx_size {Γ : cx_T} (C : cx_C Γ (qx_w (gK Γ)) qcl qx_R qx_size_c 1 (some .int) (0, 0)) (σ : qx_S)  : J Γ (qx_w (gK Γ)) qcl (QF Γ (qx_w (gK Γ)) qcl ovI) ((shP σ) (qx_size σ)) σ 0 [(0, .ref (kq (gK Γ) 0))] [] := by
  unfold qx_size
  refine j_aload_n C d_qx_size_0 rfl 0 rfl ?_
  refine qx_r_stackSize C k_269 d_qx_size_1 rfl rfl ?_
  exact j_iret C d_qx_size_4
theorem mc_qx_size (l : Launch) (K : kk_T) (σ : qx_S)  : MC l qx_size_y qx_size_c 1 (some .int) (0, 0) K (qx_w K) qcl σ [.ref (kq K 0)] (some (.int (qx_size σ))) σ := mc_of (ov := ovI) (X := (shP σ) (qx_size σ)) (by decide +kernel) (Nat.le_of_ble_eq_true rfl) (fun _ => rfl) rfl (fun Γ e1 e2 C => by subst e1; subst e2; exact w_qx_size C σ)
theorem qx_size_I : ck_V qx_size_y qx_size_c 1 (some .int) 0 := ⟨k_441, k_96, by decide +kernel, k_439, k_440⟩
theorem w_qx_kind {Γ : cx_T} (C : cx_C Γ (qx_w (gK Γ)) qcl qx_R qx_kind_c 3 (some .int) (1, 22)) (σ : qx_S) (a1 : Int32) : J Γ (qx_w (gK Γ)) qcl (QF Γ (qx_w (gK Γ)) qcl ovI) ((shP σ) (qx_kind σ a1)) σ 0 [(0, .ref (kq (gK Γ) 0)), (1, .int a1)] [] := by
  unfold qx_kind
  refine j_aload_n C d_qx_kind_0 rfl 0 rfl ?_
  refine j_iload_n C d_qx_kind_1 rfl 1 rfl ?_
  refine cvr_qx_qx C (mc_qx_depthError (gl Γ) (gK Γ) σ a1) qx_depthError_I k_328 (by decide) d_qx_kind_2 rfl (rest := []) rfl ⟨rfl, Nat.le_of_ble_eq_true rfl⟩ ?_
  refine j_istore_n C (lv' := [(2, .int (qx_depthError σ a1)), (0, .ref (kq (gK Γ) 0)), (1, .int a1)]) d_qx_kind_5 rfl rfl (by decide) rfl ?_
  refine j_iload_n C d_qx_kind_6 rfl 0 rfl ?_
  refine j_if_eq C d_qx_kind_7 (tgt := 14) (by decide) rfl (fun c_1 => ?_) (fun c_1 => ?_)
  · refine J.pos (shP σ) c_1 ?_
    refine j_aload_n C d_qx_kind_14 rfl 1 rfl ?_
    refine j_iload_n C d_qx_kind_15 rfl 2 rfl ?_
    refine cvr_qx_qx C (mc_qx_valueAt (gl Γ) (gK Γ) σ a1) qx_valueAt_I k_332 (by decide) d_qx_kind_16 rfl (rest := []) rfl ⟨rfl, Nat.le_of_ble_eq_true rfl⟩ ?_
    refine cs_qx C (mc_qw_kindOf (gl Γ) (gK Γ) (qx_valueAt σ a1)) qw_kindOf_I k_340 (by decide) d_qx_kind_19 rfl (rest := []) rfl (Nat.le_of_ble_eq_true rfl) ?_
    exact j_iret C d_qx_kind_22
  · refine J.neg (shP σ) c_1 ?_
    refine j_iload_n C d_qx_kind_10 rfl 0 rfl ?_
    refine j_goto C d_qx_kind_11 (tgt := 22) (by decide) ?_
    exact j_iret C d_qx_kind_22
theorem mc_qx_kind (l : Launch) (K : kk_T) (σ : qx_S) (a1 : Int32) : MC l qx_kind_y qx_kind_c 3 (some .int) (1, 22) K (qx_w K) qcl σ [.ref (kq K 0), .int a1] (some (.int (qx_kind σ a1))) σ := mc_of (ov := ovI) (X := (shP σ) (qx_kind σ a1)) (by decide +kernel) (Nat.le_of_ble_eq_true rfl) (fun _ => rfl) rfl (fun Γ e1 e2 C => by subst e1; subst e2; exact w_qx_kind C σ a1)
theorem qx_kind_I : ck_V qx_kind_y qx_kind_c 3 (some .int) 1 := ⟨k_445, k_96, by decide +kernel, k_443, k_444⟩
theorem w_qx_value {Γ : cx_T} (C : cx_C Γ (qx_w (gK Γ)) qcl qx_R qx_value_c 6 (some .long) (1, 22)) (σ : qx_S) (a1 : Int32) : J Γ (qx_w (gK Γ)) qcl (QF Γ (qx_w (gK Γ)) qcl ovL) ((shP σ) (qx_value σ a1)) σ 0 [(0, .ref (kq (gK Γ) 0)), (1, .int a1)] [] := by
  unfold qx_value
  refine j_aload_n C d_qx_value_0 rfl 0 rfl ?_
  refine j_iload_n C d_qx_value_1 rfl 1 rfl ?_
  refine cvr_qx_qx C (mc_qx_depthError (gl Γ) (gK Γ) σ a1) qx_depthError_I k_328 (by decide) d_qx_value_2 rfl (rest := []) rfl ⟨rfl, Nat.le_of_ble_eq_true rfl⟩ ?_
  refine j_if_eq C d_qx_value_5 (tgt := 12) (by decide) rfl (fun c_1 => ?_) (fun c_1 => ?_)
  · refine J.pos (shP σ) c_1 ?_
    refine j_aload_n C d_qx_value_12 rfl 0 rfl ?_
    refine j_iload_n C d_qx_value_13 rfl 1 rfl ?_
    refine cvr_qx_qx C (mc_qx_valueAt (gl Γ) (gK Γ) σ a1) qx_valueAt_I k_332 (by decide) d_qx_value_14 rfl (rest := []) rfl ⟨rfl, Nat.le_of_ble_eq_true rfl⟩ ?_
    refine j_lstore_n C (lv' := [(2, .long (qx_valueAt σ a1)), (0, .ref (kq (gK Γ) 0)), (1, .int a1)]) d_qx_value_17 rfl rfl (by decide) rfl ?_
    refine j_lload_n C d_qx_value_18 rfl 0 rfl ?_
    refine cs_qx C (mc_qw_kindOf (gl Γ) (gK Γ) (qx_valueAt σ a1)) qw_kindOf_I k_340 (by decide) d_qx_value_19 rfl (rest := []) rfl (Nat.le_of_ble_eq_true rfl) ?_
    refine j_istore C (lv' := [(4, .int (qw_kindOf (qx_valueAt σ a1))), (2, .long (qx_valueAt σ a1)), (0, .ref (kq (gK Γ) 0)), (1, .int a1)]) d_qx_value_22 rfl (by decide) rfl ?_
    refine j_iload C d_qx_value_24 rfl 0 rfl ?_
    refine j_if_eq C d_qx_value_26 (tgt := 41) (by decide) rfl (fun c_2 => ?_) (fun c_2 => ?_)
    · refine J.pos (shP σ) c_2 ?_
      refine j_iconst C d_qx_value_41 rfl kc_i_1 ?_
      refine j_goto C d_qx_value_42 (tgt := 46) (by decide) ?_
      refine j_istore C (lv' := [(5, .int (1 : Int32)), (4, .int (qw_kindOf (qx_valueAt σ a1))), (2, .long (qx_valueAt σ a1)), (0, .ref (kq (gK Γ) 0)), (1, .int a1)]) d_qx_value_46 rfl (by decide) rfl ?_
      refine j_iload C d_qx_value_48 rfl 0 rfl ?_
      refine j_if_eq C d_qx_value_50 (tgt := 60) (by decide) rfl (fun c_3 => ?_) (fun c_3 => ?_)
      · refine J.pos (shP σ) c_3 ?_
        refine j_ldc2 C d_qx_value_60 rfl k_450 ?_
        exact j_lret C d_qx_value_63
      · refine J.neg (shP σ) c_3 ?_
        refine j_lload_n C d_qx_value_53 rfl 2 rfl ?_
        refine cs_qx C (mc_qw_contentOf (gl Γ) (gK Γ) (qx_valueAt σ a1)) qw_contentOf_I k_451 (by decide) d_qx_value_54 rfl (rest := []) rfl (Nat.le_of_ble_eq_true rfl) ?_
        refine j_goto C d_qx_value_57 (tgt := 63) (by decide) ?_
        exact j_lret C d_qx_value_63
    · refine J.neg (shP σ) c_2 ?_
      refine j_iload C d_qx_value_29 rfl 0 rfl ?_
      refine j_iconst C d_qx_value_31 rfl kc_i_1 ?_
      refine j_icmp_eq C d_qx_value_32 (tgt := 41) (by decide) rfl (fun c_4 => ?_) (fun c_4 => ?_)
      · refine J.pos (shP σ) c_4 ?_
        refine j_iconst C d_qx_value_41 rfl kc_i_1 ?_
        refine j_goto C d_qx_value_42 (tgt := 46) (by decide) ?_
        refine j_istore C (lv' := [(5, .int (1 : Int32)), (4, .int (qw_kindOf (qx_valueAt σ a1))), (2, .long (qx_valueAt σ a1)), (0, .ref (kq (gK Γ) 0)), (1, .int a1)]) d_qx_value_46 rfl (by decide) rfl ?_
        refine j_iload C d_qx_value_48 rfl 0 rfl ?_
        refine j_if_eq C d_qx_value_50 (tgt := 60) (by decide) rfl (fun c_5 => ?_) (fun c_5 => ?_)
        · refine J.pos (shP σ) c_5 ?_
          refine j_ldc2 C d_qx_value_60 rfl k_450 ?_
          exact j_lret C d_qx_value_63
        · refine J.neg (shP σ) c_5 ?_
          refine j_lload_n C d_qx_value_53 rfl 2 rfl ?_
          refine cs_qx C (mc_qw_contentOf (gl Γ) (gK Γ) (qx_valueAt σ a1)) qw_contentOf_I k_451 (by decide) d_qx_value_54 rfl (rest := []) rfl (Nat.le_of_ble_eq_true rfl) ?_
          refine j_goto C d_qx_value_57 (tgt := 63) (by decide) ?_
          exact j_lret C d_qx_value_63
      · refine J.neg (shP σ) c_4 ?_
        refine j_iload C d_qx_value_35 rfl 0 rfl ?_
        refine j_iconst C d_qx_value_37 rfl kc_i_2 ?_
        refine j_icmp_ne C d_qx_value_38 (tgt := 45) (by decide) rfl (fun c_6 => ?_) (fun c_6 => ?_)
        · refine J.neg (shP σ) c_6 ?_
          refine j_iconst C d_qx_value_45 rfl kc_i_0 ?_
          refine j_istore C (lv' := [(5, .int (0 : Int32)), (4, .int (qw_kindOf (qx_valueAt σ a1))), (2, .long (qx_valueAt σ a1)), (0, .ref (kq (gK Γ) 0)), (1, .int a1)]) d_qx_value_46 rfl (by decide) rfl ?_
          refine j_iload C d_qx_value_48 rfl 0 rfl ?_
          refine j_if_eq C d_qx_value_50 (tgt := 60) (by decide) rfl (fun c_7 => ?_) (fun c_7 => ?_)
          · refine J.pos (shP σ) c_7 ?_
            refine j_ldc2 C d_qx_value_60 rfl k_450 ?_
            exact j_lret C d_qx_value_63
          · refine J.neg (shP σ) c_7 ?_
            refine j_lload_n C d_qx_value_53 rfl 2 rfl ?_
            refine cs_qx C (mc_qw_contentOf (gl Γ) (gK Γ) (qx_valueAt σ a1)) qw_contentOf_I k_451 (by decide) d_qx_value_54 rfl (rest := []) rfl (Nat.le_of_ble_eq_true rfl) ?_
            refine j_goto C d_qx_value_57 (tgt := 63) (by decide) ?_
            exact j_lret C d_qx_value_63
        · refine J.pos (shP σ) c_6 ?_
          refine j_iconst C d_qx_value_41 rfl kc_i_1 ?_
          refine j_goto C d_qx_value_42 (tgt := 46) (by decide) ?_
          refine j_istore C (lv' := [(5, .int (1 : Int32)), (4, .int (qw_kindOf (qx_valueAt σ a1))), (2, .long (qx_valueAt σ a1)), (0, .ref (kq (gK Γ) 0)), (1, .int a1)]) d_qx_value_46 rfl (by decide) rfl ?_
          refine j_iload C d_qx_value_48 rfl 0 rfl ?_
          refine j_if_eq C d_qx_value_50 (tgt := 60) (by decide) rfl (fun c_8 => ?_) (fun c_8 => ?_)
          · refine J.pos (shP σ) c_8 ?_
            refine j_ldc2 C d_qx_value_60 rfl k_450 ?_
            exact j_lret C d_qx_value_63
          · refine J.neg (shP σ) c_8 ?_
            refine j_lload_n C d_qx_value_53 rfl 2 rfl ?_
            refine cs_qx C (mc_qw_contentOf (gl Γ) (gK Γ) (qx_valueAt σ a1)) qw_contentOf_I k_451 (by decide) d_qx_value_54 rfl (rest := []) rfl (Nat.le_of_ble_eq_true rfl) ?_
            refine j_goto C d_qx_value_57 (tgt := 63) (by decide) ?_
            exact j_lret C d_qx_value_63
  · refine J.neg (shP σ) c_1 ?_
    refine j_ldc2 C d_qx_value_8 rfl k_450 ?_
    exact j_lret C d_qx_value_11
theorem mc_qx_value (l : Launch) (K : kk_T) (σ : qx_S) (a1 : Int32) : MC l qx_value_y qx_value_c 6 (some .long) (1, 22) K (qx_w K) qcl σ [.ref (kq K 0), .int a1] (some (.long (qx_value σ a1))) σ := mc_of (ov := ovL) (X := (shP σ) (qx_value σ a1)) (by decide +kernel) (Nat.le_of_ble_eq_true rfl) (fun _ => rfl) rfl (fun Γ e1 e2 C => by subst e1; subst e2; exact w_qx_value C σ a1)
theorem qx_value_I : ck_V qx_value_y qx_value_c 6 (some .long) 1 := ⟨k_449, k_96, by decide +kernel, k_447, k_448⟩
theorem w_qx_areSame {Γ : cx_T} (C : cx_C Γ (qx_w (gK Γ)) qcl qx_R qx_areSame_c 3 (some .int) (1, 22)) (σ : qx_S) (a1 : Int32) (a2 : Int32) : J Γ (qx_w (gK Γ)) qcl (QF Γ (qx_w (gK Γ)) qcl ovI) ((shP σ) (qx_areSame σ a1 a2)) σ 0 [(0, .ref (kq (gK Γ) 0)), (1, .int a1), (2, .int a2)] [] := by
  unfold qx_areSame
  refine j_iload_n C d_qx_areSame_0 rfl 1 rfl ?_
  refine j_if_lt C d_qx_areSame_1 (tgt := 8) (by decide) rfl (fun c_1 => ?_) (fun c_1 => ?_)
  · refine J.pos (shP σ) c_1 ?_
    refine j_iconst C d_qx_areSame_8 rfl kc_i_m1 ?_
    exact j_iret C d_qx_areSame_9
  · refine J.neg (shP σ) c_1 ?_
    refine j_iload_n C d_qx_areSame_4 rfl 2 rfl ?_
    refine j_if_ge C d_qx_areSame_5 (tgt := 10) (by decide) rfl (fun c_2 => ?_) (fun c_2 => ?_)
    · refine J.pos (shP σ) c_2 ?_
      refine j_iload_n C d_qx_areSame_10 rfl 1 rfl ?_
      refine j_aload_n C d_qx_areSame_11 rfl 0 rfl ?_
      refine qx_r_stackSize C k_269 d_qx_areSame_12 rfl rfl ?_
      refine j_icmp_ge C d_qx_areSame_15 (tgt := 26) (by decide) rfl (fun c_3 => ?_) (fun c_3 => ?_)
      · refine J.pos (shP σ) c_3 ?_
        refine j_bipush C d_qx_areSame_26 rfl kc_b_m2 ?_
        exact j_iret C d_qx_areSame_28
      · refine J.neg (shP σ) c_3 ?_
        refine j_iload_n C d_qx_areSame_18 rfl 2 rfl ?_
        refine j_aload_n C d_qx_areSame_19 rfl 0 rfl ?_
        refine qx_r_stackSize C k_269 d_qx_areSame_20 rfl rfl ?_
        refine j_icmp_lt C d_qx_areSame_23 (tgt := 29) (by decide) rfl (fun c_4 => ?_) (fun c_4 => ?_)
        · refine J.pos (shP σ) c_4 ?_
          refine j_aload_n C d_qx_areSame_29 rfl 0 rfl ?_
          refine j_iload_n C d_qx_areSame_30 rfl 1 rfl ?_
          refine cvr_qx_qx C (mc_qx_valueAt (gl Γ) (gK Γ) σ a1) qx_valueAt_I k_332 (by decide) d_qx_areSame_31 rfl (rest := []) rfl ⟨rfl, Nat.le_of_ble_eq_true rfl⟩ ?_
          refine j_aload_n C d_qx_areSame_34 rfl 0 rfl ?_
          refine j_iload_n C d_qx_areSame_35 rfl 2 rfl ?_
          refine cvr_qx_qx C (mc_qx_valueAt (gl Γ) (gK Γ) σ a2) qx_valueAt_I k_332 (by decide) d_qx_areSame_36 rfl (rest := [.long (qx_valueAt σ a1)]) rfl ⟨rfl, Nat.le_of_ble_eq_true rfl⟩ ?_
          refine j_lcmp_ne C d_qx_areSame_39 d_qx_areSame_40 (tgt := 47) (by decide) rfl (fun c_5 => ?_) (fun c_5 => ?_)
          · refine J.neg (shP σ) c_5 ?_
            refine j_iconst C d_qx_areSame_47 rfl kc_i_0 ?_
            exact j_iret C d_qx_areSame_48
          · refine J.pos (shP σ) c_5 ?_
            refine j_iconst C d_qx_areSame_43 rfl kc_i_1 ?_
            refine j_goto C d_qx_areSame_44 (tgt := 48) (by decide) ?_
            exact j_iret C d_qx_areSame_48
        · refine J.neg (shP σ) c_4 ?_
          refine j_bipush C d_qx_areSame_26 rfl kc_b_m2 ?_
          exact j_iret C d_qx_areSame_28
    · refine J.neg (shP σ) c_2 ?_
      refine j_iconst C d_qx_areSame_8 rfl kc_i_m1 ?_
      exact j_iret C d_qx_areSame_9
theorem mc_qx_areSame (l : Launch) (K : kk_T) (σ : qx_S) (a1 : Int32) (a2 : Int32) : MC l qx_areSame_y qx_areSame_c 3 (some .int) (1, 22) K (qx_w K) qcl σ [.ref (kq K 0), .int a1, .int a2] (some (.int (qx_areSame σ a1 a2))) σ := mc_of (ov := ovI) (X := (shP σ) (qx_areSame σ a1 a2)) (by decide +kernel) (Nat.le_of_ble_eq_true rfl) (fun _ => rfl) rfl (fun Γ e1 e2 C => by subst e1; subst e2; exact w_qx_areSame C σ a1 a2)
theorem qx_areSame_I : ck_V qx_areSame_y qx_areSame_c 3 (some .int) 2 := ⟨k_457, k_96, by decide +kernel, k_455, k_456⟩
theorem w_qx_length {Γ : cx_T} (C : cx_C Γ (qx_w (gK Γ)) qcl qx_R qx_length_c 4 (some .int) (3, 68)) (N : Nat) (σ : qx_S) (a1 : Int32) : J Γ (qx_w (gK Γ)) qcl (QF Γ (qx_w (gK Γ)) qcl ovI) ((shR σ) (qx_length N σ a1)) σ 0 [(0, .ref (kq (gK Γ) 0)), (1, .int a1)] [] := by
  unfold qx_length
  refine j_aload_n C d_qx_length_0 rfl 0 rfl ?_
  refine j_iload_n C d_qx_length_1 rfl 1 rfl ?_
  refine cvr_qx_qx C (mc_qx_depthError (gl Γ) (gK Γ) σ a1) qx_depthError_I k_328 (by decide) d_qx_length_2 rfl (rest := []) rfl ⟨rfl, Nat.le_of_ble_eq_true rfl⟩ ?_
  refine j_istore_n C (lv' := [(2, .int (qx_depthError σ a1)), (0, .ref (kq (gK Γ) 0)), (1, .int a1)]) d_qx_length_5 rfl rfl (by decide) rfl ?_
  refine j_iload_n C d_qx_length_6 rfl 0 rfl ?_
  refine j_if_eq C d_qx_length_7 (tgt := 12) (by decide) rfl (fun c_1 => ?_) (fun c_1 => ?_)
  · refine J.pos (shR σ) c_1 ?_
    refine j_aload_n C d_qx_length_12 rfl 1 rfl ?_
    refine qx_r_heap C k_266 d_qx_length_13 rfl ?_
    refine j_aload_n C d_qx_length_16 rfl 1 rfl ?_
    refine j_iload_n C d_qx_length_17 rfl 2 rfl ?_
    refine cvr_qx_qx C (mc_qx_valueAt (gl Γ) (gK Γ) σ a1) qx_valueAt_I k_332 (by decide) d_qx_length_18 rfl (rest := [.ref (kq (gK Γ) 15)]) rfl ⟨rfl, Nat.le_of_ble_eq_true rfl⟩ ?_
    refine J.goR (fun r2 h_3 => ?_)
    refine cvr_qx_qh C (mc_qh_lengthOf (gl Γ) (gK Γ) N (qx_gH σ) (qx_valueAt σ a1) r2 h_3) qh_lengthOf_I k_462 (by decide) d_qx_length_21 rfl (rest := []) rfl ⟨rfl, Nat.le_of_ble_eq_true rfl⟩ ?_
    refine j_istore_n C (lv' := [(3, .int r2), (2, .int (qx_depthError σ a1)), (0, .ref (kq (gK Γ) 0)), (1, .int a1)]) d_qx_length_24 rfl rfl (by decide) rfl ?_
    refine j_iload_n C d_qx_length_25 rfl 0 rfl ?_
    refine j_iconst C d_qx_length_26 rfl kc_i_m1 ?_
    refine j_icmp_ne C d_qx_length_27 (tgt := 35) (by decide) rfl (fun c_4 => ?_) (fun c_4 => ?_)
    · refine J.neg (shR σ) c_4 ?_
      refine j_iload_n C d_qx_length_35 rfl 0 rfl ?_
      exact j_iret C d_qx_length_36
    · refine J.pos (shR σ) c_4 ?_
      refine j_bipush C d_qx_length_30 rfl kc_b_m4 ?_
      refine j_goto C d_qx_length_32 (tgt := 36) (by decide) ?_
      exact j_iret C d_qx_length_36
  · refine J.neg (shR σ) c_1 ?_
    refine j_iload_n C d_qx_length_10 rfl 0 rfl ?_
    exact j_iret C d_qx_length_11
theorem mc_qx_length (l : Launch) (K : kk_T) (N : Nat) (σ : qx_S) (a1 : Int32) (r : Int32) (h : qx_length N σ a1 = some r) : MC l qx_length_y qx_length_c 4 (some .int) (3, 68) K (qx_w K) qcl σ [.ref (kq K 0), .int a1] (some (.int r)) σ := mc_of (ov := ovI) (X := (shR σ) (qx_length N σ a1)) (by decide +kernel) (Nat.le_of_ble_eq_true rfl) (fun _ => rfl) (by rw [h]; rfl) (fun Γ e1 e2 C => by subst e1; subst e2; exact w_qx_length C N σ a1)
theorem qx_length_I : ck_V qx_length_y qx_length_c 4 (some .int) 1 := ⟨k_461, k_96, by decide +kernel, k_459, k_460⟩
theorem w_qx_bindingCount {Γ : cx_T} (C : cx_C Γ (qx_w (gK Γ)) qcl qx_R qx_bindingCount_c 3 (some .int) (3, 65)) (N : Nat) (σ : qx_S) (a1 : Int32) : J Γ (qx_w (gK Γ)) qcl (QF Γ (qx_w (gK Γ)) qcl ovI) ((shR σ) (qx_bindingCount N σ a1)) σ 0 [(0, .ref (kq (gK Γ) 0)), (1, .int a1)] [] := by
  unfold qx_bindingCount
  refine j_aload_n C d_qx_bindingCount_0 rfl 0 rfl ?_
  refine j_iload_n C d_qx_bindingCount_1 rfl 1 rfl ?_
  refine j_bipush C d_qx_bindingCount_2 rfl kc_b_7 ?_
  refine cvr_qx_qx C (mc_qx_kindError (gl Γ) (gK Γ) σ a1 (7 : Int32)) qx_kindError_I k_376 (by decide) d_qx_bindingCount_4 rfl (rest := []) rfl ⟨rfl, Nat.le_of_ble_eq_true rfl⟩ ?_
  refine j_istore_n C (lv' := [(2, .int (qx_kindError σ a1 (7 : Int32))), (0, .ref (kq (gK Γ) 0)), (1, .int a1)]) d_qx_bindingCount_7 rfl rfl (by decide) rfl ?_
  refine j_iload_n C d_qx_bindingCount_8 rfl 0 rfl ?_
  refine j_if_eq C d_qx_bindingCount_9 (tgt := 16) (by decide) rfl (fun c_1 => ?_) (fun c_1 => ?_)
  · refine J.pos (shR σ) c_1 ?_
    refine j_aload_n C d_qx_bindingCount_16 rfl 1 rfl ?_
    refine qx_r_heap C k_266 d_qx_bindingCount_17 rfl ?_
    refine j_aload_n C d_qx_bindingCount_20 rfl 1 rfl ?_
    refine j_iload_n C d_qx_bindingCount_21 rfl 2 rfl ?_
    refine cvr_qx_qx C (mc_qx_valueAt (gl Γ) (gK Γ) σ a1) qx_valueAt_I k_332 (by decide) d_qx_bindingCount_22 rfl (rest := [.ref (kq (gK Γ) 15)]) rfl ⟨rfl, Nat.le_of_ble_eq_true rfl⟩ ?_
    refine cs_qx C (mc_qw_rowOf (gl Γ) (gK Γ) (qx_valueAt σ a1)) qw_rowOf_I k_363 (by decide) d_qx_bindingCount_25 rfl (rest := [.ref (kq (gK Γ) 15)]) rfl (Nat.le_of_ble_eq_true rfl) ?_
    refine J.goR (fun r2 h_3 => ?_)
    refine cvr_qx_qh C (mc_qh_countBindings (gl Γ) (gK Γ) N (qx_gH σ) (qw_rowOf (qx_valueAt σ a1)) r2 h_3) qh_countBindings_I k_472 (by decide) d_qx_bindingCount_28 rfl (rest := []) rfl ⟨rfl, Nat.le_of_ble_eq_true rfl⟩ ?_
    exact j_iret C d_qx_bindingCount_31
  · refine J.neg (shR σ) c_1 ?_
    refine j_iload_n C d_qx_bindingCount_12 rfl 0 rfl ?_
    refine j_goto C d_qx_bindingCount_13 (tgt := 31) (by decide) ?_
    exact j_iret C d_qx_bindingCount_31
theorem mc_qx_bindingCount (l : Launch) (K : kk_T) (N : Nat) (σ : qx_S) (a1 : Int32) (r : Int32) (h : qx_bindingCount N σ a1 = some r) : MC l qx_bindingCount_y qx_bindingCount_c 3 (some .int) (3, 65) K (qx_w K) qcl σ [.ref (kq K 0), .int a1] (some (.int r)) σ := mc_of (ov := ovI) (X := (shR σ) (qx_bindingCount N σ a1)) (by decide +kernel) (Nat.le_of_ble_eq_true rfl) (fun _ => rfl) (by rw [h]; rfl) (fun Γ e1 e2 C => by subst e1; subst e2; exact w_qx_bindingCount C N σ a1)
theorem qx_bindingCount_I : ck_V qx_bindingCount_y qx_bindingCount_c 3 (some .int) 1 := ⟨k_471, k_96, by decide +kernel, k_469, k_470⟩
theorem w_qx_evaluate {Γ : cx_T} (C : cx_C Γ (qx_w (gK Γ)) qcl qx_R qx_evaluate_c 4 (some .int) (7, 173)) (N : Nat) (σ : qx_S)  : J Γ (qx_w (gK Γ)) qcl (QF Γ (qx_w (gK Γ)) qcl ovI) (shO (qx_evaluate N σ)) σ 0 [(0, .ref (kq (gK Γ) 0))] [] := by
  unfold qx_evaluate
  refine j_aload_n C d_qx_evaluate_0 rfl 0 rfl ?_
  refine qx_r_stackSize C k_269 d_qx_evaluate_1 rfl rfl ?_
  refine j_iconst C d_qx_evaluate_4 rfl kc_i_1 ?_
  refine j_icmp_ge C d_qx_evaluate_5 (tgt := 11) (by decide) rfl (fun c_1 => ?_) (fun c_1 => ?_)
  · refine J.pos shO c_1 ?_
    refine j_aload_n C d_qx_evaluate_11 rfl 0 rfl ?_
    refine j_iconst C d_qx_evaluate_12 rfl kc_i_0 ?_
    refine cvr_qx_qx C (mc_qx_valueAt (gl Γ) (gK Γ) σ (0 : Int32)) qx_valueAt_I k_332 (by decide) d_qx_evaluate_13 rfl (rest := []) rfl ⟨rfl, Nat.le_of_ble_eq_true rfl⟩ ?_
    refine j_lstore_n C (lv' := [(1, .long (qx_valueAt σ (0 : Int32))), (0, .ref (kq (gK Γ) 0))]) d_qx_evaluate_16 rfl rfl (by decide) rfl ?_
    refine j_aload_n C d_qx_evaluate_17 rfl 1 rfl ?_
    refine j_dup C d_qx_evaluate_18 rfl rfl ?_
    refine qx_r_stackSize C k_269 d_qx_evaluate_19 rfl rfl ?_
    refine j_iconst C d_qx_evaluate_22 rfl kc_i_1 ?_
    refine j_isub C d_qx_evaluate_23 rfl ?_
    refine qx_p_stackSize C k_269 d_qx_evaluate_24 rfl ?_
    refine j_aload_n C d_qx_evaluate_27 rfl 1 rfl ?_
    refine qx_r_machine C k_267 d_qx_evaluate_28 rfl ?_
    refine j_lload_n C d_qx_evaluate_31 rfl 0 rfl ?_
    refine j_aload_n C d_qx_evaluate_32 rfl 1 rfl ?_
    refine qx_r_present C k_270 d_qx_evaluate_33 rfl (x := (qx_g_present σ)) (gs_qx_present_s_stackSize _ _) ?_
    refine j_aload_n C d_qx_evaluate_36 rfl 1 rfl ?_
    refine qx_r_limit C k_271 d_qx_evaluate_37 rfl (x := (qx_g_limit σ)) (gs_qx_limit_s_stackSize _ _) ?_
    refine J.goO (fun r2 h_3 => ?_)
    refine cv_qx_qn C (mc_qn_run (gl Γ) (gK Γ) N (qx_gN σ) (qx_valueAt σ (0 : Int32)) (qx_g_present σ) (qx_g_limit σ) r2 h_3) qn_run_I k_480 (by decide) d_qx_evaluate_40 rfl (rest := []) rfl ⟨rfl, Nat.le_of_ble_eq_true rfl⟩ ?_
    refine j_istore_n C (lv' := [(3, .int r2.1), (1, .long (qx_valueAt σ (0 : Int32))), (0, .ref (kq (gK Γ) 0))]) d_qx_evaluate_43 rfl rfl (by decide) rfl ?_
    refine j_iload_n C d_qx_evaluate_44 rfl 0 rfl ?_
    refine j_if_le C d_qx_evaluate_45 (tgt := 60) (by decide) rfl (fun c_4 => ?_) (fun c_4 => ?_)
    · refine J.pos shO c_4 ?_
      refine j_iload_n C d_qx_evaluate_60 rfl 0 rfl ?_
      exact j_iret C d_qx_evaluate_61
    · refine J.neg shO c_4 ?_
      refine j_aload_n C d_qx_evaluate_48 rfl 2 rfl ?_
      refine j_aload_n C d_qx_evaluate_49 rfl 2 rfl ?_
      refine qx_r_machine C k_267 d_qx_evaluate_50 rfl ?_
      refine cvr_qx_qn C (mc_qn_answer (gl Γ) (gK Γ) r2.2) qn_answer_I k_785 (by decide) d_qx_evaluate_53 rfl (rest := [.ref (kq (gK Γ) 0)]) rfl ⟨rfl, Nat.le_of_ble_eq_true rfl⟩ ?_
      refine cv_qx_qx C (mc_qx_push (gl Γ) (gK Γ) (qx_sN (qx_s_stackSize σ ((qx_g_stackSize σ) - (1 : Int32))) r2.2) (qn_answer r2.2)) qx_push_I k_295 (by decide) d_qx_evaluate_56 rfl (rest := []) rfl ⟨rfl, Nat.le_of_ble_eq_true rfl⟩ ?_
      refine j_pop C d_qx_evaluate_59 rfl rfl ?_
      refine j_iload_n C d_qx_evaluate_60 rfl 0 rfl ?_
      exact j_iret C d_qx_evaluate_61
  · refine J.neg shO c_1 ?_
    refine j_bipush C d_qx_evaluate_8 rfl kc_b_m2 ?_
    exact j_iret C d_qx_evaluate_10
theorem mc_qx_evaluate (l : Launch) (K : kk_T) (N : Nat) (σ : qx_S)  (r : Int32 × qx_S) (h : qx_evaluate N σ = some r) : MC l qx_evaluate_y qx_evaluate_c 4 (some .int) (7, 173) K (qx_w K) qcl σ [.ref (kq K 0)] (some (.int r.1)) r.2 := mc_of (ov := ovI) (X := shO (qx_evaluate N σ)) (by decide +kernel) (Nat.le_of_ble_eq_true rfl) (fun _ => rfl) (by rw [h]; rfl) (fun Γ e1 e2 C => by subst e1; subst e2; exact w_qx_evaluate C N σ)
theorem qx_evaluate_I : ck_V qx_evaluate_y qx_evaluate_c 4 (some .int) 0 := ⟨k_479, k_96, by decide +kernel, k_477, k_478⟩
theorem w_qx_useEnvironment {Γ : cx_T} (C : cx_C Γ (qx_w (gK Γ)) qcl qx_R qx_useEnvironment_c 2 (some .int) (2, 45)) (σ : qx_S)  : J Γ (qx_w (gK Γ)) qcl (QF Γ (qx_w (gK Γ)) qcl ovI) (shT (qx_useEnvironment σ)) σ 0 [(0, .ref (kq (gK Γ) 0))] [] := by
  unfold qx_useEnvironment
  refine j_aload_n C d_qx_useEnvironment_0 rfl 0 rfl ?_
  refine j_iconst C d_qx_useEnvironment_1 rfl kc_i_0 ?_
  refine j_bipush C d_qx_useEnvironment_2 rfl kc_b_7 ?_
  refine cvr_qx_qx C (mc_qx_kindError (gl Γ) (gK Γ) σ (0 : Int32) (7 : Int32)) qx_kindError_I k_376 (by decide) d_qx_useEnvironment_4 rfl (rest := []) rfl ⟨rfl, Nat.le_of_ble_eq_true rfl⟩ ?_
  refine j_istore_n C (lv' := [(1, .int (qx_kindError σ (0 : Int32) (7 : Int32))), (0, .ref (kq (gK Γ) 0))]) d_qx_useEnvironment_7 rfl rfl (by decide) rfl ?_
  refine j_iload_n C d_qx_useEnvironment_8 rfl 0 rfl ?_
  refine j_if_eq C d_qx_useEnvironment_9 (tgt := 14) (by decide) rfl (fun c_1 => ?_) (fun c_1 => ?_)
  · refine J.pos shT c_1 ?_
    refine j_aload_n C d_qx_useEnvironment_14 rfl 1 rfl ?_
    refine j_aload_n C d_qx_useEnvironment_15 rfl 1 rfl ?_
    refine j_iconst C d_qx_useEnvironment_16 rfl kc_i_0 ?_
    refine cvr_qx_qx C (mc_qx_valueAt (gl Γ) (gK Γ) σ (0 : Int32)) qx_valueAt_I k_332 (by decide) d_qx_useEnvironment_17 rfl (rest := [.ref (kq (gK Γ) 0)]) rfl ⟨rfl, Nat.le_of_ble_eq_true rfl⟩ ?_
    refine cs_qx C (mc_qw_rowOf (gl Γ) (gK Γ) (qx_valueAt σ (0 : Int32))) qw_rowOf_I k_363 (by decide) d_qx_useEnvironment_20 rfl (rest := [.ref (kq (gK Γ) 0)]) rfl (Nat.le_of_ble_eq_true rfl) ?_
    refine qx_p_present C k_270 d_qx_useEnvironment_23 rfl ?_
    refine j_aload_n C d_qx_useEnvironment_26 rfl 1 rfl ?_
    refine j_dup C d_qx_useEnvironment_27 rfl rfl ?_
    refine qx_r_stackSize C k_269 d_qx_useEnvironment_28 rfl (x := (qx_g_stackSize σ)) (gs_qx_stackSize_s_present _ _) ?_
    refine j_iconst C d_qx_useEnvironment_31 rfl kc_i_1 ?_
    refine j_isub C d_qx_useEnvironment_32 rfl ?_
    refine qx_p_stackSize C k_269 d_qx_useEnvironment_33 rfl ?_
    refine j_aload_n C d_qx_useEnvironment_36 rfl 1 rfl ?_
    refine qx_r_stackSize C k_269 d_qx_useEnvironment_37 rfl (x := ((qx_g_stackSize σ) - (1 : Int32))) (gv_qx_stackSize _ _) ?_
    exact j_iret C d_qx_useEnvironment_40
  · refine J.neg shT c_1 ?_
    refine j_iload_n C d_qx_useEnvironment_12 rfl 0 rfl ?_
    exact j_iret C d_qx_useEnvironment_13
theorem mc_qx_useEnvironment (l : Launch) (K : kk_T) (σ : qx_S)  : MC l qx_useEnvironment_y qx_useEnvironment_c 2 (some .int) (2, 45) K (qx_w K) qcl σ [.ref (kq K 0)] (some (.int (qx_useEnvironment σ).1)) (qx_useEnvironment σ).2 := mc_of (ov := ovI) (X := shT (qx_useEnvironment σ)) (by decide +kernel) (Nat.le_of_ble_eq_true rfl) (fun _ => rfl) rfl (fun Γ e1 e2 C => by subst e1; subst e2; exact w_qx_useEnvironment C σ)
theorem qx_useEnvironment_I : ck_V qx_useEnvironment_y qx_useEnvironment_c 2 (some .int) 0 := ⟨k_792, k_96, by decide +kernel, k_790, k_791⟩
theorem w_qx_useUser {Γ : cx_T} (C : cx_C Γ (qx_w (gK Γ)) qcl qx_R qx_useUser_c 2 (some .int) (0, 0)) (σ : qx_S)  : J Γ (qx_w (gK Γ)) qcl (QF Γ (qx_w (gK Γ)) qcl ovI) (shT (qx_useUser σ)) σ 0 [(0, .ref (kq (gK Γ) 0))] [] := by
  unfold qx_useUser
  refine j_aload_n C d_qx_useUser_0 rfl 0 rfl ?_
  refine qx_r_present C k_270 d_qx_useUser_1 rfl rfl ?_
  refine j_iconst C d_qx_useUser_4 rfl kc_i_1 ?_
  refine j_icmp_eq C d_qx_useUser_5 (tgt := 12) (by decide) rfl (fun c_1 => ?_) (fun c_1 => ?_)
  · refine J.pos shT c_1 ?_
    refine j_iconst C d_qx_useUser_12 rfl kc_i_0 ?_
    refine j_istore_n C (lv' := [(1, .int (0 : Int32)), (0, .ref (kq (gK Γ) 0))]) d_qx_useUser_13 rfl rfl (by decide) rfl ?_
    refine j_aload_n C d_qx_useUser_14 rfl 1 rfl ?_
    refine j_iconst C d_qx_useUser_15 rfl kc_i_1 ?_
    refine qx_p_present C k_270 d_qx_useUser_16 rfl ?_
    refine j_iload_n C d_qx_useUser_19 rfl 0 rfl ?_
    refine j_if_eq C d_qx_useUser_20 (tgt := 27) (by decide) rfl (fun c_2 => ?_) (fun c_2 => ?_)
    · refine J.pos shT c_2 ?_
      refine j_iconst C d_qx_useUser_27 rfl kc_i_0 ?_
      exact j_iret C d_qx_useUser_28
    · refine J.neg shT c_2 ?_
      refine j_iconst C d_qx_useUser_23 rfl kc_i_1 ?_
      refine j_goto C d_qx_useUser_24 (tgt := 28) (by decide) ?_
      exact j_iret C d_qx_useUser_28
  · refine J.neg shT c_1 ?_
    refine j_iconst C d_qx_useUser_8 rfl kc_i_1 ?_
    refine j_goto C d_qx_useUser_9 (tgt := 13) (by decide) ?_
    refine j_istore_n C (lv' := [(1, .int (1 : Int32)), (0, .ref (kq (gK Γ) 0))]) d_qx_useUser_13 rfl rfl (by decide) rfl ?_
    refine j_aload_n C d_qx_useUser_14 rfl 1 rfl ?_
    refine j_iconst C d_qx_useUser_15 rfl kc_i_1 ?_
    refine qx_p_present C k_270 d_qx_useUser_16 rfl ?_
    refine j_iload_n C d_qx_useUser_19 rfl 0 rfl ?_
    refine j_if_eq C d_qx_useUser_20 (tgt := 27) (by decide) rfl (fun c_3 => ?_) (fun c_3 => ?_)
    · refine J.pos shT c_3 ?_
      refine j_iconst C d_qx_useUser_27 rfl kc_i_0 ?_
      exact j_iret C d_qx_useUser_28
    · refine J.neg shT c_3 ?_
      refine j_iconst C d_qx_useUser_23 rfl kc_i_1 ?_
      refine j_goto C d_qx_useUser_24 (tgt := 28) (by decide) ?_
      exact j_iret C d_qx_useUser_28
theorem mc_qx_useUser (l : Launch) (K : kk_T) (σ : qx_S)  : MC l qx_useUser_y qx_useUser_c 2 (some .int) (0, 0) K (qx_w K) qcl σ [.ref (kq K 0)] (some (.int (qx_useUser σ).1)) (qx_useUser σ).2 := mc_of (ov := ovI) (X := shT (qx_useUser σ)) (by decide +kernel) (Nat.le_of_ble_eq_true rfl) (fun _ => rfl) rfl (fun Γ e1 e2 C => by subst e1; subst e2; exact w_qx_useUser C σ)
theorem qx_useUser_I : ck_V qx_useUser_y qx_useUser_c 2 (some .int) 0 := ⟨k_796, k_96, by decide +kernel, k_794, k_795⟩
theorem w_qx_setLimit {Γ : cx_T} (C : cx_C Γ (qx_w (gK Γ)) qcl qx_R qx_setLimit_c 3 (some .int) (0, 0)) (σ : qx_S) (a1 : Int32) : J Γ (qx_w (gK Γ)) qcl (QF Γ (qx_w (gK Γ)) qcl ovI) (shT (qx_setLimit σ a1)) σ 0 [(0, .ref (kq (gK Γ) 0)), (1, .int a1)] [] := by
  unfold qx_setLimit
  refine j_iload_n C d_qx_setLimit_0 rfl 1 rfl ?_
  refine j_iconst C d_qx_setLimit_1 rfl kc_i_1 ?_
  refine j_icmp_lt C d_qx_setLimit_2 (tgt := 12) (by decide) rfl (fun c_1 => ?_) (fun c_1 => ?_)
  · refine J.pos shT c_1 ?_
    refine j_iconst C d_qx_setLimit_12 rfl kc_i_m1 ?_
    exact j_iret C d_qx_setLimit_13
  · refine J.neg shT c_1 ?_
    refine j_iload_n C d_qx_setLimit_5 rfl 1 rfl ?_
    refine j_sipush C d_qx_setLimit_6 rfl kc_s_1500 ?_
    refine j_icmp_le C d_qx_setLimit_9 (tgt := 14) (by decide) rfl (fun c_2 => ?_) (fun c_2 => ?_)
    · refine J.pos shT c_2 ?_
      refine j_aload_n C d_qx_setLimit_14 rfl 0 rfl ?_
      refine qx_r_limit C k_271 d_qx_setLimit_15 rfl rfl ?_
      refine j_istore_n C (lv' := [(2, .int (qx_g_limit σ)), (0, .ref (kq (gK Γ) 0)), (1, .int a1)]) d_qx_setLimit_18 rfl rfl (by decide) rfl ?_
      refine j_aload_n C d_qx_setLimit_19 rfl 1 rfl ?_
      refine j_iload_n C d_qx_setLimit_20 rfl 2 rfl ?_
      refine qx_p_limit C k_271 d_qx_setLimit_21 rfl ?_
      refine j_iload_n C d_qx_setLimit_24 rfl 0 rfl ?_
      exact j_iret C d_qx_setLimit_25
    · refine J.neg shT c_2 ?_
      refine j_iconst C d_qx_setLimit_12 rfl kc_i_m1 ?_
      exact j_iret C d_qx_setLimit_13
theorem mc_qx_setLimit (l : Launch) (K : kk_T) (σ : qx_S) (a1 : Int32) : MC l qx_setLimit_y qx_setLimit_c 3 (some .int) (0, 0) K (qx_w K) qcl σ [.ref (kq K 0), .int a1] (some (.int (qx_setLimit σ a1).1)) (qx_setLimit σ a1).2 := mc_of (ov := ovI) (X := shT (qx_setLimit σ a1)) (by decide +kernel) (Nat.le_of_ble_eq_true rfl) (fun _ => rfl) rfl (fun Γ e1 e2 C => by subst e1; subst e2; exact w_qx_setLimit C σ a1)
theorem qx_setLimit_I : ck_V qx_setLimit_y qx_setLimit_c 3 (some .int) 1 := ⟨k_800, k_96, by decide +kernel, k_798, k_799⟩
theorem w_qx_latest {Γ : cx_T} (C : cx_C Γ (qx_w (gK Γ)) qcl qx_R qx_latest_c 2 (some .int) (2, 40)) (σ : qx_S) (a1 : Int32) : J Γ (qx_w (gK Γ)) qcl (QF Γ (qx_w (gK Γ)) qcl ovI) ((shP σ) (qx_latest σ a1)) σ 0 [(0, .ref (kq (gK Γ) 0)), (1, .int a1)] [] := by
  unfold qx_latest
  refine j_iload_n C d_qx_latest_0 rfl 1 rfl ?_
  refine j_if_eq C d_qx_latest_1 (tgt := 11) (by decide) rfl (fun c_1 => ?_) (fun c_1 => ?_)
  · refine J.pos (shP σ) c_1 ?_
    refine j_iload_n C d_qx_latest_11 rfl 1 rfl ?_
    refine j_if_ne C d_qx_latest_12 (tgt := 25) (by decide) rfl (fun c_2 => ?_) (fun c_2 => ?_)
    · refine J.neg (shP σ) c_2 ?_
      refine j_aload_n C d_qx_latest_25 rfl 0 rfl ?_
      refine qx_r_machine C k_267 d_qx_latest_26 rfl ?_
      refine cvr_qx_qn C (mc_qn_mostFrames (gl Γ) (gK Γ) (qx_gN σ)) qn_mostFrames_I k_809 (by decide) d_qx_latest_29 rfl (rest := []) rfl ⟨rfl, Nat.le_of_ble_eq_true rfl⟩ ?_
      exact j_iret C d_qx_latest_32
    · refine J.pos (shP σ) c_2 ?_
      refine j_aload_n C d_qx_latest_15 rfl 0 rfl ?_
      refine qx_r_machine C k_267 d_qx_latest_16 rfl ?_
      refine cvr_qx_qn C (mc_qn_stepCount (gl Γ) (gK Γ) (qx_gN σ)) qn_stepCount_I k_805 (by decide) d_qx_latest_19 rfl (rest := []) rfl ⟨rfl, Nat.le_of_ble_eq_true rfl⟩ ?_
      refine j_goto C d_qx_latest_22 (tgt := 32) (by decide) ?_
      exact j_iret C d_qx_latest_32
  · refine J.neg (shP σ) c_1 ?_
    refine j_iload_n C d_qx_latest_4 rfl 1 rfl ?_
    refine j_iconst C d_qx_latest_5 rfl kc_i_1 ?_
    refine j_icmp_eq C d_qx_latest_6 (tgt := 11) (by decide) rfl (fun c_3 => ?_) (fun c_3 => ?_)
    · refine J.pos (shP σ) c_3 ?_
      refine j_iload_n C d_qx_latest_11 rfl 1 rfl ?_
      refine j_if_ne C d_qx_latest_12 (tgt := 25) (by decide) rfl (fun c_4 => ?_) (fun c_4 => ?_)
      · refine J.neg (shP σ) c_4 ?_
        refine j_aload_n C d_qx_latest_25 rfl 0 rfl ?_
        refine qx_r_machine C k_267 d_qx_latest_26 rfl ?_
        refine cvr_qx_qn C (mc_qn_mostFrames (gl Γ) (gK Γ) (qx_gN σ)) qn_mostFrames_I k_809 (by decide) d_qx_latest_29 rfl (rest := []) rfl ⟨rfl, Nat.le_of_ble_eq_true rfl⟩ ?_
        exact j_iret C d_qx_latest_32
      · refine J.pos (shP σ) c_4 ?_
        refine j_aload_n C d_qx_latest_15 rfl 0 rfl ?_
        refine qx_r_machine C k_267 d_qx_latest_16 rfl ?_
        refine cvr_qx_qn C (mc_qn_stepCount (gl Γ) (gK Γ) (qx_gN σ)) qn_stepCount_I k_805 (by decide) d_qx_latest_19 rfl (rest := []) rfl ⟨rfl, Nat.le_of_ble_eq_true rfl⟩ ?_
        refine j_goto C d_qx_latest_22 (tgt := 32) (by decide) ?_
        exact j_iret C d_qx_latest_32
    · refine J.neg (shP σ) c_3 ?_
      refine j_iconst C d_qx_latest_9 rfl kc_i_m1 ?_
      exact j_iret C d_qx_latest_10
theorem mc_qx_latest (l : Launch) (K : kk_T) (σ : qx_S) (a1 : Int32) : MC l qx_latest_y qx_latest_c 2 (some .int) (2, 40) K (qx_w K) qcl σ [.ref (kq K 0), .int a1] (some (.int (qx_latest σ a1))) σ := mc_of (ov := ovI) (X := (shP σ) (qx_latest σ a1)) (by decide +kernel) (Nat.le_of_ble_eq_true rfl) (fun _ => rfl) rfl (fun Γ e1 e2 C => by subst e1; subst e2; exact w_qx_latest C σ a1)
theorem qx_latest_I : ck_V qx_latest_y qx_latest_c 2 (some .int) 1 := ⟨k_804, k_96, by decide +kernel, k_802, k_803⟩
theorem w_qx_heapSize {Γ : cx_T} (C : cx_C Γ (qx_w (gK Γ)) qcl qx_R qx_heapSize_c 1 (some .int) (1, 20)) (σ : qx_S)  : J Γ (qx_w (gK Γ)) qcl (QF Γ (qx_w (gK Γ)) qcl ovI) ((shP σ) (qx_heapSize σ)) σ 0 [(0, .ref (kq (gK Γ) 0))] [] := by
  unfold qx_heapSize
  refine j_aload_n C d_qx_heapSize_0 rfl 0 rfl ?_
  refine qx_r_heap C k_266 d_qx_heapSize_1 rfl ?_
  refine cvr_qx_qh C (mc_qh_objectCount (gl Γ) (gK Γ) (qx_gH σ)) qh_objectCount_I k_432 (by decide) d_qx_heapSize_4 rfl (rest := []) rfl ⟨rfl, Nat.le_of_ble_eq_true rfl⟩ ?_
  exact j_iret C d_qx_heapSize_7
theorem mc_qx_heapSize (l : Launch) (K : kk_T) (σ : qx_S)  : MC l qx_heapSize_y qx_heapSize_c 1 (some .int) (1, 20) K (qx_w K) qcl σ [.ref (kq K 0)] (some (.int (qx_heapSize σ))) σ := mc_of (ov := ovI) (X := (shP σ) (qx_heapSize σ)) (by decide +kernel) (Nat.le_of_ble_eq_true rfl) (fun _ => rfl) rfl (fun Γ e1 e2 C => by subst e1; subst e2; exact w_qx_heapSize C σ)
theorem qx_heapSize_I : ck_V qx_heapSize_y qx_heapSize_c 1 (some .int) 0 := ⟨k_820, k_96, by decide +kernel, k_818, k_819⟩
