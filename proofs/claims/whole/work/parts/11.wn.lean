theorem gs_qn_argumentCount_t_arguments (σ : qn_S) (i : Int32) (v : Int64) : qn_g_argumentCount (qn_t_arguments σ i v) = qn_g_argumentCount σ := rfl
theorem gs_qn_argumentCount_u_H (σ : qn_S) (v : qh_S) : qn_g_argumentCount (qn_sH σ v) = qn_g_argumentCount σ := rfl
theorem gs_qn_current_s_environment (σ : qn_S) (v : Int32) : qn_g_current (qn_s_environment σ v) = qn_g_current σ := rfl
theorem gs_qn_current_s_steps (σ : qn_S) (v : Int32) : qn_g_current (qn_s_steps σ v) = qn_g_current σ := rfl
theorem gs_qn_current_u_F (σ : qn_S) (v : qf_S) : qn_g_current (qn_sF σ v) = qn_g_current σ := rfl
theorem gv_qn_environment (σ : qn_S) (v : Int32) : qn_g_environment (qn_s_environment σ v) = v := rfl
theorem w_qn_forget {Γ : cx_T} (C : cx_C Γ (qn_w (gK Γ)) qcl qn_R qn_forget_c 1 none (1, 20)) (σ : qn_S)  : J Γ (qn_w (gK Γ)) qcl (QF Γ (qn_w (gK Γ)) qcl ovV) (shV (qn_forget σ)) σ 0 [(0, .ref (kq (gK Γ) 2))] [] := by
  unfold qn_forget
  refine j_aload_n C d_qn_forget_0 rfl 0 rfl ?_
  refine qn_r_frames C k_231 d_qn_forget_1 rfl ?_
  refine cv0_qn_qf C (mc_qf_clear (gl Γ) (gK Γ) (qn_gF σ)) qf_clear_I k_224 (by decide) d_qn_forget_4 rfl (rest := []) rfl ⟨rfl, Nat.le_of_ble_eq_true rfl⟩ ?_
  refine j_aload_n C d_qn_forget_7 rfl 0 rfl ?_
  refine j_iconst C d_qn_forget_8 rfl kc_i_0 ?_
  refine qn_p_argumentCount C k_233 d_qn_forget_9 rfl ?_
  refine j_aload_n C d_qn_forget_12 rfl 0 rfl ?_
  refine j_iconst C d_qn_forget_13 rfl kc_i_4 ?_
  refine qn_p_mode C k_234 d_qn_forget_14 rfl ?_
  refine j_aload_n C d_qn_forget_17 rfl 0 rfl ?_
  refine j_ldc2 C d_qn_forget_18 rfl k_228 ?_
  refine qn_p_current C k_235 d_qn_forget_21 rfl ?_
  refine j_aload_n C d_qn_forget_24 rfl 0 rfl ?_
  refine j_ldc2 C d_qn_forget_25 rfl k_228 ?_
  refine qn_p_operands C k_236 d_qn_forget_28 rfl ?_
  refine j_aload_n C d_qn_forget_31 rfl 0 rfl ?_
  refine j_iconst C d_qn_forget_32 rfl kc_i_1 ?_
  refine qn_p_environment C k_237 d_qn_forget_33 rfl ?_
  refine j_aload_n C d_qn_forget_36 rfl 0 rfl ?_
  refine j_iconst C d_qn_forget_37 rfl kc_i_0 ?_
  refine qn_p_steps C k_238 d_qn_forget_38 rfl ?_
  refine j_aload_n C d_qn_forget_41 rfl 0 rfl ?_
  refine j_iconst C d_qn_forget_42 rfl kc_i_0 ?_
  refine qn_p_limit C k_239 d_qn_forget_43 rfl ?_
  refine j_aload_n C d_qn_forget_46 rfl 0 rfl ?_
  refine j_iconst C d_qn_forget_47 rfl kc_i_0 ?_
  refine qn_p_failure C k_240 d_qn_forget_48 rfl ?_
  exact j_vret C d_qn_forget_51
theorem mc_qn_forget (l : Launch) (K : kk_T) (σ : qn_S)  : MC l qn_forget_y qn_forget_c 1 none (1, 20) K (qn_w K) qcl σ [.ref (kq K 2)] none (qn_forget σ) := mc_of (ov := ovV) (X := shV (qn_forget σ)) (by decide +kernel) (Nat.le_of_ble_eq_true rfl) (fun _ => rfl) rfl (fun Γ e1 e2 C => by subst e1; subst e2; exact w_qn_forget C σ)
theorem qn_forget_I : ck_V qn_forget_y qn_forget_c 1 none 0 := ⟨k_223, k_99, by decide +kernel, k_221, k_222⟩
theorem w_qn_evaluateInTail {Γ : cx_T} (C : cx_C Γ (qn_w (gK Γ)) qcl qn_R qn_evaluateInTail_c 3 none (0, 0)) (σ : qn_S) (a1 : Int64) : J Γ (qn_w (gK Γ)) qcl (QF Γ (qn_w (gK Γ)) qcl ovV) (shV (qn_evaluateInTail σ a1)) σ 0 [(0, .ref (kq (gK Γ) 2)), (1, .long a1)] [] := by
  unfold qn_evaluateInTail
  refine j_aload_n C d_qn_evaluateInTail_0 rfl 0 rfl ?_
  refine j_lload_n C d_qn_evaluateInTail_1 rfl 1 rfl ?_
  refine qn_p_current C k_235 d_qn_evaluateInTail_2 rfl ?_
  refine j_aload_n C d_qn_evaluateInTail_5 rfl 0 rfl ?_
  refine j_iconst C d_qn_evaluateInTail_6 rfl kc_i_0 ?_
  refine qn_p_mode C k_234 d_qn_evaluateInTail_7 rfl ?_
  exact j_vret C d_qn_evaluateInTail_10
theorem mc_qn_evaluateInTail (l : Launch) (K : kk_T) (σ : qn_S) (a1 : Int64) : MC l qn_evaluateInTail_y qn_evaluateInTail_c 3 none (0, 0) K (qn_w K) qcl σ [.ref (kq K 2), .long a1] none (qn_evaluateInTail σ a1) := mc_of (ov := ovV) (X := shV (qn_evaluateInTail σ a1)) (by decide +kernel) (Nat.le_of_ble_eq_true rfl) (fun _ => rfl) rfl (fun Γ e1 e2 C => by subst e1; subst e2; exact w_qn_evaluateInTail C σ a1)
theorem qn_evaluateInTail_I : ck_V qn_evaluateInTail_y qn_evaluateInTail_c 3 none 1 := ⟨k_487, k_99, by decide +kernel, k_486, k_13⟩
theorem w_qn_fail {Γ : cx_T} (C : cx_C Γ (qn_w (gK Γ)) qcl qn_R qn_fail_c 2 none (0, 0)) (σ : qn_S) (a1 : Int32) : J Γ (qn_w (gK Γ)) qcl (QF Γ (qn_w (gK Γ)) qcl ovV) (shV (qn_fail σ a1)) σ 0 [(0, .ref (kq (gK Γ) 2)), (1, .int a1)] [] := by
  unfold qn_fail
  refine j_aload_n C d_qn_fail_0 rfl 0 rfl ?_
  refine j_iload_n C d_qn_fail_1 rfl 1 rfl ?_
  refine qn_p_failure C k_240 d_qn_fail_2 rfl ?_
  refine j_aload_n C d_qn_fail_5 rfl 0 rfl ?_
  refine j_iconst C d_qn_fail_6 rfl kc_i_4 ?_
  refine qn_p_mode C k_234 d_qn_fail_7 rfl ?_
  exact j_vret C d_qn_fail_10
theorem mc_qn_fail (l : Launch) (K : kk_T) (σ : qn_S) (a1 : Int32) : MC l qn_fail_y qn_fail_c 2 none (0, 0) K (qn_w K) qcl σ [.ref (kq K 2), .int a1] none (qn_fail σ a1) := mc_of (ov := ovV) (X := shV (qn_fail σ a1)) (by decide +kernel) (Nat.le_of_ble_eq_true rfl) (fun _ => rfl) rfl (fun Γ e1 e2 C => by subst e1; subst e2; exact w_qn_fail C σ a1)
theorem qn_fail_I : ck_V qn_fail_y qn_fail_c 2 none 1 := ⟨k_496, k_99, by decide +kernel, k_495, k_15⟩
theorem w_qn_evaluateWithFrame {Γ : cx_T} (C : cx_C Γ (qn_w (gK Γ)) qcl qn_R qn_evaluateWithFrame_c 9 none (1, 27)) (σ : qn_S) (a1 : Int64) (a3 : Int32) (a4 : Int64) (a6 : Int64) (a8 : Int32) : J Γ (qn_w (gK Γ)) qcl (QF Γ (qn_w (gK Γ)) qcl ovV) (shV (qn_evaluateWithFrame σ a1 a3 a4 a6 a8)) σ 0 [(0, .ref (kq (gK Γ) 2)), (1, .long a1), (3, .int a3), (4, .long a4), (6, .long a6), (8, .int a8)] [] := by
  unfold qn_evaluateWithFrame
  refine j_aload_n C d_qn_evaluateWithFrame_0 rfl 0 rfl ?_
  refine qn_r_frames C k_231 d_qn_evaluateWithFrame_1 rfl ?_
  refine j_iload_n C d_qn_evaluateWithFrame_4 rfl 2 rfl ?_
  refine j_aload_n C d_qn_evaluateWithFrame_5 rfl 0 rfl ?_
  refine qn_r_environment C k_237 d_qn_evaluateWithFrame_6 rfl rfl ?_
  refine j_lload C d_qn_evaluateWithFrame_9 rfl 3 rfl ?_
  refine j_lload C d_qn_evaluateWithFrame_11 rfl 4 rfl ?_
  refine j_iload C d_qn_evaluateWithFrame_13 rfl 5 rfl ?_
  refine cv_qn_qf C (mc_qf_put (gl Γ) (gK Γ) (qn_gF σ) a3 (qn_g_environment σ) a4 a6 a8) qf_put_I k_504 (by decide) d_qn_evaluateWithFrame_15 rfl (rest := []) rfl ⟨rfl, Nat.le_of_ble_eq_true rfl⟩ ?_
  refine j_if_eq C d_qn_evaluateWithFrame_18 (tgt := 29) (by decide) rfl (fun c_1 => ?_) (fun c_1 => ?_)
  · refine J.pos shV c_1 ?_
    refine j_aload_n C d_qn_evaluateWithFrame_29 rfl 0 rfl ?_
    refine j_bipush C d_qn_evaluateWithFrame_30 rfl kc_b_m11 ?_
    refine cv0_qn_qn C (mc_qn_fail (gl Γ) (gK Γ) (qn_sF σ (qf_put (qn_gF σ) a3 (qn_g_environment σ) a4 a6 a8).2) (-11 : Int32)) qn_fail_I k_493 (by decide) d_qn_evaluateWithFrame_32 rfl (rest := []) rfl ⟨rfl, Nat.le_of_ble_eq_true rfl⟩ ?_
    exact j_vret C d_qn_evaluateWithFrame_35
  · refine J.neg shV c_1 ?_
    refine j_aload_n C d_qn_evaluateWithFrame_21 rfl 0 rfl ?_
    refine j_lload_n C d_qn_evaluateWithFrame_22 rfl 1 rfl ?_
    refine cv0_qn_qn C (mc_qn_evaluateInTail (gl Γ) (gK Γ) (qn_sF σ (qf_put (qn_gF σ) a3 (qn_g_environment σ) a4 a6 a8).2) a1) qn_evaluateInTail_I k_484 (by decide) d_qn_evaluateWithFrame_23 rfl (rest := []) rfl ⟨rfl, Nat.le_of_ble_eq_true rfl⟩ ?_
    refine j_goto C d_qn_evaluateWithFrame_26 (tgt := 35) (by decide) ?_
    exact j_vret C d_qn_evaluateWithFrame_35
theorem mc_qn_evaluateWithFrame (l : Launch) (K : kk_T) (σ : qn_S) (a1 : Int64) (a3 : Int32) (a4 : Int64) (a6 : Int64) (a8 : Int32) : MC l qn_evaluateWithFrame_y qn_evaluateWithFrame_c 9 none (1, 27) K (qn_w K) qcl σ [.ref (kq K 2), .long a1, .int a3, .long a4, .long a6, .int a8] none (qn_evaluateWithFrame σ a1 a3 a4 a6 a8) := mc_of (ov := ovV) (X := shV (qn_evaluateWithFrame σ a1 a3 a4 a6 a8)) (by decide +kernel) (Nat.le_of_ble_eq_true rfl) (fun _ => rfl) rfl (fun Γ e1 e2 C => by subst e1; subst e2; exact w_qn_evaluateWithFrame C σ a1 a3 a4 a6 a8)
theorem qn_evaluateWithFrame_I : ck_V qn_evaluateWithFrame_y qn_evaluateWithFrame_c 9 none 5 := ⟨k_503, k_99, by decide +kernel, k_502, k_16⟩
theorem w_qn_giveBack {Γ : cx_T} (C : cx_C Γ (qn_w (gK Γ)) qcl qn_R qn_giveBack_c 3 none (0, 0)) (σ : qn_S) (a1 : Int64) : J Γ (qn_w (gK Γ)) qcl (QF Γ (qn_w (gK Γ)) qcl ovV) (shV (qn_giveBack σ a1)) σ 0 [(0, .ref (kq (gK Γ) 2)), (1, .long a1)] [] := by
  unfold qn_giveBack
  refine j_aload_n C d_qn_giveBack_0 rfl 0 rfl ?_
  refine j_lload_n C d_qn_giveBack_1 rfl 1 rfl ?_
  refine qn_p_current C k_235 d_qn_giveBack_2 rfl ?_
  refine j_aload_n C d_qn_giveBack_5 rfl 0 rfl ?_
  refine j_iconst C d_qn_giveBack_6 rfl kc_i_3 ?_
  refine qn_p_mode C k_234 d_qn_giveBack_7 rfl ?_
  exact j_vret C d_qn_giveBack_10
theorem mc_qn_giveBack (l : Launch) (K : kk_T) (σ : qn_S) (a1 : Int64) : MC l qn_giveBack_y qn_giveBack_c 3 none (0, 0) K (qn_w K) qcl σ [.ref (kq K 2), .long a1] none (qn_giveBack σ a1) := mc_of (ov := ovV) (X := shV (qn_giveBack σ a1)) (by decide +kernel) (Nat.le_of_ble_eq_true rfl) (fun _ => rfl) rfl (fun Γ e1 e2 C => by subst e1; subst e2; exact w_qn_giveBack C σ a1)
theorem qn_giveBack_I : ck_V qn_giveBack_y qn_giveBack_c 3 none 1 := ⟨k_518, k_99, by decide +kernel, k_517, k_18⟩
theorem w_qn_lookUp {Γ : cx_T} (C : cx_C Γ (qn_w (gK Γ)) qcl qn_R qn_lookUp_c 3 none (4, 93)) (N : Nat) (σ : qn_S) (a1 : Int32) : J Γ (qn_w (gK Γ)) qcl (QF Γ (qn_w (gK Γ)) qcl ovV) (shU (qn_lookUp N σ a1)) σ 0 [(0, .ref (kq (gK Γ) 2)), (1, .int a1)] [] := by
  unfold qn_lookUp
  refine j_aload_n C d_qn_lookUp_0 rfl 0 rfl ?_
  refine qn_r_heap C k_229 d_qn_lookUp_1 rfl ?_
  refine j_aload_n C d_qn_lookUp_4 rfl 0 rfl ?_
  refine qn_r_environment C k_237 d_qn_lookUp_5 rfl rfl ?_
  refine j_iload_n C d_qn_lookUp_8 rfl 1 rfl ?_
  refine J.goU (fun r1 h_2 => ?_)
  refine cvr_qn_qh C (mc_qh_visibleBinding (gl Γ) (gK Γ) N (qn_gH σ) (qn_g_environment σ) a1 r1 h_2) qh_visibleBinding_I k_513 (by decide) d_qn_lookUp_9 rfl (rest := []) rfl ⟨rfl, Nat.le_of_ble_eq_true rfl⟩ ?_
  refine j_istore_n C (lv' := [(2, .int r1), (0, .ref (kq (gK Γ) 2)), (1, .int a1)]) d_qn_lookUp_12 rfl rfl (by decide) rfl ?_
  refine j_iload_n C d_qn_lookUp_13 rfl 0 rfl ?_
  refine j_iconst C d_qn_lookUp_14 rfl kc_i_m1 ?_
  refine j_icmp_ne C d_qn_lookUp_15 (tgt := 27) (by decide) rfl (fun c_3 => ?_) (fun c_3 => ?_)
  · refine J.neg shU c_3 ?_
    refine j_aload_n C d_qn_lookUp_27 rfl 1 rfl ?_
    refine j_aload_n C d_qn_lookUp_28 rfl 1 rfl ?_
    refine qn_r_heap C k_229 d_qn_lookUp_29 rfl ?_
    refine j_iload_n C d_qn_lookUp_32 rfl 0 rfl ?_
    refine cvr_qn_qh C (mc_qh_boundValueOf (gl Γ) (gK Γ) (qn_gH σ) r1) qh_boundValueOf_I k_514 (by decide) d_qn_lookUp_33 rfl (rest := [.ref (kq (gK Γ) 2)]) rfl ⟨rfl, Nat.le_of_ble_eq_true rfl⟩ ?_
    refine cv0_qn_qn C (mc_qn_giveBack (gl Γ) (gK Γ) σ (qh_boundValueOf (qn_gH σ) r1)) qn_giveBack_I k_515 (by decide) d_qn_lookUp_36 rfl (rest := []) rfl ⟨rfl, Nat.le_of_ble_eq_true rfl⟩ ?_
    exact j_vret C d_qn_lookUp_39
  · refine J.pos shU c_3 ?_
    refine j_aload_n C d_qn_lookUp_18 rfl 1 rfl ?_
    refine j_bipush C d_qn_lookUp_19 rfl kc_b_m6 ?_
    refine cv0_qn_qn C (mc_qn_fail (gl Γ) (gK Γ) σ (-6 : Int32)) qn_fail_I k_493 (by decide) d_qn_lookUp_21 rfl (rest := []) rfl ⟨rfl, Nat.le_of_ble_eq_true rfl⟩ ?_
    refine j_goto C d_qn_lookUp_24 (tgt := 39) (by decide) ?_
    exact j_vret C d_qn_lookUp_39
theorem mc_qn_lookUp (l : Launch) (K : kk_T) (N : Nat) (σ : qn_S) (a1 : Int32) (r : qn_S) (h : qn_lookUp N σ a1 = some r) : MC l qn_lookUp_y qn_lookUp_c 3 none (4, 93) K (qn_w K) qcl σ [.ref (kq K 2), .int a1] none r := mc_of (ov := ovV) (X := shU (qn_lookUp N σ a1)) (by decide +kernel) (Nat.le_of_ble_eq_true rfl) (fun _ => rfl) (by rw [h]; rfl) (fun Γ e1 e2 C => by subst e1; subst e2; exact w_qn_lookUp C N σ a1)
theorem qn_lookUp_I : ck_V qn_lookUp_y qn_lookUp_c 3 none 1 := ⟨k_512, k_99, by decide +kernel, k_511, k_17⟩
theorem w_qn_evaluateCurrent {Γ : cx_T} (C : cx_C Γ (qn_w (gK Γ)) qcl qn_R qn_evaluateCurrent_c 2 none (5, 115)) (N : Nat) (σ : qn_S)  : J Γ (qn_w (gK Γ)) qcl (QF Γ (qn_w (gK Γ)) qcl ovV) (shU (qn_evaluateCurrent N σ)) σ 0 [(0, .ref (kq (gK Γ) 2))] [] := by
  unfold qn_evaluateCurrent
  refine j_aload_n C d_qn_evaluateCurrent_0 rfl 0 rfl ?_
  refine qn_r_steps C k_238 d_qn_evaluateCurrent_1 rfl rfl ?_
  refine j_aload_n C d_qn_evaluateCurrent_4 rfl 0 rfl ?_
  refine qn_r_limit C k_239 d_qn_evaluateCurrent_5 rfl rfl ?_
  refine j_icmp_lt C d_qn_evaluateCurrent_8 (tgt := 18) (by decide) rfl (fun c_1 => ?_) (fun c_1 => ?_)
  · refine J.pos shU c_1 ?_
    refine j_aload_n C d_qn_evaluateCurrent_18 rfl 0 rfl ?_
    refine j_dup C d_qn_evaluateCurrent_19 rfl rfl ?_
    refine qn_r_steps C k_238 d_qn_evaluateCurrent_20 rfl rfl ?_
    refine j_iconst C d_qn_evaluateCurrent_23 rfl kc_i_1 ?_
    refine j_iadd C d_qn_evaluateCurrent_24 rfl ?_
    refine qn_p_steps C k_238 d_qn_evaluateCurrent_25 rfl ?_
    refine j_aload_n C d_qn_evaluateCurrent_28 rfl 0 rfl ?_
    refine qn_r_current C k_235 d_qn_evaluateCurrent_29 rfl (x := (qn_g_current σ)) (gs_qn_current_s_steps _ _) ?_
    refine cs_qn C (mc_qw_kindOf (gl Γ) (gK Γ) (qn_g_current σ)) qw_kindOf_I k_497 (by decide) d_qn_evaluateCurrent_32 rfl (rest := []) rfl (Nat.le_of_ble_eq_true rfl) ?_
    refine j_istore_n C (lv' := [(1, .int (qw_kindOf (qn_g_current σ))), (0, .ref (kq (gK Γ) 2))]) d_qn_evaluateCurrent_35 rfl rfl (by decide) rfl ?_
    refine j_iload_n C d_qn_evaluateCurrent_36 rfl 0 rfl ?_
    refine j_iconst C d_qn_evaluateCurrent_37 rfl kc_i_4 ?_
    refine j_icmp_ne C d_qn_evaluateCurrent_38 (tgt := 75) (by decide) rfl (fun c_2 => ?_) (fun c_2 => ?_)
    · refine J.neg shU c_2 ?_
      refine j_iload_n C d_qn_evaluateCurrent_75 rfl 0 rfl ?_
      refine j_iconst C d_qn_evaluateCurrent_76 rfl kc_i_2 ?_
      refine j_icmp_ne C d_qn_evaluateCurrent_77 (tgt := 94) (by decide) rfl (fun c_3 => ?_) (fun c_3 => ?_)
      · refine J.neg shU c_3 ?_
        refine j_aload_n C d_qn_evaluateCurrent_94 rfl 1 rfl ?_
        refine j_aload_n C d_qn_evaluateCurrent_95 rfl 1 rfl ?_
        refine qn_r_current C k_235 d_qn_evaluateCurrent_96 rfl (x := (qn_g_current σ)) (gs_qn_current_s_steps _ _) ?_
        refine cv0_qn_qn C (mc_qn_giveBack (gl Γ) (gK Γ) (qn_s_steps σ ((qn_g_steps σ) + (1 : Int32))) (qn_g_current σ)) qn_giveBack_I k_515 (by decide) d_qn_evaluateCurrent_99 rfl (rest := []) rfl ⟨rfl, Nat.le_of_ble_eq_true rfl⟩ ?_
        exact j_vret C d_qn_evaluateCurrent_102
      · refine J.pos shU c_3 ?_
        refine j_aload_n C d_qn_evaluateCurrent_80 rfl 1 rfl ?_
        refine j_aload_n C d_qn_evaluateCurrent_81 rfl 1 rfl ?_
        refine qn_r_current C k_235 d_qn_evaluateCurrent_82 rfl (x := (qn_g_current σ)) (gs_qn_current_s_steps _ _) ?_
        refine cs_qn C (mc_qw_rowOf (gl Γ) (gK Γ) (qn_g_current σ)) qw_rowOf_I k_508 (by decide) d_qn_evaluateCurrent_85 rfl (rest := [.ref (kq (gK Γ) 2)]) rfl (Nat.le_of_ble_eq_true rfl) ?_
        refine J.goU (fun r4 h_5 => ?_)
        refine cv0_qn_qn C (mc_qn_lookUp (gl Γ) (gK Γ) N (qn_s_steps σ ((qn_g_steps σ) + (1 : Int32))) (qw_rowOf (qn_g_current σ)) r4 h_5) qn_lookUp_I k_509 (by decide) d_qn_evaluateCurrent_88 rfl (rest := []) rfl ⟨rfl, Nat.le_of_ble_eq_true rfl⟩ ?_
        refine j_goto C d_qn_evaluateCurrent_91 (tgt := 102) (by decide) ?_
        exact j_vret C d_qn_evaluateCurrent_102
    · refine J.pos shU c_2 ?_
      refine j_aload_n C d_qn_evaluateCurrent_41 rfl 1 rfl ?_
      refine j_aload_n C d_qn_evaluateCurrent_42 rfl 1 rfl ?_
      refine qn_r_heap C k_229 d_qn_evaluateCurrent_43 rfl ?_
      refine j_aload_n C d_qn_evaluateCurrent_46 rfl 1 rfl ?_
      refine qn_r_current C k_235 d_qn_evaluateCurrent_47 rfl (x := (qn_g_current σ)) (gs_qn_current_s_steps _ _) ?_
      refine cvr_qn_qh C (mc_qh_carOf (gl Γ) (gK Γ) (qn_gH σ) (qn_g_current σ)) qh_carOf_I k_498 (by decide) d_qn_evaluateCurrent_50 rfl (rest := [.ref (kq (gK Γ) 2)]) rfl ⟨rfl, Nat.le_of_ble_eq_true rfl⟩ ?_
      refine j_iconst C d_qn_evaluateCurrent_53 rfl kc_i_0 ?_
      refine j_aload_n C d_qn_evaluateCurrent_54 rfl 1 rfl ?_
      refine qn_r_heap C k_229 d_qn_evaluateCurrent_55 rfl ?_
      refine j_aload_n C d_qn_evaluateCurrent_58 rfl 1 rfl ?_
      refine qn_r_current C k_235 d_qn_evaluateCurrent_59 rfl (x := (qn_g_current σ)) (gs_qn_current_s_steps _ _) ?_
      refine cvr_qn_qh C (mc_qh_cdrOf (gl Γ) (gK Γ) (qn_gH σ) (qn_g_current σ)) qh_cdrOf_I k_499 (by decide) d_qn_evaluateCurrent_62 rfl (rest := [.int (0 : Int32), .long (qh_carOf (qn_gH σ) (qn_g_current σ)), .ref (kq (gK Γ) 2)]) rfl ⟨rfl, Nat.le_of_ble_eq_true rfl⟩ ?_
      refine j_ldc2 C d_qn_evaluateCurrent_65 rfl k_228 ?_
      refine j_iconst C d_qn_evaluateCurrent_68 rfl kc_i_0 ?_
      refine cv0_qn_qn C (mc_qn_evaluateWithFrame (gl Γ) (gK Γ) (qn_s_steps σ ((qn_g_steps σ) + (1 : Int32))) (qh_carOf (qn_gH σ) (qn_g_current σ)) (0 : Int32) (qh_cdrOf (qn_gH σ) (qn_g_current σ)) (3 : Int64) (0 : Int32)) qn_evaluateWithFrame_I k_500 (by decide) d_qn_evaluateCurrent_69 rfl (rest := []) rfl ⟨rfl, Nat.le_of_ble_eq_true rfl⟩ ?_
      refine j_goto C d_qn_evaluateCurrent_72 (tgt := 102) (by decide) ?_
      exact j_vret C d_qn_evaluateCurrent_102
  · refine J.neg shU c_1 ?_
    refine j_aload_n C d_qn_evaluateCurrent_11 rfl 0 rfl ?_
    refine j_bipush C d_qn_evaluateCurrent_12 rfl kc_b_m10 ?_
    refine cv0_qn_qn C (mc_qn_fail (gl Γ) (gK Γ) σ (-10 : Int32)) qn_fail_I k_493 (by decide) d_qn_evaluateCurrent_14 rfl (rest := []) rfl ⟨rfl, Nat.le_of_ble_eq_true rfl⟩ ?_
    exact j_vret C d_qn_evaluateCurrent_17
theorem mc_qn_evaluateCurrent (l : Launch) (K : kk_T) (N : Nat) (σ : qn_S)  (r : qn_S) (h : qn_evaluateCurrent N σ = some r) : MC l qn_evaluateCurrent_y qn_evaluateCurrent_c 2 none (5, 115) K (qn_w K) qcl σ [.ref (kq K 2)] none r := mc_of (ov := ovV) (X := shU (qn_evaluateCurrent N σ)) (by decide +kernel) (Nat.le_of_ble_eq_true rfl) (fun _ => rfl) (by rw [h]; rfl) (fun Γ e1 e2 C => by subst e1; subst e2; exact w_qn_evaluateCurrent C N σ)
theorem qn_evaluateCurrent_I : ck_V qn_evaluateCurrent_y qn_evaluateCurrent_c 2 none 0 := ⟨k_492, k_99, by decide +kernel, k_491, k_14⟩
theorem w_qn_latestArgument {Γ : cx_T} (C : cx_C Γ (qn_w (gK Γ)) qcl qn_R qn_latestArgument_c 2 (some .long) (0, 0)) (σ : qn_S)  : J Γ (qn_w (gK Γ)) qcl (QF Γ (qn_w (gK Γ)) qcl ovL) ((shP σ) (qn_latestArgument σ)) σ 0 [(0, .ref (kq (gK Γ) 2))] [] := by
  unfold qn_latestArgument
  refine j_aload_n C d_qn_latestArgument_0 rfl 0 rfl ?_
  refine qn_r_argumentCount C k_233 d_qn_latestArgument_1 rfl rfl ?_
  refine j_iconst C d_qn_latestArgument_4 rfl kc_i_1 ?_
  refine j_isub C d_qn_latestArgument_5 rfl ?_
  refine j_istore_n C (lv' := [(1, .int ((qn_g_argumentCount σ) - (1 : Int32))), (0, .ref (kq (gK Γ) 2))]) d_qn_latestArgument_6 rfl rfl (by decide) rfl ?_
  refine j_iload_n C d_qn_latestArgument_7 rfl 0 rfl ?_
  refine j_if_lt C d_qn_latestArgument_8 (tgt := 27) (by decide) rfl (fun c_1 => ?_) (fun c_1 => ?_)
  · refine J.pos (shP σ) c_1 ?_
    refine j_ldc2 C d_qn_latestArgument_27 rfl k_228 ?_
    exact j_lret C d_qn_latestArgument_30
  · refine J.neg (shP σ) c_1 ?_
    refine j_iload_n C d_qn_latestArgument_11 rfl 0 rfl ?_
    refine j_sipush C d_qn_latestArgument_12 rfl kc_s_1500 ?_
    refine j_icmp_ge C d_qn_latestArgument_15 (tgt := 27) (by decide) rfl (fun c_2 => ?_) (fun c_2 => ?_)
    · refine J.pos (shP σ) c_2 ?_
      refine j_ldc2 C d_qn_latestArgument_27 rfl k_228 ?_
      exact j_lret C d_qn_latestArgument_30
    · refine J.neg (shP σ) c_2 ?_
      refine j_aload_n C d_qn_latestArgument_18 rfl 1 rfl ?_
      refine qn_r_arguments C k_232 d_qn_latestArgument_19 rfl ?_
      refine j_iload_n C d_qn_latestArgument_22 rfl 0 rfl ?_
      refine qn_l_arguments C (in_a (M := 1500) c_1 c_2 (by decide) (Nat.le_of_ble_eq_true rfl)) d_qn_latestArgument_23 rfl rfl ?_
      refine j_goto C d_qn_latestArgument_24 (tgt := 30) (by decide) ?_
      exact j_lret C d_qn_latestArgument_30
theorem mc_qn_latestArgument (l : Launch) (K : kk_T) (σ : qn_S)  : MC l qn_latestArgument_y qn_latestArgument_c 2 (some .long) (0, 0) K (qn_w K) qcl σ [.ref (kq K 2)] (some (.long (qn_latestArgument σ))) σ := mc_of (ov := ovL) (X := (shP σ) (qn_latestArgument σ)) (by decide +kernel) (Nat.le_of_ble_eq_true rfl) (fun _ => rfl) rfl (fun Γ e1 e2 C => by subst e1; subst e2; exact w_qn_latestArgument C σ)
theorem qn_latestArgument_I : ck_V qn_latestArgument_y qn_latestArgument_c 2 (some .long) 0 := ⟨k_540, k_99, by decide +kernel, k_539, k_23⟩
theorem w_qn_combine {Γ : cx_T} (C : cx_C Γ (qn_w (gK Γ)) qcl qn_R qn_combine_c 5 none (0, 0)) (σ : qn_S) (a1 : Int64) (a3 : Int64) : J Γ (qn_w (gK Γ)) qcl (QF Γ (qn_w (gK Γ)) qcl ovV) (shV (qn_combine σ a1 a3)) σ 0 [(0, .ref (kq (gK Γ) 2)), (1, .long a1), (3, .long a3)] [] := by
  unfold qn_combine
  refine j_aload_n C d_qn_combine_0 rfl 0 rfl ?_
  refine j_lload_n C d_qn_combine_1 rfl 1 rfl ?_
  refine qn_p_current C k_235 d_qn_combine_2 rfl ?_
  refine j_aload_n C d_qn_combine_5 rfl 0 rfl ?_
  refine j_lload_n C d_qn_combine_6 rfl 2 rfl ?_
  refine qn_p_operands C k_236 d_qn_combine_7 rfl ?_
  refine j_aload_n C d_qn_combine_10 rfl 0 rfl ?_
  refine j_iconst C d_qn_combine_11 rfl kc_i_1 ?_
  refine qn_p_mode C k_234 d_qn_combine_12 rfl ?_
  exact j_vret C d_qn_combine_15
theorem mc_qn_combine (l : Launch) (K : kk_T) (σ : qn_S) (a1 : Int64) (a3 : Int64) : MC l qn_combine_y qn_combine_c 5 none (0, 0) K (qn_w K) qcl σ [.ref (kq K 2), .long a1, .long a3] none (qn_combine σ a1 a3) := mc_of (ov := ovV) (X := shV (qn_combine σ a1 a3)) (by decide +kernel) (Nat.le_of_ble_eq_true rfl) (fun _ => rfl) rfl (fun Γ e1 e2 C => by subst e1; subst e2; exact w_qn_combine C σ a1 a3)
theorem qn_combine_I : ck_V qn_combine_y qn_combine_c 5 none 2 := ⟨k_546, k_99, by decide +kernel, k_545, k_24⟩
theorem w_qn_combineWithArguments_L8 {Γ : cx_T} (C : cx_C Γ (qn_w (gK Γ)) qcl qn_R qn_combineWithArguments_c 8 none (2, 49)) (N : Nat) : ∀ (k : Nat) (σ : qn_S) (x1 : Int64) (x3 : Int32) (x4 : Int64) (x6 : Int32), J Γ (qn_w (gK Γ)) qcl (QF Γ (qn_w (gK Γ)) qcl ovV) (shU (qn_combineWithArguments_L8 N k σ x1 x3 x4 x6)) σ 8 [(0, .ref (kq (gK Γ) 2)), (1, .long x1), (3, .int x3), (4, .long x4), (6, .int x6)] [] := by
  intro k
  induction k with
  | zero => intro σ x1 x3 x4 x6; exact J.none rfl
  | succ k ih =>
    intro σ x1 x3 x4 x6
    rw [qn_combineWithArguments_L8]
    refine j_iload C d_qn_combineWithArguments_8 rfl 4 rfl ?_
    refine j_iload_n C d_qn_combineWithArguments_10 rfl 2 rfl ?_
    refine j_icmp_ge C d_qn_combineWithArguments_11 (tgt := 67) (by decide) rfl (fun c_1 => ?_) (fun c_1 => ?_)
    · refine J.pos shU c_1 ?_
      refine j_aload_n C d_qn_combineWithArguments_67 rfl 0 rfl ?_
      refine j_lload_n C d_qn_combineWithArguments_68 rfl 1 rfl ?_
      refine j_lload C d_qn_combineWithArguments_69 rfl 3 rfl ?_
      refine cv0_qn_qn C (mc_qn_combine (gl Γ) (gK Γ) σ x1 x4) qn_combine_I k_543 (by decide) d_qn_combineWithArguments_71 rfl (rest := []) rfl ⟨rfl, Nat.le_of_ble_eq_true rfl⟩ ?_
      exact j_vret C d_qn_combineWithArguments_74
    · refine J.neg shU c_1 ?_
      refine j_aload_n C d_qn_combineWithArguments_14 rfl 0 rfl ?_
      refine qn_r_heap C k_229 d_qn_combineWithArguments_15 rfl ?_
      refine j_aload_n C d_qn_combineWithArguments_18 rfl 0 rfl ?_
      refine cvr_qn_qn C (mc_qn_latestArgument (gl Γ) (gK Γ) σ) qn_latestArgument_I k_537 (by decide) d_qn_combineWithArguments_19 rfl (rest := [.ref (kq (gK Γ) 15)]) rfl ⟨rfl, Nat.le_of_ble_eq_true rfl⟩ ?_
      refine j_lload C d_qn_combineWithArguments_22 rfl 3 rfl ?_
      refine cv_qn_qh C (mc_qh_addPair (gl Γ) (gK Γ) (qn_gH σ) (qn_latestArgument σ) x4) qh_addPair_I k_541 (by decide) d_qn_combineWithArguments_24 rfl (rest := []) rfl ⟨rfl, Nat.le_of_ble_eq_true rfl⟩ ?_
      refine j_istore C (lv' := [(7, .int (qh_addPair (qn_gH σ) (qn_latestArgument σ) x4).1), (0, .ref (kq (gK Γ) 2)), (1, .long x1), (3, .int x3), (4, .long x4), (6, .int x6)]) d_qn_combineWithArguments_27 rfl (by decide) rfl ?_
      refine j_iload C d_qn_combineWithArguments_29 rfl 0 rfl ?_
      refine j_iconst C d_qn_combineWithArguments_31 rfl kc_i_m1 ?_
      refine j_icmp_ne C d_qn_combineWithArguments_32 (tgt := 42) (by decide) rfl (fun c_2 => ?_) (fun c_2 => ?_)
      · refine J.neg shU c_2 ?_
        refine j_aload_n C d_qn_combineWithArguments_42 rfl 1 rfl ?_
        refine j_dup C d_qn_combineWithArguments_43 rfl rfl ?_
        refine qn_r_argumentCount C k_233 d_qn_combineWithArguments_44 rfl (x := (qn_g_argumentCount σ)) (gs_qn_argumentCount_u_H _ _) ?_
        refine j_iconst C d_qn_combineWithArguments_47 rfl kc_i_1 ?_
        refine j_isub C d_qn_combineWithArguments_48 rfl ?_
        refine qn_p_argumentCount C k_233 d_qn_combineWithArguments_49 rfl ?_
        refine j_iconst C d_qn_combineWithArguments_52 rfl kc_i_4 ?_
        refine j_iload C d_qn_combineWithArguments_53 rfl 0 rfl ?_
        refine j_i2l C d_qn_combineWithArguments_55 rfl ?_
        refine cs_qn C (mc_qw_make (gl Γ) (gK Γ) (4 : Int32) (Int32.toInt64 (qh_addPair (qn_gH σ) (qn_latestArgument σ) x4).1)) qw_make_I k_542 (by decide) d_qn_combineWithArguments_56 rfl (rest := []) rfl (Nat.le_of_ble_eq_true rfl) ?_
        refine j_lstore C (lv' := [(4, .long (qw_make (4 : Int32) (Int32.toInt64 (qh_addPair (qn_gH σ) (qn_latestArgument σ) x4).1))), (7, .int (qh_addPair (qn_gH σ) (qn_latestArgument σ) x4).1), (0, .ref (kq (gK Γ) 2)), (1, .long x1), (3, .int x3), (6, .int x6)]) d_qn_combineWithArguments_59 rfl (by decide) rfl ?_
        refine j_iinc C (v := (x6 + (1 : Int32))) (lv' := [(6, .int (x6 + (1 : Int32))), (4, .long (qw_make (4 : Int32) (Int32.toInt64 (qh_addPair (qn_gH σ) (qn_latestArgument σ) x4).1))), (7, .int (qh_addPair (qn_gH σ) (qn_latestArgument σ) x4).1), (0, .ref (kq (gK Γ) 2)), (1, .long x1), (3, .int x3)]) d_qn_combineWithArguments_61 rfl 5 rfl (kc_inc_1 _) (by decide) rfl ?_
        refine j_goto C d_qn_combineWithArguments_64 (tgt := 8) (by decide) ?_
        refine J.loc (lv' := [(0, .ref (kq (gK Γ) 2)), (1, .long x1), (3, .int x3), (4, .long (qw_make (4 : Int32) (Int32.toInt64 (qh_addPair (qn_gH σ) (qn_latestArgument σ) x4).1))), (6, .int (x6 + (1 : Int32)))]) [3, 4, 5, 1, 0] rfl ?_
        exact ih (qn_s_argumentCount (qn_sH σ (qh_addPair (qn_gH σ) (qn_latestArgument σ) x4).2) ((qn_g_argumentCount σ) - (1 : Int32))) x1 x3 (qw_make (4 : Int32) (Int32.toInt64 (qh_addPair (qn_gH σ) (qn_latestArgument σ) x4).1)) (x6 + (1 : Int32))
      · refine J.pos shU c_2 ?_
        refine j_aload_n C d_qn_combineWithArguments_35 rfl 1 rfl ?_
        refine j_bipush C d_qn_combineWithArguments_36 rfl kc_b_m5 ?_
        refine cv0_qn_qn C (mc_qn_fail (gl Γ) (gK Γ) (qn_sH σ (qh_addPair (qn_gH σ) (qn_latestArgument σ) x4).2) (-5 : Int32)) qn_fail_I k_493 (by decide) d_qn_combineWithArguments_38 rfl (rest := []) rfl ⟨rfl, Nat.le_of_ble_eq_true rfl⟩ ?_
        exact j_vret C d_qn_combineWithArguments_41
theorem w_qn_combineWithArguments {Γ : cx_T} (C : cx_C Γ (qn_w (gK Γ)) qcl qn_R qn_combineWithArguments_c 8 none (2, 49)) (N : Nat) (σ : qn_S) (a1 : Int64) (a3 : Int32) : J Γ (qn_w (gK Γ)) qcl (QF Γ (qn_w (gK Γ)) qcl ovV) (shU (qn_combineWithArguments N σ a1 a3)) σ 0 [(0, .ref (kq (gK Γ) 2)), (1, .long a1), (3, .int a3)] [] := by
  unfold qn_combineWithArguments
  refine j_ldc2 C d_qn_combineWithArguments_0 rfl k_228 ?_
  refine j_lstore C (lv' := [(4, .long (3 : Int64)), (0, .ref (kq (gK Γ) 2)), (1, .long a1), (3, .int a3)]) d_qn_combineWithArguments_3 rfl (by decide) rfl ?_
  refine j_iconst C d_qn_combineWithArguments_5 rfl kc_i_0 ?_
  refine j_istore C (lv' := [(6, .int (0 : Int32)), (4, .long (3 : Int64)), (0, .ref (kq (gK Γ) 2)), (1, .long a1), (3, .int a3)]) d_qn_combineWithArguments_6 rfl (by decide) rfl ?_
  refine J.loc (lv' := [(0, .ref (kq (gK Γ) 2)), (1, .long a1), (3, .int a3), (4, .long (3 : Int64)), (6, .int (0 : Int32))]) [2, 3, 4, 1, 0] rfl ?_
  exact w_qn_combineWithArguments_L8 C N N σ a1 a3 (3 : Int64) (0 : Int32)
theorem mc_qn_combineWithArguments (l : Launch) (K : kk_T) (N : Nat) (σ : qn_S) (a1 : Int64) (a3 : Int32) (r : qn_S) (h : qn_combineWithArguments N σ a1 a3 = some r) : MC l qn_combineWithArguments_y qn_combineWithArguments_c 8 none (2, 49) K (qn_w K) qcl σ [.ref (kq K 2), .long a1, .int a3] none r := mc_of (ov := ovV) (X := shU (qn_combineWithArguments N σ a1 a3)) (by decide +kernel) (Nat.le_of_ble_eq_true rfl) (fun _ => rfl) (by rw [h]; rfl) (fun Γ e1 e2 C => by subst e1; subst e2; exact w_qn_combineWithArguments C N σ a1 a3)
theorem qn_combineWithArguments_I : ck_V qn_combineWithArguments_y qn_combineWithArguments_c 8 none 2 := ⟨k_536, k_99, by decide +kernel, k_535, k_22⟩
theorem w_qn_evaluateArguments {Γ : cx_T} (C : cx_C Γ (qn_w (gK Γ)) qcl qn_R qn_evaluateArguments_c 6 none (3, 76)) (N : Nat) (σ : qn_S) (a1 : Int64) (a3 : Int64) (a5 : Int32) : J Γ (qn_w (gK Γ)) qcl (QF Γ (qn_w (gK Γ)) qcl ovV) (shU (qn_evaluateArguments N σ a1 a3 a5)) σ 0 [(0, .ref (kq (gK Γ) 2)), (1, .long a1), (3, .long a3), (5, .int a5)] [] := by
  unfold qn_evaluateArguments
  refine j_lload_n C d_qn_evaluateArguments_0 rfl 1 rfl ?_
  refine j_ldc2 C d_qn_evaluateArguments_1 rfl k_228 ?_
  refine j_lcmp_ne C d_qn_evaluateArguments_4 d_qn_evaluateArguments_5 (tgt := 18) (by decide) rfl (fun c_1 => ?_) (fun c_1 => ?_)
  · refine J.neg shU c_1 ?_
    refine j_aload_n C d_qn_evaluateArguments_18 rfl 0 rfl ?_
    refine j_aload_n C d_qn_evaluateArguments_19 rfl 0 rfl ?_
    refine qn_r_heap C k_229 d_qn_evaluateArguments_20 rfl ?_
    refine j_lload_n C d_qn_evaluateArguments_23 rfl 1 rfl ?_
    refine cvr_qn_qh C (mc_qh_carOf (gl Γ) (gK Γ) (qn_gH σ) a1) qh_carOf_I k_498 (by decide) d_qn_evaluateArguments_24 rfl (rest := [.ref (kq (gK Γ) 2)]) rfl ⟨rfl, Nat.le_of_ble_eq_true rfl⟩ ?_
    refine j_iconst C d_qn_evaluateArguments_27 rfl kc_i_1 ?_
    refine j_aload_n C d_qn_evaluateArguments_28 rfl 0 rfl ?_
    refine qn_r_heap C k_229 d_qn_evaluateArguments_29 rfl ?_
    refine j_lload_n C d_qn_evaluateArguments_32 rfl 1 rfl ?_
    refine cvr_qn_qh C (mc_qh_cdrOf (gl Γ) (gK Γ) (qn_gH σ) a1) qh_cdrOf_I k_499 (by decide) d_qn_evaluateArguments_33 rfl (rest := [.int (1 : Int32), .long (qh_carOf (qn_gH σ) a1), .ref (kq (gK Γ) 2)]) rfl ⟨rfl, Nat.le_of_ble_eq_true rfl⟩ ?_
    refine j_lload_n C d_qn_evaluateArguments_36 rfl 2 rfl ?_
    refine j_iload C d_qn_evaluateArguments_37 rfl 3 rfl ?_
    refine cv0_qn_qn C (mc_qn_evaluateWithFrame (gl Γ) (gK Γ) σ (qh_carOf (qn_gH σ) a1) (1 : Int32) (qh_cdrOf (qn_gH σ) a1) a3 a5) qn_evaluateWithFrame_I k_500 (by decide) d_qn_evaluateArguments_39 rfl (rest := []) rfl ⟨rfl, Nat.le_of_ble_eq_true rfl⟩ ?_
    exact j_vret C d_qn_evaluateArguments_42
  · refine J.pos shU c_1 ?_
    refine j_aload_n C d_qn_evaluateArguments_8 rfl 0 rfl ?_
    refine j_lload_n C d_qn_evaluateArguments_9 rfl 2 rfl ?_
    refine j_iload C d_qn_evaluateArguments_10 rfl 3 rfl ?_
    refine J.goU (fun r2 h_3 => ?_)
    refine cv0_qn_qn C (mc_qn_combineWithArguments (gl Γ) (gK Γ) N σ a3 a5 r2 h_3) qn_combineWithArguments_I k_533 (by decide) d_qn_evaluateArguments_12 rfl (rest := []) rfl ⟨rfl, Nat.le_of_ble_eq_true rfl⟩ ?_
    refine j_goto C d_qn_evaluateArguments_15 (tgt := 42) (by decide) ?_
    exact j_vret C d_qn_evaluateArguments_42
theorem mc_qn_evaluateArguments (l : Launch) (K : kk_T) (N : Nat) (σ : qn_S) (a1 : Int64) (a3 : Int64) (a5 : Int32) (r : qn_S) (h : qn_evaluateArguments N σ a1 a3 a5 = some r) : MC l qn_evaluateArguments_y qn_evaluateArguments_c 6 none (3, 76) K (qn_w K) qcl σ [.ref (kq K 2), .long a1, .long a3, .int a5] none r := mc_of (ov := ovV) (X := shU (qn_evaluateArguments N σ a1 a3 a5)) (by decide +kernel) (Nat.le_of_ble_eq_true rfl) (fun _ => rfl) (by rw [h]; rfl) (fun Γ e1 e2 C => by subst e1; subst e2; exact w_qn_evaluateArguments C N σ a1 a3 a5)
theorem qn_evaluateArguments_I : ck_V qn_evaluateArguments_y qn_evaluateArguments_c 6 none 3 := ⟨k_532, k_99, by decide +kernel, k_531, k_21⟩
theorem w_qn_combineApplicative {Γ : cx_T} (C : cx_C Γ (qn_w (gK Γ)) qcl qn_R qn_combineApplicative_c 1 none (4, 101)) (N : Nat) (σ : qn_S)  : J Γ (qn_w (gK Γ)) qcl (QF Γ (qn_w (gK Γ)) qcl ovV) (shU (qn_combineApplicative N σ)) σ 0 [(0, .ref (kq (gK Γ) 2))] [] := by
  unfold qn_combineApplicative
  refine j_aload_n C d_qn_combineApplicative_0 rfl 0 rfl ?_
  refine qn_r_heap C k_229 d_qn_combineApplicative_1 rfl ?_
  refine j_aload_n C d_qn_combineApplicative_4 rfl 0 rfl ?_
  refine qn_r_operands C k_236 d_qn_combineApplicative_5 rfl rfl ?_
  refine J.goU (fun r1 h_2 => ?_)
  refine cvr_qn_qh C (mc_qh_lengthOf (gl Γ) (gK Γ) N (qn_gH σ) (qn_g_operands σ) r1 h_2) qh_lengthOf_I k_527 (by decide) d_qn_combineApplicative_8 rfl (rest := []) rfl ⟨rfl, Nat.le_of_ble_eq_true rfl⟩ ?_
  refine j_iconst C d_qn_combineApplicative_11 rfl kc_i_m1 ?_
  refine j_icmp_ne C d_qn_combineApplicative_12 (tgt := 24) (by decide) rfl (fun c_3 => ?_) (fun c_3 => ?_)
  · refine J.neg shU c_3 ?_
    refine j_aload_n C d_qn_combineApplicative_24 rfl 0 rfl ?_
    refine j_aload_n C d_qn_combineApplicative_25 rfl 0 rfl ?_
    refine qn_r_operands C k_236 d_qn_combineApplicative_26 rfl rfl ?_
    refine j_aload_n C d_qn_combineApplicative_29 rfl 0 rfl ?_
    refine qn_r_heap C k_229 d_qn_combineApplicative_30 rfl ?_
    refine j_aload_n C d_qn_combineApplicative_33 rfl 0 rfl ?_
    refine qn_r_current C k_235 d_qn_combineApplicative_34 rfl rfl ?_
    refine cvr_qn_qh C (mc_qh_underlyingOf (gl Γ) (gK Γ) (qn_gH σ) (qn_g_current σ)) qh_underlyingOf_I k_528 (by decide) d_qn_combineApplicative_37 rfl (rest := [.long (qn_g_operands σ), .ref (kq (gK Γ) 2)]) rfl ⟨rfl, Nat.le_of_ble_eq_true rfl⟩ ?_
    refine j_iconst C d_qn_combineApplicative_40 rfl kc_i_0 ?_
    refine J.goU (fun r4 h_5 => ?_)
    refine cv0_qn_qn C (mc_qn_evaluateArguments (gl Γ) (gK Γ) N σ (qn_g_operands σ) (qh_underlyingOf (qn_gH σ) (qn_g_current σ)) (0 : Int32) r4 h_5) qn_evaluateArguments_I k_529 (by decide) d_qn_combineApplicative_41 rfl (rest := []) rfl ⟨rfl, Nat.le_of_ble_eq_true rfl⟩ ?_
    exact j_vret C d_qn_combineApplicative_44
  · refine J.pos shU c_3 ?_
    refine j_aload_n C d_qn_combineApplicative_15 rfl 0 rfl ?_
    refine j_bipush C d_qn_combineApplicative_16 rfl kc_b_m8 ?_
    refine cv0_qn_qn C (mc_qn_fail (gl Γ) (gK Γ) σ (-8 : Int32)) qn_fail_I k_493 (by decide) d_qn_combineApplicative_18 rfl (rest := []) rfl ⟨rfl, Nat.le_of_ble_eq_true rfl⟩ ?_
    refine j_goto C d_qn_combineApplicative_21 (tgt := 44) (by decide) ?_
    exact j_vret C d_qn_combineApplicative_44
theorem mc_qn_combineApplicative (l : Launch) (K : kk_T) (N : Nat) (σ : qn_S)  (r : qn_S) (h : qn_combineApplicative N σ = some r) : MC l qn_combineApplicative_y qn_combineApplicative_c 1 none (4, 101) K (qn_w K) qcl σ [.ref (kq K 2)] none r := mc_of (ov := ovV) (X := shU (qn_combineApplicative N σ)) (by decide +kernel) (Nat.le_of_ble_eq_true rfl) (fun _ => rfl) (by rw [h]; rfl) (fun Γ e1 e2 C => by subst e1; subst e2; exact w_qn_combineApplicative C N σ)
theorem qn_combineApplicative_I : ck_V qn_combineApplicative_y qn_combineApplicative_c 1 none 0 := ⟨k_526, k_99, by decide +kernel, k_525, k_20⟩
theorem w_qn_bindCaller {Γ : cx_T} (C : cx_C Γ (qn_w (gK Γ)) qcl qn_R qn_bindCaller_c 3 (some .boolean) (3, 67)) (σ : qn_S) (a1 : Int32) (a2 : Int32) : J Γ (qn_w (gK Γ)) qcl (QF Γ (qn_w (gK Γ)) qcl ovI) (shT (qn_bindCaller σ a1 a2)) σ 0 [(0, .ref (kq (gK Γ) 2)), (1, .int a1), (2, .int a2)] [] := by
  unfold qn_bindCaller
  refine j_iload_n C d_qn_bindCaller_0 rfl 2 rfl ?_
  refine j_bipush C d_qn_bindCaller_1 rfl kc_b_127 ?_
  refine j_icmp_eq C d_qn_bindCaller_3 (tgt := 28) (by decide) rfl (fun c_1 => ?_) (fun c_1 => ?_)
  · refine J.pos shT c_1 ?_
    refine j_iconst C d_qn_bindCaller_28 rfl kc_i_1 ?_
    refine j_goto C d_qn_bindCaller_29 (tgt := 33) (by decide) ?_
    exact j_zret C rfl d_qn_bindCaller_33
  · refine J.neg shT c_1 ?_
    refine j_aload_n C d_qn_bindCaller_6 rfl 0 rfl ?_
    refine qn_r_heap C k_229 d_qn_bindCaller_7 rfl ?_
    refine j_iload_n C d_qn_bindCaller_10 rfl 1 rfl ?_
    refine j_iload_n C d_qn_bindCaller_11 rfl 2 rfl ?_
    refine j_bipush C d_qn_bindCaller_12 rfl kc_b_7 ?_
    refine j_aload_n C d_qn_bindCaller_14 rfl 0 rfl ?_
    refine qn_r_environment C k_237 d_qn_bindCaller_15 rfl rfl ?_
    refine j_i2l C d_qn_bindCaller_18 rfl ?_
    refine cs_qn C (mc_qw_make (gl Γ) (gK Γ) (7 : Int32) (Int32.toInt64 (qn_g_environment σ))) qw_make_I k_542 (by decide) d_qn_bindCaller_19 rfl (rest := [.int a2, .int a1, .ref (kq (gK Γ) 15)]) rfl (Nat.le_of_ble_eq_true rfl) ?_
    refine cv_qn_qh C (mc_qh_addBinding (gl Γ) (gK Γ) (qn_gH σ) a1 a2 (qw_make (7 : Int32) (Int32.toInt64 (qn_g_environment σ)))) qh_addBinding_I k_612 (by decide) d_qn_bindCaller_22 rfl (rest := []) rfl ⟨rfl, Nat.le_of_ble_eq_true rfl⟩ ?_
    refine j_if_eq C d_qn_bindCaller_25 (tgt := 32) (by decide) rfl (fun c_2 => ?_) (fun c_2 => ?_)
    · refine J.pos shT c_2 ?_
      refine j_iconst C d_qn_bindCaller_32 rfl kc_i_0 ?_
      exact j_zret C rfl d_qn_bindCaller_33
    · refine J.neg shT c_2 ?_
      refine j_iconst C d_qn_bindCaller_28 rfl kc_i_1 ?_
      refine j_goto C d_qn_bindCaller_29 (tgt := 33) (by decide) ?_
      exact j_zret C rfl d_qn_bindCaller_33
theorem mc_qn_bindCaller (l : Launch) (K : kk_T) (σ : qn_S) (a1 : Int32) (a2 : Int32) : MC l qn_bindCaller_y qn_bindCaller_c 3 (some .boolean) (3, 67) K (qn_w K) qcl σ [.ref (kq K 2), .int a1, .int a2] (some (.int (qn_bindCaller σ a1 a2).1)) (qn_bindCaller σ a1 a2).2 := mc_of (ov := ovI) (X := shT (qn_bindCaller σ a1 a2)) (by decide +kernel) (Nat.le_of_ble_eq_true rfl) (fun _ => rfl) rfl (fun Γ e1 e2 C => by subst e1; subst e2; exact w_qn_bindCaller C σ a1 a2)
theorem qn_bindCaller_I : ck_V qn_bindCaller_y qn_bindCaller_c 3 (some .boolean) 2 := ⟨k_611, k_99, by decide +kernel, k_610, k_31⟩
theorem w_qn_combineCompound {Γ : cx_T} (C : cx_C Γ (qn_w (gK Γ)) qcl qn_R qn_combineCompound_c 3 none (4, 89)) (N : Nat) (σ : qn_S) (a1 : Int32) : J Γ (qn_w (gK Γ)) qcl (QF Γ (qn_w (gK Γ)) qcl ovV) (shU (qn_combineCompound N σ a1)) σ 0 [(0, .ref (kq (gK Γ) 2)), (1, .int a1)] [] := by
  unfold qn_combineCompound
  refine j_aload_n C d_qn_combineCompound_0 rfl 0 rfl ?_
  refine qn_r_matcher C k_230 d_qn_combineCompound_1 rfl ?_
  refine j_aload_n C d_qn_combineCompound_4 rfl 0 rfl ?_
  refine qn_r_heap C k_229 d_qn_combineCompound_5 rfl ?_
  refine j_iload_n C d_qn_combineCompound_8 rfl 1 rfl ?_
  refine cvr_qn_qh C (mc_qh_parametersOf (gl Γ) (gK Γ) (qn_gH σ) a1) qh_parametersOf_I k_554 (by decide) d_qn_combineCompound_9 rfl (rest := [.ref (kq (gK Γ) 4)]) rfl ⟨rfl, Nat.le_of_ble_eq_true rfl⟩ ?_
  refine j_aload_n C d_qn_combineCompound_12 rfl 0 rfl ?_
  refine qn_r_operands C k_236 d_qn_combineCompound_13 rfl rfl ?_
  refine J.goU (fun r1 h_2 => ?_)
  refine cv_qn_qt C (mc_qt_matches (gl Γ) (gK Γ) N (qn_gT σ) (qh_parametersOf (qn_gH σ) a1) (qn_g_operands σ) r1 h_2) qt_matches_I k_558 (by decide) d_qn_combineCompound_16 rfl (rest := []) rfl ⟨rfl, Nat.le_of_ble_eq_true rfl⟩ ?_
  refine j_if_ne C d_qn_combineCompound_19 (tgt := 29) (by decide) rfl (fun c_3 => ?_) (fun c_3 => ?_)
  · refine J.neg shU c_3 ?_
    refine j_aload_n C d_qn_combineCompound_29 rfl 0 rfl ?_
    refine qn_r_heap C k_229 d_qn_combineCompound_30 rfl ?_
    refine j_aload_n C d_qn_combineCompound_33 rfl 0 rfl ?_
    refine qn_r_heap C k_229 d_qn_combineCompound_34 rfl ?_
    refine j_iload_n C d_qn_combineCompound_37 rfl 1 rfl ?_
    refine cvr_qn_qh C (mc_qh_scopeOf (gl Γ) (gK Γ) (qn_gH (qn_sT σ r1.2)) a1) qh_scopeOf_I k_587 (by decide) d_qn_combineCompound_38 rfl (rest := [.ref (kq (gK Γ) 15)]) rfl ⟨rfl, Nat.le_of_ble_eq_true rfl⟩ ?_
    refine cv_qn_qh C (mc_qh_addEnvironment (gl Γ) (gK Γ) (qn_gH (qn_sT σ r1.2)) (qh_scopeOf (qn_gH (qn_sT σ r1.2)) a1)) qh_addEnvironment_I k_592 (by decide) d_qn_combineCompound_41 rfl (rest := []) rfl ⟨rfl, Nat.le_of_ble_eq_true rfl⟩ ?_
    refine j_istore_n C (lv' := [(2, .int (qh_addEnvironment (qn_gH (qn_sT σ r1.2)) (qh_scopeOf (qn_gH (qn_sT σ r1.2)) a1)).1), (0, .ref (kq (gK Γ) 2)), (1, .int a1)]) d_qn_combineCompound_44 rfl rfl (by decide) rfl ?_
    refine j_iload_n C d_qn_combineCompound_45 rfl 0 rfl ?_
    refine j_iconst C d_qn_combineCompound_46 rfl kc_i_m1 ?_
    refine j_icmp_eq C d_qn_combineCompound_47 (tgt := 77) (by decide) rfl (fun c_4 => ?_) (fun c_4 => ?_)
    · refine J.pos shU c_4 ?_
      refine j_aload_n C d_qn_combineCompound_77 rfl 1 rfl ?_
      refine j_bipush C d_qn_combineCompound_78 rfl kc_b_m5 ?_
      refine cv0_qn_qn C (mc_qn_fail (gl Γ) (gK Γ) (qn_sH (qn_sT σ r1.2) (qh_addEnvironment (qn_gH (qn_sT σ r1.2)) (qh_scopeOf (qn_gH (qn_sT σ r1.2)) a1)).2) (-5 : Int32)) qn_fail_I k_493 (by decide) d_qn_combineCompound_80 rfl (rest := []) rfl ⟨rfl, Nat.le_of_ble_eq_true rfl⟩ ?_
      exact j_vret C d_qn_combineCompound_83
    · refine J.neg shU c_4 ?_
      refine j_aload_n C d_qn_combineCompound_50 rfl 1 rfl ?_
      refine qn_r_matcher C k_230 d_qn_combineCompound_51 rfl ?_
      refine j_iload_n C d_qn_combineCompound_54 rfl 0 rfl ?_
      refine J.goU (fun r5 h_6 => ?_)
      refine cv_qn_qt C (mc_qt_bindFound (gl Γ) (gK Γ) N (qn_gT (qn_sH (qn_sT σ r1.2) (qh_addEnvironment (qn_gH (qn_sT σ r1.2)) (qh_scopeOf (qn_gH (qn_sT σ r1.2)) a1)).2)) (qh_addEnvironment (qn_gH (qn_sT σ r1.2)) (qh_scopeOf (qn_gH (qn_sT σ r1.2)) a1)).1 r5 h_6) qt_bindFound_I k_596 (by decide) d_qn_combineCompound_55 rfl (rest := []) rfl ⟨rfl, Nat.le_of_ble_eq_true rfl⟩ ?_
      refine j_if_eq C d_qn_combineCompound_58 (tgt := 77) (by decide) rfl (fun c_7 => ?_) (fun c_7 => ?_)
      · refine J.pos shU c_7 ?_
        refine j_aload_n C d_qn_combineCompound_77 rfl 1 rfl ?_
        refine j_bipush C d_qn_combineCompound_78 rfl kc_b_m5 ?_
        refine cv0_qn_qn C (mc_qn_fail (gl Γ) (gK Γ) (qn_sT (qn_sH (qn_sT σ r1.2) (qh_addEnvironment (qn_gH (qn_sT σ r1.2)) (qh_scopeOf (qn_gH (qn_sT σ r1.2)) a1)).2) r5.2) (-5 : Int32)) qn_fail_I k_493 (by decide) d_qn_combineCompound_80 rfl (rest := []) rfl ⟨rfl, Nat.le_of_ble_eq_true rfl⟩ ?_
        exact j_vret C d_qn_combineCompound_83
      · refine J.neg shU c_7 ?_
        refine j_aload_n C d_qn_combineCompound_61 rfl 1 rfl ?_
        refine j_iload_n C d_qn_combineCompound_62 rfl 0 rfl ?_
        refine j_aload_n C d_qn_combineCompound_63 rfl 1 rfl ?_
        refine qn_r_heap C k_229 d_qn_combineCompound_64 rfl ?_
        refine j_iload_n C d_qn_combineCompound_67 rfl 2 rfl ?_
        refine cvr_qn_qh C (mc_qh_environmentSymbolOf (gl Γ) (gK Γ) (qn_gH (qn_sT (qn_sH (qn_sT σ r1.2) (qh_addEnvironment (qn_gH (qn_sT σ r1.2)) (qh_scopeOf (qn_gH (qn_sT σ r1.2)) a1)).2) r5.2)) a1) qh_environmentSymbolOf_I k_604 (by decide) d_qn_combineCompound_68 rfl (rest := [.int (qh_addEnvironment (qn_gH (qn_sT σ r1.2)) (qh_scopeOf (qn_gH (qn_sT σ r1.2)) a1)).1, .ref (kq (gK Γ) 2)]) rfl ⟨rfl, Nat.le_of_ble_eq_true rfl⟩ ?_
        refine cv_qn_qn C (mc_qn_bindCaller (gl Γ) (gK Γ) (qn_sT (qn_sH (qn_sT σ r1.2) (qh_addEnvironment (qn_gH (qn_sT σ r1.2)) (qh_scopeOf (qn_gH (qn_sT σ r1.2)) a1)).2) r5.2) (qh_addEnvironment (qn_gH (qn_sT σ r1.2)) (qh_scopeOf (qn_gH (qn_sT σ r1.2)) a1)).1 (qh_environmentSymbolOf (qn_gH (qn_sT (qn_sH (qn_sT σ r1.2) (qh_addEnvironment (qn_gH (qn_sT σ r1.2)) (qh_scopeOf (qn_gH (qn_sT σ r1.2)) a1)).2) r5.2)) a1)) qn_bindCaller_I k_608 (by decide) d_qn_combineCompound_71 rfl (rest := []) rfl ⟨rfl, Nat.le_of_ble_eq_true rfl⟩ ?_
        refine j_if_ne C d_qn_combineCompound_74 (tgt := 84) (by decide) rfl (fun c_8 => ?_) (fun c_8 => ?_)
        · refine J.neg shU c_8 ?_
          refine j_aload_n C d_qn_combineCompound_84 rfl 1 rfl ?_
          refine j_iload_n C d_qn_combineCompound_85 rfl 0 rfl ?_
          refine qn_p_environment C k_237 d_qn_combineCompound_86 rfl ?_
          refine j_aload_n C d_qn_combineCompound_89 rfl 1 rfl ?_
          refine j_aload_n C d_qn_combineCompound_90 rfl 1 rfl ?_
          refine qn_r_heap C k_229 d_qn_combineCompound_91 rfl ?_
          refine j_iload_n C d_qn_combineCompound_94 rfl 2 rfl ?_
          refine cvr_qn_qh C (mc_qh_bodyOf (gl Γ) (gK Γ) (qn_gH (qn_bindCaller (qn_sT (qn_sH (qn_sT σ r1.2) (qh_addEnvironment (qn_gH (qn_sT σ r1.2)) (qh_scopeOf (qn_gH (qn_sT σ r1.2)) a1)).2) r5.2) (qh_addEnvironment (qn_gH (qn_sT σ r1.2)) (qh_scopeOf (qn_gH (qn_sT σ r1.2)) a1)).1 (qh_environmentSymbolOf (qn_gH (qn_sT (qn_sH (qn_sT σ r1.2) (qh_addEnvironment (qn_gH (qn_sT σ r1.2)) (qh_scopeOf (qn_gH (qn_sT σ r1.2)) a1)).2) r5.2)) a1)).2) a1) qh_bodyOf_I k_613 (by decide) d_qn_combineCompound_95 rfl (rest := [.ref (kq (gK Γ) 2)]) rfl ⟨rfl, Nat.le_of_ble_eq_true rfl⟩ ?_
          refine cv0_qn_qn C (mc_qn_evaluateInTail (gl Γ) (gK Γ) (qn_s_environment (qn_bindCaller (qn_sT (qn_sH (qn_sT σ r1.2) (qh_addEnvironment (qn_gH (qn_sT σ r1.2)) (qh_scopeOf (qn_gH (qn_sT σ r1.2)) a1)).2) r5.2) (qh_addEnvironment (qn_gH (qn_sT σ r1.2)) (qh_scopeOf (qn_gH (qn_sT σ r1.2)) a1)).1 (qh_environmentSymbolOf (qn_gH (qn_sT (qn_sH (qn_sT σ r1.2) (qh_addEnvironment (qn_gH (qn_sT σ r1.2)) (qh_scopeOf (qn_gH (qn_sT σ r1.2)) a1)).2) r5.2)) a1)).2 (qh_addEnvironment (qn_gH (qn_sT σ r1.2)) (qh_scopeOf (qn_gH (qn_sT σ r1.2)) a1)).1) (qh_bodyOf (qn_gH (qn_bindCaller (qn_sT (qn_sH (qn_sT σ r1.2) (qh_addEnvironment (qn_gH (qn_sT σ r1.2)) (qh_scopeOf (qn_gH (qn_sT σ r1.2)) a1)).2) r5.2) (qh_addEnvironment (qn_gH (qn_sT σ r1.2)) (qh_scopeOf (qn_gH (qn_sT σ r1.2)) a1)).1 (qh_environmentSymbolOf (qn_gH (qn_sT (qn_sH (qn_sT σ r1.2) (qh_addEnvironment (qn_gH (qn_sT σ r1.2)) (qh_scopeOf (qn_gH (qn_sT σ r1.2)) a1)).2) r5.2)) a1)).2) a1)) qn_evaluateInTail_I k_484 (by decide) d_qn_combineCompound_98 rfl (rest := []) rfl ⟨rfl, Nat.le_of_ble_eq_true rfl⟩ ?_
          exact j_vret C d_qn_combineCompound_101
        · refine J.pos shU c_8 ?_
          refine j_aload_n C d_qn_combineCompound_77 rfl 1 rfl ?_
          refine j_bipush C d_qn_combineCompound_78 rfl kc_b_m5 ?_
          refine cv0_qn_qn C (mc_qn_fail (gl Γ) (gK Γ) (qn_bindCaller (qn_sT (qn_sH (qn_sT σ r1.2) (qh_addEnvironment (qn_gH (qn_sT σ r1.2)) (qh_scopeOf (qn_gH (qn_sT σ r1.2)) a1)).2) r5.2) (qh_addEnvironment (qn_gH (qn_sT σ r1.2)) (qh_scopeOf (qn_gH (qn_sT σ r1.2)) a1)).1 (qh_environmentSymbolOf (qn_gH (qn_sT (qn_sH (qn_sT σ r1.2) (qh_addEnvironment (qn_gH (qn_sT σ r1.2)) (qh_scopeOf (qn_gH (qn_sT σ r1.2)) a1)).2) r5.2)) a1)).2 (-5 : Int32)) qn_fail_I k_493 (by decide) d_qn_combineCompound_80 rfl (rest := []) rfl ⟨rfl, Nat.le_of_ble_eq_true rfl⟩ ?_
          exact j_vret C d_qn_combineCompound_83
  · refine J.pos shU c_3 ?_
    refine j_aload_n C d_qn_combineCompound_22 rfl 0 rfl ?_
    refine j_bipush C d_qn_combineCompound_23 rfl kc_b_m8 ?_
    refine cv0_qn_qn C (mc_qn_fail (gl Γ) (gK Γ) (qn_sT σ r1.2) (-8 : Int32)) qn_fail_I k_493 (by decide) d_qn_combineCompound_25 rfl (rest := []) rfl ⟨rfl, Nat.le_of_ble_eq_true rfl⟩ ?_
    exact j_vret C d_qn_combineCompound_28
theorem mc_qn_combineCompound (l : Launch) (K : kk_T) (N : Nat) (σ : qn_S) (a1 : Int32) (r : qn_S) (h : qn_combineCompound N σ a1 = some r) : MC l qn_combineCompound_y qn_combineCompound_c 3 none (4, 89) K (qn_w K) qcl σ [.ref (kq K 2), .int a1] none r := mc_of (ov := ovV) (X := shU (qn_combineCompound N σ a1)) (by decide +kernel) (Nat.le_of_ble_eq_true rfl) (fun _ => rfl) (by rw [h]; rfl) (fun Γ e1 e2 C => by subst e1; subst e2; exact w_qn_combineCompound C N σ a1)
theorem qn_combineCompound_I : ck_V qn_combineCompound_y qn_combineCompound_c 3 none 1 := ⟨k_553, k_99, by decide +kernel, k_552, k_25⟩
theorem w_qn_combineCurrent {Γ : cx_T} (C : cx_C Γ (qn_w (gK Γ)) qcl qn_R qn_combineCurrent_c 2 none (5, 121)) (N : Nat) (σ : qn_S)  : J Γ (qn_w (gK Γ)) qcl (QF Γ (qn_w (gK Γ)) qcl ovV) (shU (qn_combineCurrent N σ)) σ 0 [(0, .ref (kq (gK Γ) 2))] [] := by
  unfold qn_combineCurrent
  refine j_aload_n C d_qn_combineCurrent_0 rfl 0 rfl ?_
  refine qn_r_current C k_235 d_qn_combineCurrent_1 rfl rfl ?_
  refine cs_qn C (mc_qw_kindOf (gl Γ) (gK Γ) (qn_g_current σ)) qw_kindOf_I k_497 (by decide) d_qn_combineCurrent_4 rfl (rest := []) rfl (Nat.le_of_ble_eq_true rfl) ?_
  refine j_istore_n C (lv' := [(1, .int (qw_kindOf (qn_g_current σ))), (0, .ref (kq (gK Γ) 2))]) d_qn_combineCurrent_7 rfl rfl (by decide) rfl ?_
  refine j_iload_n C d_qn_combineCurrent_8 rfl 0 rfl ?_
  refine j_bipush C d_qn_combineCurrent_9 rfl kc_b_6 ?_
  refine j_icmp_ne C d_qn_combineCurrent_11 (tgt := 21) (by decide) rfl (fun c_1 => ?_) (fun c_1 => ?_)
  · refine J.neg shU c_1 ?_
    refine j_iload_n C d_qn_combineCurrent_21 rfl 0 rfl ?_
    refine j_iconst C d_qn_combineCurrent_22 rfl kc_i_5 ?_
    refine j_icmp_eq C d_qn_combineCurrent_23 (tgt := 35) (by decide) rfl (fun c_2 => ?_) (fun c_2 => ?_)
    · refine J.pos shU c_2 ?_
      refine j_aload_n C d_qn_combineCurrent_35 rfl 1 rfl ?_
      refine qn_r_current C k_235 d_qn_combineCurrent_36 rfl rfl ?_
      refine cs_qn C (mc_qw_rowOf (gl Γ) (gK Γ) (qn_g_current σ)) qw_rowOf_I k_508 (by decide) d_qn_combineCurrent_39 rfl (rest := []) rfl (Nat.le_of_ble_eq_true rfl) ?_
      refine cs_qn C (mc_qh_isPrimitive (gl Γ) (gK Γ) (qw_rowOf (qn_g_current σ))) qh_isPrimitive_I k_547 (by decide) d_qn_combineCurrent_42 rfl (rest := []) rfl (Nat.le_of_ble_eq_true rfl) ?_
      refine j_if_eq C d_qn_combineCurrent_45 (tgt := 56) (by decide) rfl (fun c_3 => ?_) (fun c_3 => ?_)
      · refine J.pos shU c_3 ?_
        refine j_aload_n C d_qn_combineCurrent_56 rfl 1 rfl ?_
        refine j_aload_n C d_qn_combineCurrent_57 rfl 1 rfl ?_
        refine qn_r_current C k_235 d_qn_combineCurrent_58 rfl rfl ?_
        refine cs_qn C (mc_qw_rowOf (gl Γ) (gK Γ) (qn_g_current σ)) qw_rowOf_I k_508 (by decide) d_qn_combineCurrent_61 rfl (rest := [.ref (kq (gK Γ) 2)]) rfl (Nat.le_of_ble_eq_true rfl) ?_
        refine J.goU (fun r4 h_5 => ?_)
        refine cv0_qn_qn C (mc_qn_combineCompound (gl Γ) (gK Γ) N σ (qw_rowOf (qn_g_current σ)) r4 h_5) qn_combineCompound_I k_550 (by decide) d_qn_combineCurrent_64 rfl (rest := []) rfl ⟨rfl, Nat.le_of_ble_eq_true rfl⟩ ?_
        exact j_vret C d_qn_combineCurrent_67
      · refine J.neg shU c_3 ?_
        refine j_aload_n C d_qn_combineCurrent_48 rfl 1 rfl ?_
        refine j_iconst C d_qn_combineCurrent_49 rfl kc_i_2 ?_
        refine qn_p_mode C k_234 d_qn_combineCurrent_50 rfl ?_
        refine j_goto C d_qn_combineCurrent_53 (tgt := 67) (by decide) ?_
        exact j_vret C d_qn_combineCurrent_67
    · refine J.neg shU c_2 ?_
      refine j_aload_n C d_qn_combineCurrent_26 rfl 1 rfl ?_
      refine j_bipush C d_qn_combineCurrent_27 rfl kc_b_m7 ?_
      refine cv0_qn_qn C (mc_qn_fail (gl Γ) (gK Γ) σ (-7 : Int32)) qn_fail_I k_493 (by decide) d_qn_combineCurrent_29 rfl (rest := []) rfl ⟨rfl, Nat.le_of_ble_eq_true rfl⟩ ?_
      refine j_goto C d_qn_combineCurrent_32 (tgt := 67) (by decide) ?_
      exact j_vret C d_qn_combineCurrent_67
  · refine J.pos shU c_1 ?_
    refine j_aload_n C d_qn_combineCurrent_14 rfl 1 rfl ?_
    refine J.goU (fun r6 h_7 => ?_)
    refine cv0_qn_qn C (mc_qn_combineApplicative (gl Γ) (gK Γ) N σ r6 h_7) qn_combineApplicative_I k_523 (by decide) d_qn_combineCurrent_15 rfl (rest := []) rfl ⟨rfl, Nat.le_of_ble_eq_true rfl⟩ ?_
    refine j_goto C d_qn_combineCurrent_18 (tgt := 67) (by decide) ?_
    exact j_vret C d_qn_combineCurrent_67
theorem mc_qn_combineCurrent (l : Launch) (K : kk_T) (N : Nat) (σ : qn_S)  (r : qn_S) (h : qn_combineCurrent N σ = some r) : MC l qn_combineCurrent_y qn_combineCurrent_c 2 none (5, 121) K (qn_w K) qcl σ [.ref (kq K 2)] none r := mc_of (ov := ovV) (X := shU (qn_combineCurrent N σ)) (by decide +kernel) (Nat.le_of_ble_eq_true rfl) (fun _ => rfl) (by rw [h]; rfl) (fun Γ e1 e2 C => by subst e1; subst e2; exact w_qn_combineCurrent C N σ)
theorem qn_combineCurrent_I : ck_V qn_combineCurrent_y qn_combineCurrent_c 2 none 0 := ⟨k_522, k_99, by decide +kernel, k_521, k_19⟩
theorem w_qn_hasDueCount {Γ : cx_T} (C : cx_C Γ (qn_w (gK Γ)) qcl qn_R qn_hasDueCount_c 3 (some .boolean) (0, 0)) (σ : qn_S) (a1 : Int32) (a2 : Int32) : J Γ (qn_w (gK Γ)) qcl (QF Γ (qn_w (gK Γ)) qcl ovI) ((shP σ) (qn_hasDueCount σ a1 a2)) σ 0 [(0, .ref (kq (gK Γ) 2)), (1, .int a1), (2, .int a2)] [] := by
  unfold qn_hasDueCount
  refine j_iload_n C d_qn_hasDueCount_0 rfl 1 rfl ?_
  refine j_if_lt C d_qn_hasDueCount_1 (tgt := 17) (by decide) rfl (fun c_1 => ?_) (fun c_1 => ?_)
  · refine J.pos (shP σ) c_1 ?_
    refine j_iconst C d_qn_hasDueCount_17 rfl kc_i_0 ?_
    exact j_zret C rfl d_qn_hasDueCount_18
  · refine J.neg (shP σ) c_1 ?_
    refine j_iload_n C d_qn_hasDueCount_4 rfl 1 rfl ?_
    refine j_gets C k_625 d_qn_hasDueCount_5 rfl (fun t1 ht1 => ?_)
    refine j_octl C ht1 d_qn_hasDueCount_8 rfl ?_
    refine j_icmp_ge C d_qn_hasDueCount_9 (tgt := 17) (by decide) rfl (fun c_2 => ?_) (fun c_2 => ?_)
    · refine J.pos (shP σ) c_2 ?_
      refine j_iconst C d_qn_hasDueCount_17 rfl kc_i_0 ?_
      exact j_zret C rfl d_qn_hasDueCount_18
    · refine J.neg (shP σ) c_2 ?_
      refine j_iload_n C d_qn_hasDueCount_12 rfl 2 rfl ?_
      refine j_iconst C d_qn_hasDueCount_13 rfl kc_i_m1 ?_
      refine j_icmp_ne C d_qn_hasDueCount_14 (tgt := 19) (by decide) rfl (fun c_3 => ?_) (fun c_3 => ?_)
      · refine J.neg (shP σ) c_3 ?_
        refine j_gets C k_625 d_qn_hasDueCount_19 rfl (fun t1 ht1 => ?_)
        refine j_iload_n C d_qn_hasDueCount_22 rfl 1 rfl ?_
        refine j_oct C ht1 (in_a (M := 26) c_1 c_2 (by decide) (Nat.le_of_ble_eq_true rfl)) d_qn_hasDueCount_23 rfl ?_
        refine j_iload_n C d_qn_hasDueCount_24 rfl 2 rfl ?_
        refine j_icmp_eq C d_qn_hasDueCount_25 (tgt := 37) (by decide) rfl (fun c_4 => ?_) (fun c_4 => ?_)
        · refine J.pos (shP σ) c_4 ?_
          refine j_iconst C d_qn_hasDueCount_37 rfl kc_i_1 ?_
          refine j_goto C d_qn_hasDueCount_38 (tgt := 42) (by decide) ?_
          exact j_zret C rfl d_qn_hasDueCount_42
        · refine J.neg (shP σ) c_4 ?_
          refine j_gets C k_625 d_qn_hasDueCount_28 rfl (fun t1 ht1 => ?_)
          refine j_iload_n C d_qn_hasDueCount_31 rfl 1 rfl ?_
          refine j_oct C ht1 (in_a (M := 26) c_1 c_2 (by decide) (Nat.le_of_ble_eq_true rfl)) d_qn_hasDueCount_32 rfl ?_
          refine j_iconst C d_qn_hasDueCount_33 rfl kc_i_m1 ?_
          refine j_icmp_ne C d_qn_hasDueCount_34 (tgt := 41) (by decide) rfl (fun c_5 => ?_) (fun c_5 => ?_)
          · refine J.neg (shP σ) c_5 ?_
            refine j_iconst C d_qn_hasDueCount_41 rfl kc_i_0 ?_
            exact j_zret C rfl d_qn_hasDueCount_42
          · refine J.pos (shP σ) c_5 ?_
            refine j_iconst C d_qn_hasDueCount_37 rfl kc_i_1 ?_
            refine j_goto C d_qn_hasDueCount_38 (tgt := 42) (by decide) ?_
            exact j_zret C rfl d_qn_hasDueCount_42
      · refine J.pos (shP σ) c_3 ?_
        refine j_iconst C d_qn_hasDueCount_17 rfl kc_i_0 ?_
        exact j_zret C rfl d_qn_hasDueCount_18
theorem mc_qn_hasDueCount (l : Launch) (K : kk_T) (σ : qn_S) (a1 : Int32) (a2 : Int32) : MC l qn_hasDueCount_y qn_hasDueCount_c 3 (some .boolean) (0, 0) K (qn_w K) qcl σ [.ref (kq K 2), .int a1, .int a2] (some (.int (qn_hasDueCount σ a1 a2))) σ := mc_of (ov := ovI) (X := (shP σ) (qn_hasDueCount σ a1 a2)) (by decide +kernel) (Nat.le_of_ble_eq_true rfl) (fun _ => rfl) rfl (fun Γ e1 e2 C => by subst e1; subst e2; exact w_qn_hasDueCount C σ a1 a2)
theorem qn_hasDueCount_I : ck_V qn_hasDueCount_y qn_hasDueCount_c 3 (some .boolean) 2 := ⟨k_624, k_99, by decide +kernel, k_623, k_33⟩
theorem w_qn_operand {Γ : cx_T} (C : cx_C Γ (qn_w (gK Γ)) qcl qn_R qn_operand_c 2 (some .long) (2, 47)) (N : Nat) (σ : qn_S) (a1 : Int32) : J Γ (qn_w (gK Γ)) qcl (QF Γ (qn_w (gK Γ)) qcl ovL) ((shR σ) (qn_operand N σ a1)) σ 0 [(0, .ref (kq (gK Γ) 2)), (1, .int a1)] [] := by
  unfold qn_operand
  refine j_aload_n C d_qn_operand_0 rfl 0 rfl ?_
  refine qn_r_heap C k_229 d_qn_operand_1 rfl ?_
  refine j_aload_n C d_qn_operand_4 rfl 0 rfl ?_
  refine qn_r_operands C k_236 d_qn_operand_5 rfl rfl ?_
  refine j_iload_n C d_qn_operand_8 rfl 1 rfl ?_
  refine J.goR (fun r1 h_2 => ?_)
  refine cvr_qn_qh C (mc_qh_elementOf (gl Γ) (gK Γ) N (qn_gH σ) (qn_g_operands σ) a1 r1 h_2) qh_elementOf_I k_635 (by decide) d_qn_operand_9 rfl (rest := []) rfl ⟨rfl, Nat.le_of_ble_eq_true rfl⟩ ?_
  exact j_lret C d_qn_operand_12
theorem mc_qn_operand (l : Launch) (K : kk_T) (N : Nat) (σ : qn_S) (a1 : Int32) (r : Int64) (h : qn_operand N σ a1 = some r) : MC l qn_operand_y qn_operand_c 2 (some .long) (2, 47) K (qn_w K) qcl σ [.ref (kq K 2), .int a1] (some (.long r)) σ := mc_of (ov := ovL) (X := (shR σ) (qn_operand N σ a1)) (by decide +kernel) (Nat.le_of_ble_eq_true rfl) (fun _ => rfl) (by rw [h]; rfl) (fun Γ e1 e2 C => by subst e1; subst e2; exact w_qn_operand C N σ a1)
theorem qn_operand_I : ck_V qn_operand_y qn_operand_c 2 (some .long) 1 := ⟨k_634, k_99, by decide +kernel, k_633, k_35⟩
theorem w_qn_canNameCaller {Γ : cx_T} (C : cx_C Γ (qn_w (gK Γ)) qcl qn_R qn_canNameCaller_c 4 (some .boolean) (1, 22)) (N : Nat) (σ : qn_S) (a1 : Int64) : J Γ (qn_w (gK Γ)) qcl (QF Γ (qn_w (gK Γ)) qcl ovI) ((shR σ) (qn_canNameCaller N σ a1)) σ 0 [(0, .ref (kq (gK Γ) 2)), (1, .long a1)] [] := by
  unfold qn_canNameCaller
  refine j_lload_n C d_qn_canNameCaller_0 rfl 1 rfl ?_
  refine cs_qn C (mc_qw_kindOf (gl Γ) (gK Γ) a1) qw_kindOf_I k_497 (by decide) d_qn_canNameCaller_1 rfl (rest := []) rfl (Nat.le_of_ble_eq_true rfl) ?_
  refine j_istore_n C (lv' := [(3, .int (qw_kindOf a1)), (0, .ref (kq (gK Γ) 2)), (1, .long a1)]) d_qn_canNameCaller_4 rfl rfl (by decide) rfl ?_
  refine j_lload_n C d_qn_canNameCaller_5 rfl 2 rfl ?_
  refine j_ldc2 C d_qn_canNameCaller_6 rfl k_651 ?_
  refine j_lcmp_eq C d_qn_canNameCaller_9 d_qn_canNameCaller_10 (tgt := 32) (by decide) rfl (fun c_1 => ?_) (fun c_1 => ?_)
  · refine J.pos (shR σ) c_1 ?_
    refine j_iconst C d_qn_canNameCaller_32 rfl kc_i_1 ?_
    refine j_goto C d_qn_canNameCaller_33 (tgt := 37) (by decide) ?_
    exact j_zret C rfl d_qn_canNameCaller_37
  · refine J.neg (shR σ) c_1 ?_
    refine j_iload_n C d_qn_canNameCaller_13 rfl 0 rfl ?_
    refine j_iconst C d_qn_canNameCaller_14 rfl kc_i_2 ?_
    refine j_icmp_ne C d_qn_canNameCaller_15 (tgt := 36) (by decide) rfl (fun c_2 => ?_) (fun c_2 => ?_)
    · refine J.neg (shR σ) c_2 ?_
      refine j_iconst C d_qn_canNameCaller_36 rfl kc_i_0 ?_
      exact j_zret C rfl d_qn_canNameCaller_37
    · refine J.pos (shR σ) c_2 ?_
      refine j_aload_n C d_qn_canNameCaller_18 rfl 1 rfl ?_
      refine qn_r_matcher C k_230 d_qn_canNameCaller_19 rfl ?_
      refine j_lload_n C d_qn_canNameCaller_22 rfl 2 rfl ?_
      refine cs_qn C (mc_qw_rowOf (gl Γ) (gK Γ) a1) qw_rowOf_I k_508 (by decide) d_qn_canNameCaller_23 rfl (rest := [.ref (kq (gK Γ) 4)]) rfl (Nat.le_of_ble_eq_true rfl) ?_
      refine J.goR (fun r3 h_4 => ?_)
      refine cvr_qn_qt C (mc_qt_hasFound (gl Γ) (gK Γ) N (qn_gT σ) (qw_rowOf a1) r3 h_4) qt_hasFound_I k_652 (by decide) d_qn_canNameCaller_26 rfl (rest := []) rfl ⟨rfl, Nat.le_of_ble_eq_true rfl⟩ ?_
      refine j_if_ne C d_qn_canNameCaller_29 (tgt := 36) (by decide) rfl (fun c_5 => ?_) (fun c_5 => ?_)
      · refine J.neg (shR σ) c_5 ?_
        refine j_iconst C d_qn_canNameCaller_36 rfl kc_i_0 ?_
        exact j_zret C rfl d_qn_canNameCaller_37
      · refine J.pos (shR σ) c_5 ?_
        refine j_iconst C d_qn_canNameCaller_32 rfl kc_i_1 ?_
        refine j_goto C d_qn_canNameCaller_33 (tgt := 37) (by decide) ?_
        exact j_zret C rfl d_qn_canNameCaller_37
theorem mc_qn_canNameCaller (l : Launch) (K : kk_T) (N : Nat) (σ : qn_S) (a1 : Int64) (r : Int32) (h : qn_canNameCaller N σ a1 = some r) : MC l qn_canNameCaller_y qn_canNameCaller_c 4 (some .boolean) (1, 22) K (qn_w K) qcl σ [.ref (kq K 2), .long a1] (some (.int r)) σ := mc_of (ov := ovI) (X := (shR σ) (qn_canNameCaller N σ a1)) (by decide +kernel) (Nat.le_of_ble_eq_true rfl) (fun _ => rfl) (by rw [h]; rfl) (fun Γ e1 e2 C => by subst e1; subst e2; exact w_qn_canNameCaller C N σ a1)
theorem qn_canNameCaller_I : ck_V qn_canNameCaller_y qn_canNameCaller_c 4 (some .boolean) 1 := ⟨k_650, k_99, by decide +kernel, k_649, k_36⟩
theorem w_qn_isOperand {Γ : cx_T} (C : cx_C Γ (qn_w (gK Γ)) qcl qn_R qn_isOperand_c 3 (some .boolean) (2, 47)) (N : Nat) (σ : qn_S) (a1 : Int32) (a2 : Int32) : J Γ (qn_w (gK Γ)) qcl (QF Γ (qn_w (gK Γ)) qcl ovI) ((shR σ) (qn_isOperand N σ a1 a2)) σ 0 [(0, .ref (kq (gK Γ) 2)), (1, .int a1), (2, .int a2)] [] := by
  unfold qn_isOperand
  refine j_aload_n C d_qn_isOperand_0 rfl 0 rfl ?_
  refine qn_r_heap C k_229 d_qn_isOperand_1 rfl ?_
  refine j_aload_n C d_qn_isOperand_4 rfl 0 rfl ?_
  refine qn_r_operands C k_236 d_qn_isOperand_5 rfl rfl ?_
  refine j_iload_n C d_qn_isOperand_8 rfl 1 rfl ?_
  refine J.goR (fun r1 h_2 => ?_)
  refine cvr_qn_qh C (mc_qh_elementOf (gl Γ) (gK Γ) N (qn_gH σ) (qn_g_operands σ) a1 r1 h_2) qh_elementOf_I k_635 (by decide) d_qn_isOperand_9 rfl (rest := []) rfl ⟨rfl, Nat.le_of_ble_eq_true rfl⟩ ?_
  refine cs_qn C (mc_qw_kindOf (gl Γ) (gK Γ) r1) qw_kindOf_I k_497 (by decide) d_qn_isOperand_12 rfl (rest := []) rfl (Nat.le_of_ble_eq_true rfl) ?_
  refine j_iload_n C d_qn_isOperand_15 rfl 2 rfl ?_
  refine j_icmp_ne C d_qn_isOperand_16 (tgt := 23) (by decide) rfl (fun c_3 => ?_) (fun c_3 => ?_)
  · refine J.neg (shR σ) c_3 ?_
    refine j_iconst C d_qn_isOperand_23 rfl kc_i_0 ?_
    exact j_zret C rfl d_qn_isOperand_24
  · refine J.pos (shR σ) c_3 ?_
    refine j_iconst C d_qn_isOperand_19 rfl kc_i_1 ?_
    refine j_goto C d_qn_isOperand_20 (tgt := 24) (by decide) ?_
    exact j_zret C rfl d_qn_isOperand_24
theorem mc_qn_isOperand (l : Launch) (K : kk_T) (N : Nat) (σ : qn_S) (a1 : Int32) (a2 : Int32) (r : Int32) (h : qn_isOperand N σ a1 a2 = some r) : MC l qn_isOperand_y qn_isOperand_c 3 (some .boolean) (2, 47) K (qn_w K) qcl σ [.ref (kq K 2), .int a1, .int a2] (some (.int r)) σ := mc_of (ov := ovI) (X := (shR σ) (qn_isOperand N σ a1 a2)) (by decide +kernel) (Nat.le_of_ble_eq_true rfl) (fun _ => rfl) (by rw [h]; rfl) (fun Γ e1 e2 C => by subst e1; subst e2; exact w_qn_isOperand C N σ a1 a2)
theorem qn_isOperand_I : ck_V qn_isOperand_y qn_isOperand_c 3 (some .boolean) 2 := ⟨k_656, k_99, by decide +kernel, k_655, k_37⟩
theorem w_qn_areIntegers_L7 {Γ : cx_T} (C : cx_C Γ (qn_w (gK Γ)) qcl qn_R qn_areIntegers_c 4 (some .boolean) (2, 43)) (N : Nat) : ∀ (k : Nat) (σ : qn_S) (x1 : Int64) (x3 : Int32), J Γ (qn_w (gK Γ)) qcl (QF Γ (qn_w (gK Γ)) qcl ovI) ((shR σ) (qn_areIntegers_L7 N k σ x1 x3)) σ 7 [(0, .ref (kq (gK Γ) 2)), (1, .long x1), (3, .int x3)] [] := by
  intro k
  induction k with
  | zero => intro σ x1 x3; exact J.none rfl
  | succ k ih =>
    intro σ x1 x3
    rw [qn_areIntegers_L7]
    refine j_lload_n C d_qn_areIntegers_7 rfl 1 rfl ?_
    refine j_ldc2 C d_qn_areIntegers_8 rfl k_228 ?_
    refine j_lcmp_eq C d_qn_areIntegers_11 d_qn_areIntegers_12 (tgt := 53) (by decide) rfl (fun c_1 => ?_) (fun c_1 => ?_)
    · refine J.pos (shR σ) c_1 ?_
      refine j_iconst C d_qn_areIntegers_53 rfl kc_i_1 ?_
      exact j_zret C rfl d_qn_areIntegers_54
    · refine J.neg (shR σ) c_1 ?_
      refine j_iload_n C d_qn_areIntegers_15 rfl 2 rfl ?_
      refine j_sipush C d_qn_areIntegers_16 rfl kc_s_4100 ?_
      refine j_icmp_ge C d_qn_areIntegers_19 (tgt := 53) (by decide) rfl (fun c_2 => ?_) (fun c_2 => ?_)
      · refine J.pos (shR σ) c_2 ?_
        refine j_iconst C d_qn_areIntegers_53 rfl kc_i_1 ?_
        exact j_zret C rfl d_qn_areIntegers_54
      · refine J.neg (shR σ) c_2 ?_
        refine j_aload_n C d_qn_areIntegers_22 rfl 0 rfl ?_
        refine qn_r_heap C k_229 d_qn_areIntegers_23 rfl ?_
        refine j_lload_n C d_qn_areIntegers_26 rfl 1 rfl ?_
        refine cvr_qn_qh C (mc_qh_carOf (gl Γ) (gK Γ) (qn_gH σ) x1) qh_carOf_I k_498 (by decide) d_qn_areIntegers_27 rfl (rest := []) rfl ⟨rfl, Nat.le_of_ble_eq_true rfl⟩ ?_
        refine cs_qn C (mc_qw_kindOf (gl Γ) (gK Γ) (qh_carOf (qn_gH σ) x1)) qw_kindOf_I k_497 (by decide) d_qn_areIntegers_30 rfl (rest := []) rfl (Nat.le_of_ble_eq_true rfl) ?_
        refine j_if_eq C d_qn_areIntegers_33 (tgt := 38) (by decide) rfl (fun c_3 => ?_) (fun c_3 => ?_)
        · refine J.pos (shR σ) c_3 ?_
          refine j_aload_n C d_qn_areIntegers_38 rfl 0 rfl ?_
          refine qn_r_heap C k_229 d_qn_areIntegers_39 rfl ?_
          refine j_lload_n C d_qn_areIntegers_42 rfl 1 rfl ?_
          refine cvr_qn_qh C (mc_qh_cdrOf (gl Γ) (gK Γ) (qn_gH σ) x1) qh_cdrOf_I k_499 (by decide) d_qn_areIntegers_43 rfl (rest := []) rfl ⟨rfl, Nat.le_of_ble_eq_true rfl⟩ ?_
          refine j_lstore_n C (lv' := [(1, .long (qh_cdrOf (qn_gH σ) x1)), (0, .ref (kq (gK Γ) 2)), (3, .int x3)]) d_qn_areIntegers_46 rfl rfl (by decide) rfl ?_
          refine j_iinc C (v := (x3 + (1 : Int32))) (lv' := [(3, .int (x3 + (1 : Int32))), (1, .long (qh_cdrOf (qn_gH σ) x1)), (0, .ref (kq (gK Γ) 2))]) d_qn_areIntegers_47 rfl 2 rfl (kc_inc_1 _) (by decide) rfl ?_
          refine j_goto C d_qn_areIntegers_50 (tgt := 7) (by decide) ?_
          refine J.loc (lv' := [(0, .ref (kq (gK Γ) 2)), (1, .long (qh_cdrOf (qn_gH σ) x1)), (3, .int (x3 + (1 : Int32)))]) [2, 1, 0] rfl ?_
          exact ih σ (qh_cdrOf (qn_gH σ) x1) (x3 + (1 : Int32))
        · refine J.neg (shR σ) c_3 ?_
          refine j_iconst C d_qn_areIntegers_36 rfl kc_i_0 ?_
          exact j_zret C rfl d_qn_areIntegers_37
theorem w_qn_areIntegers {Γ : cx_T} (C : cx_C Γ (qn_w (gK Γ)) qcl qn_R qn_areIntegers_c 4 (some .boolean) (2, 43)) (N : Nat) (σ : qn_S)  : J Γ (qn_w (gK Γ)) qcl (QF Γ (qn_w (gK Γ)) qcl ovI) ((shR σ) (qn_areIntegers N σ)) σ 0 [(0, .ref (kq (gK Γ) 2))] [] := by
  unfold qn_areIntegers
  refine j_aload_n C d_qn_areIntegers_0 rfl 0 rfl ?_
  refine qn_r_operands C k_236 d_qn_areIntegers_1 rfl rfl ?_
  refine j_lstore_n C (lv' := [(1, .long (qn_g_operands σ)), (0, .ref (kq (gK Γ) 2))]) d_qn_areIntegers_4 rfl rfl (by decide) rfl ?_
  refine j_iconst C d_qn_areIntegers_5 rfl kc_i_0 ?_
  refine j_istore_n C (lv' := [(3, .int (0 : Int32)), (1, .long (qn_g_operands σ)), (0, .ref (kq (gK Γ) 2))]) d_qn_areIntegers_6 rfl rfl (by decide) rfl ?_
  refine J.loc (lv' := [(0, .ref (kq (gK Γ) 2)), (1, .long (qn_g_operands σ)), (3, .int (0 : Int32))]) [2, 1, 0] rfl ?_
  exact w_qn_areIntegers_L7 C N N σ (qn_g_operands σ) (0 : Int32)
theorem mc_qn_areIntegers (l : Launch) (K : kk_T) (N : Nat) (σ : qn_S)  (r : Int32) (h : qn_areIntegers N σ = some r) : MC l qn_areIntegers_y qn_areIntegers_c 4 (some .boolean) (2, 43) K (qn_w K) qcl σ [.ref (kq K 2)] (some (.int r)) σ := mc_of (ov := ovI) (X := (shR σ) (qn_areIntegers N σ)) (by decide +kernel) (Nat.le_of_ble_eq_true rfl) (fun _ => rfl) (by rw [h]; rfl) (fun Γ e1 e2 C => by subst e1; subst e2; exact w_qn_areIntegers C N σ)
theorem qn_areIntegers_I : ck_V qn_areIntegers_y qn_areIntegers_c 4 (some .boolean) 0 := ⟨k_660, k_99, by decide +kernel, k_659, k_38⟩
theorem w_qn_haveDueKinds {Γ : cx_T} (C : cx_C Γ (qn_w (gK Γ)) qcl qn_R qn_haveDueKinds_c 3 (some .boolean) (3, 74)) (N : Nat) (σ : qn_S) (a1 : Int32) (a2 : Int32) : J Γ (qn_w (gK Γ)) qcl (QF Γ (qn_w (gK Γ)) qcl ovI) (shO (qn_haveDueKinds N σ a1 a2)) σ 0 [(0, .ref (kq (gK Γ) 2)), (1, .int a1), (2, .int a2)] [] := by
  unfold qn_haveDueKinds
  refine j_iload_n C d_qn_haveDueKinds_0 rfl 1 rfl ?_
  refine J.cas shO (fun c_1 => ?_) (fun c_1 => ?_)
  · refine j_tblIn C d_qn_haveDueKinds_1 (1 : Int32) c_1 (by decide) (by decide) rfl (tgt := 112) (by decide) ?_
    refine j_aload_n C d_qn_haveDueKinds_112 rfl 0 rfl ?_
    refine qn_r_matcher C k_230 d_qn_haveDueKinds_113 rfl ?_
    refine j_aload_n C d_qn_haveDueKinds_116 rfl 0 rfl ?_
    refine j_iconst C d_qn_haveDueKinds_117 rfl kc_i_0 ?_
    refine J.goO (fun r2 h_3 => ?_)
    refine cvr_qn_qn C (mc_qn_operand (gl Γ) (gK Γ) N σ (0 : Int32) r2 h_3) qn_operand_I k_631 (by decide) d_qn_haveDueKinds_118 rfl (rest := [.ref (kq (gK Γ) 4)]) rfl ⟨rfl, Nat.le_of_ble_eq_true rfl⟩ ?_
    refine J.goO (fun r4 h_5 => ?_)
    refine cv_qn_qt C (mc_qt_isParameterTree (gl Γ) (gK Γ) N (qn_gT σ) r2 r4 h_5) qt_isParameterTree_I k_639 (by decide) d_qn_haveDueKinds_121 rfl (rest := []) rfl ⟨rfl, Nat.le_of_ble_eq_true rfl⟩ ?_
    refine j_if_eq C d_qn_haveDueKinds_124 (tgt := 143) (by decide) rfl (fun c_6 => ?_) (fun c_6 => ?_)
    · refine J.pos shO c_6 ?_
      refine j_iconst C d_qn_haveDueKinds_143 rfl kc_i_0 ?_
      exact j_zret C rfl d_qn_haveDueKinds_144
    · refine J.neg shO c_6 ?_
      refine j_aload_n C d_qn_haveDueKinds_127 rfl 0 rfl ?_
      refine j_aload_n C d_qn_haveDueKinds_128 rfl 0 rfl ?_
      refine j_iconst C d_qn_haveDueKinds_129 rfl kc_i_1 ?_
      refine J.goO (fun r7 h_8 => ?_)
      refine cvr_qn_qn C (mc_qn_operand (gl Γ) (gK Γ) N (qn_sT σ r4.2) (1 : Int32) r7 h_8) qn_operand_I k_631 (by decide) d_qn_haveDueKinds_130 rfl (rest := [.ref (kq (gK Γ) 2)]) rfl ⟨rfl, Nat.le_of_ble_eq_true rfl⟩ ?_
      refine J.goO (fun r9 h_10 => ?_)
      refine cvr_qn_qn C (mc_qn_canNameCaller (gl Γ) (gK Γ) N (qn_sT σ r4.2) r7 r9 h_10) qn_canNameCaller_I k_647 (by decide) d_qn_haveDueKinds_133 rfl (rest := []) rfl ⟨rfl, Nat.le_of_ble_eq_true rfl⟩ ?_
      refine j_if_eq C d_qn_haveDueKinds_136 (tgt := 143) (by decide) rfl (fun c_11 => ?_) (fun c_11 => ?_)
      · refine J.pos shO c_11 ?_
        refine j_iconst C d_qn_haveDueKinds_143 rfl kc_i_0 ?_
        exact j_zret C rfl d_qn_haveDueKinds_144
      · refine J.neg shO c_11 ?_
        refine j_iconst C d_qn_haveDueKinds_139 rfl kc_i_1 ?_
        refine j_goto C d_qn_haveDueKinds_140 (tgt := 144) (by decide) ?_
        exact j_zret C rfl d_qn_haveDueKinds_144
  · skip
    refine J.cas shO (fun c_12 => ?_) (fun c_12 => ?_)
    · refine j_tblIn C d_qn_haveDueKinds_1 (2 : Int32) c_12 (by decide) (by decide) rfl (tgt := 145) (by decide) ?_
      refine j_aload_n C d_qn_haveDueKinds_145 rfl 0 rfl ?_
      refine qn_r_matcher C k_230 d_qn_haveDueKinds_146 rfl ?_
      refine j_aload_n C d_qn_haveDueKinds_149 rfl 0 rfl ?_
      refine j_iconst C d_qn_haveDueKinds_150 rfl kc_i_0 ?_
      refine J.goO (fun r13 h_14 => ?_)
      refine cvr_qn_qn C (mc_qn_operand (gl Γ) (gK Γ) N σ (0 : Int32) r13 h_14) qn_operand_I k_631 (by decide) d_qn_haveDueKinds_151 rfl (rest := [.ref (kq (gK Γ) 4)]) rfl ⟨rfl, Nat.le_of_ble_eq_true rfl⟩ ?_
      refine J.goO (fun r15 h_16 => ?_)
      refine cv_qn_qt C (mc_qt_isParameterTree (gl Γ) (gK Γ) N (qn_gT σ) r13 r15 h_16) qt_isParameterTree_I k_639 (by decide) d_qn_haveDueKinds_154 rfl (rest := []) rfl ⟨rfl, Nat.le_of_ble_eq_true rfl⟩ ?_
      exact j_bret C d_qn_haveDueKinds_157
    · skip
      refine J.cas shO (fun c_17 => ?_) (fun c_17 => ?_)
      · refine j_tblIn C d_qn_haveDueKinds_1 (3 : Int32) c_17 (by decide) (by decide) rfl (tgt := 158) (by decide) ?_
        refine j_aload_n C d_qn_haveDueKinds_158 rfl 0 rfl ?_
        refine j_iconst C d_qn_haveDueKinds_159 rfl kc_i_0 ?_
        refine j_iconst C d_qn_haveDueKinds_160 rfl kc_i_2 ?_
        refine J.goO (fun r18 h_19 => ?_)
        refine cvr_qn_qn C (mc_qn_isOperand (gl Γ) (gK Γ) N σ (0 : Int32) (2 : Int32) r18 h_19) qn_isOperand_I k_653 (by decide) d_qn_haveDueKinds_161 rfl (rest := []) rfl ⟨rfl, Nat.le_of_ble_eq_true rfl⟩ ?_
        exact j_bret C d_qn_haveDueKinds_164
      · skip
        refine J.cas shO (fun c_20 => ?_) (fun c_20 => ?_)
        · refine j_tblIn C d_qn_haveDueKinds_1 (4 : Int32) c_20 (by decide) (by decide) rfl (tgt := 165) (by decide) ?_
          refine j_aload_n C d_qn_haveDueKinds_165 rfl 0 rfl ?_
          refine j_iconst C d_qn_haveDueKinds_166 rfl kc_i_1 ?_
          refine j_iconst C d_qn_haveDueKinds_167 rfl kc_i_2 ?_
          refine J.goO (fun r21 h_22 => ?_)
          refine cvr_qn_qn C (mc_qn_isOperand (gl Γ) (gK Γ) N σ (1 : Int32) (2 : Int32) r21 h_22) qn_isOperand_I k_653 (by decide) d_qn_haveDueKinds_168 rfl (rest := []) rfl ⟨rfl, Nat.le_of_ble_eq_true rfl⟩ ?_
          exact j_bret C d_qn_haveDueKinds_171
        · skip
          refine J.cas shO (fun c_23 => ?_) (fun c_23 => ?_)
          · refine j_tblIn C d_qn_haveDueKinds_1 (5 : Int32) c_23 (by decide) (by decide) rfl (tgt := 234) (by decide) ?_
            refine j_iconst C d_qn_haveDueKinds_234 rfl kc_i_1 ?_
            exact j_zret C rfl d_qn_haveDueKinds_235
          · skip
            refine J.cas shO (fun c_24 => ?_) (fun c_24 => ?_)
            · refine j_tblIn C d_qn_haveDueKinds_1 (6 : Int32) c_24 (by decide) (by decide) rfl (tgt := 234) (by decide) ?_
              refine j_iconst C d_qn_haveDueKinds_234 rfl kc_i_1 ?_
              exact j_zret C rfl d_qn_haveDueKinds_235
            · skip
              refine J.cas shO (fun c_25 => ?_) (fun c_25 => ?_)
              · refine j_tblIn C d_qn_haveDueKinds_1 (7 : Int32) c_25 (by decide) (by decide) rfl (tgt := 234) (by decide) ?_
                refine j_iconst C d_qn_haveDueKinds_234 rfl kc_i_1 ?_
                exact j_zret C rfl d_qn_haveDueKinds_235
              · skip
                refine J.cas shO (fun c_26 => ?_) (fun c_26 => ?_)
                · refine j_tblIn C d_qn_haveDueKinds_1 (8 : Int32) c_26 (by decide) (by decide) rfl (tgt := 234) (by decide) ?_
                  refine j_iconst C d_qn_haveDueKinds_234 rfl kc_i_1 ?_
                  exact j_zret C rfl d_qn_haveDueKinds_235
                · skip
                  refine J.cas shO (fun c_27 => ?_) (fun c_27 => ?_)
                  · refine j_tblIn C d_qn_haveDueKinds_1 (9 : Int32) c_27 (by decide) (by decide) rfl (tgt := 234) (by decide) ?_
                    refine j_iconst C d_qn_haveDueKinds_234 rfl kc_i_1 ?_
                    exact j_zret C rfl d_qn_haveDueKinds_235
                  · skip
                    refine J.cas shO (fun c_28 => ?_) (fun c_28 => ?_)
                    · refine j_tblIn C d_qn_haveDueKinds_1 (10 : Int32) c_28 (by decide) (by decide) rfl (tgt := 172) (by decide) ?_
                      refine j_aload_n C d_qn_haveDueKinds_172 rfl 0 rfl ?_
                      refine J.goO (fun r29 h_30 => ?_)
                      refine cvr_qn_qn C (mc_qn_areIntegers (gl Γ) (gK Γ) N σ r29 h_30) qn_areIntegers_I k_657 (by decide) d_qn_haveDueKinds_173 rfl (rest := []) rfl ⟨rfl, Nat.le_of_ble_eq_true rfl⟩ ?_
                      exact j_bret C d_qn_haveDueKinds_176
                    · skip
                      refine J.cas shO (fun c_31 => ?_) (fun c_31 => ?_)
                      · refine j_tblIn C d_qn_haveDueKinds_1 (11 : Int32) c_31 (by decide) (by decide) rfl (tgt := 172) (by decide) ?_
                        refine j_aload_n C d_qn_haveDueKinds_172 rfl 0 rfl ?_
                        refine J.goO (fun r32 h_33 => ?_)
                        refine cvr_qn_qn C (mc_qn_areIntegers (gl Γ) (gK Γ) N σ r32 h_33) qn_areIntegers_I k_657 (by decide) d_qn_haveDueKinds_173 rfl (rest := []) rfl ⟨rfl, Nat.le_of_ble_eq_true rfl⟩ ?_
                        exact j_bret C d_qn_haveDueKinds_176
                      · skip
                        refine J.cas shO (fun c_34 => ?_) (fun c_34 => ?_)
                        · refine j_tblIn C d_qn_haveDueKinds_1 (12 : Int32) c_34 (by decide) (by decide) rfl (tgt := 172) (by decide) ?_
                          refine j_aload_n C d_qn_haveDueKinds_172 rfl 0 rfl ?_
                          refine J.goO (fun r35 h_36 => ?_)
                          refine cvr_qn_qn C (mc_qn_areIntegers (gl Γ) (gK Γ) N σ r35 h_36) qn_areIntegers_I k_657 (by decide) d_qn_haveDueKinds_173 rfl (rest := []) rfl ⟨rfl, Nat.le_of_ble_eq_true rfl⟩ ?_
                          exact j_bret C d_qn_haveDueKinds_176
                        · skip
                          refine J.cas shO (fun c_37 => ?_) (fun c_37 => ?_)
                          · refine j_tblIn C d_qn_haveDueKinds_1 (13 : Int32) c_37 (by decide) (by decide) rfl (tgt := 172) (by decide) ?_
                            refine j_aload_n C d_qn_haveDueKinds_172 rfl 0 rfl ?_
                            refine J.goO (fun r38 h_39 => ?_)
                            refine cvr_qn_qn C (mc_qn_areIntegers (gl Γ) (gK Γ) N σ r38 h_39) qn_areIntegers_I k_657 (by decide) d_qn_haveDueKinds_173 rfl (rest := []) rfl ⟨rfl, Nat.le_of_ble_eq_true rfl⟩ ?_
                            exact j_bret C d_qn_haveDueKinds_176
                          · skip
                            refine J.cas shO (fun c_40 => ?_) (fun c_40 => ?_)
                            · refine j_tblIn C d_qn_haveDueKinds_1 (14 : Int32) c_40 (by decide) (by decide) rfl (tgt := 234) (by decide) ?_
                              refine j_iconst C d_qn_haveDueKinds_234 rfl kc_i_1 ?_
                              exact j_zret C rfl d_qn_haveDueKinds_235
                            · skip
                              refine J.cas shO (fun c_41 => ?_) (fun c_41 => ?_)
                              · refine j_tblIn C d_qn_haveDueKinds_1 (15 : Int32) c_41 (by decide) (by decide) rfl (tgt := 234) (by decide) ?_
                                refine j_iconst C d_qn_haveDueKinds_234 rfl kc_i_1 ?_
                                exact j_zret C rfl d_qn_haveDueKinds_235
                              · skip
                                refine J.cas shO (fun c_42 => ?_) (fun c_42 => ?_)
                                · refine j_tblIn C d_qn_haveDueKinds_1 (16 : Int32) c_42 (by decide) (by decide) rfl (tgt := 177) (by decide) ?_
                                  refine j_aload_n C d_qn_haveDueKinds_177 rfl 0 rfl ?_
                                  refine j_iconst C d_qn_haveDueKinds_178 rfl kc_i_0 ?_
                                  refine j_iconst C d_qn_haveDueKinds_179 rfl kc_i_4 ?_
                                  refine J.goO (fun r43 h_44 => ?_)
                                  refine cvr_qn_qn C (mc_qn_isOperand (gl Γ) (gK Γ) N σ (0 : Int32) (4 : Int32) r43 h_44) qn_isOperand_I k_653 (by decide) d_qn_haveDueKinds_180 rfl (rest := []) rfl ⟨rfl, Nat.le_of_ble_eq_true rfl⟩ ?_
                                  exact j_bret C d_qn_haveDueKinds_183
                                · skip
                                  refine J.cas shO (fun c_45 => ?_) (fun c_45 => ?_)
                                  · refine j_tblIn C d_qn_haveDueKinds_1 (17 : Int32) c_45 (by decide) (by decide) rfl (tgt := 177) (by decide) ?_
                                    refine j_aload_n C d_qn_haveDueKinds_177 rfl 0 rfl ?_
                                    refine j_iconst C d_qn_haveDueKinds_178 rfl kc_i_0 ?_
                                    refine j_iconst C d_qn_haveDueKinds_179 rfl kc_i_4 ?_
                                    refine J.goO (fun r46 h_47 => ?_)
                                    refine cvr_qn_qn C (mc_qn_isOperand (gl Γ) (gK Γ) N σ (0 : Int32) (4 : Int32) r46 h_47) qn_isOperand_I k_653 (by decide) d_qn_haveDueKinds_180 rfl (rest := []) rfl ⟨rfl, Nat.le_of_ble_eq_true rfl⟩ ?_
                                    exact j_bret C d_qn_haveDueKinds_183
                                  · skip
                                    refine J.cas shO (fun c_48 => ?_) (fun c_48 => ?_)
                                    · refine j_tblIn C d_qn_haveDueKinds_1 (18 : Int32) c_48 (by decide) (by decide) rfl (tgt := 234) (by decide) ?_
                                      refine j_iconst C d_qn_haveDueKinds_234 rfl kc_i_1 ?_
                                      exact j_zret C rfl d_qn_haveDueKinds_235
                                    · skip
                                      refine J.cas shO (fun c_49 => ?_) (fun c_49 => ?_)
                                      · refine j_tblIn C d_qn_haveDueKinds_1 (19 : Int32) c_49 (by decide) (by decide) rfl (tgt := 234) (by decide) ?_
                                        refine j_iconst C d_qn_haveDueKinds_234 rfl kc_i_1 ?_
                                        exact j_zret C rfl d_qn_haveDueKinds_235
                                      · skip
                                        refine J.cas shO (fun c_50 => ?_) (fun c_50 => ?_)
                                        · refine j_tblIn C d_qn_haveDueKinds_1 (20 : Int32) c_50 (by decide) (by decide) rfl (tgt := 184) (by decide) ?_
                                          refine j_aload_n C d_qn_haveDueKinds_184 rfl 0 rfl ?_
                                          refine j_iconst C d_qn_haveDueKinds_185 rfl kc_i_1 ?_
                                          refine j_bipush C d_qn_haveDueKinds_186 rfl kc_b_7 ?_
                                          refine J.goO (fun r51 h_52 => ?_)
                                          refine cvr_qn_qn C (mc_qn_isOperand (gl Γ) (gK Γ) N σ (1 : Int32) (7 : Int32) r51 h_52) qn_isOperand_I k_653 (by decide) d_qn_haveDueKinds_188 rfl (rest := []) rfl ⟨rfl, Nat.le_of_ble_eq_true rfl⟩ ?_
                                          exact j_bret C d_qn_haveDueKinds_191
                                        · skip
                                          refine J.cas shO (fun c_53 => ?_) (fun c_53 => ?_)
                                          · refine j_tblIn C d_qn_haveDueKinds_1 (21 : Int32) c_53 (by decide) (by decide) rfl (tgt := 192) (by decide) ?_
                                            refine j_aload_n C d_qn_haveDueKinds_192 rfl 0 rfl ?_
                                            refine j_iconst C d_qn_haveDueKinds_193 rfl kc_i_0 ?_
                                            refine J.goO (fun r54 h_55 => ?_)
                                            refine cvr_qn_qn C (mc_qn_operand (gl Γ) (gK Γ) N σ (0 : Int32) r54 h_55) qn_operand_I k_631 (by decide) d_qn_haveDueKinds_194 rfl (rest := []) rfl ⟨rfl, Nat.le_of_ble_eq_true rfl⟩ ?_
                                            refine cs_qn C (mc_qw_isCombiner (gl Γ) (gK Γ) r54) qw_isCombiner_I k_661 (by decide) d_qn_haveDueKinds_197 rfl (rest := []) rfl (Nat.le_of_ble_eq_true rfl) ?_
                                            exact j_bret C d_qn_haveDueKinds_200
                                          · skip
                                            refine J.cas shO (fun c_56 => ?_) (fun c_56 => ?_)
                                            · refine j_tblIn C d_qn_haveDueKinds_1 (22 : Int32) c_56 (by decide) (by decide) rfl (tgt := 201) (by decide) ?_
                                              refine j_aload_n C d_qn_haveDueKinds_201 rfl 0 rfl ?_
                                              refine j_iconst C d_qn_haveDueKinds_202 rfl kc_i_0 ?_
                                              refine j_bipush C d_qn_haveDueKinds_203 rfl kc_b_6 ?_
                                              refine J.goO (fun r57 h_58 => ?_)
                                              refine cvr_qn_qn C (mc_qn_isOperand (gl Γ) (gK Γ) N σ (0 : Int32) (6 : Int32) r57 h_58) qn_isOperand_I k_653 (by decide) d_qn_haveDueKinds_205 rfl (rest := []) rfl ⟨rfl, Nat.le_of_ble_eq_true rfl⟩ ?_
                                              exact j_bret C d_qn_haveDueKinds_208
                                            · skip
                                              refine J.cas shO (fun c_59 => ?_) (fun c_59 => ?_)
                                              · refine j_tblIn C d_qn_haveDueKinds_1 (23 : Int32) c_59 (by decide) (by decide) rfl (tgt := 209) (by decide) ?_
                                                refine j_iload_n C d_qn_haveDueKinds_209 rfl 2 rfl ?_
                                                refine j_if_eq C d_qn_haveDueKinds_210 (tgt := 228) (by decide) rfl (fun c_60 => ?_) (fun c_60 => ?_)
                                                · refine J.pos shO c_60 ?_
                                                  refine j_iconst C d_qn_haveDueKinds_228 rfl kc_i_1 ?_
                                                  refine j_goto C d_qn_haveDueKinds_229 (tgt := 233) (by decide) ?_
                                                  exact j_zret C rfl d_qn_haveDueKinds_233
                                                · refine J.neg shO c_60 ?_
                                                  refine j_iload_n C d_qn_haveDueKinds_213 rfl 2 rfl ?_
                                                  refine j_iconst C d_qn_haveDueKinds_214 rfl kc_i_1 ?_
                                                  refine j_icmp_ne C d_qn_haveDueKinds_215 (tgt := 232) (by decide) rfl (fun c_61 => ?_) (fun c_61 => ?_)
                                                  · refine J.neg shO c_61 ?_
                                                    refine j_iconst C d_qn_haveDueKinds_232 rfl kc_i_0 ?_
                                                    exact j_zret C rfl d_qn_haveDueKinds_233
                                                  · refine J.pos shO c_61 ?_
                                                    refine j_aload_n C d_qn_haveDueKinds_218 rfl 0 rfl ?_
                                                    refine j_iconst C d_qn_haveDueKinds_219 rfl kc_i_0 ?_
                                                    refine j_bipush C d_qn_haveDueKinds_220 rfl kc_b_7 ?_
                                                    refine J.goO (fun r62 h_63 => ?_)
                                                    refine cvr_qn_qn C (mc_qn_isOperand (gl Γ) (gK Γ) N σ (0 : Int32) (7 : Int32) r62 h_63) qn_isOperand_I k_653 (by decide) d_qn_haveDueKinds_222 rfl (rest := []) rfl ⟨rfl, Nat.le_of_ble_eq_true rfl⟩ ?_
                                                    refine j_if_eq C d_qn_haveDueKinds_225 (tgt := 232) (by decide) rfl (fun c_64 => ?_) (fun c_64 => ?_)
                                                    · refine J.pos shO c_64 ?_
                                                      refine j_iconst C d_qn_haveDueKinds_232 rfl kc_i_0 ?_
                                                      exact j_zret C rfl d_qn_haveDueKinds_233
                                                    · refine J.neg shO c_64 ?_
                                                      refine j_iconst C d_qn_haveDueKinds_228 rfl kc_i_1 ?_
                                                      refine j_goto C d_qn_haveDueKinds_229 (tgt := 233) (by decide) ?_
                                                      exact j_zret C rfl d_qn_haveDueKinds_233
                                              · skip
                                                refine J.cas shO (fun c_65 => ?_) (fun c_65 => ?_)
                                                · refine j_tblIn C d_qn_haveDueKinds_1 (24 : Int32) c_65 (by decide) (by decide) rfl (tgt := 201) (by decide) ?_
                                                  refine j_aload_n C d_qn_haveDueKinds_201 rfl 0 rfl ?_
                                                  refine j_iconst C d_qn_haveDueKinds_202 rfl kc_i_0 ?_
                                                  refine j_bipush C d_qn_haveDueKinds_203 rfl kc_b_6 ?_
                                                  refine J.goO (fun r66 h_67 => ?_)
                                                  refine cvr_qn_qn C (mc_qn_isOperand (gl Γ) (gK Γ) N σ (0 : Int32) (6 : Int32) r66 h_67) qn_isOperand_I k_653 (by decide) d_qn_haveDueKinds_205 rfl (rest := []) rfl ⟨rfl, Nat.le_of_ble_eq_true rfl⟩ ?_
                                                  exact j_bret C d_qn_haveDueKinds_208
                                                · skip
                                                  refine j_tblOut C d_qn_haveDueKinds_1 (tgt := 234) (by decide) (by have h0 := lv_neT c_1 (a := 1) rfl; have h1 := lv_neT c_12 (a := 2) rfl; have h2 := lv_neT c_17 (a := 3) rfl; have h3 := lv_neT c_20 (a := 4) rfl; have h4 := lv_neT c_23 (a := 5) rfl; have h5 := lv_neT c_24 (a := 6) rfl; have h6 := lv_neT c_25 (a := 7) rfl; have h7 := lv_neT c_26 (a := 8) rfl; have h8 := lv_neT c_27 (a := 9) rfl; have h9 := lv_neT c_28 (a := 10) rfl; have h10 := lv_neT c_31 (a := 11) rfl; have h11 := lv_neT c_34 (a := 12) rfl; have h12 := lv_neT c_37 (a := 13) rfl; have h13 := lv_neT c_40 (a := 14) rfl; have h14 := lv_neT c_41 (a := 15) rfl; have h15 := lv_neT c_42 (a := 16) rfl; have h16 := lv_neT c_45 (a := 17) rfl; have h17 := lv_neT c_48 (a := 18) rfl; have h18 := lv_neT c_49 (a := 19) rfl; have h19 := lv_neT c_50 (a := 20) rfl; have h20 := lv_neT c_53 (a := 21) rfl; have h21 := lv_neT c_56 (a := 22) rfl; have h22 := lv_neT c_59 (a := 23) rfl; have h23 := lv_neT c_65 (a := 24) rfl; omega) ?_
                                                  refine j_iconst C d_qn_haveDueKinds_234 rfl kc_i_1 ?_
                                                  exact j_zret C rfl d_qn_haveDueKinds_235
theorem mc_qn_haveDueKinds (l : Launch) (K : kk_T) (N : Nat) (σ : qn_S) (a1 : Int32) (a2 : Int32) (r : Int32 × qn_S) (h : qn_haveDueKinds N σ a1 a2 = some r) : MC l qn_haveDueKinds_y qn_haveDueKinds_c 3 (some .boolean) (3, 74) K (qn_w K) qcl σ [.ref (kq K 2), .int a1, .int a2] (some (.int r.1)) r.2 := mc_of (ov := ovI) (X := shO (qn_haveDueKinds N σ a1 a2)) (by decide +kernel) (Nat.le_of_ble_eq_true rfl) (fun _ => rfl) (by rw [h]; rfl) (fun Γ e1 e2 C => by subst e1; subst e2; exact w_qn_haveDueKinds C N σ a1 a2)
theorem qn_haveDueKinds_I : ck_V qn_haveDueKinds_y qn_haveDueKinds_c 3 (some .boolean) 2 := ⟨k_630, k_99, by decide +kernel, k_629, k_34⟩
theorem w_qn_giveBackNew {Γ : cx_T} (C : cx_C Γ (qn_w (gK Γ)) qcl qn_R qn_giveBackNew_c 3 none (1, 22)) (σ : qn_S) (a1 : Int32) (a2 : Int32) : J Γ (qn_w (gK Γ)) qcl (QF Γ (qn_w (gK Γ)) qcl ovV) (shV (qn_giveBackNew σ a1 a2)) σ 0 [(0, .ref (kq (gK Γ) 2)), (1, .int a1), (2, .int a2)] [] := by
  unfold qn_giveBackNew
  refine j_iload_n C d_qn_giveBackNew_0 rfl 2 rfl ?_
  refine j_iconst C d_qn_giveBackNew_1 rfl kc_i_m1 ?_
  refine j_icmp_ne C d_qn_giveBackNew_2 (tgt := 14) (by decide) rfl (fun c_1 => ?_) (fun c_1 => ?_)
  · refine J.neg shV c_1 ?_
    refine j_aload_n C d_qn_giveBackNew_14 rfl 0 rfl ?_
    refine j_iload_n C d_qn_giveBackNew_15 rfl 1 rfl ?_
    refine j_iload_n C d_qn_giveBackNew_16 rfl 2 rfl ?_
    refine j_i2l C d_qn_giveBackNew_17 rfl ?_
    refine cs_qn C (mc_qw_make (gl Γ) (gK Γ) a1 (Int32.toInt64 a2)) qw_make_I k_542 (by decide) d_qn_giveBackNew_18 rfl (rest := [.ref (kq (gK Γ) 2)]) rfl (Nat.le_of_ble_eq_true rfl) ?_
    refine cv0_qn_qn C (mc_qn_giveBack (gl Γ) (gK Γ) σ (qw_make a1 (Int32.toInt64 a2))) qn_giveBack_I k_515 (by decide) d_qn_giveBackNew_21 rfl (rest := []) rfl ⟨rfl, Nat.le_of_ble_eq_true rfl⟩ ?_
    exact j_vret C d_qn_giveBackNew_24
  · refine J.pos shV c_1 ?_
    refine j_aload_n C d_qn_giveBackNew_5 rfl 0 rfl ?_
    refine j_bipush C d_qn_giveBackNew_6 rfl kc_b_m5 ?_
    refine cv0_qn_qn C (mc_qn_fail (gl Γ) (gK Γ) σ (-5 : Int32)) qn_fail_I k_493 (by decide) d_qn_giveBackNew_8 rfl (rest := []) rfl ⟨rfl, Nat.le_of_ble_eq_true rfl⟩ ?_
    refine j_goto C d_qn_giveBackNew_11 (tgt := 24) (by decide) ?_
    exact j_vret C d_qn_giveBackNew_24
theorem mc_qn_giveBackNew (l : Launch) (K : kk_T) (σ : qn_S) (a1 : Int32) (a2 : Int32) : MC l qn_giveBackNew_y qn_giveBackNew_c 3 none (1, 22) K (qn_w K) qcl σ [.ref (kq K 2), .int a1, .int a2] none (qn_giveBackNew σ a1 a2) := mc_of (ov := ovV) (X := shV (qn_giveBackNew σ a1 a2)) (by decide +kernel) (Nat.le_of_ble_eq_true rfl) (fun _ => rfl) rfl (fun Γ e1 e2 C => by subst e1; subst e2; exact w_qn_giveBackNew C σ a1 a2)
theorem qn_giveBackNew_I : ck_V qn_giveBackNew_y qn_giveBackNew_c 3 none 2 := ⟨k_680, k_99, by decide +kernel, k_679, k_41⟩
theorem w_qn_makeOperative {Γ : cx_T} (C : cx_C Γ (qn_w (gK Γ)) qcl qn_R qn_makeOperative_c 8 none (2, 53)) (σ : qn_S) (a1 : Int64) (a3 : Int64) (a5 : Int64) : J Γ (qn_w (gK Γ)) qcl (QF Γ (qn_w (gK Γ)) qcl ovV) (shV (qn_makeOperative σ a1 a3 a5)) σ 0 [(0, .ref (kq (gK Γ) 2)), (1, .long a1), (3, .long a3), (5, .long a5)] [] := by
  unfold qn_makeOperative
  refine j_lload_n C d_qn_makeOperative_0 rfl 2 rfl ?_
  refine j_ldc2 C d_qn_makeOperative_1 rfl k_651 ?_
  refine j_lcmp_ne C d_qn_makeOperative_4 d_qn_makeOperative_5 (tgt := 13) (by decide) rfl (fun c_1 => ?_) (fun c_1 => ?_)
  · refine J.neg shV c_1 ?_
    refine j_lload_n C d_qn_makeOperative_13 rfl 2 rfl ?_
    refine cs_qn C (mc_qw_rowOf (gl Γ) (gK Γ) a3) qw_rowOf_I k_508 (by decide) d_qn_makeOperative_14 rfl (rest := []) rfl (Nat.le_of_ble_eq_true rfl) ?_
    refine j_istore C (lv' := [(7, .int (qw_rowOf a3)), (0, .ref (kq (gK Γ) 2)), (1, .long a1), (3, .long a3), (5, .long a5)]) d_qn_makeOperative_17 rfl (by decide) rfl ?_
    refine j_aload_n C d_qn_makeOperative_19 rfl 1 rfl ?_
    refine j_iconst C d_qn_makeOperative_20 rfl kc_i_5 ?_
    refine j_aload_n C d_qn_makeOperative_21 rfl 1 rfl ?_
    refine qn_r_heap C k_229 d_qn_makeOperative_22 rfl ?_
    refine j_lload_n C d_qn_makeOperative_25 rfl 2 rfl ?_
    refine j_iload C d_qn_makeOperative_26 rfl 0 rfl ?_
    refine j_lload C d_qn_makeOperative_28 rfl 4 rfl ?_
    refine j_aload_n C d_qn_makeOperative_30 rfl 1 rfl ?_
    refine qn_r_environment C k_237 d_qn_makeOperative_31 rfl rfl ?_
    refine cv_qn_qh C (mc_qh_addOperative (gl Γ) (gK Γ) (qn_gH σ) a1 (qw_rowOf a3) a5 (qn_g_environment σ)) qh_addOperative_I k_673 (by decide) d_qn_makeOperative_34 rfl (rest := [.int (5 : Int32), .ref (kq (gK Γ) 2)]) rfl ⟨rfl, Nat.le_of_ble_eq_true rfl⟩ ?_
    refine cv0_qn_qn C (mc_qn_giveBackNew (gl Γ) (gK Γ) (qn_sH σ (qh_addOperative (qn_gH σ) a1 (qw_rowOf a3) a5 (qn_g_environment σ)).2) (5 : Int32) (qh_addOperative (qn_gH σ) a1 (qw_rowOf a3) a5 (qn_g_environment σ)).1) qn_giveBackNew_I k_677 (by decide) d_qn_makeOperative_37 rfl (rest := []) rfl ⟨rfl, Nat.le_of_ble_eq_true rfl⟩ ?_
    exact j_vret C d_qn_makeOperative_40
  · refine J.pos shV c_1 ?_
    refine j_bipush C d_qn_makeOperative_8 rfl kc_b_127 ?_
    refine j_goto C d_qn_makeOperative_10 (tgt := 17) (by decide) ?_
    refine j_istore C (lv' := [(7, .int (127 : Int32)), (0, .ref (kq (gK Γ) 2)), (1, .long a1), (3, .long a3), (5, .long a5)]) d_qn_makeOperative_17 rfl (by decide) rfl ?_
    refine j_aload_n C d_qn_makeOperative_19 rfl 1 rfl ?_
    refine j_iconst C d_qn_makeOperative_20 rfl kc_i_5 ?_
    refine j_aload_n C d_qn_makeOperative_21 rfl 1 rfl ?_
    refine qn_r_heap C k_229 d_qn_makeOperative_22 rfl ?_
    refine j_lload_n C d_qn_makeOperative_25 rfl 2 rfl ?_
    refine j_iload C d_qn_makeOperative_26 rfl 0 rfl ?_
    refine j_lload C d_qn_makeOperative_28 rfl 4 rfl ?_
    refine j_aload_n C d_qn_makeOperative_30 rfl 1 rfl ?_
    refine qn_r_environment C k_237 d_qn_makeOperative_31 rfl rfl ?_
    refine cv_qn_qh C (mc_qh_addOperative (gl Γ) (gK Γ) (qn_gH σ) a1 (127 : Int32) a5 (qn_g_environment σ)) qh_addOperative_I k_673 (by decide) d_qn_makeOperative_34 rfl (rest := [.int (5 : Int32), .ref (kq (gK Γ) 2)]) rfl ⟨rfl, Nat.le_of_ble_eq_true rfl⟩ ?_
    refine cv0_qn_qn C (mc_qn_giveBackNew (gl Γ) (gK Γ) (qn_sH σ (qh_addOperative (qn_gH σ) a1 (127 : Int32) a5 (qn_g_environment σ)).2) (5 : Int32) (qh_addOperative (qn_gH σ) a1 (127 : Int32) a5 (qn_g_environment σ)).1) qn_giveBackNew_I k_677 (by decide) d_qn_makeOperative_37 rfl (rest := []) rfl ⟨rfl, Nat.le_of_ble_eq_true rfl⟩ ?_
    exact j_vret C d_qn_makeOperative_40
theorem mc_qn_makeOperative (l : Launch) (K : kk_T) (σ : qn_S) (a1 : Int64) (a3 : Int64) (a5 : Int64) : MC l qn_makeOperative_y qn_makeOperative_c 8 none (2, 53) K (qn_w K) qcl σ [.ref (kq K 2), .long a1, .long a3, .long a5] none (qn_makeOperative σ a1 a3 a5) := mc_of (ov := ovV) (X := shV (qn_makeOperative σ a1 a3 a5)) (by decide +kernel) (Nat.le_of_ble_eq_true rfl) (fun _ => rfl) rfl (fun Γ e1 e2 C => by subst e1; subst e2; exact w_qn_makeOperative C σ a1 a3 a5)
theorem qn_makeOperative_I : ck_V qn_makeOperative_y qn_makeOperative_c 8 none 3 := ⟨k_672, k_99, by decide +kernel, k_671, k_40⟩
theorem w_qn_makeFunction {Γ : cx_T} (C : cx_C Γ (qn_w (gK Γ)) qcl qn_R qn_makeFunction_c 6 none (2, 53)) (σ : qn_S) (a1 : Int64) (a3 : Int64) : J Γ (qn_w (gK Γ)) qcl (QF Γ (qn_w (gK Γ)) qcl ovV) (shV (qn_makeFunction σ a1 a3)) σ 0 [(0, .ref (kq (gK Γ) 2)), (1, .long a1), (3, .long a3)] [] := by
  unfold qn_makeFunction
  refine j_aload_n C d_qn_makeFunction_0 rfl 0 rfl ?_
  refine qn_r_heap C k_229 d_qn_makeFunction_1 rfl ?_
  refine j_lload_n C d_qn_makeFunction_4 rfl 1 rfl ?_
  refine j_bipush C d_qn_makeFunction_5 rfl kc_b_127 ?_
  refine j_lload_n C d_qn_makeFunction_7 rfl 2 rfl ?_
  refine j_aload_n C d_qn_makeFunction_8 rfl 0 rfl ?_
  refine qn_r_environment C k_237 d_qn_makeFunction_9 rfl rfl ?_
  refine cv_qn_qh C (mc_qh_addOperative (gl Γ) (gK Γ) (qn_gH σ) a1 (127 : Int32) a3 (qn_g_environment σ)) qh_addOperative_I k_673 (by decide) d_qn_makeFunction_12 rfl (rest := []) rfl ⟨rfl, Nat.le_of_ble_eq_true rfl⟩ ?_
  refine j_istore C (lv' := [(5, .int (qh_addOperative (qn_gH σ) a1 (127 : Int32) a3 (qn_g_environment σ)).1), (0, .ref (kq (gK Γ) 2)), (1, .long a1), (3, .long a3)]) d_qn_makeFunction_15 rfl (by decide) rfl ?_
  refine j_iload C d_qn_makeFunction_17 rfl 0 rfl ?_
  refine j_iconst C d_qn_makeFunction_19 rfl kc_i_m1 ?_
  refine j_icmp_ne C d_qn_makeFunction_20 (tgt := 32) (by decide) rfl (fun c_1 => ?_) (fun c_1 => ?_)
  · refine J.neg shV c_1 ?_
    refine j_aload_n C d_qn_makeFunction_32 rfl 1 rfl ?_
    refine j_bipush C d_qn_makeFunction_33 rfl kc_b_6 ?_
    refine j_aload_n C d_qn_makeFunction_35 rfl 1 rfl ?_
    refine qn_r_heap C k_229 d_qn_makeFunction_36 rfl ?_
    refine j_iconst C d_qn_makeFunction_39 rfl kc_i_5 ?_
    refine j_iload C d_qn_makeFunction_40 rfl 0 rfl ?_
    refine j_i2l C d_qn_makeFunction_42 rfl ?_
    refine cs_qn C (mc_qw_make (gl Γ) (gK Γ) (5 : Int32) (Int32.toInt64 (qh_addOperative (qn_gH σ) a1 (127 : Int32) a3 (qn_g_environment σ)).1)) qw_make_I k_542 (by decide) d_qn_makeFunction_43 rfl (rest := [.ref (kq (gK Γ) 15), .int (6 : Int32), .ref (kq (gK Γ) 2)]) rfl (Nat.le_of_ble_eq_true rfl) ?_
    refine cv_qn_qh C (mc_qh_addApplicative (gl Γ) (gK Γ) (qh_addOperative (qn_gH σ) a1 (127 : Int32) a3 (qn_g_environment σ)).2 (qw_make (5 : Int32) (Int32.toInt64 (qh_addOperative (qn_gH σ) a1 (127 : Int32) a3 (qn_g_environment σ)).1))) qh_addApplicative_I k_685 (by decide) d_qn_makeFunction_46 rfl (rest := [.int (6 : Int32), .ref (kq (gK Γ) 2)]) rfl ⟨rfl, Nat.le_of_ble_eq_true rfl⟩ ?_
    refine cv0_qn_qn C (mc_qn_giveBackNew (gl Γ) (gK Γ) (qn_sH (qn_sH σ (qh_addOperative (qn_gH σ) a1 (127 : Int32) a3 (qn_g_environment σ)).2) (qh_addApplicative (qh_addOperative (qn_gH σ) a1 (127 : Int32) a3 (qn_g_environment σ)).2 (qw_make (5 : Int32) (Int32.toInt64 (qh_addOperative (qn_gH σ) a1 (127 : Int32) a3 (qn_g_environment σ)).1))).2) (6 : Int32) (qh_addApplicative (qh_addOperative (qn_gH σ) a1 (127 : Int32) a3 (qn_g_environment σ)).2 (qw_make (5 : Int32) (Int32.toInt64 (qh_addOperative (qn_gH σ) a1 (127 : Int32) a3 (qn_g_environment σ)).1))).1) qn_giveBackNew_I k_677 (by decide) d_qn_makeFunction_49 rfl (rest := []) rfl ⟨rfl, Nat.le_of_ble_eq_true rfl⟩ ?_
    exact j_vret C d_qn_makeFunction_52
  · refine J.pos shV c_1 ?_
    refine j_aload_n C d_qn_makeFunction_23 rfl 1 rfl ?_
    refine j_bipush C d_qn_makeFunction_24 rfl kc_b_m5 ?_
    refine cv0_qn_qn C (mc_qn_fail (gl Γ) (gK Γ) (qn_sH σ (qh_addOperative (qn_gH σ) a1 (127 : Int32) a3 (qn_g_environment σ)).2) (-5 : Int32)) qn_fail_I k_493 (by decide) d_qn_makeFunction_26 rfl (rest := []) rfl ⟨rfl, Nat.le_of_ble_eq_true rfl⟩ ?_
    refine j_goto C d_qn_makeFunction_29 (tgt := 52) (by decide) ?_
    exact j_vret C d_qn_makeFunction_52
theorem mc_qn_makeFunction (l : Launch) (K : kk_T) (σ : qn_S) (a1 : Int64) (a3 : Int64) : MC l qn_makeFunction_y qn_makeFunction_c 6 none (2, 53) K (qn_w K) qcl σ [.ref (kq K 2), .long a1, .long a3] none (qn_makeFunction σ a1 a3) := mc_of (ov := ovV) (X := shV (qn_makeFunction σ a1 a3)) (by decide +kernel) (Nat.le_of_ble_eq_true rfl) (fun _ => rfl) rfl (fun Γ e1 e2 C => by subst e1; subst e2; exact w_qn_makeFunction C σ a1 a3)
theorem qn_makeFunction_I : ck_V qn_makeFunction_y qn_makeFunction_c 6 none 2 := ⟨k_684, k_99, by decide +kernel, k_683, k_42⟩
theorem w_qn_evaluateSequence {Γ : cx_T} (C : cx_C Γ (qn_w (gK Γ)) qcl qn_R qn_evaluateSequence_c 5 none (2, 55)) (σ : qn_S) (a1 : Int64) : J Γ (qn_w (gK Γ)) qcl (QF Γ (qn_w (gK Γ)) qcl ovV) (shV (qn_evaluateSequence σ a1)) σ 0 [(0, .ref (kq (gK Γ) 2)), (1, .long a1)] [] := by
  unfold qn_evaluateSequence
  refine j_lload_n C d_qn_evaluateSequence_0 rfl 1 rfl ?_
  refine j_ldc2 C d_qn_evaluateSequence_1 rfl k_228 ?_
  refine j_lcmp_ne C d_qn_evaluateSequence_4 d_qn_evaluateSequence_5 (tgt := 18) (by decide) rfl (fun c_1 => ?_) (fun c_1 => ?_)
  · refine J.neg shV c_1 ?_
    refine j_aload_n C d_qn_evaluateSequence_18 rfl 0 rfl ?_
    refine qn_r_heap C k_229 d_qn_evaluateSequence_19 rfl ?_
    refine j_lload_n C d_qn_evaluateSequence_22 rfl 1 rfl ?_
    refine cvr_qn_qh C (mc_qh_cdrOf (gl Γ) (gK Γ) (qn_gH σ) a1) qh_cdrOf_I k_499 (by decide) d_qn_evaluateSequence_23 rfl (rest := []) rfl ⟨rfl, Nat.le_of_ble_eq_true rfl⟩ ?_
    refine j_ldc2 C d_qn_evaluateSequence_26 rfl k_228 ?_
    refine j_lcmp_ne C d_qn_evaluateSequence_29 d_qn_evaluateSequence_30 (tgt := 48) (by decide) rfl (fun c_2 => ?_) (fun c_2 => ?_)
    · refine J.neg shV c_2 ?_
      refine j_aload_n C d_qn_evaluateSequence_48 rfl 0 rfl ?_
      refine qn_r_heap C k_229 d_qn_evaluateSequence_49 rfl ?_
      refine j_lload_n C d_qn_evaluateSequence_52 rfl 1 rfl ?_
      refine cvr_qn_qh C (mc_qh_cdrOf (gl Γ) (gK Γ) (qn_gH σ) a1) qh_cdrOf_I k_499 (by decide) d_qn_evaluateSequence_53 rfl (rest := []) rfl ⟨rfl, Nat.le_of_ble_eq_true rfl⟩ ?_
      refine j_lstore_n C (lv' := [(3, .long (qh_cdrOf (qn_gH σ) a1)), (0, .ref (kq (gK Γ) 2)), (1, .long a1)]) d_qn_evaluateSequence_56 rfl rfl (by decide) rfl ?_
      refine j_aload_n C d_qn_evaluateSequence_57 rfl 1 rfl ?_
      refine j_aload_n C d_qn_evaluateSequence_58 rfl 1 rfl ?_
      refine qn_r_heap C k_229 d_qn_evaluateSequence_59 rfl ?_
      refine j_lload_n C d_qn_evaluateSequence_62 rfl 2 rfl ?_
      refine cvr_qn_qh C (mc_qh_carOf (gl Γ) (gK Γ) (qn_gH σ) a1) qh_carOf_I k_498 (by decide) d_qn_evaluateSequence_63 rfl (rest := [.ref (kq (gK Γ) 2)]) rfl ⟨rfl, Nat.le_of_ble_eq_true rfl⟩ ?_
      refine j_bipush C d_qn_evaluateSequence_66 rfl kc_b_6 ?_
      refine j_lload_n C d_qn_evaluateSequence_68 rfl 0 rfl ?_
      refine j_ldc2 C d_qn_evaluateSequence_69 rfl k_228 ?_
      refine j_iconst C d_qn_evaluateSequence_72 rfl kc_i_0 ?_
      refine cv0_qn_qn C (mc_qn_evaluateWithFrame (gl Γ) (gK Γ) σ (qh_carOf (qn_gH σ) a1) (6 : Int32) (qh_cdrOf (qn_gH σ) a1) (3 : Int64) (0 : Int32)) qn_evaluateWithFrame_I k_500 (by decide) d_qn_evaluateSequence_73 rfl (rest := []) rfl ⟨rfl, Nat.le_of_ble_eq_true rfl⟩ ?_
      exact j_vret C d_qn_evaluateSequence_76
    · refine J.pos shV c_2 ?_
      refine j_aload_n C d_qn_evaluateSequence_33 rfl 0 rfl ?_
      refine j_aload_n C d_qn_evaluateSequence_34 rfl 0 rfl ?_
      refine qn_r_heap C k_229 d_qn_evaluateSequence_35 rfl ?_
      refine j_lload_n C d_qn_evaluateSequence_38 rfl 1 rfl ?_
      refine cvr_qn_qh C (mc_qh_carOf (gl Γ) (gK Γ) (qn_gH σ) a1) qh_carOf_I k_498 (by decide) d_qn_evaluateSequence_39 rfl (rest := [.ref (kq (gK Γ) 2)]) rfl ⟨rfl, Nat.le_of_ble_eq_true rfl⟩ ?_
      refine cv0_qn_qn C (mc_qn_evaluateInTail (gl Γ) (gK Γ) σ (qh_carOf (qn_gH σ) a1)) qn_evaluateInTail_I k_484 (by decide) d_qn_evaluateSequence_42 rfl (rest := []) rfl ⟨rfl, Nat.le_of_ble_eq_true rfl⟩ ?_
      refine j_goto C d_qn_evaluateSequence_45 (tgt := 76) (by decide) ?_
      exact j_vret C d_qn_evaluateSequence_76
  · refine J.pos shV c_1 ?_
    refine j_aload_n C d_qn_evaluateSequence_8 rfl 0 rfl ?_
    refine j_ldc2 C d_qn_evaluateSequence_9 rfl k_651 ?_
    refine cv0_qn_qn C (mc_qn_giveBack (gl Γ) (gK Γ) σ (8 : Int64)) qn_giveBack_I k_515 (by decide) d_qn_evaluateSequence_12 rfl (rest := []) rfl ⟨rfl, Nat.le_of_ble_eq_true rfl⟩ ?_
    refine j_goto C d_qn_evaluateSequence_15 (tgt := 76) (by decide) ?_
    exact j_vret C d_qn_evaluateSequence_76
theorem mc_qn_evaluateSequence (l : Launch) (K : kk_T) (σ : qn_S) (a1 : Int64) : MC l qn_evaluateSequence_y qn_evaluateSequence_c 5 none (2, 55) K (qn_w K) qcl σ [.ref (kq K 2), .long a1] none (qn_evaluateSequence σ a1) := mc_of (ov := ovV) (X := shV (qn_evaluateSequence σ a1)) (by decide +kernel) (Nat.le_of_ble_eq_true rfl) (fun _ => rfl) rfl (fun Γ e1 e2 C => by subst e1; subst e2; exact w_qn_evaluateSequence C σ a1)
theorem qn_evaluateSequence_I : ck_V qn_evaluateSequence_y qn_evaluateSequence_c 5 none 1 := ⟨k_692, k_99, by decide +kernel, k_691, k_43⟩
theorem w_qn_callSpecial {Γ : cx_T} (C : cx_C Γ (qn_w (gK Γ)) qcl qn_R qn_callSpecial_c 2 none (3, 80)) (N : Nat) (σ : qn_S) (a1 : Int32) : J Γ (qn_w (gK Γ)) qcl (QF Γ (qn_w (gK Γ)) qcl ovV) (shU (qn_callSpecial N σ a1)) σ 0 [(0, .ref (kq (gK Γ) 2)), (1, .int a1)] [] := by
  unfold qn_callSpecial
  refine j_iload_n C d_qn_callSpecial_0 rfl 1 rfl ?_
  refine J.cas shU (fun c_1 => ?_) (fun c_1 => ?_)
  · refine j_tblIn C d_qn_callSpecial_1 (0 : Int32) c_1 (by decide) (by decide) rfl (tgt := 48) (by decide) ?_
    refine j_aload_n C d_qn_callSpecial_48 rfl 0 rfl ?_
    refine j_aload_n C d_qn_callSpecial_49 rfl 0 rfl ?_
    refine j_iconst C d_qn_callSpecial_50 rfl kc_i_0 ?_
    refine J.goU (fun r2 h_3 => ?_)
    refine cvr_qn_qn C (mc_qn_operand (gl Γ) (gK Γ) N σ (0 : Int32) r2 h_3) qn_operand_I k_631 (by decide) d_qn_callSpecial_51 rfl (rest := [.ref (kq (gK Γ) 2)]) rfl ⟨rfl, Nat.le_of_ble_eq_true rfl⟩ ?_
    refine j_iconst C d_qn_callSpecial_54 rfl kc_i_2 ?_
    refine j_aload_n C d_qn_callSpecial_55 rfl 0 rfl ?_
    refine qn_r_heap C k_229 d_qn_callSpecial_56 rfl ?_
    refine j_aload_n C d_qn_callSpecial_59 rfl 0 rfl ?_
    refine qn_r_operands C k_236 d_qn_callSpecial_60 rfl rfl ?_
    refine cvr_qn_qh C (mc_qh_cdrOf (gl Γ) (gK Γ) (qn_gH σ) (qn_g_operands σ)) qh_cdrOf_I k_499 (by decide) d_qn_callSpecial_63 rfl (rest := [.int (2 : Int32), .long r2, .ref (kq (gK Γ) 2)]) rfl ⟨rfl, Nat.le_of_ble_eq_true rfl⟩ ?_
    refine j_ldc2 C d_qn_callSpecial_66 rfl k_228 ?_
    refine j_iconst C d_qn_callSpecial_69 rfl kc_i_0 ?_
    refine cv0_qn_qn C (mc_qn_evaluateWithFrame (gl Γ) (gK Γ) σ r2 (2 : Int32) (qh_cdrOf (qn_gH σ) (qn_g_operands σ)) (3 : Int64) (0 : Int32)) qn_evaluateWithFrame_I k_500 (by decide) d_qn_callSpecial_70 rfl (rest := []) rfl ⟨rfl, Nat.le_of_ble_eq_true rfl⟩ ?_
    refine j_goto C d_qn_callSpecial_73 (tgt := 201) (by decide) ?_
    exact j_vret C d_qn_callSpecial_201
  · skip
    refine J.cas shU (fun c_4 => ?_) (fun c_4 => ?_)
    · refine j_tblIn C d_qn_callSpecial_1 (1 : Int32) c_4 (by decide) (by decide) rfl (tgt := 76) (by decide) ?_
      refine j_aload_n C d_qn_callSpecial_76 rfl 0 rfl ?_
      refine j_aload_n C d_qn_callSpecial_77 rfl 0 rfl ?_
      refine j_iconst C d_qn_callSpecial_78 rfl kc_i_0 ?_
      refine J.goU (fun r5 h_6 => ?_)
      refine cvr_qn_qn C (mc_qn_operand (gl Γ) (gK Γ) N σ (0 : Int32) r5 h_6) qn_operand_I k_631 (by decide) d_qn_callSpecial_79 rfl (rest := [.ref (kq (gK Γ) 2)]) rfl ⟨rfl, Nat.le_of_ble_eq_true rfl⟩ ?_
      refine j_aload_n C d_qn_callSpecial_82 rfl 0 rfl ?_
      refine j_iconst C d_qn_callSpecial_83 rfl kc_i_1 ?_
      refine J.goU (fun r7 h_8 => ?_)
      refine cvr_qn_qn C (mc_qn_operand (gl Γ) (gK Γ) N σ (1 : Int32) r7 h_8) qn_operand_I k_631 (by decide) d_qn_callSpecial_84 rfl (rest := [.long r5, .ref (kq (gK Γ) 2)]) rfl ⟨rfl, Nat.le_of_ble_eq_true rfl⟩ ?_
      refine j_aload_n C d_qn_callSpecial_87 rfl 0 rfl ?_
      refine j_iconst C d_qn_callSpecial_88 rfl kc_i_2 ?_
      refine J.goU (fun r9 h_10 => ?_)
      refine cvr_qn_qn C (mc_qn_operand (gl Γ) (gK Γ) N σ (2 : Int32) r9 h_10) qn_operand_I k_631 (by decide) d_qn_callSpecial_89 rfl (rest := [.long r7, .long r5, .ref (kq (gK Γ) 2)]) rfl ⟨rfl, Nat.le_of_ble_eq_true rfl⟩ ?_
      refine cv0_qn_qn C (mc_qn_makeOperative (gl Γ) (gK Γ) σ r5 r7 r9) qn_makeOperative_I k_669 (by decide) d_qn_callSpecial_92 rfl (rest := []) rfl ⟨rfl, Nat.le_of_ble_eq_true rfl⟩ ?_
      refine j_goto C d_qn_callSpecial_95 (tgt := 201) (by decide) ?_
      exact j_vret C d_qn_callSpecial_201
    · skip
      refine J.cas shU (fun c_11 => ?_) (fun c_11 => ?_)
      · refine j_tblIn C d_qn_callSpecial_1 (2 : Int32) c_11 (by decide) (by decide) rfl (tgt := 98) (by decide) ?_
        refine j_aload_n C d_qn_callSpecial_98 rfl 0 rfl ?_
        refine j_aload_n C d_qn_callSpecial_99 rfl 0 rfl ?_
        refine j_iconst C d_qn_callSpecial_100 rfl kc_i_0 ?_
        refine J.goU (fun r12 h_13 => ?_)
        refine cvr_qn_qn C (mc_qn_operand (gl Γ) (gK Γ) N σ (0 : Int32) r12 h_13) qn_operand_I k_631 (by decide) d_qn_callSpecial_101 rfl (rest := [.ref (kq (gK Γ) 2)]) rfl ⟨rfl, Nat.le_of_ble_eq_true rfl⟩ ?_
        refine j_aload_n C d_qn_callSpecial_104 rfl 0 rfl ?_
        refine j_iconst C d_qn_callSpecial_105 rfl kc_i_1 ?_
        refine J.goU (fun r14 h_15 => ?_)
        refine cvr_qn_qn C (mc_qn_operand (gl Γ) (gK Γ) N σ (1 : Int32) r14 h_15) qn_operand_I k_631 (by decide) d_qn_callSpecial_106 rfl (rest := [.long r12, .ref (kq (gK Γ) 2)]) rfl ⟨rfl, Nat.le_of_ble_eq_true rfl⟩ ?_
        refine cv0_qn_qn C (mc_qn_makeFunction (gl Γ) (gK Γ) σ r12 r14) qn_makeFunction_I k_681 (by decide) d_qn_callSpecial_109 rfl (rest := []) rfl ⟨rfl, Nat.le_of_ble_eq_true rfl⟩ ?_
        refine j_goto C d_qn_callSpecial_112 (tgt := 201) (by decide) ?_
        exact j_vret C d_qn_callSpecial_201
      · skip
        refine J.cas shU (fun c_16 => ?_) (fun c_16 => ?_)
        · refine j_tblIn C d_qn_callSpecial_1 (3 : Int32) c_16 (by decide) (by decide) rfl (tgt := 115) (by decide) ?_
          refine j_aload_n C d_qn_callSpecial_115 rfl 0 rfl ?_
          refine j_aload_n C d_qn_callSpecial_116 rfl 0 rfl ?_
          refine j_iconst C d_qn_callSpecial_117 rfl kc_i_1 ?_
          refine J.goU (fun r17 h_18 => ?_)
          refine cvr_qn_qn C (mc_qn_operand (gl Γ) (gK Γ) N σ (1 : Int32) r17 h_18) qn_operand_I k_631 (by decide) d_qn_callSpecial_118 rfl (rest := [.ref (kq (gK Γ) 2)]) rfl ⟨rfl, Nat.le_of_ble_eq_true rfl⟩ ?_
          refine j_iconst C d_qn_callSpecial_121 rfl kc_i_3 ?_
          refine j_aload_n C d_qn_callSpecial_122 rfl 0 rfl ?_
          refine qn_r_operands C k_236 d_qn_callSpecial_123 rfl rfl ?_
          refine j_ldc2 C d_qn_callSpecial_126 rfl k_228 ?_
          refine j_iconst C d_qn_callSpecial_129 rfl kc_i_0 ?_
          refine cv0_qn_qn C (mc_qn_evaluateWithFrame (gl Γ) (gK Γ) σ r17 (3 : Int32) (qn_g_operands σ) (3 : Int64) (0 : Int32)) qn_evaluateWithFrame_I k_500 (by decide) d_qn_callSpecial_130 rfl (rest := []) rfl ⟨rfl, Nat.le_of_ble_eq_true rfl⟩ ?_
          refine j_goto C d_qn_callSpecial_133 (tgt := 201) (by decide) ?_
          exact j_vret C d_qn_callSpecial_201
        · skip
          refine J.cas shU (fun c_19 => ?_) (fun c_19 => ?_)
          · refine j_tblIn C d_qn_callSpecial_1 (4 : Int32) c_19 (by decide) (by decide) rfl (tgt := 136) (by decide) ?_
            refine j_aload_n C d_qn_callSpecial_136 rfl 0 rfl ?_
            refine j_aload_n C d_qn_callSpecial_137 rfl 0 rfl ?_
            refine j_iconst C d_qn_callSpecial_138 rfl kc_i_0 ?_
            refine J.goU (fun r20 h_21 => ?_)
            refine cvr_qn_qn C (mc_qn_operand (gl Γ) (gK Γ) N σ (0 : Int32) r20 h_21) qn_operand_I k_631 (by decide) d_qn_callSpecial_139 rfl (rest := [.ref (kq (gK Γ) 2)]) rfl ⟨rfl, Nat.le_of_ble_eq_true rfl⟩ ?_
            refine j_iconst C d_qn_callSpecial_142 rfl kc_i_4 ?_
            refine j_aload_n C d_qn_callSpecial_143 rfl 0 rfl ?_
            refine qn_r_heap C k_229 d_qn_callSpecial_144 rfl ?_
            refine j_aload_n C d_qn_callSpecial_147 rfl 0 rfl ?_
            refine qn_r_operands C k_236 d_qn_callSpecial_148 rfl rfl ?_
            refine cvr_qn_qh C (mc_qh_cdrOf (gl Γ) (gK Γ) (qn_gH σ) (qn_g_operands σ)) qh_cdrOf_I k_499 (by decide) d_qn_callSpecial_151 rfl (rest := [.int (4 : Int32), .long r20, .ref (kq (gK Γ) 2)]) rfl ⟨rfl, Nat.le_of_ble_eq_true rfl⟩ ?_
            refine j_ldc2 C d_qn_callSpecial_154 rfl k_228 ?_
            refine j_iconst C d_qn_callSpecial_157 rfl kc_i_0 ?_
            refine cv0_qn_qn C (mc_qn_evaluateWithFrame (gl Γ) (gK Γ) σ r20 (4 : Int32) (qh_cdrOf (qn_gH σ) (qn_g_operands σ)) (3 : Int64) (0 : Int32)) qn_evaluateWithFrame_I k_500 (by decide) d_qn_callSpecial_158 rfl (rest := []) rfl ⟨rfl, Nat.le_of_ble_eq_true rfl⟩ ?_
            refine j_goto C d_qn_callSpecial_161 (tgt := 201) (by decide) ?_
            exact j_vret C d_qn_callSpecial_201
          · skip
            refine J.cas shU (fun c_22 => ?_) (fun c_22 => ?_)
            · refine j_tblIn C d_qn_callSpecial_1 (5 : Int32) c_22 (by decide) (by decide) rfl (tgt := 164) (by decide) ?_
              refine j_aload_n C d_qn_callSpecial_164 rfl 0 rfl ?_
              refine j_aload_n C d_qn_callSpecial_165 rfl 0 rfl ?_
              refine qn_r_operands C k_236 d_qn_callSpecial_166 rfl rfl ?_
              refine cv0_qn_qn C (mc_qn_evaluateSequence (gl Γ) (gK Γ) σ (qn_g_operands σ)) qn_evaluateSequence_I k_689 (by decide) d_qn_callSpecial_169 rfl (rest := []) rfl ⟨rfl, Nat.le_of_ble_eq_true rfl⟩ ?_
              refine j_goto C d_qn_callSpecial_172 (tgt := 201) (by decide) ?_
              exact j_vret C d_qn_callSpecial_201
            · skip
              refine J.cas shU (fun c_23 => ?_) (fun c_23 => ?_)
              · refine j_tblIn C d_qn_callSpecial_1 (6 : Int32) c_23 (by decide) (by decide) rfl (tgt := 175) (by decide) ?_
                refine j_aload_n C d_qn_callSpecial_175 rfl 0 rfl ?_
                refine j_aload_n C d_qn_callSpecial_176 rfl 0 rfl ?_
                refine j_iconst C d_qn_callSpecial_177 rfl kc_i_0 ?_
                refine J.goU (fun r24 h_25 => ?_)
                refine cvr_qn_qn C (mc_qn_operand (gl Γ) (gK Γ) N σ (0 : Int32) r24 h_25) qn_operand_I k_631 (by decide) d_qn_callSpecial_178 rfl (rest := [.ref (kq (gK Γ) 2)]) rfl ⟨rfl, Nat.le_of_ble_eq_true rfl⟩ ?_
                refine cv0_qn_qn C (mc_qn_giveBack (gl Γ) (gK Γ) σ r24) qn_giveBack_I k_515 (by decide) d_qn_callSpecial_181 rfl (rest := []) rfl ⟨rfl, Nat.le_of_ble_eq_true rfl⟩ ?_
                refine j_goto C d_qn_callSpecial_184 (tgt := 201) (by decide) ?_
                exact j_vret C d_qn_callSpecial_201
              · skip
                refine J.cas shU (fun c_26 => ?_) (fun c_26 => ?_)
                · refine j_tblIn C d_qn_callSpecial_1 (7 : Int32) c_26 (by decide) (by decide) rfl (tgt := 187) (by decide) ?_
                  refine j_aload_n C d_qn_callSpecial_187 rfl 0 rfl ?_
                  refine j_bipush C d_qn_callSpecial_188 rfl kc_b_7 ?_
                  refine j_aload_n C d_qn_callSpecial_190 rfl 0 rfl ?_
                  refine qn_r_environment C k_237 d_qn_callSpecial_191 rfl rfl ?_
                  refine j_i2l C d_qn_callSpecial_194 rfl ?_
                  refine cs_qn C (mc_qw_make (gl Γ) (gK Γ) (7 : Int32) (Int32.toInt64 (qn_g_environment σ))) qw_make_I k_542 (by decide) d_qn_callSpecial_195 rfl (rest := [.ref (kq (gK Γ) 2)]) rfl (Nat.le_of_ble_eq_true rfl) ?_
                  refine cv0_qn_qn C (mc_qn_giveBack (gl Γ) (gK Γ) σ (qw_make (7 : Int32) (Int32.toInt64 (qn_g_environment σ)))) qn_giveBack_I k_515 (by decide) d_qn_callSpecial_198 rfl (rest := []) rfl ⟨rfl, Nat.le_of_ble_eq_true rfl⟩ ?_
                  exact j_vret C d_qn_callSpecial_201
                · skip
                  refine j_tblOut C d_qn_callSpecial_1 (tgt := 187) (by decide) (by have h0 := lv_neT c_1 (a := 0) rfl; have h1 := lv_neT c_4 (a := 1) rfl; have h2 := lv_neT c_11 (a := 2) rfl; have h3 := lv_neT c_16 (a := 3) rfl; have h4 := lv_neT c_19 (a := 4) rfl; have h5 := lv_neT c_22 (a := 5) rfl; have h6 := lv_neT c_23 (a := 6) rfl; have h7 := lv_neT c_26 (a := 7) rfl; omega) ?_
                  refine j_aload_n C d_qn_callSpecial_187 rfl 0 rfl ?_
                  refine j_bipush C d_qn_callSpecial_188 rfl kc_b_7 ?_
                  refine j_aload_n C d_qn_callSpecial_190 rfl 0 rfl ?_
                  refine qn_r_environment C k_237 d_qn_callSpecial_191 rfl rfl ?_
                  refine j_i2l C d_qn_callSpecial_194 rfl ?_
                  refine cs_qn C (mc_qw_make (gl Γ) (gK Γ) (7 : Int32) (Int32.toInt64 (qn_g_environment σ))) qw_make_I k_542 (by decide) d_qn_callSpecial_195 rfl (rest := [.ref (kq (gK Γ) 2)]) rfl (Nat.le_of_ble_eq_true rfl) ?_
                  refine cv0_qn_qn C (mc_qn_giveBack (gl Γ) (gK Γ) σ (qw_make (7 : Int32) (Int32.toInt64 (qn_g_environment σ)))) qn_giveBack_I k_515 (by decide) d_qn_callSpecial_198 rfl (rest := []) rfl ⟨rfl, Nat.le_of_ble_eq_true rfl⟩ ?_
                  exact j_vret C d_qn_callSpecial_201
theorem mc_qn_callSpecial (l : Launch) (K : kk_T) (N : Nat) (σ : qn_S) (a1 : Int32) (r : qn_S) (h : qn_callSpecial N σ a1 = some r) : MC l qn_callSpecial_y qn_callSpecial_c 2 none (3, 80) K (qn_w K) qcl σ [.ref (kq K 2), .int a1] none r := mc_of (ov := ovV) (X := shU (qn_callSpecial N σ a1)) (by decide +kernel) (Nat.le_of_ble_eq_true rfl) (fun _ => rfl) (by rw [h]; rfl) (fun Γ e1 e2 C => by subst e1; subst e2; exact w_qn_callSpecial C N σ a1)
theorem qn_callSpecial_I : ck_V qn_callSpecial_y qn_callSpecial_c 2 none 1 := ⟨k_668, k_99, by decide +kernel, k_667, k_39⟩
theorem w_qn_giveBackInteger {Γ : cx_T} (C : cx_C Γ (qn_w (gK Γ)) qcl qn_R qn_giveBackInteger_c 3 none (1, 22)) (σ : qn_S) (a1 : Int64) : J Γ (qn_w (gK Γ)) qcl (QF Γ (qn_w (gK Γ)) qcl ovV) (shV (qn_giveBackInteger σ a1)) σ 0 [(0, .ref (kq (gK Γ) 2)), (1, .long a1)] [] := by
  unfold qn_giveBackInteger
  refine j_lload_n C d_qn_giveBackInteger_0 rfl 1 rfl ?_
  refine cs_qn C (mc_qw_isInteger (gl Γ) (gK Γ) a1) qw_isInteger_I k_709 (by decide) d_qn_giveBackInteger_1 rfl (rest := []) rfl (Nat.le_of_ble_eq_true rfl) ?_
  refine j_if_eq C d_qn_giveBackInteger_4 (tgt := 19) (by decide) rfl (fun c_1 => ?_) (fun c_1 => ?_)
  · refine J.pos shV c_1 ?_
    refine j_aload_n C d_qn_giveBackInteger_19 rfl 0 rfl ?_
    refine j_bipush C d_qn_giveBackInteger_20 rfl kc_b_m9 ?_
    refine cv0_qn_qn C (mc_qn_fail (gl Γ) (gK Γ) σ (-9 : Int32)) qn_fail_I k_493 (by decide) d_qn_giveBackInteger_22 rfl (rest := []) rfl ⟨rfl, Nat.le_of_ble_eq_true rfl⟩ ?_
    exact j_vret C d_qn_giveBackInteger_25
  · refine J.neg shV c_1 ?_
    refine j_aload_n C d_qn_giveBackInteger_7 rfl 0 rfl ?_
    refine j_iconst C d_qn_giveBackInteger_8 rfl kc_i_0 ?_
    refine j_lload_n C d_qn_giveBackInteger_9 rfl 1 rfl ?_
    refine cs_qn C (mc_qw_make (gl Γ) (gK Γ) (0 : Int32) a1) qw_make_I k_542 (by decide) d_qn_giveBackInteger_10 rfl (rest := [.ref (kq (gK Γ) 2)]) rfl (Nat.le_of_ble_eq_true rfl) ?_
    refine cv0_qn_qn C (mc_qn_giveBack (gl Γ) (gK Γ) σ (qw_make (0 : Int32) a1)) qn_giveBack_I k_515 (by decide) d_qn_giveBackInteger_13 rfl (rest := []) rfl ⟨rfl, Nat.le_of_ble_eq_true rfl⟩ ?_
    refine j_goto C d_qn_giveBackInteger_16 (tgt := 25) (by decide) ?_
    exact j_vret C d_qn_giveBackInteger_25
theorem mc_qn_giveBackInteger (l : Launch) (K : kk_T) (σ : qn_S) (a1 : Int64) : MC l qn_giveBackInteger_y qn_giveBackInteger_c 3 none (1, 22) K (qn_w K) qcl σ [.ref (kq K 2), .long a1] none (qn_giveBackInteger σ a1) := mc_of (ov := ovV) (X := shV (qn_giveBackInteger σ a1)) (by decide +kernel) (Nat.le_of_ble_eq_true rfl) (fun _ => rfl) rfl (fun Γ e1 e2 C => by subst e1; subst e2; exact w_qn_giveBackInteger C σ a1)
theorem qn_giveBackInteger_I : ck_V qn_giveBackInteger_y qn_giveBackInteger_c 3 none 1 := ⟨k_713, k_99, by decide +kernel, k_712, k_46⟩
theorem w_qn_accumulate_L19 {Γ : cx_T} (C : cx_C Γ (qn_w (gK Γ)) qcl qn_R qn_accumulate_c 9 none (2, 44)) (N : Nat) : ∀ (k : Nat) (σ : qn_S) (x1 : Int32) (x2 : Int64) (x4 : Int64) (x6 : Int32), J Γ (qn_w (gK Γ)) qcl (QF Γ (qn_w (gK Γ)) qcl ovV) (shU (qn_accumulate_L19 N k σ x1 x2 x4 x6)) σ 19 [(0, .ref (kq (gK Γ) 2)), (1, .int x1), (2, .long x2), (4, .long x4), (6, .int x6)] [] := by
  intro k
  induction k with
  | zero => intro σ x1 x2 x4 x6; exact J.none rfl
  | succ k ih =>
    intro σ x1 x2 x4 x6
    rw [qn_accumulate_L19]
    refine j_lload C d_qn_accumulate_19 rfl 3 rfl ?_
    refine j_ldc2 C d_qn_accumulate_21 rfl k_228 ?_
    refine j_lcmp_eq C d_qn_accumulate_24 d_qn_accumulate_25 (tgt := 99) (by decide) rfl (fun c_2 => ?_) (fun c_2 => ?_)
    · refine J.pos shU c_2 ?_
      refine j_aload_n C d_qn_accumulate_99 rfl 0 rfl ?_
      refine j_lload_n C d_qn_accumulate_100 rfl 2 rfl ?_
      refine cv0_qn_qn C (mc_qn_giveBackInteger (gl Γ) (gK Γ) σ x2) qn_giveBackInteger_I k_710 (by decide) d_qn_accumulate_101 rfl (rest := []) rfl ⟨rfl, Nat.le_of_ble_eq_true rfl⟩ ?_
      exact j_vret C d_qn_accumulate_104
    · refine J.neg shU c_2 ?_
      refine j_iload C d_qn_accumulate_28 rfl 4 rfl ?_
      refine j_sipush C d_qn_accumulate_30 rfl kc_s_4100 ?_
      refine j_icmp_ge C d_qn_accumulate_33 (tgt := 99) (by decide) rfl (fun c_3 => ?_) (fun c_3 => ?_)
      · refine J.pos shU c_3 ?_
        refine j_aload_n C d_qn_accumulate_99 rfl 0 rfl ?_
        refine j_lload_n C d_qn_accumulate_100 rfl 2 rfl ?_
        refine cv0_qn_qn C (mc_qn_giveBackInteger (gl Γ) (gK Γ) σ x2) qn_giveBackInteger_I k_710 (by decide) d_qn_accumulate_101 rfl (rest := []) rfl ⟨rfl, Nat.le_of_ble_eq_true rfl⟩ ?_
        exact j_vret C d_qn_accumulate_104
      · refine J.neg shU c_3 ?_
        refine j_aload_n C d_qn_accumulate_36 rfl 0 rfl ?_
        refine qn_r_heap C k_229 d_qn_accumulate_37 rfl ?_
        refine j_lload C d_qn_accumulate_40 rfl 3 rfl ?_
        refine cvr_qn_qh C (mc_qh_carOf (gl Γ) (gK Γ) (qn_gH σ) x4) qh_carOf_I k_498 (by decide) d_qn_accumulate_42 rfl (rest := []) rfl ⟨rfl, Nat.le_of_ble_eq_true rfl⟩ ?_
        refine cs_qn C (mc_qw_contentOf (gl Γ) (gK Γ) (qh_carOf (qn_gH σ) x4)) qw_contentOf_I k_701 (by decide) d_qn_accumulate_45 rfl (rest := []) rfl (Nat.le_of_ble_eq_true rfl) ?_
        refine j_lstore C (lv' := [(7, .long (qw_contentOf (qh_carOf (qn_gH σ) x4))), (0, .ref (kq (gK Γ) 2)), (1, .int x1), (2, .long x2), (4, .long x4), (6, .int x6)]) d_qn_accumulate_48 rfl (by decide) rfl ?_
        refine j_iload_n C d_qn_accumulate_50 rfl 2 rfl ?_
        refine j_if_eq C d_qn_accumulate_51 (tgt := 63) (by decide) rfl (fun c_4 => ?_) (fun c_4 => ?_)
        · refine J.pos shU c_4 ?_
          refine j_lload_n C d_qn_accumulate_63 rfl 3 rfl ?_
          refine j_lload C d_qn_accumulate_64 rfl 0 rfl ?_
          refine j_ladd C d_qn_accumulate_66 rfl ?_
          refine j_lstore_n C (lv' := [(2, .long (x2 + (qw_contentOf (qh_carOf (qn_gH σ) x4)))), (7, .long (qw_contentOf (qh_carOf (qn_gH σ) x4))), (0, .ref (kq (gK Γ) 2)), (1, .int x1), (4, .long x4), (6, .int x6)]) d_qn_accumulate_67 rfl rfl (by decide) rfl ?_
          refine j_lload_n C d_qn_accumulate_68 rfl 0 rfl ?_
          refine cs_qn C (mc_qw_isInteger (gl Γ) (gK Γ) (x2 + (qw_contentOf (qh_carOf (qn_gH σ) x4)))) qw_isInteger_I k_709 (by decide) d_qn_accumulate_69 rfl (rest := []) rfl (Nat.le_of_ble_eq_true rfl) ?_
          refine j_if_ne C d_qn_accumulate_72 (tgt := 82) (by decide) rfl (fun c_5 => ?_) (fun c_5 => ?_)
          · refine J.neg shU c_5 ?_
            refine j_aload_n C d_qn_accumulate_82 rfl 2 rfl ?_
            refine qn_r_heap C k_229 d_qn_accumulate_83 rfl ?_
            refine j_lload C d_qn_accumulate_86 rfl 4 rfl ?_
            refine cvr_qn_qh C (mc_qh_cdrOf (gl Γ) (gK Γ) (qn_gH σ) x4) qh_cdrOf_I k_499 (by decide) d_qn_accumulate_88 rfl (rest := []) rfl ⟨rfl, Nat.le_of_ble_eq_true rfl⟩ ?_
            refine j_lstore C (lv' := [(4, .long (qh_cdrOf (qn_gH σ) x4)), (2, .long (x2 + (qw_contentOf (qh_carOf (qn_gH σ) x4)))), (7, .long (qw_contentOf (qh_carOf (qn_gH σ) x4))), (0, .ref (kq (gK Γ) 2)), (1, .int x1), (6, .int x6)]) d_qn_accumulate_91 rfl (by decide) rfl ?_
            refine j_iinc C (v := (x6 + (1 : Int32))) (lv' := [(6, .int (x6 + (1 : Int32))), (4, .long (qh_cdrOf (qn_gH σ) x4)), (2, .long (x2 + (qw_contentOf (qh_carOf (qn_gH σ) x4)))), (7, .long (qw_contentOf (qh_carOf (qn_gH σ) x4))), (0, .ref (kq (gK Γ) 2)), (1, .int x1)]) d_qn_accumulate_93 rfl 5 rfl (kc_inc_1 _) (by decide) rfl ?_
            refine j_goto C d_qn_accumulate_96 (tgt := 19) (by decide) ?_
            refine J.loc (lv' := [(0, .ref (kq (gK Γ) 2)), (1, .int x1), (2, .long (x2 + (qw_contentOf (qh_carOf (qn_gH σ) x4)))), (4, .long (qh_cdrOf (qn_gH σ) x4)), (6, .int (x6 + (1 : Int32)))]) [4, 5, 2, 1, 0] rfl ?_
            exact ih σ x1 (x2 + (qw_contentOf (qh_carOf (qn_gH σ) x4))) (qh_cdrOf (qn_gH σ) x4) (x6 + (1 : Int32))
          · refine J.pos shU c_5 ?_
            refine j_aload_n C d_qn_accumulate_75 rfl 2 rfl ?_
            refine j_bipush C d_qn_accumulate_76 rfl kc_b_m9 ?_
            refine cv0_qn_qn C (mc_qn_fail (gl Γ) (gK Γ) σ (-9 : Int32)) qn_fail_I k_493 (by decide) d_qn_accumulate_78 rfl (rest := []) rfl ⟨rfl, Nat.le_of_ble_eq_true rfl⟩ ?_
            exact j_vret C d_qn_accumulate_81
        · refine J.neg shU c_4 ?_
          refine j_lload_n C d_qn_accumulate_54 rfl 3 rfl ?_
          refine j_lload C d_qn_accumulate_55 rfl 0 rfl ?_
          refine cs_qn C (mc_qw_product (gl Γ) (gK Γ) x2 (qw_contentOf (qh_carOf (qn_gH σ) x4))) qw_product_I k_702 (by decide) d_qn_accumulate_57 rfl (rest := []) rfl (Nat.le_of_ble_eq_true rfl) ?_
          refine j_goto C d_qn_accumulate_60 (tgt := 67) (by decide) ?_
          refine j_lstore_n C (lv' := [(2, .long (qw_product x2 (qw_contentOf (qh_carOf (qn_gH σ) x4)))), (7, .long (qw_contentOf (qh_carOf (qn_gH σ) x4))), (0, .ref (kq (gK Γ) 2)), (1, .int x1), (4, .long x4), (6, .int x6)]) d_qn_accumulate_67 rfl rfl (by decide) rfl ?_
          refine j_lload_n C d_qn_accumulate_68 rfl 0 rfl ?_
          refine cs_qn C (mc_qw_isInteger (gl Γ) (gK Γ) (qw_product x2 (qw_contentOf (qh_carOf (qn_gH σ) x4)))) qw_isInteger_I k_709 (by decide) d_qn_accumulate_69 rfl (rest := []) rfl (Nat.le_of_ble_eq_true rfl) ?_
          refine j_if_ne C d_qn_accumulate_72 (tgt := 82) (by decide) rfl (fun c_6 => ?_) (fun c_6 => ?_)
          · refine J.neg shU c_6 ?_
            refine j_aload_n C d_qn_accumulate_82 rfl 2 rfl ?_
            refine qn_r_heap C k_229 d_qn_accumulate_83 rfl ?_
            refine j_lload C d_qn_accumulate_86 rfl 4 rfl ?_
            refine cvr_qn_qh C (mc_qh_cdrOf (gl Γ) (gK Γ) (qn_gH σ) x4) qh_cdrOf_I k_499 (by decide) d_qn_accumulate_88 rfl (rest := []) rfl ⟨rfl, Nat.le_of_ble_eq_true rfl⟩ ?_
            refine j_lstore C (lv' := [(4, .long (qh_cdrOf (qn_gH σ) x4)), (2, .long (qw_product x2 (qw_contentOf (qh_carOf (qn_gH σ) x4)))), (7, .long (qw_contentOf (qh_carOf (qn_gH σ) x4))), (0, .ref (kq (gK Γ) 2)), (1, .int x1), (6, .int x6)]) d_qn_accumulate_91 rfl (by decide) rfl ?_
            refine j_iinc C (v := (x6 + (1 : Int32))) (lv' := [(6, .int (x6 + (1 : Int32))), (4, .long (qh_cdrOf (qn_gH σ) x4)), (2, .long (qw_product x2 (qw_contentOf (qh_carOf (qn_gH σ) x4)))), (7, .long (qw_contentOf (qh_carOf (qn_gH σ) x4))), (0, .ref (kq (gK Γ) 2)), (1, .int x1)]) d_qn_accumulate_93 rfl 5 rfl (kc_inc_1 _) (by decide) rfl ?_
            refine j_goto C d_qn_accumulate_96 (tgt := 19) (by decide) ?_
            refine J.loc (lv' := [(0, .ref (kq (gK Γ) 2)), (1, .int x1), (2, .long (qw_product x2 (qw_contentOf (qh_carOf (qn_gH σ) x4)))), (4, .long (qh_cdrOf (qn_gH σ) x4)), (6, .int (x6 + (1 : Int32)))]) [4, 5, 2, 1, 0] rfl ?_
            exact ih σ x1 (qw_product x2 (qw_contentOf (qh_carOf (qn_gH σ) x4))) (qh_cdrOf (qn_gH σ) x4) (x6 + (1 : Int32))
          · refine J.pos shU c_6 ?_
            refine j_aload_n C d_qn_accumulate_75 rfl 2 rfl ?_
            refine j_bipush C d_qn_accumulate_76 rfl kc_b_m9 ?_
            refine cv0_qn_qn C (mc_qn_fail (gl Γ) (gK Γ) σ (-9 : Int32)) qn_fail_I k_493 (by decide) d_qn_accumulate_78 rfl (rest := []) rfl ⟨rfl, Nat.le_of_ble_eq_true rfl⟩ ?_
            exact j_vret C d_qn_accumulate_81
theorem w_qn_accumulate {Γ : cx_T} (C : cx_C Γ (qn_w (gK Γ)) qcl qn_R qn_accumulate_c 9 none (2, 44)) (N : Nat) (σ : qn_S) (a1 : Int32) : J Γ (qn_w (gK Γ)) qcl (QF Γ (qn_w (gK Γ)) qcl ovV) (shU (qn_accumulate N σ a1)) σ 0 [(0, .ref (kq (gK Γ) 2)), (1, .int a1)] [] := by
  unfold qn_accumulate
  refine j_iload_n C d_qn_accumulate_0 rfl 1 rfl ?_
  refine j_if_eq C d_qn_accumulate_1 (tgt := 8) (by decide) rfl (fun c_1 => ?_) (fun c_1 => ?_)
  · refine J.pos shU c_1 ?_
    refine j_lconst C d_qn_accumulate_8 rfl kc_l_0 ?_
    refine j_lstore_n C (lv' := [(2, .long (0 : Int64)), (0, .ref (kq (gK Γ) 2)), (1, .int a1)]) d_qn_accumulate_9 rfl rfl (by decide) rfl ?_
    refine j_aload_n C d_qn_accumulate_10 rfl 1 rfl ?_
    refine qn_r_operands C k_236 d_qn_accumulate_11 rfl rfl ?_
    refine j_lstore C (lv' := [(4, .long (qn_g_operands σ)), (2, .long (0 : Int64)), (0, .ref (kq (gK Γ) 2)), (1, .int a1)]) d_qn_accumulate_14 rfl (by decide) rfl ?_
    refine j_iconst C d_qn_accumulate_16 rfl kc_i_0 ?_
    refine j_istore C (lv' := [(6, .int (0 : Int32)), (4, .long (qn_g_operands σ)), (2, .long (0 : Int64)), (0, .ref (kq (gK Γ) 2)), (1, .int a1)]) d_qn_accumulate_17 rfl (by decide) rfl ?_
    refine J.loc (lv' := [(0, .ref (kq (gK Γ) 2)), (1, .int a1), (2, .long (0 : Int64)), (4, .long (qn_g_operands σ)), (6, .int (0 : Int32))]) [3, 4, 2, 1, 0] rfl ?_
    exact w_qn_accumulate_L19 C N N σ a1 (0 : Int64) (qn_g_operands σ) (0 : Int32)
  · refine J.neg shU c_1 ?_
    refine j_lconst C d_qn_accumulate_4 rfl kc_l_1 ?_
    refine j_goto C d_qn_accumulate_5 (tgt := 9) (by decide) ?_
    refine j_lstore_n C (lv' := [(2, .long (1 : Int64)), (0, .ref (kq (gK Γ) 2)), (1, .int a1)]) d_qn_accumulate_9 rfl rfl (by decide) rfl ?_
    refine j_aload_n C d_qn_accumulate_10 rfl 1 rfl ?_
    refine qn_r_operands C k_236 d_qn_accumulate_11 rfl rfl ?_
    refine j_lstore C (lv' := [(4, .long (qn_g_operands σ)), (2, .long (1 : Int64)), (0, .ref (kq (gK Γ) 2)), (1, .int a1)]) d_qn_accumulate_14 rfl (by decide) rfl ?_
    refine j_iconst C d_qn_accumulate_16 rfl kc_i_0 ?_
    refine j_istore C (lv' := [(6, .int (0 : Int32)), (4, .long (qn_g_operands σ)), (2, .long (1 : Int64)), (0, .ref (kq (gK Γ) 2)), (1, .int a1)]) d_qn_accumulate_17 rfl (by decide) rfl ?_
    refine J.loc (lv' := [(0, .ref (kq (gK Γ) 2)), (1, .int a1), (2, .long (1 : Int64)), (4, .long (qn_g_operands σ)), (6, .int (0 : Int32))]) [3, 4, 2, 1, 0] rfl ?_
    exact w_qn_accumulate_L19 C N N σ a1 (1 : Int64) (qn_g_operands σ) (0 : Int32)
theorem mc_qn_accumulate (l : Launch) (K : kk_T) (N : Nat) (σ : qn_S) (a1 : Int32) (r : qn_S) (h : qn_accumulate N σ a1 = some r) : MC l qn_accumulate_y qn_accumulate_c 9 none (2, 44) K (qn_w K) qcl σ [.ref (kq K 2), .int a1] none r := mc_of (ov := ovV) (X := shU (qn_accumulate N σ a1)) (by decide +kernel) (Nat.le_of_ble_eq_true rfl) (fun _ => rfl) (by rw [h]; rfl) (fun Γ e1 e2 C => by subst e1; subst e2; exact w_qn_accumulate C N σ a1)
theorem qn_accumulate_I : ck_V qn_accumulate_y qn_accumulate_c 9 none 1 := ⟨k_700, k_99, by decide +kernel, k_699, k_45⟩
theorem w_qn_callDataFunction {Γ : cx_T} (C : cx_C Γ (qn_w (gK Γ)) qcl qn_R qn_callDataFunction_c 2 none (3, 72)) (N : Nat) (σ : qn_S) (a1 : Int32) : J Γ (qn_w (gK Γ)) qcl (QF Γ (qn_w (gK Γ)) qcl ovV) (shU (qn_callDataFunction N σ a1)) σ 0 [(0, .ref (kq (gK Γ) 2)), (1, .int a1)] [] := by
  unfold qn_callDataFunction
  refine j_iload_n C d_qn_callDataFunction_0 rfl 1 rfl ?_
  refine J.cas shU (fun c_1 => ?_) (fun c_1 => ?_)
  · refine j_tblIn C d_qn_callDataFunction_1 (10 : Int32) c_1 (by decide) (by decide) rfl (tgt := 56) (by decide) ?_
    refine j_aload_n C d_qn_callDataFunction_56 rfl 0 rfl ?_
    refine j_iload_n C d_qn_callDataFunction_57 rfl 1 rfl ?_
    refine j_bipush C d_qn_callDataFunction_58 rfl kc_b_11 ?_
    refine j_icmp_ne C d_qn_callDataFunction_60 (tgt := 67) (by decide) rfl (fun c_2 => ?_) (fun c_2 => ?_)
    · refine J.neg shU c_2 ?_
      refine j_iconst C d_qn_callDataFunction_67 rfl kc_i_0 ?_
      refine J.goU (fun r3 h_4 => ?_)
      refine cv0_qn_qn C (mc_qn_accumulate (gl Γ) (gK Γ) N σ (0 : Int32) r3 h_4) qn_accumulate_I k_697 (by decide) d_qn_callDataFunction_68 rfl (rest := []) rfl ⟨rfl, Nat.le_of_ble_eq_true rfl⟩ ?_
      refine j_goto C d_qn_callDataFunction_71 (tgt := 265) (by decide) ?_
      exact j_vret C d_qn_callDataFunction_265
    · refine J.pos shU c_2 ?_
      refine j_iconst C d_qn_callDataFunction_63 rfl kc_i_1 ?_
      refine j_goto C d_qn_callDataFunction_64 (tgt := 68) (by decide) ?_
      refine J.goU (fun r5 h_6 => ?_)
      refine cv0_qn_qn C (mc_qn_accumulate (gl Γ) (gK Γ) N σ (1 : Int32) r5 h_6) qn_accumulate_I k_697 (by decide) d_qn_callDataFunction_68 rfl (rest := []) rfl ⟨rfl, Nat.le_of_ble_eq_true rfl⟩ ?_
      refine j_goto C d_qn_callDataFunction_71 (tgt := 265) (by decide) ?_
      exact j_vret C d_qn_callDataFunction_265
  · skip
    refine J.cas shU (fun c_7 => ?_) (fun c_7 => ?_)
    · refine j_tblIn C d_qn_callDataFunction_1 (11 : Int32) c_7 (by decide) (by decide) rfl (tgt := 56) (by decide) ?_
      refine j_aload_n C d_qn_callDataFunction_56 rfl 0 rfl ?_
      refine j_iload_n C d_qn_callDataFunction_57 rfl 1 rfl ?_
      refine j_bipush C d_qn_callDataFunction_58 rfl kc_b_11 ?_
      refine j_icmp_ne C d_qn_callDataFunction_60 (tgt := 67) (by decide) rfl (fun c_8 => ?_) (fun c_8 => ?_)
      · refine J.neg shU c_8 ?_
        refine j_iconst C d_qn_callDataFunction_67 rfl kc_i_0 ?_
        refine J.goU (fun r9 h_10 => ?_)
        refine cv0_qn_qn C (mc_qn_accumulate (gl Γ) (gK Γ) N σ (0 : Int32) r9 h_10) qn_accumulate_I k_697 (by decide) d_qn_callDataFunction_68 rfl (rest := []) rfl ⟨rfl, Nat.le_of_ble_eq_true rfl⟩ ?_
        refine j_goto C d_qn_callDataFunction_71 (tgt := 265) (by decide) ?_
        exact j_vret C d_qn_callDataFunction_265
      · refine J.pos shU c_8 ?_
        refine j_iconst C d_qn_callDataFunction_63 rfl kc_i_1 ?_
        refine j_goto C d_qn_callDataFunction_64 (tgt := 68) (by decide) ?_
        refine J.goU (fun r11 h_12 => ?_)
        refine cv0_qn_qn C (mc_qn_accumulate (gl Γ) (gK Γ) N σ (1 : Int32) r11 h_12) qn_accumulate_I k_697 (by decide) d_qn_callDataFunction_68 rfl (rest := []) rfl ⟨rfl, Nat.le_of_ble_eq_true rfl⟩ ?_
        refine j_goto C d_qn_callDataFunction_71 (tgt := 265) (by decide) ?_
        exact j_vret C d_qn_callDataFunction_265
    · skip
      refine J.cas shU (fun c_13 => ?_) (fun c_13 => ?_)
      · refine j_tblIn C d_qn_callDataFunction_1 (12 : Int32) c_13 (by decide) (by decide) rfl (tgt := 74) (by decide) ?_
        refine j_aload_n C d_qn_callDataFunction_74 rfl 0 rfl ?_
        refine j_aload_n C d_qn_callDataFunction_75 rfl 0 rfl ?_
        refine j_iconst C d_qn_callDataFunction_76 rfl kc_i_0 ?_
        refine J.goU (fun r14 h_15 => ?_)
        refine cvr_qn_qn C (mc_qn_operand (gl Γ) (gK Γ) N σ (0 : Int32) r14 h_15) qn_operand_I k_631 (by decide) d_qn_callDataFunction_77 rfl (rest := [.ref (kq (gK Γ) 2)]) rfl ⟨rfl, Nat.le_of_ble_eq_true rfl⟩ ?_
        refine cs_qn C (mc_qw_contentOf (gl Γ) (gK Γ) r14) qw_contentOf_I k_701 (by decide) d_qn_callDataFunction_80 rfl (rest := [.ref (kq (gK Γ) 2)]) rfl (Nat.le_of_ble_eq_true rfl) ?_
        refine j_aload_n C d_qn_callDataFunction_83 rfl 0 rfl ?_
        refine j_iconst C d_qn_callDataFunction_84 rfl kc_i_1 ?_
        refine J.goU (fun r16 h_17 => ?_)
        refine cvr_qn_qn C (mc_qn_operand (gl Γ) (gK Γ) N σ (1 : Int32) r16 h_17) qn_operand_I k_631 (by decide) d_qn_callDataFunction_85 rfl (rest := [.long (qw_contentOf r14), .ref (kq (gK Γ) 2)]) rfl ⟨rfl, Nat.le_of_ble_eq_true rfl⟩ ?_
        refine cs_qn C (mc_qw_contentOf (gl Γ) (gK Γ) r16) qw_contentOf_I k_701 (by decide) d_qn_callDataFunction_88 rfl (rest := [.long (qw_contentOf r14), .ref (kq (gK Γ) 2)]) rfl (Nat.le_of_ble_eq_true rfl) ?_
        refine j_lsub C d_qn_callDataFunction_91 rfl ?_
        refine cv0_qn_qn C (mc_qn_giveBackInteger (gl Γ) (gK Γ) σ ((qw_contentOf r14) - (qw_contentOf r16))) qn_giveBackInteger_I k_710 (by decide) d_qn_callDataFunction_92 rfl (rest := []) rfl ⟨rfl, Nat.le_of_ble_eq_true rfl⟩ ?_
        refine j_goto C d_qn_callDataFunction_95 (tgt := 265) (by decide) ?_
        exact j_vret C d_qn_callDataFunction_265
      · skip
        refine J.cas shU (fun c_18 => ?_) (fun c_18 => ?_)
        · refine j_tblIn C d_qn_callDataFunction_1 (13 : Int32) c_18 (by decide) (by decide) rfl (tgt := 98) (by decide) ?_
          refine j_aload_n C d_qn_callDataFunction_98 rfl 0 rfl ?_
          refine j_aload_n C d_qn_callDataFunction_99 rfl 0 rfl ?_
          refine j_iconst C d_qn_callDataFunction_100 rfl kc_i_0 ?_
          refine J.goU (fun r19 h_20 => ?_)
          refine cvr_qn_qn C (mc_qn_operand (gl Γ) (gK Γ) N σ (0 : Int32) r19 h_20) qn_operand_I k_631 (by decide) d_qn_callDataFunction_101 rfl (rest := [.ref (kq (gK Γ) 2)]) rfl ⟨rfl, Nat.le_of_ble_eq_true rfl⟩ ?_
          refine cs_qn C (mc_qw_contentOf (gl Γ) (gK Γ) r19) qw_contentOf_I k_701 (by decide) d_qn_callDataFunction_104 rfl (rest := [.ref (kq (gK Γ) 2)]) rfl (Nat.le_of_ble_eq_true rfl) ?_
          refine j_aload_n C d_qn_callDataFunction_107 rfl 0 rfl ?_
          refine j_iconst C d_qn_callDataFunction_108 rfl kc_i_1 ?_
          refine J.goU (fun r21 h_22 => ?_)
          refine cvr_qn_qn C (mc_qn_operand (gl Γ) (gK Γ) N σ (1 : Int32) r21 h_22) qn_operand_I k_631 (by decide) d_qn_callDataFunction_109 rfl (rest := [.long (qw_contentOf r19), .ref (kq (gK Γ) 2)]) rfl ⟨rfl, Nat.le_of_ble_eq_true rfl⟩ ?_
          refine cs_qn C (mc_qw_contentOf (gl Γ) (gK Γ) r21) qw_contentOf_I k_701 (by decide) d_qn_callDataFunction_112 rfl (rest := [.long (qw_contentOf r19), .ref (kq (gK Γ) 2)]) rfl (Nat.le_of_ble_eq_true rfl) ?_
          refine j_lcmp_ge C d_qn_callDataFunction_115 d_qn_callDataFunction_116 (tgt := 123) (by decide) rfl (fun c_23 => ?_) (fun c_23 => ?_)
          · refine J.neg shU c_23 ?_
            refine j_iconst C d_qn_callDataFunction_123 rfl kc_i_0 ?_
            refine cs_qn C (mc_qw_makeBoolean (gl Γ) (gK Γ) (0 : Int32)) qw_makeBoolean_I k_714 (by decide) d_qn_callDataFunction_124 rfl (rest := [.ref (kq (gK Γ) 2)]) rfl (Nat.le_of_ble_eq_true rfl) ?_
            refine cv0_qn_qn C (mc_qn_giveBack (gl Γ) (gK Γ) σ (qw_makeBoolean (0 : Int32))) qn_giveBack_I k_515 (by decide) d_qn_callDataFunction_127 rfl (rest := []) rfl ⟨rfl, Nat.le_of_ble_eq_true rfl⟩ ?_
            refine j_goto C d_qn_callDataFunction_130 (tgt := 265) (by decide) ?_
            exact j_vret C d_qn_callDataFunction_265
          · refine J.pos shU c_23 ?_
            refine j_iconst C d_qn_callDataFunction_119 rfl kc_i_1 ?_
            refine j_goto C d_qn_callDataFunction_120 (tgt := 124) (by decide) ?_
            refine cs_qn C (mc_qw_makeBoolean (gl Γ) (gK Γ) (1 : Int32)) qw_makeBoolean_I k_714 (by decide) d_qn_callDataFunction_124 rfl (rest := [.ref (kq (gK Γ) 2)]) rfl (Nat.le_of_ble_eq_true rfl) ?_
            refine cv0_qn_qn C (mc_qn_giveBack (gl Γ) (gK Γ) σ (qw_makeBoolean (1 : Int32))) qn_giveBack_I k_515 (by decide) d_qn_callDataFunction_127 rfl (rest := []) rfl ⟨rfl, Nat.le_of_ble_eq_true rfl⟩ ?_
            refine j_goto C d_qn_callDataFunction_130 (tgt := 265) (by decide) ?_
            exact j_vret C d_qn_callDataFunction_265
        · skip
          refine J.cas shU (fun c_24 => ?_) (fun c_24 => ?_)
          · refine j_tblIn C d_qn_callDataFunction_1 (14 : Int32) c_24 (by decide) (by decide) rfl (tgt := 133) (by decide) ?_
            refine j_aload_n C d_qn_callDataFunction_133 rfl 0 rfl ?_
            refine j_aload_n C d_qn_callDataFunction_134 rfl 0 rfl ?_
            refine j_iconst C d_qn_callDataFunction_135 rfl kc_i_0 ?_
            refine J.goU (fun r25 h_26 => ?_)
            refine cvr_qn_qn C (mc_qn_operand (gl Γ) (gK Γ) N σ (0 : Int32) r25 h_26) qn_operand_I k_631 (by decide) d_qn_callDataFunction_136 rfl (rest := [.ref (kq (gK Γ) 2)]) rfl ⟨rfl, Nat.le_of_ble_eq_true rfl⟩ ?_
            refine j_aload_n C d_qn_callDataFunction_139 rfl 0 rfl ?_
            refine j_iconst C d_qn_callDataFunction_140 rfl kc_i_1 ?_
            refine J.goU (fun r27 h_28 => ?_)
            refine cvr_qn_qn C (mc_qn_operand (gl Γ) (gK Γ) N σ (1 : Int32) r27 h_28) qn_operand_I k_631 (by decide) d_qn_callDataFunction_141 rfl (rest := [.long r25, .ref (kq (gK Γ) 2)]) rfl ⟨rfl, Nat.le_of_ble_eq_true rfl⟩ ?_
            refine j_lcmp_ne C d_qn_callDataFunction_144 d_qn_callDataFunction_145 (tgt := 152) (by decide) rfl (fun c_29 => ?_) (fun c_29 => ?_)
            · refine J.neg shU c_29 ?_
              refine j_iconst C d_qn_callDataFunction_152 rfl kc_i_0 ?_
              refine cs_qn C (mc_qw_makeBoolean (gl Γ) (gK Γ) (0 : Int32)) qw_makeBoolean_I k_714 (by decide) d_qn_callDataFunction_153 rfl (rest := [.ref (kq (gK Γ) 2)]) rfl (Nat.le_of_ble_eq_true rfl) ?_
              refine cv0_qn_qn C (mc_qn_giveBack (gl Γ) (gK Γ) σ (qw_makeBoolean (0 : Int32))) qn_giveBack_I k_515 (by decide) d_qn_callDataFunction_156 rfl (rest := []) rfl ⟨rfl, Nat.le_of_ble_eq_true rfl⟩ ?_
              refine j_goto C d_qn_callDataFunction_159 (tgt := 265) (by decide) ?_
              exact j_vret C d_qn_callDataFunction_265
            · refine J.pos shU c_29 ?_
              refine j_iconst C d_qn_callDataFunction_148 rfl kc_i_1 ?_
              refine j_goto C d_qn_callDataFunction_149 (tgt := 153) (by decide) ?_
              refine cs_qn C (mc_qw_makeBoolean (gl Γ) (gK Γ) (1 : Int32)) qw_makeBoolean_I k_714 (by decide) d_qn_callDataFunction_153 rfl (rest := [.ref (kq (gK Γ) 2)]) rfl (Nat.le_of_ble_eq_true rfl) ?_
              refine cv0_qn_qn C (mc_qn_giveBack (gl Γ) (gK Γ) σ (qw_makeBoolean (1 : Int32))) qn_giveBack_I k_515 (by decide) d_qn_callDataFunction_156 rfl (rest := []) rfl ⟨rfl, Nat.le_of_ble_eq_true rfl⟩ ?_
              refine j_goto C d_qn_callDataFunction_159 (tgt := 265) (by decide) ?_
              exact j_vret C d_qn_callDataFunction_265
          · skip
            refine J.cas shU (fun c_30 => ?_) (fun c_30 => ?_)
            · refine j_tblIn C d_qn_callDataFunction_1 (15 : Int32) c_30 (by decide) (by decide) rfl (tgt := 162) (by decide) ?_
              refine j_aload_n C d_qn_callDataFunction_162 rfl 0 rfl ?_
              refine j_iconst C d_qn_callDataFunction_163 rfl kc_i_4 ?_
              refine j_aload_n C d_qn_callDataFunction_164 rfl 0 rfl ?_
              refine qn_r_heap C k_229 d_qn_callDataFunction_165 rfl ?_
              refine j_aload_n C d_qn_callDataFunction_168 rfl 0 rfl ?_
              refine j_iconst C d_qn_callDataFunction_169 rfl kc_i_0 ?_
              refine J.goU (fun r31 h_32 => ?_)
              refine cvr_qn_qn C (mc_qn_operand (gl Γ) (gK Γ) N σ (0 : Int32) r31 h_32) qn_operand_I k_631 (by decide) d_qn_callDataFunction_170 rfl (rest := [.ref (kq (gK Γ) 15), .int (4 : Int32), .ref (kq (gK Γ) 2)]) rfl ⟨rfl, Nat.le_of_ble_eq_true rfl⟩ ?_
              refine j_aload_n C d_qn_callDataFunction_173 rfl 0 rfl ?_
              refine j_iconst C d_qn_callDataFunction_174 rfl kc_i_1 ?_
              refine J.goU (fun r33 h_34 => ?_)
              refine cvr_qn_qn C (mc_qn_operand (gl Γ) (gK Γ) N σ (1 : Int32) r33 h_34) qn_operand_I k_631 (by decide) d_qn_callDataFunction_175 rfl (rest := [.long r31, .ref (kq (gK Γ) 15), .int (4 : Int32), .ref (kq (gK Γ) 2)]) rfl ⟨rfl, Nat.le_of_ble_eq_true rfl⟩ ?_
              refine cv_qn_qh C (mc_qh_addPair (gl Γ) (gK Γ) (qn_gH σ) r31 r33) qh_addPair_I k_541 (by decide) d_qn_callDataFunction_178 rfl (rest := [.int (4 : Int32), .ref (kq (gK Γ) 2)]) rfl ⟨rfl, Nat.le_of_ble_eq_true rfl⟩ ?_
              refine cv0_qn_qn C (mc_qn_giveBackNew (gl Γ) (gK Γ) (qn_sH σ (qh_addPair (qn_gH σ) r31 r33).2) (4 : Int32) (qh_addPair (qn_gH σ) r31 r33).1) qn_giveBackNew_I k_677 (by decide) d_qn_callDataFunction_181 rfl (rest := []) rfl ⟨rfl, Nat.le_of_ble_eq_true rfl⟩ ?_
              refine j_goto C d_qn_callDataFunction_184 (tgt := 265) (by decide) ?_
              exact j_vret C d_qn_callDataFunction_265
            · skip
              refine J.cas shU (fun c_35 => ?_) (fun c_35 => ?_)
              · refine j_tblIn C d_qn_callDataFunction_1 (16 : Int32) c_35 (by decide) (by decide) rfl (tgt := 187) (by decide) ?_
                refine j_aload_n C d_qn_callDataFunction_187 rfl 0 rfl ?_
                refine j_aload_n C d_qn_callDataFunction_188 rfl 0 rfl ?_
                refine qn_r_heap C k_229 d_qn_callDataFunction_189 rfl ?_
                refine j_aload_n C d_qn_callDataFunction_192 rfl 0 rfl ?_
                refine j_iconst C d_qn_callDataFunction_193 rfl kc_i_0 ?_
                refine J.goU (fun r36 h_37 => ?_)
                refine cvr_qn_qn C (mc_qn_operand (gl Γ) (gK Γ) N σ (0 : Int32) r36 h_37) qn_operand_I k_631 (by decide) d_qn_callDataFunction_194 rfl (rest := [.ref (kq (gK Γ) 15), .ref (kq (gK Γ) 2)]) rfl ⟨rfl, Nat.le_of_ble_eq_true rfl⟩ ?_
                refine cvr_qn_qh C (mc_qh_carOf (gl Γ) (gK Γ) (qn_gH σ) r36) qh_carOf_I k_498 (by decide) d_qn_callDataFunction_197 rfl (rest := [.ref (kq (gK Γ) 2)]) rfl ⟨rfl, Nat.le_of_ble_eq_true rfl⟩ ?_
                refine cv0_qn_qn C (mc_qn_giveBack (gl Γ) (gK Γ) σ (qh_carOf (qn_gH σ) r36)) qn_giveBack_I k_515 (by decide) d_qn_callDataFunction_200 rfl (rest := []) rfl ⟨rfl, Nat.le_of_ble_eq_true rfl⟩ ?_
                refine j_goto C d_qn_callDataFunction_203 (tgt := 265) (by decide) ?_
                exact j_vret C d_qn_callDataFunction_265
              · skip
                refine J.cas shU (fun c_38 => ?_) (fun c_38 => ?_)
                · refine j_tblIn C d_qn_callDataFunction_1 (17 : Int32) c_38 (by decide) (by decide) rfl (tgt := 206) (by decide) ?_
                  refine j_aload_n C d_qn_callDataFunction_206 rfl 0 rfl ?_
                  refine j_aload_n C d_qn_callDataFunction_207 rfl 0 rfl ?_
                  refine qn_r_heap C k_229 d_qn_callDataFunction_208 rfl ?_
                  refine j_aload_n C d_qn_callDataFunction_211 rfl 0 rfl ?_
                  refine j_iconst C d_qn_callDataFunction_212 rfl kc_i_0 ?_
                  refine J.goU (fun r39 h_40 => ?_)
                  refine cvr_qn_qn C (mc_qn_operand (gl Γ) (gK Γ) N σ (0 : Int32) r39 h_40) qn_operand_I k_631 (by decide) d_qn_callDataFunction_213 rfl (rest := [.ref (kq (gK Γ) 15), .ref (kq (gK Γ) 2)]) rfl ⟨rfl, Nat.le_of_ble_eq_true rfl⟩ ?_
                  refine cvr_qn_qh C (mc_qh_cdrOf (gl Γ) (gK Γ) (qn_gH σ) r39) qh_cdrOf_I k_499 (by decide) d_qn_callDataFunction_216 rfl (rest := [.ref (kq (gK Γ) 2)]) rfl ⟨rfl, Nat.le_of_ble_eq_true rfl⟩ ?_
                  refine cv0_qn_qn C (mc_qn_giveBack (gl Γ) (gK Γ) σ (qh_cdrOf (qn_gH σ) r39)) qn_giveBack_I k_515 (by decide) d_qn_callDataFunction_219 rfl (rest := []) rfl ⟨rfl, Nat.le_of_ble_eq_true rfl⟩ ?_
                  refine j_goto C d_qn_callDataFunction_222 (tgt := 265) (by decide) ?_
                  exact j_vret C d_qn_callDataFunction_265
                · skip
                  refine J.cas shU (fun c_41 => ?_) (fun c_41 => ?_)
                  · refine j_tblIn C d_qn_callDataFunction_1 (18 : Int32) c_41 (by decide) (by decide) rfl (tgt := 225) (by decide) ?_
                    refine j_aload_n C d_qn_callDataFunction_225 rfl 0 rfl ?_
                    refine j_aload_n C d_qn_callDataFunction_226 rfl 0 rfl ?_
                    refine j_iconst C d_qn_callDataFunction_227 rfl kc_i_0 ?_
                    refine J.goU (fun r42 h_43 => ?_)
                    refine cvr_qn_qn C (mc_qn_operand (gl Γ) (gK Γ) N σ (0 : Int32) r42 h_43) qn_operand_I k_631 (by decide) d_qn_callDataFunction_228 rfl (rest := [.ref (kq (gK Γ) 2)]) rfl ⟨rfl, Nat.le_of_ble_eq_true rfl⟩ ?_
                    refine j_ldc2 C d_qn_callDataFunction_231 rfl k_228 ?_
                    refine j_lcmp_ne C d_qn_callDataFunction_234 d_qn_callDataFunction_235 (tgt := 242) (by decide) rfl (fun c_44 => ?_) (fun c_44 => ?_)
                    · refine J.neg shU c_44 ?_
                      refine j_iconst C d_qn_callDataFunction_242 rfl kc_i_0 ?_
                      refine cs_qn C (mc_qw_makeBoolean (gl Γ) (gK Γ) (0 : Int32)) qw_makeBoolean_I k_714 (by decide) d_qn_callDataFunction_243 rfl (rest := [.ref (kq (gK Γ) 2)]) rfl (Nat.le_of_ble_eq_true rfl) ?_
                      refine cv0_qn_qn C (mc_qn_giveBack (gl Γ) (gK Γ) σ (qw_makeBoolean (0 : Int32))) qn_giveBack_I k_515 (by decide) d_qn_callDataFunction_246 rfl (rest := []) rfl ⟨rfl, Nat.le_of_ble_eq_true rfl⟩ ?_
                      refine j_goto C d_qn_callDataFunction_249 (tgt := 265) (by decide) ?_
                      exact j_vret C d_qn_callDataFunction_265
                    · refine J.pos shU c_44 ?_
                      refine j_iconst C d_qn_callDataFunction_238 rfl kc_i_1 ?_
                      refine j_goto C d_qn_callDataFunction_239 (tgt := 243) (by decide) ?_
                      refine cs_qn C (mc_qw_makeBoolean (gl Γ) (gK Γ) (1 : Int32)) qw_makeBoolean_I k_714 (by decide) d_qn_callDataFunction_243 rfl (rest := [.ref (kq (gK Γ) 2)]) rfl (Nat.le_of_ble_eq_true rfl) ?_
                      refine cv0_qn_qn C (mc_qn_giveBack (gl Γ) (gK Γ) σ (qw_makeBoolean (1 : Int32))) qn_giveBack_I k_515 (by decide) d_qn_callDataFunction_246 rfl (rest := []) rfl ⟨rfl, Nat.le_of_ble_eq_true rfl⟩ ?_
                      refine j_goto C d_qn_callDataFunction_249 (tgt := 265) (by decide) ?_
                      exact j_vret C d_qn_callDataFunction_265
                  · skip
                    refine J.cas shU (fun c_45 => ?_) (fun c_45 => ?_)
                    · refine j_tblIn C d_qn_callDataFunction_1 (19 : Int32) c_45 (by decide) (by decide) rfl (tgt := 252) (by decide) ?_
                      refine j_aload_n C d_qn_callDataFunction_252 rfl 0 rfl ?_
                      refine j_aload_n C d_qn_callDataFunction_253 rfl 0 rfl ?_
                      refine j_iconst C d_qn_callDataFunction_254 rfl kc_i_0 ?_
                      refine j_iconst C d_qn_callDataFunction_255 rfl kc_i_4 ?_
                      refine J.goU (fun r46 h_47 => ?_)
                      refine cvr_qn_qn C (mc_qn_isOperand (gl Γ) (gK Γ) N σ (0 : Int32) (4 : Int32) r46 h_47) qn_isOperand_I k_653 (by decide) d_qn_callDataFunction_256 rfl (rest := [.ref (kq (gK Γ) 2)]) rfl ⟨rfl, Nat.le_of_ble_eq_true rfl⟩ ?_
                      refine cs_qn C (mc_qw_makeBoolean (gl Γ) (gK Γ) r46) qw_makeBoolean_I k_714 (by decide) d_qn_callDataFunction_259 rfl (rest := [.ref (kq (gK Γ) 2)]) rfl (Nat.le_of_ble_eq_true rfl) ?_
                      refine cv0_qn_qn C (mc_qn_giveBack (gl Γ) (gK Γ) σ (qw_makeBoolean r46)) qn_giveBack_I k_515 (by decide) d_qn_callDataFunction_262 rfl (rest := []) rfl ⟨rfl, Nat.le_of_ble_eq_true rfl⟩ ?_
                      exact j_vret C d_qn_callDataFunction_265
                    · skip
                      refine j_tblOut C d_qn_callDataFunction_1 (tgt := 252) (by decide) (by have h0 := lv_neT c_1 (a := 10) rfl; have h1 := lv_neT c_7 (a := 11) rfl; have h2 := lv_neT c_13 (a := 12) rfl; have h3 := lv_neT c_18 (a := 13) rfl; have h4 := lv_neT c_24 (a := 14) rfl; have h5 := lv_neT c_30 (a := 15) rfl; have h6 := lv_neT c_35 (a := 16) rfl; have h7 := lv_neT c_38 (a := 17) rfl; have h8 := lv_neT c_41 (a := 18) rfl; have h9 := lv_neT c_45 (a := 19) rfl; omega) ?_
                      refine j_aload_n C d_qn_callDataFunction_252 rfl 0 rfl ?_
                      refine j_aload_n C d_qn_callDataFunction_253 rfl 0 rfl ?_
                      refine j_iconst C d_qn_callDataFunction_254 rfl kc_i_0 ?_
                      refine j_iconst C d_qn_callDataFunction_255 rfl kc_i_4 ?_
                      refine J.goU (fun r48 h_49 => ?_)
                      refine cvr_qn_qn C (mc_qn_isOperand (gl Γ) (gK Γ) N σ (0 : Int32) (4 : Int32) r48 h_49) qn_isOperand_I k_653 (by decide) d_qn_callDataFunction_256 rfl (rest := [.ref (kq (gK Γ) 2)]) rfl ⟨rfl, Nat.le_of_ble_eq_true rfl⟩ ?_
                      refine cs_qn C (mc_qw_makeBoolean (gl Γ) (gK Γ) r48) qw_makeBoolean_I k_714 (by decide) d_qn_callDataFunction_259 rfl (rest := [.ref (kq (gK Γ) 2)]) rfl (Nat.le_of_ble_eq_true rfl) ?_
                      refine cv0_qn_qn C (mc_qn_giveBack (gl Γ) (gK Γ) σ (qw_makeBoolean r48)) qn_giveBack_I k_515 (by decide) d_qn_callDataFunction_262 rfl (rest := []) rfl ⟨rfl, Nat.le_of_ble_eq_true rfl⟩ ?_
                      exact j_vret C d_qn_callDataFunction_265
theorem mc_qn_callDataFunction (l : Launch) (K : kk_T) (N : Nat) (σ : qn_S) (a1 : Int32) (r : qn_S) (h : qn_callDataFunction N σ a1 = some r) : MC l qn_callDataFunction_y qn_callDataFunction_c 2 none (3, 72) K (qn_w K) qcl σ [.ref (kq K 2), .int a1] none r := mc_of (ov := ovV) (X := shU (qn_callDataFunction N σ a1)) (by decide +kernel) (Nat.le_of_ble_eq_true rfl) (fun _ => rfl) (by rw [h]; rfl) (fun Γ e1 e2 C => by subst e1; subst e2; exact w_qn_callDataFunction C N σ a1)
theorem qn_callDataFunction_I : ck_V qn_callDataFunction_y qn_callDataFunction_c 2 none 1 := ⟨k_696, k_99, by decide +kernel, k_695, k_44⟩
theorem w_qn_makeEnvironment {Γ : cx_T} (C : cx_C Γ (qn_w (gK Γ)) qcl qn_R qn_makeEnvironment_c 2 none (2, 46)) (σ : qn_S) (a1 : Int32) : J Γ (qn_w (gK Γ)) qcl (QF Γ (qn_w (gK Γ)) qcl ovV) (shV (qn_makeEnvironment σ a1)) σ 0 [(0, .ref (kq (gK Γ) 2)), (1, .int a1)] [] := by
  unfold qn_makeEnvironment
  refine j_aload_n C d_qn_makeEnvironment_0 rfl 0 rfl ?_
  refine j_bipush C d_qn_makeEnvironment_1 rfl kc_b_7 ?_
  refine j_aload_n C d_qn_makeEnvironment_3 rfl 0 rfl ?_
  refine qn_r_heap C k_229 d_qn_makeEnvironment_4 rfl ?_
  refine j_iload_n C d_qn_makeEnvironment_7 rfl 1 rfl ?_
  refine cv_qn_qh C (mc_qh_addEnvironment (gl Γ) (gK Γ) (qn_gH σ) a1) qh_addEnvironment_I k_592 (by decide) d_qn_makeEnvironment_8 rfl (rest := [.int (7 : Int32), .ref (kq (gK Γ) 2)]) rfl ⟨rfl, Nat.le_of_ble_eq_true rfl⟩ ?_
  refine cv0_qn_qn C (mc_qn_giveBackNew (gl Γ) (gK Γ) (qn_sH σ (qh_addEnvironment (qn_gH σ) a1).2) (7 : Int32) (qh_addEnvironment (qn_gH σ) a1).1) qn_giveBackNew_I k_677 (by decide) d_qn_makeEnvironment_11 rfl (rest := []) rfl ⟨rfl, Nat.le_of_ble_eq_true rfl⟩ ?_
  exact j_vret C d_qn_makeEnvironment_14
theorem mc_qn_makeEnvironment (l : Launch) (K : kk_T) (σ : qn_S) (a1 : Int32) : MC l qn_makeEnvironment_y qn_makeEnvironment_c 2 none (2, 46) K (qn_w K) qcl σ [.ref (kq K 2), .int a1] none (qn_makeEnvironment σ a1) := mc_of (ov := ovV) (X := shV (qn_makeEnvironment σ a1)) (by decide +kernel) (Nat.le_of_ble_eq_true rfl) (fun _ => rfl) rfl (fun Γ e1 e2 C => by subst e1; subst e2; exact w_qn_makeEnvironment C σ a1)
theorem qn_makeEnvironment_I : ck_V qn_makeEnvironment_y qn_makeEnvironment_c 2 none 1 := ⟨k_722, k_99, by decide +kernel, k_721, k_48⟩
theorem w_qn_applyWithoutScope {Γ : cx_T} (C : cx_C Γ (qn_w (gK Γ)) qcl qn_R qn_applyWithoutScope_c 6 none (3, 68)) (N : Nat) (σ : qn_S)  : J Γ (qn_w (gK Γ)) qcl (QF Γ (qn_w (gK Γ)) qcl ovV) (shU (qn_applyWithoutScope N σ)) σ 0 [(0, .ref (kq (gK Γ) 2))] [] := by
  unfold qn_applyWithoutScope
  refine j_aload_n C d_qn_applyWithoutScope_0 rfl 0 rfl ?_
  refine qn_r_heap C k_229 d_qn_applyWithoutScope_1 rfl ?_
  refine j_iconst C d_qn_applyWithoutScope_4 rfl kc_i_m1 ?_
  refine cv_qn_qh C (mc_qh_addEnvironment (gl Γ) (gK Γ) (qn_gH σ) (-1 : Int32)) qh_addEnvironment_I k_592 (by decide) d_qn_applyWithoutScope_5 rfl (rest := []) rfl ⟨rfl, Nat.le_of_ble_eq_true rfl⟩ ?_
  refine j_istore_n C (lv' := [(1, .int (qh_addEnvironment (qn_gH σ) (-1 : Int32)).1), (0, .ref (kq (gK Γ) 2))]) d_qn_applyWithoutScope_8 rfl rfl (by decide) rfl ?_
  refine j_iload_n C d_qn_applyWithoutScope_9 rfl 0 rfl ?_
  refine j_iconst C d_qn_applyWithoutScope_10 rfl kc_i_m1 ?_
  refine j_icmp_ne C d_qn_applyWithoutScope_11 (tgt := 21) (by decide) rfl (fun c_1 => ?_) (fun c_1 => ?_)
  · refine J.neg shU c_1 ?_
    refine j_aload_n C d_qn_applyWithoutScope_21 rfl 1 rfl ?_
    refine qn_r_heap C k_229 d_qn_applyWithoutScope_22 rfl ?_
    refine j_aload_n C d_qn_applyWithoutScope_25 rfl 1 rfl ?_
    refine j_iconst C d_qn_applyWithoutScope_26 rfl kc_i_0 ?_
    refine J.goU (fun r2 h_3 => ?_)
    refine cvr_qn_qn C (mc_qn_operand (gl Γ) (gK Γ) N (qn_sH σ (qh_addEnvironment (qn_gH σ) (-1 : Int32)).2) (0 : Int32) r2 h_3) qn_operand_I k_631 (by decide) d_qn_applyWithoutScope_27 rfl (rest := [.ref (kq (gK Γ) 15)]) rfl ⟨rfl, Nat.le_of_ble_eq_true rfl⟩ ?_
    refine cvr_qn_qh C (mc_qh_underlyingOf (gl Γ) (gK Γ) (qh_addEnvironment (qn_gH σ) (-1 : Int32)).2 r2) qh_underlyingOf_I k_528 (by decide) d_qn_applyWithoutScope_30 rfl (rest := []) rfl ⟨rfl, Nat.le_of_ble_eq_true rfl⟩ ?_
    refine j_lstore_n C (lv' := [(2, .long (qh_underlyingOf (qh_addEnvironment (qn_gH σ) (-1 : Int32)).2 r2)), (1, .int (qh_addEnvironment (qn_gH σ) (-1 : Int32)).1), (0, .ref (kq (gK Γ) 2))]) d_qn_applyWithoutScope_33 rfl rfl (by decide) rfl ?_
    refine j_aload_n C d_qn_applyWithoutScope_34 rfl 2 rfl ?_
    refine j_iconst C d_qn_applyWithoutScope_35 rfl kc_i_1 ?_
    refine J.goU (fun r4 h_5 => ?_)
    refine cvr_qn_qn C (mc_qn_operand (gl Γ) (gK Γ) N (qn_sH σ (qh_addEnvironment (qn_gH σ) (-1 : Int32)).2) (1 : Int32) r4 h_5) qn_operand_I k_631 (by decide) d_qn_applyWithoutScope_36 rfl (rest := []) rfl ⟨rfl, Nat.le_of_ble_eq_true rfl⟩ ?_
    refine j_lstore C (lv' := [(4, .long r4), (2, .long (qh_underlyingOf (qh_addEnvironment (qn_gH σ) (-1 : Int32)).2 r2)), (1, .int (qh_addEnvironment (qn_gH σ) (-1 : Int32)).1), (0, .ref (kq (gK Γ) 2))]) d_qn_applyWithoutScope_39 rfl (by decide) rfl ?_
    refine j_aload_n C d_qn_applyWithoutScope_41 rfl 3 rfl ?_
    refine j_iload_n C d_qn_applyWithoutScope_42 rfl 2 rfl ?_
    refine qn_p_environment C k_237 d_qn_applyWithoutScope_43 rfl ?_
    refine j_aload_n C d_qn_applyWithoutScope_46 rfl 3 rfl ?_
    refine j_lload_n C d_qn_applyWithoutScope_47 rfl 1 rfl ?_
    refine j_lload C d_qn_applyWithoutScope_48 rfl 0 rfl ?_
    refine cv0_qn_qn C (mc_qn_combine (gl Γ) (gK Γ) (qn_s_environment (qn_sH σ (qh_addEnvironment (qn_gH σ) (-1 : Int32)).2) (qh_addEnvironment (qn_gH σ) (-1 : Int32)).1) (qh_underlyingOf (qh_addEnvironment (qn_gH σ) (-1 : Int32)).2 r2) r4) qn_combine_I k_543 (by decide) d_qn_applyWithoutScope_50 rfl (rest := []) rfl ⟨rfl, Nat.le_of_ble_eq_true rfl⟩ ?_
    exact j_vret C d_qn_applyWithoutScope_53
  · refine J.pos shU c_1 ?_
    refine j_aload_n C d_qn_applyWithoutScope_14 rfl 1 rfl ?_
    refine j_bipush C d_qn_applyWithoutScope_15 rfl kc_b_m5 ?_
    refine cv0_qn_qn C (mc_qn_fail (gl Γ) (gK Γ) (qn_sH σ (qh_addEnvironment (qn_gH σ) (-1 : Int32)).2) (-5 : Int32)) qn_fail_I k_493 (by decide) d_qn_applyWithoutScope_17 rfl (rest := []) rfl ⟨rfl, Nat.le_of_ble_eq_true rfl⟩ ?_
    exact j_vret C d_qn_applyWithoutScope_20
theorem mc_qn_applyWithoutScope (l : Launch) (K : kk_T) (N : Nat) (σ : qn_S)  (r : qn_S) (h : qn_applyWithoutScope N σ = some r) : MC l qn_applyWithoutScope_y qn_applyWithoutScope_c 6 none (3, 68) K (qn_w K) qcl σ [.ref (kq K 2)] none r := mc_of (ov := ovV) (X := shU (qn_applyWithoutScope N σ)) (by decide +kernel) (Nat.le_of_ble_eq_true rfl) (fun _ => rfl) (by rw [h]; rfl) (fun Γ e1 e2 C => by subst e1; subst e2; exact w_qn_applyWithoutScope C N σ)
theorem qn_applyWithoutScope_I : ck_V qn_applyWithoutScope_y qn_applyWithoutScope_c 6 none 0 := ⟨k_726, k_99, by decide +kernel, k_725, k_49⟩
theorem w_qn_callScopeFunction {Γ : cx_T} (C : cx_C Γ (qn_w (gK Γ)) qcl qn_R qn_callScopeFunction_c 3 none (4, 93)) (N : Nat) (σ : qn_S) (a1 : Int32) (a2 : Int32) : J Γ (qn_w (gK Γ)) qcl (QF Γ (qn_w (gK Γ)) qcl ovV) (shU (qn_callScopeFunction N σ a1 a2)) σ 0 [(0, .ref (kq (gK Γ) 2)), (1, .int a1), (2, .int a2)] [] := by
  unfold qn_callScopeFunction
  refine j_iload_n C d_qn_callScopeFunction_0 rfl 1 rfl ?_
  refine J.cas shU (fun c_1 => ?_) (fun c_1 => ?_)
  · refine j_tblIn C d_qn_callScopeFunction_1 (20 : Int32) c_1 (by decide) (by decide) rfl (tgt := 40) (by decide) ?_
    refine j_aload_n C d_qn_callScopeFunction_40 rfl 0 rfl ?_
    refine j_aload_n C d_qn_callScopeFunction_41 rfl 0 rfl ?_
    refine j_iconst C d_qn_callScopeFunction_42 rfl kc_i_1 ?_
    refine J.goU (fun r2 h_3 => ?_)
    refine cvr_qn_qn C (mc_qn_operand (gl Γ) (gK Γ) N σ (1 : Int32) r2 h_3) qn_operand_I k_631 (by decide) d_qn_callScopeFunction_43 rfl (rest := [.ref (kq (gK Γ) 2)]) rfl ⟨rfl, Nat.le_of_ble_eq_true rfl⟩ ?_
    refine cs_qn C (mc_qw_rowOf (gl Γ) (gK Γ) r2) qw_rowOf_I k_508 (by decide) d_qn_callScopeFunction_46 rfl (rest := [.ref (kq (gK Γ) 2)]) rfl (Nat.le_of_ble_eq_true rfl) ?_
    refine qn_p_environment C k_237 d_qn_callScopeFunction_49 rfl ?_
    refine j_aload_n C d_qn_callScopeFunction_52 rfl 0 rfl ?_
    refine j_aload_n C d_qn_callScopeFunction_53 rfl 0 rfl ?_
    refine j_iconst C d_qn_callScopeFunction_54 rfl kc_i_0 ?_
    refine J.goU (fun r4 h_5 => ?_)
    refine cvr_qn_qn C (mc_qn_operand (gl Γ) (gK Γ) N (qn_s_environment σ (qw_rowOf r2)) (0 : Int32) r4 h_5) qn_operand_I k_631 (by decide) d_qn_callScopeFunction_55 rfl (rest := [.ref (kq (gK Γ) 2)]) rfl ⟨rfl, Nat.le_of_ble_eq_true rfl⟩ ?_
    refine cv0_qn_qn C (mc_qn_evaluateInTail (gl Γ) (gK Γ) (qn_s_environment σ (qw_rowOf r2)) r4) qn_evaluateInTail_I k_484 (by decide) d_qn_callScopeFunction_58 rfl (rest := []) rfl ⟨rfl, Nat.le_of_ble_eq_true rfl⟩ ?_
    refine j_goto C d_qn_callScopeFunction_61 (tgt := 142) (by decide) ?_
    exact j_vret C d_qn_callScopeFunction_142
  · skip
    refine J.cas shU (fun c_6 => ?_) (fun c_6 => ?_)
    · refine j_tblIn C d_qn_callScopeFunction_1 (21 : Int32) c_6 (by decide) (by decide) rfl (tgt := 64) (by decide) ?_
      refine j_aload_n C d_qn_callScopeFunction_64 rfl 0 rfl ?_
      refine j_bipush C d_qn_callScopeFunction_65 rfl kc_b_6 ?_
      refine j_aload_n C d_qn_callScopeFunction_67 rfl 0 rfl ?_
      refine qn_r_heap C k_229 d_qn_callScopeFunction_68 rfl ?_
      refine j_aload_n C d_qn_callScopeFunction_71 rfl 0 rfl ?_
      refine j_iconst C d_qn_callScopeFunction_72 rfl kc_i_0 ?_
      refine J.goU (fun r7 h_8 => ?_)
      refine cvr_qn_qn C (mc_qn_operand (gl Γ) (gK Γ) N σ (0 : Int32) r7 h_8) qn_operand_I k_631 (by decide) d_qn_callScopeFunction_73 rfl (rest := [.ref (kq (gK Γ) 15), .int (6 : Int32), .ref (kq (gK Γ) 2)]) rfl ⟨rfl, Nat.le_of_ble_eq_true rfl⟩ ?_
      refine cv_qn_qh C (mc_qh_addApplicative (gl Γ) (gK Γ) (qn_gH σ) r7) qh_addApplicative_I k_685 (by decide) d_qn_callScopeFunction_76 rfl (rest := [.int (6 : Int32), .ref (kq (gK Γ) 2)]) rfl ⟨rfl, Nat.le_of_ble_eq_true rfl⟩ ?_
      refine cv0_qn_qn C (mc_qn_giveBackNew (gl Γ) (gK Γ) (qn_sH σ (qh_addApplicative (qn_gH σ) r7).2) (6 : Int32) (qh_addApplicative (qn_gH σ) r7).1) qn_giveBackNew_I k_677 (by decide) d_qn_callScopeFunction_79 rfl (rest := []) rfl ⟨rfl, Nat.le_of_ble_eq_true rfl⟩ ?_
      refine j_goto C d_qn_callScopeFunction_82 (tgt := 142) (by decide) ?_
      exact j_vret C d_qn_callScopeFunction_142
    · skip
      refine J.cas shU (fun c_9 => ?_) (fun c_9 => ?_)
      · refine j_tblIn C d_qn_callScopeFunction_1 (22 : Int32) c_9 (by decide) (by decide) rfl (tgt := 85) (by decide) ?_
        refine j_aload_n C d_qn_callScopeFunction_85 rfl 0 rfl ?_
        refine j_aload_n C d_qn_callScopeFunction_86 rfl 0 rfl ?_
        refine qn_r_heap C k_229 d_qn_callScopeFunction_87 rfl ?_
        refine j_aload_n C d_qn_callScopeFunction_90 rfl 0 rfl ?_
        refine j_iconst C d_qn_callScopeFunction_91 rfl kc_i_0 ?_
        refine J.goU (fun r10 h_11 => ?_)
        refine cvr_qn_qn C (mc_qn_operand (gl Γ) (gK Γ) N σ (0 : Int32) r10 h_11) qn_operand_I k_631 (by decide) d_qn_callScopeFunction_92 rfl (rest := [.ref (kq (gK Γ) 15), .ref (kq (gK Γ) 2)]) rfl ⟨rfl, Nat.le_of_ble_eq_true rfl⟩ ?_
        refine cvr_qn_qh C (mc_qh_underlyingOf (gl Γ) (gK Γ) (qn_gH σ) r10) qh_underlyingOf_I k_528 (by decide) d_qn_callScopeFunction_95 rfl (rest := [.ref (kq (gK Γ) 2)]) rfl ⟨rfl, Nat.le_of_ble_eq_true rfl⟩ ?_
        refine cv0_qn_qn C (mc_qn_giveBack (gl Γ) (gK Γ) σ (qh_underlyingOf (qn_gH σ) r10)) qn_giveBack_I k_515 (by decide) d_qn_callScopeFunction_98 rfl (rest := []) rfl ⟨rfl, Nat.le_of_ble_eq_true rfl⟩ ?_
        refine j_goto C d_qn_callScopeFunction_101 (tgt := 142) (by decide) ?_
        exact j_vret C d_qn_callScopeFunction_142
      · skip
        refine J.cas shU (fun c_12 => ?_) (fun c_12 => ?_)
        · refine j_tblIn C d_qn_callScopeFunction_1 (23 : Int32) c_12 (by decide) (by decide) rfl (tgt := 104) (by decide) ?_
          refine j_aload_n C d_qn_callScopeFunction_104 rfl 0 rfl ?_
          refine j_iload_n C d_qn_callScopeFunction_105 rfl 2 rfl ?_
          refine j_if_ne C d_qn_callScopeFunction_106 (tgt := 113) (by decide) rfl (fun c_13 => ?_) (fun c_13 => ?_)
          · refine J.neg shU c_13 ?_
            refine j_aload_n C d_qn_callScopeFunction_113 rfl 0 rfl ?_
            refine j_iconst C d_qn_callScopeFunction_114 rfl kc_i_0 ?_
            refine J.goU (fun r14 h_15 => ?_)
            refine cvr_qn_qn C (mc_qn_operand (gl Γ) (gK Γ) N σ (0 : Int32) r14 h_15) qn_operand_I k_631 (by decide) d_qn_callScopeFunction_115 rfl (rest := [.ref (kq (gK Γ) 2)]) rfl ⟨rfl, Nat.le_of_ble_eq_true rfl⟩ ?_
            refine cs_qn C (mc_qw_rowOf (gl Γ) (gK Γ) r14) qw_rowOf_I k_508 (by decide) d_qn_callScopeFunction_118 rfl (rest := [.ref (kq (gK Γ) 2)]) rfl (Nat.le_of_ble_eq_true rfl) ?_
            refine cv0_qn_qn C (mc_qn_makeEnvironment (gl Γ) (gK Γ) σ (qw_rowOf r14)) qn_makeEnvironment_I k_719 (by decide) d_qn_callScopeFunction_121 rfl (rest := []) rfl ⟨rfl, Nat.le_of_ble_eq_true rfl⟩ ?_
            refine j_goto C d_qn_callScopeFunction_124 (tgt := 142) (by decide) ?_
            exact j_vret C d_qn_callScopeFunction_142
          · refine J.pos shU c_13 ?_
            refine j_iconst C d_qn_callScopeFunction_109 rfl kc_i_m1 ?_
            refine j_goto C d_qn_callScopeFunction_110 (tgt := 121) (by decide) ?_
            refine cv0_qn_qn C (mc_qn_makeEnvironment (gl Γ) (gK Γ) σ (-1 : Int32)) qn_makeEnvironment_I k_719 (by decide) d_qn_callScopeFunction_121 rfl (rest := []) rfl ⟨rfl, Nat.le_of_ble_eq_true rfl⟩ ?_
            refine j_goto C d_qn_callScopeFunction_124 (tgt := 142) (by decide) ?_
            exact j_vret C d_qn_callScopeFunction_142
        · skip
          refine J.cas shU (fun c_16 => ?_) (fun c_16 => ?_)
          · refine j_tblIn C d_qn_callScopeFunction_1 (24 : Int32) c_16 (by decide) (by decide) rfl (tgt := 127) (by decide) ?_
            refine j_aload_n C d_qn_callScopeFunction_127 rfl 0 rfl ?_
            refine J.goU (fun r17 h_18 => ?_)
            refine cv0_qn_qn C (mc_qn_applyWithoutScope (gl Γ) (gK Γ) N σ r17 h_18) qn_applyWithoutScope_I k_723 (by decide) d_qn_callScopeFunction_128 rfl (rest := []) rfl ⟨rfl, Nat.le_of_ble_eq_true rfl⟩ ?_
            refine j_goto C d_qn_callScopeFunction_131 (tgt := 142) (by decide) ?_
            exact j_vret C d_qn_callScopeFunction_142
          · skip
            refine J.cas shU (fun c_19 => ?_) (fun c_19 => ?_)
            · refine j_tblIn C d_qn_callScopeFunction_1 (25 : Int32) c_19 (by decide) (by decide) rfl (tgt := 134) (by decide) ?_
              refine j_aload_n C d_qn_callScopeFunction_134 rfl 0 rfl ?_
              refine j_aload_n C d_qn_callScopeFunction_135 rfl 0 rfl ?_
              refine qn_r_operands C k_236 d_qn_callScopeFunction_136 rfl rfl ?_
              refine cv0_qn_qn C (mc_qn_giveBack (gl Γ) (gK Γ) σ (qn_g_operands σ)) qn_giveBack_I k_515 (by decide) d_qn_callScopeFunction_139 rfl (rest := []) rfl ⟨rfl, Nat.le_of_ble_eq_true rfl⟩ ?_
              exact j_vret C d_qn_callScopeFunction_142
            · skip
              refine j_tblOut C d_qn_callScopeFunction_1 (tgt := 134) (by decide) (by have h0 := lv_neT c_1 (a := 20) rfl; have h1 := lv_neT c_6 (a := 21) rfl; have h2 := lv_neT c_9 (a := 22) rfl; have h3 := lv_neT c_12 (a := 23) rfl; have h4 := lv_neT c_16 (a := 24) rfl; have h5 := lv_neT c_19 (a := 25) rfl; omega) ?_
              refine j_aload_n C d_qn_callScopeFunction_134 rfl 0 rfl ?_
              refine j_aload_n C d_qn_callScopeFunction_135 rfl 0 rfl ?_
              refine qn_r_operands C k_236 d_qn_callScopeFunction_136 rfl rfl ?_
              refine cv0_qn_qn C (mc_qn_giveBack (gl Γ) (gK Γ) σ (qn_g_operands σ)) qn_giveBack_I k_515 (by decide) d_qn_callScopeFunction_139 rfl (rest := []) rfl ⟨rfl, Nat.le_of_ble_eq_true rfl⟩ ?_
              exact j_vret C d_qn_callScopeFunction_142
theorem mc_qn_callScopeFunction (l : Launch) (K : kk_T) (N : Nat) (σ : qn_S) (a1 : Int32) (a2 : Int32) (r : qn_S) (h : qn_callScopeFunction N σ a1 a2 = some r) : MC l qn_callScopeFunction_y qn_callScopeFunction_c 3 none (4, 93) K (qn_w K) qcl σ [.ref (kq K 2), .int a1, .int a2] none r := mc_of (ov := ovV) (X := shU (qn_callScopeFunction N σ a1 a2)) (by decide +kernel) (Nat.le_of_ble_eq_true rfl) (fun _ => rfl) (by rw [h]; rfl) (fun Γ e1 e2 C => by subst e1; subst e2; exact w_qn_callScopeFunction C N σ a1 a2)
theorem qn_callScopeFunction_I : ck_V qn_callScopeFunction_y qn_callScopeFunction_c 3 none 2 := ⟨k_718, k_99, by decide +kernel, k_717, k_47⟩
theorem w_qn_callPrimitive {Γ : cx_T} (C : cx_C Γ (qn_w (gK Γ)) qcl qn_R qn_callPrimitive_c 3 none (5, 115)) (N : Nat) (σ : qn_S) (a1 : Int32) : J Γ (qn_w (gK Γ)) qcl (QF Γ (qn_w (gK Γ)) qcl ovV) (shU (qn_callPrimitive N σ a1)) σ 0 [(0, .ref (kq (gK Γ) 2)), (1, .int a1)] [] := by
  unfold qn_callPrimitive
  refine j_aload_n C d_qn_callPrimitive_0 rfl 0 rfl ?_
  refine qn_r_heap C k_229 d_qn_callPrimitive_1 rfl ?_
  refine j_aload_n C d_qn_callPrimitive_4 rfl 0 rfl ?_
  refine qn_r_operands C k_236 d_qn_callPrimitive_5 rfl rfl ?_
  refine J.goU (fun r1 h_2 => ?_)
  refine cvr_qn_qh C (mc_qh_lengthOf (gl Γ) (gK Γ) N (qn_gH σ) (qn_g_operands σ) r1 h_2) qh_lengthOf_I k_527 (by decide) d_qn_callPrimitive_8 rfl (rest := []) rfl ⟨rfl, Nat.le_of_ble_eq_true rfl⟩ ?_
  refine j_istore_n C (lv' := [(2, .int r1), (0, .ref (kq (gK Γ) 2)), (1, .int a1)]) d_qn_callPrimitive_11 rfl rfl (by decide) rfl ?_
  refine j_aload_n C d_qn_callPrimitive_12 rfl 1 rfl ?_
  refine j_iload_n C d_qn_callPrimitive_13 rfl 2 rfl ?_
  refine j_iload_n C d_qn_callPrimitive_14 rfl 0 rfl ?_
  refine cvr_qn_qn C (mc_qn_hasDueCount (gl Γ) (gK Γ) σ a1 r1) qn_hasDueCount_I k_621 (by decide) d_qn_callPrimitive_15 rfl (rest := []) rfl ⟨rfl, Nat.le_of_ble_eq_true rfl⟩ ?_
  refine j_if_eq C d_qn_callPrimitive_18 (tgt := 30) (by decide) rfl (fun c_3 => ?_) (fun c_3 => ?_)
  · refine J.pos shU c_3 ?_
    refine j_aload_n C d_qn_callPrimitive_30 rfl 1 rfl ?_
    refine j_bipush C d_qn_callPrimitive_31 rfl kc_b_m8 ?_
    refine cv0_qn_qn C (mc_qn_fail (gl Γ) (gK Γ) σ (-8 : Int32)) qn_fail_I k_493 (by decide) d_qn_callPrimitive_33 rfl (rest := []) rfl ⟨rfl, Nat.le_of_ble_eq_true rfl⟩ ?_
    refine j_goto C d_qn_callPrimitive_36 (tgt := 73) (by decide) ?_
    exact j_vret C d_qn_callPrimitive_73
  · refine J.neg shU c_3 ?_
    refine j_aload_n C d_qn_callPrimitive_21 rfl 1 rfl ?_
    refine j_iload_n C d_qn_callPrimitive_22 rfl 2 rfl ?_
    refine j_iload_n C d_qn_callPrimitive_23 rfl 0 rfl ?_
    refine J.goU (fun r4 h_5 => ?_)
    refine cv_qn_qn C (mc_qn_haveDueKinds (gl Γ) (gK Γ) N σ a1 r1 r4 h_5) qn_haveDueKinds_I k_627 (by decide) d_qn_callPrimitive_24 rfl (rest := []) rfl ⟨rfl, Nat.le_of_ble_eq_true rfl⟩ ?_
    refine j_if_ne C d_qn_callPrimitive_27 (tgt := 39) (by decide) rfl (fun c_6 => ?_) (fun c_6 => ?_)
    · refine J.neg shU c_6 ?_
      refine j_iload_n C d_qn_callPrimitive_39 rfl 2 rfl ?_
      refine j_bipush C d_qn_callPrimitive_40 rfl kc_b_10 ?_
      refine j_icmp_ge C d_qn_callPrimitive_42 (tgt := 53) (by decide) rfl (fun c_7 => ?_) (fun c_7 => ?_)
      · refine J.pos shU c_7 ?_
        refine j_iload_n C d_qn_callPrimitive_53 rfl 2 rfl ?_
        refine j_bipush C d_qn_callPrimitive_54 rfl kc_b_20 ?_
        refine j_icmp_ge C d_qn_callPrimitive_56 (tgt := 67) (by decide) rfl (fun c_8 => ?_) (fun c_8 => ?_)
        · refine J.pos shU c_8 ?_
          refine j_aload_n C d_qn_callPrimitive_67 rfl 1 rfl ?_
          refine j_iload_n C d_qn_callPrimitive_68 rfl 2 rfl ?_
          refine j_iload_n C d_qn_callPrimitive_69 rfl 0 rfl ?_
          refine J.goU (fun r9 h_10 => ?_)
          refine cv0_qn_qn C (mc_qn_callScopeFunction (gl Γ) (gK Γ) N r4.2 a1 r1 r9 h_10) qn_callScopeFunction_I k_715 (by decide) d_qn_callPrimitive_70 rfl (rest := []) rfl ⟨rfl, Nat.le_of_ble_eq_true rfl⟩ ?_
          exact j_vret C d_qn_callPrimitive_73
        · refine J.neg shU c_8 ?_
          refine j_aload_n C d_qn_callPrimitive_59 rfl 1 rfl ?_
          refine j_iload_n C d_qn_callPrimitive_60 rfl 2 rfl ?_
          refine J.goU (fun r11 h_12 => ?_)
          refine cv0_qn_qn C (mc_qn_callDataFunction (gl Γ) (gK Γ) N r4.2 a1 r11 h_12) qn_callDataFunction_I k_693 (by decide) d_qn_callPrimitive_61 rfl (rest := []) rfl ⟨rfl, Nat.le_of_ble_eq_true rfl⟩ ?_
          refine j_goto C d_qn_callPrimitive_64 (tgt := 73) (by decide) ?_
          exact j_vret C d_qn_callPrimitive_73
      · refine J.neg shU c_7 ?_
        refine j_aload_n C d_qn_callPrimitive_45 rfl 1 rfl ?_
        refine j_iload_n C d_qn_callPrimitive_46 rfl 2 rfl ?_
        refine J.goU (fun r13 h_14 => ?_)
        refine cv0_qn_qn C (mc_qn_callSpecial (gl Γ) (gK Γ) N r4.2 a1 r13 h_14) qn_callSpecial_I k_665 (by decide) d_qn_callPrimitive_47 rfl (rest := []) rfl ⟨rfl, Nat.le_of_ble_eq_true rfl⟩ ?_
        refine j_goto C d_qn_callPrimitive_50 (tgt := 73) (by decide) ?_
        exact j_vret C d_qn_callPrimitive_73
    · refine J.pos shU c_6 ?_
      refine j_aload_n C d_qn_callPrimitive_30 rfl 1 rfl ?_
      refine j_bipush C d_qn_callPrimitive_31 rfl kc_b_m8 ?_
      refine cv0_qn_qn C (mc_qn_fail (gl Γ) (gK Γ) r4.2 (-8 : Int32)) qn_fail_I k_493 (by decide) d_qn_callPrimitive_33 rfl (rest := []) rfl ⟨rfl, Nat.le_of_ble_eq_true rfl⟩ ?_
      refine j_goto C d_qn_callPrimitive_36 (tgt := 73) (by decide) ?_
      exact j_vret C d_qn_callPrimitive_73
theorem mc_qn_callPrimitive (l : Launch) (K : kk_T) (N : Nat) (σ : qn_S) (a1 : Int32) (r : qn_S) (h : qn_callPrimitive N σ a1 = some r) : MC l qn_callPrimitive_y qn_callPrimitive_c 3 none (5, 115) K (qn_w K) qcl σ [.ref (kq K 2), .int a1] none r := mc_of (ov := ovV) (X := shU (qn_callPrimitive N σ a1)) (by decide +kernel) (Nat.le_of_ble_eq_true rfl) (fun _ => rfl) (by rw [h]; rfl) (fun Γ e1 e2 C => by subst e1; subst e2; exact w_qn_callPrimitive C N σ a1)
theorem qn_callPrimitive_I : ck_V qn_callPrimitive_y qn_callPrimitive_c 3 none 1 := ⟨k_620, k_99, by decide +kernel, k_619, k_32⟩
theorem w_qn_takeArgument {Γ : cx_T} (C : cx_C Γ (qn_w (gK Γ)) qcl qn_R qn_takeArgument_c 6 none (4, 101)) (N : Nat) (σ : qn_S) (a1 : Int64) (a3 : Int64) (a5 : Int32) : J Γ (qn_w (gK Γ)) qcl (QF Γ (qn_w (gK Γ)) qcl ovV) (shU (qn_takeArgument N σ a1 a3 a5)) σ 0 [(0, .ref (kq (gK Γ) 2)), (1, .long a1), (3, .long a3), (5, .int a5)] [] := by
  unfold qn_takeArgument
  refine j_aload_n C d_qn_takeArgument_0 rfl 0 rfl ?_
  refine qn_r_argumentCount C k_233 d_qn_takeArgument_1 rfl rfl ?_
  refine j_if_lt C d_qn_takeArgument_4 (tgt := 17) (by decide) rfl (fun c_1 => ?_) (fun c_1 => ?_)
  · refine J.pos shU c_1 ?_
    refine j_aload_n C d_qn_takeArgument_17 rfl 0 rfl ?_
    refine j_bipush C d_qn_takeArgument_18 rfl kc_b_m10 ?_
    refine cv0_qn_qn C (mc_qn_fail (gl Γ) (gK Γ) σ (-10 : Int32)) qn_fail_I k_493 (by decide) d_qn_takeArgument_20 rfl (rest := []) rfl ⟨rfl, Nat.le_of_ble_eq_true rfl⟩ ?_
    exact j_vret C d_qn_takeArgument_23
  · refine J.neg shU c_1 ?_
    refine j_aload_n C d_qn_takeArgument_7 rfl 0 rfl ?_
    refine qn_r_argumentCount C k_233 d_qn_takeArgument_8 rfl rfl ?_
    refine j_sipush C d_qn_takeArgument_11 rfl kc_s_1500 ?_
    refine j_icmp_lt C d_qn_takeArgument_14 (tgt := 24) (by decide) rfl (fun c_2 => ?_) (fun c_2 => ?_)
    · refine J.pos shU c_2 ?_
      refine j_aload_n C d_qn_takeArgument_24 rfl 0 rfl ?_
      refine qn_r_arguments C k_232 d_qn_takeArgument_25 rfl ?_
      refine j_aload_n C d_qn_takeArgument_28 rfl 0 rfl ?_
      refine qn_r_argumentCount C k_233 d_qn_takeArgument_29 rfl rfl ?_
      refine j_aload_n C d_qn_takeArgument_32 rfl 0 rfl ?_
      refine qn_r_current C k_235 d_qn_takeArgument_33 rfl rfl ?_
      refine qn_a_arguments C (in_c (M := 1500) c_1 c_2 (by decide) (Nat.le_of_ble_eq_true rfl)) d_qn_takeArgument_36 rfl ?_
      refine j_aload_n C d_qn_takeArgument_37 rfl 0 rfl ?_
      refine j_dup C d_qn_takeArgument_38 rfl rfl ?_
      refine qn_r_argumentCount C k_233 d_qn_takeArgument_39 rfl (x := (qn_g_argumentCount σ)) (gs_qn_argumentCount_t_arguments _ _ _) ?_
      refine j_iconst C d_qn_takeArgument_42 rfl kc_i_1 ?_
      refine j_iadd C d_qn_takeArgument_43 rfl ?_
      refine qn_p_argumentCount C k_233 d_qn_takeArgument_44 rfl ?_
      refine j_aload_n C d_qn_takeArgument_47 rfl 0 rfl ?_
      refine j_lload_n C d_qn_takeArgument_48 rfl 1 rfl ?_
      refine j_lload_n C d_qn_takeArgument_49 rfl 2 rfl ?_
      refine j_iload C d_qn_takeArgument_50 rfl 3 rfl ?_
      refine j_iconst C d_qn_takeArgument_52 rfl kc_i_1 ?_
      refine j_iadd C d_qn_takeArgument_53 rfl ?_
      refine J.goU (fun r3 h_4 => ?_)
      refine cv0_qn_qn C (mc_qn_evaluateArguments (gl Γ) (gK Γ) N (qn_s_argumentCount (qn_t_arguments σ (qn_g_argumentCount σ) (qn_g_current σ)) ((qn_g_argumentCount σ) + (1 : Int32))) a1 a3 (a5 + (1 : Int32)) r3 h_4) qn_evaluateArguments_I k_529 (by decide) d_qn_takeArgument_54 rfl (rest := []) rfl ⟨rfl, Nat.le_of_ble_eq_true rfl⟩ ?_
      exact j_vret C d_qn_takeArgument_57
    · refine J.neg shU c_2 ?_
      refine j_aload_n C d_qn_takeArgument_17 rfl 0 rfl ?_
      refine j_bipush C d_qn_takeArgument_18 rfl kc_b_m10 ?_
      refine cv0_qn_qn C (mc_qn_fail (gl Γ) (gK Γ) σ (-10 : Int32)) qn_fail_I k_493 (by decide) d_qn_takeArgument_20 rfl (rest := []) rfl ⟨rfl, Nat.le_of_ble_eq_true rfl⟩ ?_
      exact j_vret C d_qn_takeArgument_23
theorem mc_qn_takeArgument (l : Launch) (K : kk_T) (N : Nat) (σ : qn_S) (a1 : Int64) (a3 : Int64) (a5 : Int32) (r : qn_S) (h : qn_takeArgument N σ a1 a3 a5 = some r) : MC l qn_takeArgument_y qn_takeArgument_c 6 none (4, 101) K (qn_w K) qcl σ [.ref (kq K 2), .long a1, .long a3, .int a5] none r := mc_of (ov := ovV) (X := shU (qn_takeArgument N σ a1 a3 a5)) (by decide +kernel) (Nat.le_of_ble_eq_true rfl) (fun _ => rfl) (by rw [h]; rfl) (fun Γ e1 e2 C => by subst e1; subst e2; exact w_qn_takeArgument C N σ a1 a3 a5)
theorem qn_takeArgument_I : ck_V qn_takeArgument_y qn_takeArgument_c 6 none 3 := ⟨k_767, k_99, by decide +kernel, k_766, k_52⟩
theorem w_qn_choose {Γ : cx_T} (C : cx_C Γ (qn_w (gK Γ)) qcl qn_R qn_choose_c 3 none (2, 47)) (N : Nat) (σ : qn_S) (a1 : Int64) : J Γ (qn_w (gK Γ)) qcl (QF Γ (qn_w (gK Γ)) qcl ovV) (shU (qn_choose N σ a1)) σ 0 [(0, .ref (kq (gK Γ) 2)), (1, .long a1)] [] := by
  unfold qn_choose
  refine j_aload_n C d_qn_choose_0 rfl 0 rfl ?_
  refine qn_r_current C k_235 d_qn_choose_1 rfl rfl ?_
  refine cs_qn C (mc_qw_kindOf (gl Γ) (gK Γ) (qn_g_current σ)) qw_kindOf_I k_497 (by decide) d_qn_choose_4 rfl (rest := []) rfl (Nat.le_of_ble_eq_true rfl) ?_
  refine j_iconst C d_qn_choose_7 rfl kc_i_1 ?_
  refine j_icmp_eq C d_qn_choose_8 (tgt := 20) (by decide) rfl (fun c_1 => ?_) (fun c_1 => ?_)
  · refine J.pos shU c_1 ?_
    refine j_aload_n C d_qn_choose_20 rfl 0 rfl ?_
    refine j_aload_n C d_qn_choose_21 rfl 0 rfl ?_
    refine qn_r_heap C k_229 d_qn_choose_22 rfl ?_
    refine j_lload_n C d_qn_choose_25 rfl 1 rfl ?_
    refine j_aload_n C d_qn_choose_26 rfl 0 rfl ?_
    refine qn_r_current C k_235 d_qn_choose_27 rfl rfl ?_
    refine cs_qn C (mc_qw_contentOf (gl Γ) (gK Γ) (qn_g_current σ)) qw_contentOf_I k_701 (by decide) d_qn_choose_30 rfl (rest := [.long a1, .ref (kq (gK Γ) 15), .ref (kq (gK Γ) 2)]) rfl (Nat.le_of_ble_eq_true rfl) ?_
    refine j_lconst C d_qn_choose_33 rfl kc_l_1 ?_
    refine j_lcmp_ne C d_qn_choose_34 d_qn_choose_35 (tgt := 42) (by decide) rfl (fun c_2 => ?_) (fun c_2 => ?_)
    · refine J.neg shU c_2 ?_
      refine j_iconst C d_qn_choose_42 rfl kc_i_1 ?_
      refine J.goU (fun r3 h_4 => ?_)
      refine cvr_qn_qh C (mc_qh_elementOf (gl Γ) (gK Γ) N (qn_gH σ) a1 (1 : Int32) r3 h_4) qh_elementOf_I k_635 (by decide) d_qn_choose_43 rfl (rest := [.ref (kq (gK Γ) 2)]) rfl ⟨rfl, Nat.le_of_ble_eq_true rfl⟩ ?_
      refine cv0_qn_qn C (mc_qn_evaluateInTail (gl Γ) (gK Γ) σ r3) qn_evaluateInTail_I k_484 (by decide) d_qn_choose_46 rfl (rest := []) rfl ⟨rfl, Nat.le_of_ble_eq_true rfl⟩ ?_
      exact j_vret C d_qn_choose_49
    · refine J.pos shU c_2 ?_
      refine j_iconst C d_qn_choose_38 rfl kc_i_0 ?_
      refine j_goto C d_qn_choose_39 (tgt := 43) (by decide) ?_
      refine J.goU (fun r5 h_6 => ?_)
      refine cvr_qn_qh C (mc_qh_elementOf (gl Γ) (gK Γ) N (qn_gH σ) a1 (0 : Int32) r5 h_6) qh_elementOf_I k_635 (by decide) d_qn_choose_43 rfl (rest := [.ref (kq (gK Γ) 2)]) rfl ⟨rfl, Nat.le_of_ble_eq_true rfl⟩ ?_
      refine cv0_qn_qn C (mc_qn_evaluateInTail (gl Γ) (gK Γ) σ r5) qn_evaluateInTail_I k_484 (by decide) d_qn_choose_46 rfl (rest := []) rfl ⟨rfl, Nat.le_of_ble_eq_true rfl⟩ ?_
      exact j_vret C d_qn_choose_49
  · refine J.neg shU c_1 ?_
    refine j_aload_n C d_qn_choose_11 rfl 0 rfl ?_
    refine j_bipush C d_qn_choose_12 rfl kc_b_m8 ?_
    refine cv0_qn_qn C (mc_qn_fail (gl Γ) (gK Γ) σ (-8 : Int32)) qn_fail_I k_493 (by decide) d_qn_choose_14 rfl (rest := []) rfl ⟨rfl, Nat.le_of_ble_eq_true rfl⟩ ?_
    refine j_goto C d_qn_choose_17 (tgt := 49) (by decide) ?_
    exact j_vret C d_qn_choose_49
theorem mc_qn_choose (l : Launch) (K : kk_T) (N : Nat) (σ : qn_S) (a1 : Int64) (r : qn_S) (h : qn_choose N σ a1 = some r) : MC l qn_choose_y qn_choose_c 3 none (2, 47) K (qn_w K) qcl σ [.ref (kq K 2), .long a1] none r := mc_of (ov := ovV) (X := shU (qn_choose N σ a1)) (by decide +kernel) (Nat.le_of_ble_eq_true rfl) (fun _ => rfl) (by rw [h]; rfl) (fun Γ e1 e2 C => by subst e1; subst e2; exact w_qn_choose C N σ a1)
theorem qn_choose_I : ck_V qn_choose_y qn_choose_c 3 none 1 := ⟨k_771, k_99, by decide +kernel, k_770, k_53⟩
theorem w_qn_bindCurrent {Γ : cx_T} (C : cx_C Γ (qn_w (gK Γ)) qcl qn_R qn_bindCurrent_c 4 none (4, 93)) (N : Nat) (σ : qn_S) (a1 : Int32) (a2 : Int64) : J Γ (qn_w (gK Γ)) qcl (QF Γ (qn_w (gK Γ)) qcl ovV) (shU (qn_bindCurrent N σ a1 a2)) σ 0 [(0, .ref (kq (gK Γ) 2)), (1, .int a1), (2, .long a2)] [] := by
  unfold qn_bindCurrent
  refine j_aload_n C d_qn_bindCurrent_0 rfl 0 rfl ?_
  refine qn_r_heap C k_229 d_qn_bindCurrent_1 rfl ?_
  refine j_iload_n C d_qn_bindCurrent_4 rfl 1 rfl ?_
  refine j_aload_n C d_qn_bindCurrent_5 rfl 0 rfl ?_
  refine qn_r_heap C k_229 d_qn_bindCurrent_6 rfl ?_
  refine j_lload_n C d_qn_bindCurrent_9 rfl 2 rfl ?_
  refine cvr_qn_qh C (mc_qh_carOf (gl Γ) (gK Γ) (qn_gH σ) a2) qh_carOf_I k_498 (by decide) d_qn_bindCurrent_10 rfl (rest := [.int a1, .ref (kq (gK Γ) 15)]) rfl ⟨rfl, Nat.le_of_ble_eq_true rfl⟩ ?_
  refine cs_qn C (mc_qw_rowOf (gl Γ) (gK Γ) (qh_carOf (qn_gH σ) a2)) qw_rowOf_I k_508 (by decide) d_qn_bindCurrent_13 rfl (rest := [.int a1, .ref (kq (gK Γ) 15)]) rfl (Nat.le_of_ble_eq_true rfl) ?_
  refine j_aload_n C d_qn_bindCurrent_16 rfl 0 rfl ?_
  refine qn_r_current C k_235 d_qn_bindCurrent_17 rfl rfl ?_
  refine J.goU (fun r1 h_2 => ?_)
  refine cv_qn_qh C (mc_qh_bind (gl Γ) (gK Γ) N (qn_gH σ) a1 (qw_rowOf (qh_carOf (qn_gH σ) a2)) (qn_g_current σ) r1 h_2) qh_bind_I k_776 (by decide) d_qn_bindCurrent_20 rfl (rest := []) rfl ⟨rfl, Nat.le_of_ble_eq_true rfl⟩ ?_
  refine j_if_eq C d_qn_bindCurrent_23 (tgt := 36) (by decide) rfl (fun c_3 => ?_) (fun c_3 => ?_)
  · refine J.pos shU c_3 ?_
    refine j_aload_n C d_qn_bindCurrent_36 rfl 0 rfl ?_
    refine j_bipush C d_qn_bindCurrent_37 rfl kc_b_m5 ?_
    refine cv0_qn_qn C (mc_qn_fail (gl Γ) (gK Γ) (qn_sH σ r1.2) (-5 : Int32)) qn_fail_I k_493 (by decide) d_qn_bindCurrent_39 rfl (rest := []) rfl ⟨rfl, Nat.le_of_ble_eq_true rfl⟩ ?_
    exact j_vret C d_qn_bindCurrent_42
  · refine J.neg shU c_3 ?_
    refine j_aload_n C d_qn_bindCurrent_26 rfl 0 rfl ?_
    refine j_ldc2 C d_qn_bindCurrent_27 rfl k_651 ?_
    refine cv0_qn_qn C (mc_qn_giveBack (gl Γ) (gK Γ) (qn_sH σ r1.2) (8 : Int64)) qn_giveBack_I k_515 (by decide) d_qn_bindCurrent_30 rfl (rest := []) rfl ⟨rfl, Nat.le_of_ble_eq_true rfl⟩ ?_
    refine j_goto C d_qn_bindCurrent_33 (tgt := 42) (by decide) ?_
    exact j_vret C d_qn_bindCurrent_42
theorem mc_qn_bindCurrent (l : Launch) (K : kk_T) (N : Nat) (σ : qn_S) (a1 : Int32) (a2 : Int64) (r : qn_S) (h : qn_bindCurrent N σ a1 a2 = some r) : MC l qn_bindCurrent_y qn_bindCurrent_c 4 none (4, 93) K (qn_w K) qcl σ [.ref (kq K 2), .int a1, .long a2] none r := mc_of (ov := ovV) (X := shU (qn_bindCurrent N σ a1 a2)) (by decide +kernel) (Nat.le_of_ble_eq_true rfl) (fun _ => rfl) (by rw [h]; rfl) (fun Γ e1 e2 C => by subst e1; subst e2; exact w_qn_bindCurrent C N σ a1 a2)
theorem qn_bindCurrent_I : ck_V qn_bindCurrent_y qn_bindCurrent_c 4 none 2 := ⟨k_775, k_99, by decide +kernel, k_774, k_54⟩
theorem w_qn_takePlace {Γ : cx_T} (C : cx_C Γ (qn_w (gK Γ)) qcl qn_R qn_takePlace_c 3 none (2, 55)) (N : Nat) (σ : qn_S) (a1 : Int64) : J Γ (qn_w (gK Γ)) qcl (QF Γ (qn_w (gK Γ)) qcl ovV) (shU (qn_takePlace N σ a1)) σ 0 [(0, .ref (kq (gK Γ) 2)), (1, .long a1)] [] := by
  unfold qn_takePlace
  refine j_aload_n C d_qn_takePlace_0 rfl 0 rfl ?_
  refine qn_r_current C k_235 d_qn_takePlace_1 rfl rfl ?_
  refine cs_qn C (mc_qw_kindOf (gl Γ) (gK Γ) (qn_g_current σ)) qw_kindOf_I k_497 (by decide) d_qn_takePlace_4 rfl (rest := []) rfl (Nat.le_of_ble_eq_true rfl) ?_
  refine j_bipush C d_qn_takePlace_7 rfl kc_b_7 ?_
  refine j_icmp_eq C d_qn_takePlace_9 (tgt := 21) (by decide) rfl (fun c_1 => ?_) (fun c_1 => ?_)
  · refine J.pos shU c_1 ?_
    refine j_aload_n C d_qn_takePlace_21 rfl 0 rfl ?_
    refine j_aload_n C d_qn_takePlace_22 rfl 0 rfl ?_
    refine qn_r_heap C k_229 d_qn_takePlace_23 rfl ?_
    refine j_lload_n C d_qn_takePlace_26 rfl 1 rfl ?_
    refine j_iconst C d_qn_takePlace_27 rfl kc_i_1 ?_
    refine J.goU (fun r2 h_3 => ?_)
    refine cvr_qn_qh C (mc_qh_elementOf (gl Γ) (gK Γ) N (qn_gH σ) a1 (1 : Int32) r2 h_3) qh_elementOf_I k_635 (by decide) d_qn_takePlace_28 rfl (rest := [.ref (kq (gK Γ) 2)]) rfl ⟨rfl, Nat.le_of_ble_eq_true rfl⟩ ?_
    refine j_iconst C d_qn_takePlace_31 rfl kc_i_5 ?_
    refine j_lload_n C d_qn_takePlace_32 rfl 1 rfl ?_
    refine j_aload_n C d_qn_takePlace_33 rfl 0 rfl ?_
    refine qn_r_current C k_235 d_qn_takePlace_34 rfl rfl ?_
    refine j_iconst C d_qn_takePlace_37 rfl kc_i_0 ?_
    refine cv0_qn_qn C (mc_qn_evaluateWithFrame (gl Γ) (gK Γ) σ r2 (5 : Int32) a1 (qn_g_current σ) (0 : Int32)) qn_evaluateWithFrame_I k_500 (by decide) d_qn_takePlace_38 rfl (rest := []) rfl ⟨rfl, Nat.le_of_ble_eq_true rfl⟩ ?_
    exact j_vret C d_qn_takePlace_41
  · refine J.neg shU c_1 ?_
    refine j_aload_n C d_qn_takePlace_12 rfl 0 rfl ?_
    refine j_bipush C d_qn_takePlace_13 rfl kc_b_m8 ?_
    refine cv0_qn_qn C (mc_qn_fail (gl Γ) (gK Γ) σ (-8 : Int32)) qn_fail_I k_493 (by decide) d_qn_takePlace_15 rfl (rest := []) rfl ⟨rfl, Nat.le_of_ble_eq_true rfl⟩ ?_
    refine j_goto C d_qn_takePlace_18 (tgt := 41) (by decide) ?_
    exact j_vret C d_qn_takePlace_41
theorem mc_qn_takePlace (l : Launch) (K : kk_T) (N : Nat) (σ : qn_S) (a1 : Int64) (r : qn_S) (h : qn_takePlace N σ a1 = some r) : MC l qn_takePlace_y qn_takePlace_c 3 none (2, 55) K (qn_w K) qcl σ [.ref (kq K 2), .long a1] none r := mc_of (ov := ovV) (X := shU (qn_takePlace N σ a1)) (by decide +kernel) (Nat.le_of_ble_eq_true rfl) (fun _ => rfl) (by rw [h]; rfl) (fun Γ e1 e2 C => by subst e1; subst e2; exact w_qn_takePlace C N σ a1)
theorem qn_takePlace_I : ck_V qn_takePlace_y qn_takePlace_c 3 none 1 := ⟨k_784, k_99, by decide +kernel, k_783, k_55⟩
theorem w_qn_returnCurrent {Γ : cx_T} (C : cx_C Γ (qn_w (gK Γ)) qcl qn_R qn_returnCurrent_c 3 none (5, 126)) (N : Nat) (σ : qn_S)  : J Γ (qn_w (gK Γ)) qcl (QF Γ (qn_w (gK Γ)) qcl ovV) (shU (qn_returnCurrent N σ)) σ 0 [(0, .ref (kq (gK Γ) 2))] [] := by
  unfold qn_returnCurrent
  refine j_aload_n C d_qn_returnCurrent_0 rfl 0 rfl ?_
  refine qn_r_frames C k_231 d_qn_returnCurrent_1 rfl ?_
  refine cvr_qn_qf C (mc_qf_isEmpty (gl Γ) (gK Γ) (qn_gF σ)) qf_isEmpty_I k_731 (by decide) d_qn_returnCurrent_4 rfl (rest := []) rfl ⟨rfl, Nat.le_of_ble_eq_true rfl⟩ ?_
  refine j_if_eq C d_qn_returnCurrent_7 (tgt := 16) (by decide) rfl (fun c_1 => ?_) (fun c_1 => ?_)
  · refine J.pos shU c_1 ?_
    refine j_aload_n C d_qn_returnCurrent_16 rfl 0 rfl ?_
    refine qn_r_frames C k_231 d_qn_returnCurrent_17 rfl ?_
    refine cv0_qn_qf C (mc_qf_take (gl Γ) (gK Γ) (qn_gF σ)) qf_take_I k_735 (by decide) d_qn_returnCurrent_20 rfl (rest := []) rfl ⟨rfl, Nat.le_of_ble_eq_true rfl⟩ ?_
    refine j_aload_n C d_qn_returnCurrent_23 rfl 0 rfl ?_
    refine j_aload_n C d_qn_returnCurrent_24 rfl 0 rfl ?_
    refine qn_r_frames C k_231 d_qn_returnCurrent_25 rfl ?_
    refine cvr_qn_qf C (mc_qf_environment (gl Γ) (gK Γ) (qf_take (qn_gF σ))) qf_environment_I k_739 (by decide) d_qn_returnCurrent_28 rfl (rest := [.ref (kq (gK Γ) 2)]) rfl ⟨rfl, Nat.le_of_ble_eq_true rfl⟩ ?_
    refine qn_p_environment C k_237 d_qn_returnCurrent_31 rfl ?_
    refine j_aload_n C d_qn_returnCurrent_34 rfl 0 rfl ?_
    refine qn_r_frames C k_231 d_qn_returnCurrent_35 rfl ?_
    refine cvr_qn_qf C (mc_qf_rest (gl Γ) (gK Γ) (qf_take (qn_gF σ))) qf_rest_I k_747 (by decide) d_qn_returnCurrent_38 rfl (rest := []) rfl ⟨rfl, Nat.le_of_ble_eq_true rfl⟩ ?_
    refine j_lstore_n C (lv' := [(1, .long (qf_rest (qf_take (qn_gF σ)))), (0, .ref (kq (gK Γ) 2))]) d_qn_returnCurrent_41 rfl rfl (by decide) rfl ?_
    refine j_aload_n C d_qn_returnCurrent_42 rfl 1 rfl ?_
    refine qn_r_frames C k_231 d_qn_returnCurrent_43 rfl ?_
    refine cvr_qn_qf C (mc_qf_task (gl Γ) (gK Γ) (qf_take (qn_gF σ))) qf_task_I k_752 (by decide) d_qn_returnCurrent_46 rfl (rest := []) rfl ⟨rfl, Nat.le_of_ble_eq_true rfl⟩ ?_
    refine J.cas shU (fun c_2 => ?_) (fun c_2 => ?_)
    · refine j_tblIn C d_qn_returnCurrent_49 (0 : Int32) c_2 (by decide) (by decide) rfl (tgt := 92) (by decide) ?_
      refine j_aload_n C d_qn_returnCurrent_92 rfl 1 rfl ?_
      refine j_aload_n C d_qn_returnCurrent_93 rfl 1 rfl ?_
      refine qn_r_current C k_235 d_qn_returnCurrent_94 rfl (x := (qn_g_current σ)) ((gs_qn_current_s_environment _ _).trans (gs_qn_current_u_F _ _)) ?_
      refine j_lload_n C d_qn_returnCurrent_97 rfl 0 rfl ?_
      refine cv0_qn_qn C (mc_qn_combine (gl Γ) (gK Γ) (qn_s_environment (qn_sF σ (qf_take (qn_gF σ))) (qf_environment (qf_take (qn_gF σ)))) (qn_g_current σ) (qf_rest (qf_take (qn_gF σ)))) qn_combine_I k_543 (by decide) d_qn_returnCurrent_98 rfl (rest := []) rfl ⟨rfl, Nat.le_of_ble_eq_true rfl⟩ ?_
      refine j_goto C d_qn_returnCurrent_101 (tgt := 177) (by decide) ?_
      exact j_vret C d_qn_returnCurrent_177
    · skip
      refine J.cas shU (fun c_3 => ?_) (fun c_3 => ?_)
      · refine j_tblIn C d_qn_returnCurrent_49 (1 : Int32) c_3 (by decide) (by decide) rfl (tgt := 104) (by decide) ?_
        refine j_aload_n C d_qn_returnCurrent_104 rfl 1 rfl ?_
        refine j_lload_n C d_qn_returnCurrent_105 rfl 0 rfl ?_
        refine j_aload_n C d_qn_returnCurrent_106 rfl 1 rfl ?_
        refine qn_r_frames C k_231 d_qn_returnCurrent_107 rfl ?_
        refine cvr_qn_qf C (mc_qf_held (gl Γ) (gK Γ) (qf_take (qn_gF σ))) qf_held_I k_756 (by decide) d_qn_returnCurrent_110 rfl (rest := [.long (qf_rest (qf_take (qn_gF σ))), .ref (kq (gK Γ) 2)]) rfl ⟨rfl, Nat.le_of_ble_eq_true rfl⟩ ?_
        refine j_aload_n C d_qn_returnCurrent_113 rfl 1 rfl ?_
        refine qn_r_frames C k_231 d_qn_returnCurrent_114 rfl ?_
        refine cvr_qn_qf C (mc_qf_gathered (gl Γ) (gK Γ) (qf_take (qn_gF σ))) qf_gathered_I k_760 (by decide) d_qn_returnCurrent_117 rfl (rest := [.long (qf_held (qf_take (qn_gF σ))), .long (qf_rest (qf_take (qn_gF σ))), .ref (kq (gK Γ) 2)]) rfl ⟨rfl, Nat.le_of_ble_eq_true rfl⟩ ?_
        refine J.goU (fun r4 h_5 => ?_)
        refine cv0_qn_qn C (mc_qn_takeArgument (gl Γ) (gK Γ) N (qn_s_environment (qn_sF σ (qf_take (qn_gF σ))) (qf_environment (qf_take (qn_gF σ)))) (qf_rest (qf_take (qn_gF σ))) (qf_held (qf_take (qn_gF σ))) (qf_gathered (qf_take (qn_gF σ))) r4 h_5) qn_takeArgument_I k_764 (by decide) d_qn_returnCurrent_120 rfl (rest := []) rfl ⟨rfl, Nat.le_of_ble_eq_true rfl⟩ ?_
        refine j_goto C d_qn_returnCurrent_123 (tgt := 177) (by decide) ?_
        exact j_vret C d_qn_returnCurrent_177
      · skip
        refine J.cas shU (fun c_6 => ?_) (fun c_6 => ?_)
        · refine j_tblIn C d_qn_returnCurrent_49 (2 : Int32) c_6 (by decide) (by decide) rfl (tgt := 126) (by decide) ?_
          refine j_aload_n C d_qn_returnCurrent_126 rfl 1 rfl ?_
          refine j_lload_n C d_qn_returnCurrent_127 rfl 0 rfl ?_
          refine J.goU (fun r7 h_8 => ?_)
          refine cv0_qn_qn C (mc_qn_choose (gl Γ) (gK Γ) N (qn_s_environment (qn_sF σ (qf_take (qn_gF σ))) (qf_environment (qf_take (qn_gF σ)))) (qf_rest (qf_take (qn_gF σ))) r7 h_8) qn_choose_I k_768 (by decide) d_qn_returnCurrent_128 rfl (rest := []) rfl ⟨rfl, Nat.le_of_ble_eq_true rfl⟩ ?_
          refine j_goto C d_qn_returnCurrent_131 (tgt := 177) (by decide) ?_
          exact j_vret C d_qn_returnCurrent_177
        · skip
          refine J.cas shU (fun c_9 => ?_) (fun c_9 => ?_)
          · refine j_tblIn C d_qn_returnCurrent_49 (3 : Int32) c_9 (by decide) (by decide) rfl (tgt := 134) (by decide) ?_
            refine j_aload_n C d_qn_returnCurrent_134 rfl 1 rfl ?_
            refine j_aload_n C d_qn_returnCurrent_135 rfl 1 rfl ?_
            refine qn_r_environment C k_237 d_qn_returnCurrent_136 rfl (x := (qf_environment (qf_take (qn_gF σ)))) (gv_qn_environment _ _) ?_
            refine j_lload_n C d_qn_returnCurrent_139 rfl 0 rfl ?_
            refine J.goU (fun r10 h_11 => ?_)
            refine cv0_qn_qn C (mc_qn_bindCurrent (gl Γ) (gK Γ) N (qn_s_environment (qn_sF σ (qf_take (qn_gF σ))) (qf_environment (qf_take (qn_gF σ)))) (qf_environment (qf_take (qn_gF σ))) (qf_rest (qf_take (qn_gF σ))) r10 h_11) qn_bindCurrent_I k_772 (by decide) d_qn_returnCurrent_140 rfl (rest := []) rfl ⟨rfl, Nat.le_of_ble_eq_true rfl⟩ ?_
            refine j_goto C d_qn_returnCurrent_143 (tgt := 177) (by decide) ?_
            exact j_vret C d_qn_returnCurrent_177
          · skip
            refine J.cas shU (fun c_12 => ?_) (fun c_12 => ?_)
            · refine j_tblIn C d_qn_returnCurrent_49 (4 : Int32) c_12 (by decide) (by decide) rfl (tgt := 146) (by decide) ?_
              refine j_aload_n C d_qn_returnCurrent_146 rfl 1 rfl ?_
              refine j_lload_n C d_qn_returnCurrent_147 rfl 0 rfl ?_
              refine J.goU (fun r13 h_14 => ?_)
              refine cv0_qn_qn C (mc_qn_takePlace (gl Γ) (gK Γ) N (qn_s_environment (qn_sF σ (qf_take (qn_gF σ))) (qf_environment (qf_take (qn_gF σ)))) (qf_rest (qf_take (qn_gF σ))) r13 h_14) qn_takePlace_I k_781 (by decide) d_qn_returnCurrent_148 rfl (rest := []) rfl ⟨rfl, Nat.le_of_ble_eq_true rfl⟩ ?_
              refine j_goto C d_qn_returnCurrent_151 (tgt := 177) (by decide) ?_
              exact j_vret C d_qn_returnCurrent_177
            · skip
              refine J.cas shU (fun c_15 => ?_) (fun c_15 => ?_)
              · refine j_tblIn C d_qn_returnCurrent_49 (5 : Int32) c_15 (by decide) (by decide) rfl (tgt := 154) (by decide) ?_
                refine j_aload_n C d_qn_returnCurrent_154 rfl 1 rfl ?_
                refine j_aload_n C d_qn_returnCurrent_155 rfl 1 rfl ?_
                refine qn_r_frames C k_231 d_qn_returnCurrent_156 rfl ?_
                refine cvr_qn_qf C (mc_qf_held (gl Γ) (gK Γ) (qf_take (qn_gF σ))) qf_held_I k_756 (by decide) d_qn_returnCurrent_159 rfl (rest := [.ref (kq (gK Γ) 2)]) rfl ⟨rfl, Nat.le_of_ble_eq_true rfl⟩ ?_
                refine cs_qn C (mc_qw_rowOf (gl Γ) (gK Γ) (qf_held (qf_take (qn_gF σ)))) qw_rowOf_I k_508 (by decide) d_qn_returnCurrent_162 rfl (rest := [.ref (kq (gK Γ) 2)]) rfl (Nat.le_of_ble_eq_true rfl) ?_
                refine j_lload_n C d_qn_returnCurrent_165 rfl 0 rfl ?_
                refine J.goU (fun r16 h_17 => ?_)
                refine cv0_qn_qn C (mc_qn_bindCurrent (gl Γ) (gK Γ) N (qn_s_environment (qn_sF σ (qf_take (qn_gF σ))) (qf_environment (qf_take (qn_gF σ)))) (qw_rowOf (qf_held (qf_take (qn_gF σ)))) (qf_rest (qf_take (qn_gF σ))) r16 h_17) qn_bindCurrent_I k_772 (by decide) d_qn_returnCurrent_166 rfl (rest := []) rfl ⟨rfl, Nat.le_of_ble_eq_true rfl⟩ ?_
                refine j_goto C d_qn_returnCurrent_169 (tgt := 177) (by decide) ?_
                exact j_vret C d_qn_returnCurrent_177
              · skip
                refine J.cas shU (fun c_18 => ?_) (fun c_18 => ?_)
                · refine j_tblIn C d_qn_returnCurrent_49 (6 : Int32) c_18 (by decide) (by decide) rfl (tgt := 172) (by decide) ?_
                  refine j_aload_n C d_qn_returnCurrent_172 rfl 1 rfl ?_
                  refine j_lload_n C d_qn_returnCurrent_173 rfl 0 rfl ?_
                  refine cv0_qn_qn C (mc_qn_evaluateSequence (gl Γ) (gK Γ) (qn_s_environment (qn_sF σ (qf_take (qn_gF σ))) (qf_environment (qf_take (qn_gF σ)))) (qf_rest (qf_take (qn_gF σ)))) qn_evaluateSequence_I k_689 (by decide) d_qn_returnCurrent_174 rfl (rest := []) rfl ⟨rfl, Nat.le_of_ble_eq_true rfl⟩ ?_
                  exact j_vret C d_qn_returnCurrent_177
                · skip
                  refine j_tblOut C d_qn_returnCurrent_49 (tgt := 172) (by decide) (by have h0 := lv_neT c_2 (a := 0) rfl; have h1 := lv_neT c_3 (a := 1) rfl; have h2 := lv_neT c_6 (a := 2) rfl; have h3 := lv_neT c_9 (a := 3) rfl; have h4 := lv_neT c_12 (a := 4) rfl; have h5 := lv_neT c_15 (a := 5) rfl; have h6 := lv_neT c_18 (a := 6) rfl; omega) ?_
                  refine j_aload_n C d_qn_returnCurrent_172 rfl 1 rfl ?_
                  refine j_lload_n C d_qn_returnCurrent_173 rfl 0 rfl ?_
                  refine cv0_qn_qn C (mc_qn_evaluateSequence (gl Γ) (gK Γ) (qn_s_environment (qn_sF σ (qf_take (qn_gF σ))) (qf_environment (qf_take (qn_gF σ)))) (qf_rest (qf_take (qn_gF σ)))) qn_evaluateSequence_I k_689 (by decide) d_qn_returnCurrent_174 rfl (rest := []) rfl ⟨rfl, Nat.le_of_ble_eq_true rfl⟩ ?_
                  exact j_vret C d_qn_returnCurrent_177
  · refine J.neg shU c_1 ?_
    refine j_aload_n C d_qn_returnCurrent_10 rfl 0 rfl ?_
    refine j_iconst C d_qn_returnCurrent_11 rfl kc_i_4 ?_
    refine qn_p_mode C k_234 d_qn_returnCurrent_12 rfl ?_
    exact j_vret C d_qn_returnCurrent_15
theorem mc_qn_returnCurrent (l : Launch) (K : kk_T) (N : Nat) (σ : qn_S)  (r : qn_S) (h : qn_returnCurrent N σ = some r) : MC l qn_returnCurrent_y qn_returnCurrent_c 3 none (5, 126) K (qn_w K) qcl σ [.ref (kq K 2)] none r := mc_of (ov := ovV) (X := shU (qn_returnCurrent N σ)) (by decide +kernel) (Nat.le_of_ble_eq_true rfl) (fun _ => rfl) (by rw [h]; rfl) (fun Γ e1 e2 C => by subst e1; subst e2; exact w_qn_returnCurrent C N σ)
theorem qn_returnCurrent_I : ck_V qn_returnCurrent_y qn_returnCurrent_c 3 none 0 := ⟨k_730, k_99, by decide +kernel, k_729, k_50⟩
theorem w_qn_run_L23 {Γ : cx_T} (C : cx_C Γ (qn_w (gK Γ)) qcl qn_R qn_run_c 6 (some .int) (6, 148)) (N : Nat) : ∀ (k : Nat) (σ : qn_S) (x5 : Int32), J Γ (qn_w (gK Γ)) qcl (QF Γ (qn_w (gK Γ)) qcl ovI) (shO (qn_run_L23 N k σ x5)) σ 23 [(0, .ref (kq (gK Γ) 2)), (5, .int x5)] [] := by
  intro k
  induction k with
  | zero => intro σ x5; exact J.none rfl
  | succ k ih =>
    intro σ x5
    rw [qn_run_L23]
    refine j_iload C d_qn_run_23 rfl 1 rfl ?_
    refine j_ldc C d_qn_run_25 rfl k_488 ?_
    refine j_icmp_ge C d_qn_run_27 (tgt := 110) (by decide) rfl (fun c_1 => ?_) (fun c_1 => ?_)
    · refine J.pos shO c_1 ?_
      refine j_aload_n C d_qn_run_110 rfl 0 rfl ?_
      refine qn_r_failure C k_240 d_qn_run_111 rfl rfl ?_
      refine j_if_eq C d_qn_run_114 (tgt := 124) (by decide) rfl (fun c_2 => ?_) (fun c_2 => ?_)
      · refine J.pos shO c_2 ?_
        refine j_aload_n C d_qn_run_124 rfl 0 rfl ?_
        refine qn_r_steps C k_238 d_qn_run_125 rfl rfl ?_
        exact j_iret C d_qn_run_128
      · refine J.neg shO c_2 ?_
        refine j_aload_n C d_qn_run_117 rfl 0 rfl ?_
        refine qn_r_failure C k_240 d_qn_run_118 rfl rfl ?_
        refine j_goto C d_qn_run_121 (tgt := 128) (by decide) ?_
        exact j_iret C d_qn_run_128
    · refine J.neg shO c_1 ?_
      refine j_aload_n C d_qn_run_30 rfl 0 rfl ?_
      refine qn_r_mode C k_234 d_qn_run_31 rfl rfl ?_
      refine j_iconst C d_qn_run_34 rfl kc_i_4 ?_
      refine j_icmp_eq C d_qn_run_35 (tgt := 110) (by decide) rfl (fun c_3 => ?_) (fun c_3 => ?_)
      · refine J.pos shO c_3 ?_
        refine j_aload_n C d_qn_run_110 rfl 0 rfl ?_
        refine qn_r_failure C k_240 d_qn_run_111 rfl rfl ?_
        refine j_if_eq C d_qn_run_114 (tgt := 124) (by decide) rfl (fun c_4 => ?_) (fun c_4 => ?_)
        · refine J.pos shO c_4 ?_
          refine j_aload_n C d_qn_run_124 rfl 0 rfl ?_
          refine qn_r_steps C k_238 d_qn_run_125 rfl rfl ?_
          exact j_iret C d_qn_run_128
        · refine J.neg shO c_4 ?_
          refine j_aload_n C d_qn_run_117 rfl 0 rfl ?_
          refine qn_r_failure C k_240 d_qn_run_118 rfl rfl ?_
          refine j_goto C d_qn_run_121 (tgt := 128) (by decide) ?_
          exact j_iret C d_qn_run_128
      · refine J.neg shO c_3 ?_
        refine j_aload_n C d_qn_run_38 rfl 0 rfl ?_
        refine qn_r_mode C k_234 d_qn_run_39 rfl rfl ?_
        refine J.cas shO (fun c_5 => ?_) (fun c_5 => ?_)
        · refine j_tblIn C d_qn_run_42 (0 : Int32) c_5 (by decide) (by decide) rfl (tgt := 72) (by decide) ?_
          refine j_aload_n C d_qn_run_72 rfl 0 rfl ?_
          refine J.goO (fun r6 h_7 => ?_)
          refine cv0_qn_qn C (mc_qn_evaluateCurrent (gl Γ) (gK Γ) N σ r6 h_7) qn_evaluateCurrent_I k_489 (by decide) d_qn_run_73 rfl (rest := []) rfl ⟨rfl, Nat.le_of_ble_eq_true rfl⟩ ?_
          refine j_goto C d_qn_run_76 (tgt := 104) (by decide) ?_
          refine j_iinc C (v := (x5 + (1 : Int32))) (lv' := [(5, .int (x5 + (1 : Int32))), (0, .ref (kq (gK Γ) 2))]) d_qn_run_104 rfl 1 rfl (kc_inc_1 _) (by decide) rfl ?_
          refine j_goto C d_qn_run_107 (tgt := 23) (by decide) ?_
          refine J.loc (lv' := [(0, .ref (kq (gK Γ) 2)), (5, .int (x5 + (1 : Int32)))]) [1, 0] rfl ?_
          exact ih r6 (x5 + (1 : Int32))
        · skip
          refine J.cas shO (fun c_8 => ?_) (fun c_8 => ?_)
          · refine j_tblIn C d_qn_run_42 (1 : Int32) c_8 (by decide) (by decide) rfl (tgt := 79) (by decide) ?_
            refine j_aload_n C d_qn_run_79 rfl 0 rfl ?_
            refine J.goO (fun r9 h_10 => ?_)
            refine cv0_qn_qn C (mc_qn_combineCurrent (gl Γ) (gK Γ) N σ r9 h_10) qn_combineCurrent_I k_519 (by decide) d_qn_run_80 rfl (rest := []) rfl ⟨rfl, Nat.le_of_ble_eq_true rfl⟩ ?_
            refine j_goto C d_qn_run_83 (tgt := 104) (by decide) ?_
            refine j_iinc C (v := (x5 + (1 : Int32))) (lv' := [(5, .int (x5 + (1 : Int32))), (0, .ref (kq (gK Γ) 2))]) d_qn_run_104 rfl 1 rfl (kc_inc_1 _) (by decide) rfl ?_
            refine j_goto C d_qn_run_107 (tgt := 23) (by decide) ?_
            refine J.loc (lv' := [(0, .ref (kq (gK Γ) 2)), (5, .int (x5 + (1 : Int32)))]) [1, 0] rfl ?_
            exact ih r9 (x5 + (1 : Int32))
          · skip
            refine J.cas shO (fun c_11 => ?_) (fun c_11 => ?_)
            · refine j_tblIn C d_qn_run_42 (2 : Int32) c_11 (by decide) (by decide) rfl (tgt := 86) (by decide) ?_
              refine j_aload_n C d_qn_run_86 rfl 0 rfl ?_
              refine j_aload_n C d_qn_run_87 rfl 0 rfl ?_
              refine qn_r_current C k_235 d_qn_run_88 rfl rfl ?_
              refine cs_qn C (mc_qw_rowOf (gl Γ) (gK Γ) (qn_g_current σ)) qw_rowOf_I k_508 (by decide) d_qn_run_91 rfl (rest := [.ref (kq (gK Γ) 2)]) rfl (Nat.le_of_ble_eq_true rfl) ?_
              refine J.goO (fun r12 h_13 => ?_)
              refine cv0_qn_qn C (mc_qn_callPrimitive (gl Γ) (gK Γ) N σ (qw_rowOf (qn_g_current σ)) r12 h_13) qn_callPrimitive_I k_617 (by decide) d_qn_run_94 rfl (rest := []) rfl ⟨rfl, Nat.le_of_ble_eq_true rfl⟩ ?_
              refine j_goto C d_qn_run_97 (tgt := 104) (by decide) ?_
              refine j_iinc C (v := (x5 + (1 : Int32))) (lv' := [(5, .int (x5 + (1 : Int32))), (0, .ref (kq (gK Γ) 2))]) d_qn_run_104 rfl 1 rfl (kc_inc_1 _) (by decide) rfl ?_
              refine j_goto C d_qn_run_107 (tgt := 23) (by decide) ?_
              refine J.loc (lv' := [(0, .ref (kq (gK Γ) 2)), (5, .int (x5 + (1 : Int32)))]) [1, 0] rfl ?_
              exact ih r12 (x5 + (1 : Int32))
            · skip
              refine J.cas shO (fun c_14 => ?_) (fun c_14 => ?_)
              · refine j_tblIn C d_qn_run_42 (3 : Int32) c_14 (by decide) (by decide) rfl (tgt := 100) (by decide) ?_
                refine j_aload_n C d_qn_run_100 rfl 0 rfl ?_
                refine J.goO (fun r15 h_16 => ?_)
                refine cv0_qn_qn C (mc_qn_returnCurrent (gl Γ) (gK Γ) N σ r15 h_16) qn_returnCurrent_I k_727 (by decide) d_qn_run_101 rfl (rest := []) rfl ⟨rfl, Nat.le_of_ble_eq_true rfl⟩ ?_
                refine j_iinc C (v := (x5 + (1 : Int32))) (lv' := [(5, .int (x5 + (1 : Int32))), (0, .ref (kq (gK Γ) 2))]) d_qn_run_104 rfl 1 rfl (kc_inc_1 _) (by decide) rfl ?_
                refine j_goto C d_qn_run_107 (tgt := 23) (by decide) ?_
                refine J.loc (lv' := [(0, .ref (kq (gK Γ) 2)), (5, .int (x5 + (1 : Int32)))]) [1, 0] rfl ?_
                exact ih r15 (x5 + (1 : Int32))
              · skip
                refine j_tblOut C d_qn_run_42 (tgt := 100) (by decide) (by have h0 := lv_neT c_5 (a := 0) rfl; have h1 := lv_neT c_8 (a := 1) rfl; have h2 := lv_neT c_11 (a := 2) rfl; have h3 := lv_neT c_14 (a := 3) rfl; omega) ?_
                refine j_aload_n C d_qn_run_100 rfl 0 rfl ?_
                refine J.goO (fun r17 h_18 => ?_)
                refine cv0_qn_qn C (mc_qn_returnCurrent (gl Γ) (gK Γ) N σ r17 h_18) qn_returnCurrent_I k_727 (by decide) d_qn_run_101 rfl (rest := []) rfl ⟨rfl, Nat.le_of_ble_eq_true rfl⟩ ?_
                refine j_iinc C (v := (x5 + (1 : Int32))) (lv' := [(5, .int (x5 + (1 : Int32))), (0, .ref (kq (gK Γ) 2))]) d_qn_run_104 rfl 1 rfl (kc_inc_1 _) (by decide) rfl ?_
                refine j_goto C d_qn_run_107 (tgt := 23) (by decide) ?_
                refine J.loc (lv' := [(0, .ref (kq (gK Γ) 2)), (5, .int (x5 + (1 : Int32)))]) [1, 0] rfl ?_
                exact ih r17 (x5 + (1 : Int32))
theorem w_qn_run {Γ : cx_T} (C : cx_C Γ (qn_w (gK Γ)) qcl qn_R qn_run_c 6 (some .int) (6, 148)) (N : Nat) (σ : qn_S) (a1 : Int64) (a3 : Int32) (a4 : Int32) : J Γ (qn_w (gK Γ)) qcl (QF Γ (qn_w (gK Γ)) qcl ovI) (shO (qn_run N σ a1 a3 a4)) σ 0 [(0, .ref (kq (gK Γ) 2)), (1, .long a1), (3, .int a3), (4, .int a4)] [] := by
  unfold qn_run
  refine j_aload_n C d_qn_run_0 rfl 0 rfl ?_
  refine cv0_qn_qn C (mc_qn_forget (gl Γ) (gK Γ) σ) qn_forget_I k_220 (by decide) d_qn_run_1 rfl (rest := []) rfl ⟨rfl, Nat.le_of_ble_eq_true rfl⟩ ?_
  refine j_aload_n C d_qn_run_4 rfl 0 rfl ?_
  refine j_iload C d_qn_run_5 rfl 3 rfl ?_
  refine qn_p_limit C k_239 d_qn_run_7 rfl ?_
  refine j_aload_n C d_qn_run_10 rfl 0 rfl ?_
  refine j_iload_n C d_qn_run_11 rfl 2 rfl ?_
  refine qn_p_environment C k_237 d_qn_run_12 rfl ?_
  refine j_aload_n C d_qn_run_15 rfl 0 rfl ?_
  refine j_lload_n C d_qn_run_16 rfl 1 rfl ?_
  refine cv0_qn_qn C (mc_qn_evaluateInTail (gl Γ) (gK Γ) (qn_s_environment (qn_s_limit (qn_forget σ) a4) a3) a1) qn_evaluateInTail_I k_484 (by decide) d_qn_run_17 rfl (rest := []) rfl ⟨rfl, Nat.le_of_ble_eq_true rfl⟩ ?_
  refine j_iconst C d_qn_run_20 rfl kc_i_0 ?_
  refine j_istore C (lv' := [(5, .int (0 : Int32)), (0, .ref (kq (gK Γ) 2)), (1, .long a1), (3, .int a3), (4, .int a4)]) d_qn_run_21 rfl (by decide) rfl ?_
  refine J.loc (lv' := [(0, .ref (kq (gK Γ) 2)), (5, .int (0 : Int32))]) [1, 0] rfl ?_
  exact w_qn_run_L23 C N N (qn_evaluateInTail (qn_s_environment (qn_s_limit (qn_forget σ) a4) a3) a1) (0 : Int32)
theorem mc_qn_run (l : Launch) (K : kk_T) (N : Nat) (σ : qn_S) (a1 : Int64) (a3 : Int32) (a4 : Int32) (r : Int32 × qn_S) (h : qn_run N σ a1 a3 a4 = some r) : MC l qn_run_y qn_run_c 6 (some .int) (6, 148) K (qn_w K) qcl σ [.ref (kq K 2), .long a1, .int a3, .int a4] (some (.int r.1)) r.2 := mc_of (ov := ovI) (X := shO (qn_run N σ a1 a3 a4)) (by decide +kernel) (Nat.le_of_ble_eq_true rfl) (fun _ => rfl) (by rw [h]; rfl) (fun Γ e1 e2 C => by subst e1; subst e2; exact w_qn_run C N σ a1 a3 a4)
theorem qn_run_I : ck_V qn_run_y qn_run_c 6 (some .int) 3 := ⟨k_483, k_99, by decide +kernel, k_481, k_482⟩
theorem w_qn_answer {Γ : cx_T} (C : cx_C Γ (qn_w (gK Γ)) qcl qn_R qn_answer_c 1 (some .long) (0, 0)) (σ : qn_S)  : J Γ (qn_w (gK Γ)) qcl (QF Γ (qn_w (gK Γ)) qcl ovL) ((shP σ) (qn_answer σ)) σ 0 [(0, .ref (kq (gK Γ) 2))] [] := by
  unfold qn_answer
  refine j_aload_n C d_qn_answer_0 rfl 0 rfl ?_
  refine qn_r_current C k_235 d_qn_answer_1 rfl rfl ?_
  exact j_lret C d_qn_answer_4
theorem mc_qn_answer (l : Launch) (K : kk_T) (σ : qn_S)  : MC l qn_answer_y qn_answer_c 1 (some .long) (0, 0) K (qn_w K) qcl σ [.ref (kq K 2)] (some (.long (qn_answer σ))) σ := mc_of (ov := ovL) (X := (shP σ) (qn_answer σ)) (by decide +kernel) (Nat.le_of_ble_eq_true rfl) (fun _ => rfl) rfl (fun Γ e1 e2 C => by subst e1; subst e2; exact w_qn_answer C σ)
theorem qn_answer_I : ck_V qn_answer_y qn_answer_c 1 (some .long) 0 := ⟨k_788, k_99, by decide +kernel, k_786, k_787⟩
theorem w_qn_stepCount {Γ : cx_T} (C : cx_C Γ (qn_w (gK Γ)) qcl qn_R qn_stepCount_c 1 (some .int) (0, 0)) (σ : qn_S)  : J Γ (qn_w (gK Γ)) qcl (QF Γ (qn_w (gK Γ)) qcl ovI) ((shP σ) (qn_stepCount σ)) σ 0 [(0, .ref (kq (gK Γ) 2))] [] := by
  unfold qn_stepCount
  refine j_aload_n C d_qn_stepCount_0 rfl 0 rfl ?_
  refine qn_r_steps C k_238 d_qn_stepCount_1 rfl rfl ?_
  exact j_iret C d_qn_stepCount_4
theorem mc_qn_stepCount (l : Launch) (K : kk_T) (σ : qn_S)  : MC l qn_stepCount_y qn_stepCount_c 1 (some .int) (0, 0) K (qn_w K) qcl σ [.ref (kq K 2)] (some (.int (qn_stepCount σ))) σ := mc_of (ov := ovI) (X := (shP σ) (qn_stepCount σ)) (by decide +kernel) (Nat.le_of_ble_eq_true rfl) (fun _ => rfl) rfl (fun Γ e1 e2 C => by subst e1; subst e2; exact w_qn_stepCount C σ)
theorem qn_stepCount_I : ck_V qn_stepCount_y qn_stepCount_c 1 (some .int) 0 := ⟨k_808, k_99, by decide +kernel, k_806, k_807⟩
theorem w_qn_mostFrames {Γ : cx_T} (C : cx_C Γ (qn_w (gK Γ)) qcl qn_R qn_mostFrames_c 1 (some .int) (1, 20)) (σ : qn_S)  : J Γ (qn_w (gK Γ)) qcl (QF Γ (qn_w (gK Γ)) qcl ovI) ((shP σ) (qn_mostFrames σ)) σ 0 [(0, .ref (kq (gK Γ) 2))] [] := by
  unfold qn_mostFrames
  refine j_aload_n C d_qn_mostFrames_0 rfl 0 rfl ?_
  refine qn_r_frames C k_231 d_qn_mostFrames_1 rfl ?_
  refine cvr_qn_qf C (mc_qf_greatestCount (gl Γ) (gK Γ) (qn_gF σ)) qf_greatestCount_I k_813 (by decide) d_qn_mostFrames_4 rfl (rest := []) rfl ⟨rfl, Nat.le_of_ble_eq_true rfl⟩ ?_
  exact j_iret C d_qn_mostFrames_7
theorem mc_qn_mostFrames (l : Launch) (K : kk_T) (σ : qn_S)  : MC l qn_mostFrames_y qn_mostFrames_c 1 (some .int) (1, 20) K (qn_w K) qcl σ [.ref (kq K 2)] (some (.int (qn_mostFrames σ))) σ := mc_of (ov := ovI) (X := (shP σ) (qn_mostFrames σ)) (by decide +kernel) (Nat.le_of_ble_eq_true rfl) (fun _ => rfl) rfl (fun Γ e1 e2 C => by subst e1; subst e2; exact w_qn_mostFrames C σ)
theorem qn_mostFrames_I : ck_V qn_mostFrames_y qn_mostFrames_c 1 (some .int) 0 := ⟨k_812, k_99, by decide +kernel, k_810, k_811⟩
