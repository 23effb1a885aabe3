theorem gs_qf_count_t_environments (σ : qf_S) (i : Int32) (v : Int32) : qf_g_count (qf_t_environments σ i v) = qf_g_count σ := rfl
theorem gs_qf_count_t_gathereds (σ : qf_S) (i : Int32) (v : Int32) : qf_g_count (qf_t_gathereds σ i v) = qf_g_count σ := rfl
theorem gs_qf_count_t_helds (σ : qf_S) (i : Int32) (v : Int64) : qf_g_count (qf_t_helds σ i v) = qf_g_count σ := rfl
theorem gs_qf_count_t_rests (σ : qf_S) (i : Int32) (v : Int64) : qf_g_count (qf_t_rests σ i v) = qf_g_count σ := rfl
theorem gs_qf_count_t_tasks (σ : qf_S) (i : Int32) (v : Int32) : qf_g_count (qf_t_tasks σ i v) = qf_g_count σ := rfl
theorem gv_qf_count (σ : qf_S) (v : Int32) : qf_g_count (qf_s_count σ v) = v := rfl
theorem gs_qf_most_s_count (σ : qf_S) (v : Int32) : qf_g_most (qf_s_count σ v) = qf_g_most σ := rfl
theorem gs_qf_most_t_environments (σ : qf_S) (i : Int32) (v : Int32) : qf_g_most (qf_t_environments σ i v) = qf_g_most σ := rfl
theorem gs_qf_most_t_gathereds (σ : qf_S) (i : Int32) (v : Int32) : qf_g_most (qf_t_gathereds σ i v) = qf_g_most σ := rfl
theorem gs_qf_most_t_helds (σ : qf_S) (i : Int32) (v : Int64) : qf_g_most (qf_t_helds σ i v) = qf_g_most σ := rfl
theorem gs_qf_most_t_rests (σ : qf_S) (i : Int32) (v : Int64) : qf_g_most (qf_t_rests σ i v) = qf_g_most σ := rfl
theorem gs_qf_most_t_tasks (σ : qf_S) (i : Int32) (v : Int32) : qf_g_most (qf_t_tasks σ i v) = qf_g_most σ := rfl
theorem gs_qt_pendingCount_t_pendingParts (σ : qt_S) (i : Int32) (v : Int64) : qt_g_pendingCount (qt_t_pendingParts σ i v) = qt_g_pendingCount σ := rfl
theorem gs_qt_pendingCount_t_pendingTrees (σ : qt_S) (i : Int32) (v : Int64) : qt_g_pendingCount (qt_t_pendingTrees σ i v) = qt_g_pendingCount σ := rfl
theorem gv_qt_pendingCount (σ : qt_S) (v : Int32) : qt_g_pendingCount (qt_s_pendingCount σ v) = v := rfl
theorem gs_qt_pendingTrees_s_pendingCount (σ : qt_S) (v : Int32) : qt_g_pendingTrees (qt_s_pendingCount σ v) = qt_g_pendingTrees σ := rfl
theorem gs_qt_symbolCount_t_parts (σ : qt_S) (i : Int32) (v : Int64) : qt_g_symbolCount (qt_t_parts σ i v) = qt_g_symbolCount σ := rfl
theorem gs_qt_symbolCount_t_symbols (σ : qt_S) (i : Int32) (v : Int32) : qt_g_symbolCount (qt_t_symbols σ i v) = qt_g_symbolCount σ := rfl
theorem w_qf_clear {Γ : cx_T} (C : cx_C Γ (qf_w (gK Γ)) qcl qf_R qf_clear_c 1 none (0, 0)) (σ : qf_S)  : J Γ (qf_w (gK Γ)) qcl (QF Γ (qf_w (gK Γ)) qcl ovV) (shV (qf_clear σ)) σ 0 [(0, .ref (kq (gK Γ) 9))] [] := by
  unfold qf_clear
  refine j_aload_n C d_qf_clear_0 rfl 0 rfl ?_
  refine j_iconst C d_qf_clear_1 rfl kc_i_0 ?_
  refine qf_p_count C k_203 d_qf_clear_2 rfl ?_
  refine j_aload_n C d_qf_clear_5 rfl 0 rfl ?_
  refine j_iconst C d_qf_clear_6 rfl kc_i_0 ?_
  refine qf_p_most C k_204 d_qf_clear_7 rfl ?_
  exact j_vret C d_qf_clear_10
theorem mc_qf_clear (l : Launch) (K : kk_T) (σ : qf_S)  : MC l qf_clear_y qf_clear_c 1 none (0, 0) K (qf_w K) qcl σ [.ref (kq K 9)] none (qf_clear σ) := mc_of (ov := ovV) (X := shV (qf_clear σ)) (by decide +kernel) (Nat.le_of_ble_eq_true rfl) (fun _ => rfl) rfl (fun Γ e1 e2 C => by subst e1; subst e2; exact w_qf_clear C σ)
theorem qf_clear_I : ck_V qf_clear_y qf_clear_c 1 none 0 := ⟨k_227, k_101, by decide +kernel, k_225, k_226⟩
theorem w_qf_put {Γ : cx_T} (C : cx_C Γ (qf_w (gK Γ)) qcl qf_R qf_put_c 8 (some .boolean) (0, 0)) (σ : qf_S) (a1 : Int32) (a2 : Int32) (a3 : Int64) (a5 : Int64) (a7 : Int32) : J Γ (qf_w (gK Γ)) qcl (QF Γ (qf_w (gK Γ)) qcl ovI) (shT (qf_put σ a1 a2 a3 a5 a7)) σ 0 [(0, .ref (kq (gK Γ) 9)), (1, .int a1), (2, .int a2), (3, .long a3), (5, .long a5), (7, .int a7)] [] := by
  unfold qf_put
  refine j_aload_n C d_qf_put_0 rfl 0 rfl ?_
  refine qf_r_count C k_203 d_qf_put_1 rfl rfl ?_
  refine j_if_lt C d_qf_put_4 (tgt := 17) (by decide) rfl (fun c_1 => ?_) (fun c_1 => ?_)
  · refine J.pos shT c_1 ?_
    refine j_iconst C d_qf_put_17 rfl kc_i_0 ?_
    exact j_zret C rfl d_qf_put_18
  · refine J.neg shT c_1 ?_
    refine j_aload_n C d_qf_put_7 rfl 0 rfl ?_
    refine qf_r_count C k_203 d_qf_put_8 rfl rfl ?_
    refine j_sipush C d_qf_put_11 rfl kc_s_300 ?_
    refine j_icmp_lt C d_qf_put_14 (tgt := 19) (by decide) rfl (fun c_2 => ?_) (fun c_2 => ?_)
    · refine J.pos shT c_2 ?_
      refine j_aload_n C d_qf_put_19 rfl 0 rfl ?_
      refine qf_r_tasks C k_198 d_qf_put_20 rfl ?_
      refine j_aload_n C d_qf_put_23 rfl 0 rfl ?_
      refine qf_r_count C k_203 d_qf_put_24 rfl rfl ?_
      refine j_iload_n C d_qf_put_27 rfl 1 rfl ?_
      refine qf_a_tasks C (in_c (M := 300) c_1 c_2 (by decide) (Nat.le_of_ble_eq_true rfl)) d_qf_put_28 rfl ?_
      refine j_aload_n C d_qf_put_29 rfl 0 rfl ?_
      refine qf_r_environments C k_199 d_qf_put_30 rfl ?_
      refine j_aload_n C d_qf_put_33 rfl 0 rfl ?_
      refine qf_r_count C k_203 d_qf_put_34 rfl (x := (qf_g_count σ)) (gs_qf_count_t_tasks _ _ _) ?_
      refine j_iload_n C d_qf_put_37 rfl 2 rfl ?_
      refine qf_a_environments C (in_c (M := 300) c_1 c_2 (by decide) (Nat.le_of_ble_eq_true rfl)) d_qf_put_38 rfl ?_
      refine j_aload_n C d_qf_put_39 rfl 0 rfl ?_
      refine qf_r_rests C k_200 d_qf_put_40 rfl ?_
      refine j_aload_n C d_qf_put_43 rfl 0 rfl ?_
      refine qf_r_count C k_203 d_qf_put_44 rfl (x := (qf_g_count σ)) ((gs_qf_count_t_environments _ _ _).trans (gs_qf_count_t_tasks _ _ _)) ?_
      refine j_lload_n C d_qf_put_47 rfl 3 rfl ?_
      refine qf_a_rests C (in_c (M := 300) c_1 c_2 (by decide) (Nat.le_of_ble_eq_true rfl)) d_qf_put_48 rfl ?_
      refine j_aload_n C d_qf_put_49 rfl 0 rfl ?_
      refine qf_r_helds C k_201 d_qf_put_50 rfl ?_
      refine j_aload_n C d_qf_put_53 rfl 0 rfl ?_
      refine qf_r_count C k_203 d_qf_put_54 rfl (x := (qf_g_count σ)) ((gs_qf_count_t_rests _ _ _).trans ((gs_qf_count_t_environments _ _ _).trans (gs_qf_count_t_tasks _ _ _))) ?_
      refine j_lload C d_qf_put_57 rfl 4 rfl ?_
      refine qf_a_helds C (in_c (M := 300) c_1 c_2 (by decide) (Nat.le_of_ble_eq_true rfl)) d_qf_put_59 rfl ?_
      refine j_aload_n C d_qf_put_60 rfl 0 rfl ?_
      refine qf_r_gathereds C k_202 d_qf_put_61 rfl ?_
      refine j_aload_n C d_qf_put_64 rfl 0 rfl ?_
      refine qf_r_count C k_203 d_qf_put_65 rfl (x := (qf_g_count σ)) ((gs_qf_count_t_helds _ _ _).trans ((gs_qf_count_t_rests _ _ _).trans ((gs_qf_count_t_environments _ _ _).trans (gs_qf_count_t_tasks _ _ _)))) ?_
      refine j_iload C d_qf_put_68 rfl 5 rfl ?_
      refine qf_a_gathereds C (in_c (M := 300) c_1 c_2 (by decide) (Nat.le_of_ble_eq_true rfl)) d_qf_put_70 rfl ?_
      refine j_aload_n C d_qf_put_71 rfl 0 rfl ?_
      refine j_dup C d_qf_put_72 rfl rfl ?_
      refine qf_r_count C k_203 d_qf_put_73 rfl (x := (qf_g_count σ)) ((gs_qf_count_t_gathereds _ _ _).trans ((gs_qf_count_t_helds _ _ _).trans ((gs_qf_count_t_rests _ _ _).trans ((gs_qf_count_t_environments _ _ _).trans (gs_qf_count_t_tasks _ _ _))))) ?_
      refine j_iconst C d_qf_put_76 rfl kc_i_1 ?_
      refine j_iadd C d_qf_put_77 rfl ?_
      refine qf_p_count C k_203 d_qf_put_78 rfl ?_
      refine j_aload_n C d_qf_put_81 rfl 0 rfl ?_
      refine qf_r_count C k_203 d_qf_put_82 rfl (x := ((qf_g_count σ) + (1 : Int32))) (gv_qf_count _ _) ?_
      refine j_aload_n C d_qf_put_85 rfl 0 rfl ?_
      refine qf_r_most C k_204 d_qf_put_86 rfl (x := (qf_g_most σ)) ((gs_qf_most_s_count _ _).trans ((gs_qf_most_t_gathereds _ _ _).trans ((gs_qf_most_t_helds _ _ _).trans ((gs_qf_most_t_rests _ _ _).trans ((gs_qf_most_t_environments _ _ _).trans (gs_qf_most_t_tasks _ _ _)))))) ?_
      refine j_icmp_le C d_qf_put_89 (tgt := 100) (by decide) rfl (fun c_3 => ?_) (fun c_3 => ?_)
      · refine J.pos shT c_3 ?_
        refine j_iconst C d_qf_put_100 rfl kc_i_1 ?_
        exact j_zret C rfl d_qf_put_101
      · refine J.neg shT c_3 ?_
        refine j_aload_n C d_qf_put_92 rfl 0 rfl ?_
        refine j_aload_n C d_qf_put_93 rfl 0 rfl ?_
        refine qf_r_count C k_203 d_qf_put_94 rfl (x := ((qf_g_count σ) + (1 : Int32))) (gv_qf_count _ _) ?_
        refine qf_p_most C k_204 d_qf_put_97 rfl ?_
        refine j_iconst C d_qf_put_100 rfl kc_i_1 ?_
        exact j_zret C rfl d_qf_put_101
    · refine J.neg shT c_2 ?_
      refine j_iconst C d_qf_put_17 rfl kc_i_0 ?_
      exact j_zret C rfl d_qf_put_18
theorem mc_qf_put (l : Launch) (K : kk_T) (σ : qf_S) (a1 : Int32) (a2 : Int32) (a3 : Int64) (a5 : Int64) (a7 : Int32) : MC l qf_put_y qf_put_c 8 (some .boolean) (0, 0) K (qf_w K) qcl σ [.ref (kq K 9), .int a1, .int a2, .long a3, .long a5, .int a7] (some (.int (qf_put σ a1 a2 a3 a5 a7).1)) (qf_put σ a1 a2 a3 a5 a7).2 := mc_of (ov := ovI) (X := shT (qf_put σ a1 a2 a3 a5 a7)) (by decide +kernel) (Nat.le_of_ble_eq_true rfl) (fun _ => rfl) rfl (fun Γ e1 e2 C => by subst e1; subst e2; exact w_qf_put C σ a1 a2 a3 a5 a7)
theorem qf_put_I : ck_V qf_put_y qf_put_c 8 (some .boolean) 5 := ⟨k_507, k_101, by decide +kernel, k_505, k_506⟩
theorem w_qt_putOff {Γ : cx_T} (C : cx_C Γ (qt_w (gK Γ)) qcl qt_R qt_putOff_c 5 none (0, 0)) (σ : qt_S) (a1 : Int64) (a3 : Int64) : J Γ (qt_w (gK Γ)) qcl (QF Γ (qt_w (gK Γ)) qcl ovV) (shV (qt_putOff σ a1 a3)) σ 0 [(0, .ref (kq (gK Γ) 4)), (1, .long a1), (3, .long a3)] [] := by
  unfold qt_putOff
  refine j_aload_n C d_qt_putOff_0 rfl 0 rfl ?_
  refine qt_r_pendingCount C k_172 d_qt_putOff_1 rfl rfl ?_
  refine j_if_lt C d_qt_putOff_4 (tgt := 46) (by decide) rfl (fun c_1 => ?_) (fun c_1 => ?_)
  · refine J.pos shV c_1 ?_
    exact j_vret C d_qt_putOff_46
  · refine J.neg shV c_1 ?_
    refine j_aload_n C d_qt_putOff_7 rfl 0 rfl ?_
    refine qt_r_pendingCount C k_172 d_qt_putOff_8 rfl rfl ?_
    refine j_bipush C d_qt_putOff_11 rfl kc_b_100 ?_
    refine j_icmp_gt C d_qt_putOff_13 (tgt := 46) (by decide) rfl (fun c_2 => ?_) (fun c_2 => ?_)
    · refine J.pos shV c_2 ?_
      exact j_vret C d_qt_putOff_46
    · refine J.neg shV c_2 ?_
      refine j_aload_n C d_qt_putOff_16 rfl 0 rfl ?_
      refine qt_r_pendingTrees C k_170 d_qt_putOff_17 rfl ?_
      refine j_aload_n C d_qt_putOff_20 rfl 0 rfl ?_
      refine qt_r_pendingCount C k_172 d_qt_putOff_21 rfl rfl ?_
      refine j_lload_n C d_qt_putOff_24 rfl 1 rfl ?_
      refine qt_a_pendingTrees C (in_b (M := 100) c_1 c_2 (by decide) (Nat.le_of_ble_eq_true rfl)) d_qt_putOff_25 rfl ?_
      refine j_aload_n C d_qt_putOff_26 rfl 0 rfl ?_
      refine qt_r_pendingParts C k_171 d_qt_putOff_27 rfl ?_
      refine j_aload_n C d_qt_putOff_30 rfl 0 rfl ?_
      refine qt_r_pendingCount C k_172 d_qt_putOff_31 rfl (x := (qt_g_pendingCount σ)) (gs_qt_pendingCount_t_pendingTrees _ _ _) ?_
      refine j_lload_n C d_qt_putOff_34 rfl 2 rfl ?_
      refine qt_a_pendingParts C (in_b (M := 100) c_1 c_2 (by decide) (Nat.le_of_ble_eq_true rfl)) d_qt_putOff_35 rfl ?_
      refine j_aload_n C d_qt_putOff_36 rfl 0 rfl ?_
      refine j_dup C d_qt_putOff_37 rfl rfl ?_
      refine qt_r_pendingCount C k_172 d_qt_putOff_38 rfl (x := (qt_g_pendingCount σ)) ((gs_qt_pendingCount_t_pendingParts _ _ _).trans (gs_qt_pendingCount_t_pendingTrees _ _ _)) ?_
      refine j_iconst C d_qt_putOff_41 rfl kc_i_1 ?_
      refine j_iadd C d_qt_putOff_42 rfl ?_
      refine qt_p_pendingCount C k_172 d_qt_putOff_43 rfl ?_
      exact j_vret C d_qt_putOff_46
theorem mc_qt_putOff (l : Launch) (K : kk_T) (σ : qt_S) (a1 : Int64) (a3 : Int64) : MC l qt_putOff_y qt_putOff_c 5 none (0, 0) K (qt_w K) qcl σ [.ref (kq K 4), .long a1, .long a3] none (qt_putOff σ a1 a3) := mc_of (ov := ovV) (X := shV (qt_putOff σ a1 a3)) (by decide +kernel) (Nat.le_of_ble_eq_true rfl) (fun _ => rfl) rfl (fun Γ e1 e2 C => by subst e1; subst e2; exact w_qt_putOff C σ a1 a3)
theorem qt_putOff_I : ck_V qt_putOff_y qt_putOff_c 5 none 2 := ⟨k_569, k_100, by decide +kernel, k_568, k_27⟩
theorem w_qt_start {Γ : cx_T} (C : cx_C Γ (qt_w (gK Γ)) qcl qt_R qt_start_c 5 none (1, 24)) (σ : qt_S) (a1 : Int64) (a3 : Int64) : J Γ (qt_w (gK Γ)) qcl (QF Γ (qt_w (gK Γ)) qcl ovV) (shV (qt_start σ a1 a3)) σ 0 [(0, .ref (kq (gK Γ) 4)), (1, .long a1), (3, .long a3)] [] := by
  unfold qt_start
  refine j_aload_n C d_qt_start_0 rfl 0 rfl ?_
  refine j_iconst C d_qt_start_1 rfl kc_i_0 ?_
  refine qt_p_symbolCount C k_175 d_qt_start_2 rfl ?_
  refine j_aload_n C d_qt_start_5 rfl 0 rfl ?_
  refine j_iconst C d_qt_start_6 rfl kc_i_0 ?_
  refine qt_p_pendingCount C k_172 d_qt_start_7 rfl ?_
  refine j_aload_n C d_qt_start_10 rfl 0 rfl ?_
  refine j_lload_n C d_qt_start_11 rfl 1 rfl ?_
  refine j_lload_n C d_qt_start_12 rfl 2 rfl ?_
  refine cv0_qt_qt C (mc_qt_putOff (gl Γ) (gK Γ) (qt_s_pendingCount (qt_s_symbolCount σ (0 : Int32)) (0 : Int32)) a1 a3) qt_putOff_I k_566 (by decide) d_qt_start_13 rfl (rest := []) rfl ⟨rfl, Nat.le_of_ble_eq_true rfl⟩ ?_
  exact j_vret C d_qt_start_16
theorem mc_qt_start (l : Launch) (K : kk_T) (σ : qt_S) (a1 : Int64) (a3 : Int64) : MC l qt_start_y qt_start_c 5 none (1, 24) K (qt_w K) qcl σ [.ref (kq K 4), .long a1, .long a3] none (qt_start σ a1 a3) := mc_of (ov := ovV) (X := shV (qt_start σ a1 a3)) (by decide +kernel) (Nat.le_of_ble_eq_true rfl) (fun _ => rfl) rfl (fun Γ e1 e2 C => by subst e1; subst e2; exact w_qt_start C σ a1 a3)
theorem qt_start_I : ck_V qt_start_y qt_start_c 5 none 2 := ⟨k_565, k_100, by decide +kernel, k_564, k_26⟩
theorem w_qt_takeTree {Γ : cx_T} (C : cx_C Γ (qt_w (gK Γ)) qcl qt_R qt_takeTree_c 1 (some .long) (0, 0)) (σ : qt_S)  : J Γ (qt_w (gK Γ)) qcl (QF Γ (qt_w (gK Γ)) qcl ovL) (shT (qt_takeTree σ)) σ 0 [(0, .ref (kq (gK Γ) 4))] [] := by
  unfold qt_takeTree
  refine j_aload_n C d_qt_takeTree_0 rfl 0 rfl ?_
  refine j_dup C d_qt_takeTree_1 rfl rfl ?_
  refine qt_r_pendingCount C k_172 d_qt_takeTree_2 rfl rfl ?_
  refine j_iconst C d_qt_takeTree_5 rfl kc_i_1 ?_
  refine j_isub C d_qt_takeTree_6 rfl ?_
  refine qt_p_pendingCount C k_172 d_qt_takeTree_7 rfl ?_
  refine j_aload_n C d_qt_takeTree_10 rfl 0 rfl ?_
  refine qt_r_pendingCount C k_172 d_qt_takeTree_11 rfl (x := ((qt_g_pendingCount σ) - (1 : Int32))) (gv_qt_pendingCount _ _) ?_
  refine j_if_lt C d_qt_takeTree_14 (tgt := 38) (by decide) rfl (fun c_1 => ?_) (fun c_1 => ?_)
  · refine J.pos shT c_1 ?_
    refine j_ldc2 C d_qt_takeTree_38 rfl k_574 ?_
    exact j_lret C d_qt_takeTree_41
  · refine J.neg shT c_1 ?_
    refine j_aload_n C d_qt_takeTree_17 rfl 0 rfl ?_
    refine qt_r_pendingCount C k_172 d_qt_takeTree_18 rfl (x := ((qt_g_pendingCount σ) - (1 : Int32))) (gv_qt_pendingCount _ _) ?_
    refine j_bipush C d_qt_takeTree_21 rfl kc_b_100 ?_
    refine j_icmp_gt C d_qt_takeTree_23 (tgt := 38) (by decide) rfl (fun c_2 => ?_) (fun c_2 => ?_)
    · refine J.pos shT c_2 ?_
      refine j_ldc2 C d_qt_takeTree_38 rfl k_574 ?_
      exact j_lret C d_qt_takeTree_41
    · refine J.neg shT c_2 ?_
      refine j_aload_n C d_qt_takeTree_26 rfl 0 rfl ?_
      refine qt_r_pendingTrees C k_170 d_qt_takeTree_27 rfl ?_
      refine j_aload_n C d_qt_takeTree_30 rfl 0 rfl ?_
      refine qt_r_pendingCount C k_172 d_qt_takeTree_31 rfl (x := ((qt_g_pendingCount σ) - (1 : Int32))) (gv_qt_pendingCount _ _) ?_
      refine qt_l_pendingTrees C (in_b (M := 100) c_1 c_2 (by decide) (Nat.le_of_ble_eq_true rfl)) d_qt_takeTree_34 rfl (x := (qt_g_pendingTrees σ (Int32.toNatClampNeg ((qt_g_pendingCount σ) - (1 : Int32))))) (congrFun (gs_qt_pendingTrees_s_pendingCount _ _) _) ?_
      refine j_goto C d_qt_takeTree_35 (tgt := 41) (by decide) ?_
      exact j_lret C d_qt_takeTree_41
theorem mc_qt_takeTree (l : Launch) (K : kk_T) (σ : qt_S)  : MC l qt_takeTree_y qt_takeTree_c 1 (some .long) (0, 0) K (qt_w K) qcl σ [.ref (kq K 4)] (some (.long (qt_takeTree σ).1)) (qt_takeTree σ).2 := mc_of (ov := ovL) (X := shT (qt_takeTree σ)) (by decide +kernel) (Nat.le_of_ble_eq_true rfl) (fun _ => rfl) rfl (fun Γ e1 e2 C => by subst e1; subst e2; exact w_qt_takeTree C σ)
theorem qt_takeTree_I : ck_V qt_takeTree_y qt_takeTree_c 1 (some .long) 0 := ⟨k_573, k_100, by decide +kernel, k_572, k_28⟩
theorem w_qt_takenPart {Γ : cx_T} (C : cx_C Γ (qt_w (gK Γ)) qcl qt_R qt_takenPart_c 1 (some .long) (0, 0)) (σ : qt_S)  : J Γ (qt_w (gK Γ)) qcl (QF Γ (qt_w (gK Γ)) qcl ovL) ((shP σ) (qt_takenPart σ)) σ 0 [(0, .ref (kq (gK Γ) 4))] [] := by
  unfold qt_takenPart
  refine j_aload_n C d_qt_takenPart_0 rfl 0 rfl ?_
  refine qt_r_pendingCount C k_172 d_qt_takenPart_1 rfl rfl ?_
  refine j_if_lt C d_qt_takenPart_4 (tgt := 28) (by decide) rfl (fun c_1 => ?_) (fun c_1 => ?_)
  · refine J.pos (shP σ) c_1 ?_
    refine j_ldc2 C d_qt_takenPart_28 rfl k_574 ?_
    exact j_lret C d_qt_takenPart_31
  · refine J.neg (shP σ) c_1 ?_
    refine j_aload_n C d_qt_takenPart_7 rfl 0 rfl ?_
    refine qt_r_pendingCount C k_172 d_qt_takenPart_8 rfl rfl ?_
    refine j_bipush C d_qt_takenPart_11 rfl kc_b_100 ?_
    refine j_icmp_gt C d_qt_takenPart_13 (tgt := 28) (by decide) rfl (fun c_2 => ?_) (fun c_2 => ?_)
    · refine J.pos (shP σ) c_2 ?_
      refine j_ldc2 C d_qt_takenPart_28 rfl k_574 ?_
      exact j_lret C d_qt_takenPart_31
    · refine J.neg (shP σ) c_2 ?_
      refine j_aload_n C d_qt_takenPart_16 rfl 0 rfl ?_
      refine qt_r_pendingParts C k_171 d_qt_takenPart_17 rfl ?_
      refine j_aload_n C d_qt_takenPart_20 rfl 0 rfl ?_
      refine qt_r_pendingCount C k_172 d_qt_takenPart_21 rfl rfl ?_
      refine qt_l_pendingParts C (in_b (M := 100) c_1 c_2 (by decide) (Nat.le_of_ble_eq_true rfl)) d_qt_takenPart_24 rfl rfl ?_
      refine j_goto C d_qt_takenPart_25 (tgt := 31) (by decide) ?_
      exact j_lret C d_qt_takenPart_31
theorem mc_qt_takenPart (l : Launch) (K : kk_T) (σ : qt_S)  : MC l qt_takenPart_y qt_takenPart_c 1 (some .long) (0, 0) K (qt_w K) qcl σ [.ref (kq K 4)] (some (.long (qt_takenPart σ))) σ := mc_of (ov := ovL) (X := (shP σ) (qt_takenPart σ)) (by decide +kernel) (Nat.le_of_ble_eq_true rfl) (fun _ => rfl) rfl (fun Γ e1 e2 C => by subst e1; subst e2; exact w_qt_takenPart C σ)
theorem qt_takenPart_I : ck_V qt_takenPart_y qt_takenPart_c 1 (some .long) 0 := ⟨k_578, k_100, by decide +kernel, k_577, k_29⟩
theorem w_qt_find {Γ : cx_T} (C : cx_C Γ (qt_w (gK Γ)) qcl qt_R qt_find_c 4 none (0, 0)) (σ : qt_S) (a1 : Int32) (a2 : Int64) : J Γ (qt_w (gK Γ)) qcl (QF Γ (qt_w (gK Γ)) qcl ovV) (shV (qt_find σ a1 a2)) σ 0 [(0, .ref (kq (gK Γ) 4)), (1, .int a1), (2, .long a2)] [] := by
  unfold qt_find
  refine j_aload_n C d_qt_find_0 rfl 0 rfl ?_
  refine qt_r_symbolCount C k_175 d_qt_find_1 rfl rfl ?_
  refine j_if_lt C d_qt_find_4 (tgt := 46) (by decide) rfl (fun c_1 => ?_) (fun c_1 => ?_)
  · refine J.pos shV c_1 ?_
    exact j_vret C d_qt_find_46
  · refine J.neg shV c_1 ?_
    refine j_aload_n C d_qt_find_7 rfl 0 rfl ?_
    refine qt_r_symbolCount C k_175 d_qt_find_8 rfl rfl ?_
    refine j_bipush C d_qt_find_11 rfl kc_b_100 ?_
    refine j_icmp_ge C d_qt_find_13 (tgt := 46) (by decide) rfl (fun c_2 => ?_) (fun c_2 => ?_)
    · refine J.pos shV c_2 ?_
      exact j_vret C d_qt_find_46
    · refine J.neg shV c_2 ?_
      refine j_aload_n C d_qt_find_16 rfl 0 rfl ?_
      refine qt_r_symbols C k_173 d_qt_find_17 rfl ?_
      refine j_aload_n C d_qt_find_20 rfl 0 rfl ?_
      refine qt_r_symbolCount C k_175 d_qt_find_21 rfl rfl ?_
      refine j_iload_n C d_qt_find_24 rfl 1 rfl ?_
      refine qt_a_symbols C (in_a (M := 100) c_1 c_2 (by decide) (Nat.le_of_ble_eq_true rfl)) d_qt_find_25 rfl ?_
      refine j_aload_n C d_qt_find_26 rfl 0 rfl ?_
      refine qt_r_parts C k_174 d_qt_find_27 rfl ?_
      refine j_aload_n C d_qt_find_30 rfl 0 rfl ?_
      refine qt_r_symbolCount C k_175 d_qt_find_31 rfl (x := (qt_g_symbolCount σ)) (gs_qt_symbolCount_t_symbols _ _ _) ?_
      refine j_lload_n C d_qt_find_34 rfl 2 rfl ?_
      refine qt_a_parts C (in_a (M := 100) c_1 c_2 (by decide) (Nat.le_of_ble_eq_true rfl)) d_qt_find_35 rfl ?_
      refine j_aload_n C d_qt_find_36 rfl 0 rfl ?_
      refine j_dup C d_qt_find_37 rfl rfl ?_
      refine qt_r_symbolCount C k_175 d_qt_find_38 rfl (x := (qt_g_symbolCount σ)) ((gs_qt_symbolCount_t_parts _ _ _).trans (gs_qt_symbolCount_t_symbols _ _ _)) ?_
      refine j_iconst C d_qt_find_41 rfl kc_i_1 ?_
      refine j_iadd C d_qt_find_42 rfl ?_
      refine qt_p_symbolCount C k_175 d_qt_find_43 rfl ?_
      exact j_vret C d_qt_find_46
theorem mc_qt_find (l : Launch) (K : kk_T) (σ : qt_S) (a1 : Int32) (a2 : Int64) : MC l qt_find_y qt_find_c 4 none (0, 0) K (qt_w K) qcl σ [.ref (kq K 4), .int a1, .long a2] none (qt_find σ a1 a2) := mc_of (ov := ovV) (X := shV (qt_find σ a1 a2)) (by decide +kernel) (Nat.le_of_ble_eq_true rfl) (fun _ => rfl) rfl (fun Γ e1 e2 C => by subst e1; subst e2; exact w_qt_find C σ a1 a2)
theorem qt_find_I : ck_V qt_find_y qt_find_c 4 none 2 := ⟨k_586, k_100, by decide +kernel, k_585, k_30⟩
theorem w_qt_matches_L9 {Γ : cx_T} (C : cx_C Γ (qt_w (gK Γ)) qcl qt_R qt_matches_c 10 (some .boolean) (2, 48)) (N : Nat) : ∀ (k : Nat) (σ : qt_S) (x5 : Int32), J Γ (qt_w (gK Γ)) qcl (QF Γ (qt_w (gK Γ)) qcl ovI) (shO (qt_matches_L9 N k σ x5)) σ 9 [(0, .ref (kq (gK Γ) 4)), (5, .int x5)] [] := by
  intro k
  induction k with
  | zero => intro σ x5; exact J.none rfl
  | succ k ih =>
    intro σ x5
    rw [qt_matches_L9]
    refine j_iload C d_qt_matches_9 rfl 1 rfl ?_
    refine j_sipush C d_qt_matches_11 rfl kc_s_201 ?_
    refine j_icmp_ge C d_qt_matches_14 (tgt := 157) (by decide) rfl (fun c_1 => ?_) (fun c_1 => ?_)
    · refine J.pos shO c_1 ?_
      refine j_aload_n C d_qt_matches_157 rfl 0 rfl ?_
      refine qt_r_pendingCount C k_172 d_qt_matches_158 rfl rfl ?_
      refine j_if_ne C d_qt_matches_161 (tgt := 168) (by decide) rfl (fun c_2 => ?_) (fun c_2 => ?_)
      · refine J.neg shO c_2 ?_
        refine j_iconst C d_qt_matches_168 rfl kc_i_0 ?_
        exact j_zret C rfl d_qt_matches_169
      · refine J.pos shO c_2 ?_
        refine j_iconst C d_qt_matches_164 rfl kc_i_1 ?_
        refine j_goto C d_qt_matches_165 (tgt := 169) (by decide) ?_
        exact j_zret C rfl d_qt_matches_169
    · refine J.neg shO c_1 ?_
      refine j_aload_n C d_qt_matches_17 rfl 0 rfl ?_
      refine qt_r_pendingCount C k_172 d_qt_matches_18 rfl rfl ?_
      refine j_if_le C d_qt_matches_21 (tgt := 157) (by decide) rfl (fun c_3 => ?_) (fun c_3 => ?_)
      · refine J.pos shO c_3 ?_
        refine j_aload_n C d_qt_matches_157 rfl 0 rfl ?_
        refine qt_r_pendingCount C k_172 d_qt_matches_158 rfl rfl ?_
        refine j_if_ne C d_qt_matches_161 (tgt := 168) (by decide) rfl (fun c_4 => ?_) (fun c_4 => ?_)
        · refine J.neg shO c_4 ?_
          refine j_iconst C d_qt_matches_168 rfl kc_i_0 ?_
          exact j_zret C rfl d_qt_matches_169
        · refine J.pos shO c_4 ?_
          refine j_iconst C d_qt_matches_164 rfl kc_i_1 ?_
          refine j_goto C d_qt_matches_165 (tgt := 169) (by decide) ?_
          exact j_zret C rfl d_qt_matches_169
      · refine J.neg shO c_3 ?_
        refine j_aload_n C d_qt_matches_24 rfl 0 rfl ?_
        refine cv_qt_qt C (mc_qt_takeTree (gl Γ) (gK Γ) σ) qt_takeTree_I k_570 (by decide) d_qt_matches_25 rfl (rest := []) rfl ⟨rfl, Nat.le_of_ble_eq_true rfl⟩ ?_
        refine j_lstore C (lv' := [(6, .long (qt_takeTree σ).1), (0, .ref (kq (gK Γ) 4)), (5, .int x5)]) d_qt_matches_28 rfl (by decide) rfl ?_
        refine j_aload_n C d_qt_matches_30 rfl 1 rfl ?_
        refine cvr_qt_qt C (mc_qt_takenPart (gl Γ) (gK Γ) (qt_takeTree σ).2) qt_takenPart_I k_575 (by decide) d_qt_matches_31 rfl (rest := []) rfl ⟨rfl, Nat.le_of_ble_eq_true rfl⟩ ?_
        refine j_lstore C (lv' := [(8, .long (qt_takenPart (qt_takeTree σ).2)), (6, .long (qt_takeTree σ).1), (0, .ref (kq (gK Γ) 4)), (5, .int x5)]) d_qt_matches_34 rfl (by decide) rfl ?_
        refine j_lload C d_qt_matches_36 rfl 1 rfl ?_
        refine cs_qt C (mc_qw_kindOf (gl Γ) (gK Γ) (qt_takeTree σ).1) qw_kindOf_I k_579 (by decide) d_qt_matches_38 rfl (rest := []) rfl (Nat.le_of_ble_eq_true rfl) ?_
        refine J.cas shO (fun c_5 => ?_) (fun c_5 => ?_)
        · refine j_tblIn C d_qt_matches_41 (2 : Int32) c_5 (by decide) (by decide) rfl (tgt := 126) (by decide) ?_
          refine j_aload_n C d_qt_matches_126 rfl 2 rfl ?_
          refine j_lload C d_qt_matches_127 rfl 1 rfl ?_
          refine cs_qt C (mc_qw_rowOf (gl Γ) (gK Γ) (qt_takeTree σ).1) qw_rowOf_I k_582 (by decide) d_qt_matches_129 rfl (rest := [.ref (kq (gK Γ) 4)]) rfl (Nat.le_of_ble_eq_true rfl) ?_
          refine j_lload C d_qt_matches_132 rfl 0 rfl ?_
          refine cv0_qt_qt C (mc_qt_find (gl Γ) (gK Γ) (qt_takeTree σ).2 (qw_rowOf (qt_takeTree σ).1) (qt_takenPart (qt_takeTree σ).2)) qt_find_I k_583 (by decide) d_qt_matches_134 rfl (rest := []) rfl ⟨rfl, Nat.le_of_ble_eq_true rfl⟩ ?_
          refine j_goto C d_qt_matches_137 (tgt := 151) (by decide) ?_
          refine j_iinc C (v := (x5 + (1 : Int32))) (lv' := [(5, .int (x5 + (1 : Int32))), (8, .long (qt_takenPart (qt_takeTree σ).2)), (6, .long (qt_takeTree σ).1), (0, .ref (kq (gK Γ) 4))]) d_qt_matches_151 rfl 3 rfl (kc_inc_1 _) (by decide) rfl ?_
          refine j_goto C d_qt_matches_154 (tgt := 9) (by decide) ?_
          refine J.loc (lv' := [(0, .ref (kq (gK Γ) 4)), (5, .int (x5 + (1 : Int32)))]) [3, 0] rfl ?_
          exact ih (qt_find (qt_takeTree σ).2 (qw_rowOf (qt_takeTree σ).1) (qt_takenPart (qt_takeTree σ).2)) (x5 + (1 : Int32))
        · skip
          refine J.cas shO (fun c_6 => ?_) (fun c_6 => ?_)
          · refine j_tblIn C d_qt_matches_41 (3 : Int32) c_6 (by decide) (by decide) rfl (tgt := 140) (by decide) ?_
            refine j_lload C d_qt_matches_140 rfl 0 rfl ?_
            refine j_ldc2 C d_qt_matches_142 rfl k_574 ?_
            refine j_lcmp_eq C d_qt_matches_145 d_qt_matches_146 (tgt := 151) (by decide) rfl (fun c_7 => ?_) (fun c_7 => ?_)
            · refine J.pos shO c_7 ?_
              refine j_iinc C (v := (x5 + (1 : Int32))) (lv' := [(5, .int (x5 + (1 : Int32))), (8, .long (qt_takenPart (qt_takeTree σ).2)), (6, .long (qt_takeTree σ).1), (0, .ref (kq (gK Γ) 4))]) d_qt_matches_151 rfl 3 rfl (kc_inc_1 _) (by decide) rfl ?_
              refine j_goto C d_qt_matches_154 (tgt := 9) (by decide) ?_
              refine J.loc (lv' := [(0, .ref (kq (gK Γ) 4)), (5, .int (x5 + (1 : Int32)))]) [3, 0] rfl ?_
              exact ih (qt_takeTree σ).2 (x5 + (1 : Int32))
            · refine J.neg shO c_7 ?_
              refine j_iconst C d_qt_matches_149 rfl kc_i_0 ?_
              exact j_zret C rfl d_qt_matches_150
          · skip
            refine J.cas shO (fun c_8 => ?_) (fun c_8 => ?_)
            · refine j_tblIn C d_qt_matches_41 (4 : Int32) c_8 (by decide) (by decide) rfl (tgt := 68) (by decide) ?_
              refine j_lload C d_qt_matches_68 rfl 0 rfl ?_
              refine cs_qt C (mc_qw_kindOf (gl Γ) (gK Γ) (qt_takenPart (qt_takeTree σ).2)) qw_kindOf_I k_579 (by decide) d_qt_matches_70 rfl (rest := []) rfl (Nat.le_of_ble_eq_true rfl) ?_
              refine j_iconst C d_qt_matches_73 rfl kc_i_4 ?_
              refine j_icmp_eq C d_qt_matches_74 (tgt := 79) (by decide) rfl (fun c_9 => ?_) (fun c_9 => ?_)
              · refine J.pos shO c_9 ?_
                refine j_aload_n C d_qt_matches_79 rfl 2 rfl ?_
                refine j_aload_n C d_qt_matches_80 rfl 2 rfl ?_
                refine qt_r_heap C k_169 d_qt_matches_81 rfl ?_
                refine j_lload C d_qt_matches_84 rfl 1 rfl ?_
                refine cvr_qt_qh C (mc_qh_cdrOf (gl Γ) (gK Γ) (qt_gH (qt_takeTree σ).2) (qt_takeTree σ).1) qh_cdrOf_I k_580 (by decide) d_qt_matches_86 rfl (rest := [.ref (kq (gK Γ) 4)]) rfl ⟨rfl, Nat.le_of_ble_eq_true rfl⟩ ?_
                refine j_aload_n C d_qt_matches_89 rfl 2 rfl ?_
                refine qt_r_heap C k_169 d_qt_matches_90 rfl ?_
                refine j_lload C d_qt_matches_93 rfl 0 rfl ?_
                refine cvr_qt_qh C (mc_qh_cdrOf (gl Γ) (gK Γ) (qt_gH (qt_takeTree σ).2) (qt_takenPart (qt_takeTree σ).2)) qh_cdrOf_I k_580 (by decide) d_qt_matches_95 rfl (rest := [.long (qh_cdrOf (qt_gH (qt_takeTree σ).2) (qt_takeTree σ).1), .ref (kq (gK Γ) 4)]) rfl ⟨rfl, Nat.le_of_ble_eq_true rfl⟩ ?_
                refine cv0_qt_qt C (mc_qt_putOff (gl Γ) (gK Γ) (qt_takeTree σ).2 (qh_cdrOf (qt_gH (qt_takeTree σ).2) (qt_takeTree σ).1) (qh_cdrOf (qt_gH (qt_takeTree σ).2) (qt_takenPart (qt_takeTree σ).2))) qt_putOff_I k_566 (by decide) d_qt_matches_98 rfl (rest := []) rfl ⟨rfl, Nat.le_of_ble_eq_true rfl⟩ ?_
                refine j_aload_n C d_qt_matches_101 rfl 2 rfl ?_
                refine j_aload_n C d_qt_matches_102 rfl 2 rfl ?_
                refine qt_r_heap C k_169 d_qt_matches_103 rfl ?_
                refine j_lload C d_qt_matches_106 rfl 1 rfl ?_
                refine cvr_qt_qh C (mc_qh_carOf (gl Γ) (gK Γ) (qt_gH (qt_putOff (qt_takeTree σ).2 (qh_cdrOf (qt_gH (qt_takeTree σ).2) (qt_takeTree σ).1) (qh_cdrOf (qt_gH (qt_takeTree σ).2) (qt_takenPart (qt_takeTree σ).2)))) (qt_takeTree σ).1) qh_carOf_I k_581 (by decide) d_qt_matches_108 rfl (rest := [.ref (kq (gK Γ) 4)]) rfl ⟨rfl, Nat.le_of_ble_eq_true rfl⟩ ?_
                refine j_aload_n C d_qt_matches_111 rfl 2 rfl ?_
                refine qt_r_heap C k_169 d_qt_matches_112 rfl ?_
                refine j_lload C d_qt_matches_115 rfl 0 rfl ?_
                refine cvr_qt_qh C (mc_qh_carOf (gl Γ) (gK Γ) (qt_gH (qt_putOff (qt_takeTree σ).2 (qh_cdrOf (qt_gH (qt_takeTree σ).2) (qt_takeTree σ).1) (qh_cdrOf (qt_gH (qt_takeTree σ).2) (qt_takenPart (qt_takeTree σ).2)))) (qt_takenPart (qt_takeTree σ).2)) qh_carOf_I k_581 (by decide) d_qt_matches_117 rfl (rest := [.long (qh_carOf (qt_gH (qt_putOff (qt_takeTree σ).2 (qh_cdrOf (qt_gH (qt_takeTree σ).2) (qt_takeTree σ).1) (qh_cdrOf (qt_gH (qt_takeTree σ).2) (qt_takenPart (qt_takeTree σ).2)))) (qt_takeTree σ).1), .ref (kq (gK Γ) 4)]) rfl ⟨rfl, Nat.le_of_ble_eq_true rfl⟩ ?_
                refine cv0_qt_qt C (mc_qt_putOff (gl Γ) (gK Γ) (qt_putOff (qt_takeTree σ).2 (qh_cdrOf (qt_gH (qt_takeTree σ).2) (qt_takeTree σ).1) (qh_cdrOf (qt_gH (qt_takeTree σ).2) (qt_takenPart (qt_takeTree σ).2))) (qh_carOf (qt_gH (qt_putOff (qt_takeTree σ).2 (qh_cdrOf (qt_gH (qt_takeTree σ).2) (qt_takeTree σ).1) (qh_cdrOf (qt_gH (qt_takeTree σ).2) (qt_takenPart (qt_takeTree σ).2)))) (qt_takeTree σ).1) (qh_carOf (qt_gH (qt_putOff (qt_takeTree σ).2 (qh_cdrOf (qt_gH (qt_takeTree σ).2) (qt_takeTree σ).1) (qh_cdrOf (qt_gH (qt_takeTree σ).2) (qt_takenPart (qt_takeTree σ).2)))) (qt_takenPart (qt_takeTree σ).2))) qt_putOff_I k_566 (by decide) d_qt_matches_120 rfl (rest := []) rfl ⟨rfl, Nat.le_of_ble_eq_true rfl⟩ ?_
                refine j_goto C d_qt_matches_123 (tgt := 151) (by decide) ?_
                refine j_iinc C (v := (x5 + (1 : Int32))) (lv' := [(5, .int (x5 + (1 : Int32))), (8, .long (qt_takenPart (qt_takeTree σ).2)), (6, .long (qt_takeTree σ).1), (0, .ref (kq (gK Γ) 4))]) d_qt_matches_151 rfl 3 rfl (kc_inc_1 _) (by decide) rfl ?_
                refine j_goto C d_qt_matches_154 (tgt := 9) (by decide) ?_
                refine J.loc (lv' := [(0, .ref (kq (gK Γ) 4)), (5, .int (x5 + (1 : Int32)))]) [3, 0] rfl ?_
                exact ih (qt_putOff (qt_putOff (qt_takeTree σ).2 (qh_cdrOf (qt_gH (qt_takeTree σ).2) (qt_takeTree σ).1) (qh_cdrOf (qt_gH (qt_takeTree σ).2) (qt_takenPart (qt_takeTree σ).2))) (qh_carOf (qt_gH (qt_putOff (qt_takeTree σ).2 (qh_cdrOf (qt_gH (qt_takeTree σ).2) (qt_takeTree σ).1) (qh_cdrOf (qt_gH (qt_takeTree σ).2) (qt_takenPart (qt_takeTree σ).2)))) (qt_takeTree σ).1) (qh_carOf (qt_gH (qt_putOff (qt_takeTree σ).2 (qh_cdrOf (qt_gH (qt_takeTree σ).2) (qt_takeTree σ).1) (qh_cdrOf (qt_gH (qt_takeTree σ).2) (qt_takenPart (qt_takeTree σ).2)))) (qt_takenPart (qt_takeTree σ).2))) (x5 + (1 : Int32))
              · refine J.neg shO c_9 ?_
                refine j_iconst C d_qt_matches_77 rfl kc_i_0 ?_
                exact j_zret C rfl d_qt_matches_78
            · skip
              refine j_tblOut C d_qt_matches_41 (tgt := 151) (by decide) (by have h0 := lv_neT c_5 (a := 2) rfl; have h1 := lv_neT c_6 (a := 3) rfl; have h2 := lv_neT c_8 (a := 4) rfl; omega) ?_
              refine j_iinc C (v := (x5 + (1 : Int32))) (lv' := [(5, .int (x5 + (1 : Int32))), (8, .long (qt_takenPart (qt_takeTree σ).2)), (6, .long (qt_takeTree σ).1), (0, .ref (kq (gK Γ) 4))]) d_qt_matches_151 rfl 3 rfl (kc_inc_1 _) (by decide) rfl ?_
              refine j_goto C d_qt_matches_154 (tgt := 9) (by decide) ?_
              refine J.loc (lv' := [(0, .ref (kq (gK Γ) 4)), (5, .int (x5 + (1 : Int32)))]) [3, 0] rfl ?_
              exact ih (qt_takeTree σ).2 (x5 + (1 : Int32))
theorem w_qt_matches {Γ : cx_T} (C : cx_C Γ (qt_w (gK Γ)) qcl qt_R qt_matches_c 10 (some .boolean) (2, 48)) (N : Nat) (σ : qt_S) (a1 : Int64) (a3 : Int64) : J Γ (qt_w (gK Γ)) qcl (QF Γ (qt_w (gK Γ)) qcl ovI) (shO (qt_matches N σ a1 a3)) σ 0 [(0, .ref (kq (gK Γ) 4)), (1, .long a1), (3, .long a3)] [] := by
  unfold qt_matches
  refine j_aload_n C d_qt_matches_0 rfl 0 rfl ?_
  refine j_lload_n C d_qt_matches_1 rfl 1 rfl ?_
  refine j_lload_n C d_qt_matches_2 rfl 2 rfl ?_
  refine cv0_qt_qt C (mc_qt_start (gl Γ) (gK Γ) σ a1 a3) qt_start_I k_562 (by decide) d_qt_matches_3 rfl (rest := []) rfl ⟨rfl, Nat.le_of_ble_eq_true rfl⟩ ?_
  refine j_iconst C d_qt_matches_6 rfl kc_i_0 ?_
  refine j_istore C (lv' := [(5, .int (0 : Int32)), (0, .ref (kq (gK Γ) 4)), (1, .long a1), (3, .long a3)]) d_qt_matches_7 rfl (by decide) rfl ?_
  refine J.loc (lv' := [(0, .ref (kq (gK Γ) 4)), (5, .int (0 : Int32))]) [1, 0] rfl ?_
  exact w_qt_matches_L9 C N N (qt_start σ a1 a3) (0 : Int32)
theorem mc_qt_matches (l : Launch) (K : kk_T) (N : Nat) (σ : qt_S) (a1 : Int64) (a3 : Int64) (r : Int32 × qt_S) (h : qt_matches N σ a1 a3 = some r) : MC l qt_matches_y qt_matches_c 10 (some .boolean) (2, 48) K (qt_w K) qcl σ [.ref (kq K 4), .long a1, .long a3] (some (.int r.1)) r.2 := mc_of (ov := ovI) (X := shO (qt_matches N σ a1 a3)) (by decide +kernel) (Nat.le_of_ble_eq_true rfl) (fun _ => rfl) (by rw [h]; rfl) (fun Γ e1 e2 C => by subst e1; subst e2; exact w_qt_matches C N σ a1 a3)
theorem qt_matches_I : ck_V qt_matches_y qt_matches_c 10 (some .boolean) 2 := ⟨k_561, k_100, by decide +kernel, k_559, k_560⟩
theorem w_qt_bindFound_L2 {Γ : cx_T} (C : cx_C Γ (qt_w (gK Γ)) qcl qt_R qt_bindFound_c 3 (some .boolean) (3, 67)) (N : Nat) : ∀ (k : Nat) (σ : qt_S) (x1 : Int32) (x2 : Int32), J Γ (qt_w (gK Γ)) qcl (QF Γ (qt_w (gK Γ)) qcl ovI) (shO (qt_bindFound_L2 N k σ x1 x2)) σ 2 [(0, .ref (kq (gK Γ) 4)), (1, .int x1), (2, .int x2)] [] := by
  intro k
  induction k with
  | zero => intro σ x1 x2; exact J.none rfl
  | succ k ih =>
    intro σ x1 x2
    rw [qt_bindFound_L2]
    refine j_iload_n C d_qt_bindFound_2 rfl 2 rfl ?_
    refine j_aload_n C d_qt_bindFound_3 rfl 0 rfl ?_
    refine qt_r_symbolCount C k_175 d_qt_bindFound_4 rfl rfl ?_
    refine j_icmp_ge C d_qt_bindFound_7 (tgt := 47) (by decide) rfl (fun c_1 => ?_) (fun c_1 => ?_)
    · refine J.pos shO c_1 ?_
      refine j_iconst C d_qt_bindFound_47 rfl kc_i_1 ?_
      exact j_zret C rfl d_qt_bindFound_48
    · refine J.neg shO c_1 ?_
      refine j_iload_n C d_qt_bindFound_10 rfl 2 rfl ?_
      refine j_bipush C d_qt_bindFound_11 rfl kc_b_100 ?_
      refine j_icmp_ge C d_qt_bindFound_13 (tgt := 47) (by decide) rfl (fun c_2 => ?_) (fun c_2 => ?_)
      · refine J.pos shO c_2 ?_
        refine j_iconst C d_qt_bindFound_47 rfl kc_i_1 ?_
        exact j_zret C rfl d_qt_bindFound_48
      · refine J.neg shO c_2 ?_
        refine j_aload_n C d_qt_bindFound_16 rfl 0 rfl ?_
        refine qt_r_heap C k_169 d_qt_bindFound_17 rfl ?_
        refine j_iload_n C d_qt_bindFound_20 rfl 1 rfl ?_
        refine j_aload_n C d_qt_bindFound_21 rfl 0 rfl ?_
        refine qt_r_symbols C k_173 d_qt_bindFound_22 rfl ?_
        refine j_iload_n C d_qt_bindFound_25 rfl 2 rfl ?_
        refine J.inO (fun h_3 => ?_)
        refine qt_l_symbols C (inb_in h_3) d_qt_bindFound_26 rfl rfl ?_
        refine j_aload_n C d_qt_bindFound_27 rfl 0 rfl ?_
        refine qt_r_parts C k_174 d_qt_bindFound_28 rfl ?_
        refine j_iload_n C d_qt_bindFound_31 rfl 2 rfl ?_
        refine J.inO (fun h_4 => ?_)
        refine qt_l_parts C (inb_in h_4) d_qt_bindFound_32 rfl rfl ?_
        refine cv_qt_qh C (mc_qh_addBinding (gl Γ) (gK Γ) (qt_gH σ) x1 (qt_g_symbols σ (Int32.toNatClampNeg x2)) (qt_g_parts σ (Int32.toNatClampNeg x2))) qh_addBinding_I k_600 (by decide) d_qt_bindFound_33 rfl (rest := []) rfl ⟨rfl, Nat.le_of_ble_eq_true rfl⟩ ?_
        refine j_if_ne C d_qt_bindFound_36 (tgt := 41) (by decide) rfl (fun c_5 => ?_) (fun c_5 => ?_)
        · refine J.neg shO c_5 ?_
          refine j_iinc C (v := (x2 + (1 : Int32))) (lv' := [(2, .int (x2 + (1 : Int32))), (0, .ref (kq (gK Γ) 4)), (1, .int x1)]) d_qt_bindFound_41 rfl 2 rfl (kc_inc_1 _) (by decide) rfl ?_
          refine j_goto C d_qt_bindFound_44 (tgt := 2) (by decide) ?_
          refine J.loc (lv' := [(0, .ref (kq (gK Γ) 4)), (1, .int x1), (2, .int (x2 + (1 : Int32)))]) [1, 2, 0] rfl ?_
          exact ih (qt_sH σ (qh_addBinding (qt_gH σ) x1 (qt_g_symbols σ (Int32.toNatClampNeg x2)) (qt_g_parts σ (Int32.toNatClampNeg x2))).2) x1 (x2 + (1 : Int32))
        · refine J.pos shO c_5 ?_
          refine j_iconst C d_qt_bindFound_39 rfl kc_i_0 ?_
          exact j_zret C rfl d_qt_bindFound_40
theorem w_qt_bindFound {Γ : cx_T} (C : cx_C Γ (qt_w (gK Γ)) qcl qt_R qt_bindFound_c 3 (some .boolean) (3, 67)) (N : Nat) (σ : qt_S) (a1 : Int32) : J Γ (qt_w (gK Γ)) qcl (QF Γ (qt_w (gK Γ)) qcl ovI) (shO (qt_bindFound N σ a1)) σ 0 [(0, .ref (kq (gK Γ) 4)), (1, .int a1)] [] := by
  unfold qt_bindFound
  refine j_iconst C d_qt_bindFound_0 rfl kc_i_0 ?_
  refine j_istore_n C (lv' := [(2, .int (0 : Int32)), (0, .ref (kq (gK Γ) 4)), (1, .int a1)]) d_qt_bindFound_1 rfl rfl (by decide) rfl ?_
  refine J.loc (lv' := [(0, .ref (kq (gK Γ) 4)), (1, .int a1), (2, .int (0 : Int32))]) [1, 2, 0] rfl ?_
  exact w_qt_bindFound_L2 C N N σ a1 (0 : Int32)
theorem mc_qt_bindFound (l : Launch) (K : kk_T) (N : Nat) (σ : qt_S) (a1 : Int32) (r : Int32 × qt_S) (h : qt_bindFound N σ a1 = some r) : MC l qt_bindFound_y qt_bindFound_c 3 (some .boolean) (3, 67) K (qt_w K) qcl σ [.ref (kq K 4), .int a1] (some (.int r.1)) r.2 := mc_of (ov := ovI) (X := shO (qt_bindFound N σ a1)) (by decide +kernel) (Nat.le_of_ble_eq_true rfl) (fun _ => rfl) (by rw [h]; rfl) (fun Γ e1 e2 C => by subst e1; subst e2; exact w_qt_bindFound C N σ a1)
theorem qt_bindFound_I : ck_V qt_bindFound_y qt_bindFound_c 3 (some .boolean) 1 := ⟨k_599, k_100, by decide +kernel, k_597, k_598⟩
theorem w_qt_hasFound_L2 {Γ : cx_T} (C : cx_C Γ (qt_w (gK Γ)) qcl qt_R qt_hasFound_c 3 (some .boolean) (0, 0)) (N : Nat) : ∀ (k : Nat) (σ : qt_S) (x1 : Int32) (x2 : Int32), J Γ (qt_w (gK Γ)) qcl (QF Γ (qt_w (gK Γ)) qcl ovI) ((shR σ) (qt_hasFound_L2 N k σ x1 x2)) σ 2 [(0, .ref (kq (gK Γ) 4)), (1, .int x1), (2, .int x2)] [] := by
  intro k
  induction k with
  | zero => intro σ x1 x2; exact J.none rfl
  | succ k ih =>
    intro σ x1 x2
    rw [qt_hasFound_L2]
    refine j_iload_n C d_qt_hasFound_2 rfl 2 rfl ?_
    refine j_aload_n C d_qt_hasFound_3 rfl 0 rfl ?_
    refine qt_r_symbolCount C k_175 d_qt_hasFound_4 rfl rfl ?_
    refine j_icmp_ge C d_qt_hasFound_7 (tgt := 34) (by decide) rfl (fun c_1 => ?_) (fun c_1 => ?_)
    · refine J.pos (shR σ) c_1 ?_
      refine j_iconst C d_qt_hasFound_34 rfl kc_i_0 ?_
      exact j_zret C rfl d_qt_hasFound_35
    · refine J.neg (shR σ) c_1 ?_
      refine j_iload_n C d_qt_hasFound_10 rfl 2 rfl ?_
      refine j_bipush C d_qt_hasFound_11 rfl kc_b_100 ?_
      refine j_icmp_ge C d_qt_hasFound_13 (tgt := 34) (by decide) rfl (fun c_2 => ?_) (fun c_2 => ?_)
      · refine J.pos (shR σ) c_2 ?_
        refine j_iconst C d_qt_hasFound_34 rfl kc_i_0 ?_
        exact j_zret C rfl d_qt_hasFound_35
      · refine J.neg (shR σ) c_2 ?_
        refine j_aload_n C d_qt_hasFound_16 rfl 0 rfl ?_
        refine qt_r_symbols C k_173 d_qt_hasFound_17 rfl ?_
        refine j_iload_n C d_qt_hasFound_20 rfl 2 rfl ?_
        refine J.inR (fun h_3 => ?_)
        refine qt_l_symbols C (inb_in h_3) d_qt_hasFound_21 rfl rfl ?_
        refine j_iload_n C d_qt_hasFound_22 rfl 1 rfl ?_
        refine j_icmp_ne C d_qt_hasFound_23 (tgt := 28) (by decide) rfl (fun c_4 => ?_) (fun c_4 => ?_)
        · refine J.neg (shR σ) c_4 ?_
          refine j_iinc C (v := (x2 + (1 : Int32))) (lv' := [(2, .int (x2 + (1 : Int32))), (0, .ref (kq (gK Γ) 4)), (1, .int x1)]) d_qt_hasFound_28 rfl 2 rfl (kc_inc_1 _) (by decide) rfl ?_
          refine j_goto C d_qt_hasFound_31 (tgt := 2) (by decide) ?_
          refine J.loc (lv' := [(0, .ref (kq (gK Γ) 4)), (1, .int x1), (2, .int (x2 + (1 : Int32)))]) [1, 2, 0] rfl ?_
          exact ih σ x1 (x2 + (1 : Int32))
        · refine J.pos (shR σ) c_4 ?_
          refine j_iconst C d_qt_hasFound_26 rfl kc_i_1 ?_
          exact j_zret C rfl d_qt_hasFound_27
theorem w_qt_hasFound {Γ : cx_T} (C : cx_C Γ (qt_w (gK Γ)) qcl qt_R qt_hasFound_c 3 (some .boolean) (0, 0)) (N : Nat) (σ : qt_S) (a1 : Int32) : J Γ (qt_w (gK Γ)) qcl (QF Γ (qt_w (gK Γ)) qcl ovI) ((shR σ) (qt_hasFound N σ a1)) σ 0 [(0, .ref (kq (gK Γ) 4)), (1, .int a1)] [] := by
  unfold qt_hasFound
  refine j_iconst C d_qt_hasFound_0 rfl kc_i_0 ?_
  refine j_istore_n C (lv' := [(2, .int (0 : Int32)), (0, .ref (kq (gK Γ) 4)), (1, .int a1)]) d_qt_hasFound_1 rfl rfl (by decide) rfl ?_
  refine J.loc (lv' := [(0, .ref (kq (gK Γ) 4)), (1, .int a1), (2, .int (0 : Int32))]) [1, 2, 0] rfl ?_
  exact w_qt_hasFound_L2 C N N σ a1 (0 : Int32)
theorem mc_qt_hasFound (l : Launch) (K : kk_T) (N : Nat) (σ : qt_S) (a1 : Int32) (r : Int32) (h : qt_hasFound N σ a1 = some r) : MC l qt_hasFound_y qt_hasFound_c 3 (some .boolean) (0, 0) K (qt_w K) qcl σ [.ref (kq K 4), .int a1] (some (.int r)) σ := mc_of (ov := ovI) (X := (shR σ) (qt_hasFound N σ a1)) (by decide +kernel) (Nat.le_of_ble_eq_true rfl) (fun _ => rfl) (by rw [h]; rfl) (fun Γ e1 e2 C => by subst e1; subst e2; exact w_qt_hasFound C N σ a1)
theorem qt_hasFound_I : ck_V qt_hasFound_y qt_hasFound_c 3 (some .boolean) 1 := ⟨k_646, k_100, by decide +kernel, k_644, k_645⟩
theorem w_qt_isParameterTree_L13 {Γ : cx_T} (C : cx_C Γ (qt_w (gK Γ)) qcl qt_R qt_isParameterTree_c 7 (some .boolean) (2, 48)) (N : Nat) : ∀ (k : Nat) (σ : qt_S) (x3 : Int32) (x4 : Int32), J Γ (qt_w (gK Γ)) qcl (QF Γ (qt_w (gK Γ)) qcl ovI) (shO (qt_isParameterTree_L13 N k σ x3 x4)) σ 13 [(0, .ref (kq (gK Γ) 4)), (3, .int x3), (4, .int x4)] [] := by
  intro k
  induction k with
  | zero => intro σ x3 x4; exact J.none rfl
  | succ k ih =>
    intro σ x3 x4
    rw [qt_isParameterTree_L13]
    refine j_iload C d_qt_isParameterTree_13 rfl 2 rfl ?_
    refine j_sipush C d_qt_isParameterTree_15 rfl kc_s_201 ?_
    refine j_icmp_ge C d_qt_isParameterTree_18 (tgt := 166) (by decide) rfl (fun c_1 => ?_) (fun c_1 => ?_)
    · refine J.pos shO c_1 ?_
      refine j_aload_n C d_qt_isParameterTree_166 rfl 0 rfl ?_
      refine qt_r_pendingCount C k_172 d_qt_isParameterTree_167 rfl rfl ?_
      refine j_if_ne C d_qt_isParameterTree_170 (tgt := 177) (by decide) rfl (fun c_2 => ?_) (fun c_2 => ?_)
      · refine J.neg shO c_2 ?_
        refine j_iconst C d_qt_isParameterTree_177 rfl kc_i_0 ?_
        exact j_zret C rfl d_qt_isParameterTree_178
      · refine J.pos shO c_2 ?_
        refine j_iconst C d_qt_isParameterTree_173 rfl kc_i_1 ?_
        refine j_goto C d_qt_isParameterTree_174 (tgt := 178) (by decide) ?_
        exact j_zret C rfl d_qt_isParameterTree_178
    · refine J.neg shO c_1 ?_
      refine j_aload_n C d_qt_isParameterTree_21 rfl 0 rfl ?_
      refine qt_r_pendingCount C k_172 d_qt_isParameterTree_22 rfl rfl ?_
      refine j_if_le C d_qt_isParameterTree_25 (tgt := 166) (by decide) rfl (fun c_3 => ?_) (fun c_3 => ?_)
      · refine J.pos shO c_3 ?_
        refine j_aload_n C d_qt_isParameterTree_166 rfl 0 rfl ?_
        refine qt_r_pendingCount C k_172 d_qt_isParameterTree_167 rfl rfl ?_
        refine j_if_ne C d_qt_isParameterTree_170 (tgt := 177) (by decide) rfl (fun c_4 => ?_) (fun c_4 => ?_)
        · refine J.neg shO c_4 ?_
          refine j_iconst C d_qt_isParameterTree_177 rfl kc_i_0 ?_
          exact j_zret C rfl d_qt_isParameterTree_178
        · refine J.pos shO c_4 ?_
          refine j_iconst C d_qt_isParameterTree_173 rfl kc_i_1 ?_
          refine j_goto C d_qt_isParameterTree_174 (tgt := 178) (by decide) ?_
          exact j_zret C rfl d_qt_isParameterTree_178
      · refine J.neg shO c_3 ?_
        refine j_aload_n C d_qt_isParameterTree_28 rfl 0 rfl ?_
        refine cv_qt_qt C (mc_qt_takeTree (gl Γ) (gK Γ) σ) qt_takeTree_I k_570 (by decide) d_qt_isParameterTree_29 rfl (rest := []) rfl ⟨rfl, Nat.le_of_ble_eq_true rfl⟩ ?_
        refine j_lstore C (lv' := [(5, .long (qt_takeTree σ).1), (0, .ref (kq (gK Γ) 4)), (3, .int x3), (4, .int x4)]) d_qt_isParameterTree_32 rfl (by decide) rfl ?_
        refine j_lload C d_qt_isParameterTree_34 rfl 0 rfl ?_
        refine cs_qt C (mc_qw_kindOf (gl Γ) (gK Γ) (qt_takeTree σ).1) qw_kindOf_I k_579 (by decide) d_qt_isParameterTree_36 rfl (rest := []) rfl (Nat.le_of_ble_eq_true rfl) ?_
        refine J.cas shO (fun c_5 => ?_) (fun c_5 => ?_)
        · refine j_tblIn C d_qt_isParameterTree_39 (2 : Int32) c_5 (by decide) (by decide) rfl (tgt := 126) (by decide) ?_
          refine j_aload_n C d_qt_isParameterTree_126 rfl 1 rfl ?_
          refine j_lload C d_qt_isParameterTree_127 rfl 0 rfl ?_
          refine cs_qt C (mc_qw_rowOf (gl Γ) (gK Γ) (qt_takeTree σ).1) qw_rowOf_I k_582 (by decide) d_qt_isParameterTree_129 rfl (rest := [.ref (kq (gK Γ) 4)]) rfl (Nat.le_of_ble_eq_true rfl) ?_
          refine J.goO (fun r6 h_7 => ?_)
          refine cvr_qt_qt C (mc_qt_hasFound (gl Γ) (gK Γ) N (qt_takeTree σ).2 (qw_rowOf (qt_takeTree σ).1) r6 h_7) qt_hasFound_I k_643 (by decide) d_qt_isParameterTree_132 rfl (rest := []) rfl ⟨rfl, Nat.le_of_ble_eq_true rfl⟩ ?_
          refine j_if_eq C d_qt_isParameterTree_135 (tgt := 140) (by decide) rfl (fun c_8 => ?_) (fun c_8 => ?_)
          · refine J.pos shO c_8 ?_
            refine j_aload_n C d_qt_isParameterTree_140 rfl 1 rfl ?_
            refine j_lload C d_qt_isParameterTree_141 rfl 0 rfl ?_
            refine cs_qt C (mc_qw_rowOf (gl Γ) (gK Γ) (qt_takeTree σ).1) qw_rowOf_I k_582 (by decide) d_qt_isParameterTree_143 rfl (rest := [.ref (kq (gK Γ) 4)]) rfl (Nat.le_of_ble_eq_true rfl) ?_
            refine j_ldc2 C d_qt_isParameterTree_146 rfl k_574 ?_
            refine cv0_qt_qt C (mc_qt_find (gl Γ) (gK Γ) (qt_takeTree σ).2 (qw_rowOf (qt_takeTree σ).1) (3 : Int64)) qt_find_I k_583 (by decide) d_qt_isParameterTree_149 rfl (rest := []) rfl ⟨rfl, Nat.le_of_ble_eq_true rfl⟩ ?_
            refine j_goto C d_qt_isParameterTree_152 (tgt := 160) (by decide) ?_
            refine j_iinc C (v := (x4 + (1 : Int32))) (lv' := [(4, .int (x4 + (1 : Int32))), (5, .long (qt_takeTree σ).1), (0, .ref (kq (gK Γ) 4)), (3, .int x3)]) d_qt_isParameterTree_160 rfl 3 rfl (kc_inc_1 _) (by decide) rfl ?_
            refine j_goto C d_qt_isParameterTree_163 (tgt := 13) (by decide) ?_
            refine J.loc (lv' := [(0, .ref (kq (gK Γ) 4)), (3, .int x3), (4, .int (x4 + (1 : Int32)))]) [2, 3, 0] rfl ?_
            exact ih (qt_find (qt_takeTree σ).2 (qw_rowOf (qt_takeTree σ).1) (3 : Int64)) x3 (x4 + (1 : Int32))
          · refine J.neg shO c_8 ?_
            refine j_iconst C d_qt_isParameterTree_138 rfl kc_i_0 ?_
            exact j_zret C rfl d_qt_isParameterTree_139
        · skip
          refine J.cas shO (fun c_9 => ?_) (fun c_9 => ?_)
          · refine j_tblIn C d_qt_isParameterTree_39 (3 : Int32) c_9 (by decide) (by decide) rfl (tgt := 155) (by decide) ?_
            refine j_goto C d_qt_isParameterTree_155 (tgt := 160) (by decide) ?_
            refine j_iinc C (v := (x4 + (1 : Int32))) (lv' := [(4, .int (x4 + (1 : Int32))), (5, .long (qt_takeTree σ).1), (0, .ref (kq (gK Γ) 4)), (3, .int x3)]) d_qt_isParameterTree_160 rfl 3 rfl (kc_inc_1 _) (by decide) rfl ?_
            refine j_goto C d_qt_isParameterTree_163 (tgt := 13) (by decide) ?_
            refine J.loc (lv' := [(0, .ref (kq (gK Γ) 4)), (3, .int x3), (4, .int (x4 + (1 : Int32)))]) [2, 3, 0] rfl ?_
            exact ih (qt_takeTree σ).2 x3 (x4 + (1 : Int32))
          · skip
            refine J.cas shO (fun c_10 => ?_) (fun c_10 => ?_)
            · refine j_tblIn C d_qt_isParameterTree_39 (4 : Int32) c_10 (by decide) (by decide) rfl (tgt := 80) (by decide) ?_
              refine j_iinc C (v := (x3 + (1 : Int32))) (lv' := [(3, .int (x3 + (1 : Int32))), (5, .long (qt_takeTree σ).1), (0, .ref (kq (gK Γ) 4)), (4, .int x4)]) d_qt_isParameterTree_80 rfl 2 rfl (kc_inc_1 _) (by decide) rfl ?_
              refine j_iload_n C d_qt_isParameterTree_83 rfl 0 rfl ?_
              refine j_bipush C d_qt_isParameterTree_84 rfl kc_b_100 ?_
              refine j_icmp_le C d_qt_isParameterTree_86 (tgt := 91) (by decide) rfl (fun c_11 => ?_) (fun c_11 => ?_)
              · refine J.pos shO c_11 ?_
                refine j_aload_n C d_qt_isParameterTree_91 rfl 2 rfl ?_
                refine j_aload_n C d_qt_isParameterTree_92 rfl 2 rfl ?_
                refine qt_r_heap C k_169 d_qt_isParameterTree_93 rfl ?_
                refine j_lload C d_qt_isParameterTree_96 rfl 1 rfl ?_
                refine cvr_qt_qh C (mc_qh_cdrOf (gl Γ) (gK Γ) (qt_gH (qt_takeTree σ).2) (qt_takeTree σ).1) qh_cdrOf_I k_580 (by decide) d_qt_isParameterTree_98 rfl (rest := [.ref (kq (gK Γ) 4)]) rfl ⟨rfl, Nat.le_of_ble_eq_true rfl⟩ ?_
                refine j_ldc2 C d_qt_isParameterTree_101 rfl k_574 ?_
                refine cv0_qt_qt C (mc_qt_putOff (gl Γ) (gK Γ) (qt_takeTree σ).2 (qh_cdrOf (qt_gH (qt_takeTree σ).2) (qt_takeTree σ).1) (3 : Int64)) qt_putOff_I k_566 (by decide) d_qt_isParameterTree_104 rfl (rest := []) rfl ⟨rfl, Nat.le_of_ble_eq_true rfl⟩ ?_
                refine j_aload_n C d_qt_isParameterTree_107 rfl 2 rfl ?_
                refine j_aload_n C d_qt_isParameterTree_108 rfl 2 rfl ?_
                refine qt_r_heap C k_169 d_qt_isParameterTree_109 rfl ?_
                refine j_lload C d_qt_isParameterTree_112 rfl 1 rfl ?_
                refine cvr_qt_qh C (mc_qh_carOf (gl Γ) (gK Γ) (qt_gH (qt_putOff (qt_takeTree σ).2 (qh_cdrOf (qt_gH (qt_takeTree σ).2) (qt_takeTree σ).1) (3 : Int64))) (qt_takeTree σ).1) qh_carOf_I k_581 (by decide) d_qt_isParameterTree_114 rfl (rest := [.ref (kq (gK Γ) 4)]) rfl ⟨rfl, Nat.le_of_ble_eq_true rfl⟩ ?_
                refine j_ldc2 C d_qt_isParameterTree_117 rfl k_574 ?_
                refine cv0_qt_qt C (mc_qt_putOff (gl Γ) (gK Γ) (qt_putOff (qt_takeTree σ).2 (qh_cdrOf (qt_gH (qt_takeTree σ).2) (qt_takeTree σ).1) (3 : Int64)) (qh_carOf (qt_gH (qt_putOff (qt_takeTree σ).2 (qh_cdrOf (qt_gH (qt_takeTree σ).2) (qt_takeTree σ).1) (3 : Int64))) (qt_takeTree σ).1) (3 : Int64)) qt_putOff_I k_566 (by decide) d_qt_isParameterTree_120 rfl (rest := []) rfl ⟨rfl, Nat.le_of_ble_eq_true rfl⟩ ?_
                refine j_goto C d_qt_isParameterTree_123 (tgt := 160) (by decide) ?_
                refine j_iinc C (v := (x4 + (1 : Int32))) (lv' := [(4, .int (x4 + (1 : Int32))), (3, .int (x3 + (1 : Int32))), (5, .long (qt_takeTree σ).1), (0, .ref (kq (gK Γ) 4))]) d_qt_isParameterTree_160 rfl 3 rfl (kc_inc_1 _) (by decide) rfl ?_
                refine j_goto C d_qt_isParameterTree_163 (tgt := 13) (by decide) ?_
                refine J.loc (lv' := [(0, .ref (kq (gK Γ) 4)), (3, .int (x3 + (1 : Int32))), (4, .int (x4 + (1 : Int32)))]) [3, 1, 0] rfl ?_
                exact ih (qt_putOff (qt_putOff (qt_takeTree σ).2 (qh_cdrOf (qt_gH (qt_takeTree σ).2) (qt_takeTree σ).1) (3 : Int64)) (qh_carOf (qt_gH (qt_putOff (qt_takeTree σ).2 (qh_cdrOf (qt_gH (qt_takeTree σ).2) (qt_takeTree σ).1) (3 : Int64))) (qt_takeTree σ).1) (3 : Int64)) (x3 + (1 : Int32)) (x4 + (1 : Int32))
              · refine J.neg shO c_11 ?_
                refine j_iconst C d_qt_isParameterTree_89 rfl kc_i_0 ?_
                exact j_zret C rfl d_qt_isParameterTree_90
            · skip
              refine J.cas shO (fun c_12 => ?_) (fun c_12 => ?_)
              · refine j_tblIn C d_qt_isParameterTree_39 (5 : Int32) c_12 (by decide) (by decide) rfl (tgt := 158) (by decide) ?_
                refine j_iconst C d_qt_isParameterTree_158 rfl kc_i_0 ?_
                exact j_zret C rfl d_qt_isParameterTree_159
              · skip
                refine J.cas shO (fun c_13 => ?_) (fun c_13 => ?_)
                · refine j_tblIn C d_qt_isParameterTree_39 (6 : Int32) c_13 (by decide) (by decide) rfl (tgt := 158) (by decide) ?_
                  refine j_iconst C d_qt_isParameterTree_158 rfl kc_i_0 ?_
                  exact j_zret C rfl d_qt_isParameterTree_159
                · skip
                  refine J.cas shO (fun c_14 => ?_) (fun c_14 => ?_)
                  · refine j_tblIn C d_qt_isParameterTree_39 (7 : Int32) c_14 (by decide) (by decide) rfl (tgt := 158) (by decide) ?_
                    refine j_iconst C d_qt_isParameterTree_158 rfl kc_i_0 ?_
                    exact j_zret C rfl d_qt_isParameterTree_159
                  · skip
                    refine J.cas shO (fun c_15 => ?_) (fun c_15 => ?_)
                    · refine j_tblIn C d_qt_isParameterTree_39 (8 : Int32) c_15 (by decide) (by decide) rfl (tgt := 155) (by decide) ?_
                      refine j_goto C d_qt_isParameterTree_155 (tgt := 160) (by decide) ?_
                      refine j_iinc C (v := (x4 + (1 : Int32))) (lv' := [(4, .int (x4 + (1 : Int32))), (5, .long (qt_takeTree σ).1), (0, .ref (kq (gK Γ) 4)), (3, .int x3)]) d_qt_isParameterTree_160 rfl 3 rfl (kc_inc_1 _) (by decide) rfl ?_
                      refine j_goto C d_qt_isParameterTree_163 (tgt := 13) (by decide) ?_
                      refine J.loc (lv' := [(0, .ref (kq (gK Γ) 4)), (3, .int x3), (4, .int (x4 + (1 : Int32)))]) [2, 3, 0] rfl ?_
                      exact ih (qt_takeTree σ).2 x3 (x4 + (1 : Int32))
                    · skip
                      refine j_tblOut C d_qt_isParameterTree_39 (tgt := 158) (by decide) (by have h0 := lv_neT c_5 (a := 2) rfl; have h1 := lv_neT c_9 (a := 3) rfl; have h2 := lv_neT c_10 (a := 4) rfl; have h3 := lv_neT c_12 (a := 5) rfl; have h4 := lv_neT c_13 (a := 6) rfl; have h5 := lv_neT c_14 (a := 7) rfl; have h6 := lv_neT c_15 (a := 8) rfl; omega) ?_
                      refine j_iconst C d_qt_isParameterTree_158 rfl kc_i_0 ?_
                      exact j_zret C rfl d_qt_isParameterTree_159
theorem w_qt_isParameterTree {Γ : cx_T} (C : cx_C Γ (qt_w (gK Γ)) qcl qt_R qt_isParameterTree_c 7 (some .boolean) (2, 48)) (N : Nat) (σ : qt_S) (a1 : Int64) : J Γ (qt_w (gK Γ)) qcl (QF Γ (qt_w (gK Γ)) qcl ovI) (shO (qt_isParameterTree N σ a1)) σ 0 [(0, .ref (kq (gK Γ) 4)), (1, .long a1)] [] := by
  unfold qt_isParameterTree
  refine j_aload_n C d_qt_isParameterTree_0 rfl 0 rfl ?_
  refine j_lload_n C d_qt_isParameterTree_1 rfl 1 rfl ?_
  refine j_ldc2 C d_qt_isParameterTree_2 rfl k_574 ?_
  refine cv0_qt_qt C (mc_qt_start (gl Γ) (gK Γ) σ a1 (3 : Int64)) qt_start_I k_562 (by decide) d_qt_isParameterTree_5 rfl (rest := []) rfl ⟨rfl, Nat.le_of_ble_eq_true rfl⟩ ?_
  refine j_iconst C d_qt_isParameterTree_8 rfl kc_i_0 ?_
  refine j_istore_n C (lv' := [(3, .int (0 : Int32)), (0, .ref (kq (gK Γ) 4)), (1, .long a1)]) d_qt_isParameterTree_9 rfl rfl (by decide) rfl ?_
  refine j_iconst C d_qt_isParameterTree_10 rfl kc_i_0 ?_
  refine j_istore C (lv' := [(4, .int (0 : Int32)), (3, .int (0 : Int32)), (0, .ref (kq (gK Γ) 4)), (1, .long a1)]) d_qt_isParameterTree_11 rfl (by decide) rfl ?_
  refine J.loc (lv' := [(0, .ref (kq (gK Γ) 4)), (3, .int (0 : Int32)), (4, .int (0 : Int32))]) [2, 1, 0] rfl ?_
  exact w_qt_isParameterTree_L13 C N N (qt_start σ a1 (3 : Int64)) (0 : Int32) (0 : Int32)
theorem mc_qt_isParameterTree (l : Launch) (K : kk_T) (N : Nat) (σ : qt_S) (a1 : Int64) (r : Int32 × qt_S) (h : qt_isParameterTree N σ a1 = some r) : MC l qt_isParameterTree_y qt_isParameterTree_c 7 (some .boolean) (2, 48) K (qt_w K) qcl σ [.ref (kq K 4), .long a1] (some (.int r.1)) r.2 := mc_of (ov := ovI) (X := shO (qt_isParameterTree N σ a1)) (by decide +kernel) (Nat.le_of_ble_eq_true rfl) (fun _ => rfl) (by rw [h]; rfl) (fun Γ e1 e2 C => by subst e1; subst e2; exact w_qt_isParameterTree C N σ a1)
theorem qt_isParameterTree_I : ck_V qt_isParameterTree_y qt_isParameterTree_c 7 (some .boolean) 1 := ⟨k_642, k_100, by decide +kernel, k_640, k_641⟩
theorem w_qf_isEmpty {Γ : cx_T} (C : cx_C Γ (qf_w (gK Γ)) qcl qf_R qf_isEmpty_c 1 (some .boolean) (0, 0)) (σ : qf_S)  : J Γ (qf_w (gK Γ)) qcl (QF Γ (qf_w (gK Γ)) qcl ovI) ((shP σ) (qf_isEmpty σ)) σ 0 [(0, .ref (kq (gK Γ) 9))] [] := by
  unfold qf_isEmpty
  refine j_aload_n C d_qf_isEmpty_0 rfl 0 rfl ?_
  refine qf_r_count C k_203 d_qf_isEmpty_1 rfl rfl ?_
  refine j_if_gt C d_qf_isEmpty_4 (tgt := 11) (by decide) rfl (fun c_1 => ?_) (fun c_1 => ?_)
  · refine J.pos (shP σ) c_1 ?_
    refine j_iconst C d_qf_isEmpty_11 rfl kc_i_0 ?_
    exact j_zret C rfl d_qf_isEmpty_12
  · refine J.neg (shP σ) c_1 ?_
    refine j_iconst C d_qf_isEmpty_7 rfl kc_i_1 ?_
    refine j_goto C d_qf_isEmpty_8 (tgt := 12) (by decide) ?_
    exact j_zret C rfl d_qf_isEmpty_12
theorem mc_qf_isEmpty (l : Launch) (K : kk_T) (σ : qf_S)  : MC l qf_isEmpty_y qf_isEmpty_c 1 (some .boolean) (0, 0) K (qf_w K) qcl σ [.ref (kq K 9)] (some (.int (qf_isEmpty σ))) σ := mc_of (ov := ovI) (X := (shP σ) (qf_isEmpty σ)) (by decide +kernel) (Nat.le_of_ble_eq_true rfl) (fun _ => rfl) rfl (fun Γ e1 e2 C => by subst e1; subst e2; exact w_qf_isEmpty C σ)
theorem qf_isEmpty_I : ck_V qf_isEmpty_y qf_isEmpty_c 1 (some .boolean) 0 := ⟨k_734, k_101, by decide +kernel, k_732, k_733⟩
theorem w_qf_take {Γ : cx_T} (C : cx_C Γ (qf_w (gK Γ)) qcl qf_R qf_take_c 1 none (0, 0)) (σ : qf_S)  : J Γ (qf_w (gK Γ)) qcl (QF Γ (qf_w (gK Γ)) qcl ovV) (shV (qf_take σ)) σ 0 [(0, .ref (kq (gK Γ) 9))] [] := by
  unfold qf_take
  refine j_aload_n C d_qf_take_0 rfl 0 rfl ?_
  refine qf_r_count C k_203 d_qf_take_1 rfl rfl ?_
  refine j_if_le C d_qf_take_4 (tgt := 17) (by decide) rfl (fun c_1 => ?_) (fun c_1 => ?_)
  · refine J.pos shV c_1 ?_
    exact j_vret C d_qf_take_17
  · refine J.neg shV c_1 ?_
    refine j_aload_n C d_qf_take_7 rfl 0 rfl ?_
    refine j_dup C d_qf_take_8 rfl rfl ?_
    refine qf_r_count C k_203 d_qf_take_9 rfl rfl ?_
    refine j_iconst C d_qf_take_12 rfl kc_i_1 ?_
    refine j_isub C d_qf_take_13 rfl ?_
    refine qf_p_count C k_203 d_qf_take_14 rfl ?_
    exact j_vret C d_qf_take_17
theorem mc_qf_take (l : Launch) (K : kk_T) (σ : qf_S)  : MC l qf_take_y qf_take_c 1 none (0, 0) K (qf_w K) qcl σ [.ref (kq K 9)] none (qf_take σ) := mc_of (ov := ovV) (X := shV (qf_take σ)) (by decide +kernel) (Nat.le_of_ble_eq_true rfl) (fun _ => rfl) rfl (fun Γ e1 e2 C => by subst e1; subst e2; exact w_qf_take C σ)
theorem qf_take_I : ck_V qf_take_y qf_take_c 1 none 0 := ⟨k_738, k_101, by decide +kernel, k_736, k_737⟩
theorem w_qf_canRead {Γ : cx_T} (C : cx_C Γ (qf_w (gK Γ)) qcl qf_R qf_canRead_c 1 (some .boolean) (0, 0)) (σ : qf_S)  : J Γ (qf_w (gK Γ)) qcl (QF Γ (qf_w (gK Γ)) qcl ovI) ((shP σ) (qf_canRead σ)) σ 0 [(0, .ref (kq (gK Γ) 9))] [] := by
  unfold qf_canRead
  refine j_aload_n C d_qf_canRead_0 rfl 0 rfl ?_
  refine qf_r_count C k_203 d_qf_canRead_1 rfl rfl ?_
  refine j_if_lt C d_qf_canRead_4 (tgt := 21) (by decide) rfl (fun c_1 => ?_) (fun c_1 => ?_)
  · refine J.pos (shP σ) c_1 ?_
    refine j_iconst C d_qf_canRead_21 rfl kc_i_0 ?_
    exact j_zret C rfl d_qf_canRead_22
  · refine J.neg (shP σ) c_1 ?_
    refine j_aload_n C d_qf_canRead_7 rfl 0 rfl ?_
    refine qf_r_count C k_203 d_qf_canRead_8 rfl rfl ?_
    refine j_sipush C d_qf_canRead_11 rfl kc_s_300 ?_
    refine j_icmp_ge C d_qf_canRead_14 (tgt := 21) (by decide) rfl (fun c_2 => ?_) (fun c_2 => ?_)
    · refine J.pos (shP σ) c_2 ?_
      refine j_iconst C d_qf_canRead_21 rfl kc_i_0 ?_
      exact j_zret C rfl d_qf_canRead_22
    · refine J.neg (shP σ) c_2 ?_
      refine j_iconst C d_qf_canRead_17 rfl kc_i_1 ?_
      refine j_goto C d_qf_canRead_18 (tgt := 22) (by decide) ?_
      exact j_zret C rfl d_qf_canRead_22
theorem mc_qf_canRead (l : Launch) (K : kk_T) (σ : qf_S)  : MC l qf_canRead_y qf_canRead_c 1 (some .boolean) (0, 0) K (qf_w K) qcl σ [.ref (kq K 9)] (some (.int (qf_canRead σ))) σ := mc_of (ov := ovI) (X := (shP σ) (qf_canRead σ)) (by decide +kernel) (Nat.le_of_ble_eq_true rfl) (fun _ => rfl) rfl (fun Γ e1 e2 C => by subst e1; subst e2; exact w_qf_canRead C σ)
theorem qf_canRead_I : ck_V qf_canRead_y qf_canRead_c 1 (some .boolean) 0 := ⟨k_746, k_101, by decide +kernel, k_745, k_51⟩
theorem qf_canRead_in {σ : qf_S} (h : ¬ qf_canRead σ = 0) : vp_in (qf_g_count σ) 300 := by
  unfold qf_canRead at h
  by_cases h0 : qf_g_count σ < 0
  · rw [if_pos h0] at h; exact absurd rfl h
  · by_cases h1 : (300 : Int32) ≤ qf_g_count σ
    · rw [if_neg h0, if_pos h1] at h; exact absurd rfl h
    · exact in_a (M := 300) h0 h1 (by decide) (Nat.le_of_ble_eq_true rfl)
theorem w_qf_environment {Γ : cx_T} (C : cx_C Γ (qf_w (gK Γ)) qcl qf_R qf_environment_c 1 (some .int) (1, 20)) (σ : qf_S)  : J Γ (qf_w (gK Γ)) qcl (QF Γ (qf_w (gK Γ)) qcl ovI) ((shP σ) (qf_environment σ)) σ 0 [(0, .ref (kq (gK Γ) 9))] [] := by
  unfold qf_environment
  refine j_aload_n C d_qf_environment_0 rfl 0 rfl ?_
  refine cvr_qf_qf C (mc_qf_canRead (gl Γ) (gK Γ) σ) qf_canRead_I k_743 (by decide) d_qf_environment_1 rfl (rest := []) rfl ⟨rfl, Nat.le_of_ble_eq_true rfl⟩ ?_
  refine j_if_eq C d_qf_environment_4 (tgt := 19) (by decide) rfl (fun c_1 => ?_) (fun c_1 => ?_)
  · refine J.pos (shP σ) c_1 ?_
    refine j_iconst C d_qf_environment_19 rfl kc_i_m1 ?_
    exact j_iret C d_qf_environment_20
  · refine J.neg (shP σ) c_1 ?_
    refine j_aload_n C d_qf_environment_7 rfl 0 rfl ?_
    refine qf_r_environments C k_199 d_qf_environment_8 rfl ?_
    refine j_aload_n C d_qf_environment_11 rfl 0 rfl ?_
    refine qf_r_count C k_203 d_qf_environment_12 rfl rfl ?_
    refine qf_l_environments C (qf_canRead_in c_1) d_qf_environment_15 rfl rfl ?_
    refine j_goto C d_qf_environment_16 (tgt := 20) (by decide) ?_
    exact j_iret C d_qf_environment_20
theorem mc_qf_environment (l : Launch) (K : kk_T) (σ : qf_S)  : MC l qf_environment_y qf_environment_c 1 (some .int) (1, 20) K (qf_w K) qcl σ [.ref (kq K 9)] (some (.int (qf_environment σ))) σ := mc_of (ov := ovI) (X := (shP σ) (qf_environment σ)) (by decide +kernel) (Nat.le_of_ble_eq_true rfl) (fun _ => rfl) rfl (fun Γ e1 e2 C => by subst e1; subst e2; exact w_qf_environment C σ)
theorem qf_environment_I : ck_V qf_environment_y qf_environment_c 1 (some .int) 0 := ⟨k_742, k_101, by decide +kernel, k_740, k_741⟩
theorem w_qf_rest {Γ : cx_T} (C : cx_C Γ (qf_w (gK Γ)) qcl qf_R qf_rest_c 1 (some .long) (1, 20)) (σ : qf_S)  : J Γ (qf_w (gK Γ)) qcl (QF Γ (qf_w (gK Γ)) qcl ovL) ((shP σ) (qf_rest σ)) σ 0 [(0, .ref (kq (gK Γ) 9))] [] := by
  unfold qf_rest
  refine j_aload_n C d_qf_rest_0 rfl 0 rfl ?_
  refine cvr_qf_qf C (mc_qf_canRead (gl Γ) (gK Γ) σ) qf_canRead_I k_743 (by decide) d_qf_rest_1 rfl (rest := []) rfl ⟨rfl, Nat.le_of_ble_eq_true rfl⟩ ?_
  refine j_if_eq C d_qf_rest_4 (tgt := 19) (by decide) rfl (fun c_1 => ?_) (fun c_1 => ?_)
  · refine J.pos (shP σ) c_1 ?_
    refine j_ldc2 C d_qf_rest_19 rfl k_751 ?_
    exact j_lret C d_qf_rest_22
  · refine J.neg (shP σ) c_1 ?_
    refine j_aload_n C d_qf_rest_7 rfl 0 rfl ?_
    refine qf_r_rests C k_200 d_qf_rest_8 rfl ?_
    refine j_aload_n C d_qf_rest_11 rfl 0 rfl ?_
    refine qf_r_count C k_203 d_qf_rest_12 rfl rfl ?_
    refine qf_l_rests C (qf_canRead_in c_1) d_qf_rest_15 rfl rfl ?_
    refine j_goto C d_qf_rest_16 (tgt := 22) (by decide) ?_
    exact j_lret C d_qf_rest_22
theorem mc_qf_rest (l : Launch) (K : kk_T) (σ : qf_S)  : MC l qf_rest_y qf_rest_c 1 (some .long) (1, 20) K (qf_w K) qcl σ [.ref (kq K 9)] (some (.long (qf_rest σ))) σ := mc_of (ov := ovL) (X := (shP σ) (qf_rest σ)) (by decide +kernel) (Nat.le_of_ble_eq_true rfl) (fun _ => rfl) rfl (fun Γ e1 e2 C => by subst e1; subst e2; exact w_qf_rest C σ)
theorem qf_rest_I : ck_V qf_rest_y qf_rest_c 1 (some .long) 0 := ⟨k_750, k_101, by decide +kernel, k_748, k_749⟩
theorem w_qf_task {Γ : cx_T} (C : cx_C Γ (qf_w (gK Γ)) qcl qf_R qf_task_c 1 (some .int) (1, 20)) (σ : qf_S)  : J Γ (qf_w (gK Γ)) qcl (QF Γ (qf_w (gK Γ)) qcl ovI) ((shP σ) (qf_task σ)) σ 0 [(0, .ref (kq (gK Γ) 9))] [] := by
  unfold qf_task
  refine j_aload_n C d_qf_task_0 rfl 0 rfl ?_
  refine cvr_qf_qf C (mc_qf_canRead (gl Γ) (gK Γ) σ) qf_canRead_I k_743 (by decide) d_qf_task_1 rfl (rest := []) rfl ⟨rfl, Nat.le_of_ble_eq_true rfl⟩ ?_
  refine j_if_eq C d_qf_task_4 (tgt := 19) (by decide) rfl (fun c_1 => ?_) (fun c_1 => ?_)
  · refine J.pos (shP σ) c_1 ?_
    refine j_iconst C d_qf_task_19 rfl kc_i_0 ?_
    exact j_iret C d_qf_task_20
  · refine J.neg (shP σ) c_1 ?_
    refine j_aload_n C d_qf_task_7 rfl 0 rfl ?_
    refine qf_r_tasks C k_198 d_qf_task_8 rfl ?_
    refine j_aload_n C d_qf_task_11 rfl 0 rfl ?_
    refine qf_r_count C k_203 d_qf_task_12 rfl rfl ?_
    refine qf_l_tasks C (qf_canRead_in c_1) d_qf_task_15 rfl rfl ?_
    refine j_goto C d_qf_task_16 (tgt := 20) (by decide) ?_
    exact j_iret C d_qf_task_20
theorem mc_qf_task (l : Launch) (K : kk_T) (σ : qf_S)  : MC l qf_task_y qf_task_c 1 (some .int) (1, 20) K (qf_w K) qcl σ [.ref (kq K 9)] (some (.int (qf_task σ))) σ := mc_of (ov := ovI) (X := (shP σ) (qf_task σ)) (by decide +kernel) (Nat.le_of_ble_eq_true rfl) (fun _ => rfl) rfl (fun Γ e1 e2 C => by subst e1; subst e2; exact w_qf_task C σ)
theorem qf_task_I : ck_V qf_task_y qf_task_c 1 (some .int) 0 := ⟨k_755, k_101, by decide +kernel, k_753, k_754⟩
theorem w_qf_held {Γ : cx_T} (C : cx_C Γ (qf_w (gK Γ)) qcl qf_R qf_held_c 1 (some .long) (1, 20)) (σ : qf_S)  : J Γ (qf_w (gK Γ)) qcl (QF Γ (qf_w (gK Γ)) qcl ovL) ((shP σ) (qf_held σ)) σ 0 [(0, .ref (kq (gK Γ) 9))] [] := by
  unfold qf_held
  refine j_aload_n C d_qf_held_0 rfl 0 rfl ?_
  refine cvr_qf_qf C (mc_qf_canRead (gl Γ) (gK Γ) σ) qf_canRead_I k_743 (by decide) d_qf_held_1 rfl (rest := []) rfl ⟨rfl, Nat.le_of_ble_eq_true rfl⟩ ?_
  refine j_if_eq C d_qf_held_4 (tgt := 19) (by decide) rfl (fun c_1 => ?_) (fun c_1 => ?_)
  · refine J.pos (shP σ) c_1 ?_
    refine j_ldc2 C d_qf_held_19 rfl k_751 ?_
    exact j_lret C d_qf_held_22
  · refine J.neg (shP σ) c_1 ?_
    refine j_aload_n C d_qf_held_7 rfl 0 rfl ?_
    refine qf_r_helds C k_201 d_qf_held_8 rfl ?_
    refine j_aload_n C d_qf_held_11 rfl 0 rfl ?_
    refine qf_r_count C k_203 d_qf_held_12 rfl rfl ?_
    refine qf_l_helds C (qf_canRead_in c_1) d_qf_held_15 rfl rfl ?_
    refine j_goto C d_qf_held_16 (tgt := 22) (by decide) ?_
    exact j_lret C d_qf_held_22
theorem mc_qf_held (l : Launch) (K : kk_T) (σ : qf_S)  : MC l qf_held_y qf_held_c 1 (some .long) (1, 20) K (qf_w K) qcl σ [.ref (kq K 9)] (some (.long (qf_held σ))) σ := mc_of (ov := ovL) (X := (shP σ) (qf_held σ)) (by decide +kernel) (Nat.le_of_ble_eq_true rfl) (fun _ => rfl) rfl (fun Γ e1 e2 C => by subst e1; subst e2; exact w_qf_held C σ)
theorem qf_held_I : ck_V qf_held_y qf_held_c 1 (some .long) 0 := ⟨k_759, k_101, by decide +kernel, k_757, k_758⟩
theorem w_qf_gathered {Γ : cx_T} (C : cx_C Γ (qf_w (gK Γ)) qcl qf_R qf_gathered_c 1 (some .int) (1, 20)) (σ : qf_S)  : J Γ (qf_w (gK Γ)) qcl (QF Γ (qf_w (gK Γ)) qcl ovI) ((shP σ) (qf_gathered σ)) σ 0 [(0, .ref (kq (gK Γ) 9))] [] := by
  unfold qf_gathered
  refine j_aload_n C d_qf_gathered_0 rfl 0 rfl ?_
  refine cvr_qf_qf C (mc_qf_canRead (gl Γ) (gK Γ) σ) qf_canRead_I k_743 (by decide) d_qf_gathered_1 rfl (rest := []) rfl ⟨rfl, Nat.le_of_ble_eq_true rfl⟩ ?_
  refine j_if_eq C d_qf_gathered_4 (tgt := 19) (by decide) rfl (fun c_1 => ?_) (fun c_1 => ?_)
  · refine J.pos (shP σ) c_1 ?_
    refine j_iconst C d_qf_gathered_19 rfl kc_i_0 ?_
    exact j_iret C d_qf_gathered_20
  · refine J.neg (shP σ) c_1 ?_
    refine j_aload_n C d_qf_gathered_7 rfl 0 rfl ?_
    refine qf_r_gathereds C k_202 d_qf_gathered_8 rfl ?_
    refine j_aload_n C d_qf_gathered_11 rfl 0 rfl ?_
    refine qf_r_count C k_203 d_qf_gathered_12 rfl rfl ?_
    refine qf_l_gathereds C (qf_canRead_in c_1) d_qf_gathered_15 rfl rfl ?_
    refine j_goto C d_qf_gathered_16 (tgt := 20) (by decide) ?_
    exact j_iret C d_qf_gathered_20
theorem mc_qf_gathered (l : Launch) (K : kk_T) (σ : qf_S)  : MC l qf_gathered_y qf_gathered_c 1 (some .int) (1, 20) K (qf_w K) qcl σ [.ref (kq K 9)] (some (.int (qf_gathered σ))) σ := mc_of (ov := ovI) (X := (shP σ) (qf_gathered σ)) (by decide +kernel) (Nat.le_of_ble_eq_true rfl) (fun _ => rfl) rfl (fun Γ e1 e2 C => by subst e1; subst e2; exact w_qf_gathered C σ)
theorem qf_gathered_I : ck_V qf_gathered_y qf_gathered_c 1 (some .int) 0 := ⟨k_763, k_101, by decide +kernel, k_761, k_762⟩
theorem w_qf_greatestCount {Γ : cx_T} (C : cx_C Γ (qf_w (gK Γ)) qcl qf_R qf_greatestCount_c 1 (some .int) (0, 0)) (σ : qf_S)  : J Γ (qf_w (gK Γ)) qcl (QF Γ (qf_w (gK Γ)) qcl ovI) ((shP σ) (qf_greatestCount σ)) σ 0 [(0, .ref (kq (gK Γ) 9))] [] := by
  unfold qf_greatestCount
  refine j_aload_n C d_qf_greatestCount_0 rfl 0 rfl ?_
  refine qf_r_most C k_204 d_qf_greatestCount_1 rfl rfl ?_
  exact j_iret C d_qf_greatestCount_4
theorem mc_qf_greatestCount (l : Launch) (K : kk_T) (σ : qf_S)  : MC l qf_greatestCount_y qf_greatestCount_c 1 (some .int) (0, 0) K (qf_w K) qcl σ [.ref (kq K 9)] (some (.int (qf_greatestCount σ))) σ := mc_of (ov := ovI) (X := (shP σ) (qf_greatestCount σ)) (by decide +kernel) (Nat.le_of_ble_eq_true rfl) (fun _ => rfl) rfl (fun Γ e1 e2 C => by subst e1; subst e2; exact w_qf_greatestCount C σ)
theorem qf_greatestCount_I : ck_V qf_greatestCount_y qf_greatestCount_c 1 (some .int) 0 := ⟨k_816, k_101, by decide +kernel, k_814, k_815⟩
