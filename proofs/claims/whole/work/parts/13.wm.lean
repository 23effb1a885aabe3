theorem gs_qm_around_s_steps (σ : qm_S) (v : Int32) : qm_g_around (qm_s_steps σ v) = qm_g_around σ := rfl
theorem gs_qm_around_t_third (σ : qm_S) (i : Int32) (v : Int64) : qm_g_around (qm_t_third σ i v) = qm_g_around σ := rfl
theorem gs_qm_bound_t_boundSymbol (σ : qm_S) (i : Int32) (v : Int32) : qm_g_bound (qm_t_boundSymbol σ i v) = qm_g_bound σ := rfl
theorem gs_qm_bound_t_boundValue (σ : qm_S) (i : Int32) (v : Int64) : qm_g_bound (qm_t_boundValue σ i v) = qm_g_bound σ := rfl
theorem gs_qm_foundAt_s_found (σ : qm_S) (v : Int64) : qm_g_foundAt (qm_s_found σ v) = qm_g_foundAt σ := rfl
theorem gs_qm_frameAround_s_frames (σ : qm_S) (v : Int32) : qm_g_frameAround (qm_s_frames σ v) = qm_g_frameAround σ := rfl
theorem gs_qm_frameBase_s_frames (σ : qm_S) (v : Int32) : qm_g_frameBase (qm_s_frames σ v) = qm_g_frameBase σ := rfl
theorem gs_qm_frameKind_s_frames (σ : qm_S) (v : Int32) : qm_g_frameKind (qm_s_frames σ v) = qm_g_frameKind σ := rfl
theorem gs_qm_frameOne_s_frames (σ : qm_S) (v : Int32) : qm_g_frameOne (qm_s_frames σ v) = qm_g_frameOne σ := rfl
theorem gs_qm_frameOther_s_frames (σ : qm_S) (v : Int32) : qm_g_frameOther (qm_s_frames σ v) = qm_g_frameOther σ := rfl
theorem gs_qm_frames_t_frameAround (σ : qm_S) (i : Int32) (v : Int64) : qm_g_frames (qm_t_frameAround σ i v) = qm_g_frames σ := rfl
theorem gs_qm_frames_t_frameBase (σ : qm_S) (i : Int32) (v : Int32) : qm_g_frames (qm_t_frameBase σ i v) = qm_g_frames σ := rfl
theorem gs_qm_frames_t_frameKind (σ : qm_S) (i : Int32) (v : Int32) : qm_g_frames (qm_t_frameKind σ i v) = qm_g_frames σ := rfl
theorem gs_qm_frames_t_frameOne (σ : qm_S) (i : Int32) (v : Int64) : qm_g_frames (qm_t_frameOne σ i v) = qm_g_frames σ := rfl
theorem gs_qm_frames_t_frameOther (σ : qm_S) (i : Int32) (v : Int64) : qm_g_frames (qm_t_frameOther σ i v) = qm_g_frames σ := rfl
theorem gv_qm_frames (σ : qm_S) (v : Int32) : qm_g_frames (qm_s_frames σ v) = v := rfl
theorem gs_qm_headOf_t_symbolOf (σ : qm_S) (i : Int32) (v : Int32) : qm_g_headOf (qm_t_symbolOf σ i v) = qm_g_headOf σ := rfl
theorem gs_qm_isGround_s_found (σ : qm_S) (v : Int64) : qm_g_isGround (qm_s_found σ v) = qm_g_isGround σ := rfl
theorem gs_qm_mostFrames_s_frames (σ : qm_S) (v : Int32) : qm_g_mostFrames (qm_s_frames σ v) = qm_g_mostFrames σ := rfl
theorem gs_qm_mostFrames_t_frameAround (σ : qm_S) (i : Int32) (v : Int64) : qm_g_mostFrames (qm_t_frameAround σ i v) = qm_g_mostFrames σ := rfl
theorem gs_qm_mostFrames_t_frameBase (σ : qm_S) (i : Int32) (v : Int32) : qm_g_mostFrames (qm_t_frameBase σ i v) = qm_g_mostFrames σ := rfl
theorem gs_qm_mostFrames_t_frameKind (σ : qm_S) (i : Int32) (v : Int32) : qm_g_mostFrames (qm_t_frameKind σ i v) = qm_g_mostFrames σ := rfl
theorem gs_qm_mostFrames_t_frameOne (σ : qm_S) (i : Int32) (v : Int64) : qm_g_mostFrames (qm_t_frameOne σ i v) = qm_g_mostFrames σ := rfl
theorem gs_qm_mostFrames_t_frameOther (σ : qm_S) (i : Int32) (v : Int64) : qm_g_mostFrames (qm_t_frameOther σ i v) = qm_g_mostFrames σ := rfl
theorem gs_qm_now_s_frames (σ : qm_S) (v : Int32) : qm_g_now (qm_s_frames σ v) = qm_g_now σ := rfl
theorem gs_qm_now_s_steps (σ : qm_S) (v : Int32) : qm_g_now (qm_s_steps σ v) = qm_g_now σ := rfl
theorem gs_qm_objects_t_first (σ : qm_S) (i : Int32) (v : Int64) : qm_g_objects (qm_t_first σ i v) = qm_g_objects σ := rfl
theorem gs_qm_objects_t_groundValue (σ : qm_S) (i : Int32) (v : Int64) : qm_g_objects (qm_t_groundValue σ i v) = qm_g_objects σ := rfl
theorem gs_qm_objects_t_headOf (σ : qm_S) (i : Int32) (v : Int32) : qm_g_objects (qm_t_headOf σ i v) = qm_g_objects σ := rfl
theorem gs_qm_objects_t_isGround (σ : qm_S) (i : Int32) (v : Int32) : qm_g_objects (qm_t_isGround σ i v) = qm_g_objects σ := rfl
theorem gs_qm_objects_t_nextOf (σ : qm_S) (i : Int32) (v : Int32) : qm_g_objects (qm_t_nextOf σ i v) = qm_g_objects σ := rfl
theorem gs_qm_objects_t_second (σ : qm_S) (i : Int32) (v : Int64) : qm_g_objects (qm_t_second σ i v) = qm_g_objects σ := rfl
theorem gs_qm_objects_t_symbolOf (σ : qm_S) (i : Int32) (v : Int32) : qm_g_objects (qm_t_symbolOf σ i v) = qm_g_objects σ := rfl
theorem gs_qm_objects_t_third (σ : qm_S) (i : Int32) (v : Int64) : qm_g_objects (qm_t_third σ i v) = qm_g_objects σ := rfl
theorem gv_qm_objects (σ : qm_S) (v : Int32) : qm_g_objects (qm_s_objects σ v) = v := rfl
theorem gs_qm_present_s_frames (σ : qm_S) (v : Int32) : qm_g_present (qm_s_frames σ v) = qm_g_present σ := rfl
theorem gs_qm_present_s_mostFrames (σ : qm_S) (v : Int32) : qm_g_present (qm_s_mostFrames σ v) = qm_g_present σ := rfl
theorem gs_qm_present_s_resultMany (σ : qm_S) (v : Int32) : qm_g_present (qm_s_resultMany σ v) = qm_g_present σ := rfl
theorem gs_qm_present_s_steps (σ : qm_S) (v : Int32) : qm_g_present (qm_s_steps σ v) = qm_g_present σ := rfl
theorem gs_qm_present_s_values (σ : qm_S) (v : Int32) : qm_g_present (qm_s_values σ v) = qm_g_present σ := rfl
theorem gs_qm_resultMany_s_frames (σ : qm_S) (v : Int32) : qm_g_resultMany (qm_s_frames σ v) = qm_g_resultMany σ := rfl
theorem gs_qm_resultMany_t_results (σ : qm_S) (i : Int32) (v : Int64) : qm_g_resultMany (qm_t_results σ i v) = qm_g_resultMany σ := rfl
theorem gs_qm_stack_s_frames (σ : qm_S) (v : Int32) : qm_g_stack (qm_s_frames σ v) = qm_g_stack σ := rfl
theorem gs_qm_stack_s_mostFrames (σ : qm_S) (v : Int32) : qm_g_stack (qm_s_mostFrames σ v) = qm_g_stack σ := rfl
theorem gs_qm_stack_s_resultMany (σ : qm_S) (v : Int32) : qm_g_stack (qm_s_resultMany σ v) = qm_g_stack σ := rfl
theorem gs_qm_stack_s_steps (σ : qm_S) (v : Int32) : qm_g_stack (qm_s_steps σ v) = qm_g_stack σ := rfl
theorem gs_qm_stack_s_values (σ : qm_S) (v : Int32) : qm_g_stack (qm_s_values σ v) = qm_g_stack σ := rfl
theorem gs_qm_values_s_frames (σ : qm_S) (v : Int32) : qm_g_values (qm_s_frames σ v) = qm_g_values σ := rfl
theorem gs_qm_values_s_mostFrames (σ : qm_S) (v : Int32) : qm_g_values (qm_s_mostFrames σ v) = qm_g_values σ := rfl
theorem gs_qm_values_s_present (σ : qm_S) (v : Int64) : qm_g_values (qm_s_present σ v) = qm_g_values σ := rfl
theorem gs_qm_values_s_resultMany (σ : qm_S) (v : Int32) : qm_g_values (qm_s_resultMany σ v) = qm_g_values σ := rfl
theorem gs_qm_values_s_steps (σ : qm_S) (v : Int32) : qm_g_values (qm_s_steps σ v) = qm_g_values σ := rfl
theorem gs_qm_values_t_stack (σ : qm_S) (i : Int32) (v : Int64) : qm_g_values (qm_t_stack σ i v) = qm_g_values σ := rfl
theorem gv_qm_values (σ : qm_S) (v : Int32) : qm_g_values (qm_s_values σ v) = v := rfl
theorem w_qm_within {Γ : cx_T} (C : cx_C Γ qw_w qcl qm_R qm_within_c 6 (some .boolean) (0, 0)) (a0 : Int64) (a2 : Int64) (a4 : Int64) : J Γ qw_w qcl (QF Γ qw_w qcl ovI) ((shP ()) (qm_within a0 a2 a4)) () 0 [(0, .long a0), (2, .long a2), (4, .long a4)] [] := by
  unfold qm_within
  refine j_lload_n C d_qm_within_0 rfl 0 rfl ?_
  refine j_lload_n C d_qm_within_1 rfl 1 rfl ?_
  refine j_lcmp_lt C d_qm_within_2 d_qm_within_3 (tgt := 17) (by decide) rfl (fun c_1 => ?_) (fun c_1 => ?_)
  · refine J.pos (shP ()) c_1 ?_
    refine j_iconst C d_qm_within_17 rfl kc_i_0 ?_
    exact j_zret C rfl d_qm_within_18
  · refine J.neg (shP ()) c_1 ?_
    refine j_lload_n C d_qm_within_6 rfl 0 rfl ?_
    refine j_lload C d_qm_within_7 rfl 2 rfl ?_
    refine j_lcmp_gt C d_qm_within_9 d_qm_within_10 (tgt := 17) (by decide) rfl (fun c_2 => ?_) (fun c_2 => ?_)
    · refine J.pos (shP ()) c_2 ?_
      refine j_iconst C d_qm_within_17 rfl kc_i_0 ?_
      exact j_zret C rfl d_qm_within_18
    · refine J.neg (shP ()) c_2 ?_
      refine j_iconst C d_qm_within_13 rfl kc_i_1 ?_
      refine j_goto C d_qm_within_14 (tgt := 18) (by decide) ?_
      exact j_zret C rfl d_qm_within_18
theorem mc_qm_within (l : Launch) (K : kk_T) (a0 : Int64) (a2 : Int64) (a4 : Int64) : MC l qm_within_y qm_within_c 6 (some .boolean) (0, 0) K qw_w qcl () [.long a0, .long a2, .long a4] (some (.int (qm_within a0 a2 a4))) () := mc_of (ov := ovI) (X := (shP ()) (qm_within a0 a2 a4)) (by decide +kernel) (Nat.le_of_ble_eq_true rfl) (fun _ => rfl) rfl (fun Γ e1 e2 C => by subst e1; subst e2; exact w_qm_within C a0 a2 a4)
theorem qm_within_I : ck_S qm_within_y qm_within_c 6 (some .boolean) 3 := ⟨k_836, k_102, by decide +kernel, k_835⟩
theorem w_qm_made {Γ : cx_T} (C : cx_C Γ qw_w qcl qm_R qm_made_c 3 (some .long) (0, 0)) (a0 : Int32) (a1 : Int64) : J Γ qw_w qcl (QF Γ qw_w qcl ovL) ((shP ()) (qm_made a0 a1)) () 0 [(0, .int a0), (1, .long a1)] [] := by
  unfold qm_made
  refine j_ldc2 C d_qm_made_0 rfl k_841 ?_
  refine j_lload_n C d_qm_made_3 rfl 1 rfl ?_
  refine j_lmul C d_qm_made_4 rfl ?_
  refine j_iload_n C d_qm_made_5 rfl 0 rfl ?_
  refine j_i2l C d_qm_made_6 rfl ?_
  refine j_ladd C d_qm_made_7 rfl ?_
  exact j_lret C d_qm_made_8
theorem mc_qm_made (l : Launch) (K : kk_T) (a0 : Int32) (a1 : Int64) : MC l qm_made_y qm_made_c 3 (some .long) (0, 0) K qw_w qcl () [.int a0, .long a1] (some (.long (qm_made a0 a1))) () := mc_of (ov := ovL) (X := (shP ()) (qm_made a0 a1)) (by decide +kernel) (Nat.le_of_ble_eq_true rfl) (fun _ => rfl) rfl (fun Γ e1 e2 C => by subst e1; subst e2; exact w_qm_made C a0 a1)
theorem qm_made_I : ck_S qm_made_y qm_made_c 3 (some .long) 2 := ⟨k_840, k_102, by decide +kernel, k_839⟩
theorem w_qm_begin_L43 {Γ : cx_T} (C : cx_C Γ (qm_w (gK Γ)) qcl qm_R qm_begin_c 2 none (1, 25)) (N : Nat) : ∀ (k : Nat) (σ : qm_S) (x1 : Int32), J Γ (qm_w (gK Γ)) qcl (QF Γ (qm_w (gK Γ)) qcl ovV) (shU (qm_begin_L43 N k σ x1)) σ 43 [(0, .ref (kq (gK Γ) 18)), (1, .int x1)] [] := by
  intro k
  induction k with
  | zero => intro σ x1; exact J.none rfl
  | succ k ih =>
    intro σ x1
    rw [qm_begin_L43]
    refine j_iload_n C d_qm_begin_43 rfl 1 rfl ?_
    refine j_bipush C d_qm_begin_44 rfl kc_b_100 ?_
    refine j_icmp_ge C d_qm_begin_46 (tgt := 113) (by decide) rfl (fun c_1 => ?_) (fun c_1 => ?_)
    · refine J.pos shU c_1 ?_
      exact j_vret C d_qm_begin_113
    · refine J.neg shU c_1 ?_
      refine j_aload_n C d_qm_begin_49 rfl 0 rfl ?_
      refine qm_r_isGround C k_850 d_qm_begin_50 rfl ?_
      refine j_iload_n C d_qm_begin_53 rfl 1 rfl ?_
      refine j_iload_n C d_qm_begin_54 rfl 1 rfl ?_
      refine j_bipush C d_qm_begin_55 rfl kc_b_8 ?_
      refine j_icmp_lt C d_qm_begin_57 (tgt := 74) (by decide) rfl (fun c_2 => ?_) (fun c_2 => ?_)
      · refine J.pos shU c_2 ?_
        refine j_iconst C d_qm_begin_74 rfl kc_i_1 ?_
        refine j_goto C d_qm_begin_75 (tgt := 79) (by decide) ?_
        refine J.inU (fun h_3 => ?_)
        refine qm_a_isGround C (inb_in h_3) d_qm_begin_79 rfl ?_
        refine j_aload_n C d_qm_begin_80 rfl 0 rfl ?_
        refine qm_r_groundValue C k_851 d_qm_begin_81 rfl ?_
        refine j_iload_n C d_qm_begin_84 rfl 1 rfl ?_
        refine j_iload_n C d_qm_begin_85 rfl 1 rfl ?_
        refine j_bipush C d_qm_begin_86 rfl kc_b_8 ?_
        refine j_icmp_ge C d_qm_begin_88 (tgt := 95) (by decide) rfl (fun c_4 => ?_) (fun c_4 => ?_)
        · refine J.pos shU c_4 ?_
          refine j_bipush C d_qm_begin_95 rfl kc_b_6 ?_
          refine j_ldc2 C d_qm_begin_97 rfl k_837 ?_
          refine j_iload_n C d_qm_begin_100 rfl 1 rfl ?_
          refine j_i2l C d_qm_begin_101 rfl ?_
          refine j_lsub C d_qm_begin_102 rfl ?_
          refine cs_qm C (mc_qm_made (gl Γ) (gK Γ) (6 : Int32) ((-1 : Int64) - (Int32.toInt64 x1))) qm_made_I k_838 (by decide) d_qm_begin_103 rfl (rest := [.int x1, .ref (kq (gK Γ) 27)]) rfl (Nat.le_of_ble_eq_true rfl) ?_
          refine J.inU (fun h_5 => ?_)
          refine qm_a_groundValue C (inb_in h_5) d_qm_begin_106 rfl ?_
          refine j_iinc C (v := (x1 + (1 : Int32))) (lv' := [(1, .int (x1 + (1 : Int32))), (0, .ref (kq (gK Γ) 18))]) d_qm_begin_107 rfl 1 rfl (kc_inc_1 _) (by decide) rfl ?_
          refine j_goto C d_qm_begin_110 (tgt := 43) (by decide) ?_
          refine J.loc (lv' := [(0, .ref (kq (gK Γ) 18)), (1, .int (x1 + (1 : Int32)))]) [1, 0] rfl ?_
          exact ih (qm_t_groundValue (qm_t_isGround σ x1 (1 : Int32)) x1 (qm_made (6 : Int32) ((-1 : Int64) - (Int32.toInt64 x1)))) (x1 + (1 : Int32))
        · refine J.neg shU c_4 ?_
          refine j_iconst C d_qm_begin_91 rfl kc_i_5 ?_
          refine j_goto C d_qm_begin_92 (tgt := 97) (by decide) ?_
          refine j_ldc2 C d_qm_begin_97 rfl k_837 ?_
          refine j_iload_n C d_qm_begin_100 rfl 1 rfl ?_
          refine j_i2l C d_qm_begin_101 rfl ?_
          refine j_lsub C d_qm_begin_102 rfl ?_
          refine cs_qm C (mc_qm_made (gl Γ) (gK Γ) (5 : Int32) ((-1 : Int64) - (Int32.toInt64 x1))) qm_made_I k_838 (by decide) d_qm_begin_103 rfl (rest := [.int x1, .ref (kq (gK Γ) 27)]) rfl (Nat.le_of_ble_eq_true rfl) ?_
          refine J.inU (fun h_6 => ?_)
          refine qm_a_groundValue C (inb_in h_6) d_qm_begin_106 rfl ?_
          refine j_iinc C (v := (x1 + (1 : Int32))) (lv' := [(1, .int (x1 + (1 : Int32))), (0, .ref (kq (gK Γ) 18))]) d_qm_begin_107 rfl 1 rfl (kc_inc_1 _) (by decide) rfl ?_
          refine j_goto C d_qm_begin_110 (tgt := 43) (by decide) ?_
          refine J.loc (lv' := [(0, .ref (kq (gK Γ) 18)), (1, .int (x1 + (1 : Int32)))]) [1, 0] rfl ?_
          exact ih (qm_t_groundValue (qm_t_isGround σ x1 (1 : Int32)) x1 (qm_made (5 : Int32) ((-1 : Int64) - (Int32.toInt64 x1)))) (x1 + (1 : Int32))
      · refine J.neg shU c_2 ?_
        refine j_iload_n C d_qm_begin_60 rfl 1 rfl ?_
        refine j_i2l C d_qm_begin_61 rfl ?_
        refine j_ldc2 C d_qm_begin_62 rfl k_832 ?_
        refine j_ldc2 C d_qm_begin_65 rfl k_833 ?_
        refine cs_qm C (mc_qm_within (gl Γ) (gK Γ) (Int32.toInt64 x1) (10 : Int64) (25 : Int64)) qm_within_I k_834 (by decide) d_qm_begin_68 rfl (rest := [.int x1, .ref (kq (gK Γ) 26)]) rfl (Nat.le_of_ble_eq_true rfl) ?_
        refine j_if_eq C d_qm_begin_71 (tgt := 78) (by decide) rfl (fun c_7 => ?_) (fun c_7 => ?_)
        · refine J.pos shU c_7 ?_
          refine j_iconst C d_qm_begin_78 rfl kc_i_0 ?_
          refine J.inU (fun h_8 => ?_)
          refine qm_a_isGround C (inb_in h_8) d_qm_begin_79 rfl ?_
          refine j_aload_n C d_qm_begin_80 rfl 0 rfl ?_
          refine qm_r_groundValue C k_851 d_qm_begin_81 rfl ?_
          refine j_iload_n C d_qm_begin_84 rfl 1 rfl ?_
          refine j_iload_n C d_qm_begin_85 rfl 1 rfl ?_
          refine j_bipush C d_qm_begin_86 rfl kc_b_8 ?_
          refine j_icmp_ge C d_qm_begin_88 (tgt := 95) (by decide) rfl (fun c_9 => ?_) (fun c_9 => ?_)
          · refine J.pos shU c_9 ?_
            refine j_bipush C d_qm_begin_95 rfl kc_b_6 ?_
            refine j_ldc2 C d_qm_begin_97 rfl k_837 ?_
            refine j_iload_n C d_qm_begin_100 rfl 1 rfl ?_
            refine j_i2l C d_qm_begin_101 rfl ?_
            refine j_lsub C d_qm_begin_102 rfl ?_
            refine cs_qm C (mc_qm_made (gl Γ) (gK Γ) (6 : Int32) ((-1 : Int64) - (Int32.toInt64 x1))) qm_made_I k_838 (by decide) d_qm_begin_103 rfl (rest := [.int x1, .ref (kq (gK Γ) 27)]) rfl (Nat.le_of_ble_eq_true rfl) ?_
            refine J.inU (fun h_10 => ?_)
            refine qm_a_groundValue C (inb_in h_10) d_qm_begin_106 rfl ?_
            refine j_iinc C (v := (x1 + (1 : Int32))) (lv' := [(1, .int (x1 + (1 : Int32))), (0, .ref (kq (gK Γ) 18))]) d_qm_begin_107 rfl 1 rfl (kc_inc_1 _) (by decide) rfl ?_
            refine j_goto C d_qm_begin_110 (tgt := 43) (by decide) ?_
            refine J.loc (lv' := [(0, .ref (kq (gK Γ) 18)), (1, .int (x1 + (1 : Int32)))]) [1, 0] rfl ?_
            exact ih (qm_t_groundValue (qm_t_isGround σ x1 (0 : Int32)) x1 (qm_made (6 : Int32) ((-1 : Int64) - (Int32.toInt64 x1)))) (x1 + (1 : Int32))
          · refine J.neg shU c_9 ?_
            refine j_iconst C d_qm_begin_91 rfl kc_i_5 ?_
            refine j_goto C d_qm_begin_92 (tgt := 97) (by decide) ?_
            refine j_ldc2 C d_qm_begin_97 rfl k_837 ?_
            refine j_iload_n C d_qm_begin_100 rfl 1 rfl ?_
            refine j_i2l C d_qm_begin_101 rfl ?_
            refine j_lsub C d_qm_begin_102 rfl ?_
            refine cs_qm C (mc_qm_made (gl Γ) (gK Γ) (5 : Int32) ((-1 : Int64) - (Int32.toInt64 x1))) qm_made_I k_838 (by decide) d_qm_begin_103 rfl (rest := [.int x1, .ref (kq (gK Γ) 27)]) rfl (Nat.le_of_ble_eq_true rfl) ?_
            refine J.inU (fun h_11 => ?_)
            refine qm_a_groundValue C (inb_in h_11) d_qm_begin_106 rfl ?_
            refine j_iinc C (v := (x1 + (1 : Int32))) (lv' := [(1, .int (x1 + (1 : Int32))), (0, .ref (kq (gK Γ) 18))]) d_qm_begin_107 rfl 1 rfl (kc_inc_1 _) (by decide) rfl ?_
            refine j_goto C d_qm_begin_110 (tgt := 43) (by decide) ?_
            refine J.loc (lv' := [(0, .ref (kq (gK Γ) 18)), (1, .int (x1 + (1 : Int32)))]) [1, 0] rfl ?_
            exact ih (qm_t_groundValue (qm_t_isGround σ x1 (0 : Int32)) x1 (qm_made (5 : Int32) ((-1 : Int64) - (Int32.toInt64 x1)))) (x1 + (1 : Int32))
        · refine J.neg shU c_7 ?_
          refine j_iconst C d_qm_begin_74 rfl kc_i_1 ?_
          refine j_goto C d_qm_begin_75 (tgt := 79) (by decide) ?_
          refine J.inU (fun h_12 => ?_)
          refine qm_a_isGround C (inb_in h_12) d_qm_begin_79 rfl ?_
          refine j_aload_n C d_qm_begin_80 rfl 0 rfl ?_
          refine qm_r_groundValue C k_851 d_qm_begin_81 rfl ?_
          refine j_iload_n C d_qm_begin_84 rfl 1 rfl ?_
          refine j_iload_n C d_qm_begin_85 rfl 1 rfl ?_
          refine j_bipush C d_qm_begin_86 rfl kc_b_8 ?_
          refine j_icmp_ge C d_qm_begin_88 (tgt := 95) (by decide) rfl (fun c_13 => ?_) (fun c_13 => ?_)
          · refine J.pos shU c_13 ?_
            refine j_bipush C d_qm_begin_95 rfl kc_b_6 ?_
            refine j_ldc2 C d_qm_begin_97 rfl k_837 ?_
            refine j_iload_n C d_qm_begin_100 rfl 1 rfl ?_
            refine j_i2l C d_qm_begin_101 rfl ?_
            refine j_lsub C d_qm_begin_102 rfl ?_
            refine cs_qm C (mc_qm_made (gl Γ) (gK Γ) (6 : Int32) ((-1 : Int64) - (Int32.toInt64 x1))) qm_made_I k_838 (by decide) d_qm_begin_103 rfl (rest := [.int x1, .ref (kq (gK Γ) 27)]) rfl (Nat.le_of_ble_eq_true rfl) ?_
            refine J.inU (fun h_14 => ?_)
            refine qm_a_groundValue C (inb_in h_14) d_qm_begin_106 rfl ?_
            refine j_iinc C (v := (x1 + (1 : Int32))) (lv' := [(1, .int (x1 + (1 : Int32))), (0, .ref (kq (gK Γ) 18))]) d_qm_begin_107 rfl 1 rfl (kc_inc_1 _) (by decide) rfl ?_
            refine j_goto C d_qm_begin_110 (tgt := 43) (by decide) ?_
            refine J.loc (lv' := [(0, .ref (kq (gK Γ) 18)), (1, .int (x1 + (1 : Int32)))]) [1, 0] rfl ?_
            exact ih (qm_t_groundValue (qm_t_isGround σ x1 (1 : Int32)) x1 (qm_made (6 : Int32) ((-1 : Int64) - (Int32.toInt64 x1)))) (x1 + (1 : Int32))
          · refine J.neg shU c_13 ?_
            refine j_iconst C d_qm_begin_91 rfl kc_i_5 ?_
            refine j_goto C d_qm_begin_92 (tgt := 97) (by decide) ?_
            refine j_ldc2 C d_qm_begin_97 rfl k_837 ?_
            refine j_iload_n C d_qm_begin_100 rfl 1 rfl ?_
            refine j_i2l C d_qm_begin_101 rfl ?_
            refine j_lsub C d_qm_begin_102 rfl ?_
            refine cs_qm C (mc_qm_made (gl Γ) (gK Γ) (5 : Int32) ((-1 : Int64) - (Int32.toInt64 x1))) qm_made_I k_838 (by decide) d_qm_begin_103 rfl (rest := [.int x1, .ref (kq (gK Γ) 27)]) rfl (Nat.le_of_ble_eq_true rfl) ?_
            refine J.inU (fun h_15 => ?_)
            refine qm_a_groundValue C (inb_in h_15) d_qm_begin_106 rfl ?_
            refine j_iinc C (v := (x1 + (1 : Int32))) (lv' := [(1, .int (x1 + (1 : Int32))), (0, .ref (kq (gK Γ) 18))]) d_qm_begin_107 rfl 1 rfl (kc_inc_1 _) (by decide) rfl ?_
            refine j_goto C d_qm_begin_110 (tgt := 43) (by decide) ?_
            refine J.loc (lv' := [(0, .ref (kq (gK Γ) 18)), (1, .int (x1 + (1 : Int32)))]) [1, 0] rfl ?_
            exact ih (qm_t_groundValue (qm_t_isGround σ x1 (1 : Int32)) x1 (qm_made (5 : Int32) ((-1 : Int64) - (Int32.toInt64 x1)))) (x1 + (1 : Int32))
theorem w_qm_begin {Γ : cx_T} (C : cx_C Γ (qm_w (gK Γ)) qcl qm_R qm_begin_c 2 none (1, 25)) (N : Nat) (σ : qm_S)  : J Γ (qm_w (gK Γ)) qcl (QF Γ (qm_w (gK Γ)) qcl ovV) (shU (qm_begin N σ)) σ 0 [(0, .ref (kq (gK Γ) 18))] [] := by
  unfold qm_begin
  refine j_aload_n C d_qm_begin_0 rfl 0 rfl ?_
  refine j_iconst C d_qm_begin_1 rfl kc_i_0 ?_
  refine qm_p_objects C k_842 d_qm_begin_2 rfl ?_
  refine j_aload_n C d_qm_begin_5 rfl 0 rfl ?_
  refine j_iconst C d_qm_begin_6 rfl kc_i_0 ?_
  refine qm_p_values C k_854 d_qm_begin_7 rfl ?_
  refine j_aload_n C d_qm_begin_10 rfl 0 rfl ?_
  refine j_sipush C d_qm_begin_11 rfl kc_s_1000 ?_
  refine qm_p_limit C k_857 d_qm_begin_14 rfl ?_
  refine j_aload_n C d_qm_begin_17 rfl 0 rfl ?_
  refine j_ldc2 C d_qm_begin_18 rfl k_831 ?_
  refine qm_p_present C k_856 d_qm_begin_21 rfl ?_
  refine j_aload_n C d_qm_begin_24 rfl 0 rfl ?_
  refine j_iconst C d_qm_begin_25 rfl kc_i_0 ?_
  refine qm_p_steps C k_858 d_qm_begin_26 rfl ?_
  refine j_aload_n C d_qm_begin_29 rfl 0 rfl ?_
  refine j_iconst C d_qm_begin_30 rfl kc_i_0 ?_
  refine qm_p_mostFrames C k_859 d_qm_begin_31 rfl ?_
  refine j_aload_n C d_qm_begin_34 rfl 0 rfl ?_
  refine qm_r_headOf C k_849 d_qm_begin_35 rfl ?_
  refine j_iconst C d_qm_begin_38 rfl kc_i_0 ?_
  refine j_iconst C d_qm_begin_39 rfl kc_i_m1 ?_
  refine qm_a_headOf C (vp_in_nI (n := 0) (N := 4002) (Nat.le_of_ble_eq_true rfl) (Nat.le_of_ble_eq_true rfl)) d_qm_begin_40 rfl ?_
  refine j_iconst C d_qm_begin_41 rfl kc_i_0 ?_
  refine j_istore_n C (lv' := [(1, .int (0 : Int32)), (0, .ref (kq (gK Γ) 18))]) d_qm_begin_42 rfl rfl (by decide) rfl ?_
  refine J.loc (lv' := [(0, .ref (kq (gK Γ) 18)), (1, .int (0 : Int32))]) [1, 0] rfl ?_
  exact w_qm_begin_L43 C N N (qm_t_headOf (qm_s_mostFrames (qm_s_steps (qm_s_present (qm_s_limit (qm_s_values (qm_s_objects σ (0 : Int32)) (0 : Int32)) (1000 : Int32)) (-25 : Int64)) (0 : Int32)) (0 : Int32)) (0 : Int32) (-1 : Int32)) (0 : Int32)
theorem mc_qm_begin (l : Launch) (K : kk_T) (N : Nat) (σ : qm_S)  (r : qm_S) (h : qm_begin N σ = some r) : MC l qm_begin_y qm_begin_c 2 none (1, 25) K (qm_w K) qcl σ [.ref (kq K 18)] none r := mc_of (ov := ovV) (X := shU (qm_begin N σ)) (by decide +kernel) (Nat.le_of_ble_eq_true rfl) (fun _ => rfl) (by rw [h]; rfl) (fun Γ e1 e2 C => by subst e1; subst e2; exact w_qm_begin C N σ)
theorem qm_begin_I : ck_V qm_begin_y qm_begin_c 2 none 0 := ⟨k_830, k_102, by decide +kernel, k_829, k_56⟩
theorem w_qm_lost {Γ : cx_T} (C : cx_C Γ qw_w qcl qm_R qm_lost_c 0 (some .long) (0, 0))  : J Γ qw_w qcl (QF Γ qw_w qcl ovL) ((shP ()) (qm_lost)) () 0 [] [] := by
  unfold qm_lost
  refine j_ldc2 C d_qm_lost_0 rfl k_1080 ?_
  exact j_lret C d_qm_lost_3
theorem mc_qm_lost (l : Launch) (K : kk_T)  : MC l qm_lost_y qm_lost_c 0 (some .long) (0, 0) K qw_w qcl () [] (some (.long (qm_lost))) () := mc_of (ov := ovL) (X := (shP ()) (qm_lost)) (by decide +kernel) (Nat.le_of_ble_eq_true rfl) (fun _ => rfl) rfl (fun Γ e1 e2 C => by subst e1; subst e2; exact w_qm_lost C)
theorem qm_lost_I : ck_S qm_lost_y qm_lost_c 0 (some .long) 0 := ⟨k_1079, k_102, by decide +kernel, k_1078⟩
theorem w_qm_kindOf {Γ : cx_T} (C : cx_C Γ qw_w qcl qm_R qm_kindOf_c 2 (some .int) (0, 0)) (a0 : Int64) : J Γ qw_w qcl (QF Γ qw_w qcl ovI) ((shP ()) (qm_kindOf a0)) () 0 [(0, .long a0)] [] := by
  unfold qm_kindOf
  refine j_lload_n C d_qm_kindOf_0 rfl 0 rfl ?_
  refine j_ldc2 C d_qm_kindOf_1 rfl k_1003 ?_
  refine j_land C d_qm_kindOf_4 rfl ?_
  refine j_l2i C d_qm_kindOf_5 rfl ?_
  exact j_iret C d_qm_kindOf_6
theorem mc_qm_kindOf (l : Launch) (K : kk_T) (a0 : Int64) : MC l qm_kindOf_y qm_kindOf_c 2 (some .int) (0, 0) K qw_w qcl () [.long a0] (some (.int (qm_kindOf a0))) () := mc_of (ov := ovI) (X := (shP ()) (qm_kindOf a0)) (by decide +kernel) (Nat.le_of_ble_eq_true rfl) (fun _ => rfl) rfl (fun Γ e1 e2 C => by subst e1; subst e2; exact w_qm_kindOf C a0)
theorem qm_kindOf_I : ck_S qm_kindOf_y qm_kindOf_c 2 (some .int) 1 := ⟨k_1002, k_102, by decide +kernel, k_1001⟩
theorem w_qm_whatOf {Γ : cx_T} (C : cx_C Γ qw_w qcl qm_R qm_whatOf_c 2 (some .long) (0, 0)) (a0 : Int64) : J Γ qw_w qcl (QF Γ qw_w qcl ovL) ((shP ()) (qm_whatOf a0)) () 0 [(0, .long a0)] [] := by
  unfold qm_whatOf
  refine j_lload_n C d_qm_whatOf_0 rfl 0 rfl ?_
  refine j_iconst C d_qm_whatOf_1 rfl kc_i_4 ?_
  refine j_lshr C d_qm_whatOf_2 rfl (kc_shr_4 _) ?_
  exact j_lret C d_qm_whatOf_3
theorem mc_qm_whatOf (l : Launch) (K : kk_T) (a0 : Int64) : MC l qm_whatOf_y qm_whatOf_c 2 (some .long) (0, 0) K qw_w qcl () [.long a0] (some (.long (qm_whatOf a0))) () := mc_of (ov := ovL) (X := (shP ()) (qm_whatOf a0)) (by decide +kernel) (Nat.le_of_ble_eq_true rfl) (fun _ => rfl) rfl (fun Γ e1 e2 C => by subst e1; subst e2; exact w_qm_whatOf C a0)
theorem qm_whatOf_I : ck_S qm_whatOf_y qm_whatOf_c 2 (some .long) 1 := ⟨k_1014, k_102, by decide +kernel, k_1013⟩
theorem w_qm_truth {Γ : cx_T} (C : cx_C Γ qw_w qcl qm_R qm_truth_c 1 (some .long) (1, 22)) (a0 : Int32) : J Γ qw_w qcl (QF Γ qw_w qcl ovL) ((shP ()) (qm_truth a0)) () 0 [(0, .int a0)] [] := by
  unfold qm_truth
  refine j_iconst C d_qm_truth_0 rfl kc_i_1 ?_
  refine j_iload_n C d_qm_truth_1 rfl 0 rfl ?_
  refine j_if_eq C d_qm_truth_2 (tgt := 9) (by decide) rfl (fun c_1 => ?_) (fun c_1 => ?_)
  · refine J.pos (shP ()) c_1 ?_
    refine j_lconst C d_qm_truth_9 rfl kc_l_0 ?_
    refine cs_qw C (mc_qm_made (gl Γ) (gK Γ) (1 : Int32) (0 : Int64)) qm_made_I k_838 (by decide) d_qm_truth_10 rfl (rest := []) rfl (Nat.le_of_ble_eq_true rfl) ?_
    exact j_lret C d_qm_truth_13
  · refine J.neg (shP ()) c_1 ?_
    refine j_lconst C d_qm_truth_5 rfl kc_l_1 ?_
    refine j_goto C d_qm_truth_6 (tgt := 10) (by decide) ?_
    refine cs_qw C (mc_qm_made (gl Γ) (gK Γ) (1 : Int32) (1 : Int64)) qm_made_I k_838 (by decide) d_qm_truth_10 rfl (rest := []) rfl (Nat.le_of_ble_eq_true rfl) ?_
    exact j_lret C d_qm_truth_13
theorem mc_qm_truth (l : Launch) (K : kk_T) (a0 : Int32) : MC l qm_truth_y qm_truth_c 1 (some .long) (1, 22) K qw_w qcl () [.int a0] (some (.long (qm_truth a0))) () := mc_of (ov := ovL) (X := (shP ()) (qm_truth a0)) (by decide +kernel) (Nat.le_of_ble_eq_true rfl) (fun _ => rfl) rfl (fun Γ e1 e2 C => by subst e1; subst e2; exact w_qm_truth C a0)
theorem qm_truth_I : ck_S qm_truth_y qm_truth_c 1 (some .long) 1 := ⟨k_968, k_102, by decide +kernel, k_967⟩
theorem w_qm_indexOf {Γ : cx_T} (C : cx_C Γ (qm_w (gK Γ)) qcl qm_R qm_indexOf_c 3 (some .int) (1, 21)) (σ : qm_S) (a1 : Int64) : J Γ (qm_w (gK Γ)) qcl (QF Γ (qm_w (gK Γ)) qcl ovI) ((shP σ) (qm_indexOf σ a1)) σ 0 [(0, .ref (kq (gK Γ) 18)), (1, .long a1)] [] := by
  unfold qm_indexOf
  refine j_lload_n C d_qm_indexOf_0 rfl 1 rfl ?_
  refine cs_qm C (mc_qm_whatOf (gl Γ) (gK Γ) a1) qm_whatOf_I k_1012 (by decide) d_qm_indexOf_1 rfl (rest := []) rfl (Nat.le_of_ble_eq_true rfl) ?_
  refine j_l2i C d_qm_indexOf_4 rfl ?_
  exact j_iret C d_qm_indexOf_5
theorem mc_qm_indexOf (l : Launch) (K : kk_T) (σ : qm_S) (a1 : Int64) : MC l qm_indexOf_y qm_indexOf_c 3 (some .int) (1, 21) K (qm_w K) qcl σ [.ref (kq K 18), .long a1] (some (.int (qm_indexOf σ a1))) σ := mc_of (ov := ovI) (X := (shP σ) (qm_indexOf σ a1)) (by decide +kernel) (Nat.le_of_ble_eq_true rfl) (fun _ => rfl) rfl (fun Γ e1 e2 C => by subst e1; subst e2; exact w_qm_indexOf C σ a1)
theorem qm_indexOf_I : ck_V qm_indexOf_y qm_indexOf_c 3 (some .int) 1 := ⟨k_1011, k_102, by decide +kernel, k_1010, k_61⟩
theorem w_qm_carOf {Γ : cx_T} (C : cx_C Γ (qm_w (gK Γ)) qcl qm_R qm_carOf_c 3 (some .long) (2, 43)) (σ : qm_S) (a1 : Int64) : J Γ (qm_w (gK Γ)) qcl (QF Γ (qm_w (gK Γ)) qcl ovL) ((shR σ) (qm_carOf σ a1)) σ 0 [(0, .ref (kq (gK Γ) 18)), (1, .long a1)] [] := by
  unfold qm_carOf
  refine j_aload_n C d_qm_carOf_0 rfl 0 rfl ?_
  refine qm_r_first C k_843 d_qm_carOf_1 rfl ?_
  refine j_aload_n C d_qm_carOf_4 rfl 0 rfl ?_
  refine j_lload_n C d_qm_carOf_5 rfl 1 rfl ?_
  refine cvr_qm_qm C (mc_qm_indexOf (gl Γ) (gK Γ) σ a1) qm_indexOf_I k_1008 (by decide) d_qm_carOf_6 rfl (rest := [.ref (kq (gK Γ) 19)]) rfl ⟨rfl, Nat.le_of_ble_eq_true rfl⟩ ?_
  refine J.inR (fun h_1 => ?_)
  refine qm_l_first C (inb_in h_1) d_qm_carOf_9 rfl rfl ?_
  exact j_lret C d_qm_carOf_10
theorem mc_qm_carOf (l : Launch) (K : kk_T) (σ : qm_S) (a1 : Int64) (r : Int64) (h : qm_carOf σ a1 = some r) : MC l qm_carOf_y qm_carOf_c 3 (some .long) (2, 43) K (qm_w K) qcl σ [.ref (kq K 18), .long a1] (some (.long r)) σ := mc_of (ov := ovL) (X := (shR σ) (qm_carOf σ a1)) (by decide +kernel) (Nat.le_of_ble_eq_true rfl) (fun _ => rfl) (by rw [h]; rfl) (fun Γ e1 e2 C => by subst e1; subst e2; exact w_qm_carOf C σ a1)
theorem qm_carOf_I : ck_V qm_carOf_y qm_carOf_c 3 (some .long) 1 := ⟨k_1007, k_102, by decide +kernel, k_1006, k_60⟩
theorem w_qm_cdrOf {Γ : cx_T} (C : cx_C Γ (qm_w (gK Γ)) qcl qm_R qm_cdrOf_c 3 (some .long) (2, 43)) (σ : qm_S) (a1 : Int64) : J Γ (qm_w (gK Γ)) qcl (QF Γ (qm_w (gK Γ)) qcl ovL) ((shR σ) (qm_cdrOf σ a1)) σ 0 [(0, .ref (kq (gK Γ) 18)), (1, .long a1)] [] := by
  unfold qm_cdrOf
  refine j_aload_n C d_qm_cdrOf_0 rfl 0 rfl ?_
  refine qm_r_second C k_844 d_qm_cdrOf_1 rfl ?_
  refine j_aload_n C d_qm_cdrOf_4 rfl 0 rfl ?_
  refine j_lload_n C d_qm_cdrOf_5 rfl 1 rfl ?_
  refine cvr_qm_qm C (mc_qm_indexOf (gl Γ) (gK Γ) σ a1) qm_indexOf_I k_1008 (by decide) d_qm_cdrOf_6 rfl (rest := [.ref (kq (gK Γ) 20)]) rfl ⟨rfl, Nat.le_of_ble_eq_true rfl⟩ ?_
  refine J.inR (fun h_1 => ?_)
  refine qm_l_second C (inb_in h_1) d_qm_cdrOf_9 rfl rfl ?_
  exact j_lret C d_qm_cdrOf_10
theorem mc_qm_cdrOf (l : Launch) (K : kk_T) (σ : qm_S) (a1 : Int64) (r : Int64) (h : qm_cdrOf σ a1 = some r) : MC l qm_cdrOf_y qm_cdrOf_c 3 (some .long) (2, 43) K (qm_w K) qcl σ [.ref (kq K 18), .long a1] (some (.long r)) σ := mc_of (ov := ovL) (X := (shR σ) (qm_cdrOf σ a1)) (by decide +kernel) (Nat.le_of_ble_eq_true rfl) (fun _ => rfl) (by rw [h]; rfl) (fun Γ e1 e2 C => by subst e1; subst e2; exact w_qm_cdrOf C σ a1)
theorem qm_cdrOf_I : ck_V qm_cdrOf_y qm_cdrOf_c 3 (some .long) 1 := ⟨k_1018, k_102, by decide +kernel, k_1017, k_62⟩
theorem w_qm_underOf {Γ : cx_T} (C : cx_C Γ (qm_w (gK Γ)) qcl qm_R qm_underOf_c 3 (some .long) (2, 43)) (σ : qm_S) (a1 : Int64) : J Γ (qm_w (gK Γ)) qcl (QF Γ (qm_w (gK Γ)) qcl ovL) ((shR σ) (qm_underOf σ a1)) σ 0 [(0, .ref (kq (gK Γ) 18)), (1, .long a1)] [] := by
  unfold qm_underOf
  refine j_lload_n C d_qm_underOf_0 rfl 1 rfl ?_
  refine cs_qm C (mc_qm_whatOf (gl Γ) (gK Γ) a1) qm_whatOf_I k_1012 (by decide) d_qm_underOf_1 rfl (rest := []) rfl (Nat.le_of_ble_eq_true rfl) ?_
  refine j_lconst C d_qm_underOf_4 rfl kc_l_0 ?_
  refine j_lcmp_ge C d_qm_underOf_5 d_qm_underOf_6 (tgt := 20) (by decide) rfl (fun c_1 => ?_) (fun c_1 => ?_)
  · refine J.neg (shR σ) c_1 ?_
    refine j_aload_n C d_qm_underOf_20 rfl 0 rfl ?_
    refine qm_r_first C k_843 d_qm_underOf_21 rfl ?_
    refine j_aload_n C d_qm_underOf_24 rfl 0 rfl ?_
    refine j_lload_n C d_qm_underOf_25 rfl 1 rfl ?_
    refine cvr_qm_qm C (mc_qm_indexOf (gl Γ) (gK Γ) σ a1) qm_indexOf_I k_1008 (by decide) d_qm_underOf_26 rfl (rest := [.ref (kq (gK Γ) 19)]) rfl ⟨rfl, Nat.le_of_ble_eq_true rfl⟩ ?_
    refine J.inR (fun h_2 => ?_)
    refine qm_l_first C (inb_in h_2) d_qm_underOf_29 rfl rfl ?_
    exact j_lret C d_qm_underOf_30
  · refine J.pos (shR σ) c_1 ?_
    refine j_iconst C d_qm_underOf_9 rfl kc_i_5 ?_
    refine j_lload_n C d_qm_underOf_10 rfl 1 rfl ?_
    refine cs_qm C (mc_qm_whatOf (gl Γ) (gK Γ) a1) qm_whatOf_I k_1012 (by decide) d_qm_underOf_11 rfl (rest := [.int (5 : Int32)]) rfl (Nat.le_of_ble_eq_true rfl) ?_
    refine cs_qm C (mc_qm_made (gl Γ) (gK Γ) (5 : Int32) (qm_whatOf a1)) qm_made_I k_838 (by decide) d_qm_underOf_14 rfl (rest := []) rfl (Nat.le_of_ble_eq_true rfl) ?_
    refine j_goto C d_qm_underOf_17 (tgt := 30) (by decide) ?_
    exact j_lret C d_qm_underOf_30
theorem mc_qm_underOf (l : Launch) (K : kk_T) (σ : qm_S) (a1 : Int64) (r : Int64) (h : qm_underOf σ a1 = some r) : MC l qm_underOf_y qm_underOf_c 3 (some .long) (2, 43) K (qm_w K) qcl σ [.ref (kq K 18), .long a1] (some (.long r)) σ := mc_of (ov := ovL) (X := (shR σ) (qm_underOf σ a1)) (by decide +kernel) (Nat.le_of_ble_eq_true rfl) (fun _ => rfl) (by rw [h]; rfl) (fun Γ e1 e2 C => by subst e1; subst e2; exact w_qm_underOf C σ a1)
theorem qm_underOf_I : ck_V qm_underOf_y qm_underOf_c 3 (some .long) 1 := ⟨k_1022, k_102, by decide +kernel, k_1021, k_63⟩
theorem w_qm_parentOf {Γ : cx_T} (C : cx_C Γ (qm_w (gK Γ)) qcl qm_R qm_parentOf_c 3 (some .long) (2, 43)) (σ : qm_S) (a1 : Int64) : J Γ (qm_w (gK Γ)) qcl (QF Γ (qm_w (gK Γ)) qcl ovL) ((shR σ) (qm_parentOf σ a1)) σ 0 [(0, .ref (kq (gK Γ) 18)), (1, .long a1)] [] := by
  unfold qm_parentOf
  refine j_lload_n C d_qm_parentOf_0 rfl 1 rfl ?_
  refine j_ldc2 C d_qm_parentOf_1 rfl k_1027 ?_
  refine j_lcmp_ne C d_qm_parentOf_4 d_qm_parentOf_5 (tgt := 14) (by decide) rfl (fun c_1 => ?_) (fun c_1 => ?_)
  · refine J.neg (shR σ) c_1 ?_
    refine j_lload_n C d_qm_parentOf_14 rfl 1 rfl ?_
    refine j_ldc2 C d_qm_parentOf_15 rfl k_831 ?_
    refine j_lcmp_ne C d_qm_parentOf_18 d_qm_parentOf_19 (tgt := 28) (by decide) rfl (fun c_2 => ?_) (fun c_2 => ?_)
    · refine J.neg (shR σ) c_2 ?_
      refine j_aload_n C d_qm_parentOf_28 rfl 0 rfl ?_
      refine qm_r_first C k_843 d_qm_parentOf_29 rfl ?_
      refine j_aload_n C d_qm_parentOf_32 rfl 0 rfl ?_
      refine j_lload_n C d_qm_parentOf_33 rfl 1 rfl ?_
      refine cvr_qm_qm C (mc_qm_indexOf (gl Γ) (gK Γ) σ a1) qm_indexOf_I k_1008 (by decide) d_qm_parentOf_34 rfl (rest := [.ref (kq (gK Γ) 19)]) rfl ⟨rfl, Nat.le_of_ble_eq_true rfl⟩ ?_
      refine J.inR (fun h_3 => ?_)
      refine qm_l_first C (inb_in h_3) d_qm_parentOf_37 rfl rfl ?_
      exact j_lret C d_qm_parentOf_38
    · refine J.pos (shR σ) c_2 ?_
      refine j_ldc2 C d_qm_parentOf_22 rfl k_1027 ?_
      refine j_goto C d_qm_parentOf_25 (tgt := 38) (by decide) ?_
      exact j_lret C d_qm_parentOf_38
  · refine J.pos (shR σ) c_1 ?_
    refine j_ldc2 C d_qm_parentOf_8 rfl k_837 ?_
    refine j_goto C d_qm_parentOf_11 (tgt := 38) (by decide) ?_
    exact j_lret C d_qm_parentOf_38
theorem mc_qm_parentOf (l : Launch) (K : kk_T) (σ : qm_S) (a1 : Int64) (r : Int64) (h : qm_parentOf σ a1 = some r) : MC l qm_parentOf_y qm_parentOf_c 3 (some .long) (2, 43) K (qm_w K) qcl σ [.ref (kq K 18), .long a1] (some (.long r)) σ := mc_of (ov := ovL) (X := (shR σ) (qm_parentOf σ a1)) (by decide +kernel) (Nat.le_of_ble_eq_true rfl) (fun _ => rfl) (by rw [h]; rfl) (fun Γ e1 e2 C => by subst e1; subst e2; exact w_qm_parentOf C σ a1)
theorem qm_parentOf_I : ck_V qm_parentOf_y qm_parentOf_c 3 (some .long) 1 := ⟨k_1026, k_102, by decide +kernel, k_1025, k_64⟩
theorem w_qm_adds {Γ : cx_T} (C : cx_C Γ (qm_w (gK Γ)) qcl qm_R qm_adds_c 6 (some .long) (1, 22)) (σ : qm_S) (a1 : Int32) (a2 : Int64) (a4 : Int64) : J Γ (qm_w (gK Γ)) qcl (QF Γ (qm_w (gK Γ)) qcl ovL) (shO (qm_adds σ a1 a2 a4)) σ 0 [(0, .ref (kq (gK Γ) 18)), (1, .int a1), (2, .long a2), (4, .long a4)] [] := by
  unfold qm_adds
  refine j_aload_n C d_qm_adds_0 rfl 0 rfl ?_
  refine qm_r_first C k_843 d_qm_adds_1 rfl ?_
  refine j_aload_n C d_qm_adds_4 rfl 0 rfl ?_
  refine qm_r_objects C k_842 d_qm_adds_5 rfl rfl ?_
  refine j_lload_n C d_qm_adds_8 rfl 2 rfl ?_
  refine J.inO (fun h_1 => ?_)
  refine qm_a_first C (inb_in h_1) d_qm_adds_9 rfl ?_
  refine j_aload_n C d_qm_adds_10 rfl 0 rfl ?_
  refine qm_r_second C k_844 d_qm_adds_11 rfl ?_
  refine j_aload_n C d_qm_adds_14 rfl 0 rfl ?_
  refine qm_r_objects C k_842 d_qm_adds_15 rfl (x := (qm_g_objects σ)) (gs_qm_objects_t_first _ _ _) ?_
  refine j_lload C d_qm_adds_18 rfl 3 rfl ?_
  refine J.inO (fun h_2 => ?_)
  refine qm_a_second C (inb_in h_2) d_qm_adds_20 rfl ?_
  refine j_aload_n C d_qm_adds_21 rfl 0 rfl ?_
  refine j_dup C d_qm_adds_22 rfl rfl ?_
  refine qm_r_objects C k_842 d_qm_adds_23 rfl (x := (qm_g_objects σ)) ((gs_qm_objects_t_second _ _ _).trans (gs_qm_objects_t_first _ _ _)) ?_
  refine j_iconst C d_qm_adds_26 rfl kc_i_1 ?_
  refine j_iadd C d_qm_adds_27 rfl ?_
  refine qm_p_objects C k_842 d_qm_adds_28 rfl ?_
  refine j_iload_n C d_qm_adds_31 rfl 1 rfl ?_
  refine j_aload_n C d_qm_adds_32 rfl 0 rfl ?_
  refine qm_r_objects C k_842 d_qm_adds_33 rfl (x := ((qm_g_objects σ) + (1 : Int32))) (gv_qm_objects _ _) ?_
  refine j_iconst C d_qm_adds_36 rfl kc_i_1 ?_
  refine j_isub C d_qm_adds_37 rfl ?_
  refine j_i2l C d_qm_adds_38 rfl ?_
  refine cs_qm C (mc_qm_made (gl Γ) (gK Γ) a1 (Int32.toInt64 (((qm_g_objects σ) + (1 : Int32)) - (1 : Int32)))) qm_made_I k_838 (by decide) d_qm_adds_39 rfl (rest := []) rfl (Nat.le_of_ble_eq_true rfl) ?_
  exact j_lret C d_qm_adds_42
theorem mc_qm_adds (l : Launch) (K : kk_T) (σ : qm_S) (a1 : Int32) (a2 : Int64) (a4 : Int64) (r : Int64 × qm_S) (h : qm_adds σ a1 a2 a4 = some r) : MC l qm_adds_y qm_adds_c 6 (some .long) (1, 22) K (qm_w K) qcl σ [.ref (kq K 18), .int a1, .long a2, .long a4] (some (.long r.1)) r.2 := mc_of (ov := ovL) (X := shO (qm_adds σ a1 a2 a4)) (by decide +kernel) (Nat.le_of_ble_eq_true rfl) (fun _ => rfl) (by rw [h]; rfl) (fun Γ e1 e2 C => by subst e1; subst e2; exact w_qm_adds C σ a1 a2 a4)
theorem qm_adds_I : ck_V qm_adds_y qm_adds_c 6 (some .long) 3 := ⟨k_1051, k_102, by decide +kernel, k_1050, k_68⟩
theorem w_qm_addsEnvironment {Γ : cx_T} (C : cx_C Γ (qm_w (gK Γ)) qcl qm_R qm_addsEnvironment_c 3 (some .long) (2, 47)) (σ : qm_S) (a1 : Int64) : J Γ (qm_w (gK Γ)) qcl (QF Γ (qm_w (gK Γ)) qcl ovL) (shO (qm_addsEnvironment σ a1)) σ 0 [(0, .ref (kq (gK Γ) 18)), (1, .long a1)] [] := by
  unfold qm_addsEnvironment
  refine j_aload_n C d_qm_addsEnvironment_0 rfl 0 rfl ?_
  refine qm_r_headOf C k_849 d_qm_addsEnvironment_1 rfl ?_
  refine j_aload_n C d_qm_addsEnvironment_4 rfl 0 rfl ?_
  refine qm_r_objects C k_842 d_qm_addsEnvironment_5 rfl rfl ?_
  refine j_iconst C d_qm_addsEnvironment_8 rfl kc_i_2 ?_
  refine j_iadd C d_qm_addsEnvironment_9 rfl ?_
  refine j_iconst C d_qm_addsEnvironment_10 rfl kc_i_m1 ?_
  refine J.inO (fun h_1 => ?_)
  refine qm_a_headOf C (inb_in h_1) d_qm_addsEnvironment_11 rfl ?_
  refine j_aload_n C d_qm_addsEnvironment_12 rfl 0 rfl ?_
  refine j_bipush C d_qm_addsEnvironment_13 rfl kc_b_7 ?_
  refine j_lload_n C d_qm_addsEnvironment_15 rfl 1 rfl ?_
  refine j_lconst C d_qm_addsEnvironment_16 rfl kc_l_0 ?_
  refine J.goO (fun r2 h_3 => ?_)
  refine cv_qm_qm C (mc_qm_adds (gl Γ) (gK Γ) (qm_t_headOf σ ((qm_g_objects σ) + (2 : Int32)) (-1 : Int32)) (7 : Int32) a1 (0 : Int64) r2 h_3) qm_adds_I k_1048 (by decide) d_qm_addsEnvironment_17 rfl (rest := []) rfl ⟨rfl, Nat.le_of_ble_eq_true rfl⟩ ?_
  exact j_lret C d_qm_addsEnvironment_20
theorem mc_qm_addsEnvironment (l : Launch) (K : kk_T) (σ : qm_S) (a1 : Int64) (r : Int64 × qm_S) (h : qm_addsEnvironment σ a1 = some r) : MC l qm_addsEnvironment_y qm_addsEnvironment_c 3 (some .long) (2, 47) K (qm_w K) qcl σ [.ref (kq K 18), .long a1] (some (.long r.1)) r.2 := mc_of (ov := ovL) (X := shO (qm_addsEnvironment σ a1)) (by decide +kernel) (Nat.le_of_ble_eq_true rfl) (fun _ => rfl) (by rw [h]; rfl) (fun Γ e1 e2 C => by subst e1; subst e2; exact w_qm_addsEnvironment C σ a1)
theorem qm_addsEnvironment_I : ck_V qm_addsEnvironment_y qm_addsEnvironment_c 3 (some .long) 1 := ⟨k_1178, k_102, by decide +kernel, k_1177, k_86⟩
theorem w_qm_isFull {Γ : cx_T} (C : cx_C Γ (qm_w (gK Γ)) qcl qm_R qm_isFull_c 1 (some .boolean) (0, 0)) (σ : qm_S)  : J Γ (qm_w (gK Γ)) qcl (QF Γ (qm_w (gK Γ)) qcl ovI) ((shP σ) (qm_isFull σ)) σ 0 [(0, .ref (kq (gK Γ) 18))] [] := by
  unfold qm_isFull
  refine j_aload_n C d_qm_isFull_0 rfl 0 rfl ?_
  refine qm_r_objects C k_842 d_qm_isFull_1 rfl rfl ?_
  refine j_sipush C d_qm_isFull_4 rfl kc_s_4000 ?_
  refine j_icmp_ne C d_qm_isFull_7 (tgt := 14) (by decide) rfl (fun c_1 => ?_) (fun c_1 => ?_)
  · refine J.neg (shP σ) c_1 ?_
    refine j_iconst C d_qm_isFull_14 rfl kc_i_0 ?_
    exact j_zret C rfl d_qm_isFull_15
  · refine J.pos (shP σ) c_1 ?_
    refine j_iconst C d_qm_isFull_10 rfl kc_i_1 ?_
    refine j_goto C d_qm_isFull_11 (tgt := 15) (by decide) ?_
    exact j_zret C rfl d_qm_isFull_15
theorem mc_qm_isFull (l : Launch) (K : kk_T) (σ : qm_S)  : MC l qm_isFull_y qm_isFull_c 1 (some .boolean) (0, 0) K (qm_w K) qcl σ [.ref (kq K 18)] (some (.int (qm_isFull σ))) σ := mc_of (ov := ovI) (X := (shP σ) (qm_isFull σ)) (by decide +kernel) (Nat.le_of_ble_eq_true rfl) (fun _ => rfl) rfl (fun Γ e1 e2 C => by subst e1; subst e2; exact w_qm_isFull C σ)
theorem qm_isFull_I : ck_V qm_isFull_y qm_isFull_c 1 (some .boolean) 0 := ⟨k_1047, k_102, by decide +kernel, k_1046, k_67⟩
theorem w_qm_findsOwn_B77 {Γ : cx_T} (C : cx_C Γ (qm_w (gK Γ)) qcl qm_R qm_findsOwn_c 4 (some .boolean) (2, 43)) (N : Nat) (σ : qm_S)  : J Γ (qm_w (gK Γ)) qcl (QF Γ (qm_w (gK Γ)) qcl ovI) (shO (qm_findsOwn_B77 N σ)) σ 77 [(0, .ref (kq (gK Γ) 18))] [] := by
  unfold qm_findsOwn_B77
  refine j_aload_n C d_qm_findsOwn_77 rfl 0 rfl ?_
  refine j_aload_n C d_qm_findsOwn_78 rfl 0 rfl ?_
  refine qm_r_foundAt C k_853 d_qm_findsOwn_79 rfl rfl ?_
  refine j_if_lt C d_qm_findsOwn_82 (tgt := 97) (by decide) rfl (fun c_9 => ?_) (fun c_9 => ?_)
  · refine J.pos shO c_9 ?_
    refine j_lconst C d_qm_findsOwn_97 rfl kc_l_0 ?_
    refine qm_p_found C k_852 d_qm_findsOwn_98 rfl ?_
    refine j_aload_n C d_qm_findsOwn_101 rfl 0 rfl ?_
    refine qm_r_foundAt C k_853 d_qm_findsOwn_102 rfl (x := (qm_g_foundAt σ)) (gs_qm_foundAt_s_found _ _) ?_
    refine j_if_lt C d_qm_findsOwn_105 (tgt := 112) (by decide) rfl (fun c_10 => ?_) (fun c_10 => ?_)
    · refine J.pos shO c_10 ?_
      refine j_iconst C d_qm_findsOwn_112 rfl kc_i_0 ?_
      exact j_zret C rfl d_qm_findsOwn_113
    · refine J.neg shO c_10 ?_
      refine j_iconst C d_qm_findsOwn_108 rfl kc_i_1 ?_
      refine j_goto C d_qm_findsOwn_109 (tgt := 113) (by decide) ?_
      exact j_zret C rfl d_qm_findsOwn_113
  · refine J.neg shO c_9 ?_
    refine j_aload_n C d_qm_findsOwn_85 rfl 0 rfl ?_
    refine qm_r_first C k_843 d_qm_findsOwn_86 rfl ?_
    refine j_aload_n C d_qm_findsOwn_89 rfl 0 rfl ?_
    refine qm_r_foundAt C k_853 d_qm_findsOwn_90 rfl rfl ?_
    refine J.inO (fun h_11 => ?_)
    refine qm_l_first C (inb_in h_11) d_qm_findsOwn_93 rfl rfl ?_
    refine j_goto C d_qm_findsOwn_94 (tgt := 98) (by decide) ?_
    refine qm_p_found C k_852 d_qm_findsOwn_98 rfl ?_
    refine j_aload_n C d_qm_findsOwn_101 rfl 0 rfl ?_
    refine qm_r_foundAt C k_853 d_qm_findsOwn_102 rfl (x := (qm_g_foundAt σ)) (gs_qm_foundAt_s_found _ _) ?_
    refine j_if_lt C d_qm_findsOwn_105 (tgt := 112) (by decide) rfl (fun c_12 => ?_) (fun c_12 => ?_)
    · refine J.pos shO c_12 ?_
      refine j_iconst C d_qm_findsOwn_112 rfl kc_i_0 ?_
      exact j_zret C rfl d_qm_findsOwn_113
    · refine J.neg shO c_12 ?_
      refine j_iconst C d_qm_findsOwn_108 rfl kc_i_1 ?_
      refine j_goto C d_qm_findsOwn_109 (tgt := 113) (by decide) ?_
      exact j_zret C rfl d_qm_findsOwn_113
theorem w_qm_findsOwn_L41 {Γ : cx_T} (C : cx_C Γ (qm_w (gK Γ)) qcl qm_R qm_findsOwn_c 4 (some .boolean) (2, 43)) (N : Nat) : ∀ (k : Nat) (σ : qm_S) (x3 : Int32), J Γ (qm_w (gK Γ)) qcl (QF Γ (qm_w (gK Γ)) qcl ovI) (shO (qm_findsOwn_L41 N k σ x3)) σ 41 [(0, .ref (kq (gK Γ) 18)), (3, .int x3)] [] := by
  intro k
  induction k with
  | zero => intro σ x3; exact J.none rfl
  | succ k ih =>
    intro σ x3
    rw [qm_findsOwn_L41]
    refine j_aload_n C d_qm_findsOwn_41 rfl 0 rfl ?_
    refine qm_r_foundAt C k_853 d_qm_findsOwn_42 rfl rfl ?_
    refine j_if_lt C d_qm_findsOwn_45 (tgt := 77) (by decide) rfl (fun c_5 => ?_) (fun c_5 => ?_)
    · refine J.pos shO c_5 ?_
      refine J.loc (lv' := [(0, .ref (kq (gK Γ) 18))]) [0] rfl ?_
      exact w_qm_findsOwn_B77 C N σ
    · refine J.neg shO c_5 ?_
      refine j_aload_n C d_qm_findsOwn_48 rfl 0 rfl ?_
      refine qm_r_symbolOf C k_847 d_qm_findsOwn_49 rfl ?_
      refine j_aload_n C d_qm_findsOwn_52 rfl 0 rfl ?_
      refine qm_r_foundAt C k_853 d_qm_findsOwn_53 rfl rfl ?_
      refine J.inO (fun h_6 => ?_)
      refine qm_l_symbolOf C (inb_in h_6) d_qm_findsOwn_56 rfl rfl ?_
      refine j_iload_n C d_qm_findsOwn_57 rfl 1 rfl ?_
      refine j_icmp_eq C d_qm_findsOwn_58 (tgt := 77) (by decide) rfl (fun c_7 => ?_) (fun c_7 => ?_)
      · refine J.pos shO c_7 ?_
        refine J.loc (lv' := [(0, .ref (kq (gK Γ) 18))]) [0] rfl ?_
        exact w_qm_findsOwn_B77 C N σ
      · refine J.neg shO c_7 ?_
        refine j_aload_n C d_qm_findsOwn_61 rfl 0 rfl ?_
        refine j_aload_n C d_qm_findsOwn_62 rfl 0 rfl ?_
        refine qm_r_nextOf C k_848 d_qm_findsOwn_63 rfl ?_
        refine j_aload_n C d_qm_findsOwn_66 rfl 0 rfl ?_
        refine qm_r_foundAt C k_853 d_qm_findsOwn_67 rfl rfl ?_
        refine J.inO (fun h_8 => ?_)
        refine qm_l_nextOf C (inb_in h_8) d_qm_findsOwn_70 rfl rfl ?_
        refine qm_p_foundAt C k_853 d_qm_findsOwn_71 rfl ?_
        refine j_goto C d_qm_findsOwn_74 (tgt := 41) (by decide) ?_
        refine J.loc (lv' := [(0, .ref (kq (gK Γ) 18)), (3, .int x3)]) [0, 1] rfl ?_
        exact ih (qm_s_foundAt σ (qm_g_nextOf σ (Int32.toNatClampNeg (qm_g_foundAt σ)))) x3
theorem w_qm_findsOwn {Γ : cx_T} (C : cx_C Γ (qm_w (gK Γ)) qcl qm_R qm_findsOwn_c 4 (some .boolean) (2, 43)) (N : Nat) (σ : qm_S) (a1 : Int64) (a3 : Int32) : J Γ (qm_w (gK Γ)) qcl (QF Γ (qm_w (gK Γ)) qcl ovI) (shO (qm_findsOwn N σ a1 a3)) σ 0 [(0, .ref (kq (gK Γ) 18)), (1, .long a1), (3, .int a3)] [] := by
  unfold qm_findsOwn
  refine j_lload_n C d_qm_findsOwn_0 rfl 1 rfl ?_
  refine j_ldc2 C d_qm_findsOwn_1 rfl k_1027 ?_
  refine j_lcmp_ne C d_qm_findsOwn_4 d_qm_findsOwn_5 (tgt := 25) (by decide) rfl (fun c_1 => ?_) (fun c_1 => ?_)
  · refine J.neg shO c_1 ?_
    refine j_aload_n C d_qm_findsOwn_25 rfl 0 rfl ?_
    refine j_aload_n C d_qm_findsOwn_26 rfl 0 rfl ?_
    refine qm_r_headOf C k_849 d_qm_findsOwn_27 rfl ?_
    refine j_aload_n C d_qm_findsOwn_30 rfl 0 rfl ?_
    refine j_lload_n C d_qm_findsOwn_31 rfl 1 rfl ?_
    refine cvr_qm_qm C (mc_qm_indexOf (gl Γ) (gK Γ) σ a1) qm_indexOf_I k_1008 (by decide) d_qm_findsOwn_32 rfl (rest := [.ref (kq (gK Γ) 25), .ref (kq (gK Γ) 18)]) rfl ⟨rfl, Nat.le_of_ble_eq_true rfl⟩ ?_
    refine j_iconst C d_qm_findsOwn_35 rfl kc_i_2 ?_
    refine j_iadd C d_qm_findsOwn_36 rfl ?_
    refine J.inO (fun h_2 => ?_)
    refine qm_l_headOf C (inb_in h_2) d_qm_findsOwn_37 rfl rfl ?_
    refine qm_p_foundAt C k_853 d_qm_findsOwn_38 rfl ?_
    refine J.loc (lv' := [(0, .ref (kq (gK Γ) 18)), (3, .int a3)]) [0, 2] rfl ?_
    exact w_qm_findsOwn_L41 C N N (qm_s_foundAt σ (qm_g_headOf σ (Int32.toNatClampNeg ((qm_indexOf σ a1) + (2 : Int32))))) a3
  · refine J.pos shO c_1 ?_
    refine j_aload_n C d_qm_findsOwn_8 rfl 0 rfl ?_
    refine j_aload_n C d_qm_findsOwn_9 rfl 0 rfl ?_
    refine qm_r_groundValue C k_851 d_qm_findsOwn_10 rfl ?_
    refine j_iload_n C d_qm_findsOwn_13 rfl 2 rfl ?_
    refine J.inO (fun h_3 => ?_)
    refine qm_l_groundValue C (inb_in h_3) d_qm_findsOwn_14 rfl rfl ?_
    refine qm_p_found C k_852 d_qm_findsOwn_15 rfl ?_
    refine j_aload_n C d_qm_findsOwn_18 rfl 0 rfl ?_
    refine qm_r_isGround C k_850 d_qm_findsOwn_19 rfl ?_
    refine j_iload_n C d_qm_findsOwn_22 rfl 2 rfl ?_
    refine J.inO (fun h_4 => ?_)
    refine qm_l_isGround C (inb_in h_4) d_qm_findsOwn_23 rfl (x := (qm_g_isGround σ (Int32.toNatClampNeg a3))) (congrFun (gs_qm_isGround_s_found _ _) _) ?_
    exact j_bret C d_qm_findsOwn_24
theorem mc_qm_findsOwn (l : Launch) (K : kk_T) (N : Nat) (σ : qm_S) (a1 : Int64) (a3 : Int32) (r : Int32 × qm_S) (h : qm_findsOwn N σ a1 a3 = some r) : MC l qm_findsOwn_y qm_findsOwn_c 4 (some .boolean) (2, 43) K (qm_w K) qcl σ [.ref (kq K 18), .long a1, .int a3] (some (.int r.1)) r.2 := mc_of (ov := ovI) (X := shO (qm_findsOwn N σ a1 a3)) (by decide +kernel) (Nat.le_of_ble_eq_true rfl) (fun _ => rfl) (by rw [h]; rfl) (fun Γ e1 e2 C => by subst e1; subst e2; exact w_qm_findsOwn C N σ a1 a3)
theorem qm_findsOwn_I : ck_V qm_findsOwn_y qm_findsOwn_c 4 (some .boolean) 2 := ⟨k_1039, k_102, by decide +kernel, k_1038, k_66⟩
theorem w_qm_finds_L3 {Γ : cx_T} (C : cx_C Γ (qm_w (gK Γ)) qcl qm_R qm_finds_c 6 (some .boolean) (3, 66)) (N : Nat) : ∀ (k : Nat) (σ : qm_S) (x3 : Int32) (x4 : Int64), J Γ (qm_w (gK Γ)) qcl (QF Γ (qm_w (gK Γ)) qcl ovI) (shO (qm_finds_L3 N k σ x3 x4)) σ 3 [(0, .ref (kq (gK Γ) 18)), (3, .int x3), (4, .long x4)] [] := by
  intro k
  induction k with
  | zero => intro σ x3 x4; exact J.none rfl
  | succ k ih =>
    intro σ x3 x4
    rw [qm_finds_L3]
    refine j_lload C d_qm_finds_3 rfl 2 rfl ?_
    refine j_ldc2 C d_qm_finds_5 rfl k_837 ?_
    refine j_lcmp_eq C d_qm_finds_8 d_qm_finds_9 (tgt := 35) (by decide) rfl (fun c_1 => ?_) (fun c_1 => ?_)
    · refine J.pos shO c_1 ?_
      refine j_iconst C d_qm_finds_35 rfl kc_i_0 ?_
      exact j_zret C rfl d_qm_finds_36
    · refine J.neg shO c_1 ?_
      refine j_aload_n C d_qm_finds_12 rfl 0 rfl ?_
      refine j_lload C d_qm_finds_13 rfl 2 rfl ?_
      refine j_iload_n C d_qm_finds_15 rfl 1 rfl ?_
      refine J.goO (fun r2 h_3 => ?_)
      refine cv_qm_qm C (mc_qm_findsOwn (gl Γ) (gK Γ) N σ x4 x3 r2 h_3) qm_findsOwn_I k_1036 (by decide) d_qm_finds_16 rfl (rest := []) rfl ⟨rfl, Nat.le_of_ble_eq_true rfl⟩ ?_
      refine j_if_eq C d_qm_finds_19 (tgt := 24) (by decide) rfl (fun c_4 => ?_) (fun c_4 => ?_)
      · refine J.pos shO c_4 ?_
        refine j_aload_n C d_qm_finds_24 rfl 0 rfl ?_
        refine j_lload C d_qm_finds_25 rfl 2 rfl ?_
        refine J.goO (fun r5 h_6 => ?_)
        refine cvr_qm_qm C (mc_qm_parentOf (gl Γ) (gK Γ) r2.2 x4 r5 h_6) qm_parentOf_I k_1023 (by decide) d_qm_finds_27 rfl (rest := []) rfl ⟨rfl, Nat.le_of_ble_eq_true rfl⟩ ?_
        refine j_lstore C (lv' := [(4, .long r5), (0, .ref (kq (gK Γ) 18)), (3, .int x3)]) d_qm_finds_30 rfl (by decide) rfl ?_
        refine j_goto C d_qm_finds_32 (tgt := 3) (by decide) ?_
        refine J.loc (lv' := [(0, .ref (kq (gK Γ) 18)), (3, .int x3), (4, .long r5)]) [1, 2, 0] rfl ?_
        exact ih r2.2 x3 r5
      · refine J.neg shO c_4 ?_
        refine j_iconst C d_qm_finds_22 rfl kc_i_1 ?_
        exact j_zret C rfl d_qm_finds_23
theorem w_qm_finds {Γ : cx_T} (C : cx_C Γ (qm_w (gK Γ)) qcl qm_R qm_finds_c 6 (some .boolean) (3, 66)) (N : Nat) (σ : qm_S) (a1 : Int64) (a3 : Int32) : J Γ (qm_w (gK Γ)) qcl (QF Γ (qm_w (gK Γ)) qcl ovI) (shO (qm_finds N σ a1 a3)) σ 0 [(0, .ref (kq (gK Γ) 18)), (1, .long a1), (3, .int a3)] [] := by
  unfold qm_finds
  refine j_lload_n C d_qm_finds_0 rfl 1 rfl ?_
  refine j_lstore C (lv' := [(4, .long a1), (0, .ref (kq (gK Γ) 18)), (1, .long a1), (3, .int a3)]) d_qm_finds_1 rfl (by decide) rfl ?_
  refine J.loc (lv' := [(0, .ref (kq (gK Γ) 18)), (3, .int a3), (4, .long a1)]) [1, 3, 0] rfl ?_
  exact w_qm_finds_L3 C N N σ a3 a1
theorem mc_qm_finds (l : Launch) (K : kk_T) (N : Nat) (σ : qm_S) (a1 : Int64) (a3 : Int32) (r : Int32 × qm_S) (h : qm_finds N σ a1 a3 = some r) : MC l qm_finds_y qm_finds_c 6 (some .boolean) (3, 66) K (qm_w K) qcl σ [.ref (kq K 18), .long a1, .int a3] (some (.int r.1)) r.2 := mc_of (ov := ovI) (X := shO (qm_finds N σ a1 a3)) (by decide +kernel) (Nat.le_of_ble_eq_true rfl) (fun _ => rfl) (by rw [h]; rfl) (fun Γ e1 e2 C => by subst e1; subst e2; exact w_qm_finds C N σ a1 a3)
theorem qm_finds_I : ck_V qm_finds_y qm_finds_c 6 (some .boolean) 2 := ⟨k_1035, k_102, by decide +kernel, k_1034, k_65⟩
theorem w_qm_binds_B22 {Γ : cx_T} (C : cx_C Γ (qm_w (gK Γ)) qcl qm_R qm_binds_c 8 (some .boolean) (3, 66)) (N : Nat) (σ : qm_S) (x1 : Int64) (x3 : Int32) (x4 : Int64) (x6 : Int32) : J Γ (qm_w (gK Γ)) qcl (QF Γ (qm_w (gK Γ)) qcl ovI) (shO (qm_binds_B22 N σ x1 x3 x4 x6)) σ 22 [(0, .ref (kq (gK Γ) 18)), (1, .long x1), (3, .int x3), (4, .long x4), (6, .int x6)] [] := by
  unfold qm_binds_B22
  refine j_lload_n C d_qm_binds_22 rfl 1 rfl ?_
  refine j_ldc2 C d_qm_binds_23 rfl k_1027 ?_
  refine j_lcmp_ne C d_qm_binds_26 d_qm_binds_27 (tgt := 67) (by decide) rfl (fun c_5 => ?_) (fun c_5 => ?_)
  · refine J.neg shO c_5 ?_
    refine j_iload C d_qm_binds_67 rfl 4 rfl ?_
    refine j_if_eq C d_qm_binds_69 (tgt := 86) (by decide) rfl (fun c_6 => ?_) (fun c_6 => ?_)
    · refine J.pos shO c_6 ?_
      refine j_aload_n C d_qm_binds_86 rfl 0 rfl ?_
      refine j_lload_n C d_qm_binds_87 rfl 1 rfl ?_
      refine cvr_qm_qm C (mc_qm_indexOf (gl Γ) (gK Γ) σ x1) qm_indexOf_I k_1008 (by decide) d_qm_binds_88 rfl (rest := []) rfl ⟨rfl, Nat.le_of_ble_eq_true rfl⟩ ?_
      refine j_iconst C d_qm_binds_91 rfl kc_i_2 ?_
      refine j_iadd C d_qm_binds_92 rfl ?_
      refine j_istore C (lv' := [(7, .int ((qm_indexOf σ x1) + (2 : Int32))), (0, .ref (kq (gK Γ) 18)), (1, .long x1), (3, .int x3), (4, .long x4), (6, .int x6)]) d_qm_binds_93 rfl (by decide) rfl ?_
      refine j_aload_n C d_qm_binds_95 rfl 1 rfl ?_
      refine qm_r_symbolOf C k_847 d_qm_binds_96 rfl ?_
      refine j_aload_n C d_qm_binds_99 rfl 1 rfl ?_
      refine qm_r_objects C k_842 d_qm_binds_100 rfl rfl ?_
      refine j_iload_n C d_qm_binds_103 rfl 3 rfl ?_
      refine J.inO (fun h_7 => ?_)
      refine qm_a_symbolOf C (inb_in h_7) d_qm_binds_104 rfl ?_
      refine j_aload_n C d_qm_binds_105 rfl 1 rfl ?_
      refine qm_r_nextOf C k_848 d_qm_binds_106 rfl ?_
      refine j_aload_n C d_qm_binds_109 rfl 1 rfl ?_
      refine qm_r_objects C k_842 d_qm_binds_110 rfl (x := (qm_g_objects σ)) (gs_qm_objects_t_symbolOf _ _ _) ?_
      refine j_aload_n C d_qm_binds_113 rfl 1 rfl ?_
      refine qm_r_headOf C k_849 d_qm_binds_114 rfl ?_
      refine j_iload C d_qm_binds_117 rfl 0 rfl ?_
      refine J.inO (fun h_8 => ?_)
      refine qm_l_headOf C (inb_in h_8) d_qm_binds_119 rfl (x := (qm_g_headOf σ (Int32.toNatClampNeg ((qm_indexOf σ x1) + (2 : Int32))))) (congrFun (gs_qm_headOf_t_symbolOf _ _ _) _) ?_
      refine J.inO (fun h_9 => ?_)
      refine qm_a_nextOf C (inb_in h_9) d_qm_binds_120 rfl ?_
      refine j_aload_n C d_qm_binds_121 rfl 1 rfl ?_
      refine qm_r_headOf C k_849 d_qm_binds_122 rfl ?_
      refine j_iload C d_qm_binds_125 rfl 0 rfl ?_
      refine j_aload_n C d_qm_binds_127 rfl 1 rfl ?_
      refine qm_r_objects C k_842 d_qm_binds_128 rfl (x := (qm_g_objects σ)) ((gs_qm_objects_t_nextOf _ _ _).trans (gs_qm_objects_t_symbolOf _ _ _)) ?_
      refine J.inO (fun h_10 => ?_)
      refine qm_a_headOf C (inb_in h_10) d_qm_binds_131 rfl ?_
      refine j_aload_n C d_qm_binds_132 rfl 1 rfl ?_
      refine qm_r_first C k_843 d_qm_binds_133 rfl ?_
      refine j_aload_n C d_qm_binds_136 rfl 1 rfl ?_
      refine qm_r_objects C k_842 d_qm_binds_137 rfl (x := (qm_g_objects σ)) ((gs_qm_objects_t_headOf _ _ _).trans ((gs_qm_objects_t_nextOf _ _ _).trans (gs_qm_objects_t_symbolOf _ _ _))) ?_
      refine j_lload C d_qm_binds_140 rfl 4 rfl ?_
      refine J.inO (fun h_11 => ?_)
      refine qm_a_first C (inb_in h_11) d_qm_binds_142 rfl ?_
      refine j_aload_n C d_qm_binds_143 rfl 1 rfl ?_
      refine j_dup C d_qm_binds_144 rfl rfl ?_
      refine qm_r_objects C k_842 d_qm_binds_145 rfl (x := (qm_g_objects σ)) ((gs_qm_objects_t_first _ _ _).trans ((gs_qm_objects_t_headOf _ _ _).trans ((gs_qm_objects_t_nextOf _ _ _).trans (gs_qm_objects_t_symbolOf _ _ _)))) ?_
      refine j_iconst C d_qm_binds_148 rfl kc_i_1 ?_
      refine j_iadd C d_qm_binds_149 rfl ?_
      refine qm_p_objects C k_842 d_qm_binds_150 rfl ?_
      refine j_iconst C d_qm_binds_153 rfl kc_i_1 ?_
      exact j_zret C rfl d_qm_binds_154
    · refine J.neg shO c_6 ?_
      refine j_aload_n C d_qm_binds_72 rfl 0 rfl ?_
      refine qm_r_first C k_843 d_qm_binds_73 rfl ?_
      refine j_aload_n C d_qm_binds_76 rfl 0 rfl ?_
      refine qm_r_foundAt C k_853 d_qm_binds_77 rfl rfl ?_
      refine j_lload C d_qm_binds_80 rfl 3 rfl ?_
      refine J.inO (fun h_12 => ?_)
      refine qm_a_first C (inb_in h_12) d_qm_binds_82 rfl ?_
      refine j_goto C d_qm_binds_83 (tgt := 153) (by decide) ?_
      refine j_iconst C d_qm_binds_153 rfl kc_i_1 ?_
      exact j_zret C rfl d_qm_binds_154
  · refine J.pos shO c_5 ?_
    refine j_aload_n C d_qm_binds_30 rfl 0 rfl ?_
    refine qm_r_isGround C k_850 d_qm_binds_31 rfl ?_
    refine j_iload_n C d_qm_binds_34 rfl 2 rfl ?_
    refine j_iconst C d_qm_binds_35 rfl kc_i_1 ?_
    refine J.inO (fun h_13 => ?_)
    refine qm_a_isGround C (inb_in h_13) d_qm_binds_36 rfl ?_
    refine j_aload_n C d_qm_binds_37 rfl 0 rfl ?_
    refine qm_r_groundValue C k_851 d_qm_binds_38 rfl ?_
    refine j_iload_n C d_qm_binds_41 rfl 2 rfl ?_
    refine j_lload C d_qm_binds_42 rfl 3 rfl ?_
    refine J.inO (fun h_14 => ?_)
    refine qm_a_groundValue C (inb_in h_14) d_qm_binds_44 rfl ?_
    refine j_aload_n C d_qm_binds_45 rfl 0 rfl ?_
    refine j_dup C d_qm_binds_46 rfl rfl ?_
    refine qm_r_objects C k_842 d_qm_binds_47 rfl (x := (qm_g_objects σ)) ((gs_qm_objects_t_groundValue _ _ _).trans (gs_qm_objects_t_isGround _ _ _)) ?_
    refine j_iload C d_qm_binds_50 rfl 4 rfl ?_
    refine j_if_eq C d_qm_binds_52 (tgt := 59) (by decide) rfl (fun c_15 => ?_) (fun c_15 => ?_)
    · refine J.pos shO c_15 ?_
      refine j_iconst C d_qm_binds_59 rfl kc_i_1 ?_
      refine j_iadd C d_qm_binds_60 rfl ?_
      refine qm_p_objects C k_842 d_qm_binds_61 rfl ?_
      refine j_goto C d_qm_binds_64 (tgt := 153) (by decide) ?_
      refine j_iconst C d_qm_binds_153 rfl kc_i_1 ?_
      exact j_zret C rfl d_qm_binds_154
    · refine J.neg shO c_15 ?_
      refine j_iconst C d_qm_binds_55 rfl kc_i_0 ?_
      refine j_goto C d_qm_binds_56 (tgt := 60) (by decide) ?_
      refine j_iadd C d_qm_binds_60 rfl ?_
      refine qm_p_objects C k_842 d_qm_binds_61 rfl ?_
      refine j_goto C d_qm_binds_64 (tgt := 153) (by decide) ?_
      refine j_iconst C d_qm_binds_153 rfl kc_i_1 ?_
      exact j_zret C rfl d_qm_binds_154
theorem w_qm_binds {Γ : cx_T} (C : cx_C Γ (qm_w (gK Γ)) qcl qm_R qm_binds_c 8 (some .boolean) (3, 66)) (N : Nat) (σ : qm_S) (a1 : Int64) (a3 : Int32) (a4 : Int64) : J Γ (qm_w (gK Γ)) qcl (QF Γ (qm_w (gK Γ)) qcl ovI) (shO (qm_binds N σ a1 a3 a4)) σ 0 [(0, .ref (kq (gK Γ) 18)), (1, .long a1), (3, .int a3), (4, .long a4)] [] := by
  unfold qm_binds
  refine j_aload_n C d_qm_binds_0 rfl 0 rfl ?_
  refine j_lload_n C d_qm_binds_1 rfl 1 rfl ?_
  refine j_iload_n C d_qm_binds_2 rfl 2 rfl ?_
  refine J.goO (fun r1 h_2 => ?_)
  refine cv_qm_qm C (mc_qm_findsOwn (gl Γ) (gK Γ) N σ a1 a3 r1 h_2) qm_findsOwn_I k_1036 (by decide) d_qm_binds_3 rfl (rest := []) rfl ⟨rfl, Nat.le_of_ble_eq_true rfl⟩ ?_
  refine j_istore C (lv' := [(6, .int r1.1), (0, .ref (kq (gK Γ) 18)), (1, .long a1), (3, .int a3), (4, .long a4)]) d_qm_binds_6 rfl (by decide) rfl ?_
  refine j_iload C d_qm_binds_8 rfl 0 rfl ?_
  refine j_if_ne C d_qm_binds_10 (tgt := 22) (by decide) rfl (fun c_3 => ?_) (fun c_3 => ?_)
  · refine J.neg shO c_3 ?_
    refine J.loc (lv' := [(0, .ref (kq (gK Γ) 18)), (1, .long a1), (3, .int a3), (4, .long a4), (6, .int r1.1)]) [1, 2, 3, 4, 0] rfl ?_
    exact w_qm_binds_B22 C N r1.2 a1 a3 a4 r1.1
  · refine J.pos shO c_3 ?_
    refine j_aload_n C d_qm_binds_13 rfl 1 rfl ?_
    refine cvr_qm_qm C (mc_qm_isFull (gl Γ) (gK Γ) r1.2) qm_isFull_I k_1044 (by decide) d_qm_binds_14 rfl (rest := []) rfl ⟨rfl, Nat.le_of_ble_eq_true rfl⟩ ?_
    refine j_if_eq C d_qm_binds_17 (tgt := 22) (by decide) rfl (fun c_4 => ?_) (fun c_4 => ?_)
    · refine J.pos shO c_4 ?_
      refine J.loc (lv' := [(0, .ref (kq (gK Γ) 18)), (1, .long a1), (3, .int a3), (4, .long a4), (6, .int r1.1)]) [1, 2, 3, 4, 0] rfl ?_
      exact w_qm_binds_B22 C N r1.2 a1 a3 a4 r1.1
    · refine J.neg shO c_4 ?_
      refine j_iconst C d_qm_binds_20 rfl kc_i_0 ?_
      exact j_zret C rfl d_qm_binds_21
theorem mc_qm_binds (l : Launch) (K : kk_T) (N : Nat) (σ : qm_S) (a1 : Int64) (a3 : Int32) (a4 : Int64) (r : Int32 × qm_S) (h : qm_binds N σ a1 a3 a4 = some r) : MC l qm_binds_y qm_binds_c 8 (some .boolean) (3, 66) K (qm_w K) qcl σ [.ref (kq K 18), .long a1, .int a3, .long a4] (some (.int r.1)) r.2 := mc_of (ov := ovI) (X := shO (qm_binds N σ a1 a3 a4)) (by decide +kernel) (Nat.le_of_ble_eq_true rfl) (fun _ => rfl) (by rw [h]; rfl) (fun Γ e1 e2 C => by subst e1; subst e2; exact w_qm_binds C N σ a1 a3 a4)
theorem qm_binds_I : ck_V qm_binds_y qm_binds_c 8 (some .boolean) 3 := ⟨k_1202, k_102, by decide +kernel, k_1201, k_92⟩
theorem w_qm_longOf_L5 {Γ : cx_T} (C : cx_C Γ (qm_w (gK Γ)) qcl qm_R qm_longOf_c 6 (some .int) (3, 65)) (N : Nat) : ∀ (k : Nat) (σ : qm_S) (x3 : Int32) (x4 : Int64), J Γ (qm_w (gK Γ)) qcl (QF Γ (qm_w (gK Γ)) qcl ovI) ((shR σ) (qm_longOf_L5 N k σ x3 x4)) σ 5 [(0, .ref (kq (gK Γ) 18)), (3, .int x3), (4, .long x4)] [] := by
  intro k
  induction k with
  | zero => intro σ x3 x4; exact J.none rfl
  | succ k ih =>
    intro σ x3 x4
    rw [qm_longOf_L5]
    refine j_lload C d_qm_longOf_5 rfl 2 rfl ?_
    refine cs_qm C (mc_qm_kindOf (gl Γ) (gK Γ) x4) qm_kindOf_I k_1000 (by decide) d_qm_longOf_7 rfl (rest := []) rfl (Nat.le_of_ble_eq_true rfl) ?_
    refine j_iconst C d_qm_longOf_10 rfl kc_i_4 ?_
    refine j_icmp_ne C d_qm_longOf_11 (tgt := 28) (by decide) rfl (fun c_1 => ?_) (fun c_1 => ?_)
    · refine J.neg (shR σ) c_1 ?_
      refine j_lload C d_qm_longOf_28 rfl 2 rfl ?_
      refine cs_qm C (mc_qm_kindOf (gl Γ) (gK Γ) x4) qm_kindOf_I k_1000 (by decide) d_qm_longOf_30 rfl (rest := []) rfl (Nat.le_of_ble_eq_true rfl) ?_
      refine j_iconst C d_qm_longOf_33 rfl kc_i_3 ?_
      refine j_icmp_ne C d_qm_longOf_34 (tgt := 41) (by decide) rfl (fun c_2 => ?_) (fun c_2 => ?_)
      · refine J.neg (shR σ) c_2 ?_
        refine j_iconst C d_qm_longOf_41 rfl kc_i_m1 ?_
        exact j_iret C d_qm_longOf_42
      · refine J.pos (shR σ) c_2 ?_
        refine j_iload_n C d_qm_longOf_37 rfl 1 rfl ?_
        refine j_goto C d_qm_longOf_38 (tgt := 42) (by decide) ?_
        exact j_iret C d_qm_longOf_42
    · refine J.pos (shR σ) c_1 ?_
      refine j_aload_n C d_qm_longOf_14 rfl 0 rfl ?_
      refine j_lload C d_qm_longOf_15 rfl 2 rfl ?_
      refine J.goR (fun r3 h_4 => ?_)
      refine cvr_qm_qm C (mc_qm_cdrOf (gl Γ) (gK Γ) σ x4 r3 h_4) qm_cdrOf_I k_1015 (by decide) d_qm_longOf_17 rfl (rest := []) rfl ⟨rfl, Nat.le_of_ble_eq_true rfl⟩ ?_
      refine j_lstore C (lv' := [(4, .long r3), (0, .ref (kq (gK Γ) 18)), (3, .int x3)]) d_qm_longOf_20 rfl (by decide) rfl ?_
      refine j_iinc C (v := (x3 + (1 : Int32))) (lv' := [(3, .int (x3 + (1 : Int32))), (4, .long r3), (0, .ref (kq (gK Γ) 18))]) d_qm_longOf_22 rfl 2 rfl (kc_inc_1 _) (by decide) rfl ?_
      refine j_goto C d_qm_longOf_25 (tgt := 5) (by decide) ?_
      refine J.loc (lv' := [(0, .ref (kq (gK Γ) 18)), (3, .int (x3 + (1 : Int32))), (4, .long r3)]) [2, 0, 1] rfl ?_
      exact ih σ (x3 + (1 : Int32)) r3
theorem w_qm_longOf {Γ : cx_T} (C : cx_C Γ (qm_w (gK Γ)) qcl qm_R qm_longOf_c 6 (some .int) (3, 65)) (N : Nat) (σ : qm_S) (a1 : Int64) : J Γ (qm_w (gK Γ)) qcl (QF Γ (qm_w (gK Γ)) qcl ovI) ((shR σ) (qm_longOf N σ a1)) σ 0 [(0, .ref (kq (gK Γ) 18)), (1, .long a1)] [] := by
  unfold qm_longOf
  refine j_iconst C d_qm_longOf_0 rfl kc_i_0 ?_
  refine j_istore_n C (lv' := [(3, .int (0 : Int32)), (0, .ref (kq (gK Γ) 18)), (1, .long a1)]) d_qm_longOf_1 rfl rfl (by decide) rfl ?_
  refine j_lload_n C d_qm_longOf_2 rfl 2 rfl ?_
  refine j_lstore C (lv' := [(4, .long a1), (3, .int (0 : Int32)), (0, .ref (kq (gK Γ) 18)), (1, .long a1)]) d_qm_longOf_3 rfl (by decide) rfl ?_
  refine J.loc (lv' := [(0, .ref (kq (gK Γ) 18)), (3, .int (0 : Int32)), (4, .long a1)]) [2, 1, 0] rfl ?_
  exact w_qm_longOf_L5 C N N σ (0 : Int32) a1
theorem mc_qm_longOf (l : Launch) (K : kk_T) (N : Nat) (σ : qm_S) (a1 : Int64) (r : Int32) (h : qm_longOf N σ a1 = some r) : MC l qm_longOf_y qm_longOf_c 6 (some .int) (3, 65) K (qm_w K) qcl σ [.ref (kq K 18), .long a1] (some (.int r)) σ := mc_of (ov := ovI) (X := (shR σ) (qm_longOf N σ a1)) (by decide +kernel) (Nat.le_of_ble_eq_true rfl) (fun _ => rfl) (by rw [h]; rfl) (fun Γ e1 e2 C => by subst e1; subst e2; exact w_qm_longOf C N σ a1)
theorem qm_longOf_I : ck_V qm_longOf_y qm_longOf_c 6 (some .int) 1 := ⟨k_1092, k_102, by decide +kernel, k_1091, k_69⟩
theorem w_qm_elementOf_L6 {Γ : cx_T} (C : cx_C Γ (qm_w (gK Γ)) qcl qm_R qm_elementOf_c 7 (some .long) (3, 65)) (N : Nat) : ∀ (k : Nat) (σ : qm_S) (x3 : Int32) (x4 : Int64) (x6 : Int32), J Γ (qm_w (gK Γ)) qcl (QF Γ (qm_w (gK Γ)) qcl ovL) ((shR σ) (qm_elementOf_L6 N k σ x3 x4 x6)) σ 6 [(0, .ref (kq (gK Γ) 18)), (3, .int x3), (4, .long x4), (6, .int x6)] [] := by
  intro k
  induction k with
  | zero => intro σ x3 x4 x6; exact J.none rfl
  | succ k ih =>
    intro σ x3 x4 x6
    rw [qm_elementOf_L6]
    refine j_iload C d_qm_elementOf_6 rfl 3 rfl ?_
    refine j_iload_n C d_qm_elementOf_8 rfl 1 rfl ?_
    refine j_icmp_ge C d_qm_elementOf_9 (tgt := 26) (by decide) rfl (fun c_1 => ?_) (fun c_1 => ?_)
    · refine J.pos (shR σ) c_1 ?_
      refine j_aload_n C d_qm_elementOf_26 rfl 0 rfl ?_
      refine j_lload C d_qm_elementOf_27 rfl 2 rfl ?_
      refine J.goR (fun r2 h_3 => ?_)
      refine cvr_qm_qm C (mc_qm_carOf (gl Γ) (gK Γ) σ x4 r2 h_3) qm_carOf_I k_1004 (by decide) d_qm_elementOf_29 rfl (rest := []) rfl ⟨rfl, Nat.le_of_ble_eq_true rfl⟩ ?_
      exact j_lret C d_qm_elementOf_32
    · refine J.neg (shR σ) c_1 ?_
      refine j_aload_n C d_qm_elementOf_12 rfl 0 rfl ?_
      refine j_lload C d_qm_elementOf_13 rfl 2 rfl ?_
      refine J.goR (fun r4 h_5 => ?_)
      refine cvr_qm_qm C (mc_qm_cdrOf (gl Γ) (gK Γ) σ x4 r4 h_5) qm_cdrOf_I k_1015 (by decide) d_qm_elementOf_15 rfl (rest := []) rfl ⟨rfl, Nat.le_of_ble_eq_true rfl⟩ ?_
      refine j_lstore C (lv' := [(4, .long r4), (0, .ref (kq (gK Γ) 18)), (3, .int x3), (6, .int x6)]) d_qm_elementOf_18 rfl (by decide) rfl ?_
      refine j_iinc C (v := (x6 + (1 : Int32))) (lv' := [(6, .int (x6 + (1 : Int32))), (4, .long r4), (0, .ref (kq (gK Γ) 18)), (3, .int x3)]) d_qm_elementOf_20 rfl 3 rfl (kc_inc_1 _) (by decide) rfl ?_
      refine j_goto C d_qm_elementOf_23 (tgt := 6) (by decide) ?_
      refine J.loc (lv' := [(0, .ref (kq (gK Γ) 18)), (3, .int x3), (4, .long r4), (6, .int (x6 + (1 : Int32)))]) [2, 3, 1, 0] rfl ?_
      exact ih σ x3 r4 (x6 + (1 : Int32))
theorem w_qm_elementOf {Γ : cx_T} (C : cx_C Γ (qm_w (gK Γ)) qcl qm_R qm_elementOf_c 7 (some .long) (3, 65)) (N : Nat) (σ : qm_S) (a1 : Int64) (a3 : Int32) : J Γ (qm_w (gK Γ)) qcl (QF Γ (qm_w (gK Γ)) qcl ovL) ((shR σ) (qm_elementOf N σ a1 a3)) σ 0 [(0, .ref (kq (gK Γ) 18)), (1, .long a1), (3, .int a3)] [] := by
  unfold qm_elementOf
  refine j_lload_n C d_qm_elementOf_0 rfl 1 rfl ?_
  refine j_lstore C (lv' := [(4, .long a1), (0, .ref (kq (gK Γ) 18)), (1, .long a1), (3, .int a3)]) d_qm_elementOf_1 rfl (by decide) rfl ?_
  refine j_iconst C d_qm_elementOf_3 rfl kc_i_0 ?_
  refine j_istore C (lv' := [(6, .int (0 : Int32)), (4, .long a1), (0, .ref (kq (gK Γ) 18)), (1, .long a1), (3, .int a3)]) d_qm_elementOf_4 rfl (by decide) rfl ?_
  refine J.loc (lv' := [(0, .ref (kq (gK Γ) 18)), (3, .int a3), (4, .long a1), (6, .int (0 : Int32))]) [2, 4, 1, 0] rfl ?_
  exact w_qm_elementOf_L6 C N N σ a3 a1 (0 : Int32)
theorem mc_qm_elementOf (l : Launch) (K : kk_T) (N : Nat) (σ : qm_S) (a1 : Int64) (a3 : Int32) (r : Int64) (h : qm_elementOf N σ a1 a3 = some r) : MC l qm_elementOf_y qm_elementOf_c 7 (some .long) (3, 65) K (qm_w K) qcl σ [.ref (kq K 18), .long a1, .int a3] (some (.long r)) σ := mc_of (ov := ovL) (X := (shR σ) (qm_elementOf N σ a1 a3)) (by decide +kernel) (Nat.le_of_ble_eq_true rfl) (fun _ => rfl) (by rw [h]; rfl) (fun Γ e1 e2 C => by subst e1; subst e2; exact w_qm_elementOf C N σ a1 a3)
theorem qm_elementOf_I : ck_V qm_elementOf_y qm_elementOf_c 7 (some .long) 2 := ⟨k_1144, k_102, by decide +kernel, k_1143, k_80⟩
theorem w_qm_pushes {Γ : cx_T} (C : cx_C Γ (qm_w (gK Γ)) qcl qm_R qm_pushes_c 3 (some .int) (0, 0)) (σ : qm_S) (a1 : Int64) : J Γ (qm_w (gK Γ)) qcl (QF Γ (qm_w (gK Γ)) qcl ovI) (shO (qm_pushes σ a1)) σ 0 [(0, .ref (kq (gK Γ) 18)), (1, .long a1)] [] := by
  unfold qm_pushes
  refine j_aload_n C d_qm_pushes_0 rfl 0 rfl ?_
  refine qm_r_values C k_854 d_qm_pushes_1 rfl rfl ?_
  refine j_bipush C d_qm_pushes_4 rfl kc_b_40 ?_
  refine j_icmp_ne C d_qm_pushes_6 (tgt := 12) (by decide) rfl (fun c_1 => ?_) (fun c_1 => ?_)
  · refine J.neg shO c_1 ?_
    refine j_aload_n C d_qm_pushes_12 rfl 0 rfl ?_
    refine qm_r_stack C k_855 d_qm_pushes_13 rfl ?_
    refine j_aload_n C d_qm_pushes_16 rfl 0 rfl ?_
    refine qm_r_values C k_854 d_qm_pushes_17 rfl rfl ?_
    refine j_lload_n C d_qm_pushes_20 rfl 1 rfl ?_
    refine J.inO (fun h_2 => ?_)
    refine qm_a_stack C (inb_in h_2) d_qm_pushes_21 rfl ?_
    refine j_aload_n C d_qm_pushes_22 rfl 0 rfl ?_
    refine j_dup C d_qm_pushes_23 rfl rfl ?_
    refine qm_r_values C k_854 d_qm_pushes_24 rfl (x := (qm_g_values σ)) (gs_qm_values_t_stack _ _ _) ?_
    refine j_iconst C d_qm_pushes_27 rfl kc_i_1 ?_
    refine j_iadd C d_qm_pushes_28 rfl ?_
    refine qm_p_values C k_854 d_qm_pushes_29 rfl ?_
    refine j_aload_n C d_qm_pushes_32 rfl 0 rfl ?_
    refine qm_r_values C k_854 d_qm_pushes_33 rfl (x := ((qm_g_values σ) + (1 : Int32))) (gv_qm_values _ _) ?_
    exact j_iret C d_qm_pushes_36
  · refine J.pos shO c_1 ?_
    refine j_bipush C d_qm_pushes_9 rfl kc_b_m3 ?_
    exact j_iret C d_qm_pushes_11
theorem mc_qm_pushes (l : Launch) (K : kk_T) (σ : qm_S) (a1 : Int64) (r : Int32 × qm_S) (h : qm_pushes σ a1 = some r) : MC l qm_pushes_y qm_pushes_c 3 (some .int) (0, 0) K (qm_w K) qcl σ [.ref (kq K 18), .long a1] (some (.int r.1)) r.2 := mc_of (ov := ovI) (X := shO (qm_pushes σ a1)) (by decide +kernel) (Nat.le_of_ble_eq_true rfl) (fun _ => rfl) (by rw [h]; rfl) (fun Γ e1 e2 C => by subst e1; subst e2; exact w_qm_pushes C σ a1)
theorem qm_pushes_I : ck_V qm_pushes_y qm_pushes_c 3 (some .int) 1 := ⟨k_961, k_102, by decide +kernel, k_960, k_57⟩
theorem w_qm_depthBarred {Γ : cx_T} (C : cx_C Γ (qm_w (gK Γ)) qcl qm_R qm_depthBarred_c 2 (some .int) (0, 0)) (σ : qm_S) (a1 : Int32) : J Γ (qm_w (gK Γ)) qcl (QF Γ (qm_w (gK Γ)) qcl ovI) ((shP σ) (qm_depthBarred σ a1)) σ 0 [(0, .ref (kq (gK Γ) 18)), (1, .int a1)] [] := by
  unfold qm_depthBarred
  refine j_iload_n C d_qm_depthBarred_0 rfl 1 rfl ?_
  refine j_if_ge C d_qm_depthBarred_1 (tgt := 8) (by decide) rfl (fun c_1 => ?_) (fun c_1 => ?_)
  · refine J.pos (shP σ) c_1 ?_
    refine j_iload_n C d_qm_depthBarred_8 rfl 1 rfl ?_
    refine j_aload_n C d_qm_depthBarred_9 rfl 0 rfl ?_
    refine qm_r_values C k_854 d_qm_depthBarred_10 rfl rfl ?_
    refine j_icmp_lt C d_qm_depthBarred_13 (tgt := 21) (by decide) rfl (fun c_2 => ?_) (fun c_2 => ?_)
    · refine J.pos (shP σ) c_2 ?_
      refine j_iconst C d_qm_depthBarred_21 rfl kc_i_0 ?_
      exact j_iret C d_qm_depthBarred_22
    · refine J.neg (shP σ) c_2 ?_
      refine j_bipush C d_qm_depthBarred_16 rfl kc_b_m2 ?_
      refine j_goto C d_qm_depthBarred_18 (tgt := 22) (by decide) ?_
      exact j_iret C d_qm_depthBarred_22
  · refine J.neg (shP σ) c_1 ?_
    refine j_iconst C d_qm_depthBarred_4 rfl kc_i_m1 ?_
    refine j_goto C d_qm_depthBarred_5 (tgt := 22) (by decide) ?_
    exact j_iret C d_qm_depthBarred_22
theorem mc_qm_depthBarred (l : Launch) (K : kk_T) (σ : qm_S) (a1 : Int32) : MC l qm_depthBarred_y qm_depthBarred_c 2 (some .int) (0, 0) K (qm_w K) qcl σ [.ref (kq K 18), .int a1] (some (.int (qm_depthBarred σ a1))) σ := mc_of (ov := ovI) (X := (shP σ) (qm_depthBarred σ a1)) (by decide +kernel) (Nat.le_of_ble_eq_true rfl) (fun _ => rfl) rfl (fun Γ e1 e2 C => by subst e1; subst e2; exact w_qm_depthBarred C σ a1)
theorem qm_depthBarred_I : ck_V qm_depthBarred_y qm_depthBarred_c 2 (some .int) 1 := ⟨k_991, k_102, by decide +kernel, k_990, k_58⟩
theorem w_qm_at {Γ : cx_T} (C : cx_C Γ (qm_w (gK Γ)) qcl qm_R qm_at_c 2 (some .long) (0, 0)) (σ : qm_S) (a1 : Int32) : J Γ (qm_w (gK Γ)) qcl (QF Γ (qm_w (gK Γ)) qcl ovL) ((shR σ) (qm_at σ a1)) σ 0 [(0, .ref (kq (gK Γ) 18)), (1, .int a1)] [] := by
  unfold qm_at
  refine j_aload_n C d_qm_at_0 rfl 0 rfl ?_
  refine qm_r_stack C k_855 d_qm_at_1 rfl ?_
  refine j_aload_n C d_qm_at_4 rfl 0 rfl ?_
  refine qm_r_values C k_854 d_qm_at_5 rfl rfl ?_
  refine j_iconst C d_qm_at_8 rfl kc_i_1 ?_
  refine j_isub C d_qm_at_9 rfl ?_
  refine j_iload_n C d_qm_at_10 rfl 1 rfl ?_
  refine j_isub C d_qm_at_11 rfl ?_
  refine J.inR (fun h_1 => ?_)
  refine qm_l_stack C (inb_in h_1) d_qm_at_12 rfl rfl ?_
  exact j_lret C d_qm_at_13
theorem mc_qm_at (l : Launch) (K : kk_T) (σ : qm_S) (a1 : Int32) (r : Int64) (h : qm_at σ a1 = some r) : MC l qm_at_y qm_at_c 2 (some .long) (0, 0) K (qm_w K) qcl σ [.ref (kq K 18), .int a1] (some (.long r)) σ := mc_of (ov := ovL) (X := (shR σ) (qm_at σ a1)) (by decide +kernel) (Nat.le_of_ble_eq_true rfl) (fun _ => rfl) (by rw [h]; rfl) (fun Γ e1 e2 C => by subst e1; subst e2; exact w_qm_at C σ a1)
theorem qm_at_I : ck_V qm_at_y qm_at_c 2 (some .long) 1 := ⟨k_995, k_102, by decide +kernel, k_994, k_59⟩
theorem w_qm_pushInteger {Γ : cx_T} (C : cx_C Γ (qm_w (gK Γ)) qcl qm_R qm_pushInteger_c 3 (some .int) (1, 25)) (σ : qm_S) (a1 : Int64) : J Γ (qm_w (gK Γ)) qcl (QF Γ (qm_w (gK Γ)) qcl ovI) (shO (qm_pushInteger σ a1)) σ 0 [(0, .ref (kq (gK Γ) 18)), (1, .long a1)] [] := by
  unfold qm_pushInteger
  refine j_lload_n C d_qm_pushInteger_0 rfl 1 rfl ?_
  refine j_ldc2 C d_qm_pushInteger_1 rfl k_956 ?_
  refine j_ldc2 C d_qm_pushInteger_4 rfl k_957 ?_
  refine cs_qm C (mc_qm_within (gl Γ) (gK Γ) a1 (-1000000000000000 : Int64) (1000000000000000 : Int64)) qm_within_I k_834 (by decide) d_qm_pushInteger_7 rfl (rest := []) rfl (Nat.le_of_ble_eq_true rfl) ?_
  refine j_if_eq C d_qm_pushInteger_10 (tgt := 25) (by decide) rfl (fun c_1 => ?_) (fun c_1 => ?_)
  · refine J.pos shO c_1 ?_
    refine j_iconst C d_qm_pushInteger_25 rfl kc_i_m1 ?_
    exact j_iret C d_qm_pushInteger_26
  · refine J.neg shO c_1 ?_
    refine j_aload_n C d_qm_pushInteger_13 rfl 0 rfl ?_
    refine j_iconst C d_qm_pushInteger_14 rfl kc_i_0 ?_
    refine j_lload_n C d_qm_pushInteger_15 rfl 1 rfl ?_
    refine cs_qm C (mc_qm_made (gl Γ) (gK Γ) (0 : Int32) a1) qm_made_I k_838 (by decide) d_qm_pushInteger_16 rfl (rest := [.ref (kq (gK Γ) 18)]) rfl (Nat.le_of_ble_eq_true rfl) ?_
    refine J.goO (fun r2 h_3 => ?_)
    refine cv_qm_qm C (mc_qm_pushes (gl Γ) (gK Γ) σ (qm_made (0 : Int32) a1) r2 h_3) qm_pushes_I k_958 (by decide) d_qm_pushInteger_19 rfl (rest := []) rfl ⟨rfl, Nat.le_of_ble_eq_true rfl⟩ ?_
    refine j_goto C d_qm_pushInteger_22 (tgt := 26) (by decide) ?_
    exact j_iret C d_qm_pushInteger_26
theorem mc_qm_pushInteger (l : Launch) (K : kk_T) (σ : qm_S) (a1 : Int64) (r : Int32 × qm_S) (h : qm_pushInteger σ a1 = some r) : MC l qm_pushInteger_y qm_pushInteger_c 3 (some .int) (1, 25) K (qm_w K) qcl σ [.ref (kq K 18), .long a1] (some (.int r.1)) r.2 := mc_of (ov := ovI) (X := shO (qm_pushInteger σ a1)) (by decide +kernel) (Nat.le_of_ble_eq_true rfl) (fun _ => rfl) (by rw [h]; rfl) (fun Γ e1 e2 C => by subst e1; subst e2; exact w_qm_pushInteger C σ a1)
theorem qm_pushInteger_I : ck_V qm_pushInteger_y qm_pushInteger_c 3 (some .int) 1 := ⟨k_955, k_102, by decide +kernel, k_953, k_954⟩
theorem w_qm_pushBoolean {Γ : cx_T} (C : cx_C Γ (qm_w (gK Γ)) qcl qm_R qm_pushBoolean_c 2 (some .int) (2, 42)) (σ : qm_S) (a1 : Int32) : J Γ (qm_w (gK Γ)) qcl (QF Γ (qm_w (gK Γ)) qcl ovI) (shO (qm_pushBoolean σ a1)) σ 0 [(0, .ref (kq (gK Γ) 18)), (1, .int a1)] [] := by
  unfold qm_pushBoolean
  refine j_aload_n C d_qm_pushBoolean_0 rfl 0 rfl ?_
  refine j_iload_n C d_qm_pushBoolean_1 rfl 1 rfl ?_
  refine cs_qm C (mc_qm_truth (gl Γ) (gK Γ) a1) qm_truth_I k_966 (by decide) d_qm_pushBoolean_2 rfl (rest := [.ref (kq (gK Γ) 18)]) rfl (Nat.le_of_ble_eq_true rfl) ?_
  refine J.goO (fun r1 h_2 => ?_)
  refine cv_qm_qm C (mc_qm_pushes (gl Γ) (gK Γ) σ (qm_truth a1) r1 h_2) qm_pushes_I k_958 (by decide) d_qm_pushBoolean_5 rfl (rest := []) rfl ⟨rfl, Nat.le_of_ble_eq_true rfl⟩ ?_
  exact j_iret C d_qm_pushBoolean_8
theorem mc_qm_pushBoolean (l : Launch) (K : kk_T) (σ : qm_S) (a1 : Int32) (r : Int32 × qm_S) (h : qm_pushBoolean σ a1 = some r) : MC l qm_pushBoolean_y qm_pushBoolean_c 2 (some .int) (2, 42) K (qm_w K) qcl σ [.ref (kq K 18), .int a1] (some (.int r.1)) r.2 := mc_of (ov := ovI) (X := shO (qm_pushBoolean σ a1)) (by decide +kernel) (Nat.le_of_ble_eq_true rfl) (fun _ => rfl) (by rw [h]; rfl) (fun Γ e1 e2 C => by subst e1; subst e2; exact w_qm_pushBoolean C σ a1)
theorem qm_pushBoolean_I : ck_V qm_pushBoolean_y qm_pushBoolean_c 2 (some .int) 1 := ⟨k_965, k_102, by decide +kernel, k_963, k_964⟩
theorem w_qm_pushSymbol {Γ : cx_T} (C : cx_C Γ (qm_w (gK Γ)) qcl qm_R qm_pushSymbol_c 2 (some .int) (1, 25)) (σ : qm_S) (a1 : Int32) : J Γ (qm_w (gK Γ)) qcl (QF Γ (qm_w (gK Γ)) qcl ovI) (shO (qm_pushSymbol σ a1)) σ 0 [(0, .ref (kq (gK Γ) 18)), (1, .int a1)] [] := by
  unfold qm_pushSymbol
  refine j_iload_n C d_qm_pushSymbol_0 rfl 1 rfl ?_
  refine j_i2l C d_qm_pushSymbol_1 rfl ?_
  refine j_lconst C d_qm_pushSymbol_2 rfl kc_l_0 ?_
  refine j_ldc2 C d_qm_pushSymbol_3 rfl k_973 ?_
  refine cs_qm C (mc_qm_within (gl Γ) (gK Γ) (Int32.toInt64 a1) (0 : Int64) (99 : Int64)) qm_within_I k_834 (by decide) d_qm_pushSymbol_6 rfl (rest := []) rfl (Nat.le_of_ble_eq_true rfl) ?_
  refine j_if_eq C d_qm_pushSymbol_9 (tgt := 25) (by decide) rfl (fun c_1 => ?_) (fun c_1 => ?_)
  · refine J.pos shO c_1 ?_
    refine j_iconst C d_qm_pushSymbol_25 rfl kc_i_m1 ?_
    exact j_iret C d_qm_pushSymbol_26
  · refine J.neg shO c_1 ?_
    refine j_aload_n C d_qm_pushSymbol_12 rfl 0 rfl ?_
    refine j_iconst C d_qm_pushSymbol_13 rfl kc_i_2 ?_
    refine j_iload_n C d_qm_pushSymbol_14 rfl 1 rfl ?_
    refine j_i2l C d_qm_pushSymbol_15 rfl ?_
    refine cs_qm C (mc_qm_made (gl Γ) (gK Γ) (2 : Int32) (Int32.toInt64 a1)) qm_made_I k_838 (by decide) d_qm_pushSymbol_16 rfl (rest := [.ref (kq (gK Γ) 18)]) rfl (Nat.le_of_ble_eq_true rfl) ?_
    refine J.goO (fun r2 h_3 => ?_)
    refine cv_qm_qm C (mc_qm_pushes (gl Γ) (gK Γ) σ (qm_made (2 : Int32) (Int32.toInt64 a1)) r2 h_3) qm_pushes_I k_958 (by decide) d_qm_pushSymbol_19 rfl (rest := []) rfl ⟨rfl, Nat.le_of_ble_eq_true rfl⟩ ?_
    refine j_goto C d_qm_pushSymbol_22 (tgt := 26) (by decide) ?_
    exact j_iret C d_qm_pushSymbol_26
theorem mc_qm_pushSymbol (l : Launch) (K : kk_T) (σ : qm_S) (a1 : Int32) (r : Int32 × qm_S) (h : qm_pushSymbol σ a1 = some r) : MC l qm_pushSymbol_y qm_pushSymbol_c 2 (some .int) (1, 25) K (qm_w K) qcl σ [.ref (kq K 18), .int a1] (some (.int r.1)) r.2 := mc_of (ov := ovI) (X := shO (qm_pushSymbol σ a1)) (by decide +kernel) (Nat.le_of_ble_eq_true rfl) (fun _ => rfl) (by rw [h]; rfl) (fun Γ e1 e2 C => by subst e1; subst e2; exact w_qm_pushSymbol C σ a1)
theorem qm_pushSymbol_I : ck_V qm_pushSymbol_y qm_pushSymbol_c 2 (some .int) 1 := ⟨k_972, k_102, by decide +kernel, k_970, k_971⟩
theorem w_qm_pushEmpty {Γ : cx_T} (C : cx_C Γ (qm_w (gK Γ)) qcl qm_R qm_pushEmpty_c 2 (some .int) (1, 22)) (σ : qm_S) (a1 : Int32) : J Γ (qm_w (gK Γ)) qcl (QF Γ (qm_w (gK Γ)) qcl ovI) (shO (qm_pushEmpty σ a1)) σ 0 [(0, .ref (kq (gK Γ) 18)), (1, .int a1)] [] := by
  unfold qm_pushEmpty
  refine j_aload_n C d_qm_pushEmpty_0 rfl 0 rfl ?_
  refine j_iload_n C d_qm_pushEmpty_1 rfl 1 rfl ?_
  refine j_if_eq C d_qm_pushEmpty_2 (tgt := 11) (by decide) rfl (fun c_1 => ?_) (fun c_1 => ?_)
  · refine J.pos shO c_1 ?_
    refine j_ldc2 C d_qm_pushEmpty_11 rfl k_979 ?_
    refine J.goO (fun r2 h_3 => ?_)
    refine cv_qm_qm C (mc_qm_pushes (gl Γ) (gK Γ) σ (3 : Int64) r2 h_3) qm_pushes_I k_958 (by decide) d_qm_pushEmpty_14 rfl (rest := []) rfl ⟨rfl, Nat.le_of_ble_eq_true rfl⟩ ?_
    exact j_iret C d_qm_pushEmpty_17
  · refine J.neg shO c_1 ?_
    refine j_ldc2 C d_qm_pushEmpty_5 rfl k_978 ?_
    refine j_goto C d_qm_pushEmpty_8 (tgt := 14) (by decide) ?_
    refine J.goO (fun r4 h_5 => ?_)
    refine cv_qm_qm C (mc_qm_pushes (gl Γ) (gK Γ) σ (8 : Int64) r4 h_5) qm_pushes_I k_958 (by decide) d_qm_pushEmpty_14 rfl (rest := []) rfl ⟨rfl, Nat.le_of_ble_eq_true rfl⟩ ?_
    exact j_iret C d_qm_pushEmpty_17
theorem mc_qm_pushEmpty (l : Launch) (K : kk_T) (σ : qm_S) (a1 : Int32) (r : Int32 × qm_S) (h : qm_pushEmpty σ a1 = some r) : MC l qm_pushEmpty_y qm_pushEmpty_c 2 (some .int) (1, 22) K (qm_w K) qcl σ [.ref (kq K 18), .int a1] (some (.int r.1)) r.2 := mc_of (ov := ovI) (X := shO (qm_pushEmpty σ a1)) (by decide +kernel) (Nat.le_of_ble_eq_true rfl) (fun _ => rfl) (by rw [h]; rfl) (fun Γ e1 e2 C => by subst e1; subst e2; exact w_qm_pushEmpty C σ a1)
theorem qm_pushEmpty_I : ck_V qm_pushEmpty_y qm_pushEmpty_c 2 (some .int) 1 := ⟨k_977, k_102, by decide +kernel, k_975, k_976⟩
theorem w_qm_pushEnvironment {Γ : cx_T} (C : cx_C Γ (qm_w (gK Γ)) qcl qm_R qm_pushEnvironment_c 1 (some .int) (1, 22)) (σ : qm_S)  : J Γ (qm_w (gK Γ)) qcl (QF Γ (qm_w (gK Γ)) qcl ovI) (shO (qm_pushEnvironment σ)) σ 0 [(0, .ref (kq (gK Γ) 18))] [] := by
  unfold qm_pushEnvironment
  refine j_aload_n C d_qm_pushEnvironment_0 rfl 0 rfl ?_
  refine j_aload_n C d_qm_pushEnvironment_1 rfl 0 rfl ?_
  refine qm_r_present C k_856 d_qm_pushEnvironment_2 rfl rfl ?_
  refine J.goO (fun r1 h_2 => ?_)
  refine cv_qm_qm C (mc_qm_pushes (gl Γ) (gK Γ) σ (qm_g_present σ) r1 h_2) qm_pushes_I k_958 (by decide) d_qm_pushEnvironment_5 rfl (rest := []) rfl ⟨rfl, Nat.le_of_ble_eq_true rfl⟩ ?_
  exact j_iret C d_qm_pushEnvironment_8
theorem mc_qm_pushEnvironment (l : Launch) (K : kk_T) (σ : qm_S)  (r : Int32 × qm_S) (h : qm_pushEnvironment σ = some r) : MC l qm_pushEnvironment_y qm_pushEnvironment_c 1 (some .int) (1, 22) K (qm_w K) qcl σ [.ref (kq K 18)] (some (.int r.1)) r.2 := mc_of (ov := ovI) (X := shO (qm_pushEnvironment σ)) (by decide +kernel) (Nat.le_of_ble_eq_true rfl) (fun _ => rfl) (by rw [h]; rfl) (fun Γ e1 e2 C => by subst e1; subst e2; exact w_qm_pushEnvironment C σ)
theorem qm_pushEnvironment_I : ck_V qm_pushEnvironment_y qm_pushEnvironment_c 1 (some .int) 0 := ⟨k_983, k_102, by decide +kernel, k_981, k_982⟩
theorem w_qm_pushCopy {Γ : cx_T} (C : cx_C Γ (qm_w (gK Γ)) qcl qm_R qm_pushCopy_c 3 (some .int) (1, 22)) (σ : qm_S) (a1 : Int32) : J Γ (qm_w (gK Γ)) qcl (QF Γ (qm_w (gK Γ)) qcl ovI) (shO (qm_pushCopy σ a1)) σ 0 [(0, .ref (kq (gK Γ) 18)), (1, .int a1)] [] := by
  unfold qm_pushCopy
  refine j_aload_n C d_qm_pushCopy_0 rfl 0 rfl ?_
  refine j_iload_n C d_qm_pushCopy_1 rfl 1 rfl ?_
  refine cvr_qm_qm C (mc_qm_depthBarred (gl Γ) (gK Γ) σ a1) qm_depthBarred_I k_988 (by decide) d_qm_pushCopy_2 rfl (rest := []) rfl ⟨rfl, Nat.le_of_ble_eq_true rfl⟩ ?_
  refine j_istore_n C (lv' := [(2, .int (qm_depthBarred σ a1)), (0, .ref (kq (gK Γ) 18)), (1, .int a1)]) d_qm_pushCopy_5 rfl rfl (by decide) rfl ?_
  refine j_iload_n C d_qm_pushCopy_6 rfl 0 rfl ?_
  refine j_if_ge C d_qm_pushCopy_7 (tgt := 14) (by decide) rfl (fun c_1 => ?_) (fun c_1 => ?_)
  · refine J.pos shO c_1 ?_
    refine j_aload_n C d_qm_pushCopy_14 rfl 1 rfl ?_
    refine j_aload_n C d_qm_pushCopy_15 rfl 1 rfl ?_
    refine j_iload_n C d_qm_pushCopy_16 rfl 2 rfl ?_
    refine J.goO (fun r2 h_3 => ?_)
    refine cvr_qm_qm C (mc_qm_at (gl Γ) (gK Γ) σ a1 r2 h_3) qm_at_I k_992 (by decide) d_qm_pushCopy_17 rfl (rest := [.ref (kq (gK Γ) 18)]) rfl ⟨rfl, Nat.le_of_ble_eq_true rfl⟩ ?_
    refine J.goO (fun r4 h_5 => ?_)
    refine cv_qm_qm C (mc_qm_pushes (gl Γ) (gK Γ) σ r2 r4 h_5) qm_pushes_I k_958 (by decide) d_qm_pushCopy_20 rfl (rest := []) rfl ⟨rfl, Nat.le_of_ble_eq_true rfl⟩ ?_
    exact j_iret C d_qm_pushCopy_23
  · refine J.neg shO c_1 ?_
    refine j_iload_n C d_qm_pushCopy_10 rfl 0 rfl ?_
    refine j_goto C d_qm_pushCopy_11 (tgt := 23) (by decide) ?_
    exact j_iret C d_qm_pushCopy_23
theorem mc_qm_pushCopy (l : Launch) (K : kk_T) (σ : qm_S) (a1 : Int32) (r : Int32 × qm_S) (h : qm_pushCopy σ a1 = some r) : MC l qm_pushCopy_y qm_pushCopy_c 3 (some .int) (1, 22) K (qm_w K) qcl σ [.ref (kq K 18), .int a1] (some (.int r.1)) r.2 := mc_of (ov := ovI) (X := shO (qm_pushCopy σ a1)) (by decide +kernel) (Nat.le_of_ble_eq_true rfl) (fun _ => rfl) (by rw [h]; rfl) (fun Γ e1 e2 C => by subst e1; subst e2; exact w_qm_pushCopy C σ a1)
theorem qm_pushCopy_I : ck_V qm_pushCopy_y qm_pushCopy_c 3 (some .int) 1 := ⟨k_987, k_102, by decide +kernel, k_985, k_986⟩
theorem w_qm_pushPart_B89 {Γ : cx_T} (C : cx_C Γ (qm_w (gK Γ)) qcl qm_R qm_pushPart_c 8 (some .int) (3, 65)) (σ : qm_S) (x3 : Int64) (x5 : Int32) : J Γ (qm_w (gK Γ)) qcl (QF Γ (qm_w (gK Γ)) qcl ovI) (shO (qm_pushPart_B89 σ x3 x5)) σ 89 [(0, .ref (kq (gK Γ) 18)), (3, .long x3), (5, .int x5)] [] := by
  unfold qm_pushPart_B89
  refine j_aload_n C d_qm_pushPart_89 rfl 0 rfl ?_
  refine qm_r_values C k_854 d_qm_pushPart_90 rfl rfl ?_
  refine j_bipush C d_qm_pushPart_93 rfl kc_b_40 ?_
  refine j_icmp_ne C d_qm_pushPart_95 (tgt := 101) (by decide) rfl (fun c_19 => ?_) (fun c_19 => ?_)
  · refine J.neg shO c_19 ?_
    refine j_iload C d_qm_pushPart_101 rfl 2 rfl ?_
    refine j_bipush C d_qm_pushPart_103 rfl kc_b_6 ?_
    refine j_icmp_ne C d_qm_pushPart_105 (tgt := 116) (by decide) rfl (fun c_20 => ?_) (fun c_20 => ?_)
    · refine J.neg shO c_20 ?_
      refine j_aload_n C d_qm_pushPart_116 rfl 0 rfl ?_
      refine j_lload_n C d_qm_pushPart_117 rfl 1 rfl ?_
      refine J.goO (fun r21 h_22 => ?_)
      refine cvr_qm_qm C (mc_qm_parentOf (gl Γ) (gK Γ) σ x3 r21 h_22) qm_parentOf_I k_1023 (by decide) d_qm_pushPart_118 rfl (rest := []) rfl ⟨rfl, Nat.le_of_ble_eq_true rfl⟩ ?_
      refine j_lstore C (lv' := [(6, .long r21), (0, .ref (kq (gK Γ) 18)), (3, .long x3), (5, .int x5)]) d_qm_pushPart_121 rfl (by decide) rfl ?_
      refine j_lload C d_qm_pushPart_123 rfl 0 rfl ?_
      refine j_ldc2 C d_qm_pushPart_125 rfl k_837 ?_
      refine j_lcmp_ne C d_qm_pushPart_128 d_qm_pushPart_129 (tgt := 137) (by decide) rfl (fun c_23 => ?_) (fun c_23 => ?_)
      · refine J.neg shO c_23 ?_
        refine j_aload_n C d_qm_pushPart_137 rfl 1 rfl ?_
        refine j_lload C d_qm_pushPart_138 rfl 0 rfl ?_
        refine J.goO (fun r24 h_25 => ?_)
        refine cv_qm_qm C (mc_qm_pushes (gl Γ) (gK Γ) σ r21 r24 h_25) qm_pushes_I k_958 (by decide) d_qm_pushPart_140 rfl (rest := []) rfl ⟨rfl, Nat.le_of_ble_eq_true rfl⟩ ?_
        exact j_iret C d_qm_pushPart_143
      · refine J.pos shO c_23 ?_
        refine j_bipush C d_qm_pushPart_132 rfl kc_b_m12 ?_
        refine j_goto C d_qm_pushPart_134 (tgt := 143) (by decide) ?_
        exact j_iret C d_qm_pushPart_143
    · refine J.pos shO c_20 ?_
      refine j_aload_n C d_qm_pushPart_108 rfl 0 rfl ?_
      refine j_lload_n C d_qm_pushPart_109 rfl 1 rfl ?_
      refine J.goO (fun r26 h_27 => ?_)
      refine cvr_qm_qm C (mc_qm_underOf (gl Γ) (gK Γ) σ x3 r26 h_27) qm_underOf_I k_1019 (by decide) d_qm_pushPart_110 rfl (rest := []) rfl ⟨rfl, Nat.le_of_ble_eq_true rfl⟩ ?_
      refine j_goto C d_qm_pushPart_113 (tgt := 121) (by decide) ?_
      refine j_lstore C (lv' := [(6, .long r26), (0, .ref (kq (gK Γ) 18)), (3, .long x3), (5, .int x5)]) d_qm_pushPart_121 rfl (by decide) rfl ?_
      refine j_lload C d_qm_pushPart_123 rfl 0 rfl ?_
      refine j_ldc2 C d_qm_pushPart_125 rfl k_837 ?_
      refine j_lcmp_ne C d_qm_pushPart_128 d_qm_pushPart_129 (tgt := 137) (by decide) rfl (fun c_28 => ?_) (fun c_28 => ?_)
      · refine J.neg shO c_28 ?_
        refine j_aload_n C d_qm_pushPart_137 rfl 1 rfl ?_
        refine j_lload C d_qm_pushPart_138 rfl 0 rfl ?_
        refine J.goO (fun r29 h_30 => ?_)
        refine cv_qm_qm C (mc_qm_pushes (gl Γ) (gK Γ) σ r26 r29 h_30) qm_pushes_I k_958 (by decide) d_qm_pushPart_140 rfl (rest := []) rfl ⟨rfl, Nat.le_of_ble_eq_true rfl⟩ ?_
        exact j_iret C d_qm_pushPart_143
      · refine J.pos shO c_28 ?_
        refine j_bipush C d_qm_pushPart_132 rfl kc_b_m12 ?_
        refine j_goto C d_qm_pushPart_134 (tgt := 143) (by decide) ?_
        exact j_iret C d_qm_pushPart_143
  · refine J.pos shO c_19 ?_
    refine j_bipush C d_qm_pushPart_98 rfl kc_b_m3 ?_
    exact j_iret C d_qm_pushPart_100
theorem w_qm_pushPart {Γ : cx_T} (C : cx_C Γ (qm_w (gK Γ)) qcl qm_R qm_pushPart_c 8 (some .int) (3, 65)) (σ : qm_S) (a1 : Int32) (a2 : Int32) : J Γ (qm_w (gK Γ)) qcl (QF Γ (qm_w (gK Γ)) qcl ovI) (shO (qm_pushPart σ a1 a2)) σ 0 [(0, .ref (kq (gK Γ) 18)), (1, .int a1), (2, .int a2)] [] := by
  unfold qm_pushPart
  refine j_iload_n C d_qm_pushPart_0 rfl 1 rfl ?_
  refine j_if_lt C d_qm_pushPart_1 (tgt := 14) (by decide) rfl (fun c_1 => ?_) (fun c_1 => ?_)
  · refine J.pos shO c_1 ?_
    refine j_iconst C d_qm_pushPart_14 rfl kc_i_m1 ?_
    exact j_iret C d_qm_pushPart_15
  · refine J.neg shO c_1 ?_
    refine j_iload_n C d_qm_pushPart_4 rfl 2 rfl ?_
    refine j_i2l C d_qm_pushPart_5 rfl ?_
    refine j_lconst C d_qm_pushPart_6 rfl kc_l_0 ?_
    refine j_lconst C d_qm_pushPart_7 rfl kc_l_1 ?_
    refine cs_qm C (mc_qm_within (gl Γ) (gK Γ) (Int32.toInt64 a2) (0 : Int64) (1 : Int64)) qm_within_I k_834 (by decide) d_qm_pushPart_8 rfl (rest := []) rfl (Nat.le_of_ble_eq_true rfl) ?_
    refine j_if_ne C d_qm_pushPart_11 (tgt := 16) (by decide) rfl (fun c_2 => ?_) (fun c_2 => ?_)
    · refine J.neg shO c_2 ?_
      refine j_iload_n C d_qm_pushPart_16 rfl 1 rfl ?_
      refine j_aload_n C d_qm_pushPart_17 rfl 0 rfl ?_
      refine qm_r_values C k_854 d_qm_pushPart_18 rfl rfl ?_
      refine j_icmp_lt C d_qm_pushPart_21 (tgt := 27) (by decide) rfl (fun c_3 => ?_) (fun c_3 => ?_)
      · refine J.pos shO c_3 ?_
        refine j_aload_n C d_qm_pushPart_27 rfl 0 rfl ?_
        refine j_iload_n C d_qm_pushPart_28 rfl 1 rfl ?_
        refine J.goO (fun r4 h_5 => ?_)
        refine cvr_qm_qm C (mc_qm_at (gl Γ) (gK Γ) σ a1 r4 h_5) qm_at_I k_992 (by decide) d_qm_pushPart_29 rfl (rest := []) rfl ⟨rfl, Nat.le_of_ble_eq_true rfl⟩ ?_
        refine j_lstore_n C (lv' := [(3, .long r4), (0, .ref (kq (gK Γ) 18)), (1, .int a1), (2, .int a2)]) d_qm_pushPart_32 rfl rfl (by decide) rfl ?_
        refine j_lload_n C d_qm_pushPart_33 rfl 0 rfl ?_
        refine cs_qm C (mc_qm_kindOf (gl Γ) (gK Γ) r4) qm_kindOf_I k_1000 (by decide) d_qm_pushPart_34 rfl (rest := []) rfl (Nat.le_of_ble_eq_true rfl) ?_
        refine j_istore C (lv' := [(5, .int (qm_kindOf r4)), (3, .long r4), (0, .ref (kq (gK Γ) 18)), (1, .int a1), (2, .int a2)]) d_qm_pushPart_37 rfl (by decide) rfl ?_
        refine j_iload C d_qm_pushPart_39 rfl 0 rfl ?_
        refine j_iconst C d_qm_pushPart_41 rfl kc_i_4 ?_
        refine j_icmp_ne C d_qm_pushPart_42 (tgt := 67) (by decide) rfl (fun c_6 => ?_) (fun c_6 => ?_)
        · refine J.neg shO c_6 ?_
          refine j_iload_n C d_qm_pushPart_67 rfl 4 rfl ?_
          refine j_iconst C d_qm_pushPart_68 rfl kc_i_1 ?_
          refine j_icmp_eq C d_qm_pushPart_69 (tgt := 86) (by decide) rfl (fun c_7 => ?_) (fun c_7 => ?_)
          · refine J.pos shO c_7 ?_
            refine j_bipush C d_qm_pushPart_86 rfl kc_b_m4 ?_
            exact j_iret C d_qm_pushPart_88
          · refine J.neg shO c_7 ?_
            refine j_iload C d_qm_pushPart_72 rfl 0 rfl ?_
            refine j_bipush C d_qm_pushPart_74 rfl kc_b_6 ?_
            refine j_icmp_eq C d_qm_pushPart_76 (tgt := 89) (by decide) rfl (fun c_8 => ?_) (fun c_8 => ?_)
            · refine J.pos shO c_8 ?_
              refine J.loc (lv' := [(0, .ref (kq (gK Γ) 18)), (3, .long r4), (5, .int (qm_kindOf r4))]) [2, 1, 0] rfl ?_
              exact w_qm_pushPart_B89 C σ r4 (qm_kindOf r4)
            · refine J.neg shO c_8 ?_
              refine j_iload C d_qm_pushPart_79 rfl 0 rfl ?_
              refine j_bipush C d_qm_pushPart_81 rfl kc_b_7 ?_
              refine j_icmp_eq C d_qm_pushPart_83 (tgt := 89) (by decide) rfl (fun c_9 => ?_) (fun c_9 => ?_)
              · refine J.pos shO c_9 ?_
                refine J.loc (lv' := [(0, .ref (kq (gK Γ) 18)), (3, .long r4), (5, .int (qm_kindOf r4))]) [2, 1, 0] rfl ?_
                exact w_qm_pushPart_B89 C σ r4 (qm_kindOf r4)
              · refine J.neg shO c_9 ?_
                refine j_bipush C d_qm_pushPart_86 rfl kc_b_m4 ?_
                exact j_iret C d_qm_pushPart_88
        · refine J.pos shO c_6 ?_
          refine j_aload_n C d_qm_pushPart_45 rfl 2 rfl ?_
          refine j_iload_n C d_qm_pushPart_46 rfl 4 rfl ?_
          refine j_if_ne C d_qm_pushPart_47 (tgt := 58) (by decide) rfl (fun c_10 => ?_) (fun c_10 => ?_)
          · refine J.neg shO c_10 ?_
            refine j_aload_n C d_qm_pushPart_58 rfl 2 rfl ?_
            refine j_lload_n C d_qm_pushPart_59 rfl 1 rfl ?_
            refine J.goO (fun r11 h_12 => ?_)
            refine cvr_qm_qm C (mc_qm_cdrOf (gl Γ) (gK Γ) σ r4 r11 h_12) qm_cdrOf_I k_1015 (by decide) d_qm_pushPart_60 rfl (rest := [.ref (kq (gK Γ) 18)]) rfl ⟨rfl, Nat.le_of_ble_eq_true rfl⟩ ?_
            refine J.goO (fun r13 h_14 => ?_)
            refine cv_qm_qm C (mc_qm_pushes (gl Γ) (gK Γ) σ r11 r13 h_14) qm_pushes_I k_958 (by decide) d_qm_pushPart_63 rfl (rest := []) rfl ⟨rfl, Nat.le_of_ble_eq_true rfl⟩ ?_
            exact j_iret C d_qm_pushPart_66
          · refine J.pos shO c_10 ?_
            refine j_aload_n C d_qm_pushPart_50 rfl 2 rfl ?_
            refine j_lload_n C d_qm_pushPart_51 rfl 1 rfl ?_
            refine J.goO (fun r15 h_16 => ?_)
            refine cvr_qm_qm C (mc_qm_carOf (gl Γ) (gK Γ) σ r4 r15 h_16) qm_carOf_I k_1004 (by decide) d_qm_pushPart_52 rfl (rest := [.ref (kq (gK Γ) 18)]) rfl ⟨rfl, Nat.le_of_ble_eq_true rfl⟩ ?_
            refine j_goto C d_qm_pushPart_55 (tgt := 63) (by decide) ?_
            refine J.goO (fun r17 h_18 => ?_)
            refine cv_qm_qm C (mc_qm_pushes (gl Γ) (gK Γ) σ r15 r17 h_18) qm_pushes_I k_958 (by decide) d_qm_pushPart_63 rfl (rest := []) rfl ⟨rfl, Nat.le_of_ble_eq_true rfl⟩ ?_
            exact j_iret C d_qm_pushPart_66
      · refine J.neg shO c_3 ?_
        refine j_bipush C d_qm_pushPart_24 rfl kc_b_m2 ?_
        exact j_iret C d_qm_pushPart_26
    · refine J.pos shO c_2 ?_
      refine j_iconst C d_qm_pushPart_14 rfl kc_i_m1 ?_
      exact j_iret C d_qm_pushPart_15
theorem mc_qm_pushPart (l : Launch) (K : kk_T) (σ : qm_S) (a1 : Int32) (a2 : Int32) (r : Int32 × qm_S) (h : qm_pushPart σ a1 a2 = some r) : MC l qm_pushPart_y qm_pushPart_c 8 (some .int) (3, 65) K (qm_w K) qcl σ [.ref (kq K 18), .int a1, .int a2] (some (.int r.1)) r.2 := mc_of (ov := ovI) (X := shO (qm_pushPart σ a1 a2)) (by decide +kernel) (Nat.le_of_ble_eq_true rfl) (fun _ => rfl) (by rw [h]; rfl) (fun Γ e1 e2 C => by subst e1; subst e2; exact w_qm_pushPart C σ a1 a2)
theorem qm_pushPart_I : ck_V qm_pushPart_y qm_pushPart_c 8 (some .int) 2 := ⟨k_999, k_102, by decide +kernel, k_997, k_998⟩
theorem w_qm_pushBinding {Γ : cx_T} (C : cx_C Γ (qm_w (gK Γ)) qcl qm_R qm_pushBinding_c 3 (some .int) (4, 91)) (N : Nat) (σ : qm_S) (a1 : Int32) (a2 : Int32) : J Γ (qm_w (gK Γ)) qcl (QF Γ (qm_w (gK Γ)) qcl ovI) (shO (qm_pushBinding N σ a1 a2)) σ 0 [(0, .ref (kq (gK Γ) 18)), (1, .int a1), (2, .int a2)] [] := by
  unfold qm_pushBinding
  refine j_iload_n C d_qm_pushBinding_0 rfl 1 rfl ?_
  refine j_if_lt C d_qm_pushBinding_1 (tgt := 16) (by decide) rfl (fun c_1 => ?_) (fun c_1 => ?_)
  · refine J.pos shO c_1 ?_
    refine j_iconst C d_qm_pushBinding_16 rfl kc_i_m1 ?_
    exact j_iret C d_qm_pushBinding_17
  · refine J.neg shO c_1 ?_
    refine j_iload_n C d_qm_pushBinding_4 rfl 2 rfl ?_
    refine j_i2l C d_qm_pushBinding_5 rfl ?_
    refine j_lconst C d_qm_pushBinding_6 rfl kc_l_0 ?_
    refine j_ldc2 C d_qm_pushBinding_7 rfl k_973 ?_
    refine cs_qm C (mc_qm_within (gl Γ) (gK Γ) (Int32.toInt64 a2) (0 : Int64) (99 : Int64)) qm_within_I k_834 (by decide) d_qm_pushBinding_10 rfl (rest := []) rfl (Nat.le_of_ble_eq_true rfl) ?_
    refine j_if_ne C d_qm_pushBinding_13 (tgt := 18) (by decide) rfl (fun c_2 => ?_) (fun c_2 => ?_)
    · refine J.neg shO c_2 ?_
      refine j_iload_n C d_qm_pushBinding_18 rfl 1 rfl ?_
      refine j_aload_n C d_qm_pushBinding_19 rfl 0 rfl ?_
      refine qm_r_values C k_854 d_qm_pushBinding_20 rfl rfl ?_
      refine j_icmp_lt C d_qm_pushBinding_23 (tgt := 29) (by decide) rfl (fun c_3 => ?_) (fun c_3 => ?_)
      · refine J.pos shO c_3 ?_
        refine j_aload_n C d_qm_pushBinding_29 rfl 0 rfl ?_
        refine j_iload_n C d_qm_pushBinding_30 rfl 1 rfl ?_
        refine J.goO (fun r4 h_5 => ?_)
        refine cvr_qm_qm C (mc_qm_at (gl Γ) (gK Γ) σ a1 r4 h_5) qm_at_I k_992 (by decide) d_qm_pushBinding_31 rfl (rest := []) rfl ⟨rfl, Nat.le_of_ble_eq_true rfl⟩ ?_
        refine cs_qm C (mc_qm_kindOf (gl Γ) (gK Γ) r4) qm_kindOf_I k_1000 (by decide) d_qm_pushBinding_34 rfl (rest := []) rfl (Nat.le_of_ble_eq_true rfl) ?_
        refine j_bipush C d_qm_pushBinding_37 rfl kc_b_7 ?_
        refine j_icmp_eq C d_qm_pushBinding_39 (tgt := 45) (by decide) rfl (fun c_6 => ?_) (fun c_6 => ?_)
        · refine J.pos shO c_6 ?_
          refine j_aload_n C d_qm_pushBinding_45 rfl 0 rfl ?_
          refine j_aload_n C d_qm_pushBinding_46 rfl 0 rfl ?_
          refine j_iload_n C d_qm_pushBinding_47 rfl 1 rfl ?_
          refine J.goO (fun r7 h_8 => ?_)
          refine cvr_qm_qm C (mc_qm_at (gl Γ) (gK Γ) σ a1 r7 h_8) qm_at_I k_992 (by decide) d_qm_pushBinding_48 rfl (rest := [.ref (kq (gK Γ) 18)]) rfl ⟨rfl, Nat.le_of_ble_eq_true rfl⟩ ?_
          refine j_iload_n C d_qm_pushBinding_51 rfl 2 rfl ?_
          refine J.goO (fun r9 h_10 => ?_)
          refine cv_qm_qm C (mc_qm_finds (gl Γ) (gK Γ) N σ r7 a2 r9 h_10) qm_finds_I k_1032 (by decide) d_qm_pushBinding_52 rfl (rest := []) rfl ⟨rfl, Nat.le_of_ble_eq_true rfl⟩ ?_
          refine j_if_eq C d_qm_pushBinding_55 (tgt := 69) (by decide) rfl (fun c_11 => ?_) (fun c_11 => ?_)
          · refine J.pos shO c_11 ?_
            refine j_bipush C d_qm_pushBinding_69 rfl kc_b_m6 ?_
            exact j_iret C d_qm_pushBinding_71
          · refine J.neg shO c_11 ?_
            refine j_aload_n C d_qm_pushBinding_58 rfl 0 rfl ?_
            refine j_aload_n C d_qm_pushBinding_59 rfl 0 rfl ?_
            refine qm_r_found C k_852 d_qm_pushBinding_60 rfl rfl ?_
            refine J.goO (fun r12 h_13 => ?_)
            refine cv_qm_qm C (mc_qm_pushes (gl Γ) (gK Γ) r9.2 (qm_g_found r9.2) r12 h_13) qm_pushes_I k_958 (by decide) d_qm_pushBinding_63 rfl (rest := []) rfl ⟨rfl, Nat.le_of_ble_eq_true rfl⟩ ?_
            refine j_goto C d_qm_pushBinding_66 (tgt := 71) (by decide) ?_
            exact j_iret C d_qm_pushBinding_71
        · refine J.neg shO c_6 ?_
          refine j_bipush C d_qm_pushBinding_42 rfl kc_b_m4 ?_
          exact j_iret C d_qm_pushBinding_44
      · refine J.neg shO c_3 ?_
        refine j_bipush C d_qm_pushBinding_26 rfl kc_b_m2 ?_
        exact j_iret C d_qm_pushBinding_28
    · refine J.pos shO c_2 ?_
      refine j_iconst C d_qm_pushBinding_16 rfl kc_i_m1 ?_
      exact j_iret C d_qm_pushBinding_17
theorem mc_qm_pushBinding (l : Launch) (K : kk_T) (N : Nat) (σ : qm_S) (a1 : Int32) (a2 : Int32) (r : Int32 × qm_S) (h : qm_pushBinding N σ a1 a2 = some r) : MC l qm_pushBinding_y qm_pushBinding_c 3 (some .int) (4, 91) K (qm_w K) qcl σ [.ref (kq K 18), .int a1, .int a2] (some (.int r.1)) r.2 := mc_of (ov := ovI) (X := shO (qm_pushBinding N σ a1 a2)) (by decide +kernel) (Nat.le_of_ble_eq_true rfl) (fun _ => rfl) (by rw [h]; rfl) (fun Γ e1 e2 C => by subst e1; subst e2; exact w_qm_pushBinding C N σ a1 a2)
theorem qm_pushBinding_I : ck_V qm_pushBinding_y qm_pushBinding_c 3 (some .int) 2 := ⟨k_1031, k_102, by decide +kernel, k_1029, k_1030⟩
theorem w_qm_makePair {Γ : cx_T} (C : cx_C Γ (qm_w (gK Γ)) qcl qm_R qm_makePair_c 3 (some .int) (2, 47)) (σ : qm_S)  : J Γ (qm_w (gK Γ)) qcl (QF Γ (qm_w (gK Γ)) qcl ovI) (shO (qm_makePair σ)) σ 0 [(0, .ref (kq (gK Γ) 18))] [] := by
  unfold qm_makePair
  refine j_aload_n C d_qm_makePair_0 rfl 0 rfl ?_
  refine qm_r_values C k_854 d_qm_makePair_1 rfl rfl ?_
  refine j_iconst C d_qm_makePair_4 rfl kc_i_2 ?_
  refine j_icmp_ge C d_qm_makePair_5 (tgt := 11) (by decide) rfl (fun c_1 => ?_) (fun c_1 => ?_)
  · refine J.pos shO c_1 ?_
    refine j_aload_n C d_qm_makePair_11 rfl 0 rfl ?_
    refine cvr_qm_qm C (mc_qm_isFull (gl Γ) (gK Γ) σ) qm_isFull_I k_1044 (by decide) d_qm_makePair_12 rfl (rest := []) rfl ⟨rfl, Nat.le_of_ble_eq_true rfl⟩ ?_
    refine j_if_eq C d_qm_makePair_15 (tgt := 21) (by decide) rfl (fun c_2 => ?_) (fun c_2 => ?_)
    · refine J.pos shO c_2 ?_
      refine j_aload_n C d_qm_makePair_21 rfl 0 rfl ?_
      refine j_iconst C d_qm_makePair_22 rfl kc_i_4 ?_
      refine j_aload_n C d_qm_makePair_23 rfl 0 rfl ?_
      refine j_iconst C d_qm_makePair_24 rfl kc_i_1 ?_
      refine J.goO (fun r3 h_4 => ?_)
      refine cvr_qm_qm C (mc_qm_at (gl Γ) (gK Γ) σ (1 : Int32) r3 h_4) qm_at_I k_992 (by decide) d_qm_makePair_25 rfl (rest := [.int (4 : Int32), .ref (kq (gK Γ) 18)]) rfl ⟨rfl, Nat.le_of_ble_eq_true rfl⟩ ?_
      refine j_aload_n C d_qm_makePair_28 rfl 0 rfl ?_
      refine j_iconst C d_qm_makePair_29 rfl kc_i_0 ?_
      refine J.goO (fun r5 h_6 => ?_)
      refine cvr_qm_qm C (mc_qm_at (gl Γ) (gK Γ) σ (0 : Int32) r5 h_6) qm_at_I k_992 (by decide) d_qm_makePair_30 rfl (rest := [.long r3, .int (4 : Int32), .ref (kq (gK Γ) 18)]) rfl ⟨rfl, Nat.le_of_ble_eq_true rfl⟩ ?_
      refine J.goO (fun r7 h_8 => ?_)
      refine cv_qm_qm C (mc_qm_adds (gl Γ) (gK Γ) σ (4 : Int32) r3 r5 r7 h_8) qm_adds_I k_1048 (by decide) d_qm_makePair_33 rfl (rest := []) rfl ⟨rfl, Nat.le_of_ble_eq_true rfl⟩ ?_
      refine j_lstore_n C (lv' := [(1, .long r7.1), (0, .ref (kq (gK Γ) 18))]) d_qm_makePair_36 rfl rfl (by decide) rfl ?_
      refine j_aload_n C d_qm_makePair_37 rfl 1 rfl ?_
      refine j_dup C d_qm_makePair_38 rfl rfl ?_
      refine qm_r_values C k_854 d_qm_makePair_39 rfl rfl ?_
      refine j_iconst C d_qm_makePair_42 rfl kc_i_2 ?_
      refine j_isub C d_qm_makePair_43 rfl ?_
      refine qm_p_values C k_854 d_qm_makePair_44 rfl ?_
      refine j_aload_n C d_qm_makePair_47 rfl 1 rfl ?_
      refine j_lload_n C d_qm_makePair_48 rfl 0 rfl ?_
      refine J.goO (fun r9 h_10 => ?_)
      refine cv_qm_qm C (mc_qm_pushes (gl Γ) (gK Γ) (qm_s_values r7.2 ((qm_g_values r7.2) - (2 : Int32))) r7.1 r9 h_10) qm_pushes_I k_958 (by decide) d_qm_makePair_49 rfl (rest := []) rfl ⟨rfl, Nat.le_of_ble_eq_true rfl⟩ ?_
      exact j_iret C d_qm_makePair_52
    · refine J.neg shO c_2 ?_
      refine j_bipush C d_qm_makePair_18 rfl kc_b_m5 ?_
      exact j_iret C d_qm_makePair_20
  · refine J.neg shO c_1 ?_
    refine j_bipush C d_qm_makePair_8 rfl kc_b_m2 ?_
    exact j_iret C d_qm_makePair_10
theorem mc_qm_makePair (l : Launch) (K : kk_T) (σ : qm_S)  (r : Int32 × qm_S) (h : qm_makePair σ = some r) : MC l qm_makePair_y qm_makePair_c 3 (some .int) (2, 47) K (qm_w K) qcl σ [.ref (kq K 18)] (some (.int r.1)) r.2 := mc_of (ov := ovI) (X := shO (qm_makePair σ)) (by decide +kernel) (Nat.le_of_ble_eq_true rfl) (fun _ => rfl) (by rw [h]; rfl) (fun Γ e1 e2 C => by subst e1; subst e2; exact w_qm_makePair C σ)
theorem qm_makePair_I : ck_V qm_makePair_y qm_makePair_c 3 (some .int) 0 := ⟨k_1043, k_102, by decide +kernel, k_1041, k_1042⟩
theorem w_qm_makeList_L57 {Γ : cx_T} (C : cx_C Γ (qm_w (gK Γ)) qcl qm_R qm_makeList_c 5 (some .int) (2, 47)) (N : Nat) : ∀ (k : Nat) (σ : qm_S) (x1 : Int32) (x2 : Int64) (x4 : Int32), J Γ (qm_w (gK Γ)) qcl (QF Γ (qm_w (gK Γ)) qcl ovI) (shO (qm_makeList_L57 N k σ x1 x2 x4)) σ 57 [(0, .ref (kq (gK Γ) 18)), (1, .int x1), (2, .long x2), (4, .int x4)] [] := by
  intro k
  induction k with
  | zero => intro σ x1 x2 x4; exact J.none rfl
  | succ k ih =>
    intro σ x1 x2 x4
    rw [qm_makeList_L57]
    refine j_iload C d_qm_makeList_57 rfl 3 rfl ?_
    refine j_iload_n C d_qm_makeList_59 rfl 1 rfl ?_
    refine j_icmp_ge C d_qm_makeList_60 (tgt := 82) (by decide) rfl (fun c_7 => ?_) (fun c_7 => ?_)
    · refine J.pos shO c_7 ?_
      refine j_aload_n C d_qm_makeList_82 rfl 0 rfl ?_
      refine j_dup C d_qm_makeList_83 rfl rfl ?_
      refine qm_r_values C k_854 d_qm_makeList_84 rfl rfl ?_
      refine j_iload_n C d_qm_makeList_87 rfl 1 rfl ?_
      refine j_isub C d_qm_makeList_88 rfl ?_
      refine qm_p_values C k_854 d_qm_makeList_89 rfl ?_
      refine j_aload_n C d_qm_makeList_92 rfl 0 rfl ?_
      refine j_lload_n C d_qm_makeList_93 rfl 2 rfl ?_
      refine J.goO (fun r8 h_9 => ?_)
      refine cv_qm_qm C (mc_qm_pushes (gl Γ) (gK Γ) (qm_s_values σ ((qm_g_values σ) - x1)) x2 r8 h_9) qm_pushes_I k_958 (by decide) d_qm_makeList_94 rfl (rest := []) rfl ⟨rfl, Nat.le_of_ble_eq_true rfl⟩ ?_
      exact j_iret C d_qm_makeList_97
    · refine J.neg shO c_7 ?_
      refine j_aload_n C d_qm_makeList_63 rfl 0 rfl ?_
      refine j_iconst C d_qm_makeList_64 rfl kc_i_4 ?_
      refine j_aload_n C d_qm_makeList_65 rfl 0 rfl ?_
      refine j_iload C d_qm_makeList_66 rfl 3 rfl ?_
      refine J.goO (fun r10 h_11 => ?_)
      refine cvr_qm_qm C (mc_qm_at (gl Γ) (gK Γ) σ x4 r10 h_11) qm_at_I k_992 (by decide) d_qm_makeList_68 rfl (rest := [.int (4 : Int32), .ref (kq (gK Γ) 18)]) rfl ⟨rfl, Nat.le_of_ble_eq_true rfl⟩ ?_
      refine j_lload_n C d_qm_makeList_71 rfl 2 rfl ?_
      refine J.goO (fun r12 h_13 => ?_)
      refine cv_qm_qm C (mc_qm_adds (gl Γ) (gK Γ) σ (4 : Int32) r10 x2 r12 h_13) qm_adds_I k_1048 (by decide) d_qm_makeList_72 rfl (rest := []) rfl ⟨rfl, Nat.le_of_ble_eq_true rfl⟩ ?_
      refine j_lstore_n C (lv' := [(2, .long r12.1), (0, .ref (kq (gK Γ) 18)), (1, .int x1), (4, .int x4)]) d_qm_makeList_75 rfl rfl (by decide) rfl ?_
      refine j_iinc C (v := (x4 + (1 : Int32))) (lv' := [(4, .int (x4 + (1 : Int32))), (2, .long r12.1), (0, .ref (kq (gK Γ) 18)), (1, .int x1)]) d_qm_makeList_76 rfl 3 rfl (kc_inc_1 _) (by decide) rfl ?_
      refine j_goto C d_qm_makeList_79 (tgt := 57) (by decide) ?_
      refine J.loc (lv' := [(0, .ref (kq (gK Γ) 18)), (1, .int x1), (2, .long r12.1), (4, .int (x4 + (1 : Int32)))]) [2, 3, 1, 0] rfl ?_
      exact ih r12.2 x1 r12.1 (x4 + (1 : Int32))
theorem w_qm_makeList {Γ : cx_T} (C : cx_C Γ (qm_w (gK Γ)) qcl qm_R qm_makeList_c 5 (some .int) (2, 47)) (N : Nat) (σ : qm_S) (a1 : Int32) : J Γ (qm_w (gK Γ)) qcl (QF Γ (qm_w (gK Γ)) qcl ovI) (shO (qm_makeList N σ a1)) σ 0 [(0, .ref (kq (gK Γ) 18)), (1, .int a1)] [] := by
  unfold qm_makeList
  refine j_iload_n C d_qm_makeList_0 rfl 1 rfl ?_
  refine j_i2l C d_qm_makeList_1 rfl ?_
  refine j_lconst C d_qm_makeList_2 rfl kc_l_0 ?_
  refine j_ldc2 C d_qm_makeList_3 rfl k_1056 ?_
  refine cs_qm C (mc_qm_within (gl Γ) (gK Γ) (Int32.toInt64 a1) (0 : Int64) (40 : Int64)) qm_within_I k_834 (by decide) d_qm_makeList_6 rfl (rest := []) rfl (Nat.le_of_ble_eq_true rfl) ?_
  refine j_if_ne C d_qm_makeList_9 (tgt := 14) (by decide) rfl (fun c_1 => ?_) (fun c_1 => ?_)
  · refine J.neg shO c_1 ?_
    refine j_iload_n C d_qm_makeList_14 rfl 1 rfl ?_
    refine j_aload_n C d_qm_makeList_15 rfl 0 rfl ?_
    refine qm_r_values C k_854 d_qm_makeList_16 rfl rfl ?_
    refine j_icmp_le C d_qm_makeList_19 (tgt := 25) (by decide) rfl (fun c_2 => ?_) (fun c_2 => ?_)
    · refine J.pos shO c_2 ?_
      refine j_aload_n C d_qm_makeList_25 rfl 0 rfl ?_
      refine qm_r_objects C k_842 d_qm_makeList_26 rfl rfl ?_
      refine j_iload_n C d_qm_makeList_29 rfl 1 rfl ?_
      refine j_iadd C d_qm_makeList_30 rfl ?_
      refine j_sipush C d_qm_makeList_31 rfl kc_s_4000 ?_
      refine j_icmp_le C d_qm_makeList_34 (tgt := 40) (by decide) rfl (fun c_3 => ?_) (fun c_3 => ?_)
      · refine J.pos shO c_3 ?_
        refine j_ldc2 C d_qm_makeList_40 rfl k_979 ?_
        refine j_lstore_n C (lv' := [(2, .long (3 : Int64)), (0, .ref (kq (gK Γ) 18)), (1, .int a1)]) d_qm_makeList_43 rfl rfl (by decide) rfl ?_
        refine j_iload_n C d_qm_makeList_44 rfl 2 rfl ?_
        refine j_if_ne C d_qm_makeList_45 (tgt := 54) (by decide) rfl (fun c_4 => ?_) (fun c_4 => ?_)
        · refine J.neg shO c_4 ?_
          refine j_iconst C d_qm_makeList_54 rfl kc_i_0 ?_
          refine j_istore C (lv' := [(4, .int (0 : Int32)), (2, .long (3 : Int64)), (0, .ref (kq (gK Γ) 18)), (1, .int a1)]) d_qm_makeList_55 rfl (by decide) rfl ?_
          refine J.loc (lv' := [(0, .ref (kq (gK Γ) 18)), (1, .int a1), (2, .long (3 : Int64)), (4, .int (0 : Int32))]) [2, 3, 1, 0] rfl ?_
          exact w_qm_makeList_L57 C N N σ a1 (3 : Int64) (0 : Int32)
        · refine J.pos shO c_4 ?_
          refine j_aload_n C d_qm_makeList_48 rfl 1 rfl ?_
          refine j_lload_n C d_qm_makeList_49 rfl 0 rfl ?_
          refine J.goO (fun r5 h_6 => ?_)
          refine cv_qm_qm C (mc_qm_pushes (gl Γ) (gK Γ) σ (3 : Int64) r5 h_6) qm_pushes_I k_958 (by decide) d_qm_makeList_50 rfl (rest := []) rfl ⟨rfl, Nat.le_of_ble_eq_true rfl⟩ ?_
          exact j_iret C d_qm_makeList_53
      · refine J.neg shO c_3 ?_
        refine j_bipush C d_qm_makeList_37 rfl kc_b_m5 ?_
        exact j_iret C d_qm_makeList_39
    · refine J.neg shO c_2 ?_
      refine j_bipush C d_qm_makeList_22 rfl kc_b_m2 ?_
      exact j_iret C d_qm_makeList_24
  · refine J.pos shO c_1 ?_
    refine j_iconst C d_qm_makeList_12 rfl kc_i_m1 ?_
    exact j_iret C d_qm_makeList_13
theorem mc_qm_makeList (l : Launch) (K : kk_T) (N : Nat) (σ : qm_S) (a1 : Int32) (r : Int32 × qm_S) (h : qm_makeList N σ a1 = some r) : MC l qm_makeList_y qm_makeList_c 5 (some .int) (2, 47) K (qm_w K) qcl σ [.ref (kq K 18), .int a1] (some (.int r.1)) r.2 := mc_of (ov := ovI) (X := shO (qm_makeList N σ a1)) (by decide +kernel) (Nat.le_of_ble_eq_true rfl) (fun _ => rfl) (by rw [h]; rfl) (fun Γ e1 e2 C => by subst e1; subst e2; exact w_qm_makeList C N σ a1)
theorem qm_makeList_I : ck_V qm_makeList_y qm_makeList_c 5 (some .int) 1 := ⟨k_1055, k_102, by decide +kernel, k_1053, k_1054⟩
theorem w_qm_drop {Γ : cx_T} (C : cx_C Γ (qm_w (gK Γ)) qcl qm_R qm_drop_c 2 (some .int) (1, 25)) (σ : qm_S) (a1 : Int32) : J Γ (qm_w (gK Γ)) qcl (QF Γ (qm_w (gK Γ)) qcl ovI) (shT (qm_drop σ a1)) σ 0 [(0, .ref (kq (gK Γ) 18)), (1, .int a1)] [] := by
  unfold qm_drop
  refine j_iload_n C d_qm_drop_0 rfl 1 rfl ?_
  refine j_i2l C d_qm_drop_1 rfl ?_
  refine j_lconst C d_qm_drop_2 rfl kc_l_0 ?_
  refine j_ldc2 C d_qm_drop_3 rfl k_1056 ?_
  refine cs_qm C (mc_qm_within (gl Γ) (gK Γ) (Int32.toInt64 a1) (0 : Int64) (40 : Int64)) qm_within_I k_834 (by decide) d_qm_drop_6 rfl (rest := []) rfl (Nat.le_of_ble_eq_true rfl) ?_
  refine j_if_ne C d_qm_drop_9 (tgt := 14) (by decide) rfl (fun c_1 => ?_) (fun c_1 => ?_)
  · refine J.neg shT c_1 ?_
    refine j_iload_n C d_qm_drop_14 rfl 1 rfl ?_
    refine j_aload_n C d_qm_drop_15 rfl 0 rfl ?_
    refine qm_r_values C k_854 d_qm_drop_16 rfl rfl ?_
    refine j_icmp_le C d_qm_drop_19 (tgt := 25) (by decide) rfl (fun c_2 => ?_) (fun c_2 => ?_)
    · refine J.pos shT c_2 ?_
      refine j_aload_n C d_qm_drop_25 rfl 0 rfl ?_
      refine j_dup C d_qm_drop_26 rfl rfl ?_
      refine qm_r_values C k_854 d_qm_drop_27 rfl rfl ?_
      refine j_iload_n C d_qm_drop_30 rfl 1 rfl ?_
      refine j_isub C d_qm_drop_31 rfl ?_
      refine qm_p_values C k_854 d_qm_drop_32 rfl ?_
      refine j_aload_n C d_qm_drop_35 rfl 0 rfl ?_
      refine qm_r_values C k_854 d_qm_drop_36 rfl (x := ((qm_g_values σ) - a1)) (gv_qm_values _ _) ?_
      exact j_iret C d_qm_drop_39
    · refine J.neg shT c_2 ?_
      refine j_bipush C d_qm_drop_22 rfl kc_b_m2 ?_
      exact j_iret C d_qm_drop_24
  · refine J.pos shT c_1 ?_
    refine j_iconst C d_qm_drop_12 rfl kc_i_m1 ?_
    exact j_iret C d_qm_drop_13
theorem mc_qm_drop (l : Launch) (K : kk_T) (σ : qm_S) (a1 : Int32) : MC l qm_drop_y qm_drop_c 2 (some .int) (1, 25) K (qm_w K) qcl σ [.ref (kq K 18), .int a1] (some (.int (qm_drop σ a1).1)) (qm_drop σ a1).2 := mc_of (ov := ovI) (X := shT (qm_drop σ a1)) (by decide +kernel) (Nat.le_of_ble_eq_true rfl) (fun _ => rfl) rfl (fun Γ e1 e2 C => by subst e1; subst e2; exact w_qm_drop C σ a1)
theorem qm_drop_I : ck_V qm_drop_y qm_drop_c 2 (some .int) 1 := ⟨k_1060, k_102, by decide +kernel, k_1058, k_1059⟩
theorem w_qm_reset {Γ : cx_T} (C : cx_C Γ (qm_w (gK Γ)) qcl qm_R qm_reset_c 2 (some .int) (2, 46)) (N : Nat) (σ : qm_S)  : J Γ (qm_w (gK Γ)) qcl (QF Γ (qm_w (gK Γ)) qcl ovI) (shO (qm_reset N σ)) σ 0 [(0, .ref (kq (gK Γ) 18))] [] := by
  unfold qm_reset
  refine j_aload_n C d_qm_reset_0 rfl 0 rfl ?_
  refine qm_r_objects C k_842 d_qm_reset_1 rfl rfl ?_
  refine j_istore_n C (lv' := [(1, .int (qm_g_objects σ)), (0, .ref (kq (gK Γ) 18))]) d_qm_reset_4 rfl rfl (by decide) rfl ?_
  refine j_aload_n C d_qm_reset_5 rfl 1 rfl ?_
  refine J.goO (fun r1 h_2 => ?_)
  refine cv0_qm_qm C (mc_qm_begin (gl Γ) (gK Γ) N σ r1 h_2) qm_begin_I k_827 (by decide) d_qm_reset_6 rfl (rest := []) rfl ⟨rfl, Nat.le_of_ble_eq_true rfl⟩ ?_
  refine j_iload_n C d_qm_reset_9 rfl 0 rfl ?_
  exact j_iret C d_qm_reset_10
theorem mc_qm_reset (l : Launch) (K : kk_T) (N : Nat) (σ : qm_S)  (r : Int32 × qm_S) (h : qm_reset N σ = some r) : MC l qm_reset_y qm_reset_c 2 (some .int) (2, 46) K (qm_w K) qcl σ [.ref (kq K 18)] (some (.int r.1)) r.2 := mc_of (ov := ovI) (X := shO (qm_reset N σ)) (by decide +kernel) (Nat.le_of_ble_eq_true rfl) (fun _ => rfl) (by rw [h]; rfl) (fun Γ e1 e2 C => by subst e1; subst e2; exact w_qm_reset C N σ)
theorem qm_reset_I : ck_V qm_reset_y qm_reset_c 2 (some .int) 0 := ⟨k_1064, k_102, by decide +kernel, k_1062, k_1063⟩
theorem w_qm_size {Γ : cx_T} (C : cx_C Γ (qm_w (gK Γ)) qcl qm_R qm_size_c 1 (some .int) (0, 0)) (σ : qm_S)  : J Γ (qm_w (gK Γ)) qcl (QF Γ (qm_w (gK Γ)) qcl ovI) ((shP σ) (qm_size σ)) σ 0 [(0, .ref (kq (gK Γ) 18))] [] := by
  unfold qm_size
  refine j_aload_n C d_qm_size_0 rfl 0 rfl ?_
  refine qm_r_values C k_854 d_qm_size_1 rfl rfl ?_
  exact j_iret C d_qm_size_4
theorem mc_qm_size (l : Launch) (K : kk_T) (σ : qm_S)  : MC l qm_size_y qm_size_c 1 (some .int) (0, 0) K (qm_w K) qcl σ [.ref (kq K 18)] (some (.int (qm_size σ))) σ := mc_of (ov := ovI) (X := (shP σ) (qm_size σ)) (by decide +kernel) (Nat.le_of_ble_eq_true rfl) (fun _ => rfl) rfl (fun Γ e1 e2 C => by subst e1; subst e2; exact w_qm_size C σ)
theorem qm_size_I : ck_V qm_size_y qm_size_c 1 (some .int) 0 := ⟨k_1068, k_102, by decide +kernel, k_1066, k_1067⟩
theorem w_qm_kind {Γ : cx_T} (C : cx_C Γ (qm_w (gK Γ)) qcl qm_R qm_kind_c 3 (some .int) (1, 21)) (σ : qm_S) (a1 : Int32) : J Γ (qm_w (gK Γ)) qcl (QF Γ (qm_w (gK Γ)) qcl ovI) ((shR σ) (qm_kind σ a1)) σ 0 [(0, .ref (kq (gK Γ) 18)), (1, .int a1)] [] := by
  unfold qm_kind
  refine j_aload_n C d_qm_kind_0 rfl 0 rfl ?_
  refine j_iload_n C d_qm_kind_1 rfl 1 rfl ?_
  refine cvr_qm_qm C (mc_qm_depthBarred (gl Γ) (gK Γ) σ a1) qm_depthBarred_I k_988 (by decide) d_qm_kind_2 rfl (rest := []) rfl ⟨rfl, Nat.le_of_ble_eq_true rfl⟩ ?_
  refine j_istore_n C (lv' := [(2, .int (qm_depthBarred σ a1)), (0, .ref (kq (gK Γ) 18)), (1, .int a1)]) d_qm_kind_5 rfl rfl (by decide) rfl ?_
  refine j_iload_n C d_qm_kind_6 rfl 0 rfl ?_
  refine j_if_ge C d_qm_kind_7 (tgt := 14) (by decide) rfl (fun c_1 => ?_) (fun c_1 => ?_)
  · refine J.pos (shR σ) c_1 ?_
    refine j_aload_n C d_qm_kind_14 rfl 1 rfl ?_
    refine j_iload_n C d_qm_kind_15 rfl 2 rfl ?_
    refine J.goR (fun r2 h_3 => ?_)
    refine cvr_qm_qm C (mc_qm_at (gl Γ) (gK Γ) σ a1 r2 h_3) qm_at_I k_992 (by decide) d_qm_kind_16 rfl (rest := []) rfl ⟨rfl, Nat.le_of_ble_eq_true rfl⟩ ?_
    refine cs_qm C (mc_qm_kindOf (gl Γ) (gK Γ) r2) qm_kindOf_I k_1000 (by decide) d_qm_kind_19 rfl (rest := []) rfl (Nat.le_of_ble_eq_true rfl) ?_
    exact j_iret C d_qm_kind_22
  · refine J.neg (shR σ) c_1 ?_
    refine j_iload_n C d_qm_kind_10 rfl 0 rfl ?_
    refine j_goto C d_qm_kind_11 (tgt := 22) (by decide) ?_
    exact j_iret C d_qm_kind_22
theorem mc_qm_kind (l : Launch) (K : kk_T) (σ : qm_S) (a1 : Int32) (r : Int32) (h : qm_kind σ a1 = some r) : MC l qm_kind_y qm_kind_c 3 (some .int) (1, 21) K (qm_w K) qcl σ [.ref (kq K 18), .int a1] (some (.int r)) σ := mc_of (ov := ovI) (X := (shR σ) (qm_kind σ a1)) (by decide +kernel) (Nat.le_of_ble_eq_true rfl) (fun _ => rfl) (by rw [h]; rfl) (fun Γ e1 e2 C => by subst e1; subst e2; exact w_qm_kind C σ a1)
theorem qm_kind_I : ck_V qm_kind_y qm_kind_c 3 (some .int) 1 := ⟨k_1072, k_102, by decide +kernel, k_1070, k_1071⟩
theorem w_qm_value {Γ : cx_T} (C : cx_C Γ (qm_w (gK Γ)) qcl qm_R qm_value_c 2 (some .long) (1, 21)) (σ : qm_S) (a1 : Int32) : J Γ (qm_w (gK Γ)) qcl (QF Γ (qm_w (gK Γ)) qcl ovL) ((shR σ) (qm_value σ a1)) σ 0 [(0, .ref (kq (gK Γ) 18)), (1, .int a1)] [] := by
  unfold qm_value
  refine j_aload_n C d_qm_value_0 rfl 0 rfl ?_
  refine j_iload_n C d_qm_value_1 rfl 1 rfl ?_
  refine cvr_qm_qm C (mc_qm_depthBarred (gl Γ) (gK Γ) σ a1) qm_depthBarred_I k_988 (by decide) d_qm_value_2 rfl (rest := []) rfl ⟨rfl, Nat.le_of_ble_eq_true rfl⟩ ?_
  refine j_if_lt C d_qm_value_5 (tgt := 20) (by decide) rfl (fun c_1 => ?_) (fun c_1 => ?_)
  · refine J.pos (shR σ) c_1 ?_
    refine cs_qm C (mc_qm_lost (gl Γ) (gK Γ)) qm_lost_I k_1077 (by decide) d_qm_value_20 rfl (rest := []) rfl (Nat.le_of_ble_eq_true rfl) ?_
    exact j_lret C d_qm_value_23
  · refine J.neg (shR σ) c_1 ?_
    refine j_aload_n C d_qm_value_8 rfl 0 rfl ?_
    refine j_iload_n C d_qm_value_9 rfl 1 rfl ?_
    refine J.goR (fun r2 h_3 => ?_)
    refine cvr_qm_qm C (mc_qm_at (gl Γ) (gK Γ) σ a1 r2 h_3) qm_at_I k_992 (by decide) d_qm_value_10 rfl (rest := []) rfl ⟨rfl, Nat.le_of_ble_eq_true rfl⟩ ?_
    refine cs_qm C (mc_qm_kindOf (gl Γ) (gK Γ) r2) qm_kindOf_I k_1000 (by decide) d_qm_value_13 rfl (rest := []) rfl (Nat.le_of_ble_eq_true rfl) ?_
    refine j_iconst C d_qm_value_16 rfl kc_i_2 ?_
    refine j_icmp_le C d_qm_value_17 (tgt := 24) (by decide) rfl (fun c_4 => ?_) (fun c_4 => ?_)
    · refine J.pos (shR σ) c_4 ?_
      refine j_aload_n C d_qm_value_24 rfl 0 rfl ?_
      refine j_iload_n C d_qm_value_25 rfl 1 rfl ?_
      refine J.goR (fun r5 h_6 => ?_)
      refine cvr_qm_qm C (mc_qm_at (gl Γ) (gK Γ) σ a1 r5 h_6) qm_at_I k_992 (by decide) d_qm_value_26 rfl (rest := []) rfl ⟨rfl, Nat.le_of_ble_eq_true rfl⟩ ?_
      refine cs_qm C (mc_qm_whatOf (gl Γ) (gK Γ) r5) qm_whatOf_I k_1012 (by decide) d_qm_value_29 rfl (rest := []) rfl (Nat.le_of_ble_eq_true rfl) ?_
      exact j_lret C d_qm_value_32
    · refine J.neg (shR σ) c_4 ?_
      refine cs_qm C (mc_qm_lost (gl Γ) (gK Γ)) qm_lost_I k_1077 (by decide) d_qm_value_20 rfl (rest := []) rfl (Nat.le_of_ble_eq_true rfl) ?_
      exact j_lret C d_qm_value_23
theorem mc_qm_value (l : Launch) (K : kk_T) (σ : qm_S) (a1 : Int32) (r : Int64) (h : qm_value σ a1 = some r) : MC l qm_value_y qm_value_c 2 (some .long) (1, 21) K (qm_w K) qcl σ [.ref (kq K 18), .int a1] (some (.long r)) σ := mc_of (ov := ovL) (X := (shR σ) (qm_value σ a1)) (by decide +kernel) (Nat.le_of_ble_eq_true rfl) (fun _ => rfl) (by rw [h]; rfl) (fun Γ e1 e2 C => by subst e1; subst e2; exact w_qm_value C σ a1)
theorem qm_value_I : ck_V qm_value_y qm_value_c 2 (some .long) 1 := ⟨k_1076, k_102, by decide +kernel, k_1074, k_1075⟩
theorem w_qm_areSame {Γ : cx_T} (C : cx_C Γ (qm_w (gK Γ)) qcl qm_R qm_areSame_c 3 (some .int) (1, 21)) (σ : qm_S) (a1 : Int32) (a2 : Int32) : J Γ (qm_w (gK Γ)) qcl (QF Γ (qm_w (gK Γ)) qcl ovI) ((shR σ) (qm_areSame σ a1 a2)) σ 0 [(0, .ref (kq (gK Γ) 18)), (1, .int a1), (2, .int a2)] [] := by
  unfold qm_areSame
  refine j_iload_n C d_qm_areSame_0 rfl 1 rfl ?_
  refine j_if_lt C d_qm_areSame_1 (tgt := 8) (by decide) rfl (fun c_1 => ?_) (fun c_1 => ?_)
  · refine J.pos (shR σ) c_1 ?_
    refine j_iconst C d_qm_areSame_8 rfl kc_i_m1 ?_
    exact j_iret C d_qm_areSame_9
  · refine J.neg (shR σ) c_1 ?_
    refine j_iload_n C d_qm_areSame_4 rfl 2 rfl ?_
    refine j_if_ge C d_qm_areSame_5 (tgt := 10) (by decide) rfl (fun c_2 => ?_) (fun c_2 => ?_)
    · refine J.pos (shR σ) c_2 ?_
      refine j_iload_n C d_qm_areSame_10 rfl 1 rfl ?_
      refine j_aload_n C d_qm_areSame_11 rfl 0 rfl ?_
      refine qm_r_values C k_854 d_qm_areSame_12 rfl rfl ?_
      refine j_icmp_ge C d_qm_areSame_15 (tgt := 26) (by decide) rfl (fun c_3 => ?_) (fun c_3 => ?_)
      · refine J.pos (shR σ) c_3 ?_
        refine j_bipush C d_qm_areSame_26 rfl kc_b_m2 ?_
        exact j_iret C d_qm_areSame_28
      · refine J.neg (shR σ) c_3 ?_
        refine j_iload_n C d_qm_areSame_18 rfl 2 rfl ?_
        refine j_aload_n C d_qm_areSame_19 rfl 0 rfl ?_
        refine qm_r_values C k_854 d_qm_areSame_20 rfl rfl ?_
        refine j_icmp_lt C d_qm_areSame_23 (tgt := 29) (by decide) rfl (fun c_4 => ?_) (fun c_4 => ?_)
        · refine J.pos (shR σ) c_4 ?_
          refine j_aload_n C d_qm_areSame_29 rfl 0 rfl ?_
          refine j_iload_n C d_qm_areSame_30 rfl 1 rfl ?_
          refine J.goR (fun r5 h_6 => ?_)
          refine cvr_qm_qm C (mc_qm_at (gl Γ) (gK Γ) σ a1 r5 h_6) qm_at_I k_992 (by decide) d_qm_areSame_31 rfl (rest := []) rfl ⟨rfl, Nat.le_of_ble_eq_true rfl⟩ ?_
          refine j_aload_n C d_qm_areSame_34 rfl 0 rfl ?_
          refine j_iload_n C d_qm_areSame_35 rfl 2 rfl ?_
          refine J.goR (fun r7 h_8 => ?_)
          refine cvr_qm_qm C (mc_qm_at (gl Γ) (gK Γ) σ a2 r7 h_8) qm_at_I k_992 (by decide) d_qm_areSame_36 rfl (rest := [.long r5]) rfl ⟨rfl, Nat.le_of_ble_eq_true rfl⟩ ?_
          refine j_lcmp_ne C d_qm_areSame_39 d_qm_areSame_40 (tgt := 47) (by decide) rfl (fun c_9 => ?_) (fun c_9 => ?_)
          · refine J.neg (shR σ) c_9 ?_
            refine j_iconst C d_qm_areSame_47 rfl kc_i_0 ?_
            exact j_iret C d_qm_areSame_48
          · refine J.pos (shR σ) c_9 ?_
            refine j_iconst C d_qm_areSame_43 rfl kc_i_1 ?_
            refine j_goto C d_qm_areSame_44 (tgt := 48) (by decide) ?_
            exact j_iret C d_qm_areSame_48
        · refine J.neg (shR σ) c_4 ?_
          refine j_bipush C d_qm_areSame_26 rfl kc_b_m2 ?_
          exact j_iret C d_qm_areSame_28
    · refine J.neg (shR σ) c_2 ?_
      refine j_iconst C d_qm_areSame_8 rfl kc_i_m1 ?_
      exact j_iret C d_qm_areSame_9
theorem mc_qm_areSame (l : Launch) (K : kk_T) (σ : qm_S) (a1 : Int32) (a2 : Int32) (r : Int32) (h : qm_areSame σ a1 a2 = some r) : MC l qm_areSame_y qm_areSame_c 3 (some .int) (1, 21) K (qm_w K) qcl σ [.ref (kq K 18), .int a1, .int a2] (some (.int r)) σ := mc_of (ov := ovI) (X := (shR σ) (qm_areSame σ a1 a2)) (by decide +kernel) (Nat.le_of_ble_eq_true rfl) (fun _ => rfl) (by rw [h]; rfl) (fun Γ e1 e2 C => by subst e1; subst e2; exact w_qm_areSame C σ a1 a2)
theorem qm_areSame_I : ck_V qm_areSame_y qm_areSame_c 3 (some .int) 2 := ⟨k_1084, k_102, by decide +kernel, k_1082, k_1083⟩
theorem w_qm_length {Γ : cx_T} (C : cx_C Γ (qm_w (gK Γ)) qcl qm_R qm_length_c 4 (some .int) (4, 90)) (N : Nat) (σ : qm_S) (a1 : Int32) : J Γ (qm_w (gK Γ)) qcl (QF Γ (qm_w (gK Γ)) qcl ovI) ((shR σ) (qm_length N σ a1)) σ 0 [(0, .ref (kq (gK Γ) 18)), (1, .int a1)] [] := by
  unfold qm_length
  refine j_aload_n C d_qm_length_0 rfl 0 rfl ?_
  refine j_iload_n C d_qm_length_1 rfl 1 rfl ?_
  refine cvr_qm_qm C (mc_qm_depthBarred (gl Γ) (gK Γ) σ a1) qm_depthBarred_I k_988 (by decide) d_qm_length_2 rfl (rest := []) rfl ⟨rfl, Nat.le_of_ble_eq_true rfl⟩ ?_
  refine j_istore_n C (lv' := [(2, .int (qm_depthBarred σ a1)), (0, .ref (kq (gK Γ) 18)), (1, .int a1)]) d_qm_length_5 rfl rfl (by decide) rfl ?_
  refine j_iload_n C d_qm_length_6 rfl 0 rfl ?_
  refine j_if_ge C d_qm_length_7 (tgt := 12) (by decide) rfl (fun c_1 => ?_) (fun c_1 => ?_)
  · refine J.pos (shR σ) c_1 ?_
    refine j_aload_n C d_qm_length_12 rfl 1 rfl ?_
    refine j_aload_n C d_qm_length_13 rfl 1 rfl ?_
    refine j_iload_n C d_qm_length_14 rfl 2 rfl ?_
    refine J.goR (fun r2 h_3 => ?_)
    refine cvr_qm_qm C (mc_qm_at (gl Γ) (gK Γ) σ a1 r2 h_3) qm_at_I k_992 (by decide) d_qm_length_15 rfl (rest := [.ref (kq (gK Γ) 18)]) rfl ⟨rfl, Nat.le_of_ble_eq_true rfl⟩ ?_
    refine J.goR (fun r4 h_5 => ?_)
    refine cvr_qm_qm C (mc_qm_longOf (gl Γ) (gK Γ) N σ r2 r4 h_5) qm_longOf_I k_1089 (by decide) d_qm_length_18 rfl (rest := []) rfl ⟨rfl, Nat.le_of_ble_eq_true rfl⟩ ?_
    refine j_istore_n C (lv' := [(3, .int r4), (2, .int (qm_depthBarred σ a1)), (0, .ref (kq (gK Γ) 18)), (1, .int a1)]) d_qm_length_21 rfl rfl (by decide) rfl ?_
    refine j_iload_n C d_qm_length_22 rfl 0 rfl ?_
    refine j_if_ge C d_qm_length_23 (tgt := 31) (by decide) rfl (fun c_6 => ?_) (fun c_6 => ?_)
    · refine J.pos (shR σ) c_6 ?_
      refine j_iload_n C d_qm_length_31 rfl 0 rfl ?_
      exact j_iret C d_qm_length_32
    · refine J.neg (shR σ) c_6 ?_
      refine j_bipush C d_qm_length_26 rfl kc_b_m4 ?_
      refine j_goto C d_qm_length_28 (tgt := 32) (by decide) ?_
      exact j_iret C d_qm_length_32
  · refine J.neg (shR σ) c_1 ?_
    refine j_iload_n C d_qm_length_10 rfl 0 rfl ?_
    exact j_iret C d_qm_length_11
theorem mc_qm_length (l : Launch) (K : kk_T) (N : Nat) (σ : qm_S) (a1 : Int32) (r : Int32) (h : qm_length N σ a1 = some r) : MC l qm_length_y qm_length_c 4 (some .int) (4, 90) K (qm_w K) qcl σ [.ref (kq K 18), .int a1] (some (.int r)) σ := mc_of (ov := ovI) (X := (shR σ) (qm_length N σ a1)) (by decide +kernel) (Nat.le_of_ble_eq_true rfl) (fun _ => rfl) (by rw [h]; rfl) (fun Γ e1 e2 C => by subst e1; subst e2; exact w_qm_length C N σ a1)
theorem qm_length_I : ck_V qm_length_y qm_length_c 4 (some .int) 1 := ⟨k_1088, k_102, by decide +kernel, k_1086, k_1087⟩
theorem w_qm_bindingCount_L36 {Γ : cx_T} (C : cx_C Γ (qm_w (gK Γ)) qcl qm_R qm_bindingCount_c 7 (some .int) (3, 66)) (N : Nat) : ∀ (k : Nat) (σ : qm_S) (x3 : Int64) (x5 : Int32) (x6 : Int32), J Γ (qm_w (gK Γ)) qcl (QF Γ (qm_w (gK Γ)) qcl ovI) (shO (qm_bindingCount_L36 N k σ x3 x5 x6)) σ 36 [(0, .ref (kq (gK Γ) 18)), (3, .long x3), (5, .int x5), (6, .int x6)] [] := by
  intro k
  induction k with
  | zero => intro σ x3 x5 x6; exact J.none rfl
  | succ k ih =>
    intro σ x3 x5 x6
    rw [qm_bindingCount_L36]
    refine j_iload C d_qm_bindingCount_36 rfl 3 rfl ?_
    refine j_bipush C d_qm_bindingCount_38 rfl kc_b_100 ?_
    refine j_icmp_ge C d_qm_bindingCount_40 (tgt := 69) (by decide) rfl (fun c_5 => ?_) (fun c_5 => ?_)
    · refine J.pos shO c_5 ?_
      refine j_iload C d_qm_bindingCount_69 rfl 2 rfl ?_
      exact j_iret C d_qm_bindingCount_71
    · refine J.neg shO c_5 ?_
      refine j_iload C d_qm_bindingCount_43 rfl 2 rfl ?_
      refine j_aload_n C d_qm_bindingCount_45 rfl 0 rfl ?_
      refine j_lload_n C d_qm_bindingCount_46 rfl 1 rfl ?_
      refine j_iload C d_qm_bindingCount_47 rfl 3 rfl ?_
      refine J.goO (fun r6 h_7 => ?_)
      refine cv_qm_qm C (mc_qm_findsOwn (gl Γ) (gK Γ) N σ x3 x6 r6 h_7) qm_findsOwn_I k_1036 (by decide) d_qm_bindingCount_49 rfl (rest := [.int x5]) rfl ⟨rfl, Nat.le_of_ble_eq_true rfl⟩ ?_
      refine j_if_eq C d_qm_bindingCount_52 (tgt := 59) (by decide) rfl (fun c_8 => ?_) (fun c_8 => ?_)
      · refine J.pos shO c_8 ?_
        refine j_iconst C d_qm_bindingCount_59 rfl kc_i_0 ?_
        refine j_iadd C d_qm_bindingCount_60 rfl ?_
        refine j_istore C (lv' := [(5, .int (x5 + (0 : Int32))), (0, .ref (kq (gK Γ) 18)), (3, .long x3), (6, .int x6)]) d_qm_bindingCount_61 rfl (by decide) rfl ?_
        refine j_iinc C (v := (x6 + (1 : Int32))) (lv' := [(6, .int (x6 + (1 : Int32))), (5, .int (x5 + (0 : Int32))), (0, .ref (kq (gK Γ) 18)), (3, .long x3)]) d_qm_bindingCount_63 rfl 3 rfl (kc_inc_1 _) (by decide) rfl ?_
        refine j_goto C d_qm_bindingCount_66 (tgt := 36) (by decide) ?_
        refine J.loc (lv' := [(0, .ref (kq (gK Γ) 18)), (3, .long x3), (5, .int (x5 + (0 : Int32))), (6, .int (x6 + (1 : Int32)))]) [2, 3, 1, 0] rfl ?_
        exact ih r6.2 x3 (x5 + (0 : Int32)) (x6 + (1 : Int32))
      · refine J.neg shO c_8 ?_
        refine j_iconst C d_qm_bindingCount_55 rfl kc_i_1 ?_
        refine j_goto C d_qm_bindingCount_56 (tgt := 60) (by decide) ?_
        refine j_iadd C d_qm_bindingCount_60 rfl ?_
        refine j_istore C (lv' := [(5, .int (x5 + (1 : Int32))), (0, .ref (kq (gK Γ) 18)), (3, .long x3), (6, .int x6)]) d_qm_bindingCount_61 rfl (by decide) rfl ?_
        refine j_iinc C (v := (x6 + (1 : Int32))) (lv' := [(6, .int (x6 + (1 : Int32))), (5, .int (x5 + (1 : Int32))), (0, .ref (kq (gK Γ) 18)), (3, .long x3)]) d_qm_bindingCount_63 rfl 3 rfl (kc_inc_1 _) (by decide) rfl ?_
        refine j_goto C d_qm_bindingCount_66 (tgt := 36) (by decide) ?_
        refine J.loc (lv' := [(0, .ref (kq (gK Γ) 18)), (3, .long x3), (5, .int (x5 + (1 : Int32))), (6, .int (x6 + (1 : Int32)))]) [2, 3, 1, 0] rfl ?_
        exact ih r6.2 x3 (x5 + (1 : Int32)) (x6 + (1 : Int32))
theorem w_qm_bindingCount {Γ : cx_T} (C : cx_C Γ (qm_w (gK Γ)) qcl qm_R qm_bindingCount_c 7 (some .int) (3, 66)) (N : Nat) (σ : qm_S) (a1 : Int32) : J Γ (qm_w (gK Γ)) qcl (QF Γ (qm_w (gK Γ)) qcl ovI) (shO (qm_bindingCount N σ a1)) σ 0 [(0, .ref (kq (gK Γ) 18)), (1, .int a1)] [] := by
  unfold qm_bindingCount
  refine j_aload_n C d_qm_bindingCount_0 rfl 0 rfl ?_
  refine j_iload_n C d_qm_bindingCount_1 rfl 1 rfl ?_
  refine cvr_qm_qm C (mc_qm_depthBarred (gl Γ) (gK Γ) σ a1) qm_depthBarred_I k_988 (by decide) d_qm_bindingCount_2 rfl (rest := []) rfl ⟨rfl, Nat.le_of_ble_eq_true rfl⟩ ?_
  refine j_istore_n C (lv' := [(2, .int (qm_depthBarred σ a1)), (0, .ref (kq (gK Γ) 18)), (1, .int a1)]) d_qm_bindingCount_5 rfl rfl (by decide) rfl ?_
  refine j_iload_n C d_qm_bindingCount_6 rfl 0 rfl ?_
  refine j_if_ge C d_qm_bindingCount_7 (tgt := 12) (by decide) rfl (fun c_1 => ?_) (fun c_1 => ?_)
  · refine J.pos shO c_1 ?_
    refine j_aload_n C d_qm_bindingCount_12 rfl 1 rfl ?_
    refine j_iload_n C d_qm_bindingCount_13 rfl 2 rfl ?_
    refine J.goO (fun r2 h_3 => ?_)
    refine cvr_qm_qm C (mc_qm_at (gl Γ) (gK Γ) σ a1 r2 h_3) qm_at_I k_992 (by decide) d_qm_bindingCount_14 rfl (rest := []) rfl ⟨rfl, Nat.le_of_ble_eq_true rfl⟩ ?_
    refine j_lstore_n C (lv' := [(3, .long r2), (2, .int (qm_depthBarred σ a1)), (0, .ref (kq (gK Γ) 18)), (1, .int a1)]) d_qm_bindingCount_17 rfl rfl (by decide) rfl ?_
    refine j_lload_n C d_qm_bindingCount_18 rfl 0 rfl ?_
    refine cs_qm C (mc_qm_kindOf (gl Γ) (gK Γ) r2) qm_kindOf_I k_1000 (by decide) d_qm_bindingCount_19 rfl (rest := []) rfl (Nat.le_of_ble_eq_true rfl) ?_
    refine j_bipush C d_qm_bindingCount_22 rfl kc_b_7 ?_
    refine j_icmp_eq C d_qm_bindingCount_24 (tgt := 30) (by decide) rfl (fun c_4 => ?_) (fun c_4 => ?_)
    · refine J.pos shO c_4 ?_
      refine j_iconst C d_qm_bindingCount_30 rfl kc_i_0 ?_
      refine j_istore C (lv' := [(5, .int (0 : Int32)), (3, .long r2), (2, .int (qm_depthBarred σ a1)), (0, .ref (kq (gK Γ) 18)), (1, .int a1)]) d_qm_bindingCount_31 rfl (by decide) rfl ?_
      refine j_iconst C d_qm_bindingCount_33 rfl kc_i_0 ?_
      refine j_istore C (lv' := [(6, .int (0 : Int32)), (5, .int (0 : Int32)), (3, .long r2), (2, .int (qm_depthBarred σ a1)), (0, .ref (kq (gK Γ) 18)), (1, .int a1)]) d_qm_bindingCount_34 rfl (by decide) rfl ?_
      refine J.loc (lv' := [(0, .ref (kq (gK Γ) 18)), (3, .long r2), (5, .int (0 : Int32)), (6, .int (0 : Int32))]) [4, 2, 1, 0] rfl ?_
      exact w_qm_bindingCount_L36 C N N σ r2 (0 : Int32) (0 : Int32)
    · refine J.neg shO c_4 ?_
      refine j_bipush C d_qm_bindingCount_27 rfl kc_b_m4 ?_
      exact j_iret C d_qm_bindingCount_29
  · refine J.neg shO c_1 ?_
    refine j_iload_n C d_qm_bindingCount_10 rfl 0 rfl ?_
    exact j_iret C d_qm_bindingCount_11
theorem mc_qm_bindingCount (l : Launch) (K : kk_T) (N : Nat) (σ : qm_S) (a1 : Int32) (r : Int32 × qm_S) (h : qm_bindingCount N σ a1 = some r) : MC l qm_bindingCount_y qm_bindingCount_c 7 (some .int) (3, 66) K (qm_w K) qcl σ [.ref (kq K 18), .int a1] (some (.int r.1)) r.2 := mc_of (ov := ovI) (X := shO (qm_bindingCount N σ a1)) (by decide +kernel) (Nat.le_of_ble_eq_true rfl) (fun _ => rfl) (by rw [h]; rfl) (fun Γ e1 e2 C => by subst e1; subst e2; exact w_qm_bindingCount C N σ a1)
theorem qm_bindingCount_I : ck_V qm_bindingCount_y qm_bindingCount_c 7 (some .int) 1 := ⟨k_1096, k_102, by decide +kernel, k_1094, k_1095⟩
theorem w_qm_goesTo {Γ : cx_T} (C : cx_C Γ (qm_w (gK Γ)) qcl qm_R qm_goesTo_c 5 (some .int) (0, 0)) (σ : qm_S) (a1 : Int64) (a3 : Int64) : J Γ (qm_w (gK Γ)) qcl (QF Γ (qm_w (gK Γ)) qcl ovI) (shT (qm_goesTo σ a1 a3)) σ 0 [(0, .ref (kq (gK Γ) 18)), (1, .long a1), (3, .long a3)] [] := by
  unfold qm_goesTo
  refine j_aload_n C d_qm_goesTo_0 rfl 0 rfl ?_
  refine j_iconst C d_qm_goesTo_1 rfl kc_i_0 ?_
  refine qm_p_mode C k_860 d_qm_goesTo_2 rfl ?_
  refine j_aload_n C d_qm_goesTo_5 rfl 0 rfl ?_
  refine j_lload_n C d_qm_goesTo_6 rfl 1 rfl ?_
  refine qm_p_now C k_861 d_qm_goesTo_7 rfl ?_
  refine j_aload_n C d_qm_goesTo_10 rfl 0 rfl ?_
  refine j_lload_n C d_qm_goesTo_11 rfl 2 rfl ?_
  refine qm_p_around C k_863 d_qm_goesTo_12 rfl ?_
  refine j_iconst C d_qm_goesTo_15 rfl kc_i_0 ?_
  exact j_iret C d_qm_goesTo_16
theorem mc_qm_goesTo (l : Launch) (K : kk_T) (σ : qm_S) (a1 : Int64) (a3 : Int64) : MC l qm_goesTo_y qm_goesTo_c 5 (some .int) (0, 0) K (qm_w K) qcl σ [.ref (kq K 18), .long a1, .long a3] (some (.int (qm_goesTo σ a1 a3).1)) (qm_goesTo σ a1 a3).2 := mc_of (ov := ovI) (X := shT (qm_goesTo σ a1 a3)) (by decide +kernel) (Nat.le_of_ble_eq_true rfl) (fun _ => rfl) rfl (fun Γ e1 e2 C => by subst e1; subst e2; exact w_qm_goesTo C σ a1 a3)
theorem qm_goesTo_I : ck_V qm_goesTo_y qm_goesTo_c 5 (some .int) 2 := ⟨k_1104, k_102, by decide +kernel, k_1103, k_70⟩
theorem w_qm_gives {Γ : cx_T} (C : cx_C Γ (qm_w (gK Γ)) qcl qm_R qm_gives_c 3 (some .int) (0, 0)) (σ : qm_S) (a1 : Int64) : J Γ (qm_w (gK Γ)) qcl (QF Γ (qm_w (gK Γ)) qcl ovI) (shT (qm_gives σ a1)) σ 0 [(0, .ref (kq (gK Γ) 18)), (1, .long a1)] [] := by
  unfold qm_gives
  refine j_aload_n C d_qm_gives_0 rfl 0 rfl ?_
  refine j_iconst C d_qm_gives_1 rfl kc_i_2 ?_
  refine qm_p_mode C k_860 d_qm_gives_2 rfl ?_
  refine j_aload_n C d_qm_gives_5 rfl 0 rfl ?_
  refine j_lload_n C d_qm_gives_6 rfl 1 rfl ?_
  refine qm_p_now C k_861 d_qm_gives_7 rfl ?_
  refine j_iconst C d_qm_gives_10 rfl kc_i_0 ?_
  exact j_iret C d_qm_gives_11
theorem mc_qm_gives (l : Launch) (K : kk_T) (σ : qm_S) (a1 : Int64) : MC l qm_gives_y qm_gives_c 3 (some .int) (0, 0) K (qm_w K) qcl σ [.ref (kq K 18), .long a1] (some (.int (qm_gives σ a1).1)) (qm_gives σ a1).2 := mc_of (ov := ovI) (X := shT (qm_gives σ a1)) (by decide +kernel) (Nat.le_of_ble_eq_true rfl) (fun _ => rfl) rfl (fun Γ e1 e2 C => by subst e1; subst e2; exact w_qm_gives C σ a1)
theorem qm_gives_I : ck_V qm_gives_y qm_gives_c 3 (some .int) 1 := ⟨k_1120, k_102, by decide +kernel, k_1119, k_74⟩
theorem w_qm_goesWith {Γ : cx_T} (C : cx_C Γ (qm_w (gK Γ)) qcl qm_R qm_goesWith_c 11 (some .int) (1, 24)) (σ : qm_S) (a1 : Int32) (a2 : Int64) (a4 : Int64) (a6 : Int32) (a7 : Int64) (a9 : Int64) : J Γ (qm_w (gK Γ)) qcl (QF Γ (qm_w (gK Γ)) qcl ovI) (shO (qm_goesWith σ a1 a2 a4 a6 a7 a9)) σ 0 [(0, .ref (kq (gK Γ) 18)), (1, .int a1), (2, .long a2), (4, .long a4), (6, .int a6), (7, .long a7), (9, .long a9)] [] := by
  unfold qm_goesWith
  refine j_aload_n C d_qm_goesWith_0 rfl 0 rfl ?_
  refine qm_r_frames C k_864 d_qm_goesWith_1 rfl rfl ?_
  refine j_sipush C d_qm_goesWith_4 rfl kc_s_300 ?_
  refine j_icmp_ne C d_qm_goesWith_7 (tgt := 13) (by decide) rfl (fun c_1 => ?_) (fun c_1 => ?_)
  · refine J.neg shO c_1 ?_
    refine j_aload_n C d_qm_goesWith_13 rfl 0 rfl ?_
    refine qm_r_frameKind C k_865 d_qm_goesWith_14 rfl ?_
    refine j_aload_n C d_qm_goesWith_17 rfl 0 rfl ?_
    refine qm_r_frames C k_864 d_qm_goesWith_18 rfl rfl ?_
    refine j_iload_n C d_qm_goesWith_21 rfl 1 rfl ?_
    refine J.inO (fun h_2 => ?_)
    refine qm_a_frameKind C (inb_in h_2) d_qm_goesWith_22 rfl ?_
    refine j_aload_n C d_qm_goesWith_23 rfl 0 rfl ?_
    refine qm_r_frameOne C k_866 d_qm_goesWith_24 rfl ?_
    refine j_aload_n C d_qm_goesWith_27 rfl 0 rfl ?_
    refine qm_r_frames C k_864 d_qm_goesWith_28 rfl (x := (qm_g_frames σ)) (gs_qm_frames_t_frameKind _ _ _) ?_
    refine j_lload_n C d_qm_goesWith_31 rfl 2 rfl ?_
    refine J.inO (fun h_3 => ?_)
    refine qm_a_frameOne C (inb_in h_3) d_qm_goesWith_32 rfl ?_
    refine j_aload_n C d_qm_goesWith_33 rfl 0 rfl ?_
    refine qm_r_frameOther C k_867 d_qm_goesWith_34 rfl ?_
    refine j_aload_n C d_qm_goesWith_37 rfl 0 rfl ?_
    refine qm_r_frames C k_864 d_qm_goesWith_38 rfl (x := (qm_g_frames σ)) ((gs_qm_frames_t_frameOne _ _ _).trans (gs_qm_frames_t_frameKind _ _ _)) ?_
    refine j_lload C d_qm_goesWith_41 rfl 3 rfl ?_
    refine J.inO (fun h_4 => ?_)
    refine qm_a_frameOther C (inb_in h_4) d_qm_goesWith_43 rfl ?_
    refine j_aload_n C d_qm_goesWith_44 rfl 0 rfl ?_
    refine qm_r_frameAround C k_868 d_qm_goesWith_45 rfl ?_
    refine j_aload_n C d_qm_goesWith_48 rfl 0 rfl ?_
    refine qm_r_frames C k_864 d_qm_goesWith_49 rfl (x := (qm_g_frames σ)) ((gs_qm_frames_t_frameOther _ _ _).trans ((gs_qm_frames_t_frameOne _ _ _).trans (gs_qm_frames_t_frameKind _ _ _))) ?_
    refine j_lload C d_qm_goesWith_52 rfl 6 rfl ?_
    refine J.inO (fun h_5 => ?_)
    refine qm_a_frameAround C (inb_in h_5) d_qm_goesWith_54 rfl ?_
    refine j_aload_n C d_qm_goesWith_55 rfl 0 rfl ?_
    refine qm_r_frameBase C k_869 d_qm_goesWith_56 rfl ?_
    refine j_aload_n C d_qm_goesWith_59 rfl 0 rfl ?_
    refine qm_r_frames C k_864 d_qm_goesWith_60 rfl (x := (qm_g_frames σ)) ((gs_qm_frames_t_frameAround _ _ _).trans ((gs_qm_frames_t_frameOther _ _ _).trans ((gs_qm_frames_t_frameOne _ _ _).trans (gs_qm_frames_t_frameKind _ _ _)))) ?_
    refine j_iload C d_qm_goesWith_63 rfl 4 rfl ?_
    refine J.inO (fun h_6 => ?_)
    refine qm_a_frameBase C (inb_in h_6) d_qm_goesWith_65 rfl ?_
    refine j_aload_n C d_qm_goesWith_66 rfl 0 rfl ?_
    refine j_dup C d_qm_goesWith_67 rfl rfl ?_
    refine qm_r_frames C k_864 d_qm_goesWith_68 rfl (x := (qm_g_frames σ)) ((gs_qm_frames_t_frameBase _ _ _).trans ((gs_qm_frames_t_frameAround _ _ _).trans ((gs_qm_frames_t_frameOther _ _ _).trans ((gs_qm_frames_t_frameOne _ _ _).trans (gs_qm_frames_t_frameKind _ _ _))))) ?_
    refine j_iconst C d_qm_goesWith_71 rfl kc_i_1 ?_
    refine j_iadd C d_qm_goesWith_72 rfl ?_
    refine qm_p_frames C k_864 d_qm_goesWith_73 rfl ?_
    refine j_aload_n C d_qm_goesWith_76 rfl 0 rfl ?_
    refine j_aload_n C d_qm_goesWith_77 rfl 0 rfl ?_
    refine qm_r_frames C k_864 d_qm_goesWith_78 rfl (x := ((qm_g_frames σ) + (1 : Int32))) (gv_qm_frames _ _) ?_
    refine j_aload_n C d_qm_goesWith_81 rfl 0 rfl ?_
    refine qm_r_mostFrames C k_859 d_qm_goesWith_82 rfl (x := (qm_g_mostFrames σ)) ((gs_qm_mostFrames_s_frames _ _).trans ((gs_qm_mostFrames_t_frameBase _ _ _).trans ((gs_qm_mostFrames_t_frameAround _ _ _).trans ((gs_qm_mostFrames_t_frameOther _ _ _).trans ((gs_qm_mostFrames_t_frameOne _ _ _).trans (gs_qm_mostFrames_t_frameKind _ _ _)))))) ?_
    refine j_icmp_le C d_qm_goesWith_85 (tgt := 95) (by decide) rfl (fun c_7 => ?_) (fun c_7 => ?_)
    · refine J.pos shO c_7 ?_
      refine j_aload_n C d_qm_goesWith_95 rfl 0 rfl ?_
      refine qm_r_mostFrames C k_859 d_qm_goesWith_96 rfl (x := (qm_g_mostFrames σ)) ((gs_qm_mostFrames_s_frames _ _).trans ((gs_qm_mostFrames_t_frameBase _ _ _).trans ((gs_qm_mostFrames_t_frameAround _ _ _).trans ((gs_qm_mostFrames_t_frameOther _ _ _).trans ((gs_qm_mostFrames_t_frameOne _ _ _).trans (gs_qm_mostFrames_t_frameKind _ _ _)))))) ?_
      refine qm_p_mostFrames C k_859 d_qm_goesWith_99 rfl ?_
      refine j_aload_n C d_qm_goesWith_102 rfl 0 rfl ?_
      refine j_lload C d_qm_goesWith_103 rfl 5 rfl ?_
      refine j_lload C d_qm_goesWith_105 rfl 6 rfl ?_
      refine cv_qm_qm C (mc_qm_goesTo (gl Γ) (gK Γ) (qm_s_mostFrames (qm_s_frames (qm_t_frameBase (qm_t_frameAround (qm_t_frameOther (qm_t_frameOne (qm_t_frameKind σ (qm_g_frames σ) a1) (qm_g_frames σ) a2) (qm_g_frames σ) a4) (qm_g_frames σ) a9) (qm_g_frames σ) a6) ((qm_g_frames σ) + (1 : Int32))) (qm_g_mostFrames σ)) a7 a9) qm_goesTo_I k_1101 (by decide) d_qm_goesWith_107 rfl (rest := []) rfl ⟨rfl, Nat.le_of_ble_eq_true rfl⟩ ?_
      exact j_iret C d_qm_goesWith_110
    · refine J.neg shO c_7 ?_
      refine j_aload_n C d_qm_goesWith_88 rfl 0 rfl ?_
      refine qm_r_frames C k_864 d_qm_goesWith_89 rfl (x := ((qm_g_frames σ) + (1 : Int32))) (gv_qm_frames _ _) ?_
      refine j_goto C d_qm_goesWith_92 (tgt := 99) (by decide) ?_
      refine qm_p_mostFrames C k_859 d_qm_goesWith_99 rfl ?_
      refine j_aload_n C d_qm_goesWith_102 rfl 0 rfl ?_
      refine j_lload C d_qm_goesWith_103 rfl 5 rfl ?_
      refine j_lload C d_qm_goesWith_105 rfl 6 rfl ?_
      refine cv_qm_qm C (mc_qm_goesTo (gl Γ) (gK Γ) (qm_s_mostFrames (qm_s_frames (qm_t_frameBase (qm_t_frameAround (qm_t_frameOther (qm_t_frameOne (qm_t_frameKind σ (qm_g_frames σ) a1) (qm_g_frames σ) a2) (qm_g_frames σ) a4) (qm_g_frames σ) a9) (qm_g_frames σ) a6) ((qm_g_frames σ) + (1 : Int32))) ((qm_g_frames σ) + (1 : Int32))) a7 a9) qm_goesTo_I k_1101 (by decide) d_qm_goesWith_107 rfl (rest := []) rfl ⟨rfl, Nat.le_of_ble_eq_true rfl⟩ ?_
      exact j_iret C d_qm_goesWith_110
  · refine J.pos shO c_1 ?_
    refine j_bipush C d_qm_goesWith_10 rfl kc_b_m11 ?_
    exact j_iret C d_qm_goesWith_12
theorem mc_qm_goesWith (l : Launch) (K : kk_T) (σ : qm_S) (a1 : Int32) (a2 : Int64) (a4 : Int64) (a6 : Int32) (a7 : Int64) (a9 : Int64) (r : Int32 × qm_S) (h : qm_goesWith σ a1 a2 a4 a6 a7 a9 = some r) : MC l qm_goesWith_y qm_goesWith_c 11 (some .int) (1, 24) K (qm_w K) qcl σ [.ref (kq K 18), .int a1, .long a2, .long a4, .int a6, .long a7, .long a9] (some (.int r.1)) r.2 := mc_of (ov := ovI) (X := shO (qm_goesWith σ a1 a2 a4 a6 a7 a9)) (by decide +kernel) (Nat.le_of_ble_eq_true rfl) (fun _ => rfl) (by rw [h]; rfl) (fun Γ e1 e2 C => by subst e1; subst e2; exact w_qm_goesWith C σ a1 a2 a4 a6 a7 a9)
theorem qm_goesWith_I : ck_V qm_goesWith_y qm_goesWith_c 11 (some .int) 6 := ⟨k_1116, k_102, by decide +kernel, k_1115, k_73⟩
theorem w_qm_evaluatesOne {Γ : cx_T} (C : cx_C Γ (qm_w (gK Γ)) qcl qm_R qm_evaluatesOne_c 2 (some .int) (4, 91)) (N : Nat) (σ : qm_S)  : J Γ (qm_w (gK Γ)) qcl (QF Γ (qm_w (gK Γ)) qcl ovI) (shO (qm_evaluatesOne N σ)) σ 0 [(0, .ref (kq (gK Γ) 18))] [] := by
  unfold qm_evaluatesOne
  refine j_aload_n C d_qm_evaluatesOne_0 rfl 0 rfl ?_
  refine qm_r_steps C k_858 d_qm_evaluatesOne_1 rfl rfl ?_
  refine j_aload_n C d_qm_evaluatesOne_4 rfl 0 rfl ?_
  refine qm_r_limit C k_857 d_qm_evaluatesOne_5 rfl rfl ?_
  refine j_icmp_ne C d_qm_evaluatesOne_8 (tgt := 14) (by decide) rfl (fun c_1 => ?_) (fun c_1 => ?_)
  · refine J.neg shO c_1 ?_
    refine j_aload_n C d_qm_evaluatesOne_14 rfl 0 rfl ?_
    refine j_dup C d_qm_evaluatesOne_15 rfl rfl ?_
    refine qm_r_steps C k_858 d_qm_evaluatesOne_16 rfl rfl ?_
    refine j_iconst C d_qm_evaluatesOne_19 rfl kc_i_1 ?_
    refine j_iadd C d_qm_evaluatesOne_20 rfl ?_
    refine qm_p_steps C k_858 d_qm_evaluatesOne_21 rfl ?_
    refine j_aload_n C d_qm_evaluatesOne_24 rfl 0 rfl ?_
    refine qm_r_now C k_861 d_qm_evaluatesOne_25 rfl (x := (qm_g_now σ)) (gs_qm_now_s_steps _ _) ?_
    refine cs_qm C (mc_qm_kindOf (gl Γ) (gK Γ) (qm_g_now σ)) qm_kindOf_I k_1000 (by decide) d_qm_evaluatesOne_28 rfl (rest := []) rfl (Nat.le_of_ble_eq_true rfl) ?_
    refine j_istore_n C (lv' := [(1, .int (qm_kindOf (qm_g_now σ))), (0, .ref (kq (gK Γ) 18))]) d_qm_evaluatesOne_31 rfl rfl (by decide) rfl ?_
    refine j_iload_n C d_qm_evaluatesOne_32 rfl 0 rfl ?_
    refine j_iconst C d_qm_evaluatesOne_33 rfl kc_i_4 ?_
    refine j_icmp_ne C d_qm_evaluatesOne_34 (tgt := 65) (by decide) rfl (fun c_2 => ?_) (fun c_2 => ?_)
    · refine J.neg shO c_2 ?_
      refine j_iload_n C d_qm_evaluatesOne_65 rfl 0 rfl ?_
      refine j_iconst C d_qm_evaluatesOne_66 rfl kc_i_2 ?_
      refine j_icmp_ne C d_qm_evaluatesOne_67 (tgt := 103) (by decide) rfl (fun c_3 => ?_) (fun c_3 => ?_)
      · refine J.neg shO c_3 ?_
        refine j_aload_n C d_qm_evaluatesOne_103 rfl 1 rfl ?_
        refine j_aload_n C d_qm_evaluatesOne_104 rfl 1 rfl ?_
        refine qm_r_now C k_861 d_qm_evaluatesOne_105 rfl (x := (qm_g_now σ)) (gs_qm_now_s_steps _ _) ?_
        refine cv_qm_qm C (mc_qm_gives (gl Γ) (gK Γ) (qm_s_steps σ ((qm_g_steps σ) + (1 : Int32))) (qm_g_now σ)) qm_gives_I k_1117 (by decide) d_qm_evaluatesOne_108 rfl (rest := []) rfl ⟨rfl, Nat.le_of_ble_eq_true rfl⟩ ?_
        exact j_iret C d_qm_evaluatesOne_111
      · refine J.pos shO c_3 ?_
        refine j_aload_n C d_qm_evaluatesOne_70 rfl 1 rfl ?_
        refine j_aload_n C d_qm_evaluatesOne_71 rfl 1 rfl ?_
        refine qm_r_around C k_863 d_qm_evaluatesOne_72 rfl (x := (qm_g_around σ)) (gs_qm_around_s_steps _ _) ?_
        refine j_aload_n C d_qm_evaluatesOne_75 rfl 1 rfl ?_
        refine j_aload_n C d_qm_evaluatesOne_76 rfl 1 rfl ?_
        refine qm_r_now C k_861 d_qm_evaluatesOne_77 rfl (x := (qm_g_now σ)) (gs_qm_now_s_steps _ _) ?_
        refine cvr_qm_qm C (mc_qm_indexOf (gl Γ) (gK Γ) (qm_s_steps σ ((qm_g_steps σ) + (1 : Int32))) (qm_g_now σ)) qm_indexOf_I k_1008 (by decide) d_qm_evaluatesOne_80 rfl (rest := [.long (qm_g_around σ), .ref (kq (gK Γ) 18)]) rfl ⟨rfl, Nat.le_of_ble_eq_true rfl⟩ ?_
        refine J.goO (fun r4 h_5 => ?_)
        refine cv_qm_qm C (mc_qm_finds (gl Γ) (gK Γ) N (qm_s_steps σ ((qm_g_steps σ) + (1 : Int32))) (qm_g_around σ) (qm_indexOf (qm_s_steps σ ((qm_g_steps σ) + (1 : Int32))) (qm_g_now σ)) r4 h_5) qm_finds_I k_1032 (by decide) d_qm_evaluatesOne_83 rfl (rest := []) rfl ⟨rfl, Nat.le_of_ble_eq_true rfl⟩ ?_
        refine j_if_eq C d_qm_evaluatesOne_86 (tgt := 100) (by decide) rfl (fun c_6 => ?_) (fun c_6 => ?_)
        · refine J.pos shO c_6 ?_
          refine j_bipush C d_qm_evaluatesOne_100 rfl kc_b_m6 ?_
          exact j_iret C d_qm_evaluatesOne_102
        · refine J.neg shO c_6 ?_
          refine j_aload_n C d_qm_evaluatesOne_89 rfl 1 rfl ?_
          refine j_aload_n C d_qm_evaluatesOne_90 rfl 1 rfl ?_
          refine qm_r_found C k_852 d_qm_evaluatesOne_91 rfl rfl ?_
          refine cv_qm_qm C (mc_qm_gives (gl Γ) (gK Γ) r4.2 (qm_g_found r4.2)) qm_gives_I k_1117 (by decide) d_qm_evaluatesOne_94 rfl (rest := []) rfl ⟨rfl, Nat.le_of_ble_eq_true rfl⟩ ?_
          refine j_goto C d_qm_evaluatesOne_97 (tgt := 102) (by decide) ?_
          exact j_iret C d_qm_evaluatesOne_102
    · refine J.pos shO c_2 ?_
      refine j_aload_n C d_qm_evaluatesOne_37 rfl 1 rfl ?_
      refine j_iconst C d_qm_evaluatesOne_38 rfl kc_i_0 ?_
      refine j_aload_n C d_qm_evaluatesOne_39 rfl 1 rfl ?_
      refine j_aload_n C d_qm_evaluatesOne_40 rfl 1 rfl ?_
      refine qm_r_now C k_861 d_qm_evaluatesOne_41 rfl (x := (qm_g_now σ)) (gs_qm_now_s_steps _ _) ?_
      refine J.goO (fun r7 h_8 => ?_)
      refine cvr_qm_qm C (mc_qm_cdrOf (gl Γ) (gK Γ) (qm_s_steps σ ((qm_g_steps σ) + (1 : Int32))) (qm_g_now σ) r7 h_8) qm_cdrOf_I k_1015 (by decide) d_qm_evaluatesOne_44 rfl (rest := [.int (0 : Int32), .ref (kq (gK Γ) 18)]) rfl ⟨rfl, Nat.le_of_ble_eq_true rfl⟩ ?_
      refine j_lconst C d_qm_evaluatesOne_47 rfl kc_l_0 ?_
      refine j_iconst C d_qm_evaluatesOne_48 rfl kc_i_0 ?_
      refine j_aload_n C d_qm_evaluatesOne_49 rfl 1 rfl ?_
      refine j_aload_n C d_qm_evaluatesOne_50 rfl 1 rfl ?_
      refine qm_r_now C k_861 d_qm_evaluatesOne_51 rfl (x := (qm_g_now σ)) (gs_qm_now_s_steps _ _) ?_
      refine J.goO (fun r9 h_10 => ?_)
      refine cvr_qm_qm C (mc_qm_carOf (gl Γ) (gK Γ) (qm_s_steps σ ((qm_g_steps σ) + (1 : Int32))) (qm_g_now σ) r9 h_10) qm_carOf_I k_1004 (by decide) d_qm_evaluatesOne_54 rfl (rest := [.int (0 : Int32), .long (0 : Int64), .long r7, .int (0 : Int32), .ref (kq (gK Γ) 18)]) rfl ⟨rfl, Nat.le_of_ble_eq_true rfl⟩ ?_
      refine j_aload_n C d_qm_evaluatesOne_57 rfl 1 rfl ?_
      refine qm_r_around C k_863 d_qm_evaluatesOne_58 rfl (x := (qm_g_around σ)) (gs_qm_around_s_steps _ _) ?_
      refine J.goO (fun r11 h_12 => ?_)
      refine cv_qm_qm C (mc_qm_goesWith (gl Γ) (gK Γ) (qm_s_steps σ ((qm_g_steps σ) + (1 : Int32))) (0 : Int32) r7 (0 : Int64) (0 : Int32) r9 (qm_g_around σ) r11 h_12) qm_goesWith_I k_1113 (by decide) d_qm_evaluatesOne_61 rfl (rest := []) rfl ⟨rfl, Nat.le_of_ble_eq_true rfl⟩ ?_
      exact j_iret C d_qm_evaluatesOne_64
  · refine J.pos shO c_1 ?_
    refine j_bipush C d_qm_evaluatesOne_11 rfl kc_b_m10 ?_
    exact j_iret C d_qm_evaluatesOne_13
theorem mc_qm_evaluatesOne (l : Launch) (K : kk_T) (N : Nat) (σ : qm_S)  (r : Int32 × qm_S) (h : qm_evaluatesOne N σ = some r) : MC l qm_evaluatesOne_y qm_evaluatesOne_c 2 (some .int) (4, 91) K (qm_w K) qcl σ [.ref (kq K 18)] (some (.int r.1)) r.2 := mc_of (ov := ovI) (X := shO (qm_evaluatesOne N σ)) (by decide +kernel) (Nat.le_of_ble_eq_true rfl) (fun _ => rfl) (by rw [h]; rfl) (fun Γ e1 e2 C => by subst e1; subst e2; exact w_qm_evaluatesOne C N σ)
theorem qm_evaluatesOne_I : ck_V qm_evaluatesOne_y qm_evaluatesOne_c 2 (some .int) 0 := ⟨k_1112, k_102, by decide +kernel, k_1111, k_72⟩
theorem w_qm_combines {Γ : cx_T} (C : cx_C Γ (qm_w (gK Γ)) qcl qm_R qm_combines_c 7 (some .int) (0, 0)) (σ : qm_S) (a1 : Int64) (a3 : Int64) (a5 : Int64) : J Γ (qm_w (gK Γ)) qcl (QF Γ (qm_w (gK Γ)) qcl ovI) (shT (qm_combines σ a1 a3 a5)) σ 0 [(0, .ref (kq (gK Γ) 18)), (1, .long a1), (3, .long a3), (5, .long a5)] [] := by
  unfold qm_combines
  refine j_aload_n C d_qm_combines_0 rfl 0 rfl ?_
  refine j_iconst C d_qm_combines_1 rfl kc_i_1 ?_
  refine qm_p_mode C k_860 d_qm_combines_2 rfl ?_
  refine j_aload_n C d_qm_combines_5 rfl 0 rfl ?_
  refine j_lload_n C d_qm_combines_6 rfl 1 rfl ?_
  refine qm_p_now C k_861 d_qm_combines_7 rfl ?_
  refine j_aload_n C d_qm_combines_10 rfl 0 rfl ?_
  refine j_lload_n C d_qm_combines_11 rfl 2 rfl ?_
  refine qm_p_operands C k_862 d_qm_combines_12 rfl ?_
  refine j_aload_n C d_qm_combines_15 rfl 0 rfl ?_
  refine j_lload C d_qm_combines_16 rfl 3 rfl ?_
  refine qm_p_around C k_863 d_qm_combines_18 rfl ?_
  refine j_iconst C d_qm_combines_21 rfl kc_i_0 ?_
  exact j_iret C d_qm_combines_22
theorem mc_qm_combines (l : Launch) (K : kk_T) (σ : qm_S) (a1 : Int64) (a3 : Int64) (a5 : Int64) : MC l qm_combines_y qm_combines_c 7 (some .int) (0, 0) K (qm_w K) qcl σ [.ref (kq K 18), .long a1, .long a3, .long a5] (some (.int (qm_combines σ a1 a3 a5).1)) (qm_combines σ a1 a3 a5).2 := mc_of (ov := ovI) (X := shT (qm_combines σ a1 a3 a5)) (by decide +kernel) (Nat.le_of_ble_eq_true rfl) (fun _ => rfl) rfl (fun Γ e1 e2 C => by subst e1; subst e2; exact w_qm_combines C σ a1 a3 a5)
theorem qm_combines_I : ck_V qm_combines_y qm_combines_c 7 (some .int) 3 := ⟨k_1132, k_102, by decide +kernel, k_1131, k_77⟩
theorem w_qm_goesOn_L42 {Γ : cx_T} (C : cx_C Γ (qm_w (gK Γ)) qcl qm_R qm_goesOn_c 11 (some .int) (3, 65)) (N : Nat) : ∀ (k : Nat) (σ : qm_S) (x1 : Int64) (x5 : Int64) (x7 : Int32) (x8 : Int64) (x10 : Int32), J Γ (qm_w (gK Γ)) qcl (QF Γ (qm_w (gK Γ)) qcl ovI) (shO (qm_goesOn_L42 N k σ x1 x5 x7 x8 x10)) σ 42 [(0, .ref (kq (gK Γ) 18)), (1, .long x1), (5, .long x5), (7, .int x7), (8, .long x8), (10, .int x10)] [] := by
  intro k
  induction k with
  | zero => intro σ x1 x5 x7 x8 x10; exact J.none rfl
  | succ k ih =>
    intro σ x1 x5 x7 x8 x10
    rw [qm_goesOn_L42]
    refine j_iload C d_qm_goesOn_42 rfl 5 rfl ?_
    refine j_iload C d_qm_goesOn_44 rfl 3 rfl ?_
    refine j_icmp_lt C d_qm_goesOn_46 (tgt := 81) (by decide) rfl (fun c_8 => ?_) (fun c_8 => ?_)
    · refine J.pos shO c_8 ?_
      refine j_aload_n C d_qm_goesOn_81 rfl 0 rfl ?_
      refine j_iload C d_qm_goesOn_82 rfl 3 rfl ?_
      refine qm_p_resultMany C k_871 d_qm_goesOn_84 rfl ?_
      refine j_aload_n C d_qm_goesOn_87 rfl 0 rfl ?_
      refine j_aload_n C d_qm_goesOn_88 rfl 0 rfl ?_
      refine j_lload_n C d_qm_goesOn_89 rfl 1 rfl ?_
      refine J.goO (fun r9 h_10 => ?_)
      refine cvr_qm_qm C (mc_qm_underOf (gl Γ) (gK Γ) (qm_s_resultMany σ x7) x1 r9 h_10) qm_underOf_I k_1019 (by decide) d_qm_goesOn_90 rfl (rest := [.ref (kq (gK Γ) 18)]) rfl ⟨rfl, Nat.le_of_ble_eq_true rfl⟩ ?_
      refine j_lload C d_qm_goesOn_93 rfl 4 rfl ?_
      refine j_lload C d_qm_goesOn_95 rfl 2 rfl ?_
      refine cv_qm_qm C (mc_qm_combines (gl Γ) (gK Γ) (qm_s_resultMany σ x7) r9 x8 x5) qm_combines_I k_1129 (by decide) d_qm_goesOn_97 rfl (rest := []) rfl ⟨rfl, Nat.le_of_ble_eq_true rfl⟩ ?_
      exact j_iret C d_qm_goesOn_100
    · refine J.neg shO c_8 ?_
      refine j_aload_n C d_qm_goesOn_49 rfl 0 rfl ?_
      refine cvr_qm_qm C (mc_qm_isFull (gl Γ) (gK Γ) σ) qm_isFull_I k_1044 (by decide) d_qm_goesOn_50 rfl (rest := []) rfl ⟨rfl, Nat.le_of_ble_eq_true rfl⟩ ?_
      refine j_if_eq C d_qm_goesOn_53 (tgt := 59) (by decide) rfl (fun c_11 => ?_) (fun c_11 => ?_)
      · refine J.pos shO c_11 ?_
        refine j_aload_n C d_qm_goesOn_59 rfl 0 rfl ?_
        refine j_iconst C d_qm_goesOn_60 rfl kc_i_4 ?_
        refine j_aload_n C d_qm_goesOn_61 rfl 0 rfl ?_
        refine qm_r_results C k_870 d_qm_goesOn_62 rfl ?_
        refine j_iload C d_qm_goesOn_65 rfl 5 rfl ?_
        refine J.inO (fun h_12 => ?_)
        refine qm_l_results C (inb_in h_12) d_qm_goesOn_67 rfl rfl ?_
        refine j_lload C d_qm_goesOn_68 rfl 4 rfl ?_
        refine J.goO (fun r13 h_14 => ?_)
        refine cv_qm_qm C (mc_qm_adds (gl Γ) (gK Γ) σ (4 : Int32) (qm_g_results σ (Int32.toNatClampNeg x10)) x8 r13 h_14) qm_adds_I k_1048 (by decide) d_qm_goesOn_70 rfl (rest := []) rfl ⟨rfl, Nat.le_of_ble_eq_true rfl⟩ ?_
        refine j_lstore C (lv' := [(8, .long r13.1), (0, .ref (kq (gK Γ) 18)), (1, .long x1), (5, .long x5), (7, .int x7), (10, .int x10)]) d_qm_goesOn_73 rfl (by decide) rfl ?_
        refine j_iinc C (v := (x10 - (1 : Int32))) (lv' := [(10, .int (x10 - (1 : Int32))), (8, .long r13.1), (0, .ref (kq (gK Γ) 18)), (1, .long x1), (5, .long x5), (7, .int x7)]) d_qm_goesOn_75 rfl 5 rfl (kc_inc_m1 _) (by decide) rfl ?_
        refine j_goto C d_qm_goesOn_78 (tgt := 42) (by decide) ?_
        refine J.loc (lv' := [(0, .ref (kq (gK Γ) 18)), (1, .long x1), (5, .long x5), (7, .int x7), (8, .long r13.1), (10, .int (x10 - (1 : Int32)))]) [2, 3, 4, 5, 1, 0] rfl ?_
        exact ih r13.2 x1 x5 x7 r13.1 (x10 - (1 : Int32))
      · refine J.neg shO c_11 ?_
        refine j_bipush C d_qm_goesOn_56 rfl kc_b_m5 ?_
        exact j_iret C d_qm_goesOn_58
theorem w_qm_goesOn {Γ : cx_T} (C : cx_C Γ (qm_w (gK Γ)) qcl qm_R qm_goesOn_c 11 (some .int) (3, 65)) (N : Nat) (σ : qm_S) (a1 : Int64) (a3 : Int64) (a5 : Int64) (a7 : Int32) : J Γ (qm_w (gK Γ)) qcl (QF Γ (qm_w (gK Γ)) qcl ovI) (shO (qm_goesOn N σ a1 a3 a5 a7)) σ 0 [(0, .ref (kq (gK Γ) 18)), (1, .long a1), (3, .long a3), (5, .long a5), (7, .int a7)] [] := by
  unfold qm_goesOn
  refine j_lload_n C d_qm_goesOn_0 rfl 2 rfl ?_
  refine cs_qm C (mc_qm_kindOf (gl Γ) (gK Γ) a3) qm_kindOf_I k_1000 (by decide) d_qm_goesOn_1 rfl (rest := []) rfl (Nat.le_of_ble_eq_true rfl) ?_
  refine j_iconst C d_qm_goesOn_4 rfl kc_i_4 ?_
  refine j_icmp_ne C d_qm_goesOn_5 (tgt := 29) (by decide) rfl (fun c_1 => ?_) (fun c_1 => ?_)
  · refine J.neg shO c_1 ?_
    refine j_ldc2 C d_qm_goesOn_29 rfl k_979 ?_
    refine j_lstore C (lv' := [(8, .long (3 : Int64)), (0, .ref (kq (gK Γ) 18)), (1, .long a1), (3, .long a3), (5, .long a5), (7, .int a7)]) d_qm_goesOn_32 rfl (by decide) rfl ?_
    refine j_aload_n C d_qm_goesOn_34 rfl 1 rfl ?_
    refine qm_r_resultMany C k_871 d_qm_goesOn_35 rfl rfl ?_
    refine j_iconst C d_qm_goesOn_38 rfl kc_i_1 ?_
    refine j_isub C d_qm_goesOn_39 rfl ?_
    refine j_istore C (lv' := [(10, .int ((qm_g_resultMany σ) - (1 : Int32))), (8, .long (3 : Int64)), (0, .ref (kq (gK Γ) 18)), (1, .long a1), (3, .long a3), (5, .long a5), (7, .int a7)]) d_qm_goesOn_40 rfl (by decide) rfl ?_
    refine J.loc (lv' := [(0, .ref (kq (gK Γ) 18)), (1, .long a1), (5, .long a5), (7, .int a7), (8, .long (3 : Int64)), (10, .int ((qm_g_resultMany σ) - (1 : Int32)))]) [2, 3, 5, 6, 1, 0] rfl ?_
    exact w_qm_goesOn_L42 C N N σ a1 a5 a7 (3 : Int64) ((qm_g_resultMany σ) - (1 : Int32))
  · refine J.pos shO c_1 ?_
    refine j_aload_n C d_qm_goesOn_8 rfl 0 rfl ?_
    refine j_iconst C d_qm_goesOn_9 rfl kc_i_1 ?_
    refine j_lload_n C d_qm_goesOn_10 rfl 1 rfl ?_
    refine j_aload_n C d_qm_goesOn_11 rfl 0 rfl ?_
    refine j_lload_n C d_qm_goesOn_12 rfl 2 rfl ?_
    refine J.goO (fun r2 h_3 => ?_)
    refine cvr_qm_qm C (mc_qm_cdrOf (gl Γ) (gK Γ) σ a3 r2 h_3) qm_cdrOf_I k_1015 (by decide) d_qm_goesOn_13 rfl (rest := [.long a1, .int (1 : Int32), .ref (kq (gK Γ) 18)]) rfl ⟨rfl, Nat.le_of_ble_eq_true rfl⟩ ?_
    refine j_iload C d_qm_goesOn_16 rfl 4 rfl ?_
    refine j_aload_n C d_qm_goesOn_18 rfl 0 rfl ?_
    refine j_lload_n C d_qm_goesOn_19 rfl 2 rfl ?_
    refine J.goO (fun r4 h_5 => ?_)
    refine cvr_qm_qm C (mc_qm_carOf (gl Γ) (gK Γ) σ a3 r4 h_5) qm_carOf_I k_1004 (by decide) d_qm_goesOn_20 rfl (rest := [.int a7, .long r2, .long a1, .int (1 : Int32), .ref (kq (gK Γ) 18)]) rfl ⟨rfl, Nat.le_of_ble_eq_true rfl⟩ ?_
    refine j_lload C d_qm_goesOn_23 rfl 3 rfl ?_
    refine J.goO (fun r6 h_7 => ?_)
    refine cv_qm_qm C (mc_qm_goesWith (gl Γ) (gK Γ) σ (1 : Int32) a1 r2 a7 r4 a5 r6 h_7) qm_goesWith_I k_1113 (by decide) d_qm_goesOn_25 rfl (rest := []) rfl ⟨rfl, Nat.le_of_ble_eq_true rfl⟩ ?_
    exact j_iret C d_qm_goesOn_28
theorem mc_qm_goesOn (l : Launch) (K : kk_T) (N : Nat) (σ : qm_S) (a1 : Int64) (a3 : Int64) (a5 : Int64) (a7 : Int32) (r : Int32 × qm_S) (h : qm_goesOn N σ a1 a3 a5 a7 = some r) : MC l qm_goesOn_y qm_goesOn_c 11 (some .int) (3, 65) K (qm_w K) qcl σ [.ref (kq K 18), .long a1, .long a3, .long a5, .int a7] (some (.int r.1)) r.2 := mc_of (ov := ovI) (X := shO (qm_goesOn N σ a1 a3 a5 a7)) (by decide +kernel) (Nat.le_of_ble_eq_true rfl) (fun _ => rfl) (by rw [h]; rfl) (fun Γ e1 e2 C => by subst e1; subst e2; exact w_qm_goesOn C N σ a1 a3 a5 a7)
theorem qm_goesOn_I : ck_V qm_goesOn_y qm_goesOn_c 11 (some .int) 4 := ⟨k_1128, k_102, by decide +kernel, k_1127, k_76⟩
theorem w_qm_beginsWith {Γ : cx_T} (C : cx_C Γ (qm_w (gK Γ)) qcl qm_R qm_beginsWith_c 5 (some .int) (3, 65)) (σ : qm_S) (a1 : Int64) (a3 : Int64) : J Γ (qm_w (gK Γ)) qcl (QF Γ (qm_w (gK Γ)) qcl ovI) (shO (qm_beginsWith σ a1 a3)) σ 0 [(0, .ref (kq (gK Γ) 18)), (1, .long a1), (3, .long a3)] [] := by
  unfold qm_beginsWith
  refine j_lload_n C d_qm_beginsWith_0 rfl 1 rfl ?_
  refine cs_qm C (mc_qm_kindOf (gl Γ) (gK Γ) a1) qm_kindOf_I k_1000 (by decide) d_qm_beginsWith_1 rfl (rest := []) rfl (Nat.le_of_ble_eq_true rfl) ?_
  refine j_iconst C d_qm_beginsWith_4 rfl kc_i_3 ?_
  refine j_icmp_ne C d_qm_beginsWith_5 (tgt := 16) (by decide) rfl (fun c_1 => ?_) (fun c_1 => ?_)
  · refine J.neg shO c_1 ?_
    refine j_aload_n C d_qm_beginsWith_16 rfl 0 rfl ?_
    refine j_lload_n C d_qm_beginsWith_17 rfl 1 rfl ?_
    refine J.goO (fun r2 h_3 => ?_)
    refine cvr_qm_qm C (mc_qm_cdrOf (gl Γ) (gK Γ) σ a1 r2 h_3) qm_cdrOf_I k_1015 (by decide) d_qm_beginsWith_18 rfl (rest := []) rfl ⟨rfl, Nat.le_of_ble_eq_true rfl⟩ ?_
    refine cs_qm C (mc_qm_kindOf (gl Γ) (gK Γ) r2) qm_kindOf_I k_1000 (by decide) d_qm_beginsWith_21 rfl (rest := []) rfl (Nat.le_of_ble_eq_true rfl) ?_
    refine j_iconst C d_qm_beginsWith_24 rfl kc_i_3 ?_
    refine j_icmp_ne C d_qm_beginsWith_25 (tgt := 39) (by decide) rfl (fun c_4 => ?_) (fun c_4 => ?_)
    · refine J.neg shO c_4 ?_
      refine j_aload_n C d_qm_beginsWith_39 rfl 0 rfl ?_
      refine j_bipush C d_qm_beginsWith_40 rfl kc_b_6 ?_
      refine j_aload_n C d_qm_beginsWith_42 rfl 0 rfl ?_
      refine j_lload_n C d_qm_beginsWith_43 rfl 1 rfl ?_
      refine J.goO (fun r5 h_6 => ?_)
      refine cvr_qm_qm C (mc_qm_cdrOf (gl Γ) (gK Γ) σ a1 r5 h_6) qm_cdrOf_I k_1015 (by decide) d_qm_beginsWith_44 rfl (rest := [.int (6 : Int32), .ref (kq (gK Γ) 18)]) rfl ⟨rfl, Nat.le_of_ble_eq_true rfl⟩ ?_
      refine j_lconst C d_qm_beginsWith_47 rfl kc_l_0 ?_
      refine j_iconst C d_qm_beginsWith_48 rfl kc_i_0 ?_
      refine j_aload_n C d_qm_beginsWith_49 rfl 0 rfl ?_
      refine j_lload_n C d_qm_beginsWith_50 rfl 1 rfl ?_
      refine J.goO (fun r7 h_8 => ?_)
      refine cvr_qm_qm C (mc_qm_carOf (gl Γ) (gK Γ) σ a1 r7 h_8) qm_carOf_I k_1004 (by decide) d_qm_beginsWith_51 rfl (rest := [.int (0 : Int32), .long (0 : Int64), .long r5, .int (6 : Int32), .ref (kq (gK Γ) 18)]) rfl ⟨rfl, Nat.le_of_ble_eq_true rfl⟩ ?_
      refine j_lload_n C d_qm_beginsWith_54 rfl 2 rfl ?_
      refine J.goO (fun r9 h_10 => ?_)
      refine cv_qm_qm C (mc_qm_goesWith (gl Γ) (gK Γ) σ (6 : Int32) r5 (0 : Int64) (0 : Int32) r7 a3 r9 h_10) qm_goesWith_I k_1113 (by decide) d_qm_beginsWith_55 rfl (rest := []) rfl ⟨rfl, Nat.le_of_ble_eq_true rfl⟩ ?_
      exact j_iret C d_qm_beginsWith_58
    · refine J.pos shO c_4 ?_
      refine j_aload_n C d_qm_beginsWith_28 rfl 0 rfl ?_
      refine j_aload_n C d_qm_beginsWith_29 rfl 0 rfl ?_
      refine j_lload_n C d_qm_beginsWith_30 rfl 1 rfl ?_
      refine J.goO (fun r11 h_12 => ?_)
      refine cvr_qm_qm C (mc_qm_carOf (gl Γ) (gK Γ) σ a1 r11 h_12) qm_carOf_I k_1004 (by decide) d_qm_beginsWith_31 rfl (rest := [.ref (kq (gK Γ) 18)]) rfl ⟨rfl, Nat.le_of_ble_eq_true rfl⟩ ?_
      refine j_lload_n C d_qm_beginsWith_34 rfl 2 rfl ?_
      refine cv_qm_qm C (mc_qm_goesTo (gl Γ) (gK Γ) σ r11 a3) qm_goesTo_I k_1101 (by decide) d_qm_beginsWith_35 rfl (rest := []) rfl ⟨rfl, Nat.le_of_ble_eq_true rfl⟩ ?_
      exact j_iret C d_qm_beginsWith_38
  · refine J.pos shO c_1 ?_
    refine j_aload_n C d_qm_beginsWith_8 rfl 0 rfl ?_
    refine j_ldc2 C d_qm_beginsWith_9 rfl k_978 ?_
    refine cv_qm_qm C (mc_qm_gives (gl Γ) (gK Γ) σ (8 : Int64)) qm_gives_I k_1117 (by decide) d_qm_beginsWith_12 rfl (rest := []) rfl ⟨rfl, Nat.le_of_ble_eq_true rfl⟩ ?_
    exact j_iret C d_qm_beginsWith_15
theorem mc_qm_beginsWith (l : Launch) (K : kk_T) (σ : qm_S) (a1 : Int64) (a3 : Int64) (r : Int32 × qm_S) (h : qm_beginsWith σ a1 a3 = some r) : MC l qm_beginsWith_y qm_beginsWith_c 5 (some .int) (3, 65) K (qm_w K) qcl σ [.ref (kq K 18), .long a1, .long a3] (some (.int r.1)) r.2 := mc_of (ov := ovI) (X := shO (qm_beginsWith σ a1 a3)) (by decide +kernel) (Nat.le_of_ble_eq_true rfl) (fun _ => rfl) (by rw [h]; rfl) (fun Γ e1 e2 C => by subst e1; subst e2; exact w_qm_beginsWith C σ a1 a3)
theorem qm_beginsWith_I : ck_V qm_beginsWith_y qm_beginsWith_c 5 (some .int) 2 := ⟨k_1159, k_102, by decide +kernel, k_1158, k_83⟩
theorem w_qm_givesBound {Γ : cx_T} (C : cx_C Γ (qm_w (gK Γ)) qcl qm_R qm_givesBound_c 6 (some .int) (4, 93)) (N : Nat) (σ : qm_S) (a1 : Int64) (a3 : Int32) (a4 : Int64) : J Γ (qm_w (gK Γ)) qcl (QF Γ (qm_w (gK Γ)) qcl ovI) (shO (qm_givesBound N σ a1 a3 a4)) σ 0 [(0, .ref (kq (gK Γ) 18)), (1, .long a1), (3, .int a3), (4, .long a4)] [] := by
  unfold qm_givesBound
  refine j_aload_n C d_qm_givesBound_0 rfl 0 rfl ?_
  refine j_lload_n C d_qm_givesBound_1 rfl 1 rfl ?_
  refine j_iload_n C d_qm_givesBound_2 rfl 2 rfl ?_
  refine j_lload C d_qm_givesBound_3 rfl 3 rfl ?_
  refine J.goO (fun r1 h_2 => ?_)
  refine cv_qm_qm C (mc_qm_binds (gl Γ) (gK Γ) N σ a1 a3 a4 r1 h_2) qm_binds_I k_1199 (by decide) d_qm_givesBound_5 rfl (rest := []) rfl ⟨rfl, Nat.le_of_ble_eq_true rfl⟩ ?_
  refine j_if_eq C d_qm_givesBound_8 (tgt := 21) (by decide) rfl (fun c_3 => ?_) (fun c_3 => ?_)
  · refine J.pos shO c_3 ?_
    refine j_bipush C d_qm_givesBound_21 rfl kc_b_m5 ?_
    exact j_iret C d_qm_givesBound_23
  · refine J.neg shO c_3 ?_
    refine j_aload_n C d_qm_givesBound_11 rfl 0 rfl ?_
    refine j_ldc2 C d_qm_givesBound_12 rfl k_978 ?_
    refine cv_qm_qm C (mc_qm_gives (gl Γ) (gK Γ) r1.2 (8 : Int64)) qm_gives_I k_1117 (by decide) d_qm_givesBound_15 rfl (rest := []) rfl ⟨rfl, Nat.le_of_ble_eq_true rfl⟩ ?_
    refine j_goto C d_qm_givesBound_18 (tgt := 23) (by decide) ?_
    exact j_iret C d_qm_givesBound_23
theorem mc_qm_givesBound (l : Launch) (K : kk_T) (N : Nat) (σ : qm_S) (a1 : Int64) (a3 : Int32) (a4 : Int64) (r : Int32 × qm_S) (h : qm_givesBound N σ a1 a3 a4 = some r) : MC l qm_givesBound_y qm_givesBound_c 6 (some .int) (4, 93) K (qm_w K) qcl σ [.ref (kq K 18), .long a1, .int a3, .long a4] (some (.int r.1)) r.2 := mc_of (ov := ovI) (X := shO (qm_givesBound N σ a1 a3 a4)) (by decide +kernel) (Nat.le_of_ble_eq_true rfl) (fun _ => rfl) (by rw [h]; rfl) (fun Γ e1 e2 C => by subst e1; subst e2; exact w_qm_givesBound C N σ a1 a3 a4)
theorem qm_givesBound_I : ck_V qm_givesBound_y qm_givesBound_c 6 (some .int) 3 := ⟨k_1210, k_102, by decide +kernel, k_1209, k_94⟩
theorem w_qm_takesResult {Γ : cx_T} (C : cx_C Γ (qm_w (gK Γ)) qcl qm_R qm_takesResult_c 10 (some .int) (5, 118)) (N : Nat) (σ : qm_S)  : J Γ (qm_w (gK Γ)) qcl (QF Γ (qm_w (gK Γ)) qcl ovI) (shO (qm_takesResult N σ)) σ 0 [(0, .ref (kq (gK Γ) 18))] [] := by
  unfold qm_takesResult
  refine j_aload_n C d_qm_takesResult_0 rfl 0 rfl ?_
  refine j_dup C d_qm_takesResult_1 rfl rfl ?_
  refine qm_r_frames C k_864 d_qm_takesResult_2 rfl rfl ?_
  refine j_iconst C d_qm_takesResult_5 rfl kc_i_1 ?_
  refine j_isub C d_qm_takesResult_6 rfl ?_
  refine qm_p_frames C k_864 d_qm_takesResult_7 rfl ?_
  refine j_aload_n C d_qm_takesResult_10 rfl 0 rfl ?_
  refine qm_r_frameOne C k_866 d_qm_takesResult_11 rfl ?_
  refine j_aload_n C d_qm_takesResult_14 rfl 0 rfl ?_
  refine qm_r_frames C k_864 d_qm_takesResult_15 rfl (x := ((qm_g_frames σ) - (1 : Int32))) (gv_qm_frames _ _) ?_
  refine J.inO (fun h_1 => ?_)
  refine qm_l_frameOne C (inb_in h_1) d_qm_takesResult_18 rfl (x := (qm_g_frameOne σ (Int32.toNatClampNeg ((qm_g_frames σ) - (1 : Int32))))) (congrFun (gs_qm_frameOne_s_frames _ _) _) ?_
  refine j_lstore_n C (lv' := [(1, .long (qm_g_frameOne σ (Int32.toNatClampNeg ((qm_g_frames σ) - (1 : Int32))))), (0, .ref (kq (gK Γ) 18))]) d_qm_takesResult_19 rfl rfl (by decide) rfl ?_
  refine j_aload_n C d_qm_takesResult_20 rfl 1 rfl ?_
  refine qm_r_frameOther C k_867 d_qm_takesResult_21 rfl ?_
  refine j_aload_n C d_qm_takesResult_24 rfl 1 rfl ?_
  refine qm_r_frames C k_864 d_qm_takesResult_25 rfl (x := ((qm_g_frames σ) - (1 : Int32))) (gv_qm_frames _ _) ?_
  refine J.inO (fun h_2 => ?_)
  refine qm_l_frameOther C (inb_in h_2) d_qm_takesResult_28 rfl (x := (qm_g_frameOther σ (Int32.toNatClampNeg ((qm_g_frames σ) - (1 : Int32))))) (congrFun (gs_qm_frameOther_s_frames _ _) _) ?_
  refine j_lstore_n C (lv' := [(3, .long (qm_g_frameOther σ (Int32.toNatClampNeg ((qm_g_frames σ) - (1 : Int32))))), (1, .long (qm_g_frameOne σ (Int32.toNatClampNeg ((qm_g_frames σ) - (1 : Int32))))), (0, .ref (kq (gK Γ) 18))]) d_qm_takesResult_29 rfl rfl (by decide) rfl ?_
  refine j_aload_n C d_qm_takesResult_30 rfl 2 rfl ?_
  refine qm_r_frameAround C k_868 d_qm_takesResult_31 rfl ?_
  refine j_aload_n C d_qm_takesResult_34 rfl 2 rfl ?_
  refine qm_r_frames C k_864 d_qm_takesResult_35 rfl (x := ((qm_g_frames σ) - (1 : Int32))) (gv_qm_frames _ _) ?_
  refine J.inO (fun h_3 => ?_)
  refine qm_l_frameAround C (inb_in h_3) d_qm_takesResult_38 rfl (x := (qm_g_frameAround σ (Int32.toNatClampNeg ((qm_g_frames σ) - (1 : Int32))))) (congrFun (gs_qm_frameAround_s_frames _ _) _) ?_
  refine j_lstore C (lv' := [(5, .long (qm_g_frameAround σ (Int32.toNatClampNeg ((qm_g_frames σ) - (1 : Int32))))), (3, .long (qm_g_frameOther σ (Int32.toNatClampNeg ((qm_g_frames σ) - (1 : Int32))))), (1, .long (qm_g_frameOne σ (Int32.toNatClampNeg ((qm_g_frames σ) - (1 : Int32))))), (0, .ref (kq (gK Γ) 18))]) d_qm_takesResult_39 rfl (by decide) rfl ?_
  refine j_aload_n C d_qm_takesResult_41 rfl 3 rfl ?_
  refine qm_r_frameBase C k_869 d_qm_takesResult_42 rfl ?_
  refine j_aload_n C d_qm_takesResult_45 rfl 3 rfl ?_
  refine qm_r_frames C k_864 d_qm_takesResult_46 rfl (x := ((qm_g_frames σ) - (1 : Int32))) (gv_qm_frames _ _) ?_
  refine J.inO (fun h_4 => ?_)
  refine qm_l_frameBase C (inb_in h_4) d_qm_takesResult_49 rfl (x := (qm_g_frameBase σ (Int32.toNatClampNeg ((qm_g_frames σ) - (1 : Int32))))) (congrFun (gs_qm_frameBase_s_frames _ _) _) ?_
  refine j_istore C (lv' := [(7, .int (qm_g_frameBase σ (Int32.toNatClampNeg ((qm_g_frames σ) - (1 : Int32))))), (5, .long (qm_g_frameAround σ (Int32.toNatClampNeg ((qm_g_frames σ) - (1 : Int32))))), (3, .long (qm_g_frameOther σ (Int32.toNatClampNeg ((qm_g_frames σ) - (1 : Int32))))), (1, .long (qm_g_frameOne σ (Int32.toNatClampNeg ((qm_g_frames σ) - (1 : Int32))))), (0, .ref (kq (gK Γ) 18))]) d_qm_takesResult_50 rfl (by decide) rfl ?_
  refine j_aload_n C d_qm_takesResult_52 rfl 4 rfl ?_
  refine qm_r_now C k_861 d_qm_takesResult_53 rfl (x := (qm_g_now σ)) (gs_qm_now_s_frames _ _) ?_
  refine j_lstore C (lv' := [(8, .long (qm_g_now σ)), (7, .int (qm_g_frameBase σ (Int32.toNatClampNeg ((qm_g_frames σ) - (1 : Int32))))), (5, .long (qm_g_frameAround σ (Int32.toNatClampNeg ((qm_g_frames σ) - (1 : Int32))))), (3, .long (qm_g_frameOther σ (Int32.toNatClampNeg ((qm_g_frames σ) - (1 : Int32))))), (1, .long (qm_g_frameOne σ (Int32.toNatClampNeg ((qm_g_frames σ) - (1 : Int32))))), (0, .ref (kq (gK Γ) 18))]) d_qm_takesResult_56 rfl (by decide) rfl ?_
  refine j_aload_n C d_qm_takesResult_58 rfl 5 rfl ?_
  refine qm_r_frameKind C k_865 d_qm_takesResult_59 rfl ?_
  refine j_aload_n C d_qm_takesResult_62 rfl 5 rfl ?_
  refine qm_r_frames C k_864 d_qm_takesResult_63 rfl (x := ((qm_g_frames σ) - (1 : Int32))) (gv_qm_frames _ _) ?_
  refine J.inO (fun h_5 => ?_)
  refine qm_l_frameKind C (inb_in h_5) d_qm_takesResult_66 rfl (x := (qm_g_frameKind σ (Int32.toNatClampNeg ((qm_g_frames σ) - (1 : Int32))))) (congrFun (gs_qm_frameKind_s_frames _ _) _) ?_
  refine J.cas shO (fun c_6 => ?_) (fun c_6 => ?_)
  · refine j_tblIn C d_qm_takesResult_67 (0 : Int32) c_6 (by decide) (by decide) rfl (tgt := 104) (by decide) ?_
    refine j_aload_n C d_qm_takesResult_104 rfl 5 rfl ?_
    refine j_lload C d_qm_takesResult_105 rfl 0 rfl ?_
    refine j_lload_n C d_qm_takesResult_107 rfl 4 rfl ?_
    refine j_lload C d_qm_takesResult_108 rfl 2 rfl ?_
    refine cv_qm_qm C (mc_qm_combines (gl Γ) (gK Γ) (qm_s_frames σ ((qm_g_frames σ) - (1 : Int32))) (qm_g_now σ) (qm_g_frameOne σ (Int32.toNatClampNeg ((qm_g_frames σ) - (1 : Int32)))) (qm_g_frameAround σ (Int32.toNatClampNeg ((qm_g_frames σ) - (1 : Int32))))) qm_combines_I k_1129 (by decide) d_qm_takesResult_110 rfl (rest := []) rfl ⟨rfl, Nat.le_of_ble_eq_true rfl⟩ ?_
    exact j_iret C d_qm_takesResult_113
  · skip
    refine J.cas shO (fun c_7 => ?_) (fun c_7 => ?_)
    · refine j_tblIn C d_qm_takesResult_67 (1 : Int32) c_7 (by decide) (by decide) rfl (tgt := 114) (by decide) ?_
      refine j_aload_n C d_qm_takesResult_114 rfl 5 rfl ?_
      refine qm_r_results C k_870 d_qm_takesResult_115 rfl ?_
      refine j_aload_n C d_qm_takesResult_118 rfl 5 rfl ?_
      refine qm_r_resultMany C k_871 d_qm_takesResult_119 rfl (x := (qm_g_resultMany σ)) (gs_qm_resultMany_s_frames _ _) ?_
      refine j_lload C d_qm_takesResult_122 rfl 0 rfl ?_
      refine J.inO (fun h_8 => ?_)
      refine qm_a_results C (inb_in h_8) d_qm_takesResult_124 rfl ?_
      refine j_aload_n C d_qm_takesResult_125 rfl 5 rfl ?_
      refine j_dup C d_qm_takesResult_126 rfl rfl ?_
      refine qm_r_resultMany C k_871 d_qm_takesResult_127 rfl (x := (qm_g_resultMany σ)) ((gs_qm_resultMany_t_results _ _ _).trans (gs_qm_resultMany_s_frames _ _)) ?_
      refine j_iconst C d_qm_takesResult_130 rfl kc_i_1 ?_
      refine j_iadd C d_qm_takesResult_131 rfl ?_
      refine qm_p_resultMany C k_871 d_qm_takesResult_132 rfl ?_
      refine j_aload_n C d_qm_takesResult_135 rfl 5 rfl ?_
      refine j_lload_n C d_qm_takesResult_136 rfl 4 rfl ?_
      refine j_lload_n C d_qm_takesResult_137 rfl 3 rfl ?_
      refine j_lload C d_qm_takesResult_138 rfl 2 rfl ?_
      refine j_iload C d_qm_takesResult_140 rfl 1 rfl ?_
      refine J.goO (fun r9 h_10 => ?_)
      refine cv_qm_qm C (mc_qm_goesOn (gl Γ) (gK Γ) N (qm_s_resultMany (qm_t_results (qm_s_frames σ ((qm_g_frames σ) - (1 : Int32))) (qm_g_resultMany σ) (qm_g_now σ)) ((qm_g_resultMany σ) + (1 : Int32))) (qm_g_frameOne σ (Int32.toNatClampNeg ((qm_g_frames σ) - (1 : Int32)))) (qm_g_frameOther σ (Int32.toNatClampNeg ((qm_g_frames σ) - (1 : Int32)))) (qm_g_frameAround σ (Int32.toNatClampNeg ((qm_g_frames σ) - (1 : Int32)))) (qm_g_frameBase σ (Int32.toNatClampNeg ((qm_g_frames σ) - (1 : Int32)))) r9 h_10) qm_goesOn_I k_1125 (by decide) d_qm_takesResult_142 rfl (rest := []) rfl ⟨rfl, Nat.le_of_ble_eq_true rfl⟩ ?_
      exact j_iret C d_qm_takesResult_145
    · skip
      refine J.cas shO (fun c_11 => ?_) (fun c_11 => ?_)
      · refine j_tblIn C d_qm_takesResult_67 (2 : Int32) c_11 (by decide) (by decide) rfl (tgt := 146) (by decide) ?_
        refine j_lload C d_qm_takesResult_146 rfl 0 rfl ?_
        refine cs_qm C (mc_qm_kindOf (gl Γ) (gK Γ) (qm_g_now σ)) qm_kindOf_I k_1000 (by decide) d_qm_takesResult_148 rfl (rest := []) rfl (Nat.le_of_ble_eq_true rfl) ?_
        refine j_iconst C d_qm_takesResult_151 rfl kc_i_1 ?_
        refine j_icmp_eq C d_qm_takesResult_152 (tgt := 160) (by decide) rfl (fun c_12 => ?_) (fun c_12 => ?_)
        · refine J.pos shO c_12 ?_
          refine j_aload_n C d_qm_takesResult_160 rfl 5 rfl ?_
          refine j_lload C d_qm_takesResult_161 rfl 0 rfl ?_
          refine cs_qm C (mc_qm_whatOf (gl Γ) (gK Γ) (qm_g_now σ)) qm_whatOf_I k_1012 (by decide) d_qm_takesResult_163 rfl (rest := [.ref (kq (gK Γ) 18)]) rfl (Nat.le_of_ble_eq_true rfl) ?_
          refine j_lconst C d_qm_takesResult_166 rfl kc_l_1 ?_
          refine j_lcmp_ne C d_qm_takesResult_167 d_qm_takesResult_168 (tgt := 175) (by decide) rfl (fun c_13 => ?_) (fun c_13 => ?_)
          · refine J.neg shO c_13 ?_
            refine j_lload_n C d_qm_takesResult_175 rfl 3 rfl ?_
            refine j_lload C d_qm_takesResult_176 rfl 2 rfl ?_
            refine cv_qm_qm C (mc_qm_goesTo (gl Γ) (gK Γ) (qm_s_frames σ ((qm_g_frames σ) - (1 : Int32))) (qm_g_frameOther σ (Int32.toNatClampNeg ((qm_g_frames σ) - (1 : Int32)))) (qm_g_frameAround σ (Int32.toNatClampNeg ((qm_g_frames σ) - (1 : Int32))))) qm_goesTo_I k_1101 (by decide) d_qm_takesResult_178 rfl (rest := []) rfl ⟨rfl, Nat.le_of_ble_eq_true rfl⟩ ?_
            exact j_iret C d_qm_takesResult_181
          · refine J.pos shO c_13 ?_
            refine j_lload_n C d_qm_takesResult_171 rfl 4 rfl ?_
            refine j_goto C d_qm_takesResult_172 (tgt := 176) (by decide) ?_
            refine j_lload C d_qm_takesResult_176 rfl 2 rfl ?_
            refine cv_qm_qm C (mc_qm_goesTo (gl Γ) (gK Γ) (qm_s_frames σ ((qm_g_frames σ) - (1 : Int32))) (qm_g_frameOne σ (Int32.toNatClampNeg ((qm_g_frames σ) - (1 : Int32)))) (qm_g_frameAround σ (Int32.toNatClampNeg ((qm_g_frames σ) - (1 : Int32))))) qm_goesTo_I k_1101 (by decide) d_qm_takesResult_178 rfl (rest := []) rfl ⟨rfl, Nat.le_of_ble_eq_true rfl⟩ ?_
            exact j_iret C d_qm_takesResult_181
        · refine J.neg shO c_12 ?_
          refine j_bipush C d_qm_takesResult_155 rfl kc_b_m8 ?_
          refine j_goto C d_qm_takesResult_157 (tgt := 181) (by decide) ?_
          exact j_iret C d_qm_takesResult_181
      · skip
        refine J.cas shO (fun c_14 => ?_) (fun c_14 => ?_)
        · refine j_tblIn C d_qm_takesResult_67 (3 : Int32) c_14 (by decide) (by decide) rfl (tgt := 182) (by decide) ?_
          refine j_aload_n C d_qm_takesResult_182 rfl 5 rfl ?_
          refine j_lload C d_qm_takesResult_183 rfl 2 rfl ?_
          refine j_iload C d_qm_takesResult_185 rfl 1 rfl ?_
          refine j_lload C d_qm_takesResult_187 rfl 0 rfl ?_
          refine J.goO (fun r15 h_16 => ?_)
          refine cv_qm_qm C (mc_qm_givesBound (gl Γ) (gK Γ) N (qm_s_frames σ ((qm_g_frames σ) - (1 : Int32))) (qm_g_frameAround σ (Int32.toNatClampNeg ((qm_g_frames σ) - (1 : Int32)))) (qm_g_frameBase σ (Int32.toNatClampNeg ((qm_g_frames σ) - (1 : Int32)))) (qm_g_now σ) r15 h_16) qm_givesBound_I k_1207 (by decide) d_qm_takesResult_189 rfl (rest := []) rfl ⟨rfl, Nat.le_of_ble_eq_true rfl⟩ ?_
          exact j_iret C d_qm_takesResult_192
        · skip
          refine J.cas shO (fun c_17 => ?_) (fun c_17 => ?_)
          · refine j_tblIn C d_qm_takesResult_67 (4 : Int32) c_17 (by decide) (by decide) rfl (tgt := 193) (by decide) ?_
            refine j_lload C d_qm_takesResult_193 rfl 0 rfl ?_
            refine cs_qm C (mc_qm_kindOf (gl Γ) (gK Γ) (qm_g_now σ)) qm_kindOf_I k_1000 (by decide) d_qm_takesResult_195 rfl (rest := []) rfl (Nat.le_of_ble_eq_true rfl) ?_
            refine j_bipush C d_qm_takesResult_198 rfl kc_b_7 ?_
            refine j_icmp_eq C d_qm_takesResult_200 (tgt := 208) (by decide) rfl (fun c_18 => ?_) (fun c_18 => ?_)
            · refine J.pos shO c_18 ?_
              refine j_aload_n C d_qm_takesResult_208 rfl 5 rfl ?_
              refine j_iconst C d_qm_takesResult_209 rfl kc_i_5 ?_
              refine j_lload C d_qm_takesResult_210 rfl 0 rfl ?_
              refine j_lconst C d_qm_takesResult_212 rfl kc_l_0 ?_
              refine j_iload C d_qm_takesResult_213 rfl 1 rfl ?_
              refine j_lload_n C d_qm_takesResult_215 rfl 4 rfl ?_
              refine j_lload C d_qm_takesResult_216 rfl 2 rfl ?_
              refine J.goO (fun r19 h_20 => ?_)
              refine cv_qm_qm C (mc_qm_goesWith (gl Γ) (gK Γ) (qm_s_frames σ ((qm_g_frames σ) - (1 : Int32))) (5 : Int32) (qm_g_now σ) (0 : Int64) (qm_g_frameBase σ (Int32.toNatClampNeg ((qm_g_frames σ) - (1 : Int32)))) (qm_g_frameOne σ (Int32.toNatClampNeg ((qm_g_frames σ) - (1 : Int32)))) (qm_g_frameAround σ (Int32.toNatClampNeg ((qm_g_frames σ) - (1 : Int32)))) r19 h_20) qm_goesWith_I k_1113 (by decide) d_qm_takesResult_218 rfl (rest := []) rfl ⟨rfl, Nat.le_of_ble_eq_true rfl⟩ ?_
              exact j_iret C d_qm_takesResult_221
            · refine J.neg shO c_18 ?_
              refine j_bipush C d_qm_takesResult_203 rfl kc_b_m8 ?_
              refine j_goto C d_qm_takesResult_205 (tgt := 221) (by decide) ?_
              exact j_iret C d_qm_takesResult_221
          · skip
            refine J.cas shO (fun c_21 => ?_) (fun c_21 => ?_)
            · refine j_tblIn C d_qm_takesResult_67 (5 : Int32) c_21 (by decide) (by decide) rfl (tgt := 222) (by decide) ?_
              refine j_aload_n C d_qm_takesResult_222 rfl 5 rfl ?_
              refine j_lload_n C d_qm_takesResult_223 rfl 4 rfl ?_
              refine j_iload C d_qm_takesResult_224 rfl 1 rfl ?_
              refine j_lload C d_qm_takesResult_226 rfl 0 rfl ?_
              refine J.goO (fun r22 h_23 => ?_)
              refine cv_qm_qm C (mc_qm_givesBound (gl Γ) (gK Γ) N (qm_s_frames σ ((qm_g_frames σ) - (1 : Int32))) (qm_g_frameOne σ (Int32.toNatClampNeg ((qm_g_frames σ) - (1 : Int32)))) (qm_g_frameBase σ (Int32.toNatClampNeg ((qm_g_frames σ) - (1 : Int32)))) (qm_g_now σ) r22 h_23) qm_givesBound_I k_1207 (by decide) d_qm_takesResult_228 rfl (rest := []) rfl ⟨rfl, Nat.le_of_ble_eq_true rfl⟩ ?_
              exact j_iret C d_qm_takesResult_231
            · skip
              refine j_tblOut C d_qm_takesResult_67 (tgt := 232) (by decide) (by have h0 := lv_neT c_6 (a := 0) rfl; have h1 := lv_neT c_7 (a := 1) rfl; have h2 := lv_neT c_11 (a := 2) rfl; have h3 := lv_neT c_14 (a := 3) rfl; have h4 := lv_neT c_17 (a := 4) rfl; have h5 := lv_neT c_21 (a := 5) rfl; omega) ?_
              refine j_aload_n C d_qm_takesResult_232 rfl 5 rfl ?_
              refine j_lload_n C d_qm_takesResult_233 rfl 4 rfl ?_
              refine j_lload C d_qm_takesResult_234 rfl 2 rfl ?_
              refine J.goO (fun r24 h_25 => ?_)
              refine cv_qm_qm C (mc_qm_beginsWith (gl Γ) (gK Γ) (qm_s_frames σ ((qm_g_frames σ) - (1 : Int32))) (qm_g_frameOne σ (Int32.toNatClampNeg ((qm_g_frames σ) - (1 : Int32)))) (qm_g_frameAround σ (Int32.toNatClampNeg ((qm_g_frames σ) - (1 : Int32)))) r24 h_25) qm_beginsWith_I k_1156 (by decide) d_qm_takesResult_236 rfl (rest := []) rfl ⟨rfl, Nat.le_of_ble_eq_true rfl⟩ ?_
              exact j_iret C d_qm_takesResult_239
theorem mc_qm_takesResult (l : Launch) (K : kk_T) (N : Nat) (σ : qm_S)  (r : Int32 × qm_S) (h : qm_takesResult N σ = some r) : MC l qm_takesResult_y qm_takesResult_c 10 (some .int) (5, 118) K (qm_w K) qcl σ [.ref (kq K 18)] (some (.int r.1)) r.2 := mc_of (ov := ovI) (X := shO (qm_takesResult N σ)) (by decide +kernel) (Nat.le_of_ble_eq_true rfl) (fun _ => rfl) (by rw [h]; rfl) (fun Γ e1 e2 C => by subst e1; subst e2; exact w_qm_takesResult C N σ)
theorem qm_takesResult_I : ck_V qm_takesResult_y qm_takesResult_c 10 (some .int) 0 := ⟨k_1206, k_102, by decide +kernel, k_1205, k_93⟩
theorem w_qm_isTree_L33 {Γ : cx_T} (C : cx_C Γ (qm_w (gK Γ)) qcl qm_R qm_isTree_c 8 (some .boolean) (3, 65)) (N : Nat) : ∀ (k : Nat) (σ : qm_S) (x3 : Int32) (x4 : Int32), J Γ (qm_w (gK Γ)) qcl (QF Γ (qm_w (gK Γ)) qcl ovI) (shO (qm_isTree_L33 N k σ x3 x4)) σ 33 [(0, .ref (kq (gK Γ) 18)), (3, .int x3), (4, .int x4)] [] := by
  intro k
  induction k with
  | zero => intro σ x3 x4; exact J.none rfl
  | succ k ih =>
    intro σ x3 x4
    rw [qm_isTree_L33]
    refine j_iload_n C d_qm_isTree_33 rfl 1 rfl ?_
    refine j_if_le C d_qm_isTree_34 (tgt := 160) (by decide) rfl (fun c_3 => ?_) (fun c_3 => ?_)
    · refine J.pos shO c_3 ?_
      refine j_iconst C d_qm_isTree_160 rfl kc_i_1 ?_
      exact j_zret C rfl d_qm_isTree_161
    · refine J.neg shO c_3 ?_
      refine j_iinc C (v := (x3 - (1 : Int32))) (lv' := [(3, .int (x3 - (1 : Int32))), (0, .ref (kq (gK Γ) 18)), (4, .int x4)]) d_qm_isTree_37 rfl 1 rfl (kc_inc_m1 _) (by decide) rfl ?_
      refine j_aload_n C d_qm_isTree_40 rfl 1 rfl ?_
      refine qm_r_treeLeft C k_872 d_qm_isTree_41 rfl ?_
      refine j_iload_n C d_qm_isTree_44 rfl 0 rfl ?_
      refine J.inO (fun h_4 => ?_)
      refine qm_l_treeLeft C (inb_in h_4) d_qm_isTree_45 rfl rfl ?_
      refine j_lstore C (lv' := [(5, .long (qm_g_treeLeft σ (Int32.toNatClampNeg (x3 - (1 : Int32))))), (3, .int (x3 - (1 : Int32))), (0, .ref (kq (gK Γ) 18)), (4, .int x4)]) d_qm_isTree_46 rfl (by decide) rfl ?_
      refine j_lload C d_qm_isTree_48 rfl 0 rfl ?_
      refine cs_qm C (mc_qm_kindOf (gl Γ) (gK Γ) (qm_g_treeLeft σ (Int32.toNatClampNeg (x3 - (1 : Int32))))) qm_kindOf_I k_1000 (by decide) d_qm_isTree_50 rfl (rest := []) rfl (Nat.le_of_ble_eq_true rfl) ?_
      refine j_istore C (lv' := [(7, .int (qm_kindOf (qm_g_treeLeft σ (Int32.toNatClampNeg (x3 - (1 : Int32)))))), (5, .long (qm_g_treeLeft σ (Int32.toNatClampNeg (x3 - (1 : Int32))))), (3, .int (x3 - (1 : Int32))), (0, .ref (kq (gK Γ) 18)), (4, .int x4)]) d_qm_isTree_53 rfl (by decide) rfl ?_
      refine j_iload C d_qm_isTree_55 rfl 0 rfl ?_
      refine j_iconst C d_qm_isTree_57 rfl kc_i_4 ?_
      refine j_icmp_ne C d_qm_isTree_58 (tgt := 105) (by decide) rfl (fun c_5 => ?_) (fun c_5 => ?_)
      · refine J.neg shO c_5 ?_
        refine j_iload C d_qm_isTree_105 rfl 0 rfl ?_
        refine j_iconst C d_qm_isTree_107 rfl kc_i_2 ?_
        refine j_icmp_ne C d_qm_isTree_108 (tgt := 142) (by decide) rfl (fun c_6 => ?_) (fun c_6 => ?_)
        · refine J.neg shO c_6 ?_
          refine j_iload C d_qm_isTree_142 rfl 0 rfl ?_
          refine j_iconst C d_qm_isTree_144 rfl kc_i_3 ?_
          refine j_icmp_eq C d_qm_isTree_145 (tgt := 157) (by decide) rfl (fun c_7 => ?_) (fun c_7 => ?_)
          · refine J.pos shO c_7 ?_
            refine j_goto C d_qm_isTree_157 (tgt := 33) (by decide) ?_
            refine J.loc (lv' := [(0, .ref (kq (gK Γ) 18)), (3, .int (x3 - (1 : Int32))), (4, .int x4)]) [3, 2, 4] rfl ?_
            exact ih σ (x3 - (1 : Int32)) x4
          · refine J.neg shO c_7 ?_
            refine j_iload C d_qm_isTree_148 rfl 0 rfl ?_
            refine j_bipush C d_qm_isTree_150 rfl kc_b_8 ?_
            refine j_icmp_eq C d_qm_isTree_152 (tgt := 157) (by decide) rfl (fun c_8 => ?_) (fun c_8 => ?_)
            · refine J.pos shO c_8 ?_
              refine j_goto C d_qm_isTree_157 (tgt := 33) (by decide) ?_
              refine J.loc (lv' := [(0, .ref (kq (gK Γ) 18)), (3, .int (x3 - (1 : Int32))), (4, .int x4)]) [3, 2, 4] rfl ?_
              exact ih σ (x3 - (1 : Int32)) x4
            · refine J.neg shO c_8 ?_
              refine j_iconst C d_qm_isTree_155 rfl kc_i_0 ?_
              exact j_zret C rfl d_qm_isTree_156
        · refine J.pos shO c_6 ?_
          refine j_aload_n C d_qm_isTree_111 rfl 3 rfl ?_
          refine qm_r_isSeen C k_874 d_qm_isTree_112 rfl ?_
          refine j_aload_n C d_qm_isTree_115 rfl 3 rfl ?_
          refine j_lload C d_qm_isTree_116 rfl 1 rfl ?_
          refine cvr_qm_qm C (mc_qm_indexOf (gl Γ) (gK Γ) σ (qm_g_treeLeft σ (Int32.toNatClampNeg (x3 - (1 : Int32))))) qm_indexOf_I k_1008 (by decide) d_qm_isTree_118 rfl (rest := [.ref (kq (gK Γ) 37)]) rfl ⟨rfl, Nat.le_of_ble_eq_true rfl⟩ ?_
          refine J.inO (fun h_9 => ?_)
          refine qm_l_isSeen C (inb_in h_9) d_qm_isTree_121 rfl rfl ?_
          refine j_if_eq C d_qm_isTree_122 (tgt := 127) (by decide) rfl (fun c_10 => ?_) (fun c_10 => ?_)
          · refine J.pos shO c_10 ?_
            refine j_aload_n C d_qm_isTree_127 rfl 3 rfl ?_
            refine qm_r_isSeen C k_874 d_qm_isTree_128 rfl ?_
            refine j_aload_n C d_qm_isTree_131 rfl 3 rfl ?_
            refine j_lload C d_qm_isTree_132 rfl 1 rfl ?_
            refine cvr_qm_qm C (mc_qm_indexOf (gl Γ) (gK Γ) σ (qm_g_treeLeft σ (Int32.toNatClampNeg (x3 - (1 : Int32))))) qm_indexOf_I k_1008 (by decide) d_qm_isTree_134 rfl (rest := [.ref (kq (gK Γ) 37)]) rfl ⟨rfl, Nat.le_of_ble_eq_true rfl⟩ ?_
            refine j_iconst C d_qm_isTree_137 rfl kc_i_1 ?_
            refine J.inO (fun h_11 => ?_)
            refine qm_a_isSeen C (inb_in h_11) d_qm_isTree_138 rfl ?_
            refine j_goto C d_qm_isTree_139 (tgt := 157) (by decide) ?_
            refine j_goto C d_qm_isTree_157 (tgt := 33) (by decide) ?_
            refine J.loc (lv' := [(0, .ref (kq (gK Γ) 18)), (3, .int (x3 - (1 : Int32))), (4, .int x4)]) [3, 2, 4] rfl ?_
            exact ih (qm_t_isSeen σ (qm_indexOf σ (qm_g_treeLeft σ (Int32.toNatClampNeg (x3 - (1 : Int32))))) (1 : Int32)) (x3 - (1 : Int32)) x4
          · refine J.neg shO c_10 ?_
            refine j_iconst C d_qm_isTree_125 rfl kc_i_0 ?_
            exact j_zret C rfl d_qm_isTree_126
      · refine J.pos shO c_5 ?_
        refine j_iinc C (v := (x4 + (1 : Int32))) (lv' := [(4, .int (x4 + (1 : Int32))), (7, .int (qm_kindOf (qm_g_treeLeft σ (Int32.toNatClampNeg (x3 - (1 : Int32)))))), (5, .long (qm_g_treeLeft σ (Int32.toNatClampNeg (x3 - (1 : Int32))))), (3, .int (x3 - (1 : Int32))), (0, .ref (kq (gK Γ) 18))]) d_qm_isTree_61 rfl 4 rfl (kc_inc_1 _) (by decide) rfl ?_
        refine j_iload C d_qm_isTree_64 rfl 0 rfl ?_
        refine j_bipush C d_qm_isTree_66 rfl kc_b_100 ?_
        refine j_icmp_le C d_qm_isTree_68 (tgt := 73) (by decide) rfl (fun c_12 => ?_) (fun c_12 => ?_)
        · refine J.pos shO c_12 ?_
          refine j_aload_n C d_qm_isTree_73 rfl 4 rfl ?_
          refine qm_r_treeLeft C k_872 d_qm_isTree_74 rfl ?_
          refine j_iload_n C d_qm_isTree_77 rfl 3 rfl ?_
          refine j_aload_n C d_qm_isTree_78 rfl 4 rfl ?_
          refine j_lload C d_qm_isTree_79 rfl 2 rfl ?_
          refine J.goO (fun r13 h_14 => ?_)
          refine cvr_qm_qm C (mc_qm_cdrOf (gl Γ) (gK Γ) σ (qm_g_treeLeft σ (Int32.toNatClampNeg (x3 - (1 : Int32)))) r13 h_14) qm_cdrOf_I k_1015 (by decide) d_qm_isTree_81 rfl (rest := [.int (x3 - (1 : Int32)), .ref (kq (gK Γ) 35)]) rfl ⟨rfl, Nat.le_of_ble_eq_true rfl⟩ ?_
          refine J.inO (fun h_15 => ?_)
          refine qm_a_treeLeft C (inb_in h_15) d_qm_isTree_84 rfl ?_
          refine j_aload_n C d_qm_isTree_85 rfl 4 rfl ?_
          refine qm_r_treeLeft C k_872 d_qm_isTree_86 rfl ?_
          refine j_iload_n C d_qm_isTree_89 rfl 3 rfl ?_
          refine j_iconst C d_qm_isTree_90 rfl kc_i_1 ?_
          refine j_iadd C d_qm_isTree_91 rfl ?_
          refine j_aload_n C d_qm_isTree_92 rfl 4 rfl ?_
          refine j_lload C d_qm_isTree_93 rfl 2 rfl ?_
          refine J.goO (fun r16 h_17 => ?_)
          refine cvr_qm_qm C (mc_qm_carOf (gl Γ) (gK Γ) (qm_t_treeLeft σ (x3 - (1 : Int32)) r13) (qm_g_treeLeft σ (Int32.toNatClampNeg (x3 - (1 : Int32)))) r16 h_17) qm_carOf_I k_1004 (by decide) d_qm_isTree_95 rfl (rest := [.int ((x3 - (1 : Int32)) + (1 : Int32)), .ref (kq (gK Γ) 35)]) rfl ⟨rfl, Nat.le_of_ble_eq_true rfl⟩ ?_
          refine J.inO (fun h_18 => ?_)
          refine qm_a_treeLeft C (inb_in h_18) d_qm_isTree_98 rfl ?_
          refine j_iinc C (v := ((x3 - (1 : Int32)) + (2 : Int32))) (lv' := [(3, .int ((x3 - (1 : Int32)) + (2 : Int32))), (4, .int (x4 + (1 : Int32))), (7, .int (qm_kindOf (qm_g_treeLeft σ (Int32.toNatClampNeg (x3 - (1 : Int32)))))), (5, .long (qm_g_treeLeft σ (Int32.toNatClampNeg (x3 - (1 : Int32))))), (0, .ref (kq (gK Γ) 18))]) d_qm_isTree_99 rfl 3 rfl (kc_inc_2 _) (by decide) rfl ?_
          refine j_goto C d_qm_isTree_102 (tgt := 157) (by decide) ?_
          refine j_goto C d_qm_isTree_157 (tgt := 33) (by decide) ?_
          refine J.loc (lv' := [(0, .ref (kq (gK Γ) 18)), (3, .int ((x3 - (1 : Int32)) + (2 : Int32))), (4, .int (x4 + (1 : Int32)))]) [4, 0, 1] rfl ?_
          exact ih (qm_t_treeLeft (qm_t_treeLeft σ (x3 - (1 : Int32)) r13) ((x3 - (1 : Int32)) + (1 : Int32)) r16) ((x3 - (1 : Int32)) + (2 : Int32)) (x4 + (1 : Int32))
        · refine J.neg shO c_12 ?_
          refine j_iconst C d_qm_isTree_71 rfl kc_i_0 ?_
          exact j_zret C rfl d_qm_isTree_72
theorem w_qm_isTree_L2 {Γ : cx_T} (C : cx_C Γ (qm_w (gK Γ)) qcl qm_R qm_isTree_c 8 (some .boolean) (3, 65)) (N : Nat) : ∀ (k : Nat) (σ : qm_S) (x1 : Int64) (x3 : Int32), J Γ (qm_w (gK Γ)) qcl (QF Γ (qm_w (gK Γ)) qcl ovI) (shO (qm_isTree_L2 N k σ x1 x3)) σ 2 [(0, .ref (kq (gK Γ) 18)), (1, .long x1), (3, .int x3)] [] := by
  intro k
  induction k with
  | zero => intro σ x1 x3; exact J.none rfl
  | succ k ih =>
    intro σ x1 x3
    rw [qm_isTree_L2]
    refine j_iload_n C d_qm_isTree_2 rfl 2 rfl ?_
    refine j_bipush C d_qm_isTree_3 rfl kc_b_100 ?_
    refine j_icmp_ge C d_qm_isTree_5 (tgt := 21) (by decide) rfl (fun c_1 => ?_) (fun c_1 => ?_)
    · refine J.pos shO c_1 ?_
      refine j_iconst C d_qm_isTree_21 rfl kc_i_1 ?_
      refine j_istore_n C (lv' := [(3, .int (1 : Int32)), (0, .ref (kq (gK Γ) 18)), (1, .long x1)]) d_qm_isTree_22 rfl rfl (by decide) rfl ?_
      refine j_iconst C d_qm_isTree_23 rfl kc_i_0 ?_
      refine j_istore C (lv' := [(4, .int (0 : Int32)), (3, .int (1 : Int32)), (0, .ref (kq (gK Γ) 18)), (1, .long x1)]) d_qm_isTree_24 rfl (by decide) rfl ?_
      refine j_aload_n C d_qm_isTree_26 rfl 2 rfl ?_
      refine qm_r_treeLeft C k_872 d_qm_isTree_27 rfl ?_
      refine j_iconst C d_qm_isTree_30 rfl kc_i_0 ?_
      refine j_lload_n C d_qm_isTree_31 rfl 3 rfl ?_
      refine qm_a_treeLeft C (vp_in_nI (n := 0) (N := 204) (Nat.le_of_ble_eq_true rfl) (Nat.le_of_ble_eq_true rfl)) d_qm_isTree_32 rfl ?_
      refine J.loc (lv' := [(0, .ref (kq (gK Γ) 18)), (3, .int (1 : Int32)), (4, .int (0 : Int32))]) [2, 1, 0] rfl ?_
      exact w_qm_isTree_L33 C N N (qm_t_treeLeft σ (0 : Int32) x1) (1 : Int32) (0 : Int32)
    · refine J.neg shO c_1 ?_
      refine j_aload_n C d_qm_isTree_8 rfl 0 rfl ?_
      refine qm_r_isSeen C k_874 d_qm_isTree_9 rfl ?_
      refine j_iload_n C d_qm_isTree_12 rfl 2 rfl ?_
      refine j_iconst C d_qm_isTree_13 rfl kc_i_0 ?_
      refine J.inO (fun h_2 => ?_)
      refine qm_a_isSeen C (inb_in h_2) d_qm_isTree_14 rfl ?_
      refine j_iinc C (v := (x3 + (1 : Int32))) (lv' := [(3, .int (x3 + (1 : Int32))), (0, .ref (kq (gK Γ) 18)), (1, .long x1)]) d_qm_isTree_15 rfl 2 rfl (kc_inc_1 _) (by decide) rfl ?_
      refine j_goto C d_qm_isTree_18 (tgt := 2) (by decide) ?_
      refine J.loc (lv' := [(0, .ref (kq (gK Γ) 18)), (1, .long x1), (3, .int (x3 + (1 : Int32)))]) [1, 2, 0] rfl ?_
      exact ih (qm_t_isSeen σ x3 (0 : Int32)) x1 (x3 + (1 : Int32))
theorem w_qm_isTree {Γ : cx_T} (C : cx_C Γ (qm_w (gK Γ)) qcl qm_R qm_isTree_c 8 (some .boolean) (3, 65)) (N : Nat) (σ : qm_S) (a1 : Int64) : J Γ (qm_w (gK Γ)) qcl (QF Γ (qm_w (gK Γ)) qcl ovI) (shO (qm_isTree N σ a1)) σ 0 [(0, .ref (kq (gK Γ) 18)), (1, .long a1)] [] := by
  unfold qm_isTree
  refine j_iconst C d_qm_isTree_0 rfl kc_i_0 ?_
  refine j_istore_n C (lv' := [(3, .int (0 : Int32)), (0, .ref (kq (gK Γ) 18)), (1, .long a1)]) d_qm_isTree_1 rfl rfl (by decide) rfl ?_
  refine J.loc (lv' := [(0, .ref (kq (gK Γ) 18)), (1, .long a1), (3, .int (0 : Int32))]) [1, 2, 0] rfl ?_
  exact w_qm_isTree_L2 C N N σ a1 (0 : Int32)
theorem mc_qm_isTree (l : Launch) (K : kk_T) (N : Nat) (σ : qm_S) (a1 : Int64) (r : Int32 × qm_S) (h : qm_isTree N σ a1 = some r) : MC l qm_isTree_y qm_isTree_c 8 (some .boolean) (3, 65) K (qm_w K) qcl σ [.ref (kq K 18), .long a1] (some (.int r.1)) r.2 := mc_of (ov := ovI) (X := shO (qm_isTree N σ a1)) (by decide +kernel) (Nat.le_of_ble_eq_true rfl) (fun _ => rfl) (by rw [h]; rfl) (fun Γ e1 e2 C => by subst e1; subst e2; exact w_qm_isTree C N σ a1)
theorem qm_isTree_I : ck_V qm_isTree_y qm_isTree_c 8 (some .boolean) 1 := ⟨k_1152, k_102, by decide +kernel, k_1151, k_82⟩
theorem w_qm_matches_L22 {Γ : cx_T} (C : cx_C Γ (qm_w (gK Γ)) qcl qm_R qm_matches_c 11 (some .boolean) (3, 65)) (N : Nat) : ∀ (k : Nat) (σ : qm_S) (x5 : Int32), J Γ (qm_w (gK Γ)) qcl (QF Γ (qm_w (gK Γ)) qcl ovI) (shO (qm_matches_L22 N k σ x5)) σ 22 [(0, .ref (kq (gK Γ) 18)), (5, .int x5)] [] := by
  intro k
  induction k with
  | zero => intro σ x5; exact J.none rfl
  | succ k ih =>
    intro σ x5
    rw [qm_matches_L22]
    refine j_iload C d_qm_matches_22 rfl 1 rfl ?_
    refine j_if_le C d_qm_matches_24 (tgt := 187) (by decide) rfl (fun c_1 => ?_) (fun c_1 => ?_)
    · refine J.pos shO c_1 ?_
      refine j_iconst C d_qm_matches_187 rfl kc_i_1 ?_
      exact j_zret C rfl d_qm_matches_188
    · refine J.neg shO c_1 ?_
      refine j_iinc C (v := (x5 - (1 : Int32))) (lv' := [(5, .int (x5 - (1 : Int32))), (0, .ref (kq (gK Γ) 18))]) d_qm_matches_27 rfl 1 rfl (kc_inc_m1 _) (by decide) rfl ?_
      refine j_aload_n C d_qm_matches_30 rfl 1 rfl ?_
      refine qm_r_treeLeft C k_872 d_qm_matches_31 rfl ?_
      refine j_iload C d_qm_matches_34 rfl 0 rfl ?_
      refine J.inO (fun h_2 => ?_)
      refine qm_l_treeLeft C (inb_in h_2) d_qm_matches_36 rfl rfl ?_
      refine j_lstore C (lv' := [(6, .long (qm_g_treeLeft σ (Int32.toNatClampNeg (x5 - (1 : Int32))))), (5, .int (x5 - (1 : Int32))), (0, .ref (kq (gK Γ) 18))]) d_qm_matches_37 rfl (by decide) rfl ?_
      refine j_aload_n C d_qm_matches_39 rfl 2 rfl ?_
      refine qm_r_matchLeft C k_873 d_qm_matches_40 rfl ?_
      refine j_iload C d_qm_matches_43 rfl 1 rfl ?_
      refine J.inO (fun h_3 => ?_)
      refine qm_l_matchLeft C (inb_in h_3) d_qm_matches_45 rfl rfl ?_
      refine j_lstore C (lv' := [(8, .long (qm_g_matchLeft σ (Int32.toNatClampNeg (x5 - (1 : Int32))))), (6, .long (qm_g_treeLeft σ (Int32.toNatClampNeg (x5 - (1 : Int32))))), (5, .int (x5 - (1 : Int32))), (0, .ref (kq (gK Γ) 18))]) d_qm_matches_46 rfl (by decide) rfl ?_
      refine j_lload C d_qm_matches_48 rfl 1 rfl ?_
      refine cs_qm C (mc_qm_kindOf (gl Γ) (gK Γ) (qm_g_treeLeft σ (Int32.toNatClampNeg (x5 - (1 : Int32))))) qm_kindOf_I k_1000 (by decide) d_qm_matches_50 rfl (rest := []) rfl (Nat.le_of_ble_eq_true rfl) ?_
      refine j_istore C (lv' := [(10, .int (qm_kindOf (qm_g_treeLeft σ (Int32.toNatClampNeg (x5 - (1 : Int32)))))), (8, .long (qm_g_matchLeft σ (Int32.toNatClampNeg (x5 - (1 : Int32))))), (6, .long (qm_g_treeLeft σ (Int32.toNatClampNeg (x5 - (1 : Int32))))), (5, .int (x5 - (1 : Int32))), (0, .ref (kq (gK Γ) 18))]) d_qm_matches_53 rfl (by decide) rfl ?_
      refine j_iload C d_qm_matches_55 rfl 0 rfl ?_
      refine j_iconst C d_qm_matches_57 rfl kc_i_2 ?_
      refine j_icmp_ne C d_qm_matches_58 (tgt := 100) (by decide) rfl (fun c_4 => ?_) (fun c_4 => ?_)
      · refine J.neg shO c_4 ?_
        refine j_iload C d_qm_matches_100 rfl 0 rfl ?_
        refine j_bipush C d_qm_matches_102 rfl kc_b_8 ?_
        refine j_icmp_eq C d_qm_matches_104 (tgt := 119) (by decide) rfl (fun c_5 => ?_) (fun c_5 => ?_)
        · refine J.pos shO c_5 ?_
          refine j_iload C d_qm_matches_119 rfl 0 rfl ?_
          refine j_iconst C d_qm_matches_121 rfl kc_i_4 ?_
          refine j_icmp_ne C d_qm_matches_122 (tgt := 184) (by decide) rfl (fun c_6 => ?_) (fun c_6 => ?_)
          · refine J.neg shO c_6 ?_
            refine j_goto C d_qm_matches_184 (tgt := 22) (by decide) ?_
            refine J.loc (lv' := [(0, .ref (kq (gK Γ) 18)), (5, .int (x5 - (1 : Int32)))]) [4, 3] rfl ?_
            exact ih σ (x5 - (1 : Int32))
          · refine J.pos shO c_6 ?_
            refine j_aload_n C d_qm_matches_125 rfl 4 rfl ?_
            refine qm_r_treeLeft C k_872 d_qm_matches_126 rfl ?_
            refine j_iload C d_qm_matches_129 rfl 3 rfl ?_
            refine j_aload_n C d_qm_matches_131 rfl 4 rfl ?_
            refine j_lload C d_qm_matches_132 rfl 2 rfl ?_
            refine J.goO (fun r7 h_8 => ?_)
            refine cvr_qm_qm C (mc_qm_cdrOf (gl Γ) (gK Γ) σ (qm_g_treeLeft σ (Int32.toNatClampNeg (x5 - (1 : Int32)))) r7 h_8) qm_cdrOf_I k_1015 (by decide) d_qm_matches_134 rfl (rest := [.int (x5 - (1 : Int32)), .ref (kq (gK Γ) 35)]) rfl ⟨rfl, Nat.le_of_ble_eq_true rfl⟩ ?_
            refine J.inO (fun h_9 => ?_)
            refine qm_a_treeLeft C (inb_in h_9) d_qm_matches_137 rfl ?_
            refine j_aload_n C d_qm_matches_138 rfl 4 rfl ?_
            refine qm_r_matchLeft C k_873 d_qm_matches_139 rfl ?_
            refine j_iload C d_qm_matches_142 rfl 3 rfl ?_
            refine j_aload_n C d_qm_matches_144 rfl 4 rfl ?_
            refine j_lload C d_qm_matches_145 rfl 1 rfl ?_
            refine J.goO (fun r10 h_11 => ?_)
            refine cvr_qm_qm C (mc_qm_cdrOf (gl Γ) (gK Γ) (qm_t_treeLeft σ (x5 - (1 : Int32)) r7) (qm_g_matchLeft σ (Int32.toNatClampNeg (x5 - (1 : Int32)))) r10 h_11) qm_cdrOf_I k_1015 (by decide) d_qm_matches_147 rfl (rest := [.int (x5 - (1 : Int32)), .ref (kq (gK Γ) 36)]) rfl ⟨rfl, Nat.le_of_ble_eq_true rfl⟩ ?_
            refine J.inO (fun h_12 => ?_)
            refine qm_a_matchLeft C (inb_in h_12) d_qm_matches_150 rfl ?_
            refine j_aload_n C d_qm_matches_151 rfl 4 rfl ?_
            refine qm_r_treeLeft C k_872 d_qm_matches_152 rfl ?_
            refine j_iload C d_qm_matches_155 rfl 3 rfl ?_
            refine j_iconst C d_qm_matches_157 rfl kc_i_1 ?_
            refine j_iadd C d_qm_matches_158 rfl ?_
            refine j_aload_n C d_qm_matches_159 rfl 4 rfl ?_
            refine j_lload C d_qm_matches_160 rfl 2 rfl ?_
            refine J.goO (fun r13 h_14 => ?_)
            refine cvr_qm_qm C (mc_qm_carOf (gl Γ) (gK Γ) (qm_t_matchLeft (qm_t_treeLeft σ (x5 - (1 : Int32)) r7) (x5 - (1 : Int32)) r10) (qm_g_treeLeft σ (Int32.toNatClampNeg (x5 - (1 : Int32)))) r13 h_14) qm_carOf_I k_1004 (by decide) d_qm_matches_162 rfl (rest := [.int ((x5 - (1 : Int32)) + (1 : Int32)), .ref (kq (gK Γ) 35)]) rfl ⟨rfl, Nat.le_of_ble_eq_true rfl⟩ ?_
            refine J.inO (fun h_15 => ?_)
            refine qm_a_treeLeft C (inb_in h_15) d_qm_matches_165 rfl ?_
            refine j_aload_n C d_qm_matches_166 rfl 4 rfl ?_
            refine qm_r_matchLeft C k_873 d_qm_matches_167 rfl ?_
            refine j_iload C d_qm_matches_170 rfl 3 rfl ?_
            refine j_iconst C d_qm_matches_172 rfl kc_i_1 ?_
            refine j_iadd C d_qm_matches_173 rfl ?_
            refine j_aload_n C d_qm_matches_174 rfl 4 rfl ?_
            refine j_lload C d_qm_matches_175 rfl 1 rfl ?_
            refine J.goO (fun r16 h_17 => ?_)
            refine cvr_qm_qm C (mc_qm_carOf (gl Γ) (gK Γ) (qm_t_treeLeft (qm_t_matchLeft (qm_t_treeLeft σ (x5 - (1 : Int32)) r7) (x5 - (1 : Int32)) r10) ((x5 - (1 : Int32)) + (1 : Int32)) r13) (qm_g_matchLeft σ (Int32.toNatClampNeg (x5 - (1 : Int32)))) r16 h_17) qm_carOf_I k_1004 (by decide) d_qm_matches_177 rfl (rest := [.int ((x5 - (1 : Int32)) + (1 : Int32)), .ref (kq (gK Γ) 36)]) rfl ⟨rfl, Nat.le_of_ble_eq_true rfl⟩ ?_
            refine J.inO (fun h_18 => ?_)
            refine qm_a_matchLeft C (inb_in h_18) d_qm_matches_180 rfl ?_
            refine j_iinc C (v := ((x5 - (1 : Int32)) + (2 : Int32))) (lv' := [(5, .int ((x5 - (1 : Int32)) + (2 : Int32))), (10, .int (qm_kindOf (qm_g_treeLeft σ (Int32.toNatClampNeg (x5 - (1 : Int32)))))), (8, .long (qm_g_matchLeft σ (Int32.toNatClampNeg (x5 - (1 : Int32))))), (6, .long (qm_g_treeLeft σ (Int32.toNatClampNeg (x5 - (1 : Int32))))), (0, .ref (kq (gK Γ) 18))]) d_qm_matches_181 rfl 3 rfl (kc_inc_2 _) (by decide) rfl ?_
            refine j_goto C d_qm_matches_184 (tgt := 22) (by decide) ?_
            refine J.loc (lv' := [(0, .ref (kq (gK Γ) 18)), (5, .int ((x5 - (1 : Int32)) + (2 : Int32)))]) [4, 0] rfl ?_
            exact ih (qm_t_matchLeft (qm_t_treeLeft (qm_t_matchLeft (qm_t_treeLeft σ (x5 - (1 : Int32)) r7) (x5 - (1 : Int32)) r10) ((x5 - (1 : Int32)) + (1 : Int32)) r13) ((x5 - (1 : Int32)) + (1 : Int32)) r16) ((x5 - (1 : Int32)) + (2 : Int32))
        · refine J.neg shO c_5 ?_
          refine j_iload C d_qm_matches_107 rfl 0 rfl ?_
          refine j_lload C d_qm_matches_109 rfl 1 rfl ?_
          refine cs_qm C (mc_qm_kindOf (gl Γ) (gK Γ) (qm_g_matchLeft σ (Int32.toNatClampNeg (x5 - (1 : Int32))))) qm_kindOf_I k_1000 (by decide) d_qm_matches_111 rfl (rest := [.int (qm_kindOf (qm_g_treeLeft σ (Int32.toNatClampNeg (x5 - (1 : Int32)))))]) rfl (Nat.le_of_ble_eq_true rfl) ?_
          refine j_icmp_eq C d_qm_matches_114 (tgt := 119) (by decide) rfl (fun c_19 => ?_) (fun c_19 => ?_)
          · refine J.pos shO c_19 ?_
            refine j_iload C d_qm_matches_119 rfl 0 rfl ?_
            refine j_iconst C d_qm_matches_121 rfl kc_i_4 ?_
            refine j_icmp_ne C d_qm_matches_122 (tgt := 184) (by decide) rfl (fun c_20 => ?_) (fun c_20 => ?_)
            · refine J.neg shO c_20 ?_
              refine j_goto C d_qm_matches_184 (tgt := 22) (by decide) ?_
              refine J.loc (lv' := [(0, .ref (kq (gK Γ) 18)), (5, .int (x5 - (1 : Int32)))]) [4, 3] rfl ?_
              exact ih σ (x5 - (1 : Int32))
            · refine J.pos shO c_20 ?_
              refine j_aload_n C d_qm_matches_125 rfl 4 rfl ?_
              refine qm_r_treeLeft C k_872 d_qm_matches_126 rfl ?_
              refine j_iload C d_qm_matches_129 rfl 3 rfl ?_
              refine j_aload_n C d_qm_matches_131 rfl 4 rfl ?_
              refine j_lload C d_qm_matches_132 rfl 2 rfl ?_
              refine J.goO (fun r21 h_22 => ?_)
              refine cvr_qm_qm C (mc_qm_cdrOf (gl Γ) (gK Γ) σ (qm_g_treeLeft σ (Int32.toNatClampNeg (x5 - (1 : Int32)))) r21 h_22) qm_cdrOf_I k_1015 (by decide) d_qm_matches_134 rfl (rest := [.int (x5 - (1 : Int32)), .ref (kq (gK Γ) 35)]) rfl ⟨rfl, Nat.le_of_ble_eq_true rfl⟩ ?_
              refine J.inO (fun h_23 => ?_)
              refine qm_a_treeLeft C (inb_in h_23) d_qm_matches_137 rfl ?_
              refine j_aload_n C d_qm_matches_138 rfl 4 rfl ?_
              refine qm_r_matchLeft C k_873 d_qm_matches_139 rfl ?_
              refine j_iload C d_qm_matches_142 rfl 3 rfl ?_
              refine j_aload_n C d_qm_matches_144 rfl 4 rfl ?_
              refine j_lload C d_qm_matches_145 rfl 1 rfl ?_
              refine J.goO (fun r24 h_25 => ?_)
              refine cvr_qm_qm C (mc_qm_cdrOf (gl Γ) (gK Γ) (qm_t_treeLeft σ (x5 - (1 : Int32)) r21) (qm_g_matchLeft σ (Int32.toNatClampNeg (x5 - (1 : Int32)))) r24 h_25) qm_cdrOf_I k_1015 (by decide) d_qm_matches_147 rfl (rest := [.int (x5 - (1 : Int32)), .ref (kq (gK Γ) 36)]) rfl ⟨rfl, Nat.le_of_ble_eq_true rfl⟩ ?_
              refine J.inO (fun h_26 => ?_)
              refine qm_a_matchLeft C (inb_in h_26) d_qm_matches_150 rfl ?_
              refine j_aload_n C d_qm_matches_151 rfl 4 rfl ?_
              refine qm_r_treeLeft C k_872 d_qm_matches_152 rfl ?_
              refine j_iload C d_qm_matches_155 rfl 3 rfl ?_
              refine j_iconst C d_qm_matches_157 rfl kc_i_1 ?_
              refine j_iadd C d_qm_matches_158 rfl ?_
              refine j_aload_n C d_qm_matches_159 rfl 4 rfl ?_
              refine j_lload C d_qm_matches_160 rfl 2 rfl ?_
              refine J.goO (fun r27 h_28 => ?_)
              refine cvr_qm_qm C (mc_qm_carOf (gl Γ) (gK Γ) (qm_t_matchLeft (qm_t_treeLeft σ (x5 - (1 : Int32)) r21) (x5 - (1 : Int32)) r24) (qm_g_treeLeft σ (Int32.toNatClampNeg (x5 - (1 : Int32)))) r27 h_28) qm_carOf_I k_1004 (by decide) d_qm_matches_162 rfl (rest := [.int ((x5 - (1 : Int32)) + (1 : Int32)), .ref (kq (gK Γ) 35)]) rfl ⟨rfl, Nat.le_of_ble_eq_true rfl⟩ ?_
              refine J.inO (fun h_29 => ?_)
              refine qm_a_treeLeft C (inb_in h_29) d_qm_matches_165 rfl ?_
              refine j_aload_n C d_qm_matches_166 rfl 4 rfl ?_
              refine qm_r_matchLeft C k_873 d_qm_matches_167 rfl ?_
              refine j_iload C d_qm_matches_170 rfl 3 rfl ?_
              refine j_iconst C d_qm_matches_172 rfl kc_i_1 ?_
              refine j_iadd C d_qm_matches_173 rfl ?_
              refine j_aload_n C d_qm_matches_174 rfl 4 rfl ?_
              refine j_lload C d_qm_matches_175 rfl 1 rfl ?_
              refine J.goO (fun r30 h_31 => ?_)
              refine cvr_qm_qm C (mc_qm_carOf (gl Γ) (gK Γ) (qm_t_treeLeft (qm_t_matchLeft (qm_t_treeLeft σ (x5 - (1 : Int32)) r21) (x5 - (1 : Int32)) r24) ((x5 - (1 : Int32)) + (1 : Int32)) r27) (qm_g_matchLeft σ (Int32.toNatClampNeg (x5 - (1 : Int32)))) r30 h_31) qm_carOf_I k_1004 (by decide) d_qm_matches_177 rfl (rest := [.int ((x5 - (1 : Int32)) + (1 : Int32)), .ref (kq (gK Γ) 36)]) rfl ⟨rfl, Nat.le_of_ble_eq_true rfl⟩ ?_
              refine J.inO (fun h_32 => ?_)
              refine qm_a_matchLeft C (inb_in h_32) d_qm_matches_180 rfl ?_
              refine j_iinc C (v := ((x5 - (1 : Int32)) + (2 : Int32))) (lv' := [(5, .int ((x5 - (1 : Int32)) + (2 : Int32))), (10, .int (qm_kindOf (qm_g_treeLeft σ (Int32.toNatClampNeg (x5 - (1 : Int32)))))), (8, .long (qm_g_matchLeft σ (Int32.toNatClampNeg (x5 - (1 : Int32))))), (6, .long (qm_g_treeLeft σ (Int32.toNatClampNeg (x5 - (1 : Int32))))), (0, .ref (kq (gK Γ) 18))]) d_qm_matches_181 rfl 3 rfl (kc_inc_2 _) (by decide) rfl ?_
              refine j_goto C d_qm_matches_184 (tgt := 22) (by decide) ?_
              refine J.loc (lv' := [(0, .ref (kq (gK Γ) 18)), (5, .int ((x5 - (1 : Int32)) + (2 : Int32)))]) [4, 0] rfl ?_
              exact ih (qm_t_matchLeft (qm_t_treeLeft (qm_t_matchLeft (qm_t_treeLeft σ (x5 - (1 : Int32)) r21) (x5 - (1 : Int32)) r24) ((x5 - (1 : Int32)) + (1 : Int32)) r27) ((x5 - (1 : Int32)) + (1 : Int32)) r30) ((x5 - (1 : Int32)) + (2 : Int32))
          · refine J.neg shO c_19 ?_
            refine j_iconst C d_qm_matches_117 rfl kc_i_0 ?_
            exact j_zret C rfl d_qm_matches_118
      · refine J.pos shO c_4 ?_
        refine j_aload_n C d_qm_matches_61 rfl 4 rfl ?_
        refine qm_r_boundSymbol C k_875 d_qm_matches_62 rfl ?_
        refine j_aload_n C d_qm_matches_65 rfl 4 rfl ?_
        refine qm_r_bound C k_877 d_qm_matches_66 rfl rfl ?_
        refine j_aload_n C d_qm_matches_69 rfl 4 rfl ?_
        refine j_lload C d_qm_matches_70 rfl 2 rfl ?_
        refine cvr_qm_qm C (mc_qm_indexOf (gl Γ) (gK Γ) σ (qm_g_treeLeft σ (Int32.toNatClampNeg (x5 - (1 : Int32))))) qm_indexOf_I k_1008 (by decide) d_qm_matches_72 rfl (rest := [.int (qm_g_bound σ), .ref (kq (gK Γ) 38)]) rfl ⟨rfl, Nat.le_of_ble_eq_true rfl⟩ ?_
        refine J.inO (fun h_33 => ?_)
        refine qm_a_boundSymbol C (inb_in h_33) d_qm_matches_75 rfl ?_
        refine j_aload_n C d_qm_matches_76 rfl 4 rfl ?_
        refine qm_r_boundValue C k_876 d_qm_matches_77 rfl ?_
        refine j_aload_n C d_qm_matches_80 rfl 4 rfl ?_
        refine qm_r_bound C k_877 d_qm_matches_81 rfl (x := (qm_g_bound σ)) (gs_qm_bound_t_boundSymbol _ _ _) ?_
        refine j_lload C d_qm_matches_84 rfl 1 rfl ?_
        refine J.inO (fun h_34 => ?_)
        refine qm_a_boundValue C (inb_in h_34) d_qm_matches_86 rfl ?_
        refine j_aload_n C d_qm_matches_87 rfl 4 rfl ?_
        refine j_dup C d_qm_matches_88 rfl rfl ?_
        refine qm_r_bound C k_877 d_qm_matches_89 rfl (x := (qm_g_bound σ)) ((gs_qm_bound_t_boundValue _ _ _).trans (gs_qm_bound_t_boundSymbol _ _ _)) ?_
        refine j_iconst C d_qm_matches_92 rfl kc_i_1 ?_
        refine j_iadd C d_qm_matches_93 rfl ?_
        refine qm_p_bound C k_877 d_qm_matches_94 rfl ?_
        refine j_goto C d_qm_matches_97 (tgt := 184) (by decide) ?_
        refine j_goto C d_qm_matches_184 (tgt := 22) (by decide) ?_
        refine J.loc (lv' := [(0, .ref (kq (gK Γ) 18)), (5, .int (x5 - (1 : Int32)))]) [4, 3] rfl ?_
        exact ih (qm_s_bound (qm_t_boundValue (qm_t_boundSymbol σ (qm_g_bound σ) (qm_indexOf σ (qm_g_treeLeft σ (Int32.toNatClampNeg (x5 - (1 : Int32)))))) (qm_g_bound σ) (qm_g_matchLeft σ (Int32.toNatClampNeg (x5 - (1 : Int32))))) ((qm_g_bound σ) + (1 : Int32))) (x5 - (1 : Int32))
theorem w_qm_matches {Γ : cx_T} (C : cx_C Γ (qm_w (gK Γ)) qcl qm_R qm_matches_c 11 (some .boolean) (3, 65)) (N : Nat) (σ : qm_S) (a1 : Int64) (a3 : Int64) : J Γ (qm_w (gK Γ)) qcl (QF Γ (qm_w (gK Γ)) qcl ovI) (shO (qm_matches N σ a1 a3)) σ 0 [(0, .ref (kq (gK Γ) 18)), (1, .long a1), (3, .long a3)] [] := by
  unfold qm_matches
  refine j_iconst C d_qm_matches_0 rfl kc_i_1 ?_
  refine j_istore C (lv' := [(5, .int (1 : Int32)), (0, .ref (kq (gK Γ) 18)), (1, .long a1), (3, .long a3)]) d_qm_matches_1 rfl (by decide) rfl ?_
  refine j_aload_n C d_qm_matches_3 rfl 1 rfl ?_
  refine qm_r_treeLeft C k_872 d_qm_matches_4 rfl ?_
  refine j_iconst C d_qm_matches_7 rfl kc_i_0 ?_
  refine j_lload_n C d_qm_matches_8 rfl 2 rfl ?_
  refine qm_a_treeLeft C (vp_in_nI (n := 0) (N := 204) (Nat.le_of_ble_eq_true rfl) (Nat.le_of_ble_eq_true rfl)) d_qm_matches_9 rfl ?_
  refine j_aload_n C d_qm_matches_10 rfl 1 rfl ?_
  refine qm_r_matchLeft C k_873 d_qm_matches_11 rfl ?_
  refine j_iconst C d_qm_matches_14 rfl kc_i_0 ?_
  refine j_lload_n C d_qm_matches_15 rfl 3 rfl ?_
  refine qm_a_matchLeft C (vp_in_nI (n := 0) (N := 204) (Nat.le_of_ble_eq_true rfl) (Nat.le_of_ble_eq_true rfl)) d_qm_matches_16 rfl ?_
  refine j_aload_n C d_qm_matches_17 rfl 1 rfl ?_
  refine j_iconst C d_qm_matches_18 rfl kc_i_0 ?_
  refine qm_p_bound C k_877 d_qm_matches_19 rfl ?_
  refine J.loc (lv' := [(0, .ref (kq (gK Γ) 18)), (5, .int (1 : Int32))]) [1, 0] rfl ?_
  exact w_qm_matches_L22 C N N (qm_s_bound (qm_t_matchLeft (qm_t_treeLeft σ (0 : Int32) a1) (0 : Int32) a3) (0 : Int32)) (1 : Int32)
theorem mc_qm_matches (l : Launch) (K : kk_T) (N : Nat) (σ : qm_S) (a1 : Int64) (a3 : Int64) (r : Int32 × qm_S) (h : qm_matches N σ a1 a3 = some r) : MC l qm_matches_y qm_matches_c 11 (some .boolean) (3, 65) K (qm_w K) qcl σ [.ref (kq K 18), .long a1, .long a3] (some (.int r.1)) r.2 := mc_of (ov := ovI) (X := shO (qm_matches N σ a1 a3)) (by decide +kernel) (Nat.le_of_ble_eq_true rfl) (fun _ => rfl) (by rw [h]; rfl) (fun Γ e1 e2 C => by subst e1; subst e2; exact w_qm_matches C N σ a1 a3)
theorem qm_matches_I : ck_V qm_matches_y qm_matches_c 11 (some .boolean) 2 := ⟨k_1198, k_102, by decide +kernel, k_1197, k_91⟩
theorem w_qm_combinesCompound_L61 {Γ : cx_T} (C : cx_C Γ (qm_w (gK Γ)) qcl qm_R qm_combinesCompound_c 7 (some .int) (4, 95)) (N : Nat) : ∀ (k : Nat) (σ : qm_S) (x1 : Int32) (x2 : Int64) (x4 : Int64) (x6 : Int32), J Γ (qm_w (gK Γ)) qcl (QF Γ (qm_w (gK Γ)) qcl ovI) (shO (qm_combinesCompound_L61 N k σ x1 x2 x4 x6)) σ 61 [(0, .ref (kq (gK Γ) 18)), (1, .int x1), (2, .long x2), (4, .long x4), (6, .int x6)] [] := by
  intro k
  induction k with
  | zero => intro σ x1 x2 x4 x6; exact J.none rfl
  | succ k ih =>
    intro σ x1 x2 x4 x6
    rw [qm_combinesCompound_L61]
    refine j_iload C d_qm_combinesCompound_61 rfl 4 rfl ?_
    refine j_aload_n C d_qm_combinesCompound_63 rfl 0 rfl ?_
    refine qm_r_bound C k_877 d_qm_combinesCompound_64 rfl rfl ?_
    refine j_icmp_ge C d_qm_combinesCompound_67 (tgt := 102) (by decide) rfl (fun c_10 => ?_) (fun c_10 => ?_)
    · refine J.pos shO c_10 ?_
      refine j_lload_n C d_qm_combinesCompound_102 rfl 2 rfl ?_
      refine cs_qm C (mc_qm_kindOf (gl Γ) (gK Γ) x2) qm_kindOf_I k_1000 (by decide) d_qm_combinesCompound_103 rfl (rest := []) rfl (Nat.le_of_ble_eq_true rfl) ?_
      refine j_iconst C d_qm_combinesCompound_106 rfl kc_i_2 ?_
      refine j_icmp_ne C d_qm_combinesCompound_107 (tgt := 131) (by decide) rfl (fun c_11 => ?_) (fun c_11 => ?_)
      · refine J.neg shO c_11 ?_
        refine j_aload_n C d_qm_combinesCompound_131 rfl 0 rfl ?_
        refine j_aload_n C d_qm_combinesCompound_132 rfl 0 rfl ?_
        refine qm_r_third C k_845 d_qm_combinesCompound_133 rfl ?_
        refine j_iload_n C d_qm_combinesCompound_136 rfl 1 rfl ?_
        refine J.inO (fun h_12 => ?_)
        refine qm_l_third C (inb_in h_12) d_qm_combinesCompound_137 rfl rfl ?_
        refine j_lload C d_qm_combinesCompound_138 rfl 3 rfl ?_
        refine cv_qm_qm C (mc_qm_goesTo (gl Γ) (gK Γ) σ (qm_g_third σ (Int32.toNatClampNeg x1)) x4) qm_goesTo_I k_1101 (by decide) d_qm_combinesCompound_140 rfl (rest := []) rfl ⟨rfl, Nat.le_of_ble_eq_true rfl⟩ ?_
        exact j_iret C d_qm_combinesCompound_143
      · refine J.pos shO c_11 ?_
        refine j_aload_n C d_qm_combinesCompound_110 rfl 0 rfl ?_
        refine j_lload C d_qm_combinesCompound_111 rfl 3 rfl ?_
        refine j_aload_n C d_qm_combinesCompound_113 rfl 0 rfl ?_
        refine j_lload_n C d_qm_combinesCompound_114 rfl 2 rfl ?_
        refine cvr_qm_qm C (mc_qm_indexOf (gl Γ) (gK Γ) σ x2) qm_indexOf_I k_1008 (by decide) d_qm_combinesCompound_115 rfl (rest := [.long x4, .ref (kq (gK Γ) 18)]) rfl ⟨rfl, Nat.le_of_ble_eq_true rfl⟩ ?_
        refine j_aload_n C d_qm_combinesCompound_118 rfl 0 rfl ?_
        refine qm_r_around C k_863 d_qm_combinesCompound_119 rfl rfl ?_
        refine J.goO (fun r13 h_14 => ?_)
        refine cv_qm_qm C (mc_qm_binds (gl Γ) (gK Γ) N σ x4 (qm_indexOf σ x2) (qm_g_around σ) r13 h_14) qm_binds_I k_1199 (by decide) d_qm_combinesCompound_122 rfl (rest := []) rfl ⟨rfl, Nat.le_of_ble_eq_true rfl⟩ ?_
        refine j_if_ne C d_qm_combinesCompound_125 (tgt := 131) (by decide) rfl (fun c_15 => ?_) (fun c_15 => ?_)
        · refine J.neg shO c_15 ?_
          refine j_aload_n C d_qm_combinesCompound_131 rfl 0 rfl ?_
          refine j_aload_n C d_qm_combinesCompound_132 rfl 0 rfl ?_
          refine qm_r_third C k_845 d_qm_combinesCompound_133 rfl ?_
          refine j_iload_n C d_qm_combinesCompound_136 rfl 1 rfl ?_
          refine J.inO (fun h_16 => ?_)
          refine qm_l_third C (inb_in h_16) d_qm_combinesCompound_137 rfl rfl ?_
          refine j_lload C d_qm_combinesCompound_138 rfl 3 rfl ?_
          refine cv_qm_qm C (mc_qm_goesTo (gl Γ) (gK Γ) r13.2 (qm_g_third r13.2 (Int32.toNatClampNeg x1)) x4) qm_goesTo_I k_1101 (by decide) d_qm_combinesCompound_140 rfl (rest := []) rfl ⟨rfl, Nat.le_of_ble_eq_true rfl⟩ ?_
          exact j_iret C d_qm_combinesCompound_143
        · refine J.pos shO c_15 ?_
          refine j_bipush C d_qm_combinesCompound_128 rfl kc_b_m5 ?_
          exact j_iret C d_qm_combinesCompound_130
    · refine J.neg shO c_10 ?_
      refine j_aload_n C d_qm_combinesCompound_70 rfl 0 rfl ?_
      refine j_lload C d_qm_combinesCompound_71 rfl 3 rfl ?_
      refine j_aload_n C d_qm_combinesCompound_73 rfl 0 rfl ?_
      refine qm_r_boundSymbol C k_875 d_qm_combinesCompound_74 rfl ?_
      refine j_iload C d_qm_combinesCompound_77 rfl 4 rfl ?_
      refine J.inO (fun h_17 => ?_)
      refine qm_l_boundSymbol C (inb_in h_17) d_qm_combinesCompound_79 rfl rfl ?_
      refine j_aload_n C d_qm_combinesCompound_80 rfl 0 rfl ?_
      refine qm_r_boundValue C k_876 d_qm_combinesCompound_81 rfl ?_
      refine j_iload C d_qm_combinesCompound_84 rfl 4 rfl ?_
      refine J.inO (fun h_18 => ?_)
      refine qm_l_boundValue C (inb_in h_18) d_qm_combinesCompound_86 rfl rfl ?_
      refine J.goO (fun r19 h_20 => ?_)
      refine cv_qm_qm C (mc_qm_binds (gl Γ) (gK Γ) N σ x4 (qm_g_boundSymbol σ (Int32.toNatClampNeg x6)) (qm_g_boundValue σ (Int32.toNatClampNeg x6)) r19 h_20) qm_binds_I k_1199 (by decide) d_qm_combinesCompound_87 rfl (rest := []) rfl ⟨rfl, Nat.le_of_ble_eq_true rfl⟩ ?_
      refine j_if_ne C d_qm_combinesCompound_90 (tgt := 96) (by decide) rfl (fun c_21 => ?_) (fun c_21 => ?_)
      · refine J.neg shO c_21 ?_
        refine j_iinc C (v := (x6 + (1 : Int32))) (lv' := [(6, .int (x6 + (1 : Int32))), (0, .ref (kq (gK Γ) 18)), (1, .int x1), (2, .long x2), (4, .long x4)]) d_qm_combinesCompound_96 rfl 4 rfl (kc_inc_1 _) (by decide) rfl ?_
        refine j_goto C d_qm_combinesCompound_99 (tgt := 61) (by decide) ?_
        refine J.loc (lv' := [(0, .ref (kq (gK Γ) 18)), (1, .int x1), (2, .long x2), (4, .long x4), (6, .int (x6 + (1 : Int32)))]) [1, 2, 3, 4, 0] rfl ?_
        exact ih r19.2 x1 x2 x4 (x6 + (1 : Int32))
      · refine J.pos shO c_21 ?_
        refine j_bipush C d_qm_combinesCompound_93 rfl kc_b_m5 ?_
        exact j_iret C d_qm_combinesCompound_95
theorem w_qm_combinesCompound {Γ : cx_T} (C : cx_C Γ (qm_w (gK Γ)) qcl qm_R qm_combinesCompound_c 7 (some .int) (4, 95)) (N : Nat) (σ : qm_S)  : J Γ (qm_w (gK Γ)) qcl (QF Γ (qm_w (gK Γ)) qcl ovI) (shO (qm_combinesCompound N σ)) σ 0 [(0, .ref (kq (gK Γ) 18))] [] := by
  unfold qm_combinesCompound
  refine j_aload_n C d_qm_combinesCompound_0 rfl 0 rfl ?_
  refine j_aload_n C d_qm_combinesCompound_1 rfl 0 rfl ?_
  refine qm_r_now C k_861 d_qm_combinesCompound_2 rfl rfl ?_
  refine cvr_qm_qm C (mc_qm_indexOf (gl Γ) (gK Γ) σ (qm_g_now σ)) qm_indexOf_I k_1008 (by decide) d_qm_combinesCompound_5 rfl (rest := []) rfl ⟨rfl, Nat.le_of_ble_eq_true rfl⟩ ?_
  refine j_istore_n C (lv' := [(1, .int (qm_indexOf σ (qm_g_now σ))), (0, .ref (kq (gK Γ) 18))]) d_qm_combinesCompound_8 rfl rfl (by decide) rfl ?_
  refine j_aload_n C d_qm_combinesCompound_9 rfl 1 rfl ?_
  refine qm_r_second C k_844 d_qm_combinesCompound_10 rfl ?_
  refine j_iload_n C d_qm_combinesCompound_13 rfl 0 rfl ?_
  refine J.inO (fun h_1 => ?_)
  refine qm_l_second C (inb_in h_1) d_qm_combinesCompound_14 rfl rfl ?_
  refine j_lstore_n C (lv' := [(2, .long (qm_g_second σ (Int32.toNatClampNeg (qm_indexOf σ (qm_g_now σ))))), (1, .int (qm_indexOf σ (qm_g_now σ))), (0, .ref (kq (gK Γ) 18))]) d_qm_combinesCompound_15 rfl rfl (by decide) rfl ?_
  refine j_aload_n C d_qm_combinesCompound_16 rfl 2 rfl ?_
  refine j_aload_n C d_qm_combinesCompound_17 rfl 2 rfl ?_
  refine qm_r_first C k_843 d_qm_combinesCompound_18 rfl ?_
  refine j_iload_n C d_qm_combinesCompound_21 rfl 1 rfl ?_
  refine J.inO (fun h_2 => ?_)
  refine qm_l_first C (inb_in h_2) d_qm_combinesCompound_22 rfl rfl ?_
  refine j_aload_n C d_qm_combinesCompound_23 rfl 2 rfl ?_
  refine qm_r_operands C k_862 d_qm_combinesCompound_24 rfl rfl ?_
  refine J.goO (fun r3 h_4 => ?_)
  refine cv_qm_qm C (mc_qm_matches (gl Γ) (gK Γ) N σ (qm_g_first σ (Int32.toNatClampNeg (qm_indexOf σ (qm_g_now σ)))) (qm_g_operands σ) r3 h_4) qm_matches_I k_1195 (by decide) d_qm_combinesCompound_27 rfl (rest := []) rfl ⟨rfl, Nat.le_of_ble_eq_true rfl⟩ ?_
  refine j_if_ne C d_qm_combinesCompound_30 (tgt := 36) (by decide) rfl (fun c_5 => ?_) (fun c_5 => ?_)
  · refine J.neg shO c_5 ?_
    refine j_aload_n C d_qm_combinesCompound_36 rfl 2 rfl ?_
    refine cvr_qm_qm C (mc_qm_isFull (gl Γ) (gK Γ) r3.2) qm_isFull_I k_1044 (by decide) d_qm_combinesCompound_37 rfl (rest := []) rfl ⟨rfl, Nat.le_of_ble_eq_true rfl⟩ ?_
    refine j_if_eq C d_qm_combinesCompound_40 (tgt := 46) (by decide) rfl (fun c_6 => ?_) (fun c_6 => ?_)
    · refine J.pos shO c_6 ?_
      refine j_aload_n C d_qm_combinesCompound_46 rfl 2 rfl ?_
      refine j_aload_n C d_qm_combinesCompound_47 rfl 2 rfl ?_
      refine qm_r_fourth C k_846 d_qm_combinesCompound_48 rfl ?_
      refine j_iload_n C d_qm_combinesCompound_51 rfl 1 rfl ?_
      refine J.inO (fun h_7 => ?_)
      refine qm_l_fourth C (inb_in h_7) d_qm_combinesCompound_52 rfl rfl ?_
      refine J.goO (fun r8 h_9 => ?_)
      refine cv_qm_qm C (mc_qm_addsEnvironment (gl Γ) (gK Γ) r3.2 (qm_g_fourth r3.2 (Int32.toNatClampNeg (qm_indexOf σ (qm_g_now σ)))) r8 h_9) qm_addsEnvironment_I k_1175 (by decide) d_qm_combinesCompound_53 rfl (rest := []) rfl ⟨rfl, Nat.le_of_ble_eq_true rfl⟩ ?_
      refine j_lstore C (lv' := [(4, .long r8.1), (2, .long (qm_g_second σ (Int32.toNatClampNeg (qm_indexOf σ (qm_g_now σ))))), (1, .int (qm_indexOf σ (qm_g_now σ))), (0, .ref (kq (gK Γ) 18))]) d_qm_combinesCompound_56 rfl (by decide) rfl ?_
      refine j_iconst C d_qm_combinesCompound_58 rfl kc_i_0 ?_
      refine j_istore C (lv' := [(6, .int (0 : Int32)), (4, .long r8.1), (2, .long (qm_g_second σ (Int32.toNatClampNeg (qm_indexOf σ (qm_g_now σ))))), (1, .int (qm_indexOf σ (qm_g_now σ))), (0, .ref (kq (gK Γ) 18))]) d_qm_combinesCompound_59 rfl (by decide) rfl ?_
      refine J.loc (lv' := [(0, .ref (kq (gK Γ) 18)), (1, .int (qm_indexOf σ (qm_g_now σ))), (2, .long (qm_g_second σ (Int32.toNatClampNeg (qm_indexOf σ (qm_g_now σ))))), (4, .long r8.1), (6, .int (0 : Int32))]) [4, 3, 2, 1, 0] rfl ?_
      exact w_qm_combinesCompound_L61 C N N r8.2 (qm_indexOf σ (qm_g_now σ)) (qm_g_second σ (Int32.toNatClampNeg (qm_indexOf σ (qm_g_now σ)))) r8.1 (0 : Int32)
    · refine J.neg shO c_6 ?_
      refine j_bipush C d_qm_combinesCompound_43 rfl kc_b_m5 ?_
      exact j_iret C d_qm_combinesCompound_45
  · refine J.pos shO c_5 ?_
    refine j_bipush C d_qm_combinesCompound_33 rfl kc_b_m8 ?_
    exact j_iret C d_qm_combinesCompound_35
theorem mc_qm_combinesCompound (l : Launch) (K : kk_T) (N : Nat) (σ : qm_S)  (r : Int32 × qm_S) (h : qm_combinesCompound N σ = some r) : MC l qm_combinesCompound_y qm_combinesCompound_c 7 (some .int) (4, 95) K (qm_w K) qcl σ [.ref (kq K 18)] (some (.int r.1)) r.2 := mc_of (ov := ovI) (X := shO (qm_combinesCompound N σ)) (by decide +kernel) (Nat.le_of_ble_eq_true rfl) (fun _ => rfl) (by rw [h]; rfl) (fun Γ e1 e2 C => by subst e1; subst e2; exact w_qm_combinesCompound C N σ)
theorem qm_combinesCompound_I : ck_V qm_combinesCompound_y qm_combinesCompound_c 7 (some .int) 0 := ⟨k_1194, k_102, by decide +kernel, k_1193, k_90⟩
theorem w_qm_makesOperative_B41 {Γ : cx_T} (C : cx_C Γ (qm_w (gK Γ)) qcl qm_R qm_makesOperative_c 10 (some .int) (4, 92)) (N : Nat) (σ : qm_S) (x1 : Int64) (x3 : Int64) (x5 : Int64) (x7 : Int32) : J Γ (qm_w (gK Γ)) qcl (QF Γ (qm_w (gK Γ)) qcl ovI) (shO (qm_makesOperative_B41 N σ x1 x3 x5 x7)) σ 41 [(0, .ref (kq (gK Γ) 18)), (1, .long x1), (3, .long x3), (5, .long x5), (7, .int x7)] [] := by
  unfold qm_makesOperative_B41
  refine j_aload_n C d_qm_makesOperative_41 rfl 0 rfl ?_
  refine cvr_qm_qm C (mc_qm_isFull (gl Γ) (gK Γ) σ) qm_isFull_I k_1044 (by decide) d_qm_makesOperative_42 rfl (rest := []) rfl ⟨rfl, Nat.le_of_ble_eq_true rfl⟩ ?_
  refine j_if_eq C d_qm_makesOperative_45 (tgt := 51) (by decide) rfl (fun c_8 => ?_) (fun c_8 => ?_)
  · refine J.pos shO c_8 ?_
    refine j_aload_n C d_qm_makesOperative_51 rfl 0 rfl ?_
    refine qm_r_third C k_845 d_qm_makesOperative_52 rfl ?_
    refine j_aload_n C d_qm_makesOperative_55 rfl 0 rfl ?_
    refine qm_r_objects C k_842 d_qm_makesOperative_56 rfl rfl ?_
    refine j_lload C d_qm_makesOperative_59 rfl 3 rfl ?_
    refine J.inO (fun h_9 => ?_)
    refine qm_a_third C (inb_in h_9) d_qm_makesOperative_61 rfl ?_
    refine j_aload_n C d_qm_makesOperative_62 rfl 0 rfl ?_
    refine qm_r_fourth C k_846 d_qm_makesOperative_63 rfl ?_
    refine j_aload_n C d_qm_makesOperative_66 rfl 0 rfl ?_
    refine qm_r_objects C k_842 d_qm_makesOperative_67 rfl (x := (qm_g_objects σ)) (gs_qm_objects_t_third _ _ _) ?_
    refine j_aload_n C d_qm_makesOperative_70 rfl 0 rfl ?_
    refine qm_r_around C k_863 d_qm_makesOperative_71 rfl (x := (qm_g_around σ)) (gs_qm_around_t_third _ _ _) ?_
    refine J.inO (fun h_10 => ?_)
    refine qm_a_fourth C (inb_in h_10) d_qm_makesOperative_74 rfl ?_
    refine j_aload_n C d_qm_makesOperative_75 rfl 0 rfl ?_
    refine j_iconst C d_qm_makesOperative_76 rfl kc_i_5 ?_
    refine j_lload_n C d_qm_makesOperative_77 rfl 1 rfl ?_
    refine j_lload_n C d_qm_makesOperative_78 rfl 2 rfl ?_
    refine J.goO (fun r11 h_12 => ?_)
    refine cv_qm_qm C (mc_qm_adds (gl Γ) (gK Γ) (qm_t_fourth (qm_t_third σ (qm_g_objects σ) x5) (qm_g_objects σ) (qm_g_around σ)) (5 : Int32) x1 x3 r11 h_12) qm_adds_I k_1048 (by decide) d_qm_makesOperative_79 rfl (rest := []) rfl ⟨rfl, Nat.le_of_ble_eq_true rfl⟩ ?_
    refine j_lstore C (lv' := [(8, .long r11.1), (0, .ref (kq (gK Γ) 18)), (1, .long x1), (3, .long x3), (5, .long x5), (7, .int x7)]) d_qm_makesOperative_82 rfl (by decide) rfl ?_
    refine j_iload C d_qm_makesOperative_84 rfl 5 rfl ?_
    refine j_if_eq C d_qm_makesOperative_86 (tgt := 99) (by decide) rfl (fun c_13 => ?_) (fun c_13 => ?_)
    · refine J.pos shO c_13 ?_
      refine j_aload_n C d_qm_makesOperative_99 rfl 1 rfl ?_
      refine j_iload C d_qm_makesOperative_100 rfl 5 rfl ?_
      refine j_if_eq C d_qm_makesOperative_102 (tgt := 117) (by decide) rfl (fun c_14 => ?_) (fun c_14 => ?_)
      · refine J.pos shO c_14 ?_
        refine j_lload C d_qm_makesOperative_117 rfl 0 rfl ?_
        refine cv_qm_qm C (mc_qm_gives (gl Γ) (gK Γ) r11.2 r11.1) qm_gives_I k_1117 (by decide) d_qm_makesOperative_119 rfl (rest := []) rfl ⟨rfl, Nat.le_of_ble_eq_true rfl⟩ ?_
        exact j_iret C d_qm_makesOperative_122
      · refine J.neg shO c_14 ?_
        refine j_aload_n C d_qm_makesOperative_105 rfl 1 rfl ?_
        refine j_bipush C d_qm_makesOperative_106 rfl kc_b_6 ?_
        refine j_lload C d_qm_makesOperative_108 rfl 0 rfl ?_
        refine j_lconst C d_qm_makesOperative_110 rfl kc_l_0 ?_
        refine J.goO (fun r15 h_16 => ?_)
        refine cv_qm_qm C (mc_qm_adds (gl Γ) (gK Γ) r11.2 (6 : Int32) r11.1 (0 : Int64) r15 h_16) qm_adds_I k_1048 (by decide) d_qm_makesOperative_111 rfl (rest := [.ref (kq (gK Γ) 18)]) rfl ⟨rfl, Nat.le_of_ble_eq_true rfl⟩ ?_
        refine j_goto C d_qm_makesOperative_114 (tgt := 119) (by decide) ?_
        refine cv_qm_qm C (mc_qm_gives (gl Γ) (gK Γ) r15.2 r15.1) qm_gives_I k_1117 (by decide) d_qm_makesOperative_119 rfl (rest := []) rfl ⟨rfl, Nat.le_of_ble_eq_true rfl⟩ ?_
        exact j_iret C d_qm_makesOperative_122
    · refine J.neg shO c_13 ?_
      refine j_aload_n C d_qm_makesOperative_89 rfl 1 rfl ?_
      refine cvr_qm_qm C (mc_qm_isFull (gl Γ) (gK Γ) r11.2) qm_isFull_I k_1044 (by decide) d_qm_makesOperative_90 rfl (rest := []) rfl ⟨rfl, Nat.le_of_ble_eq_true rfl⟩ ?_
      refine j_if_eq C d_qm_makesOperative_93 (tgt := 99) (by decide) rfl (fun c_17 => ?_) (fun c_17 => ?_)
      · refine J.pos shO c_17 ?_
        refine j_aload_n C d_qm_makesOperative_99 rfl 1 rfl ?_
        refine j_iload C d_qm_makesOperative_100 rfl 5 rfl ?_
        refine j_if_eq C d_qm_makesOperative_102 (tgt := 117) (by decide) rfl (fun c_18 => ?_) (fun c_18 => ?_)
        · refine J.pos shO c_18 ?_
          refine j_lload C d_qm_makesOperative_117 rfl 0 rfl ?_
          refine cv_qm_qm C (mc_qm_gives (gl Γ) (gK Γ) r11.2 r11.1) qm_gives_I k_1117 (by decide) d_qm_makesOperative_119 rfl (rest := []) rfl ⟨rfl, Nat.le_of_ble_eq_true rfl⟩ ?_
          exact j_iret C d_qm_makesOperative_122
        · refine J.neg shO c_18 ?_
          refine j_aload_n C d_qm_makesOperative_105 rfl 1 rfl ?_
          refine j_bipush C d_qm_makesOperative_106 rfl kc_b_6 ?_
          refine j_lload C d_qm_makesOperative_108 rfl 0 rfl ?_
          refine j_lconst C d_qm_makesOperative_110 rfl kc_l_0 ?_
          refine J.goO (fun r19 h_20 => ?_)
          refine cv_qm_qm C (mc_qm_adds (gl Γ) (gK Γ) r11.2 (6 : Int32) r11.1 (0 : Int64) r19 h_20) qm_adds_I k_1048 (by decide) d_qm_makesOperative_111 rfl (rest := [.ref (kq (gK Γ) 18)]) rfl ⟨rfl, Nat.le_of_ble_eq_true rfl⟩ ?_
          refine j_goto C d_qm_makesOperative_114 (tgt := 119) (by decide) ?_
          refine cv_qm_qm C (mc_qm_gives (gl Γ) (gK Γ) r19.2 r19.1) qm_gives_I k_1117 (by decide) d_qm_makesOperative_119 rfl (rest := []) rfl ⟨rfl, Nat.le_of_ble_eq_true rfl⟩ ?_
          exact j_iret C d_qm_makesOperative_122
      · refine J.neg shO c_17 ?_
        refine j_bipush C d_qm_makesOperative_96 rfl kc_b_m5 ?_
        exact j_iret C d_qm_makesOperative_98
  · refine J.neg shO c_8 ?_
    refine j_bipush C d_qm_makesOperative_48 rfl kc_b_m5 ?_
    exact j_iret C d_qm_makesOperative_50
theorem w_qm_makesOperative {Γ : cx_T} (C : cx_C Γ (qm_w (gK Γ)) qcl qm_R qm_makesOperative_c 10 (some .int) (4, 92)) (N : Nat) (σ : qm_S) (a1 : Int64) (a3 : Int64) (a5 : Int64) (a7 : Int32) : J Γ (qm_w (gK Γ)) qcl (QF Γ (qm_w (gK Γ)) qcl ovI) (shO (qm_makesOperative N σ a1 a3 a5 a7)) σ 0 [(0, .ref (kq (gK Γ) 18)), (1, .long a1), (3, .long a3), (5, .long a5), (7, .int a7)] [] := by
  unfold qm_makesOperative
  refine j_aload_n C d_qm_makesOperative_0 rfl 0 rfl ?_
  refine j_lload_n C d_qm_makesOperative_1 rfl 1 rfl ?_
  refine J.goO (fun r1 h_2 => ?_)
  refine cv_qm_qm C (mc_qm_isTree (gl Γ) (gK Γ) N σ a1 r1 h_2) qm_isTree_I k_1149 (by decide) d_qm_makesOperative_2 rfl (rest := []) rfl ⟨rfl, Nat.le_of_ble_eq_true rfl⟩ ?_
  refine j_if_eq C d_qm_makesOperative_5 (tgt := 38) (by decide) rfl (fun c_3 => ?_) (fun c_3 => ?_)
  · refine J.pos shO c_3 ?_
    refine j_bipush C d_qm_makesOperative_38 rfl kc_b_m8 ?_
    exact j_iret C d_qm_makesOperative_40
  · refine J.neg shO c_3 ?_
    refine j_lload_n C d_qm_makesOperative_8 rfl 2 rfl ?_
    refine cs_qm C (mc_qm_kindOf (gl Γ) (gK Γ) a3) qm_kindOf_I k_1000 (by decide) d_qm_makesOperative_9 rfl (rest := []) rfl (Nat.le_of_ble_eq_true rfl) ?_
    refine j_bipush C d_qm_makesOperative_12 rfl kc_b_8 ?_
    refine j_icmp_eq C d_qm_makesOperative_14 (tgt := 41) (by decide) rfl (fun c_4 => ?_) (fun c_4 => ?_)
    · refine J.pos shO c_4 ?_
      refine J.loc (lv' := [(0, .ref (kq (gK Γ) 18)), (1, .long a1), (3, .long a3), (5, .long a5), (7, .int a7)]) [0, 1, 2, 3, 4] rfl ?_
      exact w_qm_makesOperative_B41 C N r1.2 a1 a3 a5 a7
    · refine J.neg shO c_4 ?_
      refine j_lload_n C d_qm_makesOperative_17 rfl 2 rfl ?_
      refine cs_qm C (mc_qm_kindOf (gl Γ) (gK Γ) a3) qm_kindOf_I k_1000 (by decide) d_qm_makesOperative_18 rfl (rest := []) rfl (Nat.le_of_ble_eq_true rfl) ?_
      refine j_iconst C d_qm_makesOperative_21 rfl kc_i_2 ?_
      refine j_icmp_ne C d_qm_makesOperative_22 (tgt := 38) (by decide) rfl (fun c_5 => ?_) (fun c_5 => ?_)
      · refine J.neg shO c_5 ?_
        refine j_bipush C d_qm_makesOperative_38 rfl kc_b_m8 ?_
        exact j_iret C d_qm_makesOperative_40
      · refine J.pos shO c_5 ?_
        refine j_aload_n C d_qm_makesOperative_25 rfl 0 rfl ?_
        refine qm_r_isSeen C k_874 d_qm_makesOperative_26 rfl ?_
        refine j_aload_n C d_qm_makesOperative_29 rfl 0 rfl ?_
        refine j_lload_n C d_qm_makesOperative_30 rfl 2 rfl ?_
        refine cvr_qm_qm C (mc_qm_indexOf (gl Γ) (gK Γ) r1.2 a3) qm_indexOf_I k_1008 (by decide) d_qm_makesOperative_31 rfl (rest := [.ref (kq (gK Γ) 37)]) rfl ⟨rfl, Nat.le_of_ble_eq_true rfl⟩ ?_
        refine J.inO (fun h_6 => ?_)
        refine qm_l_isSeen C (inb_in h_6) d_qm_makesOperative_34 rfl rfl ?_
        refine j_if_eq C d_qm_makesOperative_35 (tgt := 41) (by decide) rfl (fun c_7 => ?_) (fun c_7 => ?_)
        · refine J.pos shO c_7 ?_
          refine J.loc (lv' := [(0, .ref (kq (gK Γ) 18)), (1, .long a1), (3, .long a3), (5, .long a5), (7, .int a7)]) [0, 1, 2, 3, 4] rfl ?_
          exact w_qm_makesOperative_B41 C N r1.2 a1 a3 a5 a7
        · refine J.neg shO c_7 ?_
          refine j_bipush C d_qm_makesOperative_38 rfl kc_b_m8 ?_
          exact j_iret C d_qm_makesOperative_40
theorem mc_qm_makesOperative (l : Launch) (K : kk_T) (N : Nat) (σ : qm_S) (a1 : Int64) (a3 : Int64) (a5 : Int64) (a7 : Int32) (r : Int32 × qm_S) (h : qm_makesOperative N σ a1 a3 a5 a7 = some r) : MC l qm_makesOperative_y qm_makesOperative_c 10 (some .int) (4, 92) K (qm_w K) qcl σ [.ref (kq K 18), .long a1, .long a3, .long a5, .int a7] (some (.int r.1)) r.2 := mc_of (ov := ovI) (X := shO (qm_makesOperative N σ a1 a3 a5 a7)) (by decide +kernel) (Nat.le_of_ble_eq_true rfl) (fun _ => rfl) (by rw [h]; rfl) (fun Γ e1 e2 C => by subst e1; subst e2; exact w_qm_makesOperative C N σ a1 a3 a5 a7)
theorem qm_makesOperative_I : ck_V qm_makesOperative_y qm_makesOperative_c 10 (some .int) 4 := ⟨k_1148, k_102, by decide +kernel, k_1147, k_81⟩
theorem w_qm_isSymbol {Γ : cx_T} (C : cx_C Γ qw_w qcl qm_R qm_isSymbol_c 2 (some .boolean) (1, 21)) (a0 : Int64) : J Γ qw_w qcl (QF Γ qw_w qcl ovI) ((shP ()) (qm_isSymbol a0)) () 0 [(0, .long a0)] [] := by
  unfold qm_isSymbol
  refine j_lload_n C d_qm_isSymbol_0 rfl 0 rfl ?_
  refine cs_qw C (mc_qm_kindOf (gl Γ) (gK Γ) a0) qm_kindOf_I k_1000 (by decide) d_qm_isSymbol_1 rfl (rest := []) rfl (Nat.le_of_ble_eq_true rfl) ?_
  refine j_iconst C d_qm_isSymbol_4 rfl kc_i_2 ?_
  refine j_icmp_ne C d_qm_isSymbol_5 (tgt := 12) (by decide) rfl (fun c_1 => ?_) (fun c_1 => ?_)
  · refine J.neg (shP ()) c_1 ?_
    refine j_iconst C d_qm_isSymbol_12 rfl kc_i_0 ?_
    exact j_zret C rfl d_qm_isSymbol_13
  · refine J.pos (shP ()) c_1 ?_
    refine j_iconst C d_qm_isSymbol_8 rfl kc_i_1 ?_
    refine j_goto C d_qm_isSymbol_9 (tgt := 13) (by decide) ?_
    exact j_zret C rfl d_qm_isSymbol_13
theorem mc_qm_isSymbol (l : Launch) (K : kk_T) (a0 : Int64) : MC l qm_isSymbol_y qm_isSymbol_c 2 (some .boolean) (1, 21) K qw_w qcl () [.long a0] (some (.int (qm_isSymbol a0))) () := mc_of (ov := ovI) (X := (shP ()) (qm_isSymbol a0)) (by decide +kernel) (Nat.le_of_ble_eq_true rfl) (fun _ => rfl) rfl (fun Γ e1 e2 C => by subst e1; subst e2; exact w_qm_isSymbol C a0)
theorem qm_isSymbol_I : ck_S qm_isSymbol_y qm_isSymbol_c 2 (some .boolean) 1 := ⟨k_1155, k_102, by decide +kernel, k_1154⟩
theorem w_qm_combinesPart_B56 {Γ : cx_T} (C : cx_C Γ (qm_w (gK Γ)) qcl qm_R qm_combinesPart_c 9 (some .int) (5, 121)) (N : Nat) (σ : qm_S) (x1 : Int32) (x2 : Int32) (x3 : Int64) (x5 : Int64) (y0 : Int64) : J Γ (qm_w (gK Γ)) qcl (QF Γ (qm_w (gK Γ)) qcl ovI) (shO (qm_combinesPart_B56 N σ x1 x2 x3 x5 y0)) σ 56 [(0, .ref (kq (gK Γ) 18)), (1, .int x1), (2, .int x2), (3, .long x3), (5, .long x5)] [.long y0] := by
  unfold qm_combinesPart_B56
  refine j_lstore C (lv' := [(7, .long y0), (0, .ref (kq (gK Γ) 18)), (1, .int x1), (2, .int x2), (3, .long x3), (5, .long x5)]) d_qm_combinesPart_56 rfl (by decide) rfl ?_
  refine j_iload_n C d_qm_combinesPart_58 rfl 2 rfl ?_
  refine J.cas shO (fun c_10 => ?_) (fun c_10 => ?_)
  · refine j_tblIn C d_qm_combinesPart_59 (0 : Int32) c_10 (by decide) (by decide) rfl (tgt := 100) (by decide) ?_
    refine j_iload_n C d_qm_combinesPart_100 rfl 3 rfl ?_
    refine j_iconst C d_qm_combinesPart_101 rfl kc_i_3 ?_
    refine j_icmp_eq C d_qm_combinesPart_102 (tgt := 110) (by decide) rfl (fun c_11 => ?_) (fun c_11 => ?_)
    · refine J.pos shO c_11 ?_
      refine j_aload_n C d_qm_combinesPart_110 rfl 1 rfl ?_
      refine j_iconst C d_qm_combinesPart_111 rfl kc_i_2 ?_
      refine j_lload C d_qm_combinesPart_112 rfl 5 rfl ?_
      refine j_lload C d_qm_combinesPart_114 rfl 0 rfl ?_
      refine j_iconst C d_qm_combinesPart_116 rfl kc_i_0 ?_
      refine j_lload_n C d_qm_combinesPart_117 rfl 4 rfl ?_
      refine j_aload_n C d_qm_combinesPart_118 rfl 1 rfl ?_
      refine qm_r_around C k_863 d_qm_combinesPart_119 rfl rfl ?_
      refine J.goO (fun r12 h_13 => ?_)
      refine cv_qm_qm C (mc_qm_goesWith (gl Γ) (gK Γ) σ (2 : Int32) x5 y0 (0 : Int32) x3 (qm_g_around σ) r12 h_13) qm_goesWith_I k_1113 (by decide) d_qm_combinesPart_122 rfl (rest := []) rfl ⟨rfl, Nat.le_of_ble_eq_true rfl⟩ ?_
      exact j_iret C d_qm_combinesPart_125
    · refine J.neg shO c_11 ?_
      refine j_bipush C d_qm_combinesPart_105 rfl kc_b_m8 ?_
      refine j_goto C d_qm_combinesPart_107 (tgt := 125) (by decide) ?_
      exact j_iret C d_qm_combinesPart_125
  · skip
    refine J.cas shO (fun c_14 => ?_) (fun c_14 => ?_)
    · refine j_tblIn C d_qm_combinesPart_59 (1 : Int32) c_14 (by decide) (by decide) rfl (tgt := 126) (by decide) ?_
      refine j_iload_n C d_qm_combinesPart_126 rfl 3 rfl ?_
      refine j_iconst C d_qm_combinesPart_127 rfl kc_i_3 ?_
      refine j_icmp_eq C d_qm_combinesPart_128 (tgt := 136) (by decide) rfl (fun c_15 => ?_) (fun c_15 => ?_)
      · refine J.pos shO c_15 ?_
        refine j_aload_n C d_qm_combinesPart_136 rfl 1 rfl ?_
        refine j_lload_n C d_qm_combinesPart_137 rfl 4 rfl ?_
        refine j_lload C d_qm_combinesPart_138 rfl 5 rfl ?_
        refine j_lload C d_qm_combinesPart_140 rfl 0 rfl ?_
        refine j_iconst C d_qm_combinesPart_142 rfl kc_i_0 ?_
        refine J.goO (fun r16 h_17 => ?_)
        refine cv_qm_qm C (mc_qm_makesOperative (gl Γ) (gK Γ) N σ x3 x5 y0 (0 : Int32) r16 h_17) qm_makesOperative_I k_1145 (by decide) d_qm_combinesPart_143 rfl (rest := []) rfl ⟨rfl, Nat.le_of_ble_eq_true rfl⟩ ?_
        exact j_iret C d_qm_combinesPart_146
      · refine J.neg shO c_15 ?_
        refine j_bipush C d_qm_combinesPart_131 rfl kc_b_m8 ?_
        refine j_goto C d_qm_combinesPart_133 (tgt := 146) (by decide) ?_
        exact j_iret C d_qm_combinesPart_146
    · skip
      refine J.cas shO (fun c_18 => ?_) (fun c_18 => ?_)
      · refine j_tblIn C d_qm_combinesPart_59 (2 : Int32) c_18 (by decide) (by decide) rfl (tgt := 147) (by decide) ?_
        refine j_iload_n C d_qm_combinesPart_147 rfl 3 rfl ?_
        refine j_iconst C d_qm_combinesPart_148 rfl kc_i_2 ?_
        refine j_icmp_eq C d_qm_combinesPart_149 (tgt := 157) (by decide) rfl (fun c_19 => ?_) (fun c_19 => ?_)
        · refine J.pos shO c_19 ?_
          refine j_aload_n C d_qm_combinesPart_157 rfl 1 rfl ?_
          refine j_lload_n C d_qm_combinesPart_158 rfl 4 rfl ?_
          refine j_ldc2 C d_qm_combinesPart_159 rfl k_978 ?_
          refine j_lload C d_qm_combinesPart_162 rfl 5 rfl ?_
          refine j_iconst C d_qm_combinesPart_164 rfl kc_i_1 ?_
          refine J.goO (fun r20 h_21 => ?_)
          refine cv_qm_qm C (mc_qm_makesOperative (gl Γ) (gK Γ) N σ x3 (8 : Int64) x5 (1 : Int32) r20 h_21) qm_makesOperative_I k_1145 (by decide) d_qm_combinesPart_165 rfl (rest := []) rfl ⟨rfl, Nat.le_of_ble_eq_true rfl⟩ ?_
          exact j_iret C d_qm_combinesPart_168
        · refine J.neg shO c_19 ?_
          refine j_bipush C d_qm_combinesPart_152 rfl kc_b_m8 ?_
          refine j_goto C d_qm_combinesPart_154 (tgt := 168) (by decide) ?_
          exact j_iret C d_qm_combinesPart_168
      · skip
        refine J.cas shO (fun c_22 => ?_) (fun c_22 => ?_)
        · refine j_tblIn C d_qm_combinesPart_59 (3 : Int32) c_22 (by decide) (by decide) rfl (tgt := 169) (by decide) ?_
          refine j_iload_n C d_qm_combinesPart_169 rfl 3 rfl ?_
          refine j_iconst C d_qm_combinesPart_170 rfl kc_i_2 ?_
          refine j_icmp_ne C d_qm_combinesPart_171 (tgt := 181) (by decide) rfl (fun c_23 => ?_) (fun c_23 => ?_)
          · refine J.neg shO c_23 ?_
            refine j_bipush C d_qm_combinesPart_181 rfl kc_b_m8 ?_
            refine j_goto C d_qm_combinesPart_183 (tgt := 204) (by decide) ?_
            exact j_iret C d_qm_combinesPart_204
          · refine J.pos shO c_23 ?_
            refine j_lload_n C d_qm_combinesPart_174 rfl 4 rfl ?_
            refine cs_qm C (mc_qm_isSymbol (gl Γ) (gK Γ) x3) qm_isSymbol_I k_1153 (by decide) d_qm_combinesPart_175 rfl (rest := []) rfl (Nat.le_of_ble_eq_true rfl) ?_
            refine j_if_ne C d_qm_combinesPart_178 (tgt := 186) (by decide) rfl (fun c_24 => ?_) (fun c_24 => ?_)
            · refine J.neg shO c_24 ?_
              refine j_aload_n C d_qm_combinesPart_186 rfl 1 rfl ?_
              refine j_iconst C d_qm_combinesPart_187 rfl kc_i_3 ?_
              refine j_lconst C d_qm_combinesPart_188 rfl kc_l_0 ?_
              refine j_lconst C d_qm_combinesPart_189 rfl kc_l_0 ?_
              refine j_aload_n C d_qm_combinesPart_190 rfl 1 rfl ?_
              refine j_lload_n C d_qm_combinesPart_191 rfl 4 rfl ?_
              refine cvr_qm_qm C (mc_qm_indexOf (gl Γ) (gK Γ) σ x3) qm_indexOf_I k_1008 (by decide) d_qm_combinesPart_192 rfl (rest := [.long (0 : Int64), .long (0 : Int64), .int (3 : Int32), .ref (kq (gK Γ) 18)]) rfl ⟨rfl, Nat.le_of_ble_eq_true rfl⟩ ?_
              refine j_lload C d_qm_combinesPart_195 rfl 5 rfl ?_
              refine j_aload_n C d_qm_combinesPart_197 rfl 1 rfl ?_
              refine qm_r_around C k_863 d_qm_combinesPart_198 rfl rfl ?_
              refine J.goO (fun r25 h_26 => ?_)
              refine cv_qm_qm C (mc_qm_goesWith (gl Γ) (gK Γ) σ (3 : Int32) (0 : Int64) (0 : Int64) (qm_indexOf σ x3) x5 (qm_g_around σ) r25 h_26) qm_goesWith_I k_1113 (by decide) d_qm_combinesPart_201 rfl (rest := []) rfl ⟨rfl, Nat.le_of_ble_eq_true rfl⟩ ?_
              exact j_iret C d_qm_combinesPart_204
            · refine J.pos shO c_24 ?_
              refine j_bipush C d_qm_combinesPart_181 rfl kc_b_m8 ?_
              refine j_goto C d_qm_combinesPart_183 (tgt := 204) (by decide) ?_
              exact j_iret C d_qm_combinesPart_204
        · skip
          refine J.cas shO (fun c_27 => ?_) (fun c_27 => ?_)
          · refine j_tblIn C d_qm_combinesPart_59 (4 : Int32) c_27 (by decide) (by decide) rfl (tgt := 205) (by decide) ?_
            refine j_iload_n C d_qm_combinesPart_205 rfl 3 rfl ?_
            refine j_iconst C d_qm_combinesPart_206 rfl kc_i_3 ?_
            refine j_icmp_ne C d_qm_combinesPart_207 (tgt := 218) (by decide) rfl (fun c_28 => ?_) (fun c_28 => ?_)
            · refine J.neg shO c_28 ?_
              refine j_bipush C d_qm_combinesPart_218 rfl kc_b_m8 ?_
              refine j_goto C d_qm_combinesPart_220 (tgt := 242) (by decide) ?_
              exact j_iret C d_qm_combinesPart_242
            · refine J.pos shO c_28 ?_
              refine j_lload C d_qm_combinesPart_210 rfl 5 rfl ?_
              refine cs_qm C (mc_qm_isSymbol (gl Γ) (gK Γ) x5) qm_isSymbol_I k_1153 (by decide) d_qm_combinesPart_212 rfl (rest := []) rfl (Nat.le_of_ble_eq_true rfl) ?_
              refine j_if_ne C d_qm_combinesPart_215 (tgt := 223) (by decide) rfl (fun c_29 => ?_) (fun c_29 => ?_)
              · refine J.neg shO c_29 ?_
                refine j_aload_n C d_qm_combinesPart_223 rfl 1 rfl ?_
                refine j_iconst C d_qm_combinesPart_224 rfl kc_i_4 ?_
                refine j_lload C d_qm_combinesPart_225 rfl 0 rfl ?_
                refine j_lconst C d_qm_combinesPart_227 rfl kc_l_0 ?_
                refine j_aload_n C d_qm_combinesPart_228 rfl 1 rfl ?_
                refine j_lload C d_qm_combinesPart_229 rfl 5 rfl ?_
                refine cvr_qm_qm C (mc_qm_indexOf (gl Γ) (gK Γ) σ x5) qm_indexOf_I k_1008 (by decide) d_qm_combinesPart_231 rfl (rest := [.long (0 : Int64), .long y0, .int (4 : Int32), .ref (kq (gK Γ) 18)]) rfl ⟨rfl, Nat.le_of_ble_eq_true rfl⟩ ?_
                refine j_lload_n C d_qm_combinesPart_234 rfl 4 rfl ?_
                refine j_aload_n C d_qm_combinesPart_235 rfl 1 rfl ?_
                refine qm_r_around C k_863 d_qm_combinesPart_236 rfl rfl ?_
                refine J.goO (fun r30 h_31 => ?_)
                refine cv_qm_qm C (mc_qm_goesWith (gl Γ) (gK Γ) σ (4 : Int32) y0 (0 : Int64) (qm_indexOf σ x5) x3 (qm_g_around σ) r30 h_31) qm_goesWith_I k_1113 (by decide) d_qm_combinesPart_239 rfl (rest := []) rfl ⟨rfl, Nat.le_of_ble_eq_true rfl⟩ ?_
                exact j_iret C d_qm_combinesPart_242
              · refine J.pos shO c_29 ?_
                refine j_bipush C d_qm_combinesPart_218 rfl kc_b_m8 ?_
                refine j_goto C d_qm_combinesPart_220 (tgt := 242) (by decide) ?_
                exact j_iret C d_qm_combinesPart_242
          · skip
            refine J.cas shO (fun c_32 => ?_) (fun c_32 => ?_)
            · refine j_tblIn C d_qm_combinesPart_59 (5 : Int32) c_32 (by decide) (by decide) rfl (tgt := 243) (by decide) ?_
              refine j_aload_n C d_qm_combinesPart_243 rfl 1 rfl ?_
              refine j_aload_n C d_qm_combinesPart_244 rfl 1 rfl ?_
              refine qm_r_operands C k_862 d_qm_combinesPart_245 rfl rfl ?_
              refine j_aload_n C d_qm_combinesPart_248 rfl 1 rfl ?_
              refine qm_r_around C k_863 d_qm_combinesPart_249 rfl rfl ?_
              refine J.goO (fun r33 h_34 => ?_)
              refine cv_qm_qm C (mc_qm_beginsWith (gl Γ) (gK Γ) σ (qm_g_operands σ) (qm_g_around σ) r33 h_34) qm_beginsWith_I k_1156 (by decide) d_qm_combinesPart_252 rfl (rest := []) rfl ⟨rfl, Nat.le_of_ble_eq_true rfl⟩ ?_
              exact j_iret C d_qm_combinesPart_255
            · skip
              refine J.cas shO (fun c_35 => ?_) (fun c_35 => ?_)
              · refine j_tblIn C d_qm_combinesPart_59 (6 : Int32) c_35 (by decide) (by decide) rfl (tgt := 256) (by decide) ?_
                refine j_iload_n C d_qm_combinesPart_256 rfl 3 rfl ?_
                refine j_iconst C d_qm_combinesPart_257 rfl kc_i_1 ?_
                refine j_icmp_eq C d_qm_combinesPart_258 (tgt := 266) (by decide) rfl (fun c_36 => ?_) (fun c_36 => ?_)
                · refine J.pos shO c_36 ?_
                  refine j_aload_n C d_qm_combinesPart_266 rfl 1 rfl ?_
                  refine j_lload_n C d_qm_combinesPart_267 rfl 4 rfl ?_
                  refine cv_qm_qm C (mc_qm_gives (gl Γ) (gK Γ) σ x3) qm_gives_I k_1117 (by decide) d_qm_combinesPart_268 rfl (rest := []) rfl ⟨rfl, Nat.le_of_ble_eq_true rfl⟩ ?_
                  exact j_iret C d_qm_combinesPart_271
                · refine J.neg shO c_36 ?_
                  refine j_bipush C d_qm_combinesPart_261 rfl kc_b_m8 ?_
                  refine j_goto C d_qm_combinesPart_263 (tgt := 271) (by decide) ?_
                  exact j_iret C d_qm_combinesPart_271
              · skip
                refine j_tblOut C d_qm_combinesPart_59 (tgt := 272) (by decide) (by have h0 := lv_neT c_10 (a := 0) rfl; have h1 := lv_neT c_14 (a := 1) rfl; have h2 := lv_neT c_18 (a := 2) rfl; have h3 := lv_neT c_22 (a := 3) rfl; have h4 := lv_neT c_27 (a := 4) rfl; have h5 := lv_neT c_32 (a := 5) rfl; have h6 := lv_neT c_35 (a := 6) rfl; omega) ?_
                refine j_iload_n C d_qm_combinesPart_272 rfl 3 rfl ?_
                refine j_if_eq C d_qm_combinesPart_273 (tgt := 281) (by decide) rfl (fun c_37 => ?_) (fun c_37 => ?_)
                · refine J.pos shO c_37 ?_
                  refine j_aload_n C d_qm_combinesPart_281 rfl 1 rfl ?_
                  refine j_aload_n C d_qm_combinesPart_282 rfl 1 rfl ?_
                  refine qm_r_around C k_863 d_qm_combinesPart_283 rfl rfl ?_
                  refine cv_qm_qm C (mc_qm_gives (gl Γ) (gK Γ) σ (qm_g_around σ)) qm_gives_I k_1117 (by decide) d_qm_combinesPart_286 rfl (rest := []) rfl ⟨rfl, Nat.le_of_ble_eq_true rfl⟩ ?_
                  exact j_iret C d_qm_combinesPart_289
                · refine J.neg shO c_37 ?_
                  refine j_bipush C d_qm_combinesPart_276 rfl kc_b_m8 ?_
                  refine j_goto C d_qm_combinesPart_278 (tgt := 289) (by decide) ?_
                  exact j_iret C d_qm_combinesPart_289
theorem w_qm_combinesPart_B36 {Γ : cx_T} (C : cx_C Γ (qm_w (gK Γ)) qcl qm_R qm_combinesPart_c 9 (some .int) (5, 121)) (N : Nat) (σ : qm_S) (x1 : Int32) (x2 : Int32) (x3 : Int64) (y0 : Int64) : J Γ (qm_w (gK Γ)) qcl (QF Γ (qm_w (gK Γ)) qcl ovI) (shO (qm_combinesPart_B36 N σ x1 x2 x3 y0)) σ 36 [(0, .ref (kq (gK Γ) 18)), (1, .int x1), (2, .int x2), (3, .long x3)] [.long y0] := by
  unfold qm_combinesPart_B36
  refine j_lstore C (lv' := [(5, .long y0), (0, .ref (kq (gK Γ) 18)), (1, .int x1), (2, .int x2), (3, .long x3)]) d_qm_combinesPart_36 rfl (by decide) rfl ?_
  refine j_iload_n C d_qm_combinesPart_38 rfl 3 rfl ?_
  refine j_iconst C d_qm_combinesPart_39 rfl kc_i_2 ?_
  refine j_icmp_le C d_qm_combinesPart_40 (tgt := 55) (by decide) rfl (fun c_7 => ?_) (fun c_7 => ?_)
  · refine J.pos shO c_7 ?_
    refine j_lconst C d_qm_combinesPart_55 rfl kc_l_0 ?_
    refine J.loc (lv' := [(0, .ref (kq (gK Γ) 18)), (1, .int x1), (2, .int x2), (3, .long x3), (5, .long y0)]) [1, 2, 3, 4, 0] rfl ?_
    exact w_qm_combinesPart_B56 C N σ x1 x2 x3 y0 (0 : Int64)
  · refine J.neg shO c_7 ?_
    refine j_aload_n C d_qm_combinesPart_43 rfl 1 rfl ?_
    refine j_aload_n C d_qm_combinesPart_44 rfl 1 rfl ?_
    refine qm_r_operands C k_862 d_qm_combinesPart_45 rfl rfl ?_
    refine j_iconst C d_qm_combinesPart_48 rfl kc_i_2 ?_
    refine J.goO (fun r8 h_9 => ?_)
    refine cvr_qm_qm C (mc_qm_elementOf (gl Γ) (gK Γ) N σ (qm_g_operands σ) (2 : Int32) r8 h_9) qm_elementOf_I k_1141 (by decide) d_qm_combinesPart_49 rfl (rest := []) rfl ⟨rfl, Nat.le_of_ble_eq_true rfl⟩ ?_
    refine j_goto C d_qm_combinesPart_52 (tgt := 56) (by decide) ?_
    refine J.loc (lv' := [(0, .ref (kq (gK Γ) 18)), (1, .int x1), (2, .int x2), (3, .long x3), (5, .long y0)]) [1, 2, 3, 4, 0] rfl ?_
    exact w_qm_combinesPart_B56 C N σ x1 x2 x3 y0 r8
theorem w_qm_combinesPart_B17 {Γ : cx_T} (C : cx_C Γ (qm_w (gK Γ)) qcl qm_R qm_combinesPart_c 9 (some .int) (5, 121)) (N : Nat) (σ : qm_S) (x1 : Int32) (x2 : Int32) (y0 : Int64) : J Γ (qm_w (gK Γ)) qcl (QF Γ (qm_w (gK Γ)) qcl ovI) (shO (qm_combinesPart_B17 N σ x1 x2 y0)) σ 17 [(0, .ref (kq (gK Γ) 18)), (1, .int x1), (2, .int x2)] [.long y0] := by
  unfold qm_combinesPart_B17
  refine j_lstore_n C (lv' := [(3, .long y0), (0, .ref (kq (gK Γ) 18)), (1, .int x1), (2, .int x2)]) d_qm_combinesPart_17 rfl rfl (by decide) rfl ?_
  refine j_iload_n C d_qm_combinesPart_18 rfl 3 rfl ?_
  refine j_iconst C d_qm_combinesPart_19 rfl kc_i_1 ?_
  refine j_icmp_le C d_qm_combinesPart_20 (tgt := 35) (by decide) rfl (fun c_4 => ?_) (fun c_4 => ?_)
  · refine J.pos shO c_4 ?_
    refine j_lconst C d_qm_combinesPart_35 rfl kc_l_0 ?_
    refine J.loc (lv' := [(0, .ref (kq (gK Γ) 18)), (1, .int x1), (2, .int x2), (3, .long y0)]) [1, 2, 3, 0] rfl ?_
    exact w_qm_combinesPart_B36 C N σ x1 x2 y0 (0 : Int64)
  · refine J.neg shO c_4 ?_
    refine j_aload_n C d_qm_combinesPart_23 rfl 1 rfl ?_
    refine j_aload_n C d_qm_combinesPart_24 rfl 1 rfl ?_
    refine qm_r_operands C k_862 d_qm_combinesPart_25 rfl rfl ?_
    refine j_iconst C d_qm_combinesPart_28 rfl kc_i_1 ?_
    refine J.goO (fun r5 h_6 => ?_)
    refine cvr_qm_qm C (mc_qm_elementOf (gl Γ) (gK Γ) N σ (qm_g_operands σ) (1 : Int32) r5 h_6) qm_elementOf_I k_1141 (by decide) d_qm_combinesPart_29 rfl (rest := []) rfl ⟨rfl, Nat.le_of_ble_eq_true rfl⟩ ?_
    refine j_goto C d_qm_combinesPart_32 (tgt := 36) (by decide) ?_
    refine J.loc (lv' := [(0, .ref (kq (gK Γ) 18)), (1, .int x1), (2, .int x2), (3, .long y0)]) [1, 2, 3, 0] rfl ?_
    exact w_qm_combinesPart_B36 C N σ x1 x2 y0 r5
theorem w_qm_combinesPart {Γ : cx_T} (C : cx_C Γ (qm_w (gK Γ)) qcl qm_R qm_combinesPart_c 9 (some .int) (5, 121)) (N : Nat) (σ : qm_S) (a1 : Int32) (a2 : Int32) : J Γ (qm_w (gK Γ)) qcl (QF Γ (qm_w (gK Γ)) qcl ovI) (shO (qm_combinesPart N σ a1 a2)) σ 0 [(0, .ref (kq (gK Γ) 18)), (1, .int a1), (2, .int a2)] [] := by
  unfold qm_combinesPart
  refine j_iload_n C d_qm_combinesPart_0 rfl 2 rfl ?_
  refine j_if_le C d_qm_combinesPart_1 (tgt := 16) (by decide) rfl (fun c_1 => ?_) (fun c_1 => ?_)
  · refine J.pos shO c_1 ?_
    refine j_lconst C d_qm_combinesPart_16 rfl kc_l_0 ?_
    refine J.loc (lv' := [(0, .ref (kq (gK Γ) 18)), (1, .int a1), (2, .int a2)]) [0, 1, 2] rfl ?_
    exact w_qm_combinesPart_B17 C N σ a1 a2 (0 : Int64)
  · refine J.neg shO c_1 ?_
    refine j_aload_n C d_qm_combinesPart_4 rfl 0 rfl ?_
    refine j_aload_n C d_qm_combinesPart_5 rfl 0 rfl ?_
    refine qm_r_operands C k_862 d_qm_combinesPart_6 rfl rfl ?_
    refine j_iconst C d_qm_combinesPart_9 rfl kc_i_0 ?_
    refine J.goO (fun r2 h_3 => ?_)
    refine cvr_qm_qm C (mc_qm_elementOf (gl Γ) (gK Γ) N σ (qm_g_operands σ) (0 : Int32) r2 h_3) qm_elementOf_I k_1141 (by decide) d_qm_combinesPart_10 rfl (rest := []) rfl ⟨rfl, Nat.le_of_ble_eq_true rfl⟩ ?_
    refine j_goto C d_qm_combinesPart_13 (tgt := 17) (by decide) ?_
    refine J.loc (lv' := [(0, .ref (kq (gK Γ) 18)), (1, .int a1), (2, .int a2)]) [0, 1, 2] rfl ?_
    exact w_qm_combinesPart_B17 C N σ a1 a2 r2
theorem mc_qm_combinesPart (l : Launch) (K : kk_T) (N : Nat) (σ : qm_S) (a1 : Int32) (a2 : Int32) (r : Int32 × qm_S) (h : qm_combinesPart N σ a1 a2 = some r) : MC l qm_combinesPart_y qm_combinesPart_c 9 (some .int) (5, 121) K (qm_w K) qcl σ [.ref (kq K 18), .int a1, .int a2] (some (.int r.1)) r.2 := mc_of (ov := ovI) (X := shO (qm_combinesPart N σ a1 a2)) (by decide +kernel) (Nat.le_of_ble_eq_true rfl) (fun _ => rfl) (by rw [h]; rfl) (fun Γ e1 e2 C => by subst e1; subst e2; exact w_qm_combinesPart C N σ a1 a2)
theorem qm_combinesPart_I : ck_V qm_combinesPart_y qm_combinesPart_c 9 (some .int) 2 := ⟨k_1140, k_102, by decide +kernel, k_1139, k_79⟩
theorem w_qm_isIn {Γ : cx_T} (C : cx_C Γ qw_w qcl qm_R qm_isIn_c 2 (some .boolean) (1, 25)) (a0 : Int64) : J Γ qw_w qcl (QF Γ qw_w qcl ovI) ((shP ()) (qm_isIn a0)) () 0 [(0, .long a0)] [] := by
  unfold qm_isIn
  refine j_lload_n C d_qm_isIn_0 rfl 0 rfl ?_
  refine j_ldc2 C d_qm_isIn_1 rfl k_956 ?_
  refine j_ldc2 C d_qm_isIn_4 rfl k_957 ?_
  refine cs_qw C (mc_qm_within (gl Γ) (gK Γ) a0 (-1000000000000000 : Int64) (1000000000000000 : Int64)) qm_within_I k_834 (by decide) d_qm_isIn_7 rfl (rest := []) rfl (Nat.le_of_ble_eq_true rfl) ?_
  exact j_bret C d_qm_isIn_10
theorem mc_qm_isIn (l : Launch) (K : kk_T) (a0 : Int64) : MC l qm_isIn_y qm_isIn_c 2 (some .boolean) (1, 25) K qw_w qcl () [.long a0] (some (.int (qm_isIn a0))) () := mc_of (ov := ovI) (X := (shP ()) (qm_isIn a0)) (by decide +kernel) (Nat.le_of_ble_eq_true rfl) (fun _ => rfl) rfl (fun Γ e1 e2 C => by subst e1; subst e2; exact w_qm_isIn C a0)
theorem qm_isIn_I : ck_S qm_isIn_y qm_isIn_c 2 (some .boolean) 1 := ⟨k_1170, k_102, by decide +kernel, k_1169⟩
theorem w_qm_times_B26 {Γ : cx_T} (C : cx_C Γ qw_w qcl qm_R qm_times_c 8 (some .long) (0, 0)) (x0 : Int64) (x2 : Int64) (x4 : Int64) (y0 : Int64) : J Γ qw_w qcl (QF Γ qw_w qcl ovL) ((shP ()) (qm_times_B26 x0 x2 x4 y0)) () 26 [(0, .long x0), (2, .long x2), (4, .long x4)] [.long y0] := by
  unfold qm_times_B26
  refine j_lstore C (lv' := [(6, .long y0), (0, .long x0), (2, .long x2), (4, .long x4)]) d_qm_times_26 rfl (by decide) rfl ?_
  refine j_lload C d_qm_times_28 rfl 0 rfl ?_
  refine j_lconst C d_qm_times_30 rfl kc_l_0 ?_
  refine j_lcmp_le C d_qm_times_31 d_qm_times_32 (tgt := 53) (by decide) rfl (fun c_3 => ?_) (fun c_3 => ?_)
  · refine J.neg (shP ()) c_3 ?_
    refine j_lload_n C d_qm_times_53 rfl 1 rfl ?_
    refine j_lload_n C d_qm_times_54 rfl 2 rfl ?_
    refine j_lmul C d_qm_times_55 rfl ?_
    exact j_lret C d_qm_times_56
  · refine J.pos (shP ()) c_3 ?_
    refine j_lload C d_qm_times_35 rfl 3 rfl ?_
    refine j_ldc2 C d_qm_times_37 rfl k_957 ?_
    refine j_lload C d_qm_times_40 rfl 0 rfl ?_
    refine j_ldiv C d_qm_times_42 rfl (ne_of_pos c_3) ?_
    refine j_lcmp_le C d_qm_times_43 d_qm_times_44 (tgt := 53) (by decide) rfl (fun c_4 => ?_) (fun c_4 => ?_)
    · refine J.neg (shP ()) c_4 ?_
      refine j_lload_n C d_qm_times_53 rfl 1 rfl ?_
      refine j_lload_n C d_qm_times_54 rfl 2 rfl ?_
      refine j_lmul C d_qm_times_55 rfl ?_
      exact j_lret C d_qm_times_56
    · refine J.pos (shP ()) c_4 ?_
      refine j_ldc2 C d_qm_times_47 rfl k_1167 ?_
      refine j_goto C d_qm_times_50 (tgt := 56) (by decide) ?_
      exact j_lret C d_qm_times_56
theorem w_qm_times_B12 {Γ : cx_T} (C : cx_C Γ qw_w qcl qm_R qm_times_c 8 (some .long) (0, 0)) (x0 : Int64) (x2 : Int64) (y0 : Int64) : J Γ qw_w qcl (QF Γ qw_w qcl ovL) ((shP ()) (qm_times_B12 x0 x2 y0)) () 12 [(0, .long x0), (2, .long x2)] [.long y0] := by
  unfold qm_times_B12
  refine j_lstore C (lv' := [(4, .long y0), (0, .long x0), (2, .long x2)]) d_qm_times_12 rfl (by decide) rfl ?_
  refine j_lload_n C d_qm_times_14 rfl 2 rfl ?_
  refine j_lconst C d_qm_times_15 rfl kc_l_0 ?_
  refine j_lcmp_ge C d_qm_times_16 d_qm_times_17 (tgt := 25) (by decide) rfl (fun c_2 => ?_) (fun c_2 => ?_)
  · refine J.neg (shP ()) c_2 ?_
    refine j_lload_n C d_qm_times_25 rfl 2 rfl ?_
    refine J.loc (lv' := [(0, .long x0), (2, .long x2), (4, .long y0)]) [1, 2, 0] rfl ?_
    exact w_qm_times_B26 C x0 x2 y0 x2
  · refine J.pos (shP ()) c_2 ?_
    refine j_lload_n C d_qm_times_20 rfl 2 rfl ?_
    refine j_lneg C d_qm_times_21 rfl ?_
    refine j_goto C d_qm_times_22 (tgt := 26) (by decide) ?_
    refine J.loc (lv' := [(0, .long x0), (2, .long x2), (4, .long y0)]) [1, 2, 0] rfl ?_
    exact w_qm_times_B26 C x0 x2 y0 (- x2)
theorem w_qm_times {Γ : cx_T} (C : cx_C Γ qw_w qcl qm_R qm_times_c 8 (some .long) (0, 0)) (a0 : Int64) (a2 : Int64) : J Γ qw_w qcl (QF Γ qw_w qcl ovL) ((shP ()) (qm_times a0 a2)) () 0 [(0, .long a0), (2, .long a2)] [] := by
  unfold qm_times
  refine j_lload_n C d_qm_times_0 rfl 0 rfl ?_
  refine j_lconst C d_qm_times_1 rfl kc_l_0 ?_
  refine j_lcmp_ge C d_qm_times_2 d_qm_times_3 (tgt := 11) (by decide) rfl (fun c_1 => ?_) (fun c_1 => ?_)
  · refine J.neg (shP ()) c_1 ?_
    refine j_lload_n C d_qm_times_11 rfl 0 rfl ?_
    refine J.loc (lv' := [(0, .long a0), (2, .long a2)]) [0, 1] rfl ?_
    exact w_qm_times_B12 C a0 a2 a0
  · refine J.pos (shP ()) c_1 ?_
    refine j_lload_n C d_qm_times_6 rfl 0 rfl ?_
    refine j_lneg C d_qm_times_7 rfl ?_
    refine j_goto C d_qm_times_8 (tgt := 12) (by decide) ?_
    refine J.loc (lv' := [(0, .long a0), (2, .long a2)]) [0, 1] rfl ?_
    exact w_qm_times_B12 C a0 a2 (- a0)
theorem mc_qm_times (l : Launch) (K : kk_T) (a0 : Int64) (a2 : Int64) : MC l qm_times_y qm_times_c 8 (some .long) (0, 0) K qw_w qcl () [.long a0, .long a2] (some (.long (qm_times a0 a2))) () := mc_of (ov := ovL) (X := (shP ()) (qm_times a0 a2)) (by decide +kernel) (Nat.le_of_ble_eq_true rfl) (fun _ => rfl) rfl (fun Γ e1 e2 C => by subst e1; subst e2; exact w_qm_times C a0 a2)
theorem qm_times_I : ck_S qm_times_y qm_times_c 8 (some .long) 2 := ⟨k_1166, k_102, by decide +kernel, k_1165⟩
theorem w_qm_reckons_L52 {Γ : cx_T} (C : cx_C Γ (qm_w (gK Γ)) qcl qm_R qm_reckons_c 8 (some .int) (3, 65)) (N : Nat) : ∀ (k : Nat) (σ : qm_S) (x1 : Int32) (x2 : Int64) (x4 : Int64), J Γ (qm_w (gK Γ)) qcl (QF Γ (qm_w (gK Γ)) qcl ovI) (shO (qm_reckons_L52 N k σ x1 x2 x4)) σ 52 [(0, .ref (kq (gK Γ) 18)), (1, .int x1), (2, .long x2), (4, .long x4)] [] := by
  intro k
  induction k with
  | zero => intro σ x1 x2 x4; exact J.none rfl
  | succ k ih =>
    intro σ x1 x2 x4
    rw [qm_reckons_L52]
    refine j_lload_n C d_qm_reckons_52 rfl 2 rfl ?_
    refine cs_qm C (mc_qm_kindOf (gl Γ) (gK Γ) x2) qm_kindOf_I k_1000 (by decide) d_qm_reckons_53 rfl (rest := []) rfl (Nat.le_of_ble_eq_true rfl) ?_
    refine j_iconst C d_qm_reckons_56 rfl kc_i_4 ?_
    refine j_icmp_ne C d_qm_reckons_57 (tgt := 111) (by decide) rfl (fun c_8 => ?_) (fun c_8 => ?_)
    · refine J.neg shO c_8 ?_
      refine j_aload_n C d_qm_reckons_111 rfl 0 rfl ?_
      refine j_iconst C d_qm_reckons_112 rfl kc_i_0 ?_
      refine j_lload C d_qm_reckons_113 rfl 3 rfl ?_
      refine cs_qm C (mc_qm_made (gl Γ) (gK Γ) (0 : Int32) x4) qm_made_I k_838 (by decide) d_qm_reckons_115 rfl (rest := [.ref (kq (gK Γ) 18)]) rfl (Nat.le_of_ble_eq_true rfl) ?_
      refine cv_qm_qm C (mc_qm_gives (gl Γ) (gK Γ) σ (qm_made (0 : Int32) x4)) qm_gives_I k_1117 (by decide) d_qm_reckons_118 rfl (rest := []) rfl ⟨rfl, Nat.le_of_ble_eq_true rfl⟩ ?_
      exact j_iret C d_qm_reckons_121
    · refine J.pos shO c_8 ?_
      refine j_aload_n C d_qm_reckons_60 rfl 0 rfl ?_
      refine j_lload_n C d_qm_reckons_61 rfl 2 rfl ?_
      refine J.goO (fun r9 h_10 => ?_)
      refine cvr_qm_qm C (mc_qm_carOf (gl Γ) (gK Γ) σ x2 r9 h_10) qm_carOf_I k_1004 (by decide) d_qm_reckons_62 rfl (rest := []) rfl ⟨rfl, Nat.le_of_ble_eq_true rfl⟩ ?_
      refine cs_qm C (mc_qm_whatOf (gl Γ) (gK Γ) r9) qm_whatOf_I k_1012 (by decide) d_qm_reckons_65 rfl (rest := []) rfl (Nat.le_of_ble_eq_true rfl) ?_
      refine j_lstore C (lv' := [(6, .long (qm_whatOf r9)), (0, .ref (kq (gK Γ) 18)), (1, .int x1), (2, .long x2), (4, .long x4)]) d_qm_reckons_68 rfl (by decide) rfl ?_
      refine j_iload_n C d_qm_reckons_70 rfl 2 rfl ?_
      refine j_if_eq C d_qm_reckons_71 (tgt := 82) (by decide) rfl (fun c_11 => ?_) (fun c_11 => ?_)
      · refine J.pos shO c_11 ?_
        refine j_lload C d_qm_reckons_82 rfl 4 rfl ?_
        refine j_lload C d_qm_reckons_84 rfl 0 rfl ?_
        refine cs_qm C (mc_qm_times (gl Γ) (gK Γ) x4 (qm_whatOf r9)) qm_times_I k_1164 (by decide) d_qm_reckons_86 rfl (rest := []) rfl (Nat.le_of_ble_eq_true rfl) ?_
        refine j_lstore C (lv' := [(4, .long (qm_times x4 (qm_whatOf r9))), (6, .long (qm_whatOf r9)), (0, .ref (kq (gK Γ) 18)), (1, .int x1), (2, .long x2)]) d_qm_reckons_89 rfl (by decide) rfl ?_
        refine j_lload C d_qm_reckons_91 rfl 0 rfl ?_
        refine cs_qm C (mc_qm_isIn (gl Γ) (gK Γ) (qm_times x4 (qm_whatOf r9))) qm_isIn_I k_1168 (by decide) d_qm_reckons_93 rfl (rest := []) rfl (Nat.le_of_ble_eq_true rfl) ?_
        refine j_if_ne C d_qm_reckons_96 (tgt := 102) (by decide) rfl (fun c_12 => ?_) (fun c_12 => ?_)
        · refine J.neg shO c_12 ?_
          refine j_aload_n C d_qm_reckons_102 rfl 2 rfl ?_
          refine j_lload_n C d_qm_reckons_103 rfl 4 rfl ?_
          refine J.goO (fun r13 h_14 => ?_)
          refine cvr_qm_qm C (mc_qm_cdrOf (gl Γ) (gK Γ) σ x2 r13 h_14) qm_cdrOf_I k_1015 (by decide) d_qm_reckons_104 rfl (rest := []) rfl ⟨rfl, Nat.le_of_ble_eq_true rfl⟩ ?_
          refine j_lstore_n C (lv' := [(2, .long r13), (4, .long (qm_times x4 (qm_whatOf r9))), (6, .long (qm_whatOf r9)), (0, .ref (kq (gK Γ) 18)), (1, .int x1)]) d_qm_reckons_107 rfl rfl (by decide) rfl ?_
          refine j_goto C d_qm_reckons_108 (tgt := 52) (by decide) ?_
          refine J.loc (lv' := [(0, .ref (kq (gK Γ) 18)), (1, .int x1), (2, .long r13), (4, .long (qm_times x4 (qm_whatOf r9)))]) [3, 4, 0, 1] rfl ?_
          exact ih σ x1 r13 (qm_times x4 (qm_whatOf r9))
        · refine J.pos shO c_12 ?_
          refine j_bipush C d_qm_reckons_99 rfl kc_b_m9 ?_
          exact j_iret C d_qm_reckons_101
      · refine J.neg shO c_11 ?_
        refine j_lload C d_qm_reckons_74 rfl 4 rfl ?_
        refine j_lload C d_qm_reckons_76 rfl 0 rfl ?_
        refine j_ladd C d_qm_reckons_78 rfl ?_
        refine j_goto C d_qm_reckons_79 (tgt := 89) (by decide) ?_
        refine j_lstore C (lv' := [(4, .long (x4 + (qm_whatOf r9))), (6, .long (qm_whatOf r9)), (0, .ref (kq (gK Γ) 18)), (1, .int x1), (2, .long x2)]) d_qm_reckons_89 rfl (by decide) rfl ?_
        refine j_lload C d_qm_reckons_91 rfl 0 rfl ?_
        refine cs_qm C (mc_qm_isIn (gl Γ) (gK Γ) (x4 + (qm_whatOf r9))) qm_isIn_I k_1168 (by decide) d_qm_reckons_93 rfl (rest := []) rfl (Nat.le_of_ble_eq_true rfl) ?_
        refine j_if_ne C d_qm_reckons_96 (tgt := 102) (by decide) rfl (fun c_15 => ?_) (fun c_15 => ?_)
        · refine J.neg shO c_15 ?_
          refine j_aload_n C d_qm_reckons_102 rfl 2 rfl ?_
          refine j_lload_n C d_qm_reckons_103 rfl 4 rfl ?_
          refine J.goO (fun r16 h_17 => ?_)
          refine cvr_qm_qm C (mc_qm_cdrOf (gl Γ) (gK Γ) σ x2 r16 h_17) qm_cdrOf_I k_1015 (by decide) d_qm_reckons_104 rfl (rest := []) rfl ⟨rfl, Nat.le_of_ble_eq_true rfl⟩ ?_
          refine j_lstore_n C (lv' := [(2, .long r16), (4, .long (x4 + (qm_whatOf r9))), (6, .long (qm_whatOf r9)), (0, .ref (kq (gK Γ) 18)), (1, .int x1)]) d_qm_reckons_107 rfl rfl (by decide) rfl ?_
          refine j_goto C d_qm_reckons_108 (tgt := 52) (by decide) ?_
          refine J.loc (lv' := [(0, .ref (kq (gK Γ) 18)), (1, .int x1), (2, .long r16), (4, .long (x4 + (qm_whatOf r9)))]) [3, 4, 0, 1] rfl ?_
          exact ih σ x1 r16 (x4 + (qm_whatOf r9))
        · refine J.pos shO c_15 ?_
          refine j_bipush C d_qm_reckons_99 rfl kc_b_m9 ?_
          exact j_iret C d_qm_reckons_101
theorem w_qm_reckons_L5 {Γ : cx_T} (C : cx_C Γ (qm_w (gK Γ)) qcl qm_R qm_reckons_c 8 (some .int) (3, 65)) (N : Nat) : ∀ (k : Nat) (σ : qm_S) (x1 : Int32) (x2 : Int64), J Γ (qm_w (gK Γ)) qcl (QF Γ (qm_w (gK Γ)) qcl ovI) (shO (qm_reckons_L5 N k σ x1 x2)) σ 5 [(0, .ref (kq (gK Γ) 18)), (1, .int x1), (2, .long x2)] [] := by
  intro k
  induction k with
  | zero => intro σ x1 x2; exact J.none rfl
  | succ k ih =>
    intro σ x1 x2
    rw [qm_reckons_L5]
    refine j_lload_n C d_qm_reckons_5 rfl 2 rfl ?_
    refine cs_qm C (mc_qm_kindOf (gl Γ) (gK Γ) x2) qm_kindOf_I k_1000 (by decide) d_qm_reckons_6 rfl (rest := []) rfl (Nat.le_of_ble_eq_true rfl) ?_
    refine j_iconst C d_qm_reckons_9 rfl kc_i_4 ?_
    refine j_icmp_ne C d_qm_reckons_10 (tgt := 36) (by decide) rfl (fun c_1 => ?_) (fun c_1 => ?_)
    · refine J.neg shO c_1 ?_
      refine j_iload_n C d_qm_reckons_36 rfl 1 rfl ?_
      refine j_if_eq C d_qm_reckons_37 (tgt := 44) (by decide) rfl (fun c_2 => ?_) (fun c_2 => ?_)
      · refine J.pos shO c_2 ?_
        refine j_lconst C d_qm_reckons_44 rfl kc_l_1 ?_
        refine j_lstore C (lv' := [(4, .long (1 : Int64)), (0, .ref (kq (gK Γ) 18)), (1, .int x1), (2, .long x2)]) d_qm_reckons_45 rfl (by decide) rfl ?_
        refine j_aload_n C d_qm_reckons_47 rfl 1 rfl ?_
        refine qm_r_operands C k_862 d_qm_reckons_48 rfl rfl ?_
        refine j_lstore_n C (lv' := [(2, .long (qm_g_operands σ)), (4, .long (1 : Int64)), (0, .ref (kq (gK Γ) 18)), (1, .int x1)]) d_qm_reckons_51 rfl rfl (by decide) rfl ?_
        refine J.loc (lv' := [(0, .ref (kq (gK Γ) 18)), (1, .int x1), (2, .long (qm_g_operands σ)), (4, .long (1 : Int64))]) [2, 3, 0, 1] rfl ?_
        exact w_qm_reckons_L52 C N N σ x1 (qm_g_operands σ) (1 : Int64)
      · refine J.neg shO c_2 ?_
        refine j_lconst C d_qm_reckons_40 rfl kc_l_0 ?_
        refine j_goto C d_qm_reckons_41 (tgt := 45) (by decide) ?_
        refine j_lstore C (lv' := [(4, .long (0 : Int64)), (0, .ref (kq (gK Γ) 18)), (1, .int x1), (2, .long x2)]) d_qm_reckons_45 rfl (by decide) rfl ?_
        refine j_aload_n C d_qm_reckons_47 rfl 1 rfl ?_
        refine qm_r_operands C k_862 d_qm_reckons_48 rfl rfl ?_
        refine j_lstore_n C (lv' := [(2, .long (qm_g_operands σ)), (4, .long (0 : Int64)), (0, .ref (kq (gK Γ) 18)), (1, .int x1)]) d_qm_reckons_51 rfl rfl (by decide) rfl ?_
        refine J.loc (lv' := [(0, .ref (kq (gK Γ) 18)), (1, .int x1), (2, .long (qm_g_operands σ)), (4, .long (0 : Int64))]) [2, 3, 0, 1] rfl ?_
        exact w_qm_reckons_L52 C N N σ x1 (qm_g_operands σ) (0 : Int64)
    · refine J.pos shO c_1 ?_
      refine j_aload_n C d_qm_reckons_13 rfl 0 rfl ?_
      refine j_lload_n C d_qm_reckons_14 rfl 2 rfl ?_
      refine J.goO (fun r3 h_4 => ?_)
      refine cvr_qm_qm C (mc_qm_carOf (gl Γ) (gK Γ) σ x2 r3 h_4) qm_carOf_I k_1004 (by decide) d_qm_reckons_15 rfl (rest := []) rfl ⟨rfl, Nat.le_of_ble_eq_true rfl⟩ ?_
      refine cs_qm C (mc_qm_kindOf (gl Γ) (gK Γ) r3) qm_kindOf_I k_1000 (by decide) d_qm_reckons_18 rfl (rest := []) rfl (Nat.le_of_ble_eq_true rfl) ?_
      refine j_if_eq C d_qm_reckons_21 (tgt := 27) (by decide) rfl (fun c_5 => ?_) (fun c_5 => ?_)
      · refine J.pos shO c_5 ?_
        refine j_aload_n C d_qm_reckons_27 rfl 0 rfl ?_
        refine j_lload_n C d_qm_reckons_28 rfl 2 rfl ?_
        refine J.goO (fun r6 h_7 => ?_)
        refine cvr_qm_qm C (mc_qm_cdrOf (gl Γ) (gK Γ) σ x2 r6 h_7) qm_cdrOf_I k_1015 (by decide) d_qm_reckons_29 rfl (rest := []) rfl ⟨rfl, Nat.le_of_ble_eq_true rfl⟩ ?_
        refine j_lstore_n C (lv' := [(2, .long r6), (0, .ref (kq (gK Γ) 18)), (1, .int x1)]) d_qm_reckons_32 rfl rfl (by decide) rfl ?_
        refine j_goto C d_qm_reckons_33 (tgt := 5) (by decide) ?_
        refine J.loc (lv' := [(0, .ref (kq (gK Γ) 18)), (1, .int x1), (2, .long r6)]) [1, 2, 0] rfl ?_
        exact ih σ x1 r6
      · refine J.neg shO c_5 ?_
        refine j_bipush C d_qm_reckons_24 rfl kc_b_m8 ?_
        exact j_iret C d_qm_reckons_26
theorem w_qm_reckons {Γ : cx_T} (C : cx_C Γ (qm_w (gK Γ)) qcl qm_R qm_reckons_c 8 (some .int) (3, 65)) (N : Nat) (σ : qm_S) (a1 : Int32) : J Γ (qm_w (gK Γ)) qcl (QF Γ (qm_w (gK Γ)) qcl ovI) (shO (qm_reckons N σ a1)) σ 0 [(0, .ref (kq (gK Γ) 18)), (1, .int a1)] [] := by
  unfold qm_reckons
  refine j_aload_n C d_qm_reckons_0 rfl 0 rfl ?_
  refine qm_r_operands C k_862 d_qm_reckons_1 rfl rfl ?_
  refine j_lstore_n C (lv' := [(2, .long (qm_g_operands σ)), (0, .ref (kq (gK Γ) 18)), (1, .int a1)]) d_qm_reckons_4 rfl rfl (by decide) rfl ?_
  refine J.loc (lv' := [(0, .ref (kq (gK Γ) 18)), (1, .int a1), (2, .long (qm_g_operands σ))]) [1, 2, 0] rfl ?_
  exact w_qm_reckons_L5 C N N σ a1 (qm_g_operands σ)
theorem mc_qm_reckons (l : Launch) (K : kk_T) (N : Nat) (σ : qm_S) (a1 : Int32) (r : Int32 × qm_S) (h : qm_reckons N σ a1 = some r) : MC l qm_reckons_y qm_reckons_c 8 (some .int) (3, 65) K (qm_w K) qcl σ [.ref (kq K 18), .int a1] (some (.int r.1)) r.2 := mc_of (ov := ovI) (X := shO (qm_reckons N σ a1)) (by decide +kernel) (Nat.le_of_ble_eq_true rfl) (fun _ => rfl) (by rw [h]; rfl) (fun Γ e1 e2 C => by subst e1; subst e2; exact w_qm_reckons C N σ a1)
theorem qm_reckons_I : ck_V qm_reckons_y qm_reckons_c 8 (some .int) 1 := ⟨k_1163, k_102, by decide +kernel, k_1162, k_84⟩
theorem w_qm_creates {Γ : cx_T} (C : cx_C Γ (qm_w (gK Γ)) qcl qm_R qm_creates_c 6 (some .int) (2, 47)) (σ : qm_S) (a1 : Int32) (a2 : Int64) (a4 : Int64) : J Γ (qm_w (gK Γ)) qcl (QF Γ (qm_w (gK Γ)) qcl ovI) (shO (qm_creates σ a1 a2 a4)) σ 0 [(0, .ref (kq (gK Γ) 18)), (1, .int a1), (2, .long a2), (4, .long a4)] [] := by
  unfold qm_creates
  refine j_aload_n C d_qm_creates_0 rfl 0 rfl ?_
  refine cvr_qm_qm C (mc_qm_isFull (gl Γ) (gK Γ) σ) qm_isFull_I k_1044 (by decide) d_qm_creates_1 rfl (rest := []) rfl ⟨rfl, Nat.le_of_ble_eq_true rfl⟩ ?_
  refine j_if_eq C d_qm_creates_4 (tgt := 12) (by decide) rfl (fun c_1 => ?_) (fun c_1 => ?_)
  · refine J.pos shO c_1 ?_
    refine j_aload_n C d_qm_creates_12 rfl 0 rfl ?_
    refine j_aload_n C d_qm_creates_13 rfl 0 rfl ?_
    refine j_iload_n C d_qm_creates_14 rfl 1 rfl ?_
    refine j_lload_n C d_qm_creates_15 rfl 2 rfl ?_
    refine j_lload C d_qm_creates_16 rfl 3 rfl ?_
    refine J.goO (fun r2 h_3 => ?_)
    refine cv_qm_qm C (mc_qm_adds (gl Γ) (gK Γ) σ a1 a2 a4 r2 h_3) qm_adds_I k_1048 (by decide) d_qm_creates_18 rfl (rest := [.ref (kq (gK Γ) 18)]) rfl ⟨rfl, Nat.le_of_ble_eq_true rfl⟩ ?_
    refine cv_qm_qm C (mc_qm_gives (gl Γ) (gK Γ) r2.2 r2.1) qm_gives_I k_1117 (by decide) d_qm_creates_21 rfl (rest := []) rfl ⟨rfl, Nat.le_of_ble_eq_true rfl⟩ ?_
    exact j_iret C d_qm_creates_24
  · refine J.neg shO c_1 ?_
    refine j_bipush C d_qm_creates_7 rfl kc_b_m5 ?_
    refine j_goto C d_qm_creates_9 (tgt := 24) (by decide) ?_
    exact j_iret C d_qm_creates_24
theorem mc_qm_creates (l : Launch) (K : kk_T) (σ : qm_S) (a1 : Int32) (a2 : Int64) (a4 : Int64) (r : Int32 × qm_S) (h : qm_creates σ a1 a2 a4 = some r) : MC l qm_creates_y qm_creates_c 6 (some .int) (2, 47) K (qm_w K) qcl σ [.ref (kq K 18), .int a1, .long a2, .long a4] (some (.int r.1)) r.2 := mc_of (ov := ovI) (X := shO (qm_creates σ a1 a2 a4)) (by decide +kernel) (Nat.le_of_ble_eq_true rfl) (fun _ => rfl) (by rw [h]; rfl) (fun Γ e1 e2 C => by subst e1; subst e2; exact w_qm_creates C σ a1 a2 a4)
theorem qm_creates_I : ck_V qm_creates_y qm_creates_c 6 (some .int) 3 := ⟨k_1186, k_102, by decide +kernel, k_1185, k_88⟩
theorem w_qm_combinesTwo_B41 {Γ : cx_T} (C : cx_C Γ (qm_w (gK Γ)) qcl qm_R qm_combinesTwo_c 9 (some .int) (3, 72)) (σ : qm_S) (x1 : Int32) (x2 : Int64) (x4 : Int64) (x6 : Int32) (y0 : Int64) : J Γ (qm_w (gK Γ)) qcl (QF Γ (qm_w (gK Γ)) qcl ovI) (shO (qm_combinesTwo_B41 σ x1 x2 x4 x6 y0)) σ 41 [(0, .ref (kq (gK Γ) 18)), (1, .int x1), (2, .long x2), (4, .long x4), (6, .int x6)] [.long y0] := by
  unfold qm_combinesTwo_B41
  refine j_lstore C (lv' := [(7, .long y0), (0, .ref (kq (gK Γ) 18)), (1, .int x1), (2, .long x2), (4, .long x4), (6, .int x6)]) d_qm_combinesTwo_41 rfl (by decide) rfl ?_
  refine j_iload_n C d_qm_combinesTwo_43 rfl 2 rfl ?_
  refine J.cas shO (fun c_4 => ?_) (fun c_4 => ?_)
  · refine j_tblIn C d_qm_combinesTwo_44 (12 : Int32) c_4 (by decide) (by decide) rfl (tgt := 96) (by decide) ?_
    refine j_iload C d_qm_combinesTwo_96 rfl 5 rfl ?_
    refine j_if_ne C d_qm_combinesTwo_98 (tgt := 106) (by decide) rfl (fun c_5 => ?_) (fun c_5 => ?_)
    · refine J.neg shO c_5 ?_
      refine j_lload C d_qm_combinesTwo_106 rfl 0 rfl ?_
      refine cs_qm C (mc_qm_isIn (gl Γ) (gK Γ) y0) qm_isIn_I k_1168 (by decide) d_qm_combinesTwo_108 rfl (rest := []) rfl (Nat.le_of_ble_eq_true rfl) ?_
      refine j_if_eq C d_qm_combinesTwo_111 (tgt := 127) (by decide) rfl (fun c_6 => ?_) (fun c_6 => ?_)
      · refine J.pos shO c_6 ?_
        refine j_bipush C d_qm_combinesTwo_127 rfl kc_b_m9 ?_
        exact j_iret C d_qm_combinesTwo_129
      · refine J.neg shO c_6 ?_
        refine j_aload_n C d_qm_combinesTwo_114 rfl 1 rfl ?_
        refine j_iconst C d_qm_combinesTwo_115 rfl kc_i_0 ?_
        refine j_lload C d_qm_combinesTwo_116 rfl 0 rfl ?_
        refine cs_qm C (mc_qm_made (gl Γ) (gK Γ) (0 : Int32) y0) qm_made_I k_838 (by decide) d_qm_combinesTwo_118 rfl (rest := [.ref (kq (gK Γ) 18)]) rfl (Nat.le_of_ble_eq_true rfl) ?_
        refine cv_qm_qm C (mc_qm_gives (gl Γ) (gK Γ) σ (qm_made (0 : Int32) y0)) qm_gives_I k_1117 (by decide) d_qm_combinesTwo_121 rfl (rest := []) rfl ⟨rfl, Nat.le_of_ble_eq_true rfl⟩ ?_
        refine j_goto C d_qm_combinesTwo_124 (tgt := 129) (by decide) ?_
        exact j_iret C d_qm_combinesTwo_129
    · refine J.pos shO c_5 ?_
      refine j_bipush C d_qm_combinesTwo_101 rfl kc_b_m8 ?_
      refine j_goto C d_qm_combinesTwo_103 (tgt := 129) (by decide) ?_
      exact j_iret C d_qm_combinesTwo_129
  · skip
    refine J.cas shO (fun c_7 => ?_) (fun c_7 => ?_)
    · refine j_tblIn C d_qm_combinesTwo_44 (13 : Int32) c_7 (by decide) (by decide) rfl (tgt := 130) (by decide) ?_
      refine j_iload C d_qm_combinesTwo_130 rfl 5 rfl ?_
      refine j_if_ne C d_qm_combinesTwo_132 (tgt := 140) (by decide) rfl (fun c_8 => ?_) (fun c_8 => ?_)
      · refine J.neg shO c_8 ?_
        refine j_aload_n C d_qm_combinesTwo_140 rfl 1 rfl ?_
        refine j_lload C d_qm_combinesTwo_141 rfl 0 rfl ?_
        refine j_lconst C d_qm_combinesTwo_143 rfl kc_l_0 ?_
        refine j_lcmp_ge C d_qm_combinesTwo_144 d_qm_combinesTwo_145 (tgt := 152) (by decide) rfl (fun c_9 => ?_) (fun c_9 => ?_)
        · refine J.neg shO c_9 ?_
          refine j_iconst C d_qm_combinesTwo_152 rfl kc_i_0 ?_
          refine cs_qm C (mc_qm_truth (gl Γ) (gK Γ) (0 : Int32)) qm_truth_I k_966 (by decide) d_qm_combinesTwo_153 rfl (rest := [.ref (kq (gK Γ) 18)]) rfl (Nat.le_of_ble_eq_true rfl) ?_
          refine cv_qm_qm C (mc_qm_gives (gl Γ) (gK Γ) σ (qm_truth (0 : Int32))) qm_gives_I k_1117 (by decide) d_qm_combinesTwo_156 rfl (rest := []) rfl ⟨rfl, Nat.le_of_ble_eq_true rfl⟩ ?_
          exact j_iret C d_qm_combinesTwo_159
        · refine J.pos shO c_9 ?_
          refine j_iconst C d_qm_combinesTwo_148 rfl kc_i_1 ?_
          refine j_goto C d_qm_combinesTwo_149 (tgt := 153) (by decide) ?_
          refine cs_qm C (mc_qm_truth (gl Γ) (gK Γ) (1 : Int32)) qm_truth_I k_966 (by decide) d_qm_combinesTwo_153 rfl (rest := [.ref (kq (gK Γ) 18)]) rfl (Nat.le_of_ble_eq_true rfl) ?_
          refine cv_qm_qm C (mc_qm_gives (gl Γ) (gK Γ) σ (qm_truth (1 : Int32))) qm_gives_I k_1117 (by decide) d_qm_combinesTwo_156 rfl (rest := []) rfl ⟨rfl, Nat.le_of_ble_eq_true rfl⟩ ?_
          exact j_iret C d_qm_combinesTwo_159
      · refine J.pos shO c_8 ?_
        refine j_bipush C d_qm_combinesTwo_135 rfl kc_b_m8 ?_
        refine j_goto C d_qm_combinesTwo_137 (tgt := 159) (by decide) ?_
        exact j_iret C d_qm_combinesTwo_159
    · skip
      refine J.cas shO (fun c_10 => ?_) (fun c_10 => ?_)
      · refine j_tblIn C d_qm_combinesTwo_44 (14 : Int32) c_10 (by decide) (by decide) rfl (tgt := 160) (by decide) ?_
        refine j_aload_n C d_qm_combinesTwo_160 rfl 1 rfl ?_
        refine j_lload_n C d_qm_combinesTwo_161 rfl 3 rfl ?_
        refine j_lload C d_qm_combinesTwo_162 rfl 4 rfl ?_
        refine j_lcmp_ne C d_qm_combinesTwo_164 d_qm_combinesTwo_165 (tgt := 172) (by decide) rfl (fun c_11 => ?_) (fun c_11 => ?_)
        · refine J.neg shO c_11 ?_
          refine j_iconst C d_qm_combinesTwo_172 rfl kc_i_0 ?_
          refine cs_qm C (mc_qm_truth (gl Γ) (gK Γ) (0 : Int32)) qm_truth_I k_966 (by decide) d_qm_combinesTwo_173 rfl (rest := [.ref (kq (gK Γ) 18)]) rfl (Nat.le_of_ble_eq_true rfl) ?_
          refine cv_qm_qm C (mc_qm_gives (gl Γ) (gK Γ) σ (qm_truth (0 : Int32))) qm_gives_I k_1117 (by decide) d_qm_combinesTwo_176 rfl (rest := []) rfl ⟨rfl, Nat.le_of_ble_eq_true rfl⟩ ?_
          exact j_iret C d_qm_combinesTwo_179
        · refine J.pos shO c_11 ?_
          refine j_iconst C d_qm_combinesTwo_168 rfl kc_i_1 ?_
          refine j_goto C d_qm_combinesTwo_169 (tgt := 173) (by decide) ?_
          refine cs_qm C (mc_qm_truth (gl Γ) (gK Γ) (1 : Int32)) qm_truth_I k_966 (by decide) d_qm_combinesTwo_173 rfl (rest := [.ref (kq (gK Γ) 18)]) rfl (Nat.le_of_ble_eq_true rfl) ?_
          refine cv_qm_qm C (mc_qm_gives (gl Γ) (gK Γ) σ (qm_truth (1 : Int32))) qm_gives_I k_1117 (by decide) d_qm_combinesTwo_176 rfl (rest := []) rfl ⟨rfl, Nat.le_of_ble_eq_true rfl⟩ ?_
          exact j_iret C d_qm_combinesTwo_179
      · skip
        refine J.cas shO (fun c_12 => ?_) (fun c_12 => ?_)
        · refine j_tblIn C d_qm_combinesTwo_44 (15 : Int32) c_12 (by decide) (by decide) rfl (tgt := 180) (by decide) ?_
          refine j_aload_n C d_qm_combinesTwo_180 rfl 1 rfl ?_
          refine j_iconst C d_qm_combinesTwo_181 rfl kc_i_4 ?_
          refine j_lload_n C d_qm_combinesTwo_182 rfl 3 rfl ?_
          refine j_lload C d_qm_combinesTwo_183 rfl 4 rfl ?_
          refine J.goO (fun r13 h_14 => ?_)
          refine cv_qm_qm C (mc_qm_creates (gl Γ) (gK Γ) σ (4 : Int32) x2 x4 r13 h_14) qm_creates_I k_1183 (by decide) d_qm_combinesTwo_185 rfl (rest := []) rfl ⟨rfl, Nat.le_of_ble_eq_true rfl⟩ ?_
          exact j_iret C d_qm_combinesTwo_188
        · skip
          refine J.cas shO (fun c_15 => ?_) (fun c_15 => ?_)
          · refine j_tblIn C d_qm_combinesTwo_44 (16 : Int32) c_15 (by decide) (by decide) rfl (tgt := 212) (by decide) ?_
            refine j_lload_n C d_qm_combinesTwo_212 rfl 3 rfl ?_
            refine cs_qm C (mc_qm_kindOf (gl Γ) (gK Γ) x2) qm_kindOf_I k_1000 (by decide) d_qm_combinesTwo_213 rfl (rest := []) rfl (Nat.le_of_ble_eq_true rfl) ?_
            refine j_bipush C d_qm_combinesTwo_216 rfl kc_b_6 ?_
            refine j_icmp_eq C d_qm_combinesTwo_218 (tgt := 224) (by decide) rfl (fun c_16 => ?_) (fun c_16 => ?_)
            · refine J.pos shO c_16 ?_
              refine j_aload_n C d_qm_combinesTwo_224 rfl 1 rfl ?_
              refine cvr_qm_qm C (mc_qm_isFull (gl Γ) (gK Γ) σ) qm_isFull_I k_1044 (by decide) d_qm_combinesTwo_225 rfl (rest := []) rfl ⟨rfl, Nat.le_of_ble_eq_true rfl⟩ ?_
              refine j_if_eq C d_qm_combinesTwo_228 (tgt := 236) (by decide) rfl (fun c_17 => ?_) (fun c_17 => ?_)
              · refine J.pos shO c_17 ?_
                refine j_aload_n C d_qm_combinesTwo_236 rfl 1 rfl ?_
                refine j_aload_n C d_qm_combinesTwo_237 rfl 1 rfl ?_
                refine j_lload_n C d_qm_combinesTwo_238 rfl 3 rfl ?_
                refine J.goO (fun r18 h_19 => ?_)
                refine cvr_qm_qm C (mc_qm_underOf (gl Γ) (gK Γ) σ x2 r18 h_19) qm_underOf_I k_1019 (by decide) d_qm_combinesTwo_239 rfl (rest := [.ref (kq (gK Γ) 18)]) rfl ⟨rfl, Nat.le_of_ble_eq_true rfl⟩ ?_
                refine j_lload C d_qm_combinesTwo_242 rfl 4 rfl ?_
                refine j_aload_n C d_qm_combinesTwo_244 rfl 1 rfl ?_
                refine j_ldc2 C d_qm_combinesTwo_245 rfl k_837 ?_
                refine J.goO (fun r20 h_21 => ?_)
                refine cv_qm_qm C (mc_qm_addsEnvironment (gl Γ) (gK Γ) σ (-1 : Int64) r20 h_21) qm_addsEnvironment_I k_1175 (by decide) d_qm_combinesTwo_248 rfl (rest := [.long x4, .long r18, .ref (kq (gK Γ) 18)]) rfl ⟨rfl, Nat.le_of_ble_eq_true rfl⟩ ?_
                refine cv_qm_qm C (mc_qm_combines (gl Γ) (gK Γ) r20.2 r18 x4 r20.1) qm_combines_I k_1129 (by decide) d_qm_combinesTwo_251 rfl (rest := []) rfl ⟨rfl, Nat.le_of_ble_eq_true rfl⟩ ?_
                exact j_iret C d_qm_combinesTwo_254
              · refine J.neg shO c_17 ?_
                refine j_bipush C d_qm_combinesTwo_231 rfl kc_b_m5 ?_
                refine j_goto C d_qm_combinesTwo_233 (tgt := 254) (by decide) ?_
                exact j_iret C d_qm_combinesTwo_254
            · refine J.neg shO c_16 ?_
              refine j_bipush C d_qm_combinesTwo_221 rfl kc_b_m8 ?_
              exact j_iret C d_qm_combinesTwo_223
          · skip
            refine J.cas shO (fun c_22 => ?_) (fun c_22 => ?_)
            · refine j_tblIn C d_qm_combinesTwo_44 (17 : Int32) c_22 (by decide) (by decide) rfl (tgt := 212) (by decide) ?_
              refine j_lload_n C d_qm_combinesTwo_212 rfl 3 rfl ?_
              refine cs_qm C (mc_qm_kindOf (gl Γ) (gK Γ) x2) qm_kindOf_I k_1000 (by decide) d_qm_combinesTwo_213 rfl (rest := []) rfl (Nat.le_of_ble_eq_true rfl) ?_
              refine j_bipush C d_qm_combinesTwo_216 rfl kc_b_6 ?_
              refine j_icmp_eq C d_qm_combinesTwo_218 (tgt := 224) (by decide) rfl (fun c_23 => ?_) (fun c_23 => ?_)
              · refine J.pos shO c_23 ?_
                refine j_aload_n C d_qm_combinesTwo_224 rfl 1 rfl ?_
                refine cvr_qm_qm C (mc_qm_isFull (gl Γ) (gK Γ) σ) qm_isFull_I k_1044 (by decide) d_qm_combinesTwo_225 rfl (rest := []) rfl ⟨rfl, Nat.le_of_ble_eq_true rfl⟩ ?_
                refine j_if_eq C d_qm_combinesTwo_228 (tgt := 236) (by decide) rfl (fun c_24 => ?_) (fun c_24 => ?_)
                · refine J.pos shO c_24 ?_
                  refine j_aload_n C d_qm_combinesTwo_236 rfl 1 rfl ?_
                  refine j_aload_n C d_qm_combinesTwo_237 rfl 1 rfl ?_
                  refine j_lload_n C d_qm_combinesTwo_238 rfl 3 rfl ?_
                  refine J.goO (fun r25 h_26 => ?_)
                  refine cvr_qm_qm C (mc_qm_underOf (gl Γ) (gK Γ) σ x2 r25 h_26) qm_underOf_I k_1019 (by decide) d_qm_combinesTwo_239 rfl (rest := [.ref (kq (gK Γ) 18)]) rfl ⟨rfl, Nat.le_of_ble_eq_true rfl⟩ ?_
                  refine j_lload C d_qm_combinesTwo_242 rfl 4 rfl ?_
                  refine j_aload_n C d_qm_combinesTwo_244 rfl 1 rfl ?_
                  refine j_ldc2 C d_qm_combinesTwo_245 rfl k_837 ?_
                  refine J.goO (fun r27 h_28 => ?_)
                  refine cv_qm_qm C (mc_qm_addsEnvironment (gl Γ) (gK Γ) σ (-1 : Int64) r27 h_28) qm_addsEnvironment_I k_1175 (by decide) d_qm_combinesTwo_248 rfl (rest := [.long x4, .long r25, .ref (kq (gK Γ) 18)]) rfl ⟨rfl, Nat.le_of_ble_eq_true rfl⟩ ?_
                  refine cv_qm_qm C (mc_qm_combines (gl Γ) (gK Γ) r27.2 r25 x4 r27.1) qm_combines_I k_1129 (by decide) d_qm_combinesTwo_251 rfl (rest := []) rfl ⟨rfl, Nat.le_of_ble_eq_true rfl⟩ ?_
                  exact j_iret C d_qm_combinesTwo_254
                · refine J.neg shO c_24 ?_
                  refine j_bipush C d_qm_combinesTwo_231 rfl kc_b_m5 ?_
                  refine j_goto C d_qm_combinesTwo_233 (tgt := 254) (by decide) ?_
                  exact j_iret C d_qm_combinesTwo_254
              · refine J.neg shO c_23 ?_
                refine j_bipush C d_qm_combinesTwo_221 rfl kc_b_m8 ?_
                exact j_iret C d_qm_combinesTwo_223
            · skip
              refine J.cas shO (fun c_29 => ?_) (fun c_29 => ?_)
              · refine j_tblIn C d_qm_combinesTwo_44 (18 : Int32) c_29 (by decide) (by decide) rfl (tgt := 212) (by decide) ?_
                refine j_lload_n C d_qm_combinesTwo_212 rfl 3 rfl ?_
                refine cs_qm C (mc_qm_kindOf (gl Γ) (gK Γ) x2) qm_kindOf_I k_1000 (by decide) d_qm_combinesTwo_213 rfl (rest := []) rfl (Nat.le_of_ble_eq_true rfl) ?_
                refine j_bipush C d_qm_combinesTwo_216 rfl kc_b_6 ?_
                refine j_icmp_eq C d_qm_combinesTwo_218 (tgt := 224) (by decide) rfl (fun c_30 => ?_) (fun c_30 => ?_)
                · refine J.pos shO c_30 ?_
                  refine j_aload_n C d_qm_combinesTwo_224 rfl 1 rfl ?_
                  refine cvr_qm_qm C (mc_qm_isFull (gl Γ) (gK Γ) σ) qm_isFull_I k_1044 (by decide) d_qm_combinesTwo_225 rfl (rest := []) rfl ⟨rfl, Nat.le_of_ble_eq_true rfl⟩ ?_
                  refine j_if_eq C d_qm_combinesTwo_228 (tgt := 236) (by decide) rfl (fun c_31 => ?_) (fun c_31 => ?_)
                  · refine J.pos shO c_31 ?_
                    refine j_aload_n C d_qm_combinesTwo_236 rfl 1 rfl ?_
                    refine j_aload_n C d_qm_combinesTwo_237 rfl 1 rfl ?_
                    refine j_lload_n C d_qm_combinesTwo_238 rfl 3 rfl ?_
                    refine J.goO (fun r32 h_33 => ?_)
                    refine cvr_qm_qm C (mc_qm_underOf (gl Γ) (gK Γ) σ x2 r32 h_33) qm_underOf_I k_1019 (by decide) d_qm_combinesTwo_239 rfl (rest := [.ref (kq (gK Γ) 18)]) rfl ⟨rfl, Nat.le_of_ble_eq_true rfl⟩ ?_
                    refine j_lload C d_qm_combinesTwo_242 rfl 4 rfl ?_
                    refine j_aload_n C d_qm_combinesTwo_244 rfl 1 rfl ?_
                    refine j_ldc2 C d_qm_combinesTwo_245 rfl k_837 ?_
                    refine J.goO (fun r34 h_35 => ?_)
                    refine cv_qm_qm C (mc_qm_addsEnvironment (gl Γ) (gK Γ) σ (-1 : Int64) r34 h_35) qm_addsEnvironment_I k_1175 (by decide) d_qm_combinesTwo_248 rfl (rest := [.long x4, .long r32, .ref (kq (gK Γ) 18)]) rfl ⟨rfl, Nat.le_of_ble_eq_true rfl⟩ ?_
                    refine cv_qm_qm C (mc_qm_combines (gl Γ) (gK Γ) r34.2 r32 x4 r34.1) qm_combines_I k_1129 (by decide) d_qm_combinesTwo_251 rfl (rest := []) rfl ⟨rfl, Nat.le_of_ble_eq_true rfl⟩ ?_
                    exact j_iret C d_qm_combinesTwo_254
                  · refine J.neg shO c_31 ?_
                    refine j_bipush C d_qm_combinesTwo_231 rfl kc_b_m5 ?_
                    refine j_goto C d_qm_combinesTwo_233 (tgt := 254) (by decide) ?_
                    exact j_iret C d_qm_combinesTwo_254
                · refine J.neg shO c_30 ?_
                  refine j_bipush C d_qm_combinesTwo_221 rfl kc_b_m8 ?_
                  exact j_iret C d_qm_combinesTwo_223
              · skip
                refine J.cas shO (fun c_36 => ?_) (fun c_36 => ?_)
                · refine j_tblIn C d_qm_combinesTwo_44 (19 : Int32) c_36 (by decide) (by decide) rfl (tgt := 212) (by decide) ?_
                  refine j_lload_n C d_qm_combinesTwo_212 rfl 3 rfl ?_
                  refine cs_qm C (mc_qm_kindOf (gl Γ) (gK Γ) x2) qm_kindOf_I k_1000 (by decide) d_qm_combinesTwo_213 rfl (rest := []) rfl (Nat.le_of_ble_eq_true rfl) ?_
                  refine j_bipush C d_qm_combinesTwo_216 rfl kc_b_6 ?_
                  refine j_icmp_eq C d_qm_combinesTwo_218 (tgt := 224) (by decide) rfl (fun c_37 => ?_) (fun c_37 => ?_)
                  · refine J.pos shO c_37 ?_
                    refine j_aload_n C d_qm_combinesTwo_224 rfl 1 rfl ?_
                    refine cvr_qm_qm C (mc_qm_isFull (gl Γ) (gK Γ) σ) qm_isFull_I k_1044 (by decide) d_qm_combinesTwo_225 rfl (rest := []) rfl ⟨rfl, Nat.le_of_ble_eq_true rfl⟩ ?_
                    refine j_if_eq C d_qm_combinesTwo_228 (tgt := 236) (by decide) rfl (fun c_38 => ?_) (fun c_38 => ?_)
                    · refine J.pos shO c_38 ?_
                      refine j_aload_n C d_qm_combinesTwo_236 rfl 1 rfl ?_
                      refine j_aload_n C d_qm_combinesTwo_237 rfl 1 rfl ?_
                      refine j_lload_n C d_qm_combinesTwo_238 rfl 3 rfl ?_
                      refine J.goO (fun r39 h_40 => ?_)
                      refine cvr_qm_qm C (mc_qm_underOf (gl Γ) (gK Γ) σ x2 r39 h_40) qm_underOf_I k_1019 (by decide) d_qm_combinesTwo_239 rfl (rest := [.ref (kq (gK Γ) 18)]) rfl ⟨rfl, Nat.le_of_ble_eq_true rfl⟩ ?_
                      refine j_lload C d_qm_combinesTwo_242 rfl 4 rfl ?_
                      refine j_aload_n C d_qm_combinesTwo_244 rfl 1 rfl ?_
                      refine j_ldc2 C d_qm_combinesTwo_245 rfl k_837 ?_
                      refine J.goO (fun r41 h_42 => ?_)
                      refine cv_qm_qm C (mc_qm_addsEnvironment (gl Γ) (gK Γ) σ (-1 : Int64) r41 h_42) qm_addsEnvironment_I k_1175 (by decide) d_qm_combinesTwo_248 rfl (rest := [.long x4, .long r39, .ref (kq (gK Γ) 18)]) rfl ⟨rfl, Nat.le_of_ble_eq_true rfl⟩ ?_
                      refine cv_qm_qm C (mc_qm_combines (gl Γ) (gK Γ) r41.2 r39 x4 r41.1) qm_combines_I k_1129 (by decide) d_qm_combinesTwo_251 rfl (rest := []) rfl ⟨rfl, Nat.le_of_ble_eq_true rfl⟩ ?_
                      exact j_iret C d_qm_combinesTwo_254
                    · refine J.neg shO c_38 ?_
                      refine j_bipush C d_qm_combinesTwo_231 rfl kc_b_m5 ?_
                      refine j_goto C d_qm_combinesTwo_233 (tgt := 254) (by decide) ?_
                      exact j_iret C d_qm_combinesTwo_254
                  · refine J.neg shO c_37 ?_
                    refine j_bipush C d_qm_combinesTwo_221 rfl kc_b_m8 ?_
                    exact j_iret C d_qm_combinesTwo_223
                · skip
                  refine J.cas shO (fun c_43 => ?_) (fun c_43 => ?_)
                  · refine j_tblIn C d_qm_combinesTwo_44 (20 : Int32) c_43 (by decide) (by decide) rfl (tgt := 189) (by decide) ?_
                    refine j_lload C d_qm_combinesTwo_189 rfl 4 rfl ?_
                    refine cs_qm C (mc_qm_kindOf (gl Γ) (gK Γ) x4) qm_kindOf_I k_1000 (by decide) d_qm_combinesTwo_191 rfl (rest := []) rfl (Nat.le_of_ble_eq_true rfl) ?_
                    refine j_bipush C d_qm_combinesTwo_194 rfl kc_b_7 ?_
                    refine j_icmp_eq C d_qm_combinesTwo_196 (tgt := 204) (by decide) rfl (fun c_44 => ?_) (fun c_44 => ?_)
                    · refine J.pos shO c_44 ?_
                      refine j_aload_n C d_qm_combinesTwo_204 rfl 1 rfl ?_
                      refine j_lload_n C d_qm_combinesTwo_205 rfl 3 rfl ?_
                      refine j_lload C d_qm_combinesTwo_206 rfl 4 rfl ?_
                      refine cv_qm_qm C (mc_qm_goesTo (gl Γ) (gK Γ) σ x2 x4) qm_goesTo_I k_1101 (by decide) d_qm_combinesTwo_208 rfl (rest := []) rfl ⟨rfl, Nat.le_of_ble_eq_true rfl⟩ ?_
                      exact j_iret C d_qm_combinesTwo_211
                    · refine J.neg shO c_44 ?_
                      refine j_bipush C d_qm_combinesTwo_199 rfl kc_b_m8 ?_
                      refine j_goto C d_qm_combinesTwo_201 (tgt := 211) (by decide) ?_
                      exact j_iret C d_qm_combinesTwo_211
                  · skip
                    refine j_tblOut C d_qm_combinesTwo_44 (tgt := 212) (by decide) (by have h0 := lv_neT c_4 (a := 12) rfl; have h1 := lv_neT c_7 (a := 13) rfl; have h2 := lv_neT c_10 (a := 14) rfl; have h3 := lv_neT c_12 (a := 15) rfl; have h4 := lv_neT c_15 (a := 16) rfl; have h5 := lv_neT c_22 (a := 17) rfl; have h6 := lv_neT c_29 (a := 18) rfl; have h7 := lv_neT c_36 (a := 19) rfl; have h8 := lv_neT c_43 (a := 20) rfl; omega) ?_
                    refine j_lload_n C d_qm_combinesTwo_212 rfl 3 rfl ?_
                    refine cs_qm C (mc_qm_kindOf (gl Γ) (gK Γ) x2) qm_kindOf_I k_1000 (by decide) d_qm_combinesTwo_213 rfl (rest := []) rfl (Nat.le_of_ble_eq_true rfl) ?_
                    refine j_bipush C d_qm_combinesTwo_216 rfl kc_b_6 ?_
                    refine j_icmp_eq C d_qm_combinesTwo_218 (tgt := 224) (by decide) rfl (fun c_45 => ?_) (fun c_45 => ?_)
                    · refine J.pos shO c_45 ?_
                      refine j_aload_n C d_qm_combinesTwo_224 rfl 1 rfl ?_
                      refine cvr_qm_qm C (mc_qm_isFull (gl Γ) (gK Γ) σ) qm_isFull_I k_1044 (by decide) d_qm_combinesTwo_225 rfl (rest := []) rfl ⟨rfl, Nat.le_of_ble_eq_true rfl⟩ ?_
                      refine j_if_eq C d_qm_combinesTwo_228 (tgt := 236) (by decide) rfl (fun c_46 => ?_) (fun c_46 => ?_)
                      · refine J.pos shO c_46 ?_
                        refine j_aload_n C d_qm_combinesTwo_236 rfl 1 rfl ?_
                        refine j_aload_n C d_qm_combinesTwo_237 rfl 1 rfl ?_
                        refine j_lload_n C d_qm_combinesTwo_238 rfl 3 rfl ?_
                        refine J.goO (fun r47 h_48 => ?_)
                        refine cvr_qm_qm C (mc_qm_underOf (gl Γ) (gK Γ) σ x2 r47 h_48) qm_underOf_I k_1019 (by decide) d_qm_combinesTwo_239 rfl (rest := [.ref (kq (gK Γ) 18)]) rfl ⟨rfl, Nat.le_of_ble_eq_true rfl⟩ ?_
                        refine j_lload C d_qm_combinesTwo_242 rfl 4 rfl ?_
                        refine j_aload_n C d_qm_combinesTwo_244 rfl 1 rfl ?_
                        refine j_ldc2 C d_qm_combinesTwo_245 rfl k_837 ?_
                        refine J.goO (fun r49 h_50 => ?_)
                        refine cv_qm_qm C (mc_qm_addsEnvironment (gl Γ) (gK Γ) σ (-1 : Int64) r49 h_50) qm_addsEnvironment_I k_1175 (by decide) d_qm_combinesTwo_248 rfl (rest := [.long x4, .long r47, .ref (kq (gK Γ) 18)]) rfl ⟨rfl, Nat.le_of_ble_eq_true rfl⟩ ?_
                        refine cv_qm_qm C (mc_qm_combines (gl Γ) (gK Γ) r49.2 r47 x4 r49.1) qm_combines_I k_1129 (by decide) d_qm_combinesTwo_251 rfl (rest := []) rfl ⟨rfl, Nat.le_of_ble_eq_true rfl⟩ ?_
                        exact j_iret C d_qm_combinesTwo_254
                      · refine J.neg shO c_46 ?_
                        refine j_bipush C d_qm_combinesTwo_231 rfl kc_b_m5 ?_
                        refine j_goto C d_qm_combinesTwo_233 (tgt := 254) (by decide) ?_
                        exact j_iret C d_qm_combinesTwo_254
                    · refine J.neg shO c_45 ?_
                      refine j_bipush C d_qm_combinesTwo_221 rfl kc_b_m8 ?_
                      exact j_iret C d_qm_combinesTwo_223
theorem w_qm_combinesTwo_B20 {Γ : cx_T} (C : cx_C Γ (qm_w (gK Γ)) qcl qm_R qm_combinesTwo_c 9 (some .int) (3, 72)) (σ : qm_S) (x1 : Int32) (x2 : Int64) (x4 : Int64) (y0 : Int32) : J Γ (qm_w (gK Γ)) qcl (QF Γ (qm_w (gK Γ)) qcl ovI) (shO (qm_combinesTwo_B20 σ x1 x2 x4 y0)) σ 20 [(0, .ref (kq (gK Γ) 18)), (1, .int x1), (2, .long x2), (4, .long x4)] [.int y0] := by
  unfold qm_combinesTwo_B20
  refine j_istore C (lv' := [(6, .int y0), (0, .ref (kq (gK Γ) 18)), (1, .int x1), (2, .long x2), (4, .long x4)]) d_qm_combinesTwo_20 rfl (by decide) rfl ?_
  refine j_iload C d_qm_combinesTwo_22 rfl 0 rfl ?_
  refine j_if_eq C d_qm_combinesTwo_24 (tgt := 40) (by decide) rfl (fun c_3 => ?_) (fun c_3 => ?_)
  · refine J.pos shO c_3 ?_
    refine j_lconst C d_qm_combinesTwo_40 rfl kc_l_0 ?_
    refine J.loc (lv' := [(0, .ref (kq (gK Γ) 18)), (1, .int x1), (2, .long x2), (4, .long x4), (6, .int y0)]) [1, 2, 3, 4, 0] rfl ?_
    exact w_qm_combinesTwo_B41 C σ x1 x2 x4 y0 (0 : Int64)
  · refine J.neg shO c_3 ?_
    refine j_lload_n C d_qm_combinesTwo_27 rfl 3 rfl ?_
    refine cs_qm C (mc_qm_whatOf (gl Γ) (gK Γ) x2) qm_whatOf_I k_1012 (by decide) d_qm_combinesTwo_28 rfl (rest := []) rfl (Nat.le_of_ble_eq_true rfl) ?_
    refine j_lload C d_qm_combinesTwo_31 rfl 4 rfl ?_
    refine cs_qm C (mc_qm_whatOf (gl Γ) (gK Γ) x4) qm_whatOf_I k_1012 (by decide) d_qm_combinesTwo_33 rfl (rest := [.long (qm_whatOf x2)]) rfl (Nat.le_of_ble_eq_true rfl) ?_
    refine j_lsub C d_qm_combinesTwo_36 rfl ?_
    refine j_goto C d_qm_combinesTwo_37 (tgt := 41) (by decide) ?_
    refine J.loc (lv' := [(0, .ref (kq (gK Γ) 18)), (1, .int x1), (2, .long x2), (4, .long x4), (6, .int y0)]) [1, 2, 3, 4, 0] rfl ?_
    exact w_qm_combinesTwo_B41 C σ x1 x2 x4 y0 ((qm_whatOf x2) - (qm_whatOf x4))
theorem w_qm_combinesTwo {Γ : cx_T} (C : cx_C Γ (qm_w (gK Γ)) qcl qm_R qm_combinesTwo_c 9 (some .int) (3, 72)) (σ : qm_S) (a1 : Int32) (a2 : Int64) (a4 : Int64) : J Γ (qm_w (gK Γ)) qcl (QF Γ (qm_w (gK Γ)) qcl ovI) (shO (qm_combinesTwo σ a1 a2 a4)) σ 0 [(0, .ref (kq (gK Γ) 18)), (1, .int a1), (2, .long a2), (4, .long a4)] [] := by
  unfold qm_combinesTwo
  refine j_lload_n C d_qm_combinesTwo_0 rfl 2 rfl ?_
  refine cs_qm C (mc_qm_kindOf (gl Γ) (gK Γ) a2) qm_kindOf_I k_1000 (by decide) d_qm_combinesTwo_1 rfl (rest := []) rfl (Nat.le_of_ble_eq_true rfl) ?_
  refine j_if_ne C d_qm_combinesTwo_4 (tgt := 19) (by decide) rfl (fun c_1 => ?_) (fun c_1 => ?_)
  · refine J.neg shO c_1 ?_
    refine j_iconst C d_qm_combinesTwo_19 rfl kc_i_0 ?_
    refine J.loc (lv' := [(0, .ref (kq (gK Γ) 18)), (1, .int a1), (2, .long a2), (4, .long a4)]) [0, 1, 2, 3] rfl ?_
    exact w_qm_combinesTwo_B20 C σ a1 a2 a4 (0 : Int32)
  · refine J.pos shO c_1 ?_
    refine j_lload C d_qm_combinesTwo_7 rfl 3 rfl ?_
    refine cs_qm C (mc_qm_kindOf (gl Γ) (gK Γ) a4) qm_kindOf_I k_1000 (by decide) d_qm_combinesTwo_9 rfl (rest := []) rfl (Nat.le_of_ble_eq_true rfl) ?_
    refine j_if_ne C d_qm_combinesTwo_12 (tgt := 19) (by decide) rfl (fun c_2 => ?_) (fun c_2 => ?_)
    · refine J.neg shO c_2 ?_
      refine j_iconst C d_qm_combinesTwo_19 rfl kc_i_0 ?_
      refine J.loc (lv' := [(0, .ref (kq (gK Γ) 18)), (1, .int a1), (2, .long a2), (4, .long a4)]) [0, 1, 2, 3] rfl ?_
      exact w_qm_combinesTwo_B20 C σ a1 a2 a4 (0 : Int32)
    · refine J.pos shO c_2 ?_
      refine j_iconst C d_qm_combinesTwo_15 rfl kc_i_1 ?_
      refine j_goto C d_qm_combinesTwo_16 (tgt := 20) (by decide) ?_
      refine J.loc (lv' := [(0, .ref (kq (gK Γ) 18)), (1, .int a1), (2, .long a2), (4, .long a4)]) [0, 1, 2, 3] rfl ?_
      exact w_qm_combinesTwo_B20 C σ a1 a2 a4 (1 : Int32)
theorem mc_qm_combinesTwo (l : Launch) (K : kk_T) (σ : qm_S) (a1 : Int32) (a2 : Int64) (a4 : Int64) (r : Int32 × qm_S) (h : qm_combinesTwo σ a1 a2 a4 = some r) : MC l qm_combinesTwo_y qm_combinesTwo_c 9 (some .int) (3, 72) K (qm_w K) qcl σ [.ref (kq K 18), .int a1, .long a2, .long a4] (some (.int r.1)) r.2 := mc_of (ov := ovI) (X := shO (qm_combinesTwo σ a1 a2 a4)) (by decide +kernel) (Nat.le_of_ble_eq_true rfl) (fun _ => rfl) (by rw [h]; rfl) (fun Γ e1 e2 C => by subst e1; subst e2; exact w_qm_combinesTwo C σ a1 a2 a4)
theorem qm_combinesTwo_I : ck_V qm_combinesTwo_y qm_combinesTwo_c 9 (some .int) 3 := ⟨k_1182, k_102, by decide +kernel, k_1181, k_87⟩
theorem w_qm_combinesSingle {Γ : cx_T} (C : cx_C Γ (qm_w (gK Γ)) qcl qm_R qm_combinesSingle_c 5 (some .int) (3, 72)) (σ : qm_S) (a1 : Int32) (a2 : Int64) : J Γ (qm_w (gK Γ)) qcl (QF Γ (qm_w (gK Γ)) qcl ovI) (shO (qm_combinesSingle σ a1 a2)) σ 0 [(0, .ref (kq (gK Γ) 18)), (1, .int a1), (2, .long a2)] [] := by
  unfold qm_combinesSingle
  refine j_lload_n C d_qm_combinesSingle_0 rfl 2 rfl ?_
  refine cs_qm C (mc_qm_kindOf (gl Γ) (gK Γ) a2) qm_kindOf_I k_1000 (by decide) d_qm_combinesSingle_1 rfl (rest := []) rfl (Nat.le_of_ble_eq_true rfl) ?_
  refine j_istore C (lv' := [(4, .int (qm_kindOf a2)), (0, .ref (kq (gK Γ) 18)), (1, .int a1), (2, .long a2)]) d_qm_combinesSingle_4 rfl (by decide) rfl ?_
  refine j_iload_n C d_qm_combinesSingle_6 rfl 2 rfl ?_
  refine J.cas shO (fun c_1 => ?_) (fun c_1 => ?_)
  · refine j_tblIn C d_qm_combinesSingle_7 (16 : Int32) c_1 (by decide) (by decide) rfl (tgt := 44) (by decide) ?_
    refine j_iload C d_qm_combinesSingle_44 rfl 0 rfl ?_
    refine j_iconst C d_qm_combinesSingle_46 rfl kc_i_4 ?_
    refine j_icmp_eq C d_qm_combinesSingle_47 (tgt := 55) (by decide) rfl (fun c_2 => ?_) (fun c_2 => ?_)
    · refine J.pos shO c_2 ?_
      refine j_aload_n C d_qm_combinesSingle_55 rfl 1 rfl ?_
      refine j_aload_n C d_qm_combinesSingle_56 rfl 1 rfl ?_
      refine j_lload_n C d_qm_combinesSingle_57 rfl 3 rfl ?_
      refine J.goO (fun r3 h_4 => ?_)
      refine cvr_qm_qm C (mc_qm_carOf (gl Γ) (gK Γ) σ a2 r3 h_4) qm_carOf_I k_1004 (by decide) d_qm_combinesSingle_58 rfl (rest := [.ref (kq (gK Γ) 18)]) rfl ⟨rfl, Nat.le_of_ble_eq_true rfl⟩ ?_
      refine cv_qm_qm C (mc_qm_gives (gl Γ) (gK Γ) σ r3) qm_gives_I k_1117 (by decide) d_qm_combinesSingle_61 rfl (rest := []) rfl ⟨rfl, Nat.le_of_ble_eq_true rfl⟩ ?_
      exact j_iret C d_qm_combinesSingle_64
    · refine J.neg shO c_2 ?_
      refine j_bipush C d_qm_combinesSingle_50 rfl kc_b_m8 ?_
      refine j_goto C d_qm_combinesSingle_52 (tgt := 64) (by decide) ?_
      exact j_iret C d_qm_combinesSingle_64
  · skip
    refine J.cas shO (fun c_5 => ?_) (fun c_5 => ?_)
    · refine j_tblIn C d_qm_combinesSingle_7 (17 : Int32) c_5 (by decide) (by decide) rfl (tgt := 65) (by decide) ?_
      refine j_iload C d_qm_combinesSingle_65 rfl 0 rfl ?_
      refine j_iconst C d_qm_combinesSingle_67 rfl kc_i_4 ?_
      refine j_icmp_eq C d_qm_combinesSingle_68 (tgt := 76) (by decide) rfl (fun c_6 => ?_) (fun c_6 => ?_)
      · refine J.pos shO c_6 ?_
        refine j_aload_n C d_qm_combinesSingle_76 rfl 1 rfl ?_
        refine j_aload_n C d_qm_combinesSingle_77 rfl 1 rfl ?_
        refine j_lload_n C d_qm_combinesSingle_78 rfl 3 rfl ?_
        refine J.goO (fun r7 h_8 => ?_)
        refine cvr_qm_qm C (mc_qm_cdrOf (gl Γ) (gK Γ) σ a2 r7 h_8) qm_cdrOf_I k_1015 (by decide) d_qm_combinesSingle_79 rfl (rest := [.ref (kq (gK Γ) 18)]) rfl ⟨rfl, Nat.le_of_ble_eq_true rfl⟩ ?_
        refine cv_qm_qm C (mc_qm_gives (gl Γ) (gK Γ) σ r7) qm_gives_I k_1117 (by decide) d_qm_combinesSingle_82 rfl (rest := []) rfl ⟨rfl, Nat.le_of_ble_eq_true rfl⟩ ?_
        exact j_iret C d_qm_combinesSingle_85
      · refine J.neg shO c_6 ?_
        refine j_bipush C d_qm_combinesSingle_71 rfl kc_b_m8 ?_
        refine j_goto C d_qm_combinesSingle_73 (tgt := 85) (by decide) ?_
        exact j_iret C d_qm_combinesSingle_85
    · skip
      refine J.cas shO (fun c_9 => ?_) (fun c_9 => ?_)
      · refine j_tblIn C d_qm_combinesSingle_7 (18 : Int32) c_9 (by decide) (by decide) rfl (tgt := 86) (by decide) ?_
        refine j_aload_n C d_qm_combinesSingle_86 rfl 1 rfl ?_
        refine j_iload C d_qm_combinesSingle_87 rfl 0 rfl ?_
        refine j_iconst C d_qm_combinesSingle_89 rfl kc_i_3 ?_
        refine j_icmp_ne C d_qm_combinesSingle_90 (tgt := 97) (by decide) rfl (fun c_10 => ?_) (fun c_10 => ?_)
        · refine J.neg shO c_10 ?_
          refine j_iconst C d_qm_combinesSingle_97 rfl kc_i_0 ?_
          refine cs_qm C (mc_qm_truth (gl Γ) (gK Γ) (0 : Int32)) qm_truth_I k_966 (by decide) d_qm_combinesSingle_98 rfl (rest := [.ref (kq (gK Γ) 18)]) rfl (Nat.le_of_ble_eq_true rfl) ?_
          refine cv_qm_qm C (mc_qm_gives (gl Γ) (gK Γ) σ (qm_truth (0 : Int32))) qm_gives_I k_1117 (by decide) d_qm_combinesSingle_101 rfl (rest := []) rfl ⟨rfl, Nat.le_of_ble_eq_true rfl⟩ ?_
          exact j_iret C d_qm_combinesSingle_104
        · refine J.pos shO c_10 ?_
          refine j_iconst C d_qm_combinesSingle_93 rfl kc_i_1 ?_
          refine j_goto C d_qm_combinesSingle_94 (tgt := 98) (by decide) ?_
          refine cs_qm C (mc_qm_truth (gl Γ) (gK Γ) (1 : Int32)) qm_truth_I k_966 (by decide) d_qm_combinesSingle_98 rfl (rest := [.ref (kq (gK Γ) 18)]) rfl (Nat.le_of_ble_eq_true rfl) ?_
          refine cv_qm_qm C (mc_qm_gives (gl Γ) (gK Γ) σ (qm_truth (1 : Int32))) qm_gives_I k_1117 (by decide) d_qm_combinesSingle_101 rfl (rest := []) rfl ⟨rfl, Nat.le_of_ble_eq_true rfl⟩ ?_
          exact j_iret C d_qm_combinesSingle_104
      · skip
        refine J.cas shO (fun c_11 => ?_) (fun c_11 => ?_)
        · refine j_tblIn C d_qm_combinesSingle_7 (19 : Int32) c_11 (by decide) (by decide) rfl (tgt := 105) (by decide) ?_
          refine j_aload_n C d_qm_combinesSingle_105 rfl 1 rfl ?_
          refine j_iload C d_qm_combinesSingle_106 rfl 0 rfl ?_
          refine j_iconst C d_qm_combinesSingle_108 rfl kc_i_4 ?_
          refine j_icmp_ne C d_qm_combinesSingle_109 (tgt := 116) (by decide) rfl (fun c_12 => ?_) (fun c_12 => ?_)
          · refine J.neg shO c_12 ?_
            refine j_iconst C d_qm_combinesSingle_116 rfl kc_i_0 ?_
            refine cs_qm C (mc_qm_truth (gl Γ) (gK Γ) (0 : Int32)) qm_truth_I k_966 (by decide) d_qm_combinesSingle_117 rfl (rest := [.ref (kq (gK Γ) 18)]) rfl (Nat.le_of_ble_eq_true rfl) ?_
            refine cv_qm_qm C (mc_qm_gives (gl Γ) (gK Γ) σ (qm_truth (0 : Int32))) qm_gives_I k_1117 (by decide) d_qm_combinesSingle_120 rfl (rest := []) rfl ⟨rfl, Nat.le_of_ble_eq_true rfl⟩ ?_
            exact j_iret C d_qm_combinesSingle_123
          · refine J.pos shO c_12 ?_
            refine j_iconst C d_qm_combinesSingle_112 rfl kc_i_1 ?_
            refine j_goto C d_qm_combinesSingle_113 (tgt := 117) (by decide) ?_
            refine cs_qm C (mc_qm_truth (gl Γ) (gK Γ) (1 : Int32)) qm_truth_I k_966 (by decide) d_qm_combinesSingle_117 rfl (rest := [.ref (kq (gK Γ) 18)]) rfl (Nat.le_of_ble_eq_true rfl) ?_
            refine cv_qm_qm C (mc_qm_gives (gl Γ) (gK Γ) σ (qm_truth (1 : Int32))) qm_gives_I k_1117 (by decide) d_qm_combinesSingle_120 rfl (rest := []) rfl ⟨rfl, Nat.le_of_ble_eq_true rfl⟩ ?_
            exact j_iret C d_qm_combinesSingle_123
        · skip
          refine J.cas shO (fun c_13 => ?_) (fun c_13 => ?_)
          · refine j_tblIn C d_qm_combinesSingle_7 (20 : Int32) c_13 (by decide) (by decide) rfl (tgt := 151) (by decide) ?_
            refine j_iload C d_qm_combinesSingle_151 rfl 0 rfl ?_
            refine j_bipush C d_qm_combinesSingle_153 rfl kc_b_6 ?_
            refine j_icmp_eq C d_qm_combinesSingle_155 (tgt := 163) (by decide) rfl (fun c_14 => ?_) (fun c_14 => ?_)
            · refine J.pos shO c_14 ?_
              refine j_aload_n C d_qm_combinesSingle_163 rfl 1 rfl ?_
              refine j_aload_n C d_qm_combinesSingle_164 rfl 1 rfl ?_
              refine j_lload_n C d_qm_combinesSingle_165 rfl 3 rfl ?_
              refine J.goO (fun r15 h_16 => ?_)
              refine cvr_qm_qm C (mc_qm_underOf (gl Γ) (gK Γ) σ a2 r15 h_16) qm_underOf_I k_1019 (by decide) d_qm_combinesSingle_166 rfl (rest := [.ref (kq (gK Γ) 18)]) rfl ⟨rfl, Nat.le_of_ble_eq_true rfl⟩ ?_
              refine cv_qm_qm C (mc_qm_gives (gl Γ) (gK Γ) σ r15) qm_gives_I k_1117 (by decide) d_qm_combinesSingle_169 rfl (rest := []) rfl ⟨rfl, Nat.le_of_ble_eq_true rfl⟩ ?_
              exact j_iret C d_qm_combinesSingle_172
            · refine J.neg shO c_14 ?_
              refine j_bipush C d_qm_combinesSingle_158 rfl kc_b_m8 ?_
              refine j_goto C d_qm_combinesSingle_160 (tgt := 172) (by decide) ?_
              exact j_iret C d_qm_combinesSingle_172
          · skip
            refine J.cas shO (fun c_17 => ?_) (fun c_17 => ?_)
            · refine j_tblIn C d_qm_combinesSingle_7 (21 : Int32) c_17 (by decide) (by decide) rfl (tgt := 124) (by decide) ?_
              refine j_iload C d_qm_combinesSingle_124 rfl 0 rfl ?_
              refine j_iconst C d_qm_combinesSingle_126 rfl kc_i_5 ?_
              refine j_icmp_eq C d_qm_combinesSingle_127 (tgt := 142) (by decide) rfl (fun c_18 => ?_) (fun c_18 => ?_)
              · refine J.pos shO c_18 ?_
                refine j_aload_n C d_qm_combinesSingle_142 rfl 1 rfl ?_
                refine j_bipush C d_qm_combinesSingle_143 rfl kc_b_6 ?_
                refine j_lload_n C d_qm_combinesSingle_145 rfl 3 rfl ?_
                refine j_lconst C d_qm_combinesSingle_146 rfl kc_l_0 ?_
                refine J.goO (fun r19 h_20 => ?_)
                refine cv_qm_qm C (mc_qm_creates (gl Γ) (gK Γ) σ (6 : Int32) a2 (0 : Int64) r19 h_20) qm_creates_I k_1183 (by decide) d_qm_combinesSingle_147 rfl (rest := []) rfl ⟨rfl, Nat.le_of_ble_eq_true rfl⟩ ?_
                exact j_iret C d_qm_combinesSingle_150
              · refine J.neg shO c_18 ?_
                refine j_iload C d_qm_combinesSingle_130 rfl 0 rfl ?_
                refine j_bipush C d_qm_combinesSingle_132 rfl kc_b_6 ?_
                refine j_icmp_eq C d_qm_combinesSingle_134 (tgt := 142) (by decide) rfl (fun c_21 => ?_) (fun c_21 => ?_)
                · refine J.pos shO c_21 ?_
                  refine j_aload_n C d_qm_combinesSingle_142 rfl 1 rfl ?_
                  refine j_bipush C d_qm_combinesSingle_143 rfl kc_b_6 ?_
                  refine j_lload_n C d_qm_combinesSingle_145 rfl 3 rfl ?_
                  refine j_lconst C d_qm_combinesSingle_146 rfl kc_l_0 ?_
                  refine J.goO (fun r22 h_23 => ?_)
                  refine cv_qm_qm C (mc_qm_creates (gl Γ) (gK Γ) σ (6 : Int32) a2 (0 : Int64) r22 h_23) qm_creates_I k_1183 (by decide) d_qm_combinesSingle_147 rfl (rest := []) rfl ⟨rfl, Nat.le_of_ble_eq_true rfl⟩ ?_
                  exact j_iret C d_qm_combinesSingle_150
                · refine J.neg shO c_21 ?_
                  refine j_bipush C d_qm_combinesSingle_137 rfl kc_b_m8 ?_
                  refine j_goto C d_qm_combinesSingle_139 (tgt := 150) (by decide) ?_
                  exact j_iret C d_qm_combinesSingle_150
            · skip
              refine j_tblOut C d_qm_combinesSingle_7 (tgt := 151) (by decide) (by have h0 := lv_neT c_1 (a := 16) rfl; have h1 := lv_neT c_5 (a := 17) rfl; have h2 := lv_neT c_9 (a := 18) rfl; have h3 := lv_neT c_11 (a := 19) rfl; have h4 := lv_neT c_13 (a := 20) rfl; have h5 := lv_neT c_17 (a := 21) rfl; omega) ?_
              refine j_iload C d_qm_combinesSingle_151 rfl 0 rfl ?_
              refine j_bipush C d_qm_combinesSingle_153 rfl kc_b_6 ?_
              refine j_icmp_eq C d_qm_combinesSingle_155 (tgt := 163) (by decide) rfl (fun c_24 => ?_) (fun c_24 => ?_)
              · refine J.pos shO c_24 ?_
                refine j_aload_n C d_qm_combinesSingle_163 rfl 1 rfl ?_
                refine j_aload_n C d_qm_combinesSingle_164 rfl 1 rfl ?_
                refine j_lload_n C d_qm_combinesSingle_165 rfl 3 rfl ?_
                refine J.goO (fun r25 h_26 => ?_)
                refine cvr_qm_qm C (mc_qm_underOf (gl Γ) (gK Γ) σ a2 r25 h_26) qm_underOf_I k_1019 (by decide) d_qm_combinesSingle_166 rfl (rest := [.ref (kq (gK Γ) 18)]) rfl ⟨rfl, Nat.le_of_ble_eq_true rfl⟩ ?_
                refine cv_qm_qm C (mc_qm_gives (gl Γ) (gK Γ) σ r25) qm_gives_I k_1117 (by decide) d_qm_combinesSingle_169 rfl (rest := []) rfl ⟨rfl, Nat.le_of_ble_eq_true rfl⟩ ?_
                exact j_iret C d_qm_combinesSingle_172
              · refine J.neg shO c_24 ?_
                refine j_bipush C d_qm_combinesSingle_158 rfl kc_b_m8 ?_
                refine j_goto C d_qm_combinesSingle_160 (tgt := 172) (by decide) ?_
                exact j_iret C d_qm_combinesSingle_172
theorem mc_qm_combinesSingle (l : Launch) (K : kk_T) (σ : qm_S) (a1 : Int32) (a2 : Int64) (r : Int32 × qm_S) (h : qm_combinesSingle σ a1 a2 = some r) : MC l qm_combinesSingle_y qm_combinesSingle_c 5 (some .int) (3, 72) K (qm_w K) qcl σ [.ref (kq K 18), .int a1, .long a2] (some (.int r.1)) r.2 := mc_of (ov := ovI) (X := shO (qm_combinesSingle σ a1 a2)) (by decide +kernel) (Nat.le_of_ble_eq_true rfl) (fun _ => rfl) (by rw [h]; rfl) (fun Γ e1 e2 C => by subst e1; subst e2; exact w_qm_combinesSingle C σ a1 a2)
theorem qm_combinesSingle_I : ck_V qm_combinesSingle_y qm_combinesSingle_c 5 (some .int) 2 := ⟨k_1190, k_102, by decide +kernel, k_1189, k_89⟩
theorem w_qm_createsEnvironment_B29 {Γ : cx_T} (C : cx_C Γ (qm_w (gK Γ)) qcl qm_R qm_createsEnvironment_c 2 (some .int) (3, 69)) (σ : qm_S) (x1 : Int32) : J Γ (qm_w (gK Γ)) qcl (QF Γ (qm_w (gK Γ)) qcl ovI) (shO (qm_createsEnvironment_B29 σ x1)) σ 29 [(0, .ref (kq (gK Γ) 18)), (1, .int x1)] [] := by
  unfold qm_createsEnvironment_B29
  refine j_aload_n C d_qm_createsEnvironment_29 rfl 0 rfl ?_
  refine cvr_qm_qm C (mc_qm_isFull (gl Γ) (gK Γ) σ) qm_isFull_I k_1044 (by decide) d_qm_createsEnvironment_30 rfl (rest := []) rfl ⟨rfl, Nat.le_of_ble_eq_true rfl⟩ ?_
  refine j_if_eq C d_qm_createsEnvironment_33 (tgt := 41) (by decide) rfl (fun c_6 => ?_) (fun c_6 => ?_)
  · refine J.pos shO c_6 ?_
    refine j_aload_n C d_qm_createsEnvironment_41 rfl 0 rfl ?_
    refine j_aload_n C d_qm_createsEnvironment_42 rfl 0 rfl ?_
    refine j_iload_n C d_qm_createsEnvironment_43 rfl 1 rfl ?_
    refine j_iconst C d_qm_createsEnvironment_44 rfl kc_i_1 ?_
    refine j_icmp_ne C d_qm_createsEnvironment_45 (tgt := 59) (by decide) rfl (fun c_7 => ?_) (fun c_7 => ?_)
    · refine J.neg shO c_7 ?_
      refine j_ldc2 C d_qm_createsEnvironment_59 rfl k_837 ?_
      refine J.goO (fun r8 h_9 => ?_)
      refine cv_qm_qm C (mc_qm_addsEnvironment (gl Γ) (gK Γ) σ (-1 : Int64) r8 h_9) qm_addsEnvironment_I k_1175 (by decide) d_qm_createsEnvironment_62 rfl (rest := [.ref (kq (gK Γ) 18)]) rfl ⟨rfl, Nat.le_of_ble_eq_true rfl⟩ ?_
      refine cv_qm_qm C (mc_qm_gives (gl Γ) (gK Γ) r8.2 r8.1) qm_gives_I k_1117 (by decide) d_qm_createsEnvironment_65 rfl (rest := []) rfl ⟨rfl, Nat.le_of_ble_eq_true rfl⟩ ?_
      exact j_iret C d_qm_createsEnvironment_68
    · refine J.pos shO c_7 ?_
      refine j_aload_n C d_qm_createsEnvironment_48 rfl 0 rfl ?_
      refine j_aload_n C d_qm_createsEnvironment_49 rfl 0 rfl ?_
      refine qm_r_operands C k_862 d_qm_createsEnvironment_50 rfl rfl ?_
      refine J.goO (fun r10 h_11 => ?_)
      refine cvr_qm_qm C (mc_qm_carOf (gl Γ) (gK Γ) σ (qm_g_operands σ) r10 h_11) qm_carOf_I k_1004 (by decide) d_qm_createsEnvironment_53 rfl (rest := [.ref (kq (gK Γ) 18), .ref (kq (gK Γ) 18)]) rfl ⟨rfl, Nat.le_of_ble_eq_true rfl⟩ ?_
      refine j_goto C d_qm_createsEnvironment_56 (tgt := 62) (by decide) ?_
      refine J.goO (fun r12 h_13 => ?_)
      refine cv_qm_qm C (mc_qm_addsEnvironment (gl Γ) (gK Γ) σ r10 r12 h_13) qm_addsEnvironment_I k_1175 (by decide) d_qm_createsEnvironment_62 rfl (rest := [.ref (kq (gK Γ) 18)]) rfl ⟨rfl, Nat.le_of_ble_eq_true rfl⟩ ?_
      refine cv_qm_qm C (mc_qm_gives (gl Γ) (gK Γ) r12.2 r12.1) qm_gives_I k_1117 (by decide) d_qm_createsEnvironment_65 rfl (rest := []) rfl ⟨rfl, Nat.le_of_ble_eq_true rfl⟩ ?_
      exact j_iret C d_qm_createsEnvironment_68
  · refine J.neg shO c_6 ?_
    refine j_bipush C d_qm_createsEnvironment_36 rfl kc_b_m5 ?_
    refine j_goto C d_qm_createsEnvironment_38 (tgt := 68) (by decide) ?_
    exact j_iret C d_qm_createsEnvironment_68
theorem w_qm_createsEnvironment {Γ : cx_T} (C : cx_C Γ (qm_w (gK Γ)) qcl qm_R qm_createsEnvironment_c 2 (some .int) (3, 69)) (σ : qm_S) (a1 : Int32) : J Γ (qm_w (gK Γ)) qcl (QF Γ (qm_w (gK Γ)) qcl ovI) (shO (qm_createsEnvironment σ a1)) σ 0 [(0, .ref (kq (gK Γ) 18)), (1, .int a1)] [] := by
  unfold qm_createsEnvironment
  refine j_iload_n C d_qm_createsEnvironment_0 rfl 1 rfl ?_
  refine j_iconst C d_qm_createsEnvironment_1 rfl kc_i_1 ?_
  refine j_icmp_gt C d_qm_createsEnvironment_2 (tgt := 26) (by decide) rfl (fun c_1 => ?_) (fun c_1 => ?_)
  · refine J.pos shO c_1 ?_
    refine j_bipush C d_qm_createsEnvironment_26 rfl kc_b_m8 ?_
    exact j_iret C d_qm_createsEnvironment_28
  · refine J.neg shO c_1 ?_
    refine j_iload_n C d_qm_createsEnvironment_5 rfl 1 rfl ?_
    refine j_iconst C d_qm_createsEnvironment_6 rfl kc_i_1 ?_
    refine j_icmp_ne C d_qm_createsEnvironment_7 (tgt := 29) (by decide) rfl (fun c_2 => ?_) (fun c_2 => ?_)
    · refine J.neg shO c_2 ?_
      refine J.loc (lv' := [(0, .ref (kq (gK Γ) 18)), (1, .int a1)]) [0, 1] rfl ?_
      exact w_qm_createsEnvironment_B29 C σ a1
    · refine J.pos shO c_2 ?_
      refine j_aload_n C d_qm_createsEnvironment_10 rfl 0 rfl ?_
      refine j_aload_n C d_qm_createsEnvironment_11 rfl 0 rfl ?_
      refine qm_r_operands C k_862 d_qm_createsEnvironment_12 rfl rfl ?_
      refine J.goO (fun r3 h_4 => ?_)
      refine cvr_qm_qm C (mc_qm_carOf (gl Γ) (gK Γ) σ (qm_g_operands σ) r3 h_4) qm_carOf_I k_1004 (by decide) d_qm_createsEnvironment_15 rfl (rest := []) rfl ⟨rfl, Nat.le_of_ble_eq_true rfl⟩ ?_
      refine cs_qm C (mc_qm_kindOf (gl Γ) (gK Γ) r3) qm_kindOf_I k_1000 (by decide) d_qm_createsEnvironment_18 rfl (rest := []) rfl (Nat.le_of_ble_eq_true rfl) ?_
      refine j_bipush C d_qm_createsEnvironment_21 rfl kc_b_7 ?_
      refine j_icmp_eq C d_qm_createsEnvironment_23 (tgt := 29) (by decide) rfl (fun c_5 => ?_) (fun c_5 => ?_)
      · refine J.pos shO c_5 ?_
        refine J.loc (lv' := [(0, .ref (kq (gK Γ) 18)), (1, .int a1)]) [0, 1] rfl ?_
        exact w_qm_createsEnvironment_B29 C σ a1
      · refine J.neg shO c_5 ?_
        refine j_bipush C d_qm_createsEnvironment_26 rfl kc_b_m8 ?_
        exact j_iret C d_qm_createsEnvironment_28
theorem mc_qm_createsEnvironment (l : Launch) (K : kk_T) (σ : qm_S) (a1 : Int32) (r : Int32 × qm_S) (h : qm_createsEnvironment σ a1 = some r) : MC l qm_createsEnvironment_y qm_createsEnvironment_c 2 (some .int) (3, 69) K (qm_w K) qcl σ [.ref (kq K 18), .int a1] (some (.int r.1)) r.2 := mc_of (ov := ovI) (X := shO (qm_createsEnvironment σ a1)) (by decide +kernel) (Nat.le_of_ble_eq_true rfl) (fun _ => rfl) (by rw [h]; rfl) (fun Γ e1 e2 C => by subst e1; subst e2; exact w_qm_createsEnvironment C σ a1)
theorem qm_createsEnvironment_I : ck_V qm_createsEnvironment_y qm_createsEnvironment_c 2 (some .int) 1 := ⟨k_1174, k_102, by decide +kernel, k_1173, k_85⟩
theorem w_qm_combinesPrimitive_B118 {Γ : cx_T} (C : cx_C Γ (qm_w (gK Γ)) qcl qm_R qm_combinesPrimitive_c 6 (some .int) (6, 149)) (N : Nat) (σ : qm_S) (x1 : Int32) (x3 : Int32) (y0 : Int32) (y1 : Int32) : J Γ (qm_w (gK Γ)) qcl (QF Γ (qm_w (gK Γ)) qcl ovI) (shO (qm_combinesPrimitive_B118 N σ x1 x3 y0 y1)) σ 118 [(0, .ref (kq (gK Γ) 18)), (1, .int x1), (3, .int x3)] [.int y0, .int y1] := by
  unfold qm_combinesPrimitive_B118
  refine j_icmp_eq C d_qm_combinesPrimitive_118 (tgt := 124) (by decide) rfl (fun c_27 => ?_) (fun c_27 => ?_)
  · refine J.pos shO c_27 ?_
    refine j_aload_n C d_qm_combinesPrimitive_124 rfl 0 rfl ?_
    refine j_aload_n C d_qm_combinesPrimitive_125 rfl 0 rfl ?_
    refine qm_r_operands C k_862 d_qm_combinesPrimitive_126 rfl rfl ?_
    refine J.goO (fun r28 h_29 => ?_)
    refine cvr_qm_qm C (mc_qm_carOf (gl Γ) (gK Γ) σ (qm_g_operands σ) r28 h_29) qm_carOf_I k_1004 (by decide) d_qm_combinesPrimitive_129 rfl (rest := []) rfl ⟨rfl, Nat.le_of_ble_eq_true rfl⟩ ?_
    refine j_lstore C (lv' := [(4, .long r28), (0, .ref (kq (gK Γ) 18)), (1, .int x1), (3, .int x3)]) d_qm_combinesPrimitive_132 rfl (by decide) rfl ?_
    refine j_iload_n C d_qm_combinesPrimitive_134 rfl 3 rfl ?_
    refine j_if_eq C d_qm_combinesPrimitive_135 (tgt := 157) (by decide) rfl (fun c_30 => ?_) (fun c_30 => ?_)
    · refine J.pos shO c_30 ?_
      refine j_aload_n C d_qm_combinesPrimitive_157 rfl 1 rfl ?_
      refine j_iload_n C d_qm_combinesPrimitive_158 rfl 2 rfl ?_
      refine j_lload C d_qm_combinesPrimitive_159 rfl 0 rfl ?_
      refine J.goO (fun r31 h_32 => ?_)
      refine cv_qm_qm C (mc_qm_combinesSingle (gl Γ) (gK Γ) σ x1 r28 r31 h_32) qm_combinesSingle_I k_1187 (by decide) d_qm_combinesPrimitive_161 rfl (rest := []) rfl ⟨rfl, Nat.le_of_ble_eq_true rfl⟩ ?_
      exact j_iret C d_qm_combinesPrimitive_164
    · refine J.neg shO c_30 ?_
      refine j_aload_n C d_qm_combinesPrimitive_138 rfl 1 rfl ?_
      refine j_iload_n C d_qm_combinesPrimitive_139 rfl 2 rfl ?_
      refine j_lload C d_qm_combinesPrimitive_140 rfl 0 rfl ?_
      refine j_aload_n C d_qm_combinesPrimitive_142 rfl 1 rfl ?_
      refine j_aload_n C d_qm_combinesPrimitive_143 rfl 1 rfl ?_
      refine qm_r_operands C k_862 d_qm_combinesPrimitive_144 rfl rfl ?_
      refine j_iconst C d_qm_combinesPrimitive_147 rfl kc_i_1 ?_
      refine J.goO (fun r33 h_34 => ?_)
      refine cvr_qm_qm C (mc_qm_elementOf (gl Γ) (gK Γ) N σ (qm_g_operands σ) (1 : Int32) r33 h_34) qm_elementOf_I k_1141 (by decide) d_qm_combinesPrimitive_148 rfl (rest := [.long r28, .int x1, .ref (kq (gK Γ) 18)]) rfl ⟨rfl, Nat.le_of_ble_eq_true rfl⟩ ?_
      refine J.goO (fun r35 h_36 => ?_)
      refine cv_qm_qm C (mc_qm_combinesTwo (gl Γ) (gK Γ) σ x1 r28 r33 r35 h_36) qm_combinesTwo_I k_1179 (by decide) d_qm_combinesPrimitive_151 rfl (rest := []) rfl ⟨rfl, Nat.le_of_ble_eq_true rfl⟩ ?_
      refine j_goto C d_qm_combinesPrimitive_154 (tgt := 164) (by decide) ?_
      exact j_iret C d_qm_combinesPrimitive_164
  · refine J.neg shO c_27 ?_
    refine j_bipush C d_qm_combinesPrimitive_121 rfl kc_b_m8 ?_
    exact j_iret C d_qm_combinesPrimitive_123
theorem w_qm_combinesPrimitive_B102 {Γ : cx_T} (C : cx_C Γ (qm_w (gK Γ)) qcl qm_R qm_combinesPrimitive_c 6 (some .int) (6, 149)) (N : Nat) (σ : qm_S) (x1 : Int32) (x2 : Int32) : J Γ (qm_w (gK Γ)) qcl (QF Γ (qm_w (gK Γ)) qcl ovI) (shO (qm_combinesPrimitive_B102 N σ x1 x2)) σ 102 [(0, .ref (kq (gK Γ) 18)), (1, .int x1), (2, .int x2)] [] := by
  unfold qm_combinesPrimitive_B102
  refine j_iconst C d_qm_combinesPrimitive_102 rfl kc_i_1 ?_
  refine j_goto C d_qm_combinesPrimitive_103 (tgt := 107) (by decide) ?_
  refine j_istore_n C (lv' := [(3, .int (1 : Int32)), (0, .ref (kq (gK Γ) 18)), (1, .int x1), (2, .int x2)]) d_qm_combinesPrimitive_107 rfl rfl (by decide) rfl ?_
  refine j_iload_n C d_qm_combinesPrimitive_108 rfl 3 rfl ?_
  refine j_iload_n C d_qm_combinesPrimitive_109 rfl 0 rfl ?_
  refine j_if_eq C d_qm_combinesPrimitive_110 (tgt := 117) (by decide) rfl (fun c_37 => ?_) (fun c_37 => ?_)
  · refine J.pos shO c_37 ?_
    refine j_iconst C d_qm_combinesPrimitive_117 rfl kc_i_1 ?_
    refine J.loc (lv' := [(0, .ref (kq (gK Γ) 18)), (1, .int x1), (3, .int (1 : Int32))]) [1, 2, 0] rfl ?_
    exact w_qm_combinesPrimitive_B118 C N σ x1 (1 : Int32) (1 : Int32) x2
  · refine J.neg shO c_37 ?_
    refine j_iconst C d_qm_combinesPrimitive_113 rfl kc_i_2 ?_
    refine j_goto C d_qm_combinesPrimitive_114 (tgt := 118) (by decide) ?_
    refine J.loc (lv' := [(0, .ref (kq (gK Γ) 18)), (1, .int x1), (3, .int (1 : Int32))]) [1, 2, 0] rfl ?_
    exact w_qm_combinesPrimitive_B118 C N σ x1 (1 : Int32) (2 : Int32) x2
theorem w_qm_combinesPrimitive {Γ : cx_T} (C : cx_C Γ (qm_w (gK Γ)) qcl qm_R qm_combinesPrimitive_c 6 (some .int) (6, 149)) (N : Nat) (σ : qm_S) (a1 : Int32) : J Γ (qm_w (gK Γ)) qcl (QF Γ (qm_w (gK Γ)) qcl ovI) (shO (qm_combinesPrimitive N σ a1)) σ 0 [(0, .ref (kq (gK Γ) 18)), (1, .int a1)] [] := by
  unfold qm_combinesPrimitive
  refine j_aload_n C d_qm_combinesPrimitive_0 rfl 0 rfl ?_
  refine j_aload_n C d_qm_combinesPrimitive_1 rfl 0 rfl ?_
  refine qm_r_operands C k_862 d_qm_combinesPrimitive_2 rfl rfl ?_
  refine J.goO (fun r1 h_2 => ?_)
  refine cvr_qm_qm C (mc_qm_longOf (gl Γ) (gK Γ) N σ (qm_g_operands σ) r1 h_2) qm_longOf_I k_1089 (by decide) d_qm_combinesPrimitive_5 rfl (rest := []) rfl ⟨rfl, Nat.le_of_ble_eq_true rfl⟩ ?_
  refine j_istore_n C (lv' := [(2, .int r1), (0, .ref (kq (gK Γ) 18)), (1, .int a1)]) d_qm_combinesPrimitive_8 rfl rfl (by decide) rfl ?_
  refine j_iload_n C d_qm_combinesPrimitive_9 rfl 0 rfl ?_
  refine j_if_ge C d_qm_combinesPrimitive_10 (tgt := 16) (by decide) rfl (fun c_3 => ?_) (fun c_3 => ?_)
  · refine J.pos shO c_3 ?_
    refine j_iload_n C d_qm_combinesPrimitive_16 rfl 2 rfl ?_
    refine j_bipush C d_qm_combinesPrimitive_17 rfl kc_b_8 ?_
    refine j_icmp_ge C d_qm_combinesPrimitive_19 (tgt := 29) (by decide) rfl (fun c_4 => ?_) (fun c_4 => ?_)
    · refine J.pos shO c_4 ?_
      refine j_iload_n C d_qm_combinesPrimitive_29 rfl 2 rfl ?_
      refine j_bipush C d_qm_combinesPrimitive_30 rfl kc_b_10 ?_
      refine j_icmp_eq C d_qm_combinesPrimitive_32 (tgt := 41) (by decide) rfl (fun c_5 => ?_) (fun c_5 => ?_)
      · refine J.pos shO c_5 ?_
        refine j_aload_n C d_qm_combinesPrimitive_41 rfl 1 rfl ?_
        refine j_iload_n C d_qm_combinesPrimitive_42 rfl 2 rfl ?_
        refine j_bipush C d_qm_combinesPrimitive_43 rfl kc_b_10 ?_
        refine j_icmp_ne C d_qm_combinesPrimitive_45 (tgt := 52) (by decide) rfl (fun c_6 => ?_) (fun c_6 => ?_)
        · refine J.neg shO c_6 ?_
          refine j_iconst C d_qm_combinesPrimitive_52 rfl kc_i_0 ?_
          refine J.goO (fun r7 h_8 => ?_)
          refine cv_qm_qm C (mc_qm_reckons (gl Γ) (gK Γ) N σ (0 : Int32) r7 h_8) qm_reckons_I k_1160 (by decide) d_qm_combinesPrimitive_53 rfl (rest := []) rfl ⟨rfl, Nat.le_of_ble_eq_true rfl⟩ ?_
          exact j_iret C d_qm_combinesPrimitive_56
        · refine J.pos shO c_6 ?_
          refine j_iconst C d_qm_combinesPrimitive_48 rfl kc_i_1 ?_
          refine j_goto C d_qm_combinesPrimitive_49 (tgt := 53) (by decide) ?_
          refine J.goO (fun r9 h_10 => ?_)
          refine cv_qm_qm C (mc_qm_reckons (gl Γ) (gK Γ) N σ (1 : Int32) r9 h_10) qm_reckons_I k_1160 (by decide) d_qm_combinesPrimitive_53 rfl (rest := []) rfl ⟨rfl, Nat.le_of_ble_eq_true rfl⟩ ?_
          exact j_iret C d_qm_combinesPrimitive_56
      · refine J.neg shO c_5 ?_
        refine j_iload_n C d_qm_combinesPrimitive_35 rfl 2 rfl ?_
        refine j_bipush C d_qm_combinesPrimitive_36 rfl kc_b_11 ?_
        refine j_icmp_ne C d_qm_combinesPrimitive_38 (tgt := 57) (by decide) rfl (fun c_11 => ?_) (fun c_11 => ?_)
        · refine J.neg shO c_11 ?_
          refine j_iload_n C d_qm_combinesPrimitive_57 rfl 2 rfl ?_
          refine j_bipush C d_qm_combinesPrimitive_58 rfl kc_b_23 ?_
          refine j_icmp_ne C d_qm_combinesPrimitive_60 (tgt := 69) (by decide) rfl (fun c_12 => ?_) (fun c_12 => ?_)
          · refine J.neg shO c_12 ?_
            refine j_iload_n C d_qm_combinesPrimitive_69 rfl 2 rfl ?_
            refine j_bipush C d_qm_combinesPrimitive_70 rfl kc_b_25 ?_
            refine j_icmp_ne C d_qm_combinesPrimitive_72 (tgt := 84) (by decide) rfl (fun c_13 => ?_) (fun c_13 => ?_)
            · refine J.neg shO c_13 ?_
              refine j_iload_n C d_qm_combinesPrimitive_84 rfl 2 rfl ?_
              refine j_bipush C d_qm_combinesPrimitive_85 rfl kc_b_16 ?_
              refine j_icmp_lt C d_qm_combinesPrimitive_87 (tgt := 102) (by decide) rfl (fun c_14 => ?_) (fun c_14 => ?_)
              · refine J.pos shO c_14 ?_
                refine J.loc (lv' := [(0, .ref (kq (gK Γ) 18)), (1, .int a1), (2, .int r1)]) [1, 2, 0] rfl ?_
                exact w_qm_combinesPrimitive_B102 C N σ a1 r1
              · refine J.neg shO c_14 ?_
                refine j_iload_n C d_qm_combinesPrimitive_90 rfl 2 rfl ?_
                refine j_bipush C d_qm_combinesPrimitive_91 rfl kc_b_20 ?_
                refine j_icmp_eq C d_qm_combinesPrimitive_93 (tgt := 102) (by decide) rfl (fun c_15 => ?_) (fun c_15 => ?_)
                · refine J.pos shO c_15 ?_
                  refine J.loc (lv' := [(0, .ref (kq (gK Γ) 18)), (1, .int a1), (2, .int r1)]) [1, 2, 0] rfl ?_
                  exact w_qm_combinesPrimitive_B102 C N σ a1 r1
                · refine J.neg shO c_15 ?_
                  refine j_iload_n C d_qm_combinesPrimitive_96 rfl 2 rfl ?_
                  refine j_bipush C d_qm_combinesPrimitive_97 rfl kc_b_24 ?_
                  refine j_icmp_ne C d_qm_combinesPrimitive_99 (tgt := 106) (by decide) rfl (fun c_16 => ?_) (fun c_16 => ?_)
                  · refine J.neg shO c_16 ?_
                    refine j_iconst C d_qm_combinesPrimitive_106 rfl kc_i_0 ?_
                    refine j_istore_n C (lv' := [(3, .int (0 : Int32)), (2, .int r1), (0, .ref (kq (gK Γ) 18)), (1, .int a1)]) d_qm_combinesPrimitive_107 rfl rfl (by decide) rfl ?_
                    refine j_iload_n C d_qm_combinesPrimitive_108 rfl 1 rfl ?_
                    refine j_iload_n C d_qm_combinesPrimitive_109 rfl 0 rfl ?_
                    refine j_if_eq C d_qm_combinesPrimitive_110 (tgt := 117) (by decide) rfl (fun c_17 => ?_) (fun c_17 => ?_)
                    · refine J.pos shO c_17 ?_
                      refine j_iconst C d_qm_combinesPrimitive_117 rfl kc_i_1 ?_
                      refine J.loc (lv' := [(0, .ref (kq (gK Γ) 18)), (1, .int a1), (3, .int (0 : Int32))]) [2, 3, 0] rfl ?_
                      exact w_qm_combinesPrimitive_B118 C N σ a1 (0 : Int32) (1 : Int32) r1
                    · refine J.neg shO c_17 ?_
                      refine j_iconst C d_qm_combinesPrimitive_113 rfl kc_i_2 ?_
                      refine j_goto C d_qm_combinesPrimitive_114 (tgt := 118) (by decide) ?_
                      refine J.loc (lv' := [(0, .ref (kq (gK Γ) 18)), (1, .int a1), (3, .int (0 : Int32))]) [2, 3, 0] rfl ?_
                      exact w_qm_combinesPrimitive_B118 C N σ a1 (0 : Int32) (2 : Int32) r1
                  · refine J.pos shO c_16 ?_
                    refine J.loc (lv' := [(0, .ref (kq (gK Γ) 18)), (1, .int a1), (2, .int r1)]) [1, 2, 0] rfl ?_
                    exact w_qm_combinesPrimitive_B102 C N σ a1 r1
            · refine J.pos shO c_13 ?_
              refine j_aload_n C d_qm_combinesPrimitive_75 rfl 1 rfl ?_
              refine j_aload_n C d_qm_combinesPrimitive_76 rfl 1 rfl ?_
              refine qm_r_operands C k_862 d_qm_combinesPrimitive_77 rfl rfl ?_
              refine cv_qm_qm C (mc_qm_gives (gl Γ) (gK Γ) σ (qm_g_operands σ)) qm_gives_I k_1117 (by decide) d_qm_combinesPrimitive_80 rfl (rest := []) rfl ⟨rfl, Nat.le_of_ble_eq_true rfl⟩ ?_
              exact j_iret C d_qm_combinesPrimitive_83
          · refine J.pos shO c_12 ?_
            refine j_aload_n C d_qm_combinesPrimitive_63 rfl 1 rfl ?_
            refine j_iload_n C d_qm_combinesPrimitive_64 rfl 0 rfl ?_
            refine J.goO (fun r18 h_19 => ?_)
            refine cv_qm_qm C (mc_qm_createsEnvironment (gl Γ) (gK Γ) σ r1 r18 h_19) qm_createsEnvironment_I k_1171 (by decide) d_qm_combinesPrimitive_65 rfl (rest := []) rfl ⟨rfl, Nat.le_of_ble_eq_true rfl⟩ ?_
            exact j_iret C d_qm_combinesPrimitive_68
        · refine J.pos shO c_11 ?_
          refine j_aload_n C d_qm_combinesPrimitive_41 rfl 1 rfl ?_
          refine j_iload_n C d_qm_combinesPrimitive_42 rfl 2 rfl ?_
          refine j_bipush C d_qm_combinesPrimitive_43 rfl kc_b_10 ?_
          refine j_icmp_ne C d_qm_combinesPrimitive_45 (tgt := 52) (by decide) rfl (fun c_20 => ?_) (fun c_20 => ?_)
          · refine J.neg shO c_20 ?_
            refine j_iconst C d_qm_combinesPrimitive_52 rfl kc_i_0 ?_
            refine J.goO (fun r21 h_22 => ?_)
            refine cv_qm_qm C (mc_qm_reckons (gl Γ) (gK Γ) N σ (0 : Int32) r21 h_22) qm_reckons_I k_1160 (by decide) d_qm_combinesPrimitive_53 rfl (rest := []) rfl ⟨rfl, Nat.le_of_ble_eq_true rfl⟩ ?_
            exact j_iret C d_qm_combinesPrimitive_56
          · refine J.pos shO c_20 ?_
            refine j_iconst C d_qm_combinesPrimitive_48 rfl kc_i_1 ?_
            refine j_goto C d_qm_combinesPrimitive_49 (tgt := 53) (by decide) ?_
            refine J.goO (fun r23 h_24 => ?_)
            refine cv_qm_qm C (mc_qm_reckons (gl Γ) (gK Γ) N σ (1 : Int32) r23 h_24) qm_reckons_I k_1160 (by decide) d_qm_combinesPrimitive_53 rfl (rest := []) rfl ⟨rfl, Nat.le_of_ble_eq_true rfl⟩ ?_
            exact j_iret C d_qm_combinesPrimitive_56
    · refine J.neg shO c_4 ?_
      refine j_aload_n C d_qm_combinesPrimitive_22 rfl 1 rfl ?_
      refine j_iload_n C d_qm_combinesPrimitive_23 rfl 2 rfl ?_
      refine j_iload_n C d_qm_combinesPrimitive_24 rfl 0 rfl ?_
      refine J.goO (fun r25 h_26 => ?_)
      refine cv_qm_qm C (mc_qm_combinesPart (gl Γ) (gK Γ) N σ a1 r1 r25 h_26) qm_combinesPart_I k_1137 (by decide) d_qm_combinesPrimitive_25 rfl (rest := []) rfl ⟨rfl, Nat.le_of_ble_eq_true rfl⟩ ?_
      exact j_iret C d_qm_combinesPrimitive_28
  · refine J.neg shO c_3 ?_
    refine j_bipush C d_qm_combinesPrimitive_13 rfl kc_b_m8 ?_
    exact j_iret C d_qm_combinesPrimitive_15
theorem mc_qm_combinesPrimitive (l : Launch) (K : kk_T) (N : Nat) (σ : qm_S) (a1 : Int32) (r : Int32 × qm_S) (h : qm_combinesPrimitive N σ a1 = some r) : MC l qm_combinesPrimitive_y qm_combinesPrimitive_c 6 (some .int) (6, 149) K (qm_w K) qcl σ [.ref (kq K 18), .int a1] (some (.int r.1)) r.2 := mc_of (ov := ovI) (X := shO (qm_combinesPrimitive N σ a1)) (by decide +kernel) (Nat.le_of_ble_eq_true rfl) (fun _ => rfl) (by rw [h]; rfl) (fun Γ e1 e2 C => by subst e1; subst e2; exact w_qm_combinesPrimitive C N σ a1)
theorem qm_combinesPrimitive_I : ck_V qm_combinesPrimitive_y qm_combinesPrimitive_c 6 (some .int) 1 := ⟨k_1136, k_102, by decide +kernel, k_1135, k_78⟩
theorem w_qm_combinesOne {Γ : cx_T} (C : cx_C Γ (qm_w (gK Γ)) qcl qm_R qm_combinesOne_c 2 (some .int) (7, 174)) (N : Nat) (σ : qm_S)  : J Γ (qm_w (gK Γ)) qcl (QF Γ (qm_w (gK Γ)) qcl ovI) (shO (qm_combinesOne N σ)) σ 0 [(0, .ref (kq (gK Γ) 18))] [] := by
  unfold qm_combinesOne
  refine j_aload_n C d_qm_combinesOne_0 rfl 0 rfl ?_
  refine qm_r_now C k_861 d_qm_combinesOne_1 rfl rfl ?_
  refine cs_qm C (mc_qm_kindOf (gl Γ) (gK Γ) (qm_g_now σ)) qm_kindOf_I k_1000 (by decide) d_qm_combinesOne_4 rfl (rest := []) rfl (Nat.le_of_ble_eq_true rfl) ?_
  refine j_istore_n C (lv' := [(1, .int (qm_kindOf (qm_g_now σ))), (0, .ref (kq (gK Γ) 18))]) d_qm_combinesOne_7 rfl rfl (by decide) rfl ?_
  refine j_iload_n C d_qm_combinesOne_8 rfl 0 rfl ?_
  refine j_bipush C d_qm_combinesOne_9 rfl kc_b_6 ?_
  refine j_icmp_ne C d_qm_combinesOne_11 (tgt := 51) (by decide) rfl (fun c_1 => ?_) (fun c_1 => ?_)
  · refine J.neg shO c_1 ?_
    refine j_iload_n C d_qm_combinesOne_51 rfl 0 rfl ?_
    refine j_iconst C d_qm_combinesOne_52 rfl kc_i_5 ?_
    refine j_icmp_eq C d_qm_combinesOne_53 (tgt := 59) (by decide) rfl (fun c_2 => ?_) (fun c_2 => ?_)
    · refine J.pos shO c_2 ?_
      refine j_aload_n C d_qm_combinesOne_59 rfl 1 rfl ?_
      refine qm_r_now C k_861 d_qm_combinesOne_60 rfl rfl ?_
      refine cs_qm C (mc_qm_whatOf (gl Γ) (gK Γ) (qm_g_now σ)) qm_whatOf_I k_1012 (by decide) d_qm_combinesOne_63 rfl (rest := []) rfl (Nat.le_of_ble_eq_true rfl) ?_
      refine j_lconst C d_qm_combinesOne_66 rfl kc_l_0 ?_
      refine j_lcmp_ge C d_qm_combinesOne_67 d_qm_combinesOne_68 (tgt := 88) (by decide) rfl (fun c_3 => ?_) (fun c_3 => ?_)
      · refine J.neg shO c_3 ?_
        refine j_aload_n C d_qm_combinesOne_88 rfl 1 rfl ?_
        refine J.goO (fun r4 h_5 => ?_)
        refine cv_qm_qm C (mc_qm_combinesCompound (gl Γ) (gK Γ) N σ r4 h_5) qm_combinesCompound_I k_1191 (by decide) d_qm_combinesOne_89 rfl (rest := []) rfl ⟨rfl, Nat.le_of_ble_eq_true rfl⟩ ?_
        exact j_iret C d_qm_combinesOne_92
      · refine J.pos shO c_3 ?_
        refine j_aload_n C d_qm_combinesOne_71 rfl 1 rfl ?_
        refine j_iconst C d_qm_combinesOne_72 rfl kc_i_m1 ?_
        refine j_aload_n C d_qm_combinesOne_73 rfl 1 rfl ?_
        refine j_aload_n C d_qm_combinesOne_74 rfl 1 rfl ?_
        refine qm_r_now C k_861 d_qm_combinesOne_75 rfl rfl ?_
        refine cvr_qm_qm C (mc_qm_indexOf (gl Γ) (gK Γ) σ (qm_g_now σ)) qm_indexOf_I k_1008 (by decide) d_qm_combinesOne_78 rfl (rest := [.int (-1 : Int32), .ref (kq (gK Γ) 18)]) rfl ⟨rfl, Nat.le_of_ble_eq_true rfl⟩ ?_
        refine j_isub C d_qm_combinesOne_81 rfl ?_
        refine J.goO (fun r6 h_7 => ?_)
        refine cv_qm_qm C (mc_qm_combinesPrimitive (gl Γ) (gK Γ) N σ ((-1 : Int32) - (qm_indexOf σ (qm_g_now σ))) r6 h_7) qm_combinesPrimitive_I k_1133 (by decide) d_qm_combinesOne_82 rfl (rest := []) rfl ⟨rfl, Nat.le_of_ble_eq_true rfl⟩ ?_
        refine j_goto C d_qm_combinesOne_85 (tgt := 92) (by decide) ?_
        exact j_iret C d_qm_combinesOne_92
    · refine J.neg shO c_2 ?_
      refine j_bipush C d_qm_combinesOne_56 rfl kc_b_m7 ?_
      exact j_iret C d_qm_combinesOne_58
  · refine J.pos shO c_1 ?_
    refine j_aload_n C d_qm_combinesOne_14 rfl 1 rfl ?_
    refine j_aload_n C d_qm_combinesOne_15 rfl 1 rfl ?_
    refine qm_r_operands C k_862 d_qm_combinesOne_16 rfl rfl ?_
    refine J.goO (fun r8 h_9 => ?_)
    refine cvr_qm_qm C (mc_qm_longOf (gl Γ) (gK Γ) N σ (qm_g_operands σ) r8 h_9) qm_longOf_I k_1089 (by decide) d_qm_combinesOne_19 rfl (rest := []) rfl ⟨rfl, Nat.le_of_ble_eq_true rfl⟩ ?_
    refine j_if_ge C d_qm_combinesOne_22 (tgt := 30) (by decide) rfl (fun c_10 => ?_) (fun c_10 => ?_)
    · refine J.pos shO c_10 ?_
      refine j_aload_n C d_qm_combinesOne_30 rfl 1 rfl ?_
      refine j_aload_n C d_qm_combinesOne_31 rfl 1 rfl ?_
      refine qm_r_now C k_861 d_qm_combinesOne_32 rfl rfl ?_
      refine j_aload_n C d_qm_combinesOne_35 rfl 1 rfl ?_
      refine qm_r_operands C k_862 d_qm_combinesOne_36 rfl rfl ?_
      refine j_aload_n C d_qm_combinesOne_39 rfl 1 rfl ?_
      refine qm_r_around C k_863 d_qm_combinesOne_40 rfl rfl ?_
      refine j_aload_n C d_qm_combinesOne_43 rfl 1 rfl ?_
      refine qm_r_resultMany C k_871 d_qm_combinesOne_44 rfl rfl ?_
      refine J.goO (fun r11 h_12 => ?_)
      refine cv_qm_qm C (mc_qm_goesOn (gl Γ) (gK Γ) N σ (qm_g_now σ) (qm_g_operands σ) (qm_g_around σ) (qm_g_resultMany σ) r11 h_12) qm_goesOn_I k_1125 (by decide) d_qm_combinesOne_47 rfl (rest := []) rfl ⟨rfl, Nat.le_of_ble_eq_true rfl⟩ ?_
      exact j_iret C d_qm_combinesOne_50
    · refine J.neg shO c_10 ?_
      refine j_bipush C d_qm_combinesOne_25 rfl kc_b_m8 ?_
      refine j_goto C d_qm_combinesOne_27 (tgt := 50) (by decide) ?_
      exact j_iret C d_qm_combinesOne_50
theorem mc_qm_combinesOne (l : Launch) (K : kk_T) (N : Nat) (σ : qm_S)  (r : Int32 × qm_S) (h : qm_combinesOne N σ = some r) : MC l qm_combinesOne_y qm_combinesOne_c 2 (some .int) (7, 174) K (qm_w K) qcl σ [.ref (kq K 18)] (some (.int r.1)) r.2 := mc_of (ov := ovI) (X := shO (qm_combinesOne N σ)) (by decide +kernel) (Nat.le_of_ble_eq_true rfl) (fun _ => rfl) (by rw [h]; rfl) (fun Γ e1 e2 C => by subst e1; subst e2; exact w_qm_combinesOne C N σ)
theorem qm_combinesOne_I : ck_V qm_combinesOne_y qm_combinesOne_c 2 (some .int) 0 := ⟨k_1124, k_102, by decide +kernel, k_1123, k_75⟩
theorem w_qm_runs_L2 {Γ : cx_T} (C : cx_C Γ (qm_w (gK Γ)) qcl qm_R qm_runs_c 2 (some .int) (8, 195)) (N : Nat) : ∀ (k : Nat) (σ : qm_S) (x1 : Int32), J Γ (qm_w (gK Γ)) qcl (QF Γ (qm_w (gK Γ)) qcl ovI) (shO (qm_runs_L2 N k σ x1)) σ 2 [(0, .ref (kq (gK Γ) 18)), (1, .int x1)] [] := by
  intro k
  induction k with
  | zero => intro σ x1; exact J.none rfl
  | succ k ih =>
    intro σ x1
    rw [qm_runs_L2]
    refine j_iload_n C d_qm_runs_2 rfl 1 rfl ?_
    refine j_if_ne C d_qm_runs_3 (tgt := 58) (by decide) rfl (fun c_1 => ?_) (fun c_1 => ?_)
    · refine J.neg shO c_1 ?_
      refine j_iload_n C d_qm_runs_58 rfl 1 rfl ?_
      exact j_iret C d_qm_runs_59
    · refine J.pos shO c_1 ?_
      refine j_aload_n C d_qm_runs_6 rfl 0 rfl ?_
      refine qm_r_mode C k_860 d_qm_runs_7 rfl rfl ?_
      refine j_iconst C d_qm_runs_10 rfl kc_i_2 ?_
      refine j_icmp_ne C d_qm_runs_11 (tgt := 21) (by decide) rfl (fun c_2 => ?_) (fun c_2 => ?_)
      · refine J.neg shO c_2 ?_
        refine j_aload_n C d_qm_runs_21 rfl 0 rfl ?_
        refine qm_r_mode C k_860 d_qm_runs_22 rfl rfl ?_
        refine j_if_ne C d_qm_runs_25 (tgt := 35) (by decide) rfl (fun c_3 => ?_) (fun c_3 => ?_)
        · refine J.neg shO c_3 ?_
          refine j_aload_n C d_qm_runs_35 rfl 0 rfl ?_
          refine qm_r_mode C k_860 d_qm_runs_36 rfl rfl ?_
          refine j_iconst C d_qm_runs_39 rfl kc_i_1 ?_
          refine j_icmp_ne C d_qm_runs_40 (tgt := 50) (by decide) rfl (fun c_4 => ?_) (fun c_4 => ?_)
          · refine J.neg shO c_4 ?_
            refine j_aload_n C d_qm_runs_50 rfl 0 rfl ?_
            refine J.goO (fun r5 h_6 => ?_)
            refine cv_qm_qm C (mc_qm_takesResult (gl Γ) (gK Γ) N σ r5 h_6) qm_takesResult_I k_1203 (by decide) d_qm_runs_51 rfl (rest := []) rfl ⟨rfl, Nat.le_of_ble_eq_true rfl⟩ ?_
            refine j_istore_n C (lv' := [(1, .int r5.1), (0, .ref (kq (gK Γ) 18))]) d_qm_runs_54 rfl rfl (by decide) rfl ?_
            refine j_goto C d_qm_runs_55 (tgt := 2) (by decide) ?_
            refine J.loc (lv' := [(0, .ref (kq (gK Γ) 18)), (1, .int r5.1)]) [1, 0] rfl ?_
            exact ih r5.2 r5.1
          · refine J.pos shO c_4 ?_
            refine j_aload_n C d_qm_runs_43 rfl 0 rfl ?_
            refine J.goO (fun r7 h_8 => ?_)
            refine cv_qm_qm C (mc_qm_combinesOne (gl Γ) (gK Γ) N σ r7 h_8) qm_combinesOne_I k_1121 (by decide) d_qm_runs_44 rfl (rest := []) rfl ⟨rfl, Nat.le_of_ble_eq_true rfl⟩ ?_
            refine j_goto C d_qm_runs_47 (tgt := 54) (by decide) ?_
            refine j_istore_n C (lv' := [(1, .int r7.1), (0, .ref (kq (gK Γ) 18))]) d_qm_runs_54 rfl rfl (by decide) rfl ?_
            refine j_goto C d_qm_runs_55 (tgt := 2) (by decide) ?_
            refine J.loc (lv' := [(0, .ref (kq (gK Γ) 18)), (1, .int r7.1)]) [1, 0] rfl ?_
            exact ih r7.2 r7.1
        · refine J.pos shO c_3 ?_
          refine j_aload_n C d_qm_runs_28 rfl 0 rfl ?_
          refine J.goO (fun r9 h_10 => ?_)
          refine cv_qm_qm C (mc_qm_evaluatesOne (gl Γ) (gK Γ) N σ r9 h_10) qm_evaluatesOne_I k_1109 (by decide) d_qm_runs_29 rfl (rest := []) rfl ⟨rfl, Nat.le_of_ble_eq_true rfl⟩ ?_
          refine j_goto C d_qm_runs_32 (tgt := 54) (by decide) ?_
          refine j_istore_n C (lv' := [(1, .int r9.1), (0, .ref (kq (gK Γ) 18))]) d_qm_runs_54 rfl rfl (by decide) rfl ?_
          refine j_goto C d_qm_runs_55 (tgt := 2) (by decide) ?_
          refine J.loc (lv' := [(0, .ref (kq (gK Γ) 18)), (1, .int r9.1)]) [1, 0] rfl ?_
          exact ih r9.2 r9.1
      · refine J.pos shO c_2 ?_
        refine j_aload_n C d_qm_runs_14 rfl 0 rfl ?_
        refine qm_r_frames C k_864 d_qm_runs_15 rfl rfl ?_
        refine j_if_le C d_qm_runs_18 (tgt := 58) (by decide) rfl (fun c_11 => ?_) (fun c_11 => ?_)
        · refine J.pos shO c_11 ?_
          refine j_iload_n C d_qm_runs_58 rfl 1 rfl ?_
          exact j_iret C d_qm_runs_59
        · refine J.neg shO c_11 ?_
          refine j_aload_n C d_qm_runs_21 rfl 0 rfl ?_
          refine qm_r_mode C k_860 d_qm_runs_22 rfl rfl ?_
          refine j_if_ne C d_qm_runs_25 (tgt := 35) (by decide) rfl (fun c_12 => ?_) (fun c_12 => ?_)
          · refine J.neg shO c_12 ?_
            refine j_aload_n C d_qm_runs_35 rfl 0 rfl ?_
            refine qm_r_mode C k_860 d_qm_runs_36 rfl rfl ?_
            refine j_iconst C d_qm_runs_39 rfl kc_i_1 ?_
            refine j_icmp_ne C d_qm_runs_40 (tgt := 50) (by decide) rfl (fun c_13 => ?_) (fun c_13 => ?_)
            · refine J.neg shO c_13 ?_
              refine j_aload_n C d_qm_runs_50 rfl 0 rfl ?_
              refine J.goO (fun r14 h_15 => ?_)
              refine cv_qm_qm C (mc_qm_takesResult (gl Γ) (gK Γ) N σ r14 h_15) qm_takesResult_I k_1203 (by decide) d_qm_runs_51 rfl (rest := []) rfl ⟨rfl, Nat.le_of_ble_eq_true rfl⟩ ?_
              refine j_istore_n C (lv' := [(1, .int r14.1), (0, .ref (kq (gK Γ) 18))]) d_qm_runs_54 rfl rfl (by decide) rfl ?_
              refine j_goto C d_qm_runs_55 (tgt := 2) (by decide) ?_
              refine J.loc (lv' := [(0, .ref (kq (gK Γ) 18)), (1, .int r14.1)]) [1, 0] rfl ?_
              exact ih r14.2 r14.1
            · refine J.pos shO c_13 ?_
              refine j_aload_n C d_qm_runs_43 rfl 0 rfl ?_
              refine J.goO (fun r16 h_17 => ?_)
              refine cv_qm_qm C (mc_qm_combinesOne (gl Γ) (gK Γ) N σ r16 h_17) qm_combinesOne_I k_1121 (by decide) d_qm_runs_44 rfl (rest := []) rfl ⟨rfl, Nat.le_of_ble_eq_true rfl⟩ ?_
              refine j_goto C d_qm_runs_47 (tgt := 54) (by decide) ?_
              refine j_istore_n C (lv' := [(1, .int r16.1), (0, .ref (kq (gK Γ) 18))]) d_qm_runs_54 rfl rfl (by decide) rfl ?_
              refine j_goto C d_qm_runs_55 (tgt := 2) (by decide) ?_
              refine J.loc (lv' := [(0, .ref (kq (gK Γ) 18)), (1, .int r16.1)]) [1, 0] rfl ?_
              exact ih r16.2 r16.1
          · refine J.pos shO c_12 ?_
            refine j_aload_n C d_qm_runs_28 rfl 0 rfl ?_
            refine J.goO (fun r18 h_19 => ?_)
            refine cv_qm_qm C (mc_qm_evaluatesOne (gl Γ) (gK Γ) N σ r18 h_19) qm_evaluatesOne_I k_1109 (by decide) d_qm_runs_29 rfl (rest := []) rfl ⟨rfl, Nat.le_of_ble_eq_true rfl⟩ ?_
            refine j_goto C d_qm_runs_32 (tgt := 54) (by decide) ?_
            refine j_istore_n C (lv' := [(1, .int r18.1), (0, .ref (kq (gK Γ) 18))]) d_qm_runs_54 rfl rfl (by decide) rfl ?_
            refine j_goto C d_qm_runs_55 (tgt := 2) (by decide) ?_
            refine J.loc (lv' := [(0, .ref (kq (gK Γ) 18)), (1, .int r18.1)]) [1, 0] rfl ?_
            exact ih r18.2 r18.1
theorem w_qm_runs {Γ : cx_T} (C : cx_C Γ (qm_w (gK Γ)) qcl qm_R qm_runs_c 2 (some .int) (8, 195)) (N : Nat) (σ : qm_S)  : J Γ (qm_w (gK Γ)) qcl (QF Γ (qm_w (gK Γ)) qcl ovI) (shO (qm_runs N σ)) σ 0 [(0, .ref (kq (gK Γ) 18))] [] := by
  unfold qm_runs
  refine j_iconst C d_qm_runs_0 rfl kc_i_0 ?_
  refine j_istore_n C (lv' := [(1, .int (0 : Int32)), (0, .ref (kq (gK Γ) 18))]) d_qm_runs_1 rfl rfl (by decide) rfl ?_
  refine J.loc (lv' := [(0, .ref (kq (gK Γ) 18)), (1, .int (0 : Int32))]) [1, 0] rfl ?_
  exact w_qm_runs_L2 C N N σ (0 : Int32)
theorem mc_qm_runs (l : Launch) (K : kk_T) (N : Nat) (σ : qm_S)  (r : Int32 × qm_S) (h : qm_runs N σ = some r) : MC l qm_runs_y qm_runs_c 2 (some .int) (8, 195) K (qm_w K) qcl σ [.ref (kq K 18)] (some (.int r.1)) r.2 := mc_of (ov := ovI) (X := shO (qm_runs N σ)) (by decide +kernel) (Nat.le_of_ble_eq_true rfl) (fun _ => rfl) (by rw [h]; rfl) (fun Γ e1 e2 C => by subst e1; subst e2; exact w_qm_runs C N σ)
theorem qm_runs_I : ck_V qm_runs_y qm_runs_c 2 (some .int) 0 := ⟨k_1108, k_102, by decide +kernel, k_1107, k_71⟩
theorem w_qm_evaluate {Γ : cx_T} (C : cx_C Γ (qm_w (gK Γ)) qcl qm_R qm_evaluate_c 2 (some .int) (9, 216)) (N : Nat) (σ : qm_S)  : J Γ (qm_w (gK Γ)) qcl (QF Γ (qm_w (gK Γ)) qcl ovI) (shO (qm_evaluate N σ)) σ 0 [(0, .ref (kq (gK Γ) 18))] [] := by
  unfold qm_evaluate
  refine j_aload_n C d_qm_evaluate_0 rfl 0 rfl ?_
  refine qm_r_values C k_854 d_qm_evaluate_1 rfl rfl ?_
  refine j_if_ne C d_qm_evaluate_4 (tgt := 10) (by decide) rfl (fun c_1 => ?_) (fun c_1 => ?_)
  · refine J.neg shO c_1 ?_
    refine j_aload_n C d_qm_evaluate_10 rfl 0 rfl ?_
    refine j_dup C d_qm_evaluate_11 rfl rfl ?_
    refine qm_r_values C k_854 d_qm_evaluate_12 rfl rfl ?_
    refine j_iconst C d_qm_evaluate_15 rfl kc_i_1 ?_
    refine j_isub C d_qm_evaluate_16 rfl ?_
    refine qm_p_values C k_854 d_qm_evaluate_17 rfl ?_
    refine j_aload_n C d_qm_evaluate_20 rfl 0 rfl ?_
    refine j_iconst C d_qm_evaluate_21 rfl kc_i_0 ?_
    refine qm_p_steps C k_858 d_qm_evaluate_22 rfl ?_
    refine j_aload_n C d_qm_evaluate_25 rfl 0 rfl ?_
    refine j_iconst C d_qm_evaluate_26 rfl kc_i_0 ?_
    refine qm_p_mostFrames C k_859 d_qm_evaluate_27 rfl ?_
    refine j_aload_n C d_qm_evaluate_30 rfl 0 rfl ?_
    refine j_iconst C d_qm_evaluate_31 rfl kc_i_0 ?_
    refine qm_p_frames C k_864 d_qm_evaluate_32 rfl ?_
    refine j_aload_n C d_qm_evaluate_35 rfl 0 rfl ?_
    refine j_iconst C d_qm_evaluate_36 rfl kc_i_0 ?_
    refine qm_p_resultMany C k_871 d_qm_evaluate_37 rfl ?_
    refine j_aload_n C d_qm_evaluate_40 rfl 0 rfl ?_
    refine j_aload_n C d_qm_evaluate_41 rfl 0 rfl ?_
    refine qm_r_stack C k_855 d_qm_evaluate_42 rfl ?_
    refine j_aload_n C d_qm_evaluate_45 rfl 0 rfl ?_
    refine qm_r_values C k_854 d_qm_evaluate_46 rfl (x := ((qm_g_values σ) - (1 : Int32))) ((gs_qm_values_s_resultMany _ _).trans ((gs_qm_values_s_frames _ _).trans ((gs_qm_values_s_mostFrames _ _).trans ((gs_qm_values_s_steps _ _).trans (gv_qm_values _ _))))) ?_
    refine J.inO (fun h_2 => ?_)
    refine qm_l_stack C (inb_in h_2) d_qm_evaluate_49 rfl (x := (qm_g_stack σ (Int32.toNatClampNeg ((qm_g_values σ) - (1 : Int32))))) (congrFun ((gs_qm_stack_s_resultMany _ _).trans ((gs_qm_stack_s_frames _ _).trans ((gs_qm_stack_s_mostFrames _ _).trans ((gs_qm_stack_s_steps _ _).trans (gs_qm_stack_s_values _ _))))) _) ?_
    refine j_aload_n C d_qm_evaluate_50 rfl 0 rfl ?_
    refine qm_r_present C k_856 d_qm_evaluate_51 rfl (x := (qm_g_present σ)) ((gs_qm_present_s_resultMany _ _).trans ((gs_qm_present_s_frames _ _).trans ((gs_qm_present_s_mostFrames _ _).trans ((gs_qm_present_s_steps _ _).trans (gs_qm_present_s_values _ _))))) ?_
    refine cv_qm_qm C (mc_qm_goesTo (gl Γ) (gK Γ) (qm_s_resultMany (qm_s_frames (qm_s_mostFrames (qm_s_steps (qm_s_values σ ((qm_g_values σ) - (1 : Int32))) (0 : Int32)) (0 : Int32)) (0 : Int32)) (0 : Int32)) (qm_g_stack σ (Int32.toNatClampNeg ((qm_g_values σ) - (1 : Int32)))) (qm_g_present σ)) qm_goesTo_I k_1101 (by decide) d_qm_evaluate_54 rfl (rest := []) rfl ⟨rfl, Nat.le_of_ble_eq_true rfl⟩ ?_
    refine j_pop C d_qm_evaluate_57 rfl rfl ?_
    refine j_aload_n C d_qm_evaluate_58 rfl 0 rfl ?_
    refine J.goO (fun r3 h_4 => ?_)
    refine cv_qm_qm C (mc_qm_runs (gl Γ) (gK Γ) N (qm_goesTo (qm_s_resultMany (qm_s_frames (qm_s_mostFrames (qm_s_steps (qm_s_values σ ((qm_g_values σ) - (1 : Int32))) (0 : Int32)) (0 : Int32)) (0 : Int32)) (0 : Int32)) (qm_g_stack σ (Int32.toNatClampNeg ((qm_g_values σ) - (1 : Int32)))) (qm_g_present σ)).2 r3 h_4) qm_runs_I k_1105 (by decide) d_qm_evaluate_59 rfl (rest := []) rfl ⟨rfl, Nat.le_of_ble_eq_true rfl⟩ ?_
    refine j_istore_n C (lv' := [(1, .int r3.1), (0, .ref (kq (gK Γ) 18))]) d_qm_evaluate_62 rfl rfl (by decide) rfl ?_
    refine j_iload_n C d_qm_evaluate_63 rfl 0 rfl ?_
    refine j_if_ge C d_qm_evaluate_64 (tgt := 69) (by decide) rfl (fun c_5 => ?_) (fun c_5 => ?_)
    · refine J.pos shO c_5 ?_
      refine j_aload_n C d_qm_evaluate_69 rfl 1 rfl ?_
      refine j_aload_n C d_qm_evaluate_70 rfl 1 rfl ?_
      refine qm_r_now C k_861 d_qm_evaluate_71 rfl rfl ?_
      refine J.goO (fun r6 h_7 => ?_)
      refine cv_qm_qm C (mc_qm_pushes (gl Γ) (gK Γ) r3.2 (qm_g_now r3.2) r6 h_7) qm_pushes_I k_958 (by decide) d_qm_evaluate_74 rfl (rest := []) rfl ⟨rfl, Nat.le_of_ble_eq_true rfl⟩ ?_
      refine j_pop C d_qm_evaluate_77 rfl rfl ?_
      refine j_aload_n C d_qm_evaluate_78 rfl 1 rfl ?_
      refine qm_r_steps C k_858 d_qm_evaluate_79 rfl rfl ?_
      exact j_iret C d_qm_evaluate_82
    · refine J.neg shO c_5 ?_
      refine j_iload_n C d_qm_evaluate_67 rfl 0 rfl ?_
      exact j_iret C d_qm_evaluate_68
  · refine J.pos shO c_1 ?_
    refine j_bipush C d_qm_evaluate_7 rfl kc_b_m2 ?_
    exact j_iret C d_qm_evaluate_9
theorem mc_qm_evaluate (l : Launch) (K : kk_T) (N : Nat) (σ : qm_S)  (r : Int32 × qm_S) (h : qm_evaluate N σ = some r) : MC l qm_evaluate_y qm_evaluate_c 2 (some .int) (9, 216) K (qm_w K) qcl σ [.ref (kq K 18)] (some (.int r.1)) r.2 := mc_of (ov := ovI) (X := shO (qm_evaluate N σ)) (by decide +kernel) (Nat.le_of_ble_eq_true rfl) (fun _ => rfl) (by rw [h]; rfl) (fun Γ e1 e2 C => by subst e1; subst e2; exact w_qm_evaluate C N σ)
theorem qm_evaluate_I : ck_V qm_evaluate_y qm_evaluate_c 2 (some .int) 0 := ⟨k_1100, k_102, by decide +kernel, k_1098, k_1099⟩
theorem w_qm_useEnvironment {Γ : cx_T} (C : cx_C Γ (qm_w (gK Γ)) qcl qm_R qm_useEnvironment_c 1 (some .int) (1, 21)) (σ : qm_S)  : J Γ (qm_w (gK Γ)) qcl (QF Γ (qm_w (gK Γ)) qcl ovI) (shO (qm_useEnvironment σ)) σ 0 [(0, .ref (kq (gK Γ) 18))] [] := by
  unfold qm_useEnvironment
  refine j_aload_n C d_qm_useEnvironment_0 rfl 0 rfl ?_
  refine qm_r_values C k_854 d_qm_useEnvironment_1 rfl rfl ?_
  refine j_if_ne C d_qm_useEnvironment_4 (tgt := 10) (by decide) rfl (fun c_1 => ?_) (fun c_1 => ?_)
  · refine J.neg shO c_1 ?_
    refine j_aload_n C d_qm_useEnvironment_10 rfl 0 rfl ?_
    refine j_iconst C d_qm_useEnvironment_11 rfl kc_i_0 ?_
    refine J.goO (fun r2 h_3 => ?_)
    refine cvr_qm_qm C (mc_qm_at (gl Γ) (gK Γ) σ (0 : Int32) r2 h_3) qm_at_I k_992 (by decide) d_qm_useEnvironment_12 rfl (rest := []) rfl ⟨rfl, Nat.le_of_ble_eq_true rfl⟩ ?_
    refine cs_qm C (mc_qm_kindOf (gl Γ) (gK Γ) r2) qm_kindOf_I k_1000 (by decide) d_qm_useEnvironment_15 rfl (rest := []) rfl (Nat.le_of_ble_eq_true rfl) ?_
    refine j_bipush C d_qm_useEnvironment_18 rfl kc_b_7 ?_
    refine j_icmp_eq C d_qm_useEnvironment_20 (tgt := 26) (by decide) rfl (fun c_4 => ?_) (fun c_4 => ?_)
    · refine J.pos shO c_4 ?_
      refine j_aload_n C d_qm_useEnvironment_26 rfl 0 rfl ?_
      refine j_aload_n C d_qm_useEnvironment_27 rfl 0 rfl ?_
      refine j_iconst C d_qm_useEnvironment_28 rfl kc_i_0 ?_
      refine J.goO (fun r5 h_6 => ?_)
      refine cvr_qm_qm C (mc_qm_at (gl Γ) (gK Γ) σ (0 : Int32) r5 h_6) qm_at_I k_992 (by decide) d_qm_useEnvironment_29 rfl (rest := [.ref (kq (gK Γ) 18)]) rfl ⟨rfl, Nat.le_of_ble_eq_true rfl⟩ ?_
      refine qm_p_present C k_856 d_qm_useEnvironment_32 rfl ?_
      refine j_aload_n C d_qm_useEnvironment_35 rfl 0 rfl ?_
      refine j_dup C d_qm_useEnvironment_36 rfl rfl ?_
      refine qm_r_values C k_854 d_qm_useEnvironment_37 rfl (x := (qm_g_values σ)) (gs_qm_values_s_present _ _) ?_
      refine j_iconst C d_qm_useEnvironment_40 rfl kc_i_1 ?_
      refine j_isub C d_qm_useEnvironment_41 rfl ?_
      refine qm_p_values C k_854 d_qm_useEnvironment_42 rfl ?_
      refine j_aload_n C d_qm_useEnvironment_45 rfl 0 rfl ?_
      refine qm_r_values C k_854 d_qm_useEnvironment_46 rfl (x := ((qm_g_values σ) - (1 : Int32))) (gv_qm_values _ _) ?_
      exact j_iret C d_qm_useEnvironment_49
    · refine J.neg shO c_4 ?_
      refine j_bipush C d_qm_useEnvironment_23 rfl kc_b_m4 ?_
      exact j_iret C d_qm_useEnvironment_25
  · refine J.pos shO c_1 ?_
    refine j_bipush C d_qm_useEnvironment_7 rfl kc_b_m2 ?_
    exact j_iret C d_qm_useEnvironment_9
theorem mc_qm_useEnvironment (l : Launch) (K : kk_T) (σ : qm_S)  (r : Int32 × qm_S) (h : qm_useEnvironment σ = some r) : MC l qm_useEnvironment_y qm_useEnvironment_c 1 (some .int) (1, 21) K (qm_w K) qcl σ [.ref (kq K 18)] (some (.int r.1)) r.2 := mc_of (ov := ovI) (X := shO (qm_useEnvironment σ)) (by decide +kernel) (Nat.le_of_ble_eq_true rfl) (fun _ => rfl) (by rw [h]; rfl) (fun Γ e1 e2 C => by subst e1; subst e2; exact w_qm_useEnvironment C σ)
theorem qm_useEnvironment_I : ck_V qm_useEnvironment_y qm_useEnvironment_c 1 (some .int) 0 := ⟨k_1214, k_102, by decide +kernel, k_1212, k_1213⟩
theorem w_qm_useUser {Γ : cx_T} (C : cx_C Γ (qm_w (gK Γ)) qcl qm_R qm_useUser_c 2 (some .int) (0, 0)) (σ : qm_S)  : J Γ (qm_w (gK Γ)) qcl (QF Γ (qm_w (gK Γ)) qcl ovI) (shT (qm_useUser σ)) σ 0 [(0, .ref (kq (gK Γ) 18))] [] := by
  unfold qm_useUser
  refine j_aload_n C d_qm_useUser_0 rfl 0 rfl ?_
  refine qm_r_present C k_856 d_qm_useUser_1 rfl rfl ?_
  refine j_ldc2 C d_qm_useUser_4 rfl k_831 ?_
  refine j_lcmp_ne C d_qm_useUser_7 d_qm_useUser_8 (tgt := 15) (by decide) rfl (fun c_1 => ?_) (fun c_1 => ?_)
  · refine J.neg shT c_1 ?_
    refine j_iconst C d_qm_useUser_15 rfl kc_i_1 ?_
    refine j_istore_n C (lv' := [(1, .int (1 : Int32)), (0, .ref (kq (gK Γ) 18))]) d_qm_useUser_16 rfl rfl (by decide) rfl ?_
    refine j_aload_n C d_qm_useUser_17 rfl 1 rfl ?_
    refine j_ldc2 C d_qm_useUser_18 rfl k_831 ?_
    refine qm_p_present C k_856 d_qm_useUser_21 rfl ?_
    refine j_iload_n C d_qm_useUser_24 rfl 0 rfl ?_
    exact j_iret C d_qm_useUser_25
  · refine J.pos shT c_1 ?_
    refine j_iconst C d_qm_useUser_11 rfl kc_i_0 ?_
    refine j_goto C d_qm_useUser_12 (tgt := 16) (by decide) ?_
    refine j_istore_n C (lv' := [(1, .int (0 : Int32)), (0, .ref (kq (gK Γ) 18))]) d_qm_useUser_16 rfl rfl (by decide) rfl ?_
    refine j_aload_n C d_qm_useUser_17 rfl 1 rfl ?_
    refine j_ldc2 C d_qm_useUser_18 rfl k_831 ?_
    refine qm_p_present C k_856 d_qm_useUser_21 rfl ?_
    refine j_iload_n C d_qm_useUser_24 rfl 0 rfl ?_
    exact j_iret C d_qm_useUser_25
theorem mc_qm_useUser (l : Launch) (K : kk_T) (σ : qm_S)  : MC l qm_useUser_y qm_useUser_c 2 (some .int) (0, 0) K (qm_w K) qcl σ [.ref (kq K 18)] (some (.int (qm_useUser σ).1)) (qm_useUser σ).2 := mc_of (ov := ovI) (X := shT (qm_useUser σ)) (by decide +kernel) (Nat.le_of_ble_eq_true rfl) (fun _ => rfl) rfl (fun Γ e1 e2 C => by subst e1; subst e2; exact w_qm_useUser C σ)
theorem qm_useUser_I : ck_V qm_useUser_y qm_useUser_c 2 (some .int) 0 := ⟨k_1218, k_102, by decide +kernel, k_1216, k_1217⟩
theorem w_qm_setLimit {Γ : cx_T} (C : cx_C Γ (qm_w (gK Γ)) qcl qm_R qm_setLimit_c 3 (some .int) (1, 25)) (σ : qm_S) (a1 : Int32) : J Γ (qm_w (gK Γ)) qcl (QF Γ (qm_w (gK Γ)) qcl ovI) (shT (qm_setLimit σ a1)) σ 0 [(0, .ref (kq (gK Γ) 18)), (1, .int a1)] [] := by
  unfold qm_setLimit
  refine j_iload_n C d_qm_setLimit_0 rfl 1 rfl ?_
  refine j_i2l C d_qm_setLimit_1 rfl ?_
  refine j_lconst C d_qm_setLimit_2 rfl kc_l_1 ?_
  refine j_ldc2 C d_qm_setLimit_3 rfl k_1223 ?_
  refine cs_qm C (mc_qm_within (gl Γ) (gK Γ) (Int32.toInt64 a1) (1 : Int64) (1500 : Int64)) qm_within_I k_834 (by decide) d_qm_setLimit_6 rfl (rest := []) rfl (Nat.le_of_ble_eq_true rfl) ?_
  refine j_if_ne C d_qm_setLimit_9 (tgt := 14) (by decide) rfl (fun c_1 => ?_) (fun c_1 => ?_)
  · refine J.neg shT c_1 ?_
    refine j_aload_n C d_qm_setLimit_14 rfl 0 rfl ?_
    refine qm_r_limit C k_857 d_qm_setLimit_15 rfl rfl ?_
    refine j_istore_n C (lv' := [(2, .int (qm_g_limit σ)), (0, .ref (kq (gK Γ) 18)), (1, .int a1)]) d_qm_setLimit_18 rfl rfl (by decide) rfl ?_
    refine j_aload_n C d_qm_setLimit_19 rfl 1 rfl ?_
    refine j_iload_n C d_qm_setLimit_20 rfl 2 rfl ?_
    refine qm_p_limit C k_857 d_qm_setLimit_21 rfl ?_
    refine j_iload_n C d_qm_setLimit_24 rfl 0 rfl ?_
    exact j_iret C d_qm_setLimit_25
  · refine J.pos shT c_1 ?_
    refine j_iconst C d_qm_setLimit_12 rfl kc_i_m1 ?_
    exact j_iret C d_qm_setLimit_13
theorem mc_qm_setLimit (l : Launch) (K : kk_T) (σ : qm_S) (a1 : Int32) : MC l qm_setLimit_y qm_setLimit_c 3 (some .int) (1, 25) K (qm_w K) qcl σ [.ref (kq K 18), .int a1] (some (.int (qm_setLimit σ a1).1)) (qm_setLimit σ a1).2 := mc_of (ov := ovI) (X := shT (qm_setLimit σ a1)) (by decide +kernel) (Nat.le_of_ble_eq_true rfl) (fun _ => rfl) rfl (fun Γ e1 e2 C => by subst e1; subst e2; exact w_qm_setLimit C σ a1)
theorem qm_setLimit_I : ck_V qm_setLimit_y qm_setLimit_c 3 (some .int) 1 := ⟨k_1222, k_102, by decide +kernel, k_1220, k_1221⟩
theorem w_qm_latest {Γ : cx_T} (C : cx_C Γ (qm_w (gK Γ)) qcl qm_R qm_latest_c 2 (some .int) (0, 0)) (σ : qm_S) (a1 : Int32) : J Γ (qm_w (gK Γ)) qcl (QF Γ (qm_w (gK Γ)) qcl ovI) ((shP σ) (qm_latest σ a1)) σ 0 [(0, .ref (kq (gK Γ) 18)), (1, .int a1)] [] := by
  unfold qm_latest
  refine j_iload_n C d_qm_latest_0 rfl 1 rfl ?_
  refine j_if_ne C d_qm_latest_1 (tgt := 11) (by decide) rfl (fun c_1 => ?_) (fun c_1 => ?_)
  · refine J.neg (shP σ) c_1 ?_
    refine j_iload_n C d_qm_latest_11 rfl 1 rfl ?_
    refine j_iconst C d_qm_latest_12 rfl kc_i_1 ?_
    refine j_icmp_ne C d_qm_latest_13 (tgt := 23) (by decide) rfl (fun c_2 => ?_) (fun c_2 => ?_)
    · refine J.neg (shP σ) c_2 ?_
      refine j_iconst C d_qm_latest_23 rfl kc_i_m1 ?_
      exact j_iret C d_qm_latest_24
    · refine J.pos (shP σ) c_2 ?_
      refine j_aload_n C d_qm_latest_16 rfl 0 rfl ?_
      refine qm_r_mostFrames C k_859 d_qm_latest_17 rfl rfl ?_
      refine j_goto C d_qm_latest_20 (tgt := 24) (by decide) ?_
      exact j_iret C d_qm_latest_24
  · refine J.pos (shP σ) c_1 ?_
    refine j_aload_n C d_qm_latest_4 rfl 0 rfl ?_
    refine qm_r_steps C k_858 d_qm_latest_5 rfl rfl ?_
    refine j_goto C d_qm_latest_8 (tgt := 24) (by decide) ?_
    exact j_iret C d_qm_latest_24
theorem mc_qm_latest (l : Launch) (K : kk_T) (σ : qm_S) (a1 : Int32) : MC l qm_latest_y qm_latest_c 2 (some .int) (0, 0) K (qm_w K) qcl σ [.ref (kq K 18), .int a1] (some (.int (qm_latest σ a1))) σ := mc_of (ov := ovI) (X := (shP σ) (qm_latest σ a1)) (by decide +kernel) (Nat.le_of_ble_eq_true rfl) (fun _ => rfl) rfl (fun Γ e1 e2 C => by subst e1; subst e2; exact w_qm_latest C σ a1)
theorem qm_latest_I : ck_V qm_latest_y qm_latest_c 2 (some .int) 1 := ⟨k_1227, k_102, by decide +kernel, k_1225, k_1226⟩
theorem w_qm_heapSize {Γ : cx_T} (C : cx_C Γ (qm_w (gK Γ)) qcl qm_R qm_heapSize_c 1 (some .int) (0, 0)) (σ : qm_S)  : J Γ (qm_w (gK Γ)) qcl (QF Γ (qm_w (gK Γ)) qcl ovI) ((shP σ) (qm_heapSize σ)) σ 0 [(0, .ref (kq (gK Γ) 18))] [] := by
  unfold qm_heapSize
  refine j_aload_n C d_qm_heapSize_0 rfl 0 rfl ?_
  refine qm_r_objects C k_842 d_qm_heapSize_1 rfl rfl ?_
  exact j_iret C d_qm_heapSize_4
theorem mc_qm_heapSize (l : Launch) (K : kk_T) (σ : qm_S)  : MC l qm_heapSize_y qm_heapSize_c 1 (some .int) (0, 0) K (qm_w K) qcl σ [.ref (kq K 18)] (some (.int (qm_heapSize σ))) σ := mc_of (ov := ovI) (X := (shP σ) (qm_heapSize σ)) (by decide +kernel) (Nat.le_of_ble_eq_true rfl) (fun _ => rfl) rfl (fun Γ e1 e2 C => by subst e1; subst e2; exact w_qm_heapSize C σ)
theorem qm_heapSize_I : ck_V qm_heapSize_y qm_heapSize_c 1 (some .int) 0 := ⟨k_1231, k_102, by decide +kernel, k_1229, k_1230⟩
