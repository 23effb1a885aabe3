theorem gs_qh_nextRow_t_first (σ : qh_S) (i : Int32) (v : Int64) : qh_g_nextRow (qh_t_first σ i v) = qh_g_nextRow σ := rfl
theorem gs_qh_nextRow_t_second (σ : qh_S) (i : Int32) (v : Int64) : qh_g_nextRow (qh_t_second σ i v) = qh_g_nextRow σ := rfl
theorem w_qh_write {Γ : cx_T} (C : cx_C Γ (qh_w (gK Γ)) qcl qh_R qh_write_c 6 none (0, 0)) (σ : qh_S) (a1 : Int32) (a2 : Int64) (a4 : Int64) : J Γ (qh_w (gK Γ)) qcl (QF Γ (qh_w (gK Γ)) qcl ovV) (shV (qh_write σ a1 a2 a4)) σ 0 [(0, .ref (kq (gK Γ) 15)), (1, .int a1), (2, .long a2), (4, .long a4)] [] := by
  unfold qh_write
  refine j_iload_n C d_qh_write_0 rfl 1 rfl ?_
  refine j_if_lt C d_qh_write_1 (tgt := 26) (by decide) rfl (fun c_1 => ?_) (fun c_1 => ?_)
  · refine J.pos shV c_1 ?_
    exact j_vret C d_qh_write_26
  · refine J.neg shV c_1 ?_
    refine j_iload_n C d_qh_write_4 rfl 1 rfl ?_
    refine j_sipush C d_qh_write_5 rfl kc_s_4100 ?_
    refine j_icmp_ge C d_qh_write_8 (tgt := 26) (by decide) rfl (fun c_2 => ?_) (fun c_2 => ?_)
    · refine J.pos shV c_2 ?_
      exact j_vret C d_qh_write_26
    · refine J.neg shV c_2 ?_
      refine j_aload_n C d_qh_write_11 rfl 0 rfl ?_
      refine qh_r_first C k_146 d_qh_write_12 rfl ?_
      refine j_iload_n C d_qh_write_15 rfl 1 rfl ?_
      refine j_lload_n C d_qh_write_16 rfl 2 rfl ?_
      refine qh_a_first C (in_a (M := 4100) c_1 c_2 (by decide) (Nat.le_of_ble_eq_true rfl)) d_qh_write_17 rfl ?_
      refine j_aload_n C d_qh_write_18 rfl 0 rfl ?_
      refine qh_r_second C k_147 d_qh_write_19 rfl ?_
      refine j_iload_n C d_qh_write_22 rfl 1 rfl ?_
      refine j_lload C d_qh_write_23 rfl 3 rfl ?_
      refine qh_a_second C (in_a (M := 4100) c_1 c_2 (by decide) (Nat.le_of_ble_eq_true rfl)) d_qh_write_25 rfl ?_
      exact j_vret C d_qh_write_26
theorem mc_qh_write (l : Launch) (K : kk_T) (σ : qh_S) (a1 : Int32) (a2 : Int64) (a4 : Int64) : MC l qh_write_y qh_write_c 6 none (0, 0) K (qh_w K) qcl σ [.ref (kq K 15), .int a1, .long a2, .long a4] none (qh_write σ a1 a2 a4) := mc_of (ov := ovV) (X := shV (qh_write σ a1 a2 a4)) (by decide +kernel) (Nat.le_of_ble_eq_true rfl) (fun _ => rfl) rfl (fun Γ e1 e2 C => by subst e1; subst e2; exact w_qh_write C σ a1 a2 a4)
theorem qh_write_I : ck_V qh_write_y qh_write_c 6 none 3 := ⟨k_126, k_97, by decide +kernel, k_125, k_0⟩
theorem w_qw_make {Γ : cx_T} (C : cx_C Γ qw_w qcl qw_R qw_make_c 3 (some .long) (0, 0)) (a0 : Int32) (a1 : Int64) : J Γ qw_w qcl (QF Γ qw_w qcl ovL) ((shP ()) (qw_make a0 a1)) () 0 [(0, .int a0), (1, .long a1)] [] := by
  unfold qw_make
  refine j_lload_n C d_qw_make_0 rfl 1 rfl ?_
  refine j_iconst C d_qw_make_1 rfl kc_i_4 ?_
  refine j_lshl C d_qw_make_2 rfl (kc_shl_4 _) ?_
  refine j_iload_n C d_qw_make_3 rfl 0 rfl ?_
  refine j_i2l C d_qw_make_4 rfl ?_
  refine j_lor C d_qw_make_5 rfl ?_
  exact j_lret C d_qw_make_6
theorem mc_qw_make (l : Launch) (K : kk_T) (a0 : Int32) (a1 : Int64) : MC l qw_make_y qw_make_c 3 (some .long) (0, 0) K qw_w qcl () [.int a0, .long a1] (some (.long (qw_make a0 a1))) () := mc_of (ov := ovL) (X := (shP ()) (qw_make a0 a1)) (by decide +kernel) (Nat.le_of_ble_eq_true rfl) (fun _ => rfl) rfl (fun Γ e1 e2 C => by subst e1; subst e2; exact w_qw_make C a0 a1)
theorem qw_make_I : ck_S qw_make_y qw_make_c 3 (some .long) 2 := ⟨k_129, k_98, by decide +kernel, k_128⟩
theorem w_qh_secondAt {Γ : cx_T} (C : cx_C Γ (qh_w (gK Γ)) qcl qh_R qh_secondAt_c 2 (some .long) (0, 0)) (σ : qh_S) (a1 : Int32) : J Γ (qh_w (gK Γ)) qcl (QF Γ (qh_w (gK Γ)) qcl ovL) ((shP σ) (qh_secondAt σ a1)) σ 0 [(0, .ref (kq (gK Γ) 15)), (1, .int a1)] [] := by
  unfold qh_secondAt
  refine j_iload_n C d_qh_secondAt_0 rfl 1 rfl ?_
  refine j_if_lt C d_qh_secondAt_1 (tgt := 20) (by decide) rfl (fun c_1 => ?_) (fun c_1 => ?_)
  · refine J.pos (shP σ) c_1 ?_
    refine j_ldc2 C d_qh_secondAt_20 rfl k_142 ?_
    exact j_lret C d_qh_secondAt_23
  · refine J.neg (shP σ) c_1 ?_
    refine j_iload_n C d_qh_secondAt_4 rfl 1 rfl ?_
    refine j_sipush C d_qh_secondAt_5 rfl kc_s_4100 ?_
    refine j_icmp_ge C d_qh_secondAt_8 (tgt := 20) (by decide) rfl (fun c_2 => ?_) (fun c_2 => ?_)
    · refine J.pos (shP σ) c_2 ?_
      refine j_ldc2 C d_qh_secondAt_20 rfl k_142 ?_
      exact j_lret C d_qh_secondAt_23
    · refine J.neg (shP σ) c_2 ?_
      refine j_aload_n C d_qh_secondAt_11 rfl 0 rfl ?_
      refine qh_r_second C k_147 d_qh_secondAt_12 rfl ?_
      refine j_iload_n C d_qh_secondAt_15 rfl 1 rfl ?_
      refine qh_l_second C (in_a (M := 4100) c_1 c_2 (by decide) (Nat.le_of_ble_eq_true rfl)) d_qh_secondAt_16 rfl rfl ?_
      refine j_goto C d_qh_secondAt_17 (tgt := 23) (by decide) ?_
      exact j_lret C d_qh_secondAt_23
theorem mc_qh_secondAt (l : Launch) (K : kk_T) (σ : qh_S) (a1 : Int32) : MC l qh_secondAt_y qh_secondAt_c 2 (some .long) (0, 0) K (qh_w K) qcl σ [.ref (kq K 15), .int a1] (some (.long (qh_secondAt σ a1))) σ := mc_of (ov := ovL) (X := (shP σ) (qh_secondAt σ a1)) (by decide +kernel) (Nat.le_of_ble_eq_true rfl) (fun _ => rfl) rfl (fun Γ e1 e2 C => by subst e1; subst e2; exact w_qh_secondAt C σ a1)
theorem qh_secondAt_I : ck_V qh_secondAt_y qh_secondAt_c 2 (some .long) 1 := ⟨k_141, k_97, by decide +kernel, k_140, k_3⟩
theorem w_qh_latestBindingOf {Γ : cx_T} (C : cx_C Γ (qh_w (gK Γ)) qcl qh_R qh_latestBindingOf_c 2 (some .int) (1, 21)) (σ : qh_S) (a1 : Int32) : J Γ (qh_w (gK Γ)) qcl (QF Γ (qh_w (gK Γ)) qcl ovI) ((shP σ) (qh_latestBindingOf σ a1)) σ 0 [(0, .ref (kq (gK Γ) 15)), (1, .int a1)] [] := by
  unfold qh_latestBindingOf
  refine j_aload_n C d_qh_latestBindingOf_0 rfl 0 rfl ?_
  refine j_iload_n C d_qh_latestBindingOf_1 rfl 1 rfl ?_
  refine cvr_qh_qh C (mc_qh_secondAt (gl Γ) (gK Γ) σ a1) qh_secondAt_I k_138 (by decide) d_qh_latestBindingOf_2 rfl (rest := []) rfl ⟨rfl, Nat.le_of_ble_eq_true rfl⟩ ?_
  refine j_l2i C d_qh_latestBindingOf_5 rfl ?_
  exact j_iret C d_qh_latestBindingOf_6
theorem mc_qh_latestBindingOf (l : Launch) (K : kk_T) (σ : qh_S) (a1 : Int32) : MC l qh_latestBindingOf_y qh_latestBindingOf_c 2 (some .int) (1, 21) K (qh_w K) qcl σ [.ref (kq K 15), .int a1] (some (.int (qh_latestBindingOf σ a1))) σ := mc_of (ov := ovI) (X := (shP σ) (qh_latestBindingOf σ a1)) (by decide +kernel) (Nat.le_of_ble_eq_true rfl) (fun _ => rfl) rfl (fun Γ e1 e2 C => by subst e1; subst e2; exact w_qh_latestBindingOf C σ a1)
theorem qh_latestBindingOf_I : ck_V qh_latestBindingOf_y qh_latestBindingOf_c 2 (some .int) 1 := ⟨k_137, k_97, by decide +kernel, k_136, k_2⟩
theorem w_qh_packLink {Γ : cx_T} (C : cx_C Γ qw_w qcl qh_R qh_packLink_c 2 (some .long) (0, 0)) (a0 : Int32) (a1 : Int32) : J Γ qw_w qcl (QF Γ qw_w qcl ovL) ((shP ()) (qh_packLink a0 a1)) () 0 [(0, .int a0), (1, .int a1)] [] := by
  unfold qh_packLink
  refine j_iload_n C d_qh_packLink_0 rfl 1 rfl ?_
  refine j_i2l C d_qh_packLink_1 rfl ?_
  refine j_bipush C d_qh_packLink_2 rfl kc_b_7 ?_
  refine j_lshl C d_qh_packLink_4 rfl (kc_shl_7 _) ?_
  refine j_iload_n C d_qh_packLink_5 rfl 0 rfl ?_
  refine j_i2l C d_qh_packLink_6 rfl ?_
  refine j_lor C d_qh_packLink_7 rfl ?_
  exact j_lret C d_qh_packLink_8
theorem mc_qh_packLink (l : Launch) (K : kk_T) (a0 : Int32) (a1 : Int32) : MC l qh_packLink_y qh_packLink_c 2 (some .long) (0, 0) K qw_w qcl () [.int a0, .int a1] (some (.long (qh_packLink a0 a1))) () := mc_of (ov := ovL) (X := (shP ()) (qh_packLink a0 a1)) (by decide +kernel) (Nat.le_of_ble_eq_true rfl) (fun _ => rfl) rfl (fun Γ e1 e2 C => by subst e1; subst e2; exact w_qh_packLink C a0 a1)
theorem qh_packLink_I : ck_S qh_packLink_y qh_packLink_c 2 (some .long) 2 := ⟨k_145, k_97, by decide +kernel, k_144⟩
theorem w_qh_bindInGround {Γ : cx_T} (C : cx_C Γ (qh_w (gK Γ)) qcl qh_R qh_bindInGround_c 5 none (2, 42)) (σ : qh_S) (a1 : Int32) (a2 : Int64) : J Γ (qh_w (gK Γ)) qcl (QF Γ (qh_w (gK Γ)) qcl ovV) (shV (qh_bindInGround σ a1 a2)) σ 0 [(0, .ref (kq (gK Γ) 15)), (1, .int a1), (2, .long a2)] [] := by
  unfold qh_bindInGround
  refine j_bipush C d_qh_bindInGround_0 rfl kc_b_50 ?_
  refine j_iload_n C d_qh_bindInGround_2 rfl 1 rfl ?_
  refine j_iadd C d_qh_bindInGround_3 rfl ?_
  refine j_istore C (lv' := [(4, .int ((50 : Int32) + a1)), (0, .ref (kq (gK Γ) 15)), (1, .int a1), (2, .long a2)]) d_qh_bindInGround_4 rfl (by decide) rfl ?_
  refine j_aload_n C d_qh_bindInGround_6 rfl 1 rfl ?_
  refine j_iload C d_qh_bindInGround_7 rfl 0 rfl ?_
  refine j_lload_n C d_qh_bindInGround_9 rfl 3 rfl ?_
  refine j_iload_n C d_qh_bindInGround_10 rfl 2 rfl ?_
  refine j_aload_n C d_qh_bindInGround_11 rfl 1 rfl ?_
  refine j_iconst C d_qh_bindInGround_12 rfl kc_i_0 ?_
  refine cvr_qh_qh C (mc_qh_latestBindingOf (gl Γ) (gK Γ) σ (0 : Int32)) qh_latestBindingOf_I k_134 (by decide) d_qh_bindInGround_13 rfl (rest := [.int a1, .long a2, .int ((50 : Int32) + a1), .ref (kq (gK Γ) 15)]) rfl ⟨rfl, Nat.le_of_ble_eq_true rfl⟩ ?_
  refine cs_qh C (mc_qh_packLink (gl Γ) (gK Γ) a1 (qh_latestBindingOf σ (0 : Int32))) qh_packLink_I k_143 (by decide) d_qh_bindInGround_16 rfl (rest := [.long a2, .int ((50 : Int32) + a1), .ref (kq (gK Γ) 15)]) rfl (Nat.le_of_ble_eq_true rfl) ?_
  refine cv0_qh_qh C (mc_qh_write (gl Γ) (gK Γ) σ ((50 : Int32) + a1) a2 (qh_packLink a1 (qh_latestBindingOf σ (0 : Int32)))) qh_write_I k_123 (by decide) d_qh_bindInGround_19 rfl (rest := []) rfl ⟨rfl, Nat.le_of_ble_eq_true rfl⟩ ?_
  refine j_aload_n C d_qh_bindInGround_22 rfl 1 rfl ?_
  refine j_iconst C d_qh_bindInGround_23 rfl kc_i_0 ?_
  refine j_ldc2 C d_qh_bindInGround_24 rfl k_122 ?_
  refine j_iload C d_qh_bindInGround_27 rfl 0 rfl ?_
  refine j_i2l C d_qh_bindInGround_29 rfl ?_
  refine cv0_qh_qh C (mc_qh_write (gl Γ) (gK Γ) (qh_write σ ((50 : Int32) + a1) a2 (qh_packLink a1 (qh_latestBindingOf σ (0 : Int32)))) (0 : Int32) (-1 : Int64) (Int32.toInt64 ((50 : Int32) + a1))) qh_write_I k_123 (by decide) d_qh_bindInGround_30 rfl (rest := []) rfl ⟨rfl, Nat.le_of_ble_eq_true rfl⟩ ?_
  exact j_vret C d_qh_bindInGround_33
theorem mc_qh_bindInGround (l : Launch) (K : kk_T) (σ : qh_S) (a1 : Int32) (a2 : Int64) : MC l qh_bindInGround_y qh_bindInGround_c 5 none (2, 42) K (qh_w K) qcl σ [.ref (kq K 15), .int a1, .long a2] none (qh_bindInGround σ a1 a2) := mc_of (ov := ovV) (X := shV (qh_bindInGround σ a1 a2)) (by decide +kernel) (Nat.le_of_ble_eq_true rfl) (fun _ => rfl) rfl (fun Γ e1 e2 C => by subst e1; subst e2; exact w_qh_bindInGround C σ a1 a2)
theorem qh_bindInGround_I : ck_V qh_bindInGround_y qh_bindInGround_c 5 none 2 := ⟨k_133, k_97, by decide +kernel, k_132, k_1⟩
theorem w_qh_restoreGround_L54 {Γ : cx_T} (C : cx_C Γ (qh_w (gK Γ)) qcl qh_R qh_restoreGround_c 2 none (3, 66)) (N : Nat) : ∀ (k : Nat) (σ : qh_S) (x1 : Int32), J Γ (qh_w (gK Γ)) qcl (QF Γ (qh_w (gK Γ)) qcl ovV) (shU (qh_restoreGround_L54 N k σ x1)) σ 54 [(0, .ref (kq (gK Γ) 15)), (1, .int x1)] [] := by
  intro k
  induction k with
  | zero => intro σ x1; exact J.none rfl
  | succ k ih =>
    intro σ x1
    rw [qh_restoreGround_L54]
    refine j_iload_n C d_qh_restoreGround_54 rfl 1 rfl ?_
    refine j_bipush C d_qh_restoreGround_55 rfl kc_b_25 ?_
    refine j_icmp_gt C d_qh_restoreGround_57 (tgt := 90) (by decide) rfl (fun c_2 => ?_) (fun c_2 => ?_)
    · refine J.pos shU c_2 ?_
      exact j_vret C d_qh_restoreGround_90
    · refine J.neg shU c_2 ?_
      refine j_aload_n C d_qh_restoreGround_60 rfl 0 rfl ?_
      refine j_iload_n C d_qh_restoreGround_61 rfl 1 rfl ?_
      refine j_iconst C d_qh_restoreGround_62 rfl kc_i_5 ?_
      refine j_iload_n C d_qh_restoreGround_63 rfl 1 rfl ?_
      refine j_i2l C d_qh_restoreGround_64 rfl ?_
      refine cs_qh C (mc_qw_make (gl Γ) (gK Γ) (5 : Int32) (Int32.toInt64 x1)) qw_make_I k_127 (by decide) d_qh_restoreGround_65 rfl (rest := [.int x1, .ref (kq (gK Γ) 15)]) rfl (Nat.le_of_ble_eq_true rfl) ?_
      refine j_lconst C d_qh_restoreGround_68 rfl kc_l_0 ?_
      refine cv0_qh_qh C (mc_qh_write (gl Γ) (gK Γ) σ x1 (qw_make (5 : Int32) (Int32.toInt64 x1)) (0 : Int64)) qh_write_I k_123 (by decide) d_qh_restoreGround_69 rfl (rest := []) rfl ⟨rfl, Nat.le_of_ble_eq_true rfl⟩ ?_
      refine j_aload_n C d_qh_restoreGround_72 rfl 0 rfl ?_
      refine j_iload_n C d_qh_restoreGround_73 rfl 1 rfl ?_
      refine j_bipush C d_qh_restoreGround_74 rfl kc_b_6 ?_
      refine j_iload_n C d_qh_restoreGround_76 rfl 1 rfl ?_
      refine j_i2l C d_qh_restoreGround_77 rfl ?_
      refine cs_qh C (mc_qw_make (gl Γ) (gK Γ) (6 : Int32) (Int32.toInt64 x1)) qw_make_I k_127 (by decide) d_qh_restoreGround_78 rfl (rest := [.int x1, .ref (kq (gK Γ) 15)]) rfl (Nat.le_of_ble_eq_true rfl) ?_
      refine cv0_qh_qh C (mc_qh_bindInGround (gl Γ) (gK Γ) (qh_write σ x1 (qw_make (5 : Int32) (Int32.toInt64 x1)) (0 : Int64)) x1 (qw_make (6 : Int32) (Int32.toInt64 x1))) qh_bindInGround_I k_130 (by decide) d_qh_restoreGround_81 rfl (rest := []) rfl ⟨rfl, Nat.le_of_ble_eq_true rfl⟩ ?_
      refine j_iinc C (v := (x1 + (1 : Int32))) (lv' := [(1, .int (x1 + (1 : Int32))), (0, .ref (kq (gK Γ) 15))]) d_qh_restoreGround_84 rfl 1 rfl (kc_inc_1 _) (by decide) rfl ?_
      refine j_goto C d_qh_restoreGround_87 (tgt := 54) (by decide) ?_
      refine J.loc (lv' := [(0, .ref (kq (gK Γ) 15)), (1, .int (x1 + (1 : Int32)))]) [1, 0] rfl ?_
      exact ih (qh_bindInGround (qh_write σ x1 (qw_make (5 : Int32) (Int32.toInt64 x1)) (0 : Int64)) x1 (qw_make (6 : Int32) (Int32.toInt64 x1))) (x1 + (1 : Int32))
theorem w_qh_restoreGround_L28 {Γ : cx_T} (C : cx_C Γ (qh_w (gK Γ)) qcl qh_R qh_restoreGround_c 2 none (3, 66)) (N : Nat) : ∀ (k : Nat) (σ : qh_S) (x1 : Int32), J Γ (qh_w (gK Γ)) qcl (QF Γ (qh_w (gK Γ)) qcl ovV) (shU (qh_restoreGround_L28 N k σ x1)) σ 28 [(0, .ref (kq (gK Γ) 15)), (1, .int x1)] [] := by
  intro k
  induction k with
  | zero => intro σ x1; exact J.none rfl
  | succ k ih =>
    intro σ x1
    rw [qh_restoreGround_L28]
    refine j_iload_n C d_qh_restoreGround_28 rfl 1 rfl ?_
    refine j_bipush C d_qh_restoreGround_29 rfl kc_b_7 ?_
    refine j_icmp_gt C d_qh_restoreGround_31 (tgt := 51) (by decide) rfl (fun c_1 => ?_) (fun c_1 => ?_)
    · refine J.pos shU c_1 ?_
      refine j_bipush C d_qh_restoreGround_51 rfl kc_b_10 ?_
      refine j_istore_n C (lv' := [(1, .int (10 : Int32)), (0, .ref (kq (gK Γ) 15))]) d_qh_restoreGround_53 rfl rfl (by decide) rfl ?_
      refine J.loc (lv' := [(0, .ref (kq (gK Γ) 15)), (1, .int (10 : Int32))]) [1, 0] rfl ?_
      exact w_qh_restoreGround_L54 C N N σ (10 : Int32)
    · refine J.neg shU c_1 ?_
      refine j_aload_n C d_qh_restoreGround_34 rfl 0 rfl ?_
      refine j_iload_n C d_qh_restoreGround_35 rfl 1 rfl ?_
      refine j_iconst C d_qh_restoreGround_36 rfl kc_i_5 ?_
      refine j_iload_n C d_qh_restoreGround_37 rfl 1 rfl ?_
      refine j_i2l C d_qh_restoreGround_38 rfl ?_
      refine cs_qh C (mc_qw_make (gl Γ) (gK Γ) (5 : Int32) (Int32.toInt64 x1)) qw_make_I k_127 (by decide) d_qh_restoreGround_39 rfl (rest := [.int x1, .ref (kq (gK Γ) 15)]) rfl (Nat.le_of_ble_eq_true rfl) ?_
      refine cv0_qh_qh C (mc_qh_bindInGround (gl Γ) (gK Γ) σ x1 (qw_make (5 : Int32) (Int32.toInt64 x1))) qh_bindInGround_I k_130 (by decide) d_qh_restoreGround_42 rfl (rest := []) rfl ⟨rfl, Nat.le_of_ble_eq_true rfl⟩ ?_
      refine j_iinc C (v := (x1 + (1 : Int32))) (lv' := [(1, .int (x1 + (1 : Int32))), (0, .ref (kq (gK Γ) 15))]) d_qh_restoreGround_45 rfl 1 rfl (kc_inc_1 _) (by decide) rfl ?_
      refine j_goto C d_qh_restoreGround_48 (tgt := 28) (by decide) ?_
      refine J.loc (lv' := [(0, .ref (kq (gK Γ) 15)), (1, .int (x1 + (1 : Int32)))]) [1, 0] rfl ?_
      exact ih (qh_bindInGround σ x1 (qw_make (5 : Int32) (Int32.toInt64 x1))) (x1 + (1 : Int32))
theorem w_qh_restoreGround {Γ : cx_T} (C : cx_C Γ (qh_w (gK Γ)) qcl qh_R qh_restoreGround_c 2 none (3, 66)) (N : Nat) (σ : qh_S)  : J Γ (qh_w (gK Γ)) qcl (QF Γ (qh_w (gK Γ)) qcl ovV) (shU (qh_restoreGround N σ)) σ 0 [(0, .ref (kq (gK Γ) 15))] [] := by
  unfold qh_restoreGround
  refine j_aload_n C d_qh_restoreGround_0 rfl 0 rfl ?_
  refine j_bipush C d_qh_restoreGround_1 rfl kc_b_100 ?_
  refine qh_p_nextRow C k_148 d_qh_restoreGround_3 rfl ?_
  refine j_aload_n C d_qh_restoreGround_6 rfl 0 rfl ?_
  refine j_iconst C d_qh_restoreGround_7 rfl kc_i_0 ?_
  refine j_ldc2 C d_qh_restoreGround_8 rfl k_122 ?_
  refine j_ldc2 C d_qh_restoreGround_11 rfl k_122 ?_
  refine cv0_qh_qh C (mc_qh_write (gl Γ) (gK Γ) (qh_s_nextRow σ (100 : Int32)) (0 : Int32) (-1 : Int64) (-1 : Int64)) qh_write_I k_123 (by decide) d_qh_restoreGround_14 rfl (rest := []) rfl ⟨rfl, Nat.le_of_ble_eq_true rfl⟩ ?_
  refine j_aload_n C d_qh_restoreGround_17 rfl 0 rfl ?_
  refine j_iconst C d_qh_restoreGround_18 rfl kc_i_1 ?_
  refine j_lconst C d_qh_restoreGround_19 rfl kc_l_0 ?_
  refine j_ldc2 C d_qh_restoreGround_20 rfl k_122 ?_
  refine cv0_qh_qh C (mc_qh_write (gl Γ) (gK Γ) (qh_write (qh_s_nextRow σ (100 : Int32)) (0 : Int32) (-1 : Int64) (-1 : Int64)) (1 : Int32) (0 : Int64) (-1 : Int64)) qh_write_I k_123 (by decide) d_qh_restoreGround_23 rfl (rest := []) rfl ⟨rfl, Nat.le_of_ble_eq_true rfl⟩ ?_
  refine j_iconst C d_qh_restoreGround_26 rfl kc_i_0 ?_
  refine j_istore_n C (lv' := [(1, .int (0 : Int32)), (0, .ref (kq (gK Γ) 15))]) d_qh_restoreGround_27 rfl rfl (by decide) rfl ?_
  refine J.loc (lv' := [(0, .ref (kq (gK Γ) 15)), (1, .int (0 : Int32))]) [1, 0] rfl ?_
  exact w_qh_restoreGround_L28 C N N (qh_write (qh_write (qh_s_nextRow σ (100 : Int32)) (0 : Int32) (-1 : Int64) (-1 : Int64)) (1 : Int32) (0 : Int64) (-1 : Int64)) (0 : Int32)
theorem mc_qh_restoreGround (l : Launch) (K : kk_T) (N : Nat) (σ : qh_S)  (r : qh_S) (h : qh_restoreGround N σ = some r) : MC l qh_restoreGround_y qh_restoreGround_c 2 none (3, 66) K (qh_w K) qcl σ [.ref (kq K 15)] none r := mc_of (ov := ovV) (X := shU (qh_restoreGround N σ)) (by decide +kernel) (Nat.le_of_ble_eq_true rfl) (fun _ => rfl) (by rw [h]; rfl) (fun Γ e1 e2 C => by subst e1; subst e2; exact w_qh_restoreGround C N σ)
theorem qh_restoreGround_I : ck_V qh_restoreGround_y qh_restoreGround_c 2 none 0 := ⟨k_121, k_97, by decide +kernel, k_119, k_120⟩
theorem w_qw_isInteger {Γ : cx_T} (C : cx_C Γ qw_w qcl qw_R qw_isInteger_c 2 (some .boolean) (0, 0)) (a0 : Int64) : J Γ qw_w qcl (QF Γ qw_w qcl ovI) ((shP ()) (qw_isInteger a0)) () 0 [(0, .long a0)] [] := by
  unfold qw_isInteger
  refine j_lload_n C d_qw_isInteger_0 rfl 0 rfl ?_
  refine j_ldc2 C d_qw_isInteger_1 rfl k_292 ?_
  refine j_lcmp_lt C d_qw_isInteger_4 d_qw_isInteger_5 (tgt := 20) (by decide) rfl (fun c_1 => ?_) (fun c_1 => ?_)
  · refine J.pos (shP ()) c_1 ?_
    refine j_iconst C d_qw_isInteger_20 rfl kc_i_0 ?_
    exact j_zret C rfl d_qw_isInteger_21
  · refine J.neg (shP ()) c_1 ?_
    refine j_lload_n C d_qw_isInteger_8 rfl 0 rfl ?_
    refine j_ldc2 C d_qw_isInteger_9 rfl k_293 ?_
    refine j_lcmp_gt C d_qw_isInteger_12 d_qw_isInteger_13 (tgt := 20) (by decide) rfl (fun c_2 => ?_) (fun c_2 => ?_)
    · refine J.pos (shP ()) c_2 ?_
      refine j_iconst C d_qw_isInteger_20 rfl kc_i_0 ?_
      exact j_zret C rfl d_qw_isInteger_21
    · refine J.neg (shP ()) c_2 ?_
      refine j_iconst C d_qw_isInteger_16 rfl kc_i_1 ?_
      refine j_goto C d_qw_isInteger_17 (tgt := 21) (by decide) ?_
      exact j_zret C rfl d_qw_isInteger_21
theorem mc_qw_isInteger (l : Launch) (K : kk_T) (a0 : Int64) : MC l qw_isInteger_y qw_isInteger_c 2 (some .boolean) (0, 0) K qw_w qcl () [.long a0] (some (.int (qw_isInteger a0))) () := mc_of (ov := ovI) (X := (shP ()) (qw_isInteger a0)) (by decide +kernel) (Nat.le_of_ble_eq_true rfl) (fun _ => rfl) rfl (fun Γ e1 e2 C => by subst e1; subst e2; exact w_qw_isInteger C a0)
theorem qw_isInteger_I : ck_S qw_isInteger_y qw_isInteger_c 2 (some .boolean) 1 := ⟨k_291, k_98, by decide +kernel, k_290⟩
theorem w_qw_makeBoolean {Γ : cx_T} (C : cx_C Γ qw_w qcl qw_R qw_makeBoolean_c 1 (some .long) (1, 22)) (a0 : Int32) : J Γ qw_w qcl (QF Γ qw_w qcl ovL) ((shP ()) (qw_makeBoolean a0)) () 0 [(0, .int a0)] [] := by
  unfold qw_makeBoolean
  refine j_iconst C d_qw_makeBoolean_0 rfl kc_i_1 ?_
  refine j_iload_n C d_qw_makeBoolean_1 rfl 0 rfl ?_
  refine j_if_eq C d_qw_makeBoolean_2 (tgt := 9) (by decide) rfl (fun c_1 => ?_) (fun c_1 => ?_)
  · refine J.pos (shP ()) c_1 ?_
    refine j_lconst C d_qw_makeBoolean_9 rfl kc_l_0 ?_
    refine cs_qw C (mc_qw_make (gl Γ) (gK Γ) (1 : Int32) (0 : Int64)) qw_make_I k_306 (by decide) d_qw_makeBoolean_10 rfl (rest := []) rfl (Nat.le_of_ble_eq_true rfl) ?_
    exact j_lret C d_qw_makeBoolean_13
  · refine J.neg (shP ()) c_1 ?_
    refine j_lconst C d_qw_makeBoolean_5 rfl kc_l_1 ?_
    refine j_goto C d_qw_makeBoolean_6 (tgt := 10) (by decide) ?_
    refine cs_qw C (mc_qw_make (gl Γ) (gK Γ) (1 : Int32) (1 : Int64)) qw_make_I k_306 (by decide) d_qw_makeBoolean_10 rfl (rest := []) rfl (Nat.le_of_ble_eq_true rfl) ?_
    exact j_lret C d_qw_makeBoolean_13
theorem mc_qw_makeBoolean (l : Launch) (K : kk_T) (a0 : Int32) : MC l qw_makeBoolean_y qw_makeBoolean_c 1 (some .long) (1, 22) K qw_w qcl () [.int a0] (some (.long (qw_makeBoolean a0))) () := mc_of (ov := ovL) (X := (shP ()) (qw_makeBoolean a0)) (by decide +kernel) (Nat.le_of_ble_eq_true rfl) (fun _ => rfl) rfl (fun Γ e1 e2 C => by subst e1; subst e2; exact w_qw_makeBoolean C a0)
theorem qw_makeBoolean_I : ck_S qw_makeBoolean_y qw_makeBoolean_c 1 (some .long) 1 := ⟨k_305, k_98, by decide +kernel, k_304⟩
theorem w_qw_isSymbol {Γ : cx_T} (C : cx_C Γ qw_w qcl qw_R qw_isSymbol_c 1 (some .boolean) (0, 0)) (a0 : Int32) : J Γ qw_w qcl (QF Γ qw_w qcl ovI) ((shP ()) (qw_isSymbol a0)) () 0 [(0, .int a0)] [] := by
  unfold qw_isSymbol
  refine j_iload_n C d_qw_isSymbol_0 rfl 0 rfl ?_
  refine j_if_lt C d_qw_isSymbol_1 (tgt := 14) (by decide) rfl (fun c_1 => ?_) (fun c_1 => ?_)
  · refine J.pos (shP ()) c_1 ?_
    refine j_iconst C d_qw_isSymbol_14 rfl kc_i_0 ?_
    exact j_zret C rfl d_qw_isSymbol_15
  · refine J.neg (shP ()) c_1 ?_
    refine j_iload_n C d_qw_isSymbol_4 rfl 0 rfl ?_
    refine j_bipush C d_qw_isSymbol_5 rfl kc_b_100 ?_
    refine j_icmp_ge C d_qw_isSymbol_7 (tgt := 14) (by decide) rfl (fun c_2 => ?_) (fun c_2 => ?_)
    · refine J.pos (shP ()) c_2 ?_
      refine j_iconst C d_qw_isSymbol_14 rfl kc_i_0 ?_
      exact j_zret C rfl d_qw_isSymbol_15
    · refine J.neg (shP ()) c_2 ?_
      refine j_iconst C d_qw_isSymbol_10 rfl kc_i_1 ?_
      refine j_goto C d_qw_isSymbol_11 (tgt := 15) (by decide) ?_
      exact j_zret C rfl d_qw_isSymbol_15
theorem mc_qw_isSymbol (l : Launch) (K : kk_T) (a0 : Int32) : MC l qw_isSymbol_y qw_isSymbol_c 1 (some .boolean) (0, 0) K qw_w qcl () [.int a0] (some (.int (qw_isSymbol a0))) () := mc_of (ov := ovI) (X := (shP ()) (qw_isSymbol a0)) (by decide +kernel) (Nat.le_of_ble_eq_true rfl) (fun _ => rfl) rfl (fun Γ e1 e2 C => by subst e1; subst e2; exact w_qw_isSymbol C a0)
theorem qw_isSymbol_I : ck_S qw_isSymbol_y qw_isSymbol_c 1 (some .boolean) 1 := ⟨k_313, k_98, by decide +kernel, k_312⟩
theorem w_qw_kindOf {Γ : cx_T} (C : cx_C Γ qw_w qcl qw_R qw_kindOf_c 2 (some .int) (0, 0)) (a0 : Int64) : J Γ qw_w qcl (QF Γ qw_w qcl ovI) ((shP ()) (qw_kindOf a0)) () 0 [(0, .long a0)] [] := by
  unfold qw_kindOf
  refine j_lload_n C d_qw_kindOf_0 rfl 0 rfl ?_
  refine j_ldc2 C d_qw_kindOf_1 rfl k_343 ?_
  refine j_land C d_qw_kindOf_4 rfl ?_
  refine j_l2i C d_qw_kindOf_5 rfl ?_
  exact j_iret C d_qw_kindOf_6
theorem mc_qw_kindOf (l : Launch) (K : kk_T) (a0 : Int64) : MC l qw_kindOf_y qw_kindOf_c 2 (some .int) (0, 0) K qw_w qcl () [.long a0] (some (.int (qw_kindOf a0))) () := mc_of (ov := ovI) (X := (shP ()) (qw_kindOf a0)) (by decide +kernel) (Nat.le_of_ble_eq_true rfl) (fun _ => rfl) rfl (fun Γ e1 e2 C => by subst e1; subst e2; exact w_qw_kindOf C a0)
theorem qw_kindOf_I : ck_S qw_kindOf_y qw_kindOf_c 2 (some .int) 1 := ⟨k_342, k_98, by decide +kernel, k_341⟩
theorem w_qw_rowOf {Γ : cx_T} (C : cx_C Γ qw_w qcl qw_R qw_rowOf_c 2 (some .int) (0, 0)) (a0 : Int64) : J Γ qw_w qcl (QF Γ qw_w qcl ovI) ((shP ()) (qw_rowOf a0)) () 0 [(0, .long a0)] [] := by
  unfold qw_rowOf
  refine j_lload_n C d_qw_rowOf_0 rfl 0 rfl ?_
  refine j_iconst C d_qw_rowOf_1 rfl kc_i_4 ?_
  refine j_lshr C d_qw_rowOf_2 rfl (kc_shr_4 _) ?_
  refine j_l2i C d_qw_rowOf_3 rfl ?_
  exact j_iret C d_qw_rowOf_4
theorem mc_qw_rowOf (l : Launch) (K : kk_T) (a0 : Int64) : MC l qw_rowOf_y qw_rowOf_c 2 (some .int) (0, 0) K qw_w qcl () [.long a0] (some (.int (qw_rowOf a0))) () := mc_of (ov := ovI) (X := (shP ()) (qw_rowOf a0)) (by decide +kernel) (Nat.le_of_ble_eq_true rfl) (fun _ => rfl) rfl (fun Γ e1 e2 C => by subst e1; subst e2; exact w_qw_rowOf C a0)
theorem qw_rowOf_I : ck_S qw_rowOf_y qw_rowOf_c 2 (some .int) 1 := ⟨k_350, k_98, by decide +kernel, k_349⟩
theorem w_qh_firstAt {Γ : cx_T} (C : cx_C Γ (qh_w (gK Γ)) qcl qh_R qh_firstAt_c 2 (some .long) (0, 0)) (σ : qh_S) (a1 : Int32) : J Γ (qh_w (gK Γ)) qcl (QF Γ (qh_w (gK Γ)) qcl ovL) ((shP σ) (qh_firstAt σ a1)) σ 0 [(0, .ref (kq (gK Γ) 15)), (1, .int a1)] [] := by
  unfold qh_firstAt
  refine j_iload_n C d_qh_firstAt_0 rfl 1 rfl ?_
  refine j_if_lt C d_qh_firstAt_1 (tgt := 20) (by decide) rfl (fun c_1 => ?_) (fun c_1 => ?_)
  · refine J.pos (shP σ) c_1 ?_
    refine j_ldc2 C d_qh_firstAt_20 rfl k_142 ?_
    exact j_lret C d_qh_firstAt_23
  · refine J.neg (shP σ) c_1 ?_
    refine j_iload_n C d_qh_firstAt_4 rfl 1 rfl ?_
    refine j_sipush C d_qh_firstAt_5 rfl kc_s_4100 ?_
    refine j_icmp_ge C d_qh_firstAt_8 (tgt := 20) (by decide) rfl (fun c_2 => ?_) (fun c_2 => ?_)
    · refine J.pos (shP σ) c_2 ?_
      refine j_ldc2 C d_qh_firstAt_20 rfl k_142 ?_
      exact j_lret C d_qh_firstAt_23
    · refine J.neg (shP σ) c_2 ?_
      refine j_aload_n C d_qh_firstAt_11 rfl 0 rfl ?_
      refine qh_r_first C k_146 d_qh_firstAt_12 rfl ?_
      refine j_iload_n C d_qh_firstAt_15 rfl 1 rfl ?_
      refine qh_l_first C (in_a (M := 4100) c_1 c_2 (by decide) (Nat.le_of_ble_eq_true rfl)) d_qh_firstAt_16 rfl rfl ?_
      refine j_goto C d_qh_firstAt_17 (tgt := 23) (by decide) ?_
      exact j_lret C d_qh_firstAt_23
theorem mc_qh_firstAt (l : Launch) (K : kk_T) (σ : qh_S) (a1 : Int32) : MC l qh_firstAt_y qh_firstAt_c 2 (some .long) (0, 0) K (qh_w K) qcl σ [.ref (kq K 15), .int a1] (some (.long (qh_firstAt σ a1))) σ := mc_of (ov := ovL) (X := (shP σ) (qh_firstAt σ a1)) (by decide +kernel) (Nat.le_of_ble_eq_true rfl) (fun _ => rfl) rfl (fun Γ e1 e2 C => by subst e1; subst e2; exact w_qh_firstAt C σ a1)
theorem qh_firstAt_I : ck_V qh_firstAt_y qh_firstAt_c 2 (some .long) 1 := ⟨k_354, k_97, by decide +kernel, k_353, k_7⟩
theorem w_qh_carOf {Γ : cx_T} (C : cx_C Γ (qh_w (gK Γ)) qcl qh_R qh_carOf_c 3 (some .long) (1, 21)) (σ : qh_S) (a1 : Int64) : J Γ (qh_w (gK Γ)) qcl (QF Γ (qh_w (gK Γ)) qcl ovL) ((shP σ) (qh_carOf σ a1)) σ 0 [(0, .ref (kq (gK Γ) 15)), (1, .long a1)] [] := by
  unfold qh_carOf
  refine j_aload_n C d_qh_carOf_0 rfl 0 rfl ?_
  refine j_lload_n C d_qh_carOf_1 rfl 1 rfl ?_
  refine cs_qh C (mc_qw_rowOf (gl Γ) (gK Γ) a1) qw_rowOf_I k_348 (by decide) d_qh_carOf_2 rfl (rest := [.ref (kq (gK Γ) 15)]) rfl (Nat.le_of_ble_eq_true rfl) ?_
  refine cvr_qh_qh C (mc_qh_firstAt (gl Γ) (gK Γ) σ (qw_rowOf a1)) qh_firstAt_I k_351 (by decide) d_qh_carOf_5 rfl (rest := []) rfl ⟨rfl, Nat.le_of_ble_eq_true rfl⟩ ?_
  exact j_lret C d_qh_carOf_8
theorem mc_qh_carOf (l : Launch) (K : kk_T) (σ : qh_S) (a1 : Int64) : MC l qh_carOf_y qh_carOf_c 3 (some .long) (1, 21) K (qh_w K) qcl σ [.ref (kq K 15), .long a1] (some (.long (qh_carOf σ a1))) σ := mc_of (ov := ovL) (X := (shP σ) (qh_carOf σ a1)) (by decide +kernel) (Nat.le_of_ble_eq_true rfl) (fun _ => rfl) rfl (fun Γ e1 e2 C => by subst e1; subst e2; exact w_qh_carOf C σ a1)
theorem qh_carOf_I : ck_V qh_carOf_y qh_carOf_c 3 (some .long) 1 := ⟨k_347, k_97, by decide +kernel, k_345, k_346⟩
theorem w_qh_cdrOf {Γ : cx_T} (C : cx_C Γ (qh_w (gK Γ)) qcl qh_R qh_cdrOf_c 3 (some .long) (1, 21)) (σ : qh_S) (a1 : Int64) : J Γ (qh_w (gK Γ)) qcl (QF Γ (qh_w (gK Γ)) qcl ovL) ((shP σ) (qh_cdrOf σ a1)) σ 0 [(0, .ref (kq (gK Γ) 15)), (1, .long a1)] [] := by
  unfold qh_cdrOf
  refine j_aload_n C d_qh_cdrOf_0 rfl 0 rfl ?_
  refine j_lload_n C d_qh_cdrOf_1 rfl 1 rfl ?_
  refine cs_qh C (mc_qw_rowOf (gl Γ) (gK Γ) a1) qw_rowOf_I k_348 (by decide) d_qh_cdrOf_2 rfl (rest := [.ref (kq (gK Γ) 15)]) rfl (Nat.le_of_ble_eq_true rfl) ?_
  refine cvr_qh_qh C (mc_qh_secondAt (gl Γ) (gK Γ) σ (qw_rowOf a1)) qh_secondAt_I k_138 (by decide) d_qh_cdrOf_5 rfl (rest := []) rfl ⟨rfl, Nat.le_of_ble_eq_true rfl⟩ ?_
  exact j_lret C d_qh_cdrOf_8
theorem mc_qh_cdrOf (l : Launch) (K : kk_T) (σ : qh_S) (a1 : Int64) : MC l qh_cdrOf_y qh_cdrOf_c 3 (some .long) (1, 21) K (qh_w K) qcl σ [.ref (kq K 15), .long a1] (some (.long (qh_cdrOf σ a1))) σ := mc_of (ov := ovL) (X := (shP σ) (qh_cdrOf σ a1)) (by decide +kernel) (Nat.le_of_ble_eq_true rfl) (fun _ => rfl) rfl (fun Γ e1 e2 C => by subst e1; subst e2; exact w_qh_cdrOf C σ a1)
theorem qh_cdrOf_I : ck_V qh_cdrOf_y qh_cdrOf_c 3 (some .long) 1 := ⟨k_358, k_97, by decide +kernel, k_356, k_357⟩
theorem w_qh_underlyingOf {Γ : cx_T} (C : cx_C Γ (qh_w (gK Γ)) qcl qh_R qh_underlyingOf_c 3 (some .long) (1, 21)) (σ : qh_S) (a1 : Int64) : J Γ (qh_w (gK Γ)) qcl (QF Γ (qh_w (gK Γ)) qcl ovL) ((shP σ) (qh_underlyingOf σ a1)) σ 0 [(0, .ref (kq (gK Γ) 15)), (1, .long a1)] [] := by
  unfold qh_underlyingOf
  refine j_aload_n C d_qh_underlyingOf_0 rfl 0 rfl ?_
  refine j_lload_n C d_qh_underlyingOf_1 rfl 1 rfl ?_
  refine cs_qh C (mc_qw_rowOf (gl Γ) (gK Γ) a1) qw_rowOf_I k_348 (by decide) d_qh_underlyingOf_2 rfl (rest := [.ref (kq (gK Γ) 15)]) rfl (Nat.le_of_ble_eq_true rfl) ?_
  refine cvr_qh_qh C (mc_qh_firstAt (gl Γ) (gK Γ) σ (qw_rowOf a1)) qh_firstAt_I k_351 (by decide) d_qh_underlyingOf_5 rfl (rest := []) rfl ⟨rfl, Nat.le_of_ble_eq_true rfl⟩ ?_
  exact j_lret C d_qh_underlyingOf_8
theorem mc_qh_underlyingOf (l : Launch) (K : kk_T) (σ : qh_S) (a1 : Int64) : MC l qh_underlyingOf_y qh_underlyingOf_c 3 (some .long) (1, 21) K (qh_w K) qcl σ [.ref (kq K 15), .long a1] (some (.long (qh_underlyingOf σ a1))) σ := mc_of (ov := ovL) (X := (shP σ) (qh_underlyingOf σ a1)) (by decide +kernel) (Nat.le_of_ble_eq_true rfl) (fun _ => rfl) rfl (fun Γ e1 e2 C => by subst e1; subst e2; exact w_qh_underlyingOf C σ a1)
theorem qh_underlyingOf_I : ck_V qh_underlyingOf_y qh_underlyingOf_c 3 (some .long) 1 := ⟨k_362, k_97, by decide +kernel, k_360, k_361⟩
theorem w_qh_parentOf {Γ : cx_T} (C : cx_C Γ (qh_w (gK Γ)) qcl qh_R qh_parentOf_c 2 (some .int) (1, 21)) (σ : qh_S) (a1 : Int32) : J Γ (qh_w (gK Γ)) qcl (QF Γ (qh_w (gK Γ)) qcl ovI) ((shP σ) (qh_parentOf σ a1)) σ 0 [(0, .ref (kq (gK Γ) 15)), (1, .int a1)] [] := by
  unfold qh_parentOf
  refine j_aload_n C d_qh_parentOf_0 rfl 0 rfl ?_
  refine j_iload_n C d_qh_parentOf_1 rfl 1 rfl ?_
  refine cvr_qh_qh C (mc_qh_firstAt (gl Γ) (gK Γ) σ a1) qh_firstAt_I k_351 (by decide) d_qh_parentOf_2 rfl (rest := []) rfl ⟨rfl, Nat.le_of_ble_eq_true rfl⟩ ?_
  refine j_l2i C d_qh_parentOf_5 rfl ?_
  exact j_iret C d_qh_parentOf_6
theorem mc_qh_parentOf (l : Launch) (K : kk_T) (σ : qh_S) (a1 : Int32) : MC l qh_parentOf_y qh_parentOf_c 2 (some .int) (1, 21) K (qh_w K) qcl σ [.ref (kq K 15), .int a1] (some (.int (qh_parentOf σ a1))) σ := mc_of (ov := ovI) (X := (shP σ) (qh_parentOf σ a1)) (by decide +kernel) (Nat.le_of_ble_eq_true rfl) (fun _ => rfl) rfl (fun Γ e1 e2 C => by subst e1; subst e2; exact w_qh_parentOf C σ a1)
theorem qh_parentOf_I : ck_V qh_parentOf_y qh_parentOf_c 2 (some .int) 1 := ⟨k_371, k_97, by decide +kernel, k_369, k_370⟩
theorem w_qh_symbolIn {Γ : cx_T} (C : cx_C Γ qw_w qcl qh_R qh_symbolIn_c 2 (some .int) (0, 0)) (a0 : Int64) : J Γ qw_w qcl (QF Γ qw_w qcl ovI) ((shP ()) (qh_symbolIn a0)) () 0 [(0, .long a0)] [] := by
  unfold qh_symbolIn
  refine j_lload_n C d_qh_symbolIn_0 rfl 0 rfl ?_
  refine j_ldc2 C d_qh_symbolIn_1 rfl k_391 ?_
  refine j_land C d_qh_symbolIn_4 rfl ?_
  refine j_l2i C d_qh_symbolIn_5 rfl ?_
  exact j_iret C d_qh_symbolIn_6
theorem mc_qh_symbolIn (l : Launch) (K : kk_T) (a0 : Int64) : MC l qh_symbolIn_y qh_symbolIn_c 2 (some .int) (0, 0) K qw_w qcl () [.long a0] (some (.int (qh_symbolIn a0))) () := mc_of (ov := ovI) (X := (shP ()) (qh_symbolIn a0)) (by decide +kernel) (Nat.le_of_ble_eq_true rfl) (fun _ => rfl) rfl (fun Γ e1 e2 C => by subst e1; subst e2; exact w_qh_symbolIn C a0)
theorem qh_symbolIn_I : ck_S qh_symbolIn_y qh_symbolIn_c 2 (some .int) 1 := ⟨k_390, k_97, by decide +kernel, k_389⟩
theorem w_qh_nextIn {Γ : cx_T} (C : cx_C Γ qw_w qcl qh_R qh_nextIn_c 2 (some .int) (0, 0)) (a0 : Int64) : J Γ qw_w qcl (QF Γ qw_w qcl ovI) ((shP ()) (qh_nextIn a0)) () 0 [(0, .long a0)] [] := by
  unfold qh_nextIn
  refine j_lload_n C d_qh_nextIn_0 rfl 0 rfl ?_
  refine j_bipush C d_qh_nextIn_1 rfl kc_b_7 ?_
  refine j_lshr C d_qh_nextIn_3 rfl (kc_shr_7 _) ?_
  refine j_l2i C d_qh_nextIn_4 rfl ?_
  exact j_iret C d_qh_nextIn_5
theorem mc_qh_nextIn (l : Launch) (K : kk_T) (a0 : Int64) : MC l qh_nextIn_y qh_nextIn_c 2 (some .int) (0, 0) K qw_w qcl () [.long a0] (some (.int (qh_nextIn a0))) () := mc_of (ov := ovI) (X := (shP ()) (qh_nextIn a0)) (by decide +kernel) (Nat.le_of_ble_eq_true rfl) (fun _ => rfl) rfl (fun Γ e1 e2 C => by subst e1; subst e2; exact w_qh_nextIn C a0)
theorem qh_nextIn_I : ck_S qh_nextIn_y qh_nextIn_c 2 (some .int) 1 := ⟨k_394, k_97, by decide +kernel, k_393⟩
theorem w_qh_ownBinding_L9 {Γ : cx_T} (C : cx_C Γ (qh_w (gK Γ)) qcl qh_R qh_ownBinding_c 7 (some .int) (2, 42)) (N : Nat) : ∀ (k : Nat) (σ : qh_S) (x2 : Int32) (x3 : Int32) (x4 : Int32), J Γ (qh_w (gK Γ)) qcl (QF Γ (qh_w (gK Γ)) qcl ovI) ((shR σ) (qh_ownBinding_L9 N k σ x2 x3 x4)) σ 9 [(0, .ref (kq (gK Γ) 15)), (2, .int x2), (3, .int x3), (4, .int x4)] [] := by
  intro k
  induction k with
  | zero => intro σ x2 x3 x4; exact J.none rfl
  | succ k ih =>
    intro σ x2 x3 x4
    rw [qh_ownBinding_L9]
    refine j_iload_n C d_qh_ownBinding_9 rfl 2 rfl ?_
    refine j_iconst C d_qh_ownBinding_10 rfl kc_i_m1 ?_
    refine j_icmp_eq C d_qh_ownBinding_11 (tgt := 52) (by decide) rfl (fun c_1 => ?_) (fun c_1 => ?_)
    · refine J.pos (shR σ) c_1 ?_
      refine j_iconst C d_qh_ownBinding_52 rfl kc_i_m1 ?_
      exact j_iret C d_qh_ownBinding_53
    · refine J.neg (shR σ) c_1 ?_
      refine j_iload C d_qh_ownBinding_14 rfl 3 rfl ?_
      refine j_sipush C d_qh_ownBinding_16 rfl kc_s_4100 ?_
      refine j_icmp_ge C d_qh_ownBinding_19 (tgt := 52) (by decide) rfl (fun c_2 => ?_) (fun c_2 => ?_)
      · refine J.pos (shR σ) c_2 ?_
        refine j_iconst C d_qh_ownBinding_52 rfl kc_i_m1 ?_
        exact j_iret C d_qh_ownBinding_53
      · refine J.neg (shR σ) c_2 ?_
        refine j_aload_n C d_qh_ownBinding_22 rfl 0 rfl ?_
        refine j_iload_n C d_qh_ownBinding_23 rfl 2 rfl ?_
        refine cvr_qh_qh C (mc_qh_secondAt (gl Γ) (gK Γ) σ x3) qh_secondAt_I k_138 (by decide) d_qh_ownBinding_24 rfl (rest := []) rfl ⟨rfl, Nat.le_of_ble_eq_true rfl⟩ ?_
        refine j_lstore C (lv' := [(5, .long (qh_secondAt σ x3)), (0, .ref (kq (gK Γ) 15)), (2, .int x2), (3, .int x3), (4, .int x4)]) d_qh_ownBinding_27 rfl (by decide) rfl ?_
        refine j_lload C d_qh_ownBinding_29 rfl 0 rfl ?_
        refine cs_qh C (mc_qh_symbolIn (gl Γ) (gK Γ) (qh_secondAt σ x3)) qh_symbolIn_I k_388 (by decide) d_qh_ownBinding_31 rfl (rest := []) rfl (Nat.le_of_ble_eq_true rfl) ?_
        refine j_iload_n C d_qh_ownBinding_34 rfl 2 rfl ?_
        refine j_icmp_ne C d_qh_ownBinding_35 (tgt := 40) (by decide) rfl (fun c_3 => ?_) (fun c_3 => ?_)
        · refine J.neg (shR σ) c_3 ?_
          refine j_lload C d_qh_ownBinding_40 rfl 0 rfl ?_
          refine cs_qh C (mc_qh_nextIn (gl Γ) (gK Γ) (qh_secondAt σ x3)) qh_nextIn_I k_392 (by decide) d_qh_ownBinding_42 rfl (rest := []) rfl (Nat.le_of_ble_eq_true rfl) ?_
          refine j_istore_n C (lv' := [(3, .int (qh_nextIn (qh_secondAt σ x3))), (5, .long (qh_secondAt σ x3)), (0, .ref (kq (gK Γ) 15)), (2, .int x2), (4, .int x4)]) d_qh_ownBinding_45 rfl rfl (by decide) rfl ?_
          refine j_iinc C (v := (x4 + (1 : Int32))) (lv' := [(4, .int (x4 + (1 : Int32))), (3, .int (qh_nextIn (qh_secondAt σ x3))), (5, .long (qh_secondAt σ x3)), (0, .ref (kq (gK Γ) 15)), (2, .int x2)]) d_qh_ownBinding_46 rfl 4 rfl (kc_inc_1 _) (by decide) rfl ?_
          refine j_goto C d_qh_ownBinding_49 (tgt := 9) (by decide) ?_
          refine J.loc (lv' := [(0, .ref (kq (gK Γ) 15)), (2, .int x2), (3, .int (qh_nextIn (qh_secondAt σ x3))), (4, .int (x4 + (1 : Int32)))]) [3, 4, 1, 0] rfl ?_
          exact ih σ x2 (qh_nextIn (qh_secondAt σ x3)) (x4 + (1 : Int32))
        · refine J.pos (shR σ) c_3 ?_
          refine j_iload_n C d_qh_ownBinding_38 rfl 3 rfl ?_
          exact j_iret C d_qh_ownBinding_39
theorem w_qh_ownBinding {Γ : cx_T} (C : cx_C Γ (qh_w (gK Γ)) qcl qh_R qh_ownBinding_c 7 (some .int) (2, 42)) (N : Nat) (σ : qh_S) (a1 : Int32) (a2 : Int32) : J Γ (qh_w (gK Γ)) qcl (QF Γ (qh_w (gK Γ)) qcl ovI) ((shR σ) (qh_ownBinding N σ a1 a2)) σ 0 [(0, .ref (kq (gK Γ) 15)), (1, .int a1), (2, .int a2)] [] := by
  unfold qh_ownBinding
  refine j_aload_n C d_qh_ownBinding_0 rfl 0 rfl ?_
  refine j_iload_n C d_qh_ownBinding_1 rfl 1 rfl ?_
  refine cvr_qh_qh C (mc_qh_latestBindingOf (gl Γ) (gK Γ) σ a1) qh_latestBindingOf_I k_134 (by decide) d_qh_ownBinding_2 rfl (rest := []) rfl ⟨rfl, Nat.le_of_ble_eq_true rfl⟩ ?_
  refine j_istore_n C (lv' := [(3, .int (qh_latestBindingOf σ a1)), (0, .ref (kq (gK Γ) 15)), (1, .int a1), (2, .int a2)]) d_qh_ownBinding_5 rfl rfl (by decide) rfl ?_
  refine j_iconst C d_qh_ownBinding_6 rfl kc_i_0 ?_
  refine j_istore C (lv' := [(4, .int (0 : Int32)), (3, .int (qh_latestBindingOf σ a1)), (0, .ref (kq (gK Γ) 15)), (1, .int a1), (2, .int a2)]) d_qh_ownBinding_7 rfl (by decide) rfl ?_
  refine J.loc (lv' := [(0, .ref (kq (gK Γ) 15)), (2, .int a2), (3, .int (qh_latestBindingOf σ a1)), (4, .int (0 : Int32))]) [2, 4, 1, 0] rfl ?_
  exact w_qh_ownBinding_L9 C N N σ a2 (qh_latestBindingOf σ a1) (0 : Int32)
theorem mc_qh_ownBinding (l : Launch) (K : kk_T) (N : Nat) (σ : qh_S) (a1 : Int32) (a2 : Int32) (r : Int32) (h : qh_ownBinding N σ a1 a2 = some r) : MC l qh_ownBinding_y qh_ownBinding_c 7 (some .int) (2, 42) K (qh_w K) qcl σ [.ref (kq K 15), .int a1, .int a2] (some (.int r)) σ := mc_of (ov := ovI) (X := (shR σ) (qh_ownBinding N σ a1 a2)) (by decide +kernel) (Nat.le_of_ble_eq_true rfl) (fun _ => rfl) (by rw [h]; rfl) (fun Γ e1 e2 C => by subst e1; subst e2; exact w_qh_ownBinding C N σ a1 a2)
theorem qh_ownBinding_I : ck_V qh_ownBinding_y qh_ownBinding_c 7 (some .int) 2 := ⟨k_387, k_97, by decide +kernel, k_386, k_10⟩
theorem w_qh_visibleBinding_L5 {Γ : cx_T} (C : cx_C Γ (qh_w (gK Γ)) qcl qh_R qh_visibleBinding_c 6 (some .int) (3, 68)) (N : Nat) : ∀ (k : Nat) (σ : qh_S) (x2 : Int32) (x3 : Int32) (x4 : Int32), J Γ (qh_w (gK Γ)) qcl (QF Γ (qh_w (gK Γ)) qcl ovI) ((shR σ) (qh_visibleBinding_L5 N k σ x2 x3 x4)) σ 5 [(0, .ref (kq (gK Γ) 15)), (2, .int x2), (3, .int x3), (4, .int x4)] [] := by
  intro k
  induction k with
  | zero => intro σ x2 x3 x4; exact J.none rfl
  | succ k ih =>
    intro σ x2 x3 x4
    rw [qh_visibleBinding_L5]
    refine j_iload_n C d_qh_visibleBinding_5 rfl 2 rfl ?_
    refine j_iconst C d_qh_visibleBinding_6 rfl kc_i_m1 ?_
    refine j_icmp_eq C d_qh_visibleBinding_7 (tgt := 47) (by decide) rfl (fun c_1 => ?_) (fun c_1 => ?_)
    · refine J.pos (shR σ) c_1 ?_
      refine j_iconst C d_qh_visibleBinding_47 rfl kc_i_m1 ?_
      exact j_iret C d_qh_visibleBinding_48
    · refine J.neg (shR σ) c_1 ?_
      refine j_iload C d_qh_visibleBinding_10 rfl 3 rfl ?_
      refine j_sipush C d_qh_visibleBinding_12 rfl kc_s_4100 ?_
      refine j_icmp_ge C d_qh_visibleBinding_15 (tgt := 47) (by decide) rfl (fun c_2 => ?_) (fun c_2 => ?_)
      · refine J.pos (shR σ) c_2 ?_
        refine j_iconst C d_qh_visibleBinding_47 rfl kc_i_m1 ?_
        exact j_iret C d_qh_visibleBinding_48
      · refine J.neg (shR σ) c_2 ?_
        refine j_aload_n C d_qh_visibleBinding_18 rfl 0 rfl ?_
        refine j_iload_n C d_qh_visibleBinding_19 rfl 2 rfl ?_
        refine j_iload_n C d_qh_visibleBinding_20 rfl 1 rfl ?_
        refine J.goR (fun r3 h_4 => ?_)
        refine cvr_qh_qh C (mc_qh_ownBinding (gl Γ) (gK Γ) N σ x3 x2 r3 h_4) qh_ownBinding_I k_384 (by decide) d_qh_visibleBinding_21 rfl (rest := []) rfl ⟨rfl, Nat.le_of_ble_eq_true rfl⟩ ?_
        refine j_istore C (lv' := [(5, .int r3), (0, .ref (kq (gK Γ) 15)), (2, .int x2), (3, .int x3), (4, .int x4)]) d_qh_visibleBinding_24 rfl (by decide) rfl ?_
        refine j_iload C d_qh_visibleBinding_26 rfl 0 rfl ?_
        refine j_iconst C d_qh_visibleBinding_28 rfl kc_i_m1 ?_
        refine j_icmp_eq C d_qh_visibleBinding_29 (tgt := 35) (by decide) rfl (fun c_5 => ?_) (fun c_5 => ?_)
        · refine J.pos (shR σ) c_5 ?_
          refine j_aload_n C d_qh_visibleBinding_35 rfl 1 rfl ?_
          refine j_iload_n C d_qh_visibleBinding_36 rfl 3 rfl ?_
          refine cvr_qh_qh C (mc_qh_parentOf (gl Γ) (gK Γ) σ x3) qh_parentOf_I k_395 (by decide) d_qh_visibleBinding_37 rfl (rest := []) rfl ⟨rfl, Nat.le_of_ble_eq_true rfl⟩ ?_
          refine j_istore_n C (lv' := [(3, .int (qh_parentOf σ x3)), (5, .int r3), (0, .ref (kq (gK Γ) 15)), (2, .int x2), (4, .int x4)]) d_qh_visibleBinding_40 rfl rfl (by decide) rfl ?_
          refine j_iinc C (v := (x4 + (1 : Int32))) (lv' := [(4, .int (x4 + (1 : Int32))), (3, .int (qh_parentOf σ x3)), (5, .int r3), (0, .ref (kq (gK Γ) 15)), (2, .int x2)]) d_qh_visibleBinding_41 rfl 4 rfl (kc_inc_1 _) (by decide) rfl ?_
          refine j_goto C d_qh_visibleBinding_44 (tgt := 5) (by decide) ?_
          refine J.loc (lv' := [(0, .ref (kq (gK Γ) 15)), (2, .int x2), (3, .int (qh_parentOf σ x3)), (4, .int (x4 + (1 : Int32)))]) [3, 4, 1, 0] rfl ?_
          exact ih σ x2 (qh_parentOf σ x3) (x4 + (1 : Int32))
        · refine J.neg (shR σ) c_5 ?_
          refine j_iload C d_qh_visibleBinding_32 rfl 0 rfl ?_
          exact j_iret C d_qh_visibleBinding_34
theorem w_qh_visibleBinding {Γ : cx_T} (C : cx_C Γ (qh_w (gK Γ)) qcl qh_R qh_visibleBinding_c 6 (some .int) (3, 68)) (N : Nat) (σ : qh_S) (a1 : Int32) (a2 : Int32) : J Γ (qh_w (gK Γ)) qcl (QF Γ (qh_w (gK Γ)) qcl ovI) ((shR σ) (qh_visibleBinding N σ a1 a2)) σ 0 [(0, .ref (kq (gK Γ) 15)), (1, .int a1), (2, .int a2)] [] := by
  unfold qh_visibleBinding
  refine j_iload_n C d_qh_visibleBinding_0 rfl 1 rfl ?_
  refine j_istore_n C (lv' := [(3, .int a1), (0, .ref (kq (gK Γ) 15)), (1, .int a1), (2, .int a2)]) d_qh_visibleBinding_1 rfl rfl (by decide) rfl ?_
  refine j_iconst C d_qh_visibleBinding_2 rfl kc_i_0 ?_
  refine j_istore C (lv' := [(4, .int (0 : Int32)), (3, .int a1), (0, .ref (kq (gK Γ) 15)), (1, .int a1), (2, .int a2)]) d_qh_visibleBinding_3 rfl (by decide) rfl ?_
  refine J.loc (lv' := [(0, .ref (kq (gK Γ) 15)), (2, .int a2), (3, .int a1), (4, .int (0 : Int32))]) [2, 4, 1, 0] rfl ?_
  exact w_qh_visibleBinding_L5 C N N σ a2 a1 (0 : Int32)
theorem mc_qh_visibleBinding (l : Launch) (K : kk_T) (N : Nat) (σ : qh_S) (a1 : Int32) (a2 : Int32) (r : Int32) (h : qh_visibleBinding N σ a1 a2 = some r) : MC l qh_visibleBinding_y qh_visibleBinding_c 6 (some .int) (3, 68) K (qh_w K) qcl σ [.ref (kq K 15), .int a1, .int a2] (some (.int r)) σ := mc_of (ov := ovI) (X := (shR σ) (qh_visibleBinding N σ a1 a2)) (by decide +kernel) (Nat.le_of_ble_eq_true rfl) (fun _ => rfl) (by rw [h]; rfl) (fun Γ e1 e2 C => by subst e1; subst e2; exact w_qh_visibleBinding C N σ a1 a2)
theorem qh_visibleBinding_I : ck_V qh_visibleBinding_y qh_visibleBinding_c 6 (some .int) 2 := ⟨k_383, k_97, by decide +kernel, k_381, k_382⟩
theorem w_qh_boundValueOf {Γ : cx_T} (C : cx_C Γ (qh_w (gK Γ)) qcl qh_R qh_boundValueOf_c 2 (some .long) (1, 21)) (σ : qh_S) (a1 : Int32) : J Γ (qh_w (gK Γ)) qcl (QF Γ (qh_w (gK Γ)) qcl ovL) ((shP σ) (qh_boundValueOf σ a1)) σ 0 [(0, .ref (kq (gK Γ) 15)), (1, .int a1)] [] := by
  unfold qh_boundValueOf
  refine j_aload_n C d_qh_boundValueOf_0 rfl 0 rfl ?_
  refine j_iload_n C d_qh_boundValueOf_1 rfl 1 rfl ?_
  refine cvr_qh_qh C (mc_qh_firstAt (gl Γ) (gK Γ) σ a1) qh_firstAt_I k_351 (by decide) d_qh_boundValueOf_2 rfl (rest := []) rfl ⟨rfl, Nat.le_of_ble_eq_true rfl⟩ ?_
  exact j_lret C d_qh_boundValueOf_5
theorem mc_qh_boundValueOf (l : Launch) (K : kk_T) (σ : qh_S) (a1 : Int32) : MC l qh_boundValueOf_y qh_boundValueOf_c 2 (some .long) (1, 21) K (qh_w K) qcl σ [.ref (kq K 15), .int a1] (some (.long (qh_boundValueOf σ a1))) σ := mc_of (ov := ovL) (X := (shP σ) (qh_boundValueOf σ a1)) (by decide +kernel) (Nat.le_of_ble_eq_true rfl) (fun _ => rfl) rfl (fun Γ e1 e2 C => by subst e1; subst e2; exact w_qh_boundValueOf C σ a1)
theorem qh_boundValueOf_I : ck_V qh_boundValueOf_y qh_boundValueOf_c 2 (some .long) 1 := ⟨k_399, k_97, by decide +kernel, k_397, k_398⟩
theorem w_qh_add {Γ : cx_T} (C : cx_C Γ (qh_w (gK Γ)) qcl qh_R qh_add_c 6 (some .int) (0, 0)) (σ : qh_S) (a1 : Int64) (a3 : Int64) : J Γ (qh_w (gK Γ)) qcl (QF Γ (qh_w (gK Γ)) qcl ovI) (shT (qh_add σ a1 a3)) σ 0 [(0, .ref (kq (gK Γ) 15)), (1, .long a1), (3, .long a3)] [] := by
  unfold qh_add
  refine j_aload_n C d_qh_add_0 rfl 0 rfl ?_
  refine qh_r_nextRow C k_148 d_qh_add_1 rfl rfl ?_
  refine j_istore C (lv' := [(5, .int (qh_g_nextRow σ)), (0, .ref (kq (gK Γ) 15)), (1, .long a1), (3, .long a3)]) d_qh_add_4 rfl (by decide) rfl ?_
  refine j_iload C d_qh_add_6 rfl 0 rfl ?_
  refine j_if_lt C d_qh_add_8 (tgt := 19) (by decide) rfl (fun c_1 => ?_) (fun c_1 => ?_)
  · refine J.pos shT c_1 ?_
    refine j_iconst C d_qh_add_19 rfl kc_i_m1 ?_
    exact j_iret C d_qh_add_20
  · refine J.neg shT c_1 ?_
    refine j_iload C d_qh_add_11 rfl 0 rfl ?_
    refine j_sipush C d_qh_add_13 rfl kc_s_4100 ?_
    refine j_icmp_lt C d_qh_add_16 (tgt := 21) (by decide) rfl (fun c_2 => ?_) (fun c_2 => ?_)
    · refine J.pos shT c_2 ?_
      refine j_aload_n C d_qh_add_21 rfl 1 rfl ?_
      refine qh_r_first C k_146 d_qh_add_22 rfl ?_
      refine j_iload C d_qh_add_25 rfl 0 rfl ?_
      refine j_lload_n C d_qh_add_27 rfl 2 rfl ?_
      refine qh_a_first C (in_c (M := 4100) c_1 c_2 (by decide) (Nat.le_of_ble_eq_true rfl)) d_qh_add_28 rfl ?_
      refine j_aload_n C d_qh_add_29 rfl 1 rfl ?_
      refine qh_r_second C k_147 d_qh_add_30 rfl ?_
      refine j_iload C d_qh_add_33 rfl 0 rfl ?_
      refine j_lload_n C d_qh_add_35 rfl 3 rfl ?_
      refine qh_a_second C (in_c (M := 4100) c_1 c_2 (by decide) (Nat.le_of_ble_eq_true rfl)) d_qh_add_36 rfl ?_
      refine j_aload_n C d_qh_add_37 rfl 1 rfl ?_
      refine j_dup C d_qh_add_38 rfl rfl ?_
      refine qh_r_nextRow C k_148 d_qh_add_39 rfl (x := (qh_g_nextRow σ)) ((gs_qh_nextRow_t_second _ _ _).trans (gs_qh_nextRow_t_first _ _ _)) ?_
      refine j_iconst C d_qh_add_42 rfl kc_i_1 ?_
      refine j_iadd C d_qh_add_43 rfl ?_
      refine qh_p_nextRow C k_148 d_qh_add_44 rfl ?_
      refine j_iload C d_qh_add_47 rfl 0 rfl ?_
      exact j_iret C d_qh_add_49
    · refine J.neg shT c_2 ?_
      refine j_iconst C d_qh_add_19 rfl kc_i_m1 ?_
      exact j_iret C d_qh_add_20
theorem mc_qh_add (l : Launch) (K : kk_T) (σ : qh_S) (a1 : Int64) (a3 : Int64) : MC l qh_add_y qh_add_c 6 (some .int) (0, 0) K (qh_w K) qcl σ [.ref (kq K 15), .long a1, .long a3] (some (.int (qh_add σ a1 a3).1)) (qh_add σ a1 a3).2 := mc_of (ov := ovI) (X := shT (qh_add σ a1 a3)) (by decide +kernel) (Nat.le_of_ble_eq_true rfl) (fun _ => rfl) rfl (fun Γ e1 e2 C => by subst e1; subst e2; exact w_qh_add C σ a1 a3)
theorem qh_add_I : ck_V qh_add_y qh_add_c 6 (some .int) 2 := ⟨k_411, k_97, by decide +kernel, k_410, k_11⟩
theorem w_qh_addPair {Γ : cx_T} (C : cx_C Γ (qh_w (gK Γ)) qcl qh_R qh_addPair_c 5 (some .int) (1, 25)) (σ : qh_S) (a1 : Int64) (a3 : Int64) : J Γ (qh_w (gK Γ)) qcl (QF Γ (qh_w (gK Γ)) qcl ovI) (shT (qh_addPair σ a1 a3)) σ 0 [(0, .ref (kq (gK Γ) 15)), (1, .long a1), (3, .long a3)] [] := by
  unfold qh_addPair
  refine j_aload_n C d_qh_addPair_0 rfl 0 rfl ?_
  refine j_lload_n C d_qh_addPair_1 rfl 1 rfl ?_
  refine j_lload_n C d_qh_addPair_2 rfl 2 rfl ?_
  refine cv_qh_qh C (mc_qh_add (gl Γ) (gK Γ) σ a1 a3) qh_add_I k_408 (by decide) d_qh_addPair_3 rfl (rest := []) rfl ⟨rfl, Nat.le_of_ble_eq_true rfl⟩ ?_
  exact j_iret C d_qh_addPair_6
theorem mc_qh_addPair (l : Launch) (K : kk_T) (σ : qh_S) (a1 : Int64) (a3 : Int64) : MC l qh_addPair_y qh_addPair_c 5 (some .int) (1, 25) K (qh_w K) qcl σ [.ref (kq K 15), .long a1, .long a3] (some (.int (qh_addPair σ a1 a3).1)) (qh_addPair σ a1 a3).2 := mc_of (ov := ovI) (X := shT (qh_addPair σ a1 a3)) (by decide +kernel) (Nat.le_of_ble_eq_true rfl) (fun _ => rfl) rfl (fun Γ e1 e2 C => by subst e1; subst e2; exact w_qh_addPair C σ a1 a3)
theorem qh_addPair_I : ck_V qh_addPair_y qh_addPair_c 5 (some .int) 2 := ⟨k_407, k_97, by decide +kernel, k_405, k_406⟩
theorem w_qh_hasRoomFor {Γ : cx_T} (C : cx_C Γ (qh_w (gK Γ)) qcl qh_R qh_hasRoomFor_c 2 (some .boolean) (0, 0)) (σ : qh_S) (a1 : Int32) : J Γ (qh_w (gK Γ)) qcl (QF Γ (qh_w (gK Γ)) qcl ovI) ((shP σ) (qh_hasRoomFor σ a1)) σ 0 [(0, .ref (kq (gK Γ) 15)), (1, .int a1)] [] := by
  unfold qh_hasRoomFor
  refine j_sipush C d_qh_hasRoomFor_0 rfl kc_s_4100 ?_
  refine j_aload_n C d_qh_hasRoomFor_3 rfl 0 rfl ?_
  refine qh_r_nextRow C k_148 d_qh_hasRoomFor_4 rfl rfl ?_
  refine j_isub C d_qh_hasRoomFor_7 rfl ?_
  refine j_iload_n C d_qh_hasRoomFor_8 rfl 1 rfl ?_
  refine j_icmp_lt C d_qh_hasRoomFor_9 (tgt := 16) (by decide) rfl (fun c_1 => ?_) (fun c_1 => ?_)
  · refine J.pos (shP σ) c_1 ?_
    refine j_iconst C d_qh_hasRoomFor_16 rfl kc_i_0 ?_
    exact j_zret C rfl d_qh_hasRoomFor_17
  · refine J.neg (shP σ) c_1 ?_
    refine j_iconst C d_qh_hasRoomFor_12 rfl kc_i_1 ?_
    refine j_goto C d_qh_hasRoomFor_13 (tgt := 17) (by decide) ?_
    exact j_zret C rfl d_qh_hasRoomFor_17
theorem mc_qh_hasRoomFor (l : Launch) (K : kk_T) (σ : qh_S) (a1 : Int32) : MC l qh_hasRoomFor_y qh_hasRoomFor_c 2 (some .boolean) (0, 0) K (qh_w K) qcl σ [.ref (kq K 15), .int a1] (some (.int (qh_hasRoomFor σ a1))) σ := mc_of (ov := ovI) (X := (shP σ) (qh_hasRoomFor σ a1)) (by decide +kernel) (Nat.le_of_ble_eq_true rfl) (fun _ => rfl) rfl (fun Γ e1 e2 C => by subst e1; subst e2; exact w_qh_hasRoomFor C σ a1)
theorem qh_hasRoomFor_I : ck_V qh_hasRoomFor_y qh_hasRoomFor_c 2 (some .boolean) 1 := ⟨k_423, k_97, by decide +kernel, k_421, k_422⟩
theorem w_qh_objectCount {Γ : cx_T} (C : cx_C Γ (qh_w (gK Γ)) qcl qh_R qh_objectCount_c 1 (some .int) (0, 0)) (σ : qh_S)  : J Γ (qh_w (gK Γ)) qcl (QF Γ (qh_w (gK Γ)) qcl ovI) ((shP σ) (qh_objectCount σ)) σ 0 [(0, .ref (kq (gK Γ) 15))] [] := by
  unfold qh_objectCount
  refine j_aload_n C d_qh_objectCount_0 rfl 0 rfl ?_
  refine qh_r_nextRow C k_148 d_qh_objectCount_1 rfl rfl ?_
  refine j_bipush C d_qh_objectCount_4 rfl kc_b_100 ?_
  refine j_isub C d_qh_objectCount_6 rfl ?_
  exact j_iret C d_qh_objectCount_7
theorem mc_qh_objectCount (l : Launch) (K : kk_T) (σ : qh_S)  : MC l qh_objectCount_y qh_objectCount_c 1 (some .int) (0, 0) K (qh_w K) qcl σ [.ref (kq K 15)] (some (.int (qh_objectCount σ))) σ := mc_of (ov := ovI) (X := (shP σ) (qh_objectCount σ)) (by decide +kernel) (Nat.le_of_ble_eq_true rfl) (fun _ => rfl) rfl (fun Γ e1 e2 C => by subst e1; subst e2; exact w_qh_objectCount C σ)
theorem qh_objectCount_I : ck_V qh_objectCount_y qh_objectCount_c 1 (some .int) 0 := ⟨k_435, k_97, by decide +kernel, k_433, k_434⟩
theorem w_qw_contentOf {Γ : cx_T} (C : cx_C Γ qw_w qcl qw_R qw_contentOf_c 2 (some .long) (0, 0)) (a0 : Int64) : J Γ qw_w qcl (QF Γ qw_w qcl ovL) ((shP ()) (qw_contentOf a0)) () 0 [(0, .long a0)] [] := by
  unfold qw_contentOf
  refine j_lload_n C d_qw_contentOf_0 rfl 0 rfl ?_
  refine j_iconst C d_qw_contentOf_1 rfl kc_i_4 ?_
  refine j_lshr C d_qw_contentOf_2 rfl (kc_shr_4 _) ?_
  exact j_lret C d_qw_contentOf_3
theorem mc_qw_contentOf (l : Launch) (K : kk_T) (a0 : Int64) : MC l qw_contentOf_y qw_contentOf_c 2 (some .long) (0, 0) K qw_w qcl () [.long a0] (some (.long (qw_contentOf a0))) () := mc_of (ov := ovL) (X := (shP ()) (qw_contentOf a0)) (by decide +kernel) (Nat.le_of_ble_eq_true rfl) (fun _ => rfl) rfl (fun Γ e1 e2 C => by subst e1; subst e2; exact w_qw_contentOf C a0)
theorem qw_contentOf_I : ck_S qw_contentOf_y qw_contentOf_c 2 (some .long) 1 := ⟨k_453, k_98, by decide +kernel, k_452⟩
theorem w_qh_lengthOf_L5 {Γ : cx_T} (C : cx_C Γ (qh_w (gK Γ)) qcl qh_R qh_lengthOf_c 6 (some .int) (2, 43)) (N : Nat) : ∀ (k : Nat) (σ : qh_S) (x3 : Int64) (x5 : Int32), J Γ (qh_w (gK Γ)) qcl (QF Γ (qh_w (gK Γ)) qcl ovI) ((shR σ) (qh_lengthOf_L5 N k σ x3 x5)) σ 5 [(0, .ref (kq (gK Γ) 15)), (3, .long x3), (5, .int x5)] [] := by
  intro k
  induction k with
  | zero => intro σ x3 x5; exact J.none rfl
  | succ k ih =>
    intro σ x3 x5
    rw [qh_lengthOf_L5]
    refine j_iload C d_qh_lengthOf_5 rfl 2 rfl ?_
    refine j_sipush C d_qh_lengthOf_7 rfl kc_s_4100 ?_
    refine j_icmp_gt C d_qh_lengthOf_10 (tgt := 46) (by decide) rfl (fun c_1 => ?_) (fun c_1 => ?_)
    · refine J.pos (shR σ) c_1 ?_
      refine j_iconst C d_qh_lengthOf_46 rfl kc_i_m1 ?_
      exact j_iret C d_qh_lengthOf_47
    · refine J.neg (shR σ) c_1 ?_
      refine j_lload_n C d_qh_lengthOf_13 rfl 1 rfl ?_
      refine j_ldc2 C d_qh_lengthOf_14 rfl k_142 ?_
      refine j_lcmp_ne C d_qh_lengthOf_17 d_qh_lengthOf_18 (tgt := 24) (by decide) rfl (fun c_2 => ?_) (fun c_2 => ?_)
      · refine J.neg (shR σ) c_2 ?_
        refine j_lload_n C d_qh_lengthOf_24 rfl 1 rfl ?_
        refine cs_qh C (mc_qw_kindOf (gl Γ) (gK Γ) x3) qw_kindOf_I k_466 (by decide) d_qh_lengthOf_25 rfl (rest := []) rfl (Nat.le_of_ble_eq_true rfl) ?_
        refine j_iconst C d_qh_lengthOf_28 rfl kc_i_4 ?_
        refine j_icmp_eq C d_qh_lengthOf_29 (tgt := 34) (by decide) rfl (fun c_3 => ?_) (fun c_3 => ?_)
        · refine J.pos (shR σ) c_3 ?_
          refine j_aload_n C d_qh_lengthOf_34 rfl 0 rfl ?_
          refine j_lload_n C d_qh_lengthOf_35 rfl 1 rfl ?_
          refine cvr_qh_qh C (mc_qh_cdrOf (gl Γ) (gK Γ) σ x3) qh_cdrOf_I k_467 (by decide) d_qh_lengthOf_36 rfl (rest := []) rfl ⟨rfl, Nat.le_of_ble_eq_true rfl⟩ ?_
          refine j_lstore_n C (lv' := [(3, .long (qh_cdrOf σ x3)), (0, .ref (kq (gK Γ) 15)), (5, .int x5)]) d_qh_lengthOf_39 rfl rfl (by decide) rfl ?_
          refine j_iinc C (v := (x5 + (1 : Int32))) (lv' := [(5, .int (x5 + (1 : Int32))), (3, .long (qh_cdrOf σ x3)), (0, .ref (kq (gK Γ) 15))]) d_qh_lengthOf_40 rfl 2 rfl (kc_inc_1 _) (by decide) rfl ?_
          refine j_goto C d_qh_lengthOf_43 (tgt := 5) (by decide) ?_
          refine J.loc (lv' := [(0, .ref (kq (gK Γ) 15)), (3, .long (qh_cdrOf σ x3)), (5, .int (x5 + (1 : Int32)))]) [2, 1, 0] rfl ?_
          exact ih σ (qh_cdrOf σ x3) (x5 + (1 : Int32))
        · refine J.neg (shR σ) c_3 ?_
          refine j_iconst C d_qh_lengthOf_32 rfl kc_i_m1 ?_
          exact j_iret C d_qh_lengthOf_33
      · refine J.pos (shR σ) c_2 ?_
        refine j_iload C d_qh_lengthOf_21 rfl 2 rfl ?_
        exact j_iret C d_qh_lengthOf_23
theorem w_qh_lengthOf {Γ : cx_T} (C : cx_C Γ (qh_w (gK Γ)) qcl qh_R qh_lengthOf_c 6 (some .int) (2, 43)) (N : Nat) (σ : qh_S) (a1 : Int64) : J Γ (qh_w (gK Γ)) qcl (QF Γ (qh_w (gK Γ)) qcl ovI) ((shR σ) (qh_lengthOf N σ a1)) σ 0 [(0, .ref (kq (gK Γ) 15)), (1, .long a1)] [] := by
  unfold qh_lengthOf
  refine j_lload_n C d_qh_lengthOf_0 rfl 1 rfl ?_
  refine j_lstore_n C (lv' := [(3, .long a1), (0, .ref (kq (gK Γ) 15)), (1, .long a1)]) d_qh_lengthOf_1 rfl rfl (by decide) rfl ?_
  refine j_iconst C d_qh_lengthOf_2 rfl kc_i_0 ?_
  refine j_istore C (lv' := [(5, .int (0 : Int32)), (3, .long a1), (0, .ref (kq (gK Γ) 15)), (1, .long a1)]) d_qh_lengthOf_3 rfl (by decide) rfl ?_
  refine J.loc (lv' := [(0, .ref (kq (gK Γ) 15)), (3, .long a1), (5, .int (0 : Int32))]) [2, 1, 0] rfl ?_
  exact w_qh_lengthOf_L5 C N N σ a1 (0 : Int32)
theorem mc_qh_lengthOf (l : Launch) (K : kk_T) (N : Nat) (σ : qh_S) (a1 : Int64) (r : Int32) (h : qh_lengthOf N σ a1 = some r) : MC l qh_lengthOf_y qh_lengthOf_c 6 (some .int) (2, 43) K (qh_w K) qcl σ [.ref (kq K 15), .long a1] (some (.int r)) σ := mc_of (ov := ovI) (X := (shR σ) (qh_lengthOf N σ a1)) (by decide +kernel) (Nat.le_of_ble_eq_true rfl) (fun _ => rfl) (by rw [h]; rfl) (fun Γ e1 e2 C => by subst e1; subst e2; exact w_qh_lengthOf C N σ a1)
theorem qh_lengthOf_I : ck_V qh_lengthOf_y qh_lengthOf_c 6 (some .int) 1 := ⟨k_465, k_97, by decide +kernel, k_463, k_464⟩
theorem w_qh_countBindings_L8 {Γ : cx_T} (C : cx_C Γ (qh_w (gK Γ)) qcl qh_R qh_countBindings_c 4 (some .int) (2, 42)) (N : Nat) : ∀ (k : Nat) (σ : qh_S) (x2 : Int32) (x3 : Int32), J Γ (qh_w (gK Γ)) qcl (QF Γ (qh_w (gK Γ)) qcl ovI) ((shR σ) (qh_countBindings_L8 N k σ x2 x3)) σ 8 [(0, .ref (kq (gK Γ) 15)), (2, .int x2), (3, .int x3)] [] := by
  intro k
  induction k with
  | zero => intro σ x2 x3; exact J.none rfl
  | succ k ih =>
    intro σ x2 x3
    rw [qh_countBindings_L8]
    refine j_iload_n C d_qh_countBindings_8 rfl 2 rfl ?_
    refine j_iconst C d_qh_countBindings_9 rfl kc_i_m1 ?_
    refine j_icmp_eq C d_qh_countBindings_10 (tgt := 35) (by decide) rfl (fun c_1 => ?_) (fun c_1 => ?_)
    · refine J.pos (shR σ) c_1 ?_
      refine j_iload_n C d_qh_countBindings_35 rfl 1 rfl ?_
      exact j_iret C d_qh_countBindings_36
    · refine J.neg (shR σ) c_1 ?_
      refine j_iload_n C d_qh_countBindings_13 rfl 1 rfl ?_
      refine j_sipush C d_qh_countBindings_14 rfl kc_s_4100 ?_
      refine j_icmp_ge C d_qh_countBindings_17 (tgt := 35) (by decide) rfl (fun c_2 => ?_) (fun c_2 => ?_)
      · refine J.pos (shR σ) c_2 ?_
        refine j_iload_n C d_qh_countBindings_35 rfl 1 rfl ?_
        exact j_iret C d_qh_countBindings_36
      · refine J.neg (shR σ) c_2 ?_
        refine j_iinc C (v := (x2 + (1 : Int32))) (lv' := [(2, .int (x2 + (1 : Int32))), (0, .ref (kq (gK Γ) 15)), (3, .int x3)]) d_qh_countBindings_20 rfl 1 rfl (kc_inc_1 _) (by decide) rfl ?_
        refine j_aload_n C d_qh_countBindings_23 rfl 1 rfl ?_
        refine j_iload_n C d_qh_countBindings_24 rfl 2 rfl ?_
        refine cvr_qh_qh C (mc_qh_secondAt (gl Γ) (gK Γ) σ x3) qh_secondAt_I k_138 (by decide) d_qh_countBindings_25 rfl (rest := []) rfl ⟨rfl, Nat.le_of_ble_eq_true rfl⟩ ?_
        refine cs_qh C (mc_qh_nextIn (gl Γ) (gK Γ) (qh_secondAt σ x3)) qh_nextIn_I k_392 (by decide) d_qh_countBindings_28 rfl (rest := []) rfl (Nat.le_of_ble_eq_true rfl) ?_
        refine j_istore_n C (lv' := [(3, .int (qh_nextIn (qh_secondAt σ x3))), (2, .int (x2 + (1 : Int32))), (0, .ref (kq (gK Γ) 15))]) d_qh_countBindings_31 rfl rfl (by decide) rfl ?_
        refine j_goto C d_qh_countBindings_32 (tgt := 8) (by decide) ?_
        refine J.loc (lv' := [(0, .ref (kq (gK Γ) 15)), (2, .int (x2 + (1 : Int32))), (3, .int (qh_nextIn (qh_secondAt σ x3)))]) [2, 1, 0] rfl ?_
        exact ih σ (x2 + (1 : Int32)) (qh_nextIn (qh_secondAt σ x3))
theorem w_qh_countBindings {Γ : cx_T} (C : cx_C Γ (qh_w (gK Γ)) qcl qh_R qh_countBindings_c 4 (some .int) (2, 42)) (N : Nat) (σ : qh_S) (a1 : Int32) : J Γ (qh_w (gK Γ)) qcl (QF Γ (qh_w (gK Γ)) qcl ovI) ((shR σ) (qh_countBindings N σ a1)) σ 0 [(0, .ref (kq (gK Γ) 15)), (1, .int a1)] [] := by
  unfold qh_countBindings
  refine j_iconst C d_qh_countBindings_0 rfl kc_i_0 ?_
  refine j_istore_n C (lv' := [(2, .int (0 : Int32)), (0, .ref (kq (gK Γ) 15)), (1, .int a1)]) d_qh_countBindings_1 rfl rfl (by decide) rfl ?_
  refine j_aload_n C d_qh_countBindings_2 rfl 1 rfl ?_
  refine j_iload_n C d_qh_countBindings_3 rfl 2 rfl ?_
  refine cvr_qh_qh C (mc_qh_latestBindingOf (gl Γ) (gK Γ) σ a1) qh_latestBindingOf_I k_134 (by decide) d_qh_countBindings_4 rfl (rest := []) rfl ⟨rfl, Nat.le_of_ble_eq_true rfl⟩ ?_
  refine j_istore_n C (lv' := [(3, .int (qh_latestBindingOf σ a1)), (2, .int (0 : Int32)), (0, .ref (kq (gK Γ) 15)), (1, .int a1)]) d_qh_countBindings_7 rfl rfl (by decide) rfl ?_
  refine J.loc (lv' := [(0, .ref (kq (gK Γ) 15)), (2, .int (0 : Int32)), (3, .int (qh_latestBindingOf σ a1))]) [2, 1, 0] rfl ?_
  exact w_qh_countBindings_L8 C N N σ (0 : Int32) (qh_latestBindingOf σ a1)
theorem mc_qh_countBindings (l : Launch) (K : kk_T) (N : Nat) (σ : qh_S) (a1 : Int32) (r : Int32) (h : qh_countBindings N σ a1 = some r) : MC l qh_countBindings_y qh_countBindings_c 4 (some .int) (2, 42) K (qh_w K) qcl σ [.ref (kq K 15), .int a1] (some (.int r)) σ := mc_of (ov := ovI) (X := (shR σ) (qh_countBindings N σ a1)) (by decide +kernel) (Nat.le_of_ble_eq_true rfl) (fun _ => rfl) (by rw [h]; rfl) (fun Γ e1 e2 C => by subst e1; subst e2; exact w_qh_countBindings C N σ a1)
theorem qh_countBindings_I : ck_V qh_countBindings_y qh_countBindings_c 4 (some .int) 1 := ⟨k_475, k_97, by decide +kernel, k_473, k_474⟩
theorem w_qh_isPrimitive {Γ : cx_T} (C : cx_C Γ qw_w qcl qh_R qh_isPrimitive_c 1 (some .boolean) (0, 0)) (a0 : Int32) : J Γ qw_w qcl (QF Γ qw_w qcl ovI) ((shP ()) (qh_isPrimitive a0)) () 0 [(0, .int a0)] [] := by
  unfold qh_isPrimitive
  refine j_iload_n C d_qh_isPrimitive_0 rfl 0 rfl ?_
  refine j_bipush C d_qh_isPrimitive_1 rfl kc_b_100 ?_
  refine j_icmp_ge C d_qh_isPrimitive_3 (tgt := 10) (by decide) rfl (fun c_1 => ?_) (fun c_1 => ?_)
  · refine J.pos (shP ()) c_1 ?_
    refine j_iconst C d_qh_isPrimitive_10 rfl kc_i_0 ?_
    exact j_zret C rfl d_qh_isPrimitive_11
  · refine J.neg (shP ()) c_1 ?_
    refine j_iconst C d_qh_isPrimitive_6 rfl kc_i_1 ?_
    refine j_goto C d_qh_isPrimitive_7 (tgt := 11) (by decide) ?_
    exact j_zret C rfl d_qh_isPrimitive_11
theorem mc_qh_isPrimitive (l : Launch) (K : kk_T) (a0 : Int32) : MC l qh_isPrimitive_y qh_isPrimitive_c 1 (some .boolean) (0, 0) K qw_w qcl () [.int a0] (some (.int (qh_isPrimitive a0))) () := mc_of (ov := ovI) (X := (shP ()) (qh_isPrimitive a0)) (by decide +kernel) (Nat.le_of_ble_eq_true rfl) (fun _ => rfl) rfl (fun Γ e1 e2 C => by subst e1; subst e2; exact w_qh_isPrimitive C a0)
theorem qh_isPrimitive_I : ck_S qh_isPrimitive_y qh_isPrimitive_c 1 (some .boolean) 1 := ⟨k_549, k_97, by decide +kernel, k_548⟩
theorem w_qh_parametersOf {Γ : cx_T} (C : cx_C Γ (qh_w (gK Γ)) qcl qh_R qh_parametersOf_c 2 (some .long) (1, 21)) (σ : qh_S) (a1 : Int32) : J Γ (qh_w (gK Γ)) qcl (QF Γ (qh_w (gK Γ)) qcl ovL) ((shP σ) (qh_parametersOf σ a1)) σ 0 [(0, .ref (kq (gK Γ) 15)), (1, .int a1)] [] := by
  unfold qh_parametersOf
  refine j_aload_n C d_qh_parametersOf_0 rfl 0 rfl ?_
  refine j_iload_n C d_qh_parametersOf_1 rfl 1 rfl ?_
  refine cvr_qh_qh C (mc_qh_secondAt (gl Γ) (gK Γ) σ a1) qh_secondAt_I k_138 (by decide) d_qh_parametersOf_2 rfl (rest := []) rfl ⟨rfl, Nat.le_of_ble_eq_true rfl⟩ ?_
  refine j_bipush C d_qh_parametersOf_5 rfl kc_b_20 ?_
  refine j_lshr C d_qh_parametersOf_7 rfl (kc_shr_20 _) ?_
  exact j_lret C d_qh_parametersOf_8
theorem mc_qh_parametersOf (l : Launch) (K : kk_T) (σ : qh_S) (a1 : Int32) : MC l qh_parametersOf_y qh_parametersOf_c 2 (some .long) (1, 21) K (qh_w K) qcl σ [.ref (kq K 15), .int a1] (some (.long (qh_parametersOf σ a1))) σ := mc_of (ov := ovL) (X := (shP σ) (qh_parametersOf σ a1)) (by decide +kernel) (Nat.le_of_ble_eq_true rfl) (fun _ => rfl) rfl (fun Γ e1 e2 C => by subst e1; subst e2; exact w_qh_parametersOf C σ a1)
theorem qh_parametersOf_I : ck_V qh_parametersOf_y qh_parametersOf_c 2 (some .long) 1 := ⟨k_557, k_97, by decide +kernel, k_555, k_556⟩
theorem w_qh_scopeOf {Γ : cx_T} (C : cx_C Γ (qh_w (gK Γ)) qcl qh_R qh_scopeOf_c 2 (some .int) (1, 21)) (σ : qh_S) (a1 : Int32) : J Γ (qh_w (gK Γ)) qcl (QF Γ (qh_w (gK Γ)) qcl ovI) ((shP σ) (qh_scopeOf σ a1)) σ 0 [(0, .ref (kq (gK Γ) 15)), (1, .int a1)] [] := by
  unfold qh_scopeOf
  refine j_aload_n C d_qh_scopeOf_0 rfl 0 rfl ?_
  refine j_iload_n C d_qh_scopeOf_1 rfl 1 rfl ?_
  refine cvr_qh_qh C (mc_qh_secondAt (gl Γ) (gK Γ) σ a1) qh_secondAt_I k_138 (by decide) d_qh_scopeOf_2 rfl (rest := []) rfl ⟨rfl, Nat.le_of_ble_eq_true rfl⟩ ?_
  refine j_ldc2 C d_qh_scopeOf_5 rfl k_591 ?_
  refine j_land C d_qh_scopeOf_8 rfl ?_
  refine j_l2i C d_qh_scopeOf_9 rfl ?_
  exact j_iret C d_qh_scopeOf_10
theorem mc_qh_scopeOf (l : Launch) (K : kk_T) (σ : qh_S) (a1 : Int32) : MC l qh_scopeOf_y qh_scopeOf_c 2 (some .int) (1, 21) K (qh_w K) qcl σ [.ref (kq K 15), .int a1] (some (.int (qh_scopeOf σ a1))) σ := mc_of (ov := ovI) (X := (shP σ) (qh_scopeOf σ a1)) (by decide +kernel) (Nat.le_of_ble_eq_true rfl) (fun _ => rfl) rfl (fun Γ e1 e2 C => by subst e1; subst e2; exact w_qh_scopeOf C σ a1)
theorem qh_scopeOf_I : ck_V qh_scopeOf_y qh_scopeOf_c 2 (some .int) 1 := ⟨k_590, k_97, by decide +kernel, k_588, k_589⟩
theorem w_qh_addEnvironment {Γ : cx_T} (C : cx_C Γ (qh_w (gK Γ)) qcl qh_R qh_addEnvironment_c 2 (some .int) (1, 25)) (σ : qh_S) (a1 : Int32) : J Γ (qh_w (gK Γ)) qcl (QF Γ (qh_w (gK Γ)) qcl ovI) (shT (qh_addEnvironment σ a1)) σ 0 [(0, .ref (kq (gK Γ) 15)), (1, .int a1)] [] := by
  unfold qh_addEnvironment
  refine j_aload_n C d_qh_addEnvironment_0 rfl 0 rfl ?_
  refine j_iload_n C d_qh_addEnvironment_1 rfl 1 rfl ?_
  refine j_i2l C d_qh_addEnvironment_2 rfl ?_
  refine j_ldc2 C d_qh_addEnvironment_3 rfl k_122 ?_
  refine cv_qh_qh C (mc_qh_add (gl Γ) (gK Γ) σ (Int32.toInt64 a1) (-1 : Int64)) qh_add_I k_408 (by decide) d_qh_addEnvironment_6 rfl (rest := []) rfl ⟨rfl, Nat.le_of_ble_eq_true rfl⟩ ?_
  exact j_iret C d_qh_addEnvironment_9
theorem mc_qh_addEnvironment (l : Launch) (K : kk_T) (σ : qh_S) (a1 : Int32) : MC l qh_addEnvironment_y qh_addEnvironment_c 2 (some .int) (1, 25) K (qh_w K) qcl σ [.ref (kq K 15), .int a1] (some (.int (qh_addEnvironment σ a1).1)) (qh_addEnvironment σ a1).2 := mc_of (ov := ovI) (X := shT (qh_addEnvironment σ a1)) (by decide +kernel) (Nat.le_of_ble_eq_true rfl) (fun _ => rfl) rfl (fun Γ e1 e2 C => by subst e1; subst e2; exact w_qh_addEnvironment C σ a1)
theorem qh_addEnvironment_I : ck_V qh_addEnvironment_y qh_addEnvironment_c 2 (some .int) 1 := ⟨k_595, k_97, by decide +kernel, k_593, k_594⟩
theorem w_qh_addBinding {Γ : cx_T} (C : cx_C Γ (qh_w (gK Γ)) qcl qh_R qh_addBinding_c 6 (some .boolean) (2, 42)) (σ : qh_S) (a1 : Int32) (a2 : Int32) (a3 : Int64) : J Γ (qh_w (gK Γ)) qcl (QF Γ (qh_w (gK Γ)) qcl ovI) (shT (qh_addBinding σ a1 a2 a3)) σ 0 [(0, .ref (kq (gK Γ) 15)), (1, .int a1), (2, .int a2), (3, .long a3)] [] := by
  unfold qh_addBinding
  refine j_aload_n C d_qh_addBinding_0 rfl 0 rfl ?_
  refine j_lload_n C d_qh_addBinding_1 rfl 3 rfl ?_
  refine j_iload_n C d_qh_addBinding_2 rfl 2 rfl ?_
  refine j_aload_n C d_qh_addBinding_3 rfl 0 rfl ?_
  refine j_iload_n C d_qh_addBinding_4 rfl 1 rfl ?_
  refine cvr_qh_qh C (mc_qh_latestBindingOf (gl Γ) (gK Γ) σ a1) qh_latestBindingOf_I k_134 (by decide) d_qh_addBinding_5 rfl (rest := [.int a2, .long a3, .ref (kq (gK Γ) 15)]) rfl ⟨rfl, Nat.le_of_ble_eq_true rfl⟩ ?_
  refine cs_qh C (mc_qh_packLink (gl Γ) (gK Γ) a2 (qh_latestBindingOf σ a1)) qh_packLink_I k_143 (by decide) d_qh_addBinding_8 rfl (rest := [.long a3, .ref (kq (gK Γ) 15)]) rfl (Nat.le_of_ble_eq_true rfl) ?_
  refine cv_qh_qh C (mc_qh_add (gl Γ) (gK Γ) σ a3 (qh_packLink a2 (qh_latestBindingOf σ a1))) qh_add_I k_408 (by decide) d_qh_addBinding_11 rfl (rest := []) rfl ⟨rfl, Nat.le_of_ble_eq_true rfl⟩ ?_
  refine j_istore C (lv' := [(5, .int (qh_add σ a3 (qh_packLink a2 (qh_latestBindingOf σ a1))).1), (0, .ref (kq (gK Γ) 15)), (1, .int a1), (2, .int a2), (3, .long a3)]) d_qh_addBinding_14 rfl (by decide) rfl ?_
  refine j_iload C d_qh_addBinding_16 rfl 0 rfl ?_
  refine j_iconst C d_qh_addBinding_18 rfl kc_i_m1 ?_
  refine j_icmp_ne C d_qh_addBinding_19 (tgt := 24) (by decide) rfl (fun c_1 => ?_) (fun c_1 => ?_)
  · refine J.neg shT c_1 ?_
    refine j_aload_n C d_qh_addBinding_24 rfl 1 rfl ?_
    refine j_iload_n C d_qh_addBinding_25 rfl 2 rfl ?_
    refine j_aload_n C d_qh_addBinding_26 rfl 1 rfl ?_
    refine j_iload_n C d_qh_addBinding_27 rfl 2 rfl ?_
    refine cvr_qh_qh C (mc_qh_firstAt (gl Γ) (gK Γ) (qh_add σ a3 (qh_packLink a2 (qh_latestBindingOf σ a1))).2 a1) qh_firstAt_I k_351 (by decide) d_qh_addBinding_28 rfl (rest := [.int a1, .ref (kq (gK Γ) 15)]) rfl ⟨rfl, Nat.le_of_ble_eq_true rfl⟩ ?_
    refine j_iload C d_qh_addBinding_31 rfl 0 rfl ?_
    refine j_i2l C d_qh_addBinding_33 rfl ?_
    refine cv0_qh_qh C (mc_qh_write (gl Γ) (gK Γ) (qh_add σ a3 (qh_packLink a2 (qh_latestBindingOf σ a1))).2 a1 (qh_firstAt (qh_add σ a3 (qh_packLink a2 (qh_latestBindingOf σ a1))).2 a1) (Int32.toInt64 (qh_add σ a3 (qh_packLink a2 (qh_latestBindingOf σ a1))).1)) qh_write_I k_123 (by decide) d_qh_addBinding_34 rfl (rest := []) rfl ⟨rfl, Nat.le_of_ble_eq_true rfl⟩ ?_
    refine j_iconst C d_qh_addBinding_37 rfl kc_i_1 ?_
    exact j_zret C rfl d_qh_addBinding_38
  · refine J.pos shT c_1 ?_
    refine j_iconst C d_qh_addBinding_22 rfl kc_i_0 ?_
    exact j_zret C rfl d_qh_addBinding_23
theorem mc_qh_addBinding (l : Launch) (K : kk_T) (σ : qh_S) (a1 : Int32) (a2 : Int32) (a3 : Int64) : MC l qh_addBinding_y qh_addBinding_c 6 (some .boolean) (2, 42) K (qh_w K) qcl σ [.ref (kq K 15), .int a1, .int a2, .long a3] (some (.int (qh_addBinding σ a1 a2 a3).1)) (qh_addBinding σ a1 a2 a3).2 := mc_of (ov := ovI) (X := shT (qh_addBinding σ a1 a2 a3)) (by decide +kernel) (Nat.le_of_ble_eq_true rfl) (fun _ => rfl) rfl (fun Γ e1 e2 C => by subst e1; subst e2; exact w_qh_addBinding C σ a1 a2 a3)
theorem qh_addBinding_I : ck_V qh_addBinding_y qh_addBinding_c 6 (some .boolean) 3 := ⟨k_603, k_97, by decide +kernel, k_601, k_602⟩
theorem w_qh_environmentSymbolOf {Γ : cx_T} (C : cx_C Γ (qh_w (gK Γ)) qcl qh_R qh_environmentSymbolOf_c 2 (some .int) (1, 21)) (σ : qh_S) (a1 : Int32) : J Γ (qh_w (gK Γ)) qcl (QF Γ (qh_w (gK Γ)) qcl ovI) ((shP σ) (qh_environmentSymbolOf σ a1)) σ 0 [(0, .ref (kq (gK Γ) 15)), (1, .int a1)] [] := by
  unfold qh_environmentSymbolOf
  refine j_aload_n C d_qh_environmentSymbolOf_0 rfl 0 rfl ?_
  refine j_iload_n C d_qh_environmentSymbolOf_1 rfl 1 rfl ?_
  refine cvr_qh_qh C (mc_qh_secondAt (gl Γ) (gK Γ) σ a1) qh_secondAt_I k_138 (by decide) d_qh_environmentSymbolOf_2 rfl (rest := []) rfl ⟨rfl, Nat.le_of_ble_eq_true rfl⟩ ?_
  refine j_bipush C d_qh_environmentSymbolOf_5 rfl kc_b_13 ?_
  refine j_lshr C d_qh_environmentSymbolOf_7 rfl (kc_shr_13 _) ?_
  refine j_ldc2 C d_qh_environmentSymbolOf_8 rfl k_391 ?_
  refine j_land C d_qh_environmentSymbolOf_11 rfl ?_
  refine j_l2i C d_qh_environmentSymbolOf_12 rfl ?_
  exact j_iret C d_qh_environmentSymbolOf_13
theorem mc_qh_environmentSymbolOf (l : Launch) (K : kk_T) (σ : qh_S) (a1 : Int32) : MC l qh_environmentSymbolOf_y qh_environmentSymbolOf_c 2 (some .int) (1, 21) K (qh_w K) qcl σ [.ref (kq K 15), .int a1] (some (.int (qh_environmentSymbolOf σ a1))) σ := mc_of (ov := ovI) (X := (shP σ) (qh_environmentSymbolOf σ a1)) (by decide +kernel) (Nat.le_of_ble_eq_true rfl) (fun _ => rfl) rfl (fun Γ e1 e2 C => by subst e1; subst e2; exact w_qh_environmentSymbolOf C σ a1)
theorem qh_environmentSymbolOf_I : ck_V qh_environmentSymbolOf_y qh_environmentSymbolOf_c 2 (some .int) 1 := ⟨k_607, k_97, by decide +kernel, k_605, k_606⟩
theorem w_qh_bodyOf {Γ : cx_T} (C : cx_C Γ (qh_w (gK Γ)) qcl qh_R qh_bodyOf_c 2 (some .long) (1, 21)) (σ : qh_S) (a1 : Int32) : J Γ (qh_w (gK Γ)) qcl (QF Γ (qh_w (gK Γ)) qcl ovL) ((shP σ) (qh_bodyOf σ a1)) σ 0 [(0, .ref (kq (gK Γ) 15)), (1, .int a1)] [] := by
  unfold qh_bodyOf
  refine j_aload_n C d_qh_bodyOf_0 rfl 0 rfl ?_
  refine j_iload_n C d_qh_bodyOf_1 rfl 1 rfl ?_
  refine cvr_qh_qh C (mc_qh_firstAt (gl Γ) (gK Γ) σ a1) qh_firstAt_I k_351 (by decide) d_qh_bodyOf_2 rfl (rest := []) rfl ⟨rfl, Nat.le_of_ble_eq_true rfl⟩ ?_
  exact j_lret C d_qh_bodyOf_5
theorem mc_qh_bodyOf (l : Launch) (K : kk_T) (σ : qh_S) (a1 : Int32) : MC l qh_bodyOf_y qh_bodyOf_c 2 (some .long) (1, 21) K (qh_w K) qcl σ [.ref (kq K 15), .int a1] (some (.long (qh_bodyOf σ a1))) σ := mc_of (ov := ovL) (X := (shP σ) (qh_bodyOf σ a1)) (by decide +kernel) (Nat.le_of_ble_eq_true rfl) (fun _ => rfl) rfl (fun Γ e1 e2 C => by subst e1; subst e2; exact w_qh_bodyOf C σ a1)
theorem qh_bodyOf_I : ck_V qh_bodyOf_y qh_bodyOf_c 2 (some .long) 1 := ⟨k_616, k_97, by decide +kernel, k_614, k_615⟩
theorem w_qh_elementOf_L6 {Γ : cx_T} (C : cx_C Γ (qh_w (gK Γ)) qcl qh_R qh_elementOf_c 7 (some .long) (1, 21)) (N : Nat) : ∀ (k : Nat) (σ : qh_S) (x3 : Int32) (x4 : Int64) (x6 : Int32), J Γ (qh_w (gK Γ)) qcl (QF Γ (qh_w (gK Γ)) qcl ovL) ((shR σ) (qh_elementOf_L6 N k σ x3 x4 x6)) σ 6 [(0, .ref (kq (gK Γ) 15)), (3, .int x3), (4, .long x4), (6, .int x6)] [] := by
  intro k
  induction k with
  | zero => intro σ x3 x4 x6; exact J.none rfl
  | succ k ih =>
    intro σ x3 x4 x6
    rw [qh_elementOf_L6]
    refine j_iload C d_qh_elementOf_6 rfl 3 rfl ?_
    refine j_iload_n C d_qh_elementOf_8 rfl 1 rfl ?_
    refine j_icmp_ge C d_qh_elementOf_9 (tgt := 29) (by decide) rfl (fun c_1 => ?_) (fun c_1 => ?_)
    · refine J.pos (shR σ) c_1 ?_
      refine j_aload_n C d_qh_elementOf_29 rfl 0 rfl ?_
      refine j_lload C d_qh_elementOf_30 rfl 2 rfl ?_
      refine cs_qh C (mc_qw_rowOf (gl Γ) (gK Γ) x4) qw_rowOf_I k_348 (by decide) d_qh_elementOf_32 rfl (rest := [.ref (kq (gK Γ) 15)]) rfl (Nat.le_of_ble_eq_true rfl) ?_
      refine cvr_qh_qh C (mc_qh_firstAt (gl Γ) (gK Γ) σ (qw_rowOf x4)) qh_firstAt_I k_351 (by decide) d_qh_elementOf_35 rfl (rest := []) rfl ⟨rfl, Nat.le_of_ble_eq_true rfl⟩ ?_
      exact j_lret C d_qh_elementOf_38
    · refine J.neg (shR σ) c_1 ?_
      refine j_aload_n C d_qh_elementOf_12 rfl 0 rfl ?_
      refine j_lload C d_qh_elementOf_13 rfl 2 rfl ?_
      refine cs_qh C (mc_qw_rowOf (gl Γ) (gK Γ) x4) qw_rowOf_I k_348 (by decide) d_qh_elementOf_15 rfl (rest := [.ref (kq (gK Γ) 15)]) rfl (Nat.le_of_ble_eq_true rfl) ?_
      refine cvr_qh_qh C (mc_qh_secondAt (gl Γ) (gK Γ) σ (qw_rowOf x4)) qh_secondAt_I k_138 (by decide) d_qh_elementOf_18 rfl (rest := []) rfl ⟨rfl, Nat.le_of_ble_eq_true rfl⟩ ?_
      refine j_lstore C (lv' := [(4, .long (qh_secondAt σ (qw_rowOf x4))), (0, .ref (kq (gK Γ) 15)), (3, .int x3), (6, .int x6)]) d_qh_elementOf_21 rfl (by decide) rfl ?_
      refine j_iinc C (v := (x6 + (1 : Int32))) (lv' := [(6, .int (x6 + (1 : Int32))), (4, .long (qh_secondAt σ (qw_rowOf x4))), (0, .ref (kq (gK Γ) 15)), (3, .int x3)]) d_qh_elementOf_23 rfl 3 rfl (kc_inc_1 _) (by decide) rfl ?_
      refine j_goto C d_qh_elementOf_26 (tgt := 6) (by decide) ?_
      refine J.loc (lv' := [(0, .ref (kq (gK Γ) 15)), (3, .int x3), (4, .long (qh_secondAt σ (qw_rowOf x4))), (6, .int (x6 + (1 : Int32)))]) [2, 3, 1, 0] rfl ?_
      exact ih σ x3 (qh_secondAt σ (qw_rowOf x4)) (x6 + (1 : Int32))
theorem w_qh_elementOf {Γ : cx_T} (C : cx_C Γ (qh_w (gK Γ)) qcl qh_R qh_elementOf_c 7 (some .long) (1, 21)) (N : Nat) (σ : qh_S) (a1 : Int64) (a3 : Int32) : J Γ (qh_w (gK Γ)) qcl (QF Γ (qh_w (gK Γ)) qcl ovL) ((shR σ) (qh_elementOf N σ a1 a3)) σ 0 [(0, .ref (kq (gK Γ) 15)), (1, .long a1), (3, .int a3)] [] := by
  unfold qh_elementOf
  refine j_lload_n C d_qh_elementOf_0 rfl 1 rfl ?_
  refine j_lstore C (lv' := [(4, .long a1), (0, .ref (kq (gK Γ) 15)), (1, .long a1), (3, .int a3)]) d_qh_elementOf_1 rfl (by decide) rfl ?_
  refine j_iconst C d_qh_elementOf_3 rfl kc_i_0 ?_
  refine j_istore C (lv' := [(6, .int (0 : Int32)), (4, .long a1), (0, .ref (kq (gK Γ) 15)), (1, .long a1), (3, .int a3)]) d_qh_elementOf_4 rfl (by decide) rfl ?_
  refine J.loc (lv' := [(0, .ref (kq (gK Γ) 15)), (3, .int a3), (4, .long a1), (6, .int (0 : Int32))]) [2, 4, 1, 0] rfl ?_
  exact w_qh_elementOf_L6 C N N σ a3 a1 (0 : Int32)
theorem mc_qh_elementOf (l : Launch) (K : kk_T) (N : Nat) (σ : qh_S) (a1 : Int64) (a3 : Int32) (r : Int64) (h : qh_elementOf N σ a1 a3 = some r) : MC l qh_elementOf_y qh_elementOf_c 7 (some .long) (1, 21) K (qh_w K) qcl σ [.ref (kq K 15), .long a1, .int a3] (some (.long r)) σ := mc_of (ov := ovL) (X := (shR σ) (qh_elementOf N σ a1 a3)) (by decide +kernel) (Nat.le_of_ble_eq_true rfl) (fun _ => rfl) (by rw [h]; rfl) (fun Γ e1 e2 C => by subst e1; subst e2; exact w_qh_elementOf C N σ a1 a3)
theorem qh_elementOf_I : ck_V qh_elementOf_y qh_elementOf_c 7 (some .long) 2 := ⟨k_638, k_97, by decide +kernel, k_636, k_637⟩
theorem w_qw_isCombiner {Γ : cx_T} (C : cx_C Γ qw_w qcl qw_R qw_isCombiner_c 2 (some .boolean) (1, 21)) (a0 : Int64) : J Γ qw_w qcl (QF Γ qw_w qcl ovI) ((shP ()) (qw_isCombiner a0)) () 0 [(0, .long a0)] [] := by
  unfold qw_isCombiner
  refine j_lload_n C d_qw_isCombiner_0 rfl 0 rfl ?_
  refine cs_qw C (mc_qw_kindOf (gl Γ) (gK Γ) a0) qw_kindOf_I k_664 (by decide) d_qw_isCombiner_1 rfl (rest := []) rfl (Nat.le_of_ble_eq_true rfl) ?_
  refine j_iconst C d_qw_isCombiner_4 rfl kc_i_5 ?_
  refine j_icmp_eq C d_qw_isCombiner_5 (tgt := 17) (by decide) rfl (fun c_1 => ?_) (fun c_1 => ?_)
  · refine J.pos (shP ()) c_1 ?_
    refine j_iconst C d_qw_isCombiner_17 rfl kc_i_1 ?_
    refine j_goto C d_qw_isCombiner_18 (tgt := 22) (by decide) ?_
    exact j_zret C rfl d_qw_isCombiner_22
  · refine J.neg (shP ()) c_1 ?_
    refine j_lload_n C d_qw_isCombiner_8 rfl 0 rfl ?_
    refine cs_qw C (mc_qw_kindOf (gl Γ) (gK Γ) a0) qw_kindOf_I k_664 (by decide) d_qw_isCombiner_9 rfl (rest := []) rfl (Nat.le_of_ble_eq_true rfl) ?_
    refine j_bipush C d_qw_isCombiner_12 rfl kc_b_6 ?_
    refine j_icmp_ne C d_qw_isCombiner_14 (tgt := 21) (by decide) rfl (fun c_2 => ?_) (fun c_2 => ?_)
    · refine J.neg (shP ()) c_2 ?_
      refine j_iconst C d_qw_isCombiner_21 rfl kc_i_0 ?_
      exact j_zret C rfl d_qw_isCombiner_22
    · refine J.pos (shP ()) c_2 ?_
      refine j_iconst C d_qw_isCombiner_17 rfl kc_i_1 ?_
      refine j_goto C d_qw_isCombiner_18 (tgt := 22) (by decide) ?_
      exact j_zret C rfl d_qw_isCombiner_22
theorem mc_qw_isCombiner (l : Launch) (K : kk_T) (a0 : Int64) : MC l qw_isCombiner_y qw_isCombiner_c 2 (some .boolean) (1, 21) K qw_w qcl () [.long a0] (some (.int (qw_isCombiner a0))) () := mc_of (ov := ovI) (X := (shP ()) (qw_isCombiner a0)) (by decide +kernel) (Nat.le_of_ble_eq_true rfl) (fun _ => rfl) rfl (fun Γ e1 e2 C => by subst e1; subst e2; exact w_qw_isCombiner C a0)
theorem qw_isCombiner_I : ck_S qw_isCombiner_y qw_isCombiner_c 2 (some .boolean) 1 := ⟨k_663, k_98, by decide +kernel, k_662⟩
theorem w_qh_addOperative {Γ : cx_T} (C : cx_C Γ (qh_w (gK Γ)) qcl qh_R qh_addOperative_c 9 (some .int) (1, 25)) (σ : qh_S) (a1 : Int64) (a3 : Int32) (a4 : Int64) (a6 : Int32) : J Γ (qh_w (gK Γ)) qcl (QF Γ (qh_w (gK Γ)) qcl ovI) (shT (qh_addOperative σ a1 a3 a4 a6)) σ 0 [(0, .ref (kq (gK Γ) 15)), (1, .long a1), (3, .int a3), (4, .long a4), (6, .int a6)] [] := by
  unfold qh_addOperative
  refine j_lload_n C d_qh_addOperative_0 rfl 1 rfl ?_
  refine j_bipush C d_qh_addOperative_1 rfl kc_b_7 ?_
  refine j_lshl C d_qh_addOperative_3 rfl (kc_shl_7 _) ?_
  refine j_iload_n C d_qh_addOperative_4 rfl 2 rfl ?_
  refine j_i2l C d_qh_addOperative_5 rfl ?_
  refine j_lor C d_qh_addOperative_6 rfl ?_
  refine j_lstore C (lv' := [(7, .long ((a1 <<< 7) ||| (Int32.toInt64 a3))), (0, .ref (kq (gK Γ) 15)), (1, .long a1), (3, .int a3), (4, .long a4), (6, .int a6)]) d_qh_addOperative_7 rfl (by decide) rfl ?_
  refine j_aload_n C d_qh_addOperative_9 rfl 1 rfl ?_
  refine j_lload C d_qh_addOperative_10 rfl 4 rfl ?_
  refine j_lload C d_qh_addOperative_12 rfl 0 rfl ?_
  refine j_bipush C d_qh_addOperative_14 rfl kc_b_13 ?_
  refine j_lshl C d_qh_addOperative_16 rfl (kc_shl_13 _) ?_
  refine j_iload C d_qh_addOperative_17 rfl 5 rfl ?_
  refine j_i2l C d_qh_addOperative_19 rfl ?_
  refine j_lor C d_qh_addOperative_20 rfl ?_
  refine cv_qh_qh C (mc_qh_add (gl Γ) (gK Γ) σ a4 ((((a1 <<< 7) ||| (Int32.toInt64 a3)) <<< 13) ||| (Int32.toInt64 a6))) qh_add_I k_408 (by decide) d_qh_addOperative_21 rfl (rest := []) rfl ⟨rfl, Nat.le_of_ble_eq_true rfl⟩ ?_
  exact j_iret C d_qh_addOperative_24
theorem mc_qh_addOperative (l : Launch) (K : kk_T) (σ : qh_S) (a1 : Int64) (a3 : Int32) (a4 : Int64) (a6 : Int32) : MC l qh_addOperative_y qh_addOperative_c 9 (some .int) (1, 25) K (qh_w K) qcl σ [.ref (kq K 15), .long a1, .int a3, .long a4, .int a6] (some (.int (qh_addOperative σ a1 a3 a4 a6).1)) (qh_addOperative σ a1 a3 a4 a6).2 := mc_of (ov := ovI) (X := shT (qh_addOperative σ a1 a3 a4 a6)) (by decide +kernel) (Nat.le_of_ble_eq_true rfl) (fun _ => rfl) rfl (fun Γ e1 e2 C => by subst e1; subst e2; exact w_qh_addOperative C σ a1 a3 a4 a6)
theorem qh_addOperative_I : ck_V qh_addOperative_y qh_addOperative_c 9 (some .int) 4 := ⟨k_676, k_97, by decide +kernel, k_674, k_675⟩
theorem w_qh_addApplicative {Γ : cx_T} (C : cx_C Γ (qh_w (gK Γ)) qcl qh_R qh_addApplicative_c 3 (some .int) (1, 25)) (σ : qh_S) (a1 : Int64) : J Γ (qh_w (gK Γ)) qcl (QF Γ (qh_w (gK Γ)) qcl ovI) (shT (qh_addApplicative σ a1)) σ 0 [(0, .ref (kq (gK Γ) 15)), (1, .long a1)] [] := by
  unfold qh_addApplicative
  refine j_aload_n C d_qh_addApplicative_0 rfl 0 rfl ?_
  refine j_lload_n C d_qh_addApplicative_1 rfl 1 rfl ?_
  refine j_lconst C d_qh_addApplicative_2 rfl kc_l_0 ?_
  refine cv_qh_qh C (mc_qh_add (gl Γ) (gK Γ) σ a1 (0 : Int64)) qh_add_I k_408 (by decide) d_qh_addApplicative_3 rfl (rest := []) rfl ⟨rfl, Nat.le_of_ble_eq_true rfl⟩ ?_
  exact j_iret C d_qh_addApplicative_6
theorem mc_qh_addApplicative (l : Launch) (K : kk_T) (σ : qh_S) (a1 : Int64) : MC l qh_addApplicative_y qh_addApplicative_c 3 (some .int) (1, 25) K (qh_w K) qcl σ [.ref (kq K 15), .long a1] (some (.int (qh_addApplicative σ a1).1)) (qh_addApplicative σ a1).2 := mc_of (ov := ovI) (X := shT (qh_addApplicative σ a1)) (by decide +kernel) (Nat.le_of_ble_eq_true rfl) (fun _ => rfl) rfl (fun Γ e1 e2 C => by subst e1; subst e2; exact w_qh_addApplicative C σ a1)
theorem qh_addApplicative_I : ck_V qh_addApplicative_y qh_addApplicative_c 3 (some .int) 1 := ⟨k_688, k_97, by decide +kernel, k_686, k_687⟩
theorem w_qw_product {Γ : cx_T} (C : cx_C Γ qw_w qcl qw_R qw_product_c 4 (some .long) (1, 17)) (a0 : Int64) (a2 : Int64) : J Γ qw_w qcl (QF Γ qw_w qcl ovL) ((shP ()) (qw_product a0 a2)) () 0 [(0, .long a0), (2, .long a2)] [] := by
  unfold qw_product
  refine j_lload_n C d_qw_product_0 rfl 0 rfl ?_
  refine j_lconst C d_qw_product_1 rfl kc_l_0 ?_
  refine j_lcmp_eq C d_qw_product_2 d_qw_product_3 (tgt := 26) (by decide) rfl (fun c_1 => ?_) (fun c_1 => ?_)
  · refine J.pos (shP ()) c_1 ?_
    refine j_lload_n C d_qw_product_26 rfl 0 rfl ?_
    refine j_lload_n C d_qw_product_27 rfl 1 rfl ?_
    refine j_lmul C d_qw_product_28 rfl ?_
    exact j_lret C d_qw_product_29
  · refine J.neg (shP ()) c_1 ?_
    refine j_lload_n C d_qw_product_6 rfl 1 rfl ?_
    refine j_abs C k_abs_ml k_abs_st k_abs_in k_abs_cd ⟨Nat.le_of_ble_eq_true rfl, Nat.le_of_ble_eq_true rfl⟩ d_qw_product_7 rfl ?_
    refine j_ldc2 C d_qw_product_10 rfl k_293 ?_
    refine j_lload_n C d_qw_product_13 rfl 0 rfl ?_
    refine j_abs C k_abs_ml k_abs_st k_abs_in k_abs_cd ⟨Nat.le_of_ble_eq_true rfl, Nat.le_of_ble_eq_true rfl⟩ d_qw_product_14 rfl ?_
    refine j_ldiv C d_qw_product_17 rfl (qabs_ne c_1) ?_
    refine j_lcmp_le C d_qw_product_18 d_qw_product_19 (tgt := 26) (by decide) rfl (fun c_2 => ?_) (fun c_2 => ?_)
    · refine J.neg (shP ()) c_2 ?_
      refine j_lload_n C d_qw_product_26 rfl 0 rfl ?_
      refine j_lload_n C d_qw_product_27 rfl 1 rfl ?_
      refine j_lmul C d_qw_product_28 rfl ?_
      exact j_lret C d_qw_product_29
    · refine J.pos (shP ()) c_2 ?_
      refine j_ldc2 C d_qw_product_22 rfl k_708 ?_
      exact j_lret C d_qw_product_25
theorem mc_qw_product (l : Launch) (K : kk_T) (a0 : Int64) (a2 : Int64) : MC l qw_product_y qw_product_c 4 (some .long) (1, 17) K qw_w qcl () [.long a0, .long a2] (some (.long (qw_product a0 a2))) () := mc_of (ov := ovL) (X := (shP ()) (qw_product a0 a2)) (by decide +kernel) (Nat.le_of_ble_eq_true rfl) (fun _ => rfl) rfl (fun Γ e1 e2 C => by subst e1; subst e2; exact w_qw_product C a0 a2)
theorem qw_product_I : ck_S qw_product_y qw_product_c 4 (some .long) 2 := ⟨k_704, k_98, by decide +kernel, k_703⟩
theorem w_qh_bind {Γ : cx_T} (C : cx_C Γ (qh_w (gK Γ)) qcl qh_R qh_bind_c 6 (some .boolean) (3, 68)) (N : Nat) (σ : qh_S) (a1 : Int32) (a2 : Int32) (a3 : Int64) : J Γ (qh_w (gK Γ)) qcl (QF Γ (qh_w (gK Γ)) qcl ovI) (shO (qh_bind N σ a1 a2 a3)) σ 0 [(0, .ref (kq (gK Γ) 15)), (1, .int a1), (2, .int a2), (3, .long a3)] [] := by
  unfold qh_bind
  refine j_aload_n C d_qh_bind_0 rfl 0 rfl ?_
  refine j_iload_n C d_qh_bind_1 rfl 1 rfl ?_
  refine j_iload_n C d_qh_bind_2 rfl 2 rfl ?_
  refine J.goO (fun r1 h_2 => ?_)
  refine cvr_qh_qh C (mc_qh_ownBinding (gl Γ) (gK Γ) N σ a1 a2 r1 h_2) qh_ownBinding_I k_384 (by decide) d_qh_bind_3 rfl (rest := []) rfl ⟨rfl, Nat.le_of_ble_eq_true rfl⟩ ?_
  refine j_istore C (lv' := [(5, .int r1), (0, .ref (kq (gK Γ) 15)), (1, .int a1), (2, .int a2), (3, .long a3)]) d_qh_bind_6 rfl (by decide) rfl ?_
  refine j_iload C d_qh_bind_8 rfl 0 rfl ?_
  refine j_iconst C d_qh_bind_10 rfl kc_i_m1 ?_
  refine j_icmp_eq C d_qh_bind_11 (tgt := 29) (by decide) rfl (fun c_3 => ?_) (fun c_3 => ?_)
  · refine J.pos shO c_3 ?_
    refine j_aload_n C d_qh_bind_29 rfl 1 rfl ?_
    refine j_iload_n C d_qh_bind_30 rfl 2 rfl ?_
    refine j_iload_n C d_qh_bind_31 rfl 3 rfl ?_
    refine j_lload_n C d_qh_bind_32 rfl 4 rfl ?_
    refine cv_qh_qh C (mc_qh_addBinding (gl Γ) (gK Γ) σ a1 a2 a3) qh_addBinding_I k_780 (by decide) d_qh_bind_33 rfl (rest := []) rfl ⟨rfl, Nat.le_of_ble_eq_true rfl⟩ ?_
    exact j_bret C d_qh_bind_36
  · refine J.neg shO c_3 ?_
    refine j_aload_n C d_qh_bind_14 rfl 1 rfl ?_
    refine j_iload C d_qh_bind_15 rfl 0 rfl ?_
    refine j_lload_n C d_qh_bind_17 rfl 4 rfl ?_
    refine j_aload_n C d_qh_bind_18 rfl 1 rfl ?_
    refine j_iload C d_qh_bind_19 rfl 0 rfl ?_
    refine cvr_qh_qh C (mc_qh_secondAt (gl Γ) (gK Γ) σ r1) qh_secondAt_I k_138 (by decide) d_qh_bind_21 rfl (rest := [.long a3, .int r1, .ref (kq (gK Γ) 15)]) rfl ⟨rfl, Nat.le_of_ble_eq_true rfl⟩ ?_
    refine cv0_qh_qh C (mc_qh_write (gl Γ) (gK Γ) σ r1 a3 (qh_secondAt σ r1)) qh_write_I k_123 (by decide) d_qh_bind_24 rfl (rest := []) rfl ⟨rfl, Nat.le_of_ble_eq_true rfl⟩ ?_
    refine j_iconst C d_qh_bind_27 rfl kc_i_1 ?_
    exact j_zret C rfl d_qh_bind_28
theorem mc_qh_bind (l : Launch) (K : kk_T) (N : Nat) (σ : qh_S) (a1 : Int32) (a2 : Int32) (a3 : Int64) (r : Int32 × qh_S) (h : qh_bind N σ a1 a2 a3 = some r) : MC l qh_bind_y qh_bind_c 6 (some .boolean) (3, 68) K (qh_w K) qcl σ [.ref (kq K 15), .int a1, .int a2, .long a3] (some (.int r.1)) r.2 := mc_of (ov := ovI) (X := shO (qh_bind N σ a1 a2 a3)) (by decide +kernel) (Nat.le_of_ble_eq_true rfl) (fun _ => rfl) (by rw [h]; rfl) (fun Γ e1 e2 C => by subst e1; subst e2; exact w_qh_bind C N σ a1 a2 a3)
theorem qh_bind_I : ck_V qh_bind_y qh_bind_c 6 (some .boolean) 3 := ⟨k_779, k_97, by decide +kernel, k_777, k_778⟩
