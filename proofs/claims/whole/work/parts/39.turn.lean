theorem qf_reads {f : qf_S} {F : Nat} (h : (qf_g_count f).toInt = F) (hF : F < 300) : qf_task f = qf_g_tasks f F ∧ qf_environment f = qf_g_environments f F ∧ qf_rest f = qf_g_rests f F ∧ qf_held f = qf_g_helds f F ∧ qf_gathered f = qf_g_gathereds f F := by
  have hc : qf_canRead f = 1 := by unfold qf_canRead; rw [if_neg (by ((try simp only [Int32.lt_iff_toInt_lt, Int32.le_iff_toInt_le, Int64.lt_iff_toInt_lt, Int64.le_iff_toInt_le, ← Int32.toInt_inj, ← Int64.toInt_inj, Int32.reduceToInt, Int64.reduceToInt] at *); omega)), if_neg (by ((try simp only [Int32.lt_iff_toInt_lt, Int32.le_iff_toInt_le, Int64.lt_iff_toInt_lt, Int64.le_iff_toInt_le, ← Int32.toInt_inj, ← Int64.toInt_inj, Int32.reduceToInt, Int64.reduceToInt] at *); omega))]
  have hi : Int32.toNatClampNeg (qf_g_count f) = F := by rw [i_clamp, h, toNat_cast]
  unfold qf_task qf_environment qf_rest qf_held qf_gathered
  rw [hc, hi, if_neg (by decide), if_neg (by decide), if_neg (by decide), if_neg (by decide), if_neg (by decide)]
  exact ⟨rfl, rfl, rfl, rfl, rfl⟩
section
variable {n : Nat} {K : Nat → Nat} {m : qm_S} {z : qn_S}
/-- the symbol that a rest names -/
theorem HR.named {h : qh_S} (H : HR n K h m) {r y x : Int64} {s : Int32} (hr : ok n K r) (hl : lst (qm_g_first m) (qm_g_second m) [y, x] r) (hy : kd y = 2) (hs : s.toInt = wt y) : qw_rowOf (qh_carOf h (xw r)) = s ∧ 0 ≤ s.toInt ∧ s.toInt < 100 := by
  obtain ⟨l1, l2, -⟩ := lst2 hl
  obtain ⟨f1, f2, f3, f4, f5, f6, f7⟩ := H.pair hr (Nat.le_refl _) l1
  rw [l2] at f1 f5
  have hb : 0 ≤ wt y ∧ wt y < 100 := by unfold ok prim at f5; omega
  have hx : xw y = y := xw_same (by omega)
  exact ⟨i_ext (by rw [f1, hx, qw_rowOf_wt (by omega) (by omega), hs]), by omega, by omega⟩
theorem SG.turn (H : HR n K (qn_gH z) m) (S : SG n K m z) (hF : 0 < (qm_g_frames m).toInt) {N : Nat} (hN : 5000 ≤ N) :
    ∃ r m' z', qm_takesResult N m = some (r, m') ∧ qn_returnCurrent N z = some z' ∧ Out n K m (mu m) m' z' r := by
  obtain ⟨F0, A, R, hs, q1, q2, q3, q4⟩ := S
  obtain ⟨F, rfl⟩ : ∃ F, F0 = F + 1 := ⟨F0 - 1, by have := R.1.1; omega⟩
  have hn := H.hn
  have r1 : (qm_g_frames m).toInt = ((F + 1 : Nat) : Int) := R.1.1
  have r2 : (qf_g_count (qn_gF z)).toInt = ((F + 1 : Nat) : Int) := R.1.2.1
  have r3 : F + 1 ≤ 300 := R.1.2.2.1
  have hmu : mu m = mub m + ((F : Int) + 1) * 4004 + 3 := by unfold mu; rw [if_neg (by rw [q1]; decide), if_neg (by rw [q1]; decide), r1]; omega
  have hst : (qm_g_steps m).toInt ≤ 1500 := by have := R.2.2.2; omega
  have hc1 : (qf_g_count (qn_gF z) - 1).toInt = F := by rw [i_sub] <;> simp only [Int32.reduceToInt] <;> omega
  have hi1 : (qm_g_frames m - 1).toInt = F := by rw [i_sub] <;> simp only [Int32.reduceToInt] <;> omega
  have hcl : Int32.toNatClampNeg (qm_g_frames m - 1) = F := by rw [i_clamp, hi1, toNat_cast]
  have hin : inb (qm_g_frames m - 1) 300 = true := inb_of (by omega) (by omega)
  obtain ⟨C, R1, fr0⟩ := R.popd (qf_g_environments (qn_gF z) F)
  obtain ⟨t1, t2, t3, t4, t5⟩ := qf_reads (f := qf_s_count (qn_gF z) (qf_g_count (qn_gF z) - 1)) (F := F) (by simp only [gf_s_count, gf_s_most, gf_t_tasks, gf_t_environments, gf_t_rests, gf_t_helds, gf_t_gathereds, gn_s_argumentCount, gn_s_mode, gn_s_current, gn_s_operands, gn_s_environment, gn_s_steps, gn_s_limit, gn_s_failure, gn_t_arguments, gn_F, gn_T, gn_H, gm_s_values, gm_s_present, gm_s_limit, gm_s_steps, gm_s_mostFrames, gm_s_mode, gm_s_now, gm_s_operands, gm_s_around, gm_s_frames, gm_s_resultMany, gm_t_stack, gm_t_frameKind, gm_t_frameOne, gm_t_frameOther, gm_t_frameAround, gm_t_frameBase, gm_t_results]; exact hc1) (by omega)
  simp only [gf_s_count, gf_s_most, gf_t_tasks, gf_t_environments, gf_t_rests, gf_t_helds, gf_t_gathereds, gn_s_argumentCount, gn_s_mode, gn_s_current, gn_s_operands, gn_s_environment, gn_s_steps, gn_s_limit, gn_s_failure, gn_t_arguments, gn_F, gn_T, gn_H, gm_s_values, gm_s_present, gm_s_limit, gm_s_steps, gm_s_mostFrames, gm_s_mode, gm_s_now, gm_s_operands, gm_s_around, gm_s_frames, gm_s_resultMany, gm_t_stack, gm_t_frameKind, gm_t_frameOne, gm_t_frameOther, gm_t_frameAround, gm_t_frameBase, gm_t_results] at t1 t2 t3 t4 t5
  have hE : qf_isEmpty (qn_gF z) = 0 := by unfold qf_isEmpty; rw [if_pos (by ((try simp only [Int32.lt_iff_toInt_lt, Int32.le_iff_toInt_le, Int64.lt_iff_toInt_lt, Int64.le_iff_toInt_le, ← Int32.toInt_inj, ← Int64.toInt_inj, Int32.reduceToInt, Int64.reduceToInt] at *); omega))]
  have hT : qf_take (qn_gF z) = qf_s_count (qn_gF z) (qf_g_count (qn_gF z) - 1) := by unfold qf_take; rw [if_neg (by ((try simp only [Int32.lt_iff_toInt_lt, Int32.le_iff_toInt_le, Int64.lt_iff_toInt_lt, Int64.le_iff_toInt_le, ← Int32.toInt_inj, ← Int64.toInt_inj, Int32.reduceToInt, Int64.reduceToInt] at *); omega))]
  obtain ⟨tk, he, hC0, hCA, fc⟩ := fr0
  unfold qm_takesResult qn_returnCurrent
  rw [if_pos hin, if_pos hin, if_pos hin, if_pos hin, if_pos hin, hcl, if_pos hE, hT, t1, t2, t3, t4, t5, q3, tk]
  have e1 : mh (qm_s_frames m (qm_g_frames m - 1)) = mh m := by simp only [gf_s_count, gf_s_most, gf_t_tasks, gf_t_environments, gf_t_rests, gf_t_helds, gf_t_gathereds, gn_s_argumentCount, gn_s_mode, gn_s_current, gn_s_operands, gn_s_environment, gn_s_steps, gn_s_limit, gn_s_failure, gn_t_arguments, gn_F, gn_T, gn_H, gm_s_values, gm_s_present, gm_s_limit, gm_s_steps, gm_s_mostFrames, gm_s_mode, gm_s_now, gm_s_operands, gm_s_around, gm_s_frames, gm_s_resultMany, gm_t_stack, gm_t_frameKind, gm_t_frameOne, gm_t_frameOther, gm_t_frameAround, gm_t_frameBase, gm_t_results]
  have k1 : kp (qm_s_frames m (qm_g_frames m - 1)) m := by unfold kp; simp only [gf_s_count, gf_s_most, gf_t_tasks, gf_t_environments, gf_t_rests, gf_t_helds, gf_t_gathereds, gn_s_argumentCount, gn_s_mode, gn_s_current, gn_s_operands, gn_s_environment, gn_s_steps, gn_s_limit, gn_s_failure, gn_t_arguments, gn_F, gn_T, gn_H, gm_s_values, gm_s_present, gm_s_limit, gm_s_steps, gm_s_mostFrames, gm_s_mode, gm_s_now, gm_s_operands, gm_s_around, gm_s_frames, gm_s_resultMany, gm_t_stack, gm_t_frameKind, gm_t_frameOne, gm_t_frameOther, gm_t_frameAround, gm_t_frameBase, gm_t_results, and_self]
  have s1 : qm_g_steps (qm_s_frames m (qm_g_frames m - 1)) = qm_g_steps m := by simp only [gf_s_count, gf_s_most, gf_t_tasks, gf_t_environments, gf_t_rests, gf_t_helds, gf_t_gathereds, gn_s_argumentCount, gn_s_mode, gn_s_current, gn_s_operands, gn_s_environment, gn_s_steps, gn_s_limit, gn_s_failure, gn_t_arguments, gn_F, gn_T, gn_H, gm_s_values, gm_s_present, gm_s_limit, gm_s_steps, gm_s_mostFrames, gm_s_mode, gm_s_now, gm_s_operands, gm_s_around, gm_s_frames, gm_s_resultMany, gm_t_stack, gm_t_frameKind, gm_t_frameOne, gm_t_frameOther, gm_t_frameAround, gm_t_frameBase, gm_t_results]
  have hrm : qm_g_resultMany m = qm_g_resultMany (qm_s_frames m (qm_g_frames m - 1)) := by simp only [gf_s_count, gf_s_most, gf_t_tasks, gf_t_environments, gf_t_rests, gf_t_helds, gf_t_gathereds, gn_s_argumentCount, gn_s_mode, gn_s_current, gn_s_operands, gn_s_environment, gn_s_steps, gn_s_limit, gn_s_failure, gn_t_arguments, gn_F, gn_T, gn_H, gm_s_values, gm_s_present, gm_s_limit, gm_s_steps, gm_s_mostFrames, gm_s_mode, gm_s_now, gm_s_operands, gm_s_around, gm_s_frames, gm_s_resultMany, gm_t_stack, gm_t_frameKind, gm_t_frameOne, gm_t_frameOther, gm_t_frameAround, gm_t_frameBase, gm_t_results]
  have z2 : qn_g_current (qn_s_environment (qn_sF z (qf_s_count (qn_gF z) (qf_g_count (qn_gF z) - 1))) (qf_g_environments (qn_gF z) F)) = xw (qm_g_now m) := by simp only [gf_s_count, gf_s_most, gf_t_tasks, gf_t_environments, gf_t_rests, gf_t_helds, gf_t_gathereds, gn_s_argumentCount, gn_s_mode, gn_s_current, gn_s_operands, gn_s_environment, gn_s_steps, gn_s_limit, gn_s_failure, gn_t_arguments, gn_F, gn_T, gn_H, gm_s_values, gm_s_present, gm_s_limit, gm_s_steps, gm_s_mostFrames, gm_s_mode, gm_s_now, gm_s_operands, gm_s_around, gm_s_frames, gm_s_resultMany, gm_t_stack, gm_t_frameKind, gm_t_frameOne, gm_t_frameOther, gm_t_frameAround, gm_t_frameBase, gm_t_results]; exact q3
  have z3 : qn_g_environment (qn_s_environment (qn_sF z (qf_s_count (qn_gF z) (qf_g_count (qn_gF z) - 1))) (qf_g_environments (qn_gF z) F)) = qf_g_environments (qn_gF z) F := by simp only [gf_s_count, gf_s_most, gf_t_tasks, gf_t_environments, gf_t_rests, gf_t_helds, gf_t_gathereds, gn_s_argumentCount, gn_s_mode, gn_s_current, gn_s_operands, gn_s_environment, gn_s_steps, gn_s_limit, gn_s_failure, gn_t_arguments, gn_F, gn_T, gn_H, gm_s_values, gm_s_present, gm_s_limit, gm_s_steps, gm_s_mostFrames, gm_s_mode, gm_s_now, gm_s_operands, gm_s_around, gm_s_frames, gm_s_resultMany, gm_t_stack, gm_t_frameKind, gm_t_frameOne, gm_t_frameOther, gm_t_frameAround, gm_t_frameBase, gm_t_results]
  have H1 : HR n K (qn_gH (qn_s_environment (qn_sF z (qf_s_count (qn_gF z) (qf_g_count (qn_gF z) - 1))) (qf_g_environments (qn_gF z) F))) (qm_s_frames m (qm_g_frames m - 1)) := by simp only [gf_s_count, gf_s_most, gf_t_tasks, gf_t_environments, gf_t_rests, gf_t_helds, gf_t_gathereds, gn_s_argumentCount, gn_s_mode, gn_s_current, gn_s_operands, gn_s_environment, gn_s_steps, gn_s_limit, gn_s_failure, gn_t_arguments, gn_F, gn_T, gn_H, gm_s_values, gm_s_present, gm_s_limit, gm_s_steps, gm_s_mostFrames, gm_s_mode, gm_s_now, gm_s_operands, gm_s_around, gm_s_frames, gm_s_resultMany, gm_t_stack, gm_t_frameKind, gm_t_frameOne, gm_t_frameOther, gm_t_frameAround, gm_t_frameBase, gm_t_results]; exact H.of e1
  rw [hrm]
  generalize qm_s_frames m (qm_g_frames m - 1) = m1 at *
  generalize qn_s_environment (qn_sF z (qf_s_count (qn_gF z) (qf_g_count (qn_gF z) - 1))) (qf_g_environments (qn_gF z) F) = z1 at *
  obtain ⟨ef, es, -⟩ := mh_all e1
  rw [← ef, ← es] at fc
  have hb := mub_le H H1 (Nat.le_refl _) k1.2.2.2 s1
  rw [← z3] at he
  rcases fc with ⟨b1, b2, b3, b4⟩ | ⟨b1, b2, b3, ⟨L, b4⟩, b5, b6, b7, b8, b9⟩ | ⟨b1, b2, r, b3, b4, b5⟩ | ⟨b1, b2, r, y, x, b3, b4, b5, b6, b7⟩ | ⟨b1, b2, r, y, b3, b4, b5, b6, b7⟩ | ⟨b1, b2, ⟨r, y, x, b3, b4, b5, b6, b7⟩, b8, b9, b10⟩ | ⟨b1, b2, b3, b4, a, L, b5⟩
  · subst b2
    rw [b1, if_pos rfl, if_pos rfl, b3]
    have hd := cw_b q4 hn (qm_g_frameOne m F)
    exact ⟨0, _, _, rfl, rfl, (R1.comb H1 q4 b4 he (by rw [s1]; omega) (by omega)).ext (Ext.refl e1.symm) k1⟩
  · rw [b1, if_neg (show ¬ (1 : Int32) = 0 by decide), if_neg (show ¬ (1 : Int32) = 0 by decide), if_pos rfl, if_pos rfl, b2, b7]
    have hA : A < 1500 := by omega
    obtain ⟨c1, c2, -⟩ := R1.2.2.1
    rw [if_pos (inb_of (by omega) (by omega))]
    unfold qn_takeArgument
    rw [if_neg (by ((try simp only [Int32.lt_iff_toInt_lt, Int32.le_iff_toInt_le, Int64.lt_iff_toInt_lt, Int64.le_iff_toInt_le, ← Int32.toInt_inj, ← Int64.toInt_inj, Int32.reduceToInt, Int64.reduceToInt] at *); omega)), if_pos (by ((try simp only [Int32.lt_iff_toInt_lt, Int32.le_iff_toInt_le, Int64.lt_iff_toInt_lt, Int64.le_iff_toInt_le, ← Int32.toInt_inj, ← Int64.toInt_inj, Int32.reduceToInt, Int64.reduceToInt] at *); omega)), z2]
    have R2 := R1.arg q4 hA
    obtain ⟨C', rfl⟩ : ∃ C' : Nat, C = C' := ⟨C.toNat, by omega⟩
    have e2 : mh (qm_s_resultMany (qm_t_results m1 (qm_g_resultMany m1) (qm_g_now m)) (qm_g_resultMany m1 + 1)) = mh m1 := by simp only [gf_s_count, gf_s_most, gf_t_tasks, gf_t_environments, gf_t_rests, gf_t_helds, gf_t_gathereds, gn_s_argumentCount, gn_s_mode, gn_s_current, gn_s_operands, gn_s_environment, gn_s_steps, gn_s_limit, gn_s_failure, gn_t_arguments, gn_F, gn_T, gn_H, gm_s_values, gm_s_present, gm_s_limit, gm_s_steps, gm_s_mostFrames, gm_s_mode, gm_s_now, gm_s_operands, gm_s_around, gm_s_frames, gm_s_resultMany, gm_t_stack, gm_t_frameKind, gm_t_frameOne, gm_t_frameOther, gm_t_frameAround, gm_t_frameBase, gm_t_results]
    have k2 : kp (qm_s_resultMany (qm_t_results m1 (qm_g_resultMany m1) (qm_g_now m)) (qm_g_resultMany m1 + 1)) m1 := by unfold kp; simp only [gf_s_count, gf_s_most, gf_t_tasks, gf_t_environments, gf_t_rests, gf_t_helds, gf_t_gathereds, gn_s_argumentCount, gn_s_mode, gn_s_current, gn_s_operands, gn_s_environment, gn_s_steps, gn_s_limit, gn_s_failure, gn_t_arguments, gn_F, gn_T, gn_H, gm_s_values, gm_s_present, gm_s_limit, gm_s_steps, gm_s_mostFrames, gm_s_mode, gm_s_now, gm_s_operands, gm_s_around, gm_s_frames, gm_s_resultMany, gm_t_stack, gm_t_frameKind, gm_t_frameOne, gm_t_frameOther, gm_t_frameAround, gm_t_frameBase, gm_t_results, and_self]
    have s2 : qm_g_steps (qm_s_resultMany (qm_t_results m1 (qm_g_resultMany m1) (qm_g_now m)) (qm_g_resultMany m1 + 1)) = qm_g_steps m1 := by simp only [gf_s_count, gf_s_most, gf_t_tasks, gf_t_environments, gf_t_rests, gf_t_helds, gf_t_gathereds, gn_s_argumentCount, gn_s_mode, gn_s_current, gn_s_operands, gn_s_environment, gn_s_steps, gn_s_limit, gn_s_failure, gn_t_arguments, gn_F, gn_T, gn_H, gm_s_values, gm_s_present, gm_s_limit, gm_s_steps, gm_s_mostFrames, gm_s_mode, gm_s_now, gm_s_operands, gm_s_around, gm_s_frames, gm_s_resultMany, gm_t_stack, gm_t_frameKind, gm_t_frameOne, gm_t_frameOther, gm_t_frameAround, gm_t_frameBase, gm_t_results]
    have H2 : HR n K (qn_gH (qn_s_argumentCount (qn_t_arguments z1 (qn_g_argumentCount z1) (xw (qm_g_now m))) (qn_g_argumentCount z1 + 1))) (qm_s_resultMany (qm_t_results m1 (qm_g_resultMany m1) (qm_g_now m)) (qm_g_resultMany m1 + 1)) := by simp only [gf_s_count, gf_s_most, gf_t_tasks, gf_t_environments, gf_t_rests, gf_t_helds, gf_t_gathereds, gn_s_argumentCount, gn_s_mode, gn_s_current, gn_s_operands, gn_s_environment, gn_s_steps, gn_s_limit, gn_s_failure, gn_t_arguments, gn_F, gn_T, gn_H, gm_s_values, gm_s_present, gm_s_limit, gm_s_steps, gm_s_mostFrames, gm_s_mode, gm_s_now, gm_s_operands, gm_s_around, gm_s_frames, gm_s_resultMany, gm_t_stack, gm_t_frameKind, gm_t_frameOne, gm_t_frameOther, gm_t_frameAround, gm_t_frameBase, gm_t_results]; exact H1.of e2
    have he2 : envr n K (qn_g_environment (qn_s_argumentCount (qn_t_arguments z1 (qn_g_argumentCount z1) (xw (qm_g_now m))) (qn_g_argumentCount z1 + 1))) (qm_g_frameAround m F) := by simp only [gf_s_count, gf_s_most, gf_t_tasks, gf_t_environments, gf_t_rests, gf_t_helds, gf_t_gathereds, gn_s_argumentCount, gn_s_mode, gn_s_current, gn_s_operands, gn_s_environment, gn_s_steps, gn_s_limit, gn_s_failure, gn_t_arguments, gn_F, gn_T, gn_H, gm_s_values, gm_s_present, gm_s_limit, gm_s_steps, gm_s_mostFrames, gm_s_mode, gm_s_now, gm_s_operands, gm_s_around, gm_s_frames, gm_s_resultMany, gm_t_stack, gm_t_frameKind, gm_t_frameOne, gm_t_frameOther, gm_t_frameAround, gm_t_frameBase, gm_t_results]; exact he
    generalize qm_s_resultMany (qm_t_results m1 (qm_g_resultMany m1) (qm_g_now m)) (qm_g_resultMany m1 + 1) = m2 at *
    generalize qn_s_argumentCount (qn_t_arguments z1 (qn_g_argumentCount z1) (xw (qm_g_now m))) (qn_g_argumentCount z1 + 1) = z2' at *
    obtain ⟨ef2, es2, -⟩ := mh_all e2
    have hb2 := mub_le H1 H2 (Nat.le_refl _) k2.2.2.2 s2
    have hu : undr m2 (qm_g_frameOne m F) = undf (qm_g_first m1) (qm_g_frameOne m F) := by rw [undr_f, ef2]
    have hd := dep_b (H2.und b5 (Nat.le_refl _) b6).2.2.1 hn
    obtain ⟨r, m', z', g1, g2, g3⟩ := R2.goesOn H2 hN (app := qm_g_frameOne m F) (rest := qm_g_frameOther m F) (arn := qm_g_frameAround m F) (x7 := qm_g_frameBase m F) (g := qf_g_gathereds (qn_gF z) F + 1) (M := mu m) (by omega) (by omega) b5 b6 b3 ⟨L, by rw [ef2, es2]; exact b4⟩ he2 b8 (by rw [i_add] <;> simp only [Int32.reduceToInt] <;> omega) (by rw [s2, s1]; omega) (fun _ _ => by omega) (fun _ _ => by omega) (fun _ => by omega)
    rw [hu] at g2
    rw [g1, g2, ob_, ob_, ob_]
    exact ⟨r, m', z', rfl, rfl, g3.ext ((Ext.refl e1.symm).trans (Ext.refl e2.symm)) (k2.trans k1)⟩
  · subst b2
    rw [b1, if_neg (show ¬ (2 : Int32) = 0 by decide), if_neg (show ¬ (2 : Int32) = 0 by decide), if_neg (show ¬ (2 : Int32) = 1 by decide), if_neg (show ¬ (2 : Int32) = 1 by decide), if_pos rfl, if_pos rfl, b3]
    unfold qn_choose
    rw [z2]
    by_cases kn : kd (qm_g_now m) = 1
    · have hx : xw (qm_g_now m) = qm_g_now m := xw_same (by omega)
      rw [if_pos (mk1.mpr kn), if_pos ((xk1 q4 hn).mpr kn), hx]
      obtain ⟨a0, w1, w2, -, w3⟩ := H1.elem hN b4 b5 (j := 0) (x := 0) (by simp only [List.length_cons, List.length_nil]; omega) (by decide)
      obtain ⟨a1, v1, v2, -, v3⟩ := H1.elem hN b4 b5 (j := 1) (x := 1) (by simp only [List.length_cons, List.length_nil]; omega) (by decide)
      cases w1; cases v1
      have i1 := qm_whatOf_wt (qm_g_now m)
      have i2 := qw_contentOf_wt (qm_g_now m)
      by_cases h1 : wt (qm_g_now m) = 1
      · rw [if_pos (l_ext (by rw [i1, h1]; decide)), if_pos (l_ext (by rw [i2, h1]; decide)), w3, ob_, ob_]
        exact ⟨0, _, _, rfl, rfl, (R1.tail H1 w2 he (by rw [s1]; omega) (by omega)).ext (Ext.refl e1.symm) k1⟩
      · rw [if_neg (fun e => h1 (by rw [← i1, e]; decide)), if_neg (fun e => h1 (by rw [← i2, e]; decide)), v3, ob_, ob_]
        exact ⟨0, _, _, rfl, rfl, (R1.tail H1 v2 he (by rw [s1]; omega) (by omega)).ext (Ext.refl e1.symm) k1⟩
    · rw [if_neg (mt mk1.mp kn), if_neg (mt (xk1 q4 hn).mp kn), ob_]
      exact ⟨-8, _, _, rfl, rfl, (R1.fail H1 (by decide)).ext (Ext.refl e1.symm) k1⟩
  · subst b2
    obtain ⟨n1, n2, n3⟩ := H1.named b4 b5 b6 b7
    rw [b1, if_neg (show ¬ (3 : Int32) = 0 by decide), if_neg (show ¬ (3 : Int32) = 0 by decide), if_neg (show ¬ (3 : Int32) = 1 by decide), if_neg (show ¬ (3 : Int32) = 1 by decide), if_neg (show ¬ (3 : Int32) = 2 by decide), if_neg (show ¬ (3 : Int32) = 2 by decide), if_pos rfl, if_pos rfl, b3]
    unfold qn_bindCurrent
    rw [z2, n1, ← z3]
    obtain ⟨r', m', z', g1, g2, g3⟩ := R1.bind H1 hN he q4 ⟨n2, n3⟩ (M := mu m) (by rw [s1]; omega) (by omega)
    rw [g1, g2, ob_, ob_]
    exact ⟨r', m', z', rfl, rfl, g3.ext (Ext.refl e1.symm) k1⟩
  · subst b2
    rw [b1, if_neg (show ¬ (4 : Int32) = 0 by decide), if_neg (show ¬ (4 : Int32) = 0 by decide), if_neg (show ¬ (4 : Int32) = 1 by decide), if_neg (show ¬ (4 : Int32) = 1 by decide), if_neg (show ¬ (4 : Int32) = 2 by decide), if_neg (show ¬ (4 : Int32) = 2 by decide), if_neg (show ¬ (4 : Int32) = 3 by decide), if_neg (show ¬ (4 : Int32) = 3 by decide), if_pos rfl, if_pos rfl, b3]
    unfold qn_takePlace
    rw [z2]
    by_cases kn : kd (qm_g_now m) = 7
    · obtain ⟨a1, v1, v2, -, v3⟩ := H1.elem hN b4 b5 (j := 1) (x := 1) (by simp only [List.length_cons, List.length_nil]; omega) (by decide)
      cases v1
      rw [if_pos (mk7.mpr kn), if_pos ((xk7 q4 hn).mpr kn), v3, ob_, ob_]
      obtain ⟨r', m', g1, g2⟩ := R1.frame H1 v2 (tk := 5) (gt := 0) (fk := 5) (fb := qm_g_frameBase m F) (rs := xw r) (hd := xw (qm_g_now m)) (fo := qm_g_now m) (fh := 0) (fa := qm_g_frameAround m F) (M := mu m)
        ⟨rfl, he, by omega, by omega, Or.inr (Or.inr (Or.inr (Or.inr (Or.inr (Or.inl ⟨rfl, rfl, ⟨r, y, _, rfl, b4, b5, b6, b7⟩, rfl, q4, kn⟩)))))⟩ (by rw [s1]; omega) (by omega)
      rw [g1, ob_]
      exact ⟨r', m', _, rfl, rfl, g2.ext (Ext.refl e1.symm) k1⟩
    · rw [if_neg (mt mk7.mp kn), if_neg (mt (xk7 q4 hn).mp kn), ob_]
      exact ⟨-8, _, _, rfl, rfl, (R1.fail H1 (by decide)).ext (Ext.refl e1.symm) k1⟩
  · subst b2
    obtain ⟨n1, n2, n3⟩ := H1.named b4 b5 b6 b7
    rw [b1, if_neg (show ¬ (5 : Int32) = 0 by decide), if_neg (show ¬ (5 : Int32) = 0 by decide), if_neg (show ¬ (5 : Int32) = 1 by decide), if_neg (show ¬ (5 : Int32) = 1 by decide), if_neg (show ¬ (5 : Int32) = 2 by decide), if_neg (show ¬ (5 : Int32) = 2 by decide), if_neg (show ¬ (5 : Int32) = 3 by decide), if_neg (show ¬ (5 : Int32) = 3 by decide), if_neg (show ¬ (5 : Int32) = 4 by decide), if_neg (show ¬ (5 : Int32) = 4 by decide), if_pos rfl, if_pos rfl, b3, b8]
    unfold qn_bindCurrent
    rw [z2, n1]
    obtain ⟨r', m', z', g1, g2, g3⟩ := R1.bind H1 hN ⟨b9, b10, xw_row b9 hn (by omega) (by omega)⟩ q4 ⟨n2, n3⟩ (M := mu m) (by rw [s1]; omega) (by omega)
    rw [g1, g2, ob_, ob_]
    exact ⟨r', m', z', rfl, rfl, g3.ext (Ext.refl e1.symm) k1⟩
  · subst b2
    rw [b1, if_neg (show ¬ (6 : Int32) = 0 by decide), if_neg (show ¬ (6 : Int32) = 0 by decide), if_neg (show ¬ (6 : Int32) = 1 by decide), if_neg (show ¬ (6 : Int32) = 1 by decide), if_neg (show ¬ (6 : Int32) = 2 by decide), if_neg (show ¬ (6 : Int32) = 2 by decide), if_neg (show ¬ (6 : Int32) = 3 by decide), if_neg (show ¬ (6 : Int32) = 3 by decide), if_neg (show ¬ (6 : Int32) = 4 by decide), if_neg (show ¬ (6 : Int32) = 4 by decide), if_neg (show ¬ (6 : Int32) = 5 by decide), if_neg (show ¬ (6 : Int32) = 5 by decide), if_pos rfl, b3]
    obtain ⟨r', m', g1, g2⟩ := R1.begins H1 b4 ⟨a :: L, b5⟩ he (M := mu m) (by rw [s1]; omega) (by omega) (fun _ => by omega)
    rw [g1, ob_]
    exact ⟨r', m', _, rfl, rfl, g2.ext (Ext.refl e1.symm) k1⟩
end
