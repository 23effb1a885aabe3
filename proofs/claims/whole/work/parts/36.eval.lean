/-! ===== one turn: an expression ===== -/
theorem mub_le {n n' : Nat} {K K' : Nat → Nat} {h h' : qh_S} {m m' : qm_S} (H : HR n K h m) (H' : HR n' K' h' m') (hn : n ≤ n') (e1 : qm_g_limit m' = qm_g_limit m) (e2 : qm_g_steps m' = qm_g_steps m) : mub m' + ((n' : Int) - n) * 2 ≤ mub m := by
  have a := H.ho
  have b := H'.ho
  unfold mub
  rw [e1, e2, a, b]
  omega
section
variable {n : Nat} {K : Nat → Nat} {m : qm_S} {z : qn_S}
theorem MR.step {F A : Nat} {B : Int} (R : MR n K m z F A B) (hlt : (qm_g_steps m).toInt < (qm_g_limit m).toInt) :
    MR n K (qm_s_steps m (qm_g_steps m + 1)) (qn_s_steps z (qn_g_steps z + 1)) F A B ∧ (qm_g_steps (qm_s_steps m (qm_g_steps m + 1))).toInt = (qm_g_steps m).toInt + 1 := by
  obtain ⟨a, b, c, d1, d2, d3, d4, d5, d6⟩ := R
  have h1 : (qm_g_steps m + 1).toInt = (qm_g_steps m).toInt + 1 := by rw [i_add] <;> simp only [Int32.reduceToInt] <;> omega
  refine ⟨?_, by simp only [gf_s_count, gf_s_most, gf_t_tasks, gf_t_environments, gf_t_rests, gf_t_helds, gf_t_gathereds, gn_s_argumentCount, gn_s_mode, gn_s_current, gn_s_operands, gn_s_environment, gn_s_steps, gn_s_limit, gn_s_failure, gn_t_arguments, gn_F, gn_T, gn_H, gm_s_values, gm_s_present, gm_s_limit, gm_s_steps, gm_s_mostFrames, gm_s_mode, gm_s_now, gm_s_operands, gm_s_around, gm_s_frames, gm_s_resultMany, gm_t_stack, gm_t_frameKind, gm_t_frameOne, gm_t_frameOther, gm_t_frameAround, gm_t_frameBase, gm_t_results]; exact h1⟩
  unfold MR
  simp only [gf_s_count, gf_s_most, gf_t_tasks, gf_t_environments, gf_t_rests, gf_t_helds, gf_t_gathereds, gn_s_argumentCount, gn_s_mode, gn_s_current, gn_s_operands, gn_s_environment, gn_s_steps, gn_s_limit, gn_s_failure, gn_t_arguments, gn_F, gn_T, gn_H, gm_s_values, gm_s_present, gm_s_limit, gm_s_steps, gm_s_mostFrames, gm_s_mode, gm_s_now, gm_s_operands, gm_s_around, gm_s_frames, gm_s_resultMany, gm_t_stack, gm_t_frameKind, gm_t_frameOne, gm_t_frameOther, gm_t_frameAround, gm_t_frameBase, gm_t_results]
  exact ⟨a, b, c, by rw [d1], d2, by rw [h1]; omega, by rw [h1]; omega, d5, d6⟩
theorem SE.turn (H : HR n K (qn_gH z) m) (S : SE n K m z) {N : Nat} (hN : 5000 ≤ N) :
    ∃ r m' z', qm_evaluatesOne N m = some (r, m') ∧ qn_evaluateCurrent N z = some z' ∧ Out n K m (mu m) m' z' r := by
  obtain ⟨F, A, R, hs, q1, q2, ⟨q3, q4⟩, q5⟩ := S
  have hn := H.hn
  obtain ⟨d1, d2, d3, d4, d5, d6⟩ := R.2.2.2
  have hmu : mu m = mub m + (F : Int) * 4004 := by unfold mu; rw [if_pos q1, if_neg (by rw [q1]; decide), R.1.1]; omega
  by_cases hl : qm_g_steps m = qm_g_limit m
  · refine ⟨-10, m, qn_fail z (-10), by unfold qm_evaluatesOne; rw [if_pos hl], ?_, R.fail H (by decide)⟩
    unfold qn_evaluateCurrent
    rw [if_neg (by rw [d1, d2, hl, Int32.lt_iff_toInt_lt]; omega)]
  · have hlt : (qm_g_steps m).toInt < (qm_g_limit m).toInt := by
      have : (qm_g_steps m).toInt ≠ (qm_g_limit m).toInt := fun e => hl (i_ext e)
      omega
    obtain ⟨R1, s1⟩ := R.step hlt
    have hX : qn_g_steps z < qn_g_limit z := by rw [d1, d2, Int32.lt_iff_toInt_lt]; exact hlt
    have e1 : mh (qm_s_steps m (qm_g_steps m + 1)) = mh m := by simp only [gf_s_count, gf_s_most, gf_t_tasks, gf_t_environments, gf_t_rests, gf_t_helds, gf_t_gathereds, gn_s_argumentCount, gn_s_mode, gn_s_current, gn_s_operands, gn_s_environment, gn_s_steps, gn_s_limit, gn_s_failure, gn_t_arguments, gn_F, gn_T, gn_H, gm_s_values, gm_s_present, gm_s_limit, gm_s_steps, gm_s_mostFrames, gm_s_mode, gm_s_now, gm_s_operands, gm_s_around, gm_s_frames, gm_s_resultMany, gm_t_stack, gm_t_frameKind, gm_t_frameOne, gm_t_frameOther, gm_t_frameAround, gm_t_frameBase, gm_t_results]
    have H1 : HR n K (qn_gH (qn_s_steps z (qn_g_steps z + 1))) (qm_s_steps m (qm_g_steps m + 1)) := by simp only [gf_s_count, gf_s_most, gf_t_tasks, gf_t_environments, gf_t_rests, gf_t_helds, gf_t_gathereds, gn_s_argumentCount, gn_s_mode, gn_s_current, gn_s_operands, gn_s_environment, gn_s_steps, gn_s_limit, gn_s_failure, gn_t_arguments, gn_F, gn_T, gn_H, gm_s_values, gm_s_present, gm_s_limit, gm_s_steps, gm_s_mostFrames, gm_s_mode, gm_s_now, gm_s_operands, gm_s_around, gm_s_frames, gm_s_resultMany, gm_t_stack, gm_t_frameKind, gm_t_frameOne, gm_t_frameOther, gm_t_frameAround, gm_t_frameBase, gm_t_results]; exact H.of e1
    have k1 : kp (qm_s_steps m (qm_g_steps m + 1)) m := by unfold kp; simp only [gf_s_count, gf_s_most, gf_t_tasks, gf_t_environments, gf_t_rests, gf_t_helds, gf_t_gathereds, gn_s_argumentCount, gn_s_mode, gn_s_current, gn_s_operands, gn_s_environment, gn_s_steps, gn_s_limit, gn_s_failure, gn_t_arguments, gn_F, gn_T, gn_H, gm_s_values, gm_s_present, gm_s_limit, gm_s_steps, gm_s_mostFrames, gm_s_mode, gm_s_now, gm_s_operands, gm_s_around, gm_s_frames, gm_s_resultMany, gm_t_stack, gm_t_frameKind, gm_t_frameOne, gm_t_frameOther, gm_t_frameAround, gm_t_frameBase, gm_t_results, and_self]
    have hb : mub (qm_s_steps m (qm_g_steps m + 1)) = mub m - 4005 := by
      have := (mh_all e1).2.2.2.2.2.2.2.2.2
      unfold mub
      rw [this, s1]
      simp only [gf_s_count, gf_s_most, gf_t_tasks, gf_t_environments, gf_t_rests, gf_t_helds, gf_t_gathereds, gn_s_argumentCount, gn_s_mode, gn_s_current, gn_s_operands, gn_s_environment, gn_s_steps, gn_s_limit, gn_s_failure, gn_t_arguments, gn_F, gn_T, gn_H, gm_s_values, gm_s_present, gm_s_limit, gm_s_steps, gm_s_mostFrames, gm_s_mode, gm_s_now, gm_s_operands, gm_s_around, gm_s_frames, gm_s_resultMany, gm_t_stack, gm_t_frameKind, gm_t_frameOne, gm_t_frameOther, gm_t_frameAround, gm_t_frameBase, gm_t_results]
      omega
    have q5' : envr n K (qn_g_environment (qn_s_steps z (qn_g_steps z + 1))) (qm_g_around m) := by simp only [gf_s_count, gf_s_most, gf_t_tasks, gf_t_environments, gf_t_rests, gf_t_helds, gf_t_gathereds, gn_s_argumentCount, gn_s_mode, gn_s_current, gn_s_operands, gn_s_environment, gn_s_steps, gn_s_limit, gn_s_failure, gn_t_arguments, gn_F, gn_T, gn_H, gm_s_values, gm_s_present, gm_s_limit, gm_s_steps, gm_s_mostFrames, gm_s_mode, gm_s_now, gm_s_operands, gm_s_around, gm_s_frames, gm_s_resultMany, gm_t_stack, gm_t_frameKind, gm_t_frameOne, gm_t_frameOther, gm_t_frameAround, gm_t_frameBase, gm_t_results]; exact q5
    have ez : qn_gH (qn_s_steps z (qn_g_steps z + 1)) = qn_gH z := by simp only [gf_s_count, gf_s_most, gf_t_tasks, gf_t_environments, gf_t_rests, gf_t_helds, gf_t_gathereds, gn_s_argumentCount, gn_s_mode, gn_s_current, gn_s_operands, gn_s_environment, gn_s_steps, gn_s_limit, gn_s_failure, gn_t_arguments, gn_F, gn_T, gn_H, gm_s_values, gm_s_present, gm_s_limit, gm_s_steps, gm_s_mostFrames, gm_s_mode, gm_s_now, gm_s_operands, gm_s_around, gm_s_frames, gm_s_resultMany, gm_t_stack, gm_t_frameKind, gm_t_frameOne, gm_t_frameOther, gm_t_frameAround, gm_t_frameBase, gm_t_results]
    have ez2 : qn_g_environment (qn_s_steps z (qn_g_steps z + 1)) = qn_g_environment z := by simp only [gf_s_count, gf_s_most, gf_t_tasks, gf_t_environments, gf_t_rests, gf_t_helds, gf_t_gathereds, gn_s_argumentCount, gn_s_mode, gn_s_current, gn_s_operands, gn_s_environment, gn_s_steps, gn_s_limit, gn_s_failure, gn_t_arguments, gn_F, gn_T, gn_H, gm_s_values, gm_s_present, gm_s_limit, gm_s_steps, gm_s_mostFrames, gm_s_mode, gm_s_now, gm_s_operands, gm_s_around, gm_s_frames, gm_s_resultMany, gm_t_stack, gm_t_frameKind, gm_t_frameOne, gm_t_frameOther, gm_t_frameAround, gm_t_frameBase, gm_t_results]
    unfold qm_evaluatesOne qn_evaluateCurrent
    rw [if_neg hl, if_pos hX, q3]
    generalize qm_s_steps m (qm_g_steps m + 1) = m1 at *
    generalize qn_s_steps z (qn_g_steps z + 1) = z1 at *
    by_cases k4 : kd (qm_g_now m) = 4
    · obtain ⟨f1, f2, f3, f4, f5, f6, f7⟩ := H1.pair q4 (Nat.le_refl _) k4
      rw [ez] at f1 f2
      rw [if_pos (mk4.mpr k4), if_pos ((xk4 q4 hn).mpr k4), f1, f2, f3, f4, ob_, ob_]
      obtain ⟨r, m', g1, g2⟩ := R1.frame H1 (x := qm_g_first m1 (ix (qm_g_now m))) (ok_mono f5 (by omega) (fun _ _ => rfl)) (tk := 0) (gt := 0) (fk := 0) (fb := 0) (rs := xw (qm_g_second m1 (ix (qm_g_now m)))) (hd := 3) (fo := qm_g_second m1 (ix (qm_g_now m))) (fh := 0) (fa := qm_g_around m) (M := mu m)
        ⟨rfl, q5', by omega, by omega, Or.inl ⟨rfl, rfl, rfl, ok_mono f6 (by omega) (fun _ _ => rfl)⟩⟩ (by omega) (by omega)
      rw [g1, ob_]
      exact ⟨r, m', _, rfl, rfl, g2.ext (Ext.refl e1.symm) k1⟩
    · by_cases k2 : kd (qm_g_now m) = 2
      · have hsb : 0 ≤ wt (qm_g_now m) ∧ wt (qm_g_now m) < 100 := by have := q4; unfold ok prim at this; omega
        have hidx := idx_of (m := m1) q4 hn (by omega)
        have hxv : xw (qm_g_now m) = qm_g_now m := xw_same (by omega)
        have hro : qw_rowOf (xw (qm_g_now m)) = qm_indexOf m1 (qm_g_now m) := i_ext (by rw [hidx, hxv, qw_rowOf_wt (by omega) (by omega)])
        rw [if_neg (mt mk4.mp k4), if_neg (mt (xk4 q4 hn).mp k4), if_pos (mk2.mpr k2), if_pos ((xk2 q4 hn).mpr k2), hro]
        unfold qn_lookUp
        rw [ez2]
        rcases H1.finds hN q5'.1 q5'.2.1 (s := qm_indexOf m1 (qm_g_now m)) (by omega) q5.2.2 with ⟨a, r, v, g1, g2, g3, g4, g5⟩ | ⟨a, v, g1, g2⟩
        · rw [g1, g2, ob_, ob_, if_neg (show ¬ ((1 : Int32), fnd m1 a v).1 = 0 from by show ¬ (1 : Int32) = 0; decide), if_neg (by ((try simp only [Int32.lt_iff_toInt_lt, Int32.le_iff_toInt_le, Int64.lt_iff_toInt_lt, Int64.le_iff_toInt_le, ← Int32.toInt_inj, ← Int64.toInt_inj, Int32.reduceToInt, Int64.reduceToInt] at *); omega)), ob_]
          have hg : qh_boundValueOf (qn_gH z1) r = xw v := g4
          have e2 : mh (fnd m1 a v) = mh m1 := fnd_mh m1 a v
          have e3 : mo (fnd m1 a v) = mo m1 := rfl
          have H2 : HR n K (qn_gH z1) (fnd m1 a v) := H1.of e2
          have R2 := R1.to (z' := z1) H1 (Ext.refl e2.symm) (mr_of_mo e3) rfl
          have hb2 := mub_le H1 H2 (Nat.le_refl _) (kp_mo e3).2.2.2 rfl
          rw [hg]
          exact ⟨0, _, _, rfl, rfl, (R2.give H2 (v := v) g5 (by show (F : Int) + A + 1 ≤ (qm_g_steps m1).toInt; omega) (by omega)).ext ((Ext.refl e1.symm).trans (Ext.refl e2.symm)) ((kp_mo e3).trans k1)⟩
        · rw [g1, g2, ob_, ob_, if_pos (show ((0 : Int32), fnd m1 a v).1 = 0 from rfl), if_pos rfl, ob_]
          have e2 : mh (fnd m1 a v) = mh m1 := fnd_mh m1 a v
          have e3 : mo (fnd m1 a v) = mo m1 := rfl
          have H2 : HR n K (qn_gH z1) (fnd m1 a v) := H1.of e2
          have R2 := R1.to (z' := z1) H1 (Ext.refl e2.symm) (mr_of_mo e3) rfl
          exact ⟨-6, _, _, rfl, rfl, (R2.fail H2 (by decide)).ext ((Ext.refl e1.symm).trans (Ext.refl e2.symm)) ((kp_mo e3).trans k1)⟩
      · rw [if_neg (mt mk4.mp k4), if_neg (mt (xk4 q4 hn).mp k4), if_neg (mt mk2.mp k2), if_neg (mt (xk2 q4 hn).mp k2)]
        exact ⟨0, _, _, rfl, rfl, (R1.give H1 q4 (by omega) (by omega)).ext (Ext.refl e1.symm) k1⟩
end
