/-! ===== evaluate ===== -/
section
variable {s n : Nat} {K : Nat → Nat} {x : qx_S} {m : qm_S} {N : Nat}
theorem XR.evaluate (X : XR s n K x m) (hN : 60000000 ≤ N) : ∃ p, qx_evaluate N x = some p ∧ GO p (qm_evaluate N m) := by
  obtain ⟨X1, ⟨X2, X3, X4, X5⟩, X6, ⟨X7, X8, X9⟩, X10⟩ := id X
  have hn := X1.hn
  unfold qx_evaluate qm_evaluate
  rw [X4]
  by_cases h0 : s = 0
  · rw [if_neg (show ¬ (1 : Int32) ≤ qm_g_values m by ((try simp only [Int32.lt_iff_toInt_lt, Int32.le_iff_toInt_le, Int64.lt_iff_toInt_lt, Int64.le_iff_toInt_le, ← Int32.toInt_inj, ← Int64.toInt_inj, Int32.reduceToInt, Int64.reduceToInt] at *); omega)), if_pos (show qm_g_values m = 0 by ((try simp only [Int32.lt_iff_toInt_lt, Int32.le_iff_toInt_le, Int64.lt_iff_toInt_lt, Int64.le_iff_toInt_le, ← Int32.toInt_inj, ← Int64.toInt_inj, Int32.reduceToInt, Int64.reduceToInt] at *); omega))]
    exact ⟨_, rfl, X.err _⟩
  · obtain ⟨w, w1, w2, w3⟩ := X.at (a := 0) (d := 0) (by decide) (by omega)
    have hs2 : (qm_g_values m - 1).toInt = ((s - 1 : Nat) : Int) := by rw [i_sub] <;> simp only [Int32.reduceToInt] <;> omega
    have hat : qm_g_stack m (Int32.toNatClampNeg (qm_g_values m - 1)) = w := by
      have e : qm_g_values m - 1 - 0 = qm_g_values m - 1 := i_ext (by rw [i_sub] <;> simp only [Int32.reduceToInt] <;> omega)
      unfold qm_at at w1
      rw [e, if_pos (inb_of (by omega) (by omega))] at w1
      exact Option.some.inj w1
    rw [if_pos (show (1 : Int32) ≤ qm_g_values m by ((try simp only [Int32.lt_iff_toInt_lt, Int32.le_iff_toInt_le, Int64.lt_iff_toInt_lt, Int64.le_iff_toInt_le, ← Int32.toInt_inj, ← Int64.toInt_inj, Int32.reduceToInt, Int64.reduceToInt] at *); omega)), if_neg (show ¬ qm_g_values m = 0 by ((try simp only [Int32.lt_iff_toInt_lt, Int32.le_iff_toInt_le, Int64.lt_iff_toInt_lt, Int64.le_iff_toInt_le, ← Int32.toInt_inj, ← Int64.toInt_inj, Int32.reduceToInt, Int64.reduceToInt] at *); omega)), if_pos (inb_of (by omega) (by omega)), hat, w2]
    unfold qn_run qm_runs
    -- the start
    have XL := X.less (t := s - 1) (by omega) hs2
    generalize hm0 : (qm_goesTo (qm_s_resultMany (qm_s_frames (qm_s_mostFrames (qm_s_steps (qm_s_values m (qm_g_values m - 1)) 0) 0) 0) 0) w (qm_g_present m)).2 = m0
    generalize hz0 : qn_evaluateInTail (qn_s_environment (qn_s_limit (qn_forget (qx_gN x)) (qx_g_limit x)) (qx_g_present x)) (xw w) = z0
    have zs : qn_gH z0 = qx_gH x ∧ qf_g_count (qn_gF z0) = 0 ∧ qf_g_most (qn_gF z0) = 0 ∧ qn_g_argumentCount z0 = 0 ∧ qn_g_mode z0 = 0 ∧ qn_g_current z0 = xw w ∧ qn_g_environment z0 = qx_g_present x ∧ qn_g_steps z0 = 0 ∧ qn_g_limit z0 = qx_g_limit x ∧ qn_g_failure z0 = 0 := by
      rw [← hz0]
      exact ⟨rfl, rfl, rfl, rfl, rfl, rfl, rfl, rfl, rfl, rfl⟩
    have ms : mh m0 = mh m ∧ qm_g_frames m0 = 0 ∧ qm_g_mostFrames m0 = 0 ∧ qm_g_resultMany m0 = 0 ∧ qm_g_mode m0 = 0 ∧ qm_g_now m0 = w ∧ qm_g_around m0 = qm_g_present m ∧ qm_g_steps m0 = 0 ∧ qm_g_limit m0 = qm_g_limit m ∧ qm_g_values m0 = qm_g_values m - 1 ∧ qm_g_stack m0 = qm_g_stack m ∧ qm_g_present m0 = qm_g_present m := by
      rw [← hm0]
      unfold qm_goesTo
      simp only [gf_s_count, gf_s_most, gf_t_tasks, gf_t_environments, gf_t_rests, gf_t_helds, gf_t_gathereds, gn_s_argumentCount, gn_s_mode, gn_s_current, gn_s_operands, gn_s_environment, gn_s_steps, gn_s_limit, gn_s_failure, gn_t_arguments, gn_F, gn_T, gn_H, gm_s_values, gm_s_present, gm_s_limit, gm_s_steps, gm_s_mostFrames, gm_s_mode, gm_s_now, gm_s_operands, gm_s_around, gm_s_frames, gm_s_resultMany, gm_t_stack, gm_t_frameKind, gm_t_frameOne, gm_t_frameOther, gm_t_frameAround, gm_t_frameBase, gm_t_results, and_self]
    clear hm0 hz0
    obtain ⟨z1, z2, z3, z4, z5, z6, z7, z8, z9, z10⟩ := zs
    obtain ⟨m1, m2, m3, m4, m5, m6, m7, m8, m9, m10, m11, m12⟩ := ms
    have H0 : HR n K (qn_gH z0) m0 := by rw [z1]; exact X1.of m1
    have S0 : SS n K m0 z0 := by
      refine Or.inl ⟨0, 0, ?_, ?_, m5, z5, ⟨by rw [z6, m6], by rw [m6]; exact w3⟩, by rw [z7, m7]; exact X6⟩
      · refine ⟨⟨by rw [m2]; decide, by rw [z2]; decide, by omega, by rw [z3, m3], by rw [m3]; decide, by rw [m3]; decide⟩, FR.zero, ⟨by rw [m4]; decide, by rw [z4]; decide, fun j hj => absurd hj (Nat.not_lt_zero _)⟩, by rw [z8, m8], by rw [z9, m9, X7], by rw [m8]; decide, by rw [m8, m9]; show (0 : Int32).toInt ≤ _; rw [show (0 : Int32).toInt = 0 from rfl]; omega, by rw [m9]; omega, z10⟩
      · rw [m8]; decide
    have hmu : mu m0 < ((6020000 : Nat) : Int) := by
      have ho := H0.ho
      unfold mu mub
      rw [if_pos m5, if_neg (by rw [m5]; decide), m2, m8, m9, show (0 : Int32).toInt = 0 from rfl]
      omega
    obtain ⟨r2, m', ans, z', g1, g2, n', K', r1, r3, r4, r5, r6, r7⟩ := runs_all N (by omega) 6020000 n K m0 z0 0 0 N N H0 S0 hmu (by omega) (by omega) (by decide) (by omega)
    rw [g1, g2, ob_, ob_]
    obtain ⟨k1, k2, k3, k4⟩ := r4
    have E : Ext n K m n' K' m' := (Ext.refl m1.symm).trans r3
    have XF : XR (s - 1) n' K' (qx_sN (qx_s_stackSize x (qm_g_values m - 1)) z') m' := by
      unfold XR
      simp only [gx_stackSize, gx_N]
      rw [k1, k2, k3, k4, m9, m10, m11, m12]
      exact ⟨r1, ⟨by omega, hs2, rfl, fun j hj => ⟨(X5 j (by omega)).1, E.ok (X5 j (by omega)).2⟩⟩, envr.ext E X6, ⟨X7, X8, X9⟩, r5, r6⟩
    rcases r7 with ⟨rfl, a1, a2, a3⟩ | ⟨a1, rfl⟩
    · have hans : ¬ ans ≤ 0 := by rw [a1]; ((try simp only [Int32.lt_iff_toInt_lt, Int32.le_iff_toInt_le, Int64.lt_iff_toInt_lt, Int64.le_iff_toInt_le, ← Int32.toInt_inj, ← Int64.toInt_inj, Int32.reduceToInt, Int64.reduceToInt] at *); omega)
      rw [if_neg hans, if_pos (show (0 : Int32) ≤ 0 by decide)]
      dsimp only
      have hnow : qn_answer z' = xw (qm_g_now m') := a3.1
      rw [hnow]
      obtain ⟨mp, sp, np, Kp, p1, p2⟩ := XF.push a3.2
      rw [p1, ob_]
      refine ⟨_, rfl, mp, sp, np, Kp, ?_, p2⟩
      have hst : qm_g_steps mp = qm_g_steps m' := by
        unfold qm_pushes at p1
        split at p1
        · have e : m' = mp := congrArg Prod.snd (Option.some.inj p1)
          rw [← e]
        · split at p1
          · have e : qm_s_values (qm_t_stack m' (qm_g_values m') (qm_g_now m')) (qm_g_values m' + 1) = mp := congrArg Prod.snd (Option.some.inj p1)
            rw [← e]; simp only [gf_s_count, gf_s_most, gf_t_tasks, gf_t_environments, gf_t_rests, gf_t_helds, gf_t_gathereds, gn_s_argumentCount, gn_s_mode, gn_s_current, gn_s_operands, gn_s_environment, gn_s_steps, gn_s_limit, gn_s_failure, gn_t_arguments, gn_F, gn_T, gn_H, gm_s_values, gm_s_present, gm_s_limit, gm_s_steps, gm_s_mostFrames, gm_s_mode, gm_s_now, gm_s_operands, gm_s_around, gm_s_frames, gm_s_resultMany, gm_t_stack, gm_t_frameKind, gm_t_frameOne, gm_t_frameOther, gm_t_frameAround, gm_t_frameBase, gm_t_results]
          · cases p1
      show some (qm_g_steps mp, mp) = some (ans, mp)
      rw [hst, a1]
    · have hans : ans ≤ 0 := by ((try simp only [Int32.lt_iff_toInt_lt, Int32.le_iff_toInt_le, Int64.lt_iff_toInt_lt, Int64.le_iff_toInt_le, ← Int32.toInt_inj, ← Int64.toInt_inj, Int32.reduceToInt, Int64.reduceToInt] at *); omega)
      rw [if_pos hans, if_neg (show ¬ (0 : Int32) ≤ ans by ((try simp only [Int32.lt_iff_toInt_lt, Int32.le_iff_toInt_le, Int64.lt_iff_toInt_lt, Int64.le_iff_toInt_le, ← Int32.toInt_inj, ← Int64.toInt_inj, Int32.reduceToInt, Int64.reduceToInt] at *); omega))]
      exact ⟨_, rfl, m', s - 1, n', K', rfl, XF⟩
end
