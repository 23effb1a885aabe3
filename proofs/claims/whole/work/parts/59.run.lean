/-! ===== the whole run ===== -/
def SS (n : Nat) (K : Nat → Nat) (m : qm_S) (z : qn_S) : Prop := SE n K m z ∨ SC n K m z ∨ SG n K m z
def RES (n : Nat) (K : Nat → Nat) (m : qm_S) (r2 : Int32) (m2 : qm_S) (ans : Int32) (z2 : qn_S) : Prop :=
  ∃ n' K', HR n' K' (qn_gH z2) m2 ∧ Ext n K m n' K' m2 ∧ kp m2 m ∧ qn_g_steps z2 = qm_g_steps m2 ∧ qf_g_most (qn_gF z2) = qm_g_mostFrames m2 ∧
    ((r2 = 0 ∧ ans = qm_g_steps m2 ∧ 0 < (qm_g_steps m2).toInt ∧ curr n' K' m2 z2) ∨ (r2.toInt < 0 ∧ ans = r2))
theorem RES.ext {n n' : Nat} {K K' : Nat → Nat} {m m' m2 : qm_S} {r2 ans : Int32} {z2 : qn_S} (Q : RES n' K' m' r2 m2 ans z2) (E : Ext n K m n' K' m') (k : kp m' m) : RES n K m r2 m2 ans z2 := by
  obtain ⟨n2, K2, h1, h2, h3, h4⟩ := Q
  exact ⟨n2, K2, h1, E.trans h2, h3.trans k, h4⟩
theorem mu_nn {n : Nat} {K : Nat → Nat} {m : qm_S} {z : qn_S} (H : HR n K (qn_gH z) m) (S : SS n K m z) : 0 ≤ mu m ∧ (qm_g_mode m = 1 → 5 ≤ mu m) := by
  have hn := H.hn
  have ho := H.ho
  have hm : ∀ (F A : Nat) (B : Int), MR n K m z F A B → 0 ≤ mub m + (qm_g_frames m).toInt * 4004 := by
    intro F A B R
    obtain ⟨d1, d2, d3, d4, d5, d6⟩ := R.2.2.2
    have := R.1.1
    unfold mub
    omega
  unfold mu
  rcases S with ⟨F, A, R, hs, q1, q2, q3, q4⟩ | ⟨F, A, R, hs, q1, q2, ⟨q3, q4⟩, q5⟩ | ⟨F, A, R, hs, q1, q2, q3⟩
  · have := hm F A _ R
    rw [if_pos q1, if_neg (by rw [q1]; decide)]
    exact ⟨by omega, fun e => absurd (q1.symm.trans e) (by decide)⟩
  · have := hm F A _ R
    have := cw_b q4 hn (qm_g_operands m)
    rw [if_neg (by rw [q1]; decide), if_pos q1]
    exact ⟨by omega, fun _ => by omega⟩
  · have := hm F A _ R
    rw [if_neg (by rw [q1]; decide), if_neg (by rw [q1]; decide)]
    exact ⟨by omega, fun e => absurd (q1.symm.trans e) (by decide)⟩
/-- what a run of less than M further turns of the class does -/
def RUNS (N M : Nat) : Prop := ∀ (n : Nat) (K : Nat → Nat) (m : qm_S) (z : qn_S) (x5 : Int32) (c k k2 : Nat), HR n K (qn_gH z) m → SS n K m z → mu m < M → M < k → M + 2 < k2 → x5.toInt = c → c + M + 2 ≤ 10000000 →
  ∃ r2 m2 ans z2, qm_runs_L2 N k m 0 = some (r2, m2) ∧ qn_run_L23 N k2 z x5 = some (ans, z2) ∧ RES n K m r2 m2 ans z2
/-- after a turn -/
theorem RUNS.after {N M : Nat} (ih : RUNS N M) {n : Nat} {K : Nat → Nat} {m m' : qm_S} {z' : qn_S} {r x5 : Int32} {c k k2 : Nat} {Z : Int} (O : Out n K m Z m' z' r) (hmu : Z ≤ M) (hk : M < k) (hk2 : M + 2 < k2) (hx : x5.toInt = c) (hc : c + M + 2 ≤ 10000000) :
    ∃ r2 m2 ans z2, qm_runs_L2 N k m' r = some (r2, m2) ∧ qn_run_L23 N k2 z' x5 = some (ans, z2) ∧ RES n K m r2 m2 ans z2 := by
  obtain ⟨n', K', H, E, kk, ⟨rfl, h1, S⟩ | ⟨hr, h1, h2, h3, h4, h5⟩⟩ := O
  · obtain ⟨r2, m2, ans, z2, g1, g2, g3⟩ := ih n' K' m' z' x5 c k k2 H S (by omega) hk hk2 hx hc
    exact ⟨r2, m2, ans, z2, g1, g2, g3.ext E kk⟩
  · obtain ⟨k, rfl⟩ : ∃ j, k = j + 1 := ⟨k - 1, by omega⟩
    obtain ⟨k2, rfl⟩ : ∃ j, k2 = j + 1 := ⟨k2 - 1, by omega⟩
    have hr0 : ¬ r = 0 := fun e => by rw [e] at hr; exact absurd hr (by decide)
    rw [qm_runs_L2_s, qn_run_L23_s, if_neg hr0, if_neg (show ¬ (10000000 : Int32) ≤ x5 by ((try simp only [Int32.lt_iff_toInt_lt, Int32.le_iff_toInt_le, Int64.lt_iff_toInt_lt, Int64.le_iff_toInt_le, ← Int32.toInt_inj, ← Int64.toInt_inj, Int32.reduceToInt, Int64.reduceToInt] at *); omega)), if_pos h2, h1, if_neg hr0]
    exact ⟨r, m', r, z', rfl, rfl, n', K', H, E, kk, h3, h4, Or.inr ⟨hr, rfl⟩⟩
theorem runs_all (N : Nat) (hN : 5000 ≤ N) : ∀ M, RUNS N M := by
  intro M
  induction M using Nat.strongRecOn with
  | ind M ihs =>
    intro n K m z x5 c k k2 H S hmu hk hk2 hx hc
    have hnn := mu_nn H S
    obtain ⟨M, rfl⟩ : ∃ j, M = j + 1 := ⟨M - 1, by omega⟩
    have ih : RUNS N M := ihs M (by omega)
    obtain ⟨k, rfl⟩ : ∃ j, k = j + 1 := ⟨k - 1, by omega⟩
    obtain ⟨k2, rfl⟩ : ∃ j, k2 = j + 2 := ⟨k2 - 2, by omega⟩
    have hx1 : (x5 + 1).toInt = ((c + 1 : Nat) : Int) := by rw [i_add] <;> simp only [Int32.reduceToInt] <;> omega
    have hX : ∀ v : Int32, v.toInt = ((c + 1 : Nat) : Int) → ¬ (10000000 : Int32) ≤ v := fun v hv => by ((try simp only [Int32.lt_iff_toInt_lt, Int32.le_iff_toInt_le, Int64.lt_iff_toInt_lt, Int64.le_iff_toInt_le, ← Int32.toInt_inj, ← Int64.toInt_inj, Int32.reduceToInt, Int64.reduceToInt] at *); omega)
    rw [qm_runs_L2_s, qn_run_L23_s, if_pos rfl, if_neg (show ¬ (10000000 : Int32) ≤ x5 by ((try simp only [Int32.lt_iff_toInt_lt, Int32.le_iff_toInt_le, Int64.lt_iff_toInt_lt, Int64.le_iff_toInt_le, ← Int32.toInt_inj, ← Int64.toInt_inj, Int32.reduceToInt, Int64.reduceToInt] at *); omega))]
    rcases S with S | S | S
    · obtain ⟨F, A, R, hs, q1, q2, q3, q4⟩ := id S
      obtain ⟨r, m', z', g1, g2, g3⟩ := S.turn H hN
      rw [q1, q2, if_neg (by decide), if_pos rfl, if_neg (by decide), if_pos rfl, g1, g2, ob_, ob_]
      exact ih.after g3 (by omega) (by omega) (by omega) hx1 (by omega)
    · obtain ⟨F, A, R, hs, q1, q2, q3, q4⟩ := id S
      obtain ⟨r, m', z', g1, g2⟩ := S.turn H hN
      rw [q1, q2, if_neg (by decide), if_neg (by decide), if_pos rfl, if_neg (by decide), if_neg (by decide), if_pos rfl, g1, ob_]
      rcases g2 with ⟨g2, g3⟩ | ⟨z1, g2, g4, g5, g3⟩
      · rw [g2, ob_]
        exact ih.after g3 (by omega) (by omega) (by omega) hx1 (by omega)
      · have hx2 : (x5 + 1 + 1).toInt = ((c + 2 : Nat) : Int) := by rw [i_add, hx1] <;> simp only [Int32.reduceToInt] <;> omega
        rw [g2, ob_, qn_run_L23_s, if_neg (hX _ hx1), g4, if_neg (by decide), if_neg (by decide), if_neg (by decide), if_pos rfl, g5, ob_]
        have h5 := hnn.2 q1
        exact (ihs (M - 1) (by omega)).after g3 (by omega) (by omega) (by omega) hx2 (by omega)
    · obtain ⟨F, A, R, hs, q1, q2, q3⟩ := id S
      by_cases hF : 0 < (qm_g_frames m).toInt
      · obtain ⟨r, m', z', g1, g2, g3⟩ := S.turn H hF hN
        rw [q1, q2, if_pos rfl, if_neg (show ¬ qm_g_frames m ≤ 0 by ((try simp only [Int32.lt_iff_toInt_lt, Int32.le_iff_toInt_le, Int64.lt_iff_toInt_lt, Int64.le_iff_toInt_le, ← Int32.toInt_inj, ← Int64.toInt_inj, Int32.reduceToInt, Int64.reduceToInt] at *); omega)), if_neg (by decide), if_neg (by decide), if_neg (by decide), if_neg (by decide), if_neg (by decide), if_neg (by decide), if_pos rfl, g1, g2, ob_, ob_]
        exact ih.after g3 (by omega) (by omega) (by omega) hx1 (by omega)
      · have hE : qn_returnCurrent N z = some (qn_s_mode z 4) := by
          unfold qn_returnCurrent qf_isEmpty
          have := R.1.2.1
          have := R.1.1
          rw [if_neg (show ¬ (0 : Int32) < qf_g_count (qn_gF z) by ((try simp only [Int32.lt_iff_toInt_lt, Int32.le_iff_toInt_le, Int64.lt_iff_toInt_lt, Int64.le_iff_toInt_le, ← Int32.toInt_inj, ← Int64.toInt_inj, Int32.reduceToInt, Int64.reduceToInt] at *); omega)), if_neg (by decide)]
        have hf : qn_g_failure (qn_s_mode z 4) = 0 := by simp only [gf_s_count, gf_s_most, gf_t_tasks, gf_t_environments, gf_t_rests, gf_t_helds, gf_t_gathereds, gn_s_argumentCount, gn_s_mode, gn_s_current, gn_s_operands, gn_s_environment, gn_s_steps, gn_s_limit, gn_s_failure, gn_t_arguments, gn_F, gn_T, gn_H, gm_s_values, gm_s_present, gm_s_limit, gm_s_steps, gm_s_mostFrames, gm_s_mode, gm_s_now, gm_s_operands, gm_s_around, gm_s_frames, gm_s_resultMany, gm_t_stack, gm_t_frameKind, gm_t_frameOne, gm_t_frameOther, gm_t_frameAround, gm_t_frameBase, gm_t_results]; exact R.2.2.2.2.2.2.2.2
        rw [q1, q2, if_pos rfl, if_pos (show qm_g_frames m ≤ 0 by ((try simp only [Int32.lt_iff_toInt_lt, Int32.le_iff_toInt_le, Int64.lt_iff_toInt_lt, Int64.le_iff_toInt_le, ← Int32.toInt_inj, ← Int64.toInt_inj, Int32.reduceToInt, Int64.reduceToInt] at *); omega)), if_neg (by decide), if_neg (by decide), if_neg (by decide), if_neg (by decide), if_pos rfl, hE, ob_, qn_run_L23_s, if_neg (hX _ hx1), if_pos (show qn_g_mode (qn_s_mode z 4) = 4 by simp only [gf_s_count, gf_s_most, gf_t_tasks, gf_t_environments, gf_t_rests, gf_t_helds, gf_t_gathereds, gn_s_argumentCount, gn_s_mode, gn_s_current, gn_s_operands, gn_s_environment, gn_s_steps, gn_s_limit, gn_s_failure, gn_t_arguments, gn_F, gn_T, gn_H, gm_s_values, gm_s_present, gm_s_limit, gm_s_steps, gm_s_mostFrames, gm_s_mode, gm_s_now, gm_s_operands, gm_s_around, gm_s_frames, gm_s_resultMany, gm_t_stack, gm_t_frameKind, gm_t_frameOne, gm_t_frameOther, gm_t_frameAround, gm_t_frameBase, gm_t_results]), if_pos hf]
        refine ⟨0, m, _, _, rfl, rfl, n, K, ?_, Ext.refl rfl, kp.refl m, ?_, ?_, Or.inl ⟨rfl, ?_, by omega, ?_⟩⟩
        · simp only [gf_s_count, gf_s_most, gf_t_tasks, gf_t_environments, gf_t_rests, gf_t_helds, gf_t_gathereds, gn_s_argumentCount, gn_s_mode, gn_s_current, gn_s_operands, gn_s_environment, gn_s_steps, gn_s_limit, gn_s_failure, gn_t_arguments, gn_F, gn_T, gn_H, gm_s_values, gm_s_present, gm_s_limit, gm_s_steps, gm_s_mostFrames, gm_s_mode, gm_s_now, gm_s_operands, gm_s_around, gm_s_frames, gm_s_resultMany, gm_t_stack, gm_t_frameKind, gm_t_frameOne, gm_t_frameOther, gm_t_frameAround, gm_t_frameBase, gm_t_results]; exact H
        · simp only [gf_s_count, gf_s_most, gf_t_tasks, gf_t_environments, gf_t_rests, gf_t_helds, gf_t_gathereds, gn_s_argumentCount, gn_s_mode, gn_s_current, gn_s_operands, gn_s_environment, gn_s_steps, gn_s_limit, gn_s_failure, gn_t_arguments, gn_F, gn_T, gn_H, gm_s_values, gm_s_present, gm_s_limit, gm_s_steps, gm_s_mostFrames, gm_s_mode, gm_s_now, gm_s_operands, gm_s_around, gm_s_frames, gm_s_resultMany, gm_t_stack, gm_t_frameKind, gm_t_frameOne, gm_t_frameOther, gm_t_frameAround, gm_t_frameBase, gm_t_results]; exact R.2.2.2.1
        · simp only [gf_s_count, gf_s_most, gf_t_tasks, gf_t_environments, gf_t_rests, gf_t_helds, gf_t_gathereds, gn_s_argumentCount, gn_s_mode, gn_s_current, gn_s_operands, gn_s_environment, gn_s_steps, gn_s_limit, gn_s_failure, gn_t_arguments, gn_F, gn_T, gn_H, gm_s_values, gm_s_present, gm_s_limit, gm_s_steps, gm_s_mostFrames, gm_s_mode, gm_s_now, gm_s_operands, gm_s_around, gm_s_frames, gm_s_resultMany, gm_t_stack, gm_t_frameKind, gm_t_frameOne, gm_t_frameOther, gm_t_frameAround, gm_t_frameBase, gm_t_results]; exact R.1.2.2.2.1
        · simp only [gf_s_count, gf_s_most, gf_t_tasks, gf_t_environments, gf_t_rests, gf_t_helds, gf_t_gathereds, gn_s_argumentCount, gn_s_mode, gn_s_current, gn_s_operands, gn_s_environment, gn_s_steps, gn_s_limit, gn_s_failure, gn_t_arguments, gn_F, gn_T, gn_H, gm_s_values, gm_s_present, gm_s_limit, gm_s_steps, gm_s_mostFrames, gm_s_mode, gm_s_now, gm_s_operands, gm_s_around, gm_s_frames, gm_s_resultMany, gm_t_stack, gm_t_frameKind, gm_t_frameOne, gm_t_frameOther, gm_t_frameAround, gm_t_frameBase, gm_t_results]; exact R.2.2.2.1
        · unfold curr; simp only [gf_s_count, gf_s_most, gf_t_tasks, gf_t_environments, gf_t_rests, gf_t_helds, gf_t_gathereds, gn_s_argumentCount, gn_s_mode, gn_s_current, gn_s_operands, gn_s_environment, gn_s_steps, gn_s_limit, gn_s_failure, gn_t_arguments, gn_F, gn_T, gn_H, gm_s_values, gm_s_present, gm_s_limit, gm_s_steps, gm_s_mostFrames, gm_s_mode, gm_s_now, gm_s_operands, gm_s_around, gm_s_frames, gm_s_resultMany, gm_t_stack, gm_t_frameKind, gm_t_frameOne, gm_t_frameOther, gm_t_frameAround, gm_t_frameBase, gm_t_results]; exact q3
