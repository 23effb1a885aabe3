/-! ===== reading ===== -/
section
variable {s n : Nat} {K : Nat → Nat} {x : qx_S} {m : qm_S} {N : Nat}
theorem XR.size (X : XR s n K x m) : qx_size x = qm_size m := X.2.1.2.2.1
theorem XR.heapSize (X : XR s n K x m) : qx_heapSize x = qm_heapSize m := by
  have ho := X.1.ho
  have hr := X.1.hr
  have hn := X.1.hn
  unfold qx_heapSize qm_heapSize qh_objectCount
  apply i_ext
  rw [i_sub] <;> simp only [Int32.reduceToInt] <;> omega
theorem XR.latest (X : XR s n K x m) (a : Int32) : qx_latest x a = qm_latest m a := by
  have h1 : qn_stepCount (qx_gN x) = qm_g_steps m := X.2.2.2.2.1
  have h2 : qn_mostFrames (qx_gN x) = qm_g_mostFrames m := X.2.2.2.2.2
  unfold qx_latest qm_latest
  rw [h1, h2]
  by_cases a0 : a = 0
  · rw [if_pos a0, if_pos a0, if_pos a0]
  · rw [if_neg a0, if_neg a0, if_neg a0]
theorem XR.setLimit (X : XR s n K x m) (a : Int32) : GO (qx_setLimit x a) (some ((qm_setLimit m a).1, (qm_setLimit m a).2)) := by
  obtain ⟨X1, X2, X6, ⟨X7, X8, X9⟩, X10⟩ := id X
  unfold qx_setLimit qm_setLimit
  rw [within_i (l := 1) (h := 1500) (by decide) (by decide), X7]
  by_cases h1 : a < 1
  · have : a.toInt < 1 := by ((try simp only [Int32.lt_iff_toInt_lt, Int32.le_iff_toInt_le, Int64.lt_iff_toInt_lt, Int64.le_iff_toInt_le, ← Int32.toInt_inj, ← Int64.toInt_inj, Int32.reduceToInt, Int64.reduceToInt] at *); omega)
    rw [if_pos h1, if_neg (show ¬ (1 ≤ a.toInt ∧ a.toInt ≤ 1500) by omega), if_pos rfl]
    exact X.err _
  · have h1' : ¬ a.toInt < 1 := by ((try simp only [Int32.lt_iff_toInt_lt, Int32.le_iff_toInt_le, Int64.lt_iff_toInt_lt, Int64.le_iff_toInt_le, ← Int32.toInt_inj, ← Int64.toInt_inj, Int32.reduceToInt, Int64.reduceToInt] at *); omega)
    rw [if_neg h1]
    by_cases h2 : a ≤ 1500
    · have h2' : a.toInt ≤ 1500 := by ((try simp only [Int32.lt_iff_toInt_lt, Int32.le_iff_toInt_le, Int64.lt_iff_toInt_lt, Int64.le_iff_toInt_le, ← Int32.toInt_inj, ← Int64.toInt_inj, Int32.reduceToInt, Int64.reduceToInt] at *); omega)
      rw [if_pos h2, if_pos (show 1 ≤ a.toInt ∧ a.toInt ≤ 1500 by omega), if_neg (show ¬ (1 : Int32) = 0 by decide)]
      have e1 : mh (qm_s_limit m a) = mh m := by simp only [gf_s_count, gf_s_most, gf_t_tasks, gf_t_environments, gf_t_rests, gf_t_helds, gf_t_gathereds, gn_s_argumentCount, gn_s_mode, gn_s_current, gn_s_operands, gn_s_environment, gn_s_steps, gn_s_limit, gn_s_failure, gn_t_arguments, gn_F, gn_T, gn_H, gm_s_values, gm_s_present, gm_s_limit, gm_s_steps, gm_s_mostFrames, gm_s_mode, gm_s_now, gm_s_operands, gm_s_around, gm_s_frames, gm_s_resultMany, gm_t_stack, gm_t_frameKind, gm_t_frameOne, gm_t_frameOther, gm_t_frameAround, gm_t_frameBase, gm_t_results]
      have HH : HR n K (qx_gH x) (qm_s_limit m a) := X1.of e1
      refine ⟨_, s, n, K, rfl, ?_⟩
      unfold XR
      simp only [gx_limit, gf_s_count, gf_s_most, gf_t_tasks, gf_t_environments, gf_t_rests, gf_t_helds, gf_t_gathereds, gn_s_argumentCount, gn_s_mode, gn_s_current, gn_s_operands, gn_s_environment, gn_s_steps, gn_s_limit, gn_s_failure, gn_t_arguments, gn_F, gn_T, gn_H, gm_s_values, gm_s_present, gm_s_limit, gm_s_steps, gm_s_mostFrames, gm_s_mode, gm_s_now, gm_s_operands, gm_s_around, gm_s_frames, gm_s_resultMany, gm_t_stack, gm_t_frameKind, gm_t_frameOne, gm_t_frameOther, gm_t_frameAround, gm_t_frameBase, gm_t_results]
      exact ⟨HH, X2, X6, ⟨trivial, by omega, by omega⟩, X10⟩
    · have h2' : ¬ a.toInt ≤ 1500 := by ((try simp only [Int32.lt_iff_toInt_lt, Int32.le_iff_toInt_le, Int64.lt_iff_toInt_lt, Int64.le_iff_toInt_le, ← Int32.toInt_inj, ← Int64.toInt_inj, Int32.reduceToInt, Int64.reduceToInt] at *); omega)
      rw [if_neg h2, if_neg (show ¬ (1 ≤ a.toInt ∧ a.toInt ≤ 1500) by omega), if_pos rfl]
      exact X.err _
/-- another present environment -/
theorem XR.place (X : XR s n K x m) {y : Int32} {e : Int64} (he : envr n K y e) : XR s n K (qx_s_present x y) (qm_s_present m e) := by
  obtain ⟨X1, X2, X6, X7, X10⟩ := X
  have e1 : mh (qm_s_present m e) = mh m := by simp only [gf_s_count, gf_s_most, gf_t_tasks, gf_t_environments, gf_t_rests, gf_t_helds, gf_t_gathereds, gn_s_argumentCount, gn_s_mode, gn_s_current, gn_s_operands, gn_s_environment, gn_s_steps, gn_s_limit, gn_s_failure, gn_t_arguments, gn_F, gn_T, gn_H, gm_s_values, gm_s_present, gm_s_limit, gm_s_steps, gm_s_mostFrames, gm_s_mode, gm_s_now, gm_s_operands, gm_s_around, gm_s_frames, gm_s_resultMany, gm_t_stack, gm_t_frameKind, gm_t_frameOne, gm_t_frameOther, gm_t_frameAround, gm_t_frameBase, gm_t_results]
  have HH : HR n K (qx_gH x) (qm_s_present m e) := X1.of e1
  unfold XR
  simp only [gx_present, gf_s_count, gf_s_most, gf_t_tasks, gf_t_environments, gf_t_rests, gf_t_helds, gf_t_gathereds, gn_s_argumentCount, gn_s_mode, gn_s_current, gn_s_operands, gn_s_environment, gn_s_steps, gn_s_limit, gn_s_failure, gn_t_arguments, gn_F, gn_T, gn_H, gm_s_values, gm_s_present, gm_s_limit, gm_s_steps, gm_s_mostFrames, gm_s_mode, gm_s_now, gm_s_operands, gm_s_around, gm_s_frames, gm_s_resultMany, gm_t_stack, gm_t_frameKind, gm_t_frameOne, gm_t_frameOther, gm_t_frameAround, gm_t_frameBase, gm_t_results]
  exact ⟨HH, X2, he, X7, X10⟩
theorem user_ok : envr n K 1 (-25) := by
  refine ⟨?_, by decide, by decide⟩
  unfold ok
  exact Or.inr (Or.inr (Or.inr (Or.inr (Or.inr (Or.inr (Or.inr (Or.inr (by decide))))))))
theorem XR.useUser (X : XR s n K x m) : GO (qx_useUser x) (some ((qm_useUser m).1, (qm_useUser m).2)) := by
  obtain ⟨X1, X2, ⟨X6, X7, X8⟩, X10⟩ := id X
  have hb := env_b X6 X7
  unfold qx_useUser qm_useUser
  by_cases h : qm_g_present m = -25
  · have hp : qx_g_present x = 1 := i_ext (by rw [X8, h]; decide)
    rw [if_pos h, if_pos hp, if_pos rfl]
    exact ⟨_, s, n, K, rfl, X.place user_ok⟩
  · have hp : ¬ qx_g_present x = 1 := fun e => by
      rw [e] at X8
      refine h ((u25 X7).mpr ?_)
      unfold row at X8
      simp only [Int32.reduceToInt] at X8
      split at X8 <;> omega
    rw [if_neg h, if_neg hp, if_neg (show ¬ (1 : Int32) = 0 by decide)]
    exact ⟨_, s, n, K, rfl, X.place user_ok⟩
theorem XR.useEnvironment (X : XR s n K x m) : GO (qx_useEnvironment x) (qm_useEnvironment m) := by
  obtain ⟨X1, ⟨X2, X3, X4, X5⟩, -⟩ := id X
  have hn := X1.hn
  unfold qx_useEnvironment qm_useEnvironment qx_kindError
  by_cases h0 : s = 0
  · have hd : qx_depthError x 0 = -2 := by
      unfold qx_depthError
      rw [if_pos (show (0 : Int32) ≤ 0 by decide), X4, if_neg (show ¬ (0 : Int32) < qm_g_values m by ((try simp only [Int32.lt_iff_toInt_lt, Int32.le_iff_toInt_le, Int64.lt_iff_toInt_lt, Int64.le_iff_toInt_le, ← Int32.toInt_inj, ← Int64.toInt_inj, Int32.reduceToInt, Int64.reduceToInt] at *); omega))]
    rw [hd, if_neg (show ¬ (-2 : Int32) = 0 by decide), if_neg (show ¬ (-2 : Int32) = 0 by decide), if_pos (show qm_g_values m = 0 by ((try simp only [Int32.lt_iff_toInt_lt, Int32.le_iff_toInt_le, Int64.lt_iff_toInt_lt, Int64.le_iff_toInt_le, ← Int32.toInt_inj, ← Int64.toInt_inj, Int32.reduceToInt, Int64.reduceToInt] at *); omega))]
    exact X.err _
  · have hd : qx_depthError x 0 = 0 := by
      unfold qx_depthError
      rw [if_pos (show (0 : Int32) ≤ 0 by decide), X4, if_pos (show (0 : Int32) < qm_g_values m by ((try simp only [Int32.lt_iff_toInt_lt, Int32.le_iff_toInt_le, Int64.lt_iff_toInt_lt, Int64.le_iff_toInt_le, ← Int32.toInt_inj, ← Int64.toInt_inj, Int32.reduceToInt, Int64.reduceToInt] at *); omega))]
    obtain ⟨w, w1, w2, w3⟩ := X.at (a := 0) (d := 0) (by decide) (by omega)
    rw [hd, if_pos rfl, if_neg (show ¬ qm_g_values m = 0 by ((try simp only [Int32.lt_iff_toInt_lt, Int32.le_iff_toInt_le, Int64.lt_iff_toInt_lt, Int64.le_iff_toInt_le, ← Int32.toInt_inj, ← Int64.toInt_inj, Int32.reduceToInt, Int64.reduceToInt] at *); omega)), w1, w2, ob_]
    by_cases k7 : kd w = 7
    · have hs2 : (qm_g_values m - 1).toInt = ((s - 1 : Nat) : Int) := by rw [i_sub] <;> simp only [Int32.reduceToInt] <;> omega
      rw [if_pos (mk7.mpr k7), if_pos ((xk7 w3 hn).mpr k7), if_pos rfl, ob_, X4]
      exact ⟨_, s - 1, n, K, rfl, (X.place ⟨w3, k7, xw_row w3 hn (by omega) (by omega)⟩).less (by omega) hs2⟩
    · rw [if_neg (mt mk7.mp k7), if_neg (mt (xk7 w3 hn).mp k7), if_neg (show ¬ (-4 : Int32) = 0 by decide)]
      exact X.err _
theorem XR.kind (X : XR s n K x m) (a : Int32) : qm_kind m a = some (qx_kind x a) := by
  have hn := X.1.hn
  unfold qm_kind qx_kind
  rcases X.bar a with ⟨h1, h2, -⟩ | ⟨h1, h2, -⟩ | ⟨d, hd, ha, h1, h2⟩
  · rw [h1, h2, if_neg (by decide), if_neg (by decide)]
  · rw [h1, h2, if_neg (by decide), if_neg (by decide)]
  · obtain ⟨w, w1, w2, w3⟩ := X.at ha hd
    rw [h1, h2, if_pos (by decide), if_pos rfl, w1, w2, ob_, qm_kindOf_kd, qw_kindOf_kd, xw_kd w3 hn]
theorem XR.value (X : XR s n K x m) (a : Int32) : qm_value m a = some (qx_value x a) := by
  have hn := X.1.hn
  unfold qm_value qx_value qm_lost
  rcases X.bar a with ⟨h1, h2, -⟩ | ⟨h1, h2, -⟩ | ⟨d, hd, ha, h1, h2⟩
  · rw [h1, h2, if_pos (by decide), if_neg (by decide)]
  · rw [h1, h2, if_pos (by decide), if_neg (by decide)]
  · obtain ⟨w, w1, w2, w3⟩ := X.at ha hd
    rw [h1, h2, if_neg (show ¬ (0 : Int32) < 0 by decide), if_pos rfl, w1, w2, ob_, ob_]
    have hk : (qm_kindOf w).toInt = kd w := by rw [qm_kindOf_kd]; exact nI_toInt (by have := kd_lt w; omega)
    by_cases k : kd w ≤ 2
    · have hx : xw w = w := xw_same (by omega)
      rw [if_pos (show qm_kindOf w ≤ 2 by ((try simp only [Int32.lt_iff_toInt_lt, Int32.le_iff_toInt_le, Int64.lt_iff_toInt_lt, Int64.le_iff_toInt_le, ← Int32.toInt_inj, ← Int64.toInt_inj, Int32.reduceToInt, Int64.reduceToInt] at *); omega)), hx, if_neg (show ¬ (1 : Int32) = 0 by decide)]
      have e : qm_whatOf w = qw_contentOf w := rfl
      rw [e]
      by_cases k0 : kd w = 0
      · rw [if_pos (wk0.mpr k0)]
      · rw [if_neg (mt wk0.mp k0)]
        by_cases k1 : kd w = 1
        · rw [if_pos (wk1.mpr k1)]
        · rw [if_neg (mt wk1.mp k1), if_pos (wk2.mpr (by omega))]
    · rw [if_neg (show ¬ qm_kindOf w ≤ 2 by ((try simp only [Int32.lt_iff_toInt_lt, Int32.le_iff_toInt_le, Int64.lt_iff_toInt_lt, Int64.le_iff_toInt_le, ← Int32.toInt_inj, ← Int64.toInt_inj, Int32.reduceToInt, Int64.reduceToInt] at *); omega)), if_neg (mt (xk0 w3 hn).mp (by omega)), if_neg (mt (xk1 w3 hn).mp (by omega)), if_neg (mt (xk2 w3 hn).mp (by omega)), if_pos rfl]
theorem XR.areSame (X : XR s n K x m) (a b : Int32) : qm_areSame m a b = some (qx_areSame x a b) := by
  obtain ⟨X1, ⟨X2, X3, X4, X5⟩, -⟩ := id X
  have hn := X1.hn
  unfold qm_areSame qx_areSame
  rw [X4]
  by_cases h1 : a < 0
  · rw [if_pos h1, if_pos h1]
  · rw [if_neg h1, if_neg h1]
    by_cases h2 : (0 : Int32) ≤ b
    · rw [if_pos h2, if_pos h2]
      by_cases h3 : qm_g_values m ≤ a
      · rw [if_pos h3, if_pos h3]
      · rw [if_neg h3, if_neg h3]
        by_cases h4 : b < qm_g_values m
        · have g1 : ¬ a.toInt < 0 := by ((try simp only [Int32.lt_iff_toInt_lt, Int32.le_iff_toInt_le, Int64.lt_iff_toInt_lt, Int64.le_iff_toInt_le, ← Int32.toInt_inj, ← Int64.toInt_inj, Int32.reduceToInt, Int64.reduceToInt] at *); omega)
          have g2 : 0 ≤ b.toInt := by ((try simp only [Int32.lt_iff_toInt_lt, Int32.le_iff_toInt_le, Int64.lt_iff_toInt_lt, Int64.le_iff_toInt_le, ← Int32.toInt_inj, ← Int64.toInt_inj, Int32.reduceToInt, Int64.reduceToInt] at *); omega)
          have g3 : a.toInt < s := by ((try simp only [Int32.lt_iff_toInt_lt, Int32.le_iff_toInt_le, Int64.lt_iff_toInt_lt, Int64.le_iff_toInt_le, ← Int32.toInt_inj, ← Int64.toInt_inj, Int32.reduceToInt, Int64.reduceToInt] at *); omega)
          have g4 : b.toInt < s := by ((try simp only [Int32.lt_iff_toInt_lt, Int32.le_iff_toInt_le, Int64.lt_iff_toInt_lt, Int64.le_iff_toInt_le, ← Int32.toInt_inj, ← Int64.toInt_inj, Int32.reduceToInt, Int64.reduceToInt] at *); omega)
          obtain ⟨u, u1, u2, u3⟩ := X.at (a := a) (d := a.toInt.toNat) (by omega) (by omega)
          obtain ⟨v, v1, v2, v3⟩ := X.at (a := b) (d := b.toInt.toNat) (by omega) (by omega)
          rw [if_pos h4, if_pos h4, u1, v1, u2, v2, ob_, ob_]
          by_cases huv : u = v
          · rw [if_pos huv, if_pos ((xw_inj u3 v3 hn).mpr huv)]
          · rw [if_neg huv, if_neg (mt (xw_inj u3 v3 hn).mp huv)]
        · rw [if_neg h4, if_neg h4]
    · rw [if_neg h2, if_neg h2]
theorem XR.length (X : XR s n K x m) (hN : 5000 ≤ N) (a : Int32) : ∃ v, qx_length N x a = some v ∧ qm_length N m a = some v := by
  have hn := X.1.hn
  unfold qm_length qx_length
  rcases X.bar a with ⟨h1, h2, -⟩ | ⟨h1, h2, -⟩ | ⟨d, hd, ha, h1, h2⟩
  · rw [h1, h2, if_neg (by decide), if_neg (by decide)]; exact ⟨_, rfl, rfl⟩
  · rw [h1, h2, if_neg (by decide), if_neg (by decide)]; exact ⟨_, rfl, rfl⟩
  · obtain ⟨w, w1, w2, w3⟩ := X.at ha hd
    rw [h1, h2, if_pos (show (0 : Int32) ≤ 0 by decide), if_pos rfl, w1, w2, ob_]
    rcases X.1.long hN w3 with ⟨L, g1, g2, g3, g4⟩ | ⟨g1, g2, g3⟩
    · have hl : (nI L.length).toInt = L.length := nI_int (by omega)
      have hne : ¬ nI L.length = -1 := fun e => by rw [e] at hl; simp only [Int32.reduceToInt] at hl; omega
      rw [g3, g4, ob_, ob_, if_pos (show (0 : Int32) ≤ nI L.length by ((try simp only [Int32.lt_iff_toInt_lt, Int32.le_iff_toInt_le, Int64.lt_iff_toInt_lt, Int64.le_iff_toInt_le, ← Int32.toInt_inj, ← Int64.toInt_inj, Int32.reduceToInt, Int64.reduceToInt] at *); omega)), if_neg hne]
      exact ⟨_, rfl, rfl⟩
    · rw [g2, g3, ob_, ob_, if_neg (show ¬ (0 : Int32) ≤ -1 by decide), if_pos rfl]
      exact ⟨_, rfl, rfl⟩
end
