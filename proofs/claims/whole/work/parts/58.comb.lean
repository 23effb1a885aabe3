/-! ===== one turn: a combination ===== -/
section
variable {n : Nat} {K : Nat → Nat} {m : qm_S} {z : qn_S} {F A : Nat} {M : Int} {N : Nat}
theorem PC.any (C : PC n K m z F A M) (hN : 5000 ≤ N) {p : Int32} {q : Int} (hp : p.toInt = q) (hq : prim q) (hX : kd (qm_g_operands m) = 4 → mub m + F * 4004 + 4005 ≤ M) : PO N n K m z M p := by
  by_cases hL : ∃ L, lst (qm_g_first m) (qm_g_second m) L (qm_g_operands m)
  · obtain ⟨L, hL⟩ := hL
    have h : q = 0 ∨ q = 1 ∨ q = 2 ∨ q = 3 ∨ q = 4 ∨ q = 5 ∨ q = 6 ∨ q = 7 ∨ q = 10 ∨ q = 11 ∨ q = 12 ∨ q = 13 ∨ q = 14 ∨ q = 15 ∨ q = 16 ∨ q = 17 ∨ q = 18 ∨ q = 19 ∨ q = 20 ∨ q = 21 ∨ q = 22 ∨ q = 23 ∨ q = 24 ∨ q = 25 := by unfold prim at hq; omega
    rcases h with h | h | h | h | h | h | h | h | h | h | h | h | h | h | h | h | h | h | h | h | h | h | h | h
    · have e : p = 0 := i_ext (by rw [hp, h]; decide)
      rw [e]; exact C.p0 hN hX hL
    · have e : p = 1 := i_ext (by rw [hp, h]; decide)
      rw [e]; exact C.p1 hN hL
    · have e : p = 2 := i_ext (by rw [hp, h]; decide)
      rw [e]; exact C.p2 hN hL
    · have e : p = 3 := i_ext (by rw [hp, h]; decide)
      rw [e]; exact C.p3 hN hX hL
    · have e : p = 4 := i_ext (by rw [hp, h]; decide)
      rw [e]; exact C.p4 hN hX hL
    · have e : p = 5 := i_ext (by rw [hp, h]; decide)
      rw [e]; exact C.p5 hN hX hL
    · have e : p = 6 := i_ext (by rw [hp, h]; decide)
      rw [e]; exact C.p6 hN hL
    · have e : p = 7 := i_ext (by rw [hp, h]; decide)
      rw [e]; exact C.p7 hN hL
    · have e : p = 10 := i_ext (by rw [hp, h]; decide)
      rw [e]; exact C.p10 hN hL
    · have e : p = 11 := i_ext (by rw [hp, h]; decide)
      rw [e]; exact C.p11 hN hL
    · have e : p = 12 := i_ext (by rw [hp, h]; decide)
      rw [e]; exact C.p12 hN hL
    · have e : p = 13 := i_ext (by rw [hp, h]; decide)
      rw [e]; exact C.p13 hN hL
    · have e : p = 14 := i_ext (by rw [hp, h]; decide)
      rw [e]; exact C.p14 hN hL
    · have e : p = 15 := i_ext (by rw [hp, h]; decide)
      rw [e]; exact C.p15 hN hL
    · have e : p = 16 := i_ext (by rw [hp, h]; decide)
      rw [e]; exact C.p16 hN hL
    · have e : p = 17 := i_ext (by rw [hp, h]; decide)
      rw [e]; exact C.p17 hN hL
    · have e : p = 18 := i_ext (by rw [hp, h]; decide)
      rw [e]; exact C.p18 hN hL
    · have e : p = 19 := i_ext (by rw [hp, h]; decide)
      rw [e]; exact C.p19 hN hL
    · have e : p = 20 := i_ext (by rw [hp, h]; decide)
      rw [e]; exact C.p20 hN hL
    · have e : p = 21 := i_ext (by rw [hp, h]; decide)
      rw [e]; exact C.p21 hN hL
    · have e : p = 22 := i_ext (by rw [hp, h]; decide)
      rw [e]; exact C.p22 hN hL
    · have e : p = 23 := i_ext (by rw [hp, h]; decide)
      rw [e]; exact C.p23 hN hL
    · have e : p = 24 := i_ext (by rw [hp, h]; decide)
      rw [e]; exact C.p24 hN hX hL
    · have e : p = 25 := i_ext (by rw [hp, h]; decide)
      rw [e]; exact C.p25 hN hL
  · exact C.none hN (by unfold prim at hq; omega) (fun L h => hL ⟨L, h⟩)
theorem SC.turn (H : HR n K (qn_gH z) m) (S : SC n K m z) {N : Nat} (hN : 5000 ≤ N) :
    ∃ r m' z', qm_combinesOne N m = some (r, m') ∧ 
      ((qn_combineCurrent N z = some z' ∧ Out n K m (mu m) m' z' r) ∨ ∃ z1, qn_combineCurrent N z = some z1 ∧ qn_g_mode z1 = 2 ∧ qn_callPrimitive N z1 (qw_rowOf (qn_g_current z1)) = some z' ∧ Out n K m (mu m - 1) m' z' r) := by
  obtain ⟨F, A, R, hs, q1, q2, ⟨q3, q4⟩, q5, q6, q7⟩ := S
  have hn := H.hn
  have hst : (qm_g_steps m).toInt ≤ 1500 := by have := R.2.2.2; omega
  have hmu : mu m = mub m + (F : Int) * 4004 + cw (qm_g_now m) (qm_g_operands m) := by unfold mu; rw [if_neg (by rw [q1]; decide), if_pos q1, R.1.1]; omega
  have hcw := cw_b q4 hn (qm_g_operands m)
  unfold qm_combinesOne qn_combineCurrent
  by_cases k6 : kd (qm_g_now m) = 6
  · rw [if_pos (mk6.mpr k6), q3, if_pos ((xk6 q4 hn).mpr k6)]
    obtain ⟨u1, u2, u3, u4, u5, u6⟩ := H.und q4 (Nat.le_refl _) k6
    have hd : dep (undr m (qm_g_now m)) < dep (qm_g_now m) := by
      unfold dep
      rw [if_pos k6]
      by_cases hw : wt (qm_g_now m) < 0
      · rw [if_pos hw, if_neg (by rw [u6 hw]; decide)]; decide
      · rw [if_neg hw]
        by_cases k : kd (undr m (qm_g_now m)) = 6
        · rw [if_pos k]
          by_cases hw2 : wt (undr m (qm_g_now m)) < 0
          · rw [if_pos hw2]; omega
          · have := ok_obj (u5 (by omega)).1 (by omega) (by omega) (by omega)
            have h3 := ok_obj q4 (by omega) (by omega) (by omega)
            rw [if_neg hw2]; omega
        · rw [if_neg k]; omega
    unfold qn_combineApplicative
    rw [q6, q3, u2]
    rcases H.long hN q7 with ⟨L, h1, h2, h3, h4⟩ | ⟨h1, h2, h3⟩
    · have hl : (nI L.length).toInt = L.length := nI_int (by omega)
      obtain ⟨r, m', z', g1, g2, g3⟩ := R.goesOn H hN (app := qm_g_now m) (rest := qm_g_operands m) (arn := qm_g_around m) (x7 := qm_g_resultMany m) (g := 0) (M := mu m) (Nat.le_refl A) (by omega) q4 k6 q7 ⟨L, h1⟩ q5 R.2.2.1.1 (by simp only [Int32.reduceToInt]; omega) hs (fun e _ => by unfold cw at hmu; rw [if_pos e] at hmu; omega) (fun _ e => absurd rfl e) (fun e => by unfold cw at hmu; rw [if_neg (by omega)] at hmu; omega)
      rw [h3, h4, ob_, ob_, if_pos (by ((try simp only [Int32.lt_iff_toInt_lt, Int32.le_iff_toInt_le, Int64.lt_iff_toInt_lt, Int64.le_iff_toInt_le, ← Int32.toInt_inj, ← Int64.toInt_inj, Int32.reduceToInt, Int64.reduceToInt] at *); omega)), if_neg (fun e => by rw [e] at hl; simp only [Int32.reduceToInt] at hl; omega), g1, g2, ob_, ob_, ob_]
      exact ⟨r, m', z', rfl, Or.inl ⟨rfl, g3⟩⟩
    · rw [h2, h3, ob_, ob_, if_neg (by decide), if_pos rfl, ob_]
      exact ⟨-8, m, _, rfl, Or.inl ⟨rfl, R.fail H (by decide)⟩⟩
  · by_cases k5 : kd (qm_g_now m) = 5
    · have hd : dep (qm_g_now m) = 1 := by unfold dep; rw [if_neg k6]
      have hb := (ok_b q4 hn).2.2.2.1 (by omega) (by omega)
      have hrow := xw_row q4 hn (by omega) (by omega)
      have hrb := row_b hb.1 hb.2
      rw [if_neg (mt mk6.mp k6), if_pos (mk5.mpr k5), q3, if_neg (mt (xk6 q4 hn).mp k6), if_pos ((xk5 q4 hn).mpr k5)]
      have hwi := qm_whatOf_wt (qm_g_now m)
      by_cases hw : wt (qm_g_now m) < 0
      · have hpr : prim (-1 - wt (qm_g_now m)) := by have := q4; unfold ok prim at this; unfold prim; omega
        have hidx := idx_of (m := m) q4 hn (by omega)
        have hp : ((-1 : Int32) - qm_indexOf m (qm_g_now m)).toInt = -1 - wt (qm_g_now m) := by rw [i_sub] <;> simp only [Int32.reduceToInt] <;> omega
        generalize (-1 : Int32) - qm_indexOf m (qm_g_now m) = p at hp ⊢
        have hpe : qw_rowOf (xw (qm_g_now m)) = p := i_ext (by rw [hp, hrow]; omega)
        have hip : ¬ qh_isPrimitive (qw_rowOf (xw (qm_g_now m))) = 0 := by
          unfold qh_isPrimitive
          rw [if_neg (by ((try simp only [Int32.lt_iff_toInt_lt, Int32.le_iff_toInt_le, Int64.lt_iff_toInt_lt, Int64.le_iff_toInt_le, ← Int32.toInt_inj, ← Int64.toInt_inj, Int32.reduceToInt, Int64.reduceToInt] at *); omega))]
          decide
        have C : PC n K m (qn_s_mode z 2) F A (mu m - 1) := by
          refine ⟨by simp only [gf_s_count, gf_s_most, gf_t_tasks, gf_t_environments, gf_t_rests, gf_t_helds, gf_t_gathereds, gn_s_argumentCount, gn_s_mode, gn_s_current, gn_s_operands, gn_s_environment, gn_s_steps, gn_s_limit, gn_s_failure, gn_t_arguments, gn_F, gn_T, gn_H, gm_s_values, gm_s_present, gm_s_limit, gm_s_steps, gm_s_mostFrames, gm_s_mode, gm_s_now, gm_s_operands, gm_s_around, gm_s_frames, gm_s_resultMany, gm_t_stack, gm_t_frameKind, gm_t_frameOne, gm_t_frameOther, gm_t_frameAround, gm_t_frameBase, gm_t_results]; exact H, R.to H (Ext.refl rfl) rfl (by unfold nr; simp only [gf_s_count, gf_s_most, gf_t_tasks, gf_t_environments, gf_t_rests, gf_t_helds, gf_t_gathereds, gn_s_argumentCount, gn_s_mode, gn_s_current, gn_s_operands, gn_s_environment, gn_s_steps, gn_s_limit, gn_s_failure, gn_t_arguments, gn_F, gn_T, gn_H, gm_s_values, gm_s_present, gm_s_limit, gm_s_steps, gm_s_mostFrames, gm_s_mode, gm_s_now, gm_s_operands, gm_s_around, gm_s_frames, gm_s_resultMany, gm_t_stack, gm_t_frameKind, gm_t_frameOne, gm_t_frameOther, gm_t_frameAround, gm_t_frameBase, gm_t_results]), ⟨by simp only [gf_s_count, gf_s_most, gf_t_tasks, gf_t_environments, gf_t_rests, gf_t_helds, gf_t_gathereds, gn_s_argumentCount, gn_s_mode, gn_s_current, gn_s_operands, gn_s_environment, gn_s_steps, gn_s_limit, gn_s_failure, gn_t_arguments, gn_F, gn_T, gn_H, gm_s_values, gm_s_present, gm_s_limit, gm_s_steps, gm_s_mostFrames, gm_s_mode, gm_s_now, gm_s_operands, gm_s_around, gm_s_frames, gm_s_resultMany, gm_t_stack, gm_t_frameKind, gm_t_frameOne, gm_t_frameOther, gm_t_frameAround, gm_t_frameBase, gm_t_results]; exact q6, q7⟩, by simp only [gf_s_count, gf_s_most, gf_t_tasks, gf_t_environments, gf_t_rests, gf_t_helds, gf_t_gathereds, gn_s_argumentCount, gn_s_mode, gn_s_current, gn_s_operands, gn_s_environment, gn_s_steps, gn_s_limit, gn_s_failure, gn_t_arguments, gn_F, gn_T, gn_H, gm_s_values, gm_s_present, gm_s_limit, gm_s_steps, gm_s_mostFrames, gm_s_mode, gm_s_now, gm_s_operands, gm_s_around, gm_s_frames, gm_s_resultMany, gm_t_stack, gm_t_frameKind, gm_t_frameOne, gm_t_frameOther, gm_t_frameAround, gm_t_frameBase, gm_t_results]; exact q5, hs, by omega⟩
        obtain ⟨r, m', z', g1, g2, g3⟩ := C.any hN hp hpr (fun e => by unfold cw at hmu; rw [if_neg (by omega)] at hmu; omega)
        rw [if_pos (show qm_whatOf (qm_g_now m) < 0 by ((try simp only [Int32.lt_iff_toInt_lt, Int32.le_iff_toInt_le, Int64.lt_iff_toInt_lt, Int64.le_iff_toInt_le, ← Int32.toInt_inj, ← Int64.toInt_inj, Int32.reduceToInt, Int64.reduceToInt] at *); omega)), if_neg hip, g1, ob_]
        refine ⟨r, m', z', rfl, Or.inr ⟨_, rfl, by simp only [gf_s_count, gf_s_most, gf_t_tasks, gf_t_environments, gf_t_rests, gf_t_helds, gf_t_gathereds, gn_s_argumentCount, gn_s_mode, gn_s_current, gn_s_operands, gn_s_environment, gn_s_steps, gn_s_limit, gn_s_failure, gn_t_arguments, gn_F, gn_T, gn_H, gm_s_values, gm_s_present, gm_s_limit, gm_s_steps, gm_s_mostFrames, gm_s_mode, gm_s_now, gm_s_operands, gm_s_around, gm_s_frames, gm_s_resultMany, gm_t_stack, gm_t_frameKind, gm_t_frameOne, gm_t_frameOther, gm_t_frameAround, gm_t_frameBase, gm_t_results], ?_, ?_⟩⟩
        · rw [show qn_g_current (qn_s_mode z 2) = xw (qm_g_now m) by simp only [gf_s_count, gf_s_most, gf_t_tasks, gf_t_environments, gf_t_rests, gf_t_helds, gf_t_gathereds, gn_s_argumentCount, gn_s_mode, gn_s_current, gn_s_operands, gn_s_environment, gn_s_steps, gn_s_limit, gn_s_failure, gn_t_arguments, gn_F, gn_T, gn_H, gm_s_values, gm_s_present, gm_s_limit, gm_s_steps, gm_s_mostFrames, gm_s_mode, gm_s_now, gm_s_operands, gm_s_around, gm_s_frames, gm_s_resultMany, gm_t_stack, gm_t_frameKind, gm_t_frameOne, gm_t_frameOther, gm_t_frameAround, gm_t_frameBase, gm_t_results]; exact q3, hpe]
          exact g2
        · obtain ⟨n', K', w1, w2, w3, w4⟩ := g3
          exact ⟨n', K', w1, w2, w3, w4⟩
      · have hip : qh_isPrimitive (qw_rowOf (xw (qm_g_now m))) = 0 := by
          unfold qh_isPrimitive
          rw [if_pos (by ((try simp only [Int32.lt_iff_toInt_lt, Int32.le_iff_toInt_le, Int64.lt_iff_toInt_lt, Int64.le_iff_toInt_le, ← Int32.toInt_inj, ← Int64.toInt_inj, Int32.reduceToInt, Int64.reduceToInt] at *); omega))]
        obtain ⟨r, m', z', g1, g2, g3⟩ := SC.compound H R hs ⟨q3, q4⟩ q5 q6 q7 hN k5 (by omega) (M := mu m) (by omega)
        rw [q3] at g2
        rw [if_neg (show ¬ qm_whatOf (qm_g_now m) < 0 by ((try simp only [Int32.lt_iff_toInt_lt, Int32.le_iff_toInt_le, Int64.lt_iff_toInt_lt, Int64.le_iff_toInt_le, ← Int32.toInt_inj, ← Int64.toInt_inj, Int32.reduceToInt, Int64.reduceToInt] at *); omega)), if_pos hip, g1, g2, ob_, ob_]
        exact ⟨r, m', z', rfl, Or.inl ⟨rfl, g3⟩⟩
    · rw [if_neg (mt mk6.mp k6), if_neg (mt mk5.mp k5), q3, if_neg (mt (xk6 q4 hn).mp k6), if_neg (mt (xk5 q4 hn).mp k5)]
      exact ⟨-7, m, _, rfl, Or.inl ⟨rfl, R.fail H (by decide)⟩⟩
end
