/-! ===== vau ===== -/
section
variable {n : Nat} {K : Nat → Nat} {m : qm_S} {z : qn_S} {F A : Nat} {M : Int} {N : Nat}
theorem PC.p1 (C : PC n K m z F A M) (hN : 5000 ≤ N) {L : List Int64} (hL : lst (qm_g_first m) (qm_g_second m) L (qm_g_operands m)) : PO N n K m z M 1 := by
  obtain ⟨H, R, ⟨o1, o2⟩, he, hs, hM⟩ := id C
  have c1 := (C.cnt hN hL).1
  have hn := H.hn
  have hm := C.part hN hL (p := 1) (by decide)
  unfold qm_combinesPart_B56 at hm
  rw [if_neg (show ¬ (1 : Int32) = 0 by decide), if_pos rfl] at hm
  by_cases h0 : L.length = 3
  · rw [if_pos (len_eq c1 (by rw [h0]; rfl))] at hm
    have hx := C.due hN hL (p := 1) (o := 3) (by decide) (by decide) (Or.inl (by rw [h0]; rfl))
    obtain ⟨x1, x2, x3⟩ := C.opx hN hL (j := 0) (x := 0) (by omega) (by decide)
    obtain ⟨m1, t1, s1, th, alt⟩ := H.isTree hN x1 (t := qn_gT z) rfl
    have C1 : PC n K m1 (qn_sT z t1) F A M := C.to s1.1 s1.2.1 (by unfold nr; simp only [gf_s_count, gf_s_most, gf_t_tasks, gf_t_environments, gf_t_rests, gf_t_helds, gf_t_gathereds, gn_s_argumentCount, gn_s_mode, gn_s_current, gn_s_operands, gn_s_environment, gn_s_steps, gn_s_limit, gn_s_failure, gn_t_arguments, gn_F, gn_T, gn_H, gm_s_values, gm_s_present, gm_s_limit, gm_s_steps, gm_s_mostFrames, gm_s_mode, gm_s_now, gm_s_operands, gm_s_around, gm_s_frames, gm_s_resultMany, gm_t_stack, gm_t_frameKind, gm_t_frameOne, gm_t_frameOther, gm_t_frameAround, gm_t_frameBase, gm_t_results]) (by simp only [gf_s_count, gf_s_most, gf_t_tasks, gf_t_environments, gf_t_rests, gf_t_helds, gf_t_gathereds, gn_s_argumentCount, gn_s_mode, gn_s_current, gn_s_operands, gn_s_environment, gn_s_steps, gn_s_limit, gn_s_failure, gn_t_arguments, gn_F, gn_T, gn_H, gm_s_values, gm_s_present, gm_s_limit, gm_s_steps, gm_s_mostFrames, gm_s_mode, gm_s_now, gm_s_operands, gm_s_around, gm_s_frames, gm_s_resultMany, gm_t_stack, gm_t_frameKind, gm_t_frameOne, gm_t_frameOther, gm_t_frameAround, gm_t_frameBase, gm_t_results]; exact th) (by simp only [gf_s_count, gf_s_most, gf_t_tasks, gf_t_environments, gf_t_rests, gf_t_helds, gf_t_gathereds, gn_s_argumentCount, gn_s_mode, gn_s_current, gn_s_operands, gn_s_environment, gn_s_steps, gn_s_limit, gn_s_failure, gn_t_arguments, gn_F, gn_T, gn_H, gm_s_values, gm_s_present, gm_s_limit, gm_s_steps, gm_s_mostFrames, gm_s_mode, gm_s_now, gm_s_operands, gm_s_around, gm_s_frames, gm_s_resultMany, gm_t_stack, gm_t_frameKind, gm_t_frameOne, gm_t_frameOther, gm_t_frameAround, gm_t_frameBase, gm_t_results]) (by simp only [gf_s_count, gf_s_most, gf_t_tasks, gf_t_environments, gf_t_rests, gf_t_helds, gf_t_gathereds, gn_s_argumentCount, gn_s_mode, gn_s_current, gn_s_operands, gn_s_environment, gn_s_steps, gn_s_limit, gn_s_failure, gn_t_arguments, gn_F, gn_T, gn_H, gm_s_values, gm_s_present, gm_s_limit, gm_s_steps, gm_s_mostFrames, gm_s_mode, gm_s_now, gm_s_operands, gm_s_around, gm_s_frames, gm_s_resultMany, gm_t_stack, gm_t_frameKind, gm_t_frameOne, gm_t_frameOther, gm_t_frameAround, gm_t_frameBase, gm_t_results])
    have hf := (mh_all s1.1)
    have eo : qm_g_operands m1 = qm_g_operands m := by
      have := s1.2.1; unfold mo at this; simp only [Prod.mk.injEq] at this; exact this.2.2.2.2.2.2.2.2.1
    have hL1 : lst (qm_g_first m1) (qm_g_second m1) L (qm_g_operands m1) := by rw [hf.1, hf.2.1, eo]; exact hL
    have kk := kp_mo s1.2.1
    have EE : Ext n K m n K m1 := Ext.refl s1.1.symm
    unfold qn_haveDueKinds at hx
    rw [if_pos rfl, x3, ob_] at hx
    unfold qm_makesOperative at hm
    rcases alt with ⟨g1, g2⟩ | ⟨g1, g2, SS, S, g4, g5, g6, g7, g8, d0, p0, g3, g9⟩
    · rw [g1, ob_, if_pos (show ((0 : Int32), m1).1 = 0 from rfl), ob_] at hm
      rw [g2, ob_, if_pos (show ((0 : Int32), t1).1 = 0 from rfl), ob_, if_pos (show ((0 : Int32), qn_sT z t1).1 = 0 from rfl)] at hx
      exact ⟨-8, m1, _, hm, hx, (C1.2.1.fail C1.1 (by decide)).ext EE kk⟩
    · rw [g1, ob_, if_neg (show ¬ ((1 : Int32), m1).1 = 0 from by show ¬ (1 : Int32) = 0; decide)] at hm
      obtain ⟨a1, a2, a3⟩ := C1.opx hN hL1 (j := 0) (x := 0) (by omega) (by decide)
      obtain ⟨y1, y2, y3⟩ := C1.opx hN hL1 (j := 1) (x := 1) (by omega) (by decide)
      obtain ⟨w1, w2, w3⟩ := C1.opx hN hL1 (j := 2) (x := 2) (by omega) (by decide)
      rw [g2, ob_, if_neg (show ¬ ((1 : Int32), t1).1 = 0 from by show ¬ (1 : Int32) = 0; decide), y3, ob_] at hx
      have hS : qn_callSpecial N (qn_sT z t1) 1 = some (qn_makeOperative (qn_sT z t1) (xw (el L 0)) (xw (el L 1)) (xw (el L 2))) := by
        unfold qn_callSpecial
        rw [if_neg (show ¬ (1 : Int32) = 0 by decide), if_pos rfl, a3, ob_, y3, ob_, w3, ob_]
      have htr : (kd (el L 1) = 2 → ix (el L 1) ∉ S) → trok (qm_g_first m1) (qm_g_second m1) (el L 0) (el L 1) := fun hq => by rw [hf.1, hf.2.1]; exact ⟨d0, p0, S, g3, g9, g6, hq⟩
      unfold qn_canNameCaller at hx
      by_cases k8 : kd (el L 1) = 8
      · obtain ⟨r, m', z', v1, v2, v3⟩ := C1.vau (N := N) a1 (htr (fun e => by omega)) y1 (Or.inr k8) w1
        rw [if_pos (mk8.mpr k8), v1, ob_] at hm
        rw [if_pos ((xw_is8 y1 hn).mpr k8), ob_, if_neg (show ¬ (1 : Int32) = 0 by decide), ob_, if_neg (show ¬ ((1 : Int32), qn_sT z t1).1 = 0 from by show ¬ (1 : Int32) = 0; decide), if_neg (show ¬ (10 : Int32) ≤ 1 by decide), hS, ob_, v2] at hx
        exact ⟨r, m', z', hm, hx, v3.ext EE kk⟩
      · rw [if_neg (mt mk8.mp k8)] at hm
        rw [if_neg (mt (xw_is8 y1 hn).mp k8)] at hx
        by_cases k2 : kd (el L 1) = 2
        · have hw : 0 ≤ wt (el L 1) ∧ wt (el L 1) < 100 := by unfold ok prim at y1; omega
          have hidx := idx_of (m := m1) y1 hn (by omega)
          have hxx : xw (el L 1) = el L 1 := xw_same (by omega)
          have hro : (qw_rowOf (xw (el L 1))).toInt = ((ix (el L 1) : Nat) : Int) := by rw [hxx, qw_rowOf_wt (by omega) (by omega)]; unfold ix; omega
          have hci : Int32.toNatClampNeg (qm_indexOf m1 (el L 1)) = ix (el L 1) := by rw [i_clamp, hidx]; rfl
          have hin : inb (qm_indexOf m1 (el L 1)) 100 = true := inb_of (by omega) (by omega)
          have hlS : SS.length ≤ 100 := by
            have h := nodup100 g6 g7
            have e := congrArg List.length g5
            rw [List.length_map] at e
            omega
          have hh := g4.has hlS hN hro
          rw [g5] at hh
          have eT : qn_gT (qn_sT z t1) = t1 := by simp only [gf_s_count, gf_s_most, gf_t_tasks, gf_t_environments, gf_t_rests, gf_t_helds, gf_t_gathereds, gn_s_argumentCount, gn_s_mode, gn_s_current, gn_s_operands, gn_s_environment, gn_s_steps, gn_s_limit, gn_s_failure, gn_t_arguments, gn_F, gn_T, gn_H, gm_s_values, gm_s_present, gm_s_limit, gm_s_steps, gm_s_mostFrames, gm_s_mode, gm_s_now, gm_s_operands, gm_s_around, gm_s_frames, gm_s_resultMany, gm_t_stack, gm_t_frameKind, gm_t_frameOne, gm_t_frameOther, gm_t_frameAround, gm_t_frameBase, gm_t_results]
          rw [if_pos (mk2.mpr k2), if_pos hin, hci, g8 _ (by unfold ix; omega)] at hm
          rw [if_pos ((xk2 y1 hn).mpr k2), eT, hh, ob_] at hx
          by_cases hmem : ix (el L 1) ∈ S
          · rw [if_pos hmem, if_neg (show ¬ (1 : Int32) = 0 by decide), ob_] at hm
            rw [if_pos hmem, if_neg (show ¬ (1 : Int32) = 0 by decide), ob_, if_pos rfl, ob_, if_pos (show ((0 : Int32), qn_sT z t1).1 = 0 from rfl)] at hx
            exact ⟨-8, m1, _, hm, hx, (C1.2.1.fail C1.1 (by decide)).ext EE kk⟩
          · obtain ⟨r, m', z', v1, v2, v3⟩ := C1.vau (N := N) a1 (htr (fun _ => hmem)) y1 (Or.inl k2) w1
            rw [if_neg hmem, if_pos rfl, v1, ob_] at hm
            rw [if_neg hmem, if_pos rfl, ob_, if_neg (show ¬ (1 : Int32) = 0 by decide), ob_, if_neg (show ¬ ((1 : Int32), qn_sT z t1).1 = 0 from by show ¬ (1 : Int32) = 0; decide), if_neg (show ¬ (10 : Int32) ≤ 1 by decide), hS, ob_, v2] at hx
            exact ⟨r, m', z', hm, hx, v3.ext EE kk⟩
        · rw [if_neg (mt mk2.mp k2), ob_] at hm
          rw [if_neg (mt (xk2 y1 hn).mp k2), ob_, if_pos rfl, ob_, if_pos (show ((0 : Int32), qn_sT z t1).1 = 0 from rfl)] at hx
          exact ⟨-8, m1, _, hm, hx, (C1.2.1.fail C1.1 (by decide)).ext EE kk⟩
  · rw [if_neg (len_ne c1 (by simp only [Int32.reduceToInt]; omega)), ob_] at hm
    exact C.bad hN hL (p := 1) (o := 3) (by decide) (by decide) ⟨by simp only [Int32.reduceToInt]; omega, by decide⟩ hm
end
