/-! ===== lambda ===== -/
section
variable {n : Nat} {K : Nat → Nat} {m : qm_S} {z : qn_S} {F A : Nat} {M : Int} {N : Nat}
theorem PC.lam (C : PC n K m z F A M) {t body : Int64} (ht : ok n K t) (htr : trok (qm_g_first m) (qm_g_second m) t 8) (hb : ok n K body) :
    ∃ r m' z', qm_makesOperative_B41 N m t 8 body 1 = some (r, m') ∧ qn_makeFunction z (xw t) (xw body) = z' ∧ Out n K m M m' z' r := by
  obtain ⟨H, R, ⟨o1, o2⟩, he, hs, hM⟩ := id C
  have hn := H.hn
  unfold qm_makesOperative_B41 qn_makeFunction
  by_cases h4 : n < 4000
  · obtain ⟨a1, a2, a3⟩ := H.newOp h4 ht htr (q := 8) ok_inert (Or.inr (by decide)) hb he.1 he.2.1 he.2.2 (s := 127) (by decide)
    have hi : inb (qm_g_objects m) 4000 = true := inb_of (by have := H.ho; omega) (by have := H.ho; omega)
    obtain ⟨n1, n2, n3⟩ := ok_new (n := n) (k := 5) (K := K) (by decide) h4
    have hmo := (mop_mo m t 8 body (qm_g_around m)).1
    generalize (qh_addOperative (qn_gH z) (xw t) 127 (xw body) (qn_g_environment z)).2 = h2 at a1 a2
    rw [if_pos (H.nf h4), if_pos hi, if_pos hi, adds_ok (m := qm_t_fourth (qm_t_third m (qm_g_objects m) body) (qm_g_objects m) (qm_g_around m)) (n := n) H.ho h4 (c := 5) (by decide) (by decide), ob_, if_neg (show ¬ (1 : Int32) = 0 by decide), a1, if_neg (row_ne H), H.made h4 (c := 5) (by decide) (by decide)]
    have e2 : (vI 5 n, madd (qm_t_fourth (qm_t_third m (qm_g_objects m) body) (qm_g_objects m) (qm_g_around m)) t 8) = (vI 5 n, mop m t 8 body (qm_g_around m)) := rfl
    rw [e2]
    generalize mop m t 8 body (qm_g_around m) = m2 at a2 a3 hmo
    unfold qh_addApplicative
    by_cases h5 : n + 1 < 4000
    · obtain ⟨b1, b2⟩ := a2.newApp h5 n1 (Or.inl n2)
      obtain ⟨d1, d2, d3⟩ := ok_new (n := n + 1) (k := 6) (K := updK K n 5) (by decide) h5
      rw [if_pos (a2.nf h5), if_neg (show ¬ (1 : Int32) = 0 by decide), adds_ok (m := m2) a2.ho h5 (c := 6) (by decide) (by decide), ob_]
      refine ⟨0, _, _, rfl, rfl, ?_⟩
      rw [a2.add_ok h5]
      unfold qn_giveBackNew
      rw [if_neg (row_ne a2), a2.made h5 (c := 6) (by decide) (by decide)]
      exact C.give b1 (a3.trans b2) ((madd_mo m2 (vI 5 n) 0).1.trans hmo) d1
    · have h5' : n + 1 = 4000 := by omega
      rw [if_neg (by rw [a2.fl h5']; decide)]
      refine ⟨-5, _, _, rfl, rfl, ?_⟩
      rw [a2.add_full h5']
      unfold qn_giveBackNew
      rw [if_pos rfl]
      exact (MR.fail (r := -5) (M := M) (R.to (z' := qn_sH (qn_sH z h2) h2) H a3 (mr_of_mo hmo) (by unfold nr; simp only [gf_s_count, gf_s_most, gf_t_tasks, gf_t_environments, gf_t_rests, gf_t_helds, gf_t_gathereds, gn_s_argumentCount, gn_s_mode, gn_s_current, gn_s_operands, gn_s_environment, gn_s_steps, gn_s_limit, gn_s_failure, gn_t_arguments, gn_F, gn_T, gn_H, gm_s_values, gm_s_present, gm_s_limit, gm_s_steps, gm_s_mostFrames, gm_s_mode, gm_s_now, gm_s_operands, gm_s_around, gm_s_frames, gm_s_resultMany, gm_t_stack, gm_t_frameKind, gm_t_frameOne, gm_t_frameOther, gm_t_frameAround, gm_t_frameBase, gm_t_results])) (show HR (n + 1) (updK K n 5) (qn_gH (qn_sH (qn_sH z h2) h2)) m2 by simp only [gf_s_count, gf_s_most, gf_t_tasks, gf_t_environments, gf_t_rests, gf_t_helds, gf_t_gathereds, gn_s_argumentCount, gn_s_mode, gn_s_current, gn_s_operands, gn_s_environment, gn_s_steps, gn_s_limit, gn_s_failure, gn_t_arguments, gn_F, gn_T, gn_H, gm_s_values, gm_s_present, gm_s_limit, gm_s_steps, gm_s_mostFrames, gm_s_mode, gm_s_now, gm_s_operands, gm_s_around, gm_s_frames, gm_s_resultMany, gm_t_stack, gm_t_frameKind, gm_t_frameOne, gm_t_frameOther, gm_t_frameAround, gm_t_frameBase, gm_t_results]; exact a2) (by decide)).ext a3 (kp_mo hmo)
  · have h4' : n = 4000 := by omega
    rw [if_neg (by rw [H.fl h4']; decide)]
    refine ⟨-5, _, _, rfl, rfl, ?_⟩
    unfold qh_addOperative
    rw [H.add_full h4', if_pos rfl]
    exact MR.fail (R.to (z' := qn_sH z (qn_gH z)) H (Ext.refl rfl) rfl (by unfold nr; simp only [gf_s_count, gf_s_most, gf_t_tasks, gf_t_environments, gf_t_rests, gf_t_helds, gf_t_gathereds, gn_s_argumentCount, gn_s_mode, gn_s_current, gn_s_operands, gn_s_environment, gn_s_steps, gn_s_limit, gn_s_failure, gn_t_arguments, gn_F, gn_T, gn_H, gm_s_values, gm_s_present, gm_s_limit, gm_s_steps, gm_s_mostFrames, gm_s_mode, gm_s_now, gm_s_operands, gm_s_around, gm_s_frames, gm_s_resultMany, gm_t_stack, gm_t_frameKind, gm_t_frameOne, gm_t_frameOther, gm_t_frameAround, gm_t_frameBase, gm_t_results])) H (by decide)
theorem PC.p2 (C : PC n K m z F A M) (hN : 5000 ≤ N) {L : List Int64} (hL : lst (qm_g_first m) (qm_g_second m) L (qm_g_operands m)) : PO N n K m z M 2 := by
  obtain ⟨H, R, ⟨o1, o2⟩, he, hs, hM⟩ := id C
  have c1 := (C.cnt hN hL).1
  have hm := C.part hN hL (p := 2) (by decide)
  unfold qm_combinesPart_B56 at hm
  rw [if_neg (show ¬ (2 : Int32) = 0 by decide), if_neg (show ¬ (2 : Int32) = 1 by decide), if_pos rfl] at hm
  by_cases h0 : L.length = 2
  · rw [if_pos (len_eq c1 (by rw [h0]; rfl))] at hm
    have hx := C.due hN hL (p := 2) (o := 2) (by decide) (by decide) (Or.inl (by rw [h0]; rfl))
    obtain ⟨x1, x2, x3⟩ := C.opx hN hL (j := 0) (x := 0) (by omega) (by decide)
    obtain ⟨m1, t1, s1, th, alt⟩ := H.isTree hN x1 (t := qn_gT z) rfl
    have C1 : PC n K m1 (qn_sT z t1) F A M := C.to s1.1 s1.2.1 (by unfold nr; simp only [gf_s_count, gf_s_most, gf_t_tasks, gf_t_environments, gf_t_rests, gf_t_helds, gf_t_gathereds, gn_s_argumentCount, gn_s_mode, gn_s_current, gn_s_operands, gn_s_environment, gn_s_steps, gn_s_limit, gn_s_failure, gn_t_arguments, gn_F, gn_T, gn_H, gm_s_values, gm_s_present, gm_s_limit, gm_s_steps, gm_s_mostFrames, gm_s_mode, gm_s_now, gm_s_operands, gm_s_around, gm_s_frames, gm_s_resultMany, gm_t_stack, gm_t_frameKind, gm_t_frameOne, gm_t_frameOther, gm_t_frameAround, gm_t_frameBase, gm_t_results]) (by simp only [gf_s_count, gf_s_most, gf_t_tasks, gf_t_environments, gf_t_rests, gf_t_helds, gf_t_gathereds, gn_s_argumentCount, gn_s_mode, gn_s_current, gn_s_operands, gn_s_environment, gn_s_steps, gn_s_limit, gn_s_failure, gn_t_arguments, gn_F, gn_T, gn_H, gm_s_values, gm_s_present, gm_s_limit, gm_s_steps, gm_s_mostFrames, gm_s_mode, gm_s_now, gm_s_operands, gm_s_around, gm_s_frames, gm_s_resultMany, gm_t_stack, gm_t_frameKind, gm_t_frameOne, gm_t_frameOther, gm_t_frameAround, gm_t_frameBase, gm_t_results]; exact th) (by simp only [gf_s_count, gf_s_most, gf_t_tasks, gf_t_environments, gf_t_rests, gf_t_helds, gf_t_gathereds, gn_s_argumentCount, gn_s_mode, gn_s_current, gn_s_operands, gn_s_environment, gn_s_steps, gn_s_limit, gn_s_failure, gn_t_arguments, gn_F, gn_T, gn_H, gm_s_values, gm_s_present, gm_s_limit, gm_s_steps, gm_s_mostFrames, gm_s_mode, gm_s_now, gm_s_operands, gm_s_around, gm_s_frames, gm_s_resultMany, gm_t_stack, gm_t_frameKind, gm_t_frameOne, gm_t_frameOther, gm_t_frameAround, gm_t_frameBase, gm_t_results]) (by simp only [gf_s_count, gf_s_most, gf_t_tasks, gf_t_environments, gf_t_rests, gf_t_helds, gf_t_gathereds, gn_s_argumentCount, gn_s_mode, gn_s_current, gn_s_operands, gn_s_environment, gn_s_steps, gn_s_limit, gn_s_failure, gn_t_arguments, gn_F, gn_T, gn_H, gm_s_values, gm_s_present, gm_s_limit, gm_s_steps, gm_s_mostFrames, gm_s_mode, gm_s_now, gm_s_operands, gm_s_around, gm_s_frames, gm_s_resultMany, gm_t_stack, gm_t_frameKind, gm_t_frameOne, gm_t_frameOther, gm_t_frameAround, gm_t_frameBase, gm_t_results])
    have hf := (mh_all s1.1)
    have eo : qm_g_operands m1 = qm_g_operands m := by
      have := s1.2.1; unfold mo at this; simp only [Prod.mk.injEq] at this; exact this.2.2.2.2.2.2.2.2.1
    have hL1 : lst (qm_g_first m1) (qm_g_second m1) L (qm_g_operands m1) := by rw [hf.1, hf.2.1, eo]; exact hL
    have kk := kp_mo s1.2.1
    have EE : Ext n K m n K m1 := Ext.refl s1.1.symm
    unfold qn_haveDueKinds at hx
    rw [if_neg (show ¬ (2 : Int32) = 1 by decide), if_pos rfl, x3, ob_] at hx
    unfold qm_makesOperative at hm
    rcases alt with ⟨g1, g2⟩ | ⟨g1, g2, SS, S, g4, g5, g6, g7, g8, d0, p0, g3, g9⟩
    · rw [g1, ob_, if_pos (show ((0 : Int32), m1).1 = 0 from rfl), ob_] at hm
      rw [g2, ob_, ob_, if_pos (show (bz 0, qn_sT z t1).1 = 0 from by show bz 0 = 0; decide)] at hx
      exact ⟨-8, m1, _, hm, hx, (C1.2.1.fail C1.1 (by decide)).ext EE kk⟩
    · obtain ⟨a1, a2, a3⟩ := C1.opx hN hL1 (j := 0) (x := 0) (by omega) (by decide)
      obtain ⟨y1, y2, y3⟩ := C1.opx hN hL1 (j := 1) (x := 1) (by omega) (by decide)
      have htr : trok (qm_g_first m1) (qm_g_second m1) (el L 0) 8 := by rw [hf.1, hf.2.1]; exact ⟨d0, p0, S, g3, g9, g6, fun e => absurd e (by decide)⟩
      obtain ⟨r, m', z', v1, v2, v3⟩ := C1.lam (N := N) a1 htr y1
      have hS : qn_callSpecial N (qn_sT z t1) 2 = some (qn_makeFunction (qn_sT z t1) (xw (el L 0)) (xw (el L 1))) := by
        unfold qn_callSpecial
        rw [if_neg (show ¬ (2 : Int32) = 0 by decide), if_neg (show ¬ (2 : Int32) = 1 by decide), if_pos rfl, a3, ob_, y3, ob_]
      rw [g1, ob_, if_neg (show ¬ ((1 : Int32), m1).1 = 0 from by show ¬ (1 : Int32) = 0; decide), if_pos (show qm_kindOf 8 = 8 from mk8.mpr (by decide)), v1, ob_] at hm
      rw [g2, ob_, ob_, if_neg (show ¬ (bz 1, qn_sT z t1).1 = 0 from by show ¬ bz 1 = 0; decide), if_neg (show ¬ (10 : Int32) ≤ 2 by decide), hS, ob_, v2] at hx
      exact ⟨r, m', z', hm, hx, v3.ext EE kk⟩
  · rw [if_neg (len_ne c1 (by simp only [Int32.reduceToInt]; omega)), ob_] at hm
    exact C.bad hN hL (p := 2) (o := 2) (by decide) (by decide) ⟨by simp only [Int32.reduceToInt]; omega, by decide⟩ hm
end
