/-! ===== wrap, list ===== -/
section
variable {n : Nat} {K : Nat → Nat} {m : qm_S} {z : qn_S} {F A : Nat} {M : Int} {N : Nat}
theorem PC.p25 (C : PC n K m z F A M) (hN : 5000 ≤ N) {L : List Int64} (hL : lst (qm_g_first m) (qm_g_second m) L (qm_g_operands m)) : PO N n K m z M 25 := by
  obtain ⟨H, R, ⟨o1, o2⟩, he, hs, hM⟩ := id C
  obtain ⟨c1, c2, c3⟩ := C.cnt hN hL
  have ci := nI_int c1
  have hm : qm_combinesPrimitive N m 25 = some ((qm_gives m (qm_g_operands m)).1, (qm_gives m (qm_g_operands m)).2) := by
    unfold qm_combinesPrimitive
    rw [c2, ob_, if_pos (by ((try simp only [Int32.lt_iff_toInt_lt, Int32.le_iff_toInt_le, Int64.lt_iff_toInt_lt, Int64.le_iff_toInt_le, ← Int32.toInt_inj, ← Int64.toInt_inj, Int32.reduceToInt, Int64.reduceToInt] at *); omega)), if_pos (by decide), if_neg (show ¬ (25 : Int32) = 10 by decide), if_neg (show ¬ (25 : Int32) = 11 by decide), if_neg (show ¬ (25 : Int32) = 23 by decide), if_pos rfl]
  have hk : qn_haveDueKinds N z 25 (nI L.length) = some (1, z) := by unfold qn_haveDueKinds; rw [if_neg (show ¬ (25 : Int32) = 1 by decide), if_neg (show ¬ (25 : Int32) = 2 by decide), if_neg (show ¬ (25 : Int32) = 3 by decide), if_neg (show ¬ (25 : Int32) = 4 by decide), if_neg (show ¬ (25 : Int32) = 5 by decide), if_neg (show ¬ (25 : Int32) = 6 by decide), if_neg (show ¬ (25 : Int32) = 7 by decide), if_neg (show ¬ (25 : Int32) = 8 by decide), if_neg (show ¬ (25 : Int32) = 9 by decide), if_neg (show ¬ (25 : Int32) = 10 by decide), if_neg (show ¬ (25 : Int32) = 11 by decide), if_neg (show ¬ (25 : Int32) = 12 by decide), if_neg (show ¬ (25 : Int32) = 13 by decide), if_neg (show ¬ (25 : Int32) = 14 by decide), if_neg (show ¬ (25 : Int32) = 15 by decide), if_neg (show ¬ (25 : Int32) = 16 by decide), if_neg (show ¬ (25 : Int32) = 17 by decide), if_neg (show ¬ (25 : Int32) = 18 by decide), if_neg (show ¬ (25 : Int32) = 19 by decide), if_neg (show ¬ (25 : Int32) = 20 by decide), if_neg (show ¬ (25 : Int32) = 21 by decide), if_neg (show ¬ (25 : Int32) = 22 by decide), if_neg (show ¬ (25 : Int32) = 23 by decide), if_neg (show ¬ (25 : Int32) = 24 by decide)]
  have hx := C.scope hN hL (p := 25) (o := -1) (by decide) (by decide) (Or.inr rfl) hk
  unfold qn_callScopeFunction at hx
  rw [if_neg (show ¬ (25 : Int32) = 20 by decide), if_neg (show ¬ (25 : Int32) = 21 by decide), if_neg (show ¬ (25 : Int32) = 22 by decide), if_neg (show ¬ (25 : Int32) = 23 by decide), if_neg (show ¬ (25 : Int32) = 24 by decide), if_pos rfl, ob_, o1] at hx
  exact ⟨0, _, _, hm, hx, R.give H o2 hs hM⟩
theorem PC.p21 (C : PC n K m z F A M) (hN : 5000 ≤ N) {L : List Int64} (hL : lst (qm_g_first m) (qm_g_second m) L (qm_g_operands m)) : PO N n K m z M 21 := by
  obtain ⟨H, R, ⟨o1, o2⟩, he, hs, hM⟩ := id C
  have hn := H.hn
  have hm := C.one hN hL (p := 21) (by decide)
  by_cases h1 : L.length = 1
  · obtain ⟨x1, x2, x3⟩ := C.opx hN hL (j := 0) (x := 0) (by omega) (by decide)
    unfold qm_combinesSingle at hm
    rw [if_pos h1, if_neg (show ¬ (21 : Int32) = 16 by decide), if_neg (show ¬ (21 : Int32) = 17 by decide), if_neg (show ¬ (21 : Int32) = 18 by decide), if_neg (show ¬ (21 : Int32) = 19 by decide), if_neg (show ¬ (21 : Int32) = 20 by decide), if_pos rfl] at hm
    by_cases k : kd (el L 0) = 5 ∨ kd (el L 0) = 6
    · have hc : qw_isCombiner (xw (el L 0)) = 1 := by
        unfold qw_isCombiner
        by_cases k5 : kd (el L 0) = 5
        · rw [if_pos ((xk5 x1 hn).mpr k5)]
        · rw [if_neg (mt (xk5 x1 hn).mp k5), if_pos ((xk6 x1 hn).mpr (k.resolve_left k5))]
      have hk : qn_haveDueKinds N z 21 (nI L.length) = some (1, z) := by
        unfold qn_haveDueKinds
        rw [if_neg (show ¬ (21 : Int32) = 1 by decide), if_neg (show ¬ (21 : Int32) = 2 by decide), if_neg (show ¬ (21 : Int32) = 3 by decide), if_neg (show ¬ (21 : Int32) = 4 by decide), if_neg (show ¬ (21 : Int32) = 5 by decide), if_neg (show ¬ (21 : Int32) = 6 by decide), if_neg (show ¬ (21 : Int32) = 7 by decide), if_neg (show ¬ (21 : Int32) = 8 by decide), if_neg (show ¬ (21 : Int32) = 9 by decide), if_neg (show ¬ (21 : Int32) = 10 by decide), if_neg (show ¬ (21 : Int32) = 11 by decide), if_neg (show ¬ (21 : Int32) = 12 by decide), if_neg (show ¬ (21 : Int32) = 13 by decide), if_neg (show ¬ (21 : Int32) = 14 by decide), if_neg (show ¬ (21 : Int32) = 15 by decide), if_neg (show ¬ (21 : Int32) = 16 by decide), if_neg (show ¬ (21 : Int32) = 17 by decide), if_neg (show ¬ (21 : Int32) = 18 by decide), if_neg (show ¬ (21 : Int32) = 19 by decide), if_neg (show ¬ (21 : Int32) = 20 by decide), if_pos rfl, x3, ob_, hc, bz1]
      have hx := C.scope hN hL (p := 21) (o := 1) (by decide) (by decide) (Or.inl (by rw [h1]; rfl)) hk
      unfold qn_callScopeFunction at hx
      rw [if_neg (show ¬ (21 : Int32) = 20 by decide), if_pos rfl, x3, ob_, ob_] at hx
      unfold qh_addApplicative at hx
      have hm2 : qm_combinesPrimitive N m 21 = ((qm_creates m 6 (el L 0) 0).bind fun r => some (r.1, r.2)).bind fun r => some (r.1, r.2) := by
        rw [hm]
        by_cases k5 : kd (el L 0) = 5
        · rw [if_pos (mk5.mpr k5)]
        · rw [if_neg (mt mk5.mp k5), if_pos (mk6.mpr (k.resolve_left k5))]
      unfold qm_creates at hm2
      by_cases h4 : n < 4000
      · obtain ⟨n1, n2, n3⟩ := ok_new (n := n) (k := 6) (K := K) (by decide) h4
        obtain ⟨a2, a3⟩ := H.newApp h4 x1 k
        rw [if_pos (H.nf h4), adds_ok H.ho h4 (c := 6) (by decide) (by decide), ob_, ob_, ob_] at hm2
        rw [H.add_ok h4] at hx
        unfold qn_giveBackNew at hx
        rw [if_neg (row_ne H), H.made h4 (c := 6) (by decide) (by decide)] at hx
        exact ⟨0, _, _, hm2, hx, C.give a2 a3 (madd_mo m _ _).1 n1⟩
      · have h4' : n = 4000 := by omega
        rw [if_neg (by rw [H.fl h4']; decide), ob_, ob_] at hm2
        rw [H.add_full h4'] at hx
        unfold qn_giveBackNew at hx
        rw [if_pos rfl] at hx
        exact ⟨-5, _, _, hm2, hx, MR.fail (R.to (z' := qn_sH z (qn_gH z)) H (Ext.refl rfl) rfl (by unfold nr; simp only [gf_s_count, gf_s_most, gf_t_tasks, gf_t_environments, gf_t_rests, gf_t_helds, gf_t_gathereds, gn_s_argumentCount, gn_s_mode, gn_s_current, gn_s_operands, gn_s_environment, gn_s_steps, gn_s_limit, gn_s_failure, gn_t_arguments, gn_F, gn_T, gn_H, gm_s_values, gm_s_present, gm_s_limit, gm_s_steps, gm_s_mostFrames, gm_s_mode, gm_s_now, gm_s_operands, gm_s_around, gm_s_frames, gm_s_resultMany, gm_t_stack, gm_t_frameKind, gm_t_frameOne, gm_t_frameOther, gm_t_frameAround, gm_t_frameBase, gm_t_results])) H (by decide)⟩
    · have k5 : ¬ kd (el L 0) = 5 := fun e => k (Or.inl e)
      have k6 : ¬ kd (el L 0) = 6 := fun e => k (Or.inr e)
      have hc : qw_isCombiner (xw (el L 0)) = 0 := by
        unfold qw_isCombiner
        rw [if_neg (mt (xk5 x1 hn).mp k5), if_neg (mt (xk6 x1 hn).mp k6)]
      have hx := C.due hN hL (p := 21) (o := 1) (by decide) (by decide) (Or.inl (by rw [h1]; rfl))
      unfold qn_haveDueKinds at hx
      rw [if_neg (show ¬ (21 : Int32) = 1 by decide), if_neg (show ¬ (21 : Int32) = 2 by decide), if_neg (show ¬ (21 : Int32) = 3 by decide), if_neg (show ¬ (21 : Int32) = 4 by decide), if_neg (show ¬ (21 : Int32) = 5 by decide), if_neg (show ¬ (21 : Int32) = 6 by decide), if_neg (show ¬ (21 : Int32) = 7 by decide), if_neg (show ¬ (21 : Int32) = 8 by decide), if_neg (show ¬ (21 : Int32) = 9 by decide), if_neg (show ¬ (21 : Int32) = 10 by decide), if_neg (show ¬ (21 : Int32) = 11 by decide), if_neg (show ¬ (21 : Int32) = 12 by decide), if_neg (show ¬ (21 : Int32) = 13 by decide), if_neg (show ¬ (21 : Int32) = 14 by decide), if_neg (show ¬ (21 : Int32) = 15 by decide), if_neg (show ¬ (21 : Int32) = 16 by decide), if_neg (show ¬ (21 : Int32) = 17 by decide), if_neg (show ¬ (21 : Int32) = 18 by decide), if_neg (show ¬ (21 : Int32) = 19 by decide), if_neg (show ¬ (21 : Int32) = 20 by decide), if_pos rfl, x3, ob_, ob_, hc, if_pos (show (bz 0, z).1 = 0 from by show bz 0 = 0; decide)] at hx
      rw [if_neg (mt mk5.mp k5), if_neg (mt mk6.mp k6), ob_] at hm
      exact ⟨-8, m, _, hm, hx, R.fail H (by decide)⟩
  · rw [if_neg h1] at hm
    exact C.bad hN hL (p := 21) (o := 1) (by decide) (by decide) ⟨by simp only [Int32.reduceToInt]; omega, by decide⟩ hm
end
