/-! ===== same, cons ===== -/
section
variable {n : Nat} {K : Nat → Nat} {m : qm_S} {z : qn_S} {F A : Nat} {M : Int} {N : Nat}
theorem PC.p14 (C : PC n K m z F A M) (hN : 5000 ≤ N) {L : List Int64} (hL : lst (qm_g_first m) (qm_g_second m) L (qm_g_operands m)) : PO N n K m z M 14 := by
  obtain ⟨H, R, ⟨o1, o2⟩, he, hs, hM⟩ := id C
  have hn := H.hn
  have hm := C.two hN hL (p := 14) (by decide)
  by_cases h2 : L.length = 2
  · have hk : qn_haveDueKinds N z 14 (nI L.length) = some (1, z) := by unfold qn_haveDueKinds; rw [if_neg (show ¬ (14 : Int32) = 1 by decide), if_neg (show ¬ (14 : Int32) = 2 by decide), if_neg (show ¬ (14 : Int32) = 3 by decide), if_neg (show ¬ (14 : Int32) = 4 by decide), if_neg (show ¬ (14 : Int32) = 5 by decide), if_neg (show ¬ (14 : Int32) = 6 by decide), if_neg (show ¬ (14 : Int32) = 7 by decide), if_neg (show ¬ (14 : Int32) = 8 by decide), if_neg (show ¬ (14 : Int32) = 9 by decide), if_neg (show ¬ (14 : Int32) = 10 by decide), if_neg (show ¬ (14 : Int32) = 11 by decide), if_neg (show ¬ (14 : Int32) = 12 by decide), if_neg (show ¬ (14 : Int32) = 13 by decide), if_pos rfl]
    have hx := C.data hN hL (p := 14) (o := 2) (by decide) (by decide) (Or.inl (by rw [h2]; rfl)) hk
    obtain ⟨x1, x2, x3⟩ := C.opx hN hL (j := 0) (x := 0) (by omega) (by decide)
    obtain ⟨y1, y2, y3⟩ := C.opx hN hL (j := 1) (x := 1) (by omega) (by decide)
    have hB : ∀ (a b : Int64) (c : Int32) (d : Int64), qm_combinesTwo_B41 m 14 a b c d = if a = b then some ((qm_gives m (qm_truth 1)).1, (qm_gives m (qm_truth 1)).2) else some ((qm_gives m (qm_truth 0)).1, (qm_gives m (qm_truth 0)).2) := fun a b c d => by
      unfold qm_combinesTwo_B41
      rw [if_neg (show ¬ (14 : Int32) = 12 by decide), if_neg (show ¬ (14 : Int32) = 13 by decide), if_pos rfl]
    unfold qm_combinesTwo qm_combinesTwo_B20 at hm
    simp only [hB, ite_self] at hm
    unfold qn_callDataFunction at hx
    rw [if_pos h2] at hm
    rw [if_neg (show ¬ (14 : Int32) = 10 by decide), if_neg (show ¬ (14 : Int32) = 11 by decide), if_neg (show ¬ (14 : Int32) = 12 by decide), if_neg (show ¬ (14 : Int32) = 13 by decide), if_pos rfl, x3, ob_, y3, ob_] at hx
    by_cases hab : el L 0 = el L 1
    · rw [if_pos hab, ob_] at hm
      rw [if_pos ((xw_inj x1 y1 hn).mpr hab), ob_, ← (tru1 (n := n) (K := K)).2] at hx
      exact ⟨0, _, _, hm, hx, R.give H tru1.1 hs hM⟩
    · rw [if_neg hab, ob_] at hm
      rw [if_neg (mt (xw_inj x1 y1 hn).mp hab), ob_, ← (tru0 (n := n) (K := K)).2] at hx
      exact ⟨0, _, _, hm, hx, R.give H tru0.1 hs hM⟩
  · rw [if_neg h2] at hm
    exact C.bad hN hL (p := 14) (o := 2) (by decide) (by decide) ⟨by simp only [Int32.reduceToInt]; omega, by decide⟩ hm
theorem PC.p15 (C : PC n K m z F A M) (hN : 5000 ≤ N) {L : List Int64} (hL : lst (qm_g_first m) (qm_g_second m) L (qm_g_operands m)) : PO N n K m z M 15 := by
  obtain ⟨H, R, ⟨o1, o2⟩, he, hs, hM⟩ := id C
  have hn := H.hn
  have hm := C.two hN hL (p := 15) (by decide)
  by_cases h2 : L.length = 2
  · have hk : qn_haveDueKinds N z 15 (nI L.length) = some (1, z) := by unfold qn_haveDueKinds; rw [if_neg (show ¬ (15 : Int32) = 1 by decide), if_neg (show ¬ (15 : Int32) = 2 by decide), if_neg (show ¬ (15 : Int32) = 3 by decide), if_neg (show ¬ (15 : Int32) = 4 by decide), if_neg (show ¬ (15 : Int32) = 5 by decide), if_neg (show ¬ (15 : Int32) = 6 by decide), if_neg (show ¬ (15 : Int32) = 7 by decide), if_neg (show ¬ (15 : Int32) = 8 by decide), if_neg (show ¬ (15 : Int32) = 9 by decide), if_neg (show ¬ (15 : Int32) = 10 by decide), if_neg (show ¬ (15 : Int32) = 11 by decide), if_neg (show ¬ (15 : Int32) = 12 by decide), if_neg (show ¬ (15 : Int32) = 13 by decide), if_neg (show ¬ (15 : Int32) = 14 by decide), if_pos rfl]
    have hx := C.data hN hL (p := 15) (o := 2) (by decide) (by decide) (Or.inl (by rw [h2]; rfl)) hk
    obtain ⟨x1, x2, x3⟩ := C.opx hN hL (j := 0) (x := 0) (by omega) (by decide)
    obtain ⟨y1, y2, y3⟩ := C.opx hN hL (j := 1) (x := 1) (by omega) (by decide)
    have hB : ∀ (a b : Int64) (c : Int32) (d : Int64), qm_combinesTwo_B41 m 15 a b c d = (qm_creates m 4 a b).bind fun r13 => some (r13.1, r13.2) := fun a b c d => by
      unfold qm_combinesTwo_B41
      rw [if_neg (show ¬ (15 : Int32) = 12 by decide), if_neg (show ¬ (15 : Int32) = 13 by decide), if_neg (show ¬ (15 : Int32) = 14 by decide), if_pos rfl]
    unfold qm_combinesTwo qm_combinesTwo_B20 at hm
    simp only [hB, ite_self] at hm
    unfold qm_creates at hm
    unfold qn_callDataFunction at hx
    rw [if_pos h2] at hm
    rw [if_neg (show ¬ (15 : Int32) = 10 by decide), if_neg (show ¬ (15 : Int32) = 11 by decide), if_neg (show ¬ (15 : Int32) = 12 by decide), if_neg (show ¬ (15 : Int32) = 13 by decide), if_neg (show ¬ (15 : Int32) = 14 by decide), if_pos rfl, x3, ob_, y3, ob_, ob_] at hx
    unfold qh_addPair at hx
    by_cases h4 : n < 4000
    · obtain ⟨n1, n2, n3⟩ := ok_new (n := n) (k := 4) (K := K) (by decide) h4
      obtain ⟨a2, a3⟩ := H.newPair h4 x1 y1
      rw [if_pos (H.nf h4), adds_ok H.ho h4 (c := 4) (by decide) (by decide), ob_, ob_, ob_] at hm
      rw [H.add_ok h4] at hx
      unfold qn_giveBackNew at hx
      rw [if_neg (row_ne H), H.made h4 (c := 4) (by decide) (by decide)] at hx
      exact ⟨0, _, _, hm, hx, C.give a2 a3 (madd_mo m _ _).1 n1⟩
    · have h4' : n = 4000 := by omega
      rw [if_neg (by rw [H.fl h4']; decide), ob_, ob_] at hm
      rw [H.add_full h4'] at hx
      unfold qn_giveBackNew at hx
      rw [if_pos rfl] at hx
      exact ⟨-5, _, _, hm, hx, MR.fail (R.to (z' := qn_sH z (qn_gH z)) H (Ext.refl rfl) rfl (by unfold nr; simp only [gf_s_count, gf_s_most, gf_t_tasks, gf_t_environments, gf_t_rests, gf_t_helds, gf_t_gathereds, gn_s_argumentCount, gn_s_mode, gn_s_current, gn_s_operands, gn_s_environment, gn_s_steps, gn_s_limit, gn_s_failure, gn_t_arguments, gn_F, gn_T, gn_H, gm_s_values, gm_s_present, gm_s_limit, gm_s_steps, gm_s_mostFrames, gm_s_mode, gm_s_now, gm_s_operands, gm_s_around, gm_s_frames, gm_s_resultMany, gm_t_stack, gm_t_frameKind, gm_t_frameOne, gm_t_frameOther, gm_t_frameAround, gm_t_frameBase, gm_t_results])) H (by decide)⟩
  · rw [if_neg h2] at hm
    exact C.bad hN hL (p := 15) (o := 2) (by decide) (by decide) ⟨by simp only [Int32.reduceToInt]; omega, by decide⟩ hm
end
