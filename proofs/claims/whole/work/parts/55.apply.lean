/-! ===== environment, apply ===== -/
section
variable {n : Nat} {K : Nat → Nat} {m : qm_S} {z : qn_S} {F A : Nat} {M : Int} {N : Nat}
/-- a new environment, given back -/
theorem PC.env (C : PC n K m z F A M) {p : Int64} (hp : p = -1 ∨ (ok n K p ∧ kd p = 7)) {x : Int32} (hx : x.toInt = pa p) (c : Int32) (hc : (c = 1 ∧ qm_carOf m (qm_g_operands m) = some p) ∨ (c ≠ 1 ∧ p = -1)) :
    ∃ r m', qm_createsEnvironment_B29 m c = some (r, m') ∧ Out n K m M m' (qn_makeEnvironment z x) r := by
  obtain ⟨H, R, ⟨o1, o2⟩, he, hs, hM⟩ := id C
  have hn := H.hn
  unfold qm_createsEnvironment_B29 qn_makeEnvironment qh_addEnvironment
  by_cases h4 : n < 4000
  · obtain ⟨n1, n2, n3⟩ := ok_new (n := n) (k := 7) (K := K) (by decide) h4
    obtain ⟨a2, a3⟩ := H.newEnv h4 hp hx
    rw [if_pos (H.nf h4), H.add_ok h4]
    unfold qn_giveBackNew
    rw [if_neg (row_ne H), H.made h4 (c := 7) (by decide) (by decide)]
    rcases hc with ⟨c1, c2⟩ | ⟨c1, rfl⟩
    · rw [if_pos c1, c2, ob_, H.env_ok h4, ob_]
      exact ⟨0, _, rfl, C.give a2 a3 (menv_mo m _).1 n1⟩
    · rw [if_neg c1, H.env_ok h4, ob_]
      exact ⟨0, _, rfl, C.give a2 a3 (menv_mo m _).1 n1⟩
  · have h4' : n = 4000 := by omega
    rw [if_neg (by rw [H.fl h4']; decide), H.add_full h4']
    unfold qn_giveBackNew
    rw [if_pos rfl]
    exact ⟨-5, _, rfl, MR.fail (R.to (z' := qn_sH z (qn_gH z)) H (Ext.refl rfl) rfl (by unfold nr; simp only [gf_s_count, gf_s_most, gf_t_tasks, gf_t_environments, gf_t_rests, gf_t_helds, gf_t_gathereds, gn_s_argumentCount, gn_s_mode, gn_s_current, gn_s_operands, gn_s_environment, gn_s_steps, gn_s_limit, gn_s_failure, gn_t_arguments, gn_F, gn_T, gn_H, gm_s_values, gm_s_present, gm_s_limit, gm_s_steps, gm_s_mostFrames, gm_s_mode, gm_s_now, gm_s_operands, gm_s_around, gm_s_frames, gm_s_resultMany, gm_t_stack, gm_t_frameKind, gm_t_frameOne, gm_t_frameOther, gm_t_frameAround, gm_t_frameBase, gm_t_results])) H (by decide)⟩
theorem PC.p23 (C : PC n K m z F A M) (hN : 5000 ≤ N) {L : List Int64} (hL : lst (qm_g_first m) (qm_g_second m) L (qm_g_operands m)) : PO N n K m z M 23 := by
  obtain ⟨H, R, ⟨o1, o2⟩, he, hs, hM⟩ := id C
  have hn := H.hn
  obtain ⟨c1, c2, c3⟩ := C.cnt hN hL
  have ci := nI_int c1
  have hm : qm_combinesPrimitive N m 23 = (qm_createsEnvironment m (nI L.length)).bind fun r => some (r.1, r.2) := by
    unfold qm_combinesPrimitive
    rw [c2, ob_, if_pos (by ((try simp only [Int32.lt_iff_toInt_lt, Int32.le_iff_toInt_le, Int64.lt_iff_toInt_lt, Int64.le_iff_toInt_le, ← Int32.toInt_inj, ← Int64.toInt_inj, Int32.reduceToInt, Int64.reduceToInt] at *); omega)), if_pos (by decide), if_neg (show ¬ (23 : Int32) = 10 by decide), if_neg (show ¬ (23 : Int32) = 11 by decide), if_pos rfl]
  unfold qm_createsEnvironment at hm
  have hx := C.due hN hL (p := 23) (o := -1) (by decide) (by decide) (Or.inr rfl)
  unfold qn_haveDueKinds at hx
  rw [if_neg (show ¬ (23 : Int32) = 1 by decide), if_neg (show ¬ (23 : Int32) = 2 by decide), if_neg (show ¬ (23 : Int32) = 3 by decide), if_neg (show ¬ (23 : Int32) = 4 by decide), if_neg (show ¬ (23 : Int32) = 5 by decide), if_neg (show ¬ (23 : Int32) = 6 by decide), if_neg (show ¬ (23 : Int32) = 7 by decide), if_neg (show ¬ (23 : Int32) = 8 by decide), if_neg (show ¬ (23 : Int32) = 9 by decide), if_neg (show ¬ (23 : Int32) = 10 by decide), if_neg (show ¬ (23 : Int32) = 11 by decide), if_neg (show ¬ (23 : Int32) = 12 by decide), if_neg (show ¬ (23 : Int32) = 13 by decide), if_neg (show ¬ (23 : Int32) = 14 by decide), if_neg (show ¬ (23 : Int32) = 15 by decide), if_neg (show ¬ (23 : Int32) = 16 by decide), if_neg (show ¬ (23 : Int32) = 17 by decide), if_neg (show ¬ (23 : Int32) = 18 by decide), if_neg (show ¬ (23 : Int32) = 19 by decide), if_neg (show ¬ (23 : Int32) = 20 by decide), if_neg (show ¬ (23 : Int32) = 21 by decide), if_neg (show ¬ (23 : Int32) = 22 by decide), if_pos rfl] at hx
  have hcall : ∀ r : Int32, qn_callScopeFunction N z 23 r = if r = 0 then some (qn_makeEnvironment z (-1)) else (qn_operand N z 0).bind fun r14 => some (qn_makeEnvironment z (qw_rowOf r14)) := fun r => by
    unfold qn_callScopeFunction
    rw [if_neg (show ¬ (23 : Int32) = 20 by decide), if_neg (show ¬ (23 : Int32) = 21 by decide), if_neg (show ¬ (23 : Int32) = 22 by decide), if_pos rfl]
  by_cases h0 : L.length = 0
  · have e0 : nI L.length = 0 := len_eq c1 (by rw [h0]; rfl)
    rw [e0, if_neg (show ¬ (1 : Int32) < 0 by decide), if_neg (show ¬ (0 : Int32) = 1 by decide)] at hm
    rw [e0, if_pos rfl, ob_, if_neg (show ¬ ((1 : Int32), z).1 = 0 from by show ¬ (1 : Int32) = 0; decide), if_pos (show (10 : Int32) ≤ 23 by decide), if_pos (show (20 : Int32) ≤ 23 by decide), hcall, if_pos rfl, ob_] at hx
    obtain ⟨r, m', g1, g2⟩ := C.env (p := -1) (Or.inl rfl) (x := -1) (by unfold pa; rw [if_pos rfl]; rfl) 0 (Or.inr ⟨by decide, rfl⟩)
    rw [g1, ob_] at hm
    exact ⟨r, m', _, hm, hx, g2⟩
  · have e0 : ¬ nI L.length = 0 := len_ne c1 (by simp only [Int32.reduceToInt]; omega)
    rw [if_neg e0] at hx
    by_cases h1 : L.length = 1
    · have e1 : nI L.length = 1 := len_eq c1 (by rw [h1]; rfl)
      obtain ⟨x1, x2, x3⟩ := C.opx hN hL (j := 0) (x := 0) (by omega) (by decide)
      have hc : qm_carOf m (qm_g_operands m) = some (el L 0) := by
        match L, h1, hL with
        | [a], _, hL =>
          rw [(H.pair o2 (Nat.le_refl _) hL.1).2.2.1, hL.2.1]
          rfl
      rw [e1, if_neg (show ¬ (1 : Int32) < 1 by decide), if_pos rfl, hc, ob_] at hm
      rw [e1, if_pos rfl, C.isop hN hL (j := 0) (x := 0) (by omega) (by decide), ob_] at hx
      by_cases k7 : kd (el L 0) = 7
      · rw [if_pos (mk7.mpr k7)] at hm
        rw [if_pos ((xk7 x1 hn).mpr k7), if_neg (show ¬ (1 : Int32) = 0 by decide), ob_, if_neg (show ¬ ((1 : Int32), z).1 = 0 from by show ¬ (1 : Int32) = 0; decide), if_pos (show (10 : Int32) ≤ 23 by decide), if_pos (show (20 : Int32) ≤ 23 by decide), hcall, if_neg (show ¬ (1 : Int32) = 0 by decide), x3, ob_, ob_] at hx
        obtain ⟨r, m', g1, g2⟩ := C.env (p := el L 0) (Or.inr ⟨x1, k7⟩) (x := qw_rowOf (xw (el L 0))) (by unfold pa; rw [if_neg (ok_ne_m1 x1)]; exact xw_row x1 hn (by omega) (by omega)) 1 (Or.inl ⟨rfl, hc⟩)
        rw [g1, ob_] at hm
        exact ⟨r, m', _, hm, hx, g2⟩
      · rw [if_neg (mt mk7.mp k7), ob_] at hm
        rw [if_neg (mt (xk7 x1 hn).mp k7), if_pos rfl, ob_, if_pos (show ((0 : Int32), z).1 = 0 from rfl)] at hx
        exact ⟨-8, m, _, hm, hx, R.fail H (by decide)⟩
    · have e1 : ¬ nI L.length = 1 := len_ne c1 (by simp only [Int32.reduceToInt]; omega)
      rw [if_pos (show (1 : Int32) < nI L.length by ((try simp only [Int32.lt_iff_toInt_lt, Int32.le_iff_toInt_le, Int64.lt_iff_toInt_lt, Int64.le_iff_toInt_le, ← Int32.toInt_inj, ← Int64.toInt_inj, Int32.reduceToInt, Int64.reduceToInt] at *); omega)), ob_] at hm
      rw [if_neg e1, ob_, if_pos (show ((0 : Int32), z).1 = 0 from rfl)] at hx
      exact ⟨-8, m, _, hm, hx, R.fail H (by decide)⟩
theorem PC.p24 (C : PC n K m z F A M) (hN : 5000 ≤ N) (hX : kd (qm_g_operands m) = 4 → mub m + F * 4004 + 4005 ≤ M) {L : List Int64} (hL : lst (qm_g_first m) (qm_g_second m) L (qm_g_operands m)) : PO N n K m z M 24 := by
  obtain ⟨H, R, ⟨o1, o2⟩, he, hs, hM⟩ := id C
  have hn := H.hn
  have hm := C.two hN hL (p := 24) (by decide)
  by_cases h2 : L.length = 2
  · obtain ⟨x1, x2, x3⟩ := C.opx hN hL (j := 0) (x := 0) (by omega) (by decide)
    obtain ⟨y1, y2, y3⟩ := C.opx hN hL (j := 1) (x := 1) (by omega) (by decide)
    have hB : ∀ (a b : Int64) (c : Int32) (d : Int64), qm_combinesTwo_B41 m 24 a b c d = if (qm_kindOf a) = (6 : Int32) then (if (qm_isFull m) = (0 : Int32) then (qm_underOf m a).bind fun r47 => (qm_addsEnvironment m (-1 : Int64)).bind fun r49 => some ((qm_combines r49.2 r47 b r49.1).1, (qm_combines r49.2 r47 b r49.1).2) else some ((-5 : Int32), m)) else some ((-8 : Int32), m) := fun a b c d => by
      unfold qm_combinesTwo_B41
      rw [if_neg (show ¬ (24 : Int32) = 12 by decide), if_neg (show ¬ (24 : Int32) = 13 by decide), if_neg (show ¬ (24 : Int32) = 14 by decide), if_neg (show ¬ (24 : Int32) = 15 by decide), if_neg (show ¬ (24 : Int32) = 16 by decide), if_neg (show ¬ (24 : Int32) = 17 by decide), if_neg (show ¬ (24 : Int32) = 18 by decide), if_neg (show ¬ (24 : Int32) = 19 by decide), if_neg (show ¬ (24 : Int32) = 20 by decide)]
    unfold qm_combinesTwo qm_combinesTwo_B20 at hm
    simp only [hB, ite_self] at hm
    rw [if_pos h2] at hm
    by_cases k6 : kd (el L 0) = 6
    · have hk : qn_haveDueKinds N z 24 (nI L.length) = some (1, z) := by
        unfold qn_haveDueKinds
        rw [if_neg (show ¬ (24 : Int32) = 1 by decide), if_neg (show ¬ (24 : Int32) = 2 by decide), if_neg (show ¬ (24 : Int32) = 3 by decide), if_neg (show ¬ (24 : Int32) = 4 by decide), if_neg (show ¬ (24 : Int32) = 5 by decide), if_neg (show ¬ (24 : Int32) = 6 by decide), if_neg (show ¬ (24 : Int32) = 7 by decide), if_neg (show ¬ (24 : Int32) = 8 by decide), if_neg (show ¬ (24 : Int32) = 9 by decide), if_neg (show ¬ (24 : Int32) = 10 by decide), if_neg (show ¬ (24 : Int32) = 11 by decide), if_neg (show ¬ (24 : Int32) = 12 by decide), if_neg (show ¬ (24 : Int32) = 13 by decide), if_neg (show ¬ (24 : Int32) = 14 by decide), if_neg (show ¬ (24 : Int32) = 15 by decide), if_neg (show ¬ (24 : Int32) = 16 by decide), if_neg (show ¬ (24 : Int32) = 17 by decide), if_neg (show ¬ (24 : Int32) = 18 by decide), if_neg (show ¬ (24 : Int32) = 19 by decide), if_neg (show ¬ (24 : Int32) = 20 by decide), if_neg (show ¬ (24 : Int32) = 21 by decide), if_neg (show ¬ (24 : Int32) = 22 by decide), if_neg (show ¬ (24 : Int32) = 23 by decide), if_pos rfl, C.isop hN hL (j := 0) (x := 0) (by omega) (by decide), ob_, if_pos ((xk6 x1 hn).mpr k6), bz1]
      have hx := C.scope hN hL (p := 24) (o := 2) (by decide) (by decide) (Or.inl (by rw [h2]; rfl)) hk
      unfold qn_callScopeFunction at hx
      rw [if_neg (show ¬ (24 : Int32) = 20 by decide), if_neg (show ¬ (24 : Int32) = 21 by decide), if_neg (show ¬ (24 : Int32) = 22 by decide), if_neg (show ¬ (24 : Int32) = 23 by decide), if_pos rfl] at hx
      unfold qn_applyWithoutScope qh_addEnvironment at hx
      obtain ⟨u1, u2, u3, u4, u5, u6⟩ := H.und x1 (Nat.le_refl _) k6
      rw [if_pos (mk6.mpr k6)] at hm
      by_cases h4 : n < 4000
      · obtain ⟨n1, n2, n3⟩ := ok_new (n := n) (k := 7) (K := K) (by decide) h4
        obtain ⟨a2, a3⟩ := H.newEnv h4 (p := -1) (Or.inl rfl) (x := -1) (by unfold pa; rw [if_pos rfl]; rfl)
        have hmo := (menv_mo m (-1)).1
        rw [if_pos (H.nf h4), u1, ob_, H.env_ok h4, ob_, ob_] at hm
        rw [H.add_ok h4] at hx
        dsimp only at hx
        rw [if_neg (row_ne H)] at hx
        generalize hadd (qn_gH z) (Int32.toInt64 (-1)) (-1) = h3 at hx a2
        generalize menv m (-1) = m2 at hm a2 a3 hmo
        have hmo2 := hmo
        unfold mo at hmo2
        simp only [Prod.mk.injEq] at hmo2
        have eo : qm_g_operands m2 = qm_g_operands m := hmo2.2.2.2.2.2.2.2.2.1
        have hw : mub m2 + 2 ≤ mub m := by
          have := mub_le H a2 (Nat.le_succ _) hmo2.2.2.2.1 hmo2.2.2.2.2.1
          have : ((n + 1 : Nat) : Int) - n = 1 := by omega
          omega
        have R2 : MR (n + 1) (updK K n 7) m2 (qn_s_environment (qn_sH z h3) (qh_g_nextRow (qn_gH z))) F A A := R.to H a3 (mr_of_mo hmo) (by unfold nr; simp only [gf_s_count, gf_s_most, gf_t_tasks, gf_t_environments, gf_t_rests, gf_t_helds, gf_t_gathereds, gn_s_argumentCount, gn_s_mode, gn_s_current, gn_s_operands, gn_s_environment, gn_s_steps, gn_s_limit, gn_s_failure, gn_t_arguments, gn_F, gn_T, gn_H, gm_s_values, gm_s_present, gm_s_limit, gm_s_steps, gm_s_mostFrames, gm_s_mode, gm_s_now, gm_s_operands, gm_s_around, gm_s_frames, gm_s_resultMany, gm_t_stack, gm_t_frameKind, gm_t_frameOne, gm_t_frameOther, gm_t_frameAround, gm_t_frameBase, gm_t_results])
        have H2 : HR (n + 1) (updK K n 7) (qn_gH (qn_s_environment (qn_sH z h3) (qh_g_nextRow (qn_gH z)))) m2 := by simp only [gf_s_count, gf_s_most, gf_t_tasks, gf_t_environments, gf_t_rests, gf_t_helds, gf_t_gathereds, gn_s_argumentCount, gn_s_mode, gn_s_current, gn_s_operands, gn_s_environment, gn_s_steps, gn_s_limit, gn_s_failure, gn_t_arguments, gn_F, gn_T, gn_H, gm_s_values, gm_s_present, gm_s_limit, gm_s_steps, gm_s_mostFrames, gm_s_mode, gm_s_now, gm_s_operands, gm_s_around, gm_s_frames, gm_s_resultMany, gm_t_stack, gm_t_frameKind, gm_t_frameOne, gm_t_frameOther, gm_t_frameAround, gm_t_frameBase, gm_t_results]; exact a2
        have hop : ∀ (x : Int32) (j : Nat), x.toInt = j → j < L.length → qn_operand N (qn_sH z h3) x = some (xw (el L j)) := by
          intro x j hxj hj
          have hL2 : lst (qm_g_first m2) (qm_g_second m2) L (qm_g_operands m2) := by rw [eo]; exact H.lst_ext a3 L n _ o2 (Nat.le_refl _) hL
          obtain ⟨b, h1, h2', h3', h4'⟩ := a2.elem hN (a3.ok o2) (by rw [← eo]; exact hL2) hj hxj
          have hel : el L j = b := by unfold el; rw [h1]; rfl
          unfold qn_operand
          simp only [gf_s_count, gf_s_most, gf_t_tasks, gf_t_environments, gf_t_rests, gf_t_helds, gf_t_gathereds, gn_s_argumentCount, gn_s_mode, gn_s_current, gn_s_operands, gn_s_environment, gn_s_steps, gn_s_limit, gn_s_failure, gn_t_arguments, gn_F, gn_T, gn_H, gm_s_values, gm_s_present, gm_s_limit, gm_s_steps, gm_s_mostFrames, gm_s_mode, gm_s_now, gm_s_operands, gm_s_around, gm_s_frames, gm_s_resultMany, gm_t_stack, gm_t_frameKind, gm_t_frameOne, gm_t_frameOther, gm_t_frameAround, gm_t_frameBase, gm_t_results]
          rw [o1, h4', ob_, hel]
        have hun : qh_underlyingOf h3 (xw (el L 0)) = xw (undr m (el L 0)) := by
          have := (a2.und (a3.ok x1) (Nat.le_refl _) k6).2.1
          rw [H.undr_ext a3 x1 k6] at this
          exact this
        rw [hop 0 0 (by decide) (by omega), ob_, hop 1 1 (by decide) (by omega), ob_, ob_, ob_, hun] at hx
        have hd := cw_b u3 hn (el L 1)
        have hX2 := hX (match L, h2, hL with | [_, _], _, hL => hL.1)
        have hE : envr (n + 1) (updK K n 7) (qn_g_environment (qn_s_environment (qn_sH z h3) (qh_g_nextRow (qn_gH z)))) (vI 7 n) := by
          simp only [gf_s_count, gf_s_most, gf_t_tasks, gf_t_environments, gf_t_rests, gf_t_helds, gf_t_gathereds, gn_s_argumentCount, gn_s_mode, gn_s_current, gn_s_operands, gn_s_environment, gn_s_steps, gn_s_limit, gn_s_failure, gn_t_arguments, gn_F, gn_T, gn_H, gm_s_values, gm_s_present, gm_s_limit, gm_s_steps, gm_s_mostFrames, gm_s_mode, gm_s_now, gm_s_operands, gm_s_around, gm_s_frames, gm_s_resultMany, gm_t_stack, gm_t_frameKind, gm_t_frameOne, gm_t_frameOther, gm_t_frameAround, gm_t_frameBase, gm_t_results]
          refine ⟨n1, n2, ?_⟩
          rw [n3, H.hr]
          unfold row
          rw [if_neg (by omega)]
        exact ⟨0, _, _, hm, hx, (R2.comb H2 (a3.ok u3) (a3.ok y1) hE (by rw [hmo2.2.2.2.2.1]; exact hs) (by omega)).ext a3 (kp_mo hmo)⟩
      · have h4' : n = 4000 := by omega
        rw [if_neg (by rw [H.fl h4']; decide), ob_] at hm
        rw [H.add_full h4', if_pos rfl, ob_, ob_] at hx
        exact ⟨-5, _, _, hm, hx, MR.fail (R.to (z' := qn_sH z (qn_gH z)) H (Ext.refl rfl) rfl (by unfold nr; simp only [gf_s_count, gf_s_most, gf_t_tasks, gf_t_environments, gf_t_rests, gf_t_helds, gf_t_gathereds, gn_s_argumentCount, gn_s_mode, gn_s_current, gn_s_operands, gn_s_environment, gn_s_steps, gn_s_limit, gn_s_failure, gn_t_arguments, gn_F, gn_T, gn_H, gm_s_values, gm_s_present, gm_s_limit, gm_s_steps, gm_s_mostFrames, gm_s_mode, gm_s_now, gm_s_operands, gm_s_around, gm_s_frames, gm_s_resultMany, gm_t_stack, gm_t_frameKind, gm_t_frameOne, gm_t_frameOther, gm_t_frameAround, gm_t_frameBase, gm_t_results])) H (by decide)⟩
    · have hx := C.due hN hL (p := 24) (o := 2) (by decide) (by decide) (Or.inl (by rw [h2]; rfl))
      unfold qn_haveDueKinds at hx
      rw [if_neg (show ¬ (24 : Int32) = 1 by decide), if_neg (show ¬ (24 : Int32) = 2 by decide), if_neg (show ¬ (24 : Int32) = 3 by decide), if_neg (show ¬ (24 : Int32) = 4 by decide), if_neg (show ¬ (24 : Int32) = 5 by decide), if_neg (show ¬ (24 : Int32) = 6 by decide), if_neg (show ¬ (24 : Int32) = 7 by decide), if_neg (show ¬ (24 : Int32) = 8 by decide), if_neg (show ¬ (24 : Int32) = 9 by decide), if_neg (show ¬ (24 : Int32) = 10 by decide), if_neg (show ¬ (24 : Int32) = 11 by decide), if_neg (show ¬ (24 : Int32) = 12 by decide), if_neg (show ¬ (24 : Int32) = 13 by decide), if_neg (show ¬ (24 : Int32) = 14 by decide), if_neg (show ¬ (24 : Int32) = 15 by decide), if_neg (show ¬ (24 : Int32) = 16 by decide), if_neg (show ¬ (24 : Int32) = 17 by decide), if_neg (show ¬ (24 : Int32) = 18 by decide), if_neg (show ¬ (24 : Int32) = 19 by decide), if_neg (show ¬ (24 : Int32) = 20 by decide), if_neg (show ¬ (24 : Int32) = 21 by decide), if_neg (show ¬ (24 : Int32) = 22 by decide), if_neg (show ¬ (24 : Int32) = 23 by decide), if_pos rfl, C.isop hN hL (j := 0) (x := 0) (by omega) (by decide), ob_, if_neg (mt (xk6 x1 hn).mp k6), ob_, if_pos (show (bz 0, z).1 = 0 from by show bz 0 = 0; decide)] at hx
      rw [if_neg (mt mk6.mp k6), ob_] at hm
      exact ⟨-8, m, _, hm, hx, R.fail H (by decide)⟩
  · rw [if_neg h2] at hm
    exact C.bad hN hL (p := 24) (o := 2) (by decide) (by decide) ⟨by simp only [Int32.reduceToInt]; omega, by decide⟩ hm
end
