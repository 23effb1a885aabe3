/-! ===== vau, lambda ===== -/
section
variable {n : Nat} {K : Nat → Nat} {m m' : qm_S} {z z' : qn_S} {F A : Nat} {M : Int} {N : Nat}
theorem PC.to (C : PC n K m z F A M) (e1 : mh m' = mh m) (e2 : mo m' = mo m) (ez : nr z' = nr z) (eh : qn_gH z' = qn_gH z) (eo : qn_g_operands z' = qn_g_operands z) (ee : qn_g_environment z' = qn_g_environment z) : PC n K m' z' F A M := by
  obtain ⟨H, R, ⟨o1, o2⟩, he, hs, hM⟩ := C
  have e3 := e2
  unfold mo at e3
  simp only [Prod.mk.injEq] at e3
  obtain ⟨a1, a2, a3, a4, a5, a6, a7, a8, a9, a10, a11, a12, a13, a14, a15, a16, a17, a18⟩ := e3
  have H2 : HR n K (qn_gH z') m' := by rw [eh]; exact H.of e1
  have hb := mub_le H H2 (Nat.le_refl _) a4 a5
  exact ⟨H2, R.to H (Ext.refl e1.symm) (mr_of_mo e2) ez, ⟨by rw [eo, a9]; exact o1, by rw [a9]; exact o2⟩, by rw [ee, a10]; exact he, by rw [a5]; exact hs, by omega⟩
/-- a new object given back by both -/
theorem PC.give {m0 : qm_S} (C : PC n K m z F A M) {n2 : Nat} {K2 : Nat → Nat} {h2 : qh_S} {v : Int64} (H2 : HR n2 K2 h2 m0) (E2 : Ext n K m n2 K2 m0) (e2 : mo m0 = mo m) (hv : ok n2 K2 v) : Out n K m M (qm_gives m0 v).2 (qn_giveBack (qn_sH z h2) (xw v)) 0 := by
  obtain ⟨H, R, ⟨o1, o2⟩, he, hs, hM⟩ := C
  have e3 := e2
  unfold mo at e3
  simp only [Prod.mk.injEq] at e3
  have R2 := R.to (z' := qn_sH z h2) H E2 (mr_of_mo e2) (by unfold nr; simp only [gf_s_count, gf_s_most, gf_t_tasks, gf_t_environments, gf_t_rests, gf_t_helds, gf_t_gathereds, gn_s_argumentCount, gn_s_mode, gn_s_current, gn_s_operands, gn_s_environment, gn_s_steps, gn_s_limit, gn_s_failure, gn_t_arguments, gn_F, gn_T, gn_H, gm_s_values, gm_s_present, gm_s_limit, gm_s_steps, gm_s_mostFrames, gm_s_mode, gm_s_now, gm_s_operands, gm_s_around, gm_s_frames, gm_s_resultMany, gm_t_stack, gm_t_frameKind, gm_t_frameOne, gm_t_frameOther, gm_t_frameAround, gm_t_frameBase, gm_t_results])
  have H3 : HR n2 K2 (qn_gH (qn_sH z h2)) m0 := by simp only [gf_s_count, gf_s_most, gf_t_tasks, gf_t_environments, gf_t_rests, gf_t_helds, gf_t_gathereds, gn_s_argumentCount, gn_s_mode, gn_s_current, gn_s_operands, gn_s_environment, gn_s_steps, gn_s_limit, gn_s_failure, gn_t_arguments, gn_F, gn_T, gn_H, gm_s_values, gm_s_present, gm_s_limit, gm_s_steps, gm_s_mostFrames, gm_s_mode, gm_s_now, gm_s_operands, gm_s_around, gm_s_frames, gm_s_resultMany, gm_t_stack, gm_t_frameKind, gm_t_frameOne, gm_t_frameOther, gm_t_frameAround, gm_t_frameBase, gm_t_results]; exact H2
  have hb := mub_le H H2 E2.1 e3.2.2.2.1 e3.2.2.2.2.1
  have := E2.1
  exact (R2.give H3 hv (by rw [e3.2.2.2.2.1]; exact hs) (by omega)).ext E2 (kp_mo e2)
theorem row_ne {h : qh_S} (H : HR n K h m) : ¬ qh_g_nextRow h = -1 := fun e => by
  have := H.hr
  rw [e] at this
  simp only [Int32.reduceToInt] at this
  omega
/-- a new operative -/
theorem PC.vau (C : PC n K m z F A M) {t q body : Int64} (ht : ok n K t) (htr : trok (qm_g_first m) (qm_g_second m) t q) (hq : ok n K q) (hqk : kd q = 2 ∨ kd q = 8) (hb : ok n K body) :
    ∃ r m' z', qm_makesOperative_B41 N m t q body 0 = some (r, m') ∧ qn_makeOperative z (xw t) (xw q) (xw body) = z' ∧ Out n K m M m' z' r := by
  obtain ⟨H, R, ⟨o1, o2⟩, he, hs, hM⟩ := id C
  have hn := H.hn
  obtain ⟨sy, hsy, hX⟩ : ∃ sy : Int32, sy.toInt = psym q ∧ qn_makeOperative z (xw t) (xw q) (xw body) = qn_giveBackNew (qn_sH z (qh_addOperative (qn_gH z) (xw t) sy (xw body) (qn_g_environment z)).2) 5 (qh_addOperative (qn_gH z) (xw t) sy (xw body) (qn_g_environment z)).1 := by
    unfold qn_makeOperative
    by_cases k8 : kd q = 8
    · refine ⟨127, ?_, by rw [if_pos ((xw_is8 hq hn).mpr k8)]⟩
      unfold psym
      rw [if_neg (by omega)]
      decide
    · have hx : xw q = q := xw_same (by omega)
      have hw : 0 ≤ wt q ∧ wt q < 100 := by unfold ok prim at hq; omega
      refine ⟨qw_rowOf (xw q), ?_, by rw [if_neg (mt (xw_is8 hq hn).mp k8)]⟩
      unfold psym
      rw [if_pos (by omega), hx, qw_rowOf_wt (by omega) (by omega)]
  rw [hX]
  unfold qm_makesOperative_B41
  by_cases h4 : n < 4000
  · obtain ⟨a1, a2, a3⟩ := H.newOp h4 ht htr hq hqk hb he.1 he.2.1 he.2.2 hsy
    have hi : inb (qm_g_objects m) 4000 = true := inb_of (by have := H.ho; omega) (by have := H.ho; omega)
    obtain ⟨n1, n2, n3⟩ := ok_new (n := n) (k := 5) (K := K) (by decide) h4
    rw [if_pos (H.nf h4), if_pos hi, if_pos hi, adds_ok (m := qm_t_fourth (qm_t_third m (qm_g_objects m) body) (qm_g_objects m) (qm_g_around m)) (n := n) H.ho h4 (c := 5) (by decide) (by decide), ob_, if_pos rfl, if_pos rfl]
    refine ⟨0, _, _, rfl, rfl, ?_⟩
    rw [a1]
    unfold qn_giveBackNew
    rw [if_neg (row_ne H), H.made h4 (c := 5) (by decide) (by decide)]
    exact C.give a2 a3 (mop_mo m t q body (qm_g_around m)).1 n1
  · have h4' : n = 4000 := by omega
    rw [if_neg (by rw [H.fl h4']; decide)]
    refine ⟨-5, _, _, rfl, rfl, ?_⟩
    unfold qh_addOperative
    rw [H.add_full h4']
    unfold qn_giveBackNew
    rw [if_pos rfl]
    exact MR.fail (R.to (z' := qn_sH z (qn_gH z)) H (Ext.refl rfl) rfl (by unfold nr; simp only [gf_s_count, gf_s_most, gf_t_tasks, gf_t_environments, gf_t_rests, gf_t_helds, gf_t_gathereds, gn_s_argumentCount, gn_s_mode, gn_s_current, gn_s_operands, gn_s_environment, gn_s_steps, gn_s_limit, gn_s_failure, gn_t_arguments, gn_F, gn_T, gn_H, gm_s_values, gm_s_present, gm_s_limit, gm_s_steps, gm_s_mostFrames, gm_s_mode, gm_s_now, gm_s_operands, gm_s_around, gm_s_frames, gm_s_resultMany, gm_t_stack, gm_t_frameKind, gm_t_frameOne, gm_t_frameOther, gm_t_frameAround, gm_t_frameBase, gm_t_results])) H (by decide)
end
