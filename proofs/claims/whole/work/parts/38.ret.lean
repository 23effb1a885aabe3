/-! ===== one turn: a result ===== -/
section
variable {n : Nat} {K : Nat → Nat} {m : qm_S} {z : qn_S} {F A : Nat} {B M : Int}
theorem lst2 {f s : Nat → Int64} {a b r : Int64} (h : lst f s [a, b] r) : kd r = 4 ∧ f (ix r) = a ∧ kd (s (ix r)) = 4 ∧ f (ix (s (ix r))) = b ∧ kd (s (ix (s (ix r)))) = 3 := ⟨h.1, h.2.1, h.2.2.1, h.2.2.2.1, h.2.2.2.2⟩
/-- binding a value, then #inert -/
theorem MR.bind (R : MR n K m z F A A) (H : HR n K (qn_gH z) m) {N : Nat} (hN : 5000 ≤ N) {e v : Int64} {x s : Int32} (he : envr n K x e) (hv : ok n K v) (hs : 0 ≤ s.toInt ∧ s.toInt < 100) (hst : (F : Int) + A + 1 ≤ (qm_g_steps m).toInt) (hM : mub m + F * 4004 + 3 < M) :
    ∃ r m' z', qm_givesBound N m e s v = some (r, m') ∧ ((qh_bind N (qn_gH z) x s (xw v)).bind fun r1 => if r1.1 = (0 : Int32) then some (qn_fail (qn_sH z r1.2) (-5 : Int32)) else some (qn_giveBack (qn_sH z r1.2) (8 : Int64))) = some z' ∧ Out n K m M m' z' r := by
  unfold qm_givesBound
  rcases H.binds hN he.1 he.2.1 hv hs he.2.2 with ⟨n', K', h', m', g1, g2, g3, g4, g5, g6⟩ | ⟨m', g1, g2, g3, g4, g5, g6⟩
  · rw [g1, g2, ob_, ob_, if_neg (show ¬ ((1 : Int32), m').1 = 0 from by show ¬ (1 : Int32) = 0; decide), if_neg (show ¬ ((1 : Int32), h').1 = 0 from by show ¬ (1 : Int32) = 0; decide)]
    have k1 := kp_mo g5
    have k2 : qm_g_steps m' = qm_g_steps m := by have := mr_of_mo g5; unfold mr at this; simp only [Prod.mk.injEq] at this; exact this.2.2.2.2.2.2.2.2.2.1
    have hb := mub_le H g3 g4.1 k1.2.2.2 k2
    have H2 : HR n' K' (qn_gH (qn_sH z h')) m' := by simp only [gf_s_count, gf_s_most, gf_t_tasks, gf_t_environments, gf_t_rests, gf_t_helds, gf_t_gathereds, gn_s_argumentCount, gn_s_mode, gn_s_current, gn_s_operands, gn_s_environment, gn_s_steps, gn_s_limit, gn_s_failure, gn_t_arguments, gn_F, gn_T, gn_H, gm_s_values, gm_s_present, gm_s_limit, gm_s_steps, gm_s_mostFrames, gm_s_mode, gm_s_now, gm_s_operands, gm_s_around, gm_s_frames, gm_s_resultMany, gm_t_stack, gm_t_frameKind, gm_t_frameOne, gm_t_frameOther, gm_t_frameAround, gm_t_frameBase, gm_t_results]; exact g3
    have R2 := R.to (z' := qn_sH z h') H g4 (mr_of_mo g5) (by unfold nr; simp only [gf_s_count, gf_s_most, gf_t_tasks, gf_t_environments, gf_t_rests, gf_t_helds, gf_t_gathereds, gn_s_argumentCount, gn_s_mode, gn_s_current, gn_s_operands, gn_s_environment, gn_s_steps, gn_s_limit, gn_s_failure, gn_t_arguments, gn_F, gn_T, gn_H, gm_s_values, gm_s_present, gm_s_limit, gm_s_steps, gm_s_mostFrames, gm_s_mode, gm_s_now, gm_s_operands, gm_s_around, gm_s_frames, gm_s_resultMany, gm_t_stack, gm_t_frameKind, gm_t_frameOne, gm_t_frameOther, gm_t_frameAround, gm_t_frameBase, gm_t_results])
    have := g4.1
    have O := R2.give H2 (M := M) (v := 8) ok_inert (by rw [k2]; exact hst) (by omega)
    rw [xw8] at O
    exact ⟨0, _, _, rfl, rfl, O.ext g4 k1⟩
  · rw [g1, g2, ob_, ob_, if_pos (show ((0 : Int32), m').1 = 0 from rfl), if_pos (show ((0 : Int32), qn_gH z).1 = 0 from rfl)]
    have R2 := R.to (z' := qn_sH z (qn_gH z)) H (Ext.refl g4.symm) (mr_of_mo g5) (by unfold nr; simp only [gf_s_count, gf_s_most, gf_t_tasks, gf_t_environments, gf_t_rests, gf_t_helds, gf_t_gathereds, gn_s_argumentCount, gn_s_mode, gn_s_current, gn_s_operands, gn_s_environment, gn_s_steps, gn_s_limit, gn_s_failure, gn_t_arguments, gn_F, gn_T, gn_H, gm_s_values, gm_s_present, gm_s_limit, gm_s_steps, gm_s_mostFrames, gm_s_mode, gm_s_now, gm_s_operands, gm_s_around, gm_s_frames, gm_s_resultMany, gm_t_stack, gm_t_frameKind, gm_t_frameOne, gm_t_frameOther, gm_t_frameAround, gm_t_frameBase, gm_t_results])
    have H2 : HR n K (qn_gH (qn_sH z (qn_gH z))) m' := by simp only [gf_s_count, gf_s_most, gf_t_tasks, gf_t_environments, gf_t_rests, gf_t_helds, gf_t_gathereds, gn_s_argumentCount, gn_s_mode, gn_s_current, gn_s_operands, gn_s_environment, gn_s_steps, gn_s_limit, gn_s_failure, gn_t_arguments, gn_F, gn_T, gn_H, gm_s_values, gm_s_present, gm_s_limit, gm_s_steps, gm_s_mostFrames, gm_s_mode, gm_s_now, gm_s_operands, gm_s_around, gm_s_frames, gm_s_resultMany, gm_t_stack, gm_t_frameKind, gm_t_frameOne, gm_t_frameOther, gm_t_frameAround, gm_t_frameBase, gm_t_results]; exact g3
    exact ⟨-5, _, _, rfl, rfl, (R2.fail H2 (by decide)).ext (Ext.refl g4.symm) (kp_mo g5)⟩
/-- a sequence -/
theorem MR.begins (R : MR n K m z F A A) (H : HR n K (qn_gH z) m) {v e : Int64} (hv : ok n K v) (hl : ∃ L, lst (qm_g_first m) (qm_g_second m) L v) (he : envr n K (qn_g_environment z) e) (hs : (F : Int) + A + 1 ≤ (qm_g_steps m).toInt) (hM : mub m + F * 4004 + 3 < M)
    (hX : kd v = 4 → mub m + (F + 1) * 4004 < M) :
    ∃ r m', qm_beginsWith m v e = some (r, m') ∧ Out n K m M m' (qn_evaluateSequence z (xw v)) r := by
  have hn := H.hn
  obtain ⟨L, hl⟩ := hl
  unfold qm_beginsWith qn_evaluateSequence
  cases L with
  | nil =>
    have k3 : kd v = 3 := hl
    rw [if_pos (mk3.mpr k3), if_pos ((xw_is3 hv hn).mpr k3)]
    have O := R.give H (M := M) (v := 8) ok_inert hs hM
    rw [xw8] at O
    exact ⟨0, _, rfl, O⟩
  | cons a L =>
    obtain ⟨k4, hl1, hl2⟩ := hl
    obtain ⟨f1, f2, f3, f4, f5, f6, f7⟩ := H.pair hv (Nat.le_refl _) k4
    have o5 : ok n K (qm_g_first m (ix v)) := ok_mono f5 (by omega) (fun _ _ => rfl)
    have o6 : ok n K (qm_g_second m (ix v)) := ok_mono f6 (by omega) (fun _ _ => rfl)
    rw [if_neg (mt mk3.mp (by omega)), if_neg (mt (xw_is3 hv hn).mp (by omega)), f1, f2, f4, ob_, f3, ob_]
    cases L with
    | nil =>
      have k3 : kd (qm_g_second m (ix v)) = 3 := hl2
      rw [if_pos (mk3.mpr k3), if_pos ((xw_is3 o6 hn).mpr k3)]
      exact ⟨0, _, rfl, R.tail H o5 he (by omega) (by omega)⟩
    | cons b L =>
      have k4' : kd (qm_g_second m (ix v)) = 4 := hl2.1
      rw [if_neg (mt mk3.mp (by omega)), if_neg (mt (xw_is3 o6 hn).mp (by omega)), ob_, ob_]
      obtain ⟨r, m', g1, g2⟩ := R.frame H (x := qm_g_first m (ix v)) o5 (tk := 6) (gt := 0) (fk := 6) (fb := 0) (rs := xw (qm_g_second m (ix v))) (hd := 3) (fo := qm_g_second m (ix v)) (fh := 0) (fa := e) (M := M)
        ⟨rfl, he, by omega, by omega, Or.inr (Or.inr (Or.inr (Or.inr (Or.inr (Or.inr ⟨rfl, rfl, rfl, o6, b, L, hl2⟩)))))⟩ (by omega) (hX k4)
      rw [g1, ob_]
      exact ⟨r, m', rfl, g2⟩
/-- one more argument -/
theorem MR.arg (R : MR n K m z F A B) {v : Int64} (hv : ok n K v) (hA : A < 1500) :
    MR n K (qm_s_resultMany (qm_t_results m (qm_g_resultMany m) v) (qm_g_resultMany m + 1)) (qn_s_argumentCount (qn_t_arguments z (qn_g_argumentCount z) (xw v)) (qn_g_argumentCount z + 1)) F (A + 1) B := by
  obtain ⟨r1, r2, ⟨r3, r4, r5⟩, r6⟩ := R
  unfold MR
  simp only [gf_s_count, gf_s_most, gf_t_tasks, gf_t_environments, gf_t_rests, gf_t_helds, gf_t_gathereds, gn_s_argumentCount, gn_s_mode, gn_s_current, gn_s_operands, gn_s_environment, gn_s_steps, gn_s_limit, gn_s_failure, gn_t_arguments, gn_F, gn_T, gn_H, gm_s_values, gm_s_present, gm_s_limit, gm_s_steps, gm_s_mostFrames, gm_s_mode, gm_s_now, gm_s_operands, gm_s_around, gm_s_frames, gm_s_resultMany, gm_t_stack, gm_t_frameKind, gm_t_frameOne, gm_t_frameOther, gm_t_frameAround, gm_t_frameBase, gm_t_results]
  refine ⟨r1, r2, ⟨by rw [i_add] <;> simp only [Int32.reduceToInt] <;> omega, by rw [i_add] <;> simp only [Int32.reduceToInt] <;> omega, fun j hj => ?_⟩, r6⟩
  rw [r3, r4, toNat_cast]
  show (if j = A then xw v else qn_g_arguments z j) = xw (if j = A then v else qm_g_results m j) ∧ ok n K (if j = A then v else qm_g_results m j)
  by_cases hjA : j = A
  · rw [if_pos hjA, if_pos hjA]; exact ⟨rfl, hv⟩
  · rw [if_neg hjA, if_neg hjA]; exact r5 j (by omega)
/-- a frame taken off -/
theorem MR.popd (R : MR n K m z (F + 1) A B) (x : Int32) : ∃ C, MR n K (qm_s_frames m (qm_g_frames m - 1)) (qn_s_environment (qn_sF z (qf_s_count (qn_gF z) (qf_g_count (qn_gF z) - 1))) x) F A C ∧
    fr n K (qm_g_first m) (qm_g_second m) (qf_g_tasks (qn_gF z) F) (qf_g_environments (qn_gF z) F) (qf_g_rests (qn_gF z) F) (qf_g_helds (qn_gF z) F) (qf_g_gathereds (qn_gF z) F) (qm_g_frameKind m F) (qm_g_frameOne m F) (qm_g_frameOther m F) (qm_g_frameAround m F) (qm_g_frameBase m F) C B := by
  obtain ⟨⟨r1, r2, r3, r4, r5, r6⟩, R2, R3, R4⟩ := R
  obtain ⟨C, c1, c2⟩ := R2.pop
  refine ⟨C, ?_, c2⟩
  unfold MR
  simp only [gf_s_count, gf_s_most, gf_t_tasks, gf_t_environments, gf_t_rests, gf_t_helds, gf_t_gathereds, gn_s_argumentCount, gn_s_mode, gn_s_current, gn_s_operands, gn_s_environment, gn_s_steps, gn_s_limit, gn_s_failure, gn_t_arguments, gn_F, gn_T, gn_H, gm_s_values, gm_s_present, gm_s_limit, gm_s_steps, gm_s_mostFrames, gm_s_mode, gm_s_now, gm_s_operands, gm_s_around, gm_s_frames, gm_s_resultMany, gm_t_stack, gm_t_frameKind, gm_t_frameOne, gm_t_frameOther, gm_t_frameAround, gm_t_frameBase, gm_t_results]
  exact ⟨⟨by rw [i_sub] <;> simp only [Int32.reduceToInt] <;> omega, by rw [i_sub] <;> simp only [Int32.reduceToInt] <;> omega, by omega, r4, by omega, r6⟩, c1, R3, R4⟩
end
