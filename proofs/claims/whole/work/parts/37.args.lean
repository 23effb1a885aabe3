/-! ===== arguments ===== -/
theorem mr_res {m m' : qm_S} (c : Int32) (e : mr m' = mr m) : mr (qm_s_resultMany m' c) = mr (qm_s_resultMany m c) := by
  unfold mr at e ⊢
  simp only [Prod.mk.injEq] at e
  obtain ⟨e1, e2, e3, e4, e5, e6, e7, e8, e9, e10, e11⟩ := e
  simp only [gf_s_count, gf_s_most, gf_t_tasks, gf_t_environments, gf_t_rests, gf_t_helds, gf_t_gathereds, gn_s_argumentCount, gn_s_mode, gn_s_current, gn_s_operands, gn_s_environment, gn_s_steps, gn_s_limit, gn_s_failure, gn_t_arguments, gn_F, gn_T, gn_H, gm_s_values, gm_s_present, gm_s_limit, gm_s_steps, gm_s_mostFrames, gm_s_mode, gm_s_now, gm_s_operands, gm_s_around, gm_s_frames, gm_s_resultMany, gm_t_stack, gm_t_frameKind, gm_t_frameOne, gm_t_frameOther, gm_t_frameAround, gm_t_frameBase, gm_t_results]
  rw [e1, e2, e3, e4, e5, e6, e7, e8, e10, e11]
theorem MR.cnt {n : Nat} {K : Nat → Nat} {m : qm_S} {z : qn_S} {F A A' : Nat} {B : Int} (R : MR n K m z F A B) (hA : A' ≤ A) {c a : Int32} (hc : c.toInt = A') (ha : a.toInt = A') : MR n K (qm_s_resultMany m c) (qn_s_argumentCount z a) F A' B := by
  obtain ⟨r1, r2, ⟨r3, r4, r5⟩, r6⟩ := R
  unfold MR
  simp only [gf_s_count, gf_s_most, gf_t_tasks, gf_t_environments, gf_t_rests, gf_t_helds, gf_t_gathereds, gn_s_argumentCount, gn_s_mode, gn_s_current, gn_s_operands, gn_s_environment, gn_s_steps, gn_s_limit, gn_s_failure, gn_t_arguments, gn_F, gn_T, gn_H, gm_s_values, gm_s_present, gm_s_limit, gm_s_steps, gm_s_mostFrames, gm_s_mode, gm_s_now, gm_s_operands, gm_s_around, gm_s_frames, gm_s_resultMany, gm_t_stack, gm_t_frameKind, gm_t_frameOne, gm_t_frameOther, gm_t_frameAround, gm_t_frameBase, gm_t_results]
  exact ⟨r1, r2, ⟨hc, ha, fun j hj => r5 j (by omega)⟩, r6⟩
theorem HR.made {n : Nat} {K : Nat → Nat} {h : qh_S} {m : qm_S} (H : HR n K h m) (hn : n < 4000) {k : Int32} {c : Nat} (hk : k.toInt = c) (hc : 4 ≤ c ∧ c ≤ 7) : qw_make k (Int32.toInt64 (qh_g_nextRow h)) = xw (vI c n) := by
  rw [mk_vI (z := n + 100) hk (by omega) H.hr, xw_obj hc (by omega) (by omega)]
  unfold row
  rw [if_neg (by omega)]
theorem mo_res (m : qm_S) (c : Int32) : mh (qm_s_resultMany m c) = mh m ∧ qm_g_steps (qm_s_resultMany m c) = qm_g_steps m ∧ qm_g_limit (qm_s_resultMany m c) = qm_g_limit m ∧ qm_g_mostFrames (qm_s_resultMany m c) = qm_g_mostFrames m ∧ qm_g_results (qm_s_resultMany m c) = qm_g_results m ∧ kp (qm_s_resultMany m c) m := by
  unfold kp
  simp only [gf_s_count, gf_s_most, gf_t_tasks, gf_t_environments, gf_t_rests, gf_t_helds, gf_t_gathereds, gn_s_argumentCount, gn_s_mode, gn_s_current, gn_s_operands, gn_s_environment, gn_s_steps, gn_s_limit, gn_s_failure, gn_t_arguments, gn_F, gn_T, gn_H, gm_s_values, gm_s_present, gm_s_limit, gm_s_steps, gm_s_mostFrames, gm_s_mode, gm_s_now, gm_s_operands, gm_s_around, gm_s_frames, gm_s_resultMany, gm_t_stack, gm_t_frameKind, gm_t_frameOne, gm_t_frameOther, gm_t_frameAround, gm_t_frameBase, gm_t_results, and_self]
theorem args_aux (N : Nat) (hN : 5000 ≤ N) : ∀ (j n : Nat) (K : Nat → Nat) (m : qm_S) (z : qn_S) (F B : Nat) (c x7 g x10 x6 : Int32) (gn k k2 : Nat) (app arn v : Int64) (M : Int),
    HR n K (qn_gH z) m → MR n K (qm_s_resultMany m c) z F (B + j) B → ok n K v → ok n K app → kd app = 6 → envr n K (qn_g_environment z) arn → x7.toInt = B → g.toInt = gn → x10.toInt = (B : Int) + j - 1 → x6.toInt = (gn : Int) - j → j ≤ gn → gn ≤ 1500 → j < k → j < k2 → (B : Int) + j ≤ 1500 → (F : Int) + B + 1 ≤ (qm_g_steps m).toInt → (kd v = 3 ∧ j = 0 → mub m + F * 4004 + (dep (undr m app) + 4) < M) → (¬ (kd v = 3 ∧ j = 0) → mub m + F * 4004 + 4006 < M) →
    ∃ r m' z', qm_goesOn_L42 N k m app arn x7 v x10 = some (r, m') ∧ qn_combineWithArguments_L8 N k2 z (xw (undr m app)) g (xw v) x6 = some z' ∧ Out n K m M m' z' r := by
  intro j
  induction j with
  | zero =>
    intro n K m z F B c x7 g x10 x6 gn k k2 app arn v M H R hv ha hk he h7 hg h10 h6 hj hgn hk1 hk2 hB hs hM hM4
    obtain ⟨k, rfl⟩ : ∃ j, k = j + 1 := ⟨k - 1, by omega⟩
    obtain ⟨k2, rfl⟩ : ∃ j, k2 = j + 1 := ⟨k2 - 1, by omega⟩
    have hc : c = x7 := i_ext (by have := R.2.2.1.1; simp only [gf_s_count, gf_s_most, gf_t_tasks, gf_t_environments, gf_t_rests, gf_t_helds, gf_t_gathereds, gn_s_argumentCount, gn_s_mode, gn_s_current, gn_s_operands, gn_s_environment, gn_s_steps, gn_s_limit, gn_s_failure, gn_t_arguments, gn_F, gn_T, gn_H, gm_s_values, gm_s_present, gm_s_limit, gm_s_steps, gm_s_mostFrames, gm_s_mode, gm_s_now, gm_s_operands, gm_s_around, gm_s_frames, gm_s_resultMany, gm_t_stack, gm_t_frameKind, gm_t_frameOne, gm_t_frameOther, gm_t_frameAround, gm_t_frameBase, gm_t_results] at this; omega)
    subst hc
    obtain ⟨o1, o2, o3, o4, o5, o6⟩ := mo_res m c
    have H2 : HR n K (qn_gH z) (qm_s_resultMany m c) := H.of o1
    obtain ⟨u1, u2, u3, u4, u5, u6⟩ := H2.und ha (Nat.le_refl _) hk
    have hu : undr (qm_s_resultMany m c) app = undr m app := by rw [undr_f, undr_f, (mh_all o1).1]
    rw [hu] at u1 u3
    have hb := mub_le H H2 (Nat.le_refl _) o3 o2
    rw [qm_goesOn_L42_s, qn_combineWithArguments_L8_s, if_pos (by ((try simp only [Int32.lt_iff_toInt_lt, Int32.le_iff_toInt_le, Int64.lt_iff_toInt_lt, Int64.le_iff_toInt_le, ← Int32.toInt_inj, ← Int64.toInt_inj, Int32.reduceToInt, Int64.reduceToInt] at *); omega)), if_pos (by ((try simp only [Int32.lt_iff_toInt_lt, Int32.le_iff_toInt_le, Int64.lt_iff_toInt_lt, Int64.le_iff_toInt_le, ← Int32.toInt_inj, ← Int64.toInt_inj, Int32.reduceToInt, Int64.reduceToInt] at *); omega)), u1, ob_]
    have hw : mub m + F * 4004 + cw (undr m app) v < M := by
      unfold cw
      by_cases k3 : kd v = 3
      · rw [if_pos k3]; exact hM ⟨k3, rfl⟩
      · rw [if_neg k3]; exact hM4 (fun e => k3 e.1)
    exact ⟨0, _, _, rfl, rfl, (R.comb H2 u3 hv he (by rw [o2]; exact hs) (by omega)).ext (Ext.refl o1.symm) o6⟩
  | succ j ih =>
    intro n K m z F B c x7 g x10 x6 gn k k2 app arn v M H R hv ha hk he h7 hg h10 h6 hj hgn hk1 hk2 hB hs hM hM4
    obtain ⟨k, rfl⟩ : ∃ j, k = j + 1 := ⟨k - 1, by omega⟩
    obtain ⟨k2, rfl⟩ : ∃ j, k2 = j + 1 := ⟨k2 - 1, by omega⟩
    obtain ⟨o1, o2, o3, o4, o5, o6⟩ := mo_res m c
    have hac : (qn_g_argumentCount z).toInt = ((B + (j + 1) : Nat) : Int) := R.2.2.1.2.1
    have hac1 : (qn_g_argumentCount z - 1).toInt = ((B + j : Nat) : Int) := by rw [i_sub] <;> simp only [Int32.reduceToInt] <;> omega
    obtain ⟨w1, w2⟩ := R.2.2.1.2.2 (B + j) (by omega)
    rw [o5] at w1 w2
    have hx10 : Int32.toNatClampNeg x10 = B + j := by rw [i_clamp, h10]; omega
    have hxa : Int32.toNatClampNeg (qn_g_argumentCount z - 1) = B + j := by rw [i_clamp, hac1, toNat_cast]
    have hX1 : ¬ g ≤ x6 := by ((try simp only [Int32.lt_iff_toInt_lt, Int32.le_iff_toInt_le, Int64.lt_iff_toInt_lt, Int64.le_iff_toInt_le, ← Int32.toInt_inj, ← Int64.toInt_inj, Int32.reduceToInt, Int64.reduceToInt] at *); omega)
    have hLA : qn_latestArgument z = qn_g_arguments z (B + j) := by
      unfold qn_latestArgument
      rw [if_neg (by ((try simp only [Int32.lt_iff_toInt_lt, Int32.le_iff_toInt_le, Int64.lt_iff_toInt_lt, Int64.le_iff_toInt_le, ← Int32.toInt_inj, ← Int64.toInt_inj, Int32.reduceToInt, Int64.reduceToInt] at *); omega)), if_neg (by ((try simp only [Int32.lt_iff_toInt_lt, Int32.le_iff_toInt_le, Int64.lt_iff_toInt_lt, Int64.le_iff_toInt_le, ← Int32.toInt_inj, ← Int64.toInt_inj, Int32.reduceToInt, Int64.reduceToInt] at *); omega)), hxa]
    have hM5 := hM4 (fun e => absurd e.2 (Nat.succ_ne_zero j))
    have hM1 : ¬ x10 < x7 := by ((try simp only [Int32.lt_iff_toInt_lt, Int32.le_iff_toInt_le, Int64.lt_iff_toInt_lt, Int64.le_iff_toInt_le, ← Int32.toInt_inj, ← Int64.toInt_inj, Int32.reduceToInt, Int64.reduceToInt] at *); omega)
    have hM2 : inb x10 1501 = true := inb_of (by omega) (by omega)
    by_cases hn : n < 4000
    · rw [qm_goesOn_L42_s, qn_combineWithArguments_L8_s, if_neg hM1, if_neg hX1, hLA, if_pos (H.nf hn), if_pos hM2, hx10, adds_ok H.ho hn (c := 4) (by decide) (by decide), ob_, w1]
      unfold qh_addPair
      rw [H.add_ok hn, if_neg (by have := H.hr; intro e; have := congrArg Int32.toInt e; simp only [Int32.reduceToInt] at this; omega), H.made hn (c := 4) (by decide) (by decide)]
      obtain ⟨H2, E2⟩ := H.newPair hn w2 hv
      obtain ⟨n1, n2, n3⟩ := ok_new (n := n) (k := 4) (K := K) (by decide) hn
      have hmo := (madd_mo m (qm_g_results m (B + j)) v).1
      have hkp := kp_mo hmo
      have hst : qm_g_steps (madd m (qm_g_results m (B + j)) v) = qm_g_steps m := by
        have := hmo; unfold mo at this; simp only [Prod.mk.injEq] at this; exact this.2.2.2.2.1
      have hb := mub_le H H2 (Nat.le_succ _) hkp.2.2.2 hst
      have hu := H.undr_ext E2 ha hk
      obtain ⟨c', hc'⟩ : ∃ c' : Int32, c'.toInt = ((B + j : Nat) : Int) := ⟨qn_g_argumentCount z - 1, hac1⟩
      have hH : HR (n + 1) (updK K n 4) (qn_gH (qn_s_argumentCount (qn_sH z (hadd (qn_gH z) (xw (qm_g_results m (B + j))) (xw v))) (qn_g_argumentCount z - 1))) (madd m (qm_g_results m (B + j)) v) := by
        simp only [gf_s_count, gf_s_most, gf_t_tasks, gf_t_environments, gf_t_rests, gf_t_helds, gf_t_gathereds, gn_s_argumentCount, gn_s_mode, gn_s_current, gn_s_operands, gn_s_environment, gn_s_steps, gn_s_limit, gn_s_failure, gn_t_arguments, gn_F, gn_T, gn_H, gm_s_values, gm_s_present, gm_s_limit, gm_s_steps, gm_s_mostFrames, gm_s_mode, gm_s_now, gm_s_operands, gm_s_around, gm_s_frames, gm_s_resultMany, gm_t_stack, gm_t_frameKind, gm_t_frameOne, gm_t_frameOther, gm_t_frameAround, gm_t_frameBase, gm_t_results]; exact H2
      have hR : MR (n + 1) (updK K n 4) (qm_s_resultMany (madd m (qm_g_results m (B + j)) v) c') (qn_s_argumentCount (qn_sH z (hadd (qn_gH z) (xw (qm_g_results m (B + j))) (xw v))) (qn_g_argumentCount z - 1)) F (B + j) B := by
        refine MR.to (z := qn_s_argumentCount z (qn_g_argumentCount z - 1)) (m := qm_s_resultMany m c') (h := qn_gH z) ?_ (H.of (mo_res m c').1) ?_ (mr_res c' (mr_of_mo hmo)) ?_
        · have := R.cnt (A' := B + j) (by omega) hc' hac1
          have e : mr (qm_s_resultMany (qm_s_resultMany m c) c') = mr (qm_s_resultMany m c') := by unfold mr; simp only [gf_s_count, gf_s_most, gf_t_tasks, gf_t_environments, gf_t_rests, gf_t_helds, gf_t_gathereds, gn_s_argumentCount, gn_s_mode, gn_s_current, gn_s_operands, gn_s_environment, gn_s_steps, gn_s_limit, gn_s_failure, gn_t_arguments, gn_F, gn_T, gn_H, gm_s_values, gm_s_present, gm_s_limit, gm_s_steps, gm_s_mostFrames, gm_s_mode, gm_s_now, gm_s_operands, gm_s_around, gm_s_frames, gm_s_resultMany, gm_t_stack, gm_t_frameKind, gm_t_frameOne, gm_t_frameOther, gm_t_frameAround, gm_t_frameBase, gm_t_results]
          have e2 : mh (qm_s_resultMany (qm_s_resultMany m c) c') = mh (qm_s_resultMany m c') := by simp only [gf_s_count, gf_s_most, gf_t_tasks, gf_t_environments, gf_t_rests, gf_t_helds, gf_t_gathereds, gn_s_argumentCount, gn_s_mode, gn_s_current, gn_s_operands, gn_s_environment, gn_s_steps, gn_s_limit, gn_s_failure, gn_t_arguments, gn_F, gn_T, gn_H, gm_s_values, gm_s_present, gm_s_limit, gm_s_steps, gm_s_mostFrames, gm_s_mode, gm_s_now, gm_s_operands, gm_s_around, gm_s_frames, gm_s_resultMany, gm_t_stack, gm_t_frameKind, gm_t_frameOne, gm_t_frameOther, gm_t_frameAround, gm_t_frameBase, gm_t_results]
          exact this.to (H.of ((mo_res (qm_s_resultMany m c) c').1.trans o1)) (Ext.refl e2) e.symm rfl
        · exact ((Ext.refl (mo_res m c').1).trans E2).trans (Ext.refl (mo_res _ c').1.symm)
        · unfold nr; simp only [gf_s_count, gf_s_most, gf_t_tasks, gf_t_environments, gf_t_rests, gf_t_helds, gf_t_gathereds, gn_s_argumentCount, gn_s_mode, gn_s_current, gn_s_operands, gn_s_environment, gn_s_steps, gn_s_limit, gn_s_failure, gn_t_arguments, gn_F, gn_T, gn_H, gm_s_values, gm_s_present, gm_s_limit, gm_s_steps, gm_s_mostFrames, gm_s_mode, gm_s_now, gm_s_operands, gm_s_around, gm_s_frames, gm_s_resultMany, gm_t_stack, gm_t_frameKind, gm_t_frameOne, gm_t_frameOther, gm_t_frameAround, gm_t_frameBase, gm_t_results]
      have := ih (n + 1) (updK K n 4) (madd m (qm_g_results m (B + j)) v) (qn_s_argumentCount (qn_sH z (hadd (qn_gH z) (xw (qm_g_results m (B + j))) (xw v))) (qn_g_argumentCount z - 1)) F B c' x7 g (x10 - 1) (x6 + 1) gn k k2 app arn (vI 4 n) M hH hR n1 (E2.ok ha) hk (by simp only [gf_s_count, gf_s_most, gf_t_tasks, gf_t_environments, gf_t_rests, gf_t_helds, gf_t_gathereds, gn_s_argumentCount, gn_s_mode, gn_s_current, gn_s_operands, gn_s_environment, gn_s_steps, gn_s_limit, gn_s_failure, gn_t_arguments, gn_F, gn_T, gn_H, gm_s_values, gm_s_present, gm_s_limit, gm_s_steps, gm_s_mostFrames, gm_s_mode, gm_s_now, gm_s_operands, gm_s_around, gm_s_frames, gm_s_resultMany, gm_t_stack, gm_t_frameKind, gm_t_frameOne, gm_t_frameOther, gm_t_frameAround, gm_t_frameBase, gm_t_results]; exact envr.ext E2 he) h7 hg
        (by rw [i_sub] <;> simp only [Int32.reduceToInt] <;> omega) (by rw [i_add] <;> simp only [Int32.reduceToInt] <;> omega) (by omega) (by omega) (by omega) (by omega) (by omega) (by rw [hst]; exact hs) (fun e => absurd e.1 (by rw [n2]; decide)) (fun _ => by omega)
      rw [hu] at this
      obtain ⟨r, m', z', g1, g2, g3⟩ := this
      exact ⟨r, m', z', g1, g2, g3.ext E2 hkp⟩
    · have hn4 : n = 4000 := by have := H.hn; omega
      rw [qm_goesOn_L42_s, qn_combineWithArguments_L8_s, if_neg hM1, if_neg hX1, hLA, if_neg (by rw [H.fl hn4]; decide)]
      unfold qh_addPair
      rw [H.add_full hn4, if_pos rfl]
      obtain ⟨-, -, -, d1, d2, d3⟩ := id R
      rw [o2] at d1
      rw [o3] at d2
      refine ⟨-5, m, _, rfl, rfl, Out.fail (z := qn_sH z (qn_gH z)) H d1 d2 ?_ (by decide)⟩
      have := R.1.2.2.2.1
      rw [o4] at this
      exact this
section
variable {n : Nat} {K : Nat → Nat} {m : qm_S} {z : qn_S}
/-- going on with operands -/
theorem MR.goesOn {F A B : Nat} (R : MR n K m z F A B) (H : HR n K (qn_gH z) m) {N : Nat} (hN : 5000 ≤ N) {app rest arn : Int64} {x7 g : Int32} {M : Int} (hB : B ≤ A) (hA : A ≤ 1500) (ha : ok n K app) (hk : kd app = 6) (hr : ok n K rest) (hl : ∃ L, lst (qm_g_first m) (qm_g_second m) L rest) (he : envr n K (qn_g_environment z) arn) (h7 : x7.toInt = B) (hg : g.toInt = (A : Int) - B)
    (hs : (F : Int) + A + 1 ≤ (qm_g_steps m).toInt) (hM : kd rest = 3 → A = B → mub m + F * 4004 + (dep (undr m app) + 4) < M) (hM4 : kd rest = 3 → A ≠ B → mub m + F * 4004 + 4006 < M) (hX : kd rest = 4 → mub m + (F + 1) * 4004 < M) :
    ∃ r m' z', qm_goesOn N m app rest arn x7 = some (r, m') ∧ qn_evaluateArguments N z (xw rest) (xw (undr m app)) g = some z' ∧ Out n K m M m' z' r := by
  have hn := H.hn
  obtain ⟨L, hl⟩ := hl
  obtain ⟨u1, u2, u3, u4, u5, u6⟩ := H.und ha (Nat.le_refl _) hk
  have hd := dep_b u3 hn
  unfold qm_goesOn qn_evaluateArguments
  cases L with
  | nil =>
    have k3 : kd rest = 3 := hl
    rw [if_neg (mt mk4.mp (by omega)), if_pos ((xw_is3 hr hn).mpr k3)]
    have hc := R.2.2.1.1
    have R2 : MR n K (qm_s_resultMany m (qm_g_resultMany m)) z F (B + (A - B)) B := by
      have e : B + (A - B) = A := by omega
      rw [e]
      refine R.to H (Ext.refl (mo_res m _).1.symm) ?_ rfl
      unfold mr; simp only [gf_s_count, gf_s_most, gf_t_tasks, gf_t_environments, gf_t_rests, gf_t_helds, gf_t_gathereds, gn_s_argumentCount, gn_s_mode, gn_s_current, gn_s_operands, gn_s_environment, gn_s_steps, gn_s_limit, gn_s_failure, gn_t_arguments, gn_F, gn_T, gn_H, gm_s_values, gm_s_present, gm_s_limit, gm_s_steps, gm_s_mostFrames, gm_s_mode, gm_s_now, gm_s_operands, gm_s_around, gm_s_frames, gm_s_resultMany, gm_t_stack, gm_t_frameKind, gm_t_frameOne, gm_t_frameOther, gm_t_frameAround, gm_t_frameBase, gm_t_results]
    obtain ⟨r, m', z', g1, g2, g3⟩ := args_aux N hN (A - B) n K m z F B (qm_g_resultMany m) x7 g (qm_g_resultMany m - 1) 0 (A - B) N N app arn 3 M H R2 ok_nil ha hk he h7 (by omega) (by rw [i_sub] <;> simp only [Int32.reduceToInt] <;> omega) (by show (0 : Int32).toInt = _; rw [show (0 : Int32).toInt = 0 by decide]; omega) (Nat.le_refl _) (by omega) (by omega) (by omega) (by omega) (by omega) (fun e => hM k3 (by omega)) (fun e => hM4 k3 (fun e2 => e ⟨show kd (3 : Int64) = 3 by decide, by omega⟩))
    unfold qn_combineWithArguments
    rw [xw3] at g2
    rw [g1, g2, ob_]
    exact ⟨r, m', z', rfl, rfl, g3⟩
  | cons a L =>
    obtain ⟨k4, hl1, hl2⟩ := hl
    obtain ⟨f1, f2, f3, f4, f5, f6, f7⟩ := H.pair hr (Nat.le_refl _) k4
    rw [if_pos (mk4.mpr k4), if_neg (mt (xw_is3 hr hn).mp (by omega)), f1, f2, f3, f4, ob_, ob_]
    obtain ⟨r, m', g1, g2⟩ := R.frame H (x := qm_g_first m (ix rest)) (ok_mono f5 (by omega) (fun _ _ => rfl)) (tk := 1) (gt := g) (fk := 1) (fb := x7) (rs := xw (qm_g_second m (ix rest))) (hd := xw (undr m app)) (fo := app) (fh := qm_g_second m (ix rest)) (fa := arn) (M := M)
      ⟨rfl, he, by omega, by omega, Or.inr (Or.inl ⟨rfl, rfl, ok_mono f6 (by omega) (fun _ _ => rfl), ⟨L, hl2⟩, ha, hk, rfl, h7, hg⟩)⟩ (by omega) (hX k4)
    rw [g1, ob_]
    exact ⟨r, m', _, rfl, rfl, g2⟩
end
