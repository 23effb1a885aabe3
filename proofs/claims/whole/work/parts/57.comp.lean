/-! ===== compound operatives ===== -/
section
variable {n : Nat} {K : Nat → Nat} {m : qm_S} {z : qn_S} {F A : Nat} {M : Int} {N : Nat}
/-- what an operative's row holds -/
theorem HR.opr {h : qh_S} (H : HR n K h m) {v : Int64} (hv : ok n K v) (k5 : kd v = 5) (hw : 0 ≤ wt v) {x : Int32} (hx : x.toInt = ((100 + ix v : Nat) : Int)) :
    qh_parametersOf h x = xw (qm_g_first m (ix v)) ∧ (qh_scopeOf h x).toInt = row (wt (qm_g_fourth m (ix v))) ∧ (qh_environmentSymbolOf h x).toInt = psym (qm_g_second m (ix v)) ∧ qh_bodyOf h x = xw (qm_g_third m (ix v)) ∧
    ok n K (qm_g_first m (ix v)) ∧ trok (qm_g_first m) (qm_g_second m) (qm_g_first m (ix v)) (qm_g_second m (ix v)) ∧ ok n K (qm_g_second m (ix v)) ∧ (kd (qm_g_second m (ix v)) = 2 ∨ kd (qm_g_second m (ix v)) = 8) ∧ ok n K (qm_g_third m (ix v)) ∧ ok n K (qm_g_fourth m (ix v)) ∧ kd (qm_g_fourth m (ix v)) = 7 := by
  have hn := H.hn
  obtain ⟨i1, i2, i3⟩ := ok_obj hv (by omega) (by omega) hw
  obtain ⟨⟨a1, a2⟩, ⟨a3, a4⟩, ⟨a5, a6⟩, ⟨a7, a8⟩, a9⟩ := (H.hob i1).2.1 (by rw [i2, k5])
  have up : ∀ w, ok (ix v) K w → ok n K w := fun w h => ok_mono h (by omega) (fun _ _ => rfl)
  have hS := secondAt_of (h := h) hx (by omega)
  have hF := firstAt_of (h := h) hx (by omega)
  have hb7 := (ok_b (up _ a7) hn).2.2.2.1 (by omega) (by omega)
  have hrow := row_b hb7.1 hb7.2
  have hps : 0 ≤ psym (qm_g_second m (ix v)) ∧ psym (qm_g_second m (ix v)) < 128 := by
    unfold psym
    split
    · have := a5; unfold ok prim at this; omega
    · omega
  obtain ⟨u1, u2, u3⟩ := unpack a9 hps (by omega)
  unfold qh_parametersOf qh_scopeOf qh_environmentSymbolOf qh_bodyOf
  rw [hS, hF]
  exact ⟨l_ext u1, u2, u3, a1, up _ a3, a4, up _ a5, a6, up _ a2, up _ a7, a8⟩
/-- the last step: the body, in the new environment -/
theorem MR.body {n' : Nat} {K' : Nat → Nat} {m' : qm_S} {z' : qn_S} {h' : qh_S} (H : HR n K (qn_gH z) m) (R : MR n K m z F A A) (hs : (F : Int) + A + 1 ≤ (qm_g_steps m).toInt) (hM : mub m + F * 4004 < M) (H' : HR n' K' h' m') (E : Ext n K m n' K' m') (em : mo m' = mo m) (ez : nr z' = nr z) (eh : qn_gH z' = h') {v e : Int64} {x : Int32} (hv : ok n' K' v) (he : envr n' K' x e) :
    Out n K m M (qm_goesTo m' v e).2 (qn_evaluateInTail (qn_s_environment z' x) (xw v)) 0 := by
  have e3 := em
  unfold mo at e3
  simp only [Prod.mk.injEq] at e3
  have hb := mub_le H H' E.1 e3.2.2.2.1 e3.2.2.2.2.1
  have hn := E.1
  have ez2 : nr (qn_s_environment z' x) = nr z := by rw [← ez]; unfold nr; simp only [gf_s_count, gf_s_most, gf_t_tasks, gf_t_environments, gf_t_rests, gf_t_helds, gf_t_gathereds, gn_s_argumentCount, gn_s_mode, gn_s_current, gn_s_operands, gn_s_environment, gn_s_steps, gn_s_limit, gn_s_failure, gn_t_arguments, gn_F, gn_T, gn_H, gm_s_values, gm_s_present, gm_s_limit, gm_s_steps, gm_s_mostFrames, gm_s_mode, gm_s_now, gm_s_operands, gm_s_around, gm_s_frames, gm_s_resultMany, gm_t_stack, gm_t_frameKind, gm_t_frameOne, gm_t_frameOther, gm_t_frameAround, gm_t_frameBase, gm_t_results]
  have R2 : MR n' K' m' (qn_s_environment z' x) F A A := R.to H E (mr_of_mo em) ez2
  have H2 : HR n' K' (qn_gH (qn_s_environment z' x)) m' := by simp only [gf_s_count, gf_s_most, gf_t_tasks, gf_t_environments, gf_t_rests, gf_t_helds, gf_t_gathereds, gn_s_argumentCount, gn_s_mode, gn_s_current, gn_s_operands, gn_s_environment, gn_s_steps, gn_s_limit, gn_s_failure, gn_t_arguments, gn_F, gn_T, gn_H, gm_s_values, gm_s_present, gm_s_limit, gm_s_steps, gm_s_mostFrames, gm_s_mode, gm_s_now, gm_s_operands, gm_s_around, gm_s_frames, gm_s_resultMany, gm_t_stack, gm_t_frameKind, gm_t_frameOne, gm_t_frameOther, gm_t_frameAround, gm_t_frameBase, gm_t_results]; rw [eh]; exact H'
  exact (R2.tail H2 hv (by simp only [gf_s_count, gf_s_most, gf_t_tasks, gf_t_environments, gf_t_rests, gf_t_helds, gf_t_gathereds, gn_s_argumentCount, gn_s_mode, gn_s_current, gn_s_operands, gn_s_environment, gn_s_steps, gn_s_limit, gn_s_failure, gn_t_arguments, gn_F, gn_T, gn_H, gm_s_values, gm_s_present, gm_s_limit, gm_s_steps, gm_s_mostFrames, gm_s_mode, gm_s_now, gm_s_operands, gm_s_around, gm_s_frames, gm_s_resultMany, gm_t_stack, gm_t_frameKind, gm_t_frameOne, gm_t_frameOther, gm_t_frameAround, gm_t_frameBase, gm_t_results]; exact he) (by rw [e3.2.2.2.2.1]; omega) (by omega)).ext E (kp_mo em)
theorem MR.bad {n' : Nat} {K' : Nat → Nat} {m' : qm_S} {z' : qn_S} {h' : qh_S} {r : Int32} (H : HR n K (qn_gH z) m) (R : MR n K m z F A A) (H' : HR n' K' h' m') (E : Ext n K m n' K' m') (em : mo m' = mo m) (ez : nr z' = nr z) (eh : qn_gH z' = h') (hr : r.toInt < 0) : Out n K m M m' (qn_fail z' r) r := by
  have R2 : MR n' K' m' z' F A A := R.to H E (mr_of_mo em) ez
  have H2 : HR n' K' (qn_gH z') m' := by rw [eh]; exact H'
  exact (MR.fail (M := M) R2 H2 hr).ext E (kp_mo em)
theorem SC.compound (H : HR n K (qn_gH z) m) (R : MR n K m z F A A) (hs : (F : Int) + A + 1 ≤ (qm_g_steps m).toInt) (hc : curr n K m z) (he : envr n K (qn_g_environment z) (qm_g_around m)) (ho : qn_g_operands z = xw (qm_g_operands m)) (ho2 : ok n K (qm_g_operands m)) (hN : 5000 ≤ N) (k5 : kd (qm_g_now m) = 5) (hw : 0 ≤ wt (qm_g_now m)) (hM : mub m + F * 4004 < M) :
    ∃ r m' z', qm_combinesCompound N m = some (r, m') ∧ qn_combineCompound N z (qw_rowOf (qn_g_current z)) = some z' ∧ Out n K m M m' z' r := by
  have hn := H.hn
  obtain ⟨q3, q4⟩ := hc
  obtain ⟨i1, i2, i3⟩ := ok_obj q4 (by omega) (by omega) hw
  have hrow : (qw_rowOf (qn_g_current z)).toInt = ((100 + ix (qm_g_now m) : Nat) : Int) := by rw [q3]; exact xrow q4 hn (by omega) (by omega) hw
  have hidx : (qm_indexOf m (qm_g_now m)).toInt = ((ix (qm_g_now m) : Nat) : Int) := by rw [idx_of q4 hn (by omega), i3]
  have hin : inb (qm_indexOf m (qm_g_now m)) 4000 = true := inb_of (by omega) (by omega)
  have hcl : Int32.toNatClampNeg (qm_indexOf m (qm_g_now m)) = ix (qm_g_now m) := by rw [i_clamp, hidx, toNat_cast]
  obtain ⟨p1, p2, p3, p4, p5, p6, p7, p8, p9, p10, p11⟩ := H.opr q4 k5 hw hrow
  unfold qm_combinesCompound qn_combineCompound
  rw [if_pos hin, if_pos hin, hcl, p1, ho]
  generalize hrx : qw_rowOf (qn_g_current z) = rx at hrow p1 p2 p3 p4
  generalize hri : qm_indexOf m (qm_g_now m) = ri at hidx hin hcl
  obtain ⟨m1, t1, B, sm, alt⟩ := H.match hN p5 ho2 p6 (t := qn_gT z) rfl
  have H1 : HR n K (qn_gH z) m1 := H.sa sm
  rcases alt with ⟨g1, g2, g3⟩ | ⟨g1, g2, T, b, ⟨d0, p0, tr0⟩, nd, hl, hpr, hv⟩
  · rw [g1, g2, ob_, ob_, if_pos (show ((0 : Int32), m1).1 = 0 from rfl), if_pos (show ((0 : Int32), t1).1 = 0 from rfl)]
    exact ⟨-8, _, _, rfl, rfl, MR.bad H R H1 (Ext.refl sm.1.symm) sm.2 (by unfold nr; simp only [gf_s_count, gf_s_most, gf_t_tasks, gf_t_environments, gf_t_rests, gf_t_helds, gf_t_gathereds, gn_s_argumentCount, gn_s_mode, gn_s_current, gn_s_operands, gn_s_environment, gn_s_steps, gn_s_limit, gn_s_failure, gn_t_arguments, gn_F, gn_T, gn_H, gm_s_values, gm_s_present, gm_s_limit, gm_s_steps, gm_s_mostFrames, gm_s_mode, gm_s_now, gm_s_operands, gm_s_around, gm_s_frames, gm_s_resultMany, gm_t_stack, gm_t_frameKind, gm_t_frameOne, gm_t_frameOther, gm_t_frameAround, gm_t_frameBase, gm_t_results]) (by simp only [gf_s_count, gf_s_most, gf_t_tasks, gf_t_environments, gf_t_rests, gf_t_helds, gf_t_gathereds, gn_s_argumentCount, gn_s_mode, gn_s_current, gn_s_operands, gn_s_environment, gn_s_steps, gn_s_limit, gn_s_failure, gn_t_arguments, gn_F, gn_T, gn_H, gm_s_values, gm_s_present, gm_s_limit, gm_s_steps, gm_s_mostFrames, gm_s_mode, gm_s_now, gm_s_operands, gm_s_around, gm_s_frames, gm_s_resultMany, gm_t_stack, gm_t_frameKind, gm_t_frameOne, gm_t_frameOther, gm_t_frameAround, gm_t_frameBase, gm_t_results]; exact g3) (by decide)⟩
  · rw [g1, g2, ob_, ob_, if_neg (show ¬ ((1 : Int32), m1).1 = 0 from by show ¬ (1 : Int32) = 0; decide), if_neg (show ¬ ((1 : Int32), t1).1 = 0 from by show ¬ (1 : Int32) = 0; decide)]
    have ez1 : qn_gH (qn_sT z t1) = qn_gH z := by simp only [gf_s_count, gf_s_most, gf_t_tasks, gf_t_environments, gf_t_rests, gf_t_helds, gf_t_gathereds, gn_s_argumentCount, gn_s_mode, gn_s_current, gn_s_operands, gn_s_environment, gn_s_steps, gn_s_limit, gn_s_failure, gn_t_arguments, gn_F, gn_T, gn_H, gm_s_values, gm_s_present, gm_s_limit, gm_s_steps, gm_s_mostFrames, gm_s_mode, gm_s_now, gm_s_operands, gm_s_around, gm_s_frames, gm_s_resultMany, gm_t_stack, gm_t_frameKind, gm_t_frameOne, gm_t_frameOther, gm_t_frameAround, gm_t_frameBase, gm_t_results]; exact T.1
    dsimp only
    rw [ez1]
    unfold qh_addEnvironment
    have ef4 : qm_g_fourth m1 = qm_g_fourth m := (mh_all sm.1).2.2.2.1
    by_cases h4 : n < 4000
    · obtain ⟨n1, n2, n3⟩ := ok_new (n := n) (k := 7) (K := K) (by decide) h4
      obtain ⟨H2, E2⟩ := H1.newEnv h4 (p := qm_g_fourth m (ix (qm_g_now m))) (Or.inr ⟨p10, p11⟩) (x := qh_scopeOf (qn_gH z) rx) (by unfold pa; rw [if_neg (ok_ne_m1 p10)]; exact p2)
      have hmo2 := menv_mo m1 (qm_g_fourth m (ix (qm_g_now m)))
      have hP : symsIn (n + 1) (updK K n 7) (menv m1 (qm_g_fourth m (ix (qm_g_now m)))) (vI 7 n) (fun s => ∃ q ∈ ([] : List (Nat × Int64)), (q.1 : Int) = s) := by
        intro L hL j hj
        have hhd : qm_g_headOf (menv m1 (qm_g_fourth m (ix (qm_g_now m)))) (wt (vI 7 n) + 2).toNat = -1 := by
          show (if (wt (vI 7 n) + 2).toNat = (Int32.toNatClampNeg (qm_g_objects m1 + 2)) then (-1 : Int32) else _) = _
          have h1 := H1.ho
          have h2 : (qm_g_objects m1 + 2).toInt = n + 2 := by rw [i_add] <;> simp only [Int32.reduceToInt] <;> omega
          rw [i_clamp, h2, n3, if_pos rfl]
        rw [hhd] at hL
        cases L with
        | nil => cases hj
        | cons a L2 =>
          have := hL.1
          simp only [Int32.reduceToInt] at this
          omega
      rw [if_pos (H1.nf h4), if_pos hin, ef4, H1.env_ok h4, ob_, H.add_ok h4]
      dsimp only
      rw [if_neg (row_ne H)]
      have hnr := H.hr
      generalize qh_g_nextRow (qn_gH z) = nr0 at *
      generalize hadd (qn_gH z) (Int32.toInt64 (qh_scopeOf (qn_gH z) rx)) (-1) = h2 at *
      have hx1 : nr0.toInt = row (wt (vI 7 n)) := by rw [n3, hnr]; unfold row; rw [if_neg (by omega)]
      have hsy : ∀ u ∈ B, u.1 < 100 := fun u hu => H.tr_sym d0 _ p0 _ p5 tr0 u.1 (List.mem_map.mpr ⟨u, hu, rfl⟩)
      have e2m : mo (menv m1 (qm_g_fourth m (ix (qm_g_now m)))) = mo m := hmo2.1.trans sm.2
      have E02 : Ext n K m (n + 1) (updK K n 7) (menv m1 (qm_g_fourth m (ix (qm_g_now m)))) := (Ext.refl sm.1.symm).trans E2
      have b2 : bnd (menv m1 (qm_g_fourth m (ix (qm_g_now m)))) B := bnd_mb b hmo2.2
      generalize menv m1 (qm_g_fourth m (ix (qm_g_now m))) = m2 at *
      have eT : qn_gT (qn_sH (qn_sT z t1) h2) = qt_sH t1 h2 := rfl
      unfold qt_bindFound
      rw [eT]
      have key := binds_aux N hN (e := vI 7 n) (par := qm_g_second m (ix (qm_g_now m))) (x1 := nr0) (i := ri) B hl nd hsy n2 (by rw [n3]; omega) hx1 B [] (n + 1) (updK K n 7) m2 (qt_sH t1 h2) 0 0 N N rfl H2 T.heap b2 n1 (fun u hu => E02.ok (hv u hu)) hP (by decide) (by decide) (by omega) (by omega)
      rcases key with ⟨n', K', h3, m3, f1, f2, H3, E3, f5, f6⟩ | ⟨n', K', h3, m3, f1, f2, H3, E3, f5⟩
      · have E := E02.trans E3
        have em := f5.trans e2m
        rw [f1, f2, ob_, if_neg (show ¬ ((1 : Int32), qt_sH (qt_sH t1 h2) h3).1 = 0 from by show ¬ (1 : Int32) = 0; decide)]
        dsimp only
        have z3a : nr (qn_sT (qn_sH (qn_sT z t1) h2) (qt_sH (qt_sH t1 h2) h3)) = nr z := by unfold nr; simp only [gf_s_count, gf_s_most, gf_t_tasks, gf_t_environments, gf_t_rests, gf_t_helds, gf_t_gathereds, gn_s_argumentCount, gn_s_mode, gn_s_current, gn_s_operands, gn_s_environment, gn_s_steps, gn_s_limit, gn_s_failure, gn_t_arguments, gn_F, gn_T, gn_H, gm_s_values, gm_s_present, gm_s_limit, gm_s_steps, gm_s_mostFrames, gm_s_mode, gm_s_now, gm_s_operands, gm_s_around, gm_s_frames, gm_s_resultMany, gm_t_stack, gm_t_frameKind, gm_t_frameOne, gm_t_frameOther, gm_t_frameAround, gm_t_frameBase, gm_t_results]
        have z3b : qn_gH (qn_sT (qn_sH (qn_sT z t1) h2) (qt_sH (qt_sH t1 h2) h3)) = h3 := rfl
        have z3c : qn_g_environment (qn_sT (qn_sH (qn_sT z t1) h2) (qt_sH (qt_sH t1 h2) h3)) = qn_g_environment z := by simp only [gf_s_count, gf_s_most, gf_t_tasks, gf_t_environments, gf_t_rests, gf_t_helds, gf_t_gathereds, gn_s_argumentCount, gn_s_mode, gn_s_current, gn_s_operands, gn_s_environment, gn_s_steps, gn_s_limit, gn_s_failure, gn_t_arguments, gn_F, gn_T, gn_H, gm_s_values, gm_s_present, gm_s_limit, gm_s_steps, gm_s_mostFrames, gm_s_mode, gm_s_now, gm_s_operands, gm_s_around, gm_s_frames, gm_s_resultMany, gm_t_stack, gm_t_frameKind, gm_t_frameOne, gm_t_frameOther, gm_t_frameAround, gm_t_frameBase, gm_t_results]
        generalize qn_sT (qn_sH (qn_sT z t1) h2) (qt_sH (qt_sH t1 h2) h3) = z3 at *
        have q4' := E.ok q4
        obtain ⟨s1, s2, s3, s4, s5, s6, s7, s8, s9, s10, s11⟩ := H3.opr q4' k5 hw hrow
        have esec : qm_g_second m3 (ix (qm_g_now m)) = qm_g_second m (ix (qm_g_now m)) := (E.2.2 _ i1 (by omega) (by omega)).2
        rw [esec] at s3 s7 s8
        have hE : envr n' K' nr0 (vI 7 n) := ⟨E3.ok n1, n2, hx1⟩
        have e3 := em
        unfold mo at e3
        simp only [Prod.mk.injEq] at e3
        have ear : qm_g_around m3 = qm_g_around m := e3.2.2.2.2.2.2.2.2.2.1
        unfold cend qn_bindCaller
        rw [z3b, z3c, ear]
        by_cases k2 : kd (qm_g_second m (ix (qm_g_now m))) = 2
        · have hps : psym (qm_g_second m (ix (qm_g_now m))) = wt (qm_g_second m (ix (qm_g_now m))) := by unfold psym; rw [if_pos k2]
          have hwp : 0 ≤ wt (qm_g_second m (ix (qm_g_now m))) ∧ wt (qm_g_second m (ix (qm_g_now m))) < 100 := by have := p7; unfold ok prim at this; omega
          have hix := idx_of (m := m3) p7 hn (by omega)
          have hsr : qm_indexOf m3 (qm_g_second m (ix (qm_g_now m))) = qh_environmentSymbolOf h3 rx := i_ext (by rw [hix, s3, hps])
          have hw7 : qw_make 7 (Int32.toInt64 (qn_g_environment z)) = xw (qm_g_around m) := by
            have hb := (ok_b he.1 hn).2.2.2.1 (by have := he.2.1; omega) (by have := he.2.1; omega)
            rw [mk_vI (c := 7) (by decide) (by decide) he.2.2]
            unfold xw
            rw [he.2.1, if_pos (by decide)]
          rw [if_pos (mk2.mpr k2), hsr, hw7]
          generalize qh_environmentSymbolOf h3 rx = sy at *
          have hsyb : sy.toInt = wt (qm_g_second m (ix (qm_g_now m))) := by rw [s3, hps]
          have hne : ¬ sy = 127 := fun e => by rw [e] at hsyb; simp only [Int32.reduceToInt] at hsyb; omega
          rw [if_neg hne]
          have hPs : ¬ (∃ q ∈ B, (q.1 : Int) = sy.toInt) := by
            rintro ⟨q, hq, e1⟩
            refine hpr k2 (List.mem_map.mpr ⟨q, hq, ?_⟩)
            show q.1 = (wt (qm_g_second m (ix (qm_g_now m)))).toNat
            omega
          rcases H3.addB hN (E3.ok n1) n2 (by rw [n3]; omega) (E.ok he.1) (by omega) hx1 f6 hPs with ⟨hn4, h5, m5, a1, a2, a3, a4, a5, a6, a7⟩ | ⟨hn4, m5, a1, a2, a3, a4, a5, a6⟩
          · have E5 := E.trans a4
            have em5 := a5.trans em
            rw [a1, a2, ob_, if_neg (show ¬ ((1 : Int32), m5).1 = 0 from by show ¬ (1 : Int32) = 0; decide), if_neg (show ¬ ((1 : Int32), h5).1 = 0 from by show ¬ (1 : Int32) = 0; decide), if_neg (show ¬ ((1 : Int32), qn_sH z3 h5).1 = 0 from by show ¬ (1 : Int32) = 0; decide), if_pos hin, hcl]
            obtain ⟨w1, w2, w3, w4, w5, w6, w7, w8, w9, w10, w11⟩ := a3.opr (E5.ok q4) k5 hw hrow
            have eh5 : qn_gH (qn_sH z3 h5) = h5 := by simp only [gf_s_count, gf_s_most, gf_t_tasks, gf_t_environments, gf_t_rests, gf_t_helds, gf_t_gathereds, gn_s_argumentCount, gn_s_mode, gn_s_current, gn_s_operands, gn_s_environment, gn_s_steps, gn_s_limit, gn_s_failure, gn_t_arguments, gn_F, gn_T, gn_H, gm_s_values, gm_s_present, gm_s_limit, gm_s_steps, gm_s_mostFrames, gm_s_mode, gm_s_now, gm_s_operands, gm_s_around, gm_s_frames, gm_s_resultMany, gm_t_stack, gm_t_frameKind, gm_t_frameOne, gm_t_frameOther, gm_t_frameAround, gm_t_frameBase, gm_t_results]
            dsimp only
            rw [eh5, w4]
            exact ⟨0, _, _, rfl, rfl, MR.body H R hs hM a3 E5 em5 (by rw [← z3a]; unfold nr; simp only [gf_s_count, gf_s_most, gf_t_tasks, gf_t_environments, gf_t_rests, gf_t_helds, gf_t_gathereds, gn_s_argumentCount, gn_s_mode, gn_s_current, gn_s_operands, gn_s_environment, gn_s_steps, gn_s_limit, gn_s_failure, gn_t_arguments, gn_F, gn_T, gn_H, gm_s_values, gm_s_present, gm_s_limit, gm_s_steps, gm_s_mostFrames, gm_s_mode, gm_s_now, gm_s_operands, gm_s_around, gm_s_frames, gm_s_resultMany, gm_t_stack, gm_t_frameKind, gm_t_frameOne, gm_t_frameOther, gm_t_frameAround, gm_t_frameBase, gm_t_results]) eh5 w9 (envr.ext a4 hE)⟩
          · rw [a1, a2, ob_, if_pos (show ((0 : Int32), m5).1 = 0 from rfl), if_pos (show ((0 : Int32), h3).1 = 0 from rfl), if_pos (show ((0 : Int32), qn_sH z3 h3).1 = 0 from rfl)]
            exact ⟨-5, _, _, rfl, rfl, MR.bad H R a3 (E.trans (Ext.refl a4.symm)) (a5.trans em) (by rw [← z3a]; unfold nr; simp only [gf_s_count, gf_s_most, gf_t_tasks, gf_t_environments, gf_t_rests, gf_t_helds, gf_t_gathereds, gn_s_argumentCount, gn_s_mode, gn_s_current, gn_s_operands, gn_s_environment, gn_s_steps, gn_s_limit, gn_s_failure, gn_t_arguments, gn_F, gn_T, gn_H, gm_s_values, gm_s_present, gm_s_limit, gm_s_steps, gm_s_mostFrames, gm_s_mode, gm_s_now, gm_s_operands, gm_s_around, gm_s_frames, gm_s_resultMany, gm_t_stack, gm_t_frameKind, gm_t_frameOne, gm_t_frameOther, gm_t_frameAround, gm_t_frameBase, gm_t_results]) (by simp only [gf_s_count, gf_s_most, gf_t_tasks, gf_t_environments, gf_t_rests, gf_t_helds, gf_t_gathereds, gn_s_argumentCount, gn_s_mode, gn_s_current, gn_s_operands, gn_s_environment, gn_s_steps, gn_s_limit, gn_s_failure, gn_t_arguments, gn_F, gn_T, gn_H, gm_s_values, gm_s_present, gm_s_limit, gm_s_steps, gm_s_mostFrames, gm_s_mode, gm_s_now, gm_s_operands, gm_s_around, gm_s_frames, gm_s_resultMany, gm_t_stack, gm_t_frameKind, gm_t_frameOne, gm_t_frameOther, gm_t_frameAround, gm_t_frameBase, gm_t_results]) (by decide)⟩
        · have hps : psym (qm_g_second m (ix (qm_g_now m))) = 127 := by unfold psym; rw [if_neg k2]
          have hsy7 : qh_environmentSymbolOf h3 rx = 127 := i_ext (by rw [s3, hps]; decide)
          rw [if_neg (mt mk2.mp k2), hsy7, if_pos rfl, if_neg (show ¬ ((1 : Int32), z3).1 = 0 from by show ¬ (1 : Int32) = 0; decide), if_pos hin, hcl]
          dsimp only
          rw [z3b, s4]
          exact ⟨0, _, _, rfl, rfl, MR.body H R hs hM H3 E em z3a z3b s9 hE⟩
      · rw [f1, f2, ob_, if_pos (show ((0 : Int32), qt_sH (qt_sH t1 h2) h3).1 = 0 from rfl)]
        exact ⟨-5, _, _, rfl, rfl, MR.bad H R H3 (E02.trans E3) (f5.trans e2m) (by unfold nr; simp only [gf_s_count, gf_s_most, gf_t_tasks, gf_t_environments, gf_t_rests, gf_t_helds, gf_t_gathereds, gn_s_argumentCount, gn_s_mode, gn_s_current, gn_s_operands, gn_s_environment, gn_s_steps, gn_s_limit, gn_s_failure, gn_t_arguments, gn_F, gn_T, gn_H, gm_s_values, gm_s_present, gm_s_limit, gm_s_steps, gm_s_mostFrames, gm_s_mode, gm_s_now, gm_s_operands, gm_s_around, gm_s_frames, gm_s_resultMany, gm_t_stack, gm_t_frameKind, gm_t_frameOne, gm_t_frameOther, gm_t_frameAround, gm_t_frameBase, gm_t_results]) rfl (by decide)⟩
    · have h4' : n = 4000 := by omega
      rw [if_neg (by rw [H1.fl h4']; decide), H.add_full h4', if_pos rfl]
      exact ⟨-5, _, _, rfl, rfl, MR.bad H R H1 (Ext.refl sm.1.symm) sm.2 (by unfold nr; simp only [gf_s_count, gf_s_most, gf_t_tasks, gf_t_environments, gf_t_rests, gf_t_helds, gf_t_gathereds, gn_s_argumentCount, gn_s_mode, gn_s_current, gn_s_operands, gn_s_environment, gn_s_steps, gn_s_limit, gn_s_failure, gn_t_arguments, gn_F, gn_T, gn_H, gm_s_values, gm_s_present, gm_s_limit, gm_s_steps, gm_s_mostFrames, gm_s_mode, gm_s_now, gm_s_operands, gm_s_around, gm_s_frames, gm_s_resultMany, gm_t_stack, gm_t_frameKind, gm_t_frameOne, gm_t_frameOther, gm_t_frameAround, gm_t_frameBase, gm_t_results]) (by simp only [gf_s_count, gf_s_most, gf_t_tasks, gf_t_environments, gf_t_rests, gf_t_helds, gf_t_gathereds, gn_s_argumentCount, gn_s_mode, gn_s_current, gn_s_operands, gn_s_environment, gn_s_steps, gn_s_limit, gn_s_failure, gn_t_arguments, gn_F, gn_T, gn_H, gm_s_values, gm_s_present, gm_s_limit, gm_s_steps, gm_s_mostFrames, gm_s_mode, gm_s_now, gm_s_operands, gm_s_around, gm_s_frames, gm_s_resultMany, gm_t_stack, gm_t_frameKind, gm_t_frameOne, gm_t_frameOther, gm_t_frameAround, gm_t_frameBase, gm_t_results]) (by decide)⟩
end
