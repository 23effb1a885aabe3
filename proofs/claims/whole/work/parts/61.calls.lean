/-! ===== parts, bindings, pairs, lists, reads ===== -/
section
variable {s n : Nat} {K : Nat → Nat} {x : qx_S} {m : qm_S} {N : Nat}
theorem XR.pushParent (X : XR s n K x m) {w : Int64} (hw : ok n K w) (k7 : kd w = 7) : GO (qx_pushParent x (qw_rowOf (xw w))) (qm_pushPart_B89 m w 7) := by
  obtain ⟨X1, ⟨X2, X3, X4, X5⟩, -⟩ := id X
  have hn := X1.hn
  have hr := xw_row hw hn (by omega) (by omega)
  unfold qx_pushParent qm_pushPart_B89
  rw [X4]
  by_cases h40 : s = 40
  · rw [if_neg (show ¬ qm_g_values m < 40 by ((try simp only [Int32.lt_iff_toInt_lt, Int32.le_iff_toInt_le, Int64.lt_iff_toInt_lt, Int64.le_iff_toInt_le, ← Int32.toInt_inj, ← Int64.toInt_inj, Int32.reduceToInt, Int64.reduceToInt] at *); omega)), if_pos (show qm_g_values m = 40 by ((try simp only [Int32.lt_iff_toInt_lt, Int32.le_iff_toInt_le, Int64.lt_iff_toInt_lt, Int64.le_iff_toInt_le, ← Int32.toInt_inj, ← Int64.toInt_inj, Int32.reduceToInt, Int64.reduceToInt] at *); omega))]
    exact X.err _
  · rw [if_pos (show qm_g_values m < 40 by ((try simp only [Int32.lt_iff_toInt_lt, Int32.le_iff_toInt_le, Int64.lt_iff_toInt_lt, Int64.le_iff_toInt_le, ← Int32.toInt_inj, ← Int64.toInt_inj, Int32.reduceToInt, Int64.reduceToInt] at *); omega)), if_neg (show ¬ qm_g_values m = 40 by ((try simp only [Int32.lt_iff_toInt_lt, Int32.le_iff_toInt_le, Int64.lt_iff_toInt_lt, Int64.le_iff_toInt_le, ← Int32.toInt_inj, ← Int64.toInt_inj, Int32.reduceToInt, Int64.reduceToInt] at *); omega)), if_neg (show ¬ (7 : Int32) = 6 by decide)]
    obtain ⟨p, p1, ⟨rfl, p2, p3⟩ | ⟨p2, p3, p4, -⟩⟩ := X1.par hw k7 hr
    · rw [p1, p3, ob_, if_pos rfl, if_pos rfl]
      exact X.err _
    · have hb := (ok_b p2 hn).2.2.2.1 (by omega) (by omega)
      have hrb := row_b hb.1 hb.2
      have hne : ¬ qh_parentOf (qx_gH x) (qw_rowOf (xw w)) = -1 := fun e => by rw [e] at p4; simp only [Int32.reduceToInt] at p4; omega
      rw [p1, ob_, if_neg hne, if_neg (ok_ne_m1 p2), envr_xw ⟨p2, p3, p4⟩ hn]
      exact (X.push p2).fin
theorem XR.pushPart (X : XR s n K x m) (a b : Int32) : GO (qx_pushPart x a b) (qm_pushPart m a b) := by
  obtain ⟨X1, ⟨X2, X3, X4, X5⟩, -⟩ := id X
  have hn := X1.hn
  unfold qx_pushPart qm_pushPart
  rw [within_i (l := 0) (h := 1) (by decide) (by decide)]
  have hB : GO (qx_pushPart_B11 x a b) (if a < (0 : Int32) then some ((-1 : Int32), m) else if a < (qm_g_values m) then ((qm_at m a)).bind fun r4 =>
          if (qm_kindOf r4) = (4 : Int32) then if b = (0 : Int32) then ((qm_carOf m r4)).bind fun r15 => ((qm_pushes m r15)).bind fun r17 => some (r17.1, r17.2)
            else ((qm_cdrOf m r4)).bind fun r11 => ((qm_pushes m r11)).bind fun r13 => some (r13.1, r13.2)
          else if b = (1 : Int32) then some ((-4 : Int32), m)
            else if (qm_kindOf r4) = (6 : Int32) then (qm_pushPart_B89 m r4 (qm_kindOf r4))
              else if (qm_kindOf r4) = (7 : Int32) then (qm_pushPart_B89 m r4 (qm_kindOf r4))
                else some ((-4 : Int32), m) else some ((-2 : Int32), m)) ∨ ¬ (b = 0 ∨ b = 1) := by
    by_cases hb : b = 0 ∨ b = 1
    · refine Or.inl ?_
      unfold qx_pushPart_B11
      rcases X.bar a with ⟨h1, -, h3⟩ | ⟨h1, -, h3⟩ | ⟨d, hd, ha, h1, -⟩
      · rw [h1, if_neg (show ¬ (-1 : Int32) = 0 by decide), if_pos (show a < 0 by ((try simp only [Int32.lt_iff_toInt_lt, Int32.le_iff_toInt_le, Int64.lt_iff_toInt_lt, Int64.le_iff_toInt_le, ← Int32.toInt_inj, ← Int64.toInt_inj, Int32.reduceToInt, Int64.reduceToInt] at *); omega))]
        exact X.err _
      · rw [h1, if_neg (show ¬ (-2 : Int32) = 0 by decide), if_neg (show ¬ a < 0 by ((try simp only [Int32.lt_iff_toInt_lt, Int32.le_iff_toInt_le, Int64.lt_iff_toInt_lt, Int64.le_iff_toInt_le, ← Int32.toInt_inj, ← Int64.toInt_inj, Int32.reduceToInt, Int64.reduceToInt] at *); omega)), if_neg (show ¬ a < qm_g_values m by ((try simp only [Int32.lt_iff_toInt_lt, Int32.le_iff_toInt_le, Int64.lt_iff_toInt_lt, Int64.le_iff_toInt_le, ← Int32.toInt_inj, ← Int64.toInt_inj, Int32.reduceToInt, Int64.reduceToInt] at *); omega))]
        exact X.err _
      · obtain ⟨w, w1, w2, w3⟩ := X.at ha hd
        rw [h1, if_pos rfl, if_neg (show ¬ a < 0 by ((try simp only [Int32.lt_iff_toInt_lt, Int32.le_iff_toInt_le, Int64.lt_iff_toInt_lt, Int64.le_iff_toInt_le, ← Int32.toInt_inj, ← Int64.toInt_inj, Int32.reduceToInt, Int64.reduceToInt] at *); omega)), if_pos (show a < qm_g_values m by ((try simp only [Int32.lt_iff_toInt_lt, Int32.le_iff_toInt_le, Int64.lt_iff_toInt_lt, Int64.le_iff_toInt_le, ← Int32.toInt_inj, ← Int64.toInt_inj, Int32.reduceToInt, Int64.reduceToInt] at *); omega)), w1, w2, ob_]
        by_cases k4 : kd w = 4
        · obtain ⟨f1, f2, f3, f4, f5, f6, f7⟩ := X1.pair w3 (Nat.le_refl _) k4
          rw [if_pos (mk4.mpr k4), if_pos ((xk4 w3 hn).mpr k4)]
          by_cases b0 : b = 0
          · rw [if_pos b0, if_pos b0, f3, f1, ob_]
            exact (X.push (ok_mono f5 (by omega) (fun _ _ => rfl))).fin
          · rw [if_neg b0, if_neg b0, f4, f2, ob_]
            exact (X.push (ok_mono f6 (by omega) (fun _ _ => rfl))).fin
        · rw [if_neg (mt mk4.mp k4), if_neg (mt (xk4 w3 hn).mp k4)]
          rcases hb with rfl | rfl
          · rw [if_pos rfl, if_neg (show ¬ (0 : Int32) = 1 by decide)]
            by_cases k6 : kd w = 6
            · obtain ⟨u1, u2, u3, u4, u5, u6⟩ := X1.und w3 (Nat.le_refl _) k6
              rw [if_pos (mk6.mpr k6), if_pos ((xk6 w3 hn).mpr k6), mk6.mpr k6, u2]
              unfold qm_pushPart_B89
              rw [if_pos (show (6 : Int32) = 6 from rfl), u1, ob_, if_neg (ok_ne_m1 u3)]
              have G := X.push u3
              by_cases h40 : qm_g_values m = 40
              · rw [if_pos h40]
                have e : qm_pushes m (undr m w) = some (-3, m) := by unfold qm_pushes; rw [if_pos h40]
                rw [e] at G
                exact G
              · rw [if_neg h40]
                exact G.fin
            · rw [if_neg (mt mk6.mp k6), if_neg (mt (xk6 w3 hn).mp k6), if_pos rfl]
              by_cases k7 : kd w = 7
              · rw [if_pos (mk7.mpr k7), if_pos ((xk7 w3 hn).mpr k7), mk7.mpr k7]
                exact X.pushParent w3 k7
              · rw [if_neg (mt mk7.mp k7), if_neg (mt (xk7 w3 hn).mp k7)]
                exact X.err _
          · rw [if_neg (show ¬ (1 : Int32) = 0 by decide), if_neg (show ¬ (1 : Int32) = 0 by decide), if_pos rfl]
            exact X.err _
    · exact Or.inr hb
  by_cases b0 : b = 0
  · have hbb : 0 ≤ b.toInt ∧ b.toInt ≤ 1 := by rw [b0]; decide
    rw [if_pos b0, if_pos hbb, if_neg (show ¬ (1 : Int32) = 0 by decide)]
    exact hB.resolve_right (fun h => h (Or.inl b0))
  · by_cases b1 : b = 1
    · have hbb : 0 ≤ b.toInt ∧ b.toInt ≤ 1 := by rw [b1]; decide
      rw [if_neg b0, if_pos b1, if_pos hbb, if_neg (show ¬ (1 : Int32) = 0 by decide)]
      exact hB.resolve_right (fun h => h (Or.inr b1))
    · have hbb : ¬ (0 ≤ b.toInt ∧ b.toInt ≤ 1) := fun h => by
        rcases (show b.toInt = 0 ∨ b.toInt = 1 by omega) with e | e
        · exact b0 (i_ext (by rw [e]; decide))
        · exact b1 (i_ext (by rw [e]; decide))
      rw [if_neg b0, if_neg b1, if_neg hbb, if_pos rfl, ite_self]
      exact X.err _
theorem XR.pushBinding (X : XR s n K x m) (hN : 5000 ≤ N) (a b : Int32) : ∃ p, qx_pushBinding N x a b = some p ∧ GO p (qm_pushBinding N m a b) := by
  obtain ⟨X1, ⟨X2, X3, X4, X5⟩, -⟩ := id X
  have hn := X1.hn
  unfold qx_pushBinding qm_pushBinding
  rw [within_i (l := 0) (h := 99) (by decide) (by decide), isSymbol_i]
  by_cases hb : 0 ≤ b.toInt ∧ b.toInt ≤ 99
  · rw [if_pos hb, if_neg (show ¬ (1 : Int32) = 0 by decide), if_neg (show ¬ (1 : Int32) = 0 by decide)]
    unfold qx_kindError
    rcases X.bar a with ⟨h1, -, h3⟩ | ⟨h1, -, h3⟩ | ⟨d, hd, ha, h1, -⟩
    · rw [h1, if_neg (show ¬ (-1 : Int32) = 0 by decide), if_neg (show ¬ (-1 : Int32) = 0 by decide), if_pos (show a < 0 by ((try simp only [Int32.lt_iff_toInt_lt, Int32.le_iff_toInt_le, Int64.lt_iff_toInt_lt, Int64.le_iff_toInt_le, ← Int32.toInt_inj, ← Int64.toInt_inj, Int32.reduceToInt, Int64.reduceToInt] at *); omega))]
      exact ⟨_, rfl, X.err _⟩
    · rw [h1, if_neg (show ¬ (-2 : Int32) = 0 by decide), if_neg (show ¬ (-2 : Int32) = 0 by decide), if_neg (show ¬ a < 0 by ((try simp only [Int32.lt_iff_toInt_lt, Int32.le_iff_toInt_le, Int64.lt_iff_toInt_lt, Int64.le_iff_toInt_le, ← Int32.toInt_inj, ← Int64.toInt_inj, Int32.reduceToInt, Int64.reduceToInt] at *); omega)), if_neg (show ¬ a < qm_g_values m by ((try simp only [Int32.lt_iff_toInt_lt, Int32.le_iff_toInt_le, Int64.lt_iff_toInt_lt, Int64.le_iff_toInt_le, ← Int32.toInt_inj, ← Int64.toInt_inj, Int32.reduceToInt, Int64.reduceToInt] at *); omega))]
      exact ⟨_, rfl, X.err _⟩
    · obtain ⟨w, w1, w2, w3⟩ := X.at ha hd
      rw [h1, if_pos rfl, if_neg (show ¬ a < 0 by ((try simp only [Int32.lt_iff_toInt_lt, Int32.le_iff_toInt_le, Int64.lt_iff_toInt_lt, Int64.le_iff_toInt_le, ← Int32.toInt_inj, ← Int64.toInt_inj, Int32.reduceToInt, Int64.reduceToInt] at *); omega)), if_pos (show a < qm_g_values m by ((try simp only [Int32.lt_iff_toInt_lt, Int32.le_iff_toInt_le, Int64.lt_iff_toInt_lt, Int64.le_iff_toInt_le, ← Int32.toInt_inj, ← Int64.toInt_inj, Int32.reduceToInt, Int64.reduceToInt] at *); omega)), w1, w2, ob_]
      by_cases k7 : kd w = 7
      · rw [if_pos (mk7.mpr k7), if_pos ((xk7 w3 hn).mpr k7), if_pos rfl, ob_]
        rcases X1.finds hN w3 k7 (s := b) (by omega) (xw_row w3 hn (by omega) (by omega)) with ⟨i, r, v, g1, g2, g3, g4, g5⟩ | ⟨i, v, g1, g2⟩
        · have hg : qh_boundValueOf (qx_gH x) r = xw v := g4
          have X' : XR s n K x (fnd m i v) := X.same (fnd_mh m i v) (mxo_of (m := m) (m' := fnd m i v) rfl)
          rw [g1, g2, ob_, ob_, if_neg (show ¬ ((1 : Int32), fnd m i v).1 = 0 from by show ¬ (1 : Int32) = 0; decide), if_neg (by ((try simp only [Int32.lt_iff_toInt_lt, Int32.le_iff_toInt_le, Int64.lt_iff_toInt_lt, Int64.le_iff_toInt_le, ← Int32.toInt_inj, ← Int64.toInt_inj, Int32.reduceToInt, Int64.reduceToInt] at *); omega)), hg]
          exact ⟨_, rfl, (X'.push g5).fin⟩
        · have X' : XR s n K x (fnd m i v) := X.same (fnd_mh m i v) (mxo_of (m := m) (m' := fnd m i v) rfl)
          rw [g1, g2, ob_, ob_, if_pos (show ((0 : Int32), fnd m i v).1 = 0 from rfl), if_pos rfl]
          exact ⟨_, rfl, X'.err _⟩
      · rw [if_neg (mt mk7.mp k7), if_neg (mt (xk7 w3 hn).mp k7), if_neg (show ¬ (-4 : Int32) = 0 by decide)]
        exact ⟨_, rfl, X.err _⟩
  · rw [if_neg hb, if_pos rfl, if_pos rfl, ite_self]
    exact ⟨_, rfl, X.err _⟩
/-- fewer values -/
theorem XR.less (X : XR s n K x m) {t : Nat} (ht : t ≤ s) {v : Int32} (hv : v.toInt = t) : XR t n K (qx_s_stackSize x v) (qm_s_values m v) := by
  obtain ⟨X1, ⟨X2, X3, X4, X5⟩, X6, X7, X8⟩ := X
  have e1 : mh (qm_s_values m v) = mh m := by simp only [gf_s_count, gf_s_most, gf_t_tasks, gf_t_environments, gf_t_rests, gf_t_helds, gf_t_gathereds, gn_s_argumentCount, gn_s_mode, gn_s_current, gn_s_operands, gn_s_environment, gn_s_steps, gn_s_limit, gn_s_failure, gn_t_arguments, gn_F, gn_T, gn_H, gm_s_values, gm_s_present, gm_s_limit, gm_s_steps, gm_s_mostFrames, gm_s_mode, gm_s_now, gm_s_operands, gm_s_around, gm_s_frames, gm_s_resultMany, gm_t_stack, gm_t_frameKind, gm_t_frameOne, gm_t_frameOther, gm_t_frameAround, gm_t_frameBase, gm_t_results]
  have HH : HR n K (qx_gH x) (qm_s_values m v) := X1.of e1
  unfold XR
  simp only [gx_stackSize, gf_s_count, gf_s_most, gf_t_tasks, gf_t_environments, gf_t_rests, gf_t_helds, gf_t_gathereds, gn_s_argumentCount, gn_s_mode, gn_s_current, gn_s_operands, gn_s_environment, gn_s_steps, gn_s_limit, gn_s_failure, gn_t_arguments, gn_F, gn_T, gn_H, gm_s_values, gm_s_present, gm_s_limit, gm_s_steps, gm_s_mostFrames, gm_s_mode, gm_s_now, gm_s_operands, gm_s_around, gm_s_frames, gm_s_resultMany, gm_t_stack, gm_t_frameKind, gm_t_frameOne, gm_t_frameOther, gm_t_frameAround, gm_t_frameBase, gm_t_results]
  exact ⟨HH, ⟨by omega, hv, trivial, fun j hj => X5 j (by omega)⟩, X6, X7, X8⟩
/-- a new pair -/
theorem XR.pair (X : XR s n K x m) (hn : n < 4000) {a b : Int64} (ha : ok n K a) (hb : ok n K b) : XR s (n + 1) (updK K n 4) (qx_sH x (hadd (qx_gH x) (xw a) (xw b))) (madd m a b) := by
  obtain ⟨H2, E2⟩ := X.1.newPair hn ha hb
  exact X.to H2 E2 (by unfold xo; simp only [gx_H, gf_s_count, gf_s_most, gf_t_tasks, gf_t_environments, gf_t_rests, gf_t_helds, gf_t_gathereds, gn_s_argumentCount, gn_s_mode, gn_s_current, gn_s_operands, gn_s_environment, gn_s_steps, gn_s_limit, gn_s_failure, gn_t_arguments, gn_F, gn_T, gn_H, gm_s_values, gm_s_present, gm_s_limit, gm_s_steps, gm_s_mostFrames, gm_s_mode, gm_s_now, gm_s_operands, gm_s_around, gm_s_frames, gm_s_resultMany, gm_t_stack, gm_t_frameKind, gm_t_frameOne, gm_t_frameOther, gm_t_frameAround, gm_t_frameBase, gm_t_results]) (mxo_of (madd_mo m a b).1)
theorem XR.makePair (X : XR s n K x m) : GO (qx_makePair x) (qm_makePair m) := by
  obtain ⟨X1, ⟨X2, X3, X4, X5⟩, -⟩ := id X
  unfold qx_makePair qm_makePair
  rw [X4]
  by_cases h2 : 2 ≤ s
  · obtain ⟨u, u1, u2, u3⟩ := X.at (a := 1) (d := 1) (by decide) (by omega)
    obtain ⟨v, v1, v2, v3⟩ := X.at (a := 0) (d := 0) (by decide) (by omega)
    rw [if_pos (show (2 : Int32) ≤ qm_g_values m by ((try simp only [Int32.lt_iff_toInt_lt, Int32.le_iff_toInt_le, Int64.lt_iff_toInt_lt, Int64.le_iff_toInt_le, ← Int32.toInt_inj, ← Int64.toInt_inj, Int32.reduceToInt, Int64.reduceToInt] at *); omega)), if_pos (show (2 : Int32) ≤ qm_g_values m by ((try simp only [Int32.lt_iff_toInt_lt, Int32.le_iff_toInt_le, Int64.lt_iff_toInt_lt, Int64.le_iff_toInt_le, ← Int32.toInt_inj, ← Int64.toInt_inj, Int32.reduceToInt, Int64.reduceToInt] at *); omega)), u2, v2]
    unfold qh_addPair
    by_cases hn : n < 4000
    · obtain ⟨n1, n2, n3⟩ := ok_new (n := n) (k := 4) (K := K) (by decide) hn
      have X2 := X.pair hn u3 v3
      have hv2 : qm_g_values (madd m u v) = qm_g_values m := by
        have := mxo_of (madd_mo m u v).1
        unfold mxo at this
        simp only [Prod.mk.injEq] at this
        exact this.2.1
      have hs2 : (qm_g_values m - 2).toInt = ((s - 2 : Nat) : Int) := by rw [i_sub] <;> simp only [Int32.reduceToInt] <;> omega
      rw [if_pos (X1.nf hn), u1, ob_, v1, ob_, adds_ok X1.ho hn (c := 4) (by decide) (by decide), ob_, X1.add_ok hn]
      dsimp only
      rw [if_neg (row_ne X1), X1.made hn (c := 4) (by decide) (by decide), hv2]
      exact ((X2.less (t := s - 2) (by omega) hs2).push n1).fin
    · have h4 : n = 4000 := by have := X1.hn; omega
      rw [if_neg (show ¬ qm_isFull m = 0 by rw [X1.fl h4]; decide), X1.add_full h4, if_pos rfl]
      exact X.err _
  · rw [if_neg (show ¬ (2 : Int32) ≤ qm_g_values m by ((try simp only [Int32.lt_iff_toInt_lt, Int32.le_iff_toInt_le, Int64.lt_iff_toInt_lt, Int64.le_iff_toInt_le, ← Int32.toInt_inj, ← Int64.toInt_inj, Int32.reduceToInt, Int64.reduceToInt] at *); omega)), if_neg (show ¬ (2 : Int32) ≤ qm_g_values m by ((try simp only [Int32.lt_iff_toInt_lt, Int32.le_iff_toInt_le, Int64.lt_iff_toInt_lt, Int64.le_iff_toInt_le, ← Int32.toInt_inj, ← Int64.toInt_inj, Int32.reduceToInt, Int64.reduceToInt] at *); omega))]
    exact X.err _
theorem list_aux (hN : 5000 ≤ N) {x1 : Int32} {t : Nat} (h1 : x1.toInt = t) : ∀ (d c n : Nat) (K : Nat → Nat) (x : qx_S) (m : qm_S) (l : Int64) (y : Int32) (k k2 : Nat), c + d = t → XR s n K x m → ok n K l → t ≤ s → n + d ≤ 4000 → y.toInt = c → d < k → d < k2 →
    ∃ p, qx_makeList_L33 N k x x1 (xw l) y = some p ∧ GO p (qm_makeList_L57 N k2 m x1 l y) := by
  intro d
  induction d with
  | zero =>
    intro c n K x m l y k k2 hc X hl ht hn hy hk hk2
    obtain ⟨k, rfl⟩ : ∃ j, k = j + 1 := ⟨k - 1, by omega⟩
    obtain ⟨k2, rfl⟩ : ∃ j, k2 = j + 1 := ⟨k2 - 1, by omega⟩
    obtain ⟨X1, ⟨X2, X3, X4, X5⟩, -⟩ := id X
    have hs2 : (qm_g_values m - x1).toInt = ((s - t : Nat) : Int) := by rw [i_sub] <;> omega
    rw [qx_makeList_L33_s, qm_makeList_L57_s, if_pos (show x1 ≤ y by ((try simp only [Int32.lt_iff_toInt_lt, Int32.le_iff_toInt_le, Int64.lt_iff_toInt_lt, Int64.le_iff_toInt_le, ← Int32.toInt_inj, ← Int64.toInt_inj, Int32.reduceToInt, Int64.reduceToInt] at *); omega)), if_pos (show x1 ≤ y by ((try simp only [Int32.lt_iff_toInt_lt, Int32.le_iff_toInt_le, Int64.lt_iff_toInt_lt, Int64.le_iff_toInt_le, ← Int32.toInt_inj, ← Int64.toInt_inj, Int32.reduceToInt, Int64.reduceToInt] at *); omega)), X4]
    exact ⟨_, rfl, ((X.less (t := s - t) (by omega) hs2).push hl).fin⟩
  | succ d ih =>
    intro c n K x m l y k k2 hc X hl ht hn hy hk hk2
    obtain ⟨k, rfl⟩ : ∃ j, k = j + 1 := ⟨k - 1, by omega⟩
    obtain ⟨k2, rfl⟩ : ∃ j, k2 = j + 1 := ⟨k2 - 1, by omega⟩
    obtain ⟨X1, ⟨X2, X3, X4, X5⟩, -⟩ := id X
    have hn4 : n < 4000 := by omega
    obtain ⟨u, u1, u2, u3⟩ := X.at (a := y) (d := c) hy (by omega)
    obtain ⟨n1, n2, n3⟩ := ok_new (n := n) (k := 4) (K := K) (by decide) hn4
    have hy1 : (y + 1).toInt = ((c + 1 : Nat) : Int) := by rw [i_add] <;> simp only [Int32.reduceToInt] <;> omega
    have hA : qh_addPair (qx_gH x) (xw u) (xw l) = (qh_g_nextRow (qx_gH x), hadd (qx_gH x) (xw u) (xw l)) := by
      unfold qh_addPair
      rw [X1.add_ok hn4]
    rw [qx_makeList_L33_s, qm_makeList_L57_s, if_neg (show ¬ x1 ≤ y by ((try simp only [Int32.lt_iff_toInt_lt, Int32.le_iff_toInt_le, Int64.lt_iff_toInt_lt, Int64.le_iff_toInt_le, ← Int32.toInt_inj, ← Int64.toInt_inj, Int32.reduceToInt, Int64.reduceToInt] at *); omega)), if_neg (show ¬ x1 ≤ y by ((try simp only [Int32.lt_iff_toInt_lt, Int32.le_iff_toInt_le, Int64.lt_iff_toInt_lt, Int64.le_iff_toInt_le, ← Int32.toInt_inj, ← Int64.toInt_inj, Int32.reduceToInt, Int64.reduceToInt] at *); omega)), u1, u2, ob_, adds_ok X1.ho hn4 (c := 4) (by decide) (by decide), ob_, hA]
    dsimp only
    rw [X1.made hn4 (c := 4) (by decide) (by decide)]
    exact ih (c + 1) (n + 1) (updK K n 4) _ _ (vI 4 n) (y + 1) k k2 (by omega) (X.pair hn4 u3 hl) n1 ht (by omega) hy1 (by omega) (by omega)
theorem XR.cnt (X : XR s n K x m) (a : Int32) : (qx_countError x a = -1 ∧ ¬ (0 ≤ a.toInt ∧ a.toInt ≤ 40)) ∨ (qx_countError x a = -2 ∧ (0 ≤ a.toInt ∧ a.toInt ≤ 40) ∧ (s : Int) < a.toInt) ∨ (∃ t : Nat, t ≤ s ∧ a.toInt = t ∧ qx_countError x a = 0) := by
  obtain ⟨X1, ⟨X2, X3, X4, X5⟩, -⟩ := X
  unfold qx_countError
  rw [X4]
  by_cases h0 : a < 0
  · have : a.toInt < 0 := by ((try simp only [Int32.lt_iff_toInt_lt, Int32.le_iff_toInt_le, Int64.lt_iff_toInt_lt, Int64.le_iff_toInt_le, ← Int32.toInt_inj, ← Int64.toInt_inj, Int32.reduceToInt, Int64.reduceToInt] at *); omega)
    rw [if_pos h0]
    exact Or.inl ⟨rfl, by omega⟩
  · have h0' : ¬ a.toInt < 0 := by ((try simp only [Int32.lt_iff_toInt_lt, Int32.le_iff_toInt_le, Int64.lt_iff_toInt_lt, Int64.le_iff_toInt_le, ← Int32.toInt_inj, ← Int64.toInt_inj, Int32.reduceToInt, Int64.reduceToInt] at *); omega)
    rw [if_neg h0]
    by_cases h1 : a ≤ 40
    · have h1' : a.toInt ≤ 40 := by ((try simp only [Int32.lt_iff_toInt_lt, Int32.le_iff_toInt_le, Int64.lt_iff_toInt_lt, Int64.le_iff_toInt_le, ← Int32.toInt_inj, ← Int64.toInt_inj, Int32.reduceToInt, Int64.reduceToInt] at *); omega)
      rw [if_pos h1]
      by_cases h2 : a ≤ qm_g_values m
      · have h2' : a.toInt ≤ s := by ((try simp only [Int32.lt_iff_toInt_lt, Int32.le_iff_toInt_le, Int64.lt_iff_toInt_lt, Int64.le_iff_toInt_le, ← Int32.toInt_inj, ← Int64.toInt_inj, Int32.reduceToInt, Int64.reduceToInt] at *); omega)
        rw [if_pos h2]
        exact Or.inr (Or.inr ⟨a.toInt.toNat, by omega, by omega, rfl⟩)
      · have h2' : ¬ a.toInt ≤ s := by ((try simp only [Int32.lt_iff_toInt_lt, Int32.le_iff_toInt_le, Int64.lt_iff_toInt_lt, Int64.le_iff_toInt_le, ← Int32.toInt_inj, ← Int64.toInt_inj, Int32.reduceToInt, Int64.reduceToInt] at *); omega)
        rw [if_neg h2]
        exact Or.inr (Or.inl ⟨rfl, by omega, by omega⟩)
    · have h1' : ¬ a.toInt ≤ 40 := by ((try simp only [Int32.lt_iff_toInt_lt, Int32.le_iff_toInt_le, Int64.lt_iff_toInt_lt, Int64.le_iff_toInt_le, ← Int32.toInt_inj, ← Int64.toInt_inj, Int32.reduceToInt, Int64.reduceToInt] at *); omega)
      rw [if_neg h1]
      exact Or.inl ⟨rfl, by omega⟩
theorem XR.makeList (X : XR s n K x m) (hN : 5000 ≤ N) (a : Int32) : ∃ p, qx_makeList N x a = some p ∧ GO p (qm_makeList N m a) := by
  obtain ⟨X1, ⟨X2, X3, X4, X5⟩, -⟩ := id X
  have hn := X1.hn
  have ho := X1.ho
  have hr := X1.hr
  unfold qx_makeList qm_makeList
  rw [within_i (l := 0) (h := 40) (by decide) (by decide)]
  rcases X.cnt a with ⟨h1, h2⟩ | ⟨h1, h2, h3⟩ | ⟨t, ht, ha, h1⟩
  · rw [h1, if_neg (show ¬ (-1 : Int32) = 0 by decide), if_neg h2, if_pos rfl]
    exact ⟨_, rfl, X.err _⟩
  · rw [h1, if_neg (show ¬ (-2 : Int32) = 0 by decide), if_pos h2, if_neg (show ¬ (1 : Int32) = 0 by decide), if_neg (show ¬ a ≤ qm_g_values m by ((try simp only [Int32.lt_iff_toInt_lt, Int32.le_iff_toInt_le, Int64.lt_iff_toInt_lt, Int64.le_iff_toInt_le, ← Int32.toInt_inj, ← Int64.toInt_inj, Int32.reduceToInt, Int64.reduceToInt] at *); omega))]
    exact ⟨_, rfl, X.err _⟩
  · have hsum : (qm_g_objects m + a).toInt = ((n + t : Nat) : Int) := by rw [i_add] <;> omega
    have hdif : ((4100 : Int32) - qh_g_nextRow (qx_gH x)).toInt = (4000 : Int) - n := by rw [i_sub] <;> simp only [Int32.reduceToInt] <;> omega
    rw [h1, if_pos rfl, if_pos (show 0 ≤ a.toInt ∧ a.toInt ≤ 40 by omega), if_neg (show ¬ (1 : Int32) = 0 by decide), if_pos (show a ≤ qm_g_values m by ((try simp only [Int32.lt_iff_toInt_lt, Int32.le_iff_toInt_le, Int64.lt_iff_toInt_lt, Int64.le_iff_toInt_le, ← Int32.toInt_inj, ← Int64.toInt_inj, Int32.reduceToInt, Int64.reduceToInt] at *); omega))]
    unfold qh_hasRoomFor
    by_cases hroom : n + t ≤ 4000
    · have c1 : qm_g_objects m + a ≤ 4000 := by rw [Int32.le_iff_toInt_le, hsum]; show _ ≤ (4000 : Int32).toInt; rw [show (4000 : Int32).toInt = 4000 from by decide]; omega
      have c2 : ¬ (4100 : Int32) - qh_g_nextRow (qx_gH x) < a := by rw [Int32.lt_iff_toInt_lt, hdif]; omega
      rw [if_pos c1, if_neg c2, if_neg (show ¬ (1 : Int32) = 0 by decide)]
      obtain ⟨p, p1, p2⟩ := list_aux (s := s) hN ha t 0 n K x m 3 0 N N (by omega) X ok_nil ht (by omega) (by decide) (by omega) (by omega)
      rw [xw3] at p1
      refine ⟨p, p1, ?_⟩
      by_cases a0 : a = 0
      · rw [if_pos a0]
        have e : qm_makeList_L57 N N m a 3 0 = (qm_pushes m 3).bind fun r => some (r.1, r.2) := by
          obtain ⟨N', rfl⟩ : ∃ j, N = j + 1 := ⟨N - 1, by omega⟩
          have ev : qm_s_values m (qm_g_values m - 0) = m := by
            have : qm_g_values m - 0 = qm_g_values m := i_ext (by rw [i_sub] <;> simp only [Int32.reduceToInt] <;> omega)
            rw [this]; rfl
          rw [qm_makeList_L57_s, a0, if_pos (by decide), ev]
        rw [← e]
        exact p2
      · rw [if_neg a0]
        exact p2
    · have c1 : ¬ qm_g_objects m + a ≤ 4000 := by rw [Int32.le_iff_toInt_le, hsum]; show ¬ _ ≤ (4000 : Int32).toInt; rw [show (4000 : Int32).toInt = 4000 from by decide]; omega
      have c2 : (4100 : Int32) - qh_g_nextRow (qx_gH x) < a := by rw [Int32.lt_iff_toInt_lt, hdif]; omega
      rw [if_neg c1, if_pos c2, if_pos rfl]
      exact ⟨_, rfl, X.err _⟩
theorem XR.drop (X : XR s n K x m) (a : Int32) : GO (qx_drop x a) (some ((qm_drop m a).1, (qm_drop m a).2)) := by
  obtain ⟨X1, ⟨X2, X3, X4, X5⟩, -⟩ := id X
  unfold qx_drop qm_drop
  rw [within_i (l := 0) (h := 40) (by decide) (by decide)]
  rcases X.cnt a with ⟨h1, h2⟩ | ⟨h1, h2, h3⟩ | ⟨t, ht, ha, h1⟩
  · rw [h1, if_neg (show ¬ (-1 : Int32) = 0 by decide), if_neg h2, if_pos rfl]
    exact X.err _
  · rw [h1, if_neg (show ¬ (-2 : Int32) = 0 by decide), if_pos h2, if_neg (show ¬ (1 : Int32) = 0 by decide), if_neg (show ¬ a ≤ qm_g_values m by ((try simp only [Int32.lt_iff_toInt_lt, Int32.le_iff_toInt_le, Int64.lt_iff_toInt_lt, Int64.le_iff_toInt_le, ← Int32.toInt_inj, ← Int64.toInt_inj, Int32.reduceToInt, Int64.reduceToInt] at *); omega))]
    exact X.err _
  · have hs2 : (qm_g_values m - a).toInt = ((s - t : Nat) : Int) := by rw [i_sub] <;> omega
    rw [h1, if_pos rfl, if_pos (show 0 ≤ a.toInt ∧ a.toInt ≤ 40 by omega), if_neg (show ¬ (1 : Int32) = 0 by decide), if_pos (show a ≤ qm_g_values m by ((try simp only [Int32.lt_iff_toInt_lt, Int32.le_iff_toInt_le, Int64.lt_iff_toInt_lt, Int64.le_iff_toInt_le, ← Int32.toInt_inj, ← Int64.toInt_inj, Int32.reduceToInt, Int64.reduceToInt] at *); omega)), X4]
    exact ⟨_, s - t, n, K, rfl, X.less (by omega) hs2⟩
end
