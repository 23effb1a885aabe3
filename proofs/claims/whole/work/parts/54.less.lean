/-! ===== subtract, less ===== -/
section
variable {n : Nat} {K : Nat → Nat} {m : qm_S} {z : qn_S} {F A : Nat} {M : Int} {N : Nat}
theorem alli2 {L : List Int64} (h : L.length = 2) : alli L ↔ kd (el L 0) = 0 ∧ kd (el L 1) = 0 := by
  match L, h with
  | [a, b], _ =>
    rw [alli_cons, alli_cons]
    exact ⟨fun h => ⟨h.1, h.2.1⟩, fun h => ⟨h.1, h.2, alli_nil⟩⟩
/-- an integer on both sides -/
theorem int_w {b : Nat} {a : Int64} (h : ok b K a) (k0 : kd a = 0) : xw a = a ∧ qm_whatOf a = qw_contentOf a ∧ (qw_contentOf a).toInt = wt a ∧ -1000000000000000 ≤ wt a ∧ wt a ≤ 1000000000000000 := by
  refine ⟨xw_same (by omega), rfl, qw_contentOf_wt a, ?_, ?_⟩ <;> (unfold ok prim at h; omega)
theorem PC.p12 (C : PC n K m z F A M) (hN : 5000 ≤ N) {L : List Int64} (hL : lst (qm_g_first m) (qm_g_second m) L (qm_g_operands m)) : PO N n K m z M 12 := by
  obtain ⟨H, R, ⟨o1, o2⟩, he, hs, hM⟩ := id C
  have hm := C.two hN hL (p := 12) (by decide)
  by_cases h2 : L.length = 2
  · obtain ⟨x1, x2, x3⟩ := C.opx hN hL (j := 0) (x := 0) (by omega) (by decide)
    obtain ⟨y1, y2, y3⟩ := C.opx hN hL (j := 1) (x := 1) (by omega) (by decide)
    rw [if_pos h2] at hm
    unfold qm_combinesTwo at hm
    rcases C.ints hN hL 0 with ⟨i1, i2, -⟩ | ⟨i1, i2, -⟩
    · obtain ⟨k0, k1⟩ := (alli2 h2).mp i1
      obtain ⟨a1, a2, a3, a4, a5⟩ := int_w x1 k0
      obtain ⟨b1, b2, b3, b4, b5⟩ := int_w y1 k1
      have hk : qn_haveDueKinds N z 12 (nI L.length) = some (1, z) := by
        unfold qn_haveDueKinds
        rw [if_neg (show ¬ (12 : Int32) = 1 by decide), if_neg (show ¬ (12 : Int32) = 2 by decide), if_neg (show ¬ (12 : Int32) = 3 by decide), if_neg (show ¬ (12 : Int32) = 4 by decide), if_neg (show ¬ (12 : Int32) = 5 by decide), if_neg (show ¬ (12 : Int32) = 6 by decide), if_neg (show ¬ (12 : Int32) = 7 by decide), if_neg (show ¬ (12 : Int32) = 8 by decide), if_neg (show ¬ (12 : Int32) = 9 by decide), if_neg (show ¬ (12 : Int32) = 10 by decide), if_neg (show ¬ (12 : Int32) = 11 by decide), if_pos rfl, i2, ob_, bz1]
      have hx := C.data hN hL (p := 12) (o := 2) (by decide) (by decide) (Or.inl (by rw [h2]; rfl)) hk
      unfold qn_callDataFunction at hx
      rw [if_neg (show ¬ (12 : Int32) = 10 by decide), if_neg (show ¬ (12 : Int32) = 11 by decide), if_pos rfl, x3, ob_, y3, ob_, ob_, a1, b1] at hx
      rw [if_pos (mk0.mpr k0), if_pos (mk0.mpr k1)] at hm
      unfold qm_combinesTwo_B20 at hm
      rw [if_neg (show ¬ (1 : Int32) = 0 by decide), a2, b2] at hm
      unfold qm_combinesTwo_B41 at hm
      rw [if_pos rfl, if_neg (show ¬ (1 : Int32) = 0 by decide), isIn_int] at hm
      unfold qn_giveBackInteger at hx
      generalize qw_contentOf (el L 0) - qw_contentOf (el L 1) = d at hm hx
      by_cases h0 : qw_isInteger d = 0
      · rw [if_pos h0, ob_] at hm
        rw [if_pos h0] at hx
        exact ⟨-9, _, _, hm, hx, R.fail H (by decide)⟩
      · obtain ⟨v1, v2⟩ := int_ok (n := n) (K := K) h0
        rw [if_neg h0, ob_] at hm
        rw [if_neg h0, ← v2] at hx
        exact ⟨0, _, _, hm, hx, R.give H v1 hs hM⟩
    · have hx := C.due hN hL (p := 12) (o := 2) (by decide) (by decide) (Or.inl (by rw [h2]; rfl))
      unfold qn_haveDueKinds at hx
      rw [if_neg (show ¬ (12 : Int32) = 1 by decide), if_neg (show ¬ (12 : Int32) = 2 by decide), if_neg (show ¬ (12 : Int32) = 3 by decide), if_neg (show ¬ (12 : Int32) = 4 by decide), if_neg (show ¬ (12 : Int32) = 5 by decide), if_neg (show ¬ (12 : Int32) = 6 by decide), if_neg (show ¬ (12 : Int32) = 7 by decide), if_neg (show ¬ (12 : Int32) = 8 by decide), if_neg (show ¬ (12 : Int32) = 9 by decide), if_neg (show ¬ (12 : Int32) = 10 by decide), if_neg (show ¬ (12 : Int32) = 11 by decide), if_pos rfl, i2, ob_, ob_, if_pos (show (bz 0, z).1 = 0 from by show bz 0 = 0; decide)] at hx
      have hB : qm_combinesTwo_B20 m 12 (el L 0) (el L 1) 0 = some (-8, m) := by
        unfold qm_combinesTwo_B20
        rw [if_pos rfl]
        unfold qm_combinesTwo_B41
        rw [if_pos rfl, if_pos rfl]
      rw [hB] at hm
      by_cases k0 : kd (el L 0) = 0
      · rw [if_pos (mk0.mpr k0), if_neg (mt mk0.mp (fun k1 => i1 ((alli2 h2).mpr ⟨k0, k1⟩))), ob_] at hm
        exact ⟨-8, m, _, hm, hx, R.fail H (by decide)⟩
      · rw [if_neg (mt mk0.mp k0), ob_] at hm
        exact ⟨-8, m, _, hm, hx, R.fail H (by decide)⟩
  · rw [if_neg h2] at hm
    exact C.bad hN hL (p := 12) (o := 2) (by decide) (by decide) ⟨by simp only [Int32.reduceToInt]; omega, by decide⟩ hm
theorem PC.p13 (C : PC n K m z F A M) (hN : 5000 ≤ N) {L : List Int64} (hL : lst (qm_g_first m) (qm_g_second m) L (qm_g_operands m)) : PO N n K m z M 13 := by
  obtain ⟨H, R, ⟨o1, o2⟩, he, hs, hM⟩ := id C
  have hm := C.two hN hL (p := 13) (by decide)
  by_cases h2 : L.length = 2
  · obtain ⟨x1, x2, x3⟩ := C.opx hN hL (j := 0) (x := 0) (by omega) (by decide)
    obtain ⟨y1, y2, y3⟩ := C.opx hN hL (j := 1) (x := 1) (by omega) (by decide)
    rw [if_pos h2] at hm
    unfold qm_combinesTwo at hm
    rcases C.ints hN hL 0 with ⟨i1, i2, -⟩ | ⟨i1, i2, -⟩
    · obtain ⟨k0, k1⟩ := (alli2 h2).mp i1
      obtain ⟨a1, a2, a3, a4, a5⟩ := int_w x1 k0
      obtain ⟨b1, b2, b3, b4, b5⟩ := int_w y1 k1
      have hk : qn_haveDueKinds N z 13 (nI L.length) = some (1, z) := by
        unfold qn_haveDueKinds
        rw [if_neg (show ¬ (13 : Int32) = 1 by decide), if_neg (show ¬ (13 : Int32) = 2 by decide), if_neg (show ¬ (13 : Int32) = 3 by decide), if_neg (show ¬ (13 : Int32) = 4 by decide), if_neg (show ¬ (13 : Int32) = 5 by decide), if_neg (show ¬ (13 : Int32) = 6 by decide), if_neg (show ¬ (13 : Int32) = 7 by decide), if_neg (show ¬ (13 : Int32) = 8 by decide), if_neg (show ¬ (13 : Int32) = 9 by decide), if_neg (show ¬ (13 : Int32) = 10 by decide), if_neg (show ¬ (13 : Int32) = 11 by decide), if_neg (show ¬ (13 : Int32) = 12 by decide), if_pos rfl, i2, ob_, bz1]
      have hx := C.data hN hL (p := 13) (o := 2) (by decide) (by decide) (Or.inl (by rw [h2]; rfl)) hk
      unfold qn_callDataFunction at hx
      rw [if_neg (show ¬ (13 : Int32) = 10 by decide), if_neg (show ¬ (13 : Int32) = 11 by decide), if_neg (show ¬ (13 : Int32) = 12 by decide), if_pos rfl, x3, ob_, y3, ob_, a1, b1] at hx
      rw [if_pos (mk0.mpr k0), if_pos (mk0.mpr k1)] at hm
      unfold qm_combinesTwo_B20 at hm
      rw [if_neg (show ¬ (1 : Int32) = 0 by decide), a2, b2] at hm
      unfold qm_combinesTwo_B41 at hm
      rw [if_neg (show ¬ (13 : Int32) = 12 by decide), if_pos rfl, if_neg (show ¬ (1 : Int32) = 0 by decide)] at hm
      have hd : (qw_contentOf (el L 0) - qw_contentOf (el L 1)).toInt = (qw_contentOf (el L 0)).toInt - (qw_contentOf (el L 1)).toInt := l_sub (by omega) (by omega)
      generalize qw_contentOf (el L 0) = u at hm hx hd
      generalize qw_contentOf (el L 1) = v at hm hx hd
      by_cases h0 : u.toInt < v.toInt
      · have g1 : u - v < 0 := by rw [Int64.lt_iff_toInt_lt, hd, show (0 : Int64).toInt = 0 from rfl]; omega
        have g2 : u < v := by rw [Int64.lt_iff_toInt_lt]; exact h0
        rw [if_pos g1, ob_] at hm
        rw [if_pos g2, ob_, ← (tru1 (n := n) (K := K)).2] at hx
        exact ⟨0, _, _, hm, hx, R.give H tru1.1 hs hM⟩
      · have g1 : ¬ u - v < 0 := by rw [Int64.lt_iff_toInt_lt, hd, show (0 : Int64).toInt = 0 from rfl]; omega
        have g2 : ¬ u < v := by rw [Int64.lt_iff_toInt_lt]; exact h0
        rw [if_neg g1, ob_] at hm
        rw [if_neg g2, ob_, ← (tru0 (n := n) (K := K)).2] at hx
        exact ⟨0, _, _, hm, hx, R.give H tru0.1 hs hM⟩
    · have hx := C.due hN hL (p := 13) (o := 2) (by decide) (by decide) (Or.inl (by rw [h2]; rfl))
      unfold qn_haveDueKinds at hx
      rw [if_neg (show ¬ (13 : Int32) = 1 by decide), if_neg (show ¬ (13 : Int32) = 2 by decide), if_neg (show ¬ (13 : Int32) = 3 by decide), if_neg (show ¬ (13 : Int32) = 4 by decide), if_neg (show ¬ (13 : Int32) = 5 by decide), if_neg (show ¬ (13 : Int32) = 6 by decide), if_neg (show ¬ (13 : Int32) = 7 by decide), if_neg (show ¬ (13 : Int32) = 8 by decide), if_neg (show ¬ (13 : Int32) = 9 by decide), if_neg (show ¬ (13 : Int32) = 10 by decide), if_neg (show ¬ (13 : Int32) = 11 by decide), if_neg (show ¬ (13 : Int32) = 12 by decide), if_pos rfl, i2, ob_, ob_, if_pos (show (bz 0, z).1 = 0 from by show bz 0 = 0; decide)] at hx
      have hB : qm_combinesTwo_B20 m 13 (el L 0) (el L 1) 0 = some (-8, m) := by
        unfold qm_combinesTwo_B20
        rw [if_pos rfl]
        unfold qm_combinesTwo_B41
        rw [if_neg (show ¬ (13 : Int32) = 12 by decide), if_pos rfl, if_pos rfl]
      rw [hB] at hm
      by_cases k0 : kd (el L 0) = 0
      · rw [if_pos (mk0.mpr k0), if_neg (mt mk0.mp (fun k1 => i1 ((alli2 h2).mpr ⟨k0, k1⟩))), ob_] at hm
        exact ⟨-8, m, _, hm, hx, R.fail H (by decide)⟩
      · rw [if_neg (mt mk0.mp k0), ob_] at hm
        exact ⟨-8, m, _, hm, hx, R.fail H (by decide)⟩
  · rw [if_neg h2] at hm
    exact C.bad hN hL (p := 13) (o := 2) (by decide) (by decide) ⟨by simp only [Int32.reduceToInt]; omega, by decide⟩ hm
end
