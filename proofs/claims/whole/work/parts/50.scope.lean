/-! ===== unwrap, list ===== -/
section
variable {n : Nat} {K : Nat → Nat} {m : qm_S} {z : qn_S} {F A : Nat} {M : Int} {N : Nat}
/-- the class on a primitive from 20 on whose operands fit -/
theorem PC.scope (C : PC n K m z F A M) (hN : 5000 ≤ N) {L : List Int64} (hL : lst (qm_g_first m) (qm_g_second m) L (qm_g_operands m)) {p o : Int32} (hp : 20 ≤ p.toInt ∧ p.toInt < 26) (ho : oc_f (Int32.toNatClampNeg p) = o) (h : o.toInt = L.length ∨ o = -1) (hk : qn_haveDueKinds N z p (nI L.length) = some (1, z)) :
    qn_callPrimitive N z p = (qn_callScopeFunction N z p (nI L.length)).bind fun r => some r := by
  rw [C.due hN hL (by omega) ho h, hk, ob_, if_neg (show ¬ ((1 : Int32), z).1 = 0 from by show ¬ (1 : Int32) = 0; decide), if_pos (by ((try simp only [Int32.lt_iff_toInt_lt, Int32.le_iff_toInt_le, Int64.lt_iff_toInt_lt, Int64.le_iff_toInt_le, ← Int32.toInt_inj, ← Int64.toInt_inj, Int32.reduceToInt, Int64.reduceToInt] at *); omega)), if_pos (by ((try simp only [Int32.lt_iff_toInt_lt, Int32.le_iff_toInt_le, Int64.lt_iff_toInt_lt, Int64.le_iff_toInt_le, ← Int32.toInt_inj, ← Int64.toInt_inj, Int32.reduceToInt, Int64.reduceToInt] at *); omega))]
theorem PC.p22 (C : PC n K m z F A M) (hN : 5000 ≤ N) {L : List Int64} (hL : lst (qm_g_first m) (qm_g_second m) L (qm_g_operands m)) : PO N n K m z M 22 := by
  obtain ⟨H, R, ⟨o1, o2⟩, he, hs, hM⟩ := id C
  have hn := H.hn
  have hm := C.one hN hL (p := 22) (by decide)
  by_cases h1 : L.length = 1
  · obtain ⟨x1, x2, x3⟩ := C.opx hN hL (j := 0) (x := 0) (by omega) (by decide)
    unfold qm_combinesSingle at hm
    rw [if_pos h1, if_neg (show ¬ (22 : Int32) = 16 by decide), if_neg (show ¬ (22 : Int32) = 17 by decide), if_neg (show ¬ (22 : Int32) = 18 by decide), if_neg (show ¬ (22 : Int32) = 19 by decide), if_neg (show ¬ (22 : Int32) = 20 by decide), if_neg (show ¬ (22 : Int32) = 21 by decide)] at hm
    by_cases k6 : kd (el L 0) = 6
    · have hk : qn_haveDueKinds N z 22 (nI L.length) = some (1, z) := by
        unfold qn_haveDueKinds
        rw [if_neg (show ¬ (22 : Int32) = 1 by decide), if_neg (show ¬ (22 : Int32) = 2 by decide), if_neg (show ¬ (22 : Int32) = 3 by decide), if_neg (show ¬ (22 : Int32) = 4 by decide), if_neg (show ¬ (22 : Int32) = 5 by decide), if_neg (show ¬ (22 : Int32) = 6 by decide), if_neg (show ¬ (22 : Int32) = 7 by decide), if_neg (show ¬ (22 : Int32) = 8 by decide), if_neg (show ¬ (22 : Int32) = 9 by decide), if_neg (show ¬ (22 : Int32) = 10 by decide), if_neg (show ¬ (22 : Int32) = 11 by decide), if_neg (show ¬ (22 : Int32) = 12 by decide), if_neg (show ¬ (22 : Int32) = 13 by decide), if_neg (show ¬ (22 : Int32) = 14 by decide), if_neg (show ¬ (22 : Int32) = 15 by decide), if_neg (show ¬ (22 : Int32) = 16 by decide), if_neg (show ¬ (22 : Int32) = 17 by decide), if_neg (show ¬ (22 : Int32) = 18 by decide), if_neg (show ¬ (22 : Int32) = 19 by decide), if_neg (show ¬ (22 : Int32) = 20 by decide), if_neg (show ¬ (22 : Int32) = 21 by decide), if_pos rfl, C.isop hN hL (j := 0) (x := 0) (by omega) (by decide), ob_, if_pos ((xk6 x1 hn).mpr k6), bz1]
      have hx := C.scope hN hL (p := 22) (o := 1) (by decide) (by decide) (Or.inl (by rw [h1]; rfl)) hk
      obtain ⟨u1, u2, u3, u4, u5, u6⟩ := H.und x1 (Nat.le_refl _) k6
      unfold qn_callScopeFunction at hx
      rw [if_neg (show ¬ (22 : Int32) = 20 by decide), if_neg (show ¬ (22 : Int32) = 21 by decide), if_pos rfl, x3, ob_, ob_, u2] at hx
      rw [if_pos (mk6.mpr k6), u1, ob_, ob_] at hm
      exact ⟨0, _, _, hm, hx, R.give H u3 hs hM⟩
    · have hx := C.due hN hL (p := 22) (o := 1) (by decide) (by decide) (Or.inl (by rw [h1]; rfl))
      unfold qn_haveDueKinds at hx
      rw [if_neg (show ¬ (22 : Int32) = 1 by decide), if_neg (show ¬ (22 : Int32) = 2 by decide), if_neg (show ¬ (22 : Int32) = 3 by decide), if_neg (show ¬ (22 : Int32) = 4 by decide), if_neg (show ¬ (22 : Int32) = 5 by decide), if_neg (show ¬ (22 : Int32) = 6 by decide), if_neg (show ¬ (22 : Int32) = 7 by decide), if_neg (show ¬ (22 : Int32) = 8 by decide), if_neg (show ¬ (22 : Int32) = 9 by decide), if_neg (show ¬ (22 : Int32) = 10 by decide), if_neg (show ¬ (22 : Int32) = 11 by decide), if_neg (show ¬ (22 : Int32) = 12 by decide), if_neg (show ¬ (22 : Int32) = 13 by decide), if_neg (show ¬ (22 : Int32) = 14 by decide), if_neg (show ¬ (22 : Int32) = 15 by decide), if_neg (show ¬ (22 : Int32) = 16 by decide), if_neg (show ¬ (22 : Int32) = 17 by decide), if_neg (show ¬ (22 : Int32) = 18 by decide), if_neg (show ¬ (22 : Int32) = 19 by decide), if_neg (show ¬ (22 : Int32) = 20 by decide), if_neg (show ¬ (22 : Int32) = 21 by decide), if_pos rfl, C.isop hN hL (j := 0) (x := 0) (by omega) (by decide), ob_, if_neg (mt (xk6 x1 hn).mp k6), ob_, if_pos (show (bz 0, z).1 = 0 from by show bz 0 = 0; decide)] at hx
      rw [if_neg (mt mk6.mp k6), ob_] at hm
      exact ⟨-8, m, _, hm, hx, R.fail H (by decide)⟩
  · rw [if_neg h1] at hm
    exact C.bad hN hL (p := 22) (o := 1) (by decide) (by decide) ⟨by simp only [Int32.reduceToInt]; omega, by decide⟩ hm
end
