/-! ===== tests ===== -/
section
variable {n : Nat} {K : Nat → Nat} {m : qm_S} {z : qn_S} {F A : Nat} {M : Int} {N : Nat}
theorem tru1 : ok n K (qm_truth 1) ∧ xw (qm_truth 1) = qw_makeBoolean 1 := ⟨Or.inr (Or.inl ⟨by decide, Or.inr (by decide)⟩), (xw_same (by decide)).trans (by decide)⟩
theorem tru0 : ok n K (qm_truth 0) ∧ xw (qm_truth 0) = qw_makeBoolean 0 := ⟨Or.inr (Or.inl ⟨by decide, Or.inl (by decide)⟩), (xw_same (by decide)).trans (by decide)⟩
/-- the class on a primitive from 10 to 19 whose operands fit -/
theorem PC.data (C : PC n K m z F A M) (hN : 5000 ≤ N) {L : List Int64} (hL : lst (qm_g_first m) (qm_g_second m) L (qm_g_operands m)) {p o : Int32} (hp : 10 ≤ p.toInt ∧ p.toInt < 20) (ho : oc_f (Int32.toNatClampNeg p) = o) (h : o.toInt = L.length ∨ o = -1) (hk : qn_haveDueKinds N z p (nI L.length) = some (1, z)) :
    qn_callPrimitive N z p = (qn_callDataFunction N z p).bind fun r => some r := by
  rw [C.due hN hL (by omega) ho h, hk, ob_, if_neg (show ¬ ((1 : Int32), z).1 = 0 from by show ¬ (1 : Int32) = 0; decide), if_pos (by ((try simp only [Int32.lt_iff_toInt_lt, Int32.le_iff_toInt_le, Int64.lt_iff_toInt_lt, Int64.le_iff_toInt_le, ← Int32.toInt_inj, ← Int64.toInt_inj, Int32.reduceToInt, Int64.reduceToInt] at *); omega)), if_neg (by ((try simp only [Int32.lt_iff_toInt_lt, Int32.le_iff_toInt_le, Int64.lt_iff_toInt_lt, Int64.le_iff_toInt_le, ← Int32.toInt_inj, ← Int64.toInt_inj, Int32.reduceToInt, Int64.reduceToInt] at *); omega))]
theorem PC.p18 (C : PC n K m z F A M) (hN : 5000 ≤ N) {L : List Int64} (hL : lst (qm_g_first m) (qm_g_second m) L (qm_g_operands m)) : PO N n K m z M 18 := by
  obtain ⟨H, R, ⟨o1, o2⟩, he, hs, hM⟩ := id C
  have hn := H.hn
  have hm := C.one hN hL (p := 18) (by decide)
  by_cases h1 : L.length = 1
  · have hk : qn_haveDueKinds N z 18 (nI L.length) = some (1, z) := by unfold qn_haveDueKinds; rw [if_neg (show ¬ (18 : Int32) = 1 by decide), if_neg (show ¬ (18 : Int32) = 2 by decide), if_neg (show ¬ (18 : Int32) = 3 by decide), if_neg (show ¬ (18 : Int32) = 4 by decide), if_neg (show ¬ (18 : Int32) = 5 by decide), if_neg (show ¬ (18 : Int32) = 6 by decide), if_neg (show ¬ (18 : Int32) = 7 by decide), if_neg (show ¬ (18 : Int32) = 8 by decide), if_neg (show ¬ (18 : Int32) = 9 by decide), if_neg (show ¬ (18 : Int32) = 10 by decide), if_neg (show ¬ (18 : Int32) = 11 by decide), if_neg (show ¬ (18 : Int32) = 12 by decide), if_neg (show ¬ (18 : Int32) = 13 by decide), if_neg (show ¬ (18 : Int32) = 14 by decide), if_neg (show ¬ (18 : Int32) = 15 by decide), if_neg (show ¬ (18 : Int32) = 16 by decide), if_neg (show ¬ (18 : Int32) = 17 by decide), if_pos rfl]
    have hx := C.data hN hL (p := 18) (o := 1) (by decide) (by decide) (Or.inl (by rw [h1]; rfl)) hk
    obtain ⟨x1, x2, x3⟩ := C.opx hN hL (j := 0) (x := 0) (by omega) (by decide)
    unfold qm_combinesSingle at hm
    unfold qn_callDataFunction at hx
    rw [if_pos h1, if_neg (show ¬ (18 : Int32) = 16 by decide), if_neg (show ¬ (18 : Int32) = 17 by decide), if_pos rfl] at hm
    rw [if_neg (show ¬ (18 : Int32) = 10 by decide), if_neg (show ¬ (18 : Int32) = 11 by decide), if_neg (show ¬ (18 : Int32) = 12 by decide), if_neg (show ¬ (18 : Int32) = 13 by decide), if_neg (show ¬ (18 : Int32) = 14 by decide), if_neg (show ¬ (18 : Int32) = 15 by decide), if_neg (show ¬ (18 : Int32) = 16 by decide), if_neg (show ¬ (18 : Int32) = 17 by decide), if_pos rfl, x3, ob_] at hx
    by_cases k3 : kd (el L 0) = 3
    · rw [if_pos (mk3.mpr k3), ob_] at hm
      rw [if_pos ((xw_is3 x1 hn).mpr k3), ob_, ← (tru1 (n := n) (K := K)).2] at hx
      exact ⟨0, _, _, hm, hx, R.give H tru1.1 hs hM⟩
    · rw [if_neg (mt mk3.mp k3), ob_] at hm
      rw [if_neg (mt (xw_is3 x1 hn).mp k3), ob_, ← (tru0 (n := n) (K := K)).2] at hx
      exact ⟨0, _, _, hm, hx, R.give H tru0.1 hs hM⟩
  · rw [if_neg h1] at hm
    exact C.bad hN hL (p := 18) (o := 1) (by decide) (by decide) ⟨by simp only [Int32.reduceToInt]; omega, by decide⟩ hm
theorem PC.p19 (C : PC n K m z F A M) (hN : 5000 ≤ N) {L : List Int64} (hL : lst (qm_g_first m) (qm_g_second m) L (qm_g_operands m)) : PO N n K m z M 19 := by
  obtain ⟨H, R, ⟨o1, o2⟩, he, hs, hM⟩ := id C
  have hn := H.hn
  have hm := C.one hN hL (p := 19) (by decide)
  by_cases h1 : L.length = 1
  · have hk : qn_haveDueKinds N z 19 (nI L.length) = some (1, z) := by unfold qn_haveDueKinds; rw [if_neg (show ¬ (19 : Int32) = 1 by decide), if_neg (show ¬ (19 : Int32) = 2 by decide), if_neg (show ¬ (19 : Int32) = 3 by decide), if_neg (show ¬ (19 : Int32) = 4 by decide), if_neg (show ¬ (19 : Int32) = 5 by decide), if_neg (show ¬ (19 : Int32) = 6 by decide), if_neg (show ¬ (19 : Int32) = 7 by decide), if_neg (show ¬ (19 : Int32) = 8 by decide), if_neg (show ¬ (19 : Int32) = 9 by decide), if_neg (show ¬ (19 : Int32) = 10 by decide), if_neg (show ¬ (19 : Int32) = 11 by decide), if_neg (show ¬ (19 : Int32) = 12 by decide), if_neg (show ¬ (19 : Int32) = 13 by decide), if_neg (show ¬ (19 : Int32) = 14 by decide), if_neg (show ¬ (19 : Int32) = 15 by decide), if_neg (show ¬ (19 : Int32) = 16 by decide), if_neg (show ¬ (19 : Int32) = 17 by decide), if_neg (show ¬ (19 : Int32) = 18 by decide), if_pos rfl]
    have hx := C.data hN hL (p := 19) (o := 1) (by decide) (by decide) (Or.inl (by rw [h1]; rfl)) hk
    obtain ⟨x1, x2, x3⟩ := C.opx hN hL (j := 0) (x := 0) (by omega) (by decide)
    unfold qm_combinesSingle at hm
    unfold qn_callDataFunction at hx
    rw [if_pos h1, if_neg (show ¬ (19 : Int32) = 16 by decide), if_neg (show ¬ (19 : Int32) = 17 by decide), if_neg (show ¬ (19 : Int32) = 18 by decide), if_pos rfl] at hm
    rw [if_neg (show ¬ (19 : Int32) = 10 by decide), if_neg (show ¬ (19 : Int32) = 11 by decide), if_neg (show ¬ (19 : Int32) = 12 by decide), if_neg (show ¬ (19 : Int32) = 13 by decide), if_neg (show ¬ (19 : Int32) = 14 by decide), if_neg (show ¬ (19 : Int32) = 15 by decide), if_neg (show ¬ (19 : Int32) = 16 by decide), if_neg (show ¬ (19 : Int32) = 17 by decide), if_neg (show ¬ (19 : Int32) = 18 by decide), if_pos rfl, C.isop hN hL (j := 0) (x := 0) (by omega) (by decide), ob_, ob_] at hx
    by_cases k4 : kd (el L 0) = 4
    · rw [if_pos (mk4.mpr k4), ob_] at hm
      rw [if_pos ((xk4 x1 hn).mpr k4), ← (tru1 (n := n) (K := K)).2] at hx
      exact ⟨0, _, _, hm, hx, R.give H tru1.1 hs hM⟩
    · rw [if_neg (mt mk4.mp k4), ob_] at hm
      rw [if_neg (mt (xk4 x1 hn).mp k4), ← (tru0 (n := n) (K := K)).2] at hx
      exact ⟨0, _, _, hm, hx, R.give H tru0.1 hs hM⟩
  · rw [if_neg h1] at hm
    exact C.bad hN hL (p := 19) (o := 1) (by decide) (by decide) ⟨by simp only [Int32.reduceToInt]; omega, by decide⟩ hm
end
