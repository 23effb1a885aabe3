/-! ===== car, cdr ===== -/
section
variable {n : Nat} {K : Nat → Nat} {m : qm_S} {z : qn_S} {F A : Nat} {M : Int} {N : Nat}
theorem PC.p16 (C : PC n K m z F A M) (hN : 5000 ≤ N) {L : List Int64} (hL : lst (qm_g_first m) (qm_g_second m) L (qm_g_operands m)) : PO N n K m z M 16 := by
  obtain ⟨H, R, ⟨o1, o2⟩, he, hs, hM⟩ := id C
  have hn := H.hn
  have hm := C.one hN hL (p := 16) (by decide)
  by_cases h1 : L.length = 1
  · obtain ⟨x1, x2, x3⟩ := C.opx hN hL (j := 0) (x := 0) (by omega) (by decide)
    unfold qm_combinesSingle at hm
    rw [if_pos h1, if_pos rfl] at hm
    by_cases k4 : kd (el L 0) = 4
    · have hk : qn_haveDueKinds N z 16 (nI L.length) = some (1, z) := by
        unfold qn_haveDueKinds
        rw [if_neg (show ¬ (16 : Int32) = 1 by decide), if_neg (show ¬ (16 : Int32) = 2 by decide), if_neg (show ¬ (16 : Int32) = 3 by decide), if_neg (show ¬ (16 : Int32) = 4 by decide), if_neg (show ¬ (16 : Int32) = 5 by decide), if_neg (show ¬ (16 : Int32) = 6 by decide), if_neg (show ¬ (16 : Int32) = 7 by decide), if_neg (show ¬ (16 : Int32) = 8 by decide), if_neg (show ¬ (16 : Int32) = 9 by decide), if_neg (show ¬ (16 : Int32) = 10 by decide), if_neg (show ¬ (16 : Int32) = 11 by decide), if_neg (show ¬ (16 : Int32) = 12 by decide), if_neg (show ¬ (16 : Int32) = 13 by decide), if_neg (show ¬ (16 : Int32) = 14 by decide), if_neg (show ¬ (16 : Int32) = 15 by decide), if_pos rfl, C.isop hN hL (j := 0) (x := 0) (by omega) (by decide), ob_, if_pos ((xk4 x1 hn).mpr k4), bz1]
      have hx := C.data hN hL (p := 16) (o := 1) (by decide) (by decide) (Or.inl (by rw [h1]; rfl)) hk
      obtain ⟨f1, f2, f3, f4, f5, f6, f7⟩ := H.pair x1 (Nat.le_refl _) k4
      unfold qn_callDataFunction at hx
      rw [if_neg (show ¬ (16 : Int32) = 10 by decide), if_neg (show ¬ (16 : Int32) = 11 by decide), if_neg (show ¬ (16 : Int32) = 12 by decide), if_neg (show ¬ (16 : Int32) = 13 by decide), if_neg (show ¬ (16 : Int32) = 14 by decide), if_neg (show ¬ (16 : Int32) = 15 by decide), if_pos rfl, x3, ob_, ob_, f1] at hx
      rw [if_pos (mk4.mpr k4), f3, ob_, ob_] at hm
      exact ⟨0, _, _, hm, hx, R.give H (ok_mono f5 (by omega) (fun _ _ => rfl)) hs hM⟩
    · have hx := C.due hN hL (p := 16) (o := 1) (by decide) (by decide) (Or.inl (by rw [h1]; rfl))
      unfold qn_haveDueKinds at hx
      rw [if_neg (show ¬ (16 : Int32) = 1 by decide), if_neg (show ¬ (16 : Int32) = 2 by decide), if_neg (show ¬ (16 : Int32) = 3 by decide), if_neg (show ¬ (16 : Int32) = 4 by decide), if_neg (show ¬ (16 : Int32) = 5 by decide), if_neg (show ¬ (16 : Int32) = 6 by decide), if_neg (show ¬ (16 : Int32) = 7 by decide), if_neg (show ¬ (16 : Int32) = 8 by decide), if_neg (show ¬ (16 : Int32) = 9 by decide), if_neg (show ¬ (16 : Int32) = 10 by decide), if_neg (show ¬ (16 : Int32) = 11 by decide), if_neg (show ¬ (16 : Int32) = 12 by decide), if_neg (show ¬ (16 : Int32) = 13 by decide), if_neg (show ¬ (16 : Int32) = 14 by decide), if_neg (show ¬ (16 : Int32) = 15 by decide), if_pos rfl, C.isop hN hL (j := 0) (x := 0) (by omega) (by decide), ob_, if_neg (mt (xk4 x1 hn).mp k4), ob_, if_pos (show (bz 0, z).1 = 0 from by show bz 0 = 0; decide)] at hx
      rw [if_neg (mt mk4.mp k4), ob_] at hm
      exact ⟨-8, m, _, hm, hx, R.fail H (by decide)⟩
  · rw [if_neg h1] at hm
    exact C.bad hN hL (p := 16) (o := 1) (by decide) (by decide) ⟨by simp only [Int32.reduceToInt]; omega, by decide⟩ hm
theorem PC.p17 (C : PC n K m z F A M) (hN : 5000 ≤ N) {L : List Int64} (hL : lst (qm_g_first m) (qm_g_second m) L (qm_g_operands m)) : PO N n K m z M 17 := by
  obtain ⟨H, R, ⟨o1, o2⟩, he, hs, hM⟩ := id C
  have hn := H.hn
  have hm := C.one hN hL (p := 17) (by decide)
  by_cases h1 : L.length = 1
  · obtain ⟨x1, x2, x3⟩ := C.opx hN hL (j := 0) (x := 0) (by omega) (by decide)
    unfold qm_combinesSingle at hm
    rw [if_pos h1, if_neg (show ¬ (17 : Int32) = 16 by decide), if_pos rfl] at hm
    by_cases k4 : kd (el L 0) = 4
    · have hk : qn_haveDueKinds N z 17 (nI L.length) = some (1, z) := by
        unfold qn_haveDueKinds
        rw [if_neg (show ¬ (17 : Int32) = 1 by decide), if_neg (show ¬ (17 : Int32) = 2 by decide), if_neg (show ¬ (17 : Int32) = 3 by decide), if_neg (show ¬ (17 : Int32) = 4 by decide), if_neg (show ¬ (17 : Int32) = 5 by decide), if_neg (show ¬ (17 : Int32) = 6 by decide), if_neg (show ¬ (17 : Int32) = 7 by decide), if_neg (show ¬ (17 : Int32) = 8 by decide), if_neg (show ¬ (17 : Int32) = 9 by decide), if_neg (show ¬ (17 : Int32) = 10 by decide), if_neg (show ¬ (17 : Int32) = 11 by decide), if_neg (show ¬ (17 : Int32) = 12 by decide), if_neg (show ¬ (17 : Int32) = 13 by decide), if_neg (show ¬ (17 : Int32) = 14 by decide), if_neg (show ¬ (17 : Int32) = 15 by decide), if_neg (show ¬ (17 : Int32) = 16 by decide), if_pos rfl, C.isop hN hL (j := 0) (x := 0) (by omega) (by decide), ob_, if_pos ((xk4 x1 hn).mpr k4), bz1]
      have hx := C.data hN hL (p := 17) (o := 1) (by decide) (by decide) (Or.inl (by rw [h1]; rfl)) hk
      obtain ⟨f1, f2, f3, f4, f5, f6, f7⟩ := H.pair x1 (Nat.le_refl _) k4
      unfold qn_callDataFunction at hx
      rw [if_neg (show ¬ (17 : Int32) = 10 by decide), if_neg (show ¬ (17 : Int32) = 11 by decide), if_neg (show ¬ (17 : Int32) = 12 by decide), if_neg (show ¬ (17 : Int32) = 13 by decide), if_neg (show ¬ (17 : Int32) = 14 by decide), if_neg (show ¬ (17 : Int32) = 15 by decide), if_neg (show ¬ (17 : Int32) = 16 by decide), if_pos rfl, x3, ob_, ob_, f2] at hx
      rw [if_pos (mk4.mpr k4), f4, ob_, ob_] at hm
      exact ⟨0, _, _, hm, hx, R.give H (ok_mono f6 (by omega) (fun _ _ => rfl)) hs hM⟩
    · have hx := C.due hN hL (p := 17) (o := 1) (by decide) (by decide) (Or.inl (by rw [h1]; rfl))
      unfold qn_haveDueKinds at hx
      rw [if_neg (show ¬ (17 : Int32) = 1 by decide), if_neg (show ¬ (17 : Int32) = 2 by decide), if_neg (show ¬ (17 : Int32) = 3 by decide), if_neg (show ¬ (17 : Int32) = 4 by decide), if_neg (show ¬ (17 : Int32) = 5 by decide), if_neg (show ¬ (17 : Int32) = 6 by decide), if_neg (show ¬ (17 : Int32) = 7 by decide), if_neg (show ¬ (17 : Int32) = 8 by decide), if_neg (show ¬ (17 : Int32) = 9 by decide), if_neg (show ¬ (17 : Int32) = 10 by decide), if_neg (show ¬ (17 : Int32) = 11 by decide), if_neg (show ¬ (17 : Int32) = 12 by decide), if_neg (show ¬ (17 : Int32) = 13 by decide), if_neg (show ¬ (17 : Int32) = 14 by decide), if_neg (show ¬ (17 : Int32) = 15 by decide), if_neg (show ¬ (17 : Int32) = 16 by decide), if_pos rfl, C.isop hN hL (j := 0) (x := 0) (by omega) (by decide), ob_, if_neg (mt (xk4 x1 hn).mp k4), ob_, if_pos (show (bz 0, z).1 = 0 from by show bz 0 = 0; decide)] at hx
      rw [if_neg (mt mk4.mp k4), ob_] at hm
      exact ⟨-8, m, _, hm, hx, R.fail H (by decide)⟩
  · rw [if_neg h1] at hm
    exact C.bad hN hL (p := 17) (o := 1) (by decide) (by decide) ⟨by simp only [Int32.reduceToInt]; omega, by decide⟩ hm
end
