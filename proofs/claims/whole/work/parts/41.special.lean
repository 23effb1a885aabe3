/-! ===== the first eight primitives ===== -/
section
variable {n : Nat} {K : Nat → Nat} {m : qm_S} {z : qn_S} {F A : Nat} {M : Int} {N : Nat}
theorem len_ne {c : Nat} (hc : c ≤ 4000) {o : Int32} (h : o.toInt ≠ c) : ¬ nI c = o := fun e => h (by rw [← e, nI_int hc])
theorem len_eq {c : Nat} (hc : c ≤ 4000) {o : Int32} (h : o.toInt = c) : nI c = o := i_ext (by rw [nI_int hc, h])
theorem PC.p7 (C : PC n K m z F A M) (hN : 5000 ≤ N) {L : List Int64} (hL : lst (qm_g_first m) (qm_g_second m) L (qm_g_operands m)) : PO N n K m z M 7 := by
  obtain ⟨H, R, ⟨o1, o2⟩, he, hs, hM⟩ := id C
  have c1 := (C.cnt hN hL).1
  have hn := H.hn
  have hm := C.part hN hL (p := 7) (by decide)
  unfold qm_combinesPart_B56 at hm
  rw [if_neg (show ¬ (7 : Int32) = 0 by decide), if_neg (show ¬ (7 : Int32) = 1 by decide), if_neg (show ¬ (7 : Int32) = 2 by decide), if_neg (show ¬ (7 : Int32) = 3 by decide), if_neg (show ¬ (7 : Int32) = 4 by decide), if_neg (show ¬ (7 : Int32) = 5 by decide), if_neg (show ¬ (7 : Int32) = 6 by decide)] at hm
  by_cases h0 : L.length = 0
  · rw [if_pos (len_eq c1 (by rw [h0]; rfl)), ob_] at hm
    have hx := C.due hN hL (p := 7) (o := 0) (by decide) (by decide) (Or.inl (by rw [h0]; rfl))
    unfold qn_haveDueKinds at hx
    rw [if_neg (show ¬ (7 : Int32) = 1 by decide), if_neg (show ¬ (7 : Int32) = 2 by decide), if_neg (show ¬ (7 : Int32) = 3 by decide), if_neg (show ¬ (7 : Int32) = 4 by decide), if_neg (show ¬ (7 : Int32) = 5 by decide), if_neg (show ¬ (7 : Int32) = 6 by decide), if_pos rfl, ob_, if_neg (show ¬ ((1 : Int32), z).1 = 0 from by show ¬ (1 : Int32) = 0; decide), if_neg (by decide)] at hx
    unfold qn_callSpecial at hx
    rw [if_neg (show ¬ (7 : Int32) = 0 by decide), if_neg (show ¬ (7 : Int32) = 1 by decide), if_neg (show ¬ (7 : Int32) = 2 by decide), if_neg (show ¬ (7 : Int32) = 3 by decide), if_neg (show ¬ (7 : Int32) = 4 by decide), if_neg (show ¬ (7 : Int32) = 5 by decide), if_neg (show ¬ (7 : Int32) = 6 by decide), if_pos rfl, ob_] at hx
    have hw : qw_make 7 (Int32.toInt64 (qn_g_environment z)) = xw (qm_g_around m) := by
      have hb := (ok_b he.1 hn).2.2.2.1 (by have := he.2.1; omega) (by have := he.2.1; omega)
      rw [mk_vI (c := 7) (by decide) (by decide) he.2.2]
      unfold xw
      rw [he.2.1, if_pos (by decide)]
    rw [hw] at hx
    exact ⟨0, _, _, hm, hx, R.give H he.1 hs hM⟩
  · rw [if_neg (len_ne c1 (by simp only [Int32.reduceToInt]; omega)), ob_] at hm
    exact C.bad hN hL (p := 7) (o := 0) (by decide) (by decide) ⟨by simp only [Int32.reduceToInt]; omega, by decide⟩ hm
theorem PC.p6 (C : PC n K m z F A M) (hN : 5000 ≤ N) {L : List Int64} (hL : lst (qm_g_first m) (qm_g_second m) L (qm_g_operands m)) : PO N n K m z M 6 := by
  obtain ⟨H, R, ⟨o1, o2⟩, he, hs, hM⟩ := id C
  have c1 := (C.cnt hN hL).1
  have hm := C.part hN hL (p := 6) (by decide)
  unfold qm_combinesPart_B56 at hm
  rw [if_neg (show ¬ (6 : Int32) = 0 by decide), if_neg (show ¬ (6 : Int32) = 1 by decide), if_neg (show ¬ (6 : Int32) = 2 by decide), if_neg (show ¬ (6 : Int32) = 3 by decide), if_neg (show ¬ (6 : Int32) = 4 by decide), if_neg (show ¬ (6 : Int32) = 5 by decide), if_pos rfl] at hm
  by_cases h0 : L.length = 1
  · rw [if_pos (len_eq c1 (by rw [h0]; rfl)), ob_] at hm
    have hx := C.due hN hL (p := 6) (o := 1) (by decide) (by decide) (Or.inl (by rw [h0]; rfl))
    unfold qn_haveDueKinds at hx
    rw [if_neg (show ¬ (6 : Int32) = 1 by decide), if_neg (show ¬ (6 : Int32) = 2 by decide), if_neg (show ¬ (6 : Int32) = 3 by decide), if_neg (show ¬ (6 : Int32) = 4 by decide), if_neg (show ¬ (6 : Int32) = 5 by decide), if_pos rfl, ob_, if_neg (show ¬ ((1 : Int32), z).1 = 0 from by show ¬ (1 : Int32) = 0; decide), if_neg (by decide)] at hx
    unfold qn_callSpecial at hx
    obtain ⟨x1, x2, x3⟩ := C.opx hN hL (j := 0) (x := 0) (by omega) (by decide)
    rw [if_neg (show ¬ (6 : Int32) = 0 by decide), if_neg (show ¬ (6 : Int32) = 1 by decide), if_neg (show ¬ (6 : Int32) = 2 by decide), if_neg (show ¬ (6 : Int32) = 3 by decide), if_neg (show ¬ (6 : Int32) = 4 by decide), if_neg (show ¬ (6 : Int32) = 5 by decide), if_pos rfl, x3, ob_, ob_] at hx
    exact ⟨0, _, _, hm, hx, R.give H x1 hs hM⟩
  · rw [if_neg (len_ne c1 (by simp only [Int32.reduceToInt]; omega)), ob_] at hm
    exact C.bad hN hL (p := 6) (o := 1) (by decide) (by decide) ⟨by simp only [Int32.reduceToInt]; omega, by decide⟩ hm
theorem PC.p5 (C : PC n K m z F A M) (hN : 5000 ≤ N) (hX : kd (qm_g_operands m) = 4 → mub m + F * 4004 + 4005 ≤ M) {L : List Int64} (hL : lst (qm_g_first m) (qm_g_second m) L (qm_g_operands m)) : PO N n K m z M 5 := by
  obtain ⟨H, R, ⟨o1, o2⟩, he, hs, hM⟩ := id C
  have hm := C.part hN hL (p := 5) (by decide)
  unfold qm_combinesPart_B56 at hm
  obtain ⟨r, m', g1, g2⟩ := R.begins H o2 ⟨L, hL⟩ he hs hM (fun e => by have := hX e; omega)
  rw [if_neg (show ¬ (5 : Int32) = 0 by decide), if_neg (show ¬ (5 : Int32) = 1 by decide), if_neg (show ¬ (5 : Int32) = 2 by decide), if_neg (show ¬ (5 : Int32) = 3 by decide), if_neg (show ¬ (5 : Int32) = 4 by decide), if_pos rfl, g1, ob_, ob_] at hm
  have hx := C.due hN hL (p := 5) (o := -1) (by decide) (by decide) (Or.inr rfl)
  unfold qn_haveDueKinds at hx
  rw [if_neg (show ¬ (5 : Int32) = 1 by decide), if_neg (show ¬ (5 : Int32) = 2 by decide), if_neg (show ¬ (5 : Int32) = 3 by decide), if_neg (show ¬ (5 : Int32) = 4 by decide), if_pos rfl, ob_, if_neg (show ¬ ((1 : Int32), z).1 = 0 from by show ¬ (1 : Int32) = 0; decide), if_neg (by decide)] at hx
  unfold qn_callSpecial at hx
  rw [if_neg (show ¬ (5 : Int32) = 0 by decide), if_neg (show ¬ (5 : Int32) = 1 by decide), if_neg (show ¬ (5 : Int32) = 2 by decide), if_neg (show ¬ (5 : Int32) = 3 by decide), if_neg (show ¬ (5 : Int32) = 4 by decide), if_pos rfl, ob_, o1] at hx
  exact ⟨r, m', _, hm, hx, g2⟩
end
