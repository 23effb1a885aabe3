/-! ===== if, define, set ===== -/
section
variable {n : Nat} {K : Nat → Nat} {m : qm_S} {z : qn_S} {F A : Nat} {M : Int} {N : Nat}
theorem PC.isop (C : PC n K m z F A M) (hN : 5000 ≤ N) {L : List Int64} (hL : lst (qm_g_first m) (qm_g_second m) L (qm_g_operands m)) {j : Nat} (hj : j < L.length) {x k : Int32} (hx : x.toInt = j) :
    qn_isOperand N z x k = some (if qw_kindOf (xw (el L j)) = k then 1 else 0) := by
  have h := (C.opx hN hL hj hx).2.2
  unfold qn_operand at h
  unfold qn_isOperand
  cases h2 : qh_elementOf N (qn_gH z) (qn_g_operands z) x with
  | none => rw [h2] at h; cases h
  | some a =>
    rw [h2, ob_] at h
    have e := Option.some.inj h
    subst e
    rw [ob_]
    split <;> rfl
theorem isSym_of {v : Int64} : qm_isSymbol v = if kd v = 2 then 1 else 0 := by
  unfold qm_isSymbol
  by_cases h : kd v = 2
  · rw [if_pos (mk2.mpr h), if_pos h]
  · rw [if_neg (mt mk2.mp h), if_neg h]
theorem PC.p0 (C : PC n K m z F A M) (hN : 5000 ≤ N) (hX : kd (qm_g_operands m) = 4 → mub m + F * 4004 + 4005 ≤ M) {L : List Int64} (hL : lst (qm_g_first m) (qm_g_second m) L (qm_g_operands m)) : PO N n K m z M 0 := by
  obtain ⟨H, R, ⟨o1, o2⟩, he, hs, hM⟩ := id C
  have c1 := (C.cnt hN hL).1
  have hm := C.part hN hL (p := 0) (by decide)
  unfold qm_combinesPart_B56 at hm
  rw [if_pos rfl] at hm
  by_cases h0 : L.length = 3
  · rw [if_pos (len_eq c1 (by rw [h0]; rfl))] at hm
    have hx := C.due hN hL (p := 0) (o := 3) (by decide) (by decide) (Or.inl (by rw [h0]; rfl))
    unfold qn_haveDueKinds at hx
    rw [if_neg (show ¬ (0 : Int32) = 1 by decide), if_neg (show ¬ (0 : Int32) = 2 by decide), if_neg (show ¬ (0 : Int32) = 3 by decide), if_neg (show ¬ (0 : Int32) = 4 by decide), if_neg (show ¬ (0 : Int32) = 5 by decide), if_neg (show ¬ (0 : Int32) = 6 by decide), if_neg (show ¬ (0 : Int32) = 7 by decide), if_neg (show ¬ (0 : Int32) = 8 by decide), if_neg (show ¬ (0 : Int32) = 9 by decide), if_neg (show ¬ (0 : Int32) = 10 by decide), if_neg (show ¬ (0 : Int32) = 11 by decide), if_neg (show ¬ (0 : Int32) = 12 by decide), if_neg (show ¬ (0 : Int32) = 13 by decide), if_neg (show ¬ (0 : Int32) = 14 by decide), if_neg (show ¬ (0 : Int32) = 15 by decide), if_neg (show ¬ (0 : Int32) = 16 by decide), if_neg (show ¬ (0 : Int32) = 17 by decide), if_neg (show ¬ (0 : Int32) = 18 by decide), if_neg (show ¬ (0 : Int32) = 19 by decide), if_neg (show ¬ (0 : Int32) = 20 by decide), if_neg (show ¬ (0 : Int32) = 21 by decide), if_neg (show ¬ (0 : Int32) = 22 by decide), if_neg (show ¬ (0 : Int32) = 23 by decide), if_neg (show ¬ (0 : Int32) = 24 by decide), ob_, if_neg (show ¬ ((1 : Int32), z).1 = 0 from by show ¬ (1 : Int32) = 0; decide), if_neg (by decide)] at hx
    unfold qn_callSpecial at hx
    obtain ⟨x1, x2, x3⟩ := C.opx hN hL (j := 0) (x := 0) (by omega) (by decide)
    rw [if_pos rfl, x3, ob_, ob_] at hx
    match L, h0, hL with
    | [a, b, c], _, hL =>
      obtain ⟨k4, hl1, hl2⟩ := hL
      obtain ⟨f1, f2, f3, f4, f5, f6, f7⟩ := H.pair o2 (Nat.le_refl _) k4
      rw [o1, f2] at hx
      obtain ⟨r, m', g1, g2⟩ := R.frame H (x := el [a, b, c] 0) x1 (tk := 2) (gt := 0) (fk := 2) (fb := 0) (rs := xw (qm_g_second m (ix (qm_g_operands m)))) (hd := 3) (fo := el [a, b, c] 1) (fh := el [a, b, c] 2) (fa := qm_g_around m) (M := M)
        ⟨rfl, he, by omega, by omega, Or.inr (Or.inr (Or.inl ⟨rfl, rfl, _, rfl, ok_mono f6 (by omega) (fun _ _ => rfl), hl2⟩))⟩ (by omega) (by have := hX k4; omega)
      rw [g1, ob_, ob_] at hm
      exact ⟨r, m', _, hm, hx, g2⟩
  · rw [if_neg (len_ne c1 (by simp only [Int32.reduceToInt]; omega)), ob_] at hm
    exact C.bad hN hL (p := 0) (o := 3) (by decide) (by decide) ⟨by simp only [Int32.reduceToInt]; omega, by decide⟩ hm
theorem PC.p3 (C : PC n K m z F A M) (hN : 5000 ≤ N) (hX : kd (qm_g_operands m) = 4 → mub m + F * 4004 + 4005 ≤ M) {L : List Int64} (hL : lst (qm_g_first m) (qm_g_second m) L (qm_g_operands m)) : PO N n K m z M 3 := by
  obtain ⟨H, R, ⟨o1, o2⟩, he, hs, hM⟩ := id C
  have c1 := (C.cnt hN hL).1
  have hn := H.hn
  have hm := C.part hN hL (p := 3) (by decide)
  unfold qm_combinesPart_B56 at hm
  rw [if_neg (show ¬ (3 : Int32) = 0 by decide), if_neg (show ¬ (3 : Int32) = 1 by decide), if_neg (show ¬ (3 : Int32) = 2 by decide), if_pos rfl] at hm
  by_cases h0 : L.length = 2
  · rw [if_pos (len_eq c1 (by rw [h0]; rfl)), isSym_of] at hm
    have hx := C.due hN hL (p := 3) (o := 2) (by decide) (by decide) (Or.inl (by rw [h0]; rfl))
    obtain ⟨x1, x2, x3⟩ := C.opx hN hL (j := 0) (x := 0) (by omega) (by decide)
    obtain ⟨y1, y2, y3⟩ := C.opx hN hL (j := 1) (x := 1) (by omega) (by decide)
    unfold qn_haveDueKinds at hx
    rw [if_neg (show ¬ (3 : Int32) = 1 by decide), if_neg (show ¬ (3 : Int32) = 2 by decide), if_pos rfl, C.isop hN hL (j := 0) (x := 0) (by omega) (by decide), ob_, ob_] at hx
    by_cases k2 : kd (el L 0) = 2
    · rw [if_pos k2, if_neg (by decide)] at hm
      rw [if_pos ((xk2 x1 hn).mpr k2), if_neg (show ¬ (bz 1, z).1 = 0 from by show ¬ bz 1 = 0; decide), if_neg (by decide)] at hx
      unfold qn_callSpecial at hx
      rw [if_neg (show ¬ (3 : Int32) = 0 by decide), if_neg (show ¬ (3 : Int32) = 1 by decide), if_neg (show ¬ (3 : Int32) = 2 by decide), if_pos rfl, y3, ob_, ob_, o1] at hx
      match L, h0, hL with
      | [a, b], _, hL =>
        have hidx := idx_of (m := m) x1 hn (by rw [k2]; decide)
        obtain ⟨r, m', g1, g2⟩ := R.frame H (x := el [a, b] 1) y1 (tk := 3) (gt := 0) (fk := 3) (fb := qm_indexOf m (el [a, b] 0)) (rs := xw (qm_g_operands m)) (hd := 3) (fo := 0) (fh := 0) (fa := qm_g_around m) (M := M)
          ⟨rfl, he, by omega, by omega, Or.inr (Or.inr (Or.inr (Or.inl ⟨rfl, rfl, _, a, b, rfl, o2, hL, k2, hidx⟩)))⟩ (by omega) (by have := hX hL.1; omega)
        rw [g1, ob_, ob_] at hm
        exact ⟨r, m', _, hm, hx, g2⟩
    · rw [if_neg k2, if_pos rfl, ob_] at hm
      rw [if_neg (mt (xk2 x1 hn).mp k2), if_pos (show (bz 0, z).1 = 0 from by show bz 0 = 0; decide)] at hx
      exact ⟨-8, m, _, hm, hx, R.fail H (by decide)⟩
  · rw [if_neg (len_ne c1 (by simp only [Int32.reduceToInt]; omega)), ob_] at hm
    exact C.bad hN hL (p := 3) (o := 2) (by decide) (by decide) ⟨by simp only [Int32.reduceToInt]; omega, by decide⟩ hm
theorem PC.p4 (C : PC n K m z F A M) (hN : 5000 ≤ N) (hX : kd (qm_g_operands m) = 4 → mub m + F * 4004 + 4005 ≤ M) {L : List Int64} (hL : lst (qm_g_first m) (qm_g_second m) L (qm_g_operands m)) : PO N n K m z M 4 := by
  obtain ⟨H, R, ⟨o1, o2⟩, he, hs, hM⟩ := id C
  have c1 := (C.cnt hN hL).1
  have hn := H.hn
  have hm := C.part hN hL (p := 4) (by decide)
  unfold qm_combinesPart_B56 at hm
  rw [if_neg (show ¬ (4 : Int32) = 0 by decide), if_neg (show ¬ (4 : Int32) = 1 by decide), if_neg (show ¬ (4 : Int32) = 2 by decide), if_neg (show ¬ (4 : Int32) = 3 by decide), if_pos rfl] at hm
  by_cases h0 : L.length = 3
  · rw [if_pos (len_eq c1 (by rw [h0]; rfl)), isSym_of] at hm
    have hx := C.due hN hL (p := 4) (o := 3) (by decide) (by decide) (Or.inl (by rw [h0]; rfl))
    obtain ⟨x1, x2, x3⟩ := C.opx hN hL (j := 0) (x := 0) (by omega) (by decide)
    obtain ⟨y1, y2, y3⟩ := C.opx hN hL (j := 1) (x := 1) (by omega) (by decide)
    unfold qn_haveDueKinds at hx
    rw [if_neg (show ¬ (4 : Int32) = 1 by decide), if_neg (show ¬ (4 : Int32) = 2 by decide), if_neg (show ¬ (4 : Int32) = 3 by decide), if_pos rfl, C.isop hN hL (j := 1) (x := 1) (by omega) (by decide), ob_, ob_] at hx
    by_cases k2 : kd (el L 1) = 2
    · rw [if_pos k2, if_neg (by decide)] at hm
      rw [if_pos ((xk2 y1 hn).mpr k2), if_neg (show ¬ (bz 1, z).1 = 0 from by show ¬ bz 1 = 0; decide), if_neg (by decide)] at hx
      unfold qn_callSpecial at hx
      rw [if_neg (show ¬ (4 : Int32) = 0 by decide), if_neg (show ¬ (4 : Int32) = 1 by decide), if_neg (show ¬ (4 : Int32) = 2 by decide), if_neg (show ¬ (4 : Int32) = 3 by decide), if_pos rfl, x3, ob_, ob_] at hx
      match L, h0, hL with
      | [a, b, c], _, hL =>
        obtain ⟨k4, hl1, hl2⟩ := hL
        obtain ⟨f1, f2, f3, f4, f5, f6, f7⟩ := H.pair o2 (Nat.le_refl _) k4
        rw [o1, f2] at hx
        have hidx := idx_of (m := m) y1 hn (by rw [k2]; decide)
        obtain ⟨r, m', g1, g2⟩ := R.frame H (x := el [a, b, c] 0) x1 (tk := 4) (gt := 0) (fk := 4) (fb := qm_indexOf m (el [a, b, c] 1)) (rs := xw (qm_g_second m (ix (qm_g_operands m)))) (hd := 3) (fo := el [a, b, c] 2) (fh := 0) (fa := qm_g_around m) (M := M)
          ⟨rfl, he, by omega, by omega, Or.inr (Or.inr (Or.inr (Or.inr (Or.inl ⟨rfl, rfl, _, b, rfl, ok_mono f6 (by omega) (fun _ _ => rfl), hl2, k2, hidx⟩))))⟩ (by omega) (by have := hX k4; omega)
        rw [g1, ob_, ob_] at hm
        exact ⟨r, m', _, hm, hx, g2⟩
    · rw [if_neg k2, if_pos rfl, ob_] at hm
      rw [if_neg (mt (xk2 y1 hn).mp k2), if_pos (show (bz 0, z).1 = 0 from by show bz 0 = 0; decide)] at hx
      exact ⟨-8, m, _, hm, hx, R.fail H (by decide)⟩
  · rw [if_neg (len_ne c1 (by simp only [Int32.reduceToInt]; omega)), ob_] at hm
    exact C.bad hN hL (p := 4) (o := 3) (by decide) (by decide) ⟨by simp only [Int32.reduceToInt]; omega, by decide⟩ hm
end
