/-! ===== primitives above the first eight: the reference's side ===== -/
section
variable {n : Nat} {K : Nat → Nat} {m : qm_S} {z : qn_S} {F A : Nat} {M : Int} {N : Nat}
/-- two operands -/
theorem PC.two (C : PC n K m z F A M) (hN : 5000 ≤ N) {L : List Int64} (hL : lst (qm_g_first m) (qm_g_second m) L (qm_g_operands m)) {p : Int32} (hp : (12 ≤ p.toInt ∧ p.toInt < 16) ∨ p.toInt = 20 ∨ p.toInt = 24) :
    qm_combinesPrimitive N m p = if L.length = 2 then (qm_combinesTwo m p (el L 0) (el L 1)).bind fun r => some (r.1, r.2) else some (-8, m) := by
  obtain ⟨c1, c2, c3⟩ := C.cnt hN hL
  have ci := nI_int c1
  have o2 := C.2.2.1.2
  have hB : qm_combinesPrimitive_B102 N m p (nI L.length) = if L.length = 2 then (qm_combinesTwo m p (el L 0) (el L 1)).bind fun r => some (r.1, r.2) else some (-8, m) := by
    unfold qm_combinesPrimitive_B102
    rw [if_neg (show ¬ (1 : Int32) = 0 by decide)]
    unfold qm_combinesPrimitive_B118
    by_cases h2 : L.length = 2
    · have hc : qm_carOf m (qm_g_operands m) = some (el L 0) := by
        match L, h2, hL with
        | [a, b], _, hL =>
          rw [(C.1.pair o2 (Nat.le_refl _) hL.1).2.2.1, hL.2.1]
          rfl
      rw [if_pos (len_eq c1 (by rw [h2]; rfl)), hc, ob_, if_neg (show ¬ (1 : Int32) = 0 by decide), (C.opx hN hL (j := 1) (x := 1) (by omega) (by decide)).2.1, ob_, if_pos h2]
    · rw [if_neg (len_ne c1 (by simp only [Int32.reduceToInt]; omega)), if_neg h2]
  unfold qm_combinesPrimitive
  rw [c2, ob_, if_pos (by ((try simp only [Int32.lt_iff_toInt_lt, Int32.le_iff_toInt_le, Int64.lt_iff_toInt_lt, Int64.le_iff_toInt_le, ← Int32.toInt_inj, ← Int64.toInt_inj, Int32.reduceToInt, Int64.reduceToInt] at *); omega)), if_pos (by ((try simp only [Int32.lt_iff_toInt_lt, Int32.le_iff_toInt_le, Int64.lt_iff_toInt_lt, Int64.le_iff_toInt_le, ← Int32.toInt_inj, ← Int64.toInt_inj, Int32.reduceToInt, Int64.reduceToInt] at *); omega)), if_neg (by ((try simp only [Int32.lt_iff_toInt_lt, Int32.le_iff_toInt_le, Int64.lt_iff_toInt_lt, Int64.le_iff_toInt_le, ← Int32.toInt_inj, ← Int64.toInt_inj, Int32.reduceToInt, Int64.reduceToInt] at *); omega)), if_neg (by ((try simp only [Int32.lt_iff_toInt_lt, Int32.le_iff_toInt_le, Int64.lt_iff_toInt_lt, Int64.le_iff_toInt_le, ← Int32.toInt_inj, ← Int64.toInt_inj, Int32.reduceToInt, Int64.reduceToInt] at *); omega)), if_neg (by ((try simp only [Int32.lt_iff_toInt_lt, Int32.le_iff_toInt_le, Int64.lt_iff_toInt_lt, Int64.le_iff_toInt_le, ← Int32.toInt_inj, ← Int64.toInt_inj, Int32.reduceToInt, Int64.reduceToInt] at *); omega)), if_neg (by ((try simp only [Int32.lt_iff_toInt_lt, Int32.le_iff_toInt_le, Int64.lt_iff_toInt_lt, Int64.le_iff_toInt_le, ← Int32.toInt_inj, ← Int64.toInt_inj, Int32.reduceToInt, Int64.reduceToInt] at *); omega)), hB]
  by_cases h16 : p < 16
  · rw [if_pos h16]
  · rw [if_neg h16]
    by_cases h20 : p = 20
    · rw [if_pos h20]
    · rw [if_neg h20, if_pos (by ((try simp only [Int32.lt_iff_toInt_lt, Int32.le_iff_toInt_le, Int64.lt_iff_toInt_lt, Int64.le_iff_toInt_le, ← Int32.toInt_inj, ← Int64.toInt_inj, Int32.reduceToInt, Int64.reduceToInt] at *); omega))]
/-- one operand -/
theorem PC.one (C : PC n K m z F A M) (hN : 5000 ≤ N) {L : List Int64} (hL : lst (qm_g_first m) (qm_g_second m) L (qm_g_operands m)) {p : Int32} (hp : (16 ≤ p.toInt ∧ p.toInt < 20) ∨ p.toInt = 21 ∨ p.toInt = 22) :
    qm_combinesPrimitive N m p = if L.length = 1 then (qm_combinesSingle m p (el L 0)).bind fun r => some (r.1, r.2) else some (-8, m) := by
  obtain ⟨c1, c2, c3⟩ := C.cnt hN hL
  have ci := nI_int c1
  have o2 := C.2.2.1.2
  unfold qm_combinesPrimitive
  rw [c2, ob_, if_pos (by ((try simp only [Int32.lt_iff_toInt_lt, Int32.le_iff_toInt_le, Int64.lt_iff_toInt_lt, Int64.le_iff_toInt_le, ← Int32.toInt_inj, ← Int64.toInt_inj, Int32.reduceToInt, Int64.reduceToInt] at *); omega)), if_pos (by ((try simp only [Int32.lt_iff_toInt_lt, Int32.le_iff_toInt_le, Int64.lt_iff_toInt_lt, Int64.le_iff_toInt_le, ← Int32.toInt_inj, ← Int64.toInt_inj, Int32.reduceToInt, Int64.reduceToInt] at *); omega)), if_neg (by ((try simp only [Int32.lt_iff_toInt_lt, Int32.le_iff_toInt_le, Int64.lt_iff_toInt_lt, Int64.le_iff_toInt_le, ← Int32.toInt_inj, ← Int64.toInt_inj, Int32.reduceToInt, Int64.reduceToInt] at *); omega)), if_neg (by ((try simp only [Int32.lt_iff_toInt_lt, Int32.le_iff_toInt_le, Int64.lt_iff_toInt_lt, Int64.le_iff_toInt_le, ← Int32.toInt_inj, ← Int64.toInt_inj, Int32.reduceToInt, Int64.reduceToInt] at *); omega)), if_neg (by ((try simp only [Int32.lt_iff_toInt_lt, Int32.le_iff_toInt_le, Int64.lt_iff_toInt_lt, Int64.le_iff_toInt_le, ← Int32.toInt_inj, ← Int64.toInt_inj, Int32.reduceToInt, Int64.reduceToInt] at *); omega)), if_neg (by ((try simp only [Int32.lt_iff_toInt_lt, Int32.le_iff_toInt_le, Int64.lt_iff_toInt_lt, Int64.le_iff_toInt_le, ← Int32.toInt_inj, ← Int64.toInt_inj, Int32.reduceToInt, Int64.reduceToInt] at *); omega)), if_neg (by ((try simp only [Int32.lt_iff_toInt_lt, Int32.le_iff_toInt_le, Int64.lt_iff_toInt_lt, Int64.le_iff_toInt_le, ← Int32.toInt_inj, ← Int64.toInt_inj, Int32.reduceToInt, Int64.reduceToInt] at *); omega)), if_neg (by ((try simp only [Int32.lt_iff_toInt_lt, Int32.le_iff_toInt_le, Int64.lt_iff_toInt_lt, Int64.le_iff_toInt_le, ← Int32.toInt_inj, ← Int64.toInt_inj, Int32.reduceToInt, Int64.reduceToInt] at *); omega)), if_neg (by ((try simp only [Int32.lt_iff_toInt_lt, Int32.le_iff_toInt_le, Int64.lt_iff_toInt_lt, Int64.le_iff_toInt_le, ← Int32.toInt_inj, ← Int64.toInt_inj, Int32.reduceToInt, Int64.reduceToInt] at *); omega)), if_pos rfl]
  unfold qm_combinesPrimitive_B118
  by_cases h1 : L.length = 1
  · have hc : qm_carOf m (qm_g_operands m) = some (el L 0) := by
      match L, h1, hL with
      | [a], _, hL =>
        rw [(C.1.pair o2 (Nat.le_refl _) hL.1).2.2.1, hL.2.1]
        rfl
    rw [if_pos (len_eq c1 (by rw [h1]; rfl)), hc, ob_, if_pos rfl, if_pos h1]
  · rw [if_neg (len_ne c1 (by simp only [Int32.reduceToInt]; omega)), if_neg h1]
end
