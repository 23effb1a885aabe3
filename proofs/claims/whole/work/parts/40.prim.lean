/-! ===== primitives: what both sides begin with ===== -/
def PC (n : Nat) (K : Nat → Nat) (m : qm_S) (z : qn_S) (F A : Nat) (M : Int) : Prop :=
  HR n K (qn_gH z) m ∧ MR n K m z F A A ∧ (qn_g_operands z = xw (qm_g_operands m) ∧ ok n K (qm_g_operands m)) ∧ envr n K (qn_g_environment z) (qm_g_around m) ∧ (F : Int) + A + 1 ≤ (qm_g_steps m).toInt ∧ mub m + F * 4004 + 3 < M
def PO (N n : Nat) (K : Nat → Nat) (m : qm_S) (z : qn_S) (M : Int) (p : Int32) : Prop :=
  ∃ r m' z', qm_combinesPrimitive N m p = some (r, m') ∧ qn_callPrimitive N z p = some z' ∧ Out n K m M m' z' r
theorem nI_int {c : Nat} (h : c ≤ 4000) : (nI c).toInt = c := by rw [nI_iI, iI_toInt] <;> omega
theorem due_no (z : qn_S) {p c o : Int32} (hp : 0 ≤ p.toInt ∧ p.toInt < 26) (ho : oc_f (Int32.toNatClampNeg p) = o) (h : c = -1 ∨ (o ≠ c ∧ o ≠ -1)) : qn_hasDueCount z p c = 0 := by
  unfold qn_hasDueCount
  rw [if_neg (by ((try simp only [Int32.lt_iff_toInt_lt, Int32.le_iff_toInt_le, Int64.lt_iff_toInt_lt, Int64.le_iff_toInt_le, ← Int32.toInt_inj, ← Int64.toInt_inj, Int32.reduceToInt, Int64.reduceToInt] at *); omega)), if_neg (by ((try simp only [Int32.lt_iff_toInt_lt, Int32.le_iff_toInt_le, Int64.lt_iff_toInt_lt, Int64.le_iff_toInt_le, ← Int32.toInt_inj, ← Int64.toInt_inj, Int32.reduceToInt, Int64.reduceToInt] at *); omega)), ho]
  by_cases h1 : c = -1
  · rw [if_pos h1]
  · rw [if_neg h1, if_neg (h.resolve_left h1).1, if_neg (h.resolve_left h1).2]
theorem due_yes (z : qn_S) {p c o : Int32} (hp : 0 ≤ p.toInt ∧ p.toInt < 26) (ho : oc_f (Int32.toNatClampNeg p) = o) (h1 : c ≠ -1) (h : o = c ∨ o = -1) : qn_hasDueCount z p c = 1 := by
  unfold qn_hasDueCount
  rw [if_neg (by ((try simp only [Int32.lt_iff_toInt_lt, Int32.le_iff_toInt_le, Int64.lt_iff_toInt_lt, Int64.le_iff_toInt_le, ← Int32.toInt_inj, ← Int64.toInt_inj, Int32.reduceToInt, Int64.reduceToInt] at *); omega)), if_neg (by ((try simp only [Int32.lt_iff_toInt_lt, Int32.le_iff_toInt_le, Int64.lt_iff_toInt_lt, Int64.le_iff_toInt_le, ← Int32.toInt_inj, ← Int64.toInt_inj, Int32.reduceToInt, Int64.reduceToInt] at *); omega)), ho, if_neg h1]
  by_cases h2 : o = c
  · rw [if_pos h2]
  · rw [if_neg h2, if_pos (h.resolve_left h2)]
theorem lst_inj {f s : Nat → Int64} : ∀ (L L' : List Int64) (v : Int64), lst f s L v → lst f s L' v → L = L'
  | [], [], _, _, _ => rfl
  | [], _ :: _, v, h1, h2 => absurd (show kd v = 3 from h1) (by have := h2.1; omega)
  | _ :: _, [], v, h1, h2 => absurd (show kd v = 3 from h2) (by have := h1.1; omega)
  | a :: L, b :: L', v, ⟨h1, h2, h3⟩, ⟨g1, g2, g3⟩ => by rw [← h2, ← g2, lst_inj L L' _ h3 g3]
/-- an operand, or 0 where there is none -/
def el (L : List Int64) (j : Nat) : Int64 := (L[j]?).getD 0
section
variable {n : Nat} {K : Nat → Nat} {m : qm_S} {z : qn_S} {F A : Nat} {M : Int} {N : Nat}
theorem PC.opx (C : PC n K m z F A M) (hN : 5000 ≤ N) {L : List Int64} (hL : lst (qm_g_first m) (qm_g_second m) L (qm_g_operands m)) {j : Nat} (hj : j < L.length) {x : Int32} (hx : x.toInt = j) :
    ok n K (el L j) ∧ qm_elementOf N m (qm_g_operands m) x = some (el L j) ∧ qn_operand N z x = some (xw (el L j)) := by
  obtain ⟨H, R, ⟨o1, o2⟩, -⟩ := C
  obtain ⟨b, h1, h2, h3, h4⟩ := H.elem hN o2 hL hj hx
  have he : el L j = b := by unfold el; rw [h1]; rfl
  rw [he]
  refine ⟨h2, h3, ?_⟩
  unfold qn_operand
  rw [o1, h4, ob_]
/-- operands that are no list -/
theorem PC.none (C : PC n K m z F A M) (hN : 5000 ≤ N) {p : Int32} (hp : 0 ≤ p.toInt ∧ p.toInt < 26) (h : ∀ L, ¬ lst (qm_g_first m) (qm_g_second m) L (qm_g_operands m)) : PO N n K m z M p := by
  obtain ⟨H, R, ⟨o1, o2⟩, -⟩ := C
  rcases H.long hN o2 with ⟨L, h1, -⟩ | ⟨-, h2, h3⟩
  · exact absurd h1 (h L)
  · refine ⟨-8, m, qn_fail z (-8), ?_, ?_, R.fail H (by decide)⟩
    · unfold qm_combinesPrimitive
      rw [h2, ob_, if_neg (by decide)]
    · unfold qn_callPrimitive
      rw [o1, h3, ob_, due_no z hp rfl (Or.inl rfl), if_pos rfl]
/-- both count the operands -/
theorem PC.cnt (C : PC n K m z F A M) (hN : 5000 ≤ N) {L : List Int64} (hL : lst (qm_g_first m) (qm_g_second m) L (qm_g_operands m)) : L.length ≤ 4000 ∧ qm_longOf N m (qm_g_operands m) = some (nI L.length) ∧ qh_lengthOf N (qn_gH z) (qn_g_operands z) = some (nI L.length) := by
  obtain ⟨H, R, ⟨o1, o2⟩, -⟩ := C
  have hn := H.hn
  rcases H.long hN o2 with ⟨L', h1, h2, h3, h4⟩ | ⟨h1, -⟩
  · have e := lst_inj L L' _ hL h1
    subst e
    rw [o1]
    exact ⟨by omega, h3, h4⟩
  · exact absurd hL (h1 L)
/-- the reference's first eight: their operands -/
theorem PC.part (C : PC n K m z F A M) (hN : 5000 ≤ N) {L : List Int64} (hL : lst (qm_g_first m) (qm_g_second m) L (qm_g_operands m)) {p : Int32} (hp : p.toInt < 8) :
    qm_combinesPrimitive N m p = (qm_combinesPart_B56 N m p (nI L.length) (el L 0) (el L 1) (el L 2)).bind fun r => some (r.1, r.2) := by
  obtain ⟨c1, c2, c3⟩ := C.cnt hN hL
  have ci := nI_int c1
  have hP : qm_combinesPart N m p (nI L.length) = qm_combinesPart_B56 N m p (nI L.length) (el L 0) (el L 1) (el L 2) := by
    unfold qm_combinesPart
    by_cases h0 : L.length = 0
    · have e0 : el L 0 = 0 := by unfold el; rw [List.getElem?_eq_none (by omega)]; rfl
      have e1 : el L 1 = 0 := by unfold el; rw [List.getElem?_eq_none (by omega)]; rfl
      have e2 : el L 2 = 0 := by unfold el; rw [List.getElem?_eq_none (by omega)]; rfl
      rw [if_pos (by ((try simp only [Int32.lt_iff_toInt_lt, Int32.le_iff_toInt_le, Int64.lt_iff_toInt_lt, Int64.le_iff_toInt_le, ← Int32.toInt_inj, ← Int64.toInt_inj, Int32.reduceToInt, Int64.reduceToInt] at *); omega))]
      unfold qm_combinesPart_B17
      rw [if_pos (by ((try simp only [Int32.lt_iff_toInt_lt, Int32.le_iff_toInt_le, Int64.lt_iff_toInt_lt, Int64.le_iff_toInt_le, ← Int32.toInt_inj, ← Int64.toInt_inj, Int32.reduceToInt, Int64.reduceToInt] at *); omega))]
      unfold qm_combinesPart_B36
      rw [if_pos (by ((try simp only [Int32.lt_iff_toInt_lt, Int32.le_iff_toInt_le, Int64.lt_iff_toInt_lt, Int64.le_iff_toInt_le, ← Int32.toInt_inj, ← Int64.toInt_inj, Int32.reduceToInt, Int64.reduceToInt] at *); omega)), e0, e1, e2]
    · rw [if_neg (by ((try simp only [Int32.lt_iff_toInt_lt, Int32.le_iff_toInt_le, Int64.lt_iff_toInt_lt, Int64.le_iff_toInt_le, ← Int32.toInt_inj, ← Int64.toInt_inj, Int32.reduceToInt, Int64.reduceToInt] at *); omega)), (C.opx hN hL (j := 0) (x := 0) (by omega) (by decide)).2.1, ob_]
      unfold qm_combinesPart_B17
      by_cases h1 : L.length = 1
      · have e1 : el L 1 = 0 := by unfold el; rw [List.getElem?_eq_none (by omega)]; rfl
        have e2 : el L 2 = 0 := by unfold el; rw [List.getElem?_eq_none (by omega)]; rfl
        rw [if_pos (by ((try simp only [Int32.lt_iff_toInt_lt, Int32.le_iff_toInt_le, Int64.lt_iff_toInt_lt, Int64.le_iff_toInt_le, ← Int32.toInt_inj, ← Int64.toInt_inj, Int32.reduceToInt, Int64.reduceToInt] at *); omega))]
        unfold qm_combinesPart_B36
        rw [if_pos (by ((try simp only [Int32.lt_iff_toInt_lt, Int32.le_iff_toInt_le, Int64.lt_iff_toInt_lt, Int64.le_iff_toInt_le, ← Int32.toInt_inj, ← Int64.toInt_inj, Int32.reduceToInt, Int64.reduceToInt] at *); omega)), e1, e2]
      · rw [if_neg (by ((try simp only [Int32.lt_iff_toInt_lt, Int32.le_iff_toInt_le, Int64.lt_iff_toInt_lt, Int64.le_iff_toInt_le, ← Int32.toInt_inj, ← Int64.toInt_inj, Int32.reduceToInt, Int64.reduceToInt] at *); omega)), (C.opx hN hL (j := 1) (x := 1) (by omega) (by decide)).2.1, ob_]
        unfold qm_combinesPart_B36
        by_cases h2 : L.length = 2
        · have e2 : el L 2 = 0 := by unfold el; rw [List.getElem?_eq_none (by omega)]; rfl
          rw [if_pos (by ((try simp only [Int32.lt_iff_toInt_lt, Int32.le_iff_toInt_le, Int64.lt_iff_toInt_lt, Int64.le_iff_toInt_le, ← Int32.toInt_inj, ← Int64.toInt_inj, Int32.reduceToInt, Int64.reduceToInt] at *); omega)), e2]
        · rw [if_neg (by ((try simp only [Int32.lt_iff_toInt_lt, Int32.le_iff_toInt_le, Int64.lt_iff_toInt_lt, Int64.le_iff_toInt_le, ← Int32.toInt_inj, ← Int64.toInt_inj, Int32.reduceToInt, Int64.reduceToInt] at *); omega)), (C.opx hN hL (j := 2) (x := 2) (by omega) (by decide)).2.1, ob_]
  unfold qm_combinesPrimitive
  rw [c2, ob_, if_pos (by ((try simp only [Int32.lt_iff_toInt_lt, Int32.le_iff_toInt_le, Int64.lt_iff_toInt_lt, Int64.le_iff_toInt_le, ← Int32.toInt_inj, ← Int64.toInt_inj, Int32.reduceToInt, Int64.reduceToInt] at *); omega)), if_neg (by ((try simp only [Int32.lt_iff_toInt_lt, Int32.le_iff_toInt_le, Int64.lt_iff_toInt_lt, Int64.le_iff_toInt_le, ← Int32.toInt_inj, ← Int64.toInt_inj, Int32.reduceToInt, Int64.reduceToInt] at *); omega)), hP]
/-- the class, where the count of operands fits -/
theorem PC.due (C : PC n K m z F A M) (hN : 5000 ≤ N) {L : List Int64} (hL : lst (qm_g_first m) (qm_g_second m) L (qm_g_operands m)) {p o : Int32} (hp : 0 ≤ p.toInt ∧ p.toInt < 26) (ho : oc_f (Int32.toNatClampNeg p) = o) (h : o.toInt = L.length ∨ o = -1) :
    qn_callPrimitive N z p = (qn_haveDueKinds N z p (nI L.length)).bind fun r4 => if r4.1 = (0 : Int32) then some (qn_fail r4.2 (-8 : Int32)) else if (10 : Int32) ≤ p then if (20 : Int32) ≤ p then ((qn_callScopeFunction N r4.2 p (nI L.length))).bind fun r9 => some r9 else ((qn_callDataFunction N r4.2 p)).bind fun r11 => some r11 else ((qn_callSpecial N r4.2 p)).bind fun r13 => some r13 := by
  obtain ⟨c1, c2, c3⟩ := C.cnt hN hL
  have ci := nI_int c1
  unfold qn_callPrimitive
  rw [c3, ob_, due_yes z hp ho (fun e => by rw [e] at ci; simp only [Int32.reduceToInt] at ci; omega) (h.imp (fun e => i_ext (by rw [e, ci])) id), if_neg (by decide)]
/-- and where it doesn't -/
theorem PC.bad (C : PC n K m z F A M) (hN : 5000 ≤ N) {L : List Int64} (hL : lst (qm_g_first m) (qm_g_second m) L (qm_g_operands m)) {p o : Int32} (hp : 0 ≤ p.toInt ∧ p.toInt < 26) (ho : oc_f (Int32.toNatClampNeg p) = o) (h : o.toInt ≠ L.length ∧ o ≠ -1) (hM : qm_combinesPrimitive N m p = some (-8, m)) : PO N n K m z M p := by
  obtain ⟨c1, c2, c3⟩ := C.cnt hN hL
  have ci := nI_int c1
  refine ⟨-8, m, qn_fail z (-8), hM, ?_, C.2.1.fail C.1 (by decide)⟩
  unfold qn_callPrimitive
  rw [c3, ob_, due_no z hp ho (Or.inr ⟨fun e => h.1 (by rw [e, ci]), h.2⟩), if_pos rfl]
end
