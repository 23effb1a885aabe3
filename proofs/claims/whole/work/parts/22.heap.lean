/-! ===== looking things up in the two heaps ===== -/
theorem firstAt_of {h : qh_S} {a : Int32} {r : Nat} (ha : a.toInt = r) (hr : r < 4100) : qh_firstAt h a = qh_g_first h r := by
  unfold qh_firstAt
  rw [if_neg (by ((try simp only [Int32.lt_iff_toInt_lt, Int32.le_iff_toInt_le, Int64.lt_iff_toInt_lt, Int64.le_iff_toInt_le, ← Int32.toInt_inj, ← Int64.toInt_inj, Int32.reduceToInt, Int64.reduceToInt] at *); omega)), if_neg (by ((try simp only [Int32.lt_iff_toInt_lt, Int32.le_iff_toInt_le, Int64.lt_iff_toInt_lt, Int64.le_iff_toInt_le, ← Int32.toInt_inj, ← Int64.toInt_inj, Int32.reduceToInt, Int64.reduceToInt] at *); omega)), i_clamp, ha]; rfl
theorem secondAt_of {h : qh_S} {a : Int32} {r : Nat} (ha : a.toInt = r) (hr : r < 4100) : qh_secondAt h a = qh_g_second h r := by
  unfold qh_secondAt
  rw [if_neg (by ((try simp only [Int32.lt_iff_toInt_lt, Int32.le_iff_toInt_le, Int64.lt_iff_toInt_lt, Int64.le_iff_toInt_le, ← Int32.toInt_inj, ← Int64.toInt_inj, Int32.reduceToInt, Int64.reduceToInt] at *); omega)), if_neg (by ((try simp only [Int32.lt_iff_toInt_lt, Int32.le_iff_toInt_le, Int64.lt_iff_toInt_lt, Int64.le_iff_toInt_le, ← Int32.toInt_inj, ← Int64.toInt_inj, Int32.reduceToInt, Int64.reduceToInt] at *); omega)), i_clamp, ha]; rfl
theorem inb_of {i : Int32} {N : Nat} (h1 : 0 ≤ i.toInt) (h2 : i.toInt < N) : inb i N = true := inb_iff.mpr ⟨h1, h2⟩
theorem ok_obj {b : Nat} {K : Nat → Nat} {v : Int64} (h : ok b K v) (h1 : 4 ≤ kd v) (h2 : kd v ≤ 7) (h3 : 0 ≤ wt v) : ix v < b ∧ K (ix v) = kd v ∧ wt v = ix v := by
  unfold ok prim at h
  unfold ix
  rcases h with h | h | h | h | h | ⟨_, _, _, h4, h5⟩ | h | h | h
  all_goals first | omega | exact ⟨by omega, h5, by omega⟩
theorem ok_pair {b : Nat} {K : Nat → Nat} {v : Int64} (h : ok b K v) (h1 : kd v = 4) : ix v < b ∧ K (ix v) = 4 ∧ wt v = ix v := by
  have h3 : 0 ≤ wt v := by unfold ok prim at h; omega
  have := ok_obj h (by omega) (by omega) h3
  rw [h1] at this
  exact this
theorem idx_of {m : qm_S} {b : Nat} {K : Nat → Nat} {v : Int64} (h : ok b K v) (hb : b ≤ 4000) (h0 : kd v ≠ 0) : (qm_indexOf m v).toInt = wt v := by
  have := (ok_b h hb).2.2.2.2 h0
  exact qm_indexOf_wt (by omega) (by omega)
section
variable {n b : Nat} {K : Nat → Nat} {h : qh_S} {m : qm_S} {v : Int64}
theorem car_m (hv : ok b K v) (hb : b ≤ 4000) (hk : kd v = 4) : qm_carOf m v = some (qm_g_first m (ix v)) := by
  have h1 := ok_pair hv hk
  have h2 := idx_of (m := m) hv hb (by omega)
  unfold qm_carOf
  rw [if_pos (inb_of (by omega) (by omega)), i_clamp, h2]; rfl
theorem cdr_m (hv : ok b K v) (hb : b ≤ 4000) (hk : kd v = 4) : qm_cdrOf m v = some (qm_g_second m (ix v)) := by
  have h1 := ok_pair hv hk
  have h2 := idx_of (m := m) hv hb (by omega)
  unfold qm_cdrOf
  rw [if_pos (inb_of (by omega) (by omega)), i_clamp, h2]; rfl
theorem xrow (hv : ok b K v) (hb : b ≤ 4000) (h1 : 4 ≤ kd v) (h2 : kd v ≤ 7) (h3 : 0 ≤ wt v) : (qw_rowOf (xw v)).toInt = ((100 + ix v : Nat) : Int) := by
  have h4 := xw_row hv hb h1 h2
  have h5 := ok_obj hv h1 h2 h3
  rw [h4]; unfold row; rw [if_neg (by omega)]; omega
theorem car_x (hv : ok b K v) (hb : b ≤ 4000) (hk : kd v = 4) : qh_carOf h (xw v) = qh_g_first h (100 + ix v) := by
  have h1 := ok_pair hv hk
  exact firstAt_of (xrow hv hb (by omega) (by omega) (by omega)) (by omega)
theorem cdr_x (hv : ok b K v) (hb : b ≤ 4000) (hk : kd v = 4) : qh_cdrOf h (xw v) = qh_g_second h (100 + ix v) := by
  have h1 := ok_pair hv hk
  exact secondAt_of (xrow hv hb (by omega) (by omega) (by omega)) (by omega)
theorem HR.pair (H : HR n K h m) (hv : ok b K v) (hb : b ≤ n) (hk : kd v = 4) : qh_carOf h (xw v) = xw (qm_g_first m (ix v)) ∧ qh_cdrOf h (xw v) = xw (qm_g_second m (ix v)) ∧ qm_carOf m v = some (qm_g_first m (ix v)) ∧ qm_cdrOf m v = some (qm_g_second m (ix v)) ∧ ok (ix v) K (qm_g_first m (ix v)) ∧ ok (ix v) K (qm_g_second m (ix v)) ∧ ix v < b := by
  have h1 := ok_pair hv hk
  have hn := H.hn
  have h2 := (H.hob (i := ix v) (by omega)).1 h1.2.1
  exact ⟨(car_x hv (by omega) hk).trans h2.1, (cdr_x hv (by omega) hk).trans h2.2.1, car_m hv (by omega) hk, cdr_m hv (by omega) hk, h2.2.2.1, h2.2.2.2, h1.1⟩
/-- the combiner under an applicative -/
def undr (m : qm_S) (v : Int64) : Int64 := if wt v < 0 then vI 5 (wt v) else qm_g_first m (ix v)
theorem HR.und (H : HR n K h m) (hv : ok b K v) (hb : b ≤ n) (hk : kd v = 6) : qm_underOf m v = some (undr m v) ∧ qh_underlyingOf h (xw v) = xw (undr m v) ∧ ok b K (undr m v) ∧ (kd (undr m v) = 5 ∨ kd (undr m v) = 6) ∧ (0 ≤ wt v → ok (ix v) K (undr m v) ∧ ix v < b) ∧ (wt v < 0 → kd (undr m v) = 5) := by
  have hn := H.hn
  have hx := idx_of (m := m) hv (by omega) (by omega)
  have hw := qm_whatOf_wt v
  have hB := (ok_b hv (by omega)).2.2.2.1 (by omega) (by omega)
  by_cases hs : wt v < 0
  · have hr := xw_row hv (by omega) (by omega) (by omega)
    have hrb := row_b hB.1 hB.2
    have hp : 10 ≤ -1 - wt v ∧ -1 - wt v ≤ 25 := by unfold ok prim at hv; omega
    have e1 : kd (vI 5 (wt v)) = 5 := vI_kd (by omega) (by omega) (by omega)
    have e2 : wt (vI 5 (wt v)) = wt v := vI_wt (by omega) (by omega) (by omega)
    have hu : undr m v = vI 5 (wt v) := by unfold undr; rw [if_pos hs]
    have hok : ok b K (vI 5 (wt v)) := by
      unfold ok prim; rw [e1, e2]; omega
    rw [hu]
    refine ⟨?_, ?_, hok, Or.inl e1, fun h => absurd hs (by omega), fun _ => e1⟩
    · unfold qm_underOf
      rw [if_pos (by ((try simp only [Int32.lt_iff_toInt_lt, Int32.le_iff_toInt_le, Int64.lt_iff_toInt_lt, Int64.le_iff_toInt_le, ← Int32.toInt_inj, ← Int64.toInt_inj, Int32.reduceToInt, Int64.reduceToInt] at *); omega)), made_vI (by decide) (by omega) (by omega), hw]; rfl
    · have hg := H.hgr.2.2.2.1 (-1 - wt v).toNat (by omega) (by omega)
      unfold qh_underlyingOf
      rw [firstAt_of (r := (-1 - wt v).toNat) (by rw [hr]; unfold row; rw [if_pos hs]; omega) (by omega), hg]
      have : xw (vI 5 (wt v)) = vI 5 (row (wt v)) := by unfold xw; rw [e1, e2, if_pos (by omega)]
      rw [this]; unfold row; rw [if_pos hs]
      congr 1; omega
  · have h1 := ok_obj hv (by omega) (by omega) (by omega)
    have h2 := (H.hob (i := ix v) (by omega)).2.2.1 (by omega)
    have hu : undr m v = qm_g_first m (ix v) := by unfold undr; rw [if_neg hs]
    rw [hu]
    refine ⟨?_, ?_, ok_mono h2.2.1 (by omega) (fun _ _ => rfl), h2.2.2, fun _ => ⟨h2.2.1, h1.1⟩, fun h => absurd h hs⟩
    · unfold qm_underOf
      rw [if_neg (by ((try simp only [Int32.lt_iff_toInt_lt, Int32.le_iff_toInt_le, Int64.lt_iff_toInt_lt, Int64.le_iff_toInt_le, ← Int32.toInt_inj, ← Int64.toInt_inj, Int32.reduceToInt, Int64.reduceToInt] at *); omega)), if_pos (inb_of (by omega) (by omega)), i_clamp, hx]; rfl
    · rw [← h2.1]
      exact firstAt_of (xrow hv (by omega) (by omega) (by omega) (by omega)) (by omega)
/-- lists, by their elements -/
def lst (f s : Nat → Int64) : List Int64 → Int64 → Prop
  | [], v => kd v = 3
  | a :: L, v => kd v = 4 ∧ f (ix v) = a ∧ lst f s L (s (ix v))
theorem HR.lst_ok (H : HR n K h m) : ∀ (L : List Int64) (b : Nat) (v : Int64), ok b K v → b ≤ n → lst (qm_g_first m) (qm_g_second m) L v → L.length ≤ b ∧ ∀ a ∈ L, ok b K a
  | [], b, v, _, _, _ => ⟨Nat.zero_le _, fun a h => by cases h⟩
  | a :: L, b, v, hv, hb, ⟨h1, h2, h3⟩ => by
    obtain ⟨-, -, -, -, e1, e2, e3⟩ := H.pair hv hb h1
    have ih := H.lst_ok L (ix v) _ e2 (by omega) h3
    refine ⟨by simp only [List.length_cons]; omega, fun x hx => ?_⟩
    rcases List.mem_cons.mp hx with rfl | hx
    · rw [← h2]; exact ok_mono e1 (by omega) (fun _ _ => rfl)
    · exact ok_mono (ih.2 x hx) (by omega) (fun _ _ => rfl)
end
section
variable {n b : Nat} {K : Nat → Nat} {h : qh_S} {m : qm_S} {v : Int64}
/-- a value is a list, or it is none: both sides find the same -/
theorem HR.long_aux (H : HR n K h m) (N : Nat) : ∀ (b k : Nat) (v : Int64) (x : Int32) (c : Nat), ok b K v → b ≤ n → b < k → x.toInt = c → c + b ≤ 4100 →
    (∃ L, lst (qm_g_first m) (qm_g_second m) L v ∧ qm_longOf_L5 N k m x v = some (nI (c + L.length)) ∧ qh_lengthOf_L5 N k h (xw v) x = some (nI (c + L.length))) ∨
    ((∀ L, ¬ lst (qm_g_first m) (qm_g_second m) L v) ∧ qm_longOf_L5 N k m x v = some (-1) ∧ qh_lengthOf_L5 N k h (xw v) x = some (-1)) := by
  intro b
  induction b using Nat.strongRecOn with
  | ind b ih =>
    intro k v x c hv hb hk hx hc
    have hn := H.hn
    obtain ⟨k, rfl⟩ : ∃ j, k = j + 1 := ⟨k - 1, by omega⟩
    rw [qm_longOf_L5_s, qh_lengthOf_L5_s]
    rw [if_neg (show ¬ (4100 : Int32) < x by ((try simp only [Int32.lt_iff_toInt_lt, Int32.le_iff_toInt_le, Int64.lt_iff_toInt_lt, Int64.le_iff_toInt_le, ← Int32.toInt_inj, ← Int64.toInt_inj, Int32.reduceToInt, Int64.reduceToInt] at *); omega))]
    by_cases h4 : kd v = 4
    · obtain ⟨e1, e2, e3, e4, e5, e6, e7⟩ := H.pair hv hb h4
      have hx3 : ¬ xw v = 3 := by rw [xw_is3 hv (by omega)]; omega
      rw [if_pos (mk4.mpr h4), if_neg hx3, if_pos ((xk4 hv (by omega)).mpr h4), e4, e2]
      have hx1 : (x + 1).toInt = ((c + 1 : Nat) : Int) := by rw [i_add] <;> simp only [Int32.reduceToInt] <;> omega
      have := ih (ix v) e7 k (qm_g_second m (ix v)) (x + 1) (c + 1) e6 (by omega) (by omega) hx1 (by omega)
      rcases this with ⟨L, l1, l2, l3⟩ | ⟨l1, l2, l3⟩
      · refine Or.inl ⟨qm_g_first m (ix v) :: L, ⟨h4, rfl, l1⟩, ?_, ?_⟩
        · show qm_longOf_L5 N k m (x + 1) _ = _
          rw [l2]; simp only [List.length_cons]; congr 2; omega
        · rw [l3]; simp only [List.length_cons]; congr 2; omega
      · refine Or.inr ⟨fun L hL => ?_, l2, l3⟩
        cases L with
        | nil => exact absurd hL (by unfold lst; omega)
        | cons a L => exact l1 L hL.2.2
    · rw [if_neg (mt mk4.mp h4)]
      by_cases h3 : kd v = 3
      · rw [if_pos (mk3.mpr h3), if_pos ((xw_is3 hv (by omega)).mpr h3)]
        have : x = nI c := by apply i_ext; rw [hx, nI_toInt (by omega)]
        exact Or.inl ⟨[], h3, by rw [this]; rfl, by rw [this]; rfl⟩
      · rw [if_neg (mt mk3.mp h3), if_neg (mt (xw_is3 hv (by omega)).mp h3), if_neg (mt (xk4 hv (by omega)).mp h4)]
        refine Or.inr ⟨fun L hL => ?_, rfl, rfl⟩
        cases L with
        | nil => exact h3 hL
        | cons a L => exact h4 hL.1
theorem HR.long (H : HR n K h m) {N : Nat} (hN : 5000 ≤ N) (hv : ok n K v) :
    (∃ L, lst (qm_g_first m) (qm_g_second m) L v ∧ L.length ≤ n ∧ qm_longOf N m v = some (nI L.length) ∧ qh_lengthOf N h (xw v) = some (nI L.length)) ∨
    ((∀ L, ¬ lst (qm_g_first m) (qm_g_second m) L v) ∧ qm_longOf N m v = some (-1) ∧ qh_lengthOf N h (xw v) = some (-1)) := by
  have hn := H.hn
  unfold qm_longOf qh_lengthOf
  have := H.long_aux N n N v 0 0 hv (Nat.le_refl _) (by omega) (by decide) (by omega)
  rcases this with ⟨L, h1, h2, h3⟩ | h
  · exact Or.inl ⟨L, h1, (H.lst_ok L n v hv (Nat.le_refl _) h1).1, by rw [h2, Nat.zero_add], by rw [h3, Nat.zero_add]⟩
  · exact Or.inr h
theorem HR.elem_aux (H : HR n K h m) (N : Nat) : ∀ (L : List Int64) (b k j c : Nat) (v : Int64) (x3 x6 : Int32), ok b K v → b ≤ n → lst (qm_g_first m) (qm_g_second m) L v → j < L.length → j < k → x3.toInt = c + j → x6.toInt = c → c + j ≤ 4100 →
    ∃ a, L[j]? = some a ∧ qm_elementOf_L6 N k m x3 v x6 = some a ∧ qh_elementOf_L6 N k h x3 (xw v) x6 = some (xw a)
  | [], _, _, _, _, _, _, _, _, _, _, hj, _, _, _, _ => absurd hj (Nat.not_lt_zero _)
  | a :: L, b, k, j, c, v, x3, x6, hv, hb, ⟨h1, h2, h3⟩, hj, hk, hx3, hx6, hc => by
    obtain ⟨k, rfl⟩ : ∃ i, k = i + 1 := ⟨k - 1, by omega⟩
    obtain ⟨e1, e2, e3, e4, e5, e6, e7⟩ := H.pair hv hb h1
    have hn := H.hn
    rw [qm_elementOf_L6_s, qh_elementOf_L6_s]
    cases j with
    | zero =>
      rw [if_pos (by ((try simp only [Int32.lt_iff_toInt_lt, Int32.le_iff_toInt_le, Int64.lt_iff_toInt_lt, Int64.le_iff_toInt_le, ← Int32.toInt_inj, ← Int64.toInt_inj, Int32.reduceToInt, Int64.reduceToInt] at *); omega)), if_pos (by ((try simp only [Int32.lt_iff_toInt_lt, Int32.le_iff_toInt_le, Int64.lt_iff_toInt_lt, Int64.le_iff_toInt_le, ← Int32.toInt_inj, ← Int64.toInt_inj, Int32.reduceToInt, Int64.reduceToInt] at *); omega)), e3]
      refine ⟨a, rfl, by rw [← h2]; rfl, ?_⟩
      rw [← h2, ← e1]; rfl
    | succ j =>
      rw [if_neg (by ((try simp only [Int32.lt_iff_toInt_lt, Int32.le_iff_toInt_le, Int64.lt_iff_toInt_lt, Int64.le_iff_toInt_le, ← Int32.toInt_inj, ← Int64.toInt_inj, Int32.reduceToInt, Int64.reduceToInt] at *); omega)), if_neg (by ((try simp only [Int32.lt_iff_toInt_lt, Int32.le_iff_toInt_le, Int64.lt_iff_toInt_lt, Int64.le_iff_toInt_le, ← Int32.toInt_inj, ← Int64.toInt_inj, Int32.reduceToInt, Int64.reduceToInt] at *); omega)), e4]
      have hx1 : (x6 + 1).toInt = ((c + 1 : Nat) : Int) := by rw [i_add] <;> simp only [Int32.reduceToInt] <;> omega
      obtain ⟨a2, f1, f2, f3⟩ := H.elem_aux N L (ix v) k j (c + 1) _ x3 (x6 + 1) e6 (by omega) h3 (by simp only [List.length_cons] at hj; omega) (by omega) (by omega) hx1 (by omega)
      refine ⟨a2, by simpa using f1, f2, ?_⟩
      rw [← f3, ← e2]; rfl
theorem HR.elem (H : HR n K h m) {N : Nat} (hN : 5000 ≤ N) (hv : ok n K v) {L : List Int64} (hL : lst (qm_g_first m) (qm_g_second m) L v) {j : Nat} (hj : j < L.length) {x : Int32} (hx : x.toInt = j) :
    ∃ a, L[j]? = some a ∧ ok n K a ∧ qm_elementOf N m v x = some a ∧ qh_elementOf N h (xw v) x = some (xw a) := by
  have hl := H.lst_ok L n v hv (Nat.le_refl _) hL
  have hn := H.hn
  obtain ⟨a, h1, h2, h3⟩ := H.elem_aux N L n N j 0 v x 0 hv (Nat.le_refl _) hL hj (by omega) (by omega) (by decide) (by omega)
  exact ⟨a, h1, hl.2 a (List.mem_of_getElem? h1), h2, h3⟩
end
