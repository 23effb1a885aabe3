/-! ===== sums and products ===== -/
theorem isIn_int (v : Int64) : qm_isIn v = qw_isInteger v := by
  unfold qm_isIn qm_within qw_isInteger
  by_cases h1 : v < -1000000000000000
  · rw [if_pos h1, bz0]
  · rw [if_neg h1]
    by_cases h2 : (1000000000000000 : Int64) < v
    · rw [if_pos h2, bz0]
    · rw [if_neg h2, bz1]
theorem isInt_0 {v : Int64} : qw_isInteger v = 0 ↔ (v.toInt < -1000000000000000 ∨ 1000000000000000 < v.toInt) := by
  unfold qw_isInteger
  by_cases h1 : v < -1000000000000000
  · rw [if_pos h1]
    have : v.toInt < -1000000000000000 := by ((try simp only [Int32.lt_iff_toInt_lt, Int32.le_iff_toInt_le, Int64.lt_iff_toInt_lt, Int64.le_iff_toInt_le, ← Int32.toInt_inj, ← Int64.toInt_inj, Int32.reduceToInt, Int64.reduceToInt] at *); omega)
    exact ⟨fun _ => Or.inl this, fun _ => rfl⟩
  · rw [if_neg h1]
    have h1' : ¬ v.toInt < -1000000000000000 := by ((try simp only [Int32.lt_iff_toInt_lt, Int32.le_iff_toInt_le, Int64.lt_iff_toInt_lt, Int64.le_iff_toInt_le, ← Int32.toInt_inj, ← Int64.toInt_inj, Int32.reduceToInt, Int64.reduceToInt] at *); omega)
    by_cases h2 : (1000000000000000 : Int64) < v
    · rw [if_pos h2]
      have : 1000000000000000 < v.toInt := by ((try simp only [Int32.lt_iff_toInt_lt, Int32.le_iff_toInt_le, Int64.lt_iff_toInt_lt, Int64.le_iff_toInt_le, ← Int32.toInt_inj, ← Int64.toInt_inj, Int32.reduceToInt, Int64.reduceToInt] at *); omega)
      exact ⟨fun _ => Or.inr this, fun _ => rfl⟩
    · rw [if_neg h2]
      have h2' : ¬ 1000000000000000 < v.toInt := by ((try simp only [Int32.lt_iff_toInt_lt, Int32.le_iff_toInt_le, Int64.lt_iff_toInt_lt, Int64.le_iff_toInt_le, ← Int32.toInt_inj, ← Int64.toInt_inj, Int32.reduceToInt, Int64.reduceToInt] at *); omega)
      exact ⟨fun e => absurd e (by decide), fun e => by omega⟩
theorem int_ok {n : Nat} {K : Nat → Nat} {t : Int64} (h : ¬ qw_isInteger t = 0) : ok n K (qm_made 0 t) ∧ xw (qm_made 0 t) = qw_make 0 t := by
  have h1 : ¬ (t.toInt < -1000000000000000 ∨ 1000000000000000 < t.toInt) := mt isInt_0.mpr h
  have h2 : -1000000000000000 ≤ t.toInt ∧ t.toInt ≤ 1000000000000000 := by omega
  have e : qm_made 0 t = vI 0 t.toInt := made_vI (k := 0) (c := t) (by decide) (by omega) (by omega)
  have k0 : kd (qm_made 0 t) = 0 := by rw [e]; exact vI_kd (by decide) (by omega) (by omega)
  have w0 : wt (qm_made 0 t) = t.toInt := by rw [e]; exact vI_wt (by decide) (by omega) (by omega)
  refine ⟨Or.inl ⟨k0, by rw [w0]; exact h2.1, by rw [w0]; exact h2.2⟩, ?_⟩
  rw [xw_same (by omega), make_made t (by decide)]
/-- an absolute value -/
theorem qabs_int {v : Int64} (h1 : -1000000000000000 ≤ v.toInt) (h2 : v.toInt ≤ 1000000000000000) : (qabs v).toInt = (v.toInt.natAbs : Int) := by
  unfold qabs
  by_cases h : 0 < v
  · have h' : 0 < v.toInt := by ((try simp only [Int32.lt_iff_toInt_lt, Int32.le_iff_toInt_le, Int64.lt_iff_toInt_lt, Int64.le_iff_toInt_le, ← Int32.toInt_inj, ← Int64.toInt_inj, Int32.reduceToInt, Int64.reduceToInt] at *); omega)
    rw [if_pos h]; omega
  · have h' : ¬ 0 < v.toInt := by ((try simp only [Int32.lt_iff_toInt_lt, Int32.le_iff_toInt_le, Int64.lt_iff_toInt_lt, Int64.le_iff_toInt_le, ← Int32.toInt_inj, ← Int64.toInt_inj, Int32.reduceToInt, Int64.reduceToInt] at *); omega)
    rw [if_neg h, Int64.toInt_neg, Int.bmod_eq_of_le_mul_two] <;> omega
theorem neg_int {v : Int64} (h1 : -1000000000000000 ≤ v.toInt) (h2 : v.toInt ≤ 1000000000000000) : (-v).toInt = - v.toInt := by
  rw [Int64.toInt_neg, Int.bmod_eq_of_le_mul_two] <;> omega
theorem div_int {v : Int64} (h1 : 0 < v.toInt) (h2 : v.toInt ≤ 1000000000000000) : ((1000000000000000 : Int64) / v).toInt = 1000000000000000 / v.toInt := by
  have e : ((1000000000000000 : Int64)).toInt = 1000000000000000 := by decide
  have hd : (1000000000000000 : Int).tdiv v.toInt = 1000000000000000 / v.toInt := Int.tdiv_eq_ediv_of_nonneg (by decide)
  have hb1 : 0 ≤ (1000000000000000 : Int) / v.toInt := Int.ediv_nonneg (by decide) (by omega)
  have hb2 : (1000000000000000 : Int) / v.toInt ≤ 1000000000000000 := Int.ediv_le_self _ (by decide)
  rw [Int64.toInt_div, e, hd]
  revert hb1 hb2
  generalize (1000000000000000 : Int) / v.toInt = q
  intro hb1 hb2
  rw [Int.bmod_eq_of_le_mul_two] <;> omega
theorem div_lt (a b : Int) (ha : 0 < a) : (1000000000000000 : Int) / a < b ↔ (1000000000000000 : Int) < b * a := Int.ediv_lt_iff_lt_mul ha
/-- both products: the same, or both out of range -/
theorem prod_eq {a b : Int64} (ha1 : -1000000000000000 ≤ a.toInt) (ha2 : a.toInt ≤ 1000000000000000) (hb1 : -1000000000000000 ≤ b.toInt) (hb2 : b.toInt ≤ 1000000000000000) :
    (qw_isInteger (qw_product a b) = 0 ∧ qw_isInteger (qm_times a b) = 0) ∨ (¬ qw_isInteger (qw_product a b) = 0 ∧ qm_times a b = qw_product a b) := by
  have na := qabs_int ha1 ha2
  have nb := qabs_int hb1 hb2
  -- the reference's side, its two absolute values
  have hT : qm_times a b = if 0 < (qabs b).toInt then (if ((1000000000000000 : Int64) / qabs b) < qabs a then 1000000000000001 else a * b) else a * b := by
    have e : ∀ v : Int64, -1000000000000000 ≤ v.toInt → v.toInt ≤ 1000000000000000 → (if v < 0 then -v else v) = qabs v := by
      intro v v1 v2
      apply l_ext
      rw [qabs_int v1 v2]
      by_cases h : v < 0
      · have h' : v.toInt < 0 := by ((try simp only [Int32.lt_iff_toInt_lt, Int32.le_iff_toInt_le, Int64.lt_iff_toInt_lt, Int64.le_iff_toInt_le, ← Int32.toInt_inj, ← Int64.toInt_inj, Int32.reduceToInt, Int64.reduceToInt] at *); omega)
        rw [if_pos h, neg_int v1 v2]; omega
      · have h' : ¬ v.toInt < 0 := by ((try simp only [Int32.lt_iff_toInt_lt, Int32.le_iff_toInt_le, Int64.lt_iff_toInt_lt, Int64.le_iff_toInt_le, ← Int32.toInt_inj, ← Int64.toInt_inj, Int32.reduceToInt, Int64.reduceToInt] at *); omega)
        rw [if_neg h]; omega
    have e1 : qm_times a b = qm_times_B12 a b (if a < 0 then -a else a) := by unfold qm_times; split <;> rfl
    have e2 : ∀ y, qm_times_B12 a b y = qm_times_B26 a b y (if b < 0 then -b else b) := by intro y; unfold qm_times_B12; split <;> rfl
    rw [e1, e2, e a ha1 ha2, e b hb1 hb2]
    unfold qm_times_B26
    by_cases h : (0 : Int64) < qabs b
    · rw [if_pos h, if_pos (show 0 < (qabs b).toInt by ((try simp only [Int32.lt_iff_toInt_lt, Int32.le_iff_toInt_le, Int64.lt_iff_toInt_lt, Int64.le_iff_toInt_le, ← Int32.toInt_inj, ← Int64.toInt_inj, Int32.reduceToInt, Int64.reduceToInt] at *); omega))]
    · rw [if_neg h, if_neg (show ¬ 0 < (qabs b).toInt by ((try simp only [Int32.lt_iff_toInt_lt, Int32.le_iff_toInt_le, Int64.lt_iff_toInt_lt, Int64.le_iff_toInt_le, ← Int32.toInt_inj, ← Int64.toInt_inj, Int32.reduceToInt, Int64.reduceToInt] at *); omega))]
  have hP : qw_product a b = if 0 < (qabs a).toInt then (if ((1000000000000000 : Int64) / qabs a) < qabs b then -9223372036854775808 else a * b) else a * b := by
    unfold qw_product
    by_cases h : a = 0
    · have h0 : a.toInt = 0 := by rw [h]; decide
      rw [if_pos h, if_neg (show ¬ 0 < (qabs a).toInt by rw [na]; omega)]
    · have h0 : a.toInt ≠ 0 := fun e => h (l_ext (by rw [e]; decide))
      rw [if_neg h, if_pos (show 0 < (qabs a).toInt by rw [na]; omega)]
  rw [hT, hP]
  have hm : (a.toInt * b.toInt).natAbs = a.toInt.natAbs * b.toInt.natAbs := Int.natAbs_mul _ _
  by_cases hbig : (1000000000000000 : Int) < (a.toInt.natAbs : Int) * (b.toInt.natAbs : Int)
  · have pa : 0 < (qabs a).toInt := by
      rw [na]
      rcases Nat.eq_zero_or_pos a.toInt.natAbs with h | h
      · rw [h] at hbig; simp only [Int.natCast_zero, Int.zero_mul] at hbig; omega
      · omega
    have pb : 0 < (qabs b).toInt := by
      rw [nb]
      rcases Nat.eq_zero_or_pos b.toInt.natAbs with h | h
      · rw [h] at hbig; simp only [Int.natCast_zero, Int.mul_zero] at hbig; omega
      · omega
    have d1 : ((1000000000000000 : Int64) / qabs a) < qabs b := by
      rw [Int64.lt_iff_toInt_lt, div_int pa (by omega), div_lt _ _ pa, na, nb, Int.mul_comm]; exact hbig
    have d2 : ((1000000000000000 : Int64) / qabs b) < qabs a := by
      rw [Int64.lt_iff_toInt_lt, div_int pb (by omega), div_lt _ _ pb, na, nb]; exact hbig
    rw [if_pos pa, if_pos pb, if_pos d1, if_pos d2]
    exact Or.inl ⟨by decide, by decide⟩
  · have e1 : (if 0 < (qabs a).toInt then (if ((1000000000000000 : Int64) / qabs a) < qabs b then -9223372036854775808 else a * b) else a * b) = a * b := by
      by_cases pa : 0 < (qabs a).toInt
      · rw [if_pos pa, if_neg]
        rw [Int64.lt_iff_toInt_lt, div_int pa (by omega), div_lt _ _ pa, na, nb, Int.mul_comm]; exact hbig
      · rw [if_neg pa]
    have e2 : (if 0 < (qabs b).toInt then (if ((1000000000000000 : Int64) / qabs b) < qabs a then 1000000000000001 else a * b) else a * b) = a * b := by
      by_cases pb : 0 < (qabs b).toInt
      · rw [if_pos pb, if_neg]
        rw [Int64.lt_iff_toInt_lt, div_int pb (by omega), div_lt _ _ pb, na, nb]; exact hbig
      · rw [if_neg pb]
    have hr : ((a.toInt * b.toInt).natAbs : Int) ≤ 1000000000000000 := by
      rw [hm]; push_cast; omega
    have ht : (a * b).toInt = a.toInt * b.toInt := by
      revert hr
      intro hr
      refine l_mul ?_ ?_
      · generalize a.toInt * b.toInt = p at hr; omega
      · generalize a.toInt * b.toInt = p at hr; omega
    rw [e1, e2]
    refine Or.inr ⟨fun h => ?_, rfl⟩
    have := isInt_0.mp h
    rw [ht] at this
    generalize a.toInt * b.toInt = p at hr this
    omega
section
variable {n : Nat} {K : Nat → Nat} {m : qm_S} {z : qn_S} {F A : Nat} {M : Int} {N : Nat}
def alli (L : List Int64) : Prop := ∀ a ∈ L, kd a = 0
theorem alli_cons {a : Int64} {L : List Int64} : alli (a :: L) ↔ kd a = 0 ∧ alli L := by
  unfold alli
  exact ⟨fun h => ⟨h a (List.mem_cons_self ..), fun b hb => h b (List.mem_cons_of_mem _ hb)⟩, fun h b hb => by
    rcases List.mem_cons.mp hb with rfl | hb
    · exact h.1
    · exact h.2 b hb⟩
theorem alli_nil : alli [] := fun a h => by cases h
/-- both look whether all operands are integers -/
theorem HR.ints {h : qh_S} (H : HR n K h m) (hz : qn_gH z = h) (N : Nat) (x1 : Int32) : ∀ (L : List Int64) (b k k2 c : Nat) (v : Int64) (x3 : Int32), ok b K v → b ≤ n → lst (qm_g_first m) (qm_g_second m) L v → L.length < k → L.length < k2 → x3.toInt = c → c + b ≤ 4000 →
    (alli L ∧ qn_areIntegers_L7 N k z (xw v) x3 = some 1 ∧ qm_reckons_L5 N k2 m x1 v = (if x1 = (0 : Int32) then (qm_reckons_L52 N N m x1 (qm_g_operands m) (1 : Int64)) else (qm_reckons_L52 N N m x1 (qm_g_operands m) (0 : Int64)))) ∨
    (¬ alli L ∧ qn_areIntegers_L7 N k z (xw v) x3 = some 0 ∧ qm_reckons_L5 N k2 m x1 v = some (-8, m)) := by
  intro L
  have hn := H.hn
  induction L with
  | nil =>
    intro b k k2 c v x3 hv hb hL hk hk2 hx hc
    obtain ⟨k, rfl⟩ : ∃ j, k = j + 1 := ⟨k - 1, by omega⟩
    obtain ⟨k2, rfl⟩ : ∃ j, k2 = j + 1 := ⟨k2 - 1, by omega⟩
    have k3 : kd v = 3 := hL
    rw [qn_areIntegers_L7_s, qm_reckons_L5_s, if_pos ((xw_is3 hv (by omega)).mpr k3), if_neg (mt mk4.mp (by omega))]
    exact Or.inl ⟨alli_nil, rfl, rfl⟩
  | cons a L ih =>
    intro b k k2 c v x3 hv hb hL hk hk2 hx hc
    obtain ⟨k, rfl⟩ : ∃ j, k = j + 1 := ⟨k - 1, by omega⟩
    obtain ⟨k2, rfl⟩ : ∃ j, k2 = j + 1 := ⟨k2 - 1, by omega⟩
    simp only [List.length_cons] at hk hk2
    obtain ⟨k4, l1, l2⟩ := hL
    obtain ⟨f1, f2, f3, f4, f5, f6, f7⟩ := H.pair hv hb k4
    rw [qn_areIntegers_L7_s, qm_reckons_L5_s, if_neg (mt (xw_is3 hv (by omega)).mp (by omega)), if_neg (show ¬ (4100 : Int32) ≤ x3 by ((try simp only [Int32.lt_iff_toInt_lt, Int32.le_iff_toInt_le, Int64.lt_iff_toInt_lt, Int64.le_iff_toInt_le, ← Int32.toInt_inj, ← Int64.toInt_inj, Int32.reduceToInt, Int64.reduceToInt] at *); omega)), hz, if_pos (mk4.mpr k4), f1, f2, f3, f4, ob_, ob_, l1]
    rw [l1] at f5
    by_cases k0 : kd a = 0
    · rw [if_pos ((xk0 f5 (by omega)).mpr k0), if_pos (mk0.mpr k0)]
      have hx1 : (x3 + 1).toInt = ((c + 1 : Nat) : Int) := by rw [i_add] <;> simp only [Int32.reduceToInt] <;> omega
      rcases ih (ix v) k k2 (c + 1) _ (x3 + 1) f6 (by omega) l2 (by omega) (by omega) hx1 (by omega) with ⟨i1, i2, i3⟩ | ⟨i1, i2, i3⟩
      · exact Or.inl ⟨alli_cons.mpr ⟨k0, i1⟩, i2, i3⟩
      · exact Or.inr ⟨fun h => i1 (alli_cons.mp h).2, i2, i3⟩
    · rw [if_neg (mt (xk0 f5 (by omega)).mp k0), if_neg (mt mk0.mp k0)]
      exact Or.inr ⟨fun h => k0 (alli_cons.mp h).1, rfl, rfl⟩
/-- both reckon -/
theorem PC.reck (C : PC n K m z F A M) (N : Nat) (y x : Int32) (hy : (y = 0 ∧ x = 1) ∨ (y = 1 ∧ x = 0)) : ∀ (L : List Int64) (b k k2 c : Nat) (v t : Int64) (x6 : Int32), ok b K v → b ≤ n → lst (qm_g_first m) (qm_g_second m) L v → alli L → L.length < k → L.length < k2 → x6.toInt = c → c + b ≤ 4000 → -1000000000000000 ≤ t.toInt → t.toInt ≤ 1000000000000000 →
    ∃ r m' z', qm_reckons_L52 N k2 m x v t = some (r, m') ∧ qn_accumulate_L19 N k z y t (xw v) x6 = some z' ∧ Out n K m M m' z' r := by
  intro L
  obtain ⟨H, R, ⟨o1, o2⟩, he, hs, hM⟩ := id C
  have hn := H.hn
  induction L with
  | nil =>
    intro b k k2 c v t x6 hv hb hL hi hk hk2 hx hc ht1 ht2
    obtain ⟨k, rfl⟩ : ∃ j, k = j + 1 := ⟨k - 1, by omega⟩
    obtain ⟨k2, rfl⟩ : ∃ j, k2 = j + 1 := ⟨k2 - 1, by omega⟩
    have k3 : kd v = 3 := hL
    have ht : ¬ qw_isInteger t = 0 := mt isInt_0.mp (by omega)
    rw [qn_accumulate_L19_s, qm_reckons_L52_s, if_pos ((xw_is3 hv (by omega)).mpr k3), if_neg (mt mk4.mp (by omega))]
    unfold qn_giveBackInteger
    obtain ⟨v1, v2⟩ := int_ok (n := n) (K := K) ht
    rw [if_neg ht, ← v2]
    exact ⟨0, _, _, rfl, rfl, R.give H v1 hs hM⟩
  | cons a L ih =>
    intro b k k2 c v t x6 hv hb hL hi hk hk2 hx hc ht1 ht2
    obtain ⟨k, rfl⟩ : ∃ j, k = j + 1 := ⟨k - 1, by omega⟩
    obtain ⟨k2, rfl⟩ : ∃ j, k2 = j + 1 := ⟨k2 - 1, by omega⟩
    simp only [List.length_cons] at hk hk2
    obtain ⟨k4, l1, l2⟩ := hL
    obtain ⟨k0, hi2⟩ := alli_cons.mp hi
    obtain ⟨f1, f2, f3, f4, f5, f6, f7⟩ := H.pair hv hb k4
    rw [l1] at f1 f3 f5
    have hxa : xw a = a := xw_same (by omega)
    have hw : qm_whatOf a = qw_contentOf a := rfl
    have hwi := qw_contentOf_wt a
    have hab : -1000000000000000 ≤ wt a ∧ wt a ≤ 1000000000000000 := by unfold ok prim at f5; omega
    have hx1 : (x6 + 1).toInt = ((c + 1 : Nat) : Int) := by rw [i_add] <;> simp only [Int32.reduceToInt] <;> omega
    rw [qn_accumulate_L19_s, qm_reckons_L52_s, if_neg (mt (xw_is3 hv (by omega)).mp (by omega)), if_neg (show ¬ (4100 : Int32) ≤ x6 by ((try simp only [Int32.lt_iff_toInt_lt, Int32.le_iff_toInt_le, Int64.lt_iff_toInt_lt, Int64.le_iff_toInt_le, ← Int32.toInt_inj, ← Int64.toInt_inj, Int32.reduceToInt, Int64.reduceToInt] at *); omega)), if_pos (mk4.mpr k4), f1, f2, f3, f4, ob_, hxa, hw, isIn_int, isIn_int]
    generalize qw_contentOf a = w at hwi
    rcases hy with ⟨rfl, rfl⟩ | ⟨rfl, rfl⟩
    · rw [if_pos rfl, if_neg (show ¬ (1 : Int32) = 0 by decide)]
      by_cases h0 : qw_isInteger (t + w) = 0
      · rw [if_pos h0, if_pos h0]
        exact ⟨-9, _, _, rfl, rfl, R.fail H (by decide)⟩
      · have hb2 : ¬ ((t + w).toInt < -1000000000000000 ∨ 1000000000000000 < (t + w).toInt) := mt isInt_0.mpr h0
        rw [if_neg h0, if_neg h0, ob_]
        exact ih (ix v) k k2 (c + 1) _ (t + w) (x6 + 1) f6 (by omega) l2 hi2 (by omega) (by omega) hx1 (by omega) (by omega) (by omega)
    · rw [if_neg (show ¬ (1 : Int32) = 0 by decide), if_pos rfl]
      rcases prod_eq (a := t) (b := w) ht1 ht2 (by omega) (by omega) with ⟨p1, p2⟩ | ⟨p1, p2⟩
      · rw [if_pos p1, if_pos p2]
        exact ⟨-9, _, _, rfl, rfl, R.fail H (by decide)⟩
      · have hb2 : ¬ ((qw_product t w).toInt < -1000000000000000 ∨ 1000000000000000 < (qw_product t w).toInt) := mt isInt_0.mpr p1
        rw [p2, if_neg p1, if_neg p1, ob_]
        exact ih (ix v) k k2 (c + 1) _ (qw_product t w) (x6 + 1) f6 (by omega) l2 hi2 (by omega) (by omega) hx1 (by omega) (by omega) (by omega)
/-- the class's look at the operands' kinds -/
theorem PC.ints (C : PC n K m z F A M) (hN : 5000 ≤ N) {L : List Int64} (hL : lst (qm_g_first m) (qm_g_second m) L (qm_g_operands m)) (x : Int32) :
    (alli L ∧ qn_areIntegers N z = some 1 ∧ qm_reckons N m x = (if x = (0 : Int32) then (qm_reckons_L52 N N m x (qm_g_operands m) (1 : Int64)) else (qm_reckons_L52 N N m x (qm_g_operands m) (0 : Int64)))) ∨
    (¬ alli L ∧ qn_areIntegers N z = some 0 ∧ qm_reckons N m x = some (-8, m)) := by
  obtain ⟨H, R, ⟨o1, o2⟩, he, hs, hM⟩ := id C
  have hn := H.hn
  have hl := (H.lst_ok L n _ o2 (Nat.le_refl _) hL).1
  have h := H.ints (z := z) rfl N x L n N N 0 (qm_g_operands m) 0 o2 (Nat.le_refl _) hL (by omega) (by omega) (by decide) (by omega)
  unfold qn_areIntegers qm_reckons
  rw [o1]
  exact h
/-- both reckon all the operands -/
theorem PC.reckons (C : PC n K m z F A M) (hN : 5000 ≤ N) {L : List Int64} (hL : lst (qm_g_first m) (qm_g_second m) L (qm_g_operands m)) (hi : alli L) (y x : Int32) (hy : (y = 0 ∧ x = 1) ∨ (y = 1 ∧ x = 0)) :
    ∃ r m' z', (if x = (0 : Int32) then (qm_reckons_L52 N N m x (qm_g_operands m) (1 : Int64)) else (qm_reckons_L52 N N m x (qm_g_operands m) (0 : Int64))) = some (r, m') ∧ qn_accumulate N z y = some z' ∧ Out n K m M m' z' r := by
  obtain ⟨H, R, ⟨o1, o2⟩, he, hs, hM⟩ := id C
  have hn := H.hn
  have hl := (H.lst_ok L n _ o2 (Nat.le_refl _) hL).1
  unfold qn_accumulate
  rw [o1]
  rcases hy with ⟨rfl, rfl⟩ | ⟨rfl, rfl⟩
  · rw [if_neg (show ¬ (1 : Int32) = 0 by decide), if_pos rfl]
    exact C.reck N 0 1 (Or.inl ⟨rfl, rfl⟩) L n N N 0 _ 0 0 o2 (Nat.le_refl _) hL hi (by omega) (by omega) (by decide) (by omega) (by decide) (by decide)
  · rw [if_neg (show ¬ (1 : Int32) = 0 by decide), if_pos rfl]
    exact C.reck N 1 0 (Or.inr ⟨rfl, rfl⟩) L n N N 0 _ 1 0 o2 (Nat.le_refl _) hL hi (by omega) (by omega) (by decide) (by omega) (by decide) (by decide)
theorem PC.p10 (C : PC n K m z F A M) (hN : 5000 ≤ N) {L : List Int64} (hL : lst (qm_g_first m) (qm_g_second m) L (qm_g_operands m)) : PO N n K m z M 10 := by
  obtain ⟨H, R, ⟨o1, o2⟩, he, hs, hM⟩ := id C
  obtain ⟨c1, c2, c3⟩ := C.cnt hN hL
  have ci := nI_int c1
  have hm : qm_combinesPrimitive N m 10 = (qm_reckons N m 1).bind fun r => some (r.1, r.2) := by
    unfold qm_combinesPrimitive
    rw [c2, ob_, if_pos (by ((try simp only [Int32.lt_iff_toInt_lt, Int32.le_iff_toInt_le, Int64.lt_iff_toInt_lt, Int64.le_iff_toInt_le, ← Int32.toInt_inj, ← Int64.toInt_inj, Int32.reduceToInt, Int64.reduceToInt] at *); omega)), if_pos (by decide), if_pos rfl, if_pos rfl]
  rcases C.ints hN hL 1 with ⟨i1, i2, i3⟩ | ⟨i1, i2, i3⟩
  · have hk : qn_haveDueKinds N z 10 (nI L.length) = some (1, z) := by
      unfold qn_haveDueKinds
      rw [if_neg (show ¬ (10 : Int32) = 1 by decide), if_neg (show ¬ (10 : Int32) = 2 by decide), if_neg (show ¬ (10 : Int32) = 3 by decide), if_neg (show ¬ (10 : Int32) = 4 by decide), if_neg (show ¬ (10 : Int32) = 5 by decide), if_neg (show ¬ (10 : Int32) = 6 by decide), if_neg (show ¬ (10 : Int32) = 7 by decide), if_neg (show ¬ (10 : Int32) = 8 by decide), if_neg (show ¬ (10 : Int32) = 9 by decide), if_pos rfl, i2, ob_, bz1]
    have hx := C.data hN hL (p := 10) (o := -1) (by decide) (by decide) (Or.inr rfl) hk
    unfold qn_callDataFunction at hx
    obtain ⟨r, m', z', g1, g2, g3⟩ := C.reckons hN hL i1 0 1 (Or.inl ⟨rfl, rfl⟩)
    rw [if_pos rfl, if_neg (show ¬ (10 : Int32) = 11 by decide), g2, ob_, ob_] at hx
    rw [i3, g1, ob_] at hm
    exact ⟨r, m', z', hm, hx, g3⟩
  · have hx := C.due hN hL (p := 10) (o := -1) (by decide) (by decide) (Or.inr rfl)
    unfold qn_haveDueKinds at hx
    rw [if_neg (show ¬ (10 : Int32) = 1 by decide), if_neg (show ¬ (10 : Int32) = 2 by decide), if_neg (show ¬ (10 : Int32) = 3 by decide), if_neg (show ¬ (10 : Int32) = 4 by decide), if_neg (show ¬ (10 : Int32) = 5 by decide), if_neg (show ¬ (10 : Int32) = 6 by decide), if_neg (show ¬ (10 : Int32) = 7 by decide), if_neg (show ¬ (10 : Int32) = 8 by decide), if_neg (show ¬ (10 : Int32) = 9 by decide), if_pos rfl, i2, ob_, ob_, if_pos (show (bz 0, z).1 = 0 from by show bz 0 = 0; decide)] at hx
    rw [i3, ob_] at hm
    exact ⟨-8, m, _, hm, hx, R.fail H (by decide)⟩
theorem PC.p11 (C : PC n K m z F A M) (hN : 5000 ≤ N) {L : List Int64} (hL : lst (qm_g_first m) (qm_g_second m) L (qm_g_operands m)) : PO N n K m z M 11 := by
  obtain ⟨H, R, ⟨o1, o2⟩, he, hs, hM⟩ := id C
  obtain ⟨c1, c2, c3⟩ := C.cnt hN hL
  have ci := nI_int c1
  have hm : qm_combinesPrimitive N m 11 = (qm_reckons N m 0).bind fun r => some (r.1, r.2) := by
    unfold qm_combinesPrimitive
    rw [c2, ob_, if_pos (by ((try simp only [Int32.lt_iff_toInt_lt, Int32.le_iff_toInt_le, Int64.lt_iff_toInt_lt, Int64.le_iff_toInt_le, ← Int32.toInt_inj, ← Int64.toInt_inj, Int32.reduceToInt, Int64.reduceToInt] at *); omega)), if_pos (by decide), if_neg (show ¬ (11 : Int32) = 10 by decide), if_pos rfl, if_neg (show ¬ (11 : Int32) = 10 by decide)]
  rcases C.ints hN hL 0 with ⟨i1, i2, i3⟩ | ⟨i1, i2, i3⟩
  · have hk : qn_haveDueKinds N z 11 (nI L.length) = some (1, z) := by
      unfold qn_haveDueKinds
      rw [if_neg (show ¬ (11 : Int32) = 1 by decide), if_neg (show ¬ (11 : Int32) = 2 by decide), if_neg (show ¬ (11 : Int32) = 3 by decide), if_neg (show ¬ (11 : Int32) = 4 by decide), if_neg (show ¬ (11 : Int32) = 5 by decide), if_neg (show ¬ (11 : Int32) = 6 by decide), if_neg (show ¬ (11 : Int32) = 7 by decide), if_neg (show ¬ (11 : Int32) = 8 by decide), if_neg (show ¬ (11 : Int32) = 9 by decide), if_neg (show ¬ (11 : Int32) = 10 by decide), if_pos rfl, i2, ob_, bz1]
    have hx := C.data hN hL (p := 11) (o := -1) (by decide) (by decide) (Or.inr rfl) hk
    unfold qn_callDataFunction at hx
    obtain ⟨r, m', z', g1, g2, g3⟩ := C.reckons hN hL i1 1 0 (Or.inr ⟨rfl, rfl⟩)
    rw [if_neg (show ¬ (11 : Int32) = 10 by decide), if_pos rfl, if_pos rfl, g2, ob_, ob_] at hx
    rw [i3, g1, ob_] at hm
    exact ⟨r, m', z', hm, hx, g3⟩
  · have hx := C.due hN hL (p := 11) (o := -1) (by decide) (by decide) (Or.inr rfl)
    unfold qn_haveDueKinds at hx
    rw [if_neg (show ¬ (11 : Int32) = 1 by decide), if_neg (show ¬ (11 : Int32) = 2 by decide), if_neg (show ¬ (11 : Int32) = 3 by decide), if_neg (show ¬ (11 : Int32) = 4 by decide), if_neg (show ¬ (11 : Int32) = 5 by decide), if_neg (show ¬ (11 : Int32) = 6 by decide), if_neg (show ¬ (11 : Int32) = 7 by decide), if_neg (show ¬ (11 : Int32) = 8 by decide), if_neg (show ¬ (11 : Int32) = 9 by decide), if_neg (show ¬ (11 : Int32) = 10 by decide), if_pos rfl, i2, ob_, ob_, if_pos (show (bz 0, z).1 = 0 from by show bz 0 = 0; decide)] at hx
    rw [i3, ob_] at hm
    exact ⟨-8, m, _, hm, hx, R.fail H (by decide)⟩
end
