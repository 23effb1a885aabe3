/-! ===== matching ===== -/
def xx (Q : List (Int64 × Int64)) : List (Int64 × Int64) := Q.map (fun q => (xw q.1, xw q.2))
def xs (B : List (Nat × Int64)) : List (Nat × Int64) := B.map (fun q => (q.1, xw q.2))
/-- what the reference has bound while matching -/
def bnd (m : qm_S) (B : List (Nat × Int64)) : Prop := (qm_g_bound m).toInt = B.length ∧ ∀ j q, B[j]? = some q → (qm_g_boundSymbol m j).toInt = q.1 ∧ qm_g_boundValue m j = q.2
def sam (m' m : qm_S) : Prop := mh m' = mh m ∧ mo m' = mo m
theorem sam.trans {a b c : qm_S} (h1 : sam a b) (h2 : sam b c) : sam a c := ⟨h1.1.trans h2.1, h1.2.trans h2.2⟩
theorem same.sam {a b : qm_S} (h : same a b) : sam a b := ⟨h.1, h.2.1⟩
theorem HR.sa {n : Nat} {K : Nat → Nat} {h : qh_S} {m m' : qm_S} (H : HR n K h m) (e : sam m' m) : HR n K h m' := H.m e.1.symm
theorem forest_p {f s : Nat → Int64} {v : Int64} (hk : kd v = 4) {P : List Int64} {p : Nat} {l : List Nat} (h : forest f s (v :: P) p l) : ∃ q, p = q + 1 ∧ forest f s (f (ix v) :: s (ix v) :: P) q l := by
  obtain ⟨d, p1, l1, p2, l2, t1, t2, t3, t4⟩ := h
  cases d with
  | zero => exact t1.elim
  | succ d =>
    rcases t1 with t1 | t1 | ⟨_, q1, r1, q2, r2, u1, u2, u3, u4⟩
    · exact absurd t1.1 (by omega)
    · exact absurd t1.1 (by omega)
    · exact ⟨q1 + q2 + p2, by omega, d, q1, r1, q2 + p2, r2 ++ l2, u1, ⟨d, q2, r2, p2, l2, u2, t2, rfl, rfl⟩, by omega, by rw [t4, u4, List.append_assoc]⟩
theorem forest_s {f s : Nat → Int64} {v : Int64} (hk : kd v = 2) {P : List Int64} {p : Nat} {l : List Nat} (h : forest f s (v :: P) p l) : ∃ l', l = ix v :: l' ∧ forest f s P p l' := by
  obtain ⟨d, p1, l1, p2, l2, t1, t2, t3, t4⟩ := h
  cases d with
  | zero => exact t1.elim
  | succ d =>
    rcases t1 with ⟨_, e1, e2⟩ | t1 | t1
    · exact ⟨l2, by rw [t4, e2]; rfl, by rw [t3, e1, Nat.zero_add]; exact t2⟩
    · exact absurd t1.1 (by omega)
    · exact absurd t1.1 (by omega)
theorem forest_l {f s : Nat → Int64} {v : Int64} (hk : kd v ≠ 2) (hk4 : kd v ≠ 4) {P : List Int64} {p : Nat} {l : List Nat} (h : forest f s (v :: P) p l) : (kd v = 3 ∨ kd v = 8) ∧ forest f s P p l := by
  obtain ⟨d, p1, l1, p2, l2, t1, t2, t3, t4⟩ := h
  cases d with
  | zero => exact t1.elim
  | succ d =>
    rcases t1 with t1 | ⟨h38, e1, e2⟩ | t1
    · exact absurd t1.1 hk
    · exact ⟨h38, by rw [t3, e1, Nat.zero_add, t4, e2]; exact t2⟩
    · exact absurd t1.1 hk4
theorem mg3 (m : qm_S) (i : Int32) (v : Int64) : qm_g_matchLeft (qm_t_treeLeft m i v) = qm_g_matchLeft m ∧ qm_g_bound (qm_t_treeLeft m i v) = qm_g_bound m ∧ qm_g_boundSymbol (qm_t_treeLeft m i v) = qm_g_boundSymbol m ∧ qm_g_boundValue (qm_t_treeLeft m i v) = qm_g_boundValue m := ⟨rfl, rfl, rfl, rfl⟩
theorem mg4 (m : qm_S) (i : Int32) (v : Int64) : qm_g_matchLeft (qm_t_matchLeft m i v) = vp_updL (qm_g_matchLeft m) i.toInt.toNat v ∧ qm_g_treeLeft (qm_t_matchLeft m i v) = qm_g_treeLeft m ∧ qm_g_bound (qm_t_matchLeft m i v) = qm_g_bound m ∧ qm_g_boundSymbol (qm_t_matchLeft m i v) = qm_g_boundSymbol m ∧ qm_g_boundValue (qm_t_matchLeft m i v) = qm_g_boundValue m := ⟨rfl, rfl, rfl, rfl, rfl⟩
/-- one more bound -/
def mfd (m : qm_S) (s : Int32) (v : Int64) : qm_S := qm_s_bound (qm_t_boundValue (qm_t_boundSymbol m (qm_g_bound m) s) (qm_g_bound m) v) (qm_g_bound m + 1)
theorem mg5 (m : qm_S) (v : Int32) : qm_g_bound (qm_s_bound m v) = v ∧ qm_g_treeLeft (qm_s_bound m v) = qm_g_treeLeft m ∧ qm_g_matchLeft (qm_s_bound m v) = qm_g_matchLeft m ∧ qm_g_boundSymbol (qm_s_bound m v) = qm_g_boundSymbol m ∧ qm_g_boundValue (qm_s_bound m v) = qm_g_boundValue m ∧ sam (qm_s_bound m v) m := ⟨rfl, rfl, rfl, rfl, rfl, rfl, rfl⟩
theorem mg6 (m : qm_S) (i v : Int32) : qm_g_bound (qm_t_boundSymbol m i v) = qm_g_bound m ∧ qm_g_treeLeft (qm_t_boundSymbol m i v) = qm_g_treeLeft m ∧ qm_g_matchLeft (qm_t_boundSymbol m i v) = qm_g_matchLeft m ∧ qm_g_boundSymbol (qm_t_boundSymbol m i v) = upd (qm_g_boundSymbol m) i.toInt.toNat v ∧ qm_g_boundValue (qm_t_boundSymbol m i v) = qm_g_boundValue m ∧ sam (qm_t_boundSymbol m i v) m := ⟨rfl, rfl, rfl, rfl, rfl, rfl, rfl⟩
theorem mg7 (m : qm_S) (i : Int32) (v : Int64) : qm_g_bound (qm_t_boundValue m i v) = qm_g_bound m ∧ qm_g_treeLeft (qm_t_boundValue m i v) = qm_g_treeLeft m ∧ qm_g_matchLeft (qm_t_boundValue m i v) = qm_g_matchLeft m ∧ qm_g_boundSymbol (qm_t_boundValue m i v) = qm_g_boundSymbol m ∧ qm_g_boundValue (qm_t_boundValue m i v) = vp_updL (qm_g_boundValue m) i.toInt.toNat v ∧ sam (qm_t_boundValue m i v) m := ⟨rfl, rfl, rfl, rfl, rfl, rfl, rfl⟩
theorem mfd_g (m : qm_S) (s : Int32) (v : Int64) : qm_g_bound (mfd m s v) = qm_g_bound m + 1 ∧ qm_g_treeLeft (mfd m s v) = qm_g_treeLeft m ∧ qm_g_matchLeft (mfd m s v) = qm_g_matchLeft m := by
  unfold mfd
  refine ⟨(mg5 _ _).1, ?_, ?_⟩
  · rw [(mg5 _ _).2.1, (mg7 _ _ _).2.1, (mg6 _ _ _).2.1]
  · rw [(mg5 _ _).2.2.1, (mg7 _ _ _).2.2.1, (mg6 _ _ _).2.2.1]
theorem mfd_s (m : qm_S) (s : Int32) (v : Int64) (j : Nat) : qm_g_boundSymbol (mfd m s v) j = if j = (qm_g_bound m).toInt.toNat then s else qm_g_boundSymbol m j := by
  unfold mfd
  rw [(mg5 _ _).2.2.2.1, (mg7 _ _ _).2.2.2.1, (mg6 _ _ _).2.2.2.1]
  rfl
theorem mfd_v (m : qm_S) (s : Int32) (v : Int64) (j : Nat) : qm_g_boundValue (mfd m s v) j = if j = (qm_g_bound m).toInt.toNat then v else qm_g_boundValue m j := by
  unfold mfd
  rw [(mg5 _ _).2.2.2.2.1, (mg7 _ _ _).2.2.2.2.1, (mg6 _ _ _).2.2.2.2.1]
  rfl
theorem mfd_sam (m : qm_S) (s : Int32) (v : Int64) : sam (mfd m s v) m := (mg5 _ _).2.2.2.2.2.trans ((mg7 _ _ _).2.2.2.2.2.trans (mg6 _ _ _).2.2.2.2.2)
theorem bnd.push {m : qm_S} {B : List (Nat × Int64)} (b : bnd m B) (hl : B.length < 100) {s : Int32} {sn : Nat} (hs : s.toInt = sn) (v : Int64) : bnd (mfd m s v) (B ++ [(sn, v)]) := by
  obtain ⟨b1, b2⟩ := b
  refine ⟨?_, fun j q hq => ?_⟩
  · rw [(mfd_g _ _ _).1, i_add] <;> simp only [Int32.reduceToInt, List.length_append, List.length_cons, List.length_nil] <;> omega
  · rw [mfd_s, mfd_v, b1, toNat_cast]
    by_cases hj : j < B.length
    · rw [List.getElem?_append_left hj] at hq
      rw [if_neg (by omega), if_neg (by omega)]
      exact b2 j q hq
    · rw [List.getElem?_append_right (by omega)] at hq
      have : j - B.length = 0 := by
        have := (List.getElem?_eq_some_iff.mp hq).1
        simpa using this
      rw [this] at hq
      cases hq
      rw [if_pos (by omega), if_pos (by omega)]
      exact ⟨hs, rfl⟩
theorem kk_eq {v w : Int64} : qm_kindOf v = qm_kindOf w ↔ kd v = kd w := by
  rw [qm_kindOf_kd w]; exact kind_eq (kd_lt w)
theorem xs_map (B : List (Nat × Int64)) : (xs B).map (fun q => q.1) = B.map (fun q => q.1) := by unfold xs; rw [List.map_map]; rfl
section
variable {n : Nat} {K : Nat → Nat} {h : qh_S}
theorem HR.tr_sym {m : qm_S} (H : HR n K h m) : ∀ (d : Nat) (v : Int64) (p : Nat) (l : List Nat), ok n K v → tr (qm_g_first m) (qm_g_second m) d v p l → ∀ s ∈ l, s < 100
  | 0, _, _, _, _, h => h.elim
  | d + 1, v, p, l, hv, h => by
    rcases h with ⟨hk, _, h⟩ | ⟨_, _, h⟩ | ⟨hk, p1, l1, p2, l2, t1, t2, _, h⟩
    · intro s hs
      rw [h, List.mem_singleton] at hs
      unfold ok prim at hv
      rw [hs]; unfold ix; omega
    · intro s hs
      rw [h] at hs; cases hs
    · obtain ⟨f1, f2, f3, f4, f5, f6, f7⟩ := H.pair hv (Nat.le_refl _) hk
      intro s hs
      rw [h] at hs
      rcases List.mem_append.mp hs with hs | hs
      · exact HR.tr_sym H d _ p1 l1 (ok_mono f5 (by omega) (fun _ _ => rfl)) t1 s hs
      · exact HR.tr_sym H d _ p2 l2 (ok_mono f6 (by omega) (fun _ _ => rfl)) t2 s hs
theorem HR.match_aux (N : Nat) : ∀ (q : Nat) (Q : List (Int64 × Int64)) (B : List (Nat × Int64)) (p c : Nat) (l : List Nat) (t : qt_S) (m : qm_S) (x y : Int32) (k k2 : Nat),
    HR n K h m → TM h t (xx Q) (xs B) → bnd m B → stk (qm_g_treeLeft m) (Q.map (fun q => q.1)) → stk (qm_g_matchLeft m) (Q.map (fun q => q.2)) → (∀ u ∈ Q, ok n K u.1 ∧ ok n K u.2) → (∀ u ∈ B, ok n K u.2) → forest (qm_g_first m) (qm_g_second m) (Q.map (fun q => q.1)) p l → B.length + l.length ≤ 100 → Q.length + p ≤ 101 → c + (2 * p + Q.length) ≤ 201 → x.toInt = Q.length → y.toInt = c → 2 * p + Q.length < q → q ≤ k → q ≤ k2 →
    ∃ m' t' B', sam m' m ∧ ((qm_matches_L22 N k m x = some (0, m') ∧ qt_matches_L9 N k2 t y = some (0, t') ∧ qt_gH t' = h) ∨
      (qm_matches_L22 N k m x = some (1, m') ∧ qt_matches_L9 N k2 t y = some (1, t') ∧ TM h t' [] (xs B') ∧ bnd m' B' ∧ B'.map (fun q => q.1) = B.map (fun q => q.1) ++ l ∧ ∀ u ∈ B', ok n K u.2)) := by
  intro q
  induction q with
  | zero => intros; omega
  | succ q ih =>
    intro Q B p c l t m x y k k2 H T b s1 s2 hQ hB F hl hp hc hx hy hq hk hk2
    obtain ⟨k, rfl⟩ : ∃ j, k = j + 1 := ⟨k - 1, by omega⟩
    obtain ⟨k2, rfl⟩ : ∃ j, k2 = j + 1 := ⟨k2 - 1, by omega⟩
    have hn := H.hn
    have hT2 := T.2.1
    cases Q with
    | nil =>
      simp only [List.length_nil] at hx
      obtain ⟨F1, F2⟩ := F
      have hT0 : (qt_g_pendingCount t).toInt = 0 := hT2
      have hz : qt_g_pendingCount t = 0 := i_ext hT0
      refine ⟨m, t, B, ⟨rfl, rfl⟩, Or.inr ⟨by rw [qm_matches_L22_s, if_pos (by ((try simp only [Int32.lt_iff_toInt_lt, Int32.le_iff_toInt_le, Int64.lt_iff_toInt_lt, Int64.le_iff_toInt_le, ← Int32.toInt_inj, ← Int64.toInt_inj, Int32.reduceToInt, Int64.reduceToInt] at *); omega))], ?_, T, b, by rw [F2, List.append_nil], hB⟩⟩
      rw [qt_matches_L9_s]
      by_cases h201 : (201 : Int32) ≤ y
      · rw [if_pos h201, if_pos hz]
      · rw [if_neg h201, if_pos (by ((try simp only [Int32.lt_iff_toInt_lt, Int32.le_iff_toInt_le, Int64.lt_iff_toInt_lt, Int64.le_iff_toInt_le, ← Int32.toInt_inj, ← Int64.toInt_inj, Int32.reduceToInt, Int64.reduceToInt] at *); omega)), if_pos hz]
    | cons vw Q =>
      obtain ⟨v, w⟩ := vw
      obtain ⟨hv, hw⟩ := hQ (v, w) List.mem_cons_self
      simp only at hv hw
      have hQ' : ∀ u ∈ Q, ok n K u.1 ∧ ok n K u.2 := fun u hu => hQ u (List.mem_cons_of_mem _ hu)
      simp only [List.length_cons] at hx hp hc hq
      simp only [List.map_cons] at s1 s2 F
      obtain ⟨s1a, s1⟩ := s1
      obtain ⟨s2a, s2⟩ := s2
      rw [List.length_map] at s1a s2a
      have hx' : (x - 1).toInt = Q.length := by rw [i_sub] <;> simp only [Int32.reduceToInt] <;> omega
      have hy' : (y + 1).toInt = ((c + 1 : Nat) : Int) := by rw [i_add] <;> simp only [Int32.reduceToInt] <;> omega
      have hgt : qm_g_treeLeft m (Int32.toNatClampNeg (x - 1)) = v := by rw [i_clamp, hx', toNat_cast]; exact s1a
      have hgm : qm_g_matchLeft m (Int32.toNatClampNeg (x - 1)) = w := by rw [i_clamp, hx', toNat_cast]; exact s2a
      have T0 : TM h t ((xw v, xw w) :: xx Q) (xs B) := T
      have hxl : (xx Q).length = Q.length := by unfold xx; rw [List.length_map]
      obtain ⟨e1, e2, e3⟩ := T0.take (by rw [hxl]; omega)
      have hP0 : (qt_g_pendingCount t).toInt = Q.length + 1 := by rw [hT2]; show (((xw v, xw w) :: xx Q).length : Int) = _; rw [List.length_cons, hxl]; rfl
      have hY1 : ¬ (201 : Int32) ≤ y := by ((try simp only [Int32.lt_iff_toInt_lt, Int32.le_iff_toInt_le, Int64.lt_iff_toInt_lt, Int64.le_iff_toInt_le, ← Int32.toInt_inj, ← Int64.toInt_inj, Int32.reduceToInt, Int64.reduceToInt] at *); omega)
      have hY2 : ¬ qt_g_pendingCount t ≤ 0 := by ((try simp only [Int32.lt_iff_toInt_lt, Int32.le_iff_toInt_le, Int64.lt_iff_toInt_lt, Int64.le_iff_toInt_le, ← Int32.toInt_inj, ← Int64.toInt_inj, Int32.reduceToInt, Int64.reduceToInt] at *); omega)
      have hX0 : ¬ x ≤ 0 := by ((try simp only [Int32.lt_iff_toInt_lt, Int32.le_iff_toInt_le, Int64.lt_iff_toInt_lt, Int64.le_iff_toInt_le, ← Int32.toInt_inj, ← Int64.toInt_inj, Int32.reduceToInt, Int64.reduceToInt] at *); omega)
      have hXi : inb (x - 1) 204 = true := inb_of (by omega) (by omega)
      by_cases k4 : kd v = 4
      · -- a pair of the tree
        obtain ⟨p', rfl, F'⟩ := forest_p k4 F
        have hM0 : qm_matches_L22 N (k + 1) m x = if kd w = 4 then qm_matches_L22 N k (qm_t_matchLeft (qm_t_treeLeft (qm_t_matchLeft (qm_t_treeLeft m (x - 1) (qm_g_second m (ix v))) (x - 1) (qm_g_second m (ix w))) (x - 1 + 1) (qm_g_first m (ix v))) (x - 1 + 1) (qm_g_first m (ix w))) (x - 1 + 2) else some (0, m) := by
          rw [qm_matches_L22_s, if_neg hX0, if_pos hXi, if_pos hXi, hgt, hgm, if_neg (mt mk2.mp (by omega)), if_neg (mt mk8.mp (by omega))]
          by_cases kw4 : kd w = 4
          · have c1 : qm_cdrOf m v = some (qm_g_second m (ix v)) := cdr_m hv hn k4
            have c2 : qm_cdrOf (qm_t_treeLeft m (x - 1) (qm_g_second m (ix v))) w = some (qm_g_second m (ix w)) := cdr_m (m := qm_t_treeLeft m (x - 1) (qm_g_second m (ix v))) hw hn kw4
            have c3 : qm_carOf (qm_t_matchLeft (qm_t_treeLeft m (x - 1) (qm_g_second m (ix v))) (x - 1) (qm_g_second m (ix w))) v = some (qm_g_first m (ix v)) := car_m (m := qm_t_matchLeft (qm_t_treeLeft m (x - 1) (qm_g_second m (ix v))) (x - 1) (qm_g_second m (ix w))) hv hn k4
            have c4 : qm_carOf (qm_t_treeLeft (qm_t_matchLeft (qm_t_treeLeft m (x - 1) (qm_g_second m (ix v))) (x - 1) (qm_g_second m (ix w))) (x - 1 + 1) (qm_g_first m (ix v))) w = some (qm_g_first m (ix w)) := car_m (m := qm_t_treeLeft (qm_t_matchLeft (qm_t_treeLeft m (x - 1) (qm_g_second m (ix v))) (x - 1) (qm_g_second m (ix w))) (x - 1 + 1) (qm_g_first m (ix v))) hw hn kw4
            have hi2 : inb (x - 1 + 1) 204 = true := inb_of (by rw [i_add] <;> simp only [Int32.reduceToInt] <;> omega) (by rw [i_add] <;> simp only [Int32.reduceToInt] <;> omega)
            rw [if_pos kw4, if_pos (kk_eq.mpr (by omega)), if_pos (mk4.mpr k4), c1, ob_, if_pos hXi, c2, ob_, if_pos hXi, c3, ob_, if_pos hi2, c4, ob_, if_pos hi2]
          · rw [if_neg kw4, if_neg (mt kk_eq.mp (by omega))]
        have hX : qt_matches_L9 N (k2 + 1) t y = if kd w = 4 then qt_matches_L9 N k2 (qt_putOff (qt_putOff (qt_takeTree t).2 (xw (qm_g_second m (ix v))) (xw (qm_g_second m (ix w)))) (xw (qm_g_first m (ix v))) (xw (qm_g_first m (ix w)))) (y + 1) else some (0, (qt_takeTree t).2) := by
          obtain ⟨f1, f2, f3, f4, f5, f6, f7⟩ := H.pair hv (Nat.le_refl _) k4
          rw [qt_matches_L9_s, if_neg hY1, if_neg hY2, e1, e3, if_neg (by rw [xk2 hv hn]; omega), if_neg (by rw [xk3 hv hn]; omega), if_pos ((xk4 hv hn).mpr k4)]
          by_cases kw4 : kd w = 4
          · obtain ⟨g1, g2, g3, g4, g5, g6, g7⟩ := H.pair hw (Nat.le_refl _) kw4
            have T2 := TM.put e2 (by rw [hxl]; omega) (xw (qm_g_second m (ix v))) (xw (qm_g_second m (ix w)))
            rw [if_pos kw4, if_pos ((xk4 hw hn).mpr kw4), e2.1, f2, g2, T2.1, f1, g1]
          · rw [if_neg kw4, if_neg (mt (xk4 hw hn).mp kw4)]
        rw [hM0, hX]
        by_cases kw4 : kd w = 4
        · rw [if_pos kw4, if_pos kw4]
          obtain ⟨f1, f2, f3, f4, f5, f6, f7⟩ := H.pair hv (Nat.le_refl _) k4
          obtain ⟨g1, g2, g3, g4, g5, g6, g7⟩ := H.pair hw (Nat.le_refl _) kw4
          have T2 := TM.put e2 (by rw [hxl]; omega) (xw (qm_g_second m (ix v))) (xw (qm_g_second m (ix w)))
          have T3 := TM.put T2 (by simp only [List.length_cons, hxl]; omega) (xw (qm_g_first m (ix v))) (xw (qm_g_first m (ix w)))
          have i1 : (x - 1 + 1).toInt = ((Q.length + 1 : Nat) : Int) := by rw [i_add] <;> simp only [Int32.reduceToInt] <;> omega
          have i2 : (x - 1 + 2).toInt = ((Q.length + 2 : Nat) : Int) := by rw [i_add] <;> simp only [Int32.reduceToInt] <;> omega
          generalize hm1 : qm_t_treeLeft m (x - 1) (qm_g_second m (ix v)) = m1
          generalize hm2 : qm_t_matchLeft m1 (x - 1) (qm_g_second m (ix w)) = m2
          generalize hm3 : qm_t_treeLeft m2 (x - 1 + 1) (qm_g_first m (ix v)) = m3
          generalize hm4 : qm_t_matchLeft m3 (x - 1 + 1) (qm_g_first m (ix w)) = m4
          have a1 : same m1 m := by rw [← hm1]; exact same_tl _ _ _
          have a2 : same m2 m1 := by rw [← hm2]; exact same_ml _ _ _
          have a3 : same m3 m2 := by rw [← hm3]; exact same_tl _ _ _
          have a4 : same m4 m3 := by rw [← hm4]; exact same_ml _ _ _
          have hsm : same m4 m := a4.trans (a3.trans (a2.trans a1))
          have hf : qm_g_first m4 = qm_g_first m ∧ qm_g_second m4 = qm_g_second m := ⟨(mh_all hsm.1).1, (mh_all hsm.1).2.1⟩
          have t1 : qm_g_treeLeft m4 = vp_updL (vp_updL (qm_g_treeLeft m) Q.length (qm_g_second m (ix v))) (Q.length + 1) (qm_g_first m (ix v)) := by
            rw [← hm4, (mg4 _ _ _).2.1, ← hm3, (mg1 _ _ _).1, ← hm2, (mg4 _ _ _).2.1, ← hm1, (mg1 _ _ _).1, i1, hx', toNat_cast, toNat_cast]
          have t2 : qm_g_matchLeft m4 = vp_updL (vp_updL (qm_g_matchLeft m) Q.length (qm_g_second m (ix w))) (Q.length + 1) (qm_g_first m (ix w)) := by
            rw [← hm4, (mg4 _ _ _).1, ← hm3, (mg3 _ _ _).1, ← hm2, (mg4 _ _ _).1, ← hm1, (mg3 _ _ _).1, i1, hx', toNat_cast, toNat_cast]
          have b4 : bnd m4 B := by
            have z := hsm.2.2
            unfold mb at z
            simp only [Prod.mk.injEq] at z
            unfold bnd
            rw [z.1, z.2.1, z.2.2]
            exact b
          have := ih ((qm_g_first m (ix v), qm_g_first m (ix w)) :: (qm_g_second m (ix v), qm_g_second m (ix w)) :: Q) B p' (c + 1) l _ m4 (x - 1 + 2) (y + 1) k k2 (H.sm hsm) T3 b4
            (by rw [t1]; exact stk_push (by simp only [List.map_cons, List.length_cons, List.length_map]) (stk_push (by rw [List.length_map]) s1))
            (by rw [t2]; exact stk_push (by simp only [List.map_cons, List.length_cons, List.length_map]) (stk_push (by rw [List.length_map]) s2))
            (fun u hu => by
              rcases List.mem_cons.mp hu with rfl | hu
              · exact ⟨ok_mono f5 (by omega) (fun _ _ => rfl), ok_mono g5 (by omega) (fun _ _ => rfl)⟩
              · rcases List.mem_cons.mp hu with rfl | hu
                · exact ⟨ok_mono f6 (by omega) (fun _ _ => rfl), ok_mono g6 (by omega) (fun _ _ => rfl)⟩
                · exact hQ' u hu) hB (by rw [hf.1, hf.2]; exact F') hl (by simp only [List.length_cons]; omega) (by simp only [List.length_cons]; omega) (by rw [i2]; simp only [List.length_cons]) hy' (by simp only [List.length_cons]; omega) (by omega) (by omega)
          obtain ⟨m', t', B', g8, g9⟩ := this
          exact ⟨m', t', B', g8.trans hsm.sam, g9⟩
        · rw [if_neg kw4, if_neg kw4]
          exact ⟨m, _, B, ⟨rfl, rfl⟩, Or.inl ⟨rfl, rfl, e2.1⟩⟩
      · by_cases k2' : kd v = 2
        · -- a symbol of the tree
          obtain ⟨l', rfl, F'⟩ := forest_s k2' F
          simp only [List.length_cons] at hl
          have hsb : 0 ≤ wt v ∧ wt v < 100 := by unfold ok prim at hv; omega
          have hidx := idx_of (m := m) hv hn (by omega)
          have hin : (qm_indexOf m v).toInt = ((ix v : Nat) : Int) := by rw [hidx]; unfold ix; omega
          have hxv : xw v = v := xw_same (by omega)
          have hro : (qw_rowOf (xw v)).toInt = ((ix v : Nat) : Int) := by rw [hxv, qw_rowOf_wt (by omega) (by omega)]; unfold ix; omega
          have hbi : inb (qm_g_bound m) 102 = true := inb_of (by have := b.1; omega) (by have := b.1; omega)
          have hM0 : qm_matches_L22 N (k + 1) m x = qm_matches_L22 N k (mfd m (qm_indexOf m v) w) (x - 1) := by
            rw [qm_matches_L22_s, if_neg hX0, if_pos hXi, if_pos hXi, hgt, hgm, if_pos (mk2.mpr k2'), if_pos hbi, if_pos hbi]
            rfl
          have hX : qt_matches_L9 N (k2 + 1) t y = qt_matches_L9 N k2 (qt_find (qt_takeTree t).2 (qw_rowOf (xw v)) (xw w)) (y + 1) := by
            rw [qt_matches_L9_s, if_neg hY1, if_neg hY2, e1, e3, if_pos ((xk2 hv hn).mpr k2')]
          rw [hM0, hX]
          have hxsl : (xs B).length = B.length := by unfold xs; rw [List.length_map]
          have T2 := e2.find (by rw [hxsl]; omega) hro (xw w)
          have hxa : xs B ++ [(ix v, xw w)] = xs (B ++ [(ix v, w)]) := by unfold xs; rw [List.map_append]; rfl
          rw [hxa] at T2
          have hsm := mfd_sam m (qm_indexOf m v) w
          have hf : qm_g_first (mfd m (qm_indexOf m v) w) = qm_g_first m ∧ qm_g_second (mfd m (qm_indexOf m v) w) = qm_g_second m := ⟨(mh_all hsm.1).1, (mh_all hsm.1).2.1⟩
          have := ih Q (B ++ [(ix v, w)]) p (c + 1) l' _ (mfd m (qm_indexOf m v) w) (x - 1) (y + 1) k k2 (H.sa hsm) T2 (b.push (by omega) hin w) (by rw [(mfd_g _ _ _).2.1]; exact s1) (by rw [(mfd_g _ _ _).2.2]; exact s2) hQ'
            (fun u hu => by
              rcases List.mem_append.mp hu with hu | hu
              · exact hB u hu
              · rw [List.mem_singleton.mp hu]; exact hw) (by rw [hf.1, hf.2]; exact F') (by simp only [List.length_append, List.length_cons, List.length_nil]; omega) (by omega) (by omega) hx' hy' (by omega) (by omega) (by omega)
          obtain ⟨m', t', B', g8, g9⟩ := this
          refine ⟨m', t', B', g8.trans hsm, ?_⟩
          rcases g9 with g9 | ⟨g1, g2, g3, g4, g5, g6⟩
          · exact Or.inl g9
          · exact Or.inr ⟨g1, g2, g3, g4, by rw [g5, List.map_append, List.append_assoc]; rfl, g6⟩
        · -- the empty list, or #inert
          obtain ⟨h38, F'⟩ := forest_l k2' k4 F
          have hM0 : qm_matches_L22 N (k + 1) m x = if kd v = 3 ∧ kd w ≠ 3 then some (0, m) else qm_matches_L22 N k m (x - 1) := by
            rw [qm_matches_L22_s, if_neg hX0, if_pos hXi, if_pos hXi, hgt, hgm, if_neg (mt mk2.mp k2')]
            by_cases k8 : kd v = 8
            · rw [if_pos (mk8.mpr k8), if_neg (mt mk4.mp k4), if_neg (by omega)]
            · rw [if_neg (mt mk8.mp k8)]
              by_cases kw3 : kd w = 3
              · rw [if_pos (kk_eq.mpr (by omega)), if_neg (mt mk4.mp k4), if_neg (by omega)]
              · rw [if_neg (mt kk_eq.mp (by omega)), if_pos ⟨by omega, kw3⟩]
          have hX : qt_matches_L9 N (k2 + 1) t y = if kd v = 3 ∧ kd w ≠ 3 then some (0, (qt_takeTree t).2) else qt_matches_L9 N k2 (qt_takeTree t).2 (y + 1) := by
            rw [qt_matches_L9_s, if_neg hY1, if_neg hY2, e1, e3, if_neg (mt (xk2 hv hn).mp k2')]
            by_cases k3 : kd v = 3
            · rw [if_pos ((xk3 hv hn).mpr k3)]
              by_cases kw3 : kd w = 3
              · rw [if_pos ((xw_is3 hw hn).mpr kw3), if_neg (by omega)]
              · rw [if_neg (mt (xw_is3 hw hn).mp kw3), if_pos ⟨k3, kw3⟩]
            · rw [if_neg (mt (xk3 hv hn).mp k3), if_neg (mt (xk4 hv hn).mp k4), if_neg (by omega)]
          rw [hM0, hX]
          by_cases h33 : kd v = 3 ∧ kd w ≠ 3
          · rw [if_pos h33, if_pos h33]
            exact ⟨m, _, B, ⟨rfl, rfl⟩, Or.inl ⟨rfl, rfl, e2.1⟩⟩
          · rw [if_neg h33, if_neg h33]
            exact ih Q B p (c + 1) l _ m (x - 1) (y + 1) k k2 H e2 b s1 s2 hQ' hB F' hl (by omega) (by omega) hx' hy' (by omega) (by omega) (by omega)
/-- both sides match operands alike -/
theorem HR.match {m : qm_S} (H : HR n K h m) {N : Nat} (hN : 5000 ≤ N) {v w : Int64} (hv : ok n K v) (hw : ok n K w) {pr : Int64} (ht : trok (qm_g_first m) (qm_g_second m) v pr) {t : qt_S} (hth : qt_gH t = h) :
    ∃ m' t' B, sam m' m ∧ ((qm_matches N m v w = some (0, m') ∧ qt_matches N t (xw v) (xw w) = some (0, t') ∧ qt_gH t' = h) ∨
      (qm_matches N m v w = some (1, m') ∧ qt_matches N t (xw v) (xw w) = some (1, t') ∧ TM h t' [] (xs B) ∧ bnd m' B ∧ (∃ d p, tr (qm_g_first m) (qm_g_second m) d v p (B.map (fun q => q.1))) ∧ (B.map (fun q => q.1)).Nodup ∧ B.length ≤ 100 ∧ (kd pr = 2 → ix pr ∉ B.map (fun q => q.1)) ∧ ∀ u ∈ B, ok n K u.2)) := by
  obtain ⟨d, p, l, h1, h2, h3, hpr⟩ := ht
  have hs := H.tr_sym d v p l hv h1
  have hl := nodup100 h3 hs
  have T0 := TM.start (h := h) hth (xw v) (xw w)
  generalize hm1 : qm_t_treeLeft m 0 v = m1
  generalize hm2 : qm_t_matchLeft m1 0 w = m2
  generalize hm3 : qm_s_bound m2 0 = m3
  have a1 : same m1 m := by rw [← hm1]; exact same_tl _ _ _
  have a2 : same m2 m1 := by rw [← hm2]; exact same_ml _ _ _
  have a3 : sam m3 m2 := by rw [← hm3]; exact (mg5 _ _).2.2.2.2.2
  have hsm : sam m3 m := a3.trans (a2.trans a1).sam
  have hf : qm_g_first m3 = qm_g_first m ∧ qm_g_second m3 = qm_g_second m := ⟨(mh_all hsm.1).1, (mh_all hsm.1).2.1⟩
  have z0 : (0 : Int32).toInt.toNat = 0 := by decide
  have t1 : qm_g_treeLeft m3 = vp_updL (qm_g_treeLeft m) 0 v := by rw [← hm3, (mg5 _ _).2.1, ← hm2, (mg4 _ _ _).2.1, ← hm1, (mg1 _ _ _).1, z0]
  have t2 : qm_g_matchLeft m3 = vp_updL (qm_g_matchLeft m) 0 w := by rw [← hm3, (mg5 _ _).2.2.1, ← hm2, (mg4 _ _ _).1, ← hm1, (mg3 _ _ _).1, z0]
  have b3 : bnd m3 [] := ⟨by rw [← hm3, (mg5 _ _).1]; decide, fun j q hq => by cases hq⟩
  have := HR.match_aux (n := n) (K := K) (h := h) N 300 [(v, w)] [] p 0 l _ m3 1 0 N N (H.sa hsm) T0 b3 (by rw [t1]; exact stk_push rfl trivial) (by rw [t2]; exact stk_push rfl trivial) (fun u hu => by rw [List.mem_singleton.mp hu]; exact ⟨hv, hw⟩) (fun u hu => by cases hu)
    (by rw [hf.1, hf.2]; exact ⟨d, p, l, 0, [], h1, ⟨rfl, rfl⟩, rfl, (List.append_nil l).symm⟩) (by simp only [List.length_nil]; omega) (by simp only [List.length_cons, List.length_nil]; omega) (by simp only [List.length_cons, List.length_nil]; omega) (by show (1 : Int32).toInt = 1; decide) (by decide) (by simp only [List.length_cons, List.length_nil]; omega) (by omega) (by omega)
  obtain ⟨m', t', B', g1, g2⟩ := this
  have eM : qm_matches N m v w = qm_matches_L22 N N m3 1 := by rw [← hm3, ← hm2, ← hm1]; rfl
  have eX : qt_matches N t (xw v) (xw w) = qt_matches_L9 N N (qt_start t (xw v) (xw w)) 0 := rfl
  rw [eM, eX]
  refine ⟨m', t', B', g1.trans hsm, ?_⟩
  rcases g2 with g2 | ⟨g2, g3, g4, g5, g6, g7⟩
  · exact Or.inl g2
  · have g6' : B'.map (fun q => q.1) = l := g6
    refine Or.inr ⟨g2, g3, g4, g5, ⟨d, p, by rw [g6']; exact h1⟩, by rw [g6']; exact h3, ?_, by rw [g6']; exact hpr, g7⟩
    have := congrArg List.length g6'
    rw [List.length_map] at this
    omega
end
