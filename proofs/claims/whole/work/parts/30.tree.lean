/-! ===== parameter trees ===== -/
def stk (arr : Nat → Int64) : List Int64 → Prop
  | [] => True
  | v :: P => arr P.length = v ∧ stk arr P
theorem stk_upd {arr : Nat → Int64} {j : Nat} {w : Int64} : ∀ {P : List Int64}, P.length ≤ j → stk arr P → stk (vp_updL arr j w) P
  | [], _, _ => trivial
  | v :: P, hj, ⟨h1, h2⟩ => by
    simp only [List.length_cons] at hj
    refine ⟨?_, stk_upd (by omega) h2⟩
    show (if P.length = j then w else arr P.length) = v
    rw [if_neg (by omega), h1]
theorem stk_push {arr : Nat → Int64} {j : Nat} {w : Int64} {P : List Int64} (hj : j = P.length) (h : stk arr P) : stk (vp_updL arr j w) (w :: P) := by
  subst hj
  refine ⟨?_, stk_upd (Nat.le_refl _) h⟩
  show (if P.length = P.length then w else _) = w
  rw [if_pos rfl]
/-- the matcher: what is pending (trees, parts), what is found (symbols, parts) -/
def TM (h : qh_S) (t : qt_S) (PP : List (Int64 × Int64)) (SS : List (Nat × Int64)) : Prop :=
  qt_gH t = h ∧ (qt_g_pendingCount t).toInt = PP.length ∧ stk (qt_g_pendingTrees t) (PP.map (fun q => q.1)) ∧ stk (qt_g_pendingParts t) (PP.map (fun q => q.2)) ∧ (qt_g_symbolCount t).toInt = SS.length ∧
  ∀ j q, SS[j]? = some q → (qt_g_symbols t j).toInt = q.1 ∧ qt_g_parts t j = q.2
theorem tg1 (t : qt_S) (i : Int32) (v : Int64) : qt_g_pendingTrees (qt_t_pendingTrees t i v) = vp_updL (qt_g_pendingTrees t) i.toInt.toNat v ∧ qt_gH (qt_t_pendingTrees t i v) = qt_gH t ∧ qt_g_pendingParts (qt_t_pendingTrees t i v) = qt_g_pendingParts t ∧ qt_g_symbolCount (qt_t_pendingTrees t i v) = qt_g_symbolCount t ∧ qt_g_symbols (qt_t_pendingTrees t i v) = qt_g_symbols t ∧ qt_g_parts (qt_t_pendingTrees t i v) = qt_g_parts t := ⟨rfl, rfl, rfl, rfl, rfl, rfl⟩
theorem tg2 (t : qt_S) (i : Int32) (v : Int64) : qt_g_pendingParts (qt_t_pendingParts t i v) = vp_updL (qt_g_pendingParts t) i.toInt.toNat v ∧ qt_gH (qt_t_pendingParts t i v) = qt_gH t ∧ qt_g_pendingTrees (qt_t_pendingParts t i v) = qt_g_pendingTrees t ∧ qt_g_symbolCount (qt_t_pendingParts t i v) = qt_g_symbolCount t ∧ qt_g_symbols (qt_t_pendingParts t i v) = qt_g_symbols t ∧ qt_g_parts (qt_t_pendingParts t i v) = qt_g_parts t := ⟨rfl, rfl, rfl, rfl, rfl, rfl⟩
theorem tg3 (t : qt_S) (v : Int32) : qt_g_pendingCount (qt_s_pendingCount t v) = v ∧ qt_gH (qt_s_pendingCount t v) = qt_gH t ∧ qt_g_pendingTrees (qt_s_pendingCount t v) = qt_g_pendingTrees t ∧ qt_g_pendingParts (qt_s_pendingCount t v) = qt_g_pendingParts t ∧ qt_g_symbolCount (qt_s_pendingCount t v) = qt_g_symbolCount t ∧ qt_g_symbols (qt_s_pendingCount t v) = qt_g_symbols t ∧ qt_g_parts (qt_s_pendingCount t v) = qt_g_parts t := ⟨rfl, rfl, rfl, rfl, rfl, rfl, rfl⟩
theorem tg4 (t : qt_S) (i : Int32) (v : Int32) (w : Int64) (c : Int32) : qt_g_pendingCount (qt_s_symbolCount (qt_t_parts (qt_t_symbols t i v) i w) c) = qt_g_pendingCount t ∧ qt_gH (qt_s_symbolCount (qt_t_parts (qt_t_symbols t i v) i w) c) = qt_gH t ∧ qt_g_pendingTrees (qt_s_symbolCount (qt_t_parts (qt_t_symbols t i v) i w) c) = qt_g_pendingTrees t ∧ qt_g_pendingParts (qt_s_symbolCount (qt_t_parts (qt_t_symbols t i v) i w) c) = qt_g_pendingParts t ∧ qt_g_symbolCount (qt_s_symbolCount (qt_t_parts (qt_t_symbols t i v) i w) c) = c ∧ (∀ j, qt_g_symbols (qt_s_symbolCount (qt_t_parts (qt_t_symbols t i v) i w) c) j = if j = i.toInt.toNat then v else qt_g_symbols t j) ∧ (∀ j, qt_g_parts (qt_s_symbolCount (qt_t_parts (qt_t_symbols t i v) i w) c) j = if j = i.toInt.toNat then w else qt_g_parts t j) := ⟨rfl, rfl, rfl, rfl, rfl, fun _ => rfl, fun _ => rfl⟩
theorem TM.put {h : qh_S} {t : qt_S} {PP : List (Int64 × Int64)} {SS : List (Nat × Int64)} (T : TM h t PP SS) (hl : PP.length ≤ 100) (a c : Int64) : TM h (qt_putOff t a c) ((a, c) :: PP) SS := by
  obtain ⟨h1, h2, h3, h4, h5, h6⟩ := T
  obtain ⟨a1, a2, a3, a4, a5, a6⟩ := tg1 t (qt_g_pendingCount t) a
  obtain ⟨b1, b2, b3, b4, b5, b6⟩ := tg2 (qt_t_pendingTrees t (qt_g_pendingCount t) a) (qt_g_pendingCount t) c
  obtain ⟨c1, c2, c3, c4, c5, c6, c7⟩ := tg3 (qt_t_pendingParts (qt_t_pendingTrees t (qt_g_pendingCount t) a) (qt_g_pendingCount t) c) (qt_g_pendingCount t + 1)
  unfold qt_putOff
  rw [if_neg (by ((try simp only [Int32.lt_iff_toInt_lt, Int32.le_iff_toInt_le, Int64.lt_iff_toInt_lt, Int64.le_iff_toInt_le, ← Int32.toInt_inj, ← Int64.toInt_inj, Int32.reduceToInt, Int64.reduceToInt] at *); omega)), if_neg (by ((try simp only [Int32.lt_iff_toInt_lt, Int32.le_iff_toInt_le, Int64.lt_iff_toInt_lt, Int64.le_iff_toInt_le, ← Int32.toInt_inj, ← Int64.toInt_inj, Int32.reduceToInt, Int64.reduceToInt] at *); omega))]
  refine ⟨by rw [c2, b2, a2]; exact h1, by rw [c1, i_add] <;> simp only [Int32.reduceToInt, List.length_cons] <;> omega, ?_, ?_, by rw [c5, b4, a4]; exact h5, fun j q hq => ?_⟩
  · rw [c3, b3, a1]; exact stk_push (by rw [h2, List.length_map]; rfl) h3
  · rw [c4, b1, a3]; exact stk_push (by rw [h2, List.length_map]; rfl) h4
  · rw [c6, b5, a5, c7, b6, a6]; exact h6 j q hq
theorem TM.take {h : qh_S} {t : qt_S} {PP : List (Int64 × Int64)} {SS : List (Nat × Int64)} {a c : Int64} (T : TM h t ((a, c) :: PP) SS) (hl : PP.length ≤ 100) : (qt_takeTree t).1 = a ∧ TM h (qt_takeTree t).2 PP SS ∧ qt_takenPart (qt_takeTree t).2 = c := by
  obtain ⟨h1, h2, ⟨h3, h3'⟩, ⟨h4, h4'⟩, h5, h6⟩ := T
  simp only [List.length_cons] at h2
  rw [List.length_map] at h3 h4
  obtain ⟨c1, c2, c3, c4, c5, c6, c7⟩ := tg3 t (qt_g_pendingCount t - 1)
  have hc : (qt_g_pendingCount t - 1).toInt = PP.length := by rw [i_sub] <;> simp only [Int32.reduceToInt] <;> omega
  have e : qt_takeTree t = (a, qt_s_pendingCount t (qt_g_pendingCount t - 1)) := by
    unfold qt_takeTree
    rw [if_neg (by ((try simp only [Int32.lt_iff_toInt_lt, Int32.le_iff_toInt_le, Int64.lt_iff_toInt_lt, Int64.le_iff_toInt_le, ← Int32.toInt_inj, ← Int64.toInt_inj, Int32.reduceToInt, Int64.reduceToInt] at *); omega)), if_neg (by ((try simp only [Int32.lt_iff_toInt_lt, Int32.le_iff_toInt_le, Int64.lt_iff_toInt_lt, Int64.le_iff_toInt_le, ← Int32.toInt_inj, ← Int64.toInt_inj, Int32.reduceToInt, Int64.reduceToInt] at *); omega)), i_clamp, hc, toNat_cast]
    rw [h3]
  rw [e]
  refine ⟨rfl, ⟨by rw [c2]; exact h1, by rw [c1]; exact hc, by rw [c3]; exact h3', by rw [c4]; exact h4', by rw [c5]; exact h5, fun j q hq => by rw [c6, c7]; exact h6 j q hq⟩, ?_⟩
  show qt_takenPart (qt_s_pendingCount t (qt_g_pendingCount t - 1)) = c
  unfold qt_takenPart
  rw [c1, c4, if_neg (by ((try simp only [Int32.lt_iff_toInt_lt, Int32.le_iff_toInt_le, Int64.lt_iff_toInt_lt, Int64.le_iff_toInt_le, ← Int32.toInt_inj, ← Int64.toInt_inj, Int32.reduceToInt, Int64.reduceToInt] at *); omega)), if_neg (by ((try simp only [Int32.lt_iff_toInt_lt, Int32.le_iff_toInt_le, Int64.lt_iff_toInt_lt, Int64.le_iff_toInt_le, ← Int32.toInt_inj, ← Int64.toInt_inj, Int32.reduceToInt, Int64.reduceToInt] at *); omega)), i_clamp, hc, toNat_cast]
  exact h4
theorem TM.find {h : qh_S} {t : qt_S} {PP : List (Int64 × Int64)} {SS : List (Nat × Int64)} (T : TM h t PP SS) (hl : SS.length < 100) {s : Int32} {sn : Nat} (hs : s.toInt = sn) (c : Int64) : TM h (qt_find t s c) PP (SS ++ [(sn, c)]) := by
  obtain ⟨h1, h2, h3, h4, h5, h6⟩ := T
  obtain ⟨c1, c2, c3, c4, c5, c6, c7⟩ := tg4 t (qt_g_symbolCount t) s c (qt_g_symbolCount t + 1)
  unfold qt_find
  rw [if_neg (by ((try simp only [Int32.lt_iff_toInt_lt, Int32.le_iff_toInt_le, Int64.lt_iff_toInt_lt, Int64.le_iff_toInt_le, ← Int32.toInt_inj, ← Int64.toInt_inj, Int32.reduceToInt, Int64.reduceToInt] at *); omega)), if_neg (by ((try simp only [Int32.lt_iff_toInt_lt, Int32.le_iff_toInt_le, Int64.lt_iff_toInt_lt, Int64.le_iff_toInt_le, ← Int32.toInt_inj, ← Int64.toInt_inj, Int32.reduceToInt, Int64.reduceToInt] at *); omega))]
  refine ⟨by rw [c2]; exact h1, by rw [c1]; exact h2, by rw [c3]; exact h3, by rw [c4]; exact h4, ?_, fun j q hq => ?_⟩
  · rw [c5, i_add] <;> simp only [Int32.reduceToInt, List.length_append, List.length_cons, List.length_nil] <;> omega
  · rw [c6, c7, h5, toNat_cast]
    by_cases hj : j < SS.length
    · rw [List.getElem?_append_left hj] at hq
      rw [if_neg (by omega), if_neg (by omega)]
      exact h6 j q hq
    · rw [List.getElem?_append_right (by omega)] at hq
      have : j - SS.length = 0 := by
        have := (List.getElem?_eq_some_iff.mp hq).1
        simpa using this
      rw [this] at hq
      cases hq
      rw [if_pos (by omega), if_pos (by omega)]
      exact ⟨hs, rfl⟩
theorem TM.start {h : qh_S} {t : qt_S} (ht : qt_gH t = h) (a c : Int64) : TM h (qt_start t a c) [(a, c)] [] := by
  unfold qt_start
  have T0 : TM h (qt_s_pendingCount (qt_s_symbolCount t 0) 0) [] [] := ⟨ht, by show ((0 : Int32)).toInt = 0; decide, trivial, trivial, by show ((0 : Int32)).toInt = 0; decide, fun j q hq => by cases hq⟩
  exact T0.put (by decide) a c
theorem TM.has_aux {h : qh_S} {t : qt_S} {PP : List (Int64 × Int64)} {SS : List (Nat × Int64)} (T : TM h t PP SS) (hl : SS.length ≤ 100) (N : Nat) {s : Int32} {sn : Nat} (hs : s.toInt = sn) : ∀ (d k c : Nat) (x : Int32), c + d = SS.length → d < k → x.toInt = c →
    qt_hasFound_L2 N k t s x = some (if sn ∈ (SS.drop c).map (fun q => q.1) then 1 else 0) := by
  intro d
  induction d with
  | zero =>
    intro k c x hc hk hx
    obtain ⟨k, rfl⟩ : ∃ j, k = j + 1 := ⟨k - 1, by omega⟩
    rw [qt_hasFound_L2_s, if_pos (by have := T.2.2.2.2.1; ((try simp only [Int32.lt_iff_toInt_lt, Int32.le_iff_toInt_le, Int64.lt_iff_toInt_lt, Int64.le_iff_toInt_le, ← Int32.toInt_inj, ← Int64.toInt_inj, Int32.reduceToInt, Int64.reduceToInt] at *); omega)), List.drop_eq_nil_of_le (by omega)]
    simp
  | succ d ih =>
    intro k c x hc hk hx
    obtain ⟨k, rfl⟩ : ∃ j, k = j + 1 := ⟨k - 1, by omega⟩
    have h5 := T.2.2.2.2.1
    obtain ⟨q, hq⟩ : ∃ q, SS[c]? = some q := ⟨SS[c]'(by omega), List.getElem?_eq_getElem (by omega)⟩
    have h6 := (T.2.2.2.2.2 c q hq).1
    have hd : SS.drop c = q :: SS.drop (c + 1) := by
      rw [List.drop_eq_getElem_cons (by omega)]
      congr 1
      have := List.getElem?_eq_getElem (l := SS) (i := c) (by omega)
      rw [hq] at this
      exact (Option.some.inj this).symm
    rw [qt_hasFound_L2_s, if_neg (by ((try simp only [Int32.lt_iff_toInt_lt, Int32.le_iff_toInt_le, Int64.lt_iff_toInt_lt, Int64.le_iff_toInt_le, ← Int32.toInt_inj, ← Int64.toInt_inj, Int32.reduceToInt, Int64.reduceToInt] at *); omega)), if_neg (by ((try simp only [Int32.lt_iff_toInt_lt, Int32.le_iff_toInt_le, Int64.lt_iff_toInt_lt, Int64.le_iff_toInt_le, ← Int32.toInt_inj, ← Int64.toInt_inj, Int32.reduceToInt, Int64.reduceToInt] at *); omega)), if_pos (inb_of (by omega) (by omega)), i_clamp, hx, toNat_cast, hd, List.map_cons]
    by_cases he : q.1 = sn
    · rw [if_pos (i_ext (by rw [h6, hs, he])), if_pos (by rw [he]; exact List.mem_cons_self)]
    · have hx1 : (x + 1).toInt = ((c + 1 : Nat) : Int) := by rw [i_add] <;> simp only [Int32.reduceToInt] <;> omega
      rw [if_neg (fun e => he (by have := congrArg Int32.toInt e; rw [h6, hs] at this; omega)), ih k (c + 1) (x + 1) (by omega) (by omega) hx1]
      congr 1
      by_cases hm : sn ∈ (SS.drop (c + 1)).map (fun q => q.1)
      · rw [if_pos hm, if_pos (List.mem_cons_of_mem _ hm)]
      · rw [if_neg hm, if_neg (fun h => (List.mem_cons.mp h).elim (fun e => he e.symm) hm)]
theorem TM.has {h : qh_S} {t : qt_S} {PP : List (Int64 × Int64)} {SS : List (Nat × Int64)} (T : TM h t PP SS) (hl : SS.length ≤ 100) {N : Nat} (hN : 5000 ≤ N) {s : Int32} {sn : Nat} (hs : s.toInt = sn) : qt_hasFound N t s = some (if sn ∈ SS.map (fun q => q.1) then 1 else 0) := by
  have := T.has_aux hl N hs SS.length N 0 0 (by omega) (by omega) (by decide)
  rw [List.drop_zero] at this
  exact this
theorem tr_up {f s : Nat → Int64} : ∀ {d d' : Nat} {v : Int64} {p : Nat} {l : List Nat}, d ≤ d' → tr f s d v p l → tr f s d' v p l
  | 0, _, _, _, _, _, h => h.elim
  | d + 1, d', v, p, l, hd, h => by
    obtain ⟨d', rfl⟩ : ∃ j, d' = j + 1 := ⟨d' - 1, by omega⟩
    rcases h with h | h | ⟨h1, p1, l1, p2, l2, t1, t2, t3⟩
    · exact Or.inl h
    · exact Or.inr (Or.inl h)
    · exact Or.inr (Or.inr ⟨h1, p1, l1, p2, l2, tr_up (by omega) t1, tr_up (by omega) t2, t3⟩)
/-- a forest: trees one behind another -/
def forest (f s : Nat → Int64) : List Int64 → Nat → List Nat → Prop
  | [], p, l => p = 0 ∧ l = []
  | v :: P, p, l => ∃ d p1 l1 p2 l2, tr f s d v p1 l1 ∧ forest f s P p2 l2 ∧ p = p1 + p2 ∧ l = l1 ++ l2
/-- what has been seen, on the reference's side -/
def seen (m : qm_S) (S : List Nat) : Prop := ∀ s, s < 100 → qm_g_isSeen m s = if s ∈ S then 1 else 0
theorem nodup100 {L : List Nat} (hL : L.Nodup) (hb : ∀ x ∈ L, x < 100) : L.length ≤ 100 := by
  have := List.Nodup.length_le_of_subset (l₂ := List.range 100) hL (fun x hx => List.mem_range.mpr (hb x hx))
  simpa using this

theorem mg1 (m : qm_S) (i : Int32) (v : Int64) : qm_g_treeLeft (qm_t_treeLeft m i v) = vp_updL (qm_g_treeLeft m) i.toInt.toNat v ∧ qm_g_isSeen (qm_t_treeLeft m i v) = qm_g_isSeen m := ⟨rfl, rfl⟩
theorem mg2 (m : qm_S) (i : Int32) (v : Int32) : qm_g_treeLeft (qm_t_isSeen m i v) = qm_g_treeLeft m ∧ ∀ j, qm_g_isSeen (qm_t_isSeen m i v) j = if j = i.toInt.toNat then bz v else qm_g_isSeen m j := ⟨rfl, fun _ => rfl⟩
/-- what isTree leaves as it was -/
def same (m' m : qm_S) : Prop := mh m' = mh m ∧ mo m' = mo m ∧ mb m' = mb m
theorem same.refl (m : qm_S) : same m m := ⟨rfl, rfl, rfl⟩
theorem same.trans {a b c : qm_S} (h1 : same a b) (h2 : same b c) : same a c := ⟨h1.1.trans h2.1, h1.2.1.trans h2.2.1, h1.2.2.trans h2.2.2⟩
theorem same_tl (m : qm_S) (i : Int32) (v : Int64) : same (qm_t_treeLeft m i v) m := ⟨rfl, rfl, rfl⟩
theorem same_ml (m : qm_S) (i : Int32) (v : Int64) : same (qm_t_matchLeft m i v) m := ⟨rfl, rfl, rfl⟩
theorem same_sn (m : qm_S) (i : Int32) (v : Int32) : same (qm_t_isSeen m i v) m := ⟨rfl, rfl, rfl⟩
theorem HR.sm {n : Nat} {K : Nat → Nat} {h : qh_S} {m m' : qm_S} (H : HR n K h m) (e : same m' m) : HR n K h m' := H.m e.1.symm
theorem forest_pair {f s : Nat → Int64} {v : Int64} (hk : kd v = 4) {P : List Int64} {p : Nat} {l : List Nat} (h : forest f s (f (ix v) :: s (ix v) :: P) p l) : forest f s (v :: P) (p + 1) l := by
  obtain ⟨d1, p1, l1, q1, r1, t1, ⟨d2, p2, l2, p3, l3, t2, t3, t4, t5⟩, t6, t7⟩ := h
  subst t4 t5 t6 t7
  refine ⟨max d1 d2 + 1, p1 + p2 + 1, l1 ++ l2, p3, l3, Or.inr (Or.inr ⟨hk, p1, l1, p2, l2, tr_up (Nat.le_max_left _ _) t1, tr_up (Nat.le_max_right _ _) t2, rfl, rfl⟩), t3, by omega, by rw [List.append_assoc]⟩
theorem forest_leaf {f s : Nat → Int64} {v : Int64} {l0 : List Nat} (hk : tr f s 1 v 0 l0) {P : List Int64} {p : Nat} {l : List Nat} (h : forest f s P p l) : forest f s (v :: P) p (l0 ++ l) := ⟨1, 0, l0, p, l, hk, h, by omega, rfl⟩
