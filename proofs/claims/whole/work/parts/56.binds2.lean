/-! ===== compound operatives: their symbols bound ===== -/
theorem unpack {S : Int64} {P s r : Int} (h : S.toInt = (P * 128 + s) * 8192 + r) (hs : 0 ≤ s ∧ s < 128) (hr : 0 ≤ r ∧ r < 8192) :
    (S >>> 20).toInt = P ∧ (Int64.toInt32 (S &&& 8191)).toInt = r ∧ (Int64.toInt32 ((S >>> 13) &&& 127)).toInt = s := by
  have a1 := l_shr S 20 20 (by decide)
  have a2 := l_and S (m := 8191) 13 (by decide) (by decide)
  have a3 := l_shr S 13 13 (by decide)
  have a4 := l_and (S >>> 13) (m := 127) 7 (by decide) (by decide)
  refine ⟨by rw [a1]; omega, ?_, ?_⟩
  · rw [l_toI (by rw [a2]; omega) (by rw [a2]; omega), a2]; omega
  · rw [l_toI (by rw [a4]; omega) (by rw [a4]; omega), a4, a3]; omega
theorem TM.heap {h h' : qh_S} {t : qt_S} {SS : List (Nat × Int64)} (T : TM h t [] SS) : TM h' (qt_sH t h') [] SS := ⟨rfl, T.2⟩
theorem bnd_mb {m m' : qm_S} {B : List (Nat × Int64)} (b : bnd m B) (e : mb m' = mb m) : bnd m' B := by
  unfold mb at e
  simp only [Prod.mk.injEq] at e
  unfold bnd
  rw [e.1, e.2.1, e.2.2]
  exact b
theorem xs_at {B : List (Nat × Int64)} {c : Nat} {u : Nat × Int64} (h : B[c]? = some u) : (xs B)[c]? = some (u.1, xw u.2) := by
  unfold xs
  rw [List.getElem?_map, h]
  rfl
/-- the end of a compound operative in the reference -/
def cend (N : Nat) (σ : qm_S) (x1 : Int32) (x2 x4 : Int64) : Option (Int32 × qm_S) :=
  if (qm_kindOf x2) = (2 : Int32) then ((qm_binds N σ x4 (qm_indexOf σ x2) (qm_g_around σ))).bind fun r13 =>
      if r13.1 = (0 : Int32) then some ((-5 : Int32), r13.2)
      else if inb x1 4000 = true then some ((qm_goesTo r13.2 (qm_g_third r13.2 (Int32.toNatClampNeg x1)) x4).1, (qm_goesTo r13.2 (qm_g_third r13.2 (Int32.toNatClampNeg x1)) x4).2)
        else none
  else if inb x1 4000 = true then some ((qm_goesTo σ (qm_g_third σ (Int32.toNatClampNeg x1)) x4).1, (qm_goesTo σ (qm_g_third σ (Int32.toNatClampNeg x1)) x4).2)
    else none
theorem binds_aux (N : Nat) (hN : 5000 ≤ N) {e par : Int64} {x1 i : Int32} (B : List (Nat × Int64)) (hB : B.length ≤ 100) (hnd : (B.map (fun q => q.1)).Nodup) (hsy : ∀ u ∈ B, u.1 < 100) (hk : kd e = 7) (hg : wt e ≠ -1) (hx1 : x1.toInt = row (wt e)) :
    ∀ (B2 B1 : List (Nat × Int64)) (n : Nat) (K : Nat → Nat) (m : qm_S) (t : qt_S) (x2 x6 : Int32) (k k2 : Nat), B = B1 ++ B2 → HR n K (qt_gH t) m → TM (qt_gH t) t [] (xs B) → bnd m B → ok n K e → (∀ u ∈ B, ok n K u.2) →
      symsIn n K m e (fun s => ∃ q ∈ B1, (q.1 : Int) = s) → x2.toInt = B1.length → x6.toInt = B1.length → B2.length < k → B2.length < k2 →
    (∃ n' K' h' m', qt_bindFound_L2 N k t x1 x2 = some (1, qt_sH t h') ∧ qm_combinesCompound_L61 N k2 m i par e x6 = cend N m' i par e ∧ HR n' K' h' m' ∧ Ext n K m n' K' m' ∧ mo m' = mo m ∧ symsIn n' K' m' e (fun s => ∃ q ∈ B, (q.1 : Int) = s)) ∨
    (∃ n' K' h' m', qt_bindFound_L2 N k t x1 x2 = some (0, qt_sH t h') ∧ qm_combinesCompound_L61 N k2 m i par e x6 = some (-5, m') ∧ HR n' K' h' m' ∧ Ext n K m n' K' m' ∧ mo m' = mo m) := by
  intro B2
  induction B2 with
  | nil =>
    intro B1 n K m t x2 x6 k k2 hBe H T b he hv hP h2 h6 hk1 hk2
    obtain ⟨k, rfl⟩ : ∃ j, k = j + 1 := ⟨k - 1, by omega⟩
    obtain ⟨k2, rfl⟩ : ∃ j, k2 = j + 1 := ⟨k2 - 1, by omega⟩
    rw [List.append_nil] at hBe
    subst hBe
    have c1 := T.2.2.2.2.1
    have c2 := b.1
    unfold xs at c1
    rw [List.length_map] at c1
    refine Or.inl ⟨n, K, qt_gH t, m, ?_, ?_, H, Ext.refl rfl, rfl, hP⟩
    · rw [qt_bindFound_L2_s, if_pos (by ((try simp only [Int32.lt_iff_toInt_lt, Int32.le_iff_toInt_le, Int64.lt_iff_toInt_lt, Int64.le_iff_toInt_le, ← Int32.toInt_inj, ← Int64.toInt_inj, Int32.reduceToInt, Int64.reduceToInt] at *); omega))]
      rfl
    · rw [qm_combinesCompound_L61_s, if_pos (by ((try simp only [Int32.lt_iff_toInt_lt, Int32.le_iff_toInt_le, Int64.lt_iff_toInt_lt, Int64.le_iff_toInt_le, ← Int32.toInt_inj, ← Int64.toInt_inj, Int32.reduceToInt, Int64.reduceToInt] at *); omega))]
      rfl
  | cons u B2 ih =>
    intro B1 n K m t x2 x6 k k2 hBe H T b he hv hP h2 h6 hk1 hk2
    obtain ⟨k, rfl⟩ : ∃ j, k = j + 1 := ⟨k - 1, by omega⟩
    obtain ⟨k2, rfl⟩ : ∃ j, k2 = j + 1 := ⟨k2 - 1, by omega⟩
    simp only [List.length_cons] at hk1 hk2
    have hlen : B.length = B1.length + (B2.length + 1) := by rw [hBe, List.length_append, List.length_cons]
    have hat : B[B1.length]? = some u := by rw [hBe, List.getElem?_append_right (Nat.le_refl _), Nat.sub_self]; rfl
    have hu : u ∈ B := by rw [hBe]; exact List.mem_append_right _ (List.mem_cons_self ..)
    have hub := hsy u hu
    obtain ⟨a1, a2⟩ := T.2.2.2.2.2 _ _ (xs_at hat)
    obtain ⟨b1, b2⟩ := b.2 _ _ hat
    have c1 := T.2.2.2.2.1
    have c2 := b.1
    unfold xs at c1
    rw [List.length_map] at c1
    have i2 : Int32.toNatClampNeg x2 = B1.length := by rw [i_clamp, h2, toNat_cast]
    have i6 : Int32.toNatClampNeg x6 = B1.length := by rw [i_clamp, h6, toNat_cast]
    have hsym : qt_g_symbols t B1.length = qm_g_boundSymbol m B1.length := i_ext (by rw [a1, b1])
    have hx2 : (x2 + 1).toInt = ((B1 ++ [u]).length : Int) := by rw [List.length_append, List.length_singleton, i_add] <;> simp only [Int32.reduceToInt] <;> omega
    have hx6 : (x6 + 1).toInt = ((B1 ++ [u]).length : Int) := by rw [List.length_append, List.length_singleton, i_add] <;> simp only [Int32.reduceToInt] <;> omega
    have hX : qt_bindFound_L2 N (k + 1) t x1 x2 = if (qh_addBinding (qt_gH t) x1 (qm_g_boundSymbol m B1.length) (xw u.2)).1 = (0 : Int32) then some ((0 : Int32), qt_sH t (qh_addBinding (qt_gH t) x1 (qm_g_boundSymbol m B1.length) (xw u.2)).2) else qt_bindFound_L2 N k (qt_sH t (qh_addBinding (qt_gH t) x1 (qm_g_boundSymbol m B1.length) (xw u.2)).2) x1 (x2 + 1) := by
      rw [qt_bindFound_L2_s, if_neg (by ((try simp only [Int32.lt_iff_toInt_lt, Int32.le_iff_toInt_le, Int64.lt_iff_toInt_lt, Int64.le_iff_toInt_le, ← Int32.toInt_inj, ← Int64.toInt_inj, Int32.reduceToInt, Int64.reduceToInt] at *); omega)), if_neg (by ((try simp only [Int32.lt_iff_toInt_lt, Int32.le_iff_toInt_le, Int64.lt_iff_toInt_lt, Int64.le_iff_toInt_le, ← Int32.toInt_inj, ← Int64.toInt_inj, Int32.reduceToInt, Int64.reduceToInt] at *); omega)), if_pos (inb_of (by omega) (by omega)), if_pos (inb_of (by omega) (by omega)), i2, hsym, a2]
    have hM : qm_combinesCompound_L61 N (k2 + 1) m i par e x6 = (qm_binds N m e (qm_g_boundSymbol m B1.length) u.2).bind fun r19 => if r19.1 = (0 : Int32) then some ((-5 : Int32), r19.2) else qm_combinesCompound_L61 N k2 r19.2 i par e (x6 + 1) := by
      rw [qm_combinesCompound_L61_s, if_neg (by ((try simp only [Int32.lt_iff_toInt_lt, Int32.le_iff_toInt_le, Int64.lt_iff_toInt_lt, Int64.le_iff_toInt_le, ← Int32.toInt_inj, ← Int64.toInt_inj, Int32.reduceToInt, Int64.reduceToInt] at *); omega)), if_pos (inb_of (by omega) (by omega)), if_pos (inb_of (by omega) (by omega)), i6, b2]
    rw [hX, hM]
    have hPs : ¬ (∃ q ∈ B1, (q.1 : Int) = (qm_g_boundSymbol m B1.length).toInt) := by
      rintro ⟨q, hq, e1⟩
      rw [hBe, List.map_append, List.map_cons, List.nodup_append] at hnd
      rw [b1] at e1
      exact hnd.2.2 q.1 (List.mem_map.mpr ⟨q, hq, rfl⟩) u.1 (List.mem_cons_self ..) (by omega)
    rcases H.addB hN he hk hg (hv u hu) (s := qm_g_boundSymbol m B1.length) (by omega) hx1 hP hPs with ⟨hn4, h', m', g1, g2, g3, g4, g5, g6, g7⟩ | ⟨hn4, m', g1, g2, g3, g4, g5, g6⟩
    · rw [g1, g2, ob_, if_neg (show ¬ ((1 : Int32), h').1 = 0 from by show ¬ (1 : Int32) = 0; decide), if_neg (show ¬ ((1 : Int32), m').1 = 0 from by show ¬ (1 : Int32) = 0; decide)]
      have hP' : symsIn (n + 1) (updK K n 9) m' e (fun s => ∃ q ∈ B1 ++ [u], (q.1 : Int) = s) := by
        intro L hL j hj
        rcases g7 L hL j hj with ⟨q, hq, e1⟩ | e1
        · exact ⟨q, List.mem_append_left _ hq, e1⟩
        · exact ⟨u, List.mem_append_right _ (List.mem_singleton.mpr rfl), by rw [e1, b1]⟩
      rcases ih (B1 ++ [u]) (n + 1) (updK K n 9) m' (qt_sH t h') (x2 + 1) (x6 + 1) k k2 (by rw [hBe, List.append_assoc]; rfl) g3 T.heap (bnd_mb b g6) (g4.ok he) (fun v hv' => g4.ok (hv v hv')) hP' hx2 hx6 (by omega) (by omega) with ⟨n2, K2, h2', m2, f1, f2, f3, f4, f5, f6⟩ | ⟨n2, K2, h2', m2, f1, f2, f3, f4, f5⟩
      · exact Or.inl ⟨n2, K2, h2', m2, f1, f2, f3, g4.trans f4, f5.trans g5, f6⟩
      · exact Or.inr ⟨n2, K2, h2', m2, f1, f2, f3, g4.trans f4, f5.trans g5⟩
    · rw [g1, g2, ob_, if_pos (show ((0 : Int32), qt_gH t).1 = 0 from rfl), if_pos (show ((0 : Int32), m').1 = 0 from rfl)]
      exact Or.inr ⟨n, K, qt_gH t, m', rfl, rfl, g3, Ext.refl g4.symm, g5⟩
