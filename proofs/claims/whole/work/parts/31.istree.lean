theorem len_b {a b c p : Nat} (e : a = b) (h : b + 1 + c = 2 * p + 1) (h1 : p ≤ c) (h2 : p ≤ 100) : a ≤ 100 := by omega
section
variable {n : Nat} {K : Nat → Nat} {h : qh_S}
theorem HR.tree_aux (N : Nat) (hN : 5000 ≤ N) : ∀ (q : Nat) (P : List Int64) (p c : Nat) (S : List Nat) (PP : List (Int64 × Int64)) (SS : List (Nat × Int64)) (t : qt_S) (m : qm_S) (x3 x4 y3 y4 : Int32) (k k2 : Nat),
    HR n K h m → TM h t PP SS → PP.map (fun q => q.1) = P.map xw → SS.map (fun q => q.1) = S → stk (qm_g_treeLeft m) P → (∀ v ∈ P, ok n K v) → seen m S → S.Nodup → (∀ s ∈ S, s < 100) → P.length + c = 2 * p + 1 → p ≤ c → p ≤ 100 →
    x3.toInt = P.length → x4.toInt = p → y3.toInt = p → y4.toInt = c → 2 * (100 - p) + P.length < q → q ≤ k → q ≤ k2 →
    ∃ m' t' SS', same m' m ∧
      ((qm_isTree_L33 N k m x3 x4 = some (0, m') ∧ qt_isParameterTree_L13 N k2 t y3 y4 = some (0, t') ∧ qt_gH t' = h) ∨
       (qm_isTree_L33 N k m x3 x4 = some (1, m') ∧ qt_isParameterTree_L13 N k2 t y3 y4 = some (1, t') ∧ TM h t' [] SS' ∧ ∃ pp ll, forest (qm_g_first m) (qm_g_second m) P pp ll ∧ p + pp ≤ 100 ∧ SS'.map (fun q => q.1) = S ++ ll ∧ (S ++ ll).Nodup ∧ (∀ s ∈ S ++ ll, s < 100) ∧ seen m' (S ++ ll))) := by
  intro q
  induction q with
  | zero => intros; omega
  | succ q ih =>
    intro P p c S PP SS t m x3 x4 y3 y4 k k2 H T hPP hSS hM hok hsn hnd hb hc hpc hp hx3 hx4 hy3 hy4 hq hk hk2
    obtain ⟨k, rfl⟩ : ∃ j, k = j + 1 := ⟨k - 1, by omega⟩
    obtain ⟨k2, rfl⟩ : ∃ j, k2 = j + 1 := ⟨k2 - 1, by omega⟩
    have hn := H.hn
    have hlen : PP.length = P.length := by have := congrArg List.length hPP; simpa using this
    have hSl : SS.length = S.length := by have := congrArg List.length hSS; simpa using this
    have hT2 := T.2.1
    cases P with
    | nil =>
      simp only [List.length_nil] at hx3 hlen hc
      have hPn : PP = [] := List.eq_nil_of_length_eq_zero hlen
      subst hPn
      simp only [List.length_nil] at hT2
      refine ⟨m, t, SS, same.refl m, Or.inr ⟨by rw [qm_isTree_L33_s, if_pos (by ((try simp only [Int32.lt_iff_toInt_lt, Int32.le_iff_toInt_le, Int64.lt_iff_toInt_lt, Int64.le_iff_toInt_le, ← Int32.toInt_inj, ← Int64.toInt_inj, Int32.reduceToInt, Int64.reduceToInt] at *); omega))], ?_, T, 0, [], ⟨rfl, rfl⟩, by omega, by rw [List.append_nil]; exact hSS, by rw [List.append_nil]; exact hnd, by rw [List.append_nil]; exact hb, by rw [List.append_nil]; exact hsn⟩⟩
      rw [qt_isParameterTree_L13_s]
      by_cases h201 : (201 : Int32) ≤ y4
      · rw [if_pos h201, if_pos (by ((try simp only [Int32.lt_iff_toInt_lt, Int32.le_iff_toInt_le, Int64.lt_iff_toInt_lt, Int64.le_iff_toInt_le, ← Int32.toInt_inj, ← Int64.toInt_inj, Int32.reduceToInt, Int64.reduceToInt] at *); omega))]
      · rw [if_neg h201, if_pos (by ((try simp only [Int32.lt_iff_toInt_lt, Int32.le_iff_toInt_le, Int64.lt_iff_toInt_lt, Int64.le_iff_toInt_le, ← Int32.toInt_inj, ← Int64.toInt_inj, Int32.reduceToInt, Int64.reduceToInt] at *); omega)), if_pos (by ((try simp only [Int32.lt_iff_toInt_lt, Int32.le_iff_toInt_le, Int64.lt_iff_toInt_lt, Int64.le_iff_toInt_le, ← Int32.toInt_inj, ← Int64.toInt_inj, Int32.reduceToInt, Int64.reduceToInt] at *); omega))]
    | cons v P =>
      obtain ⟨hM1, hM2⟩ := hM
      obtain ⟨⟨w, z⟩, PP, rfl⟩ : ∃ a L, PP = a :: L := by
        cases PP with
        | nil => simp at hPP
        | cons a L => exact ⟨a, L, rfl⟩
      simp only [List.map_cons, List.cons.injEq] at hPP
      obtain ⟨hw, hPP⟩ := hPP
      simp only [List.length_cons] at hx3 hlen hc hT2 hq
      have hv : ok n K v := hok v List.mem_cons_self
      have hok' : ∀ u ∈ P, ok n K u := fun u hu => hok u (List.mem_cons_of_mem _ hu)
      have hx3' : (x3 - 1).toInt = P.length := by rw [i_sub] <;> simp only [Int32.reduceToInt] <;> omega
      have hg : qm_g_treeLeft m (Int32.toNatClampNeg (x3 - 1)) = v := by rw [i_clamp, hx3', toNat_cast]; exact hM1
      have hPl : PP.length ≤ 100 := len_b (Nat.succ.inj hlen) hc hpc hp
      obtain ⟨e1, e2, e3⟩ := T.take hPl
      have hY1 : ¬ (201 : Int32) ≤ y4 := by ((try simp only [Int32.lt_iff_toInt_lt, Int32.le_iff_toInt_le, Int64.lt_iff_toInt_lt, Int64.le_iff_toInt_le, ← Int32.toInt_inj, ← Int64.toInt_inj, Int32.reduceToInt, Int64.reduceToInt] at *); omega)
      have hY2 : ¬ qt_g_pendingCount t ≤ 0 := by ((try simp only [Int32.lt_iff_toInt_lt, Int32.le_iff_toInt_le, Int64.lt_iff_toInt_lt, Int64.le_iff_toInt_le, ← Int32.toInt_inj, ← Int64.toInt_inj, Int32.reduceToInt, Int64.reduceToInt] at *); omega)
      have hX0 : ¬ x3 ≤ 0 := by ((try simp only [Int32.lt_iff_toInt_lt, Int32.le_iff_toInt_le, Int64.lt_iff_toInt_lt, Int64.le_iff_toInt_le, ← Int32.toInt_inj, ← Int64.toInt_inj, Int32.reduceToInt, Int64.reduceToInt] at *); omega)
      have hXi : inb (x3 - 1) 204 = true := inb_of (by omega) (by omega)
      have hy41 : (y4 + 1).toInt = ((c + 1 : Nat) : Int) := by rw [i_add] <;> simp only [Int32.reduceToInt] <;> omega
      have kk : ∀ j : Nat, kd v ≠ j → j < 9 → True := fun _ _ _ => trivial
      by_cases k4 : kd v = 4
      · -- a pair
        obtain ⟨f1, f2, f3, f4, f5, f6, f7⟩ := H.pair hv (Nat.le_refl _) k4
        have hM : qm_isTree_L33 N (k + 1) m x3 x4 = if (x4 + 1) ≤ 100 then qm_isTree_L33 N k (qm_t_treeLeft (qm_t_treeLeft m (x3 - 1) (qm_g_second m (ix v))) (x3 - 1 + 1) (qm_g_first m (ix v))) (x3 - 1 + 2) (x4 + 1) else some (0, m) := by
          rw [qm_isTree_L33_s, if_neg hX0, if_pos hXi, hg, if_pos (mk4.mpr k4), f4, ob_, if_pos hXi]
          have : qm_carOf (qm_t_treeLeft m (x3 - 1) (qm_g_second m (ix v))) v = some (qm_g_first m (ix v)) := car_m (m := qm_t_treeLeft m (x3 - 1) (qm_g_second m (ix v))) hv hn k4
          rw [this, ob_, if_pos (inb_of (by rw [i_add] <;> simp only [Int32.reduceToInt] <;> omega) (by rw [i_add] <;> simp only [Int32.reduceToInt] <;> omega))]
        have hX : qt_isParameterTree_L13 N (k2 + 1) t y3 y4 = if (y3 + 1) ≤ 100 then qt_isParameterTree_L13 N k2 (qt_putOff (qt_putOff (qt_takeTree t).2 (xw (qm_g_second m (ix v))) 3) (xw (qm_g_first m (ix v))) 3) (y3 + 1) (y4 + 1) else some (0, (qt_takeTree t).2) := by
          have T2 := TM.put e2 (by omega) (xw (qm_g_second m (ix v))) 3
          rw [qt_isParameterTree_L13_s, if_neg hY1, if_neg hY2, e1, hw, if_neg (by rw [xk2 hv hn]; omega), if_neg (by rw [xk3 hv hn]; omega), if_pos (by rw [xk4 hv hn]; omega), e2.1, f2, T2.1, f1]
        rw [hM, hX]
        have hx41 : (x4 + 1).toInt = ((p + 1 : Nat) : Int) := by rw [i_add] <;> simp only [Int32.reduceToInt] <;> omega
        have hy31 : (y3 + 1).toInt = ((p + 1 : Nat) : Int) := by rw [i_add] <;> simp only [Int32.reduceToInt] <;> omega
        by_cases hp1 : p + 1 ≤ 100
        · rw [if_pos (by ((try simp only [Int32.lt_iff_toInt_lt, Int32.le_iff_toInt_le, Int64.lt_iff_toInt_lt, Int64.le_iff_toInt_le, ← Int32.toInt_inj, ← Int64.toInt_inj, Int32.reduceToInt, Int64.reduceToInt] at *); omega)), if_pos (by ((try simp only [Int32.lt_iff_toInt_lt, Int32.le_iff_toInt_le, Int64.lt_iff_toInt_lt, Int64.le_iff_toInt_le, ← Int32.toInt_inj, ← Int64.toInt_inj, Int32.reduceToInt, Int64.reduceToInt] at *); omega))]
          have T2 := TM.put e2 (by omega) (xw (qm_g_second m (ix v))) 3
          have T3 := TM.put T2 (by simp only [List.length_cons]; omega) (xw (qm_g_first m (ix v))) 3
          have i1 : (x3 - 1 + 1).toInt = ((P.length + 1 : Nat) : Int) := by rw [i_add] <;> simp only [Int32.reduceToInt] <;> omega
          have i2 : (x3 - 1 + 2).toInt = ((P.length + 2 : Nat) : Int) := by rw [i_add] <;> simp only [Int32.reduceToInt] <;> omega
          have hstk : stk (qm_g_treeLeft (qm_t_treeLeft (qm_t_treeLeft m (x3 - 1) (qm_g_second m (ix v))) (x3 - 1 + 1) (qm_g_first m (ix v)))) (qm_g_first m (ix v) :: qm_g_second m (ix v) :: P) := by
            rw [(mg1 _ _ _).1, (mg1 _ _ _).1, i1, hx3', toNat_cast, toNat_cast]
            exact stk_push (by simp only [List.length_cons]) (stk_push rfl hM2)
          have hsm : same (qm_t_treeLeft (qm_t_treeLeft m (x3 - 1) (qm_g_second m (ix v))) (x3 - 1 + 1) (qm_g_first m (ix v))) m := (same_tl _ _ _).trans (same_tl _ _ _)
          have hf : qm_g_first (qm_t_treeLeft (qm_t_treeLeft m (x3 - 1) (qm_g_second m (ix v))) (x3 - 1 + 1) (qm_g_first m (ix v))) = qm_g_first m ∧ qm_g_second (qm_t_treeLeft (qm_t_treeLeft m (x3 - 1) (qm_g_second m (ix v))) (x3 - 1 + 1) (qm_g_first m (ix v))) = qm_g_second m := ⟨(mh_all hsm.1).1, (mh_all hsm.1).2.1⟩
          have hsn3 : seen (qm_t_treeLeft (qm_t_treeLeft m (x3 - 1) (qm_g_second m (ix v))) (x3 - 1 + 1) (qm_g_first m (ix v))) S := fun s hs => by rw [(mg1 _ _ _).2, (mg1 _ _ _).2]; exact hsn s hs
          have := ih (qm_g_first m (ix v) :: qm_g_second m (ix v) :: P) (p + 1) (c + 1) S _ SS _ (qm_t_treeLeft (qm_t_treeLeft m (x3 - 1) (qm_g_second m (ix v))) (x3 - 1 + 1) (qm_g_first m (ix v))) (x3 - 1 + 2) (x4 + 1) (y3 + 1) (y4 + 1) k k2 (H.sm hsm) T3 (by simp only [List.map_cons, hPP]) hSS hstk
            (fun u hu => by
              rcases List.mem_cons.mp hu with rfl | hu
              · exact ok_mono f5 (by omega) (fun _ _ => rfl)
              · rcases List.mem_cons.mp hu with rfl | hu
                · exact ok_mono f6 (by omega) (fun _ _ => rfl)
                · exact hok' u hu) hsn3 hnd hb (by simp only [List.length_cons]; omega) (by omega) hp1 (by simp only [List.length_cons]; omega) hx41 hy31 hy41 (by simp only [List.length_cons]; omega) (by omega) (by omega)
          rw [hf.1, hf.2] at this
          obtain ⟨m', t', SS', g1, g2⟩ := this
          refine ⟨m', t', SS', g1.trans hsm, ?_⟩
          rcases g2 with g2 | ⟨g2, g3, g4, pp, ll, g5, g6⟩
          · exact Or.inl g2
          · exact Or.inr ⟨g2, g3, g4, pp + 1, ll, forest_pair k4 g5, by omega, g6.2⟩
        · rw [if_neg (by ((try simp only [Int32.lt_iff_toInt_lt, Int32.le_iff_toInt_le, Int64.lt_iff_toInt_lt, Int64.le_iff_toInt_le, ← Int32.toInt_inj, ← Int64.toInt_inj, Int32.reduceToInt, Int64.reduceToInt] at *); omega)), if_neg (by ((try simp only [Int32.lt_iff_toInt_lt, Int32.le_iff_toInt_le, Int64.lt_iff_toInt_lt, Int64.le_iff_toInt_le, ← Int32.toInt_inj, ← Int64.toInt_inj, Int32.reduceToInt, Int64.reduceToInt] at *); omega))]
          exact ⟨m, _, SS, same.refl m, Or.inl ⟨rfl, rfl, e2.1⟩⟩
      · by_cases k2' : kd v = 2
        · -- a symbol
          have hsb : 0 ≤ wt v ∧ wt v < 100 := by unfold ok prim at hv; omega
          have hidx := idx_of (m := m) hv hn (by omega)
          have hxv : xw v = v := xw_same (by omega)
          have hro : (qw_rowOf (xw v)).toInt = ((ix v : Nat) : Int) := by rw [hxv, qw_rowOf_wt (by omega) (by omega)]; unfold ix; omega
          have hix : ix v < 100 := by unfold ix; omega
          have hgi : Int32.toNatClampNeg (qm_indexOf m v) = ix v := by rw [i_clamp, hidx]; rfl
          have hS100 := nodup100 hnd hb
          have hX : qt_isParameterTree_L13 N (k2 + 1) t y3 y4 = if (if ix v ∈ S then (1 : Int32) else 0) = 0 then qt_isParameterTree_L13 N k2 (qt_find (qt_takeTree t).2 (qw_rowOf (xw v)) 3) y3 (y4 + 1) else some (0, (qt_takeTree t).2) := by
            rw [qt_isParameterTree_L13_s, if_neg hY1, if_neg hY2, e1, hw, if_pos (by rw [xk2 hv hn]; omega), e2.has (by omega) hN hro, hSS, ob_]
          have hM : qm_isTree_L33 N (k + 1) m x3 x4 = if (if ix v ∈ S then (1 : Int32) else 0) = 0 then qm_isTree_L33 N k (qm_t_isSeen m (qm_indexOf m v) 1) (x3 - 1) x4 else some (0, m) := by
            rw [qm_isTree_L33_s, if_neg hX0, if_pos hXi, hg, if_neg (mt mk4.mp k4), if_pos (mk2.mpr k2'), if_pos (inb_of (by omega) (by omega)), hgi, hsn _ hix, if_pos (inb_of (by omega) (by omega))]
          rw [hM, hX]
          by_cases hmem : ix v ∈ S
          · rw [if_pos hmem, if_neg (by decide), if_neg (by decide)]
            exact ⟨m, _, SS, same.refl m, Or.inl ⟨rfl, rfl, e2.1⟩⟩
          · rw [if_neg hmem, if_pos rfl, if_pos rfl]
            have hnd2 : (S ++ [ix v]).Nodup := by
              rw [List.nodup_append]
              exact ⟨hnd, by simp, fun a ha b hb2 e => hmem (by rw [List.mem_singleton] at hb2; rw [← hb2, ← e]; exact ha)⟩
            have hb2 : ∀ s ∈ S ++ [ix v], s < 100 := fun s hs => by
              rcases List.mem_append.mp hs with hs | hs
              · exact hb s hs
              · rw [List.mem_singleton.mp hs]; exact hix
            have hl2 := nodup100 hnd2 hb2
            simp only [List.length_append, List.length_cons, List.length_nil] at hl2
            have hsn2 : seen (qm_t_isSeen m (qm_indexOf m v) 1) (S ++ [ix v]) := fun s hs => by
              rw [(mg2 _ _ _).2, hidx, show (wt v).toNat = ix v from rfl]
              by_cases hsv : s = ix v
              · rw [if_pos hsv, if_pos (by rw [hsv]; exact List.mem_append_right _ List.mem_cons_self), bz1]
              · rw [if_neg hsv, hsn s hs]
                by_cases hsS : s ∈ S
                · rw [if_pos hsS, if_pos (List.mem_append_left _ hsS)]
                · rw [if_neg hsS, if_neg (fun h => (List.mem_append.mp h).elim hsS (fun h => hsv (List.mem_singleton.mp h)))]
            have := ih P p (c + 1) (S ++ [ix v]) PP (SS ++ [(ix v, 3)]) _ (qm_t_isSeen m (qm_indexOf m v) 1) (x3 - 1) x4 y3 (y4 + 1) k k2 (H.sm (same_sn _ _ _)) (e2.find (by omega) hro 3) hPP (by rw [List.map_append, hSS]; rfl) hM2 hok' hsn2 hnd2 hb2 (by omega) (by omega) hp hx3' hx4 hy3 hy41 (by omega) (by omega) (by omega)
            obtain ⟨m', t', SS', g1, g2⟩ := this
            refine ⟨m', t', SS', g1.trans (same_sn _ _ _), ?_⟩
            rcases g2 with g2 | ⟨g2, g3, g4, pp, ll, g5, g6⟩
            · exact Or.inl g2
            · rw [List.append_assoc] at g6
              exact Or.inr ⟨g2, g3, g4, pp, [ix v] ++ ll, forest_leaf (Or.inl ⟨k2', rfl, rfl⟩) g5, g6⟩
        · -- nil or inert: or no tree
          have hgo : kd v = 3 ∨ kd v = 8 → ∃ m' t' SS', same m' m ∧ ((qm_isTree_L33 N k m (x3 - 1) x4 = some (0, m') ∧ qt_isParameterTree_L13 N k2 (qt_takeTree t).2 y3 (y4 + 1) = some (0, t') ∧ qt_gH t' = h) ∨ (qm_isTree_L33 N k m (x3 - 1) x4 = some (1, m') ∧ qt_isParameterTree_L13 N k2 (qt_takeTree t).2 y3 (y4 + 1) = some (1, t') ∧ TM h t' [] SS' ∧ ∃ pp ll, forest (qm_g_first m) (qm_g_second m) (v :: P) pp ll ∧ p + pp ≤ 100 ∧ SS'.map (fun q => q.1) = S ++ ll ∧ (S ++ ll).Nodup ∧ (∀ s ∈ S ++ ll, s < 100) ∧ seen m' (S ++ ll))) := fun hk8 => by
            have := ih P p (c + 1) S PP SS _ m (x3 - 1) x4 y3 (y4 + 1) k k2 H e2 hPP hSS hM2 hok' hsn hnd hb (by omega) (by omega) hp hx3' hx4 hy3 hy41 (by omega) (by omega) (by omega)
            obtain ⟨m', t', SS', g1, g2⟩ := this
            refine ⟨m', t', SS', g1, ?_⟩
            rcases g2 with g2 | ⟨g2, g3, g4, pp, ll, g5, g6⟩
            · exact Or.inl g2
            · exact Or.inr ⟨g2, g3, g4, pp, ll, forest_leaf (l0 := []) (Or.inr (Or.inl ⟨hk8, rfl, rfl⟩)) g5, g6⟩
          have hM0 : qm_isTree_L33 N (k + 1) m x3 x4 = if kd v = 3 ∨ kd v = 8 then qm_isTree_L33 N k m (x3 - 1) x4 else some (0, m) := by
            rw [qm_isTree_L33_s, if_neg hX0, if_pos hXi, hg, if_neg (mt mk4.mp k4), if_neg (mt mk2.mp k2')]
            by_cases h3 : kd v = 3
            · rw [if_pos (mk3.mpr h3), if_pos (Or.inl h3)]
            · rw [if_neg (mt mk3.mp h3)]
              by_cases h8 : kd v = 8
              · rw [if_pos (mk8.mpr h8), if_pos (Or.inr h8)]
              · rw [if_neg (mt mk8.mp h8), if_neg (by omega)]
          have hX0' : qt_isParameterTree_L13 N (k2 + 1) t y3 y4 = if kd v = 3 ∨ kd v = 8 then qt_isParameterTree_L13 N k2 (qt_takeTree t).2 y3 (y4 + 1) else some (0, (qt_takeTree t).2) := by
            rw [qt_isParameterTree_L13_s, if_neg hY1, if_neg hY2, e1, hw, if_neg (mt (xk2 hv hn).mp k2')]
            by_cases h3 : kd v = 3
            · rw [if_pos ((xk3 hv hn).mpr h3), if_pos (Or.inl h3)]
            · rw [if_neg (mt (xk3 hv hn).mp h3), if_neg (mt (xk4 hv hn).mp k4)]
              by_cases h5 : kd v = 5
              · rw [if_pos ((xk5 hv hn).mpr h5), if_neg (by omega)]
              · rw [if_neg (mt (xk5 hv hn).mp h5)]
                by_cases h6 : kd v = 6
                · rw [if_pos ((xk6 hv hn).mpr h6), if_neg (by omega)]
                · rw [if_neg (mt (xk6 hv hn).mp h6)]
                  by_cases h7 : kd v = 7
                  · rw [if_pos ((xk7 hv hn).mpr h7), if_neg (by omega)]
                  · rw [if_neg (mt (xk7 hv hn).mp h7)]
                    by_cases h8 : kd v = 8
                    · rw [if_pos ((xk8 hv hn).mpr h8), if_pos (Or.inr h8)]
                    · rw [if_neg (mt (xk8 hv hn).mp h8), if_neg (by omega)]
          rw [hM0, hX0']
          by_cases h38 : kd v = 3 ∨ kd v = 8
          · rw [if_pos h38, if_pos h38]; exact hgo h38
          · rw [if_neg h38, if_neg h38]
            exact ⟨m, _, SS, same.refl m, Or.inl ⟨rfl, rfl, e2.1⟩⟩
end
theorem clear_aux (N : Nat) {n : Nat} (tr : Int64) : ∀ (d k c : Nat) (m : qm_S) (x3 : Int32), c + d = 100 → d < k → x3.toInt = c → (∀ s, s < c → qm_g_isSeen m s = 0) →
    ∃ m', same m' m ∧ (∀ s, s < 100 → qm_g_isSeen m' s = 0) ∧ qm_isTree_L2 N k m tr x3 = qm_isTree_L33 N N (qm_t_treeLeft m' 0 tr) 1 0 := by
  intro d
  induction d with
  | zero =>
    intro k c m x3 hc hk hx hs
    obtain ⟨k, rfl⟩ : ∃ j, k = j + 1 := ⟨k - 1, by omega⟩
    exact ⟨m, same.refl m, fun s h => hs s (by omega), by rw [qm_isTree_L2_s, if_pos (by ((try simp only [Int32.lt_iff_toInt_lt, Int32.le_iff_toInt_le, Int64.lt_iff_toInt_lt, Int64.le_iff_toInt_le, ← Int32.toInt_inj, ← Int64.toInt_inj, Int32.reduceToInt, Int64.reduceToInt] at *); omega))]⟩
  | succ d ih =>
    intro k c m x3 hc hk hx hs
    obtain ⟨k, rfl⟩ : ∃ j, k = j + 1 := ⟨k - 1, by omega⟩
    have hx1 : (x3 + 1).toInt = ((c + 1 : Nat) : Int) := by rw [i_add] <;> simp only [Int32.reduceToInt] <;> omega
    obtain ⟨m', h1, h2, h3⟩ := ih k (c + 1) (qm_t_isSeen m x3 0) (x3 + 1) (by omega) (by omega) hx1 (fun s hs2 => by
      rw [(mg2 _ _ _).2, hx, toNat_cast]
      by_cases h : s = c
      · rw [if_pos h]; exact bz0
      · rw [if_neg h]; exact hs s (by omega))
    exact ⟨m', h1.trans (same_sn _ _ _), h2, by rw [qm_isTree_L2_s, if_neg (by ((try simp only [Int32.lt_iff_toInt_lt, Int32.le_iff_toInt_le, Int64.lt_iff_toInt_lt, Int64.le_iff_toInt_le, ← Int32.toInt_inj, ← Int64.toInt_inj, Int32.reduceToInt, Int64.reduceToInt] at *); omega)), if_pos (inb_of (by omega) (by omega)), h3]⟩
section
variable {n : Nat} {K : Nat → Nat} {h : qh_S} {m : qm_S}
/-- both sides judge a parameter tree alike -/
theorem HR.isTree (H : HR n K h m) {N : Nat} (hN : 5000 ≤ N) {v : Int64} (hv : ok n K v) {t : qt_S} (ht : qt_gH t = h) :
    ∃ m' t', same m' m ∧ qt_gH t' = h ∧
      ((qm_isTree N m v = some (0, m') ∧ qt_isParameterTree N t (xw v) = some (0, t')) ∨
       (qm_isTree N m v = some (1, m') ∧ qt_isParameterTree N t (xw v) = some (1, t') ∧ ∃ SS S, TM h t' [] SS ∧ SS.map (fun q => q.1) = S ∧ S.Nodup ∧ (∀ s ∈ S, s < 100) ∧ seen m' S ∧ ∃ d p, tr (qm_g_first m) (qm_g_second m) d v p S ∧ p ≤ 100)) := by
  obtain ⟨m1, a1, a2, a3⟩ := clear_aux N (n := n) v 100 N 0 m 0 (by omega) (by omega) (by decide) (fun s hs => absurd hs (Nat.not_lt_zero _))
  have T0 := TM.start (h := h) ht (xw v) 3
  have hsm : same (qm_t_treeLeft m1 0 v) m := (same_tl _ _ _).trans a1
  have hf : qm_g_first (qm_t_treeLeft m1 0 v) = qm_g_first m ∧ qm_g_second (qm_t_treeLeft m1 0 v) = qm_g_second m := ⟨(mh_all hsm.1).1, (mh_all hsm.1).2.1⟩
  have hstk : stk (qm_g_treeLeft (qm_t_treeLeft m1 0 v)) [v] := by rw [(mg1 _ _ _).1]; exact stk_push rfl trivial
  have hsn : seen (qm_t_treeLeft m1 0 v) [] := fun s hs => by rw [(mg1 _ _ _).2, a2 s hs]; rfl
  have := HR.tree_aux N hN 300 [v] 0 0 [] _ [] _ (qm_t_treeLeft m1 0 v) 1 0 0 0 N N (H.sm hsm) T0 rfl rfl hstk (fun u hu => by rw [List.mem_singleton.mp hu]; exact hv) hsn List.nodup_nil (fun s hs => by cases hs) rfl (Nat.le_refl _) (by omega) (by show (1 : Int32).toInt = 1; decide) (by decide) (by decide) (by decide) (by simp only [List.length_cons, List.length_nil]; omega) (by omega) (by omega)
  rw [hf.1, hf.2] at this
  obtain ⟨m', t', SS', g1, g2⟩ := this
  have eM : qm_isTree N m v = qm_isTree_L33 N N (qm_t_treeLeft m1 0 v) 1 0 := a3
  have eX : qt_isParameterTree N t (xw v) = qt_isParameterTree_L13 N N (qt_start t (xw v) 3) 0 0 := rfl
  rw [eM, eX]
  rcases g2 with ⟨g2, g3, g4⟩ | ⟨g2, g3, g4, pp, ll, g5, g6, g7, g8, g9, g10⟩
  · exact ⟨m', t', g1.trans hsm, g4, Or.inl ⟨g2, g3⟩⟩
  · refine ⟨m', t', g1.trans hsm, g4.1, Or.inr ⟨g2, g3, SS', [] ++ ll, g4, g7, g8, g9, g10, ?_⟩⟩
    obtain ⟨d, p1, l1, p2, l2, t1, ⟨t2, t3⟩, t4, t5⟩ := g5
    subst t2 t3 t4 t5
    rw [List.append_nil, List.nil_append]
    exact ⟨d, _, t1, by omega⟩
end
