/-! ===== counting bindings ===== -/
def cn (c : Int) : List Int → Nat
  | [] => 0
  | a :: S => (if a < c then 1 else 0) + cn c S
theorem cn_step (c : Int) : ∀ S : List Int, S.Nodup → cn (c + 1) S = cn c S + (if c ∈ S then 1 else 0)
  | [], _ => by rw [if_neg (fun h => by cases h)]; rfl
  | a :: S, h => by
    obtain ⟨h1, h2⟩ := List.nodup_cons.mp h
    have ih := cn_step c S h2
    show (if a < c + 1 then 1 else 0) + cn (c + 1) S = ((if a < c then 1 else 0) + cn c S) + (if c ∈ a :: S then 1 else 0)
    rw [ih]
    by_cases e : c = a
    · rw [← e] at h1 ⊢
      rw [if_neg h1, if_pos (List.mem_cons_self ..), if_pos (by omega), if_neg (by omega)]
      omega
    · have e1 : (if a < c + 1 then 1 else 0 : Nat) = (if a < c then 1 else 0) := by
        by_cases ha : a < c
        · rw [if_pos ha, if_pos (by omega)]
        · rw [if_neg ha, if_neg (by omega)]
      rw [e1]
      generalize (if a < c then 1 else 0 : Nat) = d
      by_cases hm : c ∈ S
      · have hm2 : c ∈ a :: S := List.mem_cons_of_mem _ hm
        simp only [if_pos hm, if_pos hm2]
        omega
      · have hm2 : ¬ c ∈ a :: S := fun h => by
          rcases List.mem_cons.mp h with h | h
          · exact e h
          · exact hm h
        simp only [if_neg hm, if_neg hm2]
        omega
theorem cn_0 : ∀ S : List Int, (∀ a ∈ S, 0 ≤ a) → cn 0 S = 0
  | [], _ => rfl
  | a :: S, h => by
    show (if a < 0 then 1 else 0) + cn 0 S = 0
    have := h a (List.mem_cons_self ..)
    rw [if_neg (by omega), cn_0 S (fun b hb => h b (List.mem_cons_of_mem _ hb))]
theorem cn_all (c : Int) : ∀ S : List Int, (∀ a ∈ S, a < c) → cn c S = S.length
  | [], _ => rfl
  | a :: S, h => by
    show (if a < c then 1 else 0) + cn c S = S.length + 1
    rw [if_pos (h a (List.mem_cons_self ..)), cn_all c S (fun b hb => h b (List.mem_cons_of_mem _ hb))]
    omega
theorem cn_le (c : Int) : ∀ S : List Int, cn c S ≤ S.length
  | [] => Nat.le_refl _
  | a :: S => by
    show (if a < c then 1 else 0) + cn c S ≤ S.length + 1
    have := cn_le c S
    split <;> omega
section
variable {n b : Nat} {K : Nat → Nat} {h : qh_S} {m : qm_S} {v e : Int64} {N : Nat}
theorem HR.cb_aux (H : HR n K h m) (N : Nat) : ∀ (L : List Nat) (b k c : Nat) (j x : Int) (x2 x3 : Int32), hch K (qm_g_nextOf m) b j L → lnk x j → x3.toInt = x → b ≤ n → L.length < k → x2.toInt = c → c + L.length ≤ 4000 → qh_countBindings_L8 N k h x2 x3 = some (nI (c + L.length))
  | [], b, k, c, j, x, x2, x3, hL, hx, hx3, hb, hk, hx2, hc => by
    obtain ⟨k, rfl⟩ : ∃ i, k = i + 1 := ⟨k - 1, by omega⟩
    have hj : j = -1 := hL
    have hxx : x = -1 := by rcases hx with h | h <;> omega
    have e2 : x3 = -1 := by apply i_ext; rw [hx3, hxx]; decide
    rw [qh_countBindings_L8_s, if_pos e2]
    have : x2 = nI c := i_ext (by rw [hx2, nI_toInt (by omega)])
    rw [this]; rfl
  | i :: L, b, k, c, j, x, x2, x3, ⟨h1, h2, h3, h4⟩, hx, hx3, hb, hk, hx2, hc => by
    obtain ⟨k, rfl⟩ : ∃ i, k = i + 1 := ⟨k - 1, by omega⟩
    have hn := H.hn
    simp only [List.length_cons] at hk hc
    obtain ⟨o1, o2, o3, y, o4, o5⟩ := (H.hob (i := i) (by omega)).2.2.2.2 h3
    have hxx : x = i + 100 := by rcases hx with h | h <;> omega
    have hS : qh_secondAt h x3 = qh_g_second h (100 + i) := secondAt_of (by omega) (by omega)
    have hy : y = -1 ∨ (0 ≤ y ∧ y < 4100) := by
      cases L with
      | nil => have : (qm_g_nextOf m i).toInt = -1 := h4; rcases o5 with h | h <;> omega
      | cons i2 L2 => obtain ⟨q1, q2, -⟩ := h4; rcases o5 with h | h <;> omega
    have nI' := nextIn o4 (by omega) (by omega) (by omega) (by omega)
    have hx1 : (x2 + 1).toInt = ((c + 1 : Nat) : Int) := by rw [i_add] <;> simp only [Int32.reduceToInt] <;> omega
    rw [qh_countBindings_L8_s, if_neg (show ¬ x3 = -1 from fun e => by rw [e] at hx3; simp only [Int32.reduceToInt] at hx3; omega), if_neg (show ¬ (4100 : Int32) ≤ x2 by ((try simp only [Int32.lt_iff_toInt_lt, Int32.le_iff_toInt_le, Int64.lt_iff_toInt_lt, Int64.le_iff_toInt_le, ← Int32.toInt_inj, ← Int64.toInt_inj, Int32.reduceToInt, Int64.reduceToInt] at *); omega)), hS, H.cb_aux N L i k (c + 1) _ y (x2 + 1) _ h4 o5 nI' (by omega) (by omega) hx1 (by omega)]
    simp only [List.length_cons]
    congr 2
    omega
theorem HR.gcb_aux (N : Nat) : ∀ (L : List (Nat × Nat)) (b k c : Nat) (x : Int) (x2 x3 : Int32), gch (qh_g_second h) b x L → x3.toInt = x → b ≤ 4100 → L.length < k → x2.toInt = c → c + L.length ≤ 4099 → qh_countBindings_L8 N k h x2 x3 = some (nI (c + L.length))
  | [], b, k, c, x, x2, x3, hL, hx3, hb, hk, hx2, hc => by
    obtain ⟨k, rfl⟩ : ∃ i, k = i + 1 := ⟨k - 1, by omega⟩
    have hxx : x = -1 := hL
    have e2 : x3 = -1 := by apply i_ext; rw [hx3, hxx]; decide
    rw [qh_countBindings_L8_s, if_pos e2]
    have : x2 = nI c := i_ext (by rw [hx2, nI_toInt (by omega)])
    rw [this]; rfl
  | (r, t) :: L, b, k, c, x, x2, x3, ⟨h1, h2, h3, h4, y, h5, h6⟩, hx3, hb, hk, hx2, hc => by
    obtain ⟨k, rfl⟩ : ∃ i, k = i + 1 := ⟨k - 1, by omega⟩
    simp only [List.length_cons] at hk hc
    have hS : qh_secondAt h x3 = qh_g_second h r := secondAt_of (by omega) (by omega)
    have hy : y = -1 ∨ (0 ≤ y ∧ y < 4100) := by
      cases L with
      | nil => exact Or.inl h6
      | cons q L2 => obtain ⟨q1, q2⟩ := q; obtain ⟨g1, g2, -⟩ := h6; omega
    have nI' := nextIn h5 (by omega) (by omega) (by omega) (by omega)
    have hx1 : (x2 + 1).toInt = ((c + 1 : Nat) : Int) := by rw [i_add] <;> simp only [Int32.reduceToInt] <;> omega
    rw [qh_countBindings_L8_s, if_neg (show ¬ x3 = -1 from fun e => by rw [e] at hx3; simp only [Int32.reduceToInt] at hx3; omega), if_neg (show ¬ (4100 : Int32) ≤ x2 by ((try simp only [Int32.lt_iff_toInt_lt, Int32.le_iff_toInt_le, Int64.lt_iff_toInt_lt, Int64.le_iff_toInt_le, ← Int32.toInt_inj, ← Int64.toInt_inj, Int32.reduceToInt, Int64.reduceToInt] at *); omega)), hS, HR.gcb_aux N L r k (c + 1) y (x2 + 1) _ h6 nI' (by omega) (by omega) hx1 (by omega)]
    simp only [List.length_cons]
    congr 2
    omega
/-- the symbols that an environment binds itself -/
theorem HR.syms (H : HR n K h m) (hN : 5000 ≤ N) (he : ok n K e) (hk : kd e = 7) {x : Int32} (hx : x.toInt = row (wt e)) :
    ∃ S : List Int, S.Nodup ∧ (∀ a ∈ S, 0 ≤ a ∧ a < 100) ∧ S.length ≤ 4000 ∧ qh_countBindings N h x = some (nI S.length) ∧ ∀ m', mh m' = mh m → ∀ s : Int32, 0 ≤ s.toInt ∧ s.toInt < 100 → ∃ a v, qm_findsOwn N m' e s = some ((if s.toInt ∈ S then 1 else 0), fnd m' a v) := by
  have hn := H.hn
  have h1 := env_b he hk
  have hxb : x.toInt = ((row (wt e)).toNat : Int) := by rw [hx]; unfold row; split <;> omega
  have hrb : (row (wt e)).toNat < 4100 := by unfold row; split <;> omega
  have hlat : (qh_latestBindingOf h x) = Int64.toInt32 (qh_g_second h (row (wt e)).toNat) := by
    unfold qh_latestBindingOf; rw [secondAt_of hxb hrb]
  have hX : qh_countBindings N h x = qh_countBindings_L8 N N h 0 (qh_latestBindingOf h x) := rfl
  by_cases hg : wt e = -1
  · obtain ⟨g1, g2, g3, g4, g5, L, g6, g7, g8, g9'⟩ := H.hgr
    have hr0 : (row (wt e)).toNat = 0 := by rw [hg]; rfl
    have hlen := gch_len L _ _ g6 (by omega)
    have hS0 : (qh_latestBindingOf h x).toInt = (qh_g_second h 0).toInt := by
      have : (qh_g_second h 0).toInt = -1 ∨ (0 ≤ (qh_g_second h 0).toInt ∧ (qh_g_second h 0).toInt < 4100) := by
        cases L with
        | nil => exact Or.inl g6
        | cons q L2 => obtain ⟨q1, q2⟩ := q; obtain ⟨z1, z2, -⟩ := g6; omega
      rw [hlat, hr0, l_toI (by omega) (by omega)]
    have hL100 : L.length ≤ 100 := by
      have := nodup100 g7 (fun t ht => by obtain ⟨q, hq, rfl⟩ := List.mem_map.mp ht; exact (gch_mem L _ _ g6 q hq).2.2)
      rw [List.length_map] at this
      exact this
    refine ⟨L.map (fun q => (q.2 : Int)), ?_, ?_, by rw [List.length_map]; omega, ?_, ?_⟩
    · refine List.pairwise_map.mpr ((List.pairwise_map.mp g7).imp ?_)
      intro a b hab e1
      exact hab (by omega)
    · intro a ha
      obtain ⟨q, hq, rfl⟩ := List.mem_map.mp ha
      have := (gch_mem L _ _ g6 q hq).2.2
      omega
    · rw [hX, List.length_map, HR.gcb_aux N L _ N 0 _ 0 _ g6 hS0 (by omega) (by omega) (by decide) (by omega), Nat.zero_add]
    · intro m' em s hs
      obtain ⟨-, -, -, -, -, -, -, e8, e9, -⟩ := mh_all em
      have hI := g5 s.toInt.toNat (by omega)
      refine ⟨qm_g_foundAt m', qm_g_groundValue m s.toInt.toNat, ?_⟩
      have hM : qm_findsOwn N m' e s = some (qm_g_isGround m s.toInt.toNat, fnd m' (qm_g_foundAt m') (qm_g_groundValue m s.toInt.toNat)) := by
        unfold qm_findsOwn
        rw [if_pos ((g9 hk).mpr hg), if_pos (inb_of (by omega) (by omega)), if_pos (inb_of (by omega) (by omega)), i_clamp, e8, e9, bz01 hI.1]
        rfl
      rw [hM]
      have h8 := g8 s.toInt.toNat (by omega)
      by_cases hm : s.toInt ∈ L.map (fun q => (q.2 : Int))
      · obtain ⟨q, hq, hq2⟩ := List.mem_map.mp hm
        rw [if_pos hm, h8.mpr (List.mem_map.mpr ⟨q, hq, by omega⟩)]
      · have h0 : qm_g_isGround m s.toInt.toNat = 0 := by
          rcases hI.1 with h | h
          · exact h
          · refine absurd ?_ hm
            obtain ⟨q, hq, hq2⟩ := List.mem_map.mp (h8.mp h)
            exact List.mem_map.mpr ⟨q, hq, by omega⟩
        rw [if_neg hm, h0]
  · have hne : ¬ e = -9 := mt (g9 hk).mp hg
    obtain ⟨q1, L, q2, q3⟩ := H.heh he hk hg
    have hlen := hch_len L _ _ q2
    have hjb : (qm_g_headOf m (wt e + 2).toNat).toInt = -1 ∨ (0 ≤ (qm_g_headOf m (wt e + 2).toNat).toInt ∧ (qm_g_headOf m (wt e + 2).toNat).toInt < 4000) := by
      cases L with
      | nil => exact Or.inl q2
      | cons i L2 => obtain ⟨z1, z2, -⟩ := q2; omega
    have hl2 : (qh_latestBindingOf h x).toInt = (qh_g_second h (row (wt e)).toNat).toInt := by
      rw [hlat, l_toI] <;> rcases q1 with h | h <;> omega
    refine ⟨L.map (fun i => (qm_g_symbolOf m i).toInt), q3, ?_, by rw [List.length_map]; omega, ?_, ?_⟩
    · intro a ha
      obtain ⟨i, hi, rfl⟩ := List.mem_map.mp ha
      have h3 := hch_mem L _ _ q2 i hi
      have h4 := ((H.hob (i := i) h3.1).2.2.2.2 h3.2).2.2.1
      omega
    · rw [hX, List.length_map, H.cb_aux N L n N 0 _ _ 0 _ q2 q1 hl2 (Nat.le_refl _) (by omega) (by decide) (by omega), Nat.zero_add]
    · intro m' em s hs
      have H' : HR n K h m' := H.of em
      obtain ⟨-, -, -, -, e5, e6, e7, -⟩ := mh_all em
      have hidx := idx_of (m := m') he hn (by omega)
      have hidx2 : (qm_indexOf m' e + 2).toInt = wt e + 2 := by rw [i_add] <;> simp only [Int32.reduceToInt] <;> omega
      have hM : qm_findsOwn N m' e s = qm_findsOwn_L41 N N (qm_s_foundAt m' (qm_g_headOf m' (wt e + 2).toNat)) s := by
        unfold qm_findsOwn
        rw [if_neg hne, if_pos (inb_of (by omega) (by omega)), i_clamp, hidx2]
      rw [hM]
      have q2' : hch K (qm_g_nextOf m') n (qm_g_headOf m' (wt e + 2).toNat).toInt L := by rw [e6, e7]; exact q2
      have q1' : lnk (qh_g_second h (row (wt e)).toNat).toInt (qm_g_headOf m' (wt e + 2).toNat).toInt := by rw [e7]; exact q1
      rcases H'.own_aux N hs L n N 0 _ _ _ _ 0 q2' q1' rfl hl2 (Nat.le_refl _) (by omega) (by decide) (by omega) with ⟨i, f1, f2, ia, r, f3, f4, f5, f6⟩ | ⟨f1, f2, f3⟩
      · have hi := hch_mem L _ _ q2 i f1
        rw [e5] at f2
        refine ⟨ia, qm_g_first m' i, ?_⟩
        rw [f5, B77_pos N f3 (by omega), if_pos (List.mem_map.mpr ⟨i, f1, f2⟩)]
      · rw [e5] at f1
        refine ⟨-1, 0, ?_⟩
        rw [f2, B77_neg, if_neg (fun hm => by obtain ⟨i, hi, hi2⟩ := List.mem_map.mp hm; exact f1 i hi hi2)]
/-- the reference counts them -/
theorem bc_aux (N : Nat) {m0 : qm_S} {S : List Int} (hS : S.Nodup) (hl : S.length ≤ 4000) (hf : ∀ m', mh m' = mh m0 → ∀ s : Int32, 0 ≤ s.toInt ∧ s.toInt < 100 → ∃ a v, qm_findsOwn N m' e s = some ((if s.toInt ∈ S then 1 else 0), fnd m' a v)) :
    ∀ (d c k : Nat) (m : qm_S) (x5 x6 : Int32), c + d = 100 → d < k → mh m = mh m0 → mo m = mo m0 → x6.toInt = c → x5.toInt = cn c S → ∃ m', qm_bindingCount_L36 N k m e x5 x6 = some (nI (cn 100 S), m') ∧ mh m' = mh m0 ∧ mo m' = mo m0 := by
  intro d
  induction d with
  | zero =>
    intro c k m x5 x6 hc hk e1 e2 h6 h5
    obtain ⟨k, rfl⟩ : ∃ i, k = i + 1 := ⟨k - 1, by omega⟩
    have hle := cn_le c S
    have hc2 : c = 100 := by omega
    subst hc2
    have : x5 = nI (cn ((100 : Nat) : Int) S) := i_ext (by rw [h5, nI_toInt (by omega)])
    rw [qm_bindingCount_L36_s, if_pos (show (100 : Int32) ≤ x6 by ((try simp only [Int32.lt_iff_toInt_lt, Int32.le_iff_toInt_le, Int64.lt_iff_toInt_lt, Int64.le_iff_toInt_le, ← Int32.toInt_inj, ← Int64.toInt_inj, Int32.reduceToInt, Int64.reduceToInt] at *); omega)), this]
    exact ⟨m, rfl, e1, e2⟩
  | succ d ih =>
    intro c k m x5 x6 hc hk e1 e2 h6 h5
    obtain ⟨k, rfl⟩ : ∃ i, k = i + 1 := ⟨k - 1, by omega⟩
    have hle := cn_le c S
    obtain ⟨a, v, f1⟩ := hf m e1 x6 (by omega)
    have hx6 : (x6 + 1).toInt = ((c + 1 : Nat) : Int) := by rw [i_add] <;> simp only [Int32.reduceToInt] <;> omega
    have hst := cn_step c S hS
    rw [qm_bindingCount_L36_s, if_neg (show ¬ (100 : Int32) ≤ x6 by ((try simp only [Int32.lt_iff_toInt_lt, Int32.le_iff_toInt_le, Int64.lt_iff_toInt_lt, Int64.le_iff_toInt_le, ← Int32.toInt_inj, ← Int64.toInt_inj, Int32.reduceToInt, Int64.reduceToInt] at *); omega)), f1, ob_]
    rw [h6]
    by_cases hm : (c : Int) ∈ S
    · rw [if_pos hm] at hst ⊢
      rw [if_neg (show ¬ ((1 : Int32), fnd m a v).1 = 0 from by show ¬ (1 : Int32) = 0; decide)]
      exact ih (c + 1) k (fnd m a v) (x5 + 1) (x6 + 1) (by omega) (by omega) e1 e2 hx6 (by rw [i_add] <;> simp only [Int32.reduceToInt] <;> (push_cast; omega))
    · rw [if_neg hm] at hst ⊢
      rw [if_pos (show ((0 : Int32), fnd m a v).1 = 0 from rfl)]
      exact ih (c + 1) k (fnd m a v) (x5 + 0) (x6 + 1) (by omega) (by omega) e1 e2 hx6 (by rw [i_add] <;> simp only [Int32.reduceToInt] <;> (push_cast; omega))
end
section
variable {s n : Nat} {K : Nat → Nat} {x : qx_S} {m : qm_S} {N : Nat}
theorem XR.bindingCount (X : XR s n K x m) (hN : 5000 ≤ N) (a : Int32) : ∃ v, qx_bindingCount N x a = some v ∧ GO (v, x) (qm_bindingCount N m a) := by
  have hn := X.1.hn
  unfold qx_bindingCount qm_bindingCount qx_kindError
  rcases X.bar a with ⟨h1, h2, -⟩ | ⟨h1, h2, -⟩ | ⟨d, hd, ha, h1, h2⟩
  · rw [h1, h2, if_neg (show ¬ (-1 : Int32) = 0 by decide), if_neg (show ¬ (-1 : Int32) = 0 by decide), if_neg (show ¬ (0 : Int32) ≤ -1 by decide)]
    exact ⟨_, rfl, X.err _⟩
  · rw [h1, h2, if_neg (show ¬ (-2 : Int32) = 0 by decide), if_neg (show ¬ (-2 : Int32) = 0 by decide), if_neg (show ¬ (0 : Int32) ≤ -2 by decide)]
    exact ⟨_, rfl, X.err _⟩
  · obtain ⟨w, w1, w2, w3⟩ := X.at ha hd
    rw [h1, h2, if_pos (show (0 : Int32) ≤ 0 by decide), if_pos (show (0 : Int32) = 0 from rfl), w1, w2, ob_]
    by_cases k7 : kd w = 7
    · obtain ⟨S, s1, s2, s3, s4, s5⟩ := X.1.syms hN w3 k7 (xw_row w3 hn (by omega) (by omega))
      obtain ⟨m', b1, b2, b3⟩ := bc_aux (e := w) N (m0 := m) s1 s3 s5 100 0 N m 0 0 (by omega) (by omega) rfl rfl (by decide) (by rw [show ((0 : Nat) : Int) = 0 from rfl, cn_0 S (fun a ha => (s2 a ha).1)]; decide)
      rw [if_pos (mk7.mpr k7), if_pos ((xk7 w3 hn).mpr k7), if_pos rfl, s4, ob_, b1, cn_all 100 S (fun a ha => (s2 a ha).2)]
      exact ⟨_, rfl, m', s, n, K, rfl, X.same b2 (mxo_of b3)⟩
    · rw [if_neg (mt mk7.mp k7), if_neg (mt (xk7 w3 hn).mp k7), if_neg (show ¬ (-4 : Int32) = 0 by decide)]
      exact ⟨_, rfl, X.err _⟩
end
