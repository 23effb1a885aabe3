/-! ===== looking symbols up ===== -/
def fnd (m : qm_S) (a : Int32) (v : Int64) : qm_S := qm_s_found (qm_s_foundAt m a) v
theorem fnd_mh (m : qm_S) (a : Int32) (v : Int64) : mh (fnd m a v) = mh m := rfl
theorem hch_len {K : Nat → Nat} {nx : Nat → Int32} : ∀ (L : List Nat) (b : Nat) (j : Int), hch K nx b j L → L.length ≤ b
  | [], b, j, _ => Nat.zero_le _
  | i :: L, b, j, ⟨_, h2, _, h4⟩ => by
    have := hch_len L i _ h4
    simp only [List.length_cons]; omega
theorem hch_mem {K : Nat → Nat} {nx : Nat → Int32} : ∀ (L : List Nat) (b : Nat) (j : Int), hch K nx b j L → ∀ i ∈ L, i < b ∧ K i = 9
  | [], b, j, _, i, h => by cases h
  | i :: L, b, j, ⟨_, h2, h3, h4⟩, x, hx => by
    rcases List.mem_cons.mp hx with rfl | hx
    · exact ⟨h2, h3⟩
    · have := hch_mem L i _ h4 x hx
      exact ⟨by omega, this.2⟩
theorem gch_len {S : Nat → Int64} : ∀ (L : List (Nat × Nat)) (b : Nat) (x : Int), gch S b x L → 50 ≤ b → L.length + 50 ≤ b
  | [], b, x, _, h => by simpa using h
  | (r, s) :: L, b, x, ⟨_, h2, h3, _, y, _, h5⟩, h => by
    have := gch_len L r y h5 h3
    simp only [List.length_cons]; omega
theorem symIn {v : Int64} {y s : Int} (h : v.toInt = y * 128 + s) (h1 : 0 ≤ s) (h2 : s < 128) : (qh_symbolIn v).toInt = s := by
  have e := l_and v (m := 127) 7 (by decide) (by decide)
  have e2 : (v &&& 127).toInt = s := by rw [e, h]; omega
  unfold qh_symbolIn
  rw [l_toI (by omega) (by omega), e2]
theorem nextIn {v : Int64} {y s : Int} (h : v.toInt = y * 128 + s) (h1 : 0 ≤ s) (h2 : s < 128) (h3 : -2147483648 ≤ y) (h4 : y < 2147483648) : (qh_nextIn v).toInt = y := by
  have e : (v >>> 7 : Int64).toInt = v.toInt / 2 ^ 7 := l_shr v 7 7 (by decide)
  have e2 : (v >>> 7 : Int64).toInt = y := by rw [e, h]; omega
  unfold qh_nextIn
  rw [l_toI (by omega) (by omega), e2]
section
variable {n b : Nat} {K : Nat → Nat} {h : qh_S} {m : qm_S} {v : Int64}
theorem HR.own_aux (H : HR n K h m) (N : Nat) {s : Int32} (hs : 0 ≤ s.toInt ∧ s.toInt < 100) : ∀ (L : List Nat) (b k c : Nat) (j x : Int) (ja x3 x4 : Int32), hch K (qm_g_nextOf m) b j L → lnk x j → ja.toInt = j → x3.toInt = x → b ≤ n → L.length < k → x4.toInt = c → c + L.length ≤ 4000 →
    (∃ i : Nat, i ∈ L ∧ (qm_g_symbolOf m i).toInt = s.toInt ∧ ∃ ia r : Int32, ia.toInt = i ∧ r.toInt = ((100 + i : Nat) : Int) ∧ qm_findsOwn_L41 N k (qm_s_foundAt m ja) s = qm_findsOwn_B77 N (qm_s_foundAt m ia) ∧ qh_ownBinding_L9 N k h s x3 x4 = some r) ∨
    ((∀ i ∈ L, (qm_g_symbolOf m i).toInt ≠ s.toInt) ∧ qm_findsOwn_L41 N k (qm_s_foundAt m ja) s = qm_findsOwn_B77 N (qm_s_foundAt m (-1)) ∧ qh_ownBinding_L9 N k h s x3 x4 = some (-1))
  | [], b, k, c, j, x, ja, x3, x4, hL, hx, hja, hx3, hb, hk, hx4, hc => by
    obtain ⟨k, rfl⟩ : ∃ i, k = i + 1 := ⟨k - 1, by omega⟩
    have hj : j = -1 := hL
    have hxx : x = -1 := by rcases hx with h | h <;> omega
    have e1 : ja = -1 := by apply i_ext; rw [hja, hj]; decide
    have e2 : x3 = -1 := by apply i_ext; rw [hx3, hxx]; decide
    subst e1 e2
    refine Or.inr ⟨fun i hi => by (cases hi), ?_, ?_⟩
    · rw [qm_findsOwn_L41_s, if_pos (show qm_g_foundAt (qm_s_foundAt m (-1)) < 0 by show (-1 : Int32) < 0; decide)]
    · rw [qh_ownBinding_L9_s, if_pos rfl]
  | i :: L, b, k, c, j, x, ja, x3, x4, ⟨h1, h2, h3, h4⟩, hx, hja, hx3, hb, hk, hx4, hc => by
    obtain ⟨k, rfl⟩ : ∃ i, k = i + 1 := ⟨k - 1, by omega⟩
    have hn := H.hn
    obtain ⟨o1, o2, o3, y, o4, o5⟩ := (H.hob (i := i) (by omega)).2.2.2.2 h3
    have hxx : x = i + 100 := by rcases hx with h | h <;> omega
    have hS : qh_secondAt h x3 = qh_g_second h (100 + i) := secondAt_of (by omega) (by omega)
    have hy : y = -1 ∨ (0 ≤ y ∧ y < 4100) := by
      cases L with
      | nil => have : (qm_g_nextOf m i).toInt = -1 := h4; rcases o5 with h | h <;> omega
      | cons i2 L2 => obtain ⟨q1, q2, -⟩ := h4; rcases o5 with h | h <;> omega
    have sI := symIn o4 (by omega) (by omega)
    have nI' := nextIn o4 (by omega) (by omega) (by omega) (by omega)
    have hfa : qm_g_foundAt (qm_s_foundAt m ja) = ja := rfl
    have hidx : Int32.toNatClampNeg ja = i := by rw [i_clamp, hja, h1]; rfl
    have hsym : qm_g_symbolOf (qm_s_foundAt m ja) (Int32.toNatClampNeg ja) = qm_g_symbolOf m i := by rw [hidx]; rfl
    by_cases hq : (qm_g_symbolOf m i).toInt = s.toInt
    · rw [qm_findsOwn_L41_s, hfa, if_neg (by ((try simp only [Int32.lt_iff_toInt_lt, Int32.le_iff_toInt_le, Int64.lt_iff_toInt_lt, Int64.le_iff_toInt_le, ← Int32.toInt_inj, ← Int64.toInt_inj, Int32.reduceToInt, Int64.reduceToInt] at *); omega)), if_pos (inb_of (by omega) (by omega)), hsym, if_pos (i_ext hq)]
      rw [qh_ownBinding_L9_s, if_neg (by ((try simp only [Int32.lt_iff_toInt_lt, Int32.le_iff_toInt_le, Int64.lt_iff_toInt_lt, Int64.le_iff_toInt_le, ← Int32.toInt_inj, ← Int64.toInt_inj, Int32.reduceToInt, Int64.reduceToInt] at *); omega)), if_neg (by ((try simp only [Int32.lt_iff_toInt_lt, Int32.le_iff_toInt_le, Int64.lt_iff_toInt_lt, Int64.le_iff_toInt_le, ← Int32.toInt_inj, ← Int64.toInt_inj, Int32.reduceToInt, Int64.reduceToInt] at *); omega)), hS, if_pos (i_ext (by rw [sI, hq]))]
      exact Or.inl ⟨i, List.mem_cons_self, hq, ja, x3, by omega, by omega, rfl, rfl⟩
    · have hq1 : ¬ qm_g_symbolOf m i = s := fun e => hq (by rw [e])
      have hq2 : ¬ qh_symbolIn (qh_g_second h (100 + i)) = s := fun e => hq (by rw [← e, sI])
      rw [qm_findsOwn_L41_s, hfa, if_neg (by ((try simp only [Int32.lt_iff_toInt_lt, Int32.le_iff_toInt_le, Int64.lt_iff_toInt_lt, Int64.le_iff_toInt_le, ← Int32.toInt_inj, ← Int64.toInt_inj, Int32.reduceToInt, Int64.reduceToInt] at *); omega)), if_pos (inb_of (by omega) (by omega)), hsym, if_neg hq1, if_pos (inb_of (by omega) (by omega)), hidx]
      rw [qh_ownBinding_L9_s, if_neg (by ((try simp only [Int32.lt_iff_toInt_lt, Int32.le_iff_toInt_le, Int64.lt_iff_toInt_lt, Int64.le_iff_toInt_le, ← Int32.toInt_inj, ← Int64.toInt_inj, Int32.reduceToInt, Int64.reduceToInt] at *); omega)), if_neg (by ((try simp only [Int32.lt_iff_toInt_lt, Int32.le_iff_toInt_le, Int64.lt_iff_toInt_lt, Int64.le_iff_toInt_le, ← Int32.toInt_inj, ← Int64.toInt_inj, Int32.reduceToInt, Int64.reduceToInt] at *); omega)), hS, if_neg hq2]
      have hx1 : (x4 + 1).toInt = ((c + 1 : Nat) : Int) := by rw [i_add] <;> simp only [Int32.reduceToInt] <;> omega
      have ih := H.own_aux N hs L i k (c + 1) _ y (qm_g_nextOf m i) (qh_nextIn (qh_g_second h (100 + i))) (x4 + 1) h4 o5 rfl nI' (by omega) (by simp only [List.length_cons] at hk; omega) hx1 (by simp only [List.length_cons] at hc; omega)
      have e : qm_findsOwn_L41 N k (qm_s_foundAt (qm_s_foundAt m ja) (qm_g_nextOf (qm_s_foundAt m ja) i)) s = qm_findsOwn_L41 N k (qm_s_foundAt m (qm_g_nextOf m i)) s := rfl
      rw [e]
      rcases ih with ⟨i2, f1, f2, f3⟩ | ⟨f1, f2, f3⟩
      · exact Or.inl ⟨i2, List.mem_cons_of_mem _ f1, f2, f3⟩
      · refine Or.inr ⟨fun i2 hi2 => ?_, f2, f3⟩
        rcases List.mem_cons.mp hi2 with rfl | hi2
        · exact hq
        · exact f1 i2 hi2
theorem HR.gown_aux (N : Nat) {s : Int32} {sn : Nat} (hs : s.toInt = sn) : ∀ (L : List (Nat × Nat)) (b k c : Nat) (x : Int) (x3 x4 : Int32), gch (qh_g_second h) b x L → x3.toInt = x → b ≤ 4100 → L.length < k → x4.toInt = c → c + L.length ≤ 4099 →
    (∃ r : Nat, (r, sn) ∈ L ∧ ∃ ra : Int32, ra.toInt = r ∧ r < 4100 ∧ qh_ownBinding_L9 N k h s x3 x4 = some ra) ∨ (sn ∉ L.map (fun q => q.2) ∧ qh_ownBinding_L9 N k h s x3 x4 = some (-1))
  | [], b, k, c, x, x3, x4, hL, hx3, hb, hk, hx4, hc => by
    obtain ⟨k, rfl⟩ : ∃ i, k = i + 1 := ⟨k - 1, by omega⟩
    have hxx : x = -1 := hL
    have e2 : x3 = -1 := by apply i_ext; rw [hx3, hxx]; decide
    subst e2
    refine Or.inr ⟨by simp, ?_⟩
    rw [qh_ownBinding_L9_s, if_pos rfl]
  | (r, t) :: L, b, k, c, x, x3, x4, ⟨h1, h2, h3, h4, y, h5, h6⟩, hx3, hb, hk, hx4, hc => by
    obtain ⟨k, rfl⟩ : ∃ i, k = i + 1 := ⟨k - 1, by omega⟩
    have hS : qh_secondAt h x3 = qh_g_second h r := secondAt_of (by omega) (by omega)
    have hy : y = -1 ∨ (0 ≤ y ∧ y < 4100) := by
      cases L with
      | nil => exact Or.inl h6
      | cons q L2 => obtain ⟨q1, q2⟩ := q; obtain ⟨g1, g2, -⟩ := h6; omega
    have sI := symIn h5 (by omega) (by omega)
    have nI' := nextIn h5 (by omega) (by omega) (by omega) (by omega)
    simp only [List.length_cons] at hk hc
    rw [qh_ownBinding_L9_s, if_neg (by ((try simp only [Int32.lt_iff_toInt_lt, Int32.le_iff_toInt_le, Int64.lt_iff_toInt_lt, Int64.le_iff_toInt_le, ← Int32.toInt_inj, ← Int64.toInt_inj, Int32.reduceToInt, Int64.reduceToInt] at *); omega)), if_neg (by ((try simp only [Int32.lt_iff_toInt_lt, Int32.le_iff_toInt_le, Int64.lt_iff_toInt_lt, Int64.le_iff_toInt_le, ← Int32.toInt_inj, ← Int64.toInt_inj, Int32.reduceToInt, Int64.reduceToInt] at *); omega)), hS]
    by_cases hq : t = sn
    · rw [if_pos (i_ext (by rw [sI, hs, hq]))]
      exact Or.inl ⟨r, by rw [hq]; exact List.mem_cons_self, x3, by omega, by omega, rfl⟩
    · rw [if_neg (fun e => hq (by have := congrArg Int32.toInt e; rw [sI, hs] at this; omega))]
      have hx1 : (x4 + 1).toInt = ((c + 1 : Nat) : Int) := by rw [i_add] <;> simp only [Int32.reduceToInt] <;> omega
      rcases HR.gown_aux N hs L r k (c + 1) y (qh_nextIn (qh_g_second h r)) (x4 + 1) h6 nI' (by omega) (by omega) hx1 (by omega) with ⟨r2, f1, f2⟩ | ⟨f1, f2⟩
      · exact Or.inl ⟨r2, List.mem_cons_of_mem _ f1, f2⟩
      · refine Or.inr ⟨?_, f2⟩
        rw [List.map_cons, List.mem_cons]
        rintro (e | e)
        · exact hq e.symm
        · exact f1 e
end
theorem g9 {e : Int64} (hk : kd e = 7) : e = -9 ↔ wt e = -1 := by
  constructor
  · rintro rfl; decide
  · intro h; exact kw_ext (by rw [hk]; decide) (by rw [h]; decide)
theorem u25 {e : Int64} (hk : kd e = 7) : e = -25 ↔ wt e = -2 := by
  constructor
  · rintro rfl; decide
  · intro h; exact kw_ext (by rw [hk]; decide) (by rw [h]; decide)
theorem bz01 {v : Int32} (h : v = 0 ∨ v = 1) : bz v = v := by rcases h with rfl | rfl <;> decide
section
variable {n b : Nat} {K : Nat → Nat} {h : qh_S} {m : qm_S} {v e : Int64}
theorem B77_pos (N : Nat) {ia : Int32} {i : Nat} (h1 : ia.toInt = i) (h2 : i < 4000) : qm_findsOwn_B77 N (qm_s_foundAt m ia) = some (1, fnd m ia (qm_g_first m i)) := by
  unfold qm_findsOwn_B77
  have hf : qm_g_foundAt (qm_s_foundAt m ia) = ia := rfl
  rw [hf, if_neg (by ((try simp only [Int32.lt_iff_toInt_lt, Int32.le_iff_toInt_le, Int64.lt_iff_toInt_lt, Int64.le_iff_toInt_le, ← Int32.toInt_inj, ← Int64.toInt_inj, Int32.reduceToInt, Int64.reduceToInt] at *); omega)), if_pos (inb_of (by omega) (by omega)), if_neg (by ((try simp only [Int32.lt_iff_toInt_lt, Int32.le_iff_toInt_le, Int64.lt_iff_toInt_lt, Int64.le_iff_toInt_le, ← Int32.toInt_inj, ← Int64.toInt_inj, Int32.reduceToInt, Int64.reduceToInt] at *); omega)), i_clamp, h1]
  rfl
theorem B77_neg (N : Nat) : qm_findsOwn_B77 N (qm_s_foundAt m (-1)) = some (0, fnd m (-1) 0) := by
  unfold qm_findsOwn_B77
  have hf : qm_g_foundAt (qm_s_foundAt m (-1)) = -1 := rfl
  rw [hf, if_pos (by decide), if_pos (by decide)]
  rfl
theorem env_b (he : ok b K e) (hk : kd e = 7) : -2 ≤ wt e ∧ wt e < b ∧ (0 ≤ wt e → ix e < b ∧ K (ix e) = 7 ∧ wt e = ix e) := by
  refine ⟨by unfold ok prim at he; omega, by unfold ok prim at he; omega, fun h3 => ?_⟩
  have := ok_obj he (by omega) (by omega) h3
  rw [hk] at this
  exact this
theorem HR.heh (H : HR n K h m) (he : ok n K e) (hk : kd e = 7) (hg : wt e ≠ -1) : eh n K m (qh_g_second h (row (wt e)).toNat).toInt (qm_g_headOf m (wt e + 2).toNat).toInt := by
  have h1 := env_b he hk
  by_cases h2 : wt e = -2
  · have := H.hgr.2.2.1
    rw [h2]
    exact this
  · obtain ⟨h3, h4, h5⟩ := h1.2.2 (by omega)
    have := ((H.hob (i := ix e) h3).2.2.2.1 h4).2
    have e1 : (row (wt e)).toNat = 100 + ix e := by unfold row; rw [if_neg (by omega)]; omega
    have e2 : (wt e + 2).toNat = ix e + 2 := by omega
    rw [e1, e2]
    exact this
theorem HR.own (H : HR n K h m) {N : Nat} (hN : 5000 ≤ N) (he : ok n K e) (hk : kd e = 7) {s x : Int32} (hs : 0 ≤ s.toInt ∧ s.toInt < 100) (hx : x.toInt = row (wt e)) :
    (∃ (a r : Int32) (v : Int64), qm_findsOwn N m e s = some (1, fnd m a v) ∧ qh_ownBinding N h x s = some r ∧ 0 ≤ r.toInt ∧ r.toInt < 4100 ∧ qh_firstAt h r = xw v ∧ ok n K v ∧
      ((e = -9 ∧ qm_g_isGround m s.toInt.toNat = 1 ∧ v = qm_g_groundValue m s.toInt.toNat ∧ ∀ (b : Nat) (L : List (Nat × Nat)), b ≤ 4100 → gch (qh_g_second h) b (qh_g_second h 0).toInt L → L.length ≤ 4000 → (r.toInt.toNat, s.toInt.toNat) ∈ L) ∨
       (e ≠ -9 ∧ 0 ≤ a.toInt ∧ a.toInt < n ∧ K a.toInt.toNat = 9 ∧ r.toInt = a.toInt + 100))) ∨
    (∃ (a : Int32) (v : Int64), qm_findsOwn N m e s = some (0, fnd m a v) ∧ qh_ownBinding N h x s = some (-1) ∧
      ((e = -9 ∧ qm_g_isGround m s.toInt.toNat = 0) ∨ (e ≠ -9 ∧ ∀ L, hch K (qm_g_nextOf m) n (qm_g_headOf m (wt e + 2).toNat).toInt L → ∀ i ∈ L, (qm_g_symbolOf m i).toInt ≠ s.toInt))) := by
  have hn := H.hn
  have h1 := env_b he hk
  have hxb : x.toInt = ((row (wt e)).toNat : Int) := by rw [hx]; unfold row; split <;> omega
  have hrb : (row (wt e)).toNat < 4100 := by unfold row; split <;> omega
  have hlat : (qh_latestBindingOf h x) = Int64.toInt32 (qh_g_second h (row (wt e)).toNat) := by
    unfold qh_latestBindingOf; rw [secondAt_of hxb hrb]
  by_cases hg : wt e = -1
  · obtain ⟨g1, g2, g3, g4, g5, L, g6, g7, g8, g9'⟩ := H.hgr
    have hr0 : (row (wt e)).toNat = 0 := by rw [hg]; rfl
    have hlen := gch_len L _ _ g6 (by omega)
    have hS0 : ∀ (b : Nat) (L : List (Nat × Nat)), b ≤ 4100 → gch (qh_g_second h) b (qh_g_second h 0).toInt L → (qh_latestBindingOf h x).toInt = (qh_g_second h 0).toInt := by
      intro b L hb hL
      have : (qh_g_second h 0).toInt = -1 ∨ (0 ≤ (qh_g_second h 0).toInt ∧ (qh_g_second h 0).toInt < 4100) := by
        cases L with
        | nil => exact Or.inl hL
        | cons q L2 => obtain ⟨q1, q2⟩ := q; obtain ⟨z1, z2, -⟩ := hL; omega
      rw [hlat, hr0, l_toI (by omega) (by omega)]
    have hI := g5 s.toInt.toNat (by omega)
    have hM : qm_findsOwn N m e s = some (qm_g_isGround m s.toInt.toNat, fnd m (qm_g_foundAt m) (qm_g_groundValue m s.toInt.toNat)) := by
      unfold qm_findsOwn
      rw [if_pos ((g9 hk).mpr hg), if_pos (inb_of (by omega) (by omega)), if_pos (inb_of (by omega) (by omega)), i_clamp, bz01 hI.1]
      rfl
    have hX : qh_ownBinding N h x s = qh_ownBinding_L9 N N h s (qh_latestBindingOf h x) 0 := rfl
    rcases HR.gown_aux N (h := h) (sn := s.toInt.toNat) (s := s) (by omega) L _ N 0 _ _ 0 g6 (hS0 _ L (by omega) g6) (by omega) (by omega) (by decide) (by omega) with ⟨r, f1, ra, f2, f3, f4⟩ | ⟨f1, f2⟩
    · have hg1 : qm_g_isGround m s.toInt.toNat = 1 := (g8 s.toInt.toNat (by omega)).mpr (List.mem_map.mpr ⟨_, f1, rfl⟩)
      refine Or.inl ⟨qm_g_foundAt m, ra, qm_g_groundValue m s.toInt.toNat, by rw [hM, hg1], by rw [hX, f4], by omega, by omega, ?_, hI.2 hg1, Or.inl ⟨(g9 hk).mpr hg, hg1, rfl, ?_⟩⟩
      · rw [firstAt_of f2 f3]; exact (g9' _ f1).1
      · intro b L2 hb hL2 hlen2
        rcases HR.gown_aux N (h := h) (sn := s.toInt.toNat) (s := s) (by omega) L2 b N 0 _ _ 0 hL2 (hS0 b L2 hb hL2) hb (by omega) (by decide) (by omega) with ⟨r2, q1, ra2, q2, q3, q4⟩ | ⟨q1, q2⟩
        · rw [f4] at q4
          have : ra = ra2 := Option.some.inj q4
          rw [this, q2]; exact q1
        · rw [f4] at q2
          have := congrArg Int32.toInt (Option.some.inj q2)
          simp only [Int32.reduceToInt] at this
          omega
    · have hg0 : qm_g_isGround m s.toInt.toNat = 0 := by
        rcases hI.1 with h | h
        · exact h
        · exact absurd ((g8 s.toInt.toNat (by omega)).mp h) f1
      exact Or.inr ⟨qm_g_foundAt m, qm_g_groundValue m s.toInt.toNat, by rw [hM, hg0], by rw [hX, f2], Or.inl ⟨(g9 hk).mpr hg, hg0⟩⟩
  · have hne : ¬ e = -9 := mt (g9 hk).mp hg
    obtain ⟨q1, L, q2, q3⟩ := H.heh he hk hg
    have hlen := hch_len L _ _ q2
    have hidx := idx_of (m := m) he hn (by omega)
    have hidx2 : (qm_indexOf m e + 2).toInt = wt e + 2 := by rw [i_add] <;> simp only [Int32.reduceToInt] <;> omega
    have hjb : (qm_g_headOf m (wt e + 2).toNat).toInt = -1 ∨ (0 ≤ (qm_g_headOf m (wt e + 2).toNat).toInt ∧ (qm_g_headOf m (wt e + 2).toNat).toInt < 4000) := by
      cases L with
      | nil => exact Or.inl q2
      | cons i L2 => obtain ⟨z1, z2, -⟩ := q2; omega
    have hM : qm_findsOwn N m e s = qm_findsOwn_L41 N N (qm_s_foundAt m (qm_g_headOf m (wt e + 2).toNat)) s := by
      unfold qm_findsOwn
      rw [if_neg hne, if_pos (inb_of (by omega) (by omega)), i_clamp, hidx2]
    have hl2 : (qh_latestBindingOf h x).toInt = (qh_g_second h (row (wt e)).toNat).toInt := by
      rw [hlat, l_toI] <;> rcases q1 with h | h <;> omega
    have hX : qh_ownBinding N h x s = qh_ownBinding_L9 N N h s (qh_latestBindingOf h x) 0 := rfl
    rcases H.own_aux N hs L n N 0 _ _ _ _ 0 q2 q1 rfl hl2 (Nat.le_refl _) (by omega) (by decide) (by omega) with ⟨i, f1, f2, ia, r, f3, f4, f5, f6⟩ | ⟨f1, f2, f3⟩
    · have hi := hch_mem L _ _ q2 i f1
      have ho := (H.hob (i := i) hi.1).2.2.2.2 hi.2
      refine Or.inl ⟨ia, r, qm_g_first m i, by rw [hM, f5, B77_pos N f3 (by omega)], by rw [hX, f6], by omega, by omega, ?_, ho.2.1, Or.inr ⟨hne, by omega, by omega, by rw [f3]; exact hi.2, by omega⟩⟩
      rw [firstAt_of f4 (by omega)]; exact ho.1
    · refine Or.inr ⟨-1, 0, by rw [hM, f2, B77_neg], by rw [hX, f3], Or.inr ⟨hne, fun L2 hL2 i hi => ?_⟩⟩
      have hlen2 := hch_len L2 _ _ hL2
      rcases H.own_aux N hs L2 n N 0 _ _ _ _ 0 hL2 q1 rfl hl2 (Nat.le_refl _) (by omega) (by decide) (by omega) with ⟨i2, z1, z2, ia, r, z3, z4, z5, z6⟩ | ⟨z1, z2, z3⟩
      · rw [f3] at z6
        have := congrArg Int32.toInt (Option.some.inj z6)
        simp only [Int32.reduceToInt] at this
        omega
      · exact z1 i hi
end
