/-! ===== new objects ===== -/
def updK (K : Nat → Nat) (n k : Nat) : Nat → Nat := fun j => if j = n then k else K j
theorem updK_n {K : Nat → Nat} {n k : Nat} : updK K n k n = k := if_pos rfl
theorem updK_lt {K : Nat → Nat} {n k : Nat} : ∀ j, j < n → updK K n k j = K j := fun j h => if_neg (by omega)
/-- what stays of a heap that grows -/
def Ext (n : Nat) (K : Nat → Nat) (m : qm_S) (n' : Nat) (K' : Nat → Nat) (m' : qm_S) : Prop :=
  n ≤ n' ∧ (∀ i, i < n → K' i = K i) ∧ (∀ i, i < n → K i ≠ 9 → K i ≠ 10 → qm_g_first m' i = qm_g_first m i ∧ qm_g_second m' i = qm_g_second m i)
theorem Ext.refl {n : Nat} {K : Nat → Nat} {m m' : qm_S} (e : mh m = mh m') : Ext n K m n K m' := by
  obtain ⟨e1, e2, -⟩ := mh_all e
  exact ⟨Nat.le_refl _, fun _ _ => rfl, fun _ _ _ _ => ⟨by rw [e1], by rw [e2]⟩⟩
theorem Ext.trans {n n1 n2 : Nat} {K K1 K2 : Nat → Nat} {m m1 m2 : qm_S} (h1 : Ext n K m n1 K1 m1) (h2 : Ext n1 K1 m1 n2 K2 m2) : Ext n K m n2 K2 m2 := by
  obtain ⟨a1, a2, a3⟩ := h1
  obtain ⟨b1, b2, b3⟩ := h2
  refine ⟨by omega, fun i hi => (b2 i (by omega)).trans (a2 i hi), fun i hi h9 h10 => ?_⟩
  have := a2 i hi
  have q1 := a3 i hi h9 h10
  have q2 := b3 i (by omega) (by omega) (by omega)
  exact ⟨q2.1.trans q1.1, q2.2.trans q1.2⟩
theorem Ext.ok {n n' : Nat} {K K' : Nat → Nat} {m m' : qm_S} {v : Int64} (E : Ext n K m n' K' m') (h : ok n K v) : ok n' K' v := ok_mono h E.1 E.2.1
section
variable {n n' b : Nat} {K K' : Nat → Nat} {h h' : qh_S} {m m' : qm_S} {v e : Int64}
theorem HR.lst_ext (H : HR n K h m) (E : Ext n K m n' K' m') : ∀ (L : List Int64) (b : Nat) (v : Int64), ok b K v → b ≤ n → lst (qm_g_first m) (qm_g_second m) L v → lst (qm_g_first m') (qm_g_second m') L v
  | [], _, _, _, _, hv => hv
  | a :: L, b, v, hv, hb, ⟨h1, h2, h3⟩ => by
    obtain ⟨-, -, -, -, e1, e2, e3⟩ := H.pair hv hb h1
    have h4 := ok_pair hv h1
    have e4 := E.2.2 (ix v) (by omega) (by omega) (by omega)
    exact ⟨h1, by rw [e4.1]; exact h2, by rw [e4.2]; exact H.lst_ext E L (ix v) _ e2 (by omega) h3⟩
theorem HR.tr_ext (H : HR n K h m) (E : Ext n K m n' K' m') : ∀ (d b : Nat) (v : Int64) (p : Nat) (l : List Nat), ok b K v → b ≤ n → tr (qm_g_first m) (qm_g_second m) d v p l → tr (qm_g_first m') (qm_g_second m') d v p l
  | 0, _, _, _, _, _, _, hv => hv
  | d + 1, b, v, p, l, hv, hb, ht => by
    rcases ht with ht | ht | ⟨h1, p1, l1, p2, l2, t1, t2, t3⟩
    · exact Or.inl ht
    · exact Or.inr (Or.inl ht)
    · obtain ⟨-, -, -, -, e1, e2, e3⟩ := H.pair hv hb h1
      have h4 := ok_pair hv h1
      have e4 := E.2.2 (ix v) (by omega) (by omega) (by omega)
      exact Or.inr (Or.inr ⟨h1, p1, l1, p2, l2, by rw [e4.1]; exact H.tr_ext E d (ix v) _ _ _ e1 (by omega) t1, by rw [e4.2]; exact H.tr_ext E d (ix v) _ _ _ e2 (by omega) t2, t3⟩)
theorem HR.trok_ext (H : HR n K h m) (E : Ext n K m n' K' m') (hv : ok b K v) (hb : b ≤ n) {q : Int64} (ht : trok (qm_g_first m) (qm_g_second m) v q) : trok (qm_g_first m') (qm_g_second m') v q := by
  obtain ⟨d, p, l, h1, h2⟩ := ht
  exact ⟨d, p, l, H.tr_ext E d b v p l hv hb h1, h2⟩
theorem HR.undr_ext (H : HR n K h m) (E : Ext n K m n' K' m') (hv : ok n K v) (hk : kd v = 6) : undr m' v = undr m v := by
  unfold undr
  split
  · rfl
  · have h1 := ok_obj hv (by omega) (by omega) (by omega)
    exact (E.2.2 (ix v) (by omega) (by omega) (by omega)).1
theorem hch_ext {nx nx' : Nat → Int32} (hK : ∀ i, i < n → K' i = K i) (hx : ∀ i, i < n → nx' i = nx i) : ∀ (L : List Nat) (b b' : Nat) (j : Int), b ≤ n → b ≤ b' → hch K nx b j L → hch K' nx' b' j L
  | [], _, _, _, _, _, h => h
  | i :: L, b, b', j, hb, hbb, ⟨h1, h2, h3, h4⟩ => ⟨h1, by omega, by rw [hK i (by omega)]; exact h3, by rw [hx i (by omega)]; exact hch_ext hK hx L i i _ (by omega) (Nat.le_refl _) h4⟩
theorem eh_ext {x j : Int} (he : eh n K m x j) (hn : n ≤ n') (hK : ∀ i, i < n → K' i = K i) (h1 : ∀ i, i < n → qm_g_nextOf m' i = qm_g_nextOf m i) (h2 : ∀ i, i < n → qm_g_symbolOf m' i = qm_g_symbolOf m i) : eh n' K' m' x j := by
  obtain ⟨e1, L, e2, e3⟩ := he
  refine ⟨e1, L, hch_ext hK h1 L n n' j (Nat.le_refl _) hn e2, ?_⟩
  have : L.map (fun i => (qm_g_symbolOf m' i).toInt) = L.map (fun i => (qm_g_symbolOf m i).toInt) := List.map_congr_left (fun i hi => by rw [h2 i (hch_mem L n j e2 i hi).1])
  rw [this]; exact e3
theorem gch_ext {S S' : Nat → Int64} : ∀ (L : List (Nat × Nat)) (b b' : Nat) (x : Int), b ≤ b' → (∀ r, 50 ≤ r → r < b → (∃ q ∈ L, q.1 = r) → S' r = S r) → gch S b x L → gch S' b' x L
  | [], _, _, _, _, _, h => h
  | (r, s) :: L, b, b', x, hb, hS, ⟨h1, h2, h3, h4, y, h5, h6⟩ => ⟨h1, by omega, h3, h4, y, by rw [hS r h3 h2 ⟨_, List.mem_cons_self, rfl⟩]; exact h5, gch_ext L r r y (Nat.le_refl _) (fun r2 a1 a2 ⟨q, a3, a4⟩ => hS r2 a1 (by omega) ⟨q, List.mem_cons_of_mem _ a3, a4⟩) h6⟩
theorem gch_mem {S : Nat → Int64} : ∀ (L : List (Nat × Nat)) (b : Nat) (x : Int), gch S b x L → ∀ q ∈ L, 50 ≤ q.1 ∧ q.1 < b ∧ q.2 < 100
  | [], _, _, _, q, h => by cases h
  | (r, s) :: L, b, x, ⟨h1, h2, h3, h4, y, h5, h6⟩, q, hq => by
    rcases List.mem_cons.mp hq with rfl | hq
    · exact ⟨h3, h2, h4⟩
    · have := gch_mem L r y h6 q hq
      exact ⟨this.1, by omega, this.2.2⟩
theorem ob_mono {i : Nat} (O : ob n K h m i) (hi : i < n) (hn : n ≤ n') (hK : ∀ j, j < n → K' j = K j)
    (hF : K i ≠ 9 → qh_g_first h' (100 + i) = qh_g_first h (100 + i)) (hS : K i ≠ 7 → qh_g_second h' (100 + i) = qh_g_second h (100 + i))
    (m1 : K i ≠ 9 → qm_g_first m' i = qm_g_first m i) (m2 : qm_g_second m' i = qm_g_second m i) (m3 : qm_g_third m' i = qm_g_third m i) (m4 : qm_g_fourth m' i = qm_g_fourth m i) (m5 : qm_g_symbolOf m' i = qm_g_symbolOf m i) (m6 : qm_g_nextOf m' i = qm_g_nextOf m i)
    (h9 : K i = 9 → qh_g_first h' (100 + i) = xw (qm_g_first m' i) ∧ ok n' K' (qm_g_first m' i))
    (htr : K i = 5 → trok (qm_g_first m) (qm_g_second m) (qm_g_first m i) (qm_g_second m i) → trok (qm_g_first m') (qm_g_second m') (qm_g_first m i) (qm_g_second m i))
    (he : K i = 7 → eh n' K' m' (qh_g_second h' (100 + i)).toInt (qm_g_headOf m' (i + 2)).toInt) : ob n' K' h' m' i := by
  have hKi : K' i = K i := hK i hi
  have om : ∀ v, ok i K v → ok i K' v := fun v hv => ok_mono hv (Nat.le_refl _) (fun j hj => hK j (by omega))
  obtain ⟨o4, o5, o6, o7, o9⟩ := O
  unfold ob
  rw [hKi]
  refine ⟨fun hk => ?_, fun hk => ?_, fun hk => ?_, fun hk => ?_, fun hk => ?_⟩
  · obtain ⟨a1, a2, a3, a4⟩ := o4 hk
    rw [hF (by omega), hS (by omega), m1 (by omega), m2]
    exact ⟨a1, a2, om _ a3, om _ a4⟩
  · obtain ⟨⟨a1, a2⟩, ⟨a3, a4⟩, ⟨a5, a6⟩, ⟨a7, a8⟩, a9⟩ := o5 hk
    rw [hF (by omega), hS (by omega), m1 (by omega), m2, m3, m4]
    exact ⟨⟨a1, om _ a2⟩, ⟨om _ a3, htr hk a4⟩, ⟨om _ a5, a6⟩, ⟨om _ a7, a8⟩, a9⟩
  · obtain ⟨a1, a2, a3⟩ := o6 hk
    rw [hF (by omega), m1 (by omega)]
    exact ⟨a1, om _ a2, a3⟩
  · obtain ⟨a1, a2⟩ := o7 hk
    refine ⟨?_, he hk⟩
    rw [hF (by omega), m1 (by omega)]
    rcases a1 with a1 | ⟨a1, a3⟩
    · exact Or.inl a1
    · exact Or.inr ⟨om _ a1, a3⟩
  · obtain ⟨a1, a2, a3, x, a4, a5⟩ := o9 hk
    rw [hS (by omega), m5, m6]
    exact ⟨(h9 hk).1, (h9 hk).2, a3, x, a4, a5⟩
/-- the ground, where nothing of it changes -/
theorem gr_mono (G : gr n K h m) (hn : n ≤ n') (hn2 : n ≤ 4000) (hK : ∀ j, j < n → K' j = K j) (hF : ∀ r, r < n + 100 → (100 ≤ r → K (r - 100) = 10) → qh_g_first h' r = qh_g_first h r) (hS : ∀ r, r < n + 100 → r ≠ 1 → (100 ≤ r → K (r - 100) = 10) → qh_g_second h' r = qh_g_second h r)
    (g1 : qm_g_isGround m' = qm_g_isGround m) (g2 : qm_g_groundValue m' = qm_g_groundValue m) (hu : eh n' K' m' (qh_g_second h' 1).toInt (qm_g_headOf m' 0).toInt) : gr n' K' h' m' := by
  obtain ⟨a1, a2, a3, a4, a5, L, a6, a7, a8, a9⟩ := G
  unfold gr
  rw [g1, g2, hF 0 (by omega) (by omega), hF 1 (by omega) (by omega), hS 0 (by omega) (by omega) (by omega)]
  refine ⟨a1, a2, hu, fun p h1 h2 => ?_, fun s hs => ⟨(a5 s hs).1, fun hg => ok_mono ((a5 s hs).2 hg) hn hK⟩, L, ?_, a7, a8, fun q hq => ?_⟩
  · rw [hF p (by omega) (by omega)]; exact a4 p h1 h2
  · refine gch_ext L (n + 100) (n' + 100) _ (by omega) (fun r h1 h2 ⟨q, h3, h4⟩ => ?_) a6
    refine hS r h2 (by omega) (fun h5 => ?_)
    rcases (a9 q h3).2 with h6 | h6
    · omega
    · rw [← h4]; exact h6
  · have hm := gch_mem L _ _ a6 q hq
    refine ⟨?_, ?_⟩
    · rw [hF q.1 hm.2.1 (fun h5 => ?_)]
      · exact (a9 q hq).1
      · rcases (a9 q hq).2 with h6 | h6
        · omega
        · exact h6
    · rcases (a9 q hq).2 with h6 | h6
      · exact Or.inl h6
      · by_cases h7 : q.1 < 100
        · exact Or.inl h7
        · exact Or.inr (by rw [hK _ (by omega)]; exact h6)
/-- a new object of the kinds 4 to 7 -/
theorem HR.new (H : HR n K h m) {k : Nat} (hk : 4 ≤ k ∧ k ≤ 7) (hlt : n < 4000) (x1 : ∀ r, r ≠ n + 100 → qh_g_first h' r = qh_g_first h r) (x2 : ∀ r, r ≠ n + 100 → qh_g_second h' r = qh_g_second h r) (x3 : (qh_g_nextRow h').toInt = n + 101)
    (m1 : ∀ i, i ≠ n → qm_g_first m' i = qm_g_first m i) (m2 : ∀ i, i ≠ n → qm_g_second m' i = qm_g_second m i) (m3 : ∀ i, i ≠ n → qm_g_third m' i = qm_g_third m i) (m4 : ∀ i, i ≠ n → qm_g_fourth m' i = qm_g_fourth m i) (m5 : qm_g_symbolOf m' = qm_g_symbolOf m) (m6 : qm_g_nextOf m' = qm_g_nextOf m) (m7 : ∀ i, i ≠ n + 2 → qm_g_headOf m' i = qm_g_headOf m i) (m8 : qm_g_isGround m' = qm_g_isGround m) (m9 : qm_g_groundValue m' = qm_g_groundValue m) (m0 : (qm_g_objects m').toInt = n + 1)
    (hob : ∀ E : Ext n K m (n + 1) (updK K n k) m', ob (n + 1) (updK K n k) h' m' n) : HR (n + 1) (updK K n k) h' m' ∧ Ext n K m (n + 1) (updK K n k) m' := by
  have E : Ext n K m (n + 1) (updK K n k) m' := ⟨by omega, updK_lt, fun i hi _ _ => ⟨m1 i (by omega), m2 i (by omega)⟩⟩
  refine ⟨⟨⟨by omega, by omega, by omega⟩, fun i hi => ?_, ?_⟩, E⟩
  · by_cases h1 : i = n
    · subst h1; exact hob E
    · have hi : i < n := by omega
      have O := H.hob hi
      refine ob_mono O hi (by omega) updK_lt (fun _ => x1 _ (by omega)) (fun _ => x2 _ (by omega)) (fun _ => m1 i h1) (m2 i h1) (m3 i h1) (m4 i h1) (by rw [m5]) (by rw [m6]) (fun h9 => ?_) (fun h5 ht => ?_) (fun h7 => ?_)
      · rw [x1 _ (by omega), m1 i h1]
        obtain ⟨a1, a2, -⟩ := O.2.2.2.2 h9
        exact ⟨a1, ok_mono a2 (by omega) updK_lt⟩
      · exact H.trok_ext E (O.2.1 h5).2.1.1 (by omega) ht
      · rw [x2 _ (by omega), m7 _ (by omega)]
        exact eh_ext (O.2.2.2.1 h7).2 (by omega) updK_lt (fun _ _ => by rw [m6]) (fun _ _ => by rw [m5])
  · refine gr_mono H.hgr (by omega) H.hn updK_lt (fun r hr _ => x1 r (by omega)) (fun r hr _ _ => x2 r (by omega)) m8 m9 ?_
    rw [x2 1 (by omega), m7 0 (by omega)]
    exact eh_ext H.hgr.2.2.1 (by omega) updK_lt (fun _ _ => by rw [m6]) (fun _ _ => by rw [m5])
end
