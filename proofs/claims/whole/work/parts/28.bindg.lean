/-! ===== bindings of the ground, and bindings changed ===== -/
def gbnd (m : qm_S) (s : Int32) (v : Int64) (d : Int32) : qm_S := qm_s_objects (qm_t_groundValue (qm_t_isGround m s 1) s v) (qm_g_objects m + d)
theorem gbnd_1 (m : qm_S) (s : Int32) (v : Int64) (d : Int32) (i : Nat) : qm_g_isGround (gbnd m s v d) i = if i = s.toInt.toNat then bz 1 else qm_g_isGround m i := rfl
theorem gbnd_2 (m : qm_S) (s : Int32) (v : Int64) (d : Int32) (i : Nat) : qm_g_groundValue (gbnd m s v d) i = if i = s.toInt.toNat then v else qm_g_groundValue m i := rfl
theorem gbnd_3 (m : qm_S) (s : Int32) (v : Int64) (d : Int32) : qm_g_objects (gbnd m s v d) = qm_g_objects m + d := rfl
theorem gbnd_4 (m : qm_S) (s : Int32) (v : Int64) (d : Int32) : qm_g_first (gbnd m s v d) = qm_g_first m ∧ qm_g_second (gbnd m s v d) = qm_g_second m ∧ qm_g_third (gbnd m s v d) = qm_g_third m ∧ qm_g_fourth (gbnd m s v d) = qm_g_fourth m ∧ qm_g_symbolOf (gbnd m s v d) = qm_g_symbolOf m ∧ qm_g_nextOf (gbnd m s v d) = qm_g_nextOf m ∧ qm_g_headOf (gbnd m s v d) = qm_g_headOf m := ⟨rfl, rfl, rfl, rfl, rfl, rfl, rfl⟩
theorem bz1 : bz 1 = 1 := by decide
section
variable {n b : Nat} {K : Nat → Nat} {h : qh_S} {m : qm_S} {v e : Int64}
theorem HR.newGround (H : HR n K h m) (hn : n < 4000) (hv : ok n K v) {x s : Int32} {sn : Nat} (hs : s.toInt = sn ∧ sn < 100) (hx : x.toInt = 0) (habs : qm_g_isGround m sn = 0) :
    qh_addBinding h x s (xw v) = (1, hbnd h x (xw v) (qh_packLink s (qh_latestBindingOf h x))) ∧ HR (n + 1) (updK K n 10) (hbnd h x (xw v) (qh_packLink s (qh_latestBindingOf h x))) (gbnd m s v 1) ∧ Ext n K m (n + 1) (updK K n 10) (gbnd m s v 1) := by
  have ho := H.ho
  have hr := H.hr
  have hnn := H.hn
  have hxr : x.toInt = ((0 : Nat) : Int) := hx
  obtain ⟨g1, g2, g3, g4, g5, L, g6, g7, g8, g9'⟩ := H.hgr
  have hxb : (qh_g_second h 0).toInt = -1 ∨ (0 ≤ (qh_g_second h 0).toInt ∧ (qh_g_second h 0).toInt < n + 100) := by
    cases L with
    | nil => exact Or.inl g6
    | cons q L2 => obtain ⟨q1, q2⟩ := q; obtain ⟨z1, z2, -⟩ := g6; omega
  have hl2 : (qh_latestBindingOf h x).toInt = (qh_g_second h 0).toInt := by
    unfold qh_latestBindingOf
    rw [secondAt_of hxr (by omega), l_toI] <;> omega
  have hpk := packLink_int (s := s) (x := qh_latestBindingOf h x) (by omega) (by omega)
  refine ⟨H.addb_ok hn hxr (by omega) s (xw v), ?_⟩
  revert hpk
  generalize qh_packLink s (qh_latestBindingOf h x) = pk
  intro hpk
  have F := H.hbnd_f hn hxr (by omega) (xw v) pk
  have S := H.hbnd_s hn hxr (by omega) (xw v) pk
  have Fn : qh_g_first (hbnd h x (xw v) pk) (n + 100) = xw v := by rw [F, if_pos rfl]
  have Fo : ∀ q, q ≠ n + 100 → qh_g_first (hbnd h x (xw v) pk) q = qh_g_first h q := fun q hq => by rw [F, if_neg hq]
  have Sn : qh_g_second (hbnd h x (xw v) pk) (n + 100) = pk := by rw [S, if_neg (by omega), if_pos rfl]
  have So : ∀ q, q ≠ 0 → q ≠ n + 100 → qh_g_second (hbnd h x (xw v) pk) q = qh_g_second h q := fun q h1 h2 => by rw [S, if_neg h1, if_neg h2]
  have S0 : qh_g_second (hbnd h x (xw v) pk) 0 = Int32.toInt64 (qh_g_nextRow h) := by rw [S, if_pos rfl]
  have x3 : (qh_g_nextRow (hbnd h x (xw v) pk)).toInt = n + 101 := by unfold hbnd; rw [hg_n]; exact H.hadd_n hn (xw v) pk
  obtain ⟨m1, m2, m3, m4, m5, m6, m7⟩ := gbnd_4 m s v 1
  have m8 : qm_g_isGround (gbnd m s v 1) sn = 1 := by rw [gbnd_1, hs.1, toNat_cast, if_pos rfl, bz1]
  have m8o : ∀ i, i ≠ sn → qm_g_isGround (gbnd m s v 1) i = qm_g_isGround m i := fun i hi => by rw [gbnd_1, hs.1, toNat_cast, if_neg hi]
  have m9 : qm_g_groundValue (gbnd m s v 1) sn = v := by rw [gbnd_2, hs.1, toNat_cast, if_pos rfl]
  have m9o : ∀ i, i ≠ sn → qm_g_groundValue (gbnd m s v 1) i = qm_g_groundValue m i := fun i hi => by rw [gbnd_2, hs.1, toNat_cast, if_neg hi]
  have m0 : (qm_g_objects (gbnd m s v 1)).toInt = n + 1 := by rw [gbnd_3, i_add] <;> simp only [Int32.reduceToInt] <;> omega
  have E : Ext n K m (n + 1) (updK K n 10) (gbnd m s v 1) := ⟨by omega, updK_lt, fun i hi _ _ => ⟨by rw [m1], by rw [m2]⟩⟩
  have hsn : sn ∉ L.map (fun q => q.2) := fun hm => by rw [(g8 sn hs.2).mpr hm] at habs; exact absurd habs (by decide)
  refine ⟨⟨⟨by omega, by omega, by omega⟩, fun i hi => ?_, ?_⟩, E⟩
  · by_cases hin : i = n
    · rw [hin]
      refine ⟨fun h => absurd (updK_n.symm.trans h) (by decide), fun h => absurd (updK_n.symm.trans h) (by decide), fun h => absurd (updK_n.symm.trans h) (by decide), fun h => absurd (updK_n.symm.trans h) (by decide), fun h => absurd (updK_n.symm.trans h) (by decide)⟩
    · have hi : i < n := by omega
      have O := H.hob hi
      refine ob_mono O hi (by omega) updK_lt (fun _ => Fo _ (by omega)) (fun _ => So _ (by omega) (by omega)) (fun _ => by rw [m1]) (by rw [m2]) (by rw [m3]) (by rw [m4]) (by rw [m5]) (by rw [m6]) (fun h9 => ?_) (fun h5 ht => H.trok_ext E (O.2.1 h5).2.1.1 (by omega) ht) (fun h7 => ?_)
      · rw [Fo _ (by omega), m1]
        obtain ⟨a1, a2, -⟩ := O.2.2.2.2 h9
        exact ⟨a1, ok_mono a2 (by omega) updK_lt⟩
      · rw [So _ (by omega) (by omega), m7]
        exact eh_ext (O.2.2.2.1 h7).2 (by omega) updK_lt (fun k hk => by rw [m6]) (fun k hk => by rw [m5])
  · refine ⟨by rw [Fo 0 (by omega)]; exact g1, by rw [Fo 1 (by omega)]; exact g2, ?_, fun p h1 h2 => by rw [Fo p (by omega)]; exact g4 p h1 h2, fun t ht => ?_, (n + 100, sn) :: L, ?_, ?_, fun t ht => ?_, fun q hq => ?_⟩
    · rw [So 1 (by omega) (by omega), m7]
      exact eh_ext g3 (by omega) updK_lt (fun k hk => by rw [m6]) (fun k hk => by rw [m5])
    · by_cases hts : t = sn
      · rw [hts, m8, m9]
        exact ⟨Or.inr rfl, fun _ => ok_mono hv (by omega) updK_lt⟩
      · rw [m8o t hts, m9o t hts]
        exact ⟨(g5 t ht).1, fun hg => ok_mono ((g5 t ht).2 hg) (by omega) updK_lt⟩
    · rw [S0, i_toL]
      refine ⟨by omega, by omega, by omega, hs.2, (qh_g_second h 0).toInt, by rw [Sn, hpk, hl2, hs.1], ?_⟩
      exact gch_ext L (n + 100) (n + 100) _ (Nat.le_refl _) (fun r h1 h2 _ => So r (by omega) (by omega)) g6
    · rw [List.map_cons, List.nodup_cons]
      exact ⟨hsn, g7⟩
    · rw [List.map_cons, List.mem_cons]
      by_cases hts : t = sn
      · rw [hts, m8]; exact ⟨fun _ => Or.inl rfl, fun _ => rfl⟩
      · rw [m8o t hts, g8 t ht]
        exact ⟨Or.inr, fun h => h.elim (fun h => absurd h hts) id⟩
    · rcases List.mem_cons.mp hq with rfl | hq
      · exact ⟨by rw [Fn, m9], Or.inr (by rw [Nat.add_sub_cancel]; exact updK_n)⟩
      · have hm := gch_mem L _ _ g6 q hq
        have hq2 : q.2 ≠ sn := fun e => hsn (List.mem_map.mpr ⟨q, hq, e⟩)
        rw [Fo _ (by omega), m9o _ hq2]
        refine ⟨(g9' q hq).1, ?_⟩
        rcases (g9' q hq).2 with h6 | h6
        · exact Or.inl h6
        · by_cases h7 : q.1 < 100
          · exact Or.inl h7
          · exact Or.inr (by rw [updK_lt _ (by omega)]; exact h6)
/-- a binding's value changed -/
theorem HR.setBind (H : HR n K h m) (hv : ok n K v) {a r : Int32} {i : Nat} (ha : a.toInt = i) (hi : i < n) (hK : K i = 9) (hr : r.toInt = ((100 + i : Nat) : Int)) :
    HR n K (qh_write h r (xw v) (qh_secondAt h r)) (qm_t_first m a v) ∧ Ext n K m n K (qm_t_first m a v) := by
  have hnn := H.hn
  rw [write_ok hr (by omega), secondAt_of hr (by omega)]
  have F : ∀ q, q ≠ 100 + i → qh_g_first (qh_t_second (qh_t_first h r (xw v)) r (qh_g_second h (100 + i))) q = qh_g_first h q := fun q hq => by rw [hg_fs, hg_ff, hr, toNat_cast, if_neg hq]
  have Fi : qh_g_first (qh_t_second (qh_t_first h r (xw v)) r (qh_g_second h (100 + i))) (100 + i) = xw v := by rw [hg_fs, hg_ff, hr, toNat_cast, if_pos rfl]
  have S : ∀ q, qh_g_second (qh_t_second (qh_t_first h r (xw v)) r (qh_g_second h (100 + i))) q = qh_g_second h q := fun q => by
    rw [hg_ss, hr, toNat_cast, hg_sf]
    by_cases hq : q = 100 + i
    · rw [if_pos hq, hq]
    · rw [if_neg hq]
  have m1 : ∀ k, k ≠ i → qm_g_first (qm_t_first m a v) k = qm_g_first m k := fun k hk => by
    show (if k = a.toInt.toNat then v else _) = _
    rw [ha, toNat_cast, if_neg hk]
  have m1i : qm_g_first (qm_t_first m a v) i = v := by
    show (if i = a.toInt.toNat then v else _) = _
    rw [ha, toNat_cast, if_pos rfl]
  have mm : qm_g_second (qm_t_first m a v) = qm_g_second m ∧ qm_g_third (qm_t_first m a v) = qm_g_third m ∧ qm_g_fourth (qm_t_first m a v) = qm_g_fourth m ∧ qm_g_symbolOf (qm_t_first m a v) = qm_g_symbolOf m ∧ qm_g_nextOf (qm_t_first m a v) = qm_g_nextOf m ∧ qm_g_headOf (qm_t_first m a v) = qm_g_headOf m ∧ qm_g_isGround (qm_t_first m a v) = qm_g_isGround m ∧ qm_g_groundValue (qm_t_first m a v) = qm_g_groundValue m ∧ qm_g_objects (qm_t_first m a v) = qm_g_objects m := ⟨rfl, rfl, rfl, rfl, rfl, rfl, rfl, rfl, rfl⟩
  obtain ⟨m2, m3, m4, m5, m6, m7, m8, m9, m0⟩ := mm
  have E : Ext n K m n K (qm_t_first m a v) := ⟨Nat.le_refl _, fun _ _ => rfl, fun k hk h9 _ => ⟨m1 k (fun e => h9 (by rw [e]; exact hK)), by rw [m2]⟩⟩
  refine ⟨⟨⟨hnn, H.hr, by rw [m0]; exact H.ho⟩, fun k hk => ?_, ?_⟩, E⟩
  · have O := H.hob hk
    refine ob_mono O hk (Nat.le_refl _) (fun _ _ => rfl) (fun h9 => F _ (fun e => h9 (by rw [show k = i by omega]; exact hK))) (fun _ => S _) (fun h9 => m1 k (fun e => h9 (by rw [e]; exact hK))) (by rw [m2]) (by rw [m3]) (by rw [m4]) (by rw [m5]) (by rw [m6]) (fun h9 => ?_) (fun h5 ht => H.trok_ext E (O.2.1 h5).2.1.1 (by omega) ht) (fun h7 => ?_)
    · by_cases hki : k = i
      · rw [hki, Fi, m1i]; exact ⟨rfl, hv⟩
      · rw [F _ (by omega), m1 k hki]
        obtain ⟨a1, a2, -⟩ := O.2.2.2.2 h9
        exact ⟨a1, a2⟩
    · rw [S, m7]
      exact eh_ext (O.2.2.2.1 h7).2 (Nat.le_refl _) (fun _ _ => rfl) (fun _ _ => by rw [m6]) (fun _ _ => by rw [m5])
  · refine gr_mono H.hgr (Nat.le_refl _) hnn (fun _ _ => rfl) (fun q hq h10 => F q (fun e => ?_)) (fun q _ _ _ => S q) m8 m9 ?_
    · have := h10 (by omega)
      rw [show q - 100 = i by omega] at this; omega
    · rw [S, m7]
      exact eh_ext H.hgr.2.2.1 (Nat.le_refl _) (fun _ _ => rfl) (fun _ _ => by rw [m6]) (fun _ _ => by rw [m5])
/-- a binding of the ground changed -/
theorem HR.setGround (H : HR n K h m) (hv : ok n K v) {s r : Int32} {sn rn : Nat} (hs : s.toInt = sn ∧ sn < 100) (hr : r.toInt = rn) (hrb : rn < 4100)
    (hin : ∀ (b : Nat) (L : List (Nat × Nat)), b ≤ 4100 → gch (qh_g_second h) b (qh_g_second h 0).toInt L → L.length ≤ 4000 → (rn, sn) ∈ L) :
    HR n K (qh_write h r (xw v) (qh_secondAt h r)) (gbnd m s v 0) ∧ Ext n K m n K (gbnd m s v 0) := by
  have hnn := H.hn
  obtain ⟨g1, g2, g3, g4, g5, L, g6, g7, g8, g9'⟩ := H.hgr
  have hlen : L.length ≤ 4000 := by
    have h1 : ∀ (L : List Nat), L.Nodup → (∀ x ∈ L, x < 100) → L.length ≤ 100 := by
      intro L hL hb
      have := List.Nodup.length_le_of_subset (l₂ := List.range 100) hL (fun x hx => List.mem_range.mpr (hb x hx))
      simpa using this
    have := h1 (L.map (fun q => q.2)) g7 (fun x hx => by obtain ⟨q, hq, rfl⟩ := List.mem_map.mp hx; exact (gch_mem L _ _ g6 q hq).2.2)
    rw [List.length_map] at this
    omega
  have hmem := hin (n + 100) L (by omega) g6 hlen
  have hmb := gch_mem L _ _ g6 _ hmem
  have h10 := (g9' _ hmem).2
  dsimp only at hmb h10
  rw [write_ok hr hrb, secondAt_of hr hrb]
  have F : ∀ q, q ≠ rn → qh_g_first (qh_t_second (qh_t_first h r (xw v)) r (qh_g_second h rn)) q = qh_g_first h q := fun q hq => by rw [hg_fs, hg_ff, hr, toNat_cast, if_neg hq]
  have Fi : qh_g_first (qh_t_second (qh_t_first h r (xw v)) r (qh_g_second h rn)) rn = xw v := by rw [hg_fs, hg_ff, hr, toNat_cast, if_pos rfl]
  have S : ∀ q, qh_g_second (qh_t_second (qh_t_first h r (xw v)) r (qh_g_second h rn)) q = qh_g_second h q := fun q => by
    rw [hg_ss, hr, toNat_cast, hg_sf]
    by_cases hq : q = rn
    · rw [if_pos hq, hq]
    · rw [if_neg hq]
  have Sf : qh_g_second (qh_t_second (qh_t_first h r (xw v)) r (qh_g_second h rn)) = qh_g_second h := funext S
  obtain ⟨m1, m2, m3, m4, m5, m6, m7⟩ := gbnd_4 m s v 0
  have m8 : qm_g_isGround (gbnd m s v 0) sn = 1 := by rw [gbnd_1, hs.1, toNat_cast, if_pos rfl, bz1]
  have m8o : ∀ i, i ≠ sn → qm_g_isGround (gbnd m s v 0) i = qm_g_isGround m i := fun i hi => by rw [gbnd_1, hs.1, toNat_cast, if_neg hi]
  have m9 : qm_g_groundValue (gbnd m s v 0) sn = v := by rw [gbnd_2, hs.1, toNat_cast, if_pos rfl]
  have m9o : ∀ i, i ≠ sn → qm_g_groundValue (gbnd m s v 0) i = qm_g_groundValue m i := fun i hi => by rw [gbnd_2, hs.1, toNat_cast, if_neg hi]
  have m0 : qm_g_objects (gbnd m s v 0) = qm_g_objects m := by rw [gbnd_3]; exact Int32.add_zero _
  have E : Ext n K m n K (gbnd m s v 0) := ⟨Nat.le_refl _, fun _ _ => rfl, fun k hk _ _ => ⟨by rw [m1], by rw [m2]⟩⟩
  refine ⟨⟨⟨hnn, H.hr, by rw [m0]; exact H.ho⟩, fun k hk => ?_, ?_⟩, E⟩
  · have O := H.hob hk
    have hne : (100 + k = rn → K k = 10) := fun e => by
      rcases h10 with h | h
      · omega
      · rw [show k = rn - 100 by omega]; exact h
    by_cases hk10 : K k = 10
    · exact ⟨fun h => absurd (hk10.symm.trans h) (by decide), fun h => absurd (hk10.symm.trans h) (by decide), fun h => absurd (hk10.symm.trans h) (by decide), fun h => absurd (hk10.symm.trans h) (by decide), fun h => absurd (hk10.symm.trans h) (by decide)⟩
    · have hkr : 100 + k ≠ rn := fun e => hk10 (hne e)
      refine ob_mono O hk (Nat.le_refl _) (fun _ _ => rfl) (fun _ => F _ hkr) (fun _ => S _) (fun _ => by rw [m1]) (by rw [m2]) (by rw [m3]) (by rw [m4]) (by rw [m5]) (by rw [m6]) (fun h9 => ?_) (fun h5 ht => H.trok_ext E (O.2.1 h5).2.1.1 (by omega) ht) (fun h7 => ?_)
      · rw [F _ hkr, m1]
        obtain ⟨a1, a2, -⟩ := O.2.2.2.2 h9
        exact ⟨a1, a2⟩
      · rw [S, m7]
        exact eh_ext (O.2.2.2.1 h7).2 (Nat.le_refl _) (fun _ _ => rfl) (fun _ _ => by rw [m6]) (fun _ _ => by rw [m5])
  · unfold gr
    rw [Sf, m7]
    refine ⟨by rw [F 0 (by omega)]; exact g1, by rw [F 1 (by omega)]; exact g2, ?_, fun p h1 h2 => by rw [F p (by omega)]; exact g4 p h1 h2, fun t ht => ?_, L, g6, g7, fun t ht => ?_, fun q hq => ⟨?_, (g9' q hq).2⟩⟩
    · exact eh_ext g3 (Nat.le_refl _) (fun _ _ => rfl) (fun _ _ => by rw [m6]) (fun _ _ => by rw [m5])
    · by_cases hts : t = sn
      · rw [hts, m8, m9]; exact ⟨Or.inr rfl, fun _ => hv⟩
      · rw [m8o t hts, m9o t hts]; exact g5 t ht
    · by_cases hts : t = sn
      · rw [hts, m8]; exact ⟨fun _ => List.mem_map.mpr ⟨_, hmem, rfl⟩, fun _ => rfl⟩
      · rw [m8o t hts]; exact g8 t ht
    · by_cases hq2 : q.2 = sn
      · have := nodup_inj g7 q hq _ hmem hq2
        rw [this, Fi, m9]
      · have hq1 : q.1 ≠ rn := by
          intro e
          have : ∀ (L : List (Nat × Nat)) (b : Nat) (x : Int), gch (qh_g_second h) b x L → ∀ p ∈ L, ∃ y, (qh_g_second h p.1).toInt = y * 128 + p.2 := by
            intro L
            induction L with
            | nil => intro b x _ p hp; cases hp
            | cons a L ih =>
              intro b x hc p hp
              obtain ⟨a1, a2⟩ := a
              obtain ⟨_, _, _, _, y, h5, h6⟩ := hc
              rcases List.mem_cons.mp hp with rfl | hp
              · exact ⟨y, h5⟩
              · exact ih _ _ h6 p hp
          obtain ⟨y1, e1⟩ := this L _ _ g6 q hq
          obtain ⟨y2, e2⟩ := this L _ _ g6 _ hmem
          have b1 := (gch_mem L _ _ g6 q hq).2.2
          rw [e] at e1
          dsimp only at e2
          omega
        rw [F _ hq1, m9o _ hq2]; exact (g9' q hq).1
end
