/-! ===== bindings made and changed ===== -/
theorem nodup_inj {α β : Type} {f : α → β} : ∀ {L : List α}, (L.map f).Nodup → ∀ a ∈ L, ∀ b ∈ L, f a = f b → a = b
  | [], _, a, ha, _, _, _ => by cases ha
  | x :: L, hn, a, ha, b, hb, e => by
    rw [List.map_cons, List.nodup_cons] at hn
    rcases List.mem_cons.mp ha with ha | ha <;> rcases List.mem_cons.mp hb with hb | hb
    · rw [ha, hb]
    · rw [ha] at e; exact (hn.1 (List.mem_map.mpr ⟨b, hb, e.symm⟩)).elim
    · rw [hb] at e; exact (hn.1 (List.mem_map.mpr ⟨a, ha, e⟩)).elim
    · exact nodup_inj hn.2 a ha b hb e
theorem hg_ff (σ : qh_S) (i : Int32) (v : Int64) (r : Nat) : qh_g_first (qh_t_first σ i v) r = if r = i.toInt.toNat then v else qh_g_first σ r := rfl
theorem hg_fs (σ : qh_S) (i : Int32) (v : Int64) : qh_g_first (qh_t_second σ i v) = qh_g_first σ := rfl
theorem hg_ss (σ : qh_S) (i : Int32) (v : Int64) (r : Nat) : qh_g_second (qh_t_second σ i v) r = if r = i.toInt.toNat then v else qh_g_second σ r := rfl
theorem hg_sf (σ : qh_S) (i : Int32) (v : Int64) : qh_g_second (qh_t_first σ i v) = qh_g_second σ := rfl
theorem hg_n (σ : qh_S) (i j : Int32) (v w : Int64) : qh_g_nextRow (qh_t_second (qh_t_first σ i v) j w) = qh_g_nextRow σ := rfl
theorem toNat_cast (r : Nat) : ((r : Int)).toNat = r := rfl
def hbnd (h : qh_S) (x : Int32) (w pk : Int64) : qh_S := qh_t_second (qh_t_first (hadd h w pk) x (qh_firstAt (hadd h w pk) x)) x (Int32.toInt64 (qh_g_nextRow h))
theorem packLink_int {s x : Int32} (h1 : 0 ≤ s.toInt ∧ s.toInt < 128) (h2 : -1 ≤ x.toInt ∧ x.toInt < 100000) : (qh_packLink s x).toInt = x.toInt * 128 + s.toInt := by
  have e : ((lN (2 ^ 7))).toInt = 128 := by decide
  unfold qh_packLink
  rw [l_or (Int32.toInt64 x) (Int32.toInt64 s) 7 7 (by decide) (by decide), l_add, l_mul, i_toL, i_toL, e] <;> (try rw [l_mul]) <;> (try rw [i_toL]) <;> (try rw [i_toL]) <;> (try rw [e]) <;> (try omega)
  have c := BitVec.toInt_eq_toNat_cond (Int32.toInt64 s).toBitVec
  have e2 : (Int32.toInt64 s).toBitVec.toInt = s.toInt := i_toL s
  rw [e2] at c
  have := (Int32.toInt64 s).toBitVec.isLt
  split at c <;> omega
section
variable {n b : Nat} {K : Nat → Nat} {h : qh_S} {m : qm_S} {v e : Int64}
theorem write_ok {h : qh_S} {x : Int32} {r : Nat} (hx : x.toInt = r) (hr : r < 4100) (a c : Int64) : qh_write h x a c = qh_t_second (qh_t_first h x a) x c := by
  unfold qh_write
  rw [if_neg (by ((try simp only [Int32.lt_iff_toInt_lt, Int32.le_iff_toInt_le, Int64.lt_iff_toInt_lt, Int64.le_iff_toInt_le, ← Int32.toInt_inj, ← Int64.toInt_inj, Int32.reduceToInt, Int64.reduceToInt] at *); omega)), if_neg (by ((try simp only [Int32.lt_iff_toInt_lt, Int32.le_iff_toInt_le, Int64.lt_iff_toInt_lt, Int64.le_iff_toInt_le, ← Int32.toInt_inj, ← Int64.toInt_inj, Int32.reduceToInt, Int64.reduceToInt] at *); omega))]
theorem HR.addb_full (H : HR n K h m) (hn : n = 4000) (x s : Int32) (w : Int64) : qh_addBinding h x s w = (0, h) := by
  unfold qh_addBinding
  rw [H.add_full hn, if_pos rfl]
theorem HR.addb_ok (H : HR n K h m) (hn : n < 4000) {x : Int32} {r : Nat} (hx : x.toInt = r) (hr : r < 4100) (s : Int32) (w : Int64) : qh_addBinding h x s w = (1, hbnd h x w (qh_packLink s (qh_latestBindingOf h x))) := by
  have h1 := H.hr
  unfold qh_addBinding
  rw [H.add_ok hn, if_neg (by ((try simp only [Int32.lt_iff_toInt_lt, Int32.le_iff_toInt_le, Int64.lt_iff_toInt_lt, Int64.le_iff_toInt_le, ← Int32.toInt_inj, ← Int64.toInt_inj, Int32.reduceToInt, Int64.reduceToInt] at *); omega)), write_ok hx hr]
  rfl
theorem HR.hbnd_f (H : HR n K h m) (hn : n < 4000) {x : Int32} {r : Nat} (hx : x.toInt = r) (hr : r < n + 100) (w pk : Int64) (q : Nat) : qh_g_first (hbnd h x w pk) q = if q = n + 100 then w else qh_g_first h q := by
  have h1 := H.hadd_f hn w pk
  unfold hbnd
  rw [hg_fs, hg_ff, hx, toNat_cast, firstAt_of hx (by omega), h1, h1]
  by_cases hq : q = r
  · rw [if_pos hq, hq]
  · rw [if_neg hq]
theorem HR.hbnd_s (H : HR n K h m) (hn : n < 4000) {x : Int32} {r : Nat} (hx : x.toInt = r) (hr : r < n + 100) (w pk : Int64) (q : Nat) : qh_g_second (hbnd h x w pk) q = if q = r then Int32.toInt64 (qh_g_nextRow h) else if q = n + 100 then pk else qh_g_second h q := by
  have h1 := H.hadd_s hn w pk
  unfold hbnd
  rw [hg_ss, hg_sf, hx, toNat_cast, h1]
/-- a new binding in an environment that isn't the ground -/
def mbnd (m : qm_S) (j s : Int32) (v : Int64) : qm_S := qm_s_objects (qm_t_first (qm_t_headOf (qm_t_nextOf (qm_t_symbolOf m (qm_g_objects m) s) (qm_g_objects m) (qm_g_headOf m (Int32.toNatClampNeg j))) j (qm_g_objects m)) (qm_g_objects m) v) (qm_g_objects m + 1)
theorem mbnd_1 (m : qm_S) (j s : Int32) (v : Int64) (i : Nat) : qm_g_first (mbnd m j s v) i = if i = (qm_g_objects m).toInt.toNat then v else qm_g_first m i := rfl
theorem mbnd_2 (m : qm_S) (j s : Int32) (v : Int64) (i : Nat) : qm_g_symbolOf (mbnd m j s v) i = if i = (qm_g_objects m).toInt.toNat then s else qm_g_symbolOf m i := rfl
theorem mbnd_3 (m : qm_S) (j s : Int32) (v : Int64) (i : Nat) : qm_g_nextOf (mbnd m j s v) i = if i = (qm_g_objects m).toInt.toNat then qm_g_headOf m j.toInt.toNat else qm_g_nextOf m i := rfl
theorem mbnd_4 (m : qm_S) (j s : Int32) (v : Int64) (i : Nat) : qm_g_headOf (mbnd m j s v) i = if i = j.toInt.toNat then qm_g_objects m else qm_g_headOf m i := rfl
theorem mbnd_5 (m : qm_S) (j s : Int32) (v : Int64) : qm_g_objects (mbnd m j s v) = qm_g_objects m + 1 := rfl
theorem mbnd_6 (m : qm_S) (j s : Int32) (v : Int64) : qm_g_second (mbnd m j s v) = qm_g_second m ∧ qm_g_third (mbnd m j s v) = qm_g_third m ∧ qm_g_fourth (mbnd m j s v) = qm_g_fourth m ∧ qm_g_isGround (mbnd m j s v) = qm_g_isGround m ∧ qm_g_groundValue (mbnd m j s v) = qm_g_groundValue m := ⟨rfl, rfl, rfl, rfl, rfl⟩
theorem HR.newBind (H : HR n K h m) (hn : n < 4000) (he : ok n K e) (hk : kd e = 7) (hg : wt e ≠ -1) (hv : ok n K v) {x s j : Int32} (hs : 0 ≤ s.toInt ∧ s.toInt < 100) (hx : x.toInt = row (wt e)) (hj : j.toInt = wt e + 2)
    (habs : ∀ L, hch K (qm_g_nextOf m) n (qm_g_headOf m (wt e + 2).toNat).toInt L → ∀ i ∈ L, (qm_g_symbolOf m i).toInt ≠ s.toInt) :
    qh_addBinding h x s (xw v) = (1, hbnd h x (xw v) (qh_packLink s (qh_latestBindingOf h x))) ∧ HR (n + 1) (updK K n 9) (hbnd h x (xw v) (qh_packLink s (qh_latestBindingOf h x))) (mbnd m j s v) ∧ Ext n K m (n + 1) (updK K n 9) (mbnd m j s v) := by
  have ho := H.ho
  have hr := H.hr
  have hnn := H.hn
  have h1 := env_b he hk
  obtain ⟨r, hrr⟩ : ∃ r : Nat, (r : Int) = row (wt e) := ⟨(row (wt e)).toNat, by unfold row; split <;> omega⟩
  have hrb : r < n + 100 ∧ r ≠ 0 ∧ (r = 1 → wt e = -2) ∧ (r ≠ 1 → r = 100 + ix e ∧ ix e < n ∧ K (ix e) = 7) := by
    by_cases hu : wt e = -2
    · rw [hu] at hrr
      have : r = 1 := by have : (r : Int) = 1 := hrr; omega
      subst this
      exact ⟨by omega, by omega, fun _ => hu, fun h => absurd rfl h⟩
    · obtain ⟨q1, q2, q3⟩ := h1.2.2 (by omega)
      unfold row at hrr
      rw [if_neg (by omega)] at hrr
      exact ⟨by omega, by omega, fun _ => by omega, fun _ => ⟨by omega, q1, q2⟩⟩
  have hxr : x.toInt = (r : Int) := by omega
  obtain ⟨q1, L, q2, q3⟩ := H.heh he hk hg
  have hrn : (row (wt e)).toNat = r := by omega
  rw [hrn] at q1
  have hjb : (qm_g_headOf m (wt e + 2).toNat).toInt = -1 ∨ (0 ≤ (qm_g_headOf m (wt e + 2).toNat).toInt ∧ (qm_g_headOf m (wt e + 2).toNat).toInt < 4000) := by
    cases L with
    | nil => exact Or.inl q2
    | cons i L2 => obtain ⟨z1, z2, -⟩ := q2; omega
  have hl2 : (qh_latestBindingOf h x).toInt = (qh_g_second h r).toInt := by
    unfold qh_latestBindingOf
    rw [secondAt_of hxr (by omega), l_toI] <;> rcases q1 with h | h <;> omega
  have hlb : -1 ≤ (qh_latestBindingOf h x).toInt ∧ (qh_latestBindingOf h x).toInt < 100000 := by
    rw [hl2]; rcases q1 with h | h <;> omega
  have hpk := packLink_int (s := s) (x := qh_latestBindingOf h x) ⟨hs.1, by omega⟩ hlb
  refine ⟨H.addb_ok hn hxr (by omega) s (xw v), ?_⟩
  revert hpk
  generalize qh_packLink s (qh_latestBindingOf h x) = pk
  intro hpk
  have F := H.hbnd_f hn hxr hrb.1 (xw v) pk
  have S := H.hbnd_s hn hxr hrb.1 (xw v) pk
  have m1 : ∀ i, qm_g_first (mbnd m j s v) i = if i = n then v else qm_g_first m i := by
    intro i; rw [mbnd_1, ho, toNat_cast]
  have m2 : ∀ i, qm_g_symbolOf (mbnd m j s v) i = if i = n then s else qm_g_symbolOf m i := by
    intro i; rw [mbnd_2, ho, toNat_cast]
  have m3 : ∀ i, qm_g_nextOf (mbnd m j s v) i = if i = n then qm_g_headOf m (wt e + 2).toNat else qm_g_nextOf m i := by
    intro i; rw [mbnd_3, ho, toNat_cast, hj]
  have m4 : ∀ i, qm_g_headOf (mbnd m j s v) i = if i = (wt e + 2).toNat then qm_g_objects m else qm_g_headOf m i := by
    intro i; rw [mbnd_4, hj]
  have m5 : (qm_g_objects (mbnd m j s v)).toInt = n + 1 := by
    rw [mbnd_5, i_add] <;> simp only [Int32.reduceToInt] <;> omega
  have hrn1 : r ≠ n + 100 := by omega
  have Fn : qh_g_first (hbnd h x (xw v) pk) (100 + n) = xw v := by rw [F, if_pos (Nat.add_comm _ _)]
  have Fo : ∀ q, q ≠ n + 100 → qh_g_first (hbnd h x (xw v) pk) q = qh_g_first h q := fun q hq => by rw [F, if_neg hq]
  have Sn : qh_g_second (hbnd h x (xw v) pk) (100 + n) = pk := by rw [S, if_neg (by omega), if_pos (Nat.add_comm _ _)]
  have So : ∀ q, q ≠ r → q ≠ n + 100 → qh_g_second (hbnd h x (xw v) pk) q = qh_g_second h q := fun q h1 h2 => by rw [S, if_neg h1, if_neg h2]
  have Sr : ∀ q, q = r → qh_g_second (hbnd h x (xw v) pk) q = Int32.toInt64 (qh_g_nextRow h) := fun q h1 => by rw [S, if_pos h1]
  have m1n := (m1 n).trans (if_pos rfl)
  have m2n := (m2 n).trans (if_pos rfl)
  have m3n := (m3 n).trans (if_pos rfl)
  have m1o : ∀ i, i ≠ n → qm_g_first (mbnd m j s v) i = qm_g_first m i := fun i hi => by rw [m1, if_neg hi]
  have m2o : ∀ i, i ≠ n → qm_g_symbolOf (mbnd m j s v) i = qm_g_symbolOf m i := fun i hi => by rw [m2, if_neg hi]
  have m3o : ∀ i, i ≠ n → qm_g_nextOf (mbnd m j s v) i = qm_g_nextOf m i := fun i hi => by rw [m3, if_neg hi]
  have m4e : ∀ i, i = (wt e + 2).toNat → qm_g_headOf (mbnd m j s v) i = qm_g_objects m := fun i hi => by rw [m4, if_pos hi]
  have m4o : ∀ i, i ≠ (wt e + 2).toNat → qm_g_headOf (mbnd m j s v) i = qm_g_headOf m i := fun i hi => by rw [m4, if_neg hi]
  have x3 : (qh_g_nextRow (hbnd h x (xw v) pk)).toInt = n + 101 := by unfold hbnd; rw [hg_n]; exact H.hadd_n hn (xw v) pk
  have E : Ext n K m (n + 1) (updK K n 9) (mbnd m j s v) := ⟨by omega, updK_lt, fun i hi _ _ => ⟨m1o i (by omega), by rw [(mbnd_6 m j s v).1]⟩⟩
  -- the environment's own chain, longer by one
  have key : ∀ x0 : Int64, x0 = Int32.toInt64 (qh_g_nextRow h) → eh (n + 1) (updK K n 9) (mbnd m j s v) x0.toInt (qm_g_objects m).toInt := by
    rintro x0 rfl
    refine ⟨Or.inr ⟨by omega, by rw [i_toL]; omega⟩, n :: L, ⟨ho, by omega, updK_n, ?_⟩, ?_⟩
    · rw [m3n]
      exact hch_ext updK_lt (fun i hi => m3o i (by omega)) L n n _ (Nat.le_refl _) (Nat.le_refl _) q2
    · rw [List.map_cons, List.nodup_cons]
      have e1 : L.map (fun i => (qm_g_symbolOf (mbnd m j s v) i).toInt) = L.map (fun i => (qm_g_symbolOf m i).toInt) := List.map_congr_left (fun i hi => by rw [m2o i (by have := (hch_mem L n _ q2 i hi).1; omega)])
      rw [e1]
      refine ⟨fun hm => ?_, q3⟩
      obtain ⟨i, hi, hi2⟩ := List.mem_map.mp hm
      rw [m2n] at hi2
      exact habs L q2 i hi hi2
  refine ⟨⟨⟨by omega, by omega, by omega⟩, fun i hi => ?_, ?_⟩, E⟩
  · by_cases hin : i = n
    · rw [hin]
      refine ⟨fun h => absurd (updK_n.symm.trans h) (by decide), fun h => absurd (updK_n.symm.trans h) (by decide), fun h => absurd (updK_n.symm.trans h) (by decide), fun h => absurd (updK_n.symm.trans h) (by decide), fun _ => ?_⟩
      rw [Fn, Sn, m1n, m2n, m3n]
      refine ⟨rfl, ok_mono hv (by omega) updK_lt, hs, (qh_latestBindingOf h x).toInt, hpk, ?_⟩
      rw [hl2]; exact q1
    · have hi : i < n := by omega
      have O := H.hob hi
      refine ob_mono O hi (by omega) updK_lt (fun _ => Fo _ (by omega)) (fun h7 => So _ (fun hq => h7 ?_) (by omega)) (fun _ => m1o i hin) (by rw [(mbnd_6 m j s v).1]) (by rw [(mbnd_6 m j s v).2.1]) (by rw [(mbnd_6 m j s v).2.2.1]) (m2o i hin) (m3o i hin) (fun h9 => ?_) (fun h5 ht => H.trok_ext E (O.2.1 h5).2.1.1 (by omega) ht) (fun h7 => ?_)
      · have := hrb.2.2.2 (by omega)
        rw [show i = ix e by omega]; exact this.2.2
      · rw [Fo _ (by omega), m1o i hin]
        obtain ⟨a1, a2, -⟩ := O.2.2.2.2 h9
        exact ⟨a1, ok_mono a2 (by omega) updK_lt⟩
      · by_cases hie : 100 + i = r
        · have hr1 := hrb.2.2.2 (by omega)
          have : ¬ wt e = -2 := fun hu => by rw [hu] at hrr; have : (r : Int) = 1 := hrr; omega
          have : wt e = ix e := (h1.2.2 (by omega)).2.2
          rw [m4e _ (by omega), Sr _ hie]
          exact key _ rfl
        · have : ¬ (i + 2 = (wt e + 2).toNat) := by
            intro q
            have h5 : wt e = i := by omega
            unfold row at hrr; rw [if_neg (by omega)] at hrr; omega
          rw [m4o _ this, So _ hie (by omega)]
          exact eh_ext (O.2.2.2.1 h7).2 (by omega) updK_lt (fun k hk => m3o k (by omega)) (fun k hk => m2o k (by omega))
  · refine gr_mono H.hgr (by omega) hnn updK_lt (fun q hq _ => Fo q (by omega)) (fun q hq hq1 hq10 => So q (fun hqr => ?_) (by omega)) (mbnd_6 m j s v).2.2.2.1 (mbnd_6 m j s v).2.2.2.2 ?_
    · have hr1 := hrb.2.2.2 (by omega)
      have := hq10 (by omega)
      rw [show q - 100 = ix e by omega] at this
      omega
    · by_cases hu : wt e = -2
      · have hr1 : r = 1 := by rw [hu] at hrr; have : (r : Int) = 1 := hrr; omega
        rw [m4e 0 (by omega), Sr 1 hr1.symm]
        exact key _ rfl
      · have hr1 : r ≠ 1 := fun h => hu (hrb.2.2.1 h)
        rw [m4o 0 (by omega), So 1 (Ne.symm hr1) (by omega)]
        exact eh_ext H.hgr.2.2.1 (by omega) updK_lt (fun k hk => m3o k (by omega)) (fun k hk => m2o k (by omega))
end
