/-! ===== binding, on both sides ===== -/
def symsIn (n : Nat) (K : Nat → Nat) (m : qm_S) (e : Int64) (P : Int → Prop) : Prop := ∀ L, hch K (qm_g_nextOf m) n (qm_g_headOf m (wt e + 2).toNat).toInt L → ∀ i ∈ L, P (qm_g_symbolOf m i).toInt
theorem bz0 : bz 0 = 0 := by decide
section
variable {n b : Nat} {K : Nat → Nat} {h : qh_S} {m : qm_S} {v e : Int64}
theorem idx2 (m : qm_S) (he : ok n K e) (hn : n ≤ 4000) (hk : kd e = 7) : (qm_indexOf m e + 2).toInt = wt e + 2 := by
  have h1 := env_b he hk
  have h2 := idx_of (m := m) he hn (by omega)
  rw [i_add] <;> simp only [Int32.reduceToInt] <;> omega
theorem HR.B22_new (H : HR n K h m) (N : Nat) (hn : n < 4000) (he : ok n K e) (hk : kd e = 7) (hg : wt e ≠ -1) (s : Int32) (v : Int64) : qm_binds_B22 N m e s v 0 = some (1, mbnd m (qm_indexOf m e + 2) s v) := by
  have ho := H.ho
  have h1 := env_b he hk
  have h2 := idx2 m he H.hn hk
  unfold qm_binds_B22
  rw [if_neg (mt (g9 hk).mp hg), if_pos rfl, if_pos (inb_of (by omega) (by omega)), if_pos (inb_of (by omega) (by omega)), if_pos (inb_of (by omega) (by omega)), if_pos (inb_of (by omega) (by omega)), if_pos (inb_of (by omega) (by omega))]
  rfl
theorem HR.B22_gnew (N : Nat) (he : e = -9) {s : Int32} (hs : 0 ≤ s.toInt ∧ s.toInt < 100) (v : Int64) : qm_binds_B22 N m e s v 0 = some (1, gbnd m s v 1) := by
  unfold qm_binds_B22
  rw [if_pos he, if_pos (inb_of (by omega) (by omega)), if_pos (inb_of (by omega) (by omega)), if_pos rfl]
  rfl
theorem HR.B22_gset (N : Nat) (he : e = -9) {s : Int32} (hs : 0 ≤ s.toInt ∧ s.toInt < 100) (v : Int64) : qm_binds_B22 N m e s v 1 = some (1, gbnd m s v 0) := by
  unfold qm_binds_B22
  rw [if_pos he, if_pos (inb_of (by omega) (by omega)), if_pos (inb_of (by omega) (by omega)), if_neg (by decide)]
  rfl
theorem HR.B22_set (N : Nat) (hk : kd e = 7) (hg : wt e ≠ -1) (s : Int32) (v : Int64) (hf : 0 ≤ (qm_g_foundAt m).toInt ∧ (qm_g_foundAt m).toInt < 4000) : qm_binds_B22 N m e s v 1 = some (1, qm_t_first m (qm_g_foundAt m) v) := by
  unfold qm_binds_B22
  rw [if_neg (mt (g9 hk).mp hg), if_neg (by decide), if_pos (inb_of (by omega) (by omega))]
theorem HR.newBind_syms (H : HR n K h m) (hn : n < 4000) (hk : kd e = 7) (he : ok n K e) {j s : Int32} (hj : j.toInt = wt e + 2) {P : Int → Prop} (hP : symsIn n K m e P) : symsIn (n + 1) (updK K n 9) (mbnd m j s v) e (fun t => P t ∨ t = s.toInt) := by
  have ho := H.ho
  intro L hL i hi
  rw [mbnd_4, hj, if_pos rfl] at hL
  cases L with
  | nil => cases hi
  | cons i0 L0 =>
    obtain ⟨z1, z2, z3, z4⟩ := hL
    have : i0 = n := by omega
    subst this
    rw [mbnd_3, ho, toNat_cast, if_pos rfl, hj] at z4
    have hL0 := hch_ext (K' := K) (nx' := qm_g_nextOf m) (n := i0) (fun k hk => (updK_lt k hk).symm) (fun k hk => by rw [mbnd_3, ho, toNat_cast, if_neg (by omega)]) L0 i0 i0 _ (Nat.le_refl _) (Nat.le_refl _) z4
    rcases List.mem_cons.mp hi with rfl | hi
    · rw [mbnd_2, ho, toNat_cast, if_pos rfl]; exact Or.inr rfl
    · have hb := (hch_mem L0 i0 _ hL0 i hi).1
      rw [mbnd_2, ho, toNat_cast, if_neg (by omega)]
      exact Or.inl (hP L0 hL0 i hi)
/-- a symbol that an environment doesn't bind yet -/
theorem HR.addB (H : HR n K h m) {N : Nat} (hN : 5000 ≤ N) (he : ok n K e) (hk : kd e = 7) (hg : wt e ≠ -1) (hv : ok n K v) {x s : Int32} (hs : 0 ≤ s.toInt ∧ s.toInt < 100) (hx : x.toInt = row (wt e)) {P : Int → Prop} (hP : symsIn n K m e P) (hPs : ¬ P s.toInt) :
    (n < 4000 ∧ ∃ h' m', qm_binds N m e s v = some (1, m') ∧ qh_addBinding h x s (xw v) = (1, h') ∧ HR (n + 1) (updK K n 9) h' m' ∧ Ext n K m (n + 1) (updK K n 9) m' ∧ mo m' = mo m ∧ mb m' = mb m ∧ symsIn (n + 1) (updK K n 9) m' e (fun t => P t ∨ t = s.toInt)) ∨
    (n = 4000 ∧ ∃ m', qm_binds N m e s v = some (0, m') ∧ qh_addBinding h x s (xw v) = (0, h) ∧ HR n K h m' ∧ mh m' = mh m ∧ mo m' = mo m ∧ mb m' = mb m) := by
  have hnn := H.hn
  have habs : ∀ L, hch K (qm_g_nextOf m) n (qm_g_headOf m (wt e + 2).toNat).toInt L → ∀ i ∈ L, (qm_g_symbolOf m i).toInt ≠ s.toInt := fun L hL i hi e1 => hPs (by rw [← e1]; exact hP L hL i hi)
  rcases H.own hN he hk hs hx with ⟨a, r, v0, f1, f2, f3, f4, f5, f6, f7⟩ | ⟨a, v0, f1, f2, f3⟩
  · exfalso
    rcases f7 with ⟨q, -⟩ | ⟨q1, q2, q3, q4, q5⟩
    · exact hg ((g9 hk).mp q)
    · obtain ⟨w1, L, w2, w3⟩ := H.heh he hk hg
      -- the found binding lies in the chain
      have hlen := hch_len L _ _ w2
      obtain ⟨h1, h2, h3⟩ := env_b he hk
      have hxb : x.toInt = ((row (wt e)).toNat : Int) := by rw [hx]; unfold row; split <;> omega
      have hrb : (row (wt e)).toNat < 4100 := by unfold row; split <;> omega
      have hjb : (qm_g_headOf m (wt e + 2).toNat).toInt = -1 ∨ (0 ≤ (qm_g_headOf m (wt e + 2).toNat).toInt ∧ (qm_g_headOf m (wt e + 2).toNat).toInt < 4000) := by
        cases L with
        | nil => exact Or.inl w2
        | cons i L2 => obtain ⟨z1, z2, -⟩ := w2; omega
      have hl2 : (qh_latestBindingOf h x).toInt = (qh_g_second h (row (wt e)).toNat).toInt := by
        unfold qh_latestBindingOf
        rw [secondAt_of hxb hrb, l_toI] <;> rcases w1 with h | h <;> omega
      rcases H.own_aux N hs L n N 0 _ _ _ _ 0 w2 w1 rfl hl2 (Nat.le_refl _) (by omega) (by decide) (by omega) with ⟨i, z1, z2, -⟩ | ⟨z1, z2, z3⟩
      · exact habs L w2 i z1 z2
      · have : qh_ownBinding N h x s = some (-1) := z3
        rw [f2] at this
        have := congrArg Int32.toInt (Option.some.inj this)
        simp only [Int32.reduceToInt] at this
        omega
  · have H2 : HR n K h (fnd m a v0) := H.m rfl
    have hidx := idx2 (fnd m a v0) he hnn hk
    by_cases hn : n < 4000
    · refine Or.inl ⟨hn, ?_⟩
      obtain ⟨b1, b2, b3⟩ := H2.newBind (j := qm_indexOf (fnd m a v0) e + 2) hn he hk hg hv hs hx hidx habs
      refine ⟨_, _, ?_, b1, b2, b3, rfl, rfl, H2.newBind_syms hn hk he hidx hP⟩
      unfold qm_binds
      rw [f1, ob_, if_pos rfl, H2.nf hn, if_pos rfl]
      exact H2.B22_new N hn he hk hg s v
    · have h4 : n = 4000 := by omega
      refine Or.inr ⟨h4, fnd m a v0, ?_, H.addb_full h4 x s (xw v), H2, rfl, rfl, rfl⟩
      unfold qm_binds
      rw [f1, ob_, if_pos rfl, H2.fl h4, if_neg (by decide)]
/-- binding a symbol, new or not -/
theorem HR.binds (H : HR n K h m) {N : Nat} (hN : 5000 ≤ N) (he : ok n K e) (hk : kd e = 7) (hv : ok n K v) {x s : Int32} (hs : 0 ≤ s.toInt ∧ s.toInt < 100) (hx : x.toInt = row (wt e)) :
    (∃ n' K' h' m', qm_binds N m e s v = some (1, m') ∧ qh_bind N h x s (xw v) = some (1, h') ∧ HR n' K' h' m' ∧ Ext n K m n' K' m' ∧ mo m' = mo m ∧ mb m' = mb m) ∨
    (∃ m', qm_binds N m e s v = some (0, m') ∧ qh_bind N h x s (xw v) = some (0, h) ∧ HR n K h m' ∧ mh m' = mh m ∧ mo m' = mo m ∧ mb m' = mb m) := by
  have hnn := H.hn
  have hsn : s.toInt = (s.toInt.toNat : Int) := by omega
  have hsl : s.toInt.toNat < 100 := by omega
  rcases H.own hN he hk hs hx with ⟨a, r, v0, f1, f2, f3, f4, f5, f6, f7⟩ | ⟨a, v0, f1, f2, f3⟩
  · have H2 : HR n K h (fnd m a v0) := H.m rfl
    have hrn : ¬ r = -1 := by rintro rfl; exact absurd f3 (by decide)
    have hX : qh_bind N h x s (xw v) = some (1, qh_write h r (xw v) (qh_secondAt h r)) := by
      unfold qh_bind
      rw [f2, ob_, if_neg hrn]
    have hM : qm_binds N m e s v = qm_binds_B22 N (fnd m a v0) e s v 1 := by
      unfold qm_binds
      rw [f1, ob_, if_neg (show ¬ (1 : Int32) = 0 by decide)]
    rcases f7 with ⟨q1, q2, q3, q4⟩ | ⟨q1, q2, q3, q4, q5⟩
    · have := H2.setGround (v := v) (s := s) (r := r) (sn := s.toInt.toNat) (rn := r.toInt.toNat) hv ⟨hsn, hsl⟩ (by omega) (by omega) q4
      exact Or.inl ⟨n, K, _, _, by rw [hM, HR.B22_gset N q1 hs v], hX, this.1, this.2, rfl, rfl⟩
    · have hg : wt e ≠ -1 := fun h => q1 ((g9 hk).mpr h)
      have := H2.setBind (v := v) (a := a) (r := r) (i := a.toInt.toNat) hv (by omega) (by omega) q4 (by omega)
      exact Or.inl ⟨n, K, _, _, by rw [hM, HR.B22_set (m := fnd m a v0) N hk hg s v ⟨by show 0 ≤ a.toInt; omega, by show a.toInt < 4000; omega⟩]; rfl, hX, this.1, this.2, rfl, rfl⟩
  · have H2 : HR n K h (fnd m a v0) := H.m rfl
    by_cases hn : n < 4000
    · have hX : ∀ h', qh_addBinding h x s (xw v) = (1, h') → qh_bind N h x s (xw v) = some (1, h') := fun h' e1 => by
        unfold qh_bind
        rw [f2, ob_, if_pos rfl, e1]
        show some (bz 1, h') = _
        rw [bz1]
      have hM : qm_binds N m e s v = qm_binds_B22 N (fnd m a v0) e s v 0 := by
        unfold qm_binds
        rw [f1, ob_, if_pos rfl, H2.nf hn, if_pos rfl]
      rcases f3 with ⟨q1, q2⟩ | ⟨q1, q2⟩
      · have hx0 : x.toInt = 0 := by rw [hx, (g9 hk).mp q1]; rfl
        obtain ⟨b1, b2, b3⟩ := H2.newGround (v := v) (x := x) (s := s) (sn := s.toInt.toNat) hn hv ⟨hsn, hsl⟩ hx0 q2
        exact Or.inl ⟨n + 1, _, _, _, by rw [hM, HR.B22_gnew N q1 hs v], hX _ b1, b2, b3, rfl, rfl⟩
      · have hg : wt e ≠ -1 := fun h => q1 ((g9 hk).mpr h)
        have hidx := idx2 (fnd m a v0) he hnn hk
        obtain ⟨b1, b2, b3⟩ := H2.newBind (j := qm_indexOf (fnd m a v0) e + 2) hn he hk hg hv hs hx hidx q2
        exact Or.inl ⟨n + 1, _, _, _, by rw [hM, H2.B22_new N hn he hk hg s v], hX _ b1, b2, b3, rfl, rfl⟩
    · have h4 : n = 4000 := by omega
      refine Or.inr ⟨fnd m a v0, ?_, ?_, H2, rfl, rfl, rfl⟩
      · unfold qm_binds
        rw [f1, ob_, if_pos rfl, H2.fl h4, if_neg (by decide)]
      · unfold qh_bind
        rw [f2, ob_, if_pos rfl, H.addb_full h4 x s (xw v)]
        show some (bz 0, h) = _
        rw [bz0]
end
