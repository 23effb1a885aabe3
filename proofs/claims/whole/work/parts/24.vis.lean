/-! ===== looking symbols up through the parents ===== -/
def rk (e : Int64) : Nat := if 0 ≤ wt e then (wt e).toNat + 2 else if wt e = -2 then 1 else 0
theorem m1_wt : kd (-1) = 15 ∧ wt (-1) = -1 := by decide
theorem ok_ne_m1 {b : Nat} {K : Nat → Nat} {v : Int64} (h : ok b K v) : v ≠ -1 := by
  rintro rfl
  have := m1_wt
  unfold ok at h; omega
theorem ob_ {α β : Type} (a : α) (f : α → Option β) : (some a).bind f = f a := rfl
section
variable {n b : Nat} {K : Nat → Nat} {h : qh_S} {m : qm_S} {v e : Int64}
theorem HR.par (H : HR n K h m) (he : ok n K e) (hk : kd e = 7) {x : Int32} (hx : x.toInt = row (wt e)) :
    ∃ p, qm_parentOf m e = some p ∧ ((p = -1 ∧ (qh_parentOf h x).toInt = -1 ∧ (qh_parentOf h x) = -1) ∨ (ok n K p ∧ kd p = 7 ∧ (qh_parentOf h x).toInt = row (wt p) ∧ rk p < rk e)) := by
  have hn := H.hn
  have h1 := env_b he hk
  have hxb : x.toInt = ((row (wt e)).toNat : Int) := by rw [hx]; unfold row; split <;> omega
  have hrb : (row (wt e)).toNat < 4100 := by unfold row; split <;> omega
  have hF : qh_parentOf h x = Int64.toInt32 (qh_g_first h (row (wt e)).toNat) := by unfold qh_parentOf; rw [firstAt_of hxb hrb]
  obtain ⟨g1, g2, -⟩ := H.hgr
  by_cases hg : wt e = -1
  · have e0 : (row (wt e)).toNat = 0 := by rw [hg]; rfl
    have e1 : (qh_parentOf h x).toInt = -1 := by rw [hF, e0, l_toI (by omega) (by omega), g1]
    refine ⟨-1, ?_, Or.inl ⟨rfl, e1, i_ext (by rw [e1]; decide)⟩⟩
    unfold qm_parentOf
    rw [if_pos ((g9 hk).mpr hg)]
  · by_cases hu : wt e = -2
    · have e0 : (row (wt e)).toNat = 1 := by rw [hu]; rfl
      refine ⟨-9, ?_, Or.inr ⟨?_, by decide, ?_, ?_⟩⟩
      · unfold qm_parentOf
        rw [if_neg (mt (g9 hk).mp hg), if_pos ((u25 hk).mpr hu)]
      · unfold ok; exact Or.inr (Or.inr (Or.inr (Or.inr (Or.inr (Or.inr (Or.inr (Or.inr (by decide))))))))
      · rw [hF, e0, l_toI (by omega) (by omega), g2]; decide
      · unfold rk; rw [hu]; decide
    · obtain ⟨h3, h4, h5⟩ := h1.2.2 (by omega)
      have e0 : (row (wt e)).toNat = 100 + ix e := by unfold row; rw [if_neg (by omega)]; omega
      have hM : qm_parentOf m e = some (qm_g_first m (ix e)) := by
        have hidx := idx_of (m := m) he hn (by omega)
        unfold qm_parentOf
        rw [if_neg (mt (g9 hk).mp hg), if_neg (mt (u25 hk).mp hu), if_pos (inb_of (by omega) (by omega)), i_clamp, hidx]
        rfl
      rw [hM, hF, e0]
      refine ⟨_, rfl, ?_⟩
      rcases ((H.hob (i := ix e) h3).2.2.2.1 h4).1 with ⟨q1, q2⟩ | ⟨q1, q2, q3⟩
      · have e1 : (Int64.toInt32 (qh_g_first h (100 + ix e))).toInt = -1 := by rw [l_toI (by omega) (by omega), q2]
        exact Or.inl ⟨q1, e1, i_ext (by rw [e1]; decide)⟩
      · have hb := env_b q1 q2
        have hrb2 : 0 ≤ row (wt (qm_g_first m (ix e))) ∧ row (wt (qm_g_first m (ix e))) < 4100 := by unfold row; split <;> omega
        refine Or.inr ⟨ok_mono q1 (by omega) (fun _ _ => rfl), q2, by rw [l_toI (by omega) (by omega), q3], ?_⟩
        unfold rk
        rw [if_pos (show 0 ≤ wt e by omega)]
        split
        · omega
        · split <;> omega
theorem HR.finds_aux (N : Nat) (hN : 5000 ≤ N) {s : Int32} (hs : 0 ≤ s.toInt ∧ s.toInt < 100) : ∀ (q : Nat) (m : qm_S) (e : Int64) (x x4 : Int32) (c k : Nat), HR n K h m → ok n K e → kd e = 7 → x.toInt = row (wt e) → rk e < q → q + 1 ≤ k → x4.toInt = c → c + q ≤ 4100 →
    (∃ (a r : Int32) (v : Int64), qm_finds_L3 N k m s e = some (1, fnd m a v) ∧ qh_visibleBinding_L5 N k h s x x4 = some r ∧ 0 ≤ r.toInt ∧ qh_firstAt h r = xw v ∧ ok n K v) ∨
    (∃ (a : Int32) (v : Int64), qm_finds_L3 N k m s e = some (0, fnd m a v) ∧ qh_visibleBinding_L5 N k h s x x4 = some (-1)) := by
  intro q
  induction q with
  | zero => intro m e x x4 c k _ _ _ _ h1; exact absurd h1 (Nat.not_lt_zero _)
  | succ q ih =>
    intro m e x x4 c k H he hk hx hq hqk hx4 hc
    obtain ⟨k, rfl⟩ : ∃ i, k = i + 1 := ⟨k - 1, by omega⟩
    have hn := H.hn
    have h1 := env_b he hk
    have hxn : ¬ x = -1 := by
      intro e1
      have := congrArg Int32.toInt e1
      simp only [Int32.reduceToInt] at this
      unfold row at hx; split at hx <;> omega
    have hen : ¬ e = -1 := ok_ne_m1 he
    have hx0 : ¬ (4100 : Int32) ≤ x4 := by ((try simp only [Int32.lt_iff_toInt_lt, Int32.le_iff_toInt_le, Int64.lt_iff_toInt_lt, Int64.le_iff_toInt_le, ← Int32.toInt_inj, ← Int64.toInt_inj, Int32.reduceToInt, Int64.reduceToInt] at *); omega)
    rcases H.own hN he hk hs hx with ⟨a, r, v, f1, f2, f3, f4, f5, f6, -⟩ | ⟨a, v, f1, f2, -⟩
    · refine Or.inl ⟨a, r, v, ?_, ?_, f3, f5, f6⟩
      · rw [qm_finds_L3_s, if_neg hen, f1, ob_, if_neg (show ¬ (1 : Int32) = 0 by decide)]
      · rw [qh_visibleBinding_L5_s, if_neg hxn, if_neg hx0, f2, ob_, if_neg (by intro e1; rw [e1] at f3; exact absurd f3 (by decide))]
    · have eM : qm_finds_L3 N (k + 1) m s e = (qm_parentOf (fnd m a v) e).bind fun r5 => qm_finds_L3 N k (fnd m a v) s r5 := by
        rw [qm_finds_L3_s, if_neg hen, f1, ob_, if_pos rfl]
      have eX : qh_visibleBinding_L5 N (k + 1) h s x x4 = qh_visibleBinding_L5 N k h s (qh_parentOf h x) (x4 + 1) := by
        rw [qh_visibleBinding_L5_s, if_neg hxn, if_neg hx0, f2, ob_, if_pos rfl]
      have H2 : HR n K h (fnd m a v) := H.m rfl
      have hx1 : (x4 + 1).toInt = ((c + 1 : Nat) : Int) := by rw [i_add] <;> simp only [Int32.reduceToInt] <;> omega
      obtain ⟨p, p1, p2⟩ := H2.par he hk hx
      rw [eM, eX, p1]
      show (∃ (a1 r : Int32) (v1 : Int64), qm_finds_L3 N k (fnd m a v) s p = _ ∧ _) ∨ (∃ (a1 : Int32) (v1 : Int64), qm_finds_L3 N k (fnd m a v) s p = _ ∧ _)
      rcases p2 with ⟨p2, p3, p4⟩ | ⟨p2, p3, p4, p5⟩
      · obtain ⟨k, rfl⟩ : ∃ i, k = i + 1 := ⟨k - 1, by omega⟩
        refine Or.inr ⟨a, v, ?_, ?_⟩
        · rw [qm_finds_L3_s, if_pos p2]
        · rw [qh_visibleBinding_L5_s, if_pos p4]
      · exact ih (fnd m a v) p (qh_parentOf h x) (x4 + 1) (c + 1) k H2 p2 p3 p4 (by omega) (by omega) hx1 (by omega)
theorem HR.finds (H : HR n K h m) {N : Nat} (hN : 5000 ≤ N) (he : ok n K e) (hk : kd e = 7) {s x : Int32} (hs : 0 ≤ s.toInt ∧ s.toInt < 100) (hx : x.toInt = row (wt e)) :
    (∃ (a r : Int32) (v : Int64), qm_finds N m e s = some (1, fnd m a v) ∧ qh_visibleBinding N h x s = some r ∧ 0 ≤ r.toInt ∧ qh_firstAt h r = xw v ∧ ok n K v) ∨
    (∃ (a : Int32) (v : Int64), qm_finds N m e s = some (0, fnd m a v) ∧ qh_visibleBinding N h x s = some (-1)) := by
  have hn := H.hn
  have h1 := env_b he hk
  have hr : rk e < 4050 := by unfold rk; split <;> (try split) <;> omega
  exact HR.finds_aux N hN hs 4050 m e x 0 0 N H he hk hx hr (by omega) (by decide) (by omega)
end
