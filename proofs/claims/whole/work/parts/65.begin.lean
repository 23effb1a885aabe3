/-! ===== the beginning ===== -/
theorem wr {h : qh_S} {x : Int32} {r : Nat} (hx : x.toInt = r) (hr : r < 4100) (a c : Int64) : (∀ q, qh_g_first (qh_write h x a c) q = if q = r then a else qh_g_first h q) ∧ (∀ q, qh_g_second (qh_write h x a c) q = if q = r then c else qh_g_second h q) ∧ qh_g_nextRow (qh_write h x a c) = qh_g_nextRow h := by
  rw [write_ok hx hr]
  refine ⟨fun q => ?_, fun q => ?_, hg_n _ _ _ _ _⟩
  · rw [hg_fs, hg_ff, hx, toNat_cast]
  · rw [hg_ss, hg_sf, hx, toNat_cast]
def GI (h : qh_S) (c : Nat) (L : List (Nat × Nat)) : Prop :=
  (qh_g_nextRow h).toInt = 100 ∧ (qh_g_first h 0).toInt = -1 ∧ (qh_g_first h 1).toInt = 0 ∧ (qh_g_second h 1).toInt = -1 ∧ gch (qh_g_second h) (50 + c) (qh_g_second h 0).toInt L ∧ (∀ q ∈ L, q.1 = 50 + q.2 ∧ q.2 < c ∧ qh_g_first h q.1 = vI (if q.2 < 8 then 5 else 6) q.2)
theorem GI.bind {h : qh_S} {c s : Nat} {L : List (Nat × Nat)} (G : GI h c L) (hc : c ≤ s) (hs : s < 26) {x : Int32} (hx : x.toInt = s) {v : Int64} (hv : v = vI (if s < 8 then 5 else 6) s) :
    GI (qh_bindInGround h x v) (s + 1) ((50 + s, s) :: L) ∧ (∀ p, 10 ≤ p → p < 50 → qh_g_first (qh_bindInGround h x v) p = qh_g_first h p) := by
  obtain ⟨g1, g2, g3, g4, g5, g6⟩ := G
  have hy : -1 ≤ (qh_g_second h 0).toInt ∧ (qh_g_second h 0).toInt < 100 := by
    cases L with
    | nil => have : (qh_g_second h 0).toInt = -1 := g5; omega
    | cons q L2 => obtain ⟨q1, q2⟩ := q; obtain ⟨z1, z2, -⟩ := g5; omega
  have h50 : ((50 : Int32) + x).toInt = ((50 + s : Nat) : Int) := by rw [i_add] <;> simp only [Int32.reduceToInt] <;> omega
  have hlat : (qh_latestBindingOf h 0).toInt = (qh_g_second h 0).toInt := by
    unfold qh_latestBindingOf
    rw [secondAt_of (r := 0) (by decide) (by omega), l_toI (by omega) (by omega)]
  have hpk := packLink_int (s := x) (x := qh_latestBindingOf h 0) (by omega) (by omega)
  unfold qh_bindInGround
  obtain ⟨a1, a2, a3⟩ := wr (h := h) h50 (by omega) v (qh_packLink x (qh_latestBindingOf h 0))
  generalize qh_write h ((50 : Int32) + x) v (qh_packLink x (qh_latestBindingOf h 0)) = h1 at *
  obtain ⟨b1, b2, b3⟩ := wr (h := h1) (x := 0) (r := 0) (by decide) (by omega) (-1) (Int32.toInt64 ((50 : Int32) + x))
  generalize qh_write h1 0 (-1) (Int32.toInt64 ((50 : Int32) + x)) = h2 at *
  have f : ∀ q, q ≠ 0 → q ≠ 50 + s → qh_g_first h2 q = qh_g_first h q := fun q c1 c2 => by rw [b1, if_neg c1, a1, if_neg c2]
  have sd : ∀ q, q ≠ 0 → q ≠ 50 + s → qh_g_second h2 q = qh_g_second h q := fun q c1 c2 => by rw [b2, if_neg c1, a2, if_neg c2]
  have f0 : qh_g_first h2 0 = -1 := by rw [b1, if_pos rfl]
  have s0 : (qh_g_second h2 0).toInt = 50 + s := by rw [b2, if_pos rfl, i_toL, h50]; omega
  have fs : qh_g_first h2 (50 + s) = v := by rw [b1, if_neg (by omega), a1, if_pos rfl]
  have ss : (qh_g_second h2 (50 + s)).toInt = (qh_g_second h 0).toInt * 128 + s := by rw [b2, if_neg (by omega), a2, if_pos rfl, hpk, hlat, hx]
  refine ⟨⟨by rw [b3, a3]; exact g1, by rw [f0]; decide, by rw [f 1 (by omega) (by omega)]; exact g3, by rw [sd 1 (by omega) (by omega)]; exact g4, ⟨by rw [s0]; omega, by omega, by omega, by omega, _, ss, ?_⟩, ?_⟩, fun p h1 h2 => f p (by omega) (by omega)⟩
  · exact gch_ext L (50 + c) (50 + s) _ (by omega) (fun r r1 r2 _ => sd r (by omega) (by omega)) g5
  · intro q hq
    rcases List.mem_cons.mp hq with rfl | hq
    · exact ⟨rfl, Nat.lt_succ_self _, by rw [fs]; exact hv⟩
    · obtain ⟨c1, c2, c3⟩ := g6 q hq
      exact ⟨c1, by omega, by rw [f _ (by omega) (by omega)]; exact c3⟩
theorem mk_row {k x : Int32} {c s : Nat} (hk : k.toInt = c) (hc : c < 16) (hx : x.toInt = s) : qw_make k (Int32.toInt64 x) = vI c s := mk_vI hk hc hx
def gl1 : Nat → List (Nat × Nat)
  | 0 => []
  | c + 1 => (50 + c, c) :: gl1 c
def gl2 : Nat → List (Nat × Nat)
  | 0 => gl1 8
  | c + 1 => (50 + (10 + c), 10 + c) :: gl2 c
theorem ground2 (N : Nat) : ∀ (d c k : Nat) (h : qh_S) (x : Int32), c + d = 16 → d < k → GI h (10 + c) (gl2 c) → (∀ p, 10 ≤ p → p < 10 + c → qh_g_first h p = vI 5 p) → x.toInt = ((10 + c : Nat) : Int) →
    ∃ h', qh_restoreGround_L54 N k h x = some h' ∧ GI h' 26 (gl2 16) ∧ (∀ p, 10 ≤ p → p < 26 → qh_g_first h' p = vI 5 p) := by
  intro d
  induction d with
  | zero =>
    intro c k h x hc hk G hp hx
    obtain ⟨k, rfl⟩ : ∃ i, k = i + 1 := ⟨k - 1, by omega⟩
    have : c = 16 := by omega
    subst this
    rw [qh_restoreGround_L54_s, if_pos (show (25 : Int32) < x by ((try simp only [Int32.lt_iff_toInt_lt, Int32.le_iff_toInt_le, Int64.lt_iff_toInt_lt, Int64.le_iff_toInt_le, ← Int32.toInt_inj, ← Int64.toInt_inj, Int32.reduceToInt, Int64.reduceToInt] at *); omega))]
    exact ⟨h, rfl, G, hp⟩
  | succ d ih =>
    intro c k h x hc hk G hp hx
    obtain ⟨k, rfl⟩ : ∃ i, k = i + 1 := ⟨k - 1, by omega⟩
    have hx1 : (x + 1).toInt = ((10 + (c + 1) : Nat) : Int) := by rw [i_add] <;> simp only [Int32.reduceToInt] <;> omega
    rw [qh_restoreGround_L54_s, if_neg (show ¬ (25 : Int32) < x by ((try simp only [Int32.lt_iff_toInt_lt, Int32.le_iff_toInt_le, Int64.lt_iff_toInt_lt, Int64.le_iff_toInt_le, ← Int32.toInt_inj, ← Int64.toInt_inj, Int32.reduceToInt, Int64.reduceToInt] at *); omega)), mk_row (c := 5) (by decide) (by decide) hx, mk_row (c := 6) (by decide) (by decide) hx]
    obtain ⟨a1, a2, a3⟩ := wr (h := h) hx (by omega) (vI 5 ((10 + c : Nat) : Int)) 0
    generalize qh_write h x (vI 5 ((10 + c : Nat) : Int)) 0 = h1 at *
    have G1 : GI h1 (10 + c) (gl2 c) := by
      obtain ⟨g1, g2, g3, g4, g5, g6⟩ := G
      refine ⟨by rw [a3]; exact g1, by rw [a1, if_neg (by omega)]; exact g2, by rw [a1, if_neg (by omega)]; exact g3, by rw [a2, if_neg (by omega)]; exact g4, ?_, fun q hq => ?_⟩
      · rw [a2 0, if_neg (by omega)]
        exact gch_ext _ _ _ _ (Nat.le_refl _) (fun r r1 r2 _ => by rw [a2, if_neg (by omega)]) g5
      · obtain ⟨c1, c2, c3⟩ := g6 q hq
        exact ⟨c1, c2, by rw [a1, if_neg (by omega)]; exact c3⟩
    obtain ⟨b1, b2⟩ := G1.bind (s := 10 + c) (Nat.le_refl _) (by omega) hx (v := vI 6 ((10 + c : Nat) : Int)) (by rw [if_neg (by omega)])
    refine ih (c + 1) k _ (x + 1) (by omega) (by omega) b1 (fun p p1 p2 => ?_) hx1
    rw [b2 p p1 (by omega), a1]
    by_cases h : p = 10 + c
    · rw [if_pos h, h]
    · rw [if_neg h]; exact hp p p1 (by omega)
theorem ground1 (N : Nat) (hN : 5000 ≤ N) : ∀ (d c k : Nat) (h : qh_S) (x : Int32), c + d = 8 → d < k → GI h c (gl1 c) → x.toInt = c →
    ∃ h', qh_restoreGround_L28 N k h x = some h' ∧ GI h' 26 (gl2 16) ∧ (∀ p, 10 ≤ p → p < 26 → qh_g_first h' p = vI 5 p) := by
  intro d
  induction d with
  | zero =>
    intro c k h x hc hk G hx
    obtain ⟨k, rfl⟩ : ∃ i, k = i + 1 := ⟨k - 1, by omega⟩
    have : c = 8 := by omega
    subst this
    rw [qh_restoreGround_L28_s, if_pos (show (7 : Int32) < x by ((try simp only [Int32.lt_iff_toInt_lt, Int32.le_iff_toInt_le, Int64.lt_iff_toInt_lt, Int64.le_iff_toInt_le, ← Int32.toInt_inj, ← Int64.toInt_inj, Int32.reduceToInt, Int64.reduceToInt] at *); omega))]
    obtain ⟨g1, g2, g3, g4, g5, g6⟩ := G
    refine ground2 N 16 0 N h 10 (by omega) (by omega) ⟨g1, g2, g3, g4, gch_ext _ _ _ _ (by omega) (fun _ _ _ _ => rfl) g5, fun q hq => ?_⟩ (fun p p1 p2 => absurd p2 (by omega)) (by decide)
    obtain ⟨c1, c2, c3⟩ := g6 q hq
    exact ⟨c1, by omega, c3⟩
  | succ d ih =>
    intro c k h x hc hk G hx
    obtain ⟨k, rfl⟩ : ∃ i, k = i + 1 := ⟨k - 1, by omega⟩
    have hx1 : (x + 1).toInt = ((c + 1 : Nat) : Int) := by rw [i_add] <;> simp only [Int32.reduceToInt] <;> omega
    rw [qh_restoreGround_L28_s, if_neg (show ¬ (7 : Int32) < x by ((try simp only [Int32.lt_iff_toInt_lt, Int32.le_iff_toInt_le, Int64.lt_iff_toInt_lt, Int64.le_iff_toInt_le, ← Int32.toInt_inj, ← Int64.toInt_inj, Int32.reduceToInt, Int64.reduceToInt] at *); omega)), mk_row (c := 5) (by decide) (by decide) hx]
    obtain ⟨b1, b2⟩ := G.bind (s := c) (Nat.le_refl _) (by omega) hx (v := vI 5 (c : Int)) (by rw [if_pos (by omega)])
    exact ih (c + 1) k _ (x + 1) (by omega) (by omega) b1 hx1
theorem ground (N : Nat) (hN : 5000 ≤ N) (h : qh_S) : ∃ h', qh_restoreGround N h = some h' ∧ GI h' 26 (gl2 16) ∧ (∀ p, 10 ≤ p → p < 26 → qh_g_first h' p = vI 5 p) := by
  unfold qh_restoreGround
  have n0 : qh_g_nextRow (qh_s_nextRow h 100) = 100 := rfl
  generalize qh_s_nextRow h 100 = h0 at *
  obtain ⟨a1, a2, a3⟩ := wr (h := h0) (x := 0) (r := 0) (by decide) (by omega) (-1) (-1)
  generalize qh_write h0 0 (-1) (-1) = h1 at *
  obtain ⟨b1, b2, b3⟩ := wr (h := h1) (x := 1) (r := 1) (by decide) (by omega) 0 (-1)
  generalize qh_write h1 1 0 (-1) = h2 at *
  refine ground1 N hN 8 0 N h2 0 (by omega) (by omega) ⟨by rw [b3, a3, n0]; decide, by rw [b1, if_neg (by omega), a1, if_pos rfl]; decide, by rw [b1, if_pos rfl]; decide, by rw [b2, if_pos rfl]; decide, ?_, fun q hq => by cases hq⟩ (by decide)
  show (qh_g_second h2 0).toInt = -1
  rw [b2, if_neg (by omega), a2, if_pos rfl]
  decide
/-- what of the reference's state its ground leaves -/
def mg (m : qm_S) : (Nat → Int32) × Int32 × (Nat → Int64) × Int32 × Int64 × Int32 × Int32 × Int32 := (qm_g_headOf m, qm_g_objects m, mxo m)
def gset (m : qm_S) (x g : Int32) (v : Int64) : qm_S := qm_t_groundValue (qm_t_isGround m x g) x v
theorem gset_p (m : qm_S) (x g : Int32) (v : Int64) : mg (gset m x g v) = mg m ∧ (∀ j, qm_g_isGround (gset m x g v) j = if j = x.toInt.toNat then bz g else qm_g_isGround m j) ∧ (∀ j, qm_g_groundValue (gset m x g v) j = if j = x.toInt.toNat then v else qm_g_groundValue m j) := ⟨rfl, fun _ => rfl, fun _ => rfl⟩
theorem begin_aux (N : Nat) : ∀ (d c k : Nat) (m : qm_S) (x : Int32), c + d = 100 → d < k → x.toInt = c → (∀ s, s < c → qm_g_isGround m s = (if s < 8 ∨ (10 ≤ s ∧ s ≤ 25) then 1 else 0) ∧ qm_g_groundValue m s = vI (if s < 8 then 5 else 6) (-1 - (s : Int))) →
    ∃ m', qm_begin_L43 N k m x = some m' ∧ mg m' = mg m ∧ (∀ s, s < 100 → qm_g_isGround m' s = (if s < 8 ∨ (10 ≤ s ∧ s ≤ 25) then 1 else 0) ∧ qm_g_groundValue m' s = vI (if s < 8 then 5 else 6) (-1 - (s : Int))) := by
  intro d
  induction d with
  | zero =>
    intro c k m x hc hk hx hs
    obtain ⟨k, rfl⟩ : ∃ i, k = i + 1 := ⟨k - 1, by omega⟩
    have : c = 100 := by omega
    subst this
    rw [qm_begin_L43_s, if_pos (show (100 : Int32) ≤ x by ((try simp only [Int32.lt_iff_toInt_lt, Int32.le_iff_toInt_le, Int64.lt_iff_toInt_lt, Int64.le_iff_toInt_le, ← Int32.toInt_inj, ← Int64.toInt_inj, Int32.reduceToInt, Int64.reduceToInt] at *); omega))]
    exact ⟨m, rfl, rfl, hs⟩
  | succ d ih =>
    intro c k m x hc hk hx hs
    obtain ⟨k, rfl⟩ : ∃ i, k = i + 1 := ⟨k - 1, by omega⟩
    have hx1 : (x + 1).toInt = ((c + 1 : Nat) : Int) := by rw [i_add] <;> simp only [Int32.reduceToInt] <;> omega
    have hin : inb x 100 = true := inb_of (by omega) (by omega)
    have hv : ((-1 : Int64) - Int32.toInt64 x).toInt = -1 - (c : Int) := by
      have ht := i_toL x
      rw [l_sub] <;> rw [ht] <;> simp only [Int64.reduceToInt] <;> omega
    have hm5 : qm_made 5 ((-1 : Int64) - Int32.toInt64 x) = vI 5 (-1 - (c : Int)) := by rw [made_vI (by decide) (by omega) (by omega), hv]; rfl
    have hm6 : qm_made 6 ((-1 : Int64) - Int32.toInt64 x) = vI 6 (-1 - (c : Int)) := by rw [made_vI (by decide) (by omega) (by omega), hv]; rfl
    obtain ⟨g, hg, e⟩ : ∃ g : Int32, g = (if c < 8 ∨ (10 ≤ c ∧ c ≤ 25) then 1 else 0) ∧ qm_begin_L43 N (k + 1) m x = qm_begin_L43 N k (gset m x g (vI (if c < 8 then 5 else 6) (-1 - (c : Int)))) (x + 1) := by
      refine ⟨_, rfl, ?_⟩
      rw [qm_begin_L43_s, if_neg (show ¬ (100 : Int32) ≤ x by ((try simp only [Int32.lt_iff_toInt_lt, Int32.le_iff_toInt_le, Int64.lt_iff_toInt_lt, Int64.le_iff_toInt_le, ← Int32.toInt_inj, ← Int64.toInt_inj, Int32.reduceToInt, Int64.reduceToInt] at *); omega)), hm5, hm6, within_i (l := 10) (h := 25) (by decide) (by decide), hx]
      by_cases h8 : c < 8
      · rw [if_pos (show x < 8 by ((try simp only [Int32.lt_iff_toInt_lt, Int32.le_iff_toInt_le, Int64.lt_iff_toInt_lt, Int64.le_iff_toInt_le, ← Int32.toInt_inj, ← Int64.toInt_inj, Int32.reduceToInt, Int64.reduceToInt] at *); omega)), if_pos hin, if_neg (show ¬ (8 : Int32) ≤ x by ((try simp only [Int32.lt_iff_toInt_lt, Int32.le_iff_toInt_le, Int64.lt_iff_toInt_lt, Int64.le_iff_toInt_le, ← Int32.toInt_inj, ← Int64.toInt_inj, Int32.reduceToInt, Int64.reduceToInt] at *); omega)), if_pos hin, if_pos h8, if_pos (Or.inl h8)]
        rfl
      · rw [if_neg (show ¬ x < 8 by ((try simp only [Int32.lt_iff_toInt_lt, Int32.le_iff_toInt_le, Int64.lt_iff_toInt_lt, Int64.le_iff_toInt_le, ← Int32.toInt_inj, ← Int64.toInt_inj, Int32.reduceToInt, Int64.reduceToInt] at *); omega)), if_neg h8]
        by_cases h10 : 10 ≤ c ∧ c ≤ 25
        · rw [if_pos (show (10 : Int) ≤ c ∧ (c : Int) ≤ 25 by omega), if_neg (show ¬ (1 : Int32) = 0 by decide), if_pos hin, if_pos (show (8 : Int32) ≤ x by ((try simp only [Int32.lt_iff_toInt_lt, Int32.le_iff_toInt_le, Int64.lt_iff_toInt_lt, Int64.le_iff_toInt_le, ← Int32.toInt_inj, ← Int64.toInt_inj, Int32.reduceToInt, Int64.reduceToInt] at *); omega)), if_pos hin, if_pos (Or.inr h10)]
          rfl
        · rw [if_neg (show ¬ ((10 : Int) ≤ c ∧ (c : Int) ≤ 25) by omega), if_pos (show (0 : Int32) = 0 from rfl), if_pos hin, if_pos (show (8 : Int32) ≤ x by ((try simp only [Int32.lt_iff_toInt_lt, Int32.le_iff_toInt_le, Int64.lt_iff_toInt_lt, Int64.le_iff_toInt_le, ← Int32.toInt_inj, ← Int64.toInt_inj, Int32.reduceToInt, Int64.reduceToInt] at *); omega)), if_pos hin, if_neg (show ¬ (c < 8 ∨ (10 ≤ c ∧ c ≤ 25)) by omega)]
          rfl
    obtain ⟨p1, p2, p3⟩ := gset_p m x g (vI (if c < 8 then 5 else 6) (-1 - (c : Int)))
    rw [hx, toNat_cast] at p2 p3
    generalize gset m x g (vI (if c < 8 then 5 else 6) (-1 - (c : Int))) = m1 at *
    rw [e]
    obtain ⟨m', f1, f2, f3⟩ := ih (c + 1) k m1 (x + 1) (by omega) (by omega) hx1 (fun s h => by
      rw [p2, p3]
      by_cases hsc : s = c
      · subst hsc
        rw [if_pos rfl, if_pos rfl, hg]
        refine ⟨?_, rfl⟩
        split
        · exact bz1
        · exact bz0
      · rw [if_neg hsc, if_neg hsc]
        exact hs s (by omega))
    exact ⟨m', f1, f2.trans p1, f3⟩
/-- everything at its beginning -/
theorem HR.zero {h : qh_S} {m : qm_S} (G : GI h 26 (gl2 16)) (hp : ∀ p, 10 ≤ p → p < 26 → qh_g_first h p = vI 5 p) (ho : qm_g_objects m = 0) (hh : (qm_g_headOf m 0).toInt = -1) (hs : ∀ s, s < 100 → qm_g_isGround m s = (if s < 8 ∨ (10 ≤ s ∧ s ≤ 25) then 1 else 0) ∧ qm_g_groundValue m s = vI (if s < 8 then 5 else 6) (-1 - (s : Int))) : HR 0 (fun _ => 0) h m := by
  obtain ⟨g1, g2, g3, g4, g5, g6⟩ := G
  have hmem : ∀ s, s < 100 → (s ∈ (gl2 16).map (fun q => q.2) ↔ (s < 8 ∨ (10 ≤ s ∧ s ≤ 25))) := by decide
  have hval : ∀ s : Nat, s < 8 ∨ (10 ≤ s ∧ s ≤ 25) → kd (vI (if s < 8 then 5 else 6) (-1 - (s : Int))) = (if s < 8 then 5 else 6) ∧ wt (vI (if s < 8 then 5 else 6) (-1 - (s : Int))) = -1 - (s : Int) := by
    intro s h
    by_cases h8 : s < 8
    · rw [if_pos h8]; exact ⟨vI_kd (by omega) (by omega) (by omega), vI_wt (by omega) (by omega) (by omega)⟩
    · rw [if_neg h8]; exact ⟨vI_kd (by omega) (by omega) (by omega), vI_wt (by omega) (by omega) (by omega)⟩
  refine ⟨⟨by omega, by rw [g1]; omega, by rw [ho]; decide⟩, fun i hi => absurd hi (Nat.not_lt_zero _), g2, g3, ⟨Or.inl ⟨hh, g4⟩, [], hh, List.nodup_nil⟩, fun p p1 p2 => hp p p1 (by omega), fun s hs1 => ⟨?_, fun hg => ?_⟩, gl2 16, gch_ext _ _ _ _ (by omega) (fun _ _ _ _ => rfl) g5, by decide, fun s hs1 => ?_, fun q hq => ?_⟩
  · rw [(hs s hs1).1]
    split
    · exact Or.inr rfl
    · exact Or.inl rfl
  · rw [(hs s hs1).1] at hg
    have hc : s < 8 ∨ (10 ≤ s ∧ s ≤ 25) := by
      by_cases hc : s < 8 ∨ (10 ≤ s ∧ s ≤ 25)
      · exact hc
      · rw [if_neg hc] at hg; exact absurd hg (by decide)
    rw [(hs s hs1).2]
    obtain ⟨v1, v2⟩ := hval s hc
    unfold ok
    rw [v1, v2]
    unfold prim
    by_cases h8 : s < 8
    · rw [if_pos h8]; omega
    · rw [if_neg h8]; omega
  · rw [hmem s hs1, (hs s hs1).1]
    by_cases hc : s < 8 ∨ (10 ≤ s ∧ s ≤ 25)
    · rw [if_pos hc]; exact ⟨fun _ => hc, fun _ => rfl⟩
    · rw [if_neg hc]; exact ⟨fun h => absurd h (by decide), fun h => absurd h hc⟩
  · obtain ⟨c1, c2, c3⟩ := g6 q hq
    have hc := (hmem q.2 (by omega)).mp (List.mem_map.mpr ⟨q, hq, rfl⟩)
    refine ⟨?_, Or.inl (by omega)⟩
    obtain ⟨v1, v2⟩ := hval q.2 hc
    rw [c3, (hs q.2 (by omega)).2]
    unfold xw
    rw [v1, v2]
    have hr : row (-1 - (q.2 : Int)) = q.2 := by unfold row; rw [if_pos (by omega)]; omega
    rw [hr]
    by_cases h8 : q.2 < 8
    · rw [if_pos h8, if_pos (by decide)]
    · rw [if_neg h8, if_pos (by decide)]
theorem hd_mxo (m : qm_S) (i v : Int32) : mxo (qm_t_headOf m i v) = mxo m ∧ qm_g_objects (qm_t_headOf m i v) = qm_g_objects m ∧ ∀ j, qm_g_headOf (qm_t_headOf m i v) j = if j = i.toInt.toNat then v else qm_g_headOf m j := ⟨rfl, rfl, fun _ => rfl⟩
theorem so_obj (m : qm_S) (v : Int32) : qm_g_objects (qm_s_objects m v) = v := rfl
/-- the reference's beginning -/
theorem begins (N : Nat) (hN : 5000 ≤ N) (m : qm_S) : ∃ m', qm_begin N m = some m' ∧ qm_g_objects m' = 0 ∧ (qm_g_headOf m' 0).toInt = -1 ∧ (∀ s, s < 100 → qm_g_isGround m' s = (if s < 8 ∨ (10 ≤ s ∧ s ≤ 25) then 1 else 0) ∧ qm_g_groundValue m' s = vI (if s < 8 then 5 else 6) (-1 - (s : Int))) ∧
    qm_g_values m' = 0 ∧ qm_g_present m' = -25 ∧ qm_g_limit m' = 1000 ∧ qm_g_steps m' = 0 ∧ qm_g_mostFrames m' = 0 := by
  unfold qm_begin
  have hb := so_obj m 0
  generalize qm_s_objects m 0 = m0 at *
  have e2 : mxo (qm_s_mostFrames (qm_s_steps (qm_s_present (qm_s_limit (qm_s_values m0 0) 1000) (-25)) 0) 0) = (qm_g_stack m0, 0, -25, 1000, 0, 0) := by
    unfold mxo
    simp only [gf_s_count, gf_s_most, gf_t_tasks, gf_t_environments, gf_t_rests, gf_t_helds, gf_t_gathereds, gn_s_argumentCount, gn_s_mode, gn_s_current, gn_s_operands, gn_s_environment, gn_s_steps, gn_s_limit, gn_s_failure, gn_t_arguments, gn_F, gn_T, gn_H, gm_s_values, gm_s_present, gm_s_limit, gm_s_steps, gm_s_mostFrames, gm_s_mode, gm_s_now, gm_s_operands, gm_s_around, gm_s_frames, gm_s_resultMany, gm_t_stack, gm_t_frameKind, gm_t_frameOne, gm_t_frameOther, gm_t_frameAround, gm_t_frameBase, gm_t_results]
  have e3 : mh (qm_s_mostFrames (qm_s_steps (qm_s_present (qm_s_limit (qm_s_values m0 0) 1000) (-25)) 0) 0) = mh m0 := by simp only [gf_s_count, gf_s_most, gf_t_tasks, gf_t_environments, gf_t_rests, gf_t_helds, gf_t_gathereds, gn_s_argumentCount, gn_s_mode, gn_s_current, gn_s_operands, gn_s_environment, gn_s_steps, gn_s_limit, gn_s_failure, gn_t_arguments, gn_F, gn_T, gn_H, gm_s_values, gm_s_present, gm_s_limit, gm_s_steps, gm_s_mostFrames, gm_s_mode, gm_s_now, gm_s_operands, gm_s_around, gm_s_frames, gm_s_resultMany, gm_t_stack, gm_t_frameKind, gm_t_frameOne, gm_t_frameOther, gm_t_frameAround, gm_t_frameBase, gm_t_results]
  have e4 := (mh_all e3).2.2.2.2.2.2.2.2.2
  rw [hb] at e4
  generalize qm_s_mostFrames (qm_s_steps (qm_s_present (qm_s_limit (qm_s_values m0 0) 1000) (-25)) 0) 0 = m1 at *
  obtain ⟨d1, d2, d3⟩ := hd_mxo m1 0 (-1)
  generalize qm_t_headOf m1 0 (-1) = m2 at *
  obtain ⟨m', f1, f2, f3⟩ := begin_aux N 100 0 N m2 0 (by omega) (by omega) (by decide) (fun s h => absurd h (Nat.not_lt_zero _))
  unfold mg at f2
  simp only [Prod.mk.injEq] at f2
  obtain ⟨q1, q2, q3⟩ := f2
  rw [d1, e2] at q3
  unfold mxo at q3
  simp only [Prod.mk.injEq] at q3
  obtain ⟨r1, r2, r3, r4, r5, r6⟩ := q3
  exact ⟨m', f1, by rw [q2, d2, e4], by rw [q1, d3, if_pos (by decide)]; decide, f3, r2, r3, r4, r5, r6⟩
/-- both at their beginning -/
theorem XR.zero {x : qx_S} {m : qm_S} (H : HR 0 (fun _ => 0) (qx_gH x) m) (x1 : qx_g_stackSize x = 0) (x2 : qx_g_present x = 1) (x3 : qx_g_limit x = 1000) (x4 : qn_g_steps (qx_gN x) = 0) (x5 : qf_g_most (qn_gF (qx_gN x)) = 0) (m1 : qm_g_values m = 0) (m2 : qm_g_present m = -25) (m3 : qm_g_limit m = 1000) (m4 : qm_g_steps m = 0) (m5 : qm_g_mostFrames m = 0) : XR 0 0 (fun _ => 0) x m := by
  unfold XR
  rw [x1, x2, x3, x4, x5, m1, m2, m3, m4, m5]
  exact ⟨H, ⟨by omega, by decide, rfl, fun j hj => absurd hj (Nat.not_lt_zero _)⟩, user_ok, ⟨rfl, by decide, by decide⟩, rfl, rfl⟩
theorem XR.reset {s n : Nat} {K : Nat → Nat} {x : qx_S} {m : qm_S} {N : Nat} (X : XR s n K x m) (hN : 5000 ≤ N) : ∃ p, qx_reset N x = some p ∧ GO p (qm_reset N m) := by
  have hc := X.heapSize
  unfold qx_heapSize qm_heapSize at hc
  unfold qx_reset qm_reset
  obtain ⟨h', g1, g2, g3⟩ := ground N hN (qx_gH x)
  obtain ⟨m', b1, b2, b3, b4, b5, b6, b7, b8, b9⟩ := begins N hN m
  rw [g1, b1, ob_, ob_, hc]
  exact ⟨_, rfl, m', 0, 0, _, rfl, XR.zero (HR.zero g2 g3 b2 b3 b4) rfl rfl rfl rfl rfl b5 b6 b7 b8 b9⟩
