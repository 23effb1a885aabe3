/-! ===== the two heaps: what corresponds to what ===== -/
def row (w : Int) : Int := if w < 0 then -1 - w else w + 100
def xw (v : Int64) : Int64 := if 4 ≤ kd v ∧ kd v ≤ 7 then vI (kd v) (row (wt v)) else v
def prim (p : Int) : Prop := (0 ≤ p ∧ p ≤ 7) ∨ (10 ≤ p ∧ p ≤ 25)
/-- a word that is a value, its objects below b -/
def ok (b : Nat) (K : Nat → Nat) (v : Int64) : Prop :=
  (kd v = 0 ∧ -1000000000000000 ≤ wt v ∧ wt v ≤ 1000000000000000) ∨ (kd v = 1 ∧ (wt v = 0 ∨ wt v = 1)) ∨ (kd v = 2 ∧ 0 ≤ wt v ∧ wt v < 100) ∨ (kd v = 3 ∧ wt v = 0) ∨ (kd v = 8 ∧ wt v = 0) ∨
  (4 ≤ kd v ∧ kd v ≤ 7 ∧ 0 ≤ wt v ∧ wt v < b ∧ K (wt v).toNat = kd v) ∨ (kd v = 5 ∧ prim (-1 - wt v)) ∨ (kd v = 6 ∧ 10 ≤ -1 - wt v ∧ -1 - wt v ≤ 25) ∨ (kd v = 7 ∧ (wt v = -1 ∨ wt v = -2))
theorem ok_mono {b b' : Nat} {K K' : Nat → Nat} {v : Int64} (h : ok b K v) (hb : b ≤ b') (hK : ∀ i, i < b → K' i = K i) : ok b' K' v := by
  unfold ok at h ⊢
  rcases h with h | h | h | h | h | ⟨h1, h2, h3, h4, h5⟩ | h | h | h
  · exact Or.inl h
  · exact Or.inr (Or.inl h)
  · exact Or.inr (Or.inr (Or.inl h))
  · exact Or.inr (Or.inr (Or.inr (Or.inl h)))
  · exact Or.inr (Or.inr (Or.inr (Or.inr (Or.inl h))))
  · exact Or.inr (Or.inr (Or.inr (Or.inr (Or.inr (Or.inl ⟨h1, h2, h3, by omega, by rw [hK _ (by omega)]; exact h5⟩)))))
  · exact Or.inr (Or.inr (Or.inr (Or.inr (Or.inr (Or.inr (Or.inl h))))))
  · exact Or.inr (Or.inr (Or.inr (Or.inr (Or.inr (Or.inr (Or.inr (Or.inl h)))))))
  · exact Or.inr (Or.inr (Or.inr (Or.inr (Or.inr (Or.inr (Or.inr (Or.inr h)))))))
/-- bounds of a value -/
theorem ok_b {b : Nat} {K : Nat → Nat} {v : Int64} (h : ok b K v) (hb : b ≤ 4000) : kd v ≤ 8 ∧ -1000000000000000 ≤ wt v ∧ wt v ≤ 1000000000000000 ∧ (4 ≤ kd v → kd v ≤ 7 → -26 ≤ wt v ∧ wt v < 4000) ∧ (kd v ≠ 0 → -26 ≤ wt v ∧ wt v < 4000) := by
  unfold ok prim at h
  omega
theorem row_b {w : Int} (h1 : -26 ≤ w) (h2 : w < 4000) : 0 ≤ row w ∧ row w < 4100 ∧ (w < 0 → row w < 26 ∧ row w = -1 - w) ∧ (0 ≤ w → row w = w + 100) := by
  unfold row; split <;> omega
theorem xw_kd {b : Nat} {K : Nat → Nat} {v : Int64} (h : ok b K v) (hb : b ≤ 4000) : kd (xw v) = kd v := by
  have h1 := ok_b h hb
  unfold xw
  split
  · rename_i h2
    have h3 := h1.2.2.2.1 h2.1 h2.2
    have h4 := row_b h3.1 h3.2
    exact vI_kd (by omega) (by omega) (by omega)
  · rfl
theorem xw_wt {b : Nat} {K : Nat → Nat} {v : Int64} (h : ok b K v) (hb : b ≤ 4000) : wt (xw v) = if 4 ≤ kd v ∧ kd v ≤ 7 then row (wt v) else wt v := by
  have h1 := ok_b h hb
  unfold xw
  split
  · rename_i h2
    have h3 := h1.2.2.2.1 h2.1 h2.2
    have h4 := row_b h3.1 h3.2
    exact vI_wt (by omega) (by omega) (by omega)
  · rfl
theorem xw_row {b : Nat} {K : Nat → Nat} {v : Int64} (h : ok b K v) (hb : b ≤ 4000) (h1 : 4 ≤ kd v) (h2 : kd v ≤ 7) : (qw_rowOf (xw v)).toInt = row (wt v) := by
  have h3 := (ok_b h hb).2.2.2.1 h1 h2
  have h4 := row_b h3.1 h3.2
  have h5 := xw_wt h hb
  rw [if_pos ⟨h1, h2⟩] at h5
  rw [qw_rowOf_wt (by omega) (by omega), h5]
theorem xw_same {v : Int64} (h : ¬ (4 ≤ kd v ∧ kd v ≤ 7)) : xw v = v := by unfold xw; rw [if_neg h]
theorem xw_inj {b : Nat} {K : Nat → Nat} {u v : Int64} (hu : ok b K u) (hv : ok b K v) (hb : b ≤ 4000) : xw u = xw v ↔ u = v := by
  constructor
  · intro e
    have e1 := congrArg kd e
    have e2 := congrArg wt e
    rw [xw_kd hu hb, xw_kd hv hb] at e1
    rw [xw_wt hu hb, xw_wt hv hb, e1] at e2
    refine kw_ext e1 ?_
    split at e2
    · rename_i h
      have h3 := (ok_b hu hb).2.2.2.1 (by omega) (by omega)
      have h4 := (ok_b hv hb).2.2.2.1 (by omega) (by omega)
      unfold row at e2
      split at e2 <;> split at e2 <;> omega
    · exact e2
  · rintro rfl; rfl
theorem ok_nil {b : Nat} {K : Nat → Nat} : ok b K 3 := Or.inr (Or.inr (Or.inr (Or.inl ⟨by decide, by decide⟩)))
theorem ok_inert {b : Nat} {K : Nat → Nat} : ok b K 8 := Or.inr (Or.inr (Or.inr (Or.inr (Or.inl ⟨by decide, by decide⟩))))
theorem kd3 {b : Nat} {K : Nat → Nat} {v : Int64} (h : ok b K v) : kd v = 3 ↔ v = 3 := by
  constructor
  · intro e
    have : wt v = 0 := by unfold ok prim at h; omega
    exact kw_ext (by rw [e]; decide) (by rw [this]; decide)
  · rintro rfl; decide
theorem kd8 {b : Nat} {K : Nat → Nat} {v : Int64} (h : ok b K v) : kd v = 8 ↔ v = 8 := by
  constructor
  · intro e
    have : wt v = 0 := by unfold ok prim at h; omega
    exact kw_ext (by rw [e]; decide) (by rw [this]; decide)
  · rintro rfl; decide
theorem xw3 : xw 3 = 3 := xw_same (by decide)
theorem xw8 : xw 8 = 8 := xw_same (by decide)
theorem xw_is3 {b : Nat} {K : Nat → Nat} {v : Int64} (h : ok b K v) (hb : b ≤ 4000) : xw v = 3 ↔ kd v = 3 := by
  rw [kd3 h, ← xw_inj h ok_nil hb, xw3]
theorem xw_is8 {b : Nat} {K : Nat → Nat} {v : Int64} (h : ok b K v) (hb : b ≤ 4000) : xw v = 8 ↔ kd v = 8 := by
  rw [kd8 h, ← xw_inj h ok_inert hb, xw8]
theorem mk0 {v : Int64} : qm_kindOf v = (0 : Int32) ↔ kd v = 0 := kind_eq (c := 0) (by decide)
theorem wk0 {v : Int64} : qw_kindOf v = (0 : Int32) ↔ kd v = 0 := kind_eq (c := 0) (by decide)
theorem xk0 {b : Nat} {K : Nat → Nat} {v : Int64} (h : ok b K v) (hb : b ≤ 4000) : qw_kindOf (xw v) = (0 : Int32) ↔ kd v = 0 := by rw [wk0, xw_kd h hb]
theorem mk1 {v : Int64} : qm_kindOf v = (1 : Int32) ↔ kd v = 1 := kind_eq (c := 1) (by decide)
theorem wk1 {v : Int64} : qw_kindOf v = (1 : Int32) ↔ kd v = 1 := kind_eq (c := 1) (by decide)
theorem xk1 {b : Nat} {K : Nat → Nat} {v : Int64} (h : ok b K v) (hb : b ≤ 4000) : qw_kindOf (xw v) = (1 : Int32) ↔ kd v = 1 := by rw [wk1, xw_kd h hb]
theorem mk2 {v : Int64} : qm_kindOf v = (2 : Int32) ↔ kd v = 2 := kind_eq (c := 2) (by decide)
theorem wk2 {v : Int64} : qw_kindOf v = (2 : Int32) ↔ kd v = 2 := kind_eq (c := 2) (by decide)
theorem xk2 {b : Nat} {K : Nat → Nat} {v : Int64} (h : ok b K v) (hb : b ≤ 4000) : qw_kindOf (xw v) = (2 : Int32) ↔ kd v = 2 := by rw [wk2, xw_kd h hb]
theorem mk3 {v : Int64} : qm_kindOf v = (3 : Int32) ↔ kd v = 3 := kind_eq (c := 3) (by decide)
theorem wk3 {v : Int64} : qw_kindOf v = (3 : Int32) ↔ kd v = 3 := kind_eq (c := 3) (by decide)
theorem xk3 {b : Nat} {K : Nat → Nat} {v : Int64} (h : ok b K v) (hb : b ≤ 4000) : qw_kindOf (xw v) = (3 : Int32) ↔ kd v = 3 := by rw [wk3, xw_kd h hb]
theorem mk4 {v : Int64} : qm_kindOf v = (4 : Int32) ↔ kd v = 4 := kind_eq (c := 4) (by decide)
theorem wk4 {v : Int64} : qw_kindOf v = (4 : Int32) ↔ kd v = 4 := kind_eq (c := 4) (by decide)
theorem xk4 {b : Nat} {K : Nat → Nat} {v : Int64} (h : ok b K v) (hb : b ≤ 4000) : qw_kindOf (xw v) = (4 : Int32) ↔ kd v = 4 := by rw [wk4, xw_kd h hb]
theorem mk5 {v : Int64} : qm_kindOf v = (5 : Int32) ↔ kd v = 5 := kind_eq (c := 5) (by decide)
theorem wk5 {v : Int64} : qw_kindOf v = (5 : Int32) ↔ kd v = 5 := kind_eq (c := 5) (by decide)
theorem xk5 {b : Nat} {K : Nat → Nat} {v : Int64} (h : ok b K v) (hb : b ≤ 4000) : qw_kindOf (xw v) = (5 : Int32) ↔ kd v = 5 := by rw [wk5, xw_kd h hb]
theorem mk6 {v : Int64} : qm_kindOf v = (6 : Int32) ↔ kd v = 6 := kind_eq (c := 6) (by decide)
theorem wk6 {v : Int64} : qw_kindOf v = (6 : Int32) ↔ kd v = 6 := kind_eq (c := 6) (by decide)
theorem xk6 {b : Nat} {K : Nat → Nat} {v : Int64} (h : ok b K v) (hb : b ≤ 4000) : qw_kindOf (xw v) = (6 : Int32) ↔ kd v = 6 := by rw [wk6, xw_kd h hb]
theorem mk7 {v : Int64} : qm_kindOf v = (7 : Int32) ↔ kd v = 7 := kind_eq (c := 7) (by decide)
theorem wk7 {v : Int64} : qw_kindOf v = (7 : Int32) ↔ kd v = 7 := kind_eq (c := 7) (by decide)
theorem xk7 {b : Nat} {K : Nat → Nat} {v : Int64} (h : ok b K v) (hb : b ≤ 4000) : qw_kindOf (xw v) = (7 : Int32) ↔ kd v = 7 := by rw [wk7, xw_kd h hb]
theorem mk8 {v : Int64} : qm_kindOf v = (8 : Int32) ↔ kd v = 8 := kind_eq (c := 8) (by decide)
theorem wk8 {v : Int64} : qw_kindOf v = (8 : Int32) ↔ kd v = 8 := kind_eq (c := 8) (by decide)
theorem xk8 {b : Nat} {K : Nat → Nat} {v : Int64} (h : ok b K v) (hb : b ≤ 4000) : qw_kindOf (xw v) = (8 : Int32) ↔ kd v = 8 := by rw [wk8, xw_kd h hb]
/-- where an object is -/
def ix (v : Int64) : Nat := (wt v).toNat
/-- a heap word's link: the row of a binding, and its number -/
def lnk (x j : Int) : Prop := (j = -1 ∧ x = -1) ∨ (0 ≤ j ∧ x = j + 100)
/-- a chain of bindings, by their numbers -/
def hch (K : Nat → Nat) (nx : Nat → Int32) : Nat → Int → List Nat → Prop
  | _, j, [] => j = -1
  | n, j, i :: L => j = i ∧ i < n ∧ K i = 9 ∧ hch K nx i (nx i).toInt L
/-- an environment's own bindings -/
def eh (n : Nat) (K : Nat → Nat) (m : qm_S) (x j : Int) : Prop :=
  lnk x j ∧ ∃ L, hch K (qm_g_nextOf m) n j L ∧ (L.map (fun i => (qm_g_symbolOf m i).toInt)).Nodup
/-- a parameter tree: its pairs, its symbols from left to right -/
def tr (f s : Nat → Int64) : Nat → Int64 → Nat → List Nat → Prop
  | 0, _, _, _ => False
  | d + 1, v, p, l => (kd v = 2 ∧ p = 0 ∧ l = [ix v]) ∨ ((kd v = 3 ∨ kd v = 8) ∧ p = 0 ∧ l = []) ∨ (kd v = 4 ∧ ∃ p1 l1 p2 l2, tr f s d (f (ix v)) p1 l1 ∧ tr f s d (s (ix v)) p2 l2 ∧ p = p1 + p2 + 1 ∧ l = l1 ++ l2)
def trok (f s : Nat → Int64) (v q : Int64) : Prop := ∃ d p l, tr f s d v p l ∧ p ≤ 100 ∧ l.Nodup ∧ (kd q = 2 → ix q ∉ l)
def psym (v : Int64) : Int := if kd v = 2 then wt v else 127
/-- what an object's row and its number hold, by its kind -/
def ob (n : Nat) (K : Nat → Nat) (h : qh_S) (m : qm_S) (i : Nat) : Prop :=
  (K i = 4 → qh_g_first h (100 + i) = xw (qm_g_first m i) ∧ qh_g_second h (100 + i) = xw (qm_g_second m i) ∧ ok i K (qm_g_first m i) ∧ ok i K (qm_g_second m i)) ∧
  (K i = 5 → (qh_g_first h (100 + i) = xw (qm_g_third m i) ∧ ok i K (qm_g_third m i)) ∧ (ok i K (qm_g_first m i) ∧ trok (qm_g_first m) (qm_g_second m) (qm_g_first m i) (qm_g_second m i)) ∧ (ok i K (qm_g_second m i) ∧ (kd (qm_g_second m i) = 2 ∨ kd (qm_g_second m i) = 8)) ∧ (ok i K (qm_g_fourth m i) ∧ kd (qm_g_fourth m i) = 7) ∧
    (qh_g_second h (100 + i)).toInt = ((xw (qm_g_first m i)).toInt * 128 + psym (qm_g_second m i)) * 8192 + row (wt (qm_g_fourth m i))) ∧
  (K i = 6 → qh_g_first h (100 + i) = xw (qm_g_first m i) ∧ ok i K (qm_g_first m i) ∧ (kd (qm_g_first m i) = 5 ∨ kd (qm_g_first m i) = 6)) ∧
  (K i = 7 → ((qm_g_first m i = -1 ∧ (qh_g_first h (100 + i)).toInt = -1) ∨ (ok i K (qm_g_first m i) ∧ kd (qm_g_first m i) = 7 ∧ (qh_g_first h (100 + i)).toInt = row (wt (qm_g_first m i)))) ∧ eh n K m (qh_g_second h (100 + i)).toInt (qm_g_headOf m (i + 2)).toInt) ∧
  (K i = 9 → qh_g_first h (100 + i) = xw (qm_g_first m i) ∧ ok n K (qm_g_first m i) ∧ (0 ≤ (qm_g_symbolOf m i).toInt ∧ (qm_g_symbolOf m i).toInt < 100) ∧ ∃ x, (qh_g_second h (100 + i)).toInt = x * 128 + (qm_g_symbolOf m i).toInt ∧ lnk x (qm_g_nextOf m i).toInt)
/-- the chain of the ground bindings: rows and symbols -/
def gch (S : Nat → Int64) : Nat → Int → List (Nat × Nat) → Prop
  | _, x, [] => x = -1
  | b, x, (r, s) :: L => x = r ∧ r < b ∧ 50 ≤ r ∧ s < 100 ∧ ∃ y, (S r).toInt = y * 128 + s ∧ gch S r y L
def gr (n : Nat) (K : Nat → Nat) (h : qh_S) (m : qm_S) : Prop :=
  (qh_g_first h 0).toInt = -1 ∧ (qh_g_first h 1).toInt = 0 ∧ eh n K m (qh_g_second h 1).toInt (qm_g_headOf m 0).toInt ∧ (∀ p : Nat, 10 ≤ p → p ≤ 25 → qh_g_first h p = vI 5 p) ∧
  (∀ s, s < 100 → (qm_g_isGround m s = 0 ∨ qm_g_isGround m s = 1) ∧ (qm_g_isGround m s = 1 → ok n K (qm_g_groundValue m s))) ∧
  ∃ L : List (Nat × Nat), gch (qh_g_second h) (n + 100) (qh_g_second h 0).toInt L ∧ (L.map (fun q => q.2)).Nodup ∧ (∀ s, s < 100 → (qm_g_isGround m s = 1 ↔ s ∈ L.map (fun q => q.2))) ∧ ∀ q ∈ L, qh_g_first h q.1 = xw (qm_g_groundValue m q.2) ∧ (q.1 < 100 ∨ K (q.1 - 100) = 10)
/-- the two heaps, with n objects of the kinds K -/
def HR (n : Nat) (K : Nat → Nat) (h : qh_S) (m : qm_S) : Prop :=
  (n ≤ 4000 ∧ (qh_g_nextRow h).toInt = n + 100 ∧ (qm_g_objects m).toInt = n) ∧ (∀ i, i < n → ob n K h m i) ∧ gr n K h m
/-- what of the reference's state its heap is -/
def mh (m : qm_S) : (Nat → Int64) × (Nat → Int64) × (Nat → Int64) × (Nat → Int64) × (Nat → Int32) × (Nat → Int32) × (Nat → Int32) × (Nat → Int32) × (Nat → Int64) × Int32 :=
  (qm_g_first m, qm_g_second m, qm_g_third m, qm_g_fourth m, qm_g_symbolOf m, qm_g_nextOf m, qm_g_headOf m, qm_g_isGround m, qm_g_groundValue m, qm_g_objects m)
theorem mh_all {m m' : qm_S} (e : mh m = mh m') : qm_g_first m = qm_g_first m' ∧ qm_g_second m = qm_g_second m' ∧ qm_g_third m = qm_g_third m' ∧ qm_g_fourth m = qm_g_fourth m' ∧ qm_g_symbolOf m = qm_g_symbolOf m' ∧ qm_g_nextOf m = qm_g_nextOf m' ∧ qm_g_headOf m = qm_g_headOf m' ∧ qm_g_isGround m = qm_g_isGround m' ∧ qm_g_groundValue m = qm_g_groundValue m' ∧ qm_g_objects m = qm_g_objects m' := by
  unfold mh at e
  simpa only [Prod.mk.injEq] using e
theorem HR.m {n : Nat} {K : Nat → Nat} {h : qh_S} {m m' : qm_S} (H : HR n K h m) (e : mh m = mh m') : HR n K h m' := by
  obtain ⟨e1, e2, e3, e4, e5, e6, e7, e8, e9, e0⟩ := mh_all e
  unfold HR ob gr eh at H ⊢
  rw [← e1, ← e2, ← e3, ← e4, ← e5, ← e6, ← e7, ← e8, ← e9, ← e0]
  exact H
section
variable {n : Nat} {K : Nat → Nat} {h : qh_S} {m : qm_S}
theorem HR.hn (H : HR n K h m) : n ≤ 4000 := H.1.1
theorem HR.hr (H : HR n K h m) : (qh_g_nextRow h).toInt = n + 100 := H.1.2.1
theorem HR.ho (H : HR n K h m) : (qm_g_objects m).toInt = n := H.1.2.2
theorem HR.hob (H : HR n K h m) {i : Nat} (hi : i < n) : ob n K h m i := H.2.1 i hi
theorem HR.hgr (H : HR n K h m) : gr n K h m := H.2.2
end
