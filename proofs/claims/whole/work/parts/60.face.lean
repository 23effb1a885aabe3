/-! ===== the two objects ===== -/
theorem gx_stackSize (σ : qx_S) (v : Int32) : qx_g_stack (qx_s_stackSize σ v) = qx_g_stack σ ∧ qx_g_stackSize (qx_s_stackSize σ v) = v ∧ qx_g_present (qx_s_stackSize σ v) = qx_g_present σ ∧ qx_g_limit (qx_s_stackSize σ v) = qx_g_limit σ ∧ qx_gN (qx_s_stackSize σ v) = qx_gN σ ∧ qx_gH (qx_s_stackSize σ v) = qx_gH σ := ⟨rfl, rfl, rfl, rfl, rfl, rfl⟩
theorem gx_present (σ : qx_S) (v : Int32) : qx_g_stack (qx_s_present σ v) = qx_g_stack σ ∧ qx_g_stackSize (qx_s_present σ v) = qx_g_stackSize σ ∧ qx_g_present (qx_s_present σ v) = v ∧ qx_g_limit (qx_s_present σ v) = qx_g_limit σ ∧ qx_gN (qx_s_present σ v) = qx_gN σ ∧ qx_gH (qx_s_present σ v) = qx_gH σ := ⟨rfl, rfl, rfl, rfl, rfl, rfl⟩
theorem gx_limit (σ : qx_S) (v : Int32) : qx_g_stack (qx_s_limit σ v) = qx_g_stack σ ∧ qx_g_stackSize (qx_s_limit σ v) = qx_g_stackSize σ ∧ qx_g_present (qx_s_limit σ v) = qx_g_present σ ∧ qx_g_limit (qx_s_limit σ v) = v ∧ qx_gN (qx_s_limit σ v) = qx_gN σ ∧ qx_gH (qx_s_limit σ v) = qx_gH σ := ⟨rfl, rfl, rfl, rfl, rfl, rfl⟩
theorem gx_stack (σ : qx_S) (i : Int32) (v : Int64) : qx_g_stack (qx_t_stack σ i v) = vp_updL (qx_g_stack σ) i.toInt.toNat v ∧ qx_g_stackSize (qx_t_stack σ i v) = qx_g_stackSize σ ∧ qx_g_present (qx_t_stack σ i v) = qx_g_present σ ∧ qx_g_limit (qx_t_stack σ i v) = qx_g_limit σ ∧ qx_gN (qx_t_stack σ i v) = qx_gN σ ∧ qx_gH (qx_t_stack σ i v) = qx_gH σ := ⟨rfl, rfl, rfl, rfl, rfl, rfl⟩
theorem gx_N (σ : qx_S) (v : qn_S) : qx_g_stack (qx_sN σ v) = qx_g_stack σ ∧ qx_g_stackSize (qx_sN σ v) = qx_g_stackSize σ ∧ qx_g_present (qx_sN σ v) = qx_g_present σ ∧ qx_g_limit (qx_sN σ v) = qx_g_limit σ ∧ qx_gN (qx_sN σ v) = v ∧ qx_gH (qx_sN σ v) = qn_gH v := ⟨rfl, rfl, rfl, rfl, rfl, rfl⟩
theorem gx_H (σ : qx_S) (v : qh_S) : qx_g_stack (qx_sH σ v) = qx_g_stack σ ∧ qx_g_stackSize (qx_sH σ v) = qx_g_stackSize σ ∧ qx_g_present (qx_sH σ v) = qx_g_present σ ∧ qx_g_limit (qx_sH σ v) = qx_g_limit σ ∧ qx_gN (qx_sH σ v) = qn_sH (qx_gN σ) v ∧ qx_gH (qx_sH σ v) = v := ⟨rfl, rfl, rfl, rfl, rfl, rfl⟩
/-- what of the objects is no heap -/
def xo (x : qx_S) : (Nat → Int64) × Int32 × Int32 × Int32 × Int32 × Int32 := (qx_g_stack x, qx_g_stackSize x, qx_g_present x, qx_g_limit x, qn_g_steps (qx_gN x), qf_g_most (qn_gF (qx_gN x)))
def mxo (m : qm_S) : (Nat → Int64) × Int32 × Int64 × Int32 × Int32 × Int32 := (qm_g_stack m, qm_g_values m, qm_g_present m, qm_g_limit m, qm_g_steps m, qm_g_mostFrames m)
def XR (s n : Nat) (K : Nat → Nat) (x : qx_S) (m : qm_S) : Prop :=
  HR n K (qx_gH x) m ∧ (s ≤ 40 ∧ (qm_g_values m).toInt = s ∧ qx_g_stackSize x = qm_g_values m ∧ ∀ j, j < s → qx_g_stack x j = xw (qm_g_stack m j) ∧ ok n K (qm_g_stack m j)) ∧
  envr n K (qx_g_present x) (qm_g_present m) ∧ (qx_g_limit x = qm_g_limit m ∧ 1 ≤ (qm_g_limit m).toInt ∧ (qm_g_limit m).toInt ≤ 1500) ∧ (qn_g_steps (qx_gN x) = qm_g_steps m ∧ qf_g_most (qn_gF (qx_gN x)) = qm_g_mostFrames m)
theorem mxo_of {m m' : qm_S} (e : mo m' = mo m) : mxo m' = mxo m := by
  unfold mo at e
  simp only [Prod.mk.injEq] at e
  unfold mxo
  rw [e.1, e.2.1, e.2.2.1, e.2.2.2.1, e.2.2.2.2.1, e.2.2.2.2.2.1]
/-- both answer alike, and correspond behind it -/
def GO (p : Int32 × qx_S) (r : Option (Int32 × qm_S)) : Prop := ∃ m' s' n' K', r = some (p.1, m') ∧ XR s' n' K' p.2 m'
section
variable {s n : Nat} {K : Nat → Nat} {x : qx_S} {m : qm_S}
theorem XR.to (X : XR s n K x m) {n' : Nat} {K' : Nat → Nat} {x' : qx_S} {m' : qm_S} (H : HR n' K' (qx_gH x') m') (E : Ext n K m n' K' m') (ex : xo x' = xo x) (em : mxo m' = mxo m) : XR s n' K' x' m' := by
  obtain ⟨X1, ⟨X2, X3, X4, X5⟩, X6, X7, X8⟩ := X
  unfold xo at ex
  unfold mxo at em
  simp only [Prod.mk.injEq] at ex em
  obtain ⟨a1, a2, a3, a4, a5, a6⟩ := ex
  obtain ⟨b1, b2, b3, b4, b5, b6⟩ := em
  unfold XR
  rw [a1, a2, a3, a4, a5, a6, b1, b2, b3, b4, b5, b6]
  exact ⟨H, ⟨X2, X3, X4, fun j hj => ⟨(X5 j hj).1, E.ok (X5 j hj).2⟩⟩, envr.ext E X6, X7, X8⟩
theorem XR.same (X : XR s n K x m) {m' : qm_S} (e : mh m' = mh m) (e2 : mxo m' = mxo m) : XR s n K x m' := X.to (X.1.of e) (Ext.refl e.symm) rfl e2
/-- an error: nothing has changed -/
theorem XR.err (X : XR s n K x m) (a : Int32) : GO (a, x) (some (a, m)) := ⟨m, s, n, K, rfl, X⟩
/-- a value of the stack -/
theorem XR.at (X : XR s n K x m) {a : Int32} {d : Nat} (ha : a.toInt = d) (hd : d < s) : ∃ w, qm_at m a = some w ∧ qx_valueAt x a = xw w ∧ ok n K w := by
  obtain ⟨X1, ⟨X2, X3, X4, X5⟩, -⟩ := X
  have h1 : (qm_g_values m - 1 - a).toInt = ((s - 1 - d : Nat) : Int) := by
    have : (qm_g_values m - 1).toInt = (s : Int) - 1 := by rw [i_sub] <;> simp only [Int32.reduceToInt] <;> omega
    rw [i_sub] <;> omega
  have h2 : Int32.toNatClampNeg (qm_g_values m - 1 - a) = s - 1 - d := by rw [i_clamp, h1, toNat_cast]
  obtain ⟨w1, w2⟩ := X5 (s - 1 - d) (by omega)
  refine ⟨qm_g_stack m (s - 1 - d), ?_, ?_, w2⟩
  · unfold qm_at
    rw [if_pos (inb_of (by omega) (by omega)), h2]
  · unfold qx_valueAt
    rw [X4]
    generalize qm_g_values m - 1 - a = y at h1 h2
    rw [if_neg (by ((try simp only [Int32.lt_iff_toInt_lt, Int32.le_iff_toInt_le, Int64.lt_iff_toInt_lt, Int64.le_iff_toInt_le, ← Int32.toInt_inj, ← Int64.toInt_inj, Int32.reduceToInt, Int64.reduceToInt] at *); omega)), if_neg (by ((try simp only [Int32.lt_iff_toInt_lt, Int32.le_iff_toInt_le, Int64.lt_iff_toInt_lt, Int64.le_iff_toInt_le, ← Int32.toInt_inj, ← Int64.toInt_inj, Int32.reduceToInt, Int64.reduceToInt] at *); omega)), h2, w1]
/-- the look at a depth -/
theorem XR.bar (X : XR s n K x m) (a : Int32) : (qx_depthError x a = -1 ∧ qm_depthBarred m a = -1 ∧ a.toInt < 0) ∨ (qx_depthError x a = -2 ∧ qm_depthBarred m a = -2 ∧ (s : Int) ≤ a.toInt) ∨ (∃ d, d < s ∧ a.toInt = (d : Nat) ∧ qx_depthError x a = 0 ∧ qm_depthBarred m a = 0) := by
  obtain ⟨X1, ⟨X2, X3, X4, X5⟩, -⟩ := X
  unfold qx_depthError qm_depthBarred
  rw [X4]
  by_cases h0 : (0 : Int32) ≤ a
  · rw [if_pos h0]
    have h0' : 0 ≤ a.toInt := by ((try simp only [Int32.lt_iff_toInt_lt, Int32.le_iff_toInt_le, Int64.lt_iff_toInt_lt, Int64.le_iff_toInt_le, ← Int32.toInt_inj, ← Int64.toInt_inj, Int32.reduceToInt, Int64.reduceToInt] at *); omega)
    by_cases h1 : a < qm_g_values m
    · have h1' : a.toInt < s := by ((try simp only [Int32.lt_iff_toInt_lt, Int32.le_iff_toInt_le, Int64.lt_iff_toInt_lt, Int64.le_iff_toInt_le, ← Int32.toInt_inj, ← Int64.toInt_inj, Int32.reduceToInt, Int64.reduceToInt] at *); omega)
      rw [if_pos h1]
      exact Or.inr (Or.inr ⟨a.toInt.toNat, by omega, by omega, rfl, rfl⟩)
    · have h1' : ¬ a.toInt < s := by ((try simp only [Int32.lt_iff_toInt_lt, Int32.le_iff_toInt_le, Int64.lt_iff_toInt_lt, Int64.le_iff_toInt_le, ← Int32.toInt_inj, ← Int64.toInt_inj, Int32.reduceToInt, Int64.reduceToInt] at *); omega)
      rw [if_neg h1]
      exact Or.inr (Or.inl ⟨rfl, rfl, by omega⟩)
  · have h0' : ¬ 0 ≤ a.toInt := by ((try simp only [Int32.lt_iff_toInt_lt, Int32.le_iff_toInt_le, Int64.lt_iff_toInt_lt, Int64.le_iff_toInt_le, ← Int32.toInt_inj, ← Int64.toInt_inj, Int32.reduceToInt, Int64.reduceToInt] at *); omega)
    rw [if_neg h0]
    exact Or.inl ⟨rfl, rfl, by omega⟩
/-- a value pushed by both -/
theorem XR.push (X : XR s n K x m) {v : Int64} (hv : ok n K v) : GO (qx_push x (xw v)) (qm_pushes m v) := by
  obtain ⟨X1, ⟨X2, X3, X4, X5⟩, X6, X7, X8⟩ := id X
  unfold qx_push qm_pushes
  rw [X4]
  by_cases h40 : s = 40
  · rw [if_neg (by ((try simp only [Int32.lt_iff_toInt_lt, Int32.le_iff_toInt_le, Int64.lt_iff_toInt_lt, Int64.le_iff_toInt_le, ← Int32.toInt_inj, ← Int64.toInt_inj, Int32.reduceToInt, Int64.reduceToInt] at *); omega)), if_neg (by ((try simp only [Int32.lt_iff_toInt_lt, Int32.le_iff_toInt_le, Int64.lt_iff_toInt_lt, Int64.le_iff_toInt_le, ← Int32.toInt_inj, ← Int64.toInt_inj, Int32.reduceToInt, Int64.reduceToInt] at *); omega)), if_pos (by ((try simp only [Int32.lt_iff_toInt_lt, Int32.le_iff_toInt_le, Int64.lt_iff_toInt_lt, Int64.le_iff_toInt_le, ← Int32.toInt_inj, ← Int64.toInt_inj, Int32.reduceToInt, Int64.reduceToInt] at *); omega))]
    exact X.err _
  · rw [if_neg (by ((try simp only [Int32.lt_iff_toInt_lt, Int32.le_iff_toInt_le, Int64.lt_iff_toInt_lt, Int64.le_iff_toInt_le, ← Int32.toInt_inj, ← Int64.toInt_inj, Int32.reduceToInt, Int64.reduceToInt] at *); omega)), if_pos (by ((try simp only [Int32.lt_iff_toInt_lt, Int32.le_iff_toInt_le, Int64.lt_iff_toInt_lt, Int64.le_iff_toInt_le, ← Int32.toInt_inj, ← Int64.toInt_inj, Int32.reduceToInt, Int64.reduceToInt] at *); omega)), if_neg (by ((try simp only [Int32.lt_iff_toInt_lt, Int32.le_iff_toInt_le, Int64.lt_iff_toInt_lt, Int64.le_iff_toInt_le, ← Int32.toInt_inj, ← Int64.toInt_inj, Int32.reduceToInt, Int64.reduceToInt] at *); omega)), if_pos (inb_of (by omega) (by omega))]
    have e1 : mh (qm_s_values (qm_t_stack m (qm_g_values m) v) (qm_g_values m + 1)) = mh m := by simp only [gf_s_count, gf_s_most, gf_t_tasks, gf_t_environments, gf_t_rests, gf_t_helds, gf_t_gathereds, gn_s_argumentCount, gn_s_mode, gn_s_current, gn_s_operands, gn_s_environment, gn_s_steps, gn_s_limit, gn_s_failure, gn_t_arguments, gn_F, gn_T, gn_H, gm_s_values, gm_s_present, gm_s_limit, gm_s_steps, gm_s_mostFrames, gm_s_mode, gm_s_now, gm_s_operands, gm_s_around, gm_s_frames, gm_s_resultMany, gm_t_stack, gm_t_frameKind, gm_t_frameOne, gm_t_frameOther, gm_t_frameAround, gm_t_frameBase, gm_t_results]
    refine ⟨_, s + 1, n, K, rfl, ?_⟩
    have hs1 : (qm_g_values m + 1).toInt = ((s + 1 : Nat) : Int) := by rw [i_add] <;> simp only [Int32.reduceToInt] <;> omega
    have HH : HR n K (qx_gH x) (qm_s_values (qm_t_stack m (qm_g_values m) v) (qm_g_values m + 1)) := X1.of e1
    unfold XR
    simp only [gx_stackSize, gx_stack, gf_s_count, gf_s_most, gf_t_tasks, gf_t_environments, gf_t_rests, gf_t_helds, gf_t_gathereds, gn_s_argumentCount, gn_s_mode, gn_s_current, gn_s_operands, gn_s_environment, gn_s_steps, gn_s_limit, gn_s_failure, gn_t_arguments, gn_F, gn_T, gn_H, gm_s_values, gm_s_present, gm_s_limit, gm_s_steps, gm_s_mostFrames, gm_s_mode, gm_s_now, gm_s_operands, gm_s_around, gm_s_frames, gm_s_resultMany, gm_t_stack, gm_t_frameKind, gm_t_frameOne, gm_t_frameOther, gm_t_frameAround, gm_t_frameBase, gm_t_results]
    refine ⟨HH, ⟨by omega, hs1, trivial, fun j hj => ?_⟩, X6, X7, X8⟩
    rw [X3, toNat_cast]
    show (if j = s then xw v else qx_g_stack x j) = xw (if j = s then v else qm_g_stack m j) ∧ ok n K (if j = s then v else qm_g_stack m j)
    by_cases hjs : j = s
    · rw [if_pos hjs, if_pos hjs]; exact ⟨rfl, hv⟩
    · rw [if_neg hjs, if_neg hjs]; exact X5 j (by omega)
theorem GO.fin {p : Int32 × qx_S} {r : Option (Int32 × qm_S)} (G : GO p r) : GO (p.1, p.2) (r.bind fun q => some (q.1, q.2)) := by
  obtain ⟨m', s', n', K', rfl, h⟩ := G
  exact ⟨m', s', n', K', rfl, h⟩
theorem envr_xw {y : Int32} {e : Int64} (he : envr n K y e) (hn : n ≤ 4000) : qw_make 7 (Int32.toInt64 y) = xw e := by
  have hb := (ok_b he.1 hn).2.2.2.1 (by have := he.2.1; omega) (by have := he.2.1; omega)
  rw [mk_vI (c := 7) (by decide) (by decide) he.2.2]
  unfold xw
  rw [he.2.1, if_pos (by decide)]
theorem tru_any (a : Int32) : ok n K (qm_truth a) ∧ xw (qm_truth a) = qw_makeBoolean a := by
  by_cases h : a = 0
  · rw [h]; exact tru0
  · have e1 : qm_truth a = qm_truth 1 := by unfold qm_truth; rw [if_neg h, if_neg (by decide)]
    have e2 : qw_makeBoolean a = qw_makeBoolean 1 := by unfold qw_makeBoolean; rw [if_neg h, if_neg (by decide)]
    rw [e1, e2]; exact tru1
theorem sym_ok {a : Int32} (h : 0 ≤ a.toInt ∧ a.toInt < 100) : ok n K (qm_made 2 (Int32.toInt64 a)) ∧ xw (qm_made 2 (Int32.toInt64 a)) = qw_make 2 (Int32.toInt64 a) := by
  have ht := i_toL a
  have e : qm_made 2 (Int32.toInt64 a) = vI 2 a.toInt := by rw [made_vI (k := 2) (by decide) (by omega) (by omega), ht]; rfl
  have k2 : kd (qm_made 2 (Int32.toInt64 a)) = 2 := by rw [e]; exact vI_kd (by decide) (by omega) (by omega)
  have w2 : wt (qm_made 2 (Int32.toInt64 a)) = a.toInt := by rw [e]; exact vI_wt (by decide) (by omega) (by omega)
  refine ⟨Or.inr (Or.inr (Or.inl ⟨k2, by omega, by omega⟩)), ?_⟩
  rw [xw_same (by omega), make_made _ (by decide)]
theorem within_i {a : Int32} {lo hi : Int64} {l h : Int} (e1 : lo.toInt = l) (e2 : hi.toInt = h) : qm_within (Int32.toInt64 a) lo hi = if l ≤ a.toInt ∧ a.toInt ≤ h then 1 else 0 := by
  have ht := i_toL a
  unfold qm_within
  by_cases h1 : Int32.toInt64 a < lo
  · rw [if_pos h1, if_neg]
    rw [Int64.lt_iff_toInt_lt] at h1
    omega
  · rw [if_neg h1]
    rw [Int64.lt_iff_toInt_lt] at h1
    by_cases h2 : hi < Int32.toInt64 a
    · rw [if_pos h2, if_neg]
      rw [Int64.lt_iff_toInt_lt] at h2
      omega
    · rw [if_neg h2, if_pos]
      rw [Int64.lt_iff_toInt_lt] at h2
      omega
theorem isSymbol_i (a : Int32) : qw_isSymbol a = if 0 ≤ a.toInt ∧ a.toInt ≤ 99 then 1 else 0 := by
  unfold qw_isSymbol
  by_cases h1 : a < 0
  · have : a.toInt < 0 := by ((try simp only [Int32.lt_iff_toInt_lt, Int32.le_iff_toInt_le, Int64.lt_iff_toInt_lt, Int64.le_iff_toInt_le, ← Int32.toInt_inj, ← Int64.toInt_inj, Int32.reduceToInt, Int64.reduceToInt] at *); omega)
    rw [if_pos h1, if_neg (by omega)]
  · have : ¬ a.toInt < 0 := by ((try simp only [Int32.lt_iff_toInt_lt, Int32.le_iff_toInt_le, Int64.lt_iff_toInt_lt, Int64.le_iff_toInt_le, ← Int32.toInt_inj, ← Int64.toInt_inj, Int32.reduceToInt, Int64.reduceToInt] at *); omega)
    rw [if_neg h1]
    by_cases h2 : (100 : Int32) ≤ a
    · have : 100 ≤ a.toInt := by ((try simp only [Int32.lt_iff_toInt_lt, Int32.le_iff_toInt_le, Int64.lt_iff_toInt_lt, Int64.le_iff_toInt_le, ← Int32.toInt_inj, ← Int64.toInt_inj, Int32.reduceToInt, Int64.reduceToInt] at *); omega)
      rw [if_pos h2, if_neg (by omega)]
    · have : ¬ 100 ≤ a.toInt := by ((try simp only [Int32.lt_iff_toInt_lt, Int32.le_iff_toInt_le, Int64.lt_iff_toInt_lt, Int64.le_iff_toInt_le, ← Int32.toInt_inj, ← Int64.toInt_inj, Int32.reduceToInt, Int64.reduceToInt] at *); omega)
      rw [if_neg h2, if_pos (by omega)]
/-! ===== pushing ===== -/
theorem XR.pushInteger (X : XR s n K x m) (v : Int64) : GO (qx_pushInteger x v) (qm_pushInteger m v) := by
  have e : qm_within v (-1000000000000000) 1000000000000000 = qw_isInteger v := rfl
  unfold qx_pushInteger qm_pushInteger
  rw [e]
  by_cases h : qw_isInteger v = 0
  · rw [if_pos h, if_pos h]; exact X.err _
  · obtain ⟨v1, v2⟩ := int_ok (n := n) (K := K) h
    rw [if_neg h, if_neg h, ← v2]
    exact (X.push v1).fin
theorem XR.pushBoolean (X : XR s n K x m) (a : Int32) : GO (qx_pushBoolean x a) (qm_pushBoolean m a) := by
  obtain ⟨v1, v2⟩ := tru_any (n := n) (K := K) a
  unfold qx_pushBoolean qm_pushBoolean
  rw [← v2]
  exact (X.push v1).fin
theorem XR.pushSymbol (X : XR s n K x m) (a : Int32) : GO (qx_pushSymbol x a) (qm_pushSymbol m a) := by
  unfold qx_pushSymbol qm_pushSymbol
  rw [within_i (l := 0) (h := 99) (by decide) (by decide), isSymbol_i]
  by_cases h : 0 ≤ a.toInt ∧ a.toInt ≤ 99
  · obtain ⟨v1, v2⟩ := sym_ok (n := n) (K := K) (a := a) (by omega)
    rw [if_pos h, if_neg (by decide), if_neg (by decide), ← v2]
    exact (X.push v1).fin
  · rw [if_neg h, if_pos rfl, if_pos rfl]; exact X.err _
theorem XR.pushEmpty (X : XR s n K x m) (a : Int32) : GO (qx_pushEmpty x a) (qm_pushEmpty m a) := by
  unfold qx_pushEmpty qm_pushEmpty
  by_cases h : a = 0
  · rw [if_pos h, if_pos h]
    have := (X.push (v := 3) ok_nil).fin
    rw [xw3] at this
    exact this
  · rw [if_neg h, if_neg h]
    have := (X.push (v := 8) ok_inert).fin
    rw [xw8] at this
    exact this
theorem XR.pushEnvironment (X : XR s n K x m) : GO (qx_pushEnvironment x) (qm_pushEnvironment m) := by
  unfold qx_pushEnvironment qm_pushEnvironment
  rw [envr_xw X.2.2.1 X.1.hn]
  exact (X.push X.2.2.1.1).fin
theorem XR.pushCopy (X : XR s n K x m) (a : Int32) : GO (qx_pushCopy x a) (qm_pushCopy m a) := by
  unfold qx_pushCopy qm_pushCopy
  rcases X.bar a with ⟨h1, h2, -⟩ | ⟨h1, h2, -⟩ | ⟨d, hd, ha, h1, h2⟩
  · rw [h1, h2, if_neg (by decide), if_neg (by decide)]; exact X.err _
  · rw [h1, h2, if_neg (by decide), if_neg (by decide)]; exact X.err _
  · obtain ⟨w, w1, w2, w3⟩ := X.at ha hd
    rw [h1, h2, if_pos rfl, if_pos (by decide), w1, w2, ob_]
    exact (X.push w3).fin
end
