/-! ===== the objects that programs make ===== -/
/-- what of the reference's state heap functions leave as it was -/
def mo (m : qm_S) : Int32 × (Nat → Int64) × Int64 × Int32 × Int32 × Int32 × Int32 × Int64 × Int64 × Int64 × Int32 × (Nat → Int32) × (Nat → Int64) × (Nat → Int64) × (Nat → Int64) × (Nat → Int32) × (Nat → Int64) × Int32 :=
  (qm_g_values m, qm_g_stack m, qm_g_present m, qm_g_limit m, qm_g_steps m, qm_g_mostFrames m, qm_g_mode m, qm_g_now m, qm_g_operands m, qm_g_around m, qm_g_frames m, qm_g_frameKind m, qm_g_frameOne m, qm_g_frameOther m, qm_g_frameAround m, qm_g_frameBase m, qm_g_results m, qm_g_resultMany m)
def mb (m : qm_S) : (Nat → Int32) × (Nat → Int64) × Int32 := (qm_g_boundSymbol m, qm_g_boundValue m, qm_g_bound m)
def madd (m : qm_S) (a b : Int64) : qm_S := qm_s_objects (qm_t_second (qm_t_first m (qm_g_objects m) a) (qm_g_objects m) b) (qm_g_objects m + 1)
theorem madd_mo (m : qm_S) (a b : Int64) : mo (madd m a b) = mo m ∧ mb (madd m a b) = mb m := ⟨rfl, rfl⟩
def hadd (h : qh_S) (a b : Int64) : qh_S := qh_s_nextRow (qh_t_second (qh_t_first h (qh_g_nextRow h) a) (qh_g_nextRow h) b) (qh_g_nextRow h + 1)
theorem mk_vI {k r : Int32} {z : Int} {c : Nat} (hk : k.toInt = c) (hc : c < 16) (hr : r.toInt = z) : qw_make k (Int32.toInt64 r) = vI c z := by
  have hb := i_bound r
  rw [make_made _ (by omega), made_vI (by omega) (by rw [i_toL]; omega) (by rw [i_toL]; omega), i_toL, hr, hk]
  rfl
theorem xw_obj {k : Nat} {z : Int} (hk : 4 ≤ k ∧ k ≤ 7) (h1 : -26 ≤ z) (h2 : z < 4000) : xw (vI k z) = vI k (row z) := by
  unfold xw
  rw [vI_kd (by omega) (by omega) (by omega), vI_wt (by omega) (by omega) (by omega), if_pos hk]
theorem ok_new {n k : Nat} {K : Nat → Nat} (hk : 4 ≤ k ∧ k ≤ 7) (hn : n < 4000) : ok (n + 1) (updK K n k) (vI k n) ∧ kd (vI k n) = k ∧ wt (vI k n) = n := by
  have e1 := vI_kd (k := k) (z := n) (by omega) (by omega) (by omega)
  have e2 := vI_wt (k := k) (z := n) (by omega) (by omega) (by omega)
  refine ⟨?_, e1, e2⟩
  unfold ok
  rw [e1, e2]
  refine Or.inr (Or.inr (Or.inr (Or.inr (Or.inr (Or.inl ⟨by omega, by omega, by omega, by omega, ?_⟩)))))
  exact updK_n
section
variable {n b : Nat} {K : Nat → Nat} {h : qh_S} {m : qm_S} {v e : Int64}
theorem HR.full_m (H : HR n K h m) : qm_isFull m = if n = 4000 then 1 else 0 := by
  have h1 := H.ho
  unfold qm_isFull
  by_cases h2 : n = 4000
  · rw [if_pos (i_ext (by rw [h1, h2]; rfl)), if_pos h2]
  · rw [if_neg (fun e => h2 (by have := congrArg Int32.toInt e; rw [h1] at this; simp only [Int32.reduceToInt] at this; omega)), if_neg h2]
theorem HR.nf (H : HR n K h m) (hn : n < 4000) : qm_isFull m = 0 := by rw [H.full_m, if_neg (by omega)]
theorem HR.fl (H : HR n K h m) (hn : n = 4000) : qm_isFull m = 1 := by rw [H.full_m, if_pos hn]
theorem HR.add_full (H : HR n K h m) (hn : n = 4000) (a c : Int64) : qh_add h a c = (-1, h) := by
  have h1 := H.hr
  unfold qh_add
  rw [if_neg (by ((try simp only [Int32.lt_iff_toInt_lt, Int32.le_iff_toInt_le, Int64.lt_iff_toInt_lt, Int64.le_iff_toInt_le, ← Int32.toInt_inj, ← Int64.toInt_inj, Int32.reduceToInt, Int64.reduceToInt] at *); omega)), if_neg (by ((try simp only [Int32.lt_iff_toInt_lt, Int32.le_iff_toInt_le, Int64.lt_iff_toInt_lt, Int64.le_iff_toInt_le, ← Int32.toInt_inj, ← Int64.toInt_inj, Int32.reduceToInt, Int64.reduceToInt] at *); omega))]
theorem HR.add_ok (H : HR n K h m) (hn : n < 4000) (a c : Int64) : qh_add h a c = (qh_g_nextRow h, hadd h a c) := by
  have h1 := H.hr
  unfold qh_add
  rw [if_neg (by ((try simp only [Int32.lt_iff_toInt_lt, Int32.le_iff_toInt_le, Int64.lt_iff_toInt_lt, Int64.le_iff_toInt_le, ← Int32.toInt_inj, ← Int64.toInt_inj, Int32.reduceToInt, Int64.reduceToInt] at *); omega)), if_pos (by ((try simp only [Int32.lt_iff_toInt_lt, Int32.le_iff_toInt_le, Int64.lt_iff_toInt_lt, Int64.le_iff_toInt_le, ← Int32.toInt_inj, ← Int64.toInt_inj, Int32.reduceToInt, Int64.reduceToInt] at *); omega))]
  rfl
theorem HR.hadd_f (H : HR n K h m) (hn : n < 4000) (a c : Int64) (r : Nat) : qh_g_first (hadd h a c) r = if r = n + 100 then a else qh_g_first h r := by
  have h1 := H.hr
  show (if r = (Int32.toNatClampNeg (qh_g_nextRow h)) then a else _) = _
  rw [i_clamp, h1]; rfl
theorem HR.hadd_s (H : HR n K h m) (hn : n < 4000) (a c : Int64) (r : Nat) : qh_g_second (hadd h a c) r = if r = n + 100 then c else qh_g_second h r := by
  have h1 := H.hr
  show (if r = (Int32.toNatClampNeg (qh_g_nextRow h)) then c else _) = _
  rw [i_clamp, h1]; rfl
theorem HR.hadd_n (H : HR n K h m) (hn : n < 4000) (a c : Int64) : (qh_g_nextRow (hadd h a c)).toInt = n + 101 := by
  have h1 := H.hr
  show (qh_g_nextRow h + 1).toInt = _
  rw [i_add] <;> simp only [Int32.reduceToInt] <;> omega
theorem HR.madd_f (H : HR n K h m) (a c : Int64) (i : Nat) : qm_g_first (madd m a c) i = if i = n then a else qm_g_first m i := by
  have h1 := H.ho
  show (if i = (Int32.toNatClampNeg (qm_g_objects m)) then a else _) = _
  rw [i_clamp, h1]; rfl
theorem HR.madd_s (H : HR n K h m) (a c : Int64) (i : Nat) : qm_g_second (madd m a c) i = if i = n then c else qm_g_second m i := by
  have h1 := H.ho
  show (if i = (Int32.toNatClampNeg (qm_g_objects m)) then c else _) = _
  rw [i_clamp, h1]; rfl
theorem HR.madd_n (H : HR n K h m) (hn : n < 4000) (a c : Int64) : (qm_g_objects (madd m a c)).toInt = n + 1 := by
  have h1 := H.ho
  show (qm_g_objects m + 1).toInt = _
  rw [i_add] <;> simp only [Int32.reduceToInt] <;> omega
theorem adds_ok {m : qm_S} {n : Nat} (ho : (qm_g_objects m).toInt = n) (hn : n < 4000) {k : Int32} {c : Nat} (hk : k.toInt = c) (hc : c < 16) (a d : Int64) : qm_adds m k a d = some (vI c n, madd m a d) := by
  have e : (qm_g_objects m + 1 - 1) = qm_g_objects m := by
    apply i_ext; rw [i_sub, i_add] <;> (try rw [i_add]) <;> simp only [Int32.reduceToInt] <;> omega
  unfold qm_adds
  rw [if_pos (inb_of (by omega) (by omega)), if_pos (inb_of (by omega) (by omega)), e, made_vI (by omega) (by rw [i_toL]; omega) (by rw [i_toL]; omega), i_toL, hk, ho]
  rfl
theorem HR.hadd_at (H : HR n K h m) (hn : n < 4000) (a c : Int64) : qh_g_first (hadd h a c) (100 + n) = a ∧ qh_g_second (hadd h a c) (100 + n) = c := ⟨by rw [H.hadd_f hn, if_pos (by omega)], by rw [H.hadd_s hn, if_pos (by omega)]⟩
theorem HR.madd_at (H : HR n K h m) (a c : Int64) : qm_g_first (madd m a c) n = a ∧ qm_g_second (madd m a c) n = c := ⟨by rw [H.madd_f, if_pos rfl], by rw [H.madd_s, if_pos rfl]⟩
/-- a new pair -/
theorem HR.newPair (H : HR n K h m) (hn : n < 4000) {a c : Int64} (ha : ok n K a) (hc : ok n K c) :
    HR (n + 1) (updK K n 4) (hadd h (xw a) (xw c)) (madd m a c) ∧ Ext n K m (n + 1) (updK K n 4) (madd m a c) := by
  refine H.new (by decide) hn (fun r hr => by rw [H.hadd_f hn, if_neg hr]) (fun r hr => by rw [H.hadd_s hn, if_neg hr]) (H.hadd_n hn _ _) (fun i hi => by rw [H.madd_f, if_neg hi]) (fun i hi => by rw [H.madd_s, if_neg hi]) (fun _ _ => rfl) (fun _ _ => rfl) rfl rfl (fun _ _ => rfl) rfl rfl (H.madd_n hn _ _) (fun E => ?_)
  refine ⟨fun _ => ?_, fun h => absurd (updK_n.symm.trans h) (by decide), fun h => absurd (updK_n.symm.trans h) (by decide), fun h => absurd (updK_n.symm.trans h) (by decide), fun h => absurd (updK_n.symm.trans h) (by decide)⟩
  rw [(H.hadd_at hn _ _).1, (H.hadd_at hn _ _).2, (H.madd_at _ _).1, (H.madd_at _ _).2]
  exact ⟨rfl, rfl, ok_mono ha (Nat.le_refl _) updK_lt, ok_mono hc (Nat.le_refl _) updK_lt⟩
/-- a new applicative -/
theorem HR.newApp (H : HR n K h m) (hn : n < 4000) {a : Int64} (ha : ok n K a) (hk : kd a = 5 ∨ kd a = 6) :
    HR (n + 1) (updK K n 6) (hadd h (xw a) 0) (madd m a 0) ∧ Ext n K m (n + 1) (updK K n 6) (madd m a 0) := by
  refine H.new (by decide) hn (fun r hr => by rw [H.hadd_f hn, if_neg hr]) (fun r hr => by rw [H.hadd_s hn, if_neg hr]) (H.hadd_n hn _ _) (fun i hi => by rw [H.madd_f, if_neg hi]) (fun i hi => by rw [H.madd_s, if_neg hi]) (fun _ _ => rfl) (fun _ _ => rfl) rfl rfl (fun _ _ => rfl) rfl rfl (H.madd_n hn _ _) (fun E => ?_)
  refine ⟨fun h => absurd (updK_n.symm.trans h) (by decide), fun h => absurd (updK_n.symm.trans h) (by decide), fun _ => ?_, fun h => absurd (updK_n.symm.trans h) (by decide), fun h => absurd (updK_n.symm.trans h) (by decide)⟩
  rw [(H.hadd_at hn _ _).1, (H.madd_at _ _).1]
  exact ⟨rfl, ok_mono ha (Nat.le_refl _) updK_lt, hk⟩
/-- a new environment -/
def menv (m : qm_S) (p : Int64) : qm_S := madd (qm_t_headOf m (qm_g_objects m + 2) (-1)) p 0
theorem menv_mo (m : qm_S) (p : Int64) : mo (menv m p) = mo m ∧ mb (menv m p) = mb m := ⟨rfl, rfl⟩
theorem HR.env_ok (H : HR n K h m) (hn : n < 4000) (p : Int64) : qm_addsEnvironment m p = some (vI 7 n, menv m p) := by
  have h1 := H.ho
  have h2 : (qm_g_objects m + 2).toInt = n + 2 := by rw [i_add] <;> simp only [Int32.reduceToInt] <;> omega
  unfold qm_addsEnvironment
  rw [if_pos (inb_of (by omega) (by omega)), adds_ok (m := qm_t_headOf m (qm_g_objects m + 2) (-1)) (c := 7) (n := n) h1 hn (by decide) (by decide), ob_]
  rfl
/-- a parent, or none -/
def pa (p : Int64) : Int := if p = -1 then -1 else row (wt p)
theorem HR.newEnv (H : HR n K h m) (hn : n < 4000) {p : Int64} (hp : p = -1 ∨ (ok n K p ∧ kd p = 7)) {x : Int32} (hx : x.toInt = pa p) :
    HR (n + 1) (updK K n 7) (hadd h (Int32.toInt64 x) (-1)) (menv m p) ∧ Ext n K m (n + 1) (updK K n 7) (menv m p) := by
  have h1 := H.ho
  have h2 : (qm_g_objects m + 2).toInt = n + 2 := by rw [i_add] <;> simp only [Int32.reduceToInt] <;> omega
  have H2 : HR n K h m := H
  have f1 : ∀ i, qm_g_first (menv m p) i = if i = n then p else qm_g_first m i := by
    intro i
    show (if i = (Int32.toNatClampNeg (qm_g_objects m)) then p else _) = _
    rw [i_clamp, h1]; rfl
  have f2 : ∀ i, qm_g_second (menv m p) i = if i = n then 0 else qm_g_second m i := by
    intro i
    show (if i = (Int32.toNatClampNeg (qm_g_objects m)) then (0 : Int64) else _) = _
    rw [i_clamp, h1]; rfl
  have f3 : ∀ i, qm_g_headOf (menv m p) i = if i = n + 2 then -1 else qm_g_headOf m i := by
    intro i
    show (if i = (Int32.toNatClampNeg (qm_g_objects m + 2)) then (-1 : Int32) else _) = _
    rw [i_clamp, h2]; rfl
  have f4 : (qm_g_objects (menv m p)).toInt = n + 1 := by
    show (qm_g_objects m + 1).toInt = _
    rw [i_add] <;> simp only [Int32.reduceToInt] <;> omega
  refine H.new (by decide) hn (fun r hr => by rw [H.hadd_f hn, if_neg hr]) (fun r hr => by rw [H.hadd_s hn, if_neg hr]) (H.hadd_n hn _ _) (fun i hi => by rw [f1, if_neg hi]) (fun i hi => by rw [f2, if_neg hi]) (fun _ _ => rfl) (fun _ _ => rfl) rfl rfl (fun i hi => by rw [f3, if_neg hi]) rfl rfl f4 (fun E => ?_)
  refine ⟨fun h => absurd (updK_n.symm.trans h) (by decide), fun h => absurd (updK_n.symm.trans h) (by decide), fun h => absurd (updK_n.symm.trans h) (by decide), fun _ => ?_, fun h => absurd (updK_n.symm.trans h) (by decide)⟩
  rw [(H.hadd_at hn _ _).1, (H.hadd_at hn _ _).2, show qm_g_first (menv m p) n = p by rw [f1, if_pos rfl], show qm_g_headOf (menv m p) (n + 2) = -1 by rw [f3, if_pos rfl], i_toL, hx]
  refine ⟨?_, Or.inl ⟨by decide, by decide⟩, [], by show (-1 : Int32).toInt = -1; decide, List.nodup_nil⟩
  unfold pa
  rcases hp with rfl | ⟨p1, p2⟩
  · exact Or.inl ⟨rfl, by rw [if_pos rfl]⟩
  · exact Or.inr ⟨ok_mono p1 (Nat.le_refl _) updK_lt, p2, by rw [if_neg (ok_ne_m1 p1)]⟩
/-- a new compound operative -/
def mop (m : qm_S) (t q body env : Int64) : qm_S := madd (qm_t_fourth (qm_t_third m (qm_g_objects m) body) (qm_g_objects m) env) t q
theorem mop_mo (m : qm_S) (t q body env : Int64) : mo (mop m t q body env) = mo m ∧ mb (mop m t q body env) = mb m := ⟨rfl, rfl⟩
theorem pack_int {a b : Int64} {s : Int32} (h1 : 0 ≤ s.toInt ∧ s.toInt < 128) (h2 : 0 ≤ a.toInt ∧ a.toInt < 100000) (h3 : (b.toInt = a.toInt * 128 + s.toInt)) : (a <<< 7) ||| (Int32.toInt64 s) = b := by
  apply l_ext
  have e : ((lN (2 ^ 7))).toInt = 128 := by decide
  rw [l_or a (Int32.toInt64 s) 7 7 (by decide) (by decide), l_add, l_mul, i_toL, e, h3] <;> (try rw [l_mul]) <;> (try rw [i_toL]) <;> (try rw [e]) <;> (try omega)
  have c := BitVec.toInt_eq_toNat_cond (Int32.toInt64 s).toBitVec
  have e2 : (Int32.toInt64 s).toBitVec.toInt = s.toInt := i_toL s
  rw [e2] at c
  have := (Int32.toInt64 s).toBitVec.isLt
  split at c <;> omega
theorem pack2_int {a b : Int64} {s : Int32} (h1 : 0 ≤ s.toInt ∧ s.toInt < 8192) (h2 : 0 ≤ a.toInt ∧ a.toInt < 100000000) (h3 : (b.toInt = a.toInt * 8192 + s.toInt)) : (a <<< 13) ||| (Int32.toInt64 s) = b := by
  apply l_ext
  have e : ((lN (2 ^ 13))).toInt = 8192 := by decide
  rw [l_or a (Int32.toInt64 s) 13 13 (by decide) (by decide), l_add, l_mul, i_toL, e, h3] <;> (try rw [l_mul]) <;> (try rw [i_toL]) <;> (try rw [e]) <;> (try omega)
  have c := BitVec.toInt_eq_toNat_cond (Int32.toInt64 s).toBitVec
  have e2 : (Int32.toInt64 s).toBitVec.toInt = s.toInt := i_toL s
  rw [e2] at c
  have := (Int32.toInt64 s).toBitVec.isLt
  split at c <;> omega
theorem HR.newOp (H : HR n K h m) (hn : n < 4000) {t q body env : Int64} (ht : ok n K t) (htr : trok (qm_g_first m) (qm_g_second m) t q) (hq : ok n K q) (hqk : kd q = 2 ∨ kd q = 8) (hb : ok n K body) (he : ok n K env) (hek : kd env = 7) {x s : Int32} (hx : x.toInt = row (wt env)) (hs : s.toInt = psym q) :
    qh_addOperative h (xw t) s (xw body) x = (qh_g_nextRow h, (qh_addOperative h (xw t) s (xw body) x).2) ∧ HR (n + 1) (updK K n 5) (qh_addOperative h (xw t) s (xw body) x).2 (mop m t q body env) ∧ Ext n K m (n + 1) (updK K n 5) (mop m t q body env) := by
  have h1 := H.ho
  have hnn := H.hn
  have hbt := ok_b ht hnn
  have hbq := ok_b hq hnn
  have hbe := env_b he hek
  have htk : kd t = 2 ∨ kd t = 3 ∨ kd t = 8 ∨ kd t = 4 := by
    obtain ⟨d, p, l, hd, -⟩ := htr
    cases d with
    | zero => exact hd.elim
    | succ d => rcases hd with hd | hd | hd <;> omega
  have hxt : 0 ≤ (xw t).toInt ∧ (xw t).toInt < 100000 := by
    have e1 := xw_kd ht hnn
    have e2 := xw_wt ht hnn
    have e3 := kw (xw t)
    have : 0 ≤ wt t ∧ wt t < 4000 := by unfold ok prim at ht; omega
    rw [e1, e2] at e3
    unfold row at e3
    split at e3
    · split at e3 <;> omega
    · omega
  have hsb : 0 ≤ s.toInt ∧ s.toInt < 128 := by
    rw [hs]; unfold psym; split
    · have : 0 ≤ wt q ∧ wt q < 100 := by unfold ok prim at hq; omega
      omega
    · omega
  have hxb : 0 ≤ x.toInt ∧ x.toInt < 8192 := by
    rw [hx]; unfold row; split <;> omega
  obtain ⟨p1, hp1⟩ : ∃ p1 : Int64, p1.toInt = (xw t).toInt * 128 + s.toInt := ⟨lI ((xw t).toInt * 128 + s.toInt), lI_toInt (by omega) (by omega)⟩
  obtain ⟨p2, hp2⟩ : ∃ p2 : Int64, p2.toInt = p1.toInt * 8192 + x.toInt := ⟨lI (p1.toInt * 8192 + x.toInt), lI_toInt (by omega) (by omega)⟩
  have hX : qh_addOperative h (xw t) s (xw body) x = (qh_g_nextRow h, hadd h (xw body) p2) := by
    unfold qh_addOperative
    rw [pack_int hsb hxt hp1, pack2_int hxb (by omega) hp2, H.add_ok hn]
  rw [hX]
  refine ⟨rfl, ?_⟩
  have f1 : ∀ i, qm_g_first (mop m t q body env) i = if i = n then t else qm_g_first m i := by
    intro i
    show (if i = (Int32.toNatClampNeg (qm_g_objects m)) then t else _) = _
    rw [i_clamp, h1]; rfl
  have f2 : ∀ i, qm_g_second (mop m t q body env) i = if i = n then q else qm_g_second m i := by
    intro i
    show (if i = (Int32.toNatClampNeg (qm_g_objects m)) then q else _) = _
    rw [i_clamp, h1]; rfl
  have f3 : ∀ i, qm_g_third (mop m t q body env) i = if i = n then body else qm_g_third m i := by
    intro i
    show (if i = (Int32.toNatClampNeg (qm_g_objects m)) then body else _) = _
    rw [i_clamp, h1]; rfl
  have f4 : ∀ i, qm_g_fourth (mop m t q body env) i = if i = n then env else qm_g_fourth m i := by
    intro i
    show (if i = (Int32.toNatClampNeg (qm_g_objects m)) then env else _) = _
    rw [i_clamp, h1]; rfl
  have f5 : (qm_g_objects (mop m t q body env)).toInt = n + 1 := by
    show (qm_g_objects m + 1).toInt = _
    rw [i_add] <;> simp only [Int32.reduceToInt] <;> omega
  refine H.new (by decide) hn (fun r hr => by rw [H.hadd_f hn, if_neg hr]) (fun r hr => by rw [H.hadd_s hn, if_neg hr]) (H.hadd_n hn _ _) (fun i hi => by rw [f1, if_neg hi]) (fun i hi => by rw [f2, if_neg hi]) (fun i hi => by rw [f3, if_neg hi]) (fun i hi => by rw [f4, if_neg hi]) rfl rfl (fun _ _ => rfl) rfl rfl f5 (fun E => ?_)
  refine ⟨fun h => absurd (updK_n.symm.trans h) (by decide), fun _ => ?_, fun h => absurd (updK_n.symm.trans h) (by decide), fun h => absurd (updK_n.symm.trans h) (by decide), fun h => absurd (updK_n.symm.trans h) (by decide)⟩
  rw [(H.hadd_at hn _ _).1, (H.hadd_at hn _ _).2, show qm_g_first (mop m t q body env) n = t by rw [f1, if_pos rfl], show qm_g_second (mop m t q body env) n = q by rw [f2, if_pos rfl], show qm_g_third (mop m t q body env) n = body by rw [f3, if_pos rfl], show qm_g_fourth (mop m t q body env) n = env by rw [f4, if_pos rfl]]
  have om : ∀ v, ok n K v → ok n (updK K n 5) v := fun v hv => ok_mono hv (Nat.le_refl _) updK_lt
  exact ⟨⟨rfl, om _ hb⟩, ⟨om _ ht, H.trok_ext E ht (Nat.le_refl _) htr⟩, ⟨om _ hq, hqk⟩, ⟨om _ he, hek⟩, by rw [hp2, hp1, hx, hs]⟩
end
