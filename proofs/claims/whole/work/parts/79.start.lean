/-! ===== the law, from its entry ===== -/
theorem arr_at {s : State} {args : Array Value} {ty : FieldType} (h : (Cond.arrayClass ty).before args s = true) : ∃ cA : ClassId, ArrOfT s cA ty ∧ s.vm.findClass ("[" ++ ty.toString) = some cA := by
  obtain ⟨c, k, comp, h1, h2, h3⟩ := Cond.arrayClass_spec h
  exact ⟨c, fun n z => ⟨fun k h => (by cases h), k, h2, comp, h3⟩, h1⟩
def oc_tm : Term := .static "ScopeInterpreter$Machine" "OPERAND_COUNTS" "[I"
theorem oc_arr : Cond.arrayOf oc_tm .int ∈ flatC (Jvm.Cond.and given_1 narrow_1) := by decide +kernel
theorem oc_len : Cond.eq (.length oc_tm) (.int 26) ∈ flatC (Jvm.Cond.and given_1 narrow_1) := by decide +kernel
theorem oc_els : ∀ j : Nat, j < 26 → Cond.eq (.elem oc_tm (.int (Int32.ofNat j))) (.int (oc_f j)) ∈ flatC (Jvm.Cond.and given_1 narrow_1) := by decide +kernel
theorem st_start {s : State} {b : Nat} (hts : ∀ w ∈ lw_tbl, w.before #[Value.ref b] s = true) (hgv : (Jvm.Cond.and given_1 narrow_1).before #[Value.ref b] s = true) : st_A (fun q : Nat => s.heap.size ≤ q) s s.heap := by
  have hs := flat_of_before _ hgv
  have hA : ∀ a : Nat, a < s.heap.size → ¬ (fun q : Nat => s.heap.size ≤ q) a := fun a h => Nat.not_le.mpr h
  obtain ⟨t, h1, h2⟩ := va_Tof (tm := oc_tm) (ty := .int) (N := 26) (f := fun j => .int (oc_f j)) (A := fun q : Nat => s.heap.size ≤ q) (by decide) (hs _ oc_arr) (va_eqt (hs _ oc_len)) (fun j hj => va_eqt (hs _ (oc_els j hj))) hA
  exact ⟨t, va_Zof (hts (.laysStatic "ScopeInterpreter$Machine" "OPERAND_COUNTS" "[I") (List.mem_of_getElem? (i := 626) (by decide +kernel))) (hts (.initialized "ScopeInterpreter$Machine") (List.mem_of_getElem? (i := 99) (by decide +kernel))) h1 hA, h2⟩
set_option maxHeartbeats 4000000 in
set_option maxRecDepth 100000 in
theorem law_walk {p : Program} {e : Env} {s : State} {m : MethodId} {below : List Frame} {meth : Method} {c : Code} (l : Launch) {b L : Nat} {xs : Nat → Int32} (hL : L ≤ 1536) (C0 : lw_At p s m meth c b L xs) (K : kk_T) (hK : va_K (kD K) qcl (kt K) s) {N : Nat} (hN : 60000000 ≤ N) : CG (p, l, e, room_1, s, m, #[Value.ref b], below, meth, c, K, (fun q : Nat => s.heap.size ≤ q), 40, 43668) (lw_Z below #[Value.ref b] s) [] 0 0 0 [(0, .ref b)] [] := by
  obtain ⟨hx, hb, hr, hml, hown, hts, hX, hbl, hlocks, hgv⟩ := id C0
  have hbA : ¬ (fun q : Nat => s.heap.size ≤ q) b := Nat.not_le.mpr hbl
  have hgw : ∀ x ∈ gw, x.before #[Value.ref b] s = true := fun x h => hts x (gw_tbl h)
  have hst := st_start hts hgv
  have C : cc_C (p, l, e, room_1, s, m, #[Value.ref b], below, meth, c, K, (fun q : Nat => s.heap.size ≤ q), 40, 43668) R_law code 4 (12, 480) := ⟨hx, hb, hml, hown, hgw, hK, fun _ h => h, ⟨rfl, rfl⟩, ⟨rfl, rfl⟩, hst, hlocks⟩
  refine g_new C (fs := [.null, .null, .null, .int 0, .int 0, .int 0]) qx_in qx_ty qx_tyok k_104 k_105 k_96 (ci := 0) rfl (fun j hj => match j, hj with | 0, _ => rfl | 1, _ => rfl | 2, _ => rfl | 3, _ => rfl | 4, _ => rfl | 5, _ => rfl | k + 6, hj => absurd hj (by omega)) (Nat.le_of_ble_eq_true rfl) (Nat.le_of_ble_eq_true rfl) d_law_0 rfl (fun o0 => ?_)
  refine g_dup C d_law_3 rfl rfl ?_
  refine g_init C (wr := []) (As := []) (mi_qx l K o0 N (by omega)) (show ck_I qx_init_y qx_init_c 1 0 from ⟨k_108, k_96, by decide +kernel, k_107, rfl⟩) k_106 ⟨Nat.le_of_ble_eq_true rfl, Nat.le_of_ble_eq_true rfl⟩ ⟨Nat.le_of_ble_eq_true rfl, Nat.le_of_ble_eq_true rfl⟩ [0] [] rfl (by decide) rfl rfl (by decide) (by decide) d_law_4 rfl (Nat.le_of_ble_eq_true rfl) rfl (fun q1 σ1 p1 => ?_)
  obtain ⟨p1a, p1b, p1c⟩ := p1
  dsimp only at p1a p1b p1c
  subst p1a
  refine g_astore C d_law_7 rfl rfl (by decide) rfl ?_
  refine g_new C (fs := [.int 0, .null, .null, .null, .null, .null, .null, .null, .null, .null, .long 0, .int 0, .int 0, .null, .long 0, .int 0, .int 0, .int 0, .int 0, .long 0, .long 0, .long 0, .int 0, .null, .null, .null, .null, .null, .null, .int 0, .null, .null, .null, .null, .null, .int 0]) qm_in qm_ty qm_tyok k_821 k_822 k_102 (ci := 5) rfl (fun j hj => match j, hj with | 0, _ => rfl | 1, _ => rfl | 2, _ => rfl | 3, _ => rfl | 4, _ => rfl | 5, _ => rfl | 6, _ => rfl | 7, _ => rfl | 8, _ => rfl | 9, _ => rfl | 10, _ => rfl | 11, _ => rfl | 12, _ => rfl | 13, _ => rfl | 14, _ => rfl | 15, _ => rfl | 16, _ => rfl | 17, _ => rfl | 18, _ => rfl | 19, _ => rfl | 20, _ => rfl | 21, _ => rfl | 22, _ => rfl | 23, _ => rfl | 24, _ => rfl | 25, _ => rfl | 26, _ => rfl | 27, _ => rfl | 28, _ => rfl | 29, _ => rfl | 30, _ => rfl | 31, _ => rfl | 32, _ => rfl | 33, _ => rfl | 34, _ => rfl | 35, _ => rfl | k + 36, hj => absurd hj (by omega)) (Nat.le_of_ble_eq_true rfl) (Nat.le_of_ble_eq_true rfl) d_law_8 rfl (fun o8 => ?_)
  refine g_dup C d_law_11 rfl rfl ?_
  refine g_init C (wr := qx_w (kwq K q1) σ1) (As := []) (mi_qm l K o8 N (by omega)) (show ck_I qm_init_y qm_init_c 1 0 from ⟨k_825, k_102, by decide +kernel, k_824, rfl⟩) k_823 ⟨Nat.le_of_ble_eq_true rfl, Nat.le_of_ble_eq_true rfl⟩ ⟨Nat.le_of_ble_eq_true rfl, Nat.le_of_ble_eq_true rfl⟩ [18] [0, 1, 2, 3, 4, 5, 6, 7, 8, 9, 10, 11, 12, 13, 14, 15, 16, 17] rfl (by decide) rfl rfl (by decide) (by decide) d_law_12 rfl (Nat.le_of_ble_eq_true rfl) rfl (fun q2 σ2 p2 => ?_)
  obtain ⟨p2a, p2b⟩ := p2
  dsimp only at p2a p2b
  subst p2a
  refine g_astore C d_law_15 rfl rfl (by decide) rfl ?_
  refine g_iconst C (v := 0) d_law_16 rfl (by decide) ?_
  refine g_istore C d_law_17 rfl rfl (by decide) rfl ?_
  intro H locs ls hP hD hS hl
  have hE : (qx_w (kwq K q1) σ1 ++ qm_w (kwq K q2) σ2) = lww (kwq K (fun k => if k < 18 then q1 k else q2 k)) (σ1, σ2) := rfl
  have hD' : va_D (fun q : Nat => s.heap.size ≤ q) (qx_w (kwq K q1) σ1 ++ qm_w (kwq K q2) σ2) := hD
  have hDs : ∀ σ, va_D (fun q : Nat => s.heap.size ≤ q) (lww (kwq K (fun k => if k < 18 then q1 k else q2 k)) σ) := fun σ => va_D.addr (ws := qx_w (kwq K q1) σ1 ++ qm_w (kwq K q2) σ2) rfl hD'
  have C2 : cx_C (p, l, e, room_1, s, m, #[Value.ref b], below, meth, c, kwq K (fun k => if k < 18 then q1 k else q2 k), (fun q : Nat => s.heap.size ≤ q), 40, 43668) (lww (kwq K (fun k => if k < 18 then q1 k else q2 k))) qcl R_law code 4 ret (12, 480) :=
    ⟨hx, hb, hml, hown, hgw, hK, hDs, fun _ h => h, ⟨rfl, rfl⟩, ⟨Nat.le_refl _, Nat.le_refl _⟩, hst, hr, hlocks⟩
  have hend : ∀ (σ : qx_S × qm_S) (lv : List (Nat × Value)), LJ (p, l, e, room_1, s, m, #[Value.ref b], below, meth, c, kwq K (fun k => if k < 18 then q1 k else q2 k), (fun q : Nat => s.heap.size ≤ q), 40, 43668) (lw_Z below #[Value.ref b] s) (σ1, σ2) σ 716 lv [.int 1] := by
    intro σ lv r σ' h H2 locs2 ls2 hP2 hS2 hl2
    exact va_forget (fun q hq => hS2.2.2 q hq) (lw_ret hx hb hr hlocks d_law_716)
  have X : XR 0 0 (fun _ => 0) σ1 σ2 := by
    obtain ⟨r1, r2, r3, r4, r5⟩ := p1c
    obtain ⟨t1, t2, t3, t4, t5, t6, t7, t8⟩ := p2b
    exact XR.zero (HR.zero p1b.1 p1b.2 t1 t2 t3) r1 r2 r3 r4 r5 t4 t5 t6 t7 t8
  have key := law_loop C2 hX hbl hbA hL hN hend (L + 1) 0 (σ1, σ2) (by omega) (by omega) ⟨0, 0, fun _ => 0, X⟩
  exact key () (σ1, σ2) rfl H locs ls (hE ▸ hP) hS (lv_sub hl [3, 2, 1, 0] rfl)
set_option maxHeartbeats 4000000 in
set_option maxRecDepth 100000 in
/-- from the entry, for every script of at most 1536 ints, the law comes to its end with true -/
theorem whole_start {p : Program} {e : Env} {s : State} {m : MethodId} {below : List Frame} {meth : Method} {c : Code} (l : Launch) (hflags : l.flags = flags0) {b L : Nat} {xs : Nat → Int32} (hL : L ≤ 1536) (C0 : lw_At p s m meth c b L xs) : W p l e room_1 s m #[Value.ref b] below meth c s.heap [] 0 0 (lw_Z below #[Value.ref b] s) (entryFrame m ([Value.ref b] : List Value).toArray 4) := by
  obtain ⟨hx, hb, hr, hml, hown, hts, hX, hbl, hlocks, hgv⟩ := id C0
  have hgw : ∀ x ∈ gw, x.before #[Value.ref b] s = true := fun x h => hts x (gw_tbl h)
  obtain ⟨c0, i0, n0⟩ := u_known (C := qx_R) (T := qx_F) (N := 6) (n := 6) hgw qx_in (hgw _ k_105)
  obtain ⟨c1, i1, n1⟩ := u_known (C := qh_R) (T := qh_F) (N := 3) (n := 3) hgw qh_in (hgw _ k_113)
  obtain ⟨c2, i2, n2⟩ := u_known (C := qn_R) (T := qn_F) (N := 12) (n := 12) hgw qn_in (hgw _ k_158)
  obtain ⟨c3, i3, n3⟩ := u_known (C := qt_R) (T := qt_F) (N := 7) (n := 7) hgw qt_in (hgw _ k_164)
  obtain ⟨c4, i4, n4⟩ := u_known (C := qf_R) (T := qf_F) (N := 7) (n := 7) hgw qf_in (hgw _ k_193)
  obtain ⟨c5, i5, n5⟩ := u_known (C := qm_R) (T := qm_F) (N := 36) (n := 36) hgw qm_in (hgw _ k_822)
  obtain ⟨dC, dI, hKc⟩ : ∃ (dC : Nat → ClassId) (dI : Nat → Nat → Nat), ∀ (k : Nat) (q : vw_C), qcl[k]? = some q → u_Kn s q.1 q.2.1 q.2.2 (dC k) (dI k) := by
    refine ⟨fun k => match k with | 0 => c0 | 1 => c1 | 2 => c2 | 3 => c3 | 4 => c4 | _ => c5, fun k => match k with | 0 => i0 | 1 => i1 | 2 => i2 | 3 => i3 | 4 => i4 | _ => i5, ?_⟩
    intro k q hq
    match k, hq with
    | 0, hq => cases hq; exact n0
    | 1, hq => cases hq; exact n1
    | 2, hq => cases hq; exact n2
    | 3, hq => cases hq; exact n3
    | 4, hq => cases hq; exact n4
    | 5, hq => cases hq; exact n5
    | k + 6, hq => cases hq
  obtain ⟨cI, aI, fI⟩ := arr_at (hgw _ k_191)
  obtain ⟨cJ, aJ, fJ⟩ := arr_at (hgw _ k_156)
  obtain ⟨cZ, aZ, fZ⟩ := arr_at (hgw _ k_951)
  obtain ⟨N, hN⟩ : ∃ N : Nat, 60000000 ≤ N := ⟨_, Nat.le_refl _⟩
  have hK : va_K (kD (((dC, dI), (cI, cJ, cZ), fun _ => 0) : kk_T)) qcl (kt (((dC, dI), (cI, cJ, cZ), fun _ => 0) : kk_T)) s := by
    refine ⟨hKc, fun k q hk => ?_⟩
    match k, hk with
    | 0, hk => cases hk; exact ⟨aI, fI⟩
    | 1, hk => cases hk; exact ⟨aJ, fJ⟩
    | 2, hk => cases hk; exact ⟨aZ, fZ⟩
    | k + 3, hk => cases hk
  have hl := lv_entry ([.ref b]) (n := 4) (Nat.le_of_ble_eq_true rfl)
  rw [lg_entry_eq]
  have key := law_walk (p := p) (e := e) (below := below) l hL C0 (((dC, dI), (cI, cJ, cZ), fun _ => 0) : kk_T) hK hN
  have hP0 : va_P (dC, dI) qcl [] s.heap := fun k q h => by simp at h
  have hD0 : va_D (fun q : Nat => s.heap.size ≤ q) [] := ⟨fun i j p q h => by simp at h, fun k q h => by simp at h⟩
  exact key s.heap [] _ hP0 hD0 va_S.rf (by rw [show (gc (p, l, e, room_1, s, m, #[Value.ref b], below, meth, c, (((dC, dI), (cI, cJ, cZ), fun _ => 0) : kk_T), (fun q : Nat => s.heap.size ≤ q), 40, 43668)).maxLocals = 4 from hml]; exact hl)
-- ===== YOUR PART ENDS =====
set_option maxHeartbeats 4000000 in
theorem lw_walk (l : Launch) (hflags : l.flags = flags0) (b : Addr) (xs : List Int32) : MetFree l x (headSpec (Jvm.Cond.code x code maxLocals ret :: tables_1) room_1) (lw_P b xs) (fun _ _ _ _ _ => True) lw_Q := by
  refine MetFree.of_bodyS (code := code) (maxLocals := maxLocals) (ret := ret) (by decide) ?_ ?_
  · intro args s m h hn
    obtain ⟨meth, c, h1, h2, h3, h4, h5, h6, -, -⟩ := Cond.code_spec hn (atoms_spec (ws := Jvm.Cond.code x code maxLocals ret :: tables_1) h _ List.mem_cons_self)
    exact ⟨meth, c, h1, h2, h3, h4, h5, h6⟩
  · intro p e s m args below meth c s₁ B hml0 hP _
    obtain ⟨rfl, hx, hbd, hgv⟩ := hP
    obtain ⟨scr, harrAt, hlist, hof, hsmall⟩ := hx
    obtain ⟨hcb, hkn, -, -⟩ := State.arrayAt?_spec harrAt
    have hown : s.vm.findClass R_law = some m.cls := findClass_of_methodNamed B.named
    have hts0 : ∀ c ∈ (Jvm.Cond.code x code maxLocals ret :: tables_1), c.before #[Value.ref b] s = true := atoms_spec (ws := Jvm.Cond.code x code maxLocals ret :: tables_1) B.pre
    have hts : ∀ w ∈ lw_tbl, w.before #[Value.ref b] s = true := k2_hts_sels lw_privs (fun w hw => hts0 w (List.mem_cons_of_mem _ hw)) lw_privs_ok
    have hml : c.maxLocals = 4 := B.maxLocals_eq (hts0 _ List.mem_cons_self)
    have X₀ : Stand p l e room_1 s m #[Value.ref b] below meth c s₁ [] 0 0 := Stand.of_body B
    have hh0 : s₁.heap = s.heap := by rw [B.state]; rfl
    have hsz : scr.slots.size = xs.length := by rw [← Array.length_toList, hlist, List.length_map]
    have hval : ∀ j : Nat, j < xs.length → scr.slots[j]? = some (.int (xs.getD j 0)) := fun j hj => by
      rw [← Array.getElem?_toList, hlist]
      simp [hj]
    have hbl : b < s.heap.size := (Array.getElem?_eq_some_iff.mp hcb).1
    have hX : va_X b xs.length (fun j => xs.getD j 0) s s.heap := ⟨scr, hcb, hof, hkn, hsz, hval⟩
    have K : W p l e room_1 s m #[Value.ref b] below meth c s₁.heap [] 0 0 (lw_Z below #[Value.ref b] s) (entryFrame m ([Value.ref b] : List Value).toArray 4) := by
      rw [hh0]
      exact whole_start l hflags hbd ⟨B.exec, B.bytes, B.returns, hml, hown, hts, hX, hbl, B.notSynchronized, hgv⟩
    obtain ⟨t, a1, o, b1, b2, b3⟩ := K s₁ rfl X₀
    exact ⟨t, o, a1, b1, b2, b3⟩
theorem lw_pre_spec {args : Array Value} {s : State} (h : (Jvm.Cond.and given_1 narrow_1).before args s = true) (hr : rest_1_c.before args s = true) : ∃ (b : Addr) (xs : List Int32), lw_P b xs args s := by
  have hs := flat_of_before _ h
  have hq := flat_of_before _ hr
  have hc : (Cond.count 1).before args s = true := hs _ (by decide +kernel)
  have harr : (Cond.arrayOf (.arg 0) .int).before args s = true := hs _ (by decide +kernel)
  have hle : (Cond.le (.length (.arg 0)) (.int 1536)).before args s = true := hs _ (by decide +kernel)
  have hlen : (Cond.isInt (.length (.arg 0))).before args s = true := hq _ (by decide +kernel)
  have hall : (Cond.all (.arg 0) (.isInt (.elem (.arg 0) (.index 0)))).before args s = true := hq _ (by decide +kernel)
  obtain ⟨b, xs, hb, hx⟩ := State.ints_of_pre rfl harr hlen hall
  have hsm : xs.length < 2 ^ 31 := hx.choose_spec.2.2.2
  have hev : (Term.length (.arg 0)).eval args s none [] s = some (.int xs.length.toInt32) := hx.length_eval hb
  have hv := Cond.le_ints hev (show (Term.int 1536).eval args s none [] s = some (.int 1536) from rfl)
  have hd : xs.length.toInt32 ≤ 1536 := by
    simpa [Cond.before, Cond.holds, hv] using hle
  have hN : xs.length ≤ 1536 := (Int32.ofNat_le_ofNat hsm (by decide)).mp (show Int32.ofNat xs.length ≤ Int32.ofNat 1536 from hd)
  exact ⟨b, xs, Cond.one_arg hc (show args[0]? = some (.ref b) from hb), hx, hN, h⟩
theorem lw_comes (l : Launch) (hflags : l.flags = flags0) : Comes l x (Jvm.Cond.code x code maxLocals ret :: tables_1) room_1 (fun tb e args s => Calls_1 tb e args s ∧ rest_1 tb e args s ∧ Pre_1 tb e args s)
    (fun _ _ args s o t => lw_Q args s o t) := by
  intro p e ha hc hk s m args below hf hfit hheap happ hpre
  obtain ⟨b, xs, hP⟩ := lw_pre_spec hpre.2.2 hpre.2.1
  obtain ⟨k, o, h1, h2, h3, hQ⟩ := lw_walk l hflags b xs p e ha hc hk s m args below hf ((Spec.applies_iff_loose hf).mp happ).1 hP trivial
  exact ⟨k, o, h1, h2, h3, hQ⟩
theorem lw_frame {s t : State} {o : Outcome} {args : Array Value} (h : Framed s o t [] 40 43668) :
    Framed s o t (fieldLocs frame_1_writes args s ++ arrayLocs frame_1_arrays args s ++ staticLocs frame_1_statics s) 40 43668 := h
theorem lw_limb (L : Cond) (hL : ∀ (args : Array Value) (s t : State), L.after args s (.returned (some (.int 1))) t = true) :
    ArmFor flags0 classFile x code maxLocals ret World_1 tables_1 room_1 Calls_1 rest_1 Pre_1
      (fun tb e a s o t => postC L tb e a s o t ∧ Framed s o t (fieldLocs frame_1_writes a s ++ arrayLocs frame_1_arrays a s ++ staticLocs frame_1_statics s) 40 43668) := by
  intro l hflags _ _ p e ha hc hk s m args below hf hfit hheap happ hpre
  obtain ⟨k, o, h1, h2, h3, rfl, hF⟩ := lw_comes l hflags p e ha hc hk s m args below hf hfit hheap happ hpre
  exact ⟨k, _, h1, h2, h3, hL args s _, lw_frame hF⟩
theorem i_vc : Claimed_1_1 ∧ Claimed_1_2 := ⟨lw_limb limb_1_1 (fun args s t => by simp [limb_1_1, Cond.after, Cond.holds, Cond.value]), lw_limb limb_1_2 (fun args s t => Cond.after_iff.mpr (by
  first | (rw [show limb_1_2 = Cond.eq .result (.int 1) from rfl, Cond.eq_ints (x := 1) (y := 1) rfl rfl]; simp; done) | (simp [limb_1_2, Cond.value, Term.eval]; done)))⟩
