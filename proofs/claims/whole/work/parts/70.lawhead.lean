/-! ===== the law: the skeleton's head ===== -/
def R_law : String := "ScopeInterpreterLaw"
def lw_P (b : Addr) (xs : List Int32) (args : Array Value) (s : State) : Prop := args = #[.ref b] ∧ s.IntsAt b xs ∧ xs.length ≤ 1536 ∧ (Jvm.Cond.and given_1 narrow_1).before args s = true
def lw_Q (_ : Array Value) (s : State) (o : Outcome) (t : State) : Prop := o = .returned (some (.int 1)) ∧ Framed s o t [] 40 43668
def lw_Z (below : List Frame) (a : Array Value) (s : State) : State → Prop := fun t => ∃ o, t.status = .running ∧ Ended t below o ∧ lw_Q a s o t
/-- the law's own end, with 1 on the stack, nothing written that was there before, its room as the claim has it -/
theorem lw_ret {p : Program} {l : Launch} {e : Env} {s : State} {m : MethodId} {below : List Frame} {meth : Method} {c : Code} {b : Nat} (hx : p.tables.exec = Jvm.exec) (hb : c.code = code) (hr : meth.sig.returnType = ret) (hlocks : meth.locks = false) {pc : Nat} {H : Heap} {ls : Array Slot} (hdg : decode code pc = .ok (.ireturn, 1)) : W p l e room_1 s m #[Value.ref b] below meth c H [] 40 43668 (lw_Z below #[Value.ref b] s) (F0 m pc ls [.int 1]) := by
  intro T hT X
  obtain ⟨fs, hret, hrun, hended, hW, hframe⟩ := X.leave (v := some (.int 1)) (hlocks := hlocks) (fun h => by rw [hr] at h; cases h)
  have hmeth' : T.vm.method? m = some meth := X.method'
  refine ⟨T.setFrames fs, ?_, .returned (some (.int 1)), hrun, hended, rfl, ⟨_, rfl⟩, hW, hframe⟩
  jvm_step X.here [X.here.top, hx, hb, hdg, hmeth', hr, ret, narrow_b1]
  (try refine ⟨rfl, ?_⟩); (try refine ⟨rfl, ?_⟩)
  first | (intro acts; rw [hret _ acts rfl rfl rfl]) | rw [hret _ _ rfl rfl rfl]
  exact Steps.refl _
/-- what holds at the law's entry: the machine, the code, the tables' words (any of lw_tbl by 'hts w (by decide +kernel)'), the script of L ints xs at the cell b, what the Statement gives of the start (any of its parts by flat_of_before) -/
def lw_At (p : Program) (s : State) (m : MethodId) (meth : Method) (c : Code) (b L : Nat) (xs : Nat → Int32) : Prop :=
  p.tables.exec = Jvm.exec ∧ c.code = code ∧ meth.sig.returnType = ret ∧ c.maxLocals = 4 ∧ s.vm.findClass R_law = some m.cls ∧ (∀ w ∈ lw_tbl, w.before #[Value.ref b] s = true) ∧ va_X b L xs s s.heap ∧ b < s.heap.size ∧ meth.locks = false ∧ (Jvm.Cond.and given_1 narrow_1).before #[Value.ref b] s = true
/-! ===== the law's world, its rows ===== -/
def lww (K : kk_T) (σ : qx_S × qm_S) : va_W := qx_w K σ.1 ++ qm_w K σ.2
abbrev LJ (Γ : cx_T) (Qz : State → Prop) (σ0 σ : qx_S × qm_S) (pc : Nat) (lv : List (Nat × Value)) (st : List Value) : Prop := J Γ (lww (gK Γ)) qcl (fun (_ : Unit) (_ : qx_S × qm_S) => Qz) (some ((), σ0)) σ pc lv st
section
variable {Γ : cx_T} {Qz : State → Prop} {σ0 : qx_S × qm_S} {x : qx_S} {m : qm_S} {pc n : Nat} {lv : List (Nat × Value)} {st rest As : List Value} {y : MethodName} {b2 : ByteArray} {n2 index : Nat} {ret2 : Option FieldType} {rm2 : Nat × Nat} {r : Value}
theorem l_x (C : cx_C Γ (lww (gK Γ)) qcl R_law code 4 ret (12, 480)) {x2 : qx_S} (M : MC (gl Γ) y b2 n2 ret2 rm2 (gK Γ) (qx_w (gK Γ)) qcl x (.ref (kq (gK Γ) 0) :: As) (some r) x2) (I : ck_V y b2 n2 ret2 As.length) (hl : Cond.methodLink R_law index y ∈ gw) (hR : rm2.1 + 1 ≤ 12 ∧ 8 + (n2 + 11) + rm2.2 ≤ 480) (hd : decode code pc = .ok (.invokevirtual index, 3)) (hp : pc + 3 = n) (hs : As.reverse ++ .ref (kq (gK Γ) 0) :: rest = st) (hc : some qx_R = some y.cls ∧ (rest.map fun v => v.category).sum ≤ 8) (k : LJ Γ Qz σ0 (x2, m) n lv (r :: rest)) : LJ Γ Qz σ0 (x, m) pc lv st := by
  subst hs
  exact j_callV (x := []) (z := qm_w (gK Γ) m) C M I hl hR hd hp (ci := 0) rfl hc.1 rfl rfl hc.2 k
theorem l_m (C : cx_C Γ (lww (gK Γ)) qcl R_law code 4 ret (12, 480)) {m2 : qm_S} (M : MC (gl Γ) y b2 n2 ret2 rm2 (gK Γ) (qm_w (gK Γ)) qcl m (.ref (kq (gK Γ) 18) :: As) (some r) m2) (I : ck_V y b2 n2 ret2 As.length) (hl : Cond.methodLink R_law index y ∈ gw) (hR : rm2.1 + 1 ≤ 12 ∧ 8 + (n2 + 11) + rm2.2 ≤ 480) (hd : decode code pc = .ok (.invokevirtual index, 3)) (hp : pc + 3 = n) (hs : As.reverse ++ .ref (kq (gK Γ) 18) :: rest = st) (hc : some qm_R = some y.cls ∧ (rest.map fun v => v.category).sum ≤ 8) (k : LJ Γ Qz σ0 (x, m2) n lv (r :: rest)) : LJ Γ Qz σ0 (x, m) pc lv st := by
  subst hs
  exact j_callV (x := qx_w (gK Γ) x) (z := []) C M I hl hR hd hp (ci := 5) rfl hc.1 (by rw [List.append_nil]; rfl) (by rw [List.append_nil]; rfl) hc.2 k
end
section
variable {Γ : cx_T} {Qz : State → Prop} {σ0 σ : qx_S × qm_S} {pc n b L : Nat} {lv : List (Nat × Value)} {st : List Value} {xs : Nat → Int32}
theorem l_len (C : cx_C Γ (lww (gK Γ)) qcl R_law code 4 ret (12, 480)) (hX : va_X b L xs (gs Γ) (gs Γ).heap) (hbl : b < (gs Γ).heap.size) (hbA : ¬ gA Γ b) (hd : decode code pc = .ok (.arraylength, 1)) (hp : pc + 1 = n) (k : LJ Γ Qz σ0 σ n lv (.int (Int32.ofNat L) :: st)) : LJ Γ Qz σ0 σ pc lv (.ref b :: st) := by
  subst hp
  exact fun r σ' h H locs ls hP hS hl => va_slen C.hx C.hb hX hbl hbA hS hd (k r σ' h H locs ls hP hS hl)
theorem l_ld (C : cx_C Γ (lww (gK Γ)) qcl R_law code 4 ret (12, 480)) (hX : va_X b L xs (gs Γ) (gs Γ).heap) (hbl : b < (gs Γ).heap.size) (hbA : ¬ gA Γ b) {i : Int32} (hin : vp_in i L) (hd : decode code pc = .ok (.iaload, 1)) (hp : pc + 1 = n) (k : LJ Γ Qz σ0 σ n lv (.int (xs i.toNatClampNeg) :: st)) : LJ Γ Qz σ0 σ pc lv (.int i :: .ref b :: st) := by
  subst hp
  exact fun r σ' h H locs ls hP hS hl => va_sld C.hx C.hb hX hbl hbA hS hin hd (k r σ' h H locs ls hP hS hl)
theorem l_in0 {i : Nat} (hi : i + 2 < L) (hL : L ≤ 1536) : vp_in (nI i) L := vp_in_iff.mpr (by rw [nI_iI, iI_toInt] <;> omega)
theorem l_in1 {i : Nat} (hi : i + 2 < L) (hL : L ≤ 1536) : vp_in (nI i + 1) L := by
  have h : (nI i).toInt = i := by rw [nI_iI, iI_toInt] <;> omega
  refine vp_in_iff.mpr ?_
  rw [i_add] <;> simp only [Int32.reduceToInt] <;> omega
theorem l_in2 {i : Nat} (hi : i + 2 < L) (hL : L ≤ 1536) : vp_in (nI i + 2) L := by
  have h : (nI i).toInt = i := by rw [nI_iI, iI_toInt] <;> omega
  refine vp_in_iff.mpr ?_
  rw [i_add] <;> simp only [Int32.reduceToInt] <;> omega
/-- a truth value made of a number -/
theorem l_bool (C : cx_C Γ (lww (gK Γ)) qcl R_law code 4 ret (12, 480)) {w : Int32} (h1 : decode code pc = .ok (.ifCond .eq 7, 3)) (h2 : decode code (pc + 3) = .ok (.iconst 1, 1)) (h3 : decode code (pc + 4) = .ok (.goto 4, 3)) (h4 : decode code (pc + 7) = .ok (.iconst 0, 1)) (k : LJ Γ Qz σ0 σ (pc + 8) lv (.int (if w = 0 then (0 : Int32) else 1) :: st)) : LJ Γ Qz σ0 σ pc lv (.int w :: st) := by
  refine j_if_eq C h1 (tgt := pc + 7) (by omega) rfl (fun h => ?_) (fun h => ?_)
  · rw [if_pos h] at k
    exact j_iconst C (v := 0) h4 rfl (by decide) k
  · rw [if_neg h] at k
    refine j_iconst C (v := 1) h2 rfl (by decide) ?_
    exact j_goto C h3 (tgt := pc + 8) (by omega) k
end
