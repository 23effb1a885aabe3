/-! ===== constructors: a world that grows ===== -/
abbrev kwq (K : kk_T) (q : Nat → Nat) : kk_T := (K.1, K.2.1, q)
def cc_C (Γ : cx_T) (own : String) (cc : ByteArray) (nL : Nat) (rm : Nat × Nat) : Prop :=
  (gp Γ).tables.exec = Jvm.exec ∧ (gc Γ).code = cc ∧ (gc Γ).maxLocals = nL ∧ (gs Γ).vm.findClass own = some (gm Γ).cls ∧ (∀ x ∈ gw, x.before (ga Γ) (gs Γ) = true) ∧
  va_K (kD (gK Γ)) qcl (kt (gK Γ)) (gs Γ) ∧ (∀ q, (gs Γ).heap.size ≤ q → gA Γ q) ∧ ((gR Γ).frames = rm.1 ∧ (gR Γ).locals = rm.2) ∧ ((gR Γ).cells = gn Γ ∧ (gR Γ).slots = gt Γ) ∧ st_A (gA Γ) (gs Γ) (gs Γ).heap ∧ (gM Γ).locks = false
section
variable {Γ : cx_T} {own : String} {cc : ByteArray} {nL : Nat} {rm : Nat × Nat}
theorem cc_C.hx (C : cc_C Γ own cc nL rm) : (gp Γ).tables.exec = Jvm.exec := C.1
theorem cc_C.hb (C : cc_C Γ own cc nL rm) : (gc Γ).code = cc := C.2.1
theorem cc_C.hl (C : cc_C Γ own cc nL rm) : (gc Γ).maxLocals = nL := C.2.2.1
theorem cc_C.ho (C : cc_C Γ own cc nL rm) : (gs Γ).vm.findClass own = some (gm Γ).cls := C.2.2.2.1
theorem cc_C.ht (C : cc_C Γ own cc nL rm) : ∀ x ∈ gw, x.before (ga Γ) (gs Γ) = true := C.2.2.2.2.1
theorem cc_C.hK (C : cc_C Γ own cc nL rm) : va_K (kD (gK Γ)) qcl (kt (gK Γ)) (gs Γ) := C.2.2.2.2.2.1
theorem cc_C.hA (C : cc_C Γ own cc nL rm) : ∀ q, (gs Γ).heap.size ≤ q → gA Γ q := C.2.2.2.2.2.2.1
theorem cc_C.hR (C : cc_C Γ own cc nL rm) : (gR Γ).frames = rm.1 ∧ (gR Γ).locals = rm.2 := C.2.2.2.2.2.2.2.1
theorem cc_C.hn (C : cc_C Γ own cc nL rm) : (gR Γ).cells = gn Γ ∧ (gR Γ).slots = gt Γ := C.2.2.2.2.2.2.2.2.1
theorem cc_C.hZ (C : cc_C Γ own cc nL rm) : st_A (gA Γ) (gs Γ) (gs Γ).heap := C.2.2.2.2.2.2.2.2.2.1
theorem cc_C.hk (C : cc_C Γ own cc nL rm) : (gM Γ).locks = false := C.2.2.2.2.2.2.2.2.2.2
end
/-- the machine stands at pc over the world ws, with so many cells and slots made -/
def CG (Γ : cx_T) (Q : State → Prop) (ws : va_W) (cells slots pc : Nat) (lv : List (Nat × Value)) (st : List Value) : Prop :=
  ∀ (H : Heap) (locs : List Loc) (ls : Array Slot), va_P (kD (gK Γ)) qcl ws H → va_D (gA Γ) ws → va_S (gA Γ) (gs Γ).heap H locs → lv_has ls (gc Γ).maxLocals lv →
    W (gp Γ) (gl Γ) (ge Γ) (gR Γ) (gs Γ) (gm Γ) (ga Γ) (gb Γ) (gM Γ) (gc Γ) H locs cells slots Q (F0 (gm Γ) pc ls st)
/-- a constructor's contract: out of the world w0 it makes a world -/
def MI {S : Type} (l : Launch) (y : MethodName) (b : ByteArray) (n : Nat) (rm : Nat × Nat) (mc ms : Nat) (K : kk_T) (w0 : va_W) (av : List Value) (post : (Nat → Nat) × S → Prop) (wf : (Nat → Nat) → S → va_W) : Prop :=
  ∀ sz : Nat, Met l y (Cond.code y b n none :: gw) ({ frames := rm.1, cells := mc, slots := ms, locals := rm.2 } : Room)
    (va_Pc av (fun U => U.heap.size = sz ∧ va_P (kD K) qcl w0 U.heap ∧ va_K (kD K) qcl (kt K) U ∧ va_D (fun _ => True) w0 ∧ st_A (va_A w0 sz) U U.heap))
    (va_Qv post (fun u t => va_P (kD K) qcl (wf u.1 u.2) t.heap ∧ va_D (va_A w0 sz) (wf u.1 u.2)) (va_A w0 sz)) mc ms (va_A w0 sz)
def ck_I (y : MethodName) (b : ByteArray) (n : Nat) (k : Nat) : Prop :=
  Cond.code y b n none ∈ gw ∧ Cond.initialized y.cls ∈ gw ∧ (y.cls ≠ "java/lang/invoke/MethodHandle" ∧ y.cls ≠ "java/lang/invoke/VarHandle" ∧ (parseMethodDescriptor y.desc).map (fun d => d.parameters.length) = some k) ∧ Cond.instanceMethod y ∈ gw ∧ y.name = "<init>"
section
variable {Γ : cx_T} {own : String} {cc : ByteArray} {nL : Nat} {rm : Nat × Nat} {Q : State → Prop} {ws ws1 : va_W} {cells slots pc n : Nat} {lv : List (Nat × Value)} {st : List Value}
theorem g_aload (C : cc_C Γ own cc nL rm) {i : Fin 4} {x : Nat} (hd : decode cc pc = .ok (.aload_n i, 1)) (hp : pc + 1 = n) (z : Nat) (hz : lv[z]? = some ((i : Nat), .ref x)) (k : CG Γ Q ws cells slots n lv (.ref x :: st)) : CG Γ Q ws cells slots pc lv st := by
  subst hp
  exact fun H locs ls hP hD hS hl => lv_aload_n C.hx C.hb hd rfl (lv_at hl z hz) (k H locs ls hP hD hS hl)
theorem g_iconst (C : cc_C Γ own cc nL rm) {i : Int} {v : Int32} (hd : decode cc pc = .ok (.iconst i, 1)) (hp : pc + 1 = n) (hv : Int32.ofInt i = v) (k : CG Γ Q ws cells slots n lv (.int v :: st)) : CG Γ Q ws cells slots pc lv st := by
  subst hp
  exact fun H locs ls hP hD hS hl => lv_iconst C.hx C.hb hd hv (k H locs ls hP hD hS hl)
theorem g_bipush (C : cc_C Γ own cc nL rm) {i : Int} {v : Int32} (hd : decode cc pc = .ok (.bipush i, 2)) (hp : pc + 2 = n) (hv : (Int8.ofInt i).toInt32 = v) (k : CG Γ Q ws cells slots n lv (.int v :: st)) : CG Γ Q ws cells slots pc lv st := by
  subst hp
  exact fun H locs ls hP hD hS hl => lv_bipush C.hx C.hb hd hv (k H locs ls hP hD hS hl)
theorem g_sipush (C : cc_C Γ own cc nL rm) {i : Int} {v : Int32} (hd : decode cc pc = .ok (.sipush i, 3)) (hp : pc + 3 = n) (hv : (Int16.ofInt i).toInt32 = v) (k : CG Γ Q ws cells slots n lv (.int v :: st)) : CG Γ Q ws cells slots pc lv st := by
  subst hp
  exact fun H locs ls hP hD hS hl => lv_sipush C.hx C.hb hd hv (k H locs ls hP hD hS hl)
theorem g_dup (C : cc_C Γ own cc nL rm) {v : Value} (hd : decode cc pc = .ok (.dup, 1)) (hp : pc + 1 = n) (hc : v.category = 1) (k : CG Γ Q ws cells slots n lv (v :: v :: st)) : CG Γ Q ws cells slots pc lv (v :: st) := by
  subst hp
  exact fun H locs ls hP hD hS hl => lv_dup C.hx C.hb hd hc (k H locs ls hP hD hS hl)
theorem g_astore (C : cc_C Γ own cc nL rm) {q : Fin 4} {i : Nat} {x : Nat} {lv' : List (Nat × Value)} (hd : decode cc pc = .ok (.astore_n q, 1)) (hp : pc + 1 = n) (hi : (q : Nat) = i) (hn : i < nL) (hv : st1 i (.ref x) lv = lv') (k : CG Γ Q ws cells slots n lv' st) : CG Γ Q ws cells slots pc lv (.ref x :: st) := by
  subst hp
  exact fun H locs ls hP hD hS hl => lv_astore_n C.hx C.hb hd hi hl (by rw [C.hl]; exact hn) hv (fun ls' hl' => k H locs ls' hP hD hS hl')
theorem g_istore (C : cc_C Γ own cc nL rm) {q : Fin 4} {i : Nat} {x : Int32} {lv' : List (Nat × Value)} (hd : decode cc pc = .ok (.istore_n q, 1)) (hp : pc + 1 = n) (hi : (q : Nat) = i) (hn : i < nL) (hv : st1 i (.int x) lv = lv') (k : CG Γ Q ws cells slots n lv' st) : CG Γ Q ws cells slots pc lv (.int x :: st) := by
  subst hp
  exact fun H locs ls hP hD hS hl => lv_istore_n C.hx C.hb hd hi hl (by rw [C.hl]; exact hn) hv (fun ls' hl' => k H locs ls' hP hD hS hl')
theorem g_perm (is : List Nat) (h1 : is.filterMap (fun i => ws[i]?) = ws1) (h2 : va_nd is = true) (h3 : is.map (fun i => ws[i]?) = ws1.map some) (k : CG Γ Q ws1 cells slots pc lv st) : CG Γ Q ws cells slots pc lv st :=
  fun H locs ls hP hD hS hl => k H locs ls (hP.sub is h1) (hD.sub is h2 h3) hS hl
theorem g_obj (C : cc_C Γ own cc nL rm) {index : Nat} {a : Nat} (hl1 : Cond.methodLink own index objectInit ∈ gw) (hl2 : Cond.instanceMethod objectInit ∈ gw) (hl3 : Cond.code objectInit ⟨#[0xb1]⟩ 1 none ∈ gw) (hR : 1 ≤ rm.1 ∧ (st.map fun v => v.category).sum + 12 ≤ rm.2) (hd : decode cc pc = .ok (.invokespecial index, 3)) (hp : pc + 3 = n) (k : CG Γ Q ws cells slots n lv st) : CG Γ Q ws cells slots pc lv (.ref a :: st) := by
  subst hp
  intro H locs ls hP hD hS hl
  refine W.objInit C.hx C.hb C.ho (C.ht _ hl1) (C.ht _ hl2) (C.ht _ hl3) rfl hl.1 rfl hd (by rw [C.hR.1]; exact hR.1) (by rw [C.hR.2]; show 2 * 0 + _ + 12 ≤ _; omega) ?_
  exact W.eq (g2 := F0 (gm Γ) (pc + 3) ls st) rfl (k H locs ls hP hD hS hl)
theorem g_newJ (C : cc_C Γ own cc nL rm) {v : Int32} {N : Nat} (hw : Cond.arrayClass .long ∈ gw) (hn : ¬ v < 0) (hN : v.toNatClampNeg = N) (hb : N * 8 ≤ 536870912) (hc : cells + 1 ≤ gn Γ) (hs : slots + N ≤ gt Γ) (hd : decode cc pc = .ok (.newarray .long, 2)) (hp : pc + 2 = n)
    (k : ∀ q : Nat, CG Γ Q (ws ++ [(q, .inl (kJ (gK Γ), N, .inr (.inl (fun _ => 0))))]) (cells + 1) (slots + N) n lv (.ref q :: st)) : CG Γ Q ws cells slots pc lv (.int v :: st) := by
  subst hp
  intro H locs ls hP hD hS hl
  refine va_newa (atype := .long) (ty := .long) C.hx C.hb (C.ht _ hw) rfl C.hK hP hD hS C.hA (a0 := (N, .inr (.inl (fun _ => 0)))) (fun _ => rfl) hn hN hb (by rw [C.hn.1]; exact hc) (by rw [C.hn.2]; exact hs) hd (fun q cA H1 hK1 hP1 hD1 hS1 => ?_)
  have e1 : (gs Γ).vm.findClass ("[" ++ (FieldType.long).toString) = some cA := (hK1.2 3 (cA, .long) rfl).2
  have e2 : (gs Γ).vm.findClass ("[" ++ (FieldType.long).toString) = some (kJ (gK Γ)) := (C.hK.2 1 (kJ (gK Γ), .long) rfl).2
  have e : cA = kJ (gK Γ) := Option.some.inj (e1.symm.trans e2)
  subst e
  exact k q H1 locs ls hP1 hD1 hS1 hl
theorem g_newI (C : cc_C Γ own cc nL rm) {v : Int32} {N : Nat} (hw : Cond.arrayClass .int ∈ gw) (hn : ¬ v < 0) (hN : v.toNatClampNeg = N) (hb : N * 4 ≤ 536870912) (hc : cells + 1 ≤ gn Γ) (hs : slots + N ≤ gt Γ) (hd : decode cc pc = .ok (.newarray .int, 2)) (hp : pc + 2 = n)
    (k : ∀ q : Nat, CG Γ Q (ws ++ [(q, .inl (kI (gK Γ), N, .inl (fun _ => 0)))]) (cells + 1) (slots + N) n lv (.ref q :: st)) : CG Γ Q ws cells slots pc lv (.int v :: st) := by
  subst hp
  intro H locs ls hP hD hS hl
  refine va_newa (atype := .int) (ty := .int) C.hx C.hb (C.ht _ hw) rfl C.hK hP hD hS C.hA (a0 := (N, .inl (fun _ => 0))) (fun _ => rfl) hn hN hb (by rw [C.hn.1]; exact hc) (by rw [C.hn.2]; exact hs) hd (fun q cA H1 hK1 hP1 hD1 hS1 => ?_)
  have e1 : (gs Γ).vm.findClass ("[" ++ (FieldType.int).toString) = some cA := (hK1.2 3 (cA, .int) rfl).2
  have e2 : (gs Γ).vm.findClass ("[" ++ (FieldType.int).toString) = some (kI (gK Γ)) := (C.hK.2 0 (kI (gK Γ), .int) rfl).2
  have e : cA = kI (gK Γ) := Option.some.inj (e1.symm.trans e2)
  subst e
  exact k q H1 locs ls hP1 hD1 hS1 hl
theorem g_newZ (C : cc_C Γ own cc nL rm) {v : Int32} {N : Nat} (hw : Cond.arrayClass .boolean ∈ gw) (hn : ¬ v < 0) (hN : v.toNatClampNeg = N) (hb : N * 1 ≤ 536870912) (hc : cells + 1 ≤ gn Γ) (hs : slots + N ≤ gt Γ) (hd : decode cc pc = .ok (.newarray .boolean, 2)) (hp : pc + 2 = n)
    (k : ∀ q : Nat, CG Γ Q (ws ++ [(q, .inl (kZ (gK Γ), N, .inl (fun _ => 0)))]) (cells + 1) (slots + N) n lv (.ref q :: st)) : CG Γ Q ws cells slots pc lv (.int v :: st) := by
  subst hp
  intro H locs ls hP hD hS hl
  refine va_newa (atype := .boolean) (ty := .boolean) C.hx C.hb (C.ht _ hw) rfl C.hK hP hD hS C.hA (a0 := (N, .inl (fun _ => 0))) (fun _ => rfl) hn hN hb (by rw [C.hn.1]; exact hc) (by rw [C.hn.2]; exact hs) hd (fun q cA H1 hK1 hP1 hD1 hS1 => ?_)
  have e1 : (gs Γ).vm.findClass ("[" ++ (FieldType.boolean).toString) = some cA := (hK1.2 3 (cA, .boolean) rfl).2
  have e2 : (gs Γ).vm.findClass ("[" ++ (FieldType.boolean).toString) = some (kZ (gK Γ)) := (C.hK.2 2 (kZ (gK Γ), .boolean) rfl).2
  have e : cA = kZ (gK Γ) := Option.some.inj (e1.symm.trans e2)
  subst e
  exact k q H1 locs ls hP1 hD1 hS1 hl
theorem g_putF (C : cc_C Γ own cc nL rm) (hi : (gM Γ).name = "<init>") {CN : String} {T : u_T} {N ci index : Nat} {a : Nat} (hin : ∀ x ∈ u_ws CN T N, x ∈ gw) (ty0 : Nat → FieldType) (hty : ∀ k, k < N → parseFieldDescriptor (T k).2.2.1 = some (ty0 k)) (hnm : ∀ a, a < N → ∀ b, b < N → a ≠ b → (T a).2.1 ≠ (T b).2.1) (q0 : Nat) {fs : List Value} (he : ws[q0]? = some (a, .inr (ci, fs))) (hc : qcl[ci]? = some (CN, T, N)) (f : Nat) (hf : f < N) (hfin : (T f).2.2.2 = true) (hdecl : (T f).1 = own) {ty : FieldType} {v : Value} (hdd : parseFieldDescriptor (T f).2.2.1 = some ty) (hn : narrow ty v = v) (hfit : fits ty v = true) (hlen : f < fs.length) (hw : ws.set q0 (a, .inr (ci, fs.set f v)) = ws1) (hl : Cond.fieldLink own index (T f).1 (T f).2.1 (T f).2.2.1 ∈ gw) (hd : decode cc pc = .ok (.putfield index, 3)) (hp : pc + 3 = n)
    (k : CG Γ Q ws1 cells slots n lv st) : CG Γ Q ws cells slots pc lv (v :: .ref a :: st) := by
  subst hp
  exact fun H locs ls hP hD hS hl' => va_putF C.hx C.hb C.ht hin ty0 hty hnm C.ho C.hK hP hD hS q0 he hc f hf (C.ht _ hl) (fun _ h9 => h9) hfin hi hdecl hdd hn hfit hlen hd (fun H1 locs1 hP1 hD1 hS1 => k H1 locs1 ls (hw ▸ hP1) (hw ▸ hD1) hS1 hl')
theorem g_put (C : cc_C Γ own cc nL rm) {CN : String} {T : u_T} {N ci index : Nat} {a : Nat} (hin : ∀ x ∈ u_ws CN T N, x ∈ gw) (ty0 : Nat → FieldType) (hty : ∀ k, k < N → parseFieldDescriptor (T k).2.2.1 = some (ty0 k)) (hnm : ∀ a, a < N → ∀ b, b < N → a ≠ b → (T a).2.1 ≠ (T b).2.1) (q0 : Nat) {fs : List Value} (he : ws[q0]? = some (a, .inr (ci, fs))) (hc : qcl[ci]? = some (CN, T, N)) (f : Nat) (hf : f < N) (hfin : (T f).2.2.2 = false) {ty : FieldType} {v : Value} (hdd : parseFieldDescriptor (T f).2.2.1 = some ty) (hn : narrow ty v = v) (hfit : fits ty v = true) (hlen : f < fs.length) (hw : ws.set q0 (a, .inr (ci, fs.set f v)) = ws1) (hl : Cond.fieldLink own index (T f).1 (T f).2.1 (T f).2.2.1 ∈ gw) (hd : decode cc pc = .ok (.putfield index, 3)) (hp : pc + 3 = n)
    (k : CG Γ Q ws1 cells slots n lv st) : CG Γ Q ws cells slots pc lv (v :: .ref a :: st) := by
  subst hp
  exact fun H locs ls hP hD hS hl' => va_put C.hx C.hb C.ht hin ty0 hty hnm C.ho C.hK hP hD hS q0 he hc f hf (C.ht _ hl) (fun _ h9 => h9) hfin hdd hn hfit hlen hd (fun H1 locs1 hP1 hD1 hS1 => k H1 locs1 ls (hw ▸ hP1) (hw ▸ hD1) hS1 hl')
theorem g_get (C : cc_C Γ own cc nL rm) {CN : String} {T : u_T} {N ci index : Nat} {a : Nat} (hin : ∀ x ∈ u_ws CN T N, x ∈ gw) (q0 : Nat) {fs : List Value} (he : ws[q0]? = some (a, .inr (ci, fs))) (hc : qcl[ci]? = some (CN, T, N)) (f : Nat) (hf : f < N) {v : Value} (hv : fs[f]? = some v) (hl : Cond.fieldLink own index (T f).1 (T f).2.1 (T f).2.2.1 ∈ gw) (hd : decode cc pc = .ok (.getfield index, 3)) (hp : pc + 3 = n)
    (k : CG Γ Q ws cells slots n lv (v :: st)) : CG Γ Q ws cells slots pc lv (.ref a :: st) := by
  subst hp
  exact fun H locs ls hP hD hS hl' => va_get C.hx C.hb C.ht hin C.ho C.hK hP q0 he hc f hf (C.ht _ hl) (fun _ h9 => h9) hv hd (k H locs ls hP hD hS hl')
theorem g_new (C : cc_C Γ own cc nL rm) {CN : String} {T : u_T} {N ci index : Nat} (hin : ∀ x ∈ u_ws CN T N, x ∈ gw) (ty0 : Nat → FieldType) (hty : ∀ k, k < N → parseFieldDescriptor (T k).2.2.1 = some (ty0 k)) (hl1 : Cond.classLink own index CN ∈ gw) (hl2 : Cond.instantiable CN N ∈ gw) (hl3 : Cond.initialized CN ∈ gw) (hc : qcl[ci]? = some (CN, T, N)) {fs : List Value} (hfs : ∀ j, j < N → defaultValue (ty0 j) = vp_V fs j) (h1 : cells + 1 ≤ gn Γ) (h2 : slots + N ≤ gt Γ) (hd : decode cc pc = .ok (.new index, 3)) (hp : pc + 3 = n)
    (k : ∀ q : Nat, CG Γ Q (ws ++ [(q, .inr (ci, fs))]) (cells + 1) (slots + N) n lv (.ref q :: st)) : CG Γ Q ws cells slots pc lv st := by
  subst hp
  exact fun H locs ls hP hD hS hl => va_new C.hx C.hb C.ht hin ty0 hty C.ho (C.ht _ hl1) (C.ht _ hl2) (C.ht _ hl3) C.hK hP hD hS C.hA hc hfs (by rw [C.hn.1]; exact h1) (by rw [C.hn.2]; exact h2) hd (fun q H1 hP1 hD1 hS1 => k q H1 locs ls hP1 hD1 hS1 hl)
/-- a constructor called -/
theorem g_init {S : Type} (C : cc_C Γ own cc nL rm) {y : MethodName} {b2 : ByteArray} {n2 mc ms index : Nat} {rm2 : Nat × Nat} {w0 wr : va_W} {h : Nat} {As : List Value} {post : (Nat → Nat) × S → Prop} {wf : (Nat → Nat) → S → va_W} (M : MI (gl Γ) y b2 n2 rm2 mc ms (gK Γ) w0 (.ref h :: As) post wf) (I : ck_I y b2 n2 As.length) (hl : Cond.methodLink own index y ∈ gw)
    (hR : rm2.1 + 1 ≤ rm.1 ∧ 8 + (n2 + 11) + rm2.2 ≤ rm.2) (hc : cells + mc ≤ gn Γ ∧ slots + ms ≤ gt Γ) (isC isR : List Nat) (h1 : isC.filterMap (fun i => ws[i]?) = w0) (h2 : va_nd isC = true) (h3 : isC.map (fun i => ws[i]?) = w0.map some) (h4 : isR.map (fun i => ws[i]?) = wr.map some) (h5 : va_nd isR = true) (h6 : ∀ i ∈ isR, i ∉ isC) (hd : decode cc pc = .ok (.invokespecial index, 3)) (hp : pc + 3 = n) (hq : (st.map fun v => v.category).sum ≤ 8)
    {sta : List Value} (hst : As.reverse ++ .ref h :: st = sta) (k : ∀ (q : Nat → Nat) (σ : S), post (q, σ) → CG Γ Q (wr ++ wf q σ) (cells + mc) (slots + ms) n lv st) : CG Γ Q ws cells slots pc lv sta := by
  subst hp hst
  intro H locs ls hP hD hS hl'
  obtain ⟨i1, i2, i3, i4, i5⟩ := I
  have hFc := va_free (wc := w0) hD hS C.hA isC h3
  refine va_callv (va_runI (As := As) (rest := st) ⟨C.hx, C.hb, C.hl, C.ho, C.ht⟩ (M H.size) (cwI As.length C.ht (gw_goodIn i1) rfl rfl rfl (C.ht _ i2) (C.ht _ hl) (C.ht _ i4) i5 i3 (by rw [C.hR.1, C.hR.2]; exact hR)) ⟨fun a U g mk q => ?_, fun U hU hW => ?_⟩ rfl rfl (by rw [← C.hl]; exact hl'.1) rfl (lv_room hq) hd (by rw [C.hn.1, C.hn.2]; exact hc)) hS (fun q _ h => hFc q h) hFc (fun u t H1 locs1 ht hvm hw hB hz1 hk1 hS1 => ?_)
  · obtain ⟨q0, q1, q2, q3, q4, q5⟩ := q
    exact ⟨q0, q1, q2, va_K.moved (u := U) (U := U.calling g mk a) (Vm.Alike.refl U.vm) q3, q4, st_A.moved (u := U) (U := U.calling g mk a) (Vm.Alike.refl U.vm) q5⟩
  · subst hU
    exact ⟨rfl, rfl, hP.sub isC h1, va_K.moved hW.alike C.hK, (hD.sub isC h2 h3).weaken (fun _ _ _ _ => trivial), (st_A.moved hW.alike (C.hZ.kept (H1 := U.heap) (fun a h1 h2 => hS.2.1 a h1 h2))).narrow hFc⟩
  · obtain ⟨q, σ⟩ := u
    obtain ⟨hP1, hD1⟩ := hB
    rw [ht] at hP1
    obtain ⟨hP2, hD2⟩ := va_join (wr := wr) (w1 := wf q σ) hP hD isC isR h3 h4 h5 h6 hk1 hFc hP1 hD1
    exact k q σ hw H1 locs1 ls hP2 hD2 hS1 hl'
/-- a method of the world called -/
theorem g_call {S2 : Type} (C : cc_C Γ own cc nL rm) {K2 : kk_T} (w2 : S2 → va_W) {y : MethodName} {b2 : ByteArray} {n2 index : Nat} {rm2 : Nat × Nat} {b0 ci : Nat} {fs : List Value} {σ2 σ3 : S2} (e1 : kD K2 = kD (gK Γ)) (e2 : kt K2 = kt (gK Γ)) (M : MC (gl Γ) y b2 n2 none rm2 K2 w2 qcl σ2 [.ref b0] none σ3) (I : ck_V y b2 n2 none 0) (hl : Cond.methodLink own index y ∈ gw)
    (hR : rm2.1 + 1 ≤ rm.1 ∧ 8 + (n2 + 11) + rm2.2 ≤ rm.2) (hcs : cells ≤ gn Γ ∧ slots ≤ gt Γ) (hd : decode cc pc = .ok (.invokevirtual index, 3)) (hp : pc + 3 = n) (hr : (w2 σ2)[0]? = some (b0, .inr (ci, fs))) (hc : (qcl[ci]?).map (fun q => q.1) = some y.cls) (x z : va_W) (hE : ws = x ++ (w2 σ2 ++ z)) (ha : ∀ σ, (w2 σ).map (fun q => q.1) = (w2 σ2).map (fun q => q.1)) (hq : (st.map fun v => v.category).sum ≤ 8)
    (k : CG Γ Q (x ++ (w2 σ3 ++ z)) cells slots n lv st) : CG Γ Q ws cells slots pc lv (.ref b0 :: st) := by
  intro H locs ls hP hD hS hl'
  subst hE
  have hDs : ∀ σ, va_D (gA Γ) (x ++ (w2 σ ++ z)) := fun σ => hD.addr (by simp only [List.map_append, ha σ])
  have M2 : MC (gl Γ) y b2 n2 none rm2 (gK Γ) w2 qcl σ2 [.ref b0] none σ3 := by
    unfold MC at M ⊢
    rw [e1, e2] at M
    exact M
  have C2 : cx_C (gp Γ, gl Γ, ge Γ, gR Γ, gs Γ, gm Γ, ga Γ, gb Γ, gM Γ, gc Γ, gK Γ, gA Γ, cells, slots) (fun σ => x ++ (w2 σ ++ z)) qcl own cc nL (gM Γ).sig.returnType rm :=
    ⟨C.hx, C.hb, C.hl, C.ho, C.ht, C.hK, hDs, C.hA, C.hR, by rw [C.hn.1, C.hn.2]; exact hcs, C.hZ, rfl, C.hk⟩
  have key := j_callV (Γ := (gp Γ, gl Γ, ge Γ, gR Γ, gs Γ, gm Γ, ga Γ, gb Γ, gM Γ, gc Γ, gK Γ, gA Γ, cells, slots)) (w := fun σ => x ++ (w2 σ ++ z)) (Qf := fun (_ : Unit) _ => Q) (X := some ((), σ3)) (σ := σ2) (σ1 := σ3) (lv := lv) (rest := st) (As := []) C2 M2 I hl hR hd hp hr hc rfl rfl hq
    (fun r σ' h H1 locs1 ls1 hP1 hS1 hl1 => k H1 locs1 ls1 hP1 (hDs σ3) hS1 hl1)
  exact key () σ3 rfl H locs ls hP hS hl'
end
/-- a constructor's end -/
theorem g_ret {Γ : cx_T} {own : String} {cc : ByteArray} {nL : Nat} {rm : Nat × Nat} {S : Type} {post : (Nat → Nat) × S → Prop} {wf : (Nat → Nat) → S → va_W} {ws : va_W} {pc : Nat} {lv : List (Nat × Value)} (C : cc_C Γ own cc nL rm) (hr : (gM Γ).sig.returnType = none) (q : Nat → Nat) (σ : S) (hw : ws = wf q σ) (hp : post (q, σ)) (hd : decode cc pc = .ok (.return_, 1)) {cells slots : Nat} (h1 : cells = gn Γ) (h2 : slots = gt Γ) :
    CG Γ (MQ (gb Γ) (va_Qv post (fun u t => va_P (kD (gK Γ)) qcl (wf u.1 u.2) t.heap ∧ va_D (gA Γ) (wf u.1 u.2)) (gA Γ)) (ga Γ) (gs Γ) (gn Γ) (gt Γ) (gA Γ)) ws cells slots pc lv [] := by
  subst h1 h2 hw
  intro H locs ls hP hD hS hl
  exact W.vret C.hx C.hb hr (fun t ht hW => ⟨⟨(q, σ), rfl, hp, by rw [ht]; exact hP, hD⟩, hS.F ht⟩) hS.2.2 hd C.hk
theorem mi_of {S : Type} {l : Launch} {y : MethodName} {b : ByteArray} {n : Nat} {rm : Nat × Nat} {mc ms : Nat} {K : kk_T} {w0 : va_W} {av : List Value} {post : (Nat → Nat) × S → Prop} {wf : (Nat → Nat) → S → va_W}
    (hy : plainName y.cls = true) (hyn : y.name = "<init>") (hn : (lg_sl av).length ≤ n)
    (body : ∀ Γ : cx_T, gl Γ = l → gK Γ = K → gn Γ = mc → gt Γ = ms → cc_C Γ y.cls b n rm → (gM Γ).sig.returnType = none → (gM Γ).name = "<init>" →
      CG Γ (MQ (gb Γ) (va_Qv post (fun u t => va_P (kD (gK Γ)) qcl (wf u.1 u.2) t.heap ∧ va_D (gA Γ) (wf u.1 u.2)) (gA Γ)) (ga Γ) (gs Γ) (gn Γ) (gt Γ) (gA Γ)) w0 0 0 0 (lv_args 0 av) []) : MI l y b n rm mc ms K w0 av post wf := by
  intro sz
  refine Met.ofW (cc := b) (maxL := n) (ret := none) hy rfl ?_
  intro p e s m args below meth c s₁ B hml hv
  obtain ⟨rfl, hsz, hP, hK, hD0, hZ⟩ := hv
  subst hsz
  have hts0 := atoms_spec (ws := Cond.code y b n none :: gw) B.pre
  have hl := lv_entry av hn
  rw [lg_entry_eq]
  have hin : meth.name = "<init>" := (name_of_methodNamed B.named B.method).1.trans hyn
  exact body (p, l, e, (headSpec (Cond.code y b n none :: gw) { frames := rm.1, cells := mc, slots := ms, locals := rm.2 }).room, s, m, av.toArray, below, meth, c, K, va_A w0 s.heap.size, mc, ms) rfl rfl rfl rfl
    ⟨B.exec, B.bytes, hml, findClass_of_methodNamed B.named, fun x hx => hts0 x (List.mem_cons_of_mem _ hx), hK, fun q h => Or.inr h, ⟨rfl, rfl⟩, ⟨rfl, rfl⟩, hZ, B.notSynchronized⟩ B.returns hin s.heap [] _ hP hD0.self va_S.rf (by rw [show (gc (p, l, e, (headSpec (Cond.code y b n none :: gw) { frames := rm.1, cells := mc, slots := ms, locals := rm.2 }).room, s, m, av.toArray, below, meth, c, K, va_A w0 s.heap.size, mc, ms)).maxLocals = n from hml]; exact hl)
