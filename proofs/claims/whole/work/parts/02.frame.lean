/-! ===== THE FRAME OF ALL WALKS: a method's bytecode against a Lean function, in lockstep ===== -/
abbrev kk_T : Type := va_G × (ClassId × ClassId × ClassId) × (Nat → Nat)
abbrev kD (K : kk_T) : va_G := K.1
abbrev kI (K : kk_T) : ClassId := K.2.1.1
abbrev kJ (K : kk_T) : ClassId := K.2.1.2.1
abbrev kZ (K : kk_T) : ClassId := K.2.1.2.2
abbrev kq (K : kk_T) : Nat → Nat := K.2.2
abbrev kt (K : kk_T) : List (ClassId × FieldType) := [(kI K, .int), (kJ K, .long), (kZ K, .boolean)]
abbrev cx_T : Type := Program × Launch × Env × Room × State × MethodId × Array Value × List Frame × Method × Code × kk_T × (Nat → Prop) × Nat × Nat
abbrev gp (Γ : cx_T) : Program := Γ.1
abbrev gl (Γ : cx_T) : Launch := Γ.2.1
abbrev ge (Γ : cx_T) : Env := Γ.2.2.1
abbrev gR (Γ : cx_T) : Room := Γ.2.2.2.1
abbrev gs (Γ : cx_T) : State := Γ.2.2.2.2.1
abbrev gm (Γ : cx_T) : MethodId := Γ.2.2.2.2.2.1
abbrev ga (Γ : cx_T) : Array Value := Γ.2.2.2.2.2.2.1
abbrev gb (Γ : cx_T) : List Frame := Γ.2.2.2.2.2.2.2.1
abbrev gM (Γ : cx_T) : Method := Γ.2.2.2.2.2.2.2.2.1
abbrev gc (Γ : cx_T) : Code := Γ.2.2.2.2.2.2.2.2.2.1
abbrev gK (Γ : cx_T) : kk_T := Γ.2.2.2.2.2.2.2.2.2.2.1
abbrev gA (Γ : cx_T) : Nat → Prop := Γ.2.2.2.2.2.2.2.2.2.2.2.1
abbrev gn (Γ : cx_T) : Nat := Γ.2.2.2.2.2.2.2.2.2.2.2.2.1
abbrev gt (Γ : cx_T) : Nat := Γ.2.2.2.2.2.2.2.2.2.2.2.2.2
/-- the words that every method is proved over -/
def gw : List Cond := lw_tbl.filter goodWord
theorem gw_at {w : Cond} (i : Nat) (h : lw_tbl[i]? = some w) (g : goodWord w = true) : w ∈ gw := List.mem_filter.mpr ⟨List.mem_of_getElem? h, g⟩
theorem gw_tbl {w : Cond} (h : w ∈ gw) : w ∈ lw_tbl := (List.mem_filter.mp h).1
theorem gw_good {w : Cond} (h : w ∈ gw) : (w.onTables && w.keeps) = true ∨ ∃ ty, w = .arrayClass ty := good_of_word (List.mem_filter.mp h).2
/-- what every method takes of the statics: the table of operand counts -/
def oc_t : List Int32 := [3, 3, 2, 2, 3, -1, 1, 0, -1, -1, -1, -1, 2, 2, 2, 2, 1, 1, 1, 1, 2, 1, 1, -1, 2, -1]
def oc_f (j : Nat) : Int32 := oc_t.getD j 0
def st_t (A : Nat → Prop) (U : State) (H : Heap) (t : Nat) : Prop := va_Z "ScopeInterpreter$Machine" "OPERAND_COUNTS" "[I" (.ref t) A U H ∧ va_T .int t 26 (fun j => .int (oc_f j)) A U H
def st_A (A : Nat → Prop) (U : State) (H : Heap) : Prop := ∃ t, st_t A U H t
theorem st_A.moved {A : Nat → Prop} {u U : State} {H : Heap} (hvm : u.vm.Alike U.vm) (h : st_A A u H) : st_A A U H := by
  obtain ⟨t, h1, h2⟩ := h
  exact ⟨t, h1.moved hvm, h2.moved hvm⟩
theorem st_A.kept {A : Nat → Prop} {U : State} {H H1 : Heap} (h : st_A A U H) (hq : ∀ a : Nat, a < H.size → ¬ A a → H1[a]? = H[a]?) : st_A A U H1 := by
  obtain ⟨t, h1, h2⟩ := h
  exact ⟨t, h1.kept hq, h2.kept hq⟩
theorem st_A.narrow {A B : Nat → Prop} {U : State} {H : Heap} (h : st_A A U H) (hAB : ∀ q, B q → A q) : st_A B U H := by
  obtain ⟨t, h1, h2⟩ := h
  exact ⟨t, h1.narrow hAB, h2.narrow hAB⟩
/-- the context of a walk: the class that owns the method, its code, its locals, its room (frames, words) -/
def cx_C {S : Type} (Γ : cx_T) (w : S → va_W) (cl : List vw_C) (own : String) (cc : ByteArray) (nL : Nat) (ret : Option FieldType) (rm : Nat × Nat) : Prop :=
  (gp Γ).tables.exec = Jvm.exec ∧ (gc Γ).code = cc ∧ (gc Γ).maxLocals = nL ∧ (gs Γ).vm.findClass own = some (gm Γ).cls ∧ (∀ x ∈ gw, x.before (ga Γ) (gs Γ) = true) ∧
  va_K (kD (gK Γ)) cl (kt (gK Γ)) (gs Γ) ∧ (∀ σ, va_D (gA Γ) (w σ)) ∧ (∀ q, (gs Γ).heap.size ≤ q → gA Γ q) ∧ ((gR Γ).frames = rm.1 ∧ (gR Γ).locals = rm.2) ∧ (gn Γ ≤ (gR Γ).cells ∧ gt Γ ≤ (gR Γ).slots) ∧ st_A (gA Γ) (gs Γ) (gs Γ).heap ∧ (gM Γ).sig.returnType = ret ∧ (gM Γ).locks = false
section
variable {S : Type} {Γ : cx_T} {w : S → va_W} {cl : List vw_C} {own : String} {cc : ByteArray} {nL : Nat} {ret : Option FieldType} {rm : Nat × Nat}
theorem cx_C.hx (C : cx_C Γ w cl own cc nL ret rm) : (gp Γ).tables.exec = Jvm.exec := C.1
theorem cx_C.hb (C : cx_C Γ w cl own cc nL ret rm) : (gc Γ).code = cc := C.2.1
theorem cx_C.hl (C : cx_C Γ w cl own cc nL ret rm) : (gc Γ).maxLocals = nL := C.2.2.1
theorem cx_C.ho (C : cx_C Γ w cl own cc nL ret rm) : (gs Γ).vm.findClass own = some (gm Γ).cls := C.2.2.2.1
theorem cx_C.ht (C : cx_C Γ w cl own cc nL ret rm) : ∀ x ∈ gw, x.before (ga Γ) (gs Γ) = true := C.2.2.2.2.1
theorem cx_C.hK (C : cx_C Γ w cl own cc nL ret rm) : va_K (kD (gK Γ)) cl (kt (gK Γ)) (gs Γ) := C.2.2.2.2.2.1
theorem cx_C.hD (C : cx_C Γ w cl own cc nL ret rm) : ∀ σ, va_D (gA Γ) (w σ) := C.2.2.2.2.2.2.1
theorem cx_C.hA (C : cx_C Γ w cl own cc nL ret rm) : ∀ q, (gs Γ).heap.size ≤ q → gA Γ q := C.2.2.2.2.2.2.2.1
theorem cx_C.hR (C : cx_C Γ w cl own cc nL ret rm) : (gR Γ).frames = rm.1 ∧ (gR Γ).locals = rm.2 := C.2.2.2.2.2.2.2.2.1
theorem cx_C.hr (C : cx_C Γ w cl own cc nL ret rm) : gn Γ ≤ (gR Γ).cells ∧ gt Γ ≤ (gR Γ).slots := C.2.2.2.2.2.2.2.2.2.1
theorem cx_C.hZ (C : cx_C Γ w cl own cc nL ret rm) : st_A (gA Γ) (gs Γ) (gs Γ).heap := C.2.2.2.2.2.2.2.2.2.2.1
theorem cx_C.hs (C : cx_C Γ w cl own cc nL ret rm) : (gM Γ).sig.returnType = ret := C.2.2.2.2.2.2.2.2.2.2.2.1
theorem cx_C.hk (C : cx_C Γ w cl own cc nL ret rm) : (gM Γ).locks = false := C.2.2.2.2.2.2.2.2.2.2.2.2
end
/-- the judgement: X is what the method's function still has to say; the machine stands at pc with these locals, this stack, the world of σ -/
def J {R S : Type} (Γ : cx_T) (w : S → va_W) (cl : List vw_C) (Qf : R → S → State → Prop) (X : Option (R × S)) (σ : S) (pc : Nat) (lv : List (Nat × Value)) (st : List Value) : Prop :=
  ∀ r σ', X = some (r, σ') → ∀ (H : Heap) (locs : List Loc) (ls : Array Slot), va_P (kD (gK Γ)) cl (w σ) H → va_S (gA Γ) (gs Γ).heap H locs → lv_has ls (gc Γ).maxLocals lv →
    W (gp Γ) (gl Γ) (ge Γ) (gR Γ) (gs Γ) (gm Γ) (ga Γ) (gb Γ) (gM Γ) (gc Γ) H locs (gn Γ) (gt Γ) (Qf r σ') (F0 (gm Γ) pc ls st)
/-- the shapes of a method's function: a value (nothing changes); a state; both; the same, perhaps nothing -/
def shP {R S : Type} (σ : S) (x : R) : Option (R × S) := some (x, σ)
def shV {S : Type} (x : S) : Option (Unit × S) := some ((), x)
def shT {R S : Type} (x : R × S) : Option (R × S) := some x
def shO {R S : Type} (x : Option (R × S)) : Option (R × S) := x
def shR {R S : Type} (σ : S) (x : Option R) : Option (R × S) := x.map (fun r => (r, σ))
def shU {S : Type} (x : Option S) : Option (Unit × S) := x.map (fun σ => ((), σ))
def st1 (i : Nat) (v : Value) (lv : List (Nat × Value)) : List (Nat × Value) := (i, v) :: lv.filter (fun q => !(q.1 == i) && !(q.1 + 1 == i && q.2.category == 2))
def st2 (i : Nat) (v : Value) (lv : List (Nat × Value)) : List (Nat × Value) := (i, v) :: lv.filter (fun q => !(q.1 == i) && (!(q.1 == i + 1) && !(q.1 + 1 == i && q.2.category == 2)))
section
variable {R S : Type} {Γ : cx_T} {w : S → va_W} {cl : List vw_C} {own : String} {cc : ByteArray} {nL : Nat} {ret : Option FieldType} {rm : Nat × Nat} {Qf : R → S → State → Prop} {X : Option (R × S)} {σ : S} {pc n : Nat} {lv lv' : List (Nat × Value)} {st : List Value}
theorem J.pos {α : Type} (sh : α → Option (R × S)) {c : Prop} {d : Decidable c} {x y : α} (h : c) (k : J Γ w cl Qf (sh x) σ pc lv st) : J Γ w cl Qf (sh (if c then x else y)) σ pc lv st := by rw [if_pos h]; exact k
theorem J.neg {α : Type} (sh : α → Option (R × S)) {c : Prop} {d : Decidable c} {x y : α} (h : ¬ c) (k : J Γ w cl Qf (sh y) σ pc lv st) : J Γ w cl Qf (sh (if c then x else y)) σ pc lv st := by rw [if_neg h]; exact k
theorem J.inO {c : Prop} {d : Decidable c} {x : Option (R × S)} (k : c → J Γ w cl Qf (shO x) σ pc lv st) : J Γ w cl Qf (shO (if c then x else none)) σ pc lv st := by
  by_cases h : c
  · exact J.pos shO h (k h)
  · rw [if_neg h]; intro r σ' h; cases h
theorem J.inR {c : Prop} {d : Decidable c} {σ0 : S} {x : Option R} (k : c → J Γ w cl Qf (shR σ0 x) σ pc lv st) : J Γ w cl Qf (shR σ0 (if c then x else none)) σ pc lv st := by
  by_cases h : c
  · exact J.pos (shR σ0) h (k h)
  · rw [if_neg h]; intro r σ' h; cases h
theorem J.goO {α : Type} {y : Option α} {f : α → Option (R × S)} (k : ∀ a, y = some a → J Γ w cl Qf (shO (f a)) σ pc lv st) : J Γ w cl Qf (shO (y.bind f)) σ pc lv st := by
  cases y with
  | none => intro r σ' h; cases h
  | some a => exact k a rfl
theorem J.goR {α : Type} {σ0 : S} {y : Option α} {f : α → Option R} (k : ∀ a, y = some a → J Γ w cl Qf (shR σ0 (f a)) σ pc lv st) : J Γ w cl Qf (shR σ0 (y.bind f)) σ pc lv st := by
  cases y with
  | none => intro r σ' h; cases h
  | some a => exact k a rfl
end
section
variable {S : Type} {Γ : cx_T} {w : S → va_W} {cl : List vw_C} {Qf : Unit → S → State → Prop} {σ : S} {pc : Nat} {lv : List (Nat × Value)} {st : List Value}
theorem J.inU {c : Prop} {d : Decidable c} {x : Option S} (k : c → J Γ w cl Qf (shU x) σ pc lv st) : J Γ w cl Qf (shU (if c then x else none)) σ pc lv st := by
  by_cases h : c
  · exact J.pos shU h (k h)
  · rw [if_neg h]; intro r σ' h; cases h
theorem J.goU {α : Type} {y : Option α} {f : α → Option S} (k : ∀ a, y = some a → J Γ w cl Qf (shU (f a)) σ pc lv st) : J Γ w cl Qf (shU (y.bind f)) σ pc lv st := by
  cases y with
  | none => intro r σ' h; cases h
  | some a => exact k a rfl
end
theorem lc_3 (x y : Int64) : (y < x ∧ lg_cmp x y = 1) ∨ (x = y ∧ lg_cmp x y = 0) ∨ (x < y ∧ lg_cmp x y = -1) := by
  by_cases h1 : y < x
  · exact Or.inl ⟨h1, by simp [lg_cmp, h1]⟩
  · by_cases h2 : x = y
    · exact Or.inr (Or.inl ⟨h2, by subst h2; simp [lg_cmp]⟩)
    · refine Or.inr (Or.inr ⟨?_, by simp [lg_cmp, h1, h2]⟩)
      rw [Int64.lt_iff_toInt_lt] at h1 ⊢
      rw [← Int64.toInt_inj] at h2
      omega
theorem lc_eq1 {x y : Int64} (h : lg_cmp x y = 0) : x = y := by
  revert h
  rcases lc_3 x y with ⟨h1, e⟩ | ⟨h1, e⟩ | ⟨h1, e⟩ <;> rw [e] <;> simp only [Int64.lt_iff_toInt_lt, ← Int64.toInt_inj] at h1 ⊢ <;> intro h <;> first | omega | exact absurd h (by decide) | exact absurd trivial h
theorem lc_eq2 {x y : Int64} (h : ¬ lg_cmp x y = 0) : ¬ x = y := by
  revert h
  rcases lc_3 x y with ⟨h1, e⟩ | ⟨h1, e⟩ | ⟨h1, e⟩ <;> rw [e] <;> simp only [Int64.lt_iff_toInt_lt, ← Int64.toInt_inj] at h1 ⊢ <;> intro h <;> first | omega | exact absurd h (by decide) | exact absurd trivial h
theorem lc_ne1 {x y : Int64} (h : ¬ lg_cmp x y = 0) : ¬ x = y := by
  revert h
  rcases lc_3 x y with ⟨h1, e⟩ | ⟨h1, e⟩ | ⟨h1, e⟩ <;> rw [e] <;> simp only [Int64.lt_iff_toInt_lt, ← Int64.toInt_inj] at h1 ⊢ <;> intro h <;> first | omega | exact absurd h (by decide) | exact absurd trivial h
theorem lc_ne2 {x y : Int64} (h : lg_cmp x y = 0) : x = y := by
  revert h
  rcases lc_3 x y with ⟨h1, e⟩ | ⟨h1, e⟩ | ⟨h1, e⟩ <;> rw [e] <;> simp only [Int64.lt_iff_toInt_lt, ← Int64.toInt_inj] at h1 ⊢ <;> intro h <;> first | omega | exact absurd h (by decide) | exact absurd trivial h
theorem lc_lt1 {x y : Int64} (h : lg_cmp x y < 0) : x < y := by
  revert h
  rcases lc_3 x y with ⟨h1, e⟩ | ⟨h1, e⟩ | ⟨h1, e⟩ <;> rw [e] <;> simp only [Int64.lt_iff_toInt_lt, ← Int64.toInt_inj] at h1 ⊢ <;> intro h <;> first | omega | exact absurd h (by decide) | exact absurd trivial h
theorem lc_lt2 {x y : Int64} (h : ¬ lg_cmp x y < 0) : ¬ x < y := by
  revert h
  rcases lc_3 x y with ⟨h1, e⟩ | ⟨h1, e⟩ | ⟨h1, e⟩ <;> rw [e] <;> simp only [Int64.lt_iff_toInt_lt, ← Int64.toInt_inj] at h1 ⊢ <;> intro h <;> first | omega | exact absurd h (by decide) | exact absurd trivial h
theorem lc_ge1 {x y : Int64} (h : 0 ≤ lg_cmp x y) : ¬ x < y := by
  revert h
  rcases lc_3 x y with ⟨h1, e⟩ | ⟨h1, e⟩ | ⟨h1, e⟩ <;> rw [e] <;> simp only [Int64.lt_iff_toInt_lt, ← Int64.toInt_inj] at h1 ⊢ <;> intro h <;> first | omega | exact absurd h (by decide) | exact absurd trivial h
theorem lc_ge2 {x y : Int64} (h : ¬ 0 ≤ lg_cmp x y) : x < y := by
  revert h
  rcases lc_3 x y with ⟨h1, e⟩ | ⟨h1, e⟩ | ⟨h1, e⟩ <;> rw [e] <;> simp only [Int64.lt_iff_toInt_lt, ← Int64.toInt_inj] at h1 ⊢ <;> intro h <;> first | omega | exact absurd h (by decide) | exact absurd trivial h
theorem lc_gt1 {x y : Int64} (h : 0 < lg_cmp x y) : y < x := by
  revert h
  rcases lc_3 x y with ⟨h1, e⟩ | ⟨h1, e⟩ | ⟨h1, e⟩ <;> rw [e] <;> simp only [Int64.lt_iff_toInt_lt, ← Int64.toInt_inj] at h1 ⊢ <;> intro h <;> first | omega | exact absurd h (by decide) | exact absurd trivial h
theorem lc_gt2 {x y : Int64} (h : ¬ 0 < lg_cmp x y) : ¬ y < x := by
  revert h
  rcases lc_3 x y with ⟨h1, e⟩ | ⟨h1, e⟩ | ⟨h1, e⟩ <;> rw [e] <;> simp only [Int64.lt_iff_toInt_lt, ← Int64.toInt_inj] at h1 ⊢ <;> intro h <;> first | omega | exact absurd h (by decide) | exact absurd trivial h
theorem lc_le1 {x y : Int64} (h : lg_cmp x y ≤ 0) : ¬ y < x := by
  revert h
  rcases lc_3 x y with ⟨h1, e⟩ | ⟨h1, e⟩ | ⟨h1, e⟩ <;> rw [e] <;> simp only [Int64.lt_iff_toInt_lt, ← Int64.toInt_inj] at h1 ⊢ <;> intro h <;> first | omega | exact absurd h (by decide) | exact absurd trivial h
theorem lc_le2 {x y : Int64} (h : ¬ lg_cmp x y ≤ 0) : y < x := by
  revert h
  rcases lc_3 x y with ⟨h1, e⟩ | ⟨h1, e⟩ | ⟨h1, e⟩ <;> rw [e] <;> simp only [Int64.lt_iff_toInt_lt, ← Int64.toInt_inj] at h1 ⊢ <;> intro h <;> first | omega | exact absurd h (by decide) | exact absurd trivial h
section
variable {R S : Type} {Γ : cx_T} {w : S → va_W} {cl : List vw_C} {own : String} {cc : ByteArray} {nL : Nat} {ret : Option FieldType} {rm : Nat × Nat} {Qf : R → S → State → Prop} {X : Option (R × S)} {σ : S} {pc n : Nat} {lv lv' : List (Nat × Value)} {st : List Value}
theorem j_iconst (C : cx_C Γ w cl own cc nL ret rm) {i : Int} {v : Int32} (hd : decode cc pc = .ok (.iconst i, 1)) (hp : pc + 1 = n) (hv : Int32.ofInt i = v) (k : J Γ w cl Qf X σ n lv (.int v :: st)) : J Γ w cl Qf X σ pc lv (st) := by
  subst hp
  exact fun r σ' h H locs ls hP hS hl => lv_iconst C.hx C.hb hd hv (k r σ' h H locs ls hP hS hl)
theorem j_bipush (C : cx_C Γ w cl own cc nL ret rm) {i : Int} {v : Int32} (hd : decode cc pc = .ok (.bipush i, 2)) (hp : pc + 2 = n) (hv : (Int8.ofInt i).toInt32 = v) (k : J Γ w cl Qf X σ n lv (.int v :: st)) : J Γ w cl Qf X σ pc lv (st) := by
  subst hp
  exact fun r σ' h H locs ls hP hS hl => lv_bipush C.hx C.hb hd hv (k r σ' h H locs ls hP hS hl)
theorem j_sipush (C : cx_C Γ w cl own cc nL ret rm) {i : Int} {v : Int32} (hd : decode cc pc = .ok (.sipush i, 3)) (hp : pc + 3 = n) (hv : (Int16.ofInt i).toInt32 = v) (k : J Γ w cl Qf X σ n lv (.int v :: st)) : J Γ w cl Qf X σ pc lv (st) := by
  subst hp
  exact fun r σ' h H locs ls hP hS hl => lv_sipush C.hx C.hb hd hv (k r σ' h H locs ls hP hS hl)
theorem j_lconst (C : cx_C Γ w cl own cc nL ret rm) {i : Fin 2} {v : Int64} (hd : decode cc pc = .ok (.lconst i, 1)) (hp : pc + 1 = n) (hv : Int64.ofNat (i : Nat) = v) (k : J Γ w cl Qf X σ n lv (.long v :: st)) : J Γ w cl Qf X σ pc lv (st) := by
  subst hp
  exact fun r σ' h H locs ls hP hS hl => lv_lconst C.hx C.hb hd hv (k r σ' h H locs ls hP hS hl)
theorem j_ldc (C : cx_C Γ w cl own cc nL ret rm) {i : Nat} {v : Int32} (hd : decode cc pc = .ok (.ldc i, 2)) (hp : pc + 2 = n) (hc : Cond.constant own i v ∈ gw) (k : J Γ w cl Qf X σ n lv (.int v :: st)) : J Γ w cl Qf X σ pc lv (st) := by
  subst hp
  exact fun r σ' h H locs ls hP hS hl => lv_ldc C.hx C.hb C.ho (C.ht _ hc) hd (k r σ' h H locs ls hP hS hl)
theorem j_ldc2 (C : cx_C Γ w cl own cc nL ret rm) {i : Nat} {v : Int64} (hd : decode cc pc = .ok (.ldc2_w i, 3)) (hp : pc + 3 = n) (hc : Cond.constantLong own i v ∈ gw) (k : J Γ w cl Qf X σ n lv (.long v :: st)) : J Γ w cl Qf X σ pc lv (st) := by
  subst hp
  exact fun r σ' h H locs ls hP hS hl => lv_ldc2 C.hx C.hb C.ho (C.ht _ hc) hd (k r σ' h H locs ls hP hS hl)
theorem j_iload_n (C : cx_C Γ w cl own cc nL ret rm) {i : Fin 4} {x : Int32} (hd : decode cc pc = .ok (.iload_n i, 1)) (hp : pc + 1 = n) (z : Nat) (hz : lv[z]? = some ((i : Nat), .int x)) (k : J Γ w cl Qf X σ n lv (.int x :: st)) : J Γ w cl Qf X σ pc lv (st) := by
  subst hp
  exact fun r σ' h H locs ls hP hS hl => lv_iload_n C.hx C.hb hd rfl (lv_at hl z hz) (k r σ' h H locs ls hP hS hl)
theorem j_iload (C : cx_C Γ w cl own cc nL ret rm) {i : Nat} {x : Int32} (hd : decode cc pc = .ok (.iload i, 2)) (hp : pc + 2 = n) (z : Nat) (hz : lv[z]? = some (i, .int x)) (k : J Γ w cl Qf X σ n lv (.int x :: st)) : J Γ w cl Qf X σ pc lv (st) := by
  subst hp
  exact fun r σ' h H locs ls hP hS hl => lv_iload C.hx C.hb hd (lv_at hl z hz) (k r σ' h H locs ls hP hS hl)
theorem j_lload_n (C : cx_C Γ w cl own cc nL ret rm) {i : Fin 4} {x : Int64} (hd : decode cc pc = .ok (.lload_n i, 1)) (hp : pc + 1 = n) (z : Nat) (hz : lv[z]? = some ((i : Nat), .long x)) (k : J Γ w cl Qf X σ n lv (.long x :: st)) : J Γ w cl Qf X σ pc lv (st) := by
  subst hp
  exact fun r σ' h H locs ls hP hS hl => lv_lload_n C.hx C.hb hd rfl (lv_at hl z hz) (k r σ' h H locs ls hP hS hl)
theorem j_lload (C : cx_C Γ w cl own cc nL ret rm) {i : Nat} {x : Int64} (hd : decode cc pc = .ok (.lload i, 2)) (hp : pc + 2 = n) (z : Nat) (hz : lv[z]? = some (i, .long x)) (k : J Γ w cl Qf X σ n lv (.long x :: st)) : J Γ w cl Qf X σ pc lv (st) := by
  subst hp
  exact fun r σ' h H locs ls hP hS hl => lv_lload C.hx C.hb hd (lv_at hl z hz) (k r σ' h H locs ls hP hS hl)
theorem j_aload_n (C : cx_C Γ w cl own cc nL ret rm) {i : Fin 4} {x : Nat} (hd : decode cc pc = .ok (.aload_n i, 1)) (hp : pc + 1 = n) (z : Nat) (hz : lv[z]? = some ((i : Nat), .ref x)) (k : J Γ w cl Qf X σ n lv (.ref x :: st)) : J Γ w cl Qf X σ pc lv (st) := by
  subst hp
  exact fun r σ' h H locs ls hP hS hl => lv_aload_n C.hx C.hb hd rfl (lv_at hl z hz) (k r σ' h H locs ls hP hS hl)
theorem j_aload (C : cx_C Γ w cl own cc nL ret rm) {i : Nat} {x : Nat} (hd : decode cc pc = .ok (.aload i, 2)) (hp : pc + 2 = n) (z : Nat) (hz : lv[z]? = some (i, .ref x)) (k : J Γ w cl Qf X σ n lv (.ref x :: st)) : J Γ w cl Qf X σ pc lv (st) := by
  subst hp
  exact fun r σ' h H locs ls hP hS hl => lv_aload C.hx C.hb hd (lv_at hl z hz) (k r σ' h H locs ls hP hS hl)
theorem j_istore_n (C : cx_C Γ w cl own cc nL ret rm) {q : Fin 4} {i : Nat} {x : Int32} (hd : decode cc pc = .ok (.istore_n q, 1)) (hp : pc + 1 = n) (hi : (q : Nat) = i) (hn : i < nL) (hv : st1 i (.int x) lv = lv') (k : J Γ w cl Qf X σ n lv' st) : J Γ w cl Qf X σ pc lv (.int x :: st) := by
  subst hp
  exact fun r σ' h H locs ls hP hS hl => lv_istore_n C.hx C.hb hd hi hl (by rw [C.hl]; exact hn) hv (fun ls' hl' => k r σ' h H locs ls' hP hS hl')
theorem j_istore (C : cx_C Γ w cl own cc nL ret rm) {i : Nat} {x : Int32} (hd : decode cc pc = .ok (.istore i, 2)) (hp : pc + 2 = n)  (hn : i < nL) (hv : st1 i (.int x) lv = lv') (k : J Γ w cl Qf X σ n lv' st) : J Γ w cl Qf X σ pc lv (.int x :: st) := by
  subst hp
  exact fun r σ' h H locs ls hP hS hl => lv_istore C.hx C.hb hd  hl (by rw [C.hl]; exact hn) hv (fun ls' hl' => k r σ' h H locs ls' hP hS hl')
theorem j_lstore_n (C : cx_C Γ w cl own cc nL ret rm) {q : Fin 4} {i : Nat} {x : Int64} (hd : decode cc pc = .ok (.lstore_n q, 1)) (hp : pc + 1 = n) (hi : (q : Nat) = i) (hn : i + 1 < nL) (hv : st2 i (.long x) lv = lv') (k : J Γ w cl Qf X σ n lv' st) : J Γ w cl Qf X σ pc lv (.long x :: st) := by
  subst hp
  exact fun r σ' h H locs ls hP hS hl => lv_lstore_n C.hx C.hb hd hi hl (by rw [C.hl]; exact hn) hv (fun ls' hl' => k r σ' h H locs ls' hP hS hl')
theorem j_lstore (C : cx_C Γ w cl own cc nL ret rm) {i : Nat} {x : Int64} (hd : decode cc pc = .ok (.lstore i, 2)) (hp : pc + 2 = n)  (hn : i + 1 < nL) (hv : st2 i (.long x) lv = lv') (k : J Γ w cl Qf X σ n lv' st) : J Γ w cl Qf X σ pc lv (.long x :: st) := by
  subst hp
  exact fun r σ' h H locs ls hP hS hl => lv_lstore C.hx C.hb hd  hl (by rw [C.hl]; exact hn) hv (fun ls' hl' => k r σ' h H locs ls' hP hS hl')
theorem j_astore_n (C : cx_C Γ w cl own cc nL ret rm) {q : Fin 4} {i : Nat} {x : Nat} (hd : decode cc pc = .ok (.astore_n q, 1)) (hp : pc + 1 = n) (hi : (q : Nat) = i) (hn : i < nL) (hv : st1 i (.ref x) lv = lv') (k : J Γ w cl Qf X σ n lv' st) : J Γ w cl Qf X σ pc lv (.ref x :: st) := by
  subst hp
  exact fun r σ' h H locs ls hP hS hl => lv_astore_n C.hx C.hb hd hi hl (by rw [C.hl]; exact hn) hv (fun ls' hl' => k r σ' h H locs ls' hP hS hl')
theorem j_astore (C : cx_C Γ w cl own cc nL ret rm) {i : Nat} {x : Nat} (hd : decode cc pc = .ok (.astore i, 2)) (hp : pc + 2 = n)  (hn : i < nL) (hv : st1 i (.ref x) lv = lv') (k : J Γ w cl Qf X σ n lv' st) : J Γ w cl Qf X σ pc lv (.ref x :: st) := by
  subst hp
  exact fun r σ' h H locs ls hP hS hl => lv_astore C.hx C.hb hd  hl (by rw [C.hl]; exact hn) hv (fun ls' hl' => k r σ' h H locs ls' hP hS hl')
theorem j_iinc (C : cx_C Γ w cl own cc nL ret rm) {i : Nat} {a : Int} {x v : Int32} (hd : decode cc pc = .ok (.iinc i a, 3)) (hp : pc + 3 = n) (z : Nat) (hz : lv[z]? = some (i, .int x)) (hv : x + Int32.ofInt a = v) (hn : i < nL) (hw : st1 i (.int v) lv = lv') (k : J Γ w cl Qf X σ n lv' st) : J Γ w cl Qf X σ pc lv st := by
  subst hp
  exact fun r σ' h H locs ls hP hS hl => lv_iinc C.hx C.hb hd hl hz hv (by rw [C.hl]; exact hn) hw (fun ls' hl' => k r σ' h H locs ls' hP hS hl')
theorem j_iadd (C : cx_C Γ w cl own cc nL ret rm) {x y : Int32} (hd : decode cc pc = .ok (.iadd, 1)) (hp : pc + 1 = n)  (k : J Γ w cl Qf X σ n lv (.int (x + y) :: st)) : J Γ w cl Qf X σ pc lv (.int y :: .int x :: st) := by
  subst hp
  exact fun r σ' h H locs ls hP hS hl => lv_iadd C.hx C.hb hd (k r σ' h H locs ls hP hS hl)
theorem j_isub (C : cx_C Γ w cl own cc nL ret rm) {x y : Int32} (hd : decode cc pc = .ok (.isub, 1)) (hp : pc + 1 = n)  (k : J Γ w cl Qf X σ n lv (.int (x - y) :: st)) : J Γ w cl Qf X σ pc lv (.int y :: .int x :: st) := by
  subst hp
  exact fun r σ' h H locs ls hP hS hl => lv_isub C.hx C.hb hd (k r σ' h H locs ls hP hS hl)
theorem j_imul (C : cx_C Γ w cl own cc nL ret rm) {x y : Int32} (hd : decode cc pc = .ok (.imul, 1)) (hp : pc + 1 = n)  (k : J Γ w cl Qf X σ n lv (.int (x * y) :: st)) : J Γ w cl Qf X σ pc lv (.int y :: .int x :: st) := by
  subst hp
  exact fun r σ' h H locs ls hP hS hl => lv_imul C.hx C.hb hd (k r σ' h H locs ls hP hS hl)
theorem j_iand (C : cx_C Γ w cl own cc nL ret rm) {x y : Int32} (hd : decode cc pc = .ok (.iand, 1)) (hp : pc + 1 = n)  (k : J Γ w cl Qf X σ n lv (.int (x &&& y) :: st)) : J Γ w cl Qf X σ pc lv (.int y :: .int x :: st) := by
  subst hp
  exact fun r σ' h H locs ls hP hS hl => lv_iand C.hx C.hb hd (k r σ' h H locs ls hP hS hl)
theorem j_ladd (C : cx_C Γ w cl own cc nL ret rm) {x y : Int64} (hd : decode cc pc = .ok (.ladd, 1)) (hp : pc + 1 = n)  (k : J Γ w cl Qf X σ n lv (.long (x + y) :: st)) : J Γ w cl Qf X σ pc lv (.long y :: .long x :: st) := by
  subst hp
  exact fun r σ' h H locs ls hP hS hl => lv_ladd C.hx C.hb hd (k r σ' h H locs ls hP hS hl)
theorem j_lsub (C : cx_C Γ w cl own cc nL ret rm) {x y : Int64} (hd : decode cc pc = .ok (.lsub, 1)) (hp : pc + 1 = n)  (k : J Γ w cl Qf X σ n lv (.long (x - y) :: st)) : J Γ w cl Qf X σ pc lv (.long y :: .long x :: st) := by
  subst hp
  exact fun r σ' h H locs ls hP hS hl => lv_lsub C.hx C.hb hd (k r σ' h H locs ls hP hS hl)
theorem j_lmul (C : cx_C Γ w cl own cc nL ret rm) {x y : Int64} (hd : decode cc pc = .ok (.lmul, 1)) (hp : pc + 1 = n)  (k : J Γ w cl Qf X σ n lv (.long (x * y) :: st)) : J Γ w cl Qf X σ pc lv (.long y :: .long x :: st) := by
  subst hp
  exact fun r σ' h H locs ls hP hS hl => lv_lmul C.hx C.hb hd (k r σ' h H locs ls hP hS hl)
theorem j_land (C : cx_C Γ w cl own cc nL ret rm) {x y : Int64} (hd : decode cc pc = .ok (.land, 1)) (hp : pc + 1 = n)  (k : J Γ w cl Qf X σ n lv (.long (x &&& y) :: st)) : J Γ w cl Qf X σ pc lv (.long y :: .long x :: st) := by
  subst hp
  exact fun r σ' h H locs ls hP hS hl => lv_land C.hx C.hb hd (k r σ' h H locs ls hP hS hl)
theorem j_lor (C : cx_C Γ w cl own cc nL ret rm) {x y : Int64} (hd : decode cc pc = .ok (.lor, 1)) (hp : pc + 1 = n)  (k : J Γ w cl Qf X σ n lv (.long (x ||| y) :: st)) : J Γ w cl Qf X σ pc lv (.long y :: .long x :: st) := by
  subst hp
  exact fun r σ' h H locs ls hP hS hl => lv_lor C.hx C.hb hd (k r σ' h H locs ls hP hS hl)
theorem j_ldiv (C : cx_C Γ w cl own cc nL ret rm) {x y : Int64} (hd : decode cc pc = .ok (.ldiv, 1)) (hp : pc + 1 = n) (hne : ¬ y = 0) (k : J Γ w cl Qf X σ n lv (.long (x / y) :: st)) : J Γ w cl Qf X σ pc lv (.long y :: .long x :: st) := by
  subst hp
  exact fun r σ' h H locs ls hP hS hl => lv_ldiv C.hx C.hb hd hne (k r σ' h H locs ls hP hS hl)
theorem j_lneg (C : cx_C Γ w cl own cc nL ret rm) {x : Int64} (hd : decode cc pc = .ok (.lneg, 1)) (hp : pc + 1 = n)  (k : J Γ w cl Qf X σ n lv (.long (-x) :: st)) : J Γ w cl Qf X σ pc lv (.long x :: st) := by
  subst hp
  exact fun r σ' h H locs ls hP hS hl => lv_lneg C.hx C.hb hd (k r σ' h H locs ls hP hS hl)
theorem j_i2l (C : cx_C Γ w cl own cc nL ret rm) {x : Int32} (hd : decode cc pc = .ok (.i2l, 1)) (hp : pc + 1 = n)  (k : J Γ w cl Qf X σ n lv (.long x.toInt64 :: st)) : J Γ w cl Qf X σ pc lv (.int x :: st) := by
  subst hp
  exact fun r σ' h H locs ls hP hS hl => lv_i2l C.hx C.hb hd rfl (k r σ' h H locs ls hP hS hl)
theorem j_l2i (C : cx_C Γ w cl own cc nL ret rm) {x : Int64} (hd : decode cc pc = .ok (.l2i, 1)) (hp : pc + 1 = n)  (k : J Γ w cl Qf X σ n lv (.int x.toInt32 :: st)) : J Γ w cl Qf X σ pc lv (.long x :: st) := by
  subst hp
  exact fun r σ' h H locs ls hP hS hl => lv_l2i C.hx C.hb hd rfl (k r σ' h H locs ls hP hS hl)
theorem j_lshl (C : cx_C Γ w cl own cc nL ret rm) {x v : Int64} {y : Int32} (hd : decode cc pc = .ok (.lshl, 1)) (hp : pc + 1 = n) (hv : x <<< (y.toInt64 &&& 63) = v) (k : J Γ w cl Qf X σ n lv (.long v :: st)) : J Γ w cl Qf X σ pc lv (.int y :: .long x :: st) := by
  subst hp
  exact fun r σ' h H locs ls hP hS hl => lv_lshl C.hx C.hb hd hv (k r σ' h H locs ls hP hS hl)
theorem j_lshr (C : cx_C Γ w cl own cc nL ret rm) {x v : Int64} {y : Int32} (hd : decode cc pc = .ok (.lshr, 1)) (hp : pc + 1 = n) (hv : x >>> (y.toInt64 &&& 63) = v) (k : J Γ w cl Qf X σ n lv (.long v :: st)) : J Γ w cl Qf X σ pc lv (.int y :: .long x :: st) := by
  subst hp
  exact fun r σ' h H locs ls hP hS hl => lv_lshr C.hx C.hb hd hv (k r σ' h H locs ls hP hS hl)
theorem j_dup (C : cx_C Γ w cl own cc nL ret rm) {v : Value} (hd : decode cc pc = .ok (.dup, 1)) (hp : pc + 1 = n) (hc : v.category = 1) (k : J Γ w cl Qf X σ n lv (v :: v :: st)) : J Γ w cl Qf X σ pc lv (v :: st) := by
  subst hp
  exact fun r σ' h H locs ls hP hS hl => lv_dup C.hx C.hb hd hc (k r σ' h H locs ls hP hS hl)
theorem j_pop (C : cx_C Γ w cl own cc nL ret rm) {v : Value} (hd : decode cc pc = .ok (.pop, 1)) (hp : pc + 1 = n) (hc : v.category = 1) (k : J Γ w cl Qf X σ n lv (st)) : J Γ w cl Qf X σ pc lv (v :: st) := by
  subst hp
  exact fun r σ' h H locs ls hP hS hl => lv_pop C.hx C.hb hd hc (k r σ' h H locs ls hP hS hl)
theorem j_iaddc (C : cx_C Γ w cl own cc nL ret rm) {x y v : Int32} (hd : decode cc pc = .ok (.iadd, 1)) (hp : pc + 1 = n) (hv : x + y = v) (k : J Γ w cl Qf X σ n lv (.int v :: st)) : J Γ w cl Qf X σ pc lv (.int y :: .int x :: st) := by
  subst hp
  exact fun r σ' h H locs ls hP hS hl => lv_iadd C.hx C.hb hd (hv ▸ (k r σ' h H locs ls hP hS hl))
theorem j_isubc (C : cx_C Γ w cl own cc nL ret rm) {x y v : Int32} (hd : decode cc pc = .ok (.isub, 1)) (hp : pc + 1 = n) (hv : x - y = v) (k : J Γ w cl Qf X σ n lv (.int v :: st)) : J Γ w cl Qf X σ pc lv (.int y :: .int x :: st) := by
  subst hp
  exact fun r σ' h H locs ls hP hS hl => lv_isub C.hx C.hb hd (hv ▸ (k r σ' h H locs ls hP hS hl))
theorem j_goto (C : cx_C Γ w cl own cc nL ret rm) {off : Int} {tgt : Nat} (hd : decode cc pc = .ok (.goto off, 3)) (ht : (pc : Int) + off = (tgt : Int)) (k : J Γ w cl Qf X σ tgt lv st) : J Γ w cl Qf X σ pc lv st := fun r σ' h H locs ls hP hS hl => lv_goto C.hx C.hb hd ht (k r σ' h H locs ls hP hS hl)
theorem j_if_eq (C : cx_C Γ w cl own cc nL ret rm) {x : Int32} {off : Int} {tgt : Nat} (hd : decode cc pc = .ok (.ifCond .eq off, 3)) (ht : (pc : Int) + off = (tgt : Int)) (hp : pc + 3 = n) (kt : x = 0 → J Γ w cl Qf X σ tgt lv st) (kf : ¬ x = 0 → J Γ w cl Qf X σ n lv st) : J Γ w cl Qf X σ pc lv (.int x :: st) := by
  subst hp
  exact fun r σ' h H locs ls hP hS hl => lv_if_eq C.hx C.hb hd ht (fun q => kt q r σ' h H locs ls hP hS hl) (fun q => kf q r σ' h H locs ls hP hS hl)
theorem j_icmp_eq (C : cx_C Γ w cl own cc nL ret rm) {x y : Int32} {off : Int} {tgt : Nat} (hd : decode cc pc = .ok (.if_icmp .eq off, 3)) (ht : (pc : Int) + off = (tgt : Int)) (hp : pc + 3 = n) (kt : x = y → J Γ w cl Qf X σ tgt lv st) (kf : ¬ x = y → J Γ w cl Qf X σ n lv st) : J Γ w cl Qf X σ pc lv (.int y :: .int x :: st) := by
  subst hp
  exact fun r σ' h H locs ls hP hS hl => lv_icmp_eq C.hx C.hb hd ht (fun q => kt q r σ' h H locs ls hP hS hl) (fun q => kf q r σ' h H locs ls hP hS hl)
theorem j_lcmp_eq (C : cx_C Γ w cl own cc nL ret rm) {x y : Int64} {off : Int} {tgt : Nat} (hd : decode cc pc = .ok (.lcmp, 1)) (hd2 : decode cc (pc + 1) = .ok (.ifCond .eq off, 3)) (ht : ((pc + 1 : Nat) : Int) + off = (tgt : Int)) (hp : pc + 4 = n) (kt : x = y → J Γ w cl Qf X σ tgt lv st) (kf : ¬ x = y → J Γ w cl Qf X σ n lv st) : J Γ w cl Qf X σ pc lv (.long y :: .long x :: st) := by
  subst hp
  exact fun r σ' h H locs ls hP hS hl => W.lcmp C.hx C.hb hd (lv_if_eq C.hx C.hb hd2 ht (fun q => kt (lc_eq1 q) r σ' h H locs ls hP hS hl) (fun q => kf (lc_eq2 q) r σ' h H locs ls hP hS hl))
theorem j_if_ne (C : cx_C Γ w cl own cc nL ret rm) {x : Int32} {off : Int} {tgt : Nat} (hd : decode cc pc = .ok (.ifCond .ne off, 3)) (ht : (pc : Int) + off = (tgt : Int)) (hp : pc + 3 = n) (kt : ¬ x = 0 → J Γ w cl Qf X σ tgt lv st) (kf : x = 0 → J Γ w cl Qf X σ n lv st) : J Γ w cl Qf X σ pc lv (.int x :: st) := by
  subst hp
  exact fun r σ' h H locs ls hP hS hl => lv_if_ne C.hx C.hb hd ht (fun q => kt q r σ' h H locs ls hP hS hl) (fun q => kf q r σ' h H locs ls hP hS hl)
theorem j_icmp_ne (C : cx_C Γ w cl own cc nL ret rm) {x y : Int32} {off : Int} {tgt : Nat} (hd : decode cc pc = .ok (.if_icmp .ne off, 3)) (ht : (pc : Int) + off = (tgt : Int)) (hp : pc + 3 = n) (kt : ¬ x = y → J Γ w cl Qf X σ tgt lv st) (kf : x = y → J Γ w cl Qf X σ n lv st) : J Γ w cl Qf X σ pc lv (.int y :: .int x :: st) := by
  subst hp
  exact fun r σ' h H locs ls hP hS hl => lv_icmp_ne C.hx C.hb hd ht (fun q => kt q r σ' h H locs ls hP hS hl) (fun q => kf q r σ' h H locs ls hP hS hl)
theorem j_lcmp_ne (C : cx_C Γ w cl own cc nL ret rm) {x y : Int64} {off : Int} {tgt : Nat} (hd : decode cc pc = .ok (.lcmp, 1)) (hd2 : decode cc (pc + 1) = .ok (.ifCond .ne off, 3)) (ht : ((pc + 1 : Nat) : Int) + off = (tgt : Int)) (hp : pc + 4 = n) (kt : ¬ x = y → J Γ w cl Qf X σ tgt lv st) (kf : x = y → J Γ w cl Qf X σ n lv st) : J Γ w cl Qf X σ pc lv (.long y :: .long x :: st) := by
  subst hp
  exact fun r σ' h H locs ls hP hS hl => W.lcmp C.hx C.hb hd (lv_if_ne C.hx C.hb hd2 ht (fun q => kt (lc_ne1 q) r σ' h H locs ls hP hS hl) (fun q => kf (lc_ne2 q) r σ' h H locs ls hP hS hl))
theorem j_if_lt (C : cx_C Γ w cl own cc nL ret rm) {x : Int32} {off : Int} {tgt : Nat} (hd : decode cc pc = .ok (.ifCond .lt off, 3)) (ht : (pc : Int) + off = (tgt : Int)) (hp : pc + 3 = n) (kt : x < 0 → J Γ w cl Qf X σ tgt lv st) (kf : ¬ x < 0 → J Γ w cl Qf X σ n lv st) : J Γ w cl Qf X σ pc lv (.int x :: st) := by
  subst hp
  exact fun r σ' h H locs ls hP hS hl => lv_if_lt C.hx C.hb hd ht (fun q => kt q r σ' h H locs ls hP hS hl) (fun q => kf q r σ' h H locs ls hP hS hl)
theorem j_icmp_lt (C : cx_C Γ w cl own cc nL ret rm) {x y : Int32} {off : Int} {tgt : Nat} (hd : decode cc pc = .ok (.if_icmp .lt off, 3)) (ht : (pc : Int) + off = (tgt : Int)) (hp : pc + 3 = n) (kt : x < y → J Γ w cl Qf X σ tgt lv st) (kf : ¬ x < y → J Γ w cl Qf X σ n lv st) : J Γ w cl Qf X σ pc lv (.int y :: .int x :: st) := by
  subst hp
  exact fun r σ' h H locs ls hP hS hl => lv_icmp_lt C.hx C.hb hd ht (fun q => kt q r σ' h H locs ls hP hS hl) (fun q => kf q r σ' h H locs ls hP hS hl)
theorem j_lcmp_lt (C : cx_C Γ w cl own cc nL ret rm) {x y : Int64} {off : Int} {tgt : Nat} (hd : decode cc pc = .ok (.lcmp, 1)) (hd2 : decode cc (pc + 1) = .ok (.ifCond .lt off, 3)) (ht : ((pc + 1 : Nat) : Int) + off = (tgt : Int)) (hp : pc + 4 = n) (kt : x < y → J Γ w cl Qf X σ tgt lv st) (kf : ¬ x < y → J Γ w cl Qf X σ n lv st) : J Γ w cl Qf X σ pc lv (.long y :: .long x :: st) := by
  subst hp
  exact fun r σ' h H locs ls hP hS hl => W.lcmp C.hx C.hb hd (lv_if_lt C.hx C.hb hd2 ht (fun q => kt (lc_lt1 q) r σ' h H locs ls hP hS hl) (fun q => kf (lc_lt2 q) r σ' h H locs ls hP hS hl))
theorem j_if_ge (C : cx_C Γ w cl own cc nL ret rm) {x : Int32} {off : Int} {tgt : Nat} (hd : decode cc pc = .ok (.ifCond .ge off, 3)) (ht : (pc : Int) + off = (tgt : Int)) (hp : pc + 3 = n) (kt : 0 ≤ x → J Γ w cl Qf X σ tgt lv st) (kf : ¬ 0 ≤ x → J Γ w cl Qf X σ n lv st) : J Γ w cl Qf X σ pc lv (.int x :: st) := by
  subst hp
  exact fun r σ' h H locs ls hP hS hl => lv_if_ge C.hx C.hb hd ht (fun q => kt q r σ' h H locs ls hP hS hl) (fun q => kf q r σ' h H locs ls hP hS hl)
theorem j_icmp_ge (C : cx_C Γ w cl own cc nL ret rm) {x y : Int32} {off : Int} {tgt : Nat} (hd : decode cc pc = .ok (.if_icmp .ge off, 3)) (ht : (pc : Int) + off = (tgt : Int)) (hp : pc + 3 = n) (kt : y ≤ x → J Γ w cl Qf X σ tgt lv st) (kf : ¬ y ≤ x → J Γ w cl Qf X σ n lv st) : J Γ w cl Qf X σ pc lv (.int y :: .int x :: st) := by
  subst hp
  exact fun r σ' h H locs ls hP hS hl => lv_icmp_ge C.hx C.hb hd ht (fun q => kt q r σ' h H locs ls hP hS hl) (fun q => kf q r σ' h H locs ls hP hS hl)
theorem j_lcmp_ge (C : cx_C Γ w cl own cc nL ret rm) {x y : Int64} {off : Int} {tgt : Nat} (hd : decode cc pc = .ok (.lcmp, 1)) (hd2 : decode cc (pc + 1) = .ok (.ifCond .ge off, 3)) (ht : ((pc + 1 : Nat) : Int) + off = (tgt : Int)) (hp : pc + 4 = n) (kt : ¬ x < y → J Γ w cl Qf X σ tgt lv st) (kf : x < y → J Γ w cl Qf X σ n lv st) : J Γ w cl Qf X σ pc lv (.long y :: .long x :: st) := by
  subst hp
  exact fun r σ' h H locs ls hP hS hl => W.lcmp C.hx C.hb hd (lv_if_ge C.hx C.hb hd2 ht (fun q => kt (lc_ge1 q) r σ' h H locs ls hP hS hl) (fun q => kf (lc_ge2 q) r σ' h H locs ls hP hS hl))
theorem j_if_gt (C : cx_C Γ w cl own cc nL ret rm) {x : Int32} {off : Int} {tgt : Nat} (hd : decode cc pc = .ok (.ifCond .gt off, 3)) (ht : (pc : Int) + off = (tgt : Int)) (hp : pc + 3 = n) (kt : 0 < x → J Γ w cl Qf X σ tgt lv st) (kf : ¬ 0 < x → J Γ w cl Qf X σ n lv st) : J Γ w cl Qf X σ pc lv (.int x :: st) := by
  subst hp
  exact fun r σ' h H locs ls hP hS hl => lv_if_gt C.hx C.hb hd ht (fun q => kt q r σ' h H locs ls hP hS hl) (fun q => kf q r σ' h H locs ls hP hS hl)
theorem j_icmp_gt (C : cx_C Γ w cl own cc nL ret rm) {x y : Int32} {off : Int} {tgt : Nat} (hd : decode cc pc = .ok (.if_icmp .gt off, 3)) (ht : (pc : Int) + off = (tgt : Int)) (hp : pc + 3 = n) (kt : y < x → J Γ w cl Qf X σ tgt lv st) (kf : ¬ y < x → J Γ w cl Qf X σ n lv st) : J Γ w cl Qf X σ pc lv (.int y :: .int x :: st) := by
  subst hp
  exact fun r σ' h H locs ls hP hS hl => lv_icmp_gt C.hx C.hb hd ht (fun q => kt q r σ' h H locs ls hP hS hl) (fun q => kf q r σ' h H locs ls hP hS hl)
theorem j_lcmp_gt (C : cx_C Γ w cl own cc nL ret rm) {x y : Int64} {off : Int} {tgt : Nat} (hd : decode cc pc = .ok (.lcmp, 1)) (hd2 : decode cc (pc + 1) = .ok (.ifCond .gt off, 3)) (ht : ((pc + 1 : Nat) : Int) + off = (tgt : Int)) (hp : pc + 4 = n) (kt : y < x → J Γ w cl Qf X σ tgt lv st) (kf : ¬ y < x → J Γ w cl Qf X σ n lv st) : J Γ w cl Qf X σ pc lv (.long y :: .long x :: st) := by
  subst hp
  exact fun r σ' h H locs ls hP hS hl => W.lcmp C.hx C.hb hd (lv_if_gt C.hx C.hb hd2 ht (fun q => kt (lc_gt1 q) r σ' h H locs ls hP hS hl) (fun q => kf (lc_gt2 q) r σ' h H locs ls hP hS hl))
theorem j_if_le (C : cx_C Γ w cl own cc nL ret rm) {x : Int32} {off : Int} {tgt : Nat} (hd : decode cc pc = .ok (.ifCond .le off, 3)) (ht : (pc : Int) + off = (tgt : Int)) (hp : pc + 3 = n) (kt : x ≤ 0 → J Γ w cl Qf X σ tgt lv st) (kf : ¬ x ≤ 0 → J Γ w cl Qf X σ n lv st) : J Γ w cl Qf X σ pc lv (.int x :: st) := by
  subst hp
  exact fun r σ' h H locs ls hP hS hl => lv_if_le C.hx C.hb hd ht (fun q => kt q r σ' h H locs ls hP hS hl) (fun q => kf q r σ' h H locs ls hP hS hl)
theorem j_icmp_le (C : cx_C Γ w cl own cc nL ret rm) {x y : Int32} {off : Int} {tgt : Nat} (hd : decode cc pc = .ok (.if_icmp .le off, 3)) (ht : (pc : Int) + off = (tgt : Int)) (hp : pc + 3 = n) (kt : x ≤ y → J Γ w cl Qf X σ tgt lv st) (kf : ¬ x ≤ y → J Γ w cl Qf X σ n lv st) : J Γ w cl Qf X σ pc lv (.int y :: .int x :: st) := by
  subst hp
  exact fun r σ' h H locs ls hP hS hl => lv_icmp_le C.hx C.hb hd ht (fun q => kt q r σ' h H locs ls hP hS hl) (fun q => kf q r σ' h H locs ls hP hS hl)
theorem j_lcmp_le (C : cx_C Γ w cl own cc nL ret rm) {x y : Int64} {off : Int} {tgt : Nat} (hd : decode cc pc = .ok (.lcmp, 1)) (hd2 : decode cc (pc + 1) = .ok (.ifCond .le off, 3)) (ht : ((pc + 1 : Nat) : Int) + off = (tgt : Int)) (hp : pc + 4 = n) (kt : ¬ y < x → J Γ w cl Qf X σ tgt lv st) (kf : y < x → J Γ w cl Qf X σ n lv st) : J Γ w cl Qf X σ pc lv (.long y :: .long x :: st) := by
  subst hp
  exact fun r σ' h H locs ls hP hS hl => W.lcmp C.hx C.hb hd (lv_if_le C.hx C.hb hd2 ht (fun q => kt (lc_le1 q) r σ' h H locs ls hP hS hl) (fun q => kf (lc_le2 q) r σ' h H locs ls hP hS hl))
theorem j_tblOut (C : cx_C Γ w cl own cc nL ret rm) {dflt lo hi : Int} {offs : Array Int} {len : Nat} {x : Int32} {tgt : Nat} (hd : decode cc pc = .ok (.tableswitch dflt lo hi offs, len)) (ht : (pc : Int) + dflt = (tgt : Int)) (hx : x.toInt < lo ∨ hi < x.toInt) (k : J Γ w cl Qf X σ tgt lv st) : J Γ w cl Qf X σ pc lv (.int x :: st) := fun r σ' h H locs ls hP hS hl => lv_tableOut C.hx C.hb hd hx ht (k r σ' h H locs ls hP hS hl)
theorem j_tblIn (C : cx_C Γ w cl own cc nL ret rm) {dflt lo hi : Int} {offs : Array Int} {len : Nat} {x : Int32} {off : Int} {tgt : Nat} (hd : decode cc pc = .ok (.tableswitch dflt lo hi offs, len)) (v : Int32) (hx : x = v) (h1 : ¬ v.toInt < lo) (h2 : ¬ hi < v.toInt) (ho : offs[(v.toInt - lo).toNat]? = some off) (ht : (pc : Int) + off = (tgt : Int)) (k : J Γ w cl Qf X σ tgt lv st) : J Γ w cl Qf X σ pc lv (.int x :: st) := by
  subst hx
  exact fun r σ' h H locs ls hP hS hl => lv_tableIn C.hx C.hb hd h1 h2 ho ht (k r σ' h H locs ls hP hS hl)
theorem j_get (C : cx_C Γ w cl own cc nL ret rm) {CN : String} {T : u_T} {N ci index : Nat} {a : Nat} (hin : ∀ x ∈ u_ws CN T N, x ∈ gw) (q0 : Nat) {fs : List Value} (he : (w σ)[q0]? = some (a, .inr (ci, fs))) (hc : cl[ci]? = some (CN, T, N)) (f : Nat) (hf : f < N) {v : Value} (hv : fs[f]? = some v) (hl : Cond.fieldLink own index (T f).1 (T f).2.1 (T f).2.2.1 ∈ gw) (hd : decode cc pc = .ok (.getfield index, 3)) (hp : pc + 3 = n) (k : J Γ w cl Qf X σ n lv (v :: st)) : J Γ w cl Qf X σ pc lv (.ref a :: st) := by
  subst hp
  exact fun r σ' h H locs ls hP hS hl' => va_get C.hx C.hb C.ht hin C.ho C.hK hP q0 he hc f hf (C.ht _ hl) (fun _ h9 => h9) hv hd (k r σ' h H locs ls hP hS hl')
theorem j_put (C : cx_C Γ w cl own cc nL ret rm) {CN : String} {T : u_T} {N ci index : Nat} {a : Nat} (hin : ∀ x ∈ u_ws CN T N, x ∈ gw) (ty0 : Nat → FieldType) (hty : ∀ k, k < N → parseFieldDescriptor (T k).2.2.1 = some (ty0 k)) (hnm : ∀ a, a < N → ∀ b, b < N → a ≠ b → (T a).2.1 ≠ (T b).2.1) (q0 : Nat) {fs : List Value} (he : (w σ)[q0]? = some (a, .inr (ci, fs))) (hc : cl[ci]? = some (CN, T, N)) (f : Nat) (hf : f < N) (hfin : (T f).2.2.2 = false) {ty : FieldType} {v : Value} (hdd : parseFieldDescriptor (T f).2.2.1 = some ty) (hn : narrow ty v = v) (hfit : fits ty v = true) (hlen : f < fs.length) {σ1 : S} (hw : (w σ).set q0 (a, .inr (ci, fs.set f v)) = w σ1) (hl : Cond.fieldLink own index (T f).1 (T f).2.1 (T f).2.2.1 ∈ gw) (hd : decode cc pc = .ok (.putfield index, 3)) (hp : pc + 3 = n) (k : J Γ w cl Qf X σ1 n lv st) : J Γ w cl Qf X σ pc lv (v :: .ref a :: st) := by
  subst hp
  exact fun r σ' h H locs ls hP hS hl' => va_put C.hx C.hb C.ht hin ty0 hty hnm C.ho C.hK hP (C.hD σ) hS q0 he hc f hf (C.ht _ hl) (fun _ h9 => h9) hfin hdd hn hfit hlen hd (fun H1 locs1 hP1 _ hS1 => k r σ' h H1 locs1 ls (hw ▸ hP1) hS1 hl')
theorem j_iald (C : cx_C Γ w cl own cc nL ret rm) {a N : Nat} {f : Nat → Int32} (q0 : Nat) (he : (w σ)[q0]? = some (a, .inl (kI (gK Γ), N, .inl f))) {i : Int32} (hin : vp_in i N) (hd : decode cc pc = .ok (.iaload, 1)) (hp : pc + 1 = n) (k : J Γ w cl Qf X σ n lv (.int (f i.toNatClampNeg) :: st)) : J Γ w cl Qf X σ pc lv (.int i :: .ref a :: st) := by
  subst hp
  exact fun r σ' h H locs ls hP hS hl' => va_iald C.hx C.hb C.hK hP q0 0 he rfl hin hd (k r σ' h H locs ls hP hS hl')
theorem j_lald (C : cx_C Γ w cl own cc nL ret rm) {a N : Nat} {f : Nat → Int64} (q0 : Nat) (he : (w σ)[q0]? = some (a, .inl (kJ (gK Γ), N, .inr (.inl f)))) {i : Int32} (hin : vp_in i N) (hd : decode cc pc = .ok (.laload, 1)) (hp : pc + 1 = n) (k : J Γ w cl Qf X σ n lv (.long (f i.toNatClampNeg) :: st)) : J Γ w cl Qf X σ pc lv (.int i :: .ref a :: st) := by
  subst hp
  exact fun r σ' h H locs ls hP hS hl' => va_lald C.hx C.hb C.hK hP q0 1 he rfl hin hd (k r σ' h H locs ls hP hS hl')
theorem j_zald (C : cx_C Γ w cl own cc nL ret rm) {a N : Nat} {f : Nat → Int32} (q0 : Nat) (he : (w σ)[q0]? = some (a, .inl (kZ (gK Γ), N, .inl f))) {i : Int32} (hin : vp_in i N) (hd : decode cc pc = .ok (.baload, 1)) (hp : pc + 1 = n) (k : J Γ w cl Qf X σ n lv (.int (f i.toNatClampNeg) :: st)) : J Γ w cl Qf X σ pc lv (.int i :: .ref a :: st) := by
  subst hp
  exact fun r σ' h H locs ls hP hS hl' => va_zald C.hx C.hb C.hK hP q0 2 he rfl hin hd (k r σ' h H locs ls hP hS hl')
theorem j_iast (C : cx_C Γ w cl own cc nL ret rm) {a N : Nat} {f : Nat → Int32} (q0 : Nat) (he : (w σ)[q0]? = some (a, .inl (kI (gK Γ), N, .inl f))) {i : Int32} {x : Int32} {σ1 : S} (hw : (w σ).set q0 (a, .inl (kI (gK Γ), N, .inl (upd f i.toNatClampNeg x))) = w σ1) (hin : vp_in i N) (hd : decode cc pc = .ok (.iastore, 1)) (hp : pc + 1 = n) (k : J Γ w cl Qf X σ1 n lv st) : J Γ w cl Qf X σ pc lv (.int x :: .int i :: .ref a :: st) := by
  subst hp
  exact fun r σ' h H locs ls hP hS hl' => va_iast C.hx C.hb C.hK hP (C.hD σ) hS q0 0 he rfl hin hd (fun H1 locs1 hP1 _ hS1 => k r σ' h H1 locs1 ls (hw ▸ hP1) hS1 hl')
theorem j_last (C : cx_C Γ w cl own cc nL ret rm) {a N : Nat} {f : Nat → Int64} (q0 : Nat) (he : (w σ)[q0]? = some (a, .inl (kJ (gK Γ), N, .inr (.inl f)))) {i : Int32} {x : Int64} {σ1 : S} (hw : (w σ).set q0 (a, .inl (kJ (gK Γ), N, .inr (.inl (vp_updL f i.toNatClampNeg x)))) = w σ1) (hin : vp_in i N) (hd : decode cc pc = .ok (.lastore, 1)) (hp : pc + 1 = n) (k : J Γ w cl Qf X σ1 n lv st) : J Γ w cl Qf X σ pc lv (.long x :: .int i :: .ref a :: st) := by
  subst hp
  exact fun r σ' h H locs ls hP hS hl' => va_last C.hx C.hb C.hK hP (C.hD σ) hS q0 1 he rfl hin hd (fun H1 locs1 hP1 _ hS1 => k r σ' h H1 locs1 ls (hw ▸ hP1) hS1 hl')
theorem j_zast (C : cx_C Γ w cl own cc nL ret rm) {a N : Nat} {f : Nat → Int32} (q0 : Nat) (he : (w σ)[q0]? = some (a, .inl (kZ (gK Γ), N, .inl f))) {i : Int32} {x : Int32} {σ1 : S} (hw : (w σ).set q0 (a, .inl (kZ (gK Γ), N, .inl (upd f i.toNatClampNeg (vp_nar .boolean x)))) = w σ1) (hin : vp_in i N) (hd : decode cc pc = .ok (.bastore, 1)) (hp : pc + 1 = n) (k : J Γ w cl Qf X σ1 n lv st) : J Γ w cl Qf X σ pc lv (.int x :: .int i :: .ref a :: st) := by
  subst hp
  exact fun r σ' h H locs ls hP hS hl' => va_zast C.hx C.hb C.hK hP (C.hD σ) hS q0 2 he rfl hin hd (fun H1 locs1 hP1 _ hS1 => k r σ' h H1 locs1 ls (hw ▸ hP1) hS1 hl')
theorem j_gets (C : cx_C Γ w cl own cc nL ret rm) {index : Nat} (hl : Cond.fieldLink own index "ScopeInterpreter$Machine" "OPERAND_COUNTS" "[I" ∈ gw) (hd : decode cc pc = .ok (.getstatic index, 3)) (hp : pc + 3 = n) (k : ∀ t, st_t (gA Γ) (gs Γ) (gs Γ).heap t → J Γ w cl Qf X σ n lv (.ref t :: st)) : J Γ w cl Qf X σ pc lv st := by
  subst hp
  obtain ⟨t, ht⟩ := C.hZ
  exact fun r σ' h H locs ls hP hS hl' => va_gets C.hx C.hb ht.1 hS C.ho (C.ht _ hl) (fun _ h9 => h9) hd (k t ht r σ' h H locs ls hP hS hl')
theorem j_octl (C : cx_C Γ w cl own cc nL ret rm) {t : Nat} (ht : st_t (gA Γ) (gs Γ) (gs Γ).heap t) (hd : decode cc pc = .ok (.arraylength, 1)) (hp : pc + 1 = n) (k : J Γ w cl Qf X σ n lv (.int 26 :: st)) : J Γ w cl Qf X σ pc lv (.ref t :: st) := by
  subst hp
  exact fun r σ' h H locs ls hP hS hl' => va_tlen C.hx C.hb ht.2 hS rfl hd (k r σ' h H locs ls hP hS hl')
theorem j_oct (C : cx_C Γ w cl own cc nL ret rm) {t : Nat} (ht : st_t (gA Γ) (gs Γ) (gs Γ).heap t) {i : Int32} (hin : vp_in i 26) (hd : decode cc pc = .ok (.iaload, 1)) (hp : pc + 1 = n) (k : J Γ w cl Qf X σ n lv (.int (oc_f i.toNatClampNeg) :: st)) : J Γ w cl Qf X σ pc lv (.int i :: .ref t :: st) := by
  subst hp
  exact fun r σ' h H locs ls hP hS hl' => va_ti C.hx C.hb ht.2 hS hin rfl hd (k r σ' h H locs ls hP hS hl')
end
/-! ===== contracts, entries, ends, calls ===== -/
/-- a method's contract: in the world of σ it returns r, and the world is that of σ' -/
def MC {S : Type} (l : Launch) (y : MethodName) (b : ByteArray) (n : Nat) (ret : Option FieldType) (rm : Nat × Nat) (K : kk_T) (w : S → va_W) (cl : List vw_C) (σ : S) (av : List Value) (r : Option Value) (σ' : S) : Prop :=
  ∀ sz : Nat, Met l y (Cond.code y b n ret :: gw) ({ frames := rm.1, cells := 0, slots := 0, locals := rm.2 } : Room)
    (va_Pc av (fun U => U.heap.size = sz ∧ va_P (kD K) cl (w σ) U.heap ∧ va_K (kD K) cl (kt K) U ∧ va_D (fun _ => True) (w σ) ∧ st_A (va_A (w σ) sz) U U.heap))
    (fun _ st oc t => oc = .returned r ∧ va_P (kD K) cl (w σ') t.heap ∧ va_F (va_A (w σ) sz) st t) 0 0 (va_A (w σ) sz)
def QF {R S : Type} (Γ : cx_T) (w : S → va_W) (cl : List vw_C) (ov : R → Option Value) (r : R) (σ' : S) : State → Prop :=
  MQ (gb Γ) (fun _ st oc t => oc = .returned (ov r) ∧ va_P (kD (gK Γ)) cl (w σ') t.heap ∧ va_F (gA Γ) st t) (ga Γ) (gs Γ) (gn Γ) (gt Γ) (gA Γ)
def ovI (r : Int32) : Option Value := some (.int r)
def ovL (r : Int64) : Option Value := some (.long r)
def ovV (_ : Unit) : Option Value := none
theorem va_D.addr {A : Nat → Prop} {ws ws' : va_W} (e : ws'.map (fun q => q.1) = ws.map (fun q => q.1)) (h : va_D A ws) : va_D A ws' := by
  have key : ∀ (k : Nat) (q : Nat × va_E), ws'[k]? = some q → ∃ q0, ws[k]? = some q0 ∧ q0.1 = q.1 := by
    intro k q hk
    have h1 : (ws'.map (fun q => q.1))[k]? = some q.1 := by rw [List.getElem?_map, hk]; rfl
    rw [e, List.getElem?_map] at h1
    cases h2 : ws[k]? with
    | none => rw [h2] at h1; cases h1
    | some q0 => rw [h2] at h1; exact ⟨q0, rfl, Option.some.inj h1⟩
  refine ⟨fun i j x y hi hj hxy => ?_, fun k q hk => ?_⟩
  · obtain ⟨x0, h1, h2⟩ := key i x hi
    obtain ⟨y0, h3, h4⟩ := key j y hj
    exact h.1 i j x0 y0 h1 h3 (h2.trans (hxy.trans h4.symm))
  · obtain ⟨q0, h1, h2⟩ := key k q hk
    rw [← h2]
    exact h.2 k q0 h1
theorem mc_of {R S : Type} {l : Launch} {y : MethodName} {b : ByteArray} {n : Nat} {ret : Option FieldType} {rm : Nat × Nat} {K : kk_T} {w : S → va_W} {cl : List vw_C} {σ : S} {av : List Value} {ov : R → Option Value} {X : Option (R × S)} {r : R} {σ' : S}
    (hy : plainName y.cls = true) (hn : (lg_sl av).length ≤ n) (hw : ∀ σ1, (w σ1).map (fun q => q.1) = (w σ).map (fun q => q.1)) (hX : X = some (r, σ'))
    (body : ∀ Γ : cx_T, gl Γ = l → gK Γ = K → cx_C Γ w cl y.cls b n ret rm → J Γ w cl (QF Γ w cl ov) X σ 0 (lv_args 0 av) []) : MC l y b n ret rm K w cl σ av (ov r) σ' := by
  intro sz
  refine Met.ofW (cc := b) (maxL := n) (ret := ret) hy rfl ?_
  intro p e s m args below meth c s₁ B hml hv
  obtain ⟨rfl, hsz, hP, hK, hD0, hZ⟩ := hv
  subst hsz
  have hts0 := atoms_spec (ws := Cond.code y b n ret :: gw) B.pre
  have hl := lv_entry av hn
  rw [lg_entry_eq]
  exact body (p, l, e, (headSpec (Cond.code y b n ret :: gw) { frames := rm.1, cells := 0, slots := 0, locals := rm.2 }).room, s, m, av.toArray, below, meth, c, K, va_A (w σ) s.heap.size, 0, 0) rfl rfl
    ⟨B.exec, B.bytes, hml, findClass_of_methodNamed B.named, fun x hx => hts0 x (List.mem_cons_of_mem _ hx), hK, fun σ1 => (hD0.addr (hw σ1)).weaken (fun k q hk _ => by
      have h1 : ((w σ1).map (fun q => q.1))[k]? = some q.1 := by rw [List.getElem?_map, hk]; rfl
      rw [hw σ1, List.getElem?_map] at h1
      cases h2 : (w σ)[k]? with
      | none => rw [h2] at h1; cases h1
      | some q0 =>
        rw [h2] at h1
        have h3 : q0.1 = q.1 := Option.some.inj h1
        rw [← h3]
        exact va_A.in h2), fun q h => Or.inr h, ⟨rfl, rfl⟩, ⟨Nat.zero_le _, Nat.zero_le _⟩, hZ, B.returns, B.notSynchronized⟩ r σ' hX s.heap [] _ hP va_S.rf (by rw [show (gc (p, l, e, (headSpec (Cond.code y b n ret :: gw) { frames := rm.1, cells := 0, slots := 0, locals := rm.2 }).room, s, m, av.toArray, below, meth, c, K, va_A (w σ) s.heap.size, 0, 0)).maxLocals = n from hml]; exact hl)
section
variable {S : Type} {Γ : cx_T} {w : S → va_W} {cl : List vw_C} {own : String} {cc : ByteArray} {nL : Nat} {rm : Nat × Nat} {σ : S} {pc n : Nat} {lv : List (Nat × Value)}
theorem j_iret (C : cx_C Γ w cl own cc nL (some .int) rm) {v : Int32} (hd : decode cc pc = .ok (.ireturn, 1)) : J Γ w cl (QF Γ w cl ovI) (some (v, σ)) σ pc lv [.int v] := by
  intro r σ' h H locs ls hP hS hl
  cases h
  exact W.iret C.hx C.hb C.hs (fun t ht _ => ⟨rfl, by rw [ht]; exact hP, hS.F ht⟩) hS.2.2 hd C.hk
theorem j_zret (C : cx_C Γ w cl own cc nL (some .boolean) rm) {v : Int32} (hn : narrow .boolean (.int v) = .int v) (hd : decode cc pc = .ok (.ireturn, 1)) : J Γ w cl (QF Γ w cl ovI) (some (v, σ)) σ pc lv [.int v] := by
  intro r σ' h H locs ls hP hS hl
  cases h
  exact W.zret C.hx C.hb C.hs hn (fun t ht _ => ⟨rfl, by rw [ht]; exact hP, hS.F ht⟩) hS.2.2 hd C.hk
def bz (v : Int32) : Int32 := vp_nar .boolean v
theorem bz_narrow (v : Int32) : narrow .boolean (.int v) = .int (bz v) := by
  unfold bz vp_nar
  simp only [narrow]
theorem j_bret (C : cx_C Γ w cl own cc nL (some .boolean) rm) {v : Int32} (hd : decode cc pc = .ok (.ireturn, 1)) : J Γ w cl (QF Γ w cl ovI) (some (bz v, σ)) σ pc lv [.int v] := by
  intro r σ' h H locs ls hP hS hl
  cases h
  intro T hT X
  have hlocks : (gM Γ).locks = false := C.hk
  have hr := C.hs
  have hexec := C.hx
  have hb := C.hb
  obtain ⟨fs, hret, hrun, hended, hW, hframe⟩ := X.leave (v := some (.int (bz v))) (fun h => by rw [hr] at h; cases h)
  have hmeth' : T.vm.method? (gm Γ) = some (gM Γ) := X.method'
  refine ⟨T.setFrames fs, ?_, .returned (some (.int (bz v))), hrun, hended, ⟨rfl, by rw [← hT] at hP; exact hP, hS.F hT⟩, locs, ⟨⟨_, rfl⟩, hW, hframe⟩, hS.2.2⟩
  jvm_step X.here [X.here.top, hexec, hb, hd, hmeth', hr, bz_narrow]
  (try refine ⟨rfl, ?_⟩); (try refine ⟨rfl, ?_⟩)
  first | (intro acts; rw [hret _ acts rfl rfl rfl]) | rw [hret _ _ rfl rfl rfl]
  exact Steps.refl _
theorem j_lret (C : cx_C Γ w cl own cc nL (some .long) rm) {v : Int64} (hd : decode cc pc = .ok (.lreturn, 1)) : J Γ w cl (QF Γ w cl ovL) (some (v, σ)) σ pc lv [.long v] := by
  intro r σ' h H locs ls hP hS hl
  cases h
  exact W.lret C.hx C.hb C.hs (fun t ht _ => ⟨rfl, by rw [ht]; exact hP, hS.F ht⟩) hS.2.2 hd C.hk
theorem j_vret (C : cx_C Γ w cl own cc nL none rm) (hd : decode cc pc = .ok (.return_, 1)) : J Γ w cl (QF Γ w cl ovV) (some ((), σ)) σ pc lv [] := by
  intro r σ' h H locs ls hP hS hl
  cases h
  exact W.vret C.hx C.hb C.hs (fun t ht _ => ⟨rfl, by rw [ht]; exact hP, hS.F ht⟩) hS.2.2 hd C.hk
end
/-- what a caller asks of a callee's place in the tables -/
def ck_V (y : MethodName) (b : ByteArray) (n : Nat) (ret : Option FieldType) (k : Nat) : Prop :=
  Cond.code y b n ret ∈ gw ∧ Cond.initialized y.cls ∈ gw ∧ (y.cls ≠ "java/lang/invoke/MethodHandle" ∧ y.cls ≠ "java/lang/invoke/VarHandle" ∧ (parseMethodDescriptor y.desc).map (fun d => d.parameters.length) = some k) ∧ Cond.instanceMethod y ∈ gw ∧ Cond.selects y.cls y y ∈ gw
def ck_S (y : MethodName) (b : ByteArray) (n : Nat) (ret : Option FieldType) (k : Nat) : Prop :=
  Cond.code y b n ret ∈ gw ∧ Cond.initialized y.cls ∈ gw ∧ (y.cls ≠ "java/lang/invoke/MethodHandle" ∧ y.cls ≠ "java/lang/invoke/VarHandle" ∧ (parseMethodDescriptor y.desc).map (fun d => d.parameters.length) = some k) ∧ Cond.static y ∈ gw
theorem gw_goodIn {y : MethodName} {b : ByteArray} {n : Nat} {ret : Option FieldType} (h : Cond.code y b n ret ∈ gw) : GoodIn gw (Cond.code y b n ret :: gw) := by
  intro x hx
  rcases List.mem_cons.mp hx with rfl | hx
  · exact ⟨h, gw_good h⟩
  · exact ⟨hx, gw_good hx⟩
theorem fr_join {D : va_G} {cl : List vw_C} {A : Nat → Prop} {a b c b' : va_W} {H H1 : Heap} (hP : va_P D cl (a ++ (b ++ c)) H) (hD : va_D A (a ++ (b ++ c))) (hk : ∀ q : Nat, q < H.size → ¬ va_A b H.size q → H1[q]? = H[q]?) (hP1 : va_P D cl b' H1) : va_P D cl (a ++ (b' ++ c)) H1 := by
  have out : ∀ (k : Nat) (q : Nat × va_E), (a ++ (b ++ c))[k]? = some q → (k < a.length ∨ a.length + b.length ≤ k) → H1[q.1]? = H[q.1]? := by
    intro k q hq hor
    have hlt := (hP k q hq).lt
    refine hk q.1 hlt (fun h => ?_)
    rcases h with ⟨j, e, h⟩ | h
    · have hjb : j < b.length := (List.getElem?_eq_some_iff.mp h).1
      have h2 : (a ++ (b ++ c))[a.length + j]? = some (q.1, e) := by
        rw [List.getElem?_append_right (by omega), Nat.add_sub_cancel_left, List.getElem?_append_left hjb]
        exact h
      have := hD.1 k (a.length + j) q (q.1, e) hq h2 rfl
      omega
    · omega
  intro k q hq
  by_cases h1 : k < a.length
  · rw [List.getElem?_append_left h1] at hq
    have h2 : (a ++ (b ++ c))[k]? = some q := by rw [List.getElem?_append_left h1]; exact hq
    exact (hP k q h2).kept (out k q h2 (Or.inl h1))
  · rw [List.getElem?_append_right (by omega)] at hq
    by_cases h3 : k - a.length < b'.length
    · rw [List.getElem?_append_left h3] at hq
      exact hP1 _ q hq
    · rw [List.getElem?_append_right (by omega)] at hq
      have h2 : (a ++ (b ++ c))[a.length + (b.length + (k - a.length - b'.length))]? = some q := by
        rw [List.getElem?_append_right (by omega), Nat.add_sub_cancel_left, List.getElem?_append_right (by omega), Nat.add_sub_cancel_left]
        exact hq
      exact (hP _ q h2).kept (out _ q h2 (Or.inr (by omega)))
theorem fr_part {D : va_G} {cl : List vw_C} {a b c : va_W} {H : Heap} (hP : va_P D cl (a ++ (b ++ c)) H) : va_P D cl b H := by
  intro k q hq
  have hk : k < b.length := (List.getElem?_eq_some_iff.mp hq).1
  exact hP (a.length + k) q (by rw [List.getElem?_append_right (by omega), Nat.add_sub_cancel_left, List.getElem?_append_left hk]; exact hq)
theorem fr_partD {A : Nat → Prop} {a b c : va_W} (hD : va_D A (a ++ (b ++ c))) : va_D A b := by
  have up : ∀ (k : Nat) (q : Nat × va_E), b[k]? = some q → (a ++ (b ++ c))[a.length + k]? = some q := by
    intro k q hq
    have hk : k < b.length := (List.getElem?_eq_some_iff.mp hq).1
    rw [List.getElem?_append_right (by omega), Nat.add_sub_cancel_left, List.getElem?_append_left hk]
    exact hq
  refine ⟨fun i j x y hi hj hxy => ?_, fun k q hk => hD.2 _ q (up k q hk)⟩
  have := hD.1 _ _ x y (up i x hi) (up j y hj) hxy
  omega
section
variable {R S S2 : Type} {Γ : cx_T} {w : S → va_W} {w2 : S2 → va_W} {cl : List vw_C} {own : String} {cc b2 : ByteArray} {nL n2 : Nat} {ret ret2 : Option FieldType} {rm rm2 : Nat × Nat} {Qf : R → S → State → Prop} {X : Option (R × S)} {σ σ1 : S} {σ2 σ3 : S2} {pc n : Nat} {lv : List (Nat × Value)} {rest As : List Value} {y : MethodName} {b0 index : Nat} {x z : va_W} {ci : Nat} {fs : List Value}
theorem j_run {r : Option Value} (C : cx_C Γ w cl own cc nL ret rm) (hE : w σ = x ++ (w2 σ2 ++ z)) (hE1 : w σ1 = x ++ (w2 σ3 ++ z)) {g0 : List Value} {aa : Array Value} {H : Heap} {locs : List Loc} {ls : Array Slot} (hP : va_P (kD (gK Γ)) cl (w σ) H) (hS : va_S (gA Γ) (gs Γ).heap H locs) (hl : lv_has ls (gc Γ).maxLocals lv)
    (hr : va_Run (gp Γ) (gl Γ) (ge Γ) (gR Γ) (gs Γ) (gm Γ) (ga Γ) (gb Γ) (gM Γ) (gc Γ) H locs (gn Γ) (gt Γ) 0 0 (F0 (gm Γ) pc ls g0) rest ((fun _ st oc t => oc = .returned r ∧ va_P (kD (gK Γ)) cl (w2 σ3) t.heap ∧ va_F (va_A (w2 σ2) H.size) st t) aa) (va_A (w2 σ2) H.size))
    {r0 : R} {σ' : S} (h : X = some (r0, σ')) (k : J Γ w cl Qf X σ1 (pc + 3) lv (r.toList ++ rest)) :
    W (gp Γ) (gl Γ) (ge Γ) (gR Γ) (gs Γ) (gm Γ) (ga Γ) (gb Γ) (gM Γ) (gc Γ) H locs (gn Γ) (gt Γ) (Qf r0 σ') (F0 (gm Γ) pc ls g0) := by
  intro T hT XX
  obtain ⟨v, st₀, t, T', L, h0, X', hL, e1, e2, ⟨hv, hP1, hF⟩, stp⟩ := hr T hT XX
  cases hv
  have hDw : va_D (gA Γ) (x ++ (w2 σ2 ++ z)) := hE ▸ C.hD σ
  have hPw : va_P (kD (gK Γ)) cl (x ++ (w2 σ2 ++ z)) H := hE ▸ hP
  have hfree : ∀ q, va_A (w2 σ2) H.size q → gA Γ q := by
    intro q h
    rcases h with ⟨j, ee, h⟩ | h
    · exact (fr_partD hDw).2 j (q, ee) h
    · exact C.hA q (Nat.le_trans hS.1 h)
  rw [va_F, h0] at hF
  have hP2 : va_P (kD (gK Γ)) cl (w σ1) T'.heap := by
    rw [hE1, e1]
    exact fr_join hPw hDw hF.2 hP1
  have hS2 : va_S (gA Γ) (gs Γ).heap T'.heap (locs ++ L) :=
    ⟨Nat.le_trans hS.1 (by rw [e1]; exact hF.1), fun q h1 h2 => by rw [e1, hF.2 q (Nat.lt_of_lt_of_le h1 hS.1) (fun z => h2 (hfree q z))]; exact hS.2.1 q h1 h2, fun q hq => by
      rcases List.mem_append.mp hq with h | h
      · exact hS.2.2 q h
      · exact hfree _ (hL q h)⟩
  obtain ⟨t2, a1, b1⟩ := k r0 σ' h T'.heap (locs ++ L) ls hP2 hS2 hl T' rfl X'
  exact ⟨t2, stp t2 a1, b1⟩
theorem j_pre (C : cx_C Γ w cl own cc nL ret rm) (hE : w σ = x ++ (w2 σ2 ++ z)) {H : Heap} {locs : List Loc} (hP : va_P (kD (gK Γ)) cl (w σ) H) (hS : va_S (gA Γ) (gs Γ).heap H locs) (av : List Value) :
    FrameBlind (va_Pc av (fun U => U.heap.size = H.size ∧ va_P (kD (gK Γ)) cl (w2 σ2) U.heap ∧ va_K (kD (gK Γ)) cl (kt (gK Γ)) U ∧ va_D (fun _ => True) (w2 σ2) ∧ st_A (va_A (w2 σ2) H.size) U U.heap)) ∧
    ∀ U : State, U.heap = H → (gs Γ).WarmedH U.vm → va_Pc av (fun U => U.heap.size = H.size ∧ va_P (kD (gK Γ)) cl (w2 σ2) U.heap ∧ va_K (kD (gK Γ)) cl (kt (gK Γ)) U ∧ va_D (fun _ => True) (w2 σ2) ∧ st_A (va_A (w2 σ2) H.size) U U.heap) av.toArray U := by
  have hDw : va_D (gA Γ) (x ++ (w2 σ2 ++ z)) := hE ▸ C.hD σ
  have hPw : va_P (kD (gK Γ)) cl (x ++ (w2 σ2 ++ z)) H := hE ▸ hP
  refine ⟨fun a U g mk q => ?_, fun U hU hW => ?_⟩
  · obtain ⟨q0, q1, q2, q3, q4, q5⟩ := q
    exact ⟨q0, q1, q2, va_K.moved (u := U) (U := U.calling g mk a) (Vm.Alike.refl U.vm) q3, q4, st_A.moved (u := U) (U := U.calling g mk a) (Vm.Alike.refl U.vm) q5⟩
  · subst hU
    refine ⟨rfl, rfl, fr_part hPw, va_K.moved hW.alike C.hK, (fr_partD hDw).weaken (fun _ _ _ _ => trivial), ?_⟩
    refine (st_A.moved hW.alike (C.hZ.kept (H1 := U.heap) (fun a h1 h2 => hS.2.1 a h1 h2))).narrow (fun q h => ?_)
    rcases h with ⟨j, ee, h⟩ | h
    · exact (fr_partD hDw).2 j (q, ee) h
    · exact C.hA q (Nat.le_trans hS.1 h)
theorem j_callV {r : Option Value} (C : cx_C Γ w cl own cc nL ret rm) (M : MC (gl Γ) y b2 n2 ret2 rm2 (gK Γ) w2 cl σ2 (.ref b0 :: As) r σ3) (I : ck_V y b2 n2 ret2 As.length) (hl : Cond.methodLink own index y ∈ gw) (hR : rm2.1 + 1 ≤ rm.1 ∧ 8 + (n2 + 11) + rm2.2 ≤ rm.2) (hd : decode cc pc = .ok (.invokevirtual index, 3)) (hp : pc + 3 = n) (hr : (w2 σ2)[0]? = some (b0, .inr (ci, fs))) (hc : (cl[ci]?).map (fun q => q.1) = some y.cls)
    (hE : w σ = x ++ (w2 σ2 ++ z)) (hE1 : w σ1 = x ++ (w2 σ3 ++ z)) (hq : (rest.map fun v => v.category).sum ≤ 8) (k : J Γ w cl Qf X σ1 n lv (r.toList ++ rest)) : J Γ w cl Qf X σ pc lv (As.reverse ++ .ref b0 :: rest) := by
  subst hp
  intro r0 σ' h H locs ls hP hS hl'
  obtain ⟨i1, i2, i3, i4, i5⟩ := I
  obtain ⟨pre1, pre2⟩ := j_pre C hE hP hS (.ref b0 :: As)
  have hPw : va_P (kD (gK Γ)) cl (x ++ (w2 σ2 ++ z)) H := hE ▸ hP
  cases hcl : cl[ci]? with
  | none => rw [hcl] at hc; cases hc
  | some q =>
    rw [hcl] at hc
    have hqc : q.1 = y.cls := Option.some.inj hc
    refine j_run (aa := (Value.ref b0 :: As).toArray) C hE hE1 hP hS hl' (va_runV (As := As) (rest := rest) (C := y.cls) ⟨C.hx, C.hb, C.hl, C.ho, C.ht⟩ (M H.size)
      ⟨callB_of As.length C.ht (gw_goodIn i1) rfl rfl rfl (C.ht _ i2) (C.ht _ hl) i3 (by rw [C.hR.1, C.hR.2]; exact hR), C.ht _ i4, C.ht _ i5⟩ ⟨pre1, ?_, pre2⟩ rfl rfl (by rw [← C.hl]; exact hl'.1) rfl (lv_room hq) hd C.hr) h k
    rw [← hqc]
    exact va_recv C.hK (fr_part hPw) hcl hr
theorem j_callS {r : Option Value} (C : cx_C Γ w cl own cc nL ret rm) (M : MC (gl Γ) y b2 n2 ret2 rm2 (gK Γ) w2 cl σ2 As r σ3) (I : ck_S y b2 n2 ret2 As.length) (hl : Cond.methodLink own index y ∈ gw) (hR : rm2.1 + 1 ≤ rm.1 ∧ 8 + (n2 + 11) + rm2.2 ≤ rm.2) (hd : decode cc pc = .ok (.invokestatic index, 3)) (hp : pc + 3 = n)
    (hE : w σ = x ++ (w2 σ2 ++ z)) (hE1 : w σ1 = x ++ (w2 σ3 ++ z)) (hq : (rest.map fun v => v.category).sum ≤ 8) (k : J Γ w cl Qf X σ1 n lv (r.toList ++ rest)) : J Γ w cl Qf X σ pc lv (As.reverse ++ rest) := by
  subst hp
  intro r0 σ' h H locs ls hP hS hl'
  obtain ⟨i1, i2, i3, i4⟩ := I
  obtain ⟨pre1, pre2⟩ := j_pre C hE hP hS As
  exact j_run (aa := As.toArray) C hE hE1 hP hS hl' (va_runS (As := As) (rest := rest) ⟨C.hx, C.hb, C.hl, C.ho, C.ht⟩ (M H.size)
      ⟨callB_of As.length C.ht (gw_goodIn i1) rfl rfl rfl (C.ht _ i2) (C.ht _ hl) i3 (by rw [C.hR.1, C.hR.2]; exact hR), C.ht _ i4⟩ ⟨pre1, pre2⟩ rfl rfl (by rw [← C.hl]; exact hl'.1) rfl (lv_room hq) hd C.hr) h k
end
/-! ===== more of the frame ===== -/
theorem in_z {x : Int32} (h : 0 ≤ x) : ¬ x < 0 := by rw [Int32.lt_iff_toInt_lt]; rw [Int32.le_iff_toInt_le] at h; omega
theorem in_a {x M : Int32} {N : Nat} (h0 : ¬ x < 0) (h1 : ¬ M ≤ x) (e : 0 ≤ M) (hN : M.toInt.toNat ≤ N) : vp_in x N := by
  rw [vp_in_iff]; rw [Int32.lt_iff_toInt_lt, Int32.toInt_zero] at h0; rw [Int32.le_iff_toInt_le] at h1 e; rw [Int32.toInt_zero] at e; omega
theorem in_b {x M : Int32} {N : Nat} (h0 : ¬ x < 0) (h1 : ¬ M < x) (e : 0 ≤ M) (hN : M.toInt.toNat < N) : vp_in x N := by
  rw [vp_in_iff]; rw [Int32.lt_iff_toInt_lt, Int32.toInt_zero] at h0; rw [Int32.lt_iff_toInt_lt] at h1; rw [Int32.le_iff_toInt_le, Int32.toInt_zero] at e; omega
theorem in_c {x M : Int32} {N : Nat} (h0 : ¬ x < 0) (h1 : x < M) (e : 0 ≤ M) (hN : M.toInt.toNat ≤ N) : vp_in x N := by
  rw [vp_in_iff]; rw [Int32.lt_iff_toInt_lt, Int32.toInt_zero] at h0; rw [Int32.lt_iff_toInt_lt] at h1; rw [Int32.le_iff_toInt_le, Int32.toInt_zero] at e; omega
theorem in_d {x M : Int32} {N : Nat} (h0 : ¬ x < 0) (h1 : x ≤ M) (e : 0 ≤ M) (hN : M.toInt.toNat < N) : vp_in x N := by
  rw [vp_in_iff]; rw [Int32.lt_iff_toInt_lt, Int32.toInt_zero] at h0; rw [Int32.le_iff_toInt_le] at h1 e; rw [Int32.toInt_zero] at e; omega
def qabs (x : Int64) : Int64 := if 0 < x then x else -x
theorem qabs_ne {x : Int64} (h : ¬ x = 0) : ¬ qabs x = 0 := by
  unfold qabs
  split
  · exact h
  · intro e; apply h
    have e2 := congrArg Int64.toBitVec e
    simp at e2
    exact Int64.toBitVec_inj.mp (by simpa using e2)
theorem ne_of_pos {x : Int64} (h : 0 < x) : ¬ x = 0 := by rintro rfl; exact absurd h (by decide)
section
variable {R S : Type} {Γ : cx_T} {w : S → va_W} {cl : List vw_C} {own : String} {cc : ByteArray} {nL : Nat} {ret : Option FieldType} {rm : Nat × Nat} {Qf : R → S → State → Prop} {X : Option (R × S)} {σ : S} {pc n : Nat} {lv lv' : List (Nat × Value)} {st : List Value}
theorem J.none (h : X = none) : J Γ w cl Qf X σ pc lv st := fun r σ' e => by rw [h] at e; cases e
theorem J.loc (ks : List Nat) (h : lv_pick lv ks = lv') (k : J Γ w cl Qf X σ pc lv' st) : J Γ w cl Qf X σ pc lv st := fun r σ' e H locs ls hP hS hl => k r σ' e H locs ls hP hS (lv_sub hl ks h)
theorem J.cas {α : Type} (sh : α → Option (R × S)) {c : Prop} {d : Decidable c} {x y : α} (k1 : c → J Γ w cl Qf (sh x) σ pc lv st) (k2 : ¬ c → J Γ w cl Qf (sh y) σ pc lv st) : J Γ w cl Qf (sh (if c then x else y)) σ pc lv st := by
  by_cases h : c
  · exact J.pos sh h (k1 h)
  · exact J.neg sh h (k2 h)
theorem j_abs (C : cx_C Γ w cl own cc nL ret rm) {index : Nat} {x : Int64} (hl : Cond.methodLink own index Lib.MathLoose.abs_long.x ∈ gw) (hstat : Cond.static Lib.MathLoose.abs_long.x ∈ gw) (hini : Cond.initialized "java/lang/Math" ∈ gw) (hcode : Cond.code Lib.MathLoose.abs_long.x Lib.MathLoose.abs_long.code 2 (some .long) ∈ gw) (hR : 1 ≤ rm.1 ∧ (st.map fun v => v.category).sum + 13 ≤ rm.2) (hd : decode cc pc = .ok (.invokestatic index, 3)) (hp : pc + 3 = n) (k : J Γ w cl Qf X σ n lv (.long (qabs x) :: st)) : J Γ w cl Qf X σ pc lv (.long x :: st) := by
  subst hp
  exact fun r σ' h H locs ls hP hS hl' => va_mabs_long C.hx C.hb hl'.1.symm C.ho (C.ht _ hl) (C.ht _ hstat) (C.ht _ hini) (C.ht _ hcode) (by rw [C.hR.1]; exact hR.1) (by rw [C.hR.2]; exact hR.2) C.hr.1 C.hr.2 hd (k r σ' h H locs ls hP hS hl')
end
def inb (i : Int32) (n : Nat) : Bool := decide (0 ≤ i.toInt ∧ i.toInt < n)
theorem inb_in {i : Int32} {n : Nat} (h : inb i n = true) : vp_in i n := vp_in_iff.mpr (of_decide_eq_true h)
theorem inb_iff {i : Int32} {n : Nat} : inb i n = true ↔ 0 ≤ i.toInt ∧ i.toInt < n := by simp [inb]
