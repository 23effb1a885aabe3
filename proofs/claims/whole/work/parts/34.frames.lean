/-! ===== the frames of both sides ===== -/
def undf (f : Nat → Int64) (v : Int64) : Int64 := if wt v < 0 then vI 5 (wt v) else f (ix v)
theorem undr_f (m : qm_S) (v : Int64) : undr m v = undf (qm_g_first m) v := rfl
/-- an environment, its row -/
def envr (n : Nat) (K : Nat → Nat) (x : Int32) (e : Int64) : Prop := ok n K e ∧ kd e = 7 ∧ x.toInt = row (wt e)
/-- one frame: task, environment, rest, held and gathered; kind, one, other, around and base; its arguments from e0 to e1 -/
def fr (n : Nat) (K : Nat → Nat) (f s : Nat → Int64) (tk en : Int32) (rs hd : Int64) (gt fk : Int32) (fo fh fa : Int64) (fb : Int32) (e0 e1 : Int) : Prop :=
  tk = fk ∧ envr n K en fa ∧ 0 ≤ e0 ∧ e0 ≤ e1 ∧
  ((fk = 0 ∧ e1 = e0 ∧ rs = xw fo ∧ ok n K fo) ∨
   (fk = 1 ∧ rs = xw fh ∧ ok n K fh ∧ (∃ L, lst f s L fh) ∧ ok n K fo ∧ kd fo = 6 ∧ hd = xw (undf f fo) ∧ fb.toInt = e0 ∧ gt.toInt = e1 - e0) ∨
   (fk = 2 ∧ e1 = e0 ∧ ∃ r, rs = xw r ∧ ok n K r ∧ lst f s [fo, fh] r) ∨
   (fk = 3 ∧ e1 = e0 ∧ ∃ r y x, rs = xw r ∧ ok n K r ∧ lst f s [y, x] r ∧ kd y = 2 ∧ fb.toInt = wt y) ∨
   (fk = 4 ∧ e1 = e0 ∧ ∃ r y, rs = xw r ∧ ok n K r ∧ lst f s [y, fo] r ∧ kd y = 2 ∧ fb.toInt = wt y) ∨
   (fk = 5 ∧ e1 = e0 ∧ (∃ r y x, rs = xw r ∧ ok n K r ∧ lst f s [y, x] r ∧ kd y = 2 ∧ fb.toInt = wt y) ∧ hd = xw fo ∧ ok n K fo ∧ kd fo = 7) ∨
   (fk = 6 ∧ e1 = e0 ∧ rs = xw fo ∧ ok n K fo ∧ ∃ a L, lst f s (a :: L) fo))
/-- the first F frames, with A arguments below them -/
def FR (n : Nat) (K : Nat → Nat) (f s : Nat → Int64) (tk en : Nat → Int32) (rs hd : Nat → Int64) (gt fk : Nat → Int32) (fo fh fa : Nat → Int64) (fb : Nat → Int32) (F : Nat) (A : Int) : Prop :=
  ∃ e : Nat → Int, e 0 = 0 ∧ e F = A ∧ ∀ j, j < F → fr n K f s (tk j) (en j) (rs j) (hd j) (gt j) (fk j) (fo j) (fh j) (fa j) (fb j) (e j) (e (j + 1))
theorem upd_at {α : Type} (g : Nat → α) (k : Nat) (x : α) : (fun j => if j = k then x else g j) k = x := if_pos rfl
section
variable {n : Nat} {K : Nat → Nat} {f s : Nat → Int64} {tk en : Nat → Int32} {rs hd : Nat → Int64} {gt fk : Nat → Int32} {fo fh fa : Nat → Int64} {fb : Nat → Int32} {F : Nat} {A B : Int}
theorem FR.zero : FR n K f s tk en rs hd gt fk fo fh fa fb 0 0 := ⟨fun _ => 0, rfl, rfl, fun j hj => absurd hj (Nat.not_lt_zero _)⟩
theorem FR.pop (R : FR n K f s tk en rs hd gt fk fo fh fa fb (F + 1) A) : ∃ B, FR n K f s tk en rs hd gt fk fo fh fa fb F B ∧ fr n K f s (tk F) (en F) (rs F) (hd F) (gt F) (fk F) (fo F) (fh F) (fa F) (fb F) B A := by
  obtain ⟨e, e0, e1, e2⟩ := R
  have h := e2 F (Nat.lt_succ_self F)
  rw [e1] at h
  exact ⟨e F, ⟨e, e0, rfl, fun j hj => e2 j (by omega)⟩, h⟩
theorem FR.le (R : FR n K f s tk en rs hd gt fk fo fh fa fb F A) : 0 ≤ A := by
  cases F with
  | zero => obtain ⟨e, e0, e1, e2⟩ := R; omega
  | succ F => obtain ⟨B, -, -, -, h1, h2, -⟩ := R.pop; omega
theorem FR.none (R : FR n K f s tk en rs hd gt fk fo fh fa fb 0 A) : A = 0 := by
  obtain ⟨e, e0, e1, -⟩ := R
  omega
theorem FR.push (R : FR n K f s tk en rs hd gt fk fo fh fa fb F B) {t1 n1 g1 k1 b1 : Int32} {r1 h1 o1 p1 a1 : Int64} (h : fr n K f s t1 n1 r1 h1 g1 k1 o1 p1 a1 b1 B A) :
    FR n K f s (upd tk F t1) (upd en F n1) (vp_updL rs F r1) (vp_updL hd F h1) (upd gt F g1) (upd fk F k1) (vp_updL fo F o1) (vp_updL fh F p1) (vp_updL fa F a1) (upd fb F b1) (F + 1) A := by
  obtain ⟨e, e0, e1, e2⟩ := R
  refine ⟨fun j => if j = F + 1 then A else e j, ?_, ?_, fun j hj => ?_⟩
  · show (if 0 = F + 1 then A else e 0) = 0
    rw [if_neg (by omega), e0]
  · show (if F + 1 = F + 1 then A else _) = A
    rw [if_pos rfl]
  · by_cases hjF : j = F
    · subst hjF
      show fr n K f s (if j = j then t1 else _) (if j = j then n1 else _) (if j = j then r1 else _) (if j = j then h1 else _) (if j = j then g1 else _) (if j = j then k1 else _) (if j = j then o1 else _) (if j = j then p1 else _) (if j = j then a1 else _) (if j = j then b1 else _) (if j = j + 1 then A else e j) (if j + 1 = j + 1 then A else e (j + 1))
      simp only [if_pos, if_neg (show ¬ j = j + 1 by omega), e1]
      exact h
    · show fr n K f s (if j = F then t1 else tk j) (if j = F then n1 else en j) (if j = F then r1 else rs j) (if j = F then h1 else hd j) (if j = F then g1 else gt j) (if j = F then k1 else fk j) (if j = F then o1 else fo j) (if j = F then p1 else fh j) (if j = F then a1 else fa j) (if j = F then b1 else fb j) (if j = F + 1 then A else e j) (if j + 1 = F + 1 then A else e (j + 1))
      rw [if_neg hjF, if_neg hjF, if_neg hjF, if_neg hjF, if_neg hjF, if_neg hjF, if_neg hjF, if_neg hjF, if_neg hjF, if_neg hjF, if_neg (by omega), if_neg (by omega)]
      exact e2 j (by omega)
end
section
variable {n n' : Nat} {K K' : Nat → Nat} {h : qh_S} {m m' : qm_S}
theorem envr.ext {x : Int32} {e : Int64} (E : Ext n K m n' K' m') (h : envr n K x e) : envr n' K' x e := ⟨E.ok h.1, h.2⟩
theorem fr.ext (H : HR n K h m) (E : Ext n K m n' K' m') {t1 n1 g1 k1 b1 : Int32} {r1 h1 o1 p1 a1 : Int64} {A B : Int} (R : fr n K (qm_g_first m) (qm_g_second m) t1 n1 r1 h1 g1 k1 o1 p1 a1 b1 B A) : fr n' K' (qm_g_first m') (qm_g_second m') t1 n1 r1 h1 g1 k1 o1 p1 a1 b1 B A := by
  have L : ∀ (l : List Int64) (v : Int64), ok n K v → lst (qm_g_first m) (qm_g_second m) l v → lst (qm_g_first m') (qm_g_second m') l v := fun l v hv hl => H.lst_ext E l n v hv (Nat.le_refl _) hl
  obtain ⟨a1, a2, a3, a4, R⟩ := R
  refine ⟨a1, envr.ext E a2, a3, a4, ?_⟩
  rcases R with ⟨b1, b2, b3, b4⟩ | ⟨b1, b2, b3, ⟨l, b4⟩, b5, b6, b7, b8⟩ | ⟨b1, b2, r, b3, b4, b5⟩ | ⟨b1, b2, r, y, x, b3, b4, b5, b6⟩ | ⟨b1, b2, r, y, b3, b4, b5, b6⟩ | ⟨b1, b2, ⟨r, y, x, b3, b4, b5, b6⟩, b7, b8, b9⟩ | ⟨b1, b2, b3, b4, a, l, b5⟩
  · exact Or.inl ⟨b1, b2, b3, E.ok b4⟩
  · refine Or.inr (Or.inl ⟨b1, b2, E.ok b3, ⟨l, L l _ b3 b4⟩, E.ok b5, b6, ?_, b8⟩)
    rw [b7, ← undr_f, ← undr_f, H.undr_ext E b5 b6]
  · exact Or.inr (Or.inr (Or.inl ⟨b1, b2, r, b3, E.ok b4, L _ _ b4 b5⟩))
  · exact Or.inr (Or.inr (Or.inr (Or.inl ⟨b1, b2, r, y, x, b3, E.ok b4, L _ _ b4 b5, b6⟩)))
  · exact Or.inr (Or.inr (Or.inr (Or.inr (Or.inl ⟨b1, b2, r, y, b3, E.ok b4, L _ _ b4 b5, b6⟩))))
  · exact Or.inr (Or.inr (Or.inr (Or.inr (Or.inr (Or.inl ⟨b1, b2, ⟨r, y, x, b3, E.ok b4, L _ _ b4 b5, b6⟩, b7, E.ok b8, b9⟩)))))
  · exact Or.inr (Or.inr (Or.inr (Or.inr (Or.inr (Or.inr ⟨b1, b2, b3, E.ok b4, a, l, L _ _ b4 b5⟩)))))
theorem FR.ext (H : HR n K h m) (E : Ext n K m n' K' m') {tk en : Nat → Int32} {rs hd : Nat → Int64} {gt fk : Nat → Int32} {fo fh fa : Nat → Int64} {fb : Nat → Int32} {F : Nat} {A : Int}
    (R : FR n K (qm_g_first m) (qm_g_second m) tk en rs hd gt fk fo fh fa fb F A) : FR n' K' (qm_g_first m') (qm_g_second m') tk en rs hd gt fk fo fh fa fb F A := by
  obtain ⟨e, e0, e1, e2⟩ := R
  exact ⟨e, e0, e1, fun j hj => fr.ext H E (e2 j hj)⟩
end
/-- what both machines hold, registers apart: F frames, A arguments, B of them below the frames -/
def MR (n : Nat) (K : Nat → Nat) (m : qm_S) (z : qn_S) (F A : Nat) (B : Int) : Prop :=
  ((qm_g_frames m).toInt = F ∧ (qf_g_count (qn_gF z)).toInt = F ∧ F ≤ 300 ∧ qf_g_most (qn_gF z) = qm_g_mostFrames m ∧ (F : Int) ≤ (qm_g_mostFrames m).toInt ∧ (qm_g_mostFrames m).toInt ≤ 300) ∧
  FR n K (qm_g_first m) (qm_g_second m) (qf_g_tasks (qn_gF z)) (qf_g_environments (qn_gF z)) (qf_g_rests (qn_gF z)) (qf_g_helds (qn_gF z)) (qf_g_gathereds (qn_gF z)) (qm_g_frameKind m) (qm_g_frameOne m) (qm_g_frameOther m) (qm_g_frameAround m) (qm_g_frameBase m) F B ∧
  ((qm_g_resultMany m).toInt = A ∧ (qn_g_argumentCount z).toInt = A ∧ ∀ j, j < A → qn_g_arguments z j = xw (qm_g_results m j) ∧ ok n K (qm_g_results m j)) ∧
  (qn_g_steps z = qm_g_steps m ∧ qn_g_limit z = qm_g_limit m ∧ 0 ≤ (qm_g_steps m).toInt ∧ (qm_g_steps m).toInt ≤ (qm_g_limit m).toInt ∧ (qm_g_limit m).toInt ≤ 1500 ∧ qn_g_failure z = 0)
/-- what of the reference's state the relation of the machines speaks of -/
def mr (m : qm_S) : Int32 × Int32 × (Nat → Int32) × (Nat → Int64) × (Nat → Int64) × (Nat → Int64) × (Nat → Int32) × (Nat → Int64) × Int32 × Int32 × Int32 :=
  (qm_g_frames m, qm_g_mostFrames m, qm_g_frameKind m, qm_g_frameOne m, qm_g_frameOther m, qm_g_frameAround m, qm_g_frameBase m, qm_g_results m, qm_g_resultMany m, qm_g_steps m, qm_g_limit m)
/-- and of the class's -/
def nr (z : qn_S) : qf_S × (Nat → Int64) × Int32 × Int32 × Int32 × Int32 := (qn_gF z, qn_g_arguments z, qn_g_argumentCount z, qn_g_steps z, qn_g_limit z, qn_g_failure z)
theorem mr_of_mo {m m' : qm_S} (e : mo m' = mo m) : mr m' = mr m := by
  unfold mo at e
  simp only [Prod.mk.injEq] at e
  obtain ⟨e1, e2, e3, e4, e5, e6, e7, e8, e9, e10, e11, e12, e13, e14, e15, e16, e17, e18⟩ := e
  unfold mr
  rw [e4, e5, e6, e11, e12, e13, e14, e15, e16, e17, e18]
theorem MR.to {n n' : Nat} {K K' : Nat → Nat} {h : qh_S} {m m' : qm_S} {z z' : qn_S} {F A : Nat} {B : Int} (R : MR n K m z F A B) (H : HR n K h m) (E : Ext n K m n' K' m') (em : mr m' = mr m) (ez : nr z' = nr z) : MR n' K' m' z' F A B := by
  unfold mr at em
  unfold nr at ez
  simp only [Prod.mk.injEq] at em ez
  obtain ⟨e1, e2, e3, e4, e5, e6, e7, e8, e9, e10, e11⟩ := em
  obtain ⟨z1, z2, z3, z4, z5, z6⟩ := ez
  obtain ⟨a, b, ⟨c1, c2, c3⟩, d⟩ := R
  unfold MR
  rw [e1, e2, e3, e4, e5, e6, e7, e8, e9, e10, e11, z1, z2, z3, z4, z5, z6]
  exact ⟨a, FR.ext H E b, ⟨c1, c2, fun j hj => ⟨(c3 j hj).1, E.ok (c3 j hj).2⟩⟩, d⟩
