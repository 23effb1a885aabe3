/-! functions out of the bytecode -/
def qm_within (a0 : Int64) (a2 : Int64) (a4 : Int64) : Int32 :=
  if a0 < a2 then (0 : Int32)
  else if a4 < a0 then (0 : Int32)
    else (1 : Int32)
def qm_made (a0 : Int32) (a1 : Int64) : Int64 :=
  (((16 : Int64) * a1) + (Int32.toInt64 a0))
def qm_begin_L43 (N : Nat) : Nat → qm_S → Int32 → Option qm_S
  | 0 => fun _ _ => none
  | k + 1 => fun σ x1 =>
    if (100 : Int32) ≤ x1 then some σ
    else if x1 < (8 : Int32) then if inb x1 100 = true then if (8 : Int32) ≤ x1 then if inb x1 100 = true then (qm_begin_L43 N k (qm_t_groundValue (qm_t_isGround σ x1 (1 : Int32)) x1 (qm_made (6 : Int32) ((-1 : Int64) - (Int32.toInt64 x1)))) (x1 + (1 : Int32)))
            else none
          else if inb x1 100 = true then (qm_begin_L43 N k (qm_t_groundValue (qm_t_isGround σ x1 (1 : Int32)) x1 (qm_made (5 : Int32) ((-1 : Int64) - (Int32.toInt64 x1)))) (x1 + (1 : Int32)))
            else none
        else none
      else if (qm_within (Int32.toInt64 x1) (10 : Int64) (25 : Int64)) = (0 : Int32) then if inb x1 100 = true then if (8 : Int32) ≤ x1 then if inb x1 100 = true then (qm_begin_L43 N k (qm_t_groundValue (qm_t_isGround σ x1 (0 : Int32)) x1 (qm_made (6 : Int32) ((-1 : Int64) - (Int32.toInt64 x1)))) (x1 + (1 : Int32)))
              else none
            else if inb x1 100 = true then (qm_begin_L43 N k (qm_t_groundValue (qm_t_isGround σ x1 (0 : Int32)) x1 (qm_made (5 : Int32) ((-1 : Int64) - (Int32.toInt64 x1)))) (x1 + (1 : Int32)))
              else none
          else none
        else if inb x1 100 = true then if (8 : Int32) ≤ x1 then if inb x1 100 = true then (qm_begin_L43 N k (qm_t_groundValue (qm_t_isGround σ x1 (1 : Int32)) x1 (qm_made (6 : Int32) ((-1 : Int64) - (Int32.toInt64 x1)))) (x1 + (1 : Int32)))
              else none
            else if inb x1 100 = true then (qm_begin_L43 N k (qm_t_groundValue (qm_t_isGround σ x1 (1 : Int32)) x1 (qm_made (5 : Int32) ((-1 : Int64) - (Int32.toInt64 x1)))) (x1 + (1 : Int32)))
              else none
          else none
def qm_begin (N : Nat) (σ : qm_S)  : Option qm_S :=
  (qm_begin_L43 N N (qm_t_headOf (qm_s_mostFrames (qm_s_steps (qm_s_present (qm_s_limit (qm_s_values (qm_s_objects σ (0 : Int32)) (0 : Int32)) (1000 : Int32)) (-25 : Int64)) (0 : Int32)) (0 : Int32)) (0 : Int32) (-1 : Int32)) (0 : Int32))
def qm_lost  : Int64 :=
  (-9223372036854775808 : Int64)
def qm_kindOf (a0 : Int64) : Int32 :=
  (Int64.toInt32 (a0 &&& (15 : Int64)))
def qm_whatOf (a0 : Int64) : Int64 :=
  (a0 >>> 4)
def qm_truth (a0 : Int32) : Int64 :=
  if a0 = (0 : Int32) then (qm_made (1 : Int32) (0 : Int64))
  else (qm_made (1 : Int32) (1 : Int64))
def qm_indexOf (σ : qm_S) (a1 : Int64) : Int32 :=
  (Int64.toInt32 (qm_whatOf a1))
def qm_carOf (σ : qm_S) (a1 : Int64) : Option Int64 :=
  if inb (qm_indexOf σ a1) 4000 = true then some (qm_g_first σ (Int32.toNatClampNeg (qm_indexOf σ a1)))
  else none
def qm_cdrOf (σ : qm_S) (a1 : Int64) : Option Int64 :=
  if inb (qm_indexOf σ a1) 4000 = true then some (qm_g_second σ (Int32.toNatClampNeg (qm_indexOf σ a1)))
  else none
def qm_underOf (σ : qm_S) (a1 : Int64) : Option Int64 :=
  if (qm_whatOf a1) < (0 : Int64) then some (qm_made (5 : Int32) (qm_whatOf a1))
  else if inb (qm_indexOf σ a1) 4000 = true then some (qm_g_first σ (Int32.toNatClampNeg (qm_indexOf σ a1)))
    else none
def qm_parentOf (σ : qm_S) (a1 : Int64) : Option Int64 :=
  if a1 = (-9 : Int64) then some (-1 : Int64)
  else if a1 = (-25 : Int64) then some (-9 : Int64)
    else if inb (qm_indexOf σ a1) 4000 = true then some (qm_g_first σ (Int32.toNatClampNeg (qm_indexOf σ a1)))
      else none
def qm_adds (σ : qm_S) (a1 : Int32) (a2 : Int64) (a4 : Int64) : Option (Int64 × qm_S) :=
  if inb (qm_g_objects σ) 4000 = true then if inb (qm_g_objects σ) 4000 = true then some ((qm_made a1 (Int32.toInt64 (((qm_g_objects σ) + (1 : Int32)) - (1 : Int32)))), (qm_s_objects (qm_t_second (qm_t_first σ (qm_g_objects σ) a2) (qm_g_objects σ) a4) ((qm_g_objects σ) + (1 : Int32))))
    else none
  else none
def qm_addsEnvironment (σ : qm_S) (a1 : Int64) : Option (Int64 × qm_S) :=
  if inb ((qm_g_objects σ) + (2 : Int32)) 4002 = true then ((qm_adds (qm_t_headOf σ ((qm_g_objects σ) + (2 : Int32)) (-1 : Int32)) (7 : Int32) a1 (0 : Int64))).bind fun r2 =>
      some (r2.1, r2.2)
  else none
def qm_isFull (σ : qm_S)  : Int32 :=
  if (qm_g_objects σ) = (4000 : Int32) then (1 : Int32)
  else (0 : Int32)
def qm_findsOwn_B77 (N : Nat) (σ : qm_S)  : Option (Int32 × qm_S) :=
  if (qm_g_foundAt σ) < (0 : Int32) then if (qm_g_foundAt σ) < (0 : Int32) then some ((0 : Int32), (qm_s_found σ (0 : Int64)))
    else some ((1 : Int32), (qm_s_found σ (0 : Int64)))
  else if inb (qm_g_foundAt σ) 4000 = true then if (qm_g_foundAt σ) < (0 : Int32) then some ((0 : Int32), (qm_s_found σ (qm_g_first σ (Int32.toNatClampNeg (qm_g_foundAt σ)))))
      else some ((1 : Int32), (qm_s_found σ (qm_g_first σ (Int32.toNatClampNeg (qm_g_foundAt σ)))))
    else none
def qm_findsOwn_L41 (N : Nat) : Nat → qm_S → Int32 → Option (Int32 × qm_S)
  | 0 => fun _ _ => none
  | k + 1 => fun σ x3 =>
    if (qm_g_foundAt σ) < (0 : Int32) then (qm_findsOwn_B77 N σ)
    else if inb (qm_g_foundAt σ) 4000 = true then if (qm_g_symbolOf σ (Int32.toNatClampNeg (qm_g_foundAt σ))) = x3 then (qm_findsOwn_B77 N σ)
        else if inb (qm_g_foundAt σ) 4000 = true then (qm_findsOwn_L41 N k (qm_s_foundAt σ (qm_g_nextOf σ (Int32.toNatClampNeg (qm_g_foundAt σ)))) x3)
          else none
      else none
def qm_findsOwn (N : Nat) (σ : qm_S) (a1 : Int64) (a3 : Int32) : Option (Int32 × qm_S) :=
  if a1 = (-9 : Int64) then if inb a3 100 = true then if inb a3 100 = true then some ((bz (qm_g_isGround σ (Int32.toNatClampNeg a3))), (qm_s_found σ (qm_g_groundValue σ (Int32.toNatClampNeg a3))))
      else none
    else none
  else if inb ((qm_indexOf σ a1) + (2 : Int32)) 4002 = true then (qm_findsOwn_L41 N N (qm_s_foundAt σ (qm_g_headOf σ (Int32.toNatClampNeg ((qm_indexOf σ a1) + (2 : Int32))))) a3)
    else none
def qm_finds_L3 (N : Nat) : Nat → qm_S → Int32 → Int64 → Option (Int32 × qm_S)
  | 0 => fun _ _ _ => none
  | k + 1 => fun σ x3 x4 =>
    if x4 = (-1 : Int64) then some ((0 : Int32), σ)
    else ((qm_findsOwn N σ x4 x3)).bind fun r2 =>
        if r2.1 = (0 : Int32) then ((qm_parentOf r2.2 x4)).bind fun r5 =>
            (qm_finds_L3 N k r2.2 x3 r5)
        else some ((1 : Int32), r2.2)
def qm_finds (N : Nat) (σ : qm_S) (a1 : Int64) (a3 : Int32) : Option (Int32 × qm_S) :=
  (qm_finds_L3 N N σ a3 a1)
def qm_binds_B22 (N : Nat) (σ : qm_S) (x1 : Int64) (x3 : Int32) (x4 : Int64) (x6 : Int32) : Option (Int32 × qm_S) :=
  if x1 = (-9 : Int64) then if inb x3 100 = true then if inb x3 100 = true then if x6 = (0 : Int32) then some ((1 : Int32), (qm_s_objects (qm_t_groundValue (qm_t_isGround σ x3 (1 : Int32)) x3 x4) ((qm_g_objects σ) + (1 : Int32))))
        else some ((1 : Int32), (qm_s_objects (qm_t_groundValue (qm_t_isGround σ x3 (1 : Int32)) x3 x4) ((qm_g_objects σ) + (0 : Int32))))
      else none
    else none
  else if x6 = (0 : Int32) then if inb (qm_g_objects σ) 4000 = true then if inb ((qm_indexOf σ x1) + (2 : Int32)) 4002 = true then if inb (qm_g_objects σ) 4000 = true then if inb ((qm_indexOf σ x1) + (2 : Int32)) 4002 = true then if inb (qm_g_objects σ) 4000 = true then some ((1 : Int32), (qm_s_objects (qm_t_first (qm_t_headOf (qm_t_nextOf (qm_t_symbolOf σ (qm_g_objects σ) x3) (qm_g_objects σ) (qm_g_headOf σ (Int32.toNatClampNeg ((qm_indexOf σ x1) + (2 : Int32))))) ((qm_indexOf σ x1) + (2 : Int32)) (qm_g_objects σ)) (qm_g_objects σ) x4) ((qm_g_objects σ) + (1 : Int32))))
              else none
            else none
          else none
        else none
      else none
    else if inb (qm_g_foundAt σ) 4000 = true then some ((1 : Int32), (qm_t_first σ (qm_g_foundAt σ) x4))
      else none
def qm_binds (N : Nat) (σ : qm_S) (a1 : Int64) (a3 : Int32) (a4 : Int64) : Option (Int32 × qm_S) :=
  ((qm_findsOwn N σ a1 a3)).bind fun r1 =>
    if r1.1 = (0 : Int32) then if (qm_isFull r1.2) = (0 : Int32) then (qm_binds_B22 N r1.2 a1 a3 a4 r1.1)
      else some ((0 : Int32), r1.2)
    else (qm_binds_B22 N r1.2 a1 a3 a4 r1.1)
def qm_longOf_L5 (N : Nat) : Nat → qm_S → Int32 → Int64 → Option Int32
  | 0 => fun _ _ _ => none
  | k + 1 => fun σ x3 x4 =>
    if (qm_kindOf x4) = (4 : Int32) then ((qm_cdrOf σ x4)).bind fun r3 =>
        (qm_longOf_L5 N k σ (x3 + (1 : Int32)) r3)
    else if (qm_kindOf x4) = (3 : Int32) then some x3
      else some (-1 : Int32)
def qm_longOf (N : Nat) (σ : qm_S) (a1 : Int64) : Option Int32 :=
  (qm_longOf_L5 N N σ (0 : Int32) a1)
def qm_elementOf_L6 (N : Nat) : Nat → qm_S → Int32 → Int64 → Int32 → Option Int64
  | 0 => fun _ _ _ _ => none
  | k + 1 => fun σ x3 x4 x6 =>
    if x3 ≤ x6 then ((qm_carOf σ x4)).bind fun r2 =>
        some r2
    else ((qm_cdrOf σ x4)).bind fun r4 =>
        (qm_elementOf_L6 N k σ x3 r4 (x6 + (1 : Int32)))
def qm_elementOf (N : Nat) (σ : qm_S) (a1 : Int64) (a3 : Int32) : Option Int64 :=
  (qm_elementOf_L6 N N σ a3 a1 (0 : Int32))
def qm_pushes (σ : qm_S) (a1 : Int64) : Option (Int32 × qm_S) :=
  if (qm_g_values σ) = (40 : Int32) then some ((-3 : Int32), σ)
  else if inb (qm_g_values σ) 40 = true then some (((qm_g_values σ) + (1 : Int32)), (qm_s_values (qm_t_stack σ (qm_g_values σ) a1) ((qm_g_values σ) + (1 : Int32))))
    else none
def qm_depthBarred (σ : qm_S) (a1 : Int32) : Int32 :=
  if (0 : Int32) ≤ a1 then if a1 < (qm_g_values σ) then (0 : Int32)
    else (-2 : Int32)
  else (-1 : Int32)
def qm_at (σ : qm_S) (a1 : Int32) : Option Int64 :=
  if inb (((qm_g_values σ) - (1 : Int32)) - a1) 40 = true then some (qm_g_stack σ (Int32.toNatClampNeg (((qm_g_values σ) - (1 : Int32)) - a1)))
  else none
def qm_pushInteger (σ : qm_S) (a1 : Int64) : Option (Int32 × qm_S) :=
  if (qm_within a1 (-1000000000000000 : Int64) (1000000000000000 : Int64)) = (0 : Int32) then some ((-1 : Int32), σ)
  else ((qm_pushes σ (qm_made (0 : Int32) a1))).bind fun r2 =>
      some (r2.1, r2.2)
def qm_pushBoolean (σ : qm_S) (a1 : Int32) : Option (Int32 × qm_S) :=
  ((qm_pushes σ (qm_truth a1))).bind fun r1 =>
    some (r1.1, r1.2)
def qm_pushSymbol (σ : qm_S) (a1 : Int32) : Option (Int32 × qm_S) :=
  if (qm_within (Int32.toInt64 a1) (0 : Int64) (99 : Int64)) = (0 : Int32) then some ((-1 : Int32), σ)
  else ((qm_pushes σ (qm_made (2 : Int32) (Int32.toInt64 a1)))).bind fun r2 =>
      some (r2.1, r2.2)
def qm_pushEmpty (σ : qm_S) (a1 : Int32) : Option (Int32 × qm_S) :=
  if a1 = (0 : Int32) then ((qm_pushes σ (3 : Int64))).bind fun r2 =>
      some (r2.1, r2.2)
  else ((qm_pushes σ (8 : Int64))).bind fun r4 =>
      some (r4.1, r4.2)
def qm_pushEnvironment (σ : qm_S)  : Option (Int32 × qm_S) :=
  ((qm_pushes σ (qm_g_present σ))).bind fun r1 =>
    some (r1.1, r1.2)
def qm_pushCopy (σ : qm_S) (a1 : Int32) : Option (Int32 × qm_S) :=
  if (0 : Int32) ≤ (qm_depthBarred σ a1) then ((qm_at σ a1)).bind fun r2 =>
      ((qm_pushes σ r2)).bind fun r4 =>
        some (r4.1, r4.2)
  else some ((qm_depthBarred σ a1), σ)
def qm_pushPart_B89 (σ : qm_S) (x3 : Int64) (x5 : Int32) : Option (Int32 × qm_S) :=
  if (qm_g_values σ) = (40 : Int32) then some ((-3 : Int32), σ)
  else if x5 = (6 : Int32) then ((qm_underOf σ x3)).bind fun r26 =>
        if r26 = (-1 : Int64) then some ((-12 : Int32), σ)
        else ((qm_pushes σ r26)).bind fun r29 =>
            some (r29.1, r29.2)
    else ((qm_parentOf σ x3)).bind fun r21 =>
        if r21 = (-1 : Int64) then some ((-12 : Int32), σ)
        else ((qm_pushes σ r21)).bind fun r24 =>
            some (r24.1, r24.2)
def qm_pushPart (σ : qm_S) (a1 : Int32) (a2 : Int32) : Option (Int32 × qm_S) :=
  if a1 < (0 : Int32) then some ((-1 : Int32), σ)
  else if (qm_within (Int32.toInt64 a2) (0 : Int64) (1 : Int64)) = (0 : Int32) then some ((-1 : Int32), σ)
    else if a1 < (qm_g_values σ) then ((qm_at σ a1)).bind fun r4 =>
          if (qm_kindOf r4) = (4 : Int32) then if a2 = (0 : Int32) then ((qm_carOf σ r4)).bind fun r15 =>
                ((qm_pushes σ r15)).bind fun r17 =>
                  some (r17.1, r17.2)
            else ((qm_cdrOf σ r4)).bind fun r11 =>
                ((qm_pushes σ r11)).bind fun r13 =>
                  some (r13.1, r13.2)
          else if a2 = (1 : Int32) then some ((-4 : Int32), σ)
            else if (qm_kindOf r4) = (6 : Int32) then (qm_pushPart_B89 σ r4 (qm_kindOf r4))
              else if (qm_kindOf r4) = (7 : Int32) then (qm_pushPart_B89 σ r4 (qm_kindOf r4))
                else some ((-4 : Int32), σ)
      else some ((-2 : Int32), σ)
def qm_pushBinding (N : Nat) (σ : qm_S) (a1 : Int32) (a2 : Int32) : Option (Int32 × qm_S) :=
  if a1 < (0 : Int32) then some ((-1 : Int32), σ)
  else if (qm_within (Int32.toInt64 a2) (0 : Int64) (99 : Int64)) = (0 : Int32) then some ((-1 : Int32), σ)
    else if a1 < (qm_g_values σ) then ((qm_at σ a1)).bind fun r4 =>
          if (qm_kindOf r4) = (7 : Int32) then ((qm_at σ a1)).bind fun r7 =>
              ((qm_finds N σ r7 a2)).bind fun r9 =>
                if r9.1 = (0 : Int32) then some ((-6 : Int32), r9.2)
                else ((qm_pushes r9.2 (qm_g_found r9.2))).bind fun r12 =>
                    some (r12.1, r12.2)
          else some ((-4 : Int32), σ)
      else some ((-2 : Int32), σ)
def qm_makePair (σ : qm_S)  : Option (Int32 × qm_S) :=
  if (2 : Int32) ≤ (qm_g_values σ) then if (qm_isFull σ) = (0 : Int32) then ((qm_at σ (1 : Int32))).bind fun r3 =>
        ((qm_at σ (0 : Int32))).bind fun r5 =>
          ((qm_adds σ (4 : Int32) r3 r5)).bind fun r7 =>
            ((qm_pushes (qm_s_values r7.2 ((qm_g_values r7.2) - (2 : Int32))) r7.1)).bind fun r9 =>
              some (r9.1, r9.2)
    else some ((-5 : Int32), σ)
  else some ((-2 : Int32), σ)
def qm_makeList_L57 (N : Nat) : Nat → qm_S → Int32 → Int64 → Int32 → Option (Int32 × qm_S)
  | 0 => fun _ _ _ _ => none
  | k + 1 => fun σ x1 x2 x4 =>
    if x1 ≤ x4 then ((qm_pushes (qm_s_values σ ((qm_g_values σ) - x1)) x2)).bind fun r8 =>
        some (r8.1, r8.2)
    else ((qm_at σ x4)).bind fun r10 =>
        ((qm_adds σ (4 : Int32) r10 x2)).bind fun r12 =>
          (qm_makeList_L57 N k r12.2 x1 r12.1 (x4 + (1 : Int32)))
def qm_makeList (N : Nat) (σ : qm_S) (a1 : Int32) : Option (Int32 × qm_S) :=
  if (qm_within (Int32.toInt64 a1) (0 : Int64) (40 : Int64)) = (0 : Int32) then some ((-1 : Int32), σ)
  else if a1 ≤ (qm_g_values σ) then if ((qm_g_objects σ) + a1) ≤ (4000 : Int32) then if a1 = (0 : Int32) then ((qm_pushes σ (3 : Int64))).bind fun r5 =>
            some (r5.1, r5.2)
        else (qm_makeList_L57 N N σ a1 (3 : Int64) (0 : Int32))
      else some ((-5 : Int32), σ)
    else some ((-2 : Int32), σ)
def qm_drop (σ : qm_S) (a1 : Int32) : Int32 × qm_S :=
  if (qm_within (Int32.toInt64 a1) (0 : Int64) (40 : Int64)) = (0 : Int32) then ((-1 : Int32), σ)
  else if a1 ≤ (qm_g_values σ) then (((qm_g_values σ) - a1), (qm_s_values σ ((qm_g_values σ) - a1)))
    else ((-2 : Int32), σ)
def qm_reset (N : Nat) (σ : qm_S)  : Option (Int32 × qm_S) :=
  ((qm_begin N σ)).bind fun r1 =>
    some ((qm_g_objects σ), r1)
def qm_size (σ : qm_S)  : Int32 :=
  (qm_g_values σ)
def qm_kind (σ : qm_S) (a1 : Int32) : Option Int32 :=
  if (0 : Int32) ≤ (qm_depthBarred σ a1) then ((qm_at σ a1)).bind fun r2 =>
      some (qm_kindOf r2)
  else some (qm_depthBarred σ a1)
def qm_value (σ : qm_S) (a1 : Int32) : Option Int64 :=
  if (qm_depthBarred σ a1) < (0 : Int32) then some qm_lost
  else ((qm_at σ a1)).bind fun r2 =>
      if (qm_kindOf r2) ≤ (2 : Int32) then ((qm_at σ a1)).bind fun r5 =>
          some (qm_whatOf r5)
      else some qm_lost
def qm_areSame (σ : qm_S) (a1 : Int32) (a2 : Int32) : Option Int32 :=
  if a1 < (0 : Int32) then some (-1 : Int32)
  else if (0 : Int32) ≤ a2 then if (qm_g_values σ) ≤ a1 then some (-2 : Int32)
      else if a2 < (qm_g_values σ) then ((qm_at σ a1)).bind fun r5 =>
            ((qm_at σ a2)).bind fun r7 =>
              if r5 = r7 then some (1 : Int32)
              else some (0 : Int32)
        else some (-2 : Int32)
    else some (-1 : Int32)
def qm_length (N : Nat) (σ : qm_S) (a1 : Int32) : Option Int32 :=
  if (0 : Int32) ≤ (qm_depthBarred σ a1) then ((qm_at σ a1)).bind fun r2 =>
      ((qm_longOf N σ r2)).bind fun r4 =>
        if (0 : Int32) ≤ r4 then some r4
        else some (-4 : Int32)
  else some (qm_depthBarred σ a1)
def qm_bindingCount_L36 (N : Nat) : Nat → qm_S → Int64 → Int32 → Int32 → Option (Int32 × qm_S)
  | 0 => fun _ _ _ _ => none
  | k + 1 => fun σ x3 x5 x6 =>
    if (100 : Int32) ≤ x6 then some (x5, σ)
    else ((qm_findsOwn N σ x3 x6)).bind fun r6 =>
        if r6.1 = (0 : Int32) then (qm_bindingCount_L36 N k r6.2 x3 (x5 + (0 : Int32)) (x6 + (1 : Int32)))
        else (qm_bindingCount_L36 N k r6.2 x3 (x5 + (1 : Int32)) (x6 + (1 : Int32)))
def qm_bindingCount (N : Nat) (σ : qm_S) (a1 : Int32) : Option (Int32 × qm_S) :=
  if (0 : Int32) ≤ (qm_depthBarred σ a1) then ((qm_at σ a1)).bind fun r2 =>
      if (qm_kindOf r2) = (7 : Int32) then (qm_bindingCount_L36 N N σ r2 (0 : Int32) (0 : Int32))
      else some ((-4 : Int32), σ)
  else some ((qm_depthBarred σ a1), σ)
def qm_goesTo (σ : qm_S) (a1 : Int64) (a3 : Int64) : Int32 × qm_S :=
  ((0 : Int32), (qm_s_around (qm_s_now (qm_s_mode σ (0 : Int32)) a1) a3))
def qm_gives (σ : qm_S) (a1 : Int64) : Int32 × qm_S :=
  ((0 : Int32), (qm_s_now (qm_s_mode σ (2 : Int32)) a1))
def qm_goesWith (σ : qm_S) (a1 : Int32) (a2 : Int64) (a4 : Int64) (a6 : Int32) (a7 : Int64) (a9 : Int64) : Option (Int32 × qm_S) :=
  if (qm_g_frames σ) = (300 : Int32) then some ((-11 : Int32), σ)
  else if inb (qm_g_frames σ) 300 = true then if inb (qm_g_frames σ) 300 = true then if inb (qm_g_frames σ) 300 = true then if inb (qm_g_frames σ) 300 = true then if inb (qm_g_frames σ) 300 = true then if ((qm_g_frames σ) + (1 : Int32)) ≤ (qm_g_mostFrames σ) then some ((qm_goesTo (qm_s_mostFrames (qm_s_frames (qm_t_frameBase (qm_t_frameAround (qm_t_frameOther (qm_t_frameOne (qm_t_frameKind σ (qm_g_frames σ) a1) (qm_g_frames σ) a2) (qm_g_frames σ) a4) (qm_g_frames σ) a9) (qm_g_frames σ) a6) ((qm_g_frames σ) + (1 : Int32))) (qm_g_mostFrames σ)) a7 a9).1, (qm_goesTo (qm_s_mostFrames (qm_s_frames (qm_t_frameBase (qm_t_frameAround (qm_t_frameOther (qm_t_frameOne (qm_t_frameKind σ (qm_g_frames σ) a1) (qm_g_frames σ) a2) (qm_g_frames σ) a4) (qm_g_frames σ) a9) (qm_g_frames σ) a6) ((qm_g_frames σ) + (1 : Int32))) (qm_g_mostFrames σ)) a7 a9).2)
              else some ((qm_goesTo (qm_s_mostFrames (qm_s_frames (qm_t_frameBase (qm_t_frameAround (qm_t_frameOther (qm_t_frameOne (qm_t_frameKind σ (qm_g_frames σ) a1) (qm_g_frames σ) a2) (qm_g_frames σ) a4) (qm_g_frames σ) a9) (qm_g_frames σ) a6) ((qm_g_frames σ) + (1 : Int32))) ((qm_g_frames σ) + (1 : Int32))) a7 a9).1, (qm_goesTo (qm_s_mostFrames (qm_s_frames (qm_t_frameBase (qm_t_frameAround (qm_t_frameOther (qm_t_frameOne (qm_t_frameKind σ (qm_g_frames σ) a1) (qm_g_frames σ) a2) (qm_g_frames σ) a4) (qm_g_frames σ) a9) (qm_g_frames σ) a6) ((qm_g_frames σ) + (1 : Int32))) ((qm_g_frames σ) + (1 : Int32))) a7 a9).2)
            else none
          else none
        else none
      else none
    else none
def qm_evaluatesOne (N : Nat) (σ : qm_S)  : Option (Int32 × qm_S) :=
  if (qm_g_steps σ) = (qm_g_limit σ) then some ((-10 : Int32), σ)
  else if (qm_kindOf (qm_g_now σ)) = (4 : Int32) then ((qm_cdrOf (qm_s_steps σ ((qm_g_steps σ) + (1 : Int32))) (qm_g_now σ))).bind fun r7 =>
        ((qm_carOf (qm_s_steps σ ((qm_g_steps σ) + (1 : Int32))) (qm_g_now σ))).bind fun r9 =>
          ((qm_goesWith (qm_s_steps σ ((qm_g_steps σ) + (1 : Int32))) (0 : Int32) r7 (0 : Int64) (0 : Int32) r9 (qm_g_around σ))).bind fun r11 =>
            some (r11.1, r11.2)
    else if (qm_kindOf (qm_g_now σ)) = (2 : Int32) then ((qm_finds N (qm_s_steps σ ((qm_g_steps σ) + (1 : Int32))) (qm_g_around σ) (qm_indexOf (qm_s_steps σ ((qm_g_steps σ) + (1 : Int32))) (qm_g_now σ)))).bind fun r4 =>
          if r4.1 = (0 : Int32) then some ((-6 : Int32), r4.2)
          else some ((qm_gives r4.2 (qm_g_found r4.2)).1, (qm_gives r4.2 (qm_g_found r4.2)).2)
      else some ((qm_gives (qm_s_steps σ ((qm_g_steps σ) + (1 : Int32))) (qm_g_now σ)).1, (qm_gives (qm_s_steps σ ((qm_g_steps σ) + (1 : Int32))) (qm_g_now σ)).2)
def qm_combines (σ : qm_S) (a1 : Int64) (a3 : Int64) (a5 : Int64) : Int32 × qm_S :=
  ((0 : Int32), (qm_s_around (qm_s_operands (qm_s_now (qm_s_mode σ (1 : Int32)) a1) a3) a5))
def qm_goesOn_L42 (N : Nat) : Nat → qm_S → Int64 → Int64 → Int32 → Int64 → Int32 → Option (Int32 × qm_S)
  | 0 => fun _ _ _ _ _ _ => none
  | k + 1 => fun σ x1 x5 x7 x8 x10 =>
    if x10 < x7 then ((qm_underOf (qm_s_resultMany σ x7) x1)).bind fun r9 =>
        some ((qm_combines (qm_s_resultMany σ x7) r9 x8 x5).1, (qm_combines (qm_s_resultMany σ x7) r9 x8 x5).2)
    else if (qm_isFull σ) = (0 : Int32) then if inb x10 1501 = true then ((qm_adds σ (4 : Int32) (qm_g_results σ (Int32.toNatClampNeg x10)) x8)).bind fun r13 =>
            (qm_goesOn_L42 N k r13.2 x1 x5 x7 r13.1 (x10 - (1 : Int32)))
        else none
      else some ((-5 : Int32), σ)
def qm_goesOn (N : Nat) (σ : qm_S) (a1 : Int64) (a3 : Int64) (a5 : Int64) (a7 : Int32) : Option (Int32 × qm_S) :=
  if (qm_kindOf a3) = (4 : Int32) then ((qm_cdrOf σ a3)).bind fun r2 =>
      ((qm_carOf σ a3)).bind fun r4 =>
        ((qm_goesWith σ (1 : Int32) a1 r2 a7 r4 a5)).bind fun r6 =>
          some (r6.1, r6.2)
  else (qm_goesOn_L42 N N σ a1 a5 a7 (3 : Int64) ((qm_g_resultMany σ) - (1 : Int32)))
def qm_beginsWith (σ : qm_S) (a1 : Int64) (a3 : Int64) : Option (Int32 × qm_S) :=
  if (qm_kindOf a1) = (3 : Int32) then some ((qm_gives σ (8 : Int64)).1, (qm_gives σ (8 : Int64)).2)
  else ((qm_cdrOf σ a1)).bind fun r2 =>
      if (qm_kindOf r2) = (3 : Int32) then ((qm_carOf σ a1)).bind fun r11 =>
          some ((qm_goesTo σ r11 a3).1, (qm_goesTo σ r11 a3).2)
      else ((qm_cdrOf σ a1)).bind fun r5 =>
          ((qm_carOf σ a1)).bind fun r7 =>
            ((qm_goesWith σ (6 : Int32) r5 (0 : Int64) (0 : Int32) r7 a3)).bind fun r9 =>
              some (r9.1, r9.2)
def qm_givesBound (N : Nat) (σ : qm_S) (a1 : Int64) (a3 : Int32) (a4 : Int64) : Option (Int32 × qm_S) :=
  ((qm_binds N σ a1 a3 a4)).bind fun r1 =>
    if r1.1 = (0 : Int32) then some ((-5 : Int32), r1.2)
    else some ((qm_gives r1.2 (8 : Int64)).1, (qm_gives r1.2 (8 : Int64)).2)
def qm_takesResult (N : Nat) (σ : qm_S)  : Option (Int32 × qm_S) :=
  if inb ((qm_g_frames σ) - (1 : Int32)) 300 = true then if inb ((qm_g_frames σ) - (1 : Int32)) 300 = true then if inb ((qm_g_frames σ) - (1 : Int32)) 300 = true then if inb ((qm_g_frames σ) - (1 : Int32)) 300 = true then if inb ((qm_g_frames σ) - (1 : Int32)) 300 = true then if (qm_g_frameKind σ (Int32.toNatClampNeg ((qm_g_frames σ) - (1 : Int32)))) = (0 : Int32) then some ((qm_combines (qm_s_frames σ ((qm_g_frames σ) - (1 : Int32))) (qm_g_now σ) (qm_g_frameOne σ (Int32.toNatClampNeg ((qm_g_frames σ) - (1 : Int32)))) (qm_g_frameAround σ (Int32.toNatClampNeg ((qm_g_frames σ) - (1 : Int32))))).1, (qm_combines (qm_s_frames σ ((qm_g_frames σ) - (1 : Int32))) (qm_g_now σ) (qm_g_frameOne σ (Int32.toNatClampNeg ((qm_g_frames σ) - (1 : Int32)))) (qm_g_frameAround σ (Int32.toNatClampNeg ((qm_g_frames σ) - (1 : Int32))))).2)
            else if (qm_g_frameKind σ (Int32.toNatClampNeg ((qm_g_frames σ) - (1 : Int32)))) = (1 : Int32) then if inb (qm_g_resultMany σ) 1501 = true then ((qm_goesOn N (qm_s_resultMany (qm_t_results (qm_s_frames σ ((qm_g_frames σ) - (1 : Int32))) (qm_g_resultMany σ) (qm_g_now σ)) ((qm_g_resultMany σ) + (1 : Int32))) (qm_g_frameOne σ (Int32.toNatClampNeg ((qm_g_frames σ) - (1 : Int32)))) (qm_g_frameOther σ (Int32.toNatClampNeg ((qm_g_frames σ) - (1 : Int32)))) (qm_g_frameAround σ (Int32.toNatClampNeg ((qm_g_frames σ) - (1 : Int32)))) (qm_g_frameBase σ (Int32.toNatClampNeg ((qm_g_frames σ) - (1 : Int32)))))).bind fun r9 =>
                    some (r9.1, r9.2)
                else none
              else if (qm_g_frameKind σ (Int32.toNatClampNeg ((qm_g_frames σ) - (1 : Int32)))) = (2 : Int32) then if (qm_kindOf (qm_g_now σ)) = (1 : Int32) then if (qm_whatOf (qm_g_now σ)) = (1 : Int64) then some ((qm_goesTo (qm_s_frames σ ((qm_g_frames σ) - (1 : Int32))) (qm_g_frameOne σ (Int32.toNatClampNeg ((qm_g_frames σ) - (1 : Int32)))) (qm_g_frameAround σ (Int32.toNatClampNeg ((qm_g_frames σ) - (1 : Int32))))).1, (qm_goesTo (qm_s_frames σ ((qm_g_frames σ) - (1 : Int32))) (qm_g_frameOne σ (Int32.toNatClampNeg ((qm_g_frames σ) - (1 : Int32)))) (qm_g_frameAround σ (Int32.toNatClampNeg ((qm_g_frames σ) - (1 : Int32))))).2)
                    else some ((qm_goesTo (qm_s_frames σ ((qm_g_frames σ) - (1 : Int32))) (qm_g_frameOther σ (Int32.toNatClampNeg ((qm_g_frames σ) - (1 : Int32)))) (qm_g_frameAround σ (Int32.toNatClampNeg ((qm_g_frames σ) - (1 : Int32))))).1, (qm_goesTo (qm_s_frames σ ((qm_g_frames σ) - (1 : Int32))) (qm_g_frameOther σ (Int32.toNatClampNeg ((qm_g_frames σ) - (1 : Int32)))) (qm_g_frameAround σ (Int32.toNatClampNeg ((qm_g_frames σ) - (1 : Int32))))).2)
                  else some ((-8 : Int32), (qm_s_frames σ ((qm_g_frames σ) - (1 : Int32))))
                else if (qm_g_frameKind σ (Int32.toNatClampNeg ((qm_g_frames σ) - (1 : Int32)))) = (3 : Int32) then ((qm_givesBound N (qm_s_frames σ ((qm_g_frames σ) - (1 : Int32))) (qm_g_frameAround σ (Int32.toNatClampNeg ((qm_g_frames σ) - (1 : Int32)))) (qm_g_frameBase σ (Int32.toNatClampNeg ((qm_g_frames σ) - (1 : Int32)))) (qm_g_now σ))).bind fun r15 =>
                      some (r15.1, r15.2)
                  else if (qm_g_frameKind σ (Int32.toNatClampNeg ((qm_g_frames σ) - (1 : Int32)))) = (4 : Int32) then if (qm_kindOf (qm_g_now σ)) = (7 : Int32) then ((qm_goesWith (qm_s_frames σ ((qm_g_frames σ) - (1 : Int32))) (5 : Int32) (qm_g_now σ) (0 : Int64) (qm_g_frameBase σ (Int32.toNatClampNeg ((qm_g_frames σ) - (1 : Int32)))) (qm_g_frameOne σ (Int32.toNatClampNeg ((qm_g_frames σ) - (1 : Int32)))) (qm_g_frameAround σ (Int32.toNatClampNeg ((qm_g_frames σ) - (1 : Int32)))))).bind fun r19 =>
                          some (r19.1, r19.2)
                      else some ((-8 : Int32), (qm_s_frames σ ((qm_g_frames σ) - (1 : Int32))))
                    else if (qm_g_frameKind σ (Int32.toNatClampNeg ((qm_g_frames σ) - (1 : Int32)))) = (5 : Int32) then ((qm_givesBound N (qm_s_frames σ ((qm_g_frames σ) - (1 : Int32))) (qm_g_frameOne σ (Int32.toNatClampNeg ((qm_g_frames σ) - (1 : Int32)))) (qm_g_frameBase σ (Int32.toNatClampNeg ((qm_g_frames σ) - (1 : Int32)))) (qm_g_now σ))).bind fun r22 =>
                          some (r22.1, r22.2)
                      else ((qm_beginsWith (qm_s_frames σ ((qm_g_frames σ) - (1 : Int32))) (qm_g_frameOne σ (Int32.toNatClampNeg ((qm_g_frames σ) - (1 : Int32)))) (qm_g_frameAround σ (Int32.toNatClampNeg ((qm_g_frames σ) - (1 : Int32)))))).bind fun r24 =>
                          some (r24.1, r24.2)
          else none
        else none
      else none
    else none
  else none
def qm_isTree_L33 (N : Nat) : Nat → qm_S → Int32 → Int32 → Option (Int32 × qm_S)
  | 0 => fun _ _ _ => none
  | k + 1 => fun σ x3 x4 =>
    if x3 ≤ (0 : Int32) then some ((1 : Int32), σ)
    else if inb (x3 - (1 : Int32)) 204 = true then if (qm_kindOf (qm_g_treeLeft σ (Int32.toNatClampNeg (x3 - (1 : Int32))))) = (4 : Int32) then if (x4 + (1 : Int32)) ≤ (100 : Int32) then ((qm_cdrOf σ (qm_g_treeLeft σ (Int32.toNatClampNeg (x3 - (1 : Int32)))))).bind fun r13 =>
              if inb (x3 - (1 : Int32)) 204 = true then ((qm_carOf (qm_t_treeLeft σ (x3 - (1 : Int32)) r13) (qm_g_treeLeft σ (Int32.toNatClampNeg (x3 - (1 : Int32)))))).bind fun r16 =>
                  if inb ((x3 - (1 : Int32)) + (1 : Int32)) 204 = true then (qm_isTree_L33 N k (qm_t_treeLeft (qm_t_treeLeft σ (x3 - (1 : Int32)) r13) ((x3 - (1 : Int32)) + (1 : Int32)) r16) ((x3 - (1 : Int32)) + (2 : Int32)) (x4 + (1 : Int32)))
                  else none
              else none
          else some ((0 : Int32), σ)
        else if (qm_kindOf (qm_g_treeLeft σ (Int32.toNatClampNeg (x3 - (1 : Int32))))) = (2 : Int32) then if inb (qm_indexOf σ (qm_g_treeLeft σ (Int32.toNatClampNeg (x3 - (1 : Int32))))) 100 = true then if (qm_g_isSeen σ (Int32.toNatClampNeg (qm_indexOf σ (qm_g_treeLeft σ (Int32.toNatClampNeg (x3 - (1 : Int32))))))) = (0 : Int32) then if inb (qm_indexOf σ (qm_g_treeLeft σ (Int32.toNatClampNeg (x3 - (1 : Int32))))) 100 = true then (qm_isTree_L33 N k (qm_t_isSeen σ (qm_indexOf σ (qm_g_treeLeft σ (Int32.toNatClampNeg (x3 - (1 : Int32))))) (1 : Int32)) (x3 - (1 : Int32)) x4)
                else none
              else some ((0 : Int32), σ)
            else none
          else if (qm_kindOf (qm_g_treeLeft σ (Int32.toNatClampNeg (x3 - (1 : Int32))))) = (3 : Int32) then (qm_isTree_L33 N k σ (x3 - (1 : Int32)) x4)
            else if (qm_kindOf (qm_g_treeLeft σ (Int32.toNatClampNeg (x3 - (1 : Int32))))) = (8 : Int32) then (qm_isTree_L33 N k σ (x3 - (1 : Int32)) x4)
              else some ((0 : Int32), σ)
      else none
def qm_isTree_L2 (N : Nat) : Nat → qm_S → Int64 → Int32 → Option (Int32 × qm_S)
  | 0 => fun _ _ _ => none
  | k + 1 => fun σ x1 x3 =>
    if (100 : Int32) ≤ x3 then (qm_isTree_L33 N N (qm_t_treeLeft σ (0 : Int32) x1) (1 : Int32) (0 : Int32))
    else if inb x3 100 = true then (qm_isTree_L2 N k (qm_t_isSeen σ x3 (0 : Int32)) x1 (x3 + (1 : Int32)))
      else none
def qm_isTree (N : Nat) (σ : qm_S) (a1 : Int64) : Option (Int32 × qm_S) :=
  (qm_isTree_L2 N N σ a1 (0 : Int32))
def qm_matches_L22 (N : Nat) : Nat → qm_S → Int32 → Option (Int32 × qm_S)
  | 0 => fun _ _ => none
  | k + 1 => fun σ x5 =>
    if x5 ≤ (0 : Int32) then some ((1 : Int32), σ)
    else if inb (x5 - (1 : Int32)) 204 = true then if inb (x5 - (1 : Int32)) 204 = true then if (qm_kindOf (qm_g_treeLeft σ (Int32.toNatClampNeg (x5 - (1 : Int32))))) = (2 : Int32) then if inb (qm_g_bound σ) 102 = true then if inb (qm_g_bound σ) 102 = true then (qm_matches_L22 N k (qm_s_bound (qm_t_boundValue (qm_t_boundSymbol σ (qm_g_bound σ) (qm_indexOf σ (qm_g_treeLeft σ (Int32.toNatClampNeg (x5 - (1 : Int32)))))) (qm_g_bound σ) (qm_g_matchLeft σ (Int32.toNatClampNeg (x5 - (1 : Int32))))) ((qm_g_bound σ) + (1 : Int32))) (x5 - (1 : Int32)))
              else none
            else none
          else if (qm_kindOf (qm_g_treeLeft σ (Int32.toNatClampNeg (x5 - (1 : Int32))))) = (8 : Int32) then if (qm_kindOf (qm_g_treeLeft σ (Int32.toNatClampNeg (x5 - (1 : Int32))))) = (4 : Int32) then ((qm_cdrOf σ (qm_g_treeLeft σ (Int32.toNatClampNeg (x5 - (1 : Int32)))))).bind fun r7 =>
                  if inb (x5 - (1 : Int32)) 204 = true then ((qm_cdrOf (qm_t_treeLeft σ (x5 - (1 : Int32)) r7) (qm_g_matchLeft σ (Int32.toNatClampNeg (x5 - (1 : Int32)))))).bind fun r10 =>
                      if inb (x5 - (1 : Int32)) 204 = true then ((qm_carOf (qm_t_matchLeft (qm_t_treeLeft σ (x5 - (1 : Int32)) r7) (x5 - (1 : Int32)) r10) (qm_g_treeLeft σ (Int32.toNatClampNeg (x5 - (1 : Int32)))))).bind fun r13 =>
                          if inb ((x5 - (1 : Int32)) + (1 : Int32)) 204 = true then ((qm_carOf (qm_t_treeLeft (qm_t_matchLeft (qm_t_treeLeft σ (x5 - (1 : Int32)) r7) (x5 - (1 : Int32)) r10) ((x5 - (1 : Int32)) + (1 : Int32)) r13) (qm_g_matchLeft σ (Int32.toNatClampNeg (x5 - (1 : Int32)))))).bind fun r16 =>
                              if inb ((x5 - (1 : Int32)) + (1 : Int32)) 204 = true then (qm_matches_L22 N k (qm_t_matchLeft (qm_t_treeLeft (qm_t_matchLeft (qm_t_treeLeft σ (x5 - (1 : Int32)) r7) (x5 - (1 : Int32)) r10) ((x5 - (1 : Int32)) + (1 : Int32)) r13) ((x5 - (1 : Int32)) + (1 : Int32)) r16) ((x5 - (1 : Int32)) + (2 : Int32)))
                              else none
                          else none
                      else none
                  else none
              else (qm_matches_L22 N k σ (x5 - (1 : Int32)))
            else if (qm_kindOf (qm_g_treeLeft σ (Int32.toNatClampNeg (x5 - (1 : Int32))))) = (qm_kindOf (qm_g_matchLeft σ (Int32.toNatClampNeg (x5 - (1 : Int32))))) then if (qm_kindOf (qm_g_treeLeft σ (Int32.toNatClampNeg (x5 - (1 : Int32))))) = (4 : Int32) then ((qm_cdrOf σ (qm_g_treeLeft σ (Int32.toNatClampNeg (x5 - (1 : Int32)))))).bind fun r21 =>
                    if inb (x5 - (1 : Int32)) 204 = true then ((qm_cdrOf (qm_t_treeLeft σ (x5 - (1 : Int32)) r21) (qm_g_matchLeft σ (Int32.toNatClampNeg (x5 - (1 : Int32)))))).bind fun r24 =>
                        if inb (x5 - (1 : Int32)) 204 = true then ((qm_carOf (qm_t_matchLeft (qm_t_treeLeft σ (x5 - (1 : Int32)) r21) (x5 - (1 : Int32)) r24) (qm_g_treeLeft σ (Int32.toNatClampNeg (x5 - (1 : Int32)))))).bind fun r27 =>
                            if inb ((x5 - (1 : Int32)) + (1 : Int32)) 204 = true then ((qm_carOf (qm_t_treeLeft (qm_t_matchLeft (qm_t_treeLeft σ (x5 - (1 : Int32)) r21) (x5 - (1 : Int32)) r24) ((x5 - (1 : Int32)) + (1 : Int32)) r27) (qm_g_matchLeft σ (Int32.toNatClampNeg (x5 - (1 : Int32)))))).bind fun r30 =>
                                if inb ((x5 - (1 : Int32)) + (1 : Int32)) 204 = true then (qm_matches_L22 N k (qm_t_matchLeft (qm_t_treeLeft (qm_t_matchLeft (qm_t_treeLeft σ (x5 - (1 : Int32)) r21) (x5 - (1 : Int32)) r24) ((x5 - (1 : Int32)) + (1 : Int32)) r27) ((x5 - (1 : Int32)) + (1 : Int32)) r30) ((x5 - (1 : Int32)) + (2 : Int32)))
                                else none
                            else none
                        else none
                    else none
                else (qm_matches_L22 N k σ (x5 - (1 : Int32)))
              else some ((0 : Int32), σ)
        else none
      else none
def qm_matches (N : Nat) (σ : qm_S) (a1 : Int64) (a3 : Int64) : Option (Int32 × qm_S) :=
  (qm_matches_L22 N N (qm_s_bound (qm_t_matchLeft (qm_t_treeLeft σ (0 : Int32) a1) (0 : Int32) a3) (0 : Int32)) (1 : Int32))
def qm_combinesCompound_L61 (N : Nat) : Nat → qm_S → Int32 → Int64 → Int64 → Int32 → Option (Int32 × qm_S)
  | 0 => fun _ _ _ _ _ => none
  | k + 1 => fun σ x1 x2 x4 x6 =>
    if (qm_g_bound σ) ≤ x6 then if (qm_kindOf x2) = (2 : Int32) then ((qm_binds N σ x4 (qm_indexOf σ x2) (qm_g_around σ))).bind fun r13 =>
          if r13.1 = (0 : Int32) then some ((-5 : Int32), r13.2)
          else if inb x1 4000 = true then some ((qm_goesTo r13.2 (qm_g_third r13.2 (Int32.toNatClampNeg x1)) x4).1, (qm_goesTo r13.2 (qm_g_third r13.2 (Int32.toNatClampNeg x1)) x4).2)
            else none
      else if inb x1 4000 = true then some ((qm_goesTo σ (qm_g_third σ (Int32.toNatClampNeg x1)) x4).1, (qm_goesTo σ (qm_g_third σ (Int32.toNatClampNeg x1)) x4).2)
        else none
    else if inb x6 102 = true then if inb x6 102 = true then ((qm_binds N σ x4 (qm_g_boundSymbol σ (Int32.toNatClampNeg x6)) (qm_g_boundValue σ (Int32.toNatClampNeg x6)))).bind fun r19 =>
            if r19.1 = (0 : Int32) then some ((-5 : Int32), r19.2)
            else (qm_combinesCompound_L61 N k r19.2 x1 x2 x4 (x6 + (1 : Int32)))
        else none
      else none
def qm_combinesCompound (N : Nat) (σ : qm_S)  : Option (Int32 × qm_S) :=
  if inb (qm_indexOf σ (qm_g_now σ)) 4000 = true then if inb (qm_indexOf σ (qm_g_now σ)) 4000 = true then ((qm_matches N σ (qm_g_first σ (Int32.toNatClampNeg (qm_indexOf σ (qm_g_now σ)))) (qm_g_operands σ))).bind fun r3 =>
        if r3.1 = (0 : Int32) then some ((-8 : Int32), r3.2)
        else if (qm_isFull r3.2) = (0 : Int32) then if inb (qm_indexOf σ (qm_g_now σ)) 4000 = true then ((qm_addsEnvironment r3.2 (qm_g_fourth r3.2 (Int32.toNatClampNeg (qm_indexOf σ (qm_g_now σ)))))).bind fun r8 =>
                (qm_combinesCompound_L61 N N r8.2 (qm_indexOf σ (qm_g_now σ)) (qm_g_second σ (Int32.toNatClampNeg (qm_indexOf σ (qm_g_now σ)))) r8.1 (0 : Int32))
            else none
          else some ((-5 : Int32), r3.2)
    else none
  else none
def qm_makesOperative_B41 (N : Nat) (σ : qm_S) (x1 : Int64) (x3 : Int64) (x5 : Int64) (x7 : Int32) : Option (Int32 × qm_S) :=
  if (qm_isFull σ) = (0 : Int32) then if inb (qm_g_objects σ) 4000 = true then if inb (qm_g_objects σ) 4000 = true then ((qm_adds (qm_t_fourth (qm_t_third σ (qm_g_objects σ) x5) (qm_g_objects σ) (qm_g_around σ)) (5 : Int32) x1 x3)).bind fun r11 =>
          if x7 = (0 : Int32) then if x7 = (0 : Int32) then some ((qm_gives r11.2 r11.1).1, (qm_gives r11.2 r11.1).2)
            else ((qm_adds r11.2 (6 : Int32) r11.1 (0 : Int64))).bind fun r15 =>
                some ((qm_gives r15.2 r15.1).1, (qm_gives r15.2 r15.1).2)
          else if (qm_isFull r11.2) = (0 : Int32) then if x7 = (0 : Int32) then some ((qm_gives r11.2 r11.1).1, (qm_gives r11.2 r11.1).2)
              else ((qm_adds r11.2 (6 : Int32) r11.1 (0 : Int64))).bind fun r19 =>
                  some ((qm_gives r19.2 r19.1).1, (qm_gives r19.2 r19.1).2)
            else some ((-5 : Int32), r11.2)
      else none
    else none
  else some ((-5 : Int32), σ)
def qm_makesOperative (N : Nat) (σ : qm_S) (a1 : Int64) (a3 : Int64) (a5 : Int64) (a7 : Int32) : Option (Int32 × qm_S) :=
  ((qm_isTree N σ a1)).bind fun r1 =>
    if r1.1 = (0 : Int32) then some ((-8 : Int32), r1.2)
    else if (qm_kindOf a3) = (8 : Int32) then (qm_makesOperative_B41 N r1.2 a1 a3 a5 a7)
      else if (qm_kindOf a3) = (2 : Int32) then if inb (qm_indexOf r1.2 a3) 100 = true then if (qm_g_isSeen r1.2 (Int32.toNatClampNeg (qm_indexOf r1.2 a3))) = (0 : Int32) then (qm_makesOperative_B41 N r1.2 a1 a3 a5 a7)
            else some ((-8 : Int32), r1.2)
          else none
        else some ((-8 : Int32), r1.2)
def qm_isSymbol (a0 : Int64) : Int32 :=
  if (qm_kindOf a0) = (2 : Int32) then (1 : Int32)
  else (0 : Int32)
def qm_combinesPart_B56 (N : Nat) (σ : qm_S) (x1 : Int32) (x2 : Int32) (x3 : Int64) (x5 : Int64) (y0 : Int64) : Option (Int32 × qm_S) :=
  if x1 = (0 : Int32) then if x2 = (3 : Int32) then ((qm_goesWith σ (2 : Int32) x5 y0 (0 : Int32) x3 (qm_g_around σ))).bind fun r12 =>
        some (r12.1, r12.2)
    else some ((-8 : Int32), σ)
  else if x1 = (1 : Int32) then if x2 = (3 : Int32) then ((qm_makesOperative N σ x3 x5 y0 (0 : Int32))).bind fun r16 =>
          some (r16.1, r16.2)
      else some ((-8 : Int32), σ)
    else if x1 = (2 : Int32) then if x2 = (2 : Int32) then ((qm_makesOperative N σ x3 (8 : Int64) x5 (1 : Int32))).bind fun r20 =>
            some (r20.1, r20.2)
        else some ((-8 : Int32), σ)
      else if x1 = (3 : Int32) then if x2 = (2 : Int32) then if (qm_isSymbol x3) = (0 : Int32) then some ((-8 : Int32), σ)
            else ((qm_goesWith σ (3 : Int32) (0 : Int64) (0 : Int64) (qm_indexOf σ x3) x5 (qm_g_around σ))).bind fun r25 =>
                some (r25.1, r25.2)
          else some ((-8 : Int32), σ)
        else if x1 = (4 : Int32) then if x2 = (3 : Int32) then if (qm_isSymbol x5) = (0 : Int32) then some ((-8 : Int32), σ)
              else ((qm_goesWith σ (4 : Int32) y0 (0 : Int64) (qm_indexOf σ x5) x3 (qm_g_around σ))).bind fun r30 =>
                  some (r30.1, r30.2)
            else some ((-8 : Int32), σ)
          else if x1 = (5 : Int32) then ((qm_beginsWith σ (qm_g_operands σ) (qm_g_around σ))).bind fun r33 =>
                some (r33.1, r33.2)
            else if x1 = (6 : Int32) then if x2 = (1 : Int32) then some ((qm_gives σ x3).1, (qm_gives σ x3).2)
                else some ((-8 : Int32), σ)
              else if x2 = (0 : Int32) then some ((qm_gives σ (qm_g_around σ)).1, (qm_gives σ (qm_g_around σ)).2)
                else some ((-8 : Int32), σ)
def qm_combinesPart_B36 (N : Nat) (σ : qm_S) (x1 : Int32) (x2 : Int32) (x3 : Int64) (y0 : Int64) : Option (Int32 × qm_S) :=
  if x2 ≤ (2 : Int32) then (qm_combinesPart_B56 N σ x1 x2 x3 y0 (0 : Int64))
  else ((qm_elementOf N σ (qm_g_operands σ) (2 : Int32))).bind fun r8 =>
      (qm_combinesPart_B56 N σ x1 x2 x3 y0 r8)
def qm_combinesPart_B17 (N : Nat) (σ : qm_S) (x1 : Int32) (x2 : Int32) (y0 : Int64) : Option (Int32 × qm_S) :=
  if x2 ≤ (1 : Int32) then (qm_combinesPart_B36 N σ x1 x2 y0 (0 : Int64))
  else ((qm_elementOf N σ (qm_g_operands σ) (1 : Int32))).bind fun r5 =>
      (qm_combinesPart_B36 N σ x1 x2 y0 r5)
def qm_combinesPart (N : Nat) (σ : qm_S) (a1 : Int32) (a2 : Int32) : Option (Int32 × qm_S) :=
  if a2 ≤ (0 : Int32) then (qm_combinesPart_B17 N σ a1 a2 (0 : Int64))
  else ((qm_elementOf N σ (qm_g_operands σ) (0 : Int32))).bind fun r2 =>
      (qm_combinesPart_B17 N σ a1 a2 r2)
def qm_isIn (a0 : Int64) : Int32 :=
  (bz (qm_within a0 (-1000000000000000 : Int64) (1000000000000000 : Int64)))
def qm_times_B26 (x0 : Int64) (x2 : Int64) (x4 : Int64) (y0 : Int64) : Int64 :=
  if (0 : Int64) < y0 then if ((1000000000000000 : Int64) / y0) < x4 then (1000000000000001 : Int64)
    else (x0 * x2)
  else (x0 * x2)
def qm_times_B12 (x0 : Int64) (x2 : Int64) (y0 : Int64) : Int64 :=
  if x2 < (0 : Int64) then (qm_times_B26 x0 x2 y0 (- x2))
  else (qm_times_B26 x0 x2 y0 x2)
def qm_times (a0 : Int64) (a2 : Int64) : Int64 :=
  if a0 < (0 : Int64) then (qm_times_B12 a0 a2 (- a0))
  else (qm_times_B12 a0 a2 a0)
def qm_reckons_L52 (N : Nat) : Nat → qm_S → Int32 → Int64 → Int64 → Option (Int32 × qm_S)
  | 0 => fun _ _ _ _ => none
  | k + 1 => fun σ x1 x2 x4 =>
    if (qm_kindOf x2) = (4 : Int32) then ((qm_carOf σ x2)).bind fun r9 =>
        if x1 = (0 : Int32) then if (qm_isIn (qm_times x4 (qm_whatOf r9))) = (0 : Int32) then some ((-9 : Int32), σ)
          else ((qm_cdrOf σ x2)).bind fun r13 =>
              (qm_reckons_L52 N k σ x1 r13 (qm_times x4 (qm_whatOf r9)))
        else if (qm_isIn (x4 + (qm_whatOf r9))) = (0 : Int32) then some ((-9 : Int32), σ)
          else ((qm_cdrOf σ x2)).bind fun r16 =>
              (qm_reckons_L52 N k σ x1 r16 (x4 + (qm_whatOf r9)))
    else some ((qm_gives σ (qm_made (0 : Int32) x4)).1, (qm_gives σ (qm_made (0 : Int32) x4)).2)
def qm_reckons_L5 (N : Nat) : Nat → qm_S → Int32 → Int64 → Option (Int32 × qm_S)
  | 0 => fun _ _ _ => none
  | k + 1 => fun σ x1 x2 =>
    if (qm_kindOf x2) = (4 : Int32) then ((qm_carOf σ x2)).bind fun r3 =>
        if (qm_kindOf r3) = (0 : Int32) then ((qm_cdrOf σ x2)).bind fun r6 =>
            (qm_reckons_L5 N k σ x1 r6)
        else some ((-8 : Int32), σ)
    else if x1 = (0 : Int32) then (qm_reckons_L52 N N σ x1 (qm_g_operands σ) (1 : Int64))
      else (qm_reckons_L52 N N σ x1 (qm_g_operands σ) (0 : Int64))
def qm_reckons (N : Nat) (σ : qm_S) (a1 : Int32) : Option (Int32 × qm_S) :=
  (qm_reckons_L5 N N σ a1 (qm_g_operands σ))
def qm_creates (σ : qm_S) (a1 : Int32) (a2 : Int64) (a4 : Int64) : Option (Int32 × qm_S) :=
  if (qm_isFull σ) = (0 : Int32) then ((qm_adds σ a1 a2 a4)).bind fun r2 =>
      some ((qm_gives r2.2 r2.1).1, (qm_gives r2.2 r2.1).2)
  else some ((-5 : Int32), σ)
def qm_combinesTwo_B41 (σ : qm_S) (x1 : Int32) (x2 : Int64) (x4 : Int64) (x6 : Int32) (y0 : Int64) : Option (Int32 × qm_S) :=
  if x1 = (12 : Int32) then if x6 = (0 : Int32) then some ((-8 : Int32), σ)
    else if (qm_isIn y0) = (0 : Int32) then some ((-9 : Int32), σ)
      else some ((qm_gives σ (qm_made (0 : Int32) y0)).1, (qm_gives σ (qm_made (0 : Int32) y0)).2)
  else if x1 = (13 : Int32) then if x6 = (0 : Int32) then some ((-8 : Int32), σ)
      else if y0 < (0 : Int64) then some ((qm_gives σ (qm_truth (1 : Int32))).1, (qm_gives σ (qm_truth (1 : Int32))).2)
        else some ((qm_gives σ (qm_truth (0 : Int32))).1, (qm_gives σ (qm_truth (0 : Int32))).2)
    else if x1 = (14 : Int32) then if x2 = x4 then some ((qm_gives σ (qm_truth (1 : Int32))).1, (qm_gives σ (qm_truth (1 : Int32))).2)
        else some ((qm_gives σ (qm_truth (0 : Int32))).1, (qm_gives σ (qm_truth (0 : Int32))).2)
      else if x1 = (15 : Int32) then ((qm_creates σ (4 : Int32) x2 x4)).bind fun r13 =>
            some (r13.1, r13.2)
        else if x1 = (16 : Int32) then if (qm_kindOf x2) = (6 : Int32) then if (qm_isFull σ) = (0 : Int32) then ((qm_underOf σ x2)).bind fun r18 =>
                  ((qm_addsEnvironment σ (-1 : Int64))).bind fun r20 =>
                    some ((qm_combines r20.2 r18 x4 r20.1).1, (qm_combines r20.2 r18 x4 r20.1).2)
              else some ((-5 : Int32), σ)
            else some ((-8 : Int32), σ)
          else if x1 = (17 : Int32) then if (qm_kindOf x2) = (6 : Int32) then if (qm_isFull σ) = (0 : Int32) then ((qm_underOf σ x2)).bind fun r25 =>
                    ((qm_addsEnvironment σ (-1 : Int64))).bind fun r27 =>
                      some ((qm_combines r27.2 r25 x4 r27.1).1, (qm_combines r27.2 r25 x4 r27.1).2)
                else some ((-5 : Int32), σ)
              else some ((-8 : Int32), σ)
            else if x1 = (18 : Int32) then if (qm_kindOf x2) = (6 : Int32) then if (qm_isFull σ) = (0 : Int32) then ((qm_underOf σ x2)).bind fun r32 =>
                      ((qm_addsEnvironment σ (-1 : Int64))).bind fun r34 =>
                        some ((qm_combines r34.2 r32 x4 r34.1).1, (qm_combines r34.2 r32 x4 r34.1).2)
                  else some ((-5 : Int32), σ)
                else some ((-8 : Int32), σ)
              else if x1 = (19 : Int32) then if (qm_kindOf x2) = (6 : Int32) then if (qm_isFull σ) = (0 : Int32) then ((qm_underOf σ x2)).bind fun r39 =>
                        ((qm_addsEnvironment σ (-1 : Int64))).bind fun r41 =>
                          some ((qm_combines r41.2 r39 x4 r41.1).1, (qm_combines r41.2 r39 x4 r41.1).2)
                    else some ((-5 : Int32), σ)
                  else some ((-8 : Int32), σ)
                else if x1 = (20 : Int32) then if (qm_kindOf x4) = (7 : Int32) then some ((qm_goesTo σ x2 x4).1, (qm_goesTo σ x2 x4).2)
                    else some ((-8 : Int32), σ)
                  else if (qm_kindOf x2) = (6 : Int32) then if (qm_isFull σ) = (0 : Int32) then ((qm_underOf σ x2)).bind fun r47 =>
                          ((qm_addsEnvironment σ (-1 : Int64))).bind fun r49 =>
                            some ((qm_combines r49.2 r47 x4 r49.1).1, (qm_combines r49.2 r47 x4 r49.1).2)
                      else some ((-5 : Int32), σ)
                    else some ((-8 : Int32), σ)
def qm_combinesTwo_B20 (σ : qm_S) (x1 : Int32) (x2 : Int64) (x4 : Int64) (y0 : Int32) : Option (Int32 × qm_S) :=
  if y0 = (0 : Int32) then (qm_combinesTwo_B41 σ x1 x2 x4 y0 (0 : Int64))
  else (qm_combinesTwo_B41 σ x1 x2 x4 y0 ((qm_whatOf x2) - (qm_whatOf x4)))
def qm_combinesTwo (σ : qm_S) (a1 : Int32) (a2 : Int64) (a4 : Int64) : Option (Int32 × qm_S) :=
  if (qm_kindOf a2) = (0 : Int32) then if (qm_kindOf a4) = (0 : Int32) then (qm_combinesTwo_B20 σ a1 a2 a4 (1 : Int32))
    else (qm_combinesTwo_B20 σ a1 a2 a4 (0 : Int32))
  else (qm_combinesTwo_B20 σ a1 a2 a4 (0 : Int32))
def qm_combinesSingle (σ : qm_S) (a1 : Int32) (a2 : Int64) : Option (Int32 × qm_S) :=
  if a1 = (16 : Int32) then if (qm_kindOf a2) = (4 : Int32) then ((qm_carOf σ a2)).bind fun r3 =>
        some ((qm_gives σ r3).1, (qm_gives σ r3).2)
    else some ((-8 : Int32), σ)
  else if a1 = (17 : Int32) then if (qm_kindOf a2) = (4 : Int32) then ((qm_cdrOf σ a2)).bind fun r7 =>
          some ((qm_gives σ r7).1, (qm_gives σ r7).2)
      else some ((-8 : Int32), σ)
    else if a1 = (18 : Int32) then if (qm_kindOf a2) = (3 : Int32) then some ((qm_gives σ (qm_truth (1 : Int32))).1, (qm_gives σ (qm_truth (1 : Int32))).2)
        else some ((qm_gives σ (qm_truth (0 : Int32))).1, (qm_gives σ (qm_truth (0 : Int32))).2)
      else if a1 = (19 : Int32) then if (qm_kindOf a2) = (4 : Int32) then some ((qm_gives σ (qm_truth (1 : Int32))).1, (qm_gives σ (qm_truth (1 : Int32))).2)
          else some ((qm_gives σ (qm_truth (0 : Int32))).1, (qm_gives σ (qm_truth (0 : Int32))).2)
        else if a1 = (20 : Int32) then if (qm_kindOf a2) = (6 : Int32) then ((qm_underOf σ a2)).bind fun r15 =>
                some ((qm_gives σ r15).1, (qm_gives σ r15).2)
            else some ((-8 : Int32), σ)
          else if a1 = (21 : Int32) then if (qm_kindOf a2) = (5 : Int32) then ((qm_creates σ (6 : Int32) a2 (0 : Int64))).bind fun r19 =>
                  some (r19.1, r19.2)
              else if (qm_kindOf a2) = (6 : Int32) then ((qm_creates σ (6 : Int32) a2 (0 : Int64))).bind fun r22 =>
                    some (r22.1, r22.2)
                else some ((-8 : Int32), σ)
            else if (qm_kindOf a2) = (6 : Int32) then ((qm_underOf σ a2)).bind fun r25 =>
                  some ((qm_gives σ r25).1, (qm_gives σ r25).2)
              else some ((-8 : Int32), σ)
def qm_createsEnvironment_B29 (σ : qm_S) (x1 : Int32) : Option (Int32 × qm_S) :=
  if (qm_isFull σ) = (0 : Int32) then if x1 = (1 : Int32) then ((qm_carOf σ (qm_g_operands σ))).bind fun r10 =>
        ((qm_addsEnvironment σ r10)).bind fun r12 =>
          some ((qm_gives r12.2 r12.1).1, (qm_gives r12.2 r12.1).2)
    else ((qm_addsEnvironment σ (-1 : Int64))).bind fun r8 =>
        some ((qm_gives r8.2 r8.1).1, (qm_gives r8.2 r8.1).2)
  else some ((-5 : Int32), σ)
def qm_createsEnvironment (σ : qm_S) (a1 : Int32) : Option (Int32 × qm_S) :=
  if (1 : Int32) < a1 then some ((-8 : Int32), σ)
  else if a1 = (1 : Int32) then ((qm_carOf σ (qm_g_operands σ))).bind fun r3 =>
        if (qm_kindOf r3) = (7 : Int32) then (qm_createsEnvironment_B29 σ a1)
        else some ((-8 : Int32), σ)
    else (qm_createsEnvironment_B29 σ a1)
def qm_combinesPrimitive_B118 (N : Nat) (σ : qm_S) (x1 : Int32) (x3 : Int32) (y0 : Int32) (y1 : Int32) : Option (Int32 × qm_S) :=
  if y1 = y0 then ((qm_carOf σ (qm_g_operands σ))).bind fun r28 =>
      if x3 = (0 : Int32) then ((qm_combinesSingle σ x1 r28)).bind fun r31 =>
          some (r31.1, r31.2)
      else ((qm_elementOf N σ (qm_g_operands σ) (1 : Int32))).bind fun r33 =>
          ((qm_combinesTwo σ x1 r28 r33)).bind fun r35 =>
            some (r35.1, r35.2)
  else some ((-8 : Int32), σ)
def qm_combinesPrimitive_B102 (N : Nat) (σ : qm_S) (x1 : Int32) (x2 : Int32) : Option (Int32 × qm_S) :=
  if (1 : Int32) = (0 : Int32) then (qm_combinesPrimitive_B118 N σ x1 (1 : Int32) (1 : Int32) x2)
  else (qm_combinesPrimitive_B118 N σ x1 (1 : Int32) (2 : Int32) x2)
def qm_combinesPrimitive (N : Nat) (σ : qm_S) (a1 : Int32) : Option (Int32 × qm_S) :=
  ((qm_longOf N σ (qm_g_operands σ))).bind fun r1 =>
    if (0 : Int32) ≤ r1 then if (8 : Int32) ≤ a1 then if a1 = (10 : Int32) then if a1 = (10 : Int32) then ((qm_reckons N σ (1 : Int32))).bind fun r9 =>
              some (r9.1, r9.2)
          else ((qm_reckons N σ (0 : Int32))).bind fun r7 =>
              some (r7.1, r7.2)
        else if a1 = (11 : Int32) then if a1 = (10 : Int32) then ((qm_reckons N σ (1 : Int32))).bind fun r23 =>
                some (r23.1, r23.2)
            else ((qm_reckons N σ (0 : Int32))).bind fun r21 =>
                some (r21.1, r21.2)
          else if a1 = (23 : Int32) then ((qm_createsEnvironment σ r1)).bind fun r18 =>
                some (r18.1, r18.2)
            else if a1 = (25 : Int32) then some ((qm_gives σ (qm_g_operands σ)).1, (qm_gives σ (qm_g_operands σ)).2)
              else if a1 < (16 : Int32) then (qm_combinesPrimitive_B102 N σ a1 r1)
                else if a1 = (20 : Int32) then (qm_combinesPrimitive_B102 N σ a1 r1)
                  else if a1 = (24 : Int32) then (qm_combinesPrimitive_B102 N σ a1 r1)
                    else if (0 : Int32) = (0 : Int32) then (qm_combinesPrimitive_B118 N σ a1 (0 : Int32) (1 : Int32) r1)
                      else (qm_combinesPrimitive_B118 N σ a1 (0 : Int32) (2 : Int32) r1)
      else ((qm_combinesPart N σ a1 r1)).bind fun r25 =>
          some (r25.1, r25.2)
    else some ((-8 : Int32), σ)
def qm_combinesOne (N : Nat) (σ : qm_S)  : Option (Int32 × qm_S) :=
  if (qm_kindOf (qm_g_now σ)) = (6 : Int32) then ((qm_longOf N σ (qm_g_operands σ))).bind fun r8 =>
      if (0 : Int32) ≤ r8 then ((qm_goesOn N σ (qm_g_now σ) (qm_g_operands σ) (qm_g_around σ) (qm_g_resultMany σ))).bind fun r11 =>
          some (r11.1, r11.2)
      else some ((-8 : Int32), σ)
  else if (qm_kindOf (qm_g_now σ)) = (5 : Int32) then if (qm_whatOf (qm_g_now σ)) < (0 : Int64) then ((qm_combinesPrimitive N σ ((-1 : Int32) - (qm_indexOf σ (qm_g_now σ))))).bind fun r6 =>
          some (r6.1, r6.2)
      else ((qm_combinesCompound N σ)).bind fun r4 =>
          some (r4.1, r4.2)
    else some ((-7 : Int32), σ)
def qm_runs_L2 (N : Nat) : Nat → qm_S → Int32 → Option (Int32 × qm_S)
  | 0 => fun _ _ => none
  | k + 1 => fun σ x1 =>
    if x1 = (0 : Int32) then if (qm_g_mode σ) = (2 : Int32) then if (qm_g_frames σ) ≤ (0 : Int32) then some (x1, σ)
        else if (qm_g_mode σ) = (0 : Int32) then ((qm_evaluatesOne N σ)).bind fun r18 =>
              (qm_runs_L2 N k r18.2 r18.1)
          else if (qm_g_mode σ) = (1 : Int32) then ((qm_combinesOne N σ)).bind fun r16 =>
                (qm_runs_L2 N k r16.2 r16.1)
            else ((qm_takesResult N σ)).bind fun r14 =>
                (qm_runs_L2 N k r14.2 r14.1)
      else if (qm_g_mode σ) = (0 : Int32) then ((qm_evaluatesOne N σ)).bind fun r9 =>
            (qm_runs_L2 N k r9.2 r9.1)
        else if (qm_g_mode σ) = (1 : Int32) then ((qm_combinesOne N σ)).bind fun r7 =>
              (qm_runs_L2 N k r7.2 r7.1)
          else ((qm_takesResult N σ)).bind fun r5 =>
              (qm_runs_L2 N k r5.2 r5.1)
    else some (x1, σ)
def qm_runs (N : Nat) (σ : qm_S)  : Option (Int32 × qm_S) :=
  (qm_runs_L2 N N σ (0 : Int32))
def qm_evaluate (N : Nat) (σ : qm_S)  : Option (Int32 × qm_S) :=
  if (qm_g_values σ) = (0 : Int32) then some ((-2 : Int32), σ)
  else if inb ((qm_g_values σ) - (1 : Int32)) 40 = true then ((qm_runs N (qm_goesTo (qm_s_resultMany (qm_s_frames (qm_s_mostFrames (qm_s_steps (qm_s_values σ ((qm_g_values σ) - (1 : Int32))) (0 : Int32)) (0 : Int32)) (0 : Int32)) (0 : Int32)) (qm_g_stack σ (Int32.toNatClampNeg ((qm_g_values σ) - (1 : Int32)))) (qm_g_present σ)).2)).bind fun r3 =>
        if (0 : Int32) ≤ r3.1 then ((qm_pushes r3.2 (qm_g_now r3.2))).bind fun r6 =>
            some ((qm_g_steps r6.2), r6.2)
        else some (r3.1, r3.2)
    else none
def qm_useEnvironment (σ : qm_S)  : Option (Int32 × qm_S) :=
  if (qm_g_values σ) = (0 : Int32) then some ((-2 : Int32), σ)
  else ((qm_at σ (0 : Int32))).bind fun r2 =>
      if (qm_kindOf r2) = (7 : Int32) then ((qm_at σ (0 : Int32))).bind fun r5 =>
          some (((qm_g_values σ) - (1 : Int32)), (qm_s_values (qm_s_present σ r5) ((qm_g_values σ) - (1 : Int32))))
      else some ((-4 : Int32), σ)
def qm_useUser (σ : qm_S)  : Int32 × qm_S :=
  if (qm_g_present σ) = (-25 : Int64) then ((0 : Int32), (qm_s_present σ (-25 : Int64)))
  else ((1 : Int32), (qm_s_present σ (-25 : Int64)))
def qm_setLimit (σ : qm_S) (a1 : Int32) : Int32 × qm_S :=
  if (qm_within (Int32.toInt64 a1) (1 : Int64) (1500 : Int64)) = (0 : Int32) then ((-1 : Int32), σ)
  else ((qm_g_limit σ), (qm_s_limit σ a1))
def qm_latest (σ : qm_S) (a1 : Int32) : Int32 :=
  if a1 = (0 : Int32) then (qm_g_steps σ)
  else if a1 = (1 : Int32) then (qm_g_mostFrames σ)
    else (-1 : Int32)
def qm_heapSize (σ : qm_S)  : Int32 :=
  (qm_g_objects σ)
