/-! functions out of the bytecode -/
def qh_write (σ : qh_S) (a1 : Int32) (a2 : Int64) (a4 : Int64) : qh_S :=
  if a1 < (0 : Int32) then σ
  else if (4100 : Int32) ≤ a1 then σ
    else (qh_t_second (qh_t_first σ a1 a2) a1 a4)
def qw_make (a0 : Int32) (a1 : Int64) : Int64 :=
  ((a1 <<< 4) ||| (Int32.toInt64 a0))
def qh_secondAt (σ : qh_S) (a1 : Int32) : Int64 :=
  if a1 < (0 : Int32) then (3 : Int64)
  else if (4100 : Int32) ≤ a1 then (3 : Int64)
    else (qh_g_second σ (Int32.toNatClampNeg a1))
def qh_latestBindingOf (σ : qh_S) (a1 : Int32) : Int32 :=
  (Int64.toInt32 (qh_secondAt σ a1))
def qh_packLink (a0 : Int32) (a1 : Int32) : Int64 :=
  (((Int32.toInt64 a1) <<< 7) ||| (Int32.toInt64 a0))
def qh_bindInGround (σ : qh_S) (a1 : Int32) (a2 : Int64) : qh_S :=
  (qh_write (qh_write σ ((50 : Int32) + a1) a2 (qh_packLink a1 (qh_latestBindingOf σ (0 : Int32)))) (0 : Int32) (-1 : Int64) (Int32.toInt64 ((50 : Int32) + a1)))
def qh_restoreGround_L54 (N : Nat) : Nat → qh_S → Int32 → Option qh_S
  | 0 => fun _ _ => none
  | k + 1 => fun σ x1 =>
    if (25 : Int32) < x1 then some σ
    else (qh_restoreGround_L54 N k (qh_bindInGround (qh_write σ x1 (qw_make (5 : Int32) (Int32.toInt64 x1)) (0 : Int64)) x1 (qw_make (6 : Int32) (Int32.toInt64 x1))) (x1 + (1 : Int32)))
def qh_restoreGround_L28 (N : Nat) : Nat → qh_S → Int32 → Option qh_S
  | 0 => fun _ _ => none
  | k + 1 => fun σ x1 =>
    if (7 : Int32) < x1 then (qh_restoreGround_L54 N N σ (10 : Int32))
    else (qh_restoreGround_L28 N k (qh_bindInGround σ x1 (qw_make (5 : Int32) (Int32.toInt64 x1))) (x1 + (1 : Int32)))
def qh_restoreGround (N : Nat) (σ : qh_S)  : Option qh_S :=
  (qh_restoreGround_L28 N N (qh_write (qh_write (qh_s_nextRow σ (100 : Int32)) (0 : Int32) (-1 : Int64) (-1 : Int64)) (1 : Int32) (0 : Int64) (-1 : Int64)) (0 : Int32))
def qf_clear (σ : qf_S)  : qf_S :=
  (qf_s_most (qf_s_count σ (0 : Int32)) (0 : Int32))
def qn_forget (σ : qn_S)  : qn_S :=
  (qn_s_failure (qn_s_limit (qn_s_steps (qn_s_environment (qn_s_operands (qn_s_current (qn_s_mode (qn_s_argumentCount (qn_sF σ (qf_clear (qn_gF σ))) (0 : Int32)) (4 : Int32)) (3 : Int64)) (3 : Int64)) (1 : Int32)) (0 : Int32)) (0 : Int32)) (0 : Int32))
def qw_isInteger (a0 : Int64) : Int32 :=
  if a0 < (-1000000000000000 : Int64) then (0 : Int32)
  else if (1000000000000000 : Int64) < a0 then (0 : Int32)
    else (1 : Int32)
def qx_push (σ : qx_S) (a1 : Int64) : Int32 × qx_S :=
  if (qx_g_stackSize σ) < (0 : Int32) then ((-3 : Int32), σ)
  else if (qx_g_stackSize σ) < (40 : Int32) then (((qx_g_stackSize σ) + (1 : Int32)), (qx_s_stackSize (qx_t_stack σ (qx_g_stackSize σ) a1) ((qx_g_stackSize σ) + (1 : Int32))))
    else ((-3 : Int32), σ)
def qx_pushInteger (σ : qx_S) (a1 : Int64) : Int32 × qx_S :=
  if (qw_isInteger a1) = (0 : Int32) then ((-1 : Int32), σ)
  else ((qx_push σ (qw_make (0 : Int32) a1)).1, (qx_push σ (qw_make (0 : Int32) a1)).2)
def qw_makeBoolean (a0 : Int32) : Int64 :=
  if a0 = (0 : Int32) then (qw_make (1 : Int32) (0 : Int64))
  else (qw_make (1 : Int32) (1 : Int64))
def qx_pushBoolean (σ : qx_S) (a1 : Int32) : Int32 × qx_S :=
  ((qx_push σ (qw_makeBoolean a1)).1, (qx_push σ (qw_makeBoolean a1)).2)
def qw_isSymbol (a0 : Int32) : Int32 :=
  if a0 < (0 : Int32) then (0 : Int32)
  else if (100 : Int32) ≤ a0 then (0 : Int32)
    else (1 : Int32)
def qx_pushSymbol (σ : qx_S) (a1 : Int32) : Int32 × qx_S :=
  if (qw_isSymbol a1) = (0 : Int32) then ((-1 : Int32), σ)
  else ((qx_push σ (qw_make (2 : Int32) (Int32.toInt64 a1))).1, (qx_push σ (qw_make (2 : Int32) (Int32.toInt64 a1))).2)
def qx_pushEmpty (σ : qx_S) (a1 : Int32) : Int32 × qx_S :=
  if a1 = (0 : Int32) then ((qx_push σ (3 : Int64)).1, (qx_push σ (3 : Int64)).2)
  else ((qx_push σ (8 : Int64)).1, (qx_push σ (8 : Int64)).2)
def qx_pushEnvironment (σ : qx_S)  : Int32 × qx_S :=
  ((qx_push σ (qw_make (7 : Int32) (Int32.toInt64 (qx_g_present σ)))).1, (qx_push σ (qw_make (7 : Int32) (Int32.toInt64 (qx_g_present σ)))).2)
def qx_depthError (σ : qx_S) (a1 : Int32) : Int32 :=
  if (0 : Int32) ≤ a1 then if a1 < (qx_g_stackSize σ) then (0 : Int32)
    else (-2 : Int32)
  else (-1 : Int32)
def qx_valueAt (σ : qx_S) (a1 : Int32) : Int64 :=
  if (((qx_g_stackSize σ) - (1 : Int32)) - a1) < (0 : Int32) then (3 : Int64)
  else if (40 : Int32) ≤ (((qx_g_stackSize σ) - (1 : Int32)) - a1) then (3 : Int64)
    else (qx_g_stack σ (Int32.toNatClampNeg (((qx_g_stackSize σ) - (1 : Int32)) - a1)))
def qx_pushCopy (σ : qx_S) (a1 : Int32) : Int32 × qx_S :=
  if (qx_depthError σ a1) = (0 : Int32) then ((qx_push σ (qx_valueAt σ a1)).1, (qx_push σ (qx_valueAt σ a1)).2)
  else ((qx_depthError σ a1), σ)
def qw_kindOf (a0 : Int64) : Int32 :=
  (Int64.toInt32 (a0 &&& (15 : Int64)))
def qw_rowOf (a0 : Int64) : Int32 :=
  (Int64.toInt32 (a0 >>> 4))
def qh_firstAt (σ : qh_S) (a1 : Int32) : Int64 :=
  if a1 < (0 : Int32) then (3 : Int64)
  else if (4100 : Int32) ≤ a1 then (3 : Int64)
    else (qh_g_first σ (Int32.toNatClampNeg a1))
def qh_carOf (σ : qh_S) (a1 : Int64) : Int64 :=
  (qh_firstAt σ (qw_rowOf a1))
def qh_cdrOf (σ : qh_S) (a1 : Int64) : Int64 :=
  (qh_secondAt σ (qw_rowOf a1))
def qh_underlyingOf (σ : qh_S) (a1 : Int64) : Int64 :=
  (qh_firstAt σ (qw_rowOf a1))
def qh_parentOf (σ : qh_S) (a1 : Int32) : Int32 :=
  (Int64.toInt32 (qh_firstAt σ a1))
def qx_pushParent (σ : qx_S) (a1 : Int32) : Int32 × qx_S :=
  if (qx_g_stackSize σ) < (40 : Int32) then if (qh_parentOf (qx_gH σ) a1) = (-1 : Int32) then ((-12 : Int32), σ)
    else ((qx_push σ (qw_make (7 : Int32) (Int32.toInt64 (qh_parentOf (qx_gH σ) a1)))).1, (qx_push σ (qw_make (7 : Int32) (Int32.toInt64 (qh_parentOf (qx_gH σ) a1)))).2)
  else ((-3 : Int32), σ)
def qx_pushPart_B11 (σ : qx_S) (x1 : Int32) (x2 : Int32) : Int32 × qx_S :=
  if (qx_depthError σ x1) = (0 : Int32) then if (qw_kindOf (qx_valueAt σ x1)) = (4 : Int32) then if x2 = (0 : Int32) then ((qx_push σ (qh_carOf (qx_gH σ) (qx_valueAt σ x1))).1, (qx_push σ (qh_carOf (qx_gH σ) (qx_valueAt σ x1))).2)
      else ((qx_push σ (qh_cdrOf (qx_gH σ) (qx_valueAt σ x1))).1, (qx_push σ (qh_cdrOf (qx_gH σ) (qx_valueAt σ x1))).2)
    else if x2 = (0 : Int32) then if (qw_kindOf (qx_valueAt σ x1)) = (6 : Int32) then ((qx_push σ (qh_underlyingOf (qx_gH σ) (qx_valueAt σ x1))).1, (qx_push σ (qh_underlyingOf (qx_gH σ) (qx_valueAt σ x1))).2)
        else if x2 = (0 : Int32) then if (qw_kindOf (qx_valueAt σ x1)) = (7 : Int32) then ((qx_pushParent σ (qw_rowOf (qx_valueAt σ x1))).1, (qx_pushParent σ (qw_rowOf (qx_valueAt σ x1))).2)
            else ((-4 : Int32), σ)
          else ((-4 : Int32), σ)
      else if x2 = (0 : Int32) then if (qw_kindOf (qx_valueAt σ x1)) = (7 : Int32) then ((qx_pushParent σ (qw_rowOf (qx_valueAt σ x1))).1, (qx_pushParent σ (qw_rowOf (qx_valueAt σ x1))).2)
          else ((-4 : Int32), σ)
        else ((-4 : Int32), σ)
  else ((qx_depthError σ x1), σ)
def qx_pushPart (σ : qx_S) (a1 : Int32) (a2 : Int32) : Int32 × qx_S :=
  if a2 = (0 : Int32) then (qx_pushPart_B11 σ a1 a2)
  else if a2 = (1 : Int32) then (qx_pushPart_B11 σ a1 a2)
    else ((-1 : Int32), σ)
def qx_kindError (σ : qx_S) (a1 : Int32) (a2 : Int32) : Int32 :=
  if (qx_depthError σ a1) = (0 : Int32) then if (qw_kindOf (qx_valueAt σ a1)) = a2 then (0 : Int32)
    else (-4 : Int32)
  else (qx_depthError σ a1)
def qh_symbolIn (a0 : Int64) : Int32 :=
  (Int64.toInt32 (a0 &&& (127 : Int64)))
def qh_nextIn (a0 : Int64) : Int32 :=
  (Int64.toInt32 (a0 >>> 7))
def qh_ownBinding_L9 (N : Nat) : Nat → qh_S → Int32 → Int32 → Int32 → Option Int32
  | 0 => fun _ _ _ _ => none
  | k + 1 => fun σ x2 x3 x4 =>
    if x3 = (-1 : Int32) then some (-1 : Int32)
    else if (4100 : Int32) ≤ x4 then some (-1 : Int32)
      else if (qh_symbolIn (qh_secondAt σ x3)) = x2 then some x3
        else (qh_ownBinding_L9 N k σ x2 (qh_nextIn (qh_secondAt σ x3)) (x4 + (1 : Int32)))
def qh_ownBinding (N : Nat) (σ : qh_S) (a1 : Int32) (a2 : Int32) : Option Int32 :=
  (qh_ownBinding_L9 N N σ a2 (qh_latestBindingOf σ a1) (0 : Int32))
def qh_visibleBinding_L5 (N : Nat) : Nat → qh_S → Int32 → Int32 → Int32 → Option Int32
  | 0 => fun _ _ _ _ => none
  | k + 1 => fun σ x2 x3 x4 =>
    if x3 = (-1 : Int32) then some (-1 : Int32)
    else if (4100 : Int32) ≤ x4 then some (-1 : Int32)
      else ((qh_ownBinding N σ x3 x2)).bind fun r3 =>
          if r3 = (-1 : Int32) then (qh_visibleBinding_L5 N k σ x2 (qh_parentOf σ x3) (x4 + (1 : Int32)))
          else some r3
def qh_visibleBinding (N : Nat) (σ : qh_S) (a1 : Int32) (a2 : Int32) : Option Int32 :=
  (qh_visibleBinding_L5 N N σ a2 a1 (0 : Int32))
def qh_boundValueOf (σ : qh_S) (a1 : Int32) : Int64 :=
  (qh_firstAt σ a1)
def qx_pushBinding (N : Nat) (σ : qx_S) (a1 : Int32) (a2 : Int32) : Option (Int32 × qx_S) :=
  if (qw_isSymbol a2) = (0 : Int32) then some ((-1 : Int32), σ)
  else if (qx_kindError σ a1 (7 : Int32)) = (0 : Int32) then ((qh_visibleBinding N (qx_gH σ) (qw_rowOf (qx_valueAt σ a1)) a2)).bind fun r3 =>
        if r3 = (-1 : Int32) then some ((-6 : Int32), σ)
        else some ((qx_push σ (qh_boundValueOf (qx_gH σ) r3)).1, (qx_push σ (qh_boundValueOf (qx_gH σ) r3)).2)
    else some ((qx_kindError σ a1 (7 : Int32)), σ)
def qh_add (σ : qh_S) (a1 : Int64) (a3 : Int64) : Int32 × qh_S :=
  if (qh_g_nextRow σ) < (0 : Int32) then ((-1 : Int32), σ)
  else if (qh_g_nextRow σ) < (4100 : Int32) then ((qh_g_nextRow σ), (qh_s_nextRow (qh_t_second (qh_t_first σ (qh_g_nextRow σ) a1) (qh_g_nextRow σ) a3) ((qh_g_nextRow σ) + (1 : Int32))))
    else ((-1 : Int32), σ)
def qh_addPair (σ : qh_S) (a1 : Int64) (a3 : Int64) : Int32 × qh_S :=
  ((qh_add σ a1 a3).1, (qh_add σ a1 a3).2)
def qx_makePair (σ : qx_S)  : Int32 × qx_S :=
  if (2 : Int32) ≤ (qx_g_stackSize σ) then if (qh_addPair (qx_gH σ) (qx_valueAt σ (1 : Int32)) (qx_valueAt σ (0 : Int32))).1 = (-1 : Int32) then ((-5 : Int32), (qx_sH σ (qh_addPair (qx_gH σ) (qx_valueAt σ (1 : Int32)) (qx_valueAt σ (0 : Int32))).2))
    else ((qx_push (qx_s_stackSize (qx_sH σ (qh_addPair (qx_gH σ) (qx_valueAt σ (1 : Int32)) (qx_valueAt σ (0 : Int32))).2) ((qx_g_stackSize σ) - (2 : Int32))) (qw_make (4 : Int32) (Int32.toInt64 (qh_addPair (qx_gH σ) (qx_valueAt σ (1 : Int32)) (qx_valueAt σ (0 : Int32))).1))).1, (qx_push (qx_s_stackSize (qx_sH σ (qh_addPair (qx_gH σ) (qx_valueAt σ (1 : Int32)) (qx_valueAt σ (0 : Int32))).2) ((qx_g_stackSize σ) - (2 : Int32))) (qw_make (4 : Int32) (Int32.toInt64 (qh_addPair (qx_gH σ) (qx_valueAt σ (1 : Int32)) (qx_valueAt σ (0 : Int32))).1))).2)
  else ((-2 : Int32), σ)
def qx_countError (σ : qx_S) (a1 : Int32) : Int32 :=
  if a1 < (0 : Int32) then (-1 : Int32)
  else if a1 ≤ (40 : Int32) then if a1 ≤ (qx_g_stackSize σ) then (0 : Int32)
      else (-2 : Int32)
    else (-1 : Int32)
def qh_hasRoomFor (σ : qh_S) (a1 : Int32) : Int32 :=
  if ((4100 : Int32) - (qh_g_nextRow σ)) < a1 then (0 : Int32)
  else (1 : Int32)
def qx_makeList_L33 (N : Nat) : Nat → qx_S → Int32 → Int64 → Int32 → Option (Int32 × qx_S)
  | 0 => fun _ _ _ _ => none
  | k + 1 => fun σ x1 x3 x5 =>
    if x1 ≤ x5 then some ((qx_push (qx_s_stackSize σ ((qx_g_stackSize σ) - x1)) x3).1, (qx_push (qx_s_stackSize σ ((qx_g_stackSize σ) - x1)) x3).2)
    else (qx_makeList_L33 N k (qx_sH σ (qh_addPair (qx_gH σ) (qx_valueAt σ x5) x3).2) x1 (qw_make (4 : Int32) (Int32.toInt64 (qh_addPair (qx_gH σ) (qx_valueAt σ x5) x3).1)) (x5 + (1 : Int32)))
def qx_makeList (N : Nat) (σ : qx_S) (a1 : Int32) : Option (Int32 × qx_S) :=
  if (qx_countError σ a1) = (0 : Int32) then if (qh_hasRoomFor (qx_gH σ) a1) = (0 : Int32) then some ((-5 : Int32), σ)
    else (qx_makeList_L33 N N σ a1 (3 : Int64) (0 : Int32))
  else some ((qx_countError σ a1), σ)
def qx_drop (σ : qx_S) (a1 : Int32) : Int32 × qx_S :=
  if (qx_countError σ a1) = (0 : Int32) then (((qx_g_stackSize σ) - a1), (qx_s_stackSize σ ((qx_g_stackSize σ) - a1)))
  else ((qx_countError σ a1), σ)
def qh_objectCount (σ : qh_S)  : Int32 :=
  ((qh_g_nextRow σ) - (100 : Int32))
def qx_reset (N : Nat) (σ : qx_S)  : Option (Int32 × qx_S) :=
  ((qh_restoreGround N (qx_gH σ))).bind fun r1 =>
    some ((qh_objectCount (qx_gH σ)), (qx_s_limit (qx_s_present (qx_s_stackSize (qx_sN (qx_sH σ r1) (qn_forget (qx_gN (qx_sH σ r1)))) (0 : Int32)) (1 : Int32)) (1000 : Int32)))
def qx_size (σ : qx_S)  : Int32 :=
  (qx_g_stackSize σ)
def qx_kind (σ : qx_S) (a1 : Int32) : Int32 :=
  if (qx_depthError σ a1) = (0 : Int32) then (qw_kindOf (qx_valueAt σ a1))
  else (qx_depthError σ a1)
def qw_contentOf (a0 : Int64) : Int64 :=
  (a0 >>> 4)
def qx_value (σ : qx_S) (a1 : Int32) : Int64 :=
  if (qx_depthError σ a1) = (0 : Int32) then if (qw_kindOf (qx_valueAt σ a1)) = (0 : Int32) then if (1 : Int32) = (0 : Int32) then (-9223372036854775808 : Int64)
      else (qw_contentOf (qx_valueAt σ a1))
    else if (qw_kindOf (qx_valueAt σ a1)) = (1 : Int32) then if (1 : Int32) = (0 : Int32) then (-9223372036854775808 : Int64)
        else (qw_contentOf (qx_valueAt σ a1))
      else if (qw_kindOf (qx_valueAt σ a1)) = (2 : Int32) then if (1 : Int32) = (0 : Int32) then (-9223372036854775808 : Int64)
          else (qw_contentOf (qx_valueAt σ a1))
        else if (0 : Int32) = (0 : Int32) then (-9223372036854775808 : Int64)
          else (qw_contentOf (qx_valueAt σ a1))
  else (-9223372036854775808 : Int64)
def qx_areSame (σ : qx_S) (a1 : Int32) (a2 : Int32) : Int32 :=
  if a1 < (0 : Int32) then (-1 : Int32)
  else if (0 : Int32) ≤ a2 then if (qx_g_stackSize σ) ≤ a1 then (-2 : Int32)
      else if a2 < (qx_g_stackSize σ) then if (qx_valueAt σ a1) = (qx_valueAt σ a2) then (1 : Int32)
          else (0 : Int32)
        else (-2 : Int32)
    else (-1 : Int32)
def qh_lengthOf_L5 (N : Nat) : Nat → qh_S → Int64 → Int32 → Option Int32
  | 0 => fun _ _ _ => none
  | k + 1 => fun σ x3 x5 =>
    if (4100 : Int32) < x5 then some (-1 : Int32)
    else if x3 = (3 : Int64) then some x5
      else if (qw_kindOf x3) = (4 : Int32) then (qh_lengthOf_L5 N k σ (qh_cdrOf σ x3) (x5 + (1 : Int32)))
        else some (-1 : Int32)
def qh_lengthOf (N : Nat) (σ : qh_S) (a1 : Int64) : Option Int32 :=
  (qh_lengthOf_L5 N N σ a1 (0 : Int32))
def qx_length (N : Nat) (σ : qx_S) (a1 : Int32) : Option Int32 :=
  if (qx_depthError σ a1) = (0 : Int32) then ((qh_lengthOf N (qx_gH σ) (qx_valueAt σ a1))).bind fun r2 =>
      if r2 = (-1 : Int32) then some (-4 : Int32)
      else some r2
  else some (qx_depthError σ a1)
def qh_countBindings_L8 (N : Nat) : Nat → qh_S → Int32 → Int32 → Option Int32
  | 0 => fun _ _ _ => none
  | k + 1 => fun σ x2 x3 =>
    if x3 = (-1 : Int32) then some x2
    else if (4100 : Int32) ≤ x2 then some x2
      else (qh_countBindings_L8 N k σ (x2 + (1 : Int32)) (qh_nextIn (qh_secondAt σ x3)))
def qh_countBindings (N : Nat) (σ : qh_S) (a1 : Int32) : Option Int32 :=
  (qh_countBindings_L8 N N σ (0 : Int32) (qh_latestBindingOf σ a1))
def qx_bindingCount (N : Nat) (σ : qx_S) (a1 : Int32) : Option Int32 :=
  if (qx_kindError σ a1 (7 : Int32)) = (0 : Int32) then ((qh_countBindings N (qx_gH σ) (qw_rowOf (qx_valueAt σ a1)))).bind fun r2 =>
      some r2
  else some (qx_kindError σ a1 (7 : Int32))
def qn_evaluateInTail (σ : qn_S) (a1 : Int64) : qn_S :=
  (qn_s_mode (qn_s_current σ a1) (0 : Int32))
def qn_fail (σ : qn_S) (a1 : Int32) : qn_S :=
  (qn_s_mode (qn_s_failure σ a1) (4 : Int32))
def qf_put (σ : qf_S) (a1 : Int32) (a2 : Int32) (a3 : Int64) (a5 : Int64) (a7 : Int32) : Int32 × qf_S :=
  if (qf_g_count σ) < (0 : Int32) then ((0 : Int32), σ)
  else if (qf_g_count σ) < (300 : Int32) then if ((qf_g_count σ) + (1 : Int32)) ≤ (qf_g_most σ) then ((1 : Int32), (qf_s_count (qf_t_gathereds (qf_t_helds (qf_t_rests (qf_t_environments (qf_t_tasks σ (qf_g_count σ) a1) (qf_g_count σ) a2) (qf_g_count σ) a3) (qf_g_count σ) a5) (qf_g_count σ) a7) ((qf_g_count σ) + (1 : Int32))))
      else ((1 : Int32), (qf_s_most (qf_s_count (qf_t_gathereds (qf_t_helds (qf_t_rests (qf_t_environments (qf_t_tasks σ (qf_g_count σ) a1) (qf_g_count σ) a2) (qf_g_count σ) a3) (qf_g_count σ) a5) (qf_g_count σ) a7) ((qf_g_count σ) + (1 : Int32))) ((qf_g_count σ) + (1 : Int32))))
    else ((0 : Int32), σ)
def qn_evaluateWithFrame (σ : qn_S) (a1 : Int64) (a3 : Int32) (a4 : Int64) (a6 : Int64) (a8 : Int32) : qn_S :=
  if (qf_put (qn_gF σ) a3 (qn_g_environment σ) a4 a6 a8).1 = (0 : Int32) then (qn_fail (qn_sF σ (qf_put (qn_gF σ) a3 (qn_g_environment σ) a4 a6 a8).2) (-11 : Int32))
  else (qn_evaluateInTail (qn_sF σ (qf_put (qn_gF σ) a3 (qn_g_environment σ) a4 a6 a8).2) a1)
def qn_giveBack (σ : qn_S) (a1 : Int64) : qn_S :=
  (qn_s_mode (qn_s_current σ a1) (3 : Int32))
def qn_lookUp (N : Nat) (σ : qn_S) (a1 : Int32) : Option qn_S :=
  ((qh_visibleBinding N (qn_gH σ) (qn_g_environment σ) a1)).bind fun r1 =>
    if r1 = (-1 : Int32) then some (qn_fail σ (-6 : Int32))
    else some (qn_giveBack σ (qh_boundValueOf (qn_gH σ) r1))
def qn_evaluateCurrent (N : Nat) (σ : qn_S)  : Option qn_S :=
  if (qn_g_steps σ) < (qn_g_limit σ) then if (qw_kindOf (qn_g_current σ)) = (4 : Int32) then some (qn_evaluateWithFrame (qn_s_steps σ ((qn_g_steps σ) + (1 : Int32))) (qh_carOf (qn_gH σ) (qn_g_current σ)) (0 : Int32) (qh_cdrOf (qn_gH σ) (qn_g_current σ)) (3 : Int64) (0 : Int32))
    else if (qw_kindOf (qn_g_current σ)) = (2 : Int32) then ((qn_lookUp N (qn_s_steps σ ((qn_g_steps σ) + (1 : Int32))) (qw_rowOf (qn_g_current σ)))).bind fun r4 =>
          some r4
      else some (qn_giveBack (qn_s_steps σ ((qn_g_steps σ) + (1 : Int32))) (qn_g_current σ))
  else some (qn_fail σ (-10 : Int32))
def qn_latestArgument (σ : qn_S)  : Int64 :=
  if ((qn_g_argumentCount σ) - (1 : Int32)) < (0 : Int32) then (3 : Int64)
  else if (1500 : Int32) ≤ ((qn_g_argumentCount σ) - (1 : Int32)) then (3 : Int64)
    else (qn_g_arguments σ (Int32.toNatClampNeg ((qn_g_argumentCount σ) - (1 : Int32))))
def qn_combine (σ : qn_S) (a1 : Int64) (a3 : Int64) : qn_S :=
  (qn_s_mode (qn_s_operands (qn_s_current σ a1) a3) (1 : Int32))
def qn_combineWithArguments_L8 (N : Nat) : Nat → qn_S → Int64 → Int32 → Int64 → Int32 → Option qn_S
  | 0 => fun _ _ _ _ _ => none
  | k + 1 => fun σ x1 x3 x4 x6 =>
    if x3 ≤ x6 then some (qn_combine σ x1 x4)
    else if (qh_addPair (qn_gH σ) (qn_latestArgument σ) x4).1 = (-1 : Int32) then some (qn_fail (qn_sH σ (qh_addPair (qn_gH σ) (qn_latestArgument σ) x4).2) (-5 : Int32))
      else (qn_combineWithArguments_L8 N k (qn_s_argumentCount (qn_sH σ (qh_addPair (qn_gH σ) (qn_latestArgument σ) x4).2) ((qn_g_argumentCount σ) - (1 : Int32))) x1 x3 (qw_make (4 : Int32) (Int32.toInt64 (qh_addPair (qn_gH σ) (qn_latestArgument σ) x4).1)) (x6 + (1 : Int32)))
def qn_combineWithArguments (N : Nat) (σ : qn_S) (a1 : Int64) (a3 : Int32) : Option qn_S :=
  (qn_combineWithArguments_L8 N N σ a1 a3 (3 : Int64) (0 : Int32))
def qn_evaluateArguments (N : Nat) (σ : qn_S) (a1 : Int64) (a3 : Int64) (a5 : Int32) : Option qn_S :=
  if a1 = (3 : Int64) then ((qn_combineWithArguments N σ a3 a5)).bind fun r2 =>
      some r2
  else some (qn_evaluateWithFrame σ (qh_carOf (qn_gH σ) a1) (1 : Int32) (qh_cdrOf (qn_gH σ) a1) a3 a5)
def qn_combineApplicative (N : Nat) (σ : qn_S)  : Option qn_S :=
  ((qh_lengthOf N (qn_gH σ) (qn_g_operands σ))).bind fun r1 =>
    if r1 = (-1 : Int32) then some (qn_fail σ (-8 : Int32))
    else ((qn_evaluateArguments N σ (qn_g_operands σ) (qh_underlyingOf (qn_gH σ) (qn_g_current σ)) (0 : Int32))).bind fun r4 =>
        some r4
def qh_isPrimitive (a0 : Int32) : Int32 :=
  if (100 : Int32) ≤ a0 then (0 : Int32)
  else (1 : Int32)
def qh_parametersOf (σ : qh_S) (a1 : Int32) : Int64 :=
  ((qh_secondAt σ a1) >>> 20)
def qt_putOff (σ : qt_S) (a1 : Int64) (a3 : Int64) : qt_S :=
  if (qt_g_pendingCount σ) < (0 : Int32) then σ
  else if (100 : Int32) < (qt_g_pendingCount σ) then σ
    else (qt_s_pendingCount (qt_t_pendingParts (qt_t_pendingTrees σ (qt_g_pendingCount σ) a1) (qt_g_pendingCount σ) a3) ((qt_g_pendingCount σ) + (1 : Int32)))
def qt_start (σ : qt_S) (a1 : Int64) (a3 : Int64) : qt_S :=
  (qt_putOff (qt_s_pendingCount (qt_s_symbolCount σ (0 : Int32)) (0 : Int32)) a1 a3)
def qt_takeTree (σ : qt_S)  : Int64 × qt_S :=
  if ((qt_g_pendingCount σ) - (1 : Int32)) < (0 : Int32) then ((3 : Int64), (qt_s_pendingCount σ ((qt_g_pendingCount σ) - (1 : Int32))))
  else if (100 : Int32) < ((qt_g_pendingCount σ) - (1 : Int32)) then ((3 : Int64), (qt_s_pendingCount σ ((qt_g_pendingCount σ) - (1 : Int32))))
    else ((qt_g_pendingTrees σ (Int32.toNatClampNeg ((qt_g_pendingCount σ) - (1 : Int32)))), (qt_s_pendingCount σ ((qt_g_pendingCount σ) - (1 : Int32))))
def qt_takenPart (σ : qt_S)  : Int64 :=
  if (qt_g_pendingCount σ) < (0 : Int32) then (3 : Int64)
  else if (100 : Int32) < (qt_g_pendingCount σ) then (3 : Int64)
    else (qt_g_pendingParts σ (Int32.toNatClampNeg (qt_g_pendingCount σ)))
def qt_find (σ : qt_S) (a1 : Int32) (a2 : Int64) : qt_S :=
  if (qt_g_symbolCount σ) < (0 : Int32) then σ
  else if (100 : Int32) ≤ (qt_g_symbolCount σ) then σ
    else (qt_s_symbolCount (qt_t_parts (qt_t_symbols σ (qt_g_symbolCount σ) a1) (qt_g_symbolCount σ) a2) ((qt_g_symbolCount σ) + (1 : Int32)))
def qt_matches_L9 (N : Nat) : Nat → qt_S → Int32 → Option (Int32 × qt_S)
  | 0 => fun _ _ => none
  | k + 1 => fun σ x5 =>
    if (201 : Int32) ≤ x5 then if (qt_g_pendingCount σ) = (0 : Int32) then some ((1 : Int32), σ)
      else some ((0 : Int32), σ)
    else if (qt_g_pendingCount σ) ≤ (0 : Int32) then if (qt_g_pendingCount σ) = (0 : Int32) then some ((1 : Int32), σ)
        else some ((0 : Int32), σ)
      else if (qw_kindOf (qt_takeTree σ).1) = (2 : Int32) then (qt_matches_L9 N k (qt_find (qt_takeTree σ).2 (qw_rowOf (qt_takeTree σ).1) (qt_takenPart (qt_takeTree σ).2)) (x5 + (1 : Int32)))
        else if (qw_kindOf (qt_takeTree σ).1) = (3 : Int32) then if (qt_takenPart (qt_takeTree σ).2) = (3 : Int64) then (qt_matches_L9 N k (qt_takeTree σ).2 (x5 + (1 : Int32)))
            else some ((0 : Int32), (qt_takeTree σ).2)
          else if (qw_kindOf (qt_takeTree σ).1) = (4 : Int32) then if (qw_kindOf (qt_takenPart (qt_takeTree σ).2)) = (4 : Int32) then (qt_matches_L9 N k (qt_putOff (qt_putOff (qt_takeTree σ).2 (qh_cdrOf (qt_gH (qt_takeTree σ).2) (qt_takeTree σ).1) (qh_cdrOf (qt_gH (qt_takeTree σ).2) (qt_takenPart (qt_takeTree σ).2))) (qh_carOf (qt_gH (qt_putOff (qt_takeTree σ).2 (qh_cdrOf (qt_gH (qt_takeTree σ).2) (qt_takeTree σ).1) (qh_cdrOf (qt_gH (qt_takeTree σ).2) (qt_takenPart (qt_takeTree σ).2)))) (qt_takeTree σ).1) (qh_carOf (qt_gH (qt_putOff (qt_takeTree σ).2 (qh_cdrOf (qt_gH (qt_takeTree σ).2) (qt_takeTree σ).1) (qh_cdrOf (qt_gH (qt_takeTree σ).2) (qt_takenPart (qt_takeTree σ).2)))) (qt_takenPart (qt_takeTree σ).2))) (x5 + (1 : Int32)))
              else some ((0 : Int32), (qt_takeTree σ).2)
            else (qt_matches_L9 N k (qt_takeTree σ).2 (x5 + (1 : Int32)))
def qt_matches (N : Nat) (σ : qt_S) (a1 : Int64) (a3 : Int64) : Option (Int32 × qt_S) :=
  (qt_matches_L9 N N (qt_start σ a1 a3) (0 : Int32))
def qh_scopeOf (σ : qh_S) (a1 : Int32) : Int32 :=
  (Int64.toInt32 ((qh_secondAt σ a1) &&& (8191 : Int64)))
def qh_addEnvironment (σ : qh_S) (a1 : Int32) : Int32 × qh_S :=
  ((qh_add σ (Int32.toInt64 a1) (-1 : Int64)).1, (qh_add σ (Int32.toInt64 a1) (-1 : Int64)).2)
def qh_addBinding (σ : qh_S) (a1 : Int32) (a2 : Int32) (a3 : Int64) : Int32 × qh_S :=
  if (qh_add σ a3 (qh_packLink a2 (qh_latestBindingOf σ a1))).1 = (-1 : Int32) then ((0 : Int32), (qh_add σ a3 (qh_packLink a2 (qh_latestBindingOf σ a1))).2)
  else ((1 : Int32), (qh_write (qh_add σ a3 (qh_packLink a2 (qh_latestBindingOf σ a1))).2 a1 (qh_firstAt (qh_add σ a3 (qh_packLink a2 (qh_latestBindingOf σ a1))).2 a1) (Int32.toInt64 (qh_add σ a3 (qh_packLink a2 (qh_latestBindingOf σ a1))).1)))
def qt_bindFound_L2 (N : Nat) : Nat → qt_S → Int32 → Int32 → Option (Int32 × qt_S)
  | 0 => fun _ _ _ => none
  | k + 1 => fun σ x1 x2 =>
    if (qt_g_symbolCount σ) ≤ x2 then some ((1 : Int32), σ)
    else if (100 : Int32) ≤ x2 then some ((1 : Int32), σ)
      else if inb x2 100 = true then if inb x2 100 = true then if (qh_addBinding (qt_gH σ) x1 (qt_g_symbols σ (Int32.toNatClampNeg x2)) (qt_g_parts σ (Int32.toNatClampNeg x2))).1 = (0 : Int32) then some ((0 : Int32), (qt_sH σ (qh_addBinding (qt_gH σ) x1 (qt_g_symbols σ (Int32.toNatClampNeg x2)) (qt_g_parts σ (Int32.toNatClampNeg x2))).2))
            else (qt_bindFound_L2 N k (qt_sH σ (qh_addBinding (qt_gH σ) x1 (qt_g_symbols σ (Int32.toNatClampNeg x2)) (qt_g_parts σ (Int32.toNatClampNeg x2))).2) x1 (x2 + (1 : Int32)))
          else none
        else none
def qt_bindFound (N : Nat) (σ : qt_S) (a1 : Int32) : Option (Int32 × qt_S) :=
  (qt_bindFound_L2 N N σ a1 (0 : Int32))
def qh_environmentSymbolOf (σ : qh_S) (a1 : Int32) : Int32 :=
  (Int64.toInt32 (((qh_secondAt σ a1) >>> 13) &&& (127 : Int64)))
def qn_bindCaller (σ : qn_S) (a1 : Int32) (a2 : Int32) : Int32 × qn_S :=
  if a2 = (127 : Int32) then ((1 : Int32), σ)
  else if (qh_addBinding (qn_gH σ) a1 a2 (qw_make (7 : Int32) (Int32.toInt64 (qn_g_environment σ)))).1 = (0 : Int32) then ((0 : Int32), (qn_sH σ (qh_addBinding (qn_gH σ) a1 a2 (qw_make (7 : Int32) (Int32.toInt64 (qn_g_environment σ)))).2))
    else ((1 : Int32), (qn_sH σ (qh_addBinding (qn_gH σ) a1 a2 (qw_make (7 : Int32) (Int32.toInt64 (qn_g_environment σ)))).2))
def qh_bodyOf (σ : qh_S) (a1 : Int32) : Int64 :=
  (qh_firstAt σ a1)
def qn_combineCompound (N : Nat) (σ : qn_S) (a1 : Int32) : Option qn_S :=
  ((qt_matches N (qn_gT σ) (qh_parametersOf (qn_gH σ) a1) (qn_g_operands σ))).bind fun r1 =>
    if r1.1 = (0 : Int32) then some (qn_fail (qn_sT σ r1.2) (-8 : Int32))
    else if (qh_addEnvironment (qn_gH (qn_sT σ r1.2)) (qh_scopeOf (qn_gH (qn_sT σ r1.2)) a1)).1 = (-1 : Int32) then some (qn_fail (qn_sH (qn_sT σ r1.2) (qh_addEnvironment (qn_gH (qn_sT σ r1.2)) (qh_scopeOf (qn_gH (qn_sT σ r1.2)) a1)).2) (-5 : Int32))
      else ((qt_bindFound N (qn_gT (qn_sH (qn_sT σ r1.2) (qh_addEnvironment (qn_gH (qn_sT σ r1.2)) (qh_scopeOf (qn_gH (qn_sT σ r1.2)) a1)).2)) (qh_addEnvironment (qn_gH (qn_sT σ r1.2)) (qh_scopeOf (qn_gH (qn_sT σ r1.2)) a1)).1)).bind fun r5 =>
          if r5.1 = (0 : Int32) then some (qn_fail (qn_sT (qn_sH (qn_sT σ r1.2) (qh_addEnvironment (qn_gH (qn_sT σ r1.2)) (qh_scopeOf (qn_gH (qn_sT σ r1.2)) a1)).2) r5.2) (-5 : Int32))
          else if (qn_bindCaller (qn_sT (qn_sH (qn_sT σ r1.2) (qh_addEnvironment (qn_gH (qn_sT σ r1.2)) (qh_scopeOf (qn_gH (qn_sT σ r1.2)) a1)).2) r5.2) (qh_addEnvironment (qn_gH (qn_sT σ r1.2)) (qh_scopeOf (qn_gH (qn_sT σ r1.2)) a1)).1 (qh_environmentSymbolOf (qn_gH (qn_sT (qn_sH (qn_sT σ r1.2) (qh_addEnvironment (qn_gH (qn_sT σ r1.2)) (qh_scopeOf (qn_gH (qn_sT σ r1.2)) a1)).2) r5.2)) a1)).1 = (0 : Int32) then some (qn_fail (qn_bindCaller (qn_sT (qn_sH (qn_sT σ r1.2) (qh_addEnvironment (qn_gH (qn_sT σ r1.2)) (qh_scopeOf (qn_gH (qn_sT σ r1.2)) a1)).2) r5.2) (qh_addEnvironment (qn_gH (qn_sT σ r1.2)) (qh_scopeOf (qn_gH (qn_sT σ r1.2)) a1)).1 (qh_environmentSymbolOf (qn_gH (qn_sT (qn_sH (qn_sT σ r1.2) (qh_addEnvironment (qn_gH (qn_sT σ r1.2)) (qh_scopeOf (qn_gH (qn_sT σ r1.2)) a1)).2) r5.2)) a1)).2 (-5 : Int32))
            else some (qn_evaluateInTail (qn_s_environment (qn_bindCaller (qn_sT (qn_sH (qn_sT σ r1.2) (qh_addEnvironment (qn_gH (qn_sT σ r1.2)) (qh_scopeOf (qn_gH (qn_sT σ r1.2)) a1)).2) r5.2) (qh_addEnvironment (qn_gH (qn_sT σ r1.2)) (qh_scopeOf (qn_gH (qn_sT σ r1.2)) a1)).1 (qh_environmentSymbolOf (qn_gH (qn_sT (qn_sH (qn_sT σ r1.2) (qh_addEnvironment (qn_gH (qn_sT σ r1.2)) (qh_scopeOf (qn_gH (qn_sT σ r1.2)) a1)).2) r5.2)) a1)).2 (qh_addEnvironment (qn_gH (qn_sT σ r1.2)) (qh_scopeOf (qn_gH (qn_sT σ r1.2)) a1)).1) (qh_bodyOf (qn_gH (qn_bindCaller (qn_sT (qn_sH (qn_sT σ r1.2) (qh_addEnvironment (qn_gH (qn_sT σ r1.2)) (qh_scopeOf (qn_gH (qn_sT σ r1.2)) a1)).2) r5.2) (qh_addEnvironment (qn_gH (qn_sT σ r1.2)) (qh_scopeOf (qn_gH (qn_sT σ r1.2)) a1)).1 (qh_environmentSymbolOf (qn_gH (qn_sT (qn_sH (qn_sT σ r1.2) (qh_addEnvironment (qn_gH (qn_sT σ r1.2)) (qh_scopeOf (qn_gH (qn_sT σ r1.2)) a1)).2) r5.2)) a1)).2) a1))
def qn_combineCurrent (N : Nat) (σ : qn_S)  : Option qn_S :=
  if (qw_kindOf (qn_g_current σ)) = (6 : Int32) then ((qn_combineApplicative N σ)).bind fun r6 =>
      some r6
  else if (qw_kindOf (qn_g_current σ)) = (5 : Int32) then if (qh_isPrimitive (qw_rowOf (qn_g_current σ))) = (0 : Int32) then ((qn_combineCompound N σ (qw_rowOf (qn_g_current σ)))).bind fun r4 =>
          some r4
      else some (qn_s_mode σ (2 : Int32))
    else some (qn_fail σ (-7 : Int32))
def qn_hasDueCount (σ : qn_S) (a1 : Int32) (a2 : Int32) : Int32 :=
  if a1 < (0 : Int32) then (0 : Int32)
  else if (26 : Int32) ≤ a1 then (0 : Int32)
    else if a2 = (-1 : Int32) then (0 : Int32)
      else if (oc_f (Int32.toNatClampNeg a1)) = a2 then (1 : Int32)
        else if (oc_f (Int32.toNatClampNeg a1)) = (-1 : Int32) then (1 : Int32)
          else (0 : Int32)
def qh_elementOf_L6 (N : Nat) : Nat → qh_S → Int32 → Int64 → Int32 → Option Int64
  | 0 => fun _ _ _ _ => none
  | k + 1 => fun σ x3 x4 x6 =>
    if x3 ≤ x6 then some (qh_firstAt σ (qw_rowOf x4))
    else (qh_elementOf_L6 N k σ x3 (qh_secondAt σ (qw_rowOf x4)) (x6 + (1 : Int32)))
def qh_elementOf (N : Nat) (σ : qh_S) (a1 : Int64) (a3 : Int32) : Option Int64 :=
  (qh_elementOf_L6 N N σ a3 a1 (0 : Int32))
def qn_operand (N : Nat) (σ : qn_S) (a1 : Int32) : Option Int64 :=
  ((qh_elementOf N (qn_gH σ) (qn_g_operands σ) a1)).bind fun r1 =>
    some r1
def qt_hasFound_L2 (N : Nat) : Nat → qt_S → Int32 → Int32 → Option Int32
  | 0 => fun _ _ _ => none
  | k + 1 => fun σ x1 x2 =>
    if (qt_g_symbolCount σ) ≤ x2 then some (0 : Int32)
    else if (100 : Int32) ≤ x2 then some (0 : Int32)
      else if inb x2 100 = true then if (qt_g_symbols σ (Int32.toNatClampNeg x2)) = x1 then some (1 : Int32)
          else (qt_hasFound_L2 N k σ x1 (x2 + (1 : Int32)))
        else none
def qt_hasFound (N : Nat) (σ : qt_S) (a1 : Int32) : Option Int32 :=
  (qt_hasFound_L2 N N σ a1 (0 : Int32))
def qt_isParameterTree_L13 (N : Nat) : Nat → qt_S → Int32 → Int32 → Option (Int32 × qt_S)
  | 0 => fun _ _ _ => none
  | k + 1 => fun σ x3 x4 =>
    if (201 : Int32) ≤ x4 then if (qt_g_pendingCount σ) = (0 : Int32) then some ((1 : Int32), σ)
      else some ((0 : Int32), σ)
    else if (qt_g_pendingCount σ) ≤ (0 : Int32) then if (qt_g_pendingCount σ) = (0 : Int32) then some ((1 : Int32), σ)
        else some ((0 : Int32), σ)
      else if (qw_kindOf (qt_takeTree σ).1) = (2 : Int32) then ((qt_hasFound N (qt_takeTree σ).2 (qw_rowOf (qt_takeTree σ).1))).bind fun r6 =>
            if r6 = (0 : Int32) then (qt_isParameterTree_L13 N k (qt_find (qt_takeTree σ).2 (qw_rowOf (qt_takeTree σ).1) (3 : Int64)) x3 (x4 + (1 : Int32)))
            else some ((0 : Int32), (qt_takeTree σ).2)
        else if (qw_kindOf (qt_takeTree σ).1) = (3 : Int32) then (qt_isParameterTree_L13 N k (qt_takeTree σ).2 x3 (x4 + (1 : Int32)))
          else if (qw_kindOf (qt_takeTree σ).1) = (4 : Int32) then if (x3 + (1 : Int32)) ≤ (100 : Int32) then (qt_isParameterTree_L13 N k (qt_putOff (qt_putOff (qt_takeTree σ).2 (qh_cdrOf (qt_gH (qt_takeTree σ).2) (qt_takeTree σ).1) (3 : Int64)) (qh_carOf (qt_gH (qt_putOff (qt_takeTree σ).2 (qh_cdrOf (qt_gH (qt_takeTree σ).2) (qt_takeTree σ).1) (3 : Int64))) (qt_takeTree σ).1) (3 : Int64)) (x3 + (1 : Int32)) (x4 + (1 : Int32)))
              else some ((0 : Int32), (qt_takeTree σ).2)
            else if (qw_kindOf (qt_takeTree σ).1) = (5 : Int32) then some ((0 : Int32), (qt_takeTree σ).2)
              else if (qw_kindOf (qt_takeTree σ).1) = (6 : Int32) then some ((0 : Int32), (qt_takeTree σ).2)
                else if (qw_kindOf (qt_takeTree σ).1) = (7 : Int32) then some ((0 : Int32), (qt_takeTree σ).2)
                  else if (qw_kindOf (qt_takeTree σ).1) = (8 : Int32) then (qt_isParameterTree_L13 N k (qt_takeTree σ).2 x3 (x4 + (1 : Int32)))
                    else some ((0 : Int32), (qt_takeTree σ).2)
def qt_isParameterTree (N : Nat) (σ : qt_S) (a1 : Int64) : Option (Int32 × qt_S) :=
  (qt_isParameterTree_L13 N N (qt_start σ a1 (3 : Int64)) (0 : Int32) (0 : Int32))
def qn_canNameCaller (N : Nat) (σ : qn_S) (a1 : Int64) : Option Int32 :=
  if a1 = (8 : Int64) then some (1 : Int32)
  else if (qw_kindOf a1) = (2 : Int32) then ((qt_hasFound N (qn_gT σ) (qw_rowOf a1))).bind fun r3 =>
        if r3 = (0 : Int32) then some (1 : Int32)
        else some (0 : Int32)
    else some (0 : Int32)
def qn_isOperand (N : Nat) (σ : qn_S) (a1 : Int32) (a2 : Int32) : Option Int32 :=
  ((qh_elementOf N (qn_gH σ) (qn_g_operands σ) a1)).bind fun r1 =>
    if (qw_kindOf r1) = a2 then some (1 : Int32)
    else some (0 : Int32)
def qn_areIntegers_L7 (N : Nat) : Nat → qn_S → Int64 → Int32 → Option Int32
  | 0 => fun _ _ _ => none
  | k + 1 => fun σ x1 x3 =>
    if x1 = (3 : Int64) then some (1 : Int32)
    else if (4100 : Int32) ≤ x3 then some (1 : Int32)
      else if (qw_kindOf (qh_carOf (qn_gH σ) x1)) = (0 : Int32) then (qn_areIntegers_L7 N k σ (qh_cdrOf (qn_gH σ) x1) (x3 + (1 : Int32)))
        else some (0 : Int32)
def qn_areIntegers (N : Nat) (σ : qn_S)  : Option Int32 :=
  (qn_areIntegers_L7 N N σ (qn_g_operands σ) (0 : Int32))
def qw_isCombiner (a0 : Int64) : Int32 :=
  if (qw_kindOf a0) = (5 : Int32) then (1 : Int32)
  else if (qw_kindOf a0) = (6 : Int32) then (1 : Int32)
    else (0 : Int32)
def qn_haveDueKinds (N : Nat) (σ : qn_S) (a1 : Int32) (a2 : Int32) : Option (Int32 × qn_S) :=
  if a1 = (1 : Int32) then ((qn_operand N σ (0 : Int32))).bind fun r2 =>
      ((qt_isParameterTree N (qn_gT σ) r2)).bind fun r4 =>
        if r4.1 = (0 : Int32) then some ((0 : Int32), (qn_sT σ r4.2))
        else ((qn_operand N (qn_sT σ r4.2) (1 : Int32))).bind fun r7 =>
            ((qn_canNameCaller N (qn_sT σ r4.2) r7)).bind fun r9 =>
              if r9 = (0 : Int32) then some ((0 : Int32), (qn_sT σ r4.2))
              else some ((1 : Int32), (qn_sT σ r4.2))
  else if a1 = (2 : Int32) then ((qn_operand N σ (0 : Int32))).bind fun r13 =>
        ((qt_isParameterTree N (qn_gT σ) r13)).bind fun r15 =>
          some ((bz r15.1), (qn_sT σ r15.2))
    else if a1 = (3 : Int32) then ((qn_isOperand N σ (0 : Int32) (2 : Int32))).bind fun r18 =>
          some ((bz r18), σ)
      else if a1 = (4 : Int32) then ((qn_isOperand N σ (1 : Int32) (2 : Int32))).bind fun r21 =>
            some ((bz r21), σ)
        else if a1 = (5 : Int32) then some ((1 : Int32), σ)
          else if a1 = (6 : Int32) then some ((1 : Int32), σ)
            else if a1 = (7 : Int32) then some ((1 : Int32), σ)
              else if a1 = (8 : Int32) then some ((1 : Int32), σ)
                else if a1 = (9 : Int32) then some ((1 : Int32), σ)
                  else if a1 = (10 : Int32) then ((qn_areIntegers N σ)).bind fun r29 =>
                        some ((bz r29), σ)
                    else if a1 = (11 : Int32) then ((qn_areIntegers N σ)).bind fun r32 =>
                          some ((bz r32), σ)
                      else if a1 = (12 : Int32) then ((qn_areIntegers N σ)).bind fun r35 =>
                            some ((bz r35), σ)
                        else if a1 = (13 : Int32) then ((qn_areIntegers N σ)).bind fun r38 =>
                              some ((bz r38), σ)
                          else if a1 = (14 : Int32) then some ((1 : Int32), σ)
                            else if a1 = (15 : Int32) then some ((1 : Int32), σ)
                              else if a1 = (16 : Int32) then ((qn_isOperand N σ (0 : Int32) (4 : Int32))).bind fun r43 =>
                                    some ((bz r43), σ)
                                else if a1 = (17 : Int32) then ((qn_isOperand N σ (0 : Int32) (4 : Int32))).bind fun r46 =>
                                      some ((bz r46), σ)
                                  else if a1 = (18 : Int32) then some ((1 : Int32), σ)
                                    else if a1 = (19 : Int32) then some ((1 : Int32), σ)
                                      else if a1 = (20 : Int32) then ((qn_isOperand N σ (1 : Int32) (7 : Int32))).bind fun r51 =>
                                            some ((bz r51), σ)
                                        else if a1 = (21 : Int32) then ((qn_operand N σ (0 : Int32))).bind fun r54 =>
                                              some ((bz (qw_isCombiner r54)), σ)
                                          else if a1 = (22 : Int32) then ((qn_isOperand N σ (0 : Int32) (6 : Int32))).bind fun r57 =>
                                                some ((bz r57), σ)
                                            else if a1 = (23 : Int32) then if a2 = (0 : Int32) then some ((1 : Int32), σ)
                                                else if a2 = (1 : Int32) then ((qn_isOperand N σ (0 : Int32) (7 : Int32))).bind fun r62 =>
                                                      if r62 = (0 : Int32) then some ((0 : Int32), σ)
                                                      else some ((1 : Int32), σ)
                                                  else some ((0 : Int32), σ)
                                              else if a1 = (24 : Int32) then ((qn_isOperand N σ (0 : Int32) (6 : Int32))).bind fun r66 =>
                                                    some ((bz r66), σ)
                                                else some ((1 : Int32), σ)
def qh_addOperative (σ : qh_S) (a1 : Int64) (a3 : Int32) (a4 : Int64) (a6 : Int32) : Int32 × qh_S :=
  ((qh_add σ a4 ((((a1 <<< 7) ||| (Int32.toInt64 a3)) <<< 13) ||| (Int32.toInt64 a6))).1, (qh_add σ a4 ((((a1 <<< 7) ||| (Int32.toInt64 a3)) <<< 13) ||| (Int32.toInt64 a6))).2)
def qn_giveBackNew (σ : qn_S) (a1 : Int32) (a2 : Int32) : qn_S :=
  if a2 = (-1 : Int32) then (qn_fail σ (-5 : Int32))
  else (qn_giveBack σ (qw_make a1 (Int32.toInt64 a2)))
def qn_makeOperative (σ : qn_S) (a1 : Int64) (a3 : Int64) (a5 : Int64) : qn_S :=
  if a3 = (8 : Int64) then (qn_giveBackNew (qn_sH σ (qh_addOperative (qn_gH σ) a1 (127 : Int32) a5 (qn_g_environment σ)).2) (5 : Int32) (qh_addOperative (qn_gH σ) a1 (127 : Int32) a5 (qn_g_environment σ)).1)
  else (qn_giveBackNew (qn_sH σ (qh_addOperative (qn_gH σ) a1 (qw_rowOf a3) a5 (qn_g_environment σ)).2) (5 : Int32) (qh_addOperative (qn_gH σ) a1 (qw_rowOf a3) a5 (qn_g_environment σ)).1)
def qh_addApplicative (σ : qh_S) (a1 : Int64) : Int32 × qh_S :=
  ((qh_add σ a1 (0 : Int64)).1, (qh_add σ a1 (0 : Int64)).2)
def qn_makeFunction (σ : qn_S) (a1 : Int64) (a3 : Int64) : qn_S :=
  if (qh_addOperative (qn_gH σ) a1 (127 : Int32) a3 (qn_g_environment σ)).1 = (-1 : Int32) then (qn_fail (qn_sH σ (qh_addOperative (qn_gH σ) a1 (127 : Int32) a3 (qn_g_environment σ)).2) (-5 : Int32))
  else (qn_giveBackNew (qn_sH (qn_sH σ (qh_addOperative (qn_gH σ) a1 (127 : Int32) a3 (qn_g_environment σ)).2) (qh_addApplicative (qh_addOperative (qn_gH σ) a1 (127 : Int32) a3 (qn_g_environment σ)).2 (qw_make (5 : Int32) (Int32.toInt64 (qh_addOperative (qn_gH σ) a1 (127 : Int32) a3 (qn_g_environment σ)).1))).2) (6 : Int32) (qh_addApplicative (qh_addOperative (qn_gH σ) a1 (127 : Int32) a3 (qn_g_environment σ)).2 (qw_make (5 : Int32) (Int32.toInt64 (qh_addOperative (qn_gH σ) a1 (127 : Int32) a3 (qn_g_environment σ)).1))).1)
def qn_evaluateSequence (σ : qn_S) (a1 : Int64) : qn_S :=
  if a1 = (3 : Int64) then (qn_giveBack σ (8 : Int64))
  else if (qh_cdrOf (qn_gH σ) a1) = (3 : Int64) then (qn_evaluateInTail σ (qh_carOf (qn_gH σ) a1))
    else (qn_evaluateWithFrame σ (qh_carOf (qn_gH σ) a1) (6 : Int32) (qh_cdrOf (qn_gH σ) a1) (3 : Int64) (0 : Int32))
def qn_callSpecial (N : Nat) (σ : qn_S) (a1 : Int32) : Option qn_S :=
  if a1 = (0 : Int32) then ((qn_operand N σ (0 : Int32))).bind fun r2 =>
      some (qn_evaluateWithFrame σ r2 (2 : Int32) (qh_cdrOf (qn_gH σ) (qn_g_operands σ)) (3 : Int64) (0 : Int32))
  else if a1 = (1 : Int32) then ((qn_operand N σ (0 : Int32))).bind fun r5 =>
        ((qn_operand N σ (1 : Int32))).bind fun r7 =>
          ((qn_operand N σ (2 : Int32))).bind fun r9 =>
            some (qn_makeOperative σ r5 r7 r9)
    else if a1 = (2 : Int32) then ((qn_operand N σ (0 : Int32))).bind fun r12 =>
          ((qn_operand N σ (1 : Int32))).bind fun r14 =>
            some (qn_makeFunction σ r12 r14)
      else if a1 = (3 : Int32) then ((qn_operand N σ (1 : Int32))).bind fun r17 =>
            some (qn_evaluateWithFrame σ r17 (3 : Int32) (qn_g_operands σ) (3 : Int64) (0 : Int32))
        else if a1 = (4 : Int32) then ((qn_operand N σ (0 : Int32))).bind fun r20 =>
              some (qn_evaluateWithFrame σ r20 (4 : Int32) (qh_cdrOf (qn_gH σ) (qn_g_operands σ)) (3 : Int64) (0 : Int32))
          else if a1 = (5 : Int32) then some (qn_evaluateSequence σ (qn_g_operands σ))
            else if a1 = (6 : Int32) then ((qn_operand N σ (0 : Int32))).bind fun r24 =>
                  some (qn_giveBack σ r24)
              else if a1 = (7 : Int32) then some (qn_giveBack σ (qw_make (7 : Int32) (Int32.toInt64 (qn_g_environment σ))))
                else some (qn_giveBack σ (qw_make (7 : Int32) (Int32.toInt64 (qn_g_environment σ))))
def qw_product (a0 : Int64) (a2 : Int64) : Int64 :=
  if a0 = (0 : Int64) then (a0 * a2)
  else if ((1000000000000000 : Int64) / (qabs a0)) < (qabs a2) then (-9223372036854775808 : Int64)
    else (a0 * a2)
def qn_giveBackInteger (σ : qn_S) (a1 : Int64) : qn_S :=
  if (qw_isInteger a1) = (0 : Int32) then (qn_fail σ (-9 : Int32))
  else (qn_giveBack σ (qw_make (0 : Int32) a1))
def qn_accumulate_L19 (N : Nat) : Nat → qn_S → Int32 → Int64 → Int64 → Int32 → Option qn_S
  | 0 => fun _ _ _ _ _ => none
  | k + 1 => fun σ x1 x2 x4 x6 =>
    if x4 = (3 : Int64) then some (qn_giveBackInteger σ x2)
    else if (4100 : Int32) ≤ x6 then some (qn_giveBackInteger σ x2)
      else if x1 = (0 : Int32) then if (qw_isInteger (x2 + (qw_contentOf (qh_carOf (qn_gH σ) x4)))) = (0 : Int32) then some (qn_fail σ (-9 : Int32))
          else (qn_accumulate_L19 N k σ x1 (x2 + (qw_contentOf (qh_carOf (qn_gH σ) x4))) (qh_cdrOf (qn_gH σ) x4) (x6 + (1 : Int32)))
        else if (qw_isInteger (qw_product x2 (qw_contentOf (qh_carOf (qn_gH σ) x4)))) = (0 : Int32) then some (qn_fail σ (-9 : Int32))
          else (qn_accumulate_L19 N k σ x1 (qw_product x2 (qw_contentOf (qh_carOf (qn_gH σ) x4))) (qh_cdrOf (qn_gH σ) x4) (x6 + (1 : Int32)))
def qn_accumulate (N : Nat) (σ : qn_S) (a1 : Int32) : Option qn_S :=
  if a1 = (0 : Int32) then (qn_accumulate_L19 N N σ a1 (0 : Int64) (qn_g_operands σ) (0 : Int32))
  else (qn_accumulate_L19 N N σ a1 (1 : Int64) (qn_g_operands σ) (0 : Int32))
def qn_callDataFunction (N : Nat) (σ : qn_S) (a1 : Int32) : Option qn_S :=
  if a1 = (10 : Int32) then if a1 = (11 : Int32) then ((qn_accumulate N σ (1 : Int32))).bind fun r5 =>
        some r5
    else ((qn_accumulate N σ (0 : Int32))).bind fun r3 =>
        some r3
  else if a1 = (11 : Int32) then if a1 = (11 : Int32) then ((qn_accumulate N σ (1 : Int32))).bind fun r11 =>
          some r11
      else ((qn_accumulate N σ (0 : Int32))).bind fun r9 =>
          some r9
    else if a1 = (12 : Int32) then ((qn_operand N σ (0 : Int32))).bind fun r14 =>
          ((qn_operand N σ (1 : Int32))).bind fun r16 =>
            some (qn_giveBackInteger σ ((qw_contentOf r14) - (qw_contentOf r16)))
      else if a1 = (13 : Int32) then ((qn_operand N σ (0 : Int32))).bind fun r19 =>
            ((qn_operand N σ (1 : Int32))).bind fun r21 =>
              if (qw_contentOf r19) < (qw_contentOf r21) then some (qn_giveBack σ (qw_makeBoolean (1 : Int32)))
              else some (qn_giveBack σ (qw_makeBoolean (0 : Int32)))
        else if a1 = (14 : Int32) then ((qn_operand N σ (0 : Int32))).bind fun r25 =>
              ((qn_operand N σ (1 : Int32))).bind fun r27 =>
                if r25 = r27 then some (qn_giveBack σ (qw_makeBoolean (1 : Int32)))
                else some (qn_giveBack σ (qw_makeBoolean (0 : Int32)))
          else if a1 = (15 : Int32) then ((qn_operand N σ (0 : Int32))).bind fun r31 =>
                ((qn_operand N σ (1 : Int32))).bind fun r33 =>
                  some (qn_giveBackNew (qn_sH σ (qh_addPair (qn_gH σ) r31 r33).2) (4 : Int32) (qh_addPair (qn_gH σ) r31 r33).1)
            else if a1 = (16 : Int32) then ((qn_operand N σ (0 : Int32))).bind fun r36 =>
                  some (qn_giveBack σ (qh_carOf (qn_gH σ) r36))
              else if a1 = (17 : Int32) then ((qn_operand N σ (0 : Int32))).bind fun r39 =>
                    some (qn_giveBack σ (qh_cdrOf (qn_gH σ) r39))
                else if a1 = (18 : Int32) then ((qn_operand N σ (0 : Int32))).bind fun r42 =>
                      if r42 = (3 : Int64) then some (qn_giveBack σ (qw_makeBoolean (1 : Int32)))
                      else some (qn_giveBack σ (qw_makeBoolean (0 : Int32)))
                  else if a1 = (19 : Int32) then ((qn_isOperand N σ (0 : Int32) (4 : Int32))).bind fun r46 =>
                        some (qn_giveBack σ (qw_makeBoolean r46))
                    else ((qn_isOperand N σ (0 : Int32) (4 : Int32))).bind fun r48 =>
                        some (qn_giveBack σ (qw_makeBoolean r48))
def qn_makeEnvironment (σ : qn_S) (a1 : Int32) : qn_S :=
  (qn_giveBackNew (qn_sH σ (qh_addEnvironment (qn_gH σ) a1).2) (7 : Int32) (qh_addEnvironment (qn_gH σ) a1).1)
def qn_applyWithoutScope (N : Nat) (σ : qn_S)  : Option qn_S :=
  if (qh_addEnvironment (qn_gH σ) (-1 : Int32)).1 = (-1 : Int32) then some (qn_fail (qn_sH σ (qh_addEnvironment (qn_gH σ) (-1 : Int32)).2) (-5 : Int32))
  else ((qn_operand N (qn_sH σ (qh_addEnvironment (qn_gH σ) (-1 : Int32)).2) (0 : Int32))).bind fun r2 =>
      ((qn_operand N (qn_sH σ (qh_addEnvironment (qn_gH σ) (-1 : Int32)).2) (1 : Int32))).bind fun r4 =>
        some (qn_combine (qn_s_environment (qn_sH σ (qh_addEnvironment (qn_gH σ) (-1 : Int32)).2) (qh_addEnvironment (qn_gH σ) (-1 : Int32)).1) (qh_underlyingOf (qh_addEnvironment (qn_gH σ) (-1 : Int32)).2 r2) r4)
def qn_callScopeFunction (N : Nat) (σ : qn_S) (a1 : Int32) (a2 : Int32) : Option qn_S :=
  if a1 = (20 : Int32) then ((qn_operand N σ (1 : Int32))).bind fun r2 =>
      ((qn_operand N (qn_s_environment σ (qw_rowOf r2)) (0 : Int32))).bind fun r4 =>
        some (qn_evaluateInTail (qn_s_environment σ (qw_rowOf r2)) r4)
  else if a1 = (21 : Int32) then ((qn_operand N σ (0 : Int32))).bind fun r7 =>
        some (qn_giveBackNew (qn_sH σ (qh_addApplicative (qn_gH σ) r7).2) (6 : Int32) (qh_addApplicative (qn_gH σ) r7).1)
    else if a1 = (22 : Int32) then ((qn_operand N σ (0 : Int32))).bind fun r10 =>
          some (qn_giveBack σ (qh_underlyingOf (qn_gH σ) r10))
      else if a1 = (23 : Int32) then if a2 = (0 : Int32) then some (qn_makeEnvironment σ (-1 : Int32))
          else ((qn_operand N σ (0 : Int32))).bind fun r14 =>
              some (qn_makeEnvironment σ (qw_rowOf r14))
        else if a1 = (24 : Int32) then ((qn_applyWithoutScope N σ)).bind fun r17 =>
              some r17
          else if a1 = (25 : Int32) then some (qn_giveBack σ (qn_g_operands σ))
            else some (qn_giveBack σ (qn_g_operands σ))
def qn_callPrimitive (N : Nat) (σ : qn_S) (a1 : Int32) : Option qn_S :=
  ((qh_lengthOf N (qn_gH σ) (qn_g_operands σ))).bind fun r1 =>
    if (qn_hasDueCount σ a1 r1) = (0 : Int32) then some (qn_fail σ (-8 : Int32))
    else ((qn_haveDueKinds N σ a1 r1)).bind fun r4 =>
        if r4.1 = (0 : Int32) then some (qn_fail r4.2 (-8 : Int32))
        else if (10 : Int32) ≤ a1 then if (20 : Int32) ≤ a1 then ((qn_callScopeFunction N r4.2 a1 r1)).bind fun r9 =>
                some r9
            else ((qn_callDataFunction N r4.2 a1)).bind fun r11 =>
                some r11
          else ((qn_callSpecial N r4.2 a1)).bind fun r13 =>
              some r13
def qf_isEmpty (σ : qf_S)  : Int32 :=
  if (0 : Int32) < (qf_g_count σ) then (0 : Int32)
  else (1 : Int32)
def qf_take (σ : qf_S)  : qf_S :=
  if (qf_g_count σ) ≤ (0 : Int32) then σ
  else (qf_s_count σ ((qf_g_count σ) - (1 : Int32)))
def qf_canRead (σ : qf_S)  : Int32 :=
  if (qf_g_count σ) < (0 : Int32) then (0 : Int32)
  else if (300 : Int32) ≤ (qf_g_count σ) then (0 : Int32)
    else (1 : Int32)
def qf_environment (σ : qf_S)  : Int32 :=
  if (qf_canRead σ) = (0 : Int32) then (-1 : Int32)
  else (qf_g_environments σ (Int32.toNatClampNeg (qf_g_count σ)))
def qf_rest (σ : qf_S)  : Int64 :=
  if (qf_canRead σ) = (0 : Int32) then (3 : Int64)
  else (qf_g_rests σ (Int32.toNatClampNeg (qf_g_count σ)))
def qf_task (σ : qf_S)  : Int32 :=
  if (qf_canRead σ) = (0 : Int32) then (0 : Int32)
  else (qf_g_tasks σ (Int32.toNatClampNeg (qf_g_count σ)))
def qf_held (σ : qf_S)  : Int64 :=
  if (qf_canRead σ) = (0 : Int32) then (3 : Int64)
  else (qf_g_helds σ (Int32.toNatClampNeg (qf_g_count σ)))
def qf_gathered (σ : qf_S)  : Int32 :=
  if (qf_canRead σ) = (0 : Int32) then (0 : Int32)
  else (qf_g_gathereds σ (Int32.toNatClampNeg (qf_g_count σ)))
def qn_takeArgument (N : Nat) (σ : qn_S) (a1 : Int64) (a3 : Int64) (a5 : Int32) : Option qn_S :=
  if (qn_g_argumentCount σ) < (0 : Int32) then some (qn_fail σ (-10 : Int32))
  else if (qn_g_argumentCount σ) < (1500 : Int32) then ((qn_evaluateArguments N (qn_s_argumentCount (qn_t_arguments σ (qn_g_argumentCount σ) (qn_g_current σ)) ((qn_g_argumentCount σ) + (1 : Int32))) a1 a3 (a5 + (1 : Int32)))).bind fun r3 =>
        some r3
    else some (qn_fail σ (-10 : Int32))
def qn_choose (N : Nat) (σ : qn_S) (a1 : Int64) : Option qn_S :=
  if (qw_kindOf (qn_g_current σ)) = (1 : Int32) then if (qw_contentOf (qn_g_current σ)) = (1 : Int64) then ((qh_elementOf N (qn_gH σ) a1 (0 : Int32))).bind fun r5 =>
        some (qn_evaluateInTail σ r5)
    else ((qh_elementOf N (qn_gH σ) a1 (1 : Int32))).bind fun r3 =>
        some (qn_evaluateInTail σ r3)
  else some (qn_fail σ (-8 : Int32))
def qh_bind (N : Nat) (σ : qh_S) (a1 : Int32) (a2 : Int32) (a3 : Int64) : Option (Int32 × qh_S) :=
  ((qh_ownBinding N σ a1 a2)).bind fun r1 =>
    if r1 = (-1 : Int32) then some ((bz (qh_addBinding σ a1 a2 a3).1), (qh_addBinding σ a1 a2 a3).2)
    else some ((1 : Int32), (qh_write σ r1 a3 (qh_secondAt σ r1)))
def qn_bindCurrent (N : Nat) (σ : qn_S) (a1 : Int32) (a2 : Int64) : Option qn_S :=
  ((qh_bind N (qn_gH σ) a1 (qw_rowOf (qh_carOf (qn_gH σ) a2)) (qn_g_current σ))).bind fun r1 =>
    if r1.1 = (0 : Int32) then some (qn_fail (qn_sH σ r1.2) (-5 : Int32))
    else some (qn_giveBack (qn_sH σ r1.2) (8 : Int64))
def qn_takePlace (N : Nat) (σ : qn_S) (a1 : Int64) : Option qn_S :=
  if (qw_kindOf (qn_g_current σ)) = (7 : Int32) then ((qh_elementOf N (qn_gH σ) a1 (1 : Int32))).bind fun r2 =>
      some (qn_evaluateWithFrame σ r2 (5 : Int32) a1 (qn_g_current σ) (0 : Int32))
  else some (qn_fail σ (-8 : Int32))
def qn_returnCurrent (N : Nat) (σ : qn_S)  : Option qn_S :=
  if (qf_isEmpty (qn_gF σ)) = (0 : Int32) then if (qf_task (qf_take (qn_gF σ))) = (0 : Int32) then some (qn_combine (qn_s_environment (qn_sF σ (qf_take (qn_gF σ))) (qf_environment (qf_take (qn_gF σ)))) (qn_g_current σ) (qf_rest (qf_take (qn_gF σ))))
    else if (qf_task (qf_take (qn_gF σ))) = (1 : Int32) then ((qn_takeArgument N (qn_s_environment (qn_sF σ (qf_take (qn_gF σ))) (qf_environment (qf_take (qn_gF σ)))) (qf_rest (qf_take (qn_gF σ))) (qf_held (qf_take (qn_gF σ))) (qf_gathered (qf_take (qn_gF σ))))).bind fun r4 =>
          some r4
      else if (qf_task (qf_take (qn_gF σ))) = (2 : Int32) then ((qn_choose N (qn_s_environment (qn_sF σ (qf_take (qn_gF σ))) (qf_environment (qf_take (qn_gF σ)))) (qf_rest (qf_take (qn_gF σ))))).bind fun r7 =>
            some r7
        else if (qf_task (qf_take (qn_gF σ))) = (3 : Int32) then ((qn_bindCurrent N (qn_s_environment (qn_sF σ (qf_take (qn_gF σ))) (qf_environment (qf_take (qn_gF σ)))) (qf_environment (qf_take (qn_gF σ))) (qf_rest (qf_take (qn_gF σ))))).bind fun r10 =>
              some r10
          else if (qf_task (qf_take (qn_gF σ))) = (4 : Int32) then ((qn_takePlace N (qn_s_environment (qn_sF σ (qf_take (qn_gF σ))) (qf_environment (qf_take (qn_gF σ)))) (qf_rest (qf_take (qn_gF σ))))).bind fun r13 =>
                some r13
            else if (qf_task (qf_take (qn_gF σ))) = (5 : Int32) then ((qn_bindCurrent N (qn_s_environment (qn_sF σ (qf_take (qn_gF σ))) (qf_environment (qf_take (qn_gF σ)))) (qw_rowOf (qf_held (qf_take (qn_gF σ)))) (qf_rest (qf_take (qn_gF σ))))).bind fun r16 =>
                  some r16
              else if (qf_task (qf_take (qn_gF σ))) = (6 : Int32) then some (qn_evaluateSequence (qn_s_environment (qn_sF σ (qf_take (qn_gF σ))) (qf_environment (qf_take (qn_gF σ)))) (qf_rest (qf_take (qn_gF σ))))
                else some (qn_evaluateSequence (qn_s_environment (qn_sF σ (qf_take (qn_gF σ))) (qf_environment (qf_take (qn_gF σ)))) (qf_rest (qf_take (qn_gF σ))))
  else some (qn_s_mode σ (4 : Int32))
def qn_run_L23 (N : Nat) : Nat → qn_S → Int32 → Option (Int32 × qn_S)
  | 0 => fun _ _ => none
  | k + 1 => fun σ x5 =>
    if (10000000 : Int32) ≤ x5 then if (qn_g_failure σ) = (0 : Int32) then some ((qn_g_steps σ), σ)
      else some ((qn_g_failure σ), σ)
    else if (qn_g_mode σ) = (4 : Int32) then if (qn_g_failure σ) = (0 : Int32) then some ((qn_g_steps σ), σ)
        else some ((qn_g_failure σ), σ)
      else if (qn_g_mode σ) = (0 : Int32) then ((qn_evaluateCurrent N σ)).bind fun r6 =>
            (qn_run_L23 N k r6 (x5 + (1 : Int32)))
        else if (qn_g_mode σ) = (1 : Int32) then ((qn_combineCurrent N σ)).bind fun r9 =>
              (qn_run_L23 N k r9 (x5 + (1 : Int32)))
          else if (qn_g_mode σ) = (2 : Int32) then ((qn_callPrimitive N σ (qw_rowOf (qn_g_current σ)))).bind fun r12 =>
                (qn_run_L23 N k r12 (x5 + (1 : Int32)))
            else if (qn_g_mode σ) = (3 : Int32) then ((qn_returnCurrent N σ)).bind fun r15 =>
                  (qn_run_L23 N k r15 (x5 + (1 : Int32)))
              else ((qn_returnCurrent N σ)).bind fun r17 =>
                  (qn_run_L23 N k r17 (x5 + (1 : Int32)))
def qn_run (N : Nat) (σ : qn_S) (a1 : Int64) (a3 : Int32) (a4 : Int32) : Option (Int32 × qn_S) :=
  (qn_run_L23 N N (qn_evaluateInTail (qn_s_environment (qn_s_limit (qn_forget σ) a4) a3) a1) (0 : Int32))
def qn_answer (σ : qn_S)  : Int64 :=
  (qn_g_current σ)
def qx_evaluate (N : Nat) (σ : qx_S)  : Option (Int32 × qx_S) :=
  if (1 : Int32) ≤ (qx_g_stackSize σ) then ((qn_run N (qx_gN σ) (qx_valueAt σ (0 : Int32)) (qx_g_present σ) (qx_g_limit σ))).bind fun r2 =>
      if r2.1 ≤ (0 : Int32) then some (r2.1, (qx_sN (qx_s_stackSize σ ((qx_g_stackSize σ) - (1 : Int32))) r2.2))
      else some (r2.1, (qx_push (qx_sN (qx_s_stackSize σ ((qx_g_stackSize σ) - (1 : Int32))) r2.2) (qn_answer r2.2)).2)
  else some ((-2 : Int32), σ)
def qx_useEnvironment (σ : qx_S)  : Int32 × qx_S :=
  if (qx_kindError σ (0 : Int32) (7 : Int32)) = (0 : Int32) then (((qx_g_stackSize σ) - (1 : Int32)), (qx_s_stackSize (qx_s_present σ (qw_rowOf (qx_valueAt σ (0 : Int32)))) ((qx_g_stackSize σ) - (1 : Int32))))
  else ((qx_kindError σ (0 : Int32) (7 : Int32)), σ)
def qx_useUser (σ : qx_S)  : Int32 × qx_S :=
  if (qx_g_present σ) = (1 : Int32) then if (0 : Int32) = (0 : Int32) then ((0 : Int32), (qx_s_present σ (1 : Int32)))
    else ((1 : Int32), (qx_s_present σ (1 : Int32)))
  else if (1 : Int32) = (0 : Int32) then ((0 : Int32), (qx_s_present σ (1 : Int32)))
    else ((1 : Int32), (qx_s_present σ (1 : Int32)))
def qx_setLimit (σ : qx_S) (a1 : Int32) : Int32 × qx_S :=
  if a1 < (1 : Int32) then ((-1 : Int32), σ)
  else if a1 ≤ (1500 : Int32) then ((qx_g_limit σ), (qx_s_limit σ a1))
    else ((-1 : Int32), σ)
def qn_stepCount (σ : qn_S)  : Int32 :=
  (qn_g_steps σ)
def qf_greatestCount (σ : qf_S)  : Int32 :=
  (qf_g_most σ)
def qn_mostFrames (σ : qn_S)  : Int32 :=
  (qf_greatestCount (qn_gF σ))
def qx_latest (σ : qx_S) (a1 : Int32) : Int32 :=
  if a1 = (0 : Int32) then if a1 = (0 : Int32) then (qn_stepCount (qx_gN σ))
    else (qn_mostFrames (qx_gN σ))
  else if a1 = (1 : Int32) then if a1 = (0 : Int32) then (qn_stepCount (qx_gN σ))
      else (qn_mostFrames (qx_gN σ))
    else (-1 : Int32)
def qx_heapSize (σ : qx_S)  : Int32 :=
  (qh_objectCount (qx_gH σ))
