/-! one turn of each loop -/
theorem qh_restoreGround_L54_s (N k : Nat) (σ : qh_S) (x1 : Int32) : qh_restoreGround_L54 N (k + 1) σ x1 = (
    if (25 : Int32) < x1 then some σ
    else (qh_restoreGround_L54 N k (qh_bindInGround (qh_write σ x1 (qw_make (5 : Int32) (Int32.toInt64 x1)) (0 : Int64)) x1 (qw_make (6 : Int32) (Int32.toInt64 x1))) (x1 + (1 : Int32)))) := rfl
theorem qh_restoreGround_L28_s (N k : Nat) (σ : qh_S) (x1 : Int32) : qh_restoreGround_L28 N (k + 1) σ x1 = (
    if (7 : Int32) < x1 then (qh_restoreGround_L54 N N σ (10 : Int32))
    else (qh_restoreGround_L28 N k (qh_bindInGround σ x1 (qw_make (5 : Int32) (Int32.toInt64 x1))) (x1 + (1 : Int32)))) := rfl
theorem qh_ownBinding_L9_s (N k : Nat) (σ : qh_S) (x2 : Int32) (x3 : Int32) (x4 : Int32) : qh_ownBinding_L9 N (k + 1) σ x2 x3 x4 = (
    if x3 = (-1 : Int32) then some (-1 : Int32)
    else if (4100 : Int32) ≤ x4 then some (-1 : Int32)
      else if (qh_symbolIn (qh_secondAt σ x3)) = x2 then some x3
        else (qh_ownBinding_L9 N k σ x2 (qh_nextIn (qh_secondAt σ x3)) (x4 + (1 : Int32)))) := rfl
theorem qh_visibleBinding_L5_s (N k : Nat) (σ : qh_S) (x2 : Int32) (x3 : Int32) (x4 : Int32) : qh_visibleBinding_L5 N (k + 1) σ x2 x3 x4 = (
    if x3 = (-1 : Int32) then some (-1 : Int32)
    else if (4100 : Int32) ≤ x4 then some (-1 : Int32)
      else ((qh_ownBinding N σ x3 x2)).bind fun r3 =>
          if r3 = (-1 : Int32) then (qh_visibleBinding_L5 N k σ x2 (qh_parentOf σ x3) (x4 + (1 : Int32)))
          else some r3) := rfl
theorem qx_makeList_L33_s (N k : Nat) (σ : qx_S) (x1 : Int32) (x3 : Int64) (x5 : Int32) : qx_makeList_L33 N (k + 1) σ x1 x3 x5 = (
    if x1 ≤ x5 then some ((qx_push (qx_s_stackSize σ ((qx_g_stackSize σ) - x1)) x3).1, (qx_push (qx_s_stackSize σ ((qx_g_stackSize σ) - x1)) x3).2)
    else (qx_makeList_L33 N k (qx_sH σ (qh_addPair (qx_gH σ) (qx_valueAt σ x5) x3).2) x1 (qw_make (4 : Int32) (Int32.toInt64 (qh_addPair (qx_gH σ) (qx_valueAt σ x5) x3).1)) (x5 + (1 : Int32)))) := rfl
theorem qh_lengthOf_L5_s (N k : Nat) (σ : qh_S) (x3 : Int64) (x5 : Int32) : qh_lengthOf_L5 N (k + 1) σ x3 x5 = (
    if (4100 : Int32) < x5 then some (-1 : Int32)
    else if x3 = (3 : Int64) then some x5
      else if (qw_kindOf x3) = (4 : Int32) then (qh_lengthOf_L5 N k σ (qh_cdrOf σ x3) (x5 + (1 : Int32)))
        else some (-1 : Int32)) := rfl
theorem qh_countBindings_L8_s (N k : Nat) (σ : qh_S) (x2 : Int32) (x3 : Int32) : qh_countBindings_L8 N (k + 1) σ x2 x3 = (
    if x3 = (-1 : Int32) then some x2
    else if (4100 : Int32) ≤ x2 then some x2
      else (qh_countBindings_L8 N k σ (x2 + (1 : Int32)) (qh_nextIn (qh_secondAt σ x3)))) := rfl
theorem qn_combineWithArguments_L8_s (N k : Nat) (σ : qn_S) (x1 : Int64) (x3 : Int32) (x4 : Int64) (x6 : Int32) : qn_combineWithArguments_L8 N (k + 1) σ x1 x3 x4 x6 = (
    if x3 ≤ x6 then some (qn_combine σ x1 x4)
    else if (qh_addPair (qn_gH σ) (qn_latestArgument σ) x4).1 = (-1 : Int32) then some (qn_fail (qn_sH σ (qh_addPair (qn_gH σ) (qn_latestArgument σ) x4).2) (-5 : Int32))
      else (qn_combineWithArguments_L8 N k (qn_s_argumentCount (qn_sH σ (qh_addPair (qn_gH σ) (qn_latestArgument σ) x4).2) ((qn_g_argumentCount σ) - (1 : Int32))) x1 x3 (qw_make (4 : Int32) (Int32.toInt64 (qh_addPair (qn_gH σ) (qn_latestArgument σ) x4).1)) (x6 + (1 : Int32)))) := rfl
theorem qt_matches_L9_s (N k : Nat) (σ : qt_S) (x5 : Int32) : qt_matches_L9 N (k + 1) σ x5 = (
    if (201 : Int32) ≤ x5 then if (qt_g_pendingCount σ) = (0 : Int32) then some ((1 : Int32), σ)
      else some ((0 : Int32), σ)
    else if (qt_g_pendingCount σ) ≤ (0 : Int32) then if (qt_g_pendingCount σ) = (0 : Int32) then some ((1 : Int32), σ)
        else some ((0 : Int32), σ)
      else if (qw_kindOf (qt_takeTree σ).1) = (2 : Int32) then (qt_matches_L9 N k (qt_find (qt_takeTree σ).2 (qw_rowOf (qt_takeTree σ).1) (qt_takenPart (qt_takeTree σ).2)) (x5 + (1 : Int32)))
        else if (qw_kindOf (qt_takeTree σ).1) = (3 : Int32) then if (qt_takenPart (qt_takeTree σ).2) = (3 : Int64) then (qt_matches_L9 N k (qt_takeTree σ).2 (x5 + (1 : Int32)))
            else some ((0 : Int32), (qt_takeTree σ).2)
          else if (qw_kindOf (qt_takeTree σ).1) = (4 : Int32) then if (qw_kindOf (qt_takenPart (qt_takeTree σ).2)) = (4 : Int32) then (qt_matches_L9 N k (qt_putOff (qt_putOff (qt_takeTree σ).2 (qh_cdrOf (qt_gH (qt_takeTree σ).2) (qt_takeTree σ).1) (qh_cdrOf (qt_gH (qt_takeTree σ).2) (qt_takenPart (qt_takeTree σ).2))) (qh_carOf (qt_gH (qt_putOff (qt_takeTree σ).2 (qh_cdrOf (qt_gH (qt_takeTree σ).2) (qt_takeTree σ).1) (qh_cdrOf (qt_gH (qt_takeTree σ).2) (qt_takenPart (qt_takeTree σ).2)))) (qt_takeTree σ).1) (qh_carOf (qt_gH (qt_putOff (qt_takeTree σ).2 (qh_cdrOf (qt_gH (qt_takeTree σ).2) (qt_takeTree σ).1) (qh_cdrOf (qt_gH (qt_takeTree σ).2) (qt_takenPart (qt_takeTree σ).2)))) (qt_takenPart (qt_takeTree σ).2))) (x5 + (1 : Int32)))
              else some ((0 : Int32), (qt_takeTree σ).2)
            else (qt_matches_L9 N k (qt_takeTree σ).2 (x5 + (1 : Int32)))) := rfl
theorem qt_bindFound_L2_s (N k : Nat) (σ : qt_S) (x1 : Int32) (x2 : Int32) : qt_bindFound_L2 N (k + 1) σ x1 x2 = (
    if (qt_g_symbolCount σ) ≤ x2 then some ((1 : Int32), σ)
    else if (100 : Int32) ≤ x2 then some ((1 : Int32), σ)
      else if inb x2 100 = true then if inb x2 100 = true then if (qh_addBinding (qt_gH σ) x1 (qt_g_symbols σ (Int32.toNatClampNeg x2)) (qt_g_parts σ (Int32.toNatClampNeg x2))).1 = (0 : Int32) then some ((0 : Int32), (qt_sH σ (qh_addBinding (qt_gH σ) x1 (qt_g_symbols σ (Int32.toNatClampNeg x2)) (qt_g_parts σ (Int32.toNatClampNeg x2))).2))
            else (qt_bindFound_L2 N k (qt_sH σ (qh_addBinding (qt_gH σ) x1 (qt_g_symbols σ (Int32.toNatClampNeg x2)) (qt_g_parts σ (Int32.toNatClampNeg x2))).2) x1 (x2 + (1 : Int32)))
          else none
        else none) := rfl
theorem qh_elementOf_L6_s (N k : Nat) (σ : qh_S) (x3 : Int32) (x4 : Int64) (x6 : Int32) : qh_elementOf_L6 N (k + 1) σ x3 x4 x6 = (
    if x3 ≤ x6 then some (qh_firstAt σ (qw_rowOf x4))
    else (qh_elementOf_L6 N k σ x3 (qh_secondAt σ (qw_rowOf x4)) (x6 + (1 : Int32)))) := rfl
theorem qt_hasFound_L2_s (N k : Nat) (σ : qt_S) (x1 : Int32) (x2 : Int32) : qt_hasFound_L2 N (k + 1) σ x1 x2 = (
    if (qt_g_symbolCount σ) ≤ x2 then some (0 : Int32)
    else if (100 : Int32) ≤ x2 then some (0 : Int32)
      else if inb x2 100 = true then if (qt_g_symbols σ (Int32.toNatClampNeg x2)) = x1 then some (1 : Int32)
          else (qt_hasFound_L2 N k σ x1 (x2 + (1 : Int32)))
        else none) := rfl
theorem qt_isParameterTree_L13_s (N k : Nat) (σ : qt_S) (x3 : Int32) (x4 : Int32) : qt_isParameterTree_L13 N (k + 1) σ x3 x4 = (
    if (201 : Int32) ≤ x4 then if (qt_g_pendingCount σ) = (0 : Int32) then some ((1 : Int32), σ)
      else some ((0 : Int32), σ)
    else if (qt_g_pendingCount σ) ≤ (0 : Int32) then if (qt_g_pendingCount σ) = (0 : Int32) then some ((1 : Int32), σ)
        else some ((0 : Int32), σ)
      else if (qw_kindOf (qt_takeTree σ).1) = (2 : Int32) then ((qt_hasFound N (qt_takeTree σ).2 (qw_rowOf (qt_takeTree σ).1))).bind fun r6 =>
            if r6 = (0 : Int32) then (qt_isParameterTree_L13 N k (qt_find (qt_takeTree σ).2 (qw_rowOf (qt_takeTree σ).1) (3 : Int64)) x3 (x4 + (1 : Int32)))
            else some ((0 : Int32), (qt_takeTree σ).2)
        else if (qw_kindOf (qt_takeTree σ).1) = (3 : Int32) then (qt_isParameterTree_L13 N k (qt_takeTree σ).2 x3 (x4 + (1 : Int32)))
          else if (qw_kindOf (qt_takeTree σ).1) = (4 : Int32) then if (x3 + (1 : Int32)) ≤ (100 : Int32) then (qt_isParameterTree_L13 N k (qt_putOff (qt_putOff (qt_takeTree σ).2 (qh_cdrOf (qt_gH (qt_takeTree σ).2) (qt_takeTree σ).1) (3 : Int64)) (qh_carOf (qt_gH (qt_putOff (qt_takeTree σ).2 (qh_cdrOf (qt_gH (qt_takeTree σ).2) (qt_takeTree σ).1) (3 : Int64))) (qt_takeTree σ).1) (3 : Int64)) (x3 + (1 : Int32)) (x4 + (1 : Int32)))
              else some ((0 : Int32), (qt_takeTree σ).2)
            else if (qw_kindOf (qt_takeTree σ).1) = (5 : Int32) then some ((0 : Int32), (qt_takeTree σ).2)
              else if (qw_kindOf (qt_takeTree σ).1) = (6 : Int32) then some ((0 : Int32), (qt_takeTree σ).2)
                else if (qw_kindOf (qt_takeTree σ).1) = (7 : Int32) then some ((0 : Int32), (qt_takeTree σ).2)
                  else if (qw_kindOf (qt_takeTree σ).1) = (8 : Int32) then (qt_isParameterTree_L13 N k (qt_takeTree σ).2 x3 (x4 + (1 : Int32)))
                    else some ((0 : Int32), (qt_takeTree σ).2)) := rfl
theorem qn_areIntegers_L7_s (N k : Nat) (σ : qn_S) (x1 : Int64) (x3 : Int32) : qn_areIntegers_L7 N (k + 1) σ x1 x3 = (
    if x1 = (3 : Int64) then some (1 : Int32)
    else if (4100 : Int32) ≤ x3 then some (1 : Int32)
      else if (qw_kindOf (qh_carOf (qn_gH σ) x1)) = (0 : Int32) then (qn_areIntegers_L7 N k σ (qh_cdrOf (qn_gH σ) x1) (x3 + (1 : Int32)))
        else some (0 : Int32)) := rfl
theorem qn_accumulate_L19_s (N k : Nat) (σ : qn_S) (x1 : Int32) (x2 : Int64) (x4 : Int64) (x6 : Int32) : qn_accumulate_L19 N (k + 1) σ x1 x2 x4 x6 = (
    if x4 = (3 : Int64) then some (qn_giveBackInteger σ x2)
    else if (4100 : Int32) ≤ x6 then some (qn_giveBackInteger σ x2)
      else if x1 = (0 : Int32) then if (qw_isInteger (x2 + (qw_contentOf (qh_carOf (qn_gH σ) x4)))) = (0 : Int32) then some (qn_fail σ (-9 : Int32))
          else (qn_accumulate_L19 N k σ x1 (x2 + (qw_contentOf (qh_carOf (qn_gH σ) x4))) (qh_cdrOf (qn_gH σ) x4) (x6 + (1 : Int32)))
        else if (qw_isInteger (qw_product x2 (qw_contentOf (qh_carOf (qn_gH σ) x4)))) = (0 : Int32) then some (qn_fail σ (-9 : Int32))
          else (qn_accumulate_L19 N k σ x1 (qw_product x2 (qw_contentOf (qh_carOf (qn_gH σ) x4))) (qh_cdrOf (qn_gH σ) x4) (x6 + (1 : Int32)))) := rfl
theorem qn_run_L23_s (N k : Nat) (σ : qn_S) (x5 : Int32) : qn_run_L23 N (k + 1) σ x5 = (
    if (10000000 : Int32) ≤ x5 then if (qn_g_failure σ) = (0 : Int32) then some ((qn_g_steps σ), σ)
      else some ((qn_g_failure σ), σ)
    else if (qn_g_mode σ) = (4 : Int32) then if (qn_g_failure σ) = (0 : Int32) then some ((qn_g_steps σ), σ)
        else some ((qn_g_failure σ), σ)
      else if (qn_g_mode σ) = (0 : Int32) then ((qn_evaluateCurrent N σ)).bind fun r6 =>
            (qn_run_L23 N k r6 (x5 + (1 : Int32)))
        else if (qn_g_mode σ) = (1 : Int32) then ((qn_combineCurrent N σ)).bind fun r9 =>
              (qn_run_L23 N k r9 (x5 + (1 : Int32)))
          else if (qn_g_mode σ) = (2 : Int32) then ((qn_callPrimitive N σ (qw_rowOf (qn_g_current σ)))).bind fun r12 =>
                (qn_run_L23 N k r12 (x5 + (1 : Int32)))
            else if (qn_g_mode σ) = (3 : Int32) then ((qn_returnCurrent N σ)).bind fun r15 =>
                  (qn_run_L23 N k r15 (x5 + (1 : Int32)))
              else ((qn_returnCurrent N σ)).bind fun r17 =>
                  (qn_run_L23 N k r17 (x5 + (1 : Int32)))) := rfl
theorem qm_begin_L43_s (N k : Nat) (σ : qm_S) (x1 : Int32) : qm_begin_L43 N (k + 1) σ x1 = (
    if (100 : Int32) ≤ x1 then some σ
    else if x1 < (8 : Int32) then if inb x1 100 = true then if (8 : Int32) ≤ x1 then if inb x1 100 = true then (qm_begin_L43 N k (qm_t_groundValue (qm_t_isGround σ x1 (1 : Int32)) x1 (qm_made (6 : Int32) ((-1 : Int64) - (Int32.toInt64 x1)))) (x1 + (1 : Int32)))
            else none
          else if inb x1 100 = true then (qm_begin_L43 N k (qm_t_groundValue (qm_t_isGround σ x1 (1 : Int32)) x1 (qm_made (5 : Int32) ((-1 : Int64) - (Int32.toInt64 x1)))) (x1 + (1 : Int32)))
            else none
        else none
      else if (qm_within (Int32.toInt64 x1) (10 : Int64) (25 : Int64)) = (0 : Int32) then if inb x1 100 = true then if (8 : Int32) ≤ x1 then if inb x1 100 = true then (qm_begin_L43 N k (qm_t_groundValue (qm_t_isGround σ x1 (0 : Int32)) x1 (qm_made (6 : Int32) ((-1 : Int64) - (Int32.toInt64 x1)))) (x1 + (1 : Int32)))
              else none
            else if inb x1 100 = true then (qm_begin_L43 N k (qm_t_groundValue (qm_t_isGround σ x1 (0 : Int32)) x1 (qm_made (5 : Int32) ((-1 : Int64) - (Int32.toInt64 x1)))) (x1 + (1 : Int32)))
              else none
          else none
        else if inb x1 100 = true then if (8 : Int32) ≤ x1 then if inb x1 100 = true then (qm_begin_L43 N k (qm_t_groundValue (qm_t_isGround σ x1 (1 : Int32)) x1 (qm_made (6 : Int32) ((-1 : Int64) - (Int32.toInt64 x1)))) (x1 + (1 : Int32)))
              else none
            else if inb x1 100 = true then (qm_begin_L43 N k (qm_t_groundValue (qm_t_isGround σ x1 (1 : Int32)) x1 (qm_made (5 : Int32) ((-1 : Int64) - (Int32.toInt64 x1)))) (x1 + (1 : Int32)))
              else none
          else none) := rfl
theorem qm_findsOwn_L41_s (N k : Nat) (σ : qm_S) (x3 : Int32) : qm_findsOwn_L41 N (k + 1) σ x3 = (
    if (qm_g_foundAt σ) < (0 : Int32) then (qm_findsOwn_B77 N σ)
    else if inb (qm_g_foundAt σ) 4000 = true then if (qm_g_symbolOf σ (Int32.toNatClampNeg (qm_g_foundAt σ))) = x3 then (qm_findsOwn_B77 N σ)
        else if inb (qm_g_foundAt σ) 4000 = true then (qm_findsOwn_L41 N k (qm_s_foundAt σ (qm_g_nextOf σ (Int32.toNatClampNeg (qm_g_foundAt σ)))) x3)
          else none
      else none) := rfl
theorem qm_finds_L3_s (N k : Nat) (σ : qm_S) (x3 : Int32) (x4 : Int64) : qm_finds_L3 N (k + 1) σ x3 x4 = (
    if x4 = (-1 : Int64) then some ((0 : Int32), σ)
    else ((qm_findsOwn N σ x4 x3)).bind fun r2 =>
        if r2.1 = (0 : Int32) then ((qm_parentOf r2.2 x4)).bind fun r5 =>
            (qm_finds_L3 N k r2.2 x3 r5)
        else some ((1 : Int32), r2.2)) := rfl
theorem qm_longOf_L5_s (N k : Nat) (σ : qm_S) (x3 : Int32) (x4 : Int64) : qm_longOf_L5 N (k + 1) σ x3 x4 = (
    if (qm_kindOf x4) = (4 : Int32) then ((qm_cdrOf σ x4)).bind fun r3 =>
        (qm_longOf_L5 N k σ (x3 + (1 : Int32)) r3)
    else if (qm_kindOf x4) = (3 : Int32) then some x3
      else some (-1 : Int32)) := rfl
theorem qm_elementOf_L6_s (N k : Nat) (σ : qm_S) (x3 : Int32) (x4 : Int64) (x6 : Int32) : qm_elementOf_L6 N (k + 1) σ x3 x4 x6 = (
    if x3 ≤ x6 then ((qm_carOf σ x4)).bind fun r2 =>
        some r2
    else ((qm_cdrOf σ x4)).bind fun r4 =>
        (qm_elementOf_L6 N k σ x3 r4 (x6 + (1 : Int32)))) := rfl
theorem qm_makeList_L57_s (N k : Nat) (σ : qm_S) (x1 : Int32) (x2 : Int64) (x4 : Int32) : qm_makeList_L57 N (k + 1) σ x1 x2 x4 = (
    if x1 ≤ x4 then ((qm_pushes (qm_s_values σ ((qm_g_values σ) - x1)) x2)).bind fun r8 =>
        some (r8.1, r8.2)
    else ((qm_at σ x4)).bind fun r10 =>
        ((qm_adds σ (4 : Int32) r10 x2)).bind fun r12 =>
          (qm_makeList_L57 N k r12.2 x1 r12.1 (x4 + (1 : Int32)))) := rfl
theorem qm_bindingCount_L36_s (N k : Nat) (σ : qm_S) (x3 : Int64) (x5 : Int32) (x6 : Int32) : qm_bindingCount_L36 N (k + 1) σ x3 x5 x6 = (
    if (100 : Int32) ≤ x6 then some (x5, σ)
    else ((qm_findsOwn N σ x3 x6)).bind fun r6 =>
        if r6.1 = (0 : Int32) then (qm_bindingCount_L36 N k r6.2 x3 (x5 + (0 : Int32)) (x6 + (1 : Int32)))
        else (qm_bindingCount_L36 N k r6.2 x3 (x5 + (1 : Int32)) (x6 + (1 : Int32)))) := rfl
theorem qm_goesOn_L42_s (N k : Nat) (σ : qm_S) (x1 : Int64) (x5 : Int64) (x7 : Int32) (x8 : Int64) (x10 : Int32) : qm_goesOn_L42 N (k + 1) σ x1 x5 x7 x8 x10 = (
    if x10 < x7 then ((qm_underOf (qm_s_resultMany σ x7) x1)).bind fun r9 =>
        some ((qm_combines (qm_s_resultMany σ x7) r9 x8 x5).1, (qm_combines (qm_s_resultMany σ x7) r9 x8 x5).2)
    else if (qm_isFull σ) = (0 : Int32) then if inb x10 1501 = true then ((qm_adds σ (4 : Int32) (qm_g_results σ (Int32.toNatClampNeg x10)) x8)).bind fun r13 =>
            (qm_goesOn_L42 N k r13.2 x1 x5 x7 r13.1 (x10 - (1 : Int32)))
        else none
      else some ((-5 : Int32), σ)) := rfl
theorem qm_isTree_L33_s (N k : Nat) (σ : qm_S) (x3 : Int32) (x4 : Int32) : qm_isTree_L33 N (k + 1) σ x3 x4 = (
    if x3 ≤ (0 : Int32) then some ((1 : Int32), σ)
    else if inb (x3 - (1 : Int32)) 204 = true then if (qm_kindOf (qm_g_treeLeft σ (Int32.toNatClampNeg (x3 - (1 : Int32))))) = (4 : Int32) then if (x4 + (1 : Int32)) ≤ (100 : Int32) then ((qm_cdrOf σ (qm_g_treeLeft σ (Int32.toNatClampNeg (x3 - (1 : Int32)))))).bind fun r13 =>
              if inb (x3 - (1 : Int32)) 204 = true then ((qm_carOf (qm_t_treeLeft σ (x3 - (1 : Int32)) r13) (qm_g_treeLeft σ (Int32.toNatClampNeg (x3 - (1 : Int32)))))).bind fun r16 =>
                  if inb ((x3 - (1 : Int32)) + (1 : Int32)) 204 = true then (qm_isTree_L33 N k (qm_t_treeLeft (qm_t_treeLeft σ (x3 - (1 : Int32)) r13) ((x3 - (1 : Int32)) + (1 : Int32)) r16) ((x3 - (1 : Int32)) + (2 : Int32)) (x4 + (1 : Int32)))
                  else none
              else none
          else some ((0 : Int32), σ)
        else if (qm_kindOf (qm_g_treeLeft σ (Int32.toNatClampNeg (x3 - (1 : Int32))))) = (2 : Int32) then if inb (qm_indexOf σ (qm_g_treeLeft σ (Int32.toNatClampNeg (x3 - (1 : Int32))))) 100 = true then if (qm_g_isSeen σ (Int32.toNatClampNeg (qm_indexOf σ (qm_g_treeLeft σ (Int32.toNatClampNeg (x3 - (1 : Int32))))))) = (0 : Int32) then if inb (qm_indexOf σ (qm_g_treeLeft σ (Int32.toNatClampNeg (x3 - (1 : Int32))))) 100 = true then (qm_isTree_L33 N k (qm_t_isSeen σ (qm_indexOf σ (qm_g_treeLeft σ (Int32.toNatClampNeg (x3 - (1 : Int32))))) (1 : Int32)) (x3 - (1 : Int32)) x4)
                else none
              else some ((0 : Int32), σ)
            else none
          else if (qm_kindOf (qm_g_treeLeft σ (Int32.toNatClampNeg (x3 - (1 : Int32))))) = (3 : Int32) then (qm_isTree_L33 N k σ (x3 - (1 : Int32)) x4)
            else if (qm_kindOf (qm_g_treeLeft σ (Int32.toNatClampNeg (x3 - (1 : Int32))))) = (8 : Int32) then (qm_isTree_L33 N k σ (x3 - (1 : Int32)) x4)
              else some ((0 : Int32), σ)
      else none) := rfl
theorem qm_isTree_L2_s (N k : Nat) (σ : qm_S) (x1 : Int64) (x3 : Int32) : qm_isTree_L2 N (k + 1) σ x1 x3 = (
    if (100 : Int32) ≤ x3 then (qm_isTree_L33 N N (qm_t_treeLeft σ (0 : Int32) x1) (1 : Int32) (0 : Int32))
    else if inb x3 100 = true then (qm_isTree_L2 N k (qm_t_isSeen σ x3 (0 : Int32)) x1 (x3 + (1 : Int32)))
      else none) := rfl
theorem qm_matches_L22_s (N k : Nat) (σ : qm_S) (x5 : Int32) : qm_matches_L22 N (k + 1) σ x5 = (
    if x5 ≤ (0 : Int32) then some ((1 : Int32), σ)
    else if inb (x5 - (1 : Int32)) 204 = true then if inb (x5 - (1 : Int32)) 204 = true then if (qm_kindOf (qm_g_treeLeft σ (Int32.toNatClampNeg (x5 - (1 : Int32))))) = (2 : Int32) then if inb (qm_g_bound σ) 102 = true then if inb (qm_g_bound σ) 102 = true then (qm_matches_L22 N k (qm_s_bound (qm_t_boundValue (qm_t_boundSymbol σ (qm_g_bound σ) (qm_indexOf σ (qm_g_treeLeft σ (Int32.toNatClampNeg (x5 - (1 : Int32)))))) (qm_g_bound σ) (qm_g_matchLeft σ (Int32.toNatClampNeg (x5 - (1 : Int32))))) ((qm_g_bound σ) + (1 : Int32))) (x5 - (1 : Int32)))
              else none
            else none
          else if (qm_kindOf (qm_g_treeLeft σ (Int32.toNatClampNeg (x5 - (1 : Int32))))) = (8 : Int32) then if (qm_kindOf (qm_g_treeLeft σ (Int32.toNatClampNeg (x5 - (1 : Int32))))) = (4 : Int32) then ((qm_cdrOf σ (qm_g_treeLeft σ (Int32.toNatClampNeg (x5 - (1 : Int32)))))).bind fun r7 =>
                  if inb (x5 - (1 : Int32)) 204 = true then ((qm_cdrOf (qm_t_treeLeft σ (x5 - (1 : Int32)) r7) (qm_g_matchLeft σ (Int32.toNatClampNeg (x5 - (1 : Int32)))))).bind fun r10 =>
                      if inb (x5 - (1 : Int32)) 204 = true then ((qm_carOf (qm_t_matchLeft (qm_t_treeLeft σ (x5 - (1 : Int32)) r7) (x5 - (1 : Int32)) r10) (qm_g_treeLeft σ (Int32.toNatClampNeg (x5 - (1 : Int32)))))).bind fun r13 =>
                          if inb ((x5 - (1 : Int32)) + (1 : Int32)) 204 = true then ((qm_carOf (qm_t_treeLeft (qm_t_matchLeft (qm_t_treeLeft σ (x5 - (1 : Int32)) r7) (x5 - (1 : Int32)) r10) ((x5 - (1 : Int32)) + (1 : Int32)) r13) (qm_g_matchLeft σ (Int32.toNatClampNeg (x5 - (1 : Int32)))))).bind fun r16 =>
                              if inb ((x5 - (1 : Int32)) + (1 : Int32)) 204 = true then (qm_matches_L22 N k (qm_t_matchLeft (qm_t_treeLeft (qm_t_matchLeft (qm_t_treeLeft σ (x5 - (1 : Int32)) r7) (x5 - (1 : Int32)) r10) ((x5 - (1 : Int32)) + (1 : Int32)) r13) ((x5 - (1 : Int32)) + (1 : Int32)) r16) ((x5 - (1 : Int32)) + (2 : Int32)))
                              else none
                          else none
                      else none
                  else none
              else (qm_matches_L22 N k σ (x5 - (1 : Int32)))
            else if (qm_kindOf (qm_g_treeLeft σ (Int32.toNatClampNeg (x5 - (1 : Int32))))) = (qm_kindOf (qm_g_matchLeft σ (Int32.toNatClampNeg (x5 - (1 : Int32))))) then if (qm_kindOf (qm_g_treeLeft σ (Int32.toNatClampNeg (x5 - (1 : Int32))))) = (4 : Int32) then ((qm_cdrOf σ (qm_g_treeLeft σ (Int32.toNatClampNeg (x5 - (1 : Int32)))))).bind fun r21 =>
                    if inb (x5 - (1 : Int32)) 204 = true then ((qm_cdrOf (qm_t_treeLeft σ (x5 - (1 : Int32)) r21) (qm_g_matchLeft σ (Int32.toNatClampNeg (x5 - (1 : Int32)))))).bind fun r24 =>
                        if inb (x5 - (1 : Int32)) 204 = true then ((qm_carOf (qm_t_matchLeft (qm_t_treeLeft σ (x5 - (1 : Int32)) r21) (x5 - (1 : Int32)) r24) (qm_g_treeLeft σ (Int32.toNatClampNeg (x5 - (1 : Int32)))))).bind fun r27 =>
                            if inb ((x5 - (1 : Int32)) + (1 : Int32)) 204 = true then ((qm_carOf (qm_t_treeLeft (qm_t_matchLeft (qm_t_treeLeft σ (x5 - (1 : Int32)) r21) (x5 - (1 : Int32)) r24) ((x5 - (1 : Int32)) + (1 : Int32)) r27) (qm_g_matchLeft σ (Int32.toNatClampNeg (x5 - (1 : Int32)))))).bind fun r30 =>
                                if inb ((x5 - (1 : Int32)) + (1 : Int32)) 204 = true then (qm_matches_L22 N k (qm_t_matchLeft (qm_t_treeLeft (qm_t_matchLeft (qm_t_treeLeft σ (x5 - (1 : Int32)) r21) (x5 - (1 : Int32)) r24) ((x5 - (1 : Int32)) + (1 : Int32)) r27) ((x5 - (1 : Int32)) + (1 : Int32)) r30) ((x5 - (1 : Int32)) + (2 : Int32)))
                                else none
                            else none
                        else none
                    else none
                else (qm_matches_L22 N k σ (x5 - (1 : Int32)))
              else some ((0 : Int32), σ)
        else none
      else none) := rfl
theorem qm_combinesCompound_L61_s (N k : Nat) (σ : qm_S) (x1 : Int32) (x2 : Int64) (x4 : Int64) (x6 : Int32) : qm_combinesCompound_L61 N (k + 1) σ x1 x2 x4 x6 = (
    if (qm_g_bound σ) ≤ x6 then if (qm_kindOf x2) = (2 : Int32) then ((qm_binds N σ x4 (qm_indexOf σ x2) (qm_g_around σ))).bind fun r13 =>
          if r13.1 = (0 : Int32) then some ((-5 : Int32), r13.2)
          else if inb x1 4000 = true then some ((qm_goesTo r13.2 (qm_g_third r13.2 (Int32.toNatClampNeg x1)) x4).1, (qm_goesTo r13.2 (qm_g_third r13.2 (Int32.toNatClampNeg x1)) x4).2)
            else none
      else if inb x1 4000 = true then some ((qm_goesTo σ (qm_g_third σ (Int32.toNatClampNeg x1)) x4).1, (qm_goesTo σ (qm_g_third σ (Int32.toNatClampNeg x1)) x4).2)
        else none
    else if inb x6 102 = true then if inb x6 102 = true then ((qm_binds N σ x4 (qm_g_boundSymbol σ (Int32.toNatClampNeg x6)) (qm_g_boundValue σ (Int32.toNatClampNeg x6)))).bind fun r19 =>
            if r19.1 = (0 : Int32) then some ((-5 : Int32), r19.2)
            else (qm_combinesCompound_L61 N k r19.2 x1 x2 x4 (x6 + (1 : Int32)))
        else none
      else none) := rfl
theorem qm_reckons_L52_s (N k : Nat) (σ : qm_S) (x1 : Int32) (x2 : Int64) (x4 : Int64) : qm_reckons_L52 N (k + 1) σ x1 x2 x4 = (
    if (qm_kindOf x2) = (4 : Int32) then ((qm_carOf σ x2)).bind fun r9 =>
        if x1 = (0 : Int32) then if (qm_isIn (qm_times x4 (qm_whatOf r9))) = (0 : Int32) then some ((-9 : Int32), σ)
          else ((qm_cdrOf σ x2)).bind fun r13 =>
              (qm_reckons_L52 N k σ x1 r13 (qm_times x4 (qm_whatOf r9)))
        else if (qm_isIn (x4 + (qm_whatOf r9))) = (0 : Int32) then some ((-9 : Int32), σ)
          else ((qm_cdrOf σ x2)).bind fun r16 =>
              (qm_reckons_L52 N k σ x1 r16 (x4 + (qm_whatOf r9)))
    else some ((qm_gives σ (qm_made (0 : Int32) x4)).1, (qm_gives σ (qm_made (0 : Int32) x4)).2)) := rfl
theorem qm_reckons_L5_s (N k : Nat) (σ : qm_S) (x1 : Int32) (x2 : Int64) : qm_reckons_L5 N (k + 1) σ x1 x2 = (
    if (qm_kindOf x2) = (4 : Int32) then ((qm_carOf σ x2)).bind fun r3 =>
        if (qm_kindOf r3) = (0 : Int32) then ((qm_cdrOf σ x2)).bind fun r6 =>
            (qm_reckons_L5 N k σ x1 r6)
        else some ((-8 : Int32), σ)
    else if x1 = (0 : Int32) then (qm_reckons_L52 N N σ x1 (qm_g_operands σ) (1 : Int64))
      else (qm_reckons_L52 N N σ x1 (qm_g_operands σ) (0 : Int64))) := rfl
theorem qm_runs_L2_s (N k : Nat) (σ : qm_S) (x1 : Int32) : qm_runs_L2 N (k + 1) σ x1 = (
    if x1 = (0 : Int32) then if (qm_g_mode σ) = (2 : Int32) then if (qm_g_frames σ) ≤ (0 : Int32) then some (x1, σ)
        else if (qm_g_mode σ) = (0 : Int32) then ((qm_evaluatesOne N σ)).bind fun r18 =>
              (qm_runs_L2 N k r18.2 r18.1)
          else if (qm_g_mode σ) = (1 : Int32) then ((qm_combinesOne N σ)).bind fun r16 =>
                (qm_runs_L2 N k r16.2 r16.1)
            else ((qm_takesResult N σ)).bind fun r14 =>
                (qm_runs_L2 N k r14.2 r14.1)
      else if (qm_g_mode σ) = (0 : Int32) then ((qm_evaluatesOne N σ)).bind fun r9 =>
            (qm_runs_L2 N k r9.2 r9.1)
        else if (qm_g_mode σ) = (1 : Int32) then ((qm_combinesOne N σ)).bind fun r7 =>
              (qm_runs_L2 N k r7.2 r7.1)
          else ((qm_takesResult N σ)).bind fun r5 =>
              (qm_runs_L2 N k r5.2 r5.1)
    else some (x1, σ)) := rfl
