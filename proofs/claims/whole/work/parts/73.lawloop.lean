/-! ===== the law's loop ===== -/
section
variable {Γ : cx_T} {b L N : Nat} {xs : Nat → Int32} {Qz : State → Prop} {σ0 : qx_S × qm_S}
set_option maxHeartbeats 4000000 in
set_option maxRecDepth 100000 in
theorem law_switch (C : cx_C Γ (lww (gK Γ)) qcl R_law code 4 ret (12, 480)) (hX : va_X b L xs (gs Γ) (gs Γ).heap) (hbl : b < (gs Γ).heap.size) (hbA : ¬ gA Γ b) (hL : L ≤ 1536) (hN : 60000000 ≤ N) {i : Nat} (hi : i + 2 < L) (σ : qx_S × qm_S) (X : ∃ s n K, XR s n K σ.1 σ.2) (hk : ∀ σ : qx_S × qm_S, (∃ s n K, XR s n K σ.1 σ.2) → LJ Γ Qz σ0 σ 709 [(0, .ref b), (1, .ref (kq (gK Γ) 0)), (2, .ref (kq (gK Γ) 18)), (3, .int (nI i))] []) (w : Int32) : LJ Γ Qz σ0 σ 32 [(0, .ref b), (1, .ref (kq (gK Γ) 0)), (2, .ref (kq (gK Γ) 18)), (3, .int (nI i))] [.int w] := by
  obtain ⟨s, n, K, X⟩ := X
  obtain ⟨x, m⟩ := σ
  by_cases c0 : w = 0
  · exact j_tblIn C d_law_32 (0 : Int32) c0 (by decide) (by decide) rfl (tgt := 144) (by decide) (lc_pushInteger C hX hbl hbA hi hL hN X hk)
  by_cases c1 : w = 1
  · exact j_tblIn C d_law_32 (1 : Int32) c1 (by decide) (by decide) rfl (tgt := 197) (by decide) (lc_pushBoolean C hX hbl hbA hi hL hN X hk)
  by_cases c2 : w = 2
  · exact j_tblIn C d_law_32 (2 : Int32) c2 (by decide) (by decide) rfl (tgt := 236) (by decide) (lc_pushSymbol C hX hbl hbA hi hL hN X hk)
  by_cases c3 : w = 3
  · exact j_tblIn C d_law_32 (3 : Int32) c3 (by decide) (by decide) rfl (tgt := 259) (by decide) (lc_pushEmpty C hX hbl hbA hi hL hN X hk)
  by_cases c4 : w = 4
  · exact j_tblIn C d_law_32 (4 : Int32) c4 (by decide) (by decide) rfl (tgt := 298) (by decide) (lc_pushEnvironment C hX hbl hbA hi hL hN X hk)
  by_cases c5 : w = 5
  · exact j_tblIn C d_law_32 (5 : Int32) c5 (by decide) (by decide) rfl (tgt := 311) (by decide) (lc_pushCopy C hX hbl hbA hi hL hN X hk)
  by_cases c6 : w = 6
  · exact j_tblIn C d_law_32 (6 : Int32) c6 (by decide) (by decide) rfl (tgt := 334) (by decide) (lc_pushPart C hX hbl hbA hi hL hN X hk)
  by_cases c7 : w = 7
  · exact j_tblIn C d_law_32 (7 : Int32) c7 (by decide) (by decide) rfl (tgt := 367) (by decide) (lc_pushBinding C hX hbl hbA hi hL hN X hk)
  by_cases c8 : w = 8
  · exact j_tblIn C d_law_32 (8 : Int32) c8 (by decide) (by decide) rfl (tgt := 400) (by decide) (lc_makePair C hX hbl hbA hi hL hN X hk)
  by_cases c9 : w = 9
  · exact j_tblIn C d_law_32 (9 : Int32) c9 (by decide) (by decide) rfl (tgt := 413) (by decide) (lc_makeList C hX hbl hbA hi hL hN X hk)
  by_cases c10 : w = 10
  · exact j_tblIn C d_law_32 (10 : Int32) c10 (by decide) (by decide) rfl (tgt := 436) (by decide) (lc_drop C hX hbl hbA hi hL hN X hk)
  by_cases c11 : w = 11
  · exact j_tblIn C d_law_32 (11 : Int32) c11 (by decide) (by decide) rfl (tgt := 459) (by decide) (lc_reset C hX hbl hbA hi hL hN X hk)
  by_cases c12 : w = 12
  · exact j_tblIn C d_law_32 (12 : Int32) c12 (by decide) (by decide) rfl (tgt := 472) (by decide) (lc_size C hX hbl hbA hi hL hN X hk)
  by_cases c13 : w = 13
  · exact j_tblIn C d_law_32 (13 : Int32) c13 (by decide) (by decide) rfl (tgt := 485) (by decide) (lc_kind C hX hbl hbA hi hL hN X hk)
  by_cases c14 : w = 14
  · exact j_tblIn C d_law_32 (14 : Int32) c14 (by decide) (by decide) rfl (tgt := 508) (by decide) (lc_value C hX hbl hbA hi hL hN X hk)
  by_cases c15 : w = 15
  · exact j_tblIn C d_law_32 (15 : Int32) c15 (by decide) (by decide) rfl (tgt := 532) (by decide) (lc_areSame C hX hbl hbA hi hL hN X hk)
  by_cases c16 : w = 16
  · exact j_tblIn C d_law_32 (16 : Int32) c16 (by decide) (by decide) rfl (tgt := 565) (by decide) (lc_length C hX hbl hbA hi hL hN X hk)
  by_cases c17 : w = 17
  · exact j_tblIn C d_law_32 (17 : Int32) c17 (by decide) (by decide) rfl (tgt := 588) (by decide) (lc_bindingCount C hX hbl hbA hi hL hN X hk)
  by_cases c18 : w = 18
  · exact j_tblIn C d_law_32 (18 : Int32) c18 (by decide) (by decide) rfl (tgt := 611) (by decide) (lc_evaluate C hX hbl hbA hi hL hN X hk)
  by_cases c19 : w = 19
  · exact j_tblIn C d_law_32 (19 : Int32) c19 (by decide) (by decide) rfl (tgt := 624) (by decide) (lc_useEnvironment C hX hbl hbA hi hL hN X hk)
  by_cases c20 : w = 20
  · exact j_tblIn C d_law_32 (20 : Int32) c20 (by decide) (by decide) rfl (tgt := 637) (by decide) (lc_useUser C hX hbl hbA hi hL hN X hk)
  by_cases c21 : w = 21
  · exact j_tblIn C d_law_32 (21 : Int32) c21 (by decide) (by decide) rfl (tgt := 650) (by decide) (lc_setLimit C hX hbl hbA hi hL hN X hk)
  by_cases c22 : w = 22
  · exact j_tblIn C d_law_32 (22 : Int32) c22 (by decide) (by decide) rfl (tgt := 673) (by decide) (lc_latest C hX hbl hbA hi hL hN X hk)
  by_cases c23 : w = 23
  · exact j_tblIn C d_law_32 (23 : Int32) c23 (by decide) (by decide) rfl (tgt := 696) (by decide) (lc_heapSize C hX hbl hbA hi hL hN X hk)
  have h0 : w.toInt ≠ 0 := fun e => c0 (i_ext (by rw [e]; decide))
  have h1 : w.toInt ≠ 1 := fun e => c1 (i_ext (by rw [e]; decide))
  have h2 : w.toInt ≠ 2 := fun e => c2 (i_ext (by rw [e]; decide))
  have h3 : w.toInt ≠ 3 := fun e => c3 (i_ext (by rw [e]; decide))
  have h4 : w.toInt ≠ 4 := fun e => c4 (i_ext (by rw [e]; decide))
  have h5 : w.toInt ≠ 5 := fun e => c5 (i_ext (by rw [e]; decide))
  have h6 : w.toInt ≠ 6 := fun e => c6 (i_ext (by rw [e]; decide))
  have h7 : w.toInt ≠ 7 := fun e => c7 (i_ext (by rw [e]; decide))
  have h8 : w.toInt ≠ 8 := fun e => c8 (i_ext (by rw [e]; decide))
  have h9 : w.toInt ≠ 9 := fun e => c9 (i_ext (by rw [e]; decide))
  have h10 : w.toInt ≠ 10 := fun e => c10 (i_ext (by rw [e]; decide))
  have h11 : w.toInt ≠ 11 := fun e => c11 (i_ext (by rw [e]; decide))
  have h12 : w.toInt ≠ 12 := fun e => c12 (i_ext (by rw [e]; decide))
  have h13 : w.toInt ≠ 13 := fun e => c13 (i_ext (by rw [e]; decide))
  have h14 : w.toInt ≠ 14 := fun e => c14 (i_ext (by rw [e]; decide))
  have h15 : w.toInt ≠ 15 := fun e => c15 (i_ext (by rw [e]; decide))
  have h16 : w.toInt ≠ 16 := fun e => c16 (i_ext (by rw [e]; decide))
  have h17 : w.toInt ≠ 17 := fun e => c17 (i_ext (by rw [e]; decide))
  have h18 : w.toInt ≠ 18 := fun e => c18 (i_ext (by rw [e]; decide))
  have h19 : w.toInt ≠ 19 := fun e => c19 (i_ext (by rw [e]; decide))
  have h20 : w.toInt ≠ 20 := fun e => c20 (i_ext (by rw [e]; decide))
  have h21 : w.toInt ≠ 21 := fun e => c21 (i_ext (by rw [e]; decide))
  have h22 : w.toInt ≠ 22 := fun e => c22 (i_ext (by rw [e]; decide))
  have h23 : w.toInt ≠ 23 := fun e => c23 (i_ext (by rw [e]; decide))
  exact j_tblOut C d_law_32 (tgt := 709) (by decide) (by omega) (hk (x, m) ⟨s, n, K, X⟩)
theorem law_loop (C : cx_C Γ (lww (gK Γ)) qcl R_law code 4 ret (12, 480)) (hX : va_X b L xs (gs Γ) (gs Γ).heap) (hbl : b < (gs Γ).heap.size) (hbA : ¬ gA Γ b) (hL : L ≤ 1536) (hN : 60000000 ≤ N) (hend : ∀ (σ : qx_S × qm_S) (lv : List (Nat × Value)), LJ Γ Qz σ0 σ 716 lv [.int 1]) : ∀ (f i : Nat) (σ : qx_S × qm_S), L < i + f → i ≤ 1540 → (∃ s n K, XR s n K σ.1 σ.2) → LJ Γ Qz σ0 σ 18 [(0, .ref b), (1, .ref (kq (gK Γ) 0)), (2, .ref (kq (gK Γ) 18)), (3, .int (nI i))] [] := by
  intro f
  induction f with
  | zero =>
    intro i σ hf hi X
    refine j_iload_n C d_law_18 rfl 3 rfl ?_
    refine j_aload_n C d_law_19 rfl 0 rfl ?_
    refine l_len C hX hbl hbA d_law_20 rfl ?_
    refine j_iconst C (v := 3) d_law_21 rfl (by decide) ?_
    refine j_isub C d_law_22 rfl ?_
    have h1 : (nI i).toInt = i := by rw [nI_iI, iI_toInt] <;> omega
    have h2 : (Int32.ofNat L).toInt = L := by rw [show Int32.ofNat L = nI L from rfl, nI_iI, iI_toInt] <;> omega
    have h3 : (Int32.ofNat L - 3).toInt = (L : Int) - 3 := by rw [i_sub] <;> simp only [Int32.reduceToInt] <;> omega
    refine j_icmp_gt C d_law_23 (tgt := 715) (by decide) rfl (fun h => ?_) (fun h => ?_)
    · exact j_iconst C (v := 1) d_law_715 rfl (by decide) (hend σ _)
    · exact absurd (show Int32.ofNat L - 3 < nI i by rw [Int32.lt_iff_toInt_lt]; omega) h
  | succ f ih =>
    intro i σ hf hi X
    refine j_iload_n C d_law_18 rfl 3 rfl ?_
    refine j_aload_n C d_law_19 rfl 0 rfl ?_
    refine l_len C hX hbl hbA d_law_20 rfl ?_
    refine j_iconst C (v := 3) d_law_21 rfl (by decide) ?_
    refine j_isub C d_law_22 rfl ?_
    have h1 : (nI i).toInt = i := by rw [nI_iI, iI_toInt] <;> omega
    have h2 : (Int32.ofNat L).toInt = L := by rw [show Int32.ofNat L = nI L from rfl, nI_iI, iI_toInt] <;> omega
    have h3 : (Int32.ofNat L - 3).toInt = (L : Int) - 3 := by rw [i_sub] <;> simp only [Int32.reduceToInt] <;> omega
    refine j_icmp_gt C d_law_23 (tgt := 715) (by decide) rfl (fun h => ?_) (fun h => ?_)
    · exact j_iconst C (v := 1) d_law_715 rfl (by decide) (hend σ _)
    · have hi2 : i + 2 < L := by
        rw [Int32.lt_iff_toInt_lt] at h
        omega
      refine j_aload_n C d_law_26 rfl 0 rfl ?_
      refine j_iload_n C d_law_27 rfl 3 rfl ?_
      refine l_ld C hX hbl hbA (l_in0 hi2 hL) d_law_28 rfl ?_
      refine j_bipush C (v := 31) d_law_29 rfl (by decide) ?_
      refine j_iand C d_law_31 rfl ?_
      refine law_switch C hX hbl hbA hL hN hi2 σ X (fun σ2 X2 => ?_) _
      have hn : nI i + Int32.ofInt 3 = nI (i + 3) := by
        apply i_ext
        have h4 : (nI (i + 3)).toInt = ((i + 3 : Nat) : Int) := by rw [nI_iI, iI_toInt] <;> omega
        rw [show Int32.ofInt 3 = 3 by decide, h4, i_add] <;> simp only [Int32.reduceToInt] <;> omega
      refine j_iinc C (v := nI (i + 3)) (lv' := [(3, .int (nI (i + 3))), (0, .ref b), (1, .ref (kq (gK Γ) 0)), (2, .ref (kq (gK Γ) 18))]) d_law_709 rfl 3 rfl hn (by decide) rfl ?_
      refine j_goto C d_law_712 (tgt := 18) (by decide) ?_
      refine J.loc (lv' := [(0, .ref b), (1, .ref (kq (gK Γ) 0)), (2, .ref (kq (gK Γ) 18)), (3, .int (nI (i + 3)))]) [1, 2, 3, 0] rfl ?_
      exact ih (i + 3) σ2 (by omega) (by omega) X2
end
