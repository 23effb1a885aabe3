/-! ===== numbers: words of the language, sixteen times what they are, and their kind ===== -/
def lI (z : Int) : Int64 := Int64.ofInt z
def iI (z : Int) : Int32 := Int32.ofInt z
theorem lI_toInt {z : Int} (h1 : -9223372036854775808 ≤ z) (h2 : z < 9223372036854775808) : (lI z).toInt = z := by
  unfold lI
  have e : ((Int64.size : Nat) : Int) = 18446744073709551616 := rfl
  rw [Int64.toInt_ofInt, Int.bmod_eq_of_le_mul_two] <;> omega
theorem iI_toInt {z : Int} (h1 : -2147483648 ≤ z) (h2 : z < 2147483648) : (iI z).toInt = z := by
  unfold iI
  have e : ((Int32.size : Nat) : Int) = 4294967296 := rfl
  rw [Int32.toInt_ofInt, Int.bmod_eq_of_le_mul_two] <;> omega
theorem nI_iI (n : Nat) : nI n = iI n := (Int32.ofInt_eq_ofNat).symm
theorem lN_lI (n : Nat) : lN n = lI n := (Int64.ofInt_eq_ofNat).symm
theorem l_ext {u v : Int64} (h : u.toInt = v.toInt) : u = v := Int64.toInt_inj.mp h
theorem i_ext {u v : Int32} (h : u.toInt = v.toInt) : u = v := Int32.toInt_inj.mp h
theorem lI_self (v : Int64) : lI v.toInt = v := l_ext (lI_toInt (Int64.le_toInt v) (Int64.toInt_lt v))
theorem l_bound (v : Int64) : -9223372036854775808 ≤ v.toInt ∧ v.toInt < 9223372036854775808 := ⟨Int64.le_toInt v, Int64.toInt_lt v⟩
theorem i_bound (v : Int32) : -2147483648 ≤ v.toInt ∧ v.toInt < 2147483648 := ⟨Int32.le_toInt v, Int32.toInt_lt v⟩
theorem l_of (v : Int64) : ∃ n, n < 2 ^ 64 ∧ v = lN n := ⟨v.toBitVec.toNat, v.toBitVec.isLt, Int64.toBitVec_inj.mp (by show _ = BitVec.ofNat 64 _; simp)⟩
theorem lN_toNat {n : Nat} (h : n < 2 ^ 64) : (lN n).toBitVec.toNat = n := by
  show (BitVec.ofNat 64 n).toNat = n
  rw [BitVec.toNat_ofNat]
  exact Nat.mod_eq_of_lt h
theorem lN_int {n : Nat} (h : n < 2 ^ 64) : (lN n).toInt = if n < 2 ^ 63 then (n : Int) else (n : Int) - 2 ^ 64 := by
  have c := BitVec.toInt_eq_toNat_cond (lN n).toBitVec
  rw [lN_toNat h] at c
  show (lN n).toBitVec.toInt = _
  rw [c]
  split <;> split <;> omega
theorem l_and (v : Int64) {m : Int64} (k : Nat) (hk : k < 63) (hm : m.toBitVec.toNat = 2 ^ k - 1) : (v &&& m).toInt = v.toInt % 2 ^ k := by
  obtain ⟨n, hn, rfl⟩ := l_of v
  have hp : 2 ^ k ≤ 2 ^ 62 := Nat.pow_le_pow_right (by decide) (by omega)
  have hp0 : 0 < 2 ^ k := Nat.two_pow_pos k
  have e : lN n &&& m = lN (n % 2 ^ k) := by
    apply Int64.toBitVec_inj.mp
    apply BitVec.eq_of_toNat_eq
    rw [Int64.toBitVec_and, BitVec.toNat_and, hm, Nat.and_two_pow_sub_one_eq_mod, lN_toNat hn, lN_toNat]
    have := Nat.mod_lt n hp0
    omega
  have hlt := Nat.mod_lt n hp0
  rw [e, lN_int (by omega), if_pos (by omega), lN_int hn]
  have hd : (2 ^ 64 : Int) = 2 ^ k * 2 ^ (64 - k) := by rw [← Int.pow_add]; congr 1; omega
  split
  · push_cast; rfl
  · rw [Int.sub_emod, hd, Int.mul_emod_right]
    push_cast
    simp
theorem l_shr (v s : Int64) (k : Nat) (hs : (s.toBitVec.smod 64).toNat = k) : (v >>> s).toInt = v.toInt / 2 ^ k := by
  have e : (v >>> s).toInt = v.toInt >>> k := by
    rw [← hs]
    exact BitVec.toInt_sshiftRight ..
  rw [e, Int.shiftRight_eq_div_pow]
  norm_cast
theorem l_or (c k s : Int64) (j : Nat) (hj : j < 64) (hs : (s.toBitVec.smod 64) = BitVec.ofNat 64 j) (hk : k.toBitVec.toNat < 2 ^ j) : ((c <<< s) ||| k) = c * lN (2 ^ j) + k := by
  apply Int64.toBitVec_inj.mp
  rw [Int64.toBitVec_or, Int64.toBitVec_shiftLeft, Int64.toBitVec_add, Int64.toBitVec_mul]
  show _ = c.toBitVec * BitVec.ofNat 64 (2 ^ j) + k.toBitVec
  have e1 : c.toBitVec <<< (s.toBitVec.smod 64) = c.toBitVec * BitVec.ofNat 64 (2 ^ j) := by
    rw [hs, BitVec.shiftLeft_eq', BitVec.toNat_ofNat, Nat.mod_eq_of_lt (show j < 2 ^ 64 by omega)]
    apply BitVec.eq_of_toNat_eq
    rw [BitVec.toNat_shiftLeft, BitVec.toNat_mul, BitVec.toNat_ofNat, Nat.shiftLeft_eq, Nat.mul_mod c.toBitVec.toNat (2 ^ j)]
    rw [Nat.mul_mod c.toBitVec.toNat (2 ^ j % 2 ^ 64), Nat.mod_mod]
  rw [e1]
  symm
  apply BitVec.add_eq_or_of_and_eq_zero
  rw [← e1, hs, BitVec.shiftLeft_eq', BitVec.toNat_ofNat, Nat.mod_eq_of_lt (show j < 2 ^ 64 by omega)]
  apply BitVec.eq_of_getLsbD_eq
  intro i hi
  rw [BitVec.getLsbD_and, BitVec.getLsbD_shiftLeft]
  by_cases h : i < j
  · simp [h]
  · have h2 : k.toBitVec.getLsbD i = false := Nat.testBit_lt_two_pow (Nat.lt_of_lt_of_le hk (Nat.pow_le_pow_right (by decide) (by omega)))
    simp [h2]
theorem i_toL (x : Int32) : (Int32.toInt64 x).toInt = x.toInt := Int32.toInt_toInt64 x
theorem l_toI {v : Int64} (h1 : -2147483648 ≤ v.toInt) (h2 : v.toInt < 2147483648) : (Int64.toInt32 v).toInt = v.toInt := by
  rw [Int64.toInt_toInt32, Int.bmod_eq_of_le_mul_two] <;> omega
theorem l_add {u v : Int64} (h1 : -9223372036854775808 ≤ u.toInt + v.toInt) (h2 : u.toInt + v.toInt < 9223372036854775808) : (u + v).toInt = u.toInt + v.toInt := by
  rw [Int64.toInt_add, Int.bmod_eq_of_le_mul_two] <;> omega
theorem l_sub {u v : Int64} (h1 : -9223372036854775808 ≤ u.toInt - v.toInt) (h2 : u.toInt - v.toInt < 9223372036854775808) : (u - v).toInt = u.toInt - v.toInt := by
  rw [Int64.toInt_sub, Int.bmod_eq_of_le_mul_two] <;> omega
theorem l_mul {u v : Int64} (h1 : -9223372036854775808 ≤ u.toInt * v.toInt) (h2 : u.toInt * v.toInt < 9223372036854775808) : (u * v).toInt = u.toInt * v.toInt := by
  rw [Int64.toInt_mul]
  revert h1 h2
  generalize u.toInt * v.toInt = p
  intro h1 h2
  rw [Int.bmod_eq_of_le_mul_two] <;> omega
theorem i_add {u v : Int32} (h1 : -2147483648 ≤ u.toInt + v.toInt) (h2 : u.toInt + v.toInt < 2147483648) : (u + v).toInt = u.toInt + v.toInt := by
  rw [Int32.toInt_add, Int.bmod_eq_of_le_mul_two] <;> omega
theorem i_sub {u v : Int32} (h1 : -2147483648 ≤ u.toInt - v.toInt) (h2 : u.toInt - v.toInt < 2147483648) : (u - v).toInt = u.toInt - v.toInt := by
  rw [Int32.toInt_sub, Int.bmod_eq_of_le_mul_two] <;> omega
theorem i_clamp (x : Int32) : (Int32.toNatClampNeg x) = x.toInt.toNat := rfl
/-- the kind of a word, and what it is -/
def kd (v : Int64) : Nat := (v.toInt % 16).toNat
def wt (v : Int64) : Int := v.toInt / 16
theorem kd_lt (v : Int64) : kd v < 16 := by unfold kd; omega
theorem kw (v : Int64) : v.toInt = 16 * wt v + kd v := by unfold kd wt; omega
theorem kw_ext {u v : Int64} (h1 : kd u = kd v) (h2 : wt u = wt v) : u = v := l_ext (by rw [kw u, kw v, h1, h2])
theorem wt_bound (v : Int64) : -576460752303423488 ≤ wt v ∧ wt v < 576460752303423488 := by have := l_bound v; unfold wt; omega
theorem qm_kindOf_kd (v : Int64) : qm_kindOf v = nI (kd v) := by
  have h := l_and v (m := 15) 4 (by decide) (by decide)
  have hk := kd_lt v
  apply i_ext
  unfold qm_kindOf
  rw [l_toI (by rw [h]; omega) (by rw [h]; omega), h, nI_toInt (by omega)]
  unfold kd; omega
theorem qw_kindOf_kd (v : Int64) : qw_kindOf v = nI (kd v) := qm_kindOf_kd v
theorem qm_whatOf_wt (v : Int64) : (qm_whatOf v).toInt = wt v := l_shr v 4 4 (by decide)
theorem qw_contentOf_wt (v : Int64) : (qw_contentOf v).toInt = wt v := l_shr v 4 4 (by decide)
theorem qm_indexOf_wt {σ : qm_S} {v : Int64} (h1 : -2147483648 ≤ wt v) (h2 : wt v < 2147483648) : (qm_indexOf σ v).toInt = wt v := by
  have h := qm_whatOf_wt v
  unfold qm_indexOf
  rw [l_toI (by rw [h]; exact h1) (by rw [h]; exact h2), h]
theorem qw_rowOf_wt {v : Int64} (h1 : -2147483648 ≤ wt v) (h2 : wt v < 2147483648) : (qw_rowOf v).toInt = wt v := by
  have h : ((v >>> 4 : Int64)).toInt = wt v := l_shr v 4 4 (by decide)
  unfold qw_rowOf
  rw [l_toI (by rw [h]; exact h1) (by rw [h]; exact h2), h]
theorem kind_eq {v : Int64} {c : Nat} (hc : c < 16) : qm_kindOf v = nI c ↔ kd v = c := by
  rw [qm_kindOf_kd]
  have := kd_lt v
  exact nI_eq (by omega) (by omega)
theorem nI_lit (n : Nat) : nI n = Int32.ofNat n := rfl
/-- a word made -/
def vI (k : Nat) (z : Int) : Int64 := lI (16 * z + k)
theorem vI_int {k : Nat} {z : Int} (hk : k < 16) (h1 : -576460752303423488 ≤ z) (h2 : z < 576460752303423488) : (vI k z).toInt = 16 * z + k := lI_toInt (by omega) (by omega)
theorem vI_kd {k : Nat} {z : Int} (hk : k < 16) (h1 : -576460752303423488 ≤ z) (h2 : z < 576460752303423488) : kd (vI k z) = k := by
  unfold kd; rw [vI_int hk h1 h2]; omega
theorem vI_wt {k : Nat} {z : Int} (hk : k < 16) (h1 : -576460752303423488 ≤ z) (h2 : z < 576460752303423488) : wt (vI k z) = z := by
  unfold wt; rw [vI_int hk h1 h2]; omega
theorem vI_self (v : Int64) : vI (kd v) (wt v) = v := by unfold vI; rw [← kw v, lI_self]
theorem made_vI {k : Int32} {c : Int64} (hk : 0 ≤ k.toInt ∧ k.toInt < 16) (h1 : -576460752303423488 ≤ c.toInt) (h2 : c.toInt < 576460752303423488) : qm_made k c = vI k.toInt.toNat c.toInt := by
  apply l_ext
  have e : ((16 : Int64)).toInt = 16 := by decide
  unfold qm_made
  rw [vI_int (by omega) h1 h2, l_add, l_mul, i_toL, e] <;> (try rw [l_mul]) <;> (try rw [i_toL]) <;> (try rw [e]) <;> omega
theorem make_made {k : Int32} (c : Int64) (hk : 0 ≤ k.toInt ∧ k.toInt < 16) : qw_make k c = qm_made k c := by
  unfold qw_make qm_made
  rw [l_or c (Int32.toInt64 k) 4 4 (by decide) (by decide)]
  · rw [Int64.mul_comm]; rfl
  · have e := i_toL k
    have b := BitVec.toInt_eq_toNat_cond (Int32.toInt64 k).toBitVec
    have e2 : (Int32.toInt64 k).toBitVec.toInt = k.toInt := e
    rw [e2] at b
    have := (Int32.toInt64 k).toBitVec.isLt
    split at b <;> omega
