/-! What the class and the reference make of the same numbers: ranks, sizes, signs, and the whole kinds. -/
theorem xr {s q n : Nat} (hn : n < 2 ^ s) : (2 ^ s * q + n) ^^^ (2 ^ s - 1) = 2 ^ s * q + (2 ^ s - 1 - n) := by
  have h1 : ((2 ^ s * q + n) ^^^ (2 ^ s - 1)) % 2 ^ s = n ^^^ (2 ^ s - 1) := by
    rw [Nat.xor_mod_two_pow, Nat.mul_add_mod, Nat.mod_eq_of_lt hn, Nat.mod_eq_of_lt (by have := Nat.two_pow_pos s; omega)]
  have h2 : ((2 ^ s * q + n) ^^^ (2 ^ s - 1)) / 2 ^ s = q := by
    rw [Nat.xor_div_two_pow, Nat.div_eq_of_lt (show 2 ^ s - 1 < 2 ^ s by have := Nat.two_pow_pos s; omega), Nat.xor_zero, Nat.mul_add_div (Nat.two_pow_pos s), Nat.div_eq_of_lt hn, Nat.add_zero]
  have h3 : n ^^^ (2 ^ s - 1) = 2 ^ s - 1 - n := by
    have e : (BitVec.ofNat s n ^^^ BitVec.allOnes s).toNat = n ^^^ (2 ^ s - 1) := by
      rw [BitVec.toNat_xor, BitVec.toNat_ofNat, BitVec.toNat_allOnes, Nat.mod_eq_of_lt hn]
    rw [← e, BitVec.xor_allOnes, BitVec.toNat_not, BitVec.toNat_ofNat, Nat.mod_eq_of_lt hn]
  have h4 := Nat.div_add_mod ((2 ^ s * q + n) ^^^ (2 ^ s - 1)) (2 ^ s)
  rw [h1, h2, h3] at h4
  omega
theorem lxor (a b : Nat) (ha : a < 18446744073709551616) (hb : b < 18446744073709551616) : lN a ^^^ lN b = lN (a ^^^ b) := by
  apply uN_inj
  have h : uN (lN a ^^^ lN b) = uN (lN a) ^^^ uN (lN b) := UInt64.toNat_xor _ _
  rw [h, uN_lN, uN_lN, uN_lN, Nat.mod_eq_of_lt ha, Nat.mod_eq_of_lt hb, Nat.mod_eq_of_lt (Nat.xor_lt_two_pow (n := 64) ha hb)]
/-- numbers that are whole have no other rank than themselves -/
theorem rank_eq {k : Nat} (hk : k < 4) {v : Int64} (hv : okN k v) : fn_X1_rank k v = fn_X3_rank (nI k) v := by
  rcases (show k = 0 ∨ k = 1 ∨ k = 2 ∨ k = 3 by omega) with rfl | rfl | rfl | rfl
  · unfold fn_X1_rank fn_X3_rank
    rw [if_pos (show kF 0 = 0 by decide), if_pos (show fn_X3_isFloating (nI 0) = 0 by decide)]
  · unfold fn_X1_rank fn_X3_rank
    rw [if_pos (show kF 1 = 0 by decide), if_pos (show fn_X3_isFloating (nI 1) = 0 by decide)]
  · obtain ⟨b, n, hn, rfl⟩ := hv
    have hT : n < TT 2 := Nat.lt_of_le_of_lt hn (inf_lt (Or.inl rfl))
    have hn2 : n < 2147483648 := hT
    unfold fn_X1_rank fn_X3_rank
    rw [if_neg (show ¬ kF 2 = 0 by decide), if_neg (show ¬ fn_X3_isFloating (nI 2) = 0 by decide), x3_size (Or.inl rfl) hT]
    cases b
    · rw [if_pos ((sgn_ge (Or.inl rfl) hT false).mpr rfl), if_pos ((sgn_ge (Or.inl rfl) hT false).mpr rfl)]
    · rw [if_neg (fun q => absurd ((sgn_ge (Or.inl rfl) hT true).mp q) (by decide)), if_neg (fun q => absurd ((sgn_ge (Or.inl rfl) hT true).mp q) (by decide))]
      rw [show (kS 2 ^^^ (-1 : Int64)) = lN (2 ^ 31 - 1) from by decide]
      rw [show sgn 2 true n = lN (2 ^ 31 * 8589934591 + n) from congrArg lN (by show n + (18446744073709551616 - 2147483648) = _; omega)]
      rw [lxor _ _ (by omega) (by omega), xr (by omega), show (-1 : Int64) = lN 18446744073709551615 from by decide, lN_sub (by omega)]
      exact congrArg lN (by omega)
  · obtain ⟨b, n, hn, rfl⟩ := hv
    have hT : n < TT 3 := Nat.lt_of_le_of_lt hn (inf_lt (Or.inr rfl))
    have hn2 : n < 9223372036854775808 := hT
    unfold fn_X1_rank fn_X3_rank
    rw [if_neg (show ¬ kF 3 = 0 by decide), if_neg (show ¬ fn_X3_isFloating (nI 3) = 0 by decide), x3_size (Or.inr rfl) hT]
    cases b
    · rw [if_pos ((sgn_ge (Or.inr rfl) hT false).mpr rfl), if_pos ((sgn_ge (Or.inr rfl) hT false).mpr rfl)]
    · rw [if_neg (fun q => absurd ((sgn_ge (Or.inr rfl) hT true).mp q) (by decide)), if_neg (fun q => absurd ((sgn_ge (Or.inr rfl) hT true).mp q) (by decide))]
      rw [show (kS 3 ^^^ (-1 : Int64)) = lN (2 ^ 63 - 1) from by decide]
      rw [show sgn 3 true n = lN (2 ^ 63 * 1 + n) from congrArg lN (by show n + (18446744073709551616 - 9223372036854775808) = _; omega)]
      rw [lxor _ _ (by omega) (by omega), xr (by omega), show (-1 : Int64) = lN 18446744073709551615 from by decide, lN_sub (by omega)]
      exact congrArg lN (by omega)
theorem cmp_lt (x y : Int64) : fn_J13_compare_74951 x y < 0 ↔ ¬ y ≤ x := by
  unfold fn_J13_compare_74951
  by_cases h : y ≤ x
  · rw [if_pos h]
    by_cases h2 : x = y
    · rw [if_pos h2]
      exact ⟨fun q => absurd q (by decide), fun q => absurd h q⟩
    · rw [if_neg h2]
      exact ⟨fun q => absurd q (by decide), fun q => absurd h q⟩
  · rw [if_neg h]
    exact ⟨fun _ => h, fun _ => by decide⟩
theorem cmp_gt (x y : Int64) : 0 < fn_J13_compare_74951 x y ↔ ¬ x ≤ y := by
  unfold fn_J13_compare_74951
  by_cases h : y ≤ x
  · rw [if_pos h]
    by_cases h2 : x = y
    · rw [if_pos h2]
      subst h2
      exact ⟨fun q => absurd q (by decide), fun q => absurd h q⟩
    · rw [if_neg h2]
      refine ⟨fun _ q => h2 ?_, fun _ => by decide⟩
      apply Int64.toInt_inj.mp
      rw [Int64.le_iff_toInt_le] at h q
      omega
  · rw [if_neg h]
    refine ⟨fun q => absurd q (by decide), fun q => absurd ?_ q⟩
    rw [Int64.le_iff_toInt_le] at h ⊢
    omega
theorem greater_eq {k : Nat} (hk : k < 4) {a b : Int64} (ha : okN k a) (hb : okN k b) : fn_X1_greater k a b = fn_X3_greater (nI k) a b := by
  unfold fn_X1_greater fn_X3_greater fn_X3_isLess fn_X1_compared
  rw [rank_eq hk ha, rank_eq hk hb]
  by_cases h : fn_X3_rank (nI k) b ≤ fn_X3_rank (nI k) a
  · rw [if_neg (fun q => (cmp_lt _ _).mp q h), if_pos h, if_pos rfl]
  · rw [if_pos ((cmp_lt _ _).mpr h), if_neg h, if_neg (by decide)]
theorem lesser_eq {k : Nat} (hk : k < 4) {a b : Int64} (ha : okN k a) (hb : okN k b) : fn_X1_lesser k a b = fn_X3_lesser (nI k) a b := by
  unfold fn_X1_lesser fn_X3_lesser fn_X3_isLess fn_X1_compared
  rw [rank_eq hk ha, rank_eq hk hb]
  by_cases h : fn_X3_rank (nI k) a ≤ fn_X3_rank (nI k) b
  · rw [if_neg (fun q => (cmp_gt _ _).mp q h), if_pos h, if_pos rfl]
  · rw [if_pos ((cmp_gt _ _).mpr h), if_neg h, if_neg (by decide)]
theorem greater_ok {k : Nat} {a b : Int64} (ha : okN k a) (hb : okN k b) : okN k (fn_X1_greater k a b) := by
  unfold fn_X1_greater
  split
  · exact hb
  · exact ha
theorem lesser_ok {k : Nat} {a b : Int64} (ha : okN k a) (hb : okN k b) : okN k (fn_X1_lesser k a b) := by
  unfold fn_X1_lesser
  split
  · exact hb
  · exact ha
theorem bm {w : Nat} {z : Int} (h : (w : Int) % 4294967296 = z % 4294967296) : (((w * 2 ^ 32 : Nat) : Int).bmod (2 ^ 64)) / ((2 ^ 32 : Nat) : Int) = z.bmod (2 ^ 32) := by
  have e : (((w * 2 ^ 32 : Nat) : Int)) % 18446744073709551616 = ((w : Int) % 4294967296) * 4294967296 := by omega
  rw [Int.bmod_def, Int.bmod_def]
  have e64 : (((2 ^ 64 : Nat) : Int)) = 18446744073709551616 := by decide
  have e32 : (((2 ^ 32 : Nat) : Int)) = 4294967296 := by decide
  rw [e64, e32, e, h]
  generalize z % 4294967296 = y at *
  have hy : 0 ≤ y ∧ y < 4294967296 := by omega
  by_cases q : y < 2147483648
  · rw [if_pos (by omega), if_pos (by omega)]
    omega
  · rw [if_neg (by omega), if_neg (by omega)]
    omega
/-- the lowest 32 bits, the sign carried up -/
theorem fit0 (x : Int64) : (x <<< (Int32.toInt64 (32 : Int32) &&& 63)) >>> (Int32.toInt64 (32 : Int32) &&& 63) = x.toInt32.toInt64 := by
  have h : ((Int32.toInt64 (32 : Int32) &&& 63).toBitVec.smod 64).toNat = 32 := by decide
  apply Int64.toInt_inj.mp
  rw [Int32.toInt_toInt64, Int64.toInt_toInt32]
  have e1 : ((x <<< (Int32.toInt64 (32 : Int32) &&& 63)) >>> (Int32.toInt64 (32 : Int32) &&& 63)).toInt = ((x.toBitVec <<< 32).sshiftRight 32).toInt := by
    show ((x.toBitVec <<< ((Int32.toInt64 (32 : Int32) &&& 63).toBitVec.smod 64).toNat).sshiftRight ((Int32.toInt64 (32 : Int32) &&& 63).toBitVec.smod 64).toNat).toInt = _
    rw [h]
  rw [e1, BitVec.toInt_sshiftRight, BitVec.toInt_shiftLeft, Int.shiftRight_eq_div_pow]
  have e2 : x.toInt = x.toBitVec.toInt := rfl
  have e3 : (x.toBitVec.toNat : Int) % 4294967296 = x.toBitVec.toInt % 4294967296 := by
    rw [BitVec.toInt_eq_toNat_cond]
    split <;> omega
  rw [e2, Nat.shiftLeft_eq]
  exact bm e3
theorem fitted0 (x : Int64) : fn_X1_fitted 0 x = x.toInt32.toInt64 := fit0 x
theorem fitted2 (x : Int64) : fn_X1_fitted 2 x = x.toInt32.toInt64 := fit0 x
theorem fit1 (x : Int64) : (x <<< (Int32.toInt64 (0 : Int32) &&& 63)) >>> (Int32.toInt64 (0 : Int32) &&& 63) = x := by
  have h : ((Int32.toInt64 (0 : Int32) &&& 63).toBitVec.smod 64).toNat = 0 := by decide
  apply Int64.toBitVec_inj.mp
  show ((x.toBitVec <<< ((Int32.toInt64 (0 : Int32) &&& 63).toBitVec.smod 64).toNat).sshiftRight ((Int32.toInt64 (0 : Int32) &&& 63).toBitVec.smod 64).toNat) = _
  rw [h]
  simp
theorem fitted1 (x : Int64) : fn_X1_fitted 1 x = x := fit1 x
theorem fitted3 (x : Int64) : fn_X1_fitted 3 x = x := fit1 x
theorem tw_ok (x : Int64) : okN 0 (x.toInt32.toInt64) := by
  show (x.toInt32.toInt64).toInt32.toInt64 = _
  rw [Int32.toInt32_toInt64]
