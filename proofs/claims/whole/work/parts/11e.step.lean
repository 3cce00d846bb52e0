/-! DOWN, UP, NEAR: sizes put on whole numbers. -/
def inwN (k n : Nat) : Nat := if oneN k ≤ n then n / 2 ^ bbu k n * 2 ^ bbu k n else 0
def outN (k n : Nat) : Nat := if oneN k ≤ n then (n + (2 ^ bbu k n - 1)) / 2 ^ bbu k n * 2 ^ bbu k n else if n = 0 then 0 else oneN k
/-- m divided by 2 to the power of d, the nearest, of two the even one -/
def rnd (m d : Nat) : Nat := if d = 0 then m else if 2 ^ (d - 1) < m % 2 ^ d then m / 2 ^ d + 1 else if m % 2 ^ d = 2 ^ (d - 1) then (if m / 2 ^ d % 2 = 0 then m / 2 ^ d else m / 2 ^ d + 1) else m / 2 ^ d
def neaN (k n : Nat) : Nat := if oneN k ≤ n then rnd n (bbu k n) * 2 ^ bbu k n else if n ≤ oneN k - 2 ^ fb k then 0 else oneN k
theorem one_ge {k : Nat} (hk : k = 2 ∨ k = 3) {n : Nat} : oneN k ≤ n ↔ bb k ≤ n / 2 ^ fb k := by
  rw [one_eq hk, Nat.le_div_iff_mul_le (Nat.two_pow_pos _)]
theorem bbu_le {k : Nat} (hk : k = 2 ∨ k = 3) {n : Nat} (h : oneN k ≤ n) : bbu k n ≤ fb k := by
  have := (one_ge hk).mp h
  unfold bbu
  omega
theorem div_mul_le' (n P : Nat) : n / P * P ≤ n := Nat.div_mul_le_self n P
theorem mask_not {x d : Nat} (hx : x < 18446744073709551616) (hd : d < 64) : lN x &&& (lN (2 ^ d - 1) ^^^ (-1 : Int64)) = lN (x / 2 ^ d * 2 ^ d) := by
  have hp : 2 ^ d - 1 < 18446744073709551616 := by
    have h1 : 2 ^ d < 2 ^ 64 := wb_lt2 hd
    omega
  rw [show (-1 : Int64) = lN (2 ^ 64 - 1) from by decide, lxor _ _ hp (by decide), wb_and hx (Nat.xor_lt_two_pow (n := 64) hp (by decide))]
  apply congrArg lN
  apply Nat.eq_of_testBit_eq
  intro i
  rw [Nat.testBit_and, Nat.testBit_xor, Nat.testBit_two_pow_sub_one, Nat.testBit_two_pow_sub_one, ← Nat.shiftLeft_eq, Nat.testBit_shiftLeft, ← Nat.shiftRight_eq_div_pow, Nat.testBit_shiftRight]
  by_cases h : i < 64
  · by_cases h2 : d ≤ i
    · have e1 : ¬ i < d := by omega
      have e2 : d + (i - d) = i := by omega
      simp [h, h2, e1, e2]
    · have e1 : i < d := by omega
      simp [h, h2, e1]
  · have e : x.testBit i = false := Nat.testBit_lt_two_pow (Nat.lt_of_lt_of_le (show x < 2 ^ 64 from hx) (Nat.pow_le_pow_right (by decide) (by omega)))
    by_cases h2 : d ≤ i
    · have e2 : d + (i - d) = i := by omega
      simp [h, h2, e, e2]
    · omega
theorem x1_inward {k : Nat} (hk : k = 2 ∨ k = 3) {n : Nat} (hn : n < TT k) : fn_X1_inward k (lN n) = lN (inwN k n) := by
  have h1 := fb_le hk
  have h2 : n < 9223372036854775808 := Nat.lt_of_lt_of_le hn TT_le
  have h3 : oneN k < 9223372036854775808 := Nat.lt_of_lt_of_le (one_lt hk) TT_le
  unfold fn_X1_inward inwN
  rw [x1_one hk, x1_bits hk hn]
  by_cases h : oneN k ≤ n
  · have h4 := bbu_le hk h
    rw [if_pos ((pk_lLE (by omega) (by omega)).mpr h), if_pos h, wb_shr (by omega) (by omega), wb_shl _ (by omega)]
  · rw [if_neg (fun q => h ((pk_lLE (by omega) (by omega)).mp q)), if_neg h]
    rfl
theorem x1_outward {k : Nat} (hk : k = 2 ∨ k = 3) {n : Nat} (hn : n < TT k) : fn_X1_outward k (lN n) = lN (outN k n) := by
  have h1 := fb_le hk
  have h2 : n < 9223372036854775808 := Nat.lt_of_lt_of_le hn TT_le
  have h3 : oneN k < 9223372036854775808 := Nat.lt_of_lt_of_le (one_lt hk) TT_le
  unfold fn_X1_outward outN
  rw [x1_one hk, x1_bits hk hn]
  by_cases h : oneN k ≤ n
  · have h4 := bbu_le hk h
    have h5 : 2 ^ bbu k n < 2 ^ 63 := wb_lt2 (by omega)
    have h6 := Nat.two_pow_pos (bbu k n)
    rw [if_pos ((pk_lLE (by omega) (by omega)).mpr h), if_pos h]
    generalize hM : (-1 : Int64) = M
    rw [show (1 : Int64) = lN 1 from rfl, wb_shl _ (by omega), Nat.one_mul, lN_sub (by omega), lN_add, ← hM, mask_not (by omega) (by omega)]
  · rw [if_neg (fun q => h ((pk_lLE (by omega) (by omega)).mp q)), if_neg h]
    by_cases h0 : n = 0
    · rw [if_pos ((lN_eq0 (by omega)).mpr h0), if_pos h0]
      rfl
    · rw [if_neg (fun q => h0 ((lN_eq0 (by omega)).mp q)), if_neg h0]
theorem a1_iff {n : Nat} (hn : n < 18446744073709551616) : (lN n &&& (1 : Int64)) = 0 ↔ n % 2 = 0 := by
  rw [wb_a1 hn]
  exact lN_eq0 (by omega)
theorem sd_pos {m d : Nat} (hm : m < 18446744073709551616) (hd : 0 < d) (hd2 : d ≤ 63) : fn_X1_scaledDown (lN m) (nI d) = lN (rnd m d) := by
  have h5 : 2 ^ (d - 1) < 2 ^ 63 := wb_lt2 (by omega)
  have h7 : 2 ^ d ≤ 2 ^ 63 := Nat.pow_le_pow_right (by decide) hd2
  have h6 := Nat.two_pow_pos d
  have h8 := Nat.mod_lt m h6
  have h9 : m / 2 ^ d ≤ m := Nat.div_le_self _ _
  unfold fn_X1_scaledDown
  rw [if_pos (show (0 : Int32) < nI d from nI_lt (a := 0) (b := d) hd (by omega)), if_pos (show nI d ≤ 63 from nI_le (a := d) (b := 63) hd2 (by decide)), wb_shr (by omega) (by omega)]
  rw [show (1 : Int64) = lN 1 from rfl, wb_shl _ (by omega), Nat.one_mul, lN_sub (by omega), wb_mask (by omega) (by omega)]
  rw [show nI d - (1 : Int32) = nI (d - 1) from pk_sub (b := 1) hd, wb_shl _ (by omega), Nat.one_mul]
  unfold fn_X1_scaledDown_42 rnd
  rw [if_neg (show ¬ d = 0 by omega)]
  have s1 : fn_X1_scaledDown_73 (lN (m / 2 ^ d)) 1 = lN (m / 2 ^ d + 1) := by
    unfold fn_X1_scaledDown_73
    rw [if_neg (by decide)]
    exact lN_1 _
  have s0 : fn_X1_scaledDown_73 (lN (m / 2 ^ d)) 0 = lN (m / 2 ^ d) := by
    unfold fn_X1_scaledDown_73
    rw [if_pos (by decide)]
  by_cases c1 : 2 ^ (d - 1) < m % 2 ^ d
  · rw [if_pos ((pk_lLT (by omega) (by omega)).mpr c1), if_pos c1, s1]
  · rw [if_neg (fun q => c1 ((pk_lLT (by omega) (by omega)).mp q)), if_neg c1]
    by_cases c2 : m % 2 ^ d = 2 ^ (d - 1)
    · rw [if_pos ((pk_lEQ (by omega) (by omega)).mpr c2), if_pos c2]
      by_cases c3 : m / 2 ^ d % 2 = 0
      · rw [if_pos ((a1_iff (by omega)).mpr c3), if_pos c3, s0]
      · rw [if_neg (fun q => c3 ((a1_iff (by omega)).mp q)), if_neg c3, s1]
    · rw [if_neg (fun q => c2 ((pk_lEQ (by omega) (by omega)).mp q)), if_neg c2, s0]
theorem sd_neg {m z : Nat} (hz : z ≤ 62) : fn_X1_scaledDown (lN m) (iI (-(z : Int))) = lN (m * 2 ^ z) := by
  unfold fn_X1_scaledDown
  rw [if_neg (show ¬ (0 : Int32) < iI (-(z : Int)) from fun q => absurd ((iI_lt (a := 0) (by omega) (by omega)).mp q) (by omega)), iI_neg, Int.neg_neg, show (63 : Int32) = iI 63 from rfl, if_pos ((iI_lt (by omega) (by omega)).mpr (by omega)), ← iI_nat, wb_shl _ (by omega)]
theorem sd_all {m d : Nat} (hm : m < 18446744073709551616) (hd2 : d ≤ 63) : fn_X1_scaledDown (lN m) (nI d) = lN (rnd m d) := by
  rcases Nat.eq_zero_or_pos d with h | h
  · subst h
    have e := sd_neg (m := m) (z := 0) (by decide)
    have e2 : iI (-((0 : Nat) : Int)) = nI 0 := by decide
    rw [e2] at e
    rw [e, Nat.pow_zero, Nat.mul_one]
    unfold rnd
    rw [if_pos rfl]
  · exact sd_pos hm h hd2
theorem x1_nearest {k : Nat} (hk : k = 2 ∨ k = 3) {n : Nat} (hn : n < TT k) : fn_X1_nearest k (lN n) = lN (neaN k n) := by
  have h1 := fb_le hk
  have h2 : n < 9223372036854775808 := Nat.lt_of_lt_of_le hn TT_le
  have h3 : oneN k < 9223372036854775808 := Nat.lt_of_lt_of_le (one_lt hk) TT_le
  unfold fn_X1_nearest neaN
  rw [x1_one hk, x1_bits hk hn]
  by_cases h : oneN k ≤ n
  · have h4 := bbu_le hk h
    rw [if_pos ((pk_lLE (by omega) (by omega)).mpr h), if_pos h, sd_all (by omega) (by omega), wb_shl _ (by omega)]
  · rw [if_neg (fun q => h ((pk_lLE (by omega) (by omega)).mp q)), if_neg h]
    have h5 : 2 ^ fb k ≤ oneN k := by
      rw [one_eq hk]
      have := bb_le hk
      exact Nat.le_mul_of_pos_left _ (by omega)
    have h6 := Nat.two_pow_pos (fb k)
    rw [kR_eq hk, show (1 : Int64) = lN 1 from rfl, wb_shl _ (by omega), Nat.one_mul, lN_sub h5]
    by_cases h0 : n ≤ oneN k - 2 ^ fb k
    · rw [if_pos ((pk_lLE (by omega) (by omega)).mpr h0), if_pos h0]
      rfl
    · rw [if_neg (fun q => h0 ((pk_lLE (by omega) (by omega)).mp q)), if_neg h0]
/-! bounds -/
theorem up_le {n M P : Nat} (hP : 0 < P) (h : n ≤ M) (hM : M % P = 0) : (n + (P - 1)) / P * P ≤ M := by
  have e : M = M / P * P := by
    have := Nat.div_add_mod M P
    rw [hM, Nat.add_zero, Nat.mul_comm] at this
    exact this.symm
  have h1 : (n + (P - 1)) / P ≤ M / P := by
    have h2 : (n + (P - 1)) / P ≤ (M + (P - 1)) / P := Nat.div_le_div_right (by omega)
    have h3 : (M + (P - 1)) / P = M / P := by
      rw [e, Nat.mul_comm, Nat.mul_add_div hP, Nat.div_eq_of_lt (show P - 1 < P by omega), Nat.mul_div_cancel_left _ hP, Nat.add_zero]
    omega
  calc (n + (P - 1)) / P * P ≤ M / P * P := Nat.mul_le_mul_right P h1
    _ = M := e.symm
theorem rnd_le {m d : Nat} : rnd m d ≤ (m + (2 ^ d - 1)) / 2 ^ d := by
  have hP := Nat.two_pow_pos d
  have hd := Nat.div_add_mod m (2 ^ d)
  have hl := Nat.mod_lt m hP
  unfold rnd
  by_cases h0 : d = 0
  · rw [if_pos h0]
    subst h0
    simp
  · rw [if_neg h0]
    have hh := Nat.two_pow_pos (d - 1)
    generalize 2 ^ d = P at *
    generalize 2 ^ (d - 1) = h at *
    have a1 : m / P ≤ (m + (P - 1)) / P := Nat.div_le_div_right (by omega)
    have a2 : 0 < m % P → m / P + 1 ≤ (m + (P - 1)) / P := fun hr => by
      rw [Nat.le_div_iff_mul_le hP, Nat.add_mul, Nat.one_mul, Nat.mul_comm]
      omega
    split
    · exact a2 (by omega)
    · split
      · split
        · exact a1
        · exact a2 (by omega)
      · exact a1
theorem inf_mod {k : Nat} (hk : k = 2 ∨ k = 3) {d : Nat} (hd : d ≤ fb k) : infN k % 2 ^ d = 0 := by
  rw [inf_eq hk, wb_pw hd, ← Nat.mul_assoc, Nat.mul_comm, ← Nat.mul_assoc]
  rw [Nat.mul_comm (2 ^ (fb k - d) * (2 * bb k + 1)) (2 ^ d)] 
  exact Nat.mul_mod_right _ _
