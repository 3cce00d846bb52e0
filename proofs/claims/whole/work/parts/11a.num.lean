/-! Numbers: the kinds' sizes and signs as natural numbers. -/
def fb (k : Nat) : Nat := if k = 2 then 23 else 52
def bb (k : Nat) : Nat := if k = 2 then 127 else 1023
def TT (k : Nat) : Nat := if k = 2 then 2147483648 else 9223372036854775808
def infN (k : Nat) : Nat := if k = 2 then 2139095040 else 9218868437227405312
def oneN (k : Nat) : Nat := if k = 2 then 1065353216 else 4607182418800017408
/-- the floating number of a size, with a sign -/
def sgn (k : Nat) (b : Bool) (n : Nat) : Int64 := match b with
  | true => lN (n + (18446744073709551616 - TT k))
  | false => lN n
/-- what a kind's number may be -/
def okN (k : Nat) (v : Int64) : Prop := match k with
  | 0 => v.toInt32.toInt64 = v
  | 1 => True
  | _ => ∃ (b : Bool) (n : Nat), n ≤ infN k ∧ v = sgn k b n
theorem uN_lN (m : Nat) : uN (lN m) = m % 18446744073709551616 := rfl
theorem lN_ti {m : Nat} (h : m < 18446744073709551616) : (lN m).toInt = if m < 9223372036854775808 then (m : Int) else (m : Int) - 18446744073709551616 := by
  rw [uN_int, uN_lN, Nat.mod_eq_of_lt h]
  split <;> split <;> omega
theorem lN_uN (x : Int64) : x = lN (uN x) := uN_inj (by rw [uN_lN, Nat.mod_eq_of_lt (uN_lt x)])
theorem nI_ti {x : Nat} (h : x < 4294967296) : (nI x).toInt = if x < 2147483648 then (x : Int) else (x : Int) - 4294967296 := by
  have h1 : (nI x).toInt = (nI x).toBitVec.toInt := rfl
  rw [h1, BitVec.toInt_eq_toNat_cond, pk_tn h]
  split <;> split <;> omega
theorem sx_hi {x : Nat} (h1 : 2147483648 ≤ x) (h2 : x < 4294967296) : (nI x).toInt64 = lN (x + 18446744069414584320) := by
  apply Int64.toInt_inj.mp
  rw [Int32.toInt_toInt64, nI_ti h2, lN_ti (by omega)]
  split <;> split <;> omega
theorem sgn_lt {k : Nat} (hk : k = 2 ∨ k = 3) {n : Nat} (hn : n < TT k) (b : Bool) : sgn k b n < 0 ↔ b = true := by
  rcases hk with rfl | rfl
  · have hn : n < 2147483648 := hn
    cases b
    · show lN n < 0 ↔ _
      rw [Int64.lt_iff_toInt_lt, lN_ti (by omega)]
      have : (0 : Int64).toInt = 0 := by decide
      rw [this]
      simp only [Bool.false_eq_true, iff_false]
      split <;> omega
    · show lN (n + (18446744073709551616 - 2147483648)) < 0 ↔ _
      rw [Int64.lt_iff_toInt_lt, lN_ti (by omega)]
      have : (0 : Int64).toInt = 0 := by decide
      rw [this]
      simp only [iff_true]
      split <;> omega
  · have hn : n < 9223372036854775808 := hn
    cases b
    · show lN n < 0 ↔ _
      rw [Int64.lt_iff_toInt_lt, lN_ti (by omega)]
      have : (0 : Int64).toInt = 0 := by decide
      rw [this]
      simp only [Bool.false_eq_true, iff_false]
      split <;> omega
    · show lN (n + (18446744073709551616 - 9223372036854775808)) < 0 ↔ _
      rw [Int64.lt_iff_toInt_lt, lN_ti (by omega)]
      have : (0 : Int64).toInt = 0 := by decide
      rw [this]
      simp only [iff_true]
      split <;> omega
theorem le_nlt (v : Int64) : 0 ≤ v ↔ ¬ v < 0 := by
  rw [Int64.le_iff_toInt_le, Int64.lt_iff_toInt_lt]
  omega
theorem sgn_ge {k : Nat} (hk : k = 2 ∨ k = 3) {n : Nat} (hn : n < TT k) (b : Bool) : 0 ≤ sgn k b n ↔ b = false := by
  rw [le_nlt, sgn_lt hk hn]
  cases b <;> simp
theorem x1_size {k : Nat} (hk : k = 2 ∨ k = 3) {n : Nat} (hn : n < TT k) (b : Bool) : fn_X1_sized k (sgn k b n) = lN n := by
  rcases hk with rfl | rfl
  · have hn : n < 2147483648 := hn
    unfold fn_X1_sized
    rw [if_neg (by decide), show (kS 2 ^^^ (-1 : Int64)) = lN (2 ^ 31 - 1) from by decide]
    cases b
    · show lN n &&& _ = _
      rw [wb_mask (by omega) (by decide)]
      exact congrArg lN (by omega)
    · show lN (n + (18446744073709551616 - 2147483648)) &&& _ = _
      rw [wb_mask (by omega) (by decide)]
      exact congrArg lN (by omega)
  · have hn : n < 9223372036854775808 := hn
    unfold fn_X1_sized
    rw [if_neg (by decide), show (kS 3 ^^^ (-1 : Int64)) = lN (2 ^ 63 - 1) from by decide]
    cases b
    · show lN n &&& _ = _
      rw [wb_mask (by omega) (by decide)]
      exact congrArg lN (by omega)
    · show lN (n + (18446744073709551616 - 9223372036854775808)) &&& _ = _
      rw [wb_mask (by omega) (by decide)]
      exact congrArg lN (by omega)
theorem x3_size {k : Nat} (hk : k = 2 ∨ k = 3) {n : Nat} (hn : n < TT k) (b : Bool) : fn_X3_size (nI k) (sgn k b n) = lN n := by
  rcases hk with rfl | rfl
  · have hn : n < 2147483648 := hn
    unfold fn_X3_size
    rw [if_pos (by decide), show (2147483647 : Int64) = lN (2 ^ 31 - 1) from by decide]
    cases b
    · show lN n &&& _ = _
      rw [wb_mask (by omega) (by decide)]
      exact congrArg lN (by omega)
    · show lN (n + (18446744073709551616 - 2147483648)) &&& _ = _
      rw [wb_mask (by omega) (by decide)]
      exact congrArg lN (by omega)
  · have hn : n < 9223372036854775808 := hn
    unfold fn_X3_size
    rw [if_neg (by decide), show (9223372036854775807 : Int64) = lN (2 ^ 63 - 1) from by decide]
    cases b
    · show lN n &&& _ = _
      rw [wb_mask (by omega) (by decide)]
      exact congrArg lN (by omega)
    · show lN (n + (18446744073709551616 - 9223372036854775808)) &&& _ = _
      rw [wb_mask (by omega) (by decide)]
      exact congrArg lN (by omega)
theorem or_hi {m s q : Nat} (hm : m < 2 ^ s) (h : 2 ^ s * q + m < 18446744073709551616) : lN m ||| lN (2 ^ s * q) = lN (m + 2 ^ s * q) := by
  rw [wb_or (by omega) (by omega), Nat.or_comm, ← Nat.two_pow_add_eq_or_of_lt hm, Nat.add_comm]
def b32 (b : Bool) : Int32 := match b with
  | true => 1
  | false => 0
theorem x3_signed {k : Nat} (hk : k = 2 ∨ k = 3) {m : Nat} (hm : m < TT k) (b : Bool) : fn_X3_signed (nI k) (lN m) (b32 b) = sgn k b m := by
  rcases hk with rfl | rfl
  · have hm : m < 2147483648 := hm
    unfold fn_X3_signed
    rw [if_pos (by decide)]
    cases b
    · rw [if_pos (by decide)]; rfl
    · rw [if_neg (by decide), show (2147483648 : Int64) = lN (2 ^ 31 * 1) from by decide, or_hi (s := 31) (by omega) (by omega), lN_i]
      exact (sx_hi (by omega) (by omega)).trans (congrArg lN (by show _ = m + (18446744073709551616 - 2147483648); omega))
  · have hm : m < 9223372036854775808 := hm
    unfold fn_X3_signed
    rw [if_neg (by decide)]
    cases b
    · rw [if_pos (by decide)]; rfl
    · rw [if_neg (by decide), show (-9223372036854775808 : Int64) = lN (2 ^ 63 * 1) from by decide, or_hi (s := 63) (by omega) (by omega)]
      exact congrArg lN (by show _ = m + (18446744073709551616 - 9223372036854775808); omega)
theorem x1_signed {k : Nat} (hk : k = 2 ∨ k = 3) {m : Nat} (hm : m < TT k) : lN m ||| kS k = sgn k true m := by
  rcases hk with rfl | rfl
  · have hm : m < 2147483648 := hm
    rw [show kS 2 = lN (2 ^ 31 * 8589934591) from by decide, or_hi (s := 31) (by omega) (by omega)]
    exact congrArg lN (by show _ = m + (18446744073709551616 - 2147483648); omega)
  · have hm : m < 9223372036854775808 := hm
    rw [show kS 3 = lN (2 ^ 63 * 1) from by decide, or_hi (s := 63) (by omega) (by omega)]
    exact congrArg lN (by show _ = m + (18446744073709551616 - 9223372036854775808); omega)
theorem x1_turned {k : Nat} (hk : k = 2 ∨ k = 3) {m : Nat} (hm : m < TT k) (v : Int64) : fn_X1_turned k (lN m) v = sgn k (decide (v < 0)) m := by
  have h1 : fn_X1_sized k (lN m) = lN m := x1_size hk hm false
  unfold fn_X1_turned
  rw [h1]
  by_cases h : v < 0
  · rw [if_pos h, if_neg (by rcases hk with rfl | rfl <;> decide), x1_signed hk hm]
    simp [h]
  · rw [if_neg h]
    simp [h, sgn]
theorem sg_dec {k : Nat} (hk : k = 2 ∨ k = 3) {n : Nat} (hn : n < TT k) (b : Bool) : decide (sgn k b n < 0) = b := by
  have h := sgn_lt hk hn b
  cases b
  · simp only [decide_eq_false_iff_not]; intro q; exact absurd (h.mp q) (by decide)
  · simp only [decide_eq_true_iff]; exact h.mpr rfl
/-- a reference's sign from a test of 0 ≤ v -/
theorem x3_sg2 {k : Nat} (hk : k = 2 ∨ k = 3) {m : Nat} (hm : m < TT k) (v : Int64) : (if (0 : Int64) ≤ v then fn_X3_signed (nI k) (lN m) (0 : Int32) else fn_X3_signed (nI k) (lN m) (1 : Int32)) = sgn k (decide (v < 0)) m := by
  by_cases h : v < 0
  · rw [if_neg (fun q => (le_nlt v).mp q h)]
    simp only [h, decide_true]
    exact x3_signed hk hm true
  · rw [if_pos ((le_nlt v).mpr h)]
    simp only [h, decide_false]
    exact x3_signed hk hm false
theorem inf_lt {k : Nat} (hk : k = 2 ∨ k = 3) : infN k < TT k := by rcases hk with rfl | rfl <;> decide
theorem one_lt {k : Nat} (hk : k = 2 ∨ k = 3) : oneN k < TT k := by rcases hk with rfl | rfl <;> decide
theorem x1_inf {k : Nat} (hk : k = 2 ∨ k = 3) : fn_X1_infinity k = lN (infN k) := by rcases hk with rfl | rfl <;> decide
theorem x1_one {k : Nat} (hk : k = 2 ∨ k = 3) : fn_X1_one k = lN (oneN k) := by rcases hk with rfl | rfl <;> decide
theorem x3_inf {k : Nat} (hk : k = 2 ∨ k = 3) : fn_X3_endless (nI k) = lN (infN k) := by rcases hk with rfl | rfl <;> decide
theorem x3_one {k : Nat} (hk : k = 2 ∨ k = 3) : fn_X3_one (nI k) = lN (oneN k) := by rcases hk with rfl | rfl <;> decide
theorem x3_fl {k : Nat} (hk : k = 2 ∨ k = 3) : fn_X3_isFloating (nI k) = 1 := by rcases hk with rfl | rfl <;> decide
theorem TT_le {k : Nat} : TT k ≤ 9223372036854775808 := by unfold TT; split <;> omega
theorem lN_eq0 {n : Nat} (h : n < 9223372036854775808) : lN n = 0 ↔ n = 0 := (pk_lEQ (a := n) (b := 0) (by omega) (by decide))
