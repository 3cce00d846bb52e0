/-! set: which bits are a number -/
theorem put_cases {k : Nat} (hk : k < 4) (v3 : Int64) :
    (fn_X1_isNumber k (fn_X1_fitted k v3) = 0 ∧ ∀ (n : Nat) (kf : Nat → Int32) (nf : Nat → Int64) (a w : Nat), kf a = nI k → fn_X3_set_at n kf nf a w v3 = ((0 : Int32), n, kf, nf)) ∨
    (¬ fn_X1_isNumber k (fn_X1_fitted k v3) = 0 ∧ okN k (fn_X1_fitted k v3) ∧ ∀ (n : Nat) (kf : Nat → Int32) (nf : Nat → Int64) (a w : Nat), kf a = nI k → fn_X3_set_at n kf nf a w v3 = ((1 : Int32), n, kf, vp_updL nf (5 * a + w) (fn_X1_fitted k v3))) := by
  have key : ∀ m : Int64, (m ≤ fn_X3_endless (nI k)) ↔ ¬ fn_X3_endless (nI k) < m := fun m => by
    rw [Int64.le_iff_toInt_le, Int64.lt_iff_toInt_lt]
    omega
  rcases (show k = 0 ∨ k = 1 ∨ k = 2 ∨ k = 3 by omega) with rfl | rfl | rfl | rfl
  · refine Or.inr ⟨by unfold fn_X1_isNumber; rw [if_pos (show kF 0 = 0 by decide)]; decide, by rw [fitted0]; exact tw_ok _, fun n kf nf a w h => ?_⟩
    unfold fn_X3_set_at
    rw [h, if_pos (show nI 0 = 0 by decide), if_pos (show fn_X3_isFloating (nI 0) = 0 by decide), fitted0]
  · refine Or.inr ⟨by unfold fn_X1_isNumber; rw [if_pos (show kF 1 = 0 by decide)]; decide, trivial, fun n kf nf a w h => ?_⟩
    unfold fn_X3_set_at
    rw [h, if_neg (show ¬ nI 1 = 0 by decide), if_neg (show ¬ nI 1 = 2 by decide), if_pos (show fn_X3_isFloating (nI 1) = 0 by decide), fitted1]
  · have hs : fn_X1_sized 2 (fn_X1_fitted 2 v3) = fn_X3_size (nI 2) (Int32.toInt64 (Int64.toInt32 v3)) := by
      rw [fitted2]
      unfold fn_X1_sized fn_X3_size
      rw [if_neg (show ¬ kF 2 = 0 by decide), if_pos (show nI 2 = 2 by decide), show (kS 2 ^^^ (-1 : Int64)) = 2147483647 from by decide]
    have hi : fn_X1_infinity 2 = fn_X3_endless (nI 2) := by decide
    by_cases h : fn_X3_endless (nI 2) < fn_X3_size (nI 2) (Int32.toInt64 (Int64.toInt32 v3))
    · refine Or.inl ⟨?_, fun n kf nf a w e => ?_⟩
      · unfold fn_X1_isNumber
        rw [if_neg (show ¬ kF 2 = 0 by decide), hs, hi, if_pos h]
      · unfold fn_X3_set_at
        rw [e, if_neg (show ¬ nI 2 = 0 by decide), if_pos (show nI 2 = 2 by decide), if_neg (show ¬ fn_X3_isFloating (nI 2) = 0 by decide), if_neg (fun q => (key _).mp q h)]
    · refine Or.inr ⟨?_, ?_, fun n kf nf a w e => ?_⟩
      · unfold fn_X1_isNumber
        rw [if_neg (show ¬ kF 2 = 0 by decide), hs, hi, if_neg h]
        decide
      · rw [fitted2]
        obtain ⟨x, hx, ex⟩ := wb_of32 v3.toInt32
        have hx : x < 4294967296 := hx
        rw [ex] at h ⊢
        rcases Nat.lt_or_ge x 2147483648 with q | q
        · have e1 : (nI x).toInt64 = sgn 2 false x := nI_l (by omega)
          rw [e1] at h ⊢
          rw [x3_size (Or.inl rfl) q, x3_inf (Or.inl rfl), pk_lLT (by decide) (by omega)] at h
          exact okF (Or.inl rfl) (Nat.not_lt.mp h)
        · have e1 : (nI x).toInt64 = sgn 2 true (x - 2147483648) := (sx_hi q hx).trans (congrArg lN (by show _ = x - 2147483648 + (18446744073709551616 - 2147483648); omega))
          have q2 : x - 2147483648 < TT 2 := by show _ < 2147483648; omega
          rw [e1] at h ⊢
          rw [x3_size (Or.inl rfl) q2, x3_inf (Or.inl rfl), pk_lLT (by decide) (by omega)] at h
          exact okF (Or.inl rfl) (Nat.not_lt.mp h)
      · unfold fn_X3_set_at
        rw [e, if_neg (show ¬ nI 2 = 0 by decide), if_pos (show nI 2 = 2 by decide), if_neg (show ¬ fn_X3_isFloating (nI 2) = 0 by decide), if_pos ((key _).mpr h), fitted2]
  · have hs : fn_X1_sized 3 (fn_X1_fitted 3 v3) = fn_X3_size (nI 3) v3 := by
      rw [fitted3]
      unfold fn_X1_sized fn_X3_size
      rw [if_neg (show ¬ kF 3 = 0 by decide), if_neg (show ¬ nI 3 = 2 by decide), show (kS 3 ^^^ (-1 : Int64)) = 9223372036854775807 from by decide]
    have hi : fn_X1_infinity 3 = fn_X3_endless (nI 3) := by decide
    by_cases h : fn_X3_endless (nI 3) < fn_X3_size (nI 3) v3
    · refine Or.inl ⟨?_, fun n kf nf a w e => ?_⟩
      · unfold fn_X1_isNumber
        rw [if_neg (show ¬ kF 3 = 0 by decide), hs, hi, if_pos h]
      · unfold fn_X3_set_at
        rw [e, if_neg (show ¬ nI 3 = 0 by decide), if_neg (show ¬ nI 3 = 2 by decide), if_neg (show ¬ fn_X3_isFloating (nI 3) = 0 by decide), if_neg (fun q => (key _).mp q h)]
    · refine Or.inr ⟨?_, ?_, fun n kf nf a w e => ?_⟩
      · unfold fn_X1_isNumber
        rw [if_neg (show ¬ kF 3 = 0 by decide), hs, hi, if_neg h]
        decide
      · rw [fitted3]
        have hx := uN_lt v3
        have ev := lN_uN v3
        generalize uN v3 = x at hx ev
        rw [ev] at h ⊢
        rcases Nat.lt_or_ge x 9223372036854775808 with q | q
        · have e1 : lN x = sgn 3 false x := rfl
          rw [e1] at h ⊢
          rw [x3_size (Or.inr rfl) q, x3_inf (Or.inr rfl), pk_lLT (by decide) (by omega)] at h
          exact okF (Or.inr rfl) (Nat.not_lt.mp h)
        · have e1 : lN x = sgn 3 true (x - 9223372036854775808) := congrArg lN (by show _ = x - 9223372036854775808 + (18446744073709551616 - 9223372036854775808); omega)
          have q2 : x - 9223372036854775808 < TT 3 := by show _ < 9223372036854775808; omega
          rw [e1] at h ⊢
          rw [x3_size (Or.inr rfl) q2, x3_inf (Or.inr rfl), pk_lLT (by decide) (by omega)] at h
          exact okF (Or.inr rfl) (Nat.not_lt.mp h)
      · unfold fn_X3_set_at
        rw [e, if_neg (show ¬ nI 3 = 0 by decide), if_neg (show ¬ nI 3 = 2 by decide), if_neg (show ¬ fn_X3_isFloating (nI 3) = 0 by decide), if_pos ((key _).mpr h), fitted3]
/-! ints that may be below 0 -/
def iI (z : Int) : Int32 := Int32.ofInt z
theorem iI_add (a b : Int) : iI a + iI b = iI (a + b) := (Int32.ofInt_add a b).symm
theorem iI_sub (a b : Int) : iI a - iI b = iI (a - b) := (Int32.ofInt_sub a b).symm
theorem iI_neg (a : Int) : -iI a = iI (-a) := (Int32.ofInt_neg a).symm
theorem iI_nat (n : Nat) : nI n = iI (n : Int) := rfl
theorem iI_ti {z : Int} (h1 : -2147483648 ≤ z) (h2 : z < 2147483648) : (iI z).toInt = z := by
  have e : (iI z).toInt = z.bmod (2 ^ 32) := Int32.toInt_ofInt
  have e32 : (((2 ^ 32 : Nat) : Int)) = 4294967296 := by decide
  rw [e, Int.bmod_def, e32]
  split <;> omega
theorem iI_lt {a b : Int} (ha : -2147483648 ≤ a ∧ a < 2147483648) (hb : -2147483648 ≤ b ∧ b < 2147483648) : iI a < iI b ↔ a < b := by
  rw [Int32.lt_iff_toInt_lt, iI_ti ha.1 ha.2, iI_ti hb.1 hb.2]
theorem iI_le {a b : Int} (ha : -2147483648 ≤ a ∧ a < 2147483648) (hb : -2147483648 ≤ b ∧ b < 2147483648) : iI a ≤ iI b ↔ a ≤ b := by
  rw [Int32.le_iff_toInt_le, iI_ti ha.1 ha.2, iI_ti hb.1 hb.2]
theorem iI_eq {a b : Int} (ha : -2147483648 ≤ a ∧ a < 2147483648) (hb : -2147483648 ≤ b ∧ b < 2147483648) : iI a = iI b ↔ a = b := by
  rw [← Int32.toInt_inj, iI_ti ha.1 ha.2, iI_ti hb.1 hb.2]
theorem kB_eq {k : Nat} (hk : k = 2 ∨ k = 3) : kB k = nI (bb k) := by rcases hk with rfl | rfl <;> decide
theorem kR_eq {k : Nat} (hk : k = 2 ∨ k = 3) : kR k = nI (fb k) := by rcases hk with rfl | rfl <;> decide
theorem fr_eq {k : Nat} (hk : k = 2 ∨ k = 3) : fn_X3_fractionOf (nI k) = nI (fb k) := by rcases hk with rfl | rfl <;> decide
theorem one_eq {k : Nat} (hk : k = 2 ∨ k = 3) : oneN k = bb k * 2 ^ fb k := by rcases hk with rfl | rfl <;> decide
theorem inf_eq {k : Nat} (hk : k = 2 ∨ k = 3) : infN k = (2 * bb k + 1) * 2 ^ fb k := by rcases hk with rfl | rfl <;> decide
theorem TT_eq {k : Nat} (hk : k = 2 ∨ k = 3) : TT k = (2 * bb k + 2) * 2 ^ fb k := by rcases hk with rfl | rfl <;> decide
theorem fb_le {k : Nat} (hk : k = 2 ∨ k = 3) : 23 ≤ fb k ∧ fb k ≤ 52 := by rcases hk with rfl | rfl <;> decide
theorem bb_le {k : Nat} (hk : k = 2 ∨ k = 3) : 127 ≤ bb k ∧ bb k ≤ 1023 := by rcases hk with rfl | rfl <;> decide
/-- the exponent's field -/
theorem exp_le {k : Nat} (hk : k = 2 ∨ k = 3) {n : Nat} (hn : n < TT k) : n / 2 ^ fb k ≤ 2 * bb k + 1 := by
  rw [TT_eq hk] at hn
  have := (Nat.div_lt_iff_lt_mul (Nat.two_pow_pos (fb k))).mpr hn
  omega
theorem exp_32 {k : Nat} (hk : k = 2 ∨ k = 3) {n : Nat} (hn : n < TT k) : Int64.toInt32 ((Int64.toUInt64 (lN n) >>> (Int64.toUInt64 (Int32.toInt64 (nI (fb k))) &&& Int64.toUInt64 63)).toInt64) = nI (n / 2 ^ fb k) := by
  have h1 := fb_le hk
  have h2 : n < 9223372036854775808 := Nat.lt_of_lt_of_le hn TT_le
  rw [wb_shr (by omega) (by omega), lN_i]
/-- how many bits stand below the unit -/
def bbu (k n : Nat) : Nat := bb k + fb k - n / 2 ^ fb k
theorem x1_bits {k : Nat} (hk : k = 2 ∨ k = 3) {n : Nat} (hn : n < TT k) : fn_X1_bitsBelowUnit k (lN n) = nI (bbu k n) := by
  have h1 := fb_le hk
  have h2 := bb_le hk
  have h3 := exp_le hk hn
  unfold fn_X1_bitsBelowUnit bbu
  rw [kB_eq hk, kR_eq hk, exp_32 hk hn]
  generalize n / 2 ^ fb k = e at *
  rw [nI_add, iI_nat, iI_nat, iI_sub, show (0 : Int32) = iI 0 from rfl]
  by_cases h : e < bb k + fb k
  · rw [if_pos ((iI_lt (by omega) (by omega)).mpr (by omega)), iI_nat]
    exact congrArg iI (by omega)
  · rw [if_neg (fun q => absurd ((iI_lt (by omega) (by omega)).mp q) (by omega)), iI_nat]
    exact congrArg iI (by omega)
