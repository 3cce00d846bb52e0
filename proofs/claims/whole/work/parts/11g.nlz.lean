/-! numberOfLeadingZeros -/
theorem lg_of {n l : Nat} (h1 : 2 ^ l ≤ n) (h2 : n < 2 ^ (l + 1)) : Nat.log2 n = l := by
  have h0 : n ≠ 0 := by have := Nat.two_pow_pos l; omega
  have a1 := (Nat.le_log2 h0).mpr h1
  have a2 := (Nat.log2_lt h0).mpr h2
  omega
theorem lg_ge {n : Nat} (h : n ≠ 0) : 2 ^ Nat.log2 n ≤ n := Nat.log2_self_le h
theorem lg_lt (n : Nat) : n < 2 ^ (Nat.log2 n + 1) := Nat.lt_log2_self
theorem lg_div {n j : Nat} (h : 2 ^ j ≤ n) : Nat.log2 (n / 2 ^ j) = Nat.log2 n - j ∧ j ≤ Nat.log2 n := by
  have h0 : n ≠ 0 := by have := Nat.two_pow_pos j; omega
  have hj : j ≤ Nat.log2 n := (Nat.le_log2 h0).mpr h
  refine ⟨lg_of ?_ ?_, hj⟩
  · rw [Nat.le_div_iff_mul_le (Nat.two_pow_pos j), ← Nat.pow_add, show Nat.log2 n - j + j = Nat.log2 n by omega]
    exact lg_ge h0
  · rw [Nat.div_lt_iff_lt_mul (Nat.two_pow_pos j), ← Nat.pow_add, show Nat.log2 n - j + 1 + j = Nat.log2 n + 1 by omega]
    exact lg_lt n
theorem nz_73 {n c : Nat} (h1 : 1 ≤ n) (h2 : n < 4) (hc : 1 ≤ c) : fn_J6_numberOfLeadingZeros_0f7a4_73 (nI n) (nI c) = nI (c - Nat.log2 n) := by
  unfold fn_J6_numberOfLeadingZeros_0f7a4_73
  rw [pk_ushrN (by omega) 1 1 (by decide), pk_sub (by omega)]
  have : Nat.log2 n = n / 2 ^ 1 := by
    rcases (show n = 1 ∨ n = 2 ∨ n = 3 by omega) with rfl | rfl | rfl <;> decide
  rw [this]
theorem cm {c j : Nat} (h : j ≤ c) : nI c + iI (-(j : Int)) = nI (c - j) := by
  rw [iI_nat, iI_nat, iI_add]
  exact congrArg iI (by omega)
theorem nz_61 {n c : Nat} (h1 : 1 ≤ n) (h2 : n < 16) (hc : 3 ≤ c) : fn_J6_numberOfLeadingZeros_0f7a4_61 (nI n) (nI c) = nI (c - Nat.log2 n) := by
  unfold fn_J6_numberOfLeadingZeros_0f7a4_61
  by_cases h : n < 4
  · rw [if_pos (show nI n < 4 from nI_lt (b := 4) h (by decide))]
    exact nz_73 h1 h (by omega)
  · rw [if_neg (show ¬ nI n < 4 from nI_nlt (b := 4) (by omega) (by omega)), pk_ushrN (by omega) 2 2 (by decide), show (-2 : Int32) = iI (-((2 : Nat) : Int)) from by decide, cm (by omega)]
    obtain ⟨e1, e2⟩ := lg_div (n := n) (j := 2) (by omega)
    rw [nz_73 (by omega) (by omega) (by omega), e1]
    exact congrArg nI (by omega)
theorem nz_48 {n c : Nat} (h1 : 1 ≤ n) (h2 : n < 256) (hc : 7 ≤ c) : fn_J6_numberOfLeadingZeros_0f7a4_48 (nI n) (nI c) = nI (c - Nat.log2 n) := by
  unfold fn_J6_numberOfLeadingZeros_0f7a4_48
  by_cases h : n < 16
  · rw [if_pos (show nI n < 16 from nI_lt (b := 16) h (by decide))]
    exact nz_61 h1 h (by omega)
  · rw [if_neg (show ¬ nI n < 16 from nI_nlt (b := 16) (by omega) (by omega)), pk_ushrN (by omega) 4 4 (by decide), show (-4 : Int32) = iI (-((4 : Nat) : Int)) from by decide, cm (by omega)]
    obtain ⟨e1, e2⟩ := lg_div (n := n) (j := 4) (by omega)
    rw [nz_61 (by omega) (by omega) (by omega), e1]
    exact congrArg nI (by omega)
theorem nz_33 {n c : Nat} (h1 : 1 ≤ n) (h2 : n < 65536) (hc : 15 ≤ c) : fn_J6_numberOfLeadingZeros_0f7a4_33 (nI n) (nI c) = nI (c - Nat.log2 n) := by
  unfold fn_J6_numberOfLeadingZeros_0f7a4_33
  by_cases h : n < 256
  · rw [if_pos (show nI n < 256 from nI_lt (b := 256) h (by decide))]
    exact nz_48 h1 h (by omega)
  · rw [if_neg (show ¬ nI n < 256 from nI_nlt (b := 256) (by omega) (by omega)), pk_ushrN (by omega) 8 8 (by decide), show (-8 : Int32) = iI (-((8 : Nat) : Int)) from by decide, cm (by omega)]
    obtain ⟨e1, e2⟩ := lg_div (n := n) (j := 8) (by omega)
    rw [nz_48 (by omega) (by omega) (by omega), e1]
    exact congrArg nI (by omega)
theorem nz_int {n : Nat} (h1 : 1 ≤ n) (h2 : n < 4294967296) : fn_J6_numberOfLeadingZeros_0f7a4 (nI n) = nI (31 - Nat.log2 n) := by
  unfold fn_J6_numberOfLeadingZeros_0f7a4
  have e0 : (0 : Int32).toInt = 0 := by decide
  by_cases hb : n < 2147483648
  · rw [if_pos (show (0 : Int32) < nI n from nI_lt (a := 0) (by omega) (by omega))]
    by_cases h : n < 65536
    · rw [if_pos (show nI n < 65536 from nI_lt (b := 65536) h (by decide))]
      exact nz_33 (c := 31) h1 h (by omega)
    · rw [if_neg (show ¬ nI n < 65536 from nI_nlt (b := 65536) (by omega) (by omega)), pk_ushrN (by omega) 16 16 (by decide), show (31 : Int32) + (-16 : Int32) = nI 15 from by decide]
      obtain ⟨e1, e2⟩ := lg_div (n := n) (j := 16) (by omega)
      rw [nz_33 (by omega) (by omega) (by omega), e1]
      exact congrArg nI (by omega)
  · have ht := nI_ti h2
    rw [if_neg hb] at ht
    rw [if_neg (show ¬ (0 : Int32) < nI n by rw [Int32.lt_iff_toInt_lt, ht, e0]; omega), if_neg (show ¬ nI n = 0 from fun q => by rw [q, e0] at ht; omega)]
    rw [lg_of (l := 31) (by omega) (by omega)]
    rfl
theorem nI_eq0 {n : Nat} (h : n < 4294967296) : nI n = 0 ↔ n = 0 := by
  constructor
  · intro q
    have ht := nI_ti h
    have e0 : (0 : Int32).toInt = 0 := by decide
    rw [q, e0] at ht
    split at ht <;> omega
  · intro q
    rw [q]
    rfl
theorem nz_long {n : Nat} (h1 : 1 ≤ n) (h2 : n < 18446744073709551616) : fn_J13_numberOfLeadingZeros_95d88 (lN n) = nI (63 - Nat.log2 n) := by
  unfold fn_J13_numberOfLeadingZeros_95d88
  have es : (Int64.toUInt64 (lN n) >>> (Int64.toUInt64 (Int32.toInt64 (32 : Int32)) &&& Int64.toUInt64 63)).toInt64 = lN (n / 2 ^ 32) := wb_shr (k := 32) (by omega) (by decide)
  rw [es, lN_i, lN_i]
  by_cases h : n / 2 ^ 32 = 0
  · rw [if_pos ((nI_eq0 (by omega)).mpr h), nz_int h1 (by omega)]
    have hl : Nat.log2 n < 32 := (Nat.log2_lt (by omega)).mpr (by omega)
    have e : (32 : Int32) + nI (31 - Nat.log2 n) = nI (32 + (31 - Nat.log2 n)) := nI_add 32 _
    rw [e]
    exact congrArg nI (by omega)
  · rw [if_neg (fun q => h ((nI_eq0 (by omega)).mp q)), nz_int (by omega) (by omega)]
    obtain ⟨e1, e2⟩ := lg_div (n := n) (j := 32) (by omega)
    have hl : Nat.log2 n < 64 := (Nat.log2_lt (by omega)).mpr (by omega)
    rw [e1]
    exact congrArg nI (by omega)
/-! sizeOf: a significand times 2 to the power of a scale -/
/-- divided by 2 to the power of D, which may be below 0 -/
def sdN (M : Nat) (D : Int) : Nat := if D ≤ 0 then M * 2 ^ (-D).toNat else if 63 < D then 0 else rnd M D.toNat
theorem sd_int {M : Nat} (hM : M < 18446744073709551616) {D : Int} (h1 : -62 ≤ D) (h2 : D ≤ 5000) : fn_X1_scaledDown (lN M) (iI D) = lN (sdN M D) := by
  unfold sdN
  by_cases h : D ≤ 0
  · rw [if_pos h]
    have e := sd_neg (m := M) (z := (-D).toNat) (by omega)
    rw [show -(((-D).toNat : Nat) : Int) = D by omega] at e
    exact e
  · rw [if_neg h]
    by_cases h3 : 63 < D
    · rw [if_pos h3]
      unfold fn_X1_scaledDown
      rw [if_pos (show (0 : Int32) < iI D from (iI_lt (a := 0) (by omega) (by omega)).mpr (by omega)), if_neg (show ¬ iI D ≤ 63 from fun q => absurd ((iI_le (b := 63) (by omega) (by omega)).mp q) (by omega))]
      rfl
    · rw [if_neg h3]
      have e := sd_all (m := M) (d := D.toNat) hM (by omega)
      rw [iI_nat, show ((D.toNat : Nat) : Int) = D by omega] at e
      exact e
def szN (k M : Nat) (s : Int) : Nat :=
  if (Nat.log2 M : Int) + s ≤ (bb k : Int) then ((if (Nat.log2 M : Int) + s < 1 - (bb k : Int) then 1 - (bb k : Int) else (Nat.log2 M : Int) + s) + (bb k : Int) - 1).toNat * 2 ^ fb k + sdN M ((if (Nat.log2 M : Int) + s < 1 - (bb k : Int) then 1 - (bb k : Int) else (Nat.log2 M : Int) + s) - (fb k : Int) - s)
  else infN k
theorem x1_sizeOf {k : Nat} (hk : k = 2 ∨ k = 3) {M : Nat} (h0 : 1 ≤ M) (hM : M < 18446744073709551616) {s : Int} (hs1 : -1200 ≤ s) (hs2 : s ≤ 1200) : fn_X1_sizeOf k (lN M) (iI s) = lN (szN k M s) := by
  have f1 := fb_le hk
  have b1 := bb_le hk
  have hl : Nat.log2 M < 64 := (Nat.log2_lt (by omega)).mpr (by omega)
  unfold fn_X1_sizeOf szN
  have hne : ¬ lN M = 0 := fun q => by
    have := congrArg uN q
    rw [uN_lN, Nat.mod_eq_of_lt hM] at this
    have h2 : uN (0 : Int64) = 0 := rfl
    omega
  rw [if_neg hne, nz_long h0 hM]
  have e1 : (63 : Int32) - nI (63 - Nat.log2 M) + iI s = iI ((Nat.log2 M : Int) + s) := by
    rw [show (63 : Int32) = iI 63 from rfl, iI_nat, iI_sub, iI_add]
    exact congrArg iI (by omega)
  rw [e1, kB_eq hk, kR_eq hk]
  have e2 : (1 : Int32) - nI (bb k) = iI (1 - (bb k : Int)) := by rw [show (1 : Int32) = iI 1 from rfl, iI_nat, iI_sub]
  rw [e2]
  generalize hE : (Nat.log2 M : Int) + s = E
  by_cases c : E ≤ (bb k : Int)
  · rw [if_pos (show iI E ≤ nI (bb k) from by rw [iI_nat]; exact (iI_le (by omega) (by omega)).mpr c), if_pos c]
    have key : ∀ bd : Int, 1 - (bb k : Int) ≤ bd → bd ≤ (bb k : Int) → E ≤ bd → ((Int32.toInt64 ((iI bd + nI (bb k)) - (1 : Int32))) <<< (Int32.toInt64 (nI (fb k)) &&& 63)) + fn_X1_scaledDown (lN M) ((iI bd - nI (fb k)) - iI s) = lN ((bd + (bb k : Int) - 1).toNat * 2 ^ fb k + sdN M (bd - (fb k : Int) - s)) := fun bd hb1 hb2 hb3 => by
      have e3 : iI bd + nI (bb k) - (1 : Int32) = nI (bd + (bb k : Int) - 1).toNat := by
        rw [show (1 : Int32) = iI 1 from rfl, iI_nat, iI_nat, iI_add, iI_sub]
        exact congrArg iI (by omega)
      have e4 : iI bd - nI (fb k) - iI s = iI (bd - (fb k : Int) - s) := by rw [iI_nat, iI_sub, iI_sub]
      rw [e3, e4, nI_l (by omega), wb_shl _ (by omega), sd_int hM (by omega) (by omega), lN_add]
    by_cases c2 : E < 1 - (bb k : Int)
    · rw [if_pos (show iI E < iI (1 - (bb k : Int)) from (iI_lt (by omega) (by omega)).mpr c2), if_pos c2]
      exact key _ (by omega) (by omega) (by omega)
    · rw [if_neg (show ¬ iI E < iI (1 - (bb k : Int)) from fun q => c2 ((iI_lt (by omega) (by omega)).mp q)), if_neg c2]
      exact key _ (by omega) (by omega) (by omega)
  · rw [if_neg (show ¬ iI E ≤ nI (bb k) from by rw [iI_nat]; exact fun q => c ((iI_le (by omega) (by omega)).mp q)), if_neg c, x1_inf hk]
