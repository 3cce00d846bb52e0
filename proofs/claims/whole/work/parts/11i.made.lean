/-! follow: a number made of another kind -/
theorem made_ww {k j : Nat} (hk : k = 0 ∨ k = 1) (hj : j = 0 ∨ j = 1) {v : Int64} (hv : okN j v) : fn_X1_made k j v = fn_X3_turnedInto (nI k) (nI j) v ∧ okN k (fn_X1_made k j v) := by
  have e1 : fn_X1_made k j v = fn_X1_fitted k v := by
    unfold fn_X1_made
    rw [if_pos (show kF j = 0 by rcases hj with rfl | rfl <;> decide), if_pos (show kF k = 0 by rcases hk with rfl | rfl <;> decide)]
  rw [e1]
  unfold fn_X3_turnedInto
  rcases hk with rfl | rfl
  · rw [fitted0]
    refine ⟨?_, tw_ok v⟩
    rcases hj with rfl | rfl
    · rw [if_pos (show nI 0 = nI 0 from rfl)]
      exact hv
    · rw [if_neg (show ¬ nI 0 = nI 1 by decide), if_pos (show fn_X3_isFloating (nI 1) = 0 by decide), if_neg (show ¬ nI 0 = 1 by decide), if_pos (show nI 0 = 0 by decide)]
  · rw [fitted1]
    refine ⟨?_, trivial⟩
    rcases hj with rfl | rfl
    · rw [if_neg (show ¬ nI 1 = nI 0 by decide), if_pos (show fn_X3_isFloating (nI 0) = 0 by decide), if_pos (show nI 1 = 1 by decide)]
    · rw [if_pos (show nI 1 = nI 1 from rfl)]
theorem zero_tt {k : Nat} (hk : k = 2 ∨ k = 3) : (0 : Nat) < TT k := by rcases hk with rfl | rfl <;> decide
/-- a size made by both, with a sign -/
theorem both_size {k : Nat} (hk : k = 2 ∨ k = 3) {M : Nat} (hM : M < 18446744073709551616) {s : Int} (hs1 : -1200 ≤ s) (hs2 : s ≤ 1200) (hE : (Nat.log2 M : Int) + s + (bb k : Int) ≤ 2023) (v : Int64) (b : Bool) (hb : decide (v < 0) = b) : fn_X1_turned k (fn_X1_sizeOf k (lN M) (iI s)) v = fn_X3_nearest (nI k) (b32 b) (lN M) (iI s) ∧ okN k (fn_X1_turned k (fn_X1_sizeOf k (lN M) (iI s)) v) := by
  rcases Nat.eq_zero_or_pos M with h | h
  · subst h
    have e0 : lN 0 = 0 := rfl
    unfold fn_X1_sizeOf fn_X3_nearest
    rw [e0, if_pos rfl, if_pos rfl, ← e0, x1_turned hk (zero_tt hk), x3_signed hk (zero_tt hk), hb]
    exact ⟨rfl, okF hk (Nat.zero_le _)⟩
  · obtain ⟨e1, e2⟩ := x3_nearest hk h hM hs1 hs2 hE b
    rw [x1_sizeOf hk h hM hs1 hs2, e1, x1_turned hk (Nat.lt_of_le_of_lt e2 (inf_lt hk)), hb]
    exact ⟨rfl, okF hk e2⟩
theorem kj_ne {k j : Nat} (hk : k = 2 ∨ k = 3) (hj : j = 0 ∨ j = 1) : ¬ nI k = nI j ∧ ¬ nI k = 1 ∧ ¬ nI k = 0 := by
  rcases hk with rfl | rfl <;> rcases hj with rfl | rfl <;> decide
theorem made_fw {k j : Nat} (hk : k = 2 ∨ k = 3) (hj : j = 0 ∨ j = 1) (v : Int64) : fn_X1_made k j v = fn_X3_turnedInto (nI k) (nI j) v ∧ okN k (fn_X1_made k j v) := by
  obtain ⟨n1, n2, n3⟩ := kj_ne hk hj
  have b1 := bb_le hk
  have e1 : fn_X1_made k j v = fn_X1_turned k (fn_X1_sizeOf k (if 0 < v then v else -v) (0 : Int32)) v := by
    unfold fn_X1_made
    rw [if_pos (show kF j = 0 by rcases hj with rfl | rfl <;> decide), if_neg (kF1 hk)]
  have e2 : fn_X3_turnedInto (nI k) (nI j) v = if (0 : Int64) ≤ v then fn_X3_nearest (nI k) (0 : Int32) v (0 : Int32) else fn_X3_nearest (nI k) (1 : Int32) (-v) (0 : Int32) := by
    unfold fn_X3_turnedInto
    rw [if_neg n1, if_pos (show fn_X3_isFloating (nI j) = 0 by rcases hj with rfl | rfl <;> decide), if_neg n2, if_neg n3]
  rw [e1, e2]
  by_cases h : v < 0
  · rw [if_neg (show ¬ (0 : Int64) ≤ v from fun q => (le_nlt v).mp q h), if_neg (show ¬ 0 < v by rw [Int64.lt_iff_toInt_lt] at h ⊢; omega)]
    have hu := uN_lt (-v)
    have ev := lN_uN (-v)
    generalize uN (-v) = M at hu ev
    rw [ev]
    have hl : (Nat.log2 M : Int) < 64 := by
      rcases Nat.eq_zero_or_pos M with q | q
      · subst q; decide
      · have := (Nat.log2_lt (n := M) (k := 64) (by omega)).mpr (by omega)
        omega
    exact both_size hk hu (s := 0) (by decide) (by decide) (by omega) v true (by simp [h])
  · rw [if_pos ((le_nlt v).mpr h)]
    have ea : (if 0 < v then v else -v) = v := by
      by_cases h2 : 0 < v
      · rw [if_pos h2]
      · rw [if_neg h2, z_of h2 h]
        decide
    rw [ea]
    have hu := uN_lt v
    have ev := lN_uN v
    have hl : (Nat.log2 (uN v) : Int) < 64 := by
      rcases Nat.eq_zero_or_pos (uN v) with q | q
      · rw [q]; decide
      · have := (Nat.log2_lt (n := uN v) (k := 64) (by omega)).mpr (by omega)
        omega
    have key := both_size hk hu (s := 0) (by decide) (by decide) (by omega) v false (by simp [h])
    rw [← ev] at key
    exact key
/-! significand and scale -/
def sigN (j n : Nat) : Nat := if 2 ^ fb j ≤ n then n % 2 ^ fb j + 2 ^ fb j else n
def sclN (j n : Nat) : Int := (if 1 < n / 2 ^ fb j then ((n / 2 ^ fb j : Nat) : Int) else 1) - (bb j : Int) - (fb j : Int)
theorem sh1 {j : Nat} (hj : j = 2 ∨ j = 3) : (1 : Int64) <<< (Int32.toInt64 (nI (fb j)) &&& 63) = lN (2 ^ fb j) := by
  have f1 := fb_le hj
  rw [show (1 : Int64) = lN 1 from rfl, wb_shl _ (by omega), Nat.one_mul]
theorem mant_eq {j : Nat} (hj : j = 2 ∨ j = 3) {n : Nat} (hn : n < TT j) : (lN n &&& (lN (2 ^ fb j) - (1 : Int64))) ||| lN (2 ^ fb j) = lN (n % 2 ^ fb j + 2 ^ fb j) := by
  have f1 := fb_le hj
  have h2 : n < 9223372036854775808 := Nat.lt_of_lt_of_le hn TT_le
  have hP := Nat.two_pow_pos (fb j)
  have hP2 : 2 ^ fb j ≤ 2 ^ 52 := pw_le f1.2
  have hm := Nat.mod_lt n hP
  rw [show (1 : Int64) = lN 1 from rfl, lN_sub hP, wb_mask (by omega) (by omega)]
  have e := or_hi (m := n % 2 ^ fb j) (s := fb j) (q := 1) hm (by omega)
  rw [Nat.mul_one] at e
  exact e
theorem x1_sig {j : Nat} (hj : j = 2 ∨ j = 3) {n : Nat} (hn : n < TT j) : fn_X1_significand j (lN n) = lN (sigN j n) := by
  have f1 := fb_le hj
  have h2 : n < 9223372036854775808 := Nat.lt_of_lt_of_le hn TT_le
  have hP2 : 2 ^ fb j ≤ 2 ^ 52 := pw_le f1.2
  have hP := Nat.two_pow_pos (fb j)
  unfold fn_X1_significand sigN
  rw [kR_eq hj, sh1 hj, mant_eq hj hn]
  by_cases h : 2 ^ fb j ≤ n
  · rw [if_pos ((pk_lLE (by omega) (by omega)).mpr h), if_pos h]
  · rw [if_neg (fun q => h ((pk_lLE (by omega) (by omega)).mp q)), if_neg h]
theorem x1_scl {j : Nat} (hj : j = 2 ∨ j = 3) {n : Nat} (hn : n < TT j) : fn_X1_scale j (lN n) = iI (sclN j n) := by
  have f1 := fb_le hj
  have b1 := bb_le hj
  have he := exp_le hj hn
  unfold fn_X1_scale sclN
  rw [kR_eq hj, kB_eq hj, exp_32 hj hn]
  generalize n / 2 ^ fb j = e at *
  by_cases h : 1 < e
  · rw [if_pos (show (1 : Int32) < nI e from nI_lt (a := 1) h (by omega)), if_pos h, iI_nat, iI_nat, iI_nat, iI_sub, iI_sub]
  · rw [if_neg (show ¬ (1 : Int32) < nI e from nI_nlt (b := e) (a := 1) (by omega) (by decide)), if_neg h, show (1 : Int32) = iI 1 from rfl, iI_nat, iI_nat, iI_sub, iI_sub]
theorem sig_lg {j : Nat} (hj : j = 2 ∨ j = 3) {n : Nat} (h : 2 ^ fb j ≤ n) : Nat.log2 (sigN j n) = fb j := by
  have hP := Nat.two_pow_pos (fb j)
  have hm := Nat.mod_lt n hP
  unfold sigN
  rw [if_pos h]
  exact lg_of (by omega) (by rw [Nat.pow_succ]; omega)
theorem e_of {j n : Nat} : 2 ^ fb j ≤ n ↔ 1 ≤ n / 2 ^ fb j := by
  rw [Nat.le_div_iff_mul_le (Nat.two_pow_pos _), Nat.one_mul]
/-- a number of a kind made of this kind is itself -/
theorem sz_self {k : Nat} (hk : k = 2 ∨ k = 3) {n : Nat} (hn : n < infN k) (h0 : 1 ≤ n) : szN k (sigN k n) (sclN k n) = n := by
  have f1 := fb_le hk
  have b1 := bb_le hk
  have hP := Nat.two_pow_pos (fb k)
  have hdm := dm n (2 ^ fb k)
  have he2 : n / 2 ^ fb k < 2 * bb k + 1 := by
    rw [Nat.div_lt_iff_lt_mul hP, ← inf_eq hk]
    exact hn
  by_cases h : 2 ^ fb k ≤ n
  · have hl := sig_lg hk h
    have he := e_of.mp h
    have es : sigN k n = n % 2 ^ fb k + 2 ^ fb k := by unfold sigN; rw [if_pos h]
    have ec : sclN k n = ((n / 2 ^ fb k : Nat) : Int) - (bb k : Int) - (fb k : Int) := by
      unfold sclN
      by_cases q : 1 < n / 2 ^ fb k
      · rw [if_pos q]
      · rw [if_neg q, show n / 2 ^ fb k = 1 by omega]; rfl
    unfold szN
    rw [hl, ec, es]
    generalize n / 2 ^ fb k = e at *
    rw [show ((fb k : Nat) : Int) + ((e : Int) - (bb k : Int) - (fb k : Int)) = (e : Int) - (bb k : Int) by omega]
    rw [if_pos (by omega), if_neg (by omega), show (e : Int) - (bb k : Int) - (fb k : Int) - ((e : Int) - (bb k : Int) - (fb k : Int)) = 0 by omega, show ((e : Int) - (bb k : Int) + (bb k : Int) - 1).toNat = e - 1 by omega]
    have ed : sdN (n % 2 ^ fb k + 2 ^ fb k) 0 = n % 2 ^ fb k + 2 ^ fb k := by
      unfold sdN
      rw [if_pos (Int.le_refl 0)]
      simp
    rw [ed, Nat.sub_mul, Nat.one_mul]
    have hmul : 1 * 2 ^ fb k ≤ e * 2 ^ fb k := Nat.mul_le_mul_right _ he
    omega
  · have he : n / 2 ^ fb k = 0 := Nat.div_eq_of_lt (by omega)
    have es : sigN k n = n := by unfold sigN; rw [if_neg h]
    have ec : sclN k n = 1 - (bb k : Int) - (fb k : Int) := by unfold sclN; rw [he, if_neg (by decide)]
    have hl : Nat.log2 n < fb k := (Nat.log2_lt (by omega)).mpr (by omega)
    unfold szN
    rw [es, ec, if_pos (by omega), if_pos (by omega), show 1 - (bb k : Int) - (fb k : Int) - (1 - (bb k : Int) - (fb k : Int)) = 0 by omega, show (1 - (bb k : Int) + (bb k : Int) - 1).toNat = 0 by omega]
    unfold sdN
    rw [if_pos (Int.le_refl 0)]
    simp
