/-! the reference's steps -/
theorem sg_n0 {k : Nat} (b : Bool) : sgn k b 0 = sgn k b 0 := rfl
/-- the reference's end: a size with the sign of v -/
theorem st_132 {k : Nat} (hk : k = 2 ∨ k = 3) (v : Int64) (aw : Bool) : fn_X3_stepped_132 (nI k) v (b32 aw) = sgn k (decide (v < 0)) (if aw then oneN k else 0) := by
  have h0 : (0 : Nat) < TT k := by rcases hk with rfl | rfl <;> decide
  unfold fn_X3_stepped_132
  cases aw
  · rw [if_pos (by decide)]
    exact x3_sg2 hk h0 v
  · rw [if_neg (by decide), x3_one hk]
    exact x3_sg2 hk (one_lt hk) v
theorem st_241 {k : Nat} (hk : k = 2 ∨ k = 3) (v : Int64) (aw : Bool) {low P : Nat} (h1 : low < TT k) (h2 : low + P < TT k) : fn_X3_stepped_241 (nI k) v (b32 aw) (lN P) (lN low) = sgn k (decide (v < 0)) (if aw then low + P else low) := by
  unfold fn_X3_stepped_241
  cases aw
  · rw [if_pos (by decide)]
    exact x3_sg2 hk h1 v
  · rw [if_neg (by decide), lN_add]
    exact x3_sg2 hk h2 v
theorem low_and {q d : Nat} (hd : d < 63) (hq : q * 2 ^ d < 9223372036854775808) : (lN (q * 2 ^ d) &&& lN (2 ^ d)) = 0 ↔ q % 2 = 0 := by
  have h1 : 2 ^ d < 2 ^ 63 := wb_lt2 hd
  rw [wb_and (by omega) (by omega)]
  have e : q * 2 ^ d &&& 2 ^ d = (q % 2) * 2 ^ d := by
    apply Nat.eq_of_testBit_eq
    intro i
    rw [Nat.testBit_and, Nat.testBit_two_pow, ← Nat.shiftLeft_eq, ← Nat.shiftLeft_eq, Nat.testBit_shiftLeft, Nat.testBit_shiftLeft]
    by_cases h : d = i
    · subst h
      simp [Nat.testBit_zero]
    · by_cases h2 : d ≤ i
      · have : q % 2 < 2 ^ (i - d) := Nat.lt_of_lt_of_le (Nat.mod_lt q (by decide)) (by
          have h3 : 2 ^ 1 ≤ 2 ^ (i - d) := Nat.pow_le_pow_right (by decide) (by omega)
          exact h3)
        simp [h, Nat.testBit_lt_two_pow this]
      · simp [h, h2]
  rw [e]
  have h4 := Nat.two_pow_pos d
  have h5 : q % 2 * 2 ^ d ≤ 2 ^ d := by
    have : q % 2 ≤ 1 := by omega
    calc q % 2 * 2 ^ d ≤ 1 * 2 ^ d := Nat.mul_le_mul_right _ this
      _ = 2 ^ d := Nat.one_mul _
  rw [lN_eq0 (by omega)]
  constructor
  · intro h
    rcases Nat.mul_eq_zero.mp h with h | h
    · exact h
    · omega
  · intro h
    rw [h, Nat.zero_mul]
/-- what a step makes of a size: away from 0 or not, or to the nearest -/
def stN (k : Nat) (how : Nat) (neg : Bool) (n : Nat) : Nat := if how = 2 then neaN k n else if (how = 0) = (neg = true) then outN k n else inwN k n
theorem x3_bias {k : Nat} (hk : k = 2 ∨ k = 3) (v : Int64) (how : Int32) : fn_X3_stepped (nI k) v how = fn_X3_stepped_30 (nI k) v how (nI (fb k)) (nI (bb k)) := by
  unfold fn_X3_stepped
  rw [if_neg (x3F hk), fr_eq hk]
  rcases hk with rfl | rfl
  · rw [if_pos (by decide)]; rfl
  · rw [if_neg (by decide)]; rfl
theorem dm (n P : Nat) : n / P * P + n % P = n := by rw [Nat.mul_comm]; exact Nat.div_add_mod n P
theorem up0 {n P : Nat} (hP : 0 < P) (h : n % P = 0) : (n + (P - 1)) / P = n / P := by
  have e := dm n P
  rw [h, Nat.add_zero] at e
  apply Nat.div_eq_of_lt_le
  · omega
  · rw [Nat.add_mul, Nat.one_mul]
    omega
/-- the reference's step from a known exponent -/
theorem st_161 {k : Nat} (hk : k = 2 ∨ k = 3) {n : Nat} (hn : n ≤ infN k) (b : Bool) (how : Nat) (hh : how < 3) (aw : Bool) (hone : oneN k ≤ n) (hlt : n / 2 ^ fb k < bb k + fb k) :
    fn_X3_stepped_161 (nI k) (sgn k b n) (nI how) (nI (fb k)) (lN n) (iI ((n / 2 ^ fb k : Nat) - (bb k : Nat) : Int)) (b32 aw) = sgn k b (if how = 2 then neaN k n else if aw then outN k n else inwN k n) := by
  have hT : n < TT k := Nat.lt_of_le_of_lt hn (inf_lt hk)
  have h2 : n < 9223372036854775808 := Nat.lt_of_lt_of_le hT TT_le
  have f1 := fb_le hk
  have b1 := bb_le hk
  have he := (one_ge hk).mp hone
  have hbl := bbu_le hk hone
  have hbu : bbu k n = bb k + fb k - n / 2 ^ fb k := rfl
  have hsd := sg_dec hk hT b
  unfold fn_X3_stepped_161
  have ed : nI (fb k) - iI ((n / 2 ^ fb k : Nat) - (bb k : Nat) : Int) = nI (bbu k n) := by
    rw [iI_nat, iI_sub, iI_nat, hbu]
    exact congrArg iI (by omega)
  rw [ed, show (1 : Int64) = lN 1 from rfl, wb_shl _ (by omega), Nat.one_mul]
  have hP := Nat.two_pow_pos (bbu k n)
  have hP2 : 2 ^ bbu k n < 2 ^ 63 := wb_lt2 (by omega)
  have hP3 : 2 ^ bbu k n ≤ 2 ^ 52 := Nat.pow_le_pow_right (by decide) (by omega)
  have hd1 : 0 < bbu k n := by rw [hbu]; omega
  rw [lN_sub hP, wb_mask (by omega) (by omega)]
  have hr := Nat.mod_lt n hP
  have hdm := dm n (2 ^ bbu k n)
  have hup : (n + (2 ^ bbu k n - 1)) / 2 ^ bbu k n * 2 ^ bbu k n ≤ infN k := up_le hP hn (inf_mod hk hbl)
  unfold fn_X3_stepped_179
  have ei : inwN k n = n / 2 ^ bbu k n * 2 ^ bbu k n := by unfold inwN; rw [if_pos hone]
  have eo : outN k n = (n + (2 ^ bbu k n - 1)) / 2 ^ bbu k n * 2 ^ bbu k n := by unfold outN; rw [if_pos hone]
  have en : neaN k n = rnd n (bbu k n) * 2 ^ bbu k n := by unfold neaN; rw [if_pos hone]
  rw [ei, eo, en]
  have er : rnd n (bbu k n) = if 2 ^ (bbu k n - 1) < n % 2 ^ bbu k n then n / 2 ^ bbu k n + 1 else if n % 2 ^ bbu k n = 2 ^ (bbu k n - 1) then (if n / 2 ^ bbu k n % 2 = 0 then n / 2 ^ bbu k n else n / 2 ^ bbu k n + 1) else n / 2 ^ bbu k n := by
    unfold rnd
    rw [if_neg (show ¬ bbu k n = 0 by omega)]
  have hpw : 2 ^ bbu k n = 2 * 2 ^ (bbu k n - 1) := by
    have : 2 ^ (bbu k n - 1 + 1) = 2 ^ (bbu k n - 1) * 2 := Nat.pow_succ 2 (bbu k n - 1)
    rw [show bbu k n - 1 + 1 = bbu k n by omega] at this
    omega
  have hh1 := Nat.two_pow_pos (bbu k n - 1)
  by_cases h0 : n % 2 ^ bbu k n = 0
  · rw [if_pos ((lN_eq0 (by omega)).mpr h0), er, h0, if_neg (show ¬ 2 ^ (bbu k n - 1) < 0 by omega), if_neg (show ¬ 0 = 2 ^ (bbu k n - 1) by omega)]
    have e1 : n / 2 ^ bbu k n * 2 ^ bbu k n = n := by omega
    have e2 : (n + (2 ^ bbu k n - 1)) / 2 ^ bbu k n * 2 ^ bbu k n = n := by
      have a1 : (n + (2 ^ bbu k n - 1)) / 2 ^ bbu k n = n / 2 ^ bbu k n := up0 hP h0
      rw [a1, e1]
    rw [e1, e2]
    by_cases c : how = 2
    · rw [if_pos c]
    · rw [if_neg c]
      cases aw <;> rfl
  · rw [if_neg (fun q => h0 ((lN_eq0 (by omega)).mp q)), lN_sub (by omega)]
    have elow : n - n % 2 ^ bbu k n = n / 2 ^ bbu k n * 2 ^ bbu k n := by omega
    have eup : (n + (2 ^ bbu k n - 1)) / 2 ^ bbu k n = n / 2 ^ bbu k n + 1 := by
      apply Nat.div_eq_of_lt_le
      · rw [Nat.add_mul]; omega
      · rw [Nat.add_mul, Nat.add_mul]; omega
    rw [eup] at hup ⊢
    rw [Nat.add_mul, Nat.one_mul] at hup ⊢
    rw [elow]
    have hTi := inf_lt hk
    have l1 : n / 2 ^ bbu k n * 2 ^ bbu k n < TT k := by omega
    have l2 : n / 2 ^ bbu k n * 2 ^ bbu k n + 2 ^ bbu k n < TT k := by omega
    have key : ∀ a2 : Bool, fn_X3_stepped_241 (nI k) (sgn k b n) (b32 a2) (lN (2 ^ bbu k n)) (lN (n / 2 ^ bbu k n * 2 ^ bbu k n)) = sgn k b (if a2 then n / 2 ^ bbu k n * 2 ^ bbu k n + 2 ^ bbu k n else n / 2 ^ bbu k n * 2 ^ bbu k n) := fun a2 => by
      rw [st_241 hk _ a2 l1 l2, hsd]
    unfold fn_X3_stepped_195
    by_cases c : how = 2
    · subst c
      rw [if_pos (show nI 2 = 2 by decide), if_pos rfl, er, show (2 : Int64) = lN 2 from rfl, lN_mul]
      by_cases c1 : 2 ^ (bbu k n - 1) < n % 2 ^ bbu k n
      · rw [if_pos ((pk_lLT (by omega) (by omega)).mpr (show 2 ^ bbu k n < 2 * (n % 2 ^ bbu k n) by omega)), if_pos c1]
        have := key true
        rw [if_pos rfl] at this
        rw [Nat.add_mul, Nat.one_mul]
        exact this
      · rw [if_neg (fun q => c1 (by have := (pk_lLT (by omega) (by omega)).mp q; omega)), if_neg c1]
        by_cases c2 : n % 2 ^ bbu k n = 2 ^ (bbu k n - 1)
        · rw [if_pos ((pk_lEQ (by omega) (by omega)).mpr (show 2 * (n % 2 ^ bbu k n) = 2 ^ bbu k n by omega)), if_pos c2]
          by_cases c3 : n / 2 ^ bbu k n % 2 = 0
          · rw [if_pos ((low_and (by omega) (by omega)).mpr c3), if_pos c3]
            exact key false
          · rw [if_neg (fun q => c3 ((low_and (by omega) (by omega)).mp q)), if_neg c3]
            have := key true
            rw [if_pos rfl] at this
            rw [Nat.add_mul, Nat.one_mul]
            exact this
        · rw [if_neg (fun q => c2 (by have := (pk_lEQ (by omega) (by omega)).mp q; omega)), if_neg c2]
          exact key false
    · rw [if_neg (show ¬ nI how = 2 from fun q => c (by have := (nI_eq (a := how) (b := 2) (by omega) (by decide)).mp q; omega)), if_neg c]
      exact key aw
/-- away from 0: DOWN of what is below 0, UP of what isn't -/
def awy (how : Nat) (b : Bool) : Bool := if how = 0 then b else !b
theorem st_95 {k : Nat} (hk : k = 2 ∨ k = 3) {n : Nat} (hn : n ≤ infN k) (b : Bool) (how : Nat) (hh : how < 3) (aw : Bool) (h0 : n ≠ 0) (hlt : n / 2 ^ fb k < bb k + fb k) :
    fn_X3_stepped_95 (nI k) (sgn k b n) (nI how) (nI (fb k)) (nI (bb k)) (lN n) (iI ((n / 2 ^ fb k : Nat) - (bb k : Nat) : Int)) (b32 aw) = sgn k b (if how = 2 then neaN k n else if aw then outN k n else inwN k n) := by
  have hT : n < TT k := Nat.lt_of_le_of_lt hn (inf_lt hk)
  have h2 : n < 9223372036854775808 := Nat.lt_of_lt_of_le hT TT_le
  have f1 := fb_le hk
  have b1 := bb_le hk
  have hsd := sg_dec hk hT b
  have hel := exp_le hk hT
  have hen : (0 : Int) ≤ ((n / 2 ^ fb k : Nat) : Int) := Int.natCast_nonneg _
  unfold fn_X3_stepped_95
  by_cases hone : oneN k ≤ n
  · have he := (one_ge hk).mp hone
    rw [if_pos (show (0 : Int32) ≤ iI ((n / 2 ^ fb k : Nat) - (bb k : Nat) : Int) from (iI_le (a := 0) (by omega) (by omega)).mpr (by omega))]
    exact st_161 hk hn b how hh aw hone hlt
  · have he : n / 2 ^ fb k < bb k := by
      rcases Nat.lt_or_ge (n / 2 ^ fb k) (bb k) with q | q
      · exact q
      · exact absurd ((one_ge hk).mpr q) hone
    rw [if_neg (show ¬ (0 : Int32) ≤ iI ((n / 2 ^ fb k : Nat) - (bb k : Nat) : Int) from fun q => absurd ((iI_le (a := 0) (by omega) (by omega)).mp q) (by omega))]
    have ei : inwN k n = 0 := by unfold inwN; rw [if_neg hone]
    have eo : outN k n = oneN k := by unfold outN; rw [if_neg hone, if_neg h0]
    have en : neaN k n = if n ≤ oneN k - 2 ^ fb k then 0 else oneN k := by unfold neaN; rw [if_neg hone]
    have hP := Nat.two_pow_pos (fb k)
    have e1 : oneN k - 2 ^ fb k = (bb k - 1) * 2 ^ fb k := by
      rw [one_eq hk, Nat.sub_mul, Nat.one_mul]
    have e2 : (bb k - 1) * 2 ^ fb k < 9223372036854775808 := by
      have h3 : oneN k < 9223372036854775808 := Nat.lt_of_lt_of_le (one_lt hk) TT_le
      omega
    by_cases c : how = 2
    · subst c
      rw [if_pos (show nI 2 = 2 by decide), if_pos rfl, en, e1]
      by_cases c1 : n / 2 ^ fb k = bb k - 1
      · rw [if_pos (show iI ((n / 2 ^ fb k : Nat) - (bb k : Nat) : Int) = -1 from (iI_eq (b := -1) (by omega) (by omega)).mpr (by omega))]
        rw [show nI (bb k) - (1 : Int32) = nI (bb k - 1) from pk_sub (b := 1) (by omega), nI_l (by omega), wb_shl _ (by omega)]
        by_cases c2 : n ≤ (bb k - 1) * 2 ^ fb k
        · rw [if_pos ((pk_lLE h2 e2).mpr c2), if_pos c2]
          have := st_132 hk (sgn k b n) false
          rw [hsd] at this
          exact this
        · rw [if_neg (fun q => c2 ((pk_lLE h2 e2).mp q)), if_neg c2]
          have := st_132 hk (sgn k b n) true
          rw [hsd, if_pos rfl] at this
          exact this
      · rw [if_neg (show ¬ iI ((n / 2 ^ fb k : Nat) - (bb k : Nat) : Int) = -1 from fun q => c1 (by have := (iI_eq (b := -1) (by omega) (by omega)).mp q; omega))]
        have c2 : n ≤ (bb k - 1) * 2 ^ fb k := by
          have h3 : n / 2 ^ fb k < bb k - 1 := by omega
          have := (Nat.div_lt_iff_lt_mul hP).mp h3
          omega
        rw [if_pos c2]
        have := st_132 hk (sgn k b n) false
        rw [hsd] at this
        exact this
    · rw [if_neg (show ¬ nI how = 2 from fun q => c (by have := (nI_eq (a := how) (b := 2) (by omega) (by decide)).mp q; omega)), if_neg c, ei, eo]
      have := st_132 hk (sgn k b n) aw
      rw [hsd] at this
      exact this
theorem big_step {k : Nat} (hk : k = 2 ∨ k = 3) {n : Nat} (h : bb k + fb k ≤ n / 2 ^ fb k) : inwN k n = n ∧ outN k n = n ∧ neaN k n = n := by
  have b1 := bb_le hk
  have hone : oneN k ≤ n := (one_ge hk).mpr (by omega)
  have e : bbu k n = 0 := by unfold bbu; omega
  unfold inwN outN neaN
  rw [if_pos hone, if_pos hone, if_pos hone, e]
  unfold rnd
  simp
theorem x3_step {k : Nat} (hk : k = 2 ∨ k = 3) {n : Nat} (hn : n ≤ infN k) (b : Bool) (how : Nat) (hh : how < 3) : fn_X3_stepped (nI k) (sgn k b n) (nI how) = sgn k b (if how = 2 then neaN k n else if awy how b then outN k n else inwN k n) := by
  have hT : n < TT k := Nat.lt_of_le_of_lt hn (inf_lt hk)
  have h2 : n < 9223372036854775808 := Nat.lt_of_lt_of_le hT TT_le
  have f1 := fb_le hk
  have b1 := bb_le hk
  have hel := exp_le hk hT
  have hen : (0 : Int) ≤ ((n / 2 ^ fb k : Nat) : Int) := Int.natCast_nonneg _
  have hge := sgn_ge hk hT b
  have hlt := sgn_lt hk hT b
  rw [x3_bias hk]
  unfold fn_X3_stepped_30
  rw [x3_size hk hT, exp_32 hk hT, iI_nat (n / 2 ^ fb k), iI_nat (bb k), iI_sub, ← iI_nat (bb k)]
  unfold fn_X3_stepped_48
  by_cases h0 : n = 0
  · rw [if_pos ((lN_eq0 h2).mpr h0)]
    subst h0
    have hone : ¬ oneN k ≤ 0 := by rcases hk with rfl | rfl <;> decide
    have e3 : neaN k 0 = 0 := by unfold neaN; rw [if_neg hone, if_pos (Nat.zero_le _)]
    have e4 : outN k 0 = 0 := by unfold outN; rw [if_neg hone, if_pos rfl]
    have e5 : inwN k 0 = 0 := by unfold inwN; rw [if_neg hone]
    rw [e3, e4, e5]
    simp
  · rw [if_neg (fun q => h0 ((lN_eq0 h2).mp q))]
    by_cases c : n / 2 ^ fb k < bb k + fb k
    · rw [if_pos (show iI ((n / 2 ^ fb k : Nat) - (bb k : Nat) : Int) < nI (fb k) from by rw [iI_nat]; exact (iI_lt (by omega) (by omega)).mpr (by omega))]
      have key := st_95 hk hn b how hh (awy how b) h0 c
      by_cases c0 : how = 0
      · subst c0
        rw [if_pos (show nI 0 = 0 by decide)]
        cases b
        · rw [if_pos (hge.mpr rfl)]
          exact key
        · rw [if_neg (fun q => absurd (hge.mp q) (by decide))]
          exact key
      · rw [if_neg (show ¬ nI how = 0 from fun q => c0 (by have := (nI_eq (a := how) (b := 0) (by omega) (by decide)).mp q; omega))]
        have ea : awy how b = !b := by unfold awy; rw [if_neg c0]
        rw [ea] at key ⊢
        cases b
        · rw [if_neg (fun q => absurd (hlt.mp q) (by decide))]
          exact key
        · rw [if_pos (hlt.mpr rfl)]
          exact key
    · rw [if_neg (show ¬ iI ((n / 2 ^ fb k : Nat) - (bb k : Nat) : Int) < nI (fb k) from by rw [iI_nat]; exact fun q => absurd ((iI_lt (by omega) (by omega)).mp q) (by omega))]
      obtain ⟨e1, e2, e3⟩ := big_step hk (Nat.not_lt.mp c)
      rw [e1, e2, e3]
      simp
theorem inw_le {k : Nat} (hk : k = 2 ∨ k = 3) {n : Nat} (hn : n ≤ infN k) : inwN k n ≤ infN k := by
  unfold inwN
  split
  · exact Nat.le_trans (div_mul_le' _ _) hn
  · exact Nat.zero_le _
theorem one_le_inf {k : Nat} (hk : k = 2 ∨ k = 3) : oneN k ≤ infN k := by rcases hk with rfl | rfl <;> decide
theorem out_le {k : Nat} (hk : k = 2 ∨ k = 3) {n : Nat} (hn : n ≤ infN k) : outN k n ≤ infN k := by
  unfold outN
  split
  · rename_i h
    exact up_le (Nat.two_pow_pos _) hn (inf_mod hk (bbu_le hk h))
  · split
    · exact Nat.zero_le _
    · exact one_le_inf hk
theorem nea_le {k : Nat} (hk : k = 2 ∨ k = 3) {n : Nat} (hn : n ≤ infN k) : neaN k n ≤ infN k := by
  unfold neaN
  split
  · rename_i h
    exact Nat.le_trans (Nat.mul_le_mul_right _ rnd_le) (up_le (Nat.two_pow_pos _) hn (inf_mod hk (bbu_le hk h)))
  · split
    · exact Nat.zero_le _
    · exact one_le_inf hk
/-- DOWN -/
theorem below_eq {k : Nat} (hk : k < 4) {v : Int64} (hv : okN k v) : fn_X1_wholeBelow k v = fn_X3_stepped (nI k) v 0 ∧ okN k (fn_X1_wholeBelow k v) := by
  rcases (show (k = 0 ∨ k = 1) ∨ (k = 2 ∨ k = 3) by omega) with hk | hk
  · have e1 : fn_X1_wholeBelow k v = v := by unfold fn_X1_wholeBelow; rw [if_pos (by rcases hk with rfl | rfl <;> decide)]
    have e2 : fn_X3_stepped (nI k) v 0 = v := by unfold fn_X3_stepped; rw [if_pos (by rcases hk with rfl | rfl <;> decide)]
    rw [e1, e2]
    exact ⟨rfl, hv⟩
  · obtain ⟨b, n, hn, hT, rfl⟩ := okF_of hk hv
    have h3 := x3_step hk hn b 0 (by decide)
    have e0 : nI 0 = (0 : Int32) := rfl
    rw [e0] at h3
    have hsd := sg_dec hk hT b
    unfold fn_X1_wholeBelow
    rw [h3, if_neg (kF1 hk), x1_size hk hT, x1_inward hk hT, x1_outward hk hT, if_neg (show ¬ (0 : Nat) = 2 by decide)]
    have li := Nat.lt_of_le_of_lt (inw_le hk hn) (inf_lt hk)
    have lo := Nat.lt_of_le_of_lt (out_le hk hn) (inf_lt hk)
    rw [x1_turned hk li, x1_turned hk lo, hsd]
    cases b
    · rw [if_pos ((sgn_ge hk hT false).mpr rfl)]
      exact ⟨rfl, okF hk (inw_le hk hn)⟩
    · rw [if_neg (fun q => absurd ((sgn_ge hk hT true).mp q) (by decide))]
      exact ⟨rfl, okF hk (out_le hk hn)⟩
/-- UP -/
theorem above_eq {k : Nat} (hk : k < 4) {v : Int64} (hv : okN k v) : fn_X1_wholeAbove k v = fn_X3_stepped (nI k) v 1 ∧ okN k (fn_X1_wholeAbove k v) := by
  rcases (show (k = 0 ∨ k = 1) ∨ (k = 2 ∨ k = 3) by omega) with hk | hk
  · have e1 : fn_X1_wholeAbove k v = v := by unfold fn_X1_wholeAbove; rw [if_pos (by rcases hk with rfl | rfl <;> decide)]
    have e2 : fn_X3_stepped (nI k) v 1 = v := by unfold fn_X3_stepped; rw [if_pos (by rcases hk with rfl | rfl <;> decide)]
    rw [e1, e2]
    exact ⟨rfl, hv⟩
  · obtain ⟨b, n, hn, hT, rfl⟩ := okF_of hk hv
    have h3 := x3_step hk hn b 1 (by decide)
    have e0 : nI 1 = (1 : Int32) := rfl
    rw [e0] at h3
    have hsd := sg_dec hk hT b
    unfold fn_X1_wholeAbove
    rw [h3, if_neg (kF1 hk), x1_size hk hT, x1_inward hk hT, x1_outward hk hT, if_neg (show ¬ (1 : Nat) = 2 by decide)]
    have li := Nat.lt_of_le_of_lt (inw_le hk hn) (inf_lt hk)
    have lo := Nat.lt_of_le_of_lt (out_le hk hn) (inf_lt hk)
    rw [x1_turned hk li, x1_turned hk lo, hsd]
    cases b
    · rw [if_pos ((sgn_ge hk hT false).mpr rfl)]
      exact ⟨rfl, okF hk (out_le hk hn)⟩
    · rw [if_neg (fun q => absurd ((sgn_ge hk hT true).mp q) (by decide))]
      exact ⟨rfl, okF hk (inw_le hk hn)⟩
/-- NEAR -/
theorem near_eq {k : Nat} (hk : k < 4) {v : Int64} (hv : okN k v) : fn_X1_wholeNearest k v = fn_X3_stepped (nI k) v 2 ∧ okN k (fn_X1_wholeNearest k v) := by
  rcases (show (k = 0 ∨ k = 1) ∨ (k = 2 ∨ k = 3) by omega) with hk | hk
  · have e1 : fn_X1_wholeNearest k v = v := by unfold fn_X1_wholeNearest; rw [if_pos (by rcases hk with rfl | rfl <;> decide)]
    have e2 : fn_X3_stepped (nI k) v 2 = v := by unfold fn_X3_stepped; rw [if_pos (by rcases hk with rfl | rfl <;> decide)]
    rw [e1, e2]
    exact ⟨rfl, hv⟩
  · obtain ⟨b, n, hn, hT, rfl⟩ := okF_of hk hv
    have h3 := x3_step hk hn b 2 (by decide)
    have e0 : nI 2 = (2 : Int32) := rfl
    rw [e0] at h3
    have hsd := sg_dec hk hT b
    unfold fn_X1_wholeNearest
    rw [h3, if_neg (kF1 hk), x1_size hk hT, x1_nearest hk hT, if_pos rfl]
    rw [x1_turned hk (Nat.lt_of_le_of_lt (nea_le hk hn) (inf_lt hk)), hsd]
    exact ⟨rfl, okF hk (nea_le hk hn)⟩
