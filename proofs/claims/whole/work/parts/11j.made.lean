/-! floating to floating -/
theorem ff_x1 {k j : Nat} (hk : k = 2 ∨ k = 3) (hj : j = 2 ∨ j = 3) {n : Nat} (hT : n < TT j) (b : Bool) : fn_X1_made k j (sgn j b n) = if n = infN j then sgn k b (infN k) else fn_X1_turned k (fn_X1_sizeOf k (lN (sigN j n)) (iI (sclN j n))) (sgn j b n) := by
  have h2 : n < 9223372036854775808 := Nat.lt_of_lt_of_le hT TT_le
  have h3 : infN j < 9223372036854775808 := Nat.lt_of_lt_of_le (inf_lt hj) TT_le
  unfold fn_X1_made
  rw [if_neg (kF1 hj), if_neg (kF1 hk), x1_size hj hT, x1_inf hj, x1_inf hk, x1_sig hj hT, x1_scl hj hT]
  by_cases h : n = infN j
  · rw [if_pos ((pk_lEQ h2 h3).mpr h), if_pos h, x1_turned hk (inf_lt hk), sg_dec hj hT]
  · rw [if_neg (fun q => h ((pk_lEQ h2 h3).mp q)), if_neg h]
theorem scl_b {j : Nat} (hj : j = 2 ∨ j = 3) {n : Nat} (hT : n < TT j) : -1200 ≤ sclN j n ∧ sclN j n ≤ 1200 := by
  have f1 := fb_le hj
  have b1 := bb_le hj
  have he := exp_le hj hT
  unfold sclN
  generalize n / 2 ^ fb j = e at *
  split <;> omega
theorem sig_lt {j : Nat} (hj : j = 2 ∨ j = 3) {n : Nat} : sigN j n < 9007199254740992 := by
  have f1 := fb_le hj
  have hP := Nat.two_pow_pos (fb j)
  have hP2 : 2 ^ fb j ≤ 2 ^ 52 := pw_le f1.2
  have hm := Nat.mod_lt n hP
  unfold sigN
  split <;> omega
theorem x3_nb {k : Nat} (v : Int64) (b : Bool) (hb : decide (v < 0) = b) (x : Int64) (s : Int32) : (if (0 : Int64) ≤ v then fn_X3_nearest (nI k) (0 : Int32) x s else fn_X3_nearest (nI k) (1 : Int32) x s) = fn_X3_nearest (nI k) (b32 b) x s := by
  by_cases h : v < 0
  · rw [if_neg (fun q => (le_nlt v).mp q h)]
    rw [show b = true by rw [← hb]; simp [h]]
    rfl
  · rw [if_pos ((le_nlt v).mpr h)]
    rw [show b = false by rw [← hb]; simp [h]]
    rfl
theorem ff_x3 {k j : Nat} (hk : k = 2 ∨ k = 3) (hj : j = 2 ∨ j = 3) (hne : ¬ k = j) {n : Nat} (hT : n < TT j) (b : Bool) : fn_X3_turnedInto (nI k) (nI j) (sgn j b n) = if n = infN j then sgn k b (infN k) else fn_X3_nearest (nI k) (b32 b) (lN (sigN j n)) (iI (sclN j n)) := by
  have f1 := fb_le hj
  have b1 := bb_le hj
  have h2 : n < 9223372036854775808 := Nat.lt_of_lt_of_le hT TT_le
  have h3 : infN j < 9223372036854775808 := Nat.lt_of_lt_of_le (inf_lt hj) TT_le
  have hsd := sg_dec hj hT b
  have hP := Nat.two_pow_pos (fb j)
  have he := exp_le hj hT
  unfold fn_X3_turnedInto
  rw [if_neg (show ¬ nI k = nI j from fun q => hne ((nI_eq (by omega) (by omega)).mp q)), if_neg (x3F hj), if_neg (x3F hk), x3_size hj hT, x3_inf hj, x3_inf hk]
  by_cases h : n = infN j
  · rw [if_pos ((pk_lEQ h2 h3).mpr h), if_pos h, x3_sg2 hk (inf_lt hk), hsd]
  · rw [if_neg (fun q => h ((pk_lEQ h2 h3).mp q)), if_neg h]
    have e1 : (if nI j = (2 : Int32) then fn_X3_turnedInto_130 (nI k) (sgn j b n) (lN n) (fn_X3_fractionOf (nI j)) (127 : Int32) else fn_X3_turnedInto_130 (nI k) (sgn j b n) (lN n) (fn_X3_fractionOf (nI j)) (1023 : Int32)) = fn_X3_turnedInto_130 (nI k) (sgn j b n) (lN n) (nI (fb j)) (nI (bb j)) := by
      rw [fr_eq hj]
      rcases hj with rfl | rfl
      · rw [if_pos (by decide)]; rfl
      · rw [if_neg (by decide)]; rfl
    rw [e1]
    unfold fn_X3_turnedInto_130 fn_X3_turnedInto_149
    rw [exp_32 hj hT, sh1 hj, mant_eq hj hT, x3_nb _ b hsd, x3_nb _ b hsd]
    by_cases c : 2 ^ fb j ≤ n
    · have ce := e_of.mp c
      have es : sigN j n = n % 2 ^ fb j + 2 ^ fb j := by unfold sigN; rw [if_pos c]
      have ec : sclN j n = ((n / 2 ^ fb j : Nat) : Int) - (bb j : Int) - (fb j : Int) := by
        unfold sclN
        by_cases q : 1 < n / 2 ^ fb j
        · rw [if_pos q]
        · rw [if_neg q, show n / 2 ^ fb j = 1 by omega]; rfl
      rw [if_neg (show ¬ nI (n / 2 ^ fb j) = 0 from nI_ne0 ce (by omega)), es, ec]
      rw [iI_nat (n / 2 ^ fb j), iI_nat (bb j), iI_nat (fb j), iI_sub, iI_sub]
    · have ce : n / 2 ^ fb j = 0 := Nat.div_eq_of_lt (by omega)
      have es : sigN j n = n := by unfold sigN; rw [if_neg c]
      have ec : sclN j n = 1 - (bb j : Int) - (fb j : Int) := by unfold sclN; rw [ce, if_neg (by decide)]
      rw [ce, if_pos (show nI 0 = 0 from rfl), es, ec]
      have hP2 : 2 ^ fb j ≤ 2 ^ 52 := pw_le f1.2
      rw [show (1 : Int64) = lN 1 from rfl, lN_sub hP, wb_mask (by omega) (by omega), Nat.mod_eq_of_lt (by omega), show (1 : Int32) = iI 1 from rfl, iI_nat (bb j), iI_nat (fb j), iI_sub, iI_sub]
theorem sig_le {j : Nat} (hj : j = 2 ∨ j = 3) {n : Nat} (hn : n < infN j) : (Nat.log2 (sigN j n) : Int) + sclN j n ≤ (bb j : Int) := by
  have f1 := fb_le hj
  have b1 := bb_le hj
  have hP := Nat.two_pow_pos (fb j)
  have he2 : n / 2 ^ fb j < 2 * bb j + 1 := by
    rw [Nat.div_lt_iff_lt_mul hP, ← inf_eq hj]
    exact hn
  by_cases h : 2 ^ fb j ≤ n
  · rw [sig_lg hj h]
    unfold sclN
    generalize n / 2 ^ fb j = e at *
    split <;> omega
  · have he : n / 2 ^ fb j = 0 := Nat.div_eq_of_lt (by omega)
    have es : sigN j n = n := by unfold sigN; rw [if_neg h]
    have hl : Nat.log2 n ≤ fb j := by
      rcases Nat.eq_zero_or_pos n with q | q
      · subst q; exact Nat.zero_le _
      · exact Nat.le_of_lt ((Nat.log2_lt (by omega)).mpr (by omega))
    rw [es]
    unfold sclN
    rw [he, if_neg (by decide)]
    omega
theorem made_ff {k j : Nat} (hk : k = 2 ∨ k = 3) (hj : j = 2 ∨ j = 3) {v : Int64} (hv : okN j v) : fn_X1_made k j v = fn_X3_turnedInto (nI k) (nI j) v ∧ okN k (fn_X1_made k j v) := by
  obtain ⟨b, n, hn, hT, rfl⟩ := okF_of hj hv
  have hsd := sg_dec hj hT b
  have b1 := bb_le hk
  have b2 := bb_le hj
  have hsc := scl_b hj hT
  have hsl := sig_lt hj (n := n)
  rw [ff_x1 hk hj hT b]
  by_cases hne : k = j
  · subst hne
    have e1 : fn_X3_turnedInto (nI k) (nI k) (sgn k b n) = sgn k b n := by unfold fn_X3_turnedInto; rw [if_pos rfl]
    rw [e1]
    by_cases h : n = infN k
    · rw [if_pos h, h]
      exact ⟨rfl, okF hk (Nat.le_refl _)⟩
    · rw [if_neg h]
      rcases Nat.eq_zero_or_pos n with q | q
      · subst q
        have es : sigN k 0 = 0 := by
          unfold sigN
          rw [if_neg (by have := Nat.two_pow_pos (fb k); omega)]
        have e0 : lN 0 = 0 := rfl
        unfold fn_X1_sizeOf
        rw [es, e0, if_pos rfl, ← e0, x1_turned hk (zero_tt hk), hsd]
        exact ⟨rfl, okF hk (Nat.zero_le _)⟩
      · have hsp : 1 ≤ sigN k n := by
          have := Nat.two_pow_pos (fb k)
          unfold sigN
          split <;> omega
        rw [x1_sizeOf hk hsp (by omega) hsc.1 hsc.2, sz_self hk (by omega) q, x1_turned hk hT, hsd]
        exact ⟨rfl, okF hk hn⟩
  · rw [ff_x3 hk hj hne hT b]
    by_cases h : n = infN j
    · rw [if_pos h, if_pos h]
      exact ⟨rfl, okF hk (Nat.le_refl _)⟩
    · rw [if_neg h, if_neg h]
      have hle := sig_le hj (n := n) (by omega)
      have hbb : (bb j : Int) + (bb k : Int) ≤ 2023 := by
        rcases hk with rfl | rfl <;> rcases hj with rfl | rfl <;> first | (exact absurd rfl hne) | decide
      exact both_size hk (by omega) hsc.1 hsc.2 (by omega) _ b hsd
/-! floating to whole -/
def pm (b : Bool) (W : Nat) : Int64 := match b with
  | true => -lN W
  | false => lN W
theorem pm_if {j : Nat} (hj : j = 2 ∨ j = 3) {n : Nat} (hT : n < TT j) (b : Bool) (W : Nat) : (if (0 : Int64) ≤ sgn j b n then lN W else -lN W) = pm b W := by
  have h := sgn_ge hj hT b
  cases b
  · rw [if_pos (h.mpr rfl)]; rfl
  · rw [if_neg (fun q => absurd (h.mp q) (by decide))]; rfl
theorem pm_ti {b : Bool} {W : Nat} (h : W < 9223372036854775808) : (pm b W).toInt = if b then -(W : Int) else (W : Int) := by
  have e : (lN W).toInt = (W : Int) := by rw [lN_ti (by omega), if_pos h]
  cases b
  · exact e
  · show (-lN W).toInt = _
    rw [neg_ti (by omega), e]
    rfl
/-- the whole part of a size whose exponent is d -/
def whN (f d sig : Nat) : Nat := if d < f then sig / 2 ^ (f - d) else sig * 2 ^ (d - f)
theorem wh_b {f d sig : Nat} (h1 : 2 ^ f ≤ sig) (h2 : sig < 2 ^ (f + 1)) : 2 ^ d ≤ whN f d sig ∧ whN f d sig < 2 ^ (d + 1) := by
  unfold whN
  by_cases h : d < f
  · rw [if_pos h]
    constructor
    · rw [Nat.le_div_iff_mul_le (Nat.two_pow_pos _), ← Nat.pow_add, show d + (f - d) = f by omega]
      exact h1
    · rw [Nat.div_lt_iff_lt_mul (Nat.two_pow_pos _), ← Nat.pow_add, show d + 1 + (f - d) = f + 1 by omega]
      exact h2
  · rw [if_neg h]
    constructor
    · rw [show 2 ^ d = 2 ^ f * 2 ^ (d - f) from wb_pw (by omega)]
      exact Nat.mul_le_mul_right _ h1
    · rw [show 2 ^ (d + 1) = 2 ^ (f + 1) * 2 ^ (d - f) by rw [← Nat.pow_add]; congr 1; omega]
      exact Nat.mul_lt_mul_of_pos_right h2 (Nat.two_pow_pos _)
theorem sig_b {j : Nat} (hj : j = 2 ∨ j = 3) {n : Nat} (h : oneN j ≤ n) : sigN j n = n % 2 ^ fb j + 2 ^ fb j ∧ 2 ^ fb j ≤ sigN j n ∧ sigN j n < 2 ^ (fb j + 1) := by
  have hP := Nat.two_pow_pos (fb j)
  have hm := Nat.mod_lt n hP
  have b1 := bb_le hj
  have he := (one_ge hj).mp h
  have es : sigN j n = n % 2 ^ fb j + 2 ^ fb j := by unfold sigN; rw [if_pos (e_of.mpr (by omega))]
  rw [es, Nat.pow_succ]
  omega
/-- towardsZero -/
theorem x1_tz {j : Nat} (hj : j = 2 ∨ j = 3) {n : Nat} (hT : n < TT j) (b : Bool) : fn_X1_towardsZero j (sgn j b n) = if oneN j ≤ n then (if n / 2 ^ fb j - bb j < 63 then pm b (whN (fb j) (n / 2 ^ fb j - bb j) (sigN j n)) else if b then (-9223372036854775808 : Int64) else 9223372036854775807) else 0 := by
  have f1 := fb_le hj
  have b1 := bb_le hj
  have he := exp_le hj hT
  have hsl := sig_lt hj (n := n)
  have hP := Nat.two_pow_pos (fb j)
  have hge := sgn_ge hj hT b
  have hscb := scl_b hj hT
  unfold fn_X1_towardsZero
  rw [show fn_X1_least 1 = (-9223372036854775808 : Int64) by decide, show fn_X1_greatest 1 = (9223372036854775807 : Int64) by decide]
  rw [x1_size hj hT, x1_scl hj hT, x1_sig hj hT, kR_eq hj]
  have ea : iI (sclN j n) + nI (fb j) = iI (sclN j n + (fb j : Int)) := by rw [iI_nat, iI_add]
  rw [ea]
  unfold fn_X1_towardsZero_80
  by_cases h : oneN j ≤ n
  · have hee := (one_ge hj).mp h
    rw [if_pos h]
    have ec : sclN j n = ((n / 2 ^ fb j : Nat) : Int) - (bb j : Int) - (fb j : Int) := by
      unfold sclN
      by_cases q : 1 < n / 2 ^ fb j
      · rw [if_pos q]
      · omega
    rw [ec]
    generalize n / 2 ^ fb j = e at *
    by_cases c : e - bb j < 63
    · rw [if_pos (show iI ((e : Int) - (bb j : Int) - (fb j : Int) + (fb j : Int)) < 63 from (iI_lt (b := 63) (by omega) (by omega)).mpr (by omega)), if_pos c]
      unfold whN
      by_cases d : e - bb j < fb j
      · rw [if_pos (show iI ((e : Int) - (bb j : Int) - (fb j : Int)) < 0 from (iI_lt (b := 0) (by omega) (by omega)).mpr (by omega)), if_pos d, iI_neg]
        rw [if_pos (show iI (-((e : Int) - (bb j : Int) - (fb j : Int))) < 63 from (iI_lt (b := 63) (by omega) (by omega)).mpr (by omega))]
        have e5 : iI (-((e : Int) - (bb j : Int) - (fb j : Int))) = nI (fb j - (e - bb j)) := by rw [iI_nat]; exact congrArg iI (by omega)
        rw [e5, wb_shr (by omega) (by omega), pm_if hj hT]
      · rw [if_neg (show ¬ iI ((e : Int) - (bb j : Int) - (fb j : Int)) < 0 from fun q => absurd ((iI_lt (b := 0) (by omega) (by omega)).mp q) (by omega)), if_neg d]
        have e5 : iI ((e : Int) - (bb j : Int) - (fb j : Int)) = nI (e - bb j - fb j) := by rw [iI_nat]; exact congrArg iI (by omega)
        rw [e5, wb_shl _ (by omega), pm_if hj hT]
    · rw [if_neg (show ¬ iI ((e : Int) - (bb j : Int) - (fb j : Int) + (fb j : Int)) < 63 from fun q => absurd ((iI_lt (b := 63) (by omega) (by omega)).mp q) (by omega)), if_neg c]
      cases b
      · rw [if_pos (hge.mpr rfl)]; rfl
      · rw [if_neg (fun q => absurd (hge.mp q) (by decide))]; rfl
  · have hee : n / 2 ^ fb j < bb j := by
      rcases Nat.lt_or_ge (n / 2 ^ fb j) (bb j) with q | q
      · exact q
      · exact absurd ((one_ge hj).mpr q) h
    rw [if_neg h]
    have hs : sclN j n ≤ -1 - (fb j : Int) := by
      unfold sclN
      generalize n / 2 ^ fb j = e at *
      split <;> omega
    rw [if_pos (show iI (sclN j n + (fb j : Int)) < 63 from (iI_lt (b := 63) (by omega) (by omega)).mpr (by omega)), if_pos (show iI (sclN j n) < 0 from (iI_lt (b := 0) (by omega) (by omega)).mpr (by omega)), iI_neg]
    have hz : ∀ d : Nat, fb j + 1 ≤ d → d ≤ 63 → (Int64.toUInt64 (lN (sigN j n)) >>> (Int64.toUInt64 (Int32.toInt64 (nI d)) &&& Int64.toUInt64 63)).toInt64 = lN 0 := fun d h1 h2 => by
      rw [wb_shr (by omega) (by omega)]
      apply congrArg lN
      apply Nat.div_eq_of_lt
      have h3 : 2 ^ (fb j + 1) ≤ 2 ^ d := pw_le h1
      have h4 : sigN j n < 2 ^ (fb j + 1) := by
        have hm := Nat.mod_lt n hP
        unfold sigN
        rw [Nat.pow_succ]
        split <;> omega
      omega
    have hzz : (if (0 : Int64) ≤ sgn j b n then lN 0 else -lN 0) = 0 := by
      split
      · rfl
      · decide
    by_cases c : -sclN j n < 63
    · rw [if_pos (show iI (-sclN j n) < 63 from (iI_lt (b := 63) (by omega) (by omega)).mpr c)]
      have e5 : iI (-sclN j n) = nI (-sclN j n).toNat := by rw [iI_nat]; exact congrArg iI (by omega)
      rw [e5, hz _ (by omega) (by omega), hzz]
    · rw [if_neg (show ¬ iI (-sclN j n) < 63 from fun q => c ((iI_lt (b := 63) (by omega) (by omega)).mp q)), show (63 : Int32) = nI 63 from rfl, hz 63 (by omega) (by decide), hzz]
