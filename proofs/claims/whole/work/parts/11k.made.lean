/-! the reference's cut; a floating number made whole -/
def mostN (k : Nat) : Nat := if k = 0 then 31 else 63
def clipN (k : Nat) (b : Bool) : Int64 := if k = 0 then (if b then (-2147483648 : Int64) else 2147483647) else (if b then (-9223372036854775808 : Int64) else 9223372036854775807)
theorem x3_cut {k j : Nat} (hk : k = 0 ∨ k = 1) (hj : j = 2 ∨ j = 3) {n : Nat} (hT : n < TT j) (b : Bool) : fn_X3_cut (nI k) (nI j) (sgn j b n) = if oneN j ≤ n then (if n / 2 ^ fb j - bb j < mostN k then pm b (whN (fb j) (n / 2 ^ fb j - bb j) (sigN j n)) else clipN k b) else 0 := by
  have f1 := fb_le hj
  have b1 := bb_le hj
  have he := exp_le hj hT
  have hen : (0 : Int) ≤ ((n / 2 ^ fb j : Nat) : Int) := Int.natCast_nonneg _
  have hsl := sig_lt hj (n := n)
  have hge := sgn_ge hj hT b
  have e0 : fn_X3_cut (nI k) (nI j) (sgn j b n) = fn_X3_cut_21 (nI k) (nI j) (sgn j b n) (nI (fb j)) (nI (bb j)) := by
    unfold fn_X3_cut
    rw [fr_eq hj]
    rcases hj with rfl | rfl
    · rw [if_pos (by decide)]; rfl
    · rw [if_neg (by decide)]; rfl
  rw [e0]
  unfold fn_X3_cut_21 fn_X3_cut_39
  rw [x3_size hj hT, exp_32 hj hT, iI_nat (n / 2 ^ fb j), iI_nat (bb j), iI_sub]
  by_cases h : oneN j ≤ n
  · have hee := (one_ge hj).mp h
    obtain ⟨s1, s2, s3⟩ := sig_b hj h
    rw [if_pos h, if_pos (show (0 : Int32) ≤ iI (((n / 2 ^ fb j : Nat) : Int) - (bb j : Int)) from (iI_le (a := 0) (by omega) (by omega)).mpr (by omega))]
    have key : ∀ most : Nat, most ≤ 63 → fn_X3_cut_59 (nI k) (sgn j b n) (nI (fb j)) (lN n) (iI (((n / 2 ^ fb j : Nat) : Int) - (bb j : Int))) (nI most) = if n / 2 ^ fb j - bb j < most then pm b (whN (fb j) (n / 2 ^ fb j - bb j) (sigN j n)) else clipN k b := fun most hm => by
      unfold fn_X3_cut_59 fn_X3_cut_144
      rw [sh1 hj, mant_eq hj hT, ← s1]
      generalize n / 2 ^ fb j = e at *
      by_cases c : e - bb j < most
      · rw [if_pos (show iI ((e : Int) - (bb j : Int)) < nI most from by rw [iI_nat]; exact (iI_lt (by omega) (by omega)).mpr (by omega)), if_pos c]
        unfold whN
        by_cases d : e - bb j < fb j
        · rw [if_pos (show iI ((e : Int) - (bb j : Int)) < nI (fb j) from by rw [iI_nat]; exact (iI_lt (by omega) (by omega)).mpr (by omega)), if_pos d]
          have e5 : nI (fb j) - iI ((e : Int) - (bb j : Int)) = nI (fb j - (e - bb j)) := by rw [iI_nat, iI_nat, iI_sub]; exact congrArg iI (by omega)
          rw [e5, wb_shr (by omega) (by omega), pm_if hj hT]
        · rw [if_neg (show ¬ iI ((e : Int) - (bb j : Int)) < nI (fb j) from by rw [iI_nat]; exact fun q => absurd ((iI_lt (by omega) (by omega)).mp q) (by omega)), if_neg d]
          have e5 : iI ((e : Int) - (bb j : Int)) - nI (fb j) = nI (e - bb j - fb j) := by rw [iI_nat, iI_nat, iI_sub]; exact congrArg iI (by omega)
          rw [e5, wb_shl _ (by omega), pm_if hj hT]
      · rw [if_neg (show ¬ iI ((e : Int) - (bb j : Int)) < nI most from by rw [iI_nat]; exact fun q => absurd ((iI_lt (by omega) (by omega)).mp q) (by omega)), if_neg c]
        unfold clipN
        cases b
        · rw [if_pos (hge.mpr rfl)]
          rcases hk with rfl | rfl <;> rfl
        · rw [if_neg (fun q => absurd (hge.mp q) (by decide))]
          rcases hk with rfl | rfl <;> rfl
    rcases hk with rfl | rfl
    · rw [if_pos (show nI 0 = 0 from rfl)]
      exact key 31 (by decide)
    · rw [if_neg (show ¬ nI 1 = 0 by decide)]
      exact key 63 (by decide)
  · have hee : n / 2 ^ fb j < bb j := by
      rcases Nat.lt_or_ge (n / 2 ^ fb j) (bb j) with q | q
      · exact q
      · exact absurd ((one_ge hj).mpr q) h
    rw [if_neg h, if_neg (show ¬ (0 : Int32) ≤ iI (((n / 2 ^ fb j : Nat) : Int) - (bb j : Int)) from fun q => absurd ((iI_le (a := 0) (by omega) (by omega)).mp q) (by omega))]
/-- held between the least and the greatest -/
def clampK (k : Nat) (x : Int64) : Int64 := if (if x < fn_X1_greatest k then x else fn_X1_greatest k) < fn_X1_least k then fn_X1_least k else (if x < fn_X1_greatest k then x else fn_X1_greatest k)
theorem clamp1 (x : Int64) : clampK 1 x = x := by
  have e1 : fn_X1_greatest 1 = 9223372036854775807 := by decide
  have e2 : fn_X1_least 1 = -9223372036854775808 := by decide
  have t1 : (9223372036854775807 : Int64).toInt = 9223372036854775807 := by decide
  have t2 : (-9223372036854775808 : Int64).toInt = -9223372036854775808 := by decide
  have l1 := Int64.toInt_le x
  have l2 := Int64.le_toInt x
  unfold clampK
  rw [e1, e2]
  have e3 : (if x < 9223372036854775807 then x else 9223372036854775807) = x := by
    by_cases h : x < 9223372036854775807
    · rw [if_pos h]
    · rw [if_neg h]
      apply Int64.toInt_inj.mp
      rw [Int64.lt_iff_toInt_lt, t1] at h
      rw [t1]
      have l1' : x.toInt ≤ 9223372036854775807 := l1
      omega
  rw [e3]
  rw [if_neg (show ¬ x < -9223372036854775808 by
    rw [Int64.lt_iff_toInt_lt, t2]
    have l2' : -9223372036854775808 ≤ x.toInt := l2
    omega)]
theorem clamp0 {x : Int64} : clampK 0 x = if 2147483647 ≤ x.toInt then 2147483647 else if x.toInt < -2147483648 then -2147483648 else x := by
  have e1 : fn_X1_greatest 0 = 2147483647 := by decide
  have e2 : fn_X1_least 0 = -2147483648 := by decide
  have t1 : (2147483647 : Int64).toInt = 2147483647 := by decide
  have t2 : (-2147483648 : Int64).toInt = -2147483648 := by decide
  unfold clampK
  rw [e1, e2]
  by_cases h : 2147483647 ≤ x.toInt
  · rw [if_neg (show ¬ x < 2147483647 by rw [Int64.lt_iff_toInt_lt, t1]; omega), if_pos h, if_neg (show ¬ (2147483647 : Int64) < -2147483648 by decide)]
  · rw [if_pos (show x < 2147483647 by rw [Int64.lt_iff_toInt_lt, t1]; omega), if_neg h]
    by_cases h2 : x.toInt < -2147483648
    · rw [if_pos (show x < -2147483648 by rw [Int64.lt_iff_toInt_lt, t2]; exact h2), if_pos h2]
    · rw [if_neg (show ¬ x < -2147483648 by rw [Int64.lt_iff_toInt_lt, t2]; exact h2), if_neg h2]
theorem ok0_of {x : Int64} (h1 : -2147483648 ≤ x.toInt) (h2 : x.toInt < 2147483648) : okN 0 x := by
  show x.toInt32.toInt64 = x
  apply Int64.toInt_inj.mp
  rw [Int32.toInt_toInt64, Int64.toInt_toInt32]
  have e32 : (((2 ^ 32 : Nat) : Int)) = 4294967296 := by decide
  rw [Int.bmod_def, e32]
  split <;> omega
theorem clamp0_ok (x : Int64) : okN 0 (clampK 0 x) := by
  rw [clamp0]
  split
  · exact ok0_of (by decide) (by decide)
  · split
    · exact ok0_of (by decide) (by decide)
    · exact ok0_of (by omega) (by omega)
theorem made_wf {k j : Nat} (hk : k = 0 ∨ k = 1) (hj : j = 2 ∨ j = 3) {v : Int64} (hv : okN j v) : fn_X1_made k j v = fn_X3_turnedInto (nI k) (nI j) v ∧ okN k (fn_X1_made k j v) := by
  obtain ⟨b, n, hn, hT, rfl⟩ := okF_of hj hv
  have f1 := fb_le hj
  have b1 := bb_le hj
  have he := exp_le hj hT
  have e1 : fn_X1_made k j (sgn j b n) = clampK k (fn_X1_towardsZero j (sgn j b n)) := by
    unfold fn_X1_made clampK
    rw [if_neg (kF1 hj), if_pos (show kF k = 0 by rcases hk with rfl | rfl <;> decide)]
  have e2 : fn_X3_turnedInto (nI k) (nI j) (sgn j b n) = fn_X3_cut (nI k) (nI j) (sgn j b n) := by
    unfold fn_X3_turnedInto
    rw [if_neg (show ¬ nI k = nI j by rcases hk with rfl | rfl <;> rcases hj with rfl | rfl <;> decide), if_neg (x3F hj), if_pos (show fn_X3_isFloating (nI k) = 0 by rcases hk with rfl | rfl <;> decide)]
  rw [e1, e2, x3_cut hk hj hT b, x1_tz hj hT b]
  rcases hk with rfl | rfl
  · refine ⟨?_, clamp0_ok _⟩
    by_cases h : oneN j ≤ n
    · obtain ⟨s1, s2, s3⟩ := sig_b hj h
      rw [if_pos h, if_pos h]
      have hw := wh_b (d := n / 2 ^ fb j - bb j) s2 s3
      generalize whN (fb j) (n / 2 ^ fb j - bb j) (sigN j n) = W at *
      generalize n / 2 ^ fb j - bb j = d at *
      show _ = if d < 31 then pm b W else (if b then (-2147483648 : Int64) else 2147483647)
      by_cases c : d < 63
      · rw [if_pos c]
        have hW : W < 9223372036854775808 := Nat.lt_of_lt_of_le hw.2 (pw_le (show d + 1 ≤ 63 by omega))
        rw [clamp0, pm_ti hW]
        by_cases c2 : d < 31
        · rw [if_pos c2]
          have hW2 : W < 2147483648 := Nat.lt_of_lt_of_le hw.2 (pw_le (show d + 1 ≤ 31 by omega))
          cases b
          · show (if 2147483647 ≤ (W : Int) then (2147483647 : Int64) else if (W : Int) < -2147483648 then (-2147483648 : Int64) else pm false W) = pm false W
            by_cases c3 : 2147483647 ≤ (W : Int)
            · rw [if_pos c3, show W = 2147483647 by omega]
              rfl
            · rw [if_neg c3, if_neg (by omega)]
          · show (if 2147483647 ≤ -(W : Int) then (2147483647 : Int64) else if -(W : Int) < -2147483648 then (-2147483648 : Int64) else pm true W) = pm true W
            rw [if_neg (by omega), if_neg (by omega)]
        · rw [if_neg c2]
          have hW3 : 2147483648 ≤ W := Nat.le_trans (pw_le (show 31 ≤ d by omega)) hw.1
          cases b
          · show (if 2147483647 ≤ (W : Int) then (2147483647 : Int64) else if (W : Int) < -2147483648 then (-2147483648 : Int64) else pm false W) = 2147483647
            rw [if_pos (by omega)]
          · show (if 2147483647 ≤ -(W : Int) then (2147483647 : Int64) else if -(W : Int) < -2147483648 then (-2147483648 : Int64) else pm true W) = -2147483648
            rw [if_neg (by omega)]
            by_cases c3 : -(W : Int) < -2147483648
            · rw [if_pos c3]
            · rw [if_neg c3, show W = 2147483648 by omega]
              decide
      · rw [if_neg c, if_neg (show ¬ d < 31 by omega), clamp0]
        cases b <;> decide
    · rw [if_neg h, if_neg h]
      decide
  · rw [clamp1]
    exact ⟨rfl, trivial⟩
/-- follow -/
theorem made_eq {k j : Nat} (hk : k < 4) (hj : j < 4) {v : Int64} (hv : okN j v) : fn_X1_made k j v = fn_X3_turnedInto (nI k) (nI j) v ∧ okN k (fn_X1_made k j v) := by
  rcases (show (k = 0 ∨ k = 1) ∨ (k = 2 ∨ k = 3) by omega) with h1 | h1
  · rcases (show (j = 0 ∨ j = 1) ∨ (j = 2 ∨ j = 3) by omega) with h2 | h2
    · exact made_ww h1 h2 hv
    · exact made_wf h1 h2 hv
  · rcases (show (j = 0 ∨ j = 1) ∨ (j = 2 ∨ j = 3) by omega) with h2 | h2
    · exact made_fw h1 h2 v
    · exact made_ff h1 h2 hv
