/-! the reference's nearest -/
theorem pw_le {a b : Nat} (h : a ≤ b) : 2 ^ a ≤ 2 ^ b := Nat.pow_le_pow_right (by decide) h
theorem rnd_lo (m d : Nat) : m / 2 ^ d ≤ rnd m d := by
  unfold rnd
  by_cases h : d = 0
  · rw [if_pos h]; subst h; simp
  · rw [if_neg h]
    split
    · omega
    · split
      · split <;> omega
      · omega
theorem rnd_hi (m d : Nat) : rnd m d ≤ m / 2 ^ d + 1 := by
  unfold rnd
  by_cases h : d = 0
  · rw [if_pos h]; subst h; simp
  · rw [if_neg h]
    split
    · omega
    · split
      · split <;> omega
      · omega
theorem sd_b1 {M f : Nat} (h0 : 1 ≤ M) (hM : M < 18446744073709551616) (hf : f ≤ 52) : 2 ^ f ≤ sdN M ((Nat.log2 M : Int) - (f : Int)) ∧ sdN M ((Nat.log2 M : Int) - (f : Int)) ≤ 2 ^ (f + 1) := by
  have hl : Nat.log2 M < 64 := (Nat.log2_lt (by omega)).mpr (by omega)
  have g1 := lg_ge (n := M) (by omega)
  have g2 := lg_lt M
  generalize Nat.log2 M = t at *
  unfold sdN
  by_cases h : (t : Int) - (f : Int) ≤ 0
  · rw [if_pos h, show (-((t : Int) - (f : Int))).toNat = f - t by omega]
    have e1 : 2 ^ f = 2 ^ t * 2 ^ (f - t) := wb_pw (by omega)
    have e2 : 2 ^ (f + 1) = 2 ^ (t + 1) * 2 ^ (f - t) := by rw [← Nat.pow_add]; congr 1; omega
    rw [e1, e2]
    exact ⟨Nat.mul_le_mul_right _ g1, Nat.mul_le_mul_right _ (Nat.le_of_lt g2)⟩
  · rw [if_neg h, if_neg (by omega), show ((t : Int) - (f : Int)).toNat = t - f by omega]
    have e1 : 2 ^ t = 2 ^ f * 2 ^ (t - f) := wb_pw (by omega)
    have e2 : 2 ^ (t + 1) = 2 ^ (f + 1) * 2 ^ (t - f) := by rw [← Nat.pow_add]; congr 1; omega
    have a1 : 2 ^ f ≤ M / 2 ^ (t - f) := by
      rw [Nat.le_div_iff_mul_le (Nat.two_pow_pos _), ← e1]
      exact g1
    have a2 : M / 2 ^ (t - f) < 2 ^ (f + 1) := by
      rw [Nat.div_lt_iff_lt_mul (Nat.two_pow_pos _), ← e2]
      exact g2
    have a3 := rnd_lo M (t - f)
    have a4 := rnd_hi M (t - f)
    omega
theorem sd_b2 {M f : Nat} (h0 : 1 ≤ M) (hM : M < 18446744073709551616) {D : Int} (hD : (Nat.log2 M : Int) - (f : Int) + 1 ≤ D) : sdN M D ≤ 2 ^ f := by
  have g2 := lg_lt M
  generalize Nat.log2 M = t at *
  unfold sdN
  by_cases h : D ≤ 0
  · rw [if_pos h]
    have e2 : 2 ^ (t + 1) * 2 ^ (-D).toNat ≤ 2 ^ f := by rw [← Nat.pow_add]; exact pw_le (by omega)
    exact Nat.le_trans (Nat.mul_le_mul_right _ (Nat.le_of_lt g2)) e2
  · rw [if_neg h]
    by_cases h2 : 63 < D
    · rw [if_pos h2]
      exact Nat.zero_le _
    · rw [if_neg h2]
      have a4 := rnd_hi M D.toNat
      have a2 : M / 2 ^ D.toNat < 2 ^ f := by
        rw [Nat.div_lt_iff_lt_mul (Nat.two_pow_pos _), ← Nat.pow_add]
        exact Nat.lt_of_lt_of_le g2 (pw_le (by omega))
      omega
theorem nr_224 {k : Nat} (hk : k = 2 ∨ k = 3) (b : Bool) {z : Nat} (hz : z < 9223372036854775808) : fn_X3_nearest_224 (nI k) (b32 b) (lN z) = sgn k b (if z ≤ infN k then z else infN k) := by
  have hi := inf_lt hk
  have hT := TT_le (k := k)
  unfold fn_X3_nearest_224 fn_X3_nearest_240
  rw [x3_inf hk]
  by_cases h : z ≤ infN k
  · rw [if_pos ((pk_lLE (by omega) (by omega)).mpr h), if_pos h, x3_signed hk (by omega)]
  · rw [if_neg (fun q => h ((pk_lLE (by omega) (by omega)).mp q)), if_neg h, x3_signed hk hi]
theorem nr_185 {k : Nat} (hk : k = 2 ∨ k = 3) (b : Bool) {bd : Int} {S : Nat} (h1 : 1 - (bb k : Int) ≤ bd) (h3 : bd ≤ 3000) (h2 : (bd + (bb k : Int)).toNat * 2 ^ fb k + S < 9223372036854775808) : fn_X3_nearest_185 (nI k) (b32 b) (nI (fb k)) (nI (bb k)) (iI (bd - (fb k : Int))) (lN S) = sgn k b (if (if 2 ^ fb k ≤ S then (bd + (bb k : Int)).toNat * 2 ^ fb k + (S - 2 ^ fb k) else S) ≤ infN k then (if 2 ^ fb k ≤ S then (bd + (bb k : Int)).toNat * 2 ^ fb k + (S - 2 ^ fb k) else S) else infN k) := by
  have f1 := fb_le hk
  have b1 := bb_le hk
  have hP : 2 ^ fb k < 2 ^ 63 := wb_lt2 (by omega)
  have hP0 := Nat.two_pow_pos (fb k)
  unfold fn_X3_nearest_185
  rw [show (1 : Int64) = lN 1 from rfl, wb_shl _ (by omega), Nat.one_mul]
  have e1 : iI (bd - (fb k : Int)) + nI (fb k) + nI (bb k) = nI (bd + (bb k : Int)).toNat := by
    rw [iI_nat, iI_nat, iI_nat, iI_add, iI_add]
    exact congrArg iI (by omega)
  rw [e1, nI_l (by omega), wb_shl _ (by omega)]
  by_cases h : 2 ^ fb k ≤ S
  · rw [if_pos ((pk_lLE (by omega) (by omega)).mpr h), if_pos h, lN_sub h, lN_add, nr_224 hk b (by omega)]
  · rw [if_neg (fun q => h ((pk_lLE (by omega) (by omega)).mp q)), if_neg h, nr_224 hk b (by omega)]
theorem nr_86 {k : Nat} (hk : k = 2 ∨ k = 3) (x1 : Int32) {M : Nat} (hM : M < 18446744073709551616) {s bd : Int} (hs : -1200 ≤ s ∧ s ≤ 1200) (hb : -3000 ≤ bd ∧ bd ≤ 3000) (hD : -62 ≤ bd - (fb k : Int) - s) : fn_X3_nearest_86 (nI k) x1 (lN M) (iI s) (nI (fb k)) (nI (bb k)) (iI (bd - (fb k : Int))) = fn_X3_nearest_185 (nI k) x1 (nI (fb k)) (nI (bb k)) (iI (bd - (fb k : Int))) (lN (sdN M (bd - (fb k : Int) - s))) := by
  have f1 := fb_le hk
  unfold fn_X3_nearest_86 sdN
  have e0 : iI (bd - (fb k : Int)) - iI s = iI (bd - (fb k : Int) - s) := by rw [iI_sub]
  rw [e0]
  by_cases h : bd - (fb k : Int) - s ≤ 0
  · rw [if_neg (show ¬ iI s < iI (bd - (fb k : Int)) from fun q => absurd ((iI_lt (by omega) (by omega)).mp q) (by omega)), if_pos h]
    have e1 : iI s - iI (bd - (fb k : Int)) = nI (-(bd - (fb k : Int) - s)).toNat := by
      rw [iI_sub, iI_nat]
      exact congrArg iI (by omega)
    rw [e1, wb_shl _ (by omega)]
  · rw [if_pos (show iI s < iI (bd - (fb k : Int)) from (iI_lt (by omega) (by omega)).mpr (by omega)), if_neg h]
    by_cases h2 : 63 < bd - (fb k : Int) - s
    · rw [if_neg (show ¬ iI (bd - (fb k : Int) - s) ≤ 63 from fun q => absurd ((iI_le (b := 63) (by omega) (by omega)).mp q) (by omega)), if_pos h2]
      rfl
    · rw [if_pos (show iI (bd - (fb k : Int) - s) ≤ 63 from (iI_le (b := 63) (by omega) (by omega)).mpr (by omega)), if_neg h2]
      unfold fn_X3_nearest_124
      rw [e0]
      have hd : iI (bd - (fb k : Int) - s) = nI (bd - (fb k : Int) - s).toNat := by
        rw [iI_nat]
        exact congrArg iI (by omega)
      rw [hd]
      have d1 : 0 < (bd - (fb k : Int) - s).toNat := by omega
      have d2 : (bd - (fb k : Int) - s).toNat ≤ 63 := by omega
      generalize (bd - (fb k : Int) - s).toNat = d at *
      have h5 : 2 ^ (d - 1) < 2 ^ 63 := wb_lt2 (by omega)
      have h7 : 2 ^ d ≤ 2 ^ 63 := pw_le d2
      have h6 := Nat.two_pow_pos d
      have h8 := Nat.mod_lt M h6
      have h9 : M / 2 ^ d ≤ M := Nat.div_le_self _ _
      have h10 := dm M (2 ^ d)
      unfold fn_X3_nearest_131 fn_X3_nearest_137
      rw [wb_shr (by omega) (by omega), wb_shl _ (by omega), lN_sub (by omega), show nI d - (1 : Int32) = nI (d - 1) from pk_sub (b := 1) d1]
      rw [show (1 : Int64) <<< (Int32.toInt64 (nI (d - 1)) &&& 63) = lN (2 ^ (d - 1)) from by rw [show (1 : Int64) = lN 1 from rfl, wb_shl _ (by omega), Nat.one_mul]]
      rw [show M - M / 2 ^ d * 2 ^ d = M % 2 ^ d by omega]
      unfold fn_X3_nearest_154 rnd
      rw [if_neg (show ¬ d = 0 by omega), lN_1]
      by_cases c1 : 2 ^ (d - 1) < M % 2 ^ d
      · rw [if_pos ((pk_lLT (by omega) (by omega)).mpr c1), if_pos c1]
      · rw [if_neg (fun q => c1 ((pk_lLT (by omega) (by omega)).mp q)), if_neg c1]
        by_cases c2 : M % 2 ^ d = 2 ^ (d - 1)
        · rw [if_pos ((pk_lEQ (by omega) (by omega)).mpr c2), if_pos c2, wb_a1 (by omega)]
          by_cases c3 : M / 2 ^ d % 2 = 0
          · rw [if_neg (show ¬ lN (M / 2 ^ d % 2) = 1 from by rw [c3]; decide), if_pos c3]
          · have c4 : M / 2 ^ d % 2 = 1 := by omega
            rw [if_pos (show lN (M / 2 ^ d % 2) = 1 from by rw [c4]; rfl), if_neg c3]
        · rw [if_neg (fun q => c2 ((pk_lEQ (by omega) (by omega)).mp q)), if_neg c2]
theorem x3_nearest {k : Nat} (hk : k = 2 ∨ k = 3) {M : Nat} (h0 : 1 ≤ M) (hM : M < 18446744073709551616) {s : Int} (hs1 : -1200 ≤ s) (hs2 : s ≤ 1200) (hE : (Nat.log2 M : Int) + s + (bb k : Int) ≤ 2023) (b : Bool) : fn_X3_nearest (nI k) (b32 b) (lN M) (iI s) = sgn k b (szN k M s) ∧ szN k M s ≤ infN k := by
  have f1 := fb_le hk
  have b1 := bb_le hk
  have hl : Nat.log2 M < 64 := (Nat.log2_lt (by omega)).mpr (by omega)
  have hne : ¬ lN M = 0 := fun q => by
    have := congrArg uN q
    rw [uN_lN, Nat.mod_eq_of_lt hM] at this
    have h2 : uN (0 : Int64) = 0 := rfl
    omega
  have htb : tb (lN M) = Nat.log2 M := by unfold tb; rw [uN_lN, Nat.mod_eq_of_lt hM]
  have e0 : fn_X3_nearest (nI k) (b32 b) (lN M) (iI s) = fn_X3_nearest_55 (nI k) (b32 b) (lN M) (iI s) (nI (fb k)) (nI (bb k)) (nI (Nat.log2 M)) := by
    unfold fn_X3_nearest
    rw [if_neg hne, fr_eq hk, ← htb]
    rcases hk with rfl | rfl
    · rw [if_pos (by decide)]; rfl
    · rw [if_neg (by decide)]; rfl
  rw [e0]
  unfold fn_X3_nearest_55 fn_X3_nearest_65
  have e1 : nI (Nat.log2 M) + iI s - nI (fb k) = iI ((Nat.log2 M : Int) + s - (fb k : Int)) := by rw [iI_nat, iI_nat, iI_add, iI_sub]
  have e2 : (1 : Int32) - nI (bb k) - nI (fb k) = iI (1 - (bb k : Int) - (fb k : Int)) := by rw [show (1 : Int32) = iI 1 from rfl, iI_nat, iI_nat, iI_sub, iI_sub]
  rw [e1, e2]
  have hB1 := sd_b1 (f := fb k) h0 hM f1.2
  have hB2 := fun (D : Int) (hD : (Nat.log2 M : Int) - (fb k : Int) + 1 ≤ D) => sd_b2 (f := fb k) h0 hM hD
  have hP := Nat.two_pow_pos (fb k)
  have hP1 : 2 ^ (fb k + 1) = 2 * 2 ^ fb k := by rw [Nat.pow_succ]; omega
  have hPf : 2 ^ fb k ≤ 2 ^ 52 := pw_le f1.2
  have hinf := inf_eq hk
  have ht0 : (0 : Int) ≤ (Nat.log2 M : Int) ∧ (Nat.log2 M : Int) < 64 := by omega
  unfold szN
  generalize (Nat.log2 M : Int) = t at *
  have key : ∀ q : Nat, q ≤ 2023 → q * 2 ^ fb k ≤ 2023 * 2 ^ fb k := fun q h => Nat.mul_le_mul_right _ h
  by_cases c : t + s < 1 - (bb k : Int)
  · rw [if_neg (show ¬ iI (1 - (bb k : Int) - (fb k : Int)) ≤ iI (t + s - (fb k : Int)) from fun q => absurd ((iI_le (by omega) (by omega)).mp q) (by omega))]
    have hb := hB2 (1 - (bb k : Int) - (fb k : Int) - s) (by omega)
    rw [nr_86 hk _ hM ⟨hs1, hs2⟩ ⟨by omega, by omega⟩ (by omega)]
    rw [if_pos (show t + s ≤ (bb k : Int) by omega), if_pos c]
    generalize sdN M (1 - (bb k : Int) - (fb k : Int) - s) = S at *
    have q1 : (1 - (bb k : Int) + (bb k : Int)).toNat = 1 := by omega
    have q0 : (1 - (bb k : Int) + (bb k : Int) - 1).toNat = 0 := by omega
    have hSi : S ≤ infN k := by
      rw [hinf, Nat.add_mul, Nat.one_mul]
      omega
    rw [nr_185 hk b (by omega) (by omega) (by rw [q1]; omega), q1, q0, Nat.one_mul, Nat.zero_mul, Nat.zero_add]
    have e3 : (if 2 ^ fb k ≤ S then 2 ^ fb k + (S - 2 ^ fb k) else S) = S := by split <;> omega
    rw [e3, if_pos hSi]
    exact ⟨rfl, hSi⟩
  · rw [if_pos (show iI (1 - (bb k : Int) - (fb k : Int)) ≤ iI (t + s - (fb k : Int)) from (iI_le (by omega) (by omega)).mpr (by omega))]
    have eD : t + s - (fb k : Int) - s = t - (fb k : Int) := by omega
    rw [nr_86 hk _ hM ⟨hs1, hs2⟩ ⟨by omega, by omega⟩ (by omega), eD]
    generalize hS : sdN M (t - (fb k : Int)) = S at hB1 ⊢
    obtain ⟨s1, s2⟩ := hB1
    obtain ⟨Q, hQ⟩ : ∃ Q : Nat, (Q : Int) = t + s + (bb k : Int) - 1 := ⟨(t + s + (bb k : Int) - 1).toNat, by omega⟩
    have q1 : (t + s + (bb k : Int)).toNat = Q + 1 := by omega
    have q0 : (t + s + (bb k : Int) - 1).toNat = Q := by omega
    have hk1 := key (Q + 1) (by omega)
    rw [nr_185 hk b (by omega) (by omega) (by rw [q1]; omega), q1, if_pos s1, Nat.add_mul, Nat.one_mul]
    have e3 : Q * 2 ^ fb k + 2 ^ fb k + (S - 2 ^ fb k) = Q * 2 ^ fb k + S := by omega
    rw [e3]
    by_cases c2 : t + s ≤ (bb k : Int)
    · rw [if_pos c2, if_neg c, q0, eD, hS]
      have hQ2 : Q * 2 ^ fb k ≤ (2 * bb k - 1) * 2 ^ fb k := Nat.mul_le_mul_right _ (by omega)
      have hle : Q * 2 ^ fb k + S ≤ infN k := by
        rw [hinf]
        have e4 : (2 * bb k + 1) * 2 ^ fb k = (2 * bb k - 1) * 2 ^ fb k + 2 * 2 ^ fb k := by rw [← Nat.add_mul]; congr 1; omega
        omega
      rw [if_pos hle]
      exact ⟨rfl, hle⟩
    · rw [if_neg c2]
      have hQ2 : (2 * bb k) * 2 ^ fb k ≤ Q * 2 ^ fb k := Nat.mul_le_mul_right _ (by omega)
      have hge : infN k ≤ Q * 2 ^ fb k + S := by
        rw [hinf, Nat.add_mul, Nat.one_mul]
        omega
      refine ⟨?_, Nat.le_refl _⟩
      split
      · exact congrArg (sgn k b) (by omega)
      · rfl
