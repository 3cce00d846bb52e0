/-! SIZE, TURN, LOOK, REST, set: class and reference alike on a kind's numbers. -/
theorem nI0 : nI 0 = (0 : Int32) := rfl
theorem nlt_le (v : Int64) : ¬ 0 < v ↔ v ≤ 0 := by
  rw [Int64.le_iff_toInt_le, Int64.lt_iff_toInt_lt]
  omega
theorem z_of {v : Int64} (h1 : ¬ 0 < v) (h2 : ¬ v < 0) : v = 0 := by
  apply Int64.toInt_inj.mp
  rw [Int64.lt_iff_toInt_lt] at h1 h2
  have e : (0 : Int64).toInt = 0 := by decide
  omega
theorem sized_eq {k : Nat} (hk : k < 4) {v : Int64} (hv : okN k v) : fn_X1_sized k v = fn_X3_sized (nI k) v := by
  rcases (show k = 0 ∨ k = 1 ∨ k = 2 ∨ k = 3 by omega) with rfl | rfl | rfl | rfl
  · have hv : v.toInt32.toInt64 = v := hv
    unfold fn_X1_sized fn_X3_sized
    rw [if_pos (show kF 0 = 0 by decide), if_pos (show fn_X3_isFloating (nI 0) = 0 by decide), fitted0]
    by_cases h : 0 < v
    · rw [if_pos h, if_neg (show ¬ v < 0 by rw [Int64.lt_iff_toInt_lt] at h ⊢; omega), hv]
    · rw [if_neg h]
      by_cases h2 : v < 0
      · rw [if_pos h2, if_pos (show nI 0 = 0 by decide)]
      · rw [if_neg h2, z_of h h2]
        decide
  · unfold fn_X1_sized fn_X3_sized
    rw [if_pos (show kF 1 = 0 by decide), if_pos (show fn_X3_isFloating (nI 1) = 0 by decide), fitted1]
    by_cases h : 0 < v
    · rw [if_pos h, if_neg (show ¬ v < 0 by rw [Int64.lt_iff_toInt_lt] at h ⊢; omega)]
    · rw [if_neg h]
      by_cases h2 : v < 0
      · rw [if_pos h2, if_neg (show ¬ nI 1 = 0 by decide)]
      · rw [if_neg h2, z_of h h2]
        decide
  · obtain ⟨b, n, hn, rfl⟩ := hv
    have hT : n < TT 2 := Nat.lt_of_le_of_lt hn (inf_lt (Or.inl rfl))
    unfold fn_X3_sized
    rw [if_neg (show ¬ fn_X3_isFloating (nI 2) = 0 by decide), x1_size (Or.inl rfl) hT, x3_size (Or.inl rfl) hT]
  · obtain ⟨b, n, hn, rfl⟩ := hv
    have hT : n < TT 3 := Nat.lt_of_le_of_lt hn (inf_lt (Or.inr rfl))
    unfold fn_X3_sized
    rw [if_neg (show ¬ fn_X3_isFloating (nI 3) = 0 by decide), x1_size (Or.inr rfl) hT, x3_size (Or.inr rfl) hT]
theorem okF {k : Nat} (hk : k = 2 ∨ k = 3) {b : Bool} {n : Nat} (hn : n ≤ infN k) : okN k (sgn k b n) := by
  rcases hk with rfl | rfl
  · exact ⟨b, n, hn, rfl⟩
  · exact ⟨b, n, hn, rfl⟩
theorem okF_of {k : Nat} (hk : k = 2 ∨ k = 3) {v : Int64} (hv : okN k v) : ∃ (b : Bool) (n : Nat), n ≤ infN k ∧ n < TT k ∧ v = sgn k b n := by
  rcases hk with rfl | rfl
  · obtain ⟨b, n, hn, h⟩ := hv
    exact ⟨b, n, hn, Nat.lt_of_le_of_lt hn (inf_lt (Or.inl rfl)), h⟩
  · obtain ⟨b, n, hn, h⟩ := hv
    exact ⟨b, n, hn, Nat.lt_of_le_of_lt hn (inf_lt (Or.inr rfl)), h⟩
theorem kF1 {k : Nat} (hk : k = 2 ∨ k = 3) : ¬ kF k = 0 := by rcases hk with rfl | rfl <;> decide
theorem x3F {k : Nat} (hk : k = 2 ∨ k = 3) : ¬ fn_X3_isFloating (nI k) = 0 := by rcases hk with rfl | rfl <;> decide
theorem sized_ok {k : Nat} (hk : k < 4) {v : Int64} (hv : okN k v) : okN k (fn_X1_sized k v) := by
  rcases (show k = 0 ∨ k = 1 ∨ (k = 2 ∨ k = 3) by omega) with rfl | rfl | hk
  · unfold fn_X1_sized
    rw [if_pos (show kF 0 = 0 by decide), fitted0]
    exact tw_ok _
  · trivial
  · obtain ⟨b, n, hn, hT, rfl⟩ := okF_of hk hv
    rw [x1_size hk hT]
    exact okF hk (b := false) hn
/-- TURN with a size -/
theorem x1_turnS {k : Nat} (hk : k = 2 ∨ k = 3) {n : Nat} (hn : n < TT k) (b : Bool) (w : Int64) : fn_X1_turned k (sgn k b n) w = sgn k (decide (w < 0)) n := by
  have h1 : fn_X1_sized k (sgn k b n) = lN n := x1_size hk hn b
  unfold fn_X1_turned
  rw [h1]
  by_cases h : w < 0
  · rw [if_pos h, if_neg (kF1 hk), x1_signed hk hn]
    simp [h]
  · rw [if_neg h]
    simp [h, sgn]
theorem turned_eq {k : Nat} (hk : k < 4) {v : Int64} (hv : okN k v) (w : Int64) : fn_X1_turned k v w = fn_X3_turned (nI k) v w := by
  rcases (show k = 0 ∨ k = 1 ∨ (k = 2 ∨ k = 3) by omega) with rfl | rfl | hk
  · unfold fn_X1_turned fn_X3_turned
    rw [if_pos (show fn_X3_isFloating (nI 0) = 0 by decide), sized_eq (by decide) hv]
    by_cases h : w < 0
    · rw [if_pos h, if_pos h, if_pos (show kF 0 = 0 by decide), if_pos (show nI 0 = 0 by decide), fitted0]
    · rw [if_neg h, if_neg h]
  · unfold fn_X1_turned fn_X3_turned
    rw [if_pos (show fn_X3_isFloating (nI 1) = 0 by decide), sized_eq (by decide) hv]
    by_cases h : w < 0
    · rw [if_pos h, if_pos h, if_pos (show kF 1 = 0 by decide), if_neg (show ¬ nI 1 = 0 by decide), fitted1]
    · rw [if_neg h, if_neg h]
  · obtain ⟨b, n, hn, hT, rfl⟩ := okF_of hk hv
    unfold fn_X3_turned
    rw [x1_turnS hk hT, if_neg (x3F hk), x3_size hk hT, x3_sg2 hk hT]
theorem turned_ok {k : Nat} (hk : k < 4) {v : Int64} (hv : okN k v) (w : Int64) : okN k (fn_X1_turned k v w) := by
  rcases (show k = 0 ∨ k = 1 ∨ (k = 2 ∨ k = 3) by omega) with rfl | rfl | hk
  · unfold fn_X1_turned
    by_cases h : w < 0
    · rw [if_pos h, if_pos (show kF 0 = 0 by decide), fitted0]
      exact tw_ok _
    · rw [if_neg h]
      exact sized_ok (by decide) hv
  · trivial
  · obtain ⟨b, n, hn, hT, rfl⟩ := okF_of hk hv
    rw [x1_turnS hk hT]
    exact okF hk hn
theorem tw_range {v : Int64} (h : v.toInt32.toInt64 = v) : -2147483648 ≤ v.toInt ∧ v.toInt < 2147483648 := by
  have e : v.toInt = v.toInt32.toInt := by
    have := congrArg Int64.toInt h
    rw [Int32.toInt_toInt64] at this
    exact this.symm
  rw [e, Int64.toInt_toInt32]
  have e32 : (((2 ^ 32 : Nat) : Int)) = 4294967296 := by decide
  rw [Int.bmod_def, e32]
  split <;> omega
theorem neg_ti {v : Int64} (h : -9223372036854775808 < v.toInt) : (-v).toInt = -v.toInt := by
  rw [Int64.toInt_neg]
  have h1 : v.toInt ≤ 9223372036854775807 := by
    have := Int64.toInt_le v
    exact this
  have e64 : (((2 ^ 64 : Nat) : Int)) = 18446744073709551616 := by decide
  rw [Int.bmod_def, e64]
  split <;> omega
/-- a whole number's size is 0 for 0 alone -/
theorem size0 {k : Nat} (hk : k = 0 ∨ k = 1) {v : Int64} (hv : okN k v) : fn_X3_sized (nI k) v = 0 ↔ v = 0 := by
  have e0 : (0 : Int64).toInt = 0 := by decide
  rcases hk with rfl | rfl
  · have hv : v.toInt32.toInt64 = v := hv
    have hr := tw_range hv
    unfold fn_X3_sized
    rw [if_pos (show fn_X3_isFloating (nI 0) = 0 by decide)]
    by_cases h : v < 0
    · rw [if_pos h, if_pos (show nI 0 = 0 by decide)]
      rw [Int64.lt_iff_toInt_lt, e0] at h
      constructor
      · intro q
        have q2 := congrArg Int64.toInt q
        rw [Int32.toInt_toInt64, Int64.toInt_toInt32, neg_ti (by omega), e0] at q2
        have e32 : (((2 ^ 32 : Nat) : Int)) = 4294967296 := by decide
        rw [Int.bmod_def, e32] at q2
        split at q2 <;> omega
      · intro q
        rw [q, e0] at h
        omega
    · rw [if_neg h]
  · unfold fn_X3_sized
    rw [if_pos (show fn_X3_isFloating (nI 1) = 0 by decide)]
    by_cases h : v < 0
    · rw [if_pos h, if_neg (show ¬ nI 1 = 0 by decide)]
      constructor
      · intro q
        have q2 : -(-v) = -(0 : Int64) := congrArg (fun x => -x) q
        rw [Int64.neg_neg] at q2
        rw [q2]
        decide
      · intro q
        rw [q]
        decide
    · rw [if_neg h]
theorem way_eq {k : Nat} (hk : k < 4) {v : Int64} (hv : okN k v) : (if fn_X1_sized k v = 0 then v else fn_X1_turned k (fn_X1_one k) v) = fn_X3_wayOf (nI k) v := by
  rw [sized_eq hk hv]
  rcases (show (k = 0 ∨ k = 1) ∨ (k = 2 ∨ k = 3) by omega) with hk | hk
  · have hs := size0 hk hv
    have hf : fn_X3_isFloating (nI k) = 0 := by rcases hk with rfl | rfl <;> decide
    unfold fn_X3_wayOf
    rw [if_pos hf]
    by_cases h : v = 0
    · rw [if_pos (hs.mpr h), h, if_pos (by decide), if_pos (by decide)]
    · rw [if_neg (fun q => h (hs.mp q))]
      unfold fn_X1_turned
      by_cases h2 : v < 0
      · rw [if_pos h2, if_pos (show v ≤ 0 by rw [Int64.lt_iff_toInt_lt] at h2; rw [Int64.le_iff_toInt_le]; omega), if_neg (fun q => (le_nlt v).mp q h2)]
        rcases hk with rfl | rfl <;> decide
      · rw [if_neg h2, if_neg (fun q => h (z_of ((nlt_le v).mpr q) h2))]
        rcases hk with rfl | rfl <;> decide
  · obtain ⟨b, n, hn, hT, rfl⟩ := okF_of hk hv
    unfold fn_X3_wayOf fn_X3_sized
    rw [if_neg (x3F hk), if_neg (x3F hk), x3_size hk hT, x1_one hk, x3_one hk, x1_turned hk (one_lt hk), x3_sg2 hk (one_lt hk)]
theorem way_ok {k : Nat} (hk : k < 4) {v : Int64} (hv : okN k v) : okN k (if fn_X1_sized k v = 0 then v else fn_X1_turned k (fn_X1_one k) v) := by
  split
  · exact hv
  · refine turned_ok hk ?_ _
    rcases (show k = 0 ∨ k = 1 ∨ (k = 2 ∨ k = 3) by omega) with rfl | rfl | hk
    · show (fn_X1_one 0).toInt32.toInt64 = _
      decide
    · trivial
    · rw [x1_one hk]
      exact okF hk (b := false) (by rcases hk with rfl | rfl <;> decide)
theorem zero_eq {k : Nat} (hk : k < 4) {v : Int64} (hv : okN k v) : fn_X1_zeroBeside k v = (if fn_X3_isFloating (nI k) = 0 then (0 : Int64) else if (0 : Int64) ≤ v then fn_X3_signed (nI k) 0 0 else fn_X3_signed (nI k) 0 1) := by
  unfold fn_X1_zeroBeside
  rcases (show (k = 0 ∨ k = 1) ∨ (k = 2 ∨ k = 3) by omega) with hk | hk
  · rw [if_pos (by rcases hk with rfl | rfl <;> decide)]
    unfold fn_X1_turned
    by_cases h : v < 0
    · rw [if_pos h]
      rcases hk with rfl | rfl <;> decide
    · rw [if_neg h]
      rcases hk with rfl | rfl <;> decide
  · rw [if_neg (x3F hk)]
    have h0 : (0 : Nat) < TT k := by rcases hk with rfl | rfl <;> decide
    rw [show (0 : Int64) = lN 0 from rfl, x1_turned hk h0]
    exact (x3_sg2 hk h0 v).symm
theorem zero_ok {k : Nat} (hk : k < 4) (v : Int64) : okN k (fn_X1_zeroBeside k v) := by
  unfold fn_X1_zeroBeside
  refine turned_ok hk ?_ _
  rcases (show k = 0 ∨ k = 1 ∨ (k = 2 ∨ k = 3) by omega) with rfl | rfl | hk
  · show ((0 : Int64)).toInt32.toInt64 = _
    decide
  · trivial
  · exact okF hk (b := false) (n := 0) (Nat.zero_le _)
