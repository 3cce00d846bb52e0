/-! What the calls of both sides answer, from the tie. -/
theorem w5 {v : Int32} (h1 : ¬ v < 0) (h2 : ¬ 4 < v) : ∃ w : Nat, w < 5 ∧ v = nI w := what_of h1 h2
theorem bad_ne {v : Int32} (h : v < 0 ∨ 4 < v) : ¬ v = 0 ∧ ¬ v = 1 ∧ ¬ v = 2 ∧ ¬ v = 3 ∧ ¬ v = 4 := by
  refine ⟨fun e => ?_, fun e => ?_, fun e => ?_, fun e => ?_, fun e => ?_⟩ <;> (subst e; revert h; decide)
theorem num_bad {k : Nat} {v : Int32} (h : v < 0 ∨ 4 < v) (p l q b w : Int64) : fn_X0_number k v p l q b w = 0 := by
  obtain ⟨h0, h1, h2, h3, h4⟩ := bad_ne h
  unfold fn_X0_number
  rw [if_neg h0, if_neg h1, if_neg h2, if_neg h3, if_neg h4]
theorem num_w {k i : Nat} {nf : Nat → Int64} {x : Ax5} (e : at5 nf i x) {w : Nat} (hw : w < 5) : fn_X0_number k (nI w) x.1 x.2.1 x.2.2.1 x.2.2.2.1 x.2.2.2.2 = nf (5 * i + w) := by
  obtain ⟨e0, e1, e2, e3, e4⟩ := e
  unfold fn_X0_number
  rcases (show w = 0 ∨ w = 1 ∨ w = 2 ∨ w = 3 ∨ w = 4 by omega) with rfl | rfl | rfl | rfl | rfl
  · rw [if_pos (by decide), e0]
  · rw [if_neg (show ¬ nI 1 = 0 by decide), if_pos (by decide), e1]
  · rw [if_neg (show ¬ nI 2 = 0 by decide), if_neg (show ¬ nI 2 = 1 by decide), if_pos (by decide), e2]
  · rw [if_neg (show ¬ nI 3 = 0 by decide), if_neg (show ¬ nI 3 = 1 by decide), if_neg (show ¬ nI 3 = 2 by decide), if_pos (by decide), e3]
  · rw [if_neg (show ¬ nI 4 = 0 by decide), if_neg (show ¬ nI 4 = 1 by decide), if_neg (show ¬ nI 4 = 2 by decide), if_neg (show ¬ nI 4 = 3 by decide), if_pos (by decide), e4]
abbrev putA (k : Nat) (v : Int32) (v3 : Int64) (x : Ax5) : Int32 × Ax5 := fn_X0_put k v v3 x.1 x.2.1 x.2.2.1 x.2.2.2.1 x.2.2.2.2
theorem put_bad {k : Nat} {v : Int32} (h : v < 0 ∨ 4 < v) (v3 : Int64) (x : Ax5) : putA k v v3 x = (0, x) := by
  obtain ⟨h0, h1, h2, h3, h4⟩ := bad_ne h
  unfold putA fn_X0_put
  by_cases c : fn_X1_isNumber k (fn_X1_fitted k v3) = 0
  · rw [if_pos c]
  · rw [if_neg c, if_neg h0, if_neg h1, if_neg h2, if_neg h3, if_neg h4]
theorem put_no {k : Nat} {v : Int32} {v3 : Int64} (c : fn_X1_isNumber k (fn_X1_fitted k v3) = 0) (x : Ax5) : putA k v v3 x = (0, x) := by
  unfold putA fn_X0_put
  rw [if_pos c]
theorem put_w {k i : Nat} {nf : Nat → Int64} {x : Ax5} (e : at5 nf i x) (z : ok5 k x) {v3 : Int64} (c : ¬ fn_X1_isNumber k (fn_X1_fitted k v3) = 0) (hv : okN k (fn_X1_fitted k v3)) {w : Nat} (hw : w < 5) : ∃ x2 : Ax5, putA k (nI w) v3 x = (1, x2) ∧ at5 (vp_updL nf (5 * i + w) (fn_X1_fitted k v3)) i x2 ∧ ok5 k x2 := by
  obtain ⟨p, l, h, b, y⟩ := x
  obtain ⟨z0, z1, z2, z3, z4⟩ := z
  unfold putA fn_X0_put
  rw [if_neg c]
  rcases (show w = 0 ∨ w = 1 ∨ w = 2 ∨ w = 3 ∨ w = 4 by omega) with rfl | rfl | rfl | rfl | rfl
  · exact ⟨_, by rw [if_pos (show nI 0 = 0 by decide)], at5_u0 e _, ⟨hv, z1, z2, z3, z4⟩⟩
  · exact ⟨_, by rw [if_neg (show ¬ nI 1 = 0 by decide), if_pos (show nI 1 = 1 by decide)], at5_u1 e _, ⟨z0, hv, z2, z3, z4⟩⟩
  · exact ⟨_, by rw [if_neg (show ¬ nI 2 = 0 by decide), if_neg (show ¬ nI 2 = 1 by decide), if_pos (show nI 2 = 2 by decide)], at5_u2 e _, ⟨z0, z1, hv, z3, z4⟩⟩
  · exact ⟨_, by rw [if_neg (show ¬ nI 3 = 0 by decide), if_neg (show ¬ nI 3 = 1 by decide), if_neg (show ¬ nI 3 = 2 by decide), if_pos (show nI 3 = 3 by decide)], at5_u3 e _, ⟨z0, z1, z2, hv, z4⟩⟩
  · exact ⟨_, by rw [if_neg (show ¬ nI 4 = 0 by decide), if_neg (show ¬ nI 4 = 1 by decide), if_neg (show ¬ nI 4 = 2 by decide), if_neg (show ¬ nI 4 = 3 by decide), if_pos (show nI 4 = 4 by decide)], at5_u4 e _, ⟨z0, z1, z2, z3, hv⟩⟩
theorem ord_eq {k : Nat} (hk : k < 4) {p q : Int64} (hp : okN k p) (hq : okN k q) : fn_X1_compared k p q = if fn_X3_rank (nI k) q ≤ fn_X3_rank (nI k) p then (if fn_X3_rank (nI k) p ≤ fn_X3_rank (nI k) q then (0 : Int32) else 1) else -1 := by
  unfold fn_X1_compared fn_J13_compare_74951
  rw [rank_eq hk hp, rank_eq hk hq]
  by_cases h : fn_X3_rank (nI k) q ≤ fn_X3_rank (nI k) p
  · rw [if_pos h, if_pos h]
    by_cases h2 : fn_X3_rank (nI k) p = fn_X3_rank (nI k) q
    · rw [if_pos h2, if_pos (by rw [h2]; rw [Int64.le_iff_toInt_le]; exact Int.le_refl _)]
    · rw [if_neg h2, if_neg (fun h3 => h2 ?_)]
      apply Int64.toInt_inj.mp
      rw [Int64.le_iff_toInt_le] at h h3
      omega
  · rw [if_neg h, if_neg h]
theorem Rl_order {L : List Nat} {K : Nat → Nat} {u : Nat → Ax5} {kf : Nat → Int32} {nf : Nat → Int64} (h : Rl L K u kf nf) {i j a b : Nat} (hi : L[i]? = some a) (hj : L[j]? = some b) : fn_X3_order_at kf nf i j = if K a = K b then fn_X1_compared (K a) (u a).1 (u b).1 else -2 := by
  obtain ⟨r1, r2, r3⟩ := h.2.2 i a hi
  obtain ⟨t1, t2, t3⟩ := h.2.2 j b hj
  have ka := h.2.1 a (List.mem_of_getElem? hi)
  have kb := h.2.1 b (List.mem_of_getElem? hj)
  unfold fn_X3_order_at
  rw [r1, t1, r2.1, t2.1]
  by_cases e : K a = K b
  · rw [if_pos e, if_pos (by rw [e])]
    have hq := t3.1
    rw [← e] at hq ⊢
    exact (ord_eq ka r3.1 hq).symm
  · rw [if_neg e, if_neg (fun q => e ((nI_eq (by omega) (by omega)).mp q))]
theorem Rl_follow {L : List Nat} {K : Nat → Nat} {u : Nat → Ax5} {kf : Nat → Int32} {nf : Nat → Int64} (h : Rl L K u kf nf) (hn : nd L) {i j a b : Nat} (hi : L[i]? = some a) (hj : L[j]? = some b) : Rl L K (va_up u a (fn_X0_moveTo (K a) (K b) (u b).1 (u a).1 (u a).2.1 (u a).2.2.1 (u a).2.2.2.1 (u a).2.2.2.2)) kf (vp_updL nf (5 * i + 0) (fn_X3_turnedInto (kf i) (kf j) (nf (5 * j + 0)))) := by
  obtain ⟨r1, r2, r3⟩ := h.2.2 i a hi
  obtain ⟨t1, t2, t3⟩ := h.2.2 j b hj
  have ka := h.2.1 a (List.mem_of_getElem? hi)
  have kb := h.2.1 b (List.mem_of_getElem? hj)
  obtain ⟨m1, m2⟩ := made_eq ka kb t3.1
  rw [r1, t1, t2.1]
  have ex : (fn_X3_turnedInto (nI (K a)) (nI (K b)) ((u b).1)) = fn_X1_made (K a) (K b) (u b).1 := m1.symm
  rw [ex]
  unfold fn_X0_moveTo
  exact Rl_up h hn hi (at5_u0 r2 _) ⟨m2, r3.2.1, r3.2.2.1, r3.2.2.2.1, r3.2.2.2.2⟩ (off5_u (off5_rf nf i) (by decide) _)
theorem Rl_orders {L : List Nat} {K : Nat → Nat} {u : Nat → Ax5} {kf : Nat → Int32} {nf : Nat → Int64} (h : Rl L K u kf nf) (hn : nd L) {i a : Nat} (hi : L[i]? = some a) {row : Int32} {c : Nat} (hl : lenO (mAt row) 8 0 = some c) : Rl L K (va_up u a (obeyN (K a) row (u a) c)) kf (doesN (kf i) i row nf c) := by
  obtain ⟨r1, r2, r3⟩ := h.2.2 i a hi
  have ka := h.2.1 a (List.mem_of_getElem? hi)
  obtain ⟨s1, s2, s3⟩ := so_row ka r2 r3 hl c (Nat.le_refl c)
  rw [r1]
  exact Rl_up h hn hi s1 s2 s3
theorem ax_ex {L : List Nat} {v : Int32} (hL : L.length ≤ 8) (h : ¬ fn_X3_isAxis L.length v = 0) : ∃ (i a : Nat), i < L.length ∧ v = nI i ∧ L[i]? = some a ∧ a ∈ L := by
  obtain ⟨i, hi, e⟩ := isax hL h
  exact ⟨i, L[i], hi, e, List.getElem?_eq_getElem hi, List.getElem_mem hi⟩
theorem k4 {v : Int32} (h1 : ¬ v < 0) (h2 : ¬ 4 ≤ v) : ∃ k : Nat, k < 4 ∧ v = nI k := by
  obtain ⟨j, hj, e⟩ := nI_of h1
  refine ⟨j, ?_, e⟩
  rcases Nat.lt_or_ge j 4 with q | q
  · exact q
  · rw [e] at h2
    exact absurd (nI_le (a := 4) (b := j) q hj) h2
theorem gt3 {v : Int32} (h : 4 ≤ v) : 3 < v := by
  rw [Int32.le_iff_toInt_le] at h
  rw [Int32.lt_iff_toInt_lt]
  have e4 : (4 : Int32).toInt = 4 := by decide
  have e3 : (3 : Int32).toInt = 3 := by decide
  omega
theorem nle4 {v : Int32} (h : 4 < v) : ¬ v ≤ 4 := by
  rw [Int32.le_iff_toInt_le]
  rw [Int32.lt_iff_toInt_lt] at h
  omega
section ZS
variable {p : Program} {l : Launch} {e : Env} {R : Room} {s : State} {m : MethodId} {args : Array Value} {below : List Frame} {meth : Method} {c : Code} {H : Heap} {locs : List Loc} {cells slots : Nat} {Q : State → Prop}
variable {cc : ByteArray} {pc : Nat} {ls : Array Slot} {rest : List Value} {A : Nat → Prop} {H0 : Heap}
theorem zs_ld (hx : p.tables.exec = Jvm.exec) (hb : c.code = cc) {b L : Nat} {xs : Nat → Int32} (hX : va_X b L xs s H0) (hbl : b < H0.size) (hbA : ¬ A b) (hS : va_S A H0 H locs) {i : Nat} (hi : i < L) (hL : L < 2 ^ 31) (hdg : decode cc pc = .ok (.iaload, 1)) (kk : W p l e R s m args below meth c H locs cells slots Q (F0 m (pc + 1) ls (.int (xs i) :: rest))) : W p l e R s m args below meth c H locs cells slots Q (F0 m pc ls (.int (nI i) :: .ref b :: rest)) := va_sld hx hb hX hbl hbA hS (vp_in_nI hi hL) hdg (by rw [nI_clamp (Nat.lt_trans hi hL)]; exact kk)
end ZS
