/-! What ties the desk's numbers to the reference's, and each order done alike. -/
def at5 (nf : Nat → Int64) (i : Nat) (x : Ax5) : Prop := nf (5 * i + 0) = x.1 ∧ nf (5 * i + 1) = x.2.1 ∧ nf (5 * i + 2) = x.2.2.1 ∧ nf (5 * i + 3) = x.2.2.2.1 ∧ nf (5 * i + 4) = x.2.2.2.2
def ok5 (k : Nat) (x : Ax5) : Prop := okN k x.1 ∧ okN k x.2.1 ∧ okN k x.2.2.1 ∧ okN k x.2.2.2.1 ∧ okN k x.2.2.2.2
def off5 (nf nf' : Nat → Int64) (i : Nat) : Prop := ∀ j : Nat, (j < 5 * i ∨ 5 * i + 5 ≤ j) → nf' j = nf j
theorem off5_rf (nf : Nat → Int64) (i : Nat) : off5 nf nf i := fun _ _ => rfl
theorem off5_u {nf nf' : Nat → Int64} {i w : Nat} (h : off5 nf nf' i) (hw : w < 5) (x : Int64) : off5 nf (vp_updL nf' (5 * i + w) x) i := fun j hj => by
  rw [pk_uLn (show j ≠ 5 * i + w by omega)]
  exact h j hj
theorem off5_tr {f g h : Nat → Int64} {i : Nat} (a : off5 f g i) (b : off5 g h i) : off5 f h i := fun j hj => (b j hj).trans (a j hj)
theorem at5_u0 {nf : Nat → Int64} {i : Nat} {p l h b w : Int64} (e : at5 nf i (p, l, h, b, w)) (x : Int64) : at5 (vp_updL nf (5 * i + 0) x) i (x, l, h, b, w) := by
  obtain ⟨e0, e1, e2, e3, e4⟩ := e
  exact ⟨pk_uLs, (pk_uLn (by omega)).trans e1, (pk_uLn (by omega)).trans e2, (pk_uLn (by omega)).trans e3, (pk_uLn (by omega)).trans e4⟩
theorem at5_u1 {nf : Nat → Int64} {i : Nat} {p l h b w : Int64} (e : at5 nf i (p, l, h, b, w)) (x : Int64) : at5 (vp_updL nf (5 * i + 1) x) i (p, x, h, b, w) := by
  obtain ⟨e0, e1, e2, e3, e4⟩ := e
  exact ⟨(pk_uLn (by omega)).trans e0, pk_uLs, (pk_uLn (by omega)).trans e2, (pk_uLn (by omega)).trans e3, (pk_uLn (by omega)).trans e4⟩
theorem at5_u2 {nf : Nat → Int64} {i : Nat} {p l h b w : Int64} (e : at5 nf i (p, l, h, b, w)) (x : Int64) : at5 (vp_updL nf (5 * i + 2) x) i (p, l, x, b, w) := by
  obtain ⟨e0, e1, e2, e3, e4⟩ := e
  exact ⟨(pk_uLn (by omega)).trans e0, (pk_uLn (by omega)).trans e1, pk_uLs, (pk_uLn (by omega)).trans e3, (pk_uLn (by omega)).trans e4⟩
theorem at5_u3 {nf : Nat → Int64} {i : Nat} {p l h b w : Int64} (e : at5 nf i (p, l, h, b, w)) (x : Int64) : at5 (vp_updL nf (5 * i + 3) x) i (p, l, h, x, w) := by
  obtain ⟨e0, e1, e2, e3, e4⟩ := e
  exact ⟨(pk_uLn (by omega)).trans e0, (pk_uLn (by omega)).trans e1, (pk_uLn (by omega)).trans e2, pk_uLs, (pk_uLn (by omega)).trans e4⟩
theorem at5_u4 {nf : Nat → Int64} {i : Nat} {p l h b w : Int64} (e : at5 nf i (p, l, h, b, w)) (x : Int64) : at5 (vp_updL nf (5 * i + 4) x) i (p, l, h, b, x) := by
  obtain ⟨e0, e1, e2, e3, e4⟩ := e
  exact ⟨(pk_uLn (by omega)).trans e0, (pk_uLn (by omega)).trans e1, (pk_uLn (by omega)).trans e2, (pk_uLn (by omega)).trans e3, pk_uLs⟩
theorem ob_1 (k : Nat) (p l h b w : Int64) : obey5 k (nI 1) (p, l, h, b, w) = (fn_X1_greater k l (fn_X1_lesser k h p), l, h, b, w) := by
  unfold obey5 fn_X0_obey
  rw [if_pos (show nI 1 = 1 by decide)]
theorem do_1 (v : Int32) (a : Nat) (nf : Nat → Int64) : fn_X3_does v a (nI 1) nf = vp_updL nf (5 * a + 0) (fn_X3_greater v (nf (5 * a + 1)) (fn_X3_lesser v (nf (5 * a + 2)) (nf (5 * a + 0)))) := by
  unfold fn_X3_does
  rw [if_pos (show nI 1 = 1 by decide)]
theorem ob_2 (k : Nat) (p l h b w : Int64) : obey5 k (nI 2) (p, l, h, b, w) = (fn_X1_sized k p, l, h, b, w) := by
  unfold obey5 fn_X0_obey
  rw [if_neg (show ¬ nI 2 = 1 by decide), if_pos (show nI 2 = 2 by decide)]
theorem do_2 (v : Int32) (a : Nat) (nf : Nat → Int64) : fn_X3_does v a (nI 2) nf = vp_updL nf (5 * a + 0) (fn_X3_sized v (nf (5 * a + 0))) := by
  unfold fn_X3_does
  rw [if_neg (show ¬ nI 2 = 1 by decide), if_pos (show nI 2 = 2 by decide)]
theorem ob_3 (k : Nat) (p l h b w : Int64) : obey5 k (nI 3) (p, l, h, b, w) = (fn_X1_wholeBelow k p, l, h, b, w) := by
  unfold obey5 fn_X0_obey
  rw [if_neg (show ¬ nI 3 = 1 by decide), if_neg (show ¬ nI 3 = 2 by decide), if_pos (show nI 3 = 3 by decide)]
theorem do_3 (v : Int32) (a : Nat) (nf : Nat → Int64) : fn_X3_does v a (nI 3) nf = vp_updL nf (5 * a + 0) (fn_X3_stepped v (nf (5 * a + 0)) (0 : Int32)) := by
  unfold fn_X3_does
  rw [if_neg (show ¬ nI 3 = 1 by decide), if_neg (show ¬ nI 3 = 2 by decide), if_pos (show nI 3 = 3 by decide)]
theorem ob_4 (k : Nat) (p l h b w : Int64) : obey5 k (nI 4) (p, l, h, b, w) = (fn_X1_wholeAbove k p, l, h, b, w) := by
  unfold obey5 fn_X0_obey
  rw [if_neg (show ¬ nI 4 = 1 by decide), if_neg (show ¬ nI 4 = 2 by decide), if_neg (show ¬ nI 4 = 3 by decide), if_pos (show nI 4 = 4 by decide)]
theorem do_4 (v : Int32) (a : Nat) (nf : Nat → Int64) : fn_X3_does v a (nI 4) nf = vp_updL nf (5 * a + 0) (fn_X3_stepped v (nf (5 * a + 0)) (1 : Int32)) := by
  unfold fn_X3_does
  rw [if_neg (show ¬ nI 4 = 1 by decide), if_neg (show ¬ nI 4 = 2 by decide), if_neg (show ¬ nI 4 = 3 by decide), if_pos (show nI 4 = 4 by decide)]
theorem ob_5 (k : Nat) (p l h b w : Int64) : obey5 k (nI 5) (p, l, h, b, w) = (fn_X1_wholeNearest k p, l, h, b, w) := by
  unfold obey5 fn_X0_obey
  rw [if_neg (show ¬ nI 5 = 1 by decide), if_neg (show ¬ nI 5 = 2 by decide), if_neg (show ¬ nI 5 = 3 by decide), if_neg (show ¬ nI 5 = 4 by decide), if_pos (show nI 5 = 5 by decide)]
theorem do_5 (v : Int32) (a : Nat) (nf : Nat → Int64) : fn_X3_does v a (nI 5) nf = vp_updL nf (5 * a + 0) (fn_X3_stepped v (nf (5 * a + 0)) (2 : Int32)) := by
  unfold fn_X3_does
  rw [if_neg (show ¬ nI 5 = 1 by decide), if_neg (show ¬ nI 5 = 2 by decide), if_neg (show ¬ nI 5 = 3 by decide), if_neg (show ¬ nI 5 = 4 by decide), if_pos (show nI 5 = 5 by decide)]
theorem ob_6 (k : Nat) (p l h b w : Int64) : obey5 k (nI 6) (p, l, h, b, w) = fn_X0_look k p l h b w := by
  unfold obey5 fn_X0_obey
  rw [if_neg (show ¬ nI 6 = 1 by decide), if_neg (show ¬ nI 6 = 2 by decide), if_neg (show ¬ nI 6 = 3 by decide), if_neg (show ¬ nI 6 = 4 by decide), if_neg (show ¬ nI 6 = 5 by decide), if_pos (show nI 6 = 6 by decide)]
theorem do_6 (v : Int32) (a : Nat) (nf : Nat → Int64) : fn_X3_does v a (nI 6) nf = vp_updL nf (5 * a + 4) (fn_X3_wayOf v (nf (5 * a + 0))) := by
  unfold fn_X3_does
  rw [if_neg (show ¬ nI 6 = 1 by decide), if_neg (show ¬ nI 6 = 2 by decide), if_neg (show ¬ nI 6 = 3 by decide), if_neg (show ¬ nI 6 = 4 by decide), if_neg (show ¬ nI 6 = 5 by decide), if_pos (show nI 6 = 6 by decide)]
theorem ob_7 (k : Nat) (p l h b w : Int64) : obey5 k (nI 7) (p, l, h, b, w) = (fn_X1_turned k p w, l, h, b, w) := by
  unfold obey5 fn_X0_obey
  rw [if_neg (show ¬ nI 7 = 1 by decide), if_neg (show ¬ nI 7 = 2 by decide), if_neg (show ¬ nI 7 = 3 by decide), if_neg (show ¬ nI 7 = 4 by decide), if_neg (show ¬ nI 7 = 5 by decide), if_neg (show ¬ nI 7 = 6 by decide), if_pos (show nI 7 = 7 by decide)]
theorem do_7 (v : Int32) (a : Nat) (nf : Nat → Int64) : fn_X3_does v a (nI 7) nf = vp_updL nf (5 * a + 0) (fn_X3_turned v (nf (5 * a + 0)) (nf (5 * a + 4))) := by
  unfold fn_X3_does
  rw [if_neg (show ¬ nI 7 = 1 by decide), if_neg (show ¬ nI 7 = 2 by decide), if_neg (show ¬ nI 7 = 3 by decide), if_neg (show ¬ nI 7 = 4 by decide), if_neg (show ¬ nI 7 = 5 by decide), if_neg (show ¬ nI 7 = 6 by decide), if_pos (show nI 7 = 7 by decide)]
theorem ob_8 (k : Nat) (p l h b w : Int64) : obey5 k (nI 8) (p, l, h, b, w) = fn_X0_widen k p l h b w := by
  unfold obey5 fn_X0_obey
  rw [if_neg (show ¬ nI 8 = 1 by decide), if_neg (show ¬ nI 8 = 2 by decide), if_neg (show ¬ nI 8 = 3 by decide), if_neg (show ¬ nI 8 = 4 by decide), if_neg (show ¬ nI 8 = 5 by decide), if_neg (show ¬ nI 8 = 6 by decide), if_neg (show ¬ nI 8 = 7 by decide), if_pos (show nI 8 = 8 by decide)]
theorem do_8 (v : Int32) (a : Nat) (nf : Nat → Int64) : fn_X3_does v a (nI 8) nf = vp_updL (vp_updL nf (5 * a + 2) (fn_X3_greater v (nf (5 * a + 2)) (nf (5 * a + 0)))) (5 * a + 1) (fn_X3_lesser v (nf (5 * a + 1)) (nf (5 * a + 0))) := by
  unfold fn_X3_does
  rw [if_neg (show ¬ nI 8 = 1 by decide), if_neg (show ¬ nI 8 = 2 by decide), if_neg (show ¬ nI 8 = 3 by decide), if_neg (show ¬ nI 8 = 4 by decide), if_neg (show ¬ nI 8 = 5 by decide), if_neg (show ¬ nI 8 = 6 by decide), if_neg (show ¬ nI 8 = 7 by decide), if_pos (show nI 8 = 8 by decide)]
theorem ob_9 (k : Nat) (p l h b w : Int64) : obey5 k (nI 9) (p, l, h, b, w) = fn_X0_rest k p l h b w := by
  unfold obey5 fn_X0_obey
  rw [if_neg (show ¬ nI 9 = 1 by decide), if_neg (show ¬ nI 9 = 2 by decide), if_neg (show ¬ nI 9 = 3 by decide), if_neg (show ¬ nI 9 = 4 by decide), if_neg (show ¬ nI 9 = 5 by decide), if_neg (show ¬ nI 9 = 6 by decide), if_neg (show ¬ nI 9 = 7 by decide), if_neg (show ¬ nI 9 = 8 by decide), if_pos (show nI 9 = 9 by decide)]
theorem do_9 (v : Int32) (a : Nat) (nf : Nat → Int64) : fn_X3_does v a (nI 9) nf = if (fn_X3_sized v (nf (5 * a + 3))) < (fn_X3_sized v (nf (5 * a + 0))) then nf else if (fn_X3_isFloating v) = 0 then vp_updL nf (5 * a + 0) (0 : Int64) else if (0 : Int64) ≤ (nf (5 * a + 0)) then vp_updL nf (5 * a + 0) (fn_X3_signed v (0 : Int64) (0 : Int32)) else vp_updL nf (5 * a + 0) (fn_X3_signed v (0 : Int64) (1 : Int32)) := by
  unfold fn_X3_does
  rw [if_neg (show ¬ nI 9 = 1 by decide), if_neg (show ¬ nI 9 = 2 by decide), if_neg (show ¬ nI 9 = 3 by decide), if_neg (show ¬ nI 9 = 4 by decide), if_neg (show ¬ nI 9 = 5 by decide), if_neg (show ¬ nI 9 = 6 by decide), if_neg (show ¬ nI 9 = 7 by decide), if_neg (show ¬ nI 9 = 8 by decide), if_pos (show nI 9 = 9 by decide)]
theorem ob_10 (k : Nat) (p l h b w : Int64) : obey5 k (nI 10) (p, l, h, b, w) = fn_X0_grid k p l h b w := by
  unfold obey5 fn_X0_obey
  rw [if_neg (show ¬ nI 10 = 1 by decide), if_neg (show ¬ nI 10 = 2 by decide), if_neg (show ¬ nI 10 = 3 by decide), if_neg (show ¬ nI 10 = 4 by decide), if_neg (show ¬ nI 10 = 5 by decide), if_neg (show ¬ nI 10 = 6 by decide), if_neg (show ¬ nI 10 = 7 by decide), if_neg (show ¬ nI 10 = 8 by decide), if_neg (show ¬ nI 10 = 9 by decide), if_pos (show nI 10 = 10 by decide)]
theorem do_10 (v : Int32) (a : Nat) (nf : Nat → Int64) : fn_X3_does v a (nI 10) nf = vp_updL (vp_updL nf (5 * a + 1) (fn_X3_stepped v (nf (5 * a + 0)) (0 : Int32))) (5 * a + 2) (fn_X3_stepped v (nf (5 * a + 0)) (1 : Int32)) := by
  unfold fn_X3_does
  rw [if_neg (show ¬ nI 10 = 1 by decide), if_neg (show ¬ nI 10 = 2 by decide), if_neg (show ¬ nI 10 = 3 by decide), if_neg (show ¬ nI 10 = 4 by decide), if_neg (show ¬ nI 10 = 5 by decide), if_neg (show ¬ nI 10 = 6 by decide), if_neg (show ¬ nI 10 = 7 by decide), if_neg (show ¬ nI 10 = 8 by decide), if_neg (show ¬ nI 10 = 9 by decide), if_pos (show nI 10 = 10 by decide)]
theorem ob_11 (k : Nat) (p l h b w : Int64) : obey5 k (nI 11) (p, l, h, b, w) = fn_X0_swap k p l h b w := by
  unfold obey5 fn_X0_obey
  rw [if_neg (show ¬ nI 11 = 1 by decide), if_neg (show ¬ nI 11 = 2 by decide), if_neg (show ¬ nI 11 = 3 by decide), if_neg (show ¬ nI 11 = 4 by decide), if_neg (show ¬ nI 11 = 5 by decide), if_neg (show ¬ nI 11 = 6 by decide), if_neg (show ¬ nI 11 = 7 by decide), if_neg (show ¬ nI 11 = 8 by decide), if_neg (show ¬ nI 11 = 9 by decide), if_neg (show ¬ nI 11 = 10 by decide), if_pos (show nI 11 = 11 by decide)]
theorem do_11 (v : Int32) (a : Nat) (nf : Nat → Int64) : fn_X3_does v a (nI 11) nf = vp_updL (vp_updL nf (5 * a + 1) (nf (5 * a + 2))) (5 * a + 2) (nf (5 * a + 1)) := by
  unfold fn_X3_does
  rw [if_neg (show ¬ nI 11 = 1 by decide), if_neg (show ¬ nI 11 = 2 by decide), if_neg (show ¬ nI 11 = 3 by decide), if_neg (show ¬ nI 11 = 4 by decide), if_neg (show ¬ nI 11 = 5 by decide), if_neg (show ¬ nI 11 = 6 by decide), if_neg (show ¬ nI 11 = 7 by decide), if_neg (show ¬ nI 11 = 8 by decide), if_neg (show ¬ nI 11 = 9 by decide), if_neg (show ¬ nI 11 = 10 by decide), if_pos (show nI 11 = 11 by decide)]
theorem ob_12 (k : Nat) (p l h b w : Int64) : obey5 k (nI 12) (p, l, h, b, w) = (l, l, h, b, w) := by
  unfold obey5 fn_X0_obey
  rw [if_neg (show ¬ nI 12 = 1 by decide), if_neg (show ¬ nI 12 = 2 by decide), if_neg (show ¬ nI 12 = 3 by decide), if_neg (show ¬ nI 12 = 4 by decide), if_neg (show ¬ nI 12 = 5 by decide), if_neg (show ¬ nI 12 = 6 by decide), if_neg (show ¬ nI 12 = 7 by decide), if_neg (show ¬ nI 12 = 8 by decide), if_neg (show ¬ nI 12 = 9 by decide), if_neg (show ¬ nI 12 = 10 by decide), if_neg (show ¬ nI 12 = 11 by decide), if_pos (show nI 12 = 12 by decide)]
theorem do_12 (v : Int32) (a : Nat) (nf : Nat → Int64) : fn_X3_does v a (nI 12) nf = vp_updL nf (5 * a + 0) (nf (5 * a + 1)) := by
  unfold fn_X3_does
  rw [if_neg (show ¬ nI 12 = 1 by decide), if_neg (show ¬ nI 12 = 2 by decide), if_neg (show ¬ nI 12 = 3 by decide), if_neg (show ¬ nI 12 = 4 by decide), if_neg (show ¬ nI 12 = 5 by decide), if_neg (show ¬ nI 12 = 6 by decide), if_neg (show ¬ nI 12 = 7 by decide), if_neg (show ¬ nI 12 = 8 by decide), if_neg (show ¬ nI 12 = 9 by decide), if_neg (show ¬ nI 12 = 10 by decide), if_neg (show ¬ nI 12 = 11 by decide), if_pos (show nI 12 = 12 by decide)]
theorem ob_13 (k : Nat) (p l h b w : Int64) : obey5 k (nI 13) (p, l, h, b, w) = (h, l, h, b, w) := by
  unfold obey5 fn_X0_obey
  rw [if_neg (show ¬ nI 13 = 1 by decide), if_neg (show ¬ nI 13 = 2 by decide), if_neg (show ¬ nI 13 = 3 by decide), if_neg (show ¬ nI 13 = 4 by decide), if_neg (show ¬ nI 13 = 5 by decide), if_neg (show ¬ nI 13 = 6 by decide), if_neg (show ¬ nI 13 = 7 by decide), if_neg (show ¬ nI 13 = 8 by decide), if_neg (show ¬ nI 13 = 9 by decide), if_neg (show ¬ nI 13 = 10 by decide), if_neg (show ¬ nI 13 = 11 by decide), if_neg (show ¬ nI 13 = 12 by decide), if_pos (show nI 13 = 13 by decide)]
theorem do_13 (v : Int32) (a : Nat) (nf : Nat → Int64) : fn_X3_does v a (nI 13) nf = vp_updL nf (5 * a + 0) (nf (5 * a + 2)) := by
  unfold fn_X3_does
  rw [if_neg (show ¬ nI 13 = 1 by decide), if_neg (show ¬ nI 13 = 2 by decide), if_neg (show ¬ nI 13 = 3 by decide), if_neg (show ¬ nI 13 = 4 by decide), if_neg (show ¬ nI 13 = 5 by decide), if_neg (show ¬ nI 13 = 6 by decide), if_neg (show ¬ nI 13 = 7 by decide), if_neg (show ¬ nI 13 = 8 by decide), if_neg (show ¬ nI 13 = 9 by decide), if_neg (show ¬ nI 13 = 10 by decide), if_neg (show ¬ nI 13 = 11 by decide), if_neg (show ¬ nI 13 = 12 by decide)]
theorem so_1 {k a : Nat} (hk : k < 4) {nf : Nat → Int64} {p l h b w : Int64} (e : at5 nf a (p, l, h, b, w)) (z : ok5 k (p, l, h, b, w)) : at5 (fn_X3_does (nI k) a (nI 1) nf) a (obey5 k (nI 1) (p, l, h, b, w)) ∧ ok5 k (obey5 k (nI 1) (p, l, h, b, w)) ∧ off5 nf (fn_X3_does (nI k) a (nI 1) nf) a := by
  have e9 := e
  obtain ⟨e0, e1, e2, e3, e4⟩ := e9
  obtain ⟨z0, z1, z2, z3, z4⟩ := z
  dsimp only at e0 e1 e2 e3 e4 z0 z1 z2 z3 z4
  rw [ob_1, do_1, e0, e1, e2, ← lesser_eq hk z2 z0, ← greater_eq hk z1 (lesser_ok z2 z0)]
  exact ⟨at5_u0 e _, ⟨greater_ok z1 (lesser_ok z2 z0), z1, z2, z3, z4⟩, off5_u (off5_rf nf a) (by decide) _⟩
theorem so_2 {k a : Nat} (hk : k < 4) {nf : Nat → Int64} {p l h b w : Int64} (e : at5 nf a (p, l, h, b, w)) (z : ok5 k (p, l, h, b, w)) : at5 (fn_X3_does (nI k) a (nI 2) nf) a (obey5 k (nI 2) (p, l, h, b, w)) ∧ ok5 k (obey5 k (nI 2) (p, l, h, b, w)) ∧ off5 nf (fn_X3_does (nI k) a (nI 2) nf) a := by
  have e9 := e
  obtain ⟨e0, e1, e2, e3, e4⟩ := e9
  obtain ⟨z0, z1, z2, z3, z4⟩ := z
  dsimp only at e0 e1 e2 e3 e4 z0 z1 z2 z3 z4
  rw [ob_2, do_2, e0, ← sized_eq hk z0]
  exact ⟨at5_u0 e _, ⟨sized_ok hk z0, z1, z2, z3, z4⟩, off5_u (off5_rf nf a) (by decide) _⟩
theorem so_3 {k a : Nat} (hk : k < 4) {nf : Nat → Int64} {p l h b w : Int64} (e : at5 nf a (p, l, h, b, w)) (z : ok5 k (p, l, h, b, w)) : at5 (fn_X3_does (nI k) a (nI 3) nf) a (obey5 k (nI 3) (p, l, h, b, w)) ∧ ok5 k (obey5 k (nI 3) (p, l, h, b, w)) ∧ off5 nf (fn_X3_does (nI k) a (nI 3) nf) a := by
  have e9 := e
  obtain ⟨e0, e1, e2, e3, e4⟩ := e9
  obtain ⟨z0, z1, z2, z3, z4⟩ := z
  dsimp only at e0 e1 e2 e3 e4 z0 z1 z2 z3 z4
  rw [ob_3, do_3, e0, ← (below_eq hk z0).1]
  exact ⟨at5_u0 e _, ⟨(below_eq hk z0).2, z1, z2, z3, z4⟩, off5_u (off5_rf nf a) (by decide) _⟩
theorem so_4 {k a : Nat} (hk : k < 4) {nf : Nat → Int64} {p l h b w : Int64} (e : at5 nf a (p, l, h, b, w)) (z : ok5 k (p, l, h, b, w)) : at5 (fn_X3_does (nI k) a (nI 4) nf) a (obey5 k (nI 4) (p, l, h, b, w)) ∧ ok5 k (obey5 k (nI 4) (p, l, h, b, w)) ∧ off5 nf (fn_X3_does (nI k) a (nI 4) nf) a := by
  have e9 := e
  obtain ⟨e0, e1, e2, e3, e4⟩ := e9
  obtain ⟨z0, z1, z2, z3, z4⟩ := z
  dsimp only at e0 e1 e2 e3 e4 z0 z1 z2 z3 z4
  rw [ob_4, do_4, e0, ← (above_eq hk z0).1]
  exact ⟨at5_u0 e _, ⟨(above_eq hk z0).2, z1, z2, z3, z4⟩, off5_u (off5_rf nf a) (by decide) _⟩
theorem so_5 {k a : Nat} (hk : k < 4) {nf : Nat → Int64} {p l h b w : Int64} (e : at5 nf a (p, l, h, b, w)) (z : ok5 k (p, l, h, b, w)) : at5 (fn_X3_does (nI k) a (nI 5) nf) a (obey5 k (nI 5) (p, l, h, b, w)) ∧ ok5 k (obey5 k (nI 5) (p, l, h, b, w)) ∧ off5 nf (fn_X3_does (nI k) a (nI 5) nf) a := by
  have e9 := e
  obtain ⟨e0, e1, e2, e3, e4⟩ := e9
  obtain ⟨z0, z1, z2, z3, z4⟩ := z
  dsimp only at e0 e1 e2 e3 e4 z0 z1 z2 z3 z4
  rw [ob_5, do_5, e0, ← (near_eq hk z0).1]
  exact ⟨at5_u0 e _, ⟨(near_eq hk z0).2, z1, z2, z3, z4⟩, off5_u (off5_rf nf a) (by decide) _⟩
theorem so_6 {k a : Nat} (hk : k < 4) {nf : Nat → Int64} {p l h b w : Int64} (e : at5 nf a (p, l, h, b, w)) (z : ok5 k (p, l, h, b, w)) : at5 (fn_X3_does (nI k) a (nI 6) nf) a (obey5 k (nI 6) (p, l, h, b, w)) ∧ ok5 k (obey5 k (nI 6) (p, l, h, b, w)) ∧ off5 nf (fn_X3_does (nI k) a (nI 6) nf) a := by
  have e9 := e
  obtain ⟨e0, e1, e2, e3, e4⟩ := e9
  obtain ⟨z0, z1, z2, z3, z4⟩ := z
  dsimp only at e0 e1 e2 e3 e4 z0 z1 z2 z3 z4
  rw [ob_6, do_6, e0, ← way_eq hk z0]
  have ex : fn_X0_look k p l h b w = (p, l, h, b, if fn_X1_sized k p = 0 then p else fn_X1_turned k (fn_X1_one k) p) := by
    unfold fn_X0_look
    split <;> rfl
  rw [ex]
  exact ⟨at5_u4 e _, ⟨z0, z1, z2, z3, way_ok hk z0⟩, off5_u (off5_rf nf a) (by decide) _⟩
theorem so_7 {k a : Nat} (hk : k < 4) {nf : Nat → Int64} {p l h b w : Int64} (e : at5 nf a (p, l, h, b, w)) (z : ok5 k (p, l, h, b, w)) : at5 (fn_X3_does (nI k) a (nI 7) nf) a (obey5 k (nI 7) (p, l, h, b, w)) ∧ ok5 k (obey5 k (nI 7) (p, l, h, b, w)) ∧ off5 nf (fn_X3_does (nI k) a (nI 7) nf) a := by
  have e9 := e
  obtain ⟨e0, e1, e2, e3, e4⟩ := e9
  obtain ⟨z0, z1, z2, z3, z4⟩ := z
  dsimp only at e0 e1 e2 e3 e4 z0 z1 z2 z3 z4
  rw [ob_7, do_7, e0, e4, ← turned_eq hk z0]
  exact ⟨at5_u0 e _, ⟨turned_ok hk z0 w, z1, z2, z3, z4⟩, off5_u (off5_rf nf a) (by decide) _⟩
theorem so_8 {k a : Nat} (hk : k < 4) {nf : Nat → Int64} {p l h b w : Int64} (e : at5 nf a (p, l, h, b, w)) (z : ok5 k (p, l, h, b, w)) : at5 (fn_X3_does (nI k) a (nI 8) nf) a (obey5 k (nI 8) (p, l, h, b, w)) ∧ ok5 k (obey5 k (nI 8) (p, l, h, b, w)) ∧ off5 nf (fn_X3_does (nI k) a (nI 8) nf) a := by
  have e9 := e
  obtain ⟨e0, e1, e2, e3, e4⟩ := e9
  obtain ⟨z0, z1, z2, z3, z4⟩ := z
  dsimp only at e0 e1 e2 e3 e4 z0 z1 z2 z3 z4
  rw [ob_8, do_8, e0, e1, e2, ← greater_eq hk z2 z0, ← lesser_eq hk z1 z0]
  unfold fn_X0_widen
  exact ⟨at5_u1 (at5_u2 e _) _, ⟨z0, lesser_ok z1 z0, greater_ok z2 z0, z3, z4⟩, off5_u (off5_u (off5_rf nf a) (by decide) _) (by decide) _⟩
theorem so_9 {k a : Nat} (hk : k < 4) {nf : Nat → Int64} {p l h b w : Int64} (e : at5 nf a (p, l, h, b, w)) (z : ok5 k (p, l, h, b, w)) : at5 (fn_X3_does (nI k) a (nI 9) nf) a (obey5 k (nI 9) (p, l, h, b, w)) ∧ ok5 k (obey5 k (nI 9) (p, l, h, b, w)) ∧ off5 nf (fn_X3_does (nI k) a (nI 9) nf) a := by
  have e9 := e
  obtain ⟨e0, e1, e2, e3, e4⟩ := e9
  obtain ⟨z0, z1, z2, z3, z4⟩ := z
  dsimp only at e0 e1 e2 e3 e4 z0 z1 z2 z3 z4
  rw [ob_9, do_9, e0, e3, ← sized_eq hk z0, ← sized_eq hk z3]
  unfold fn_X0_rest
  by_cases c : fn_X1_sized k b < fn_X1_sized k p
  · rw [if_pos c, if_pos c]
    exact ⟨e, ⟨z0, z1, z2, z3, z4⟩, off5_rf nf a⟩
  · rw [if_neg c, if_neg c]
    have ez := zero_eq hk z0
    have ex : (if fn_X3_isFloating (nI k) = 0 then vp_updL nf (5 * a + 0) (0 : Int64) else if (0 : Int64) ≤ p then vp_updL nf (5 * a + 0) (fn_X3_signed (nI k) (0 : Int64) (0 : Int32)) else vp_updL nf (5 * a + 0) (fn_X3_signed (nI k) (0 : Int64) (1 : Int32))) = vp_updL nf (5 * a + 0) (fn_X1_zeroBeside k p) := by
      rw [ez]
      by_cases c1 : fn_X3_isFloating (nI k) = 0
      · rw [if_pos c1, if_pos c1]
      · rw [if_neg c1, if_neg c1]
        by_cases c2 : (0 : Int64) ≤ p
        · rw [if_pos c2, if_pos c2]
        · rw [if_neg c2, if_neg c2]
    rw [ex]
    exact ⟨at5_u0 e _, ⟨zero_ok hk p, z1, z2, z3, z4⟩, off5_u (off5_rf nf a) (by decide) _⟩
theorem so_10 {k a : Nat} (hk : k < 4) {nf : Nat → Int64} {p l h b w : Int64} (e : at5 nf a (p, l, h, b, w)) (z : ok5 k (p, l, h, b, w)) : at5 (fn_X3_does (nI k) a (nI 10) nf) a (obey5 k (nI 10) (p, l, h, b, w)) ∧ ok5 k (obey5 k (nI 10) (p, l, h, b, w)) ∧ off5 nf (fn_X3_does (nI k) a (nI 10) nf) a := by
  have e9 := e
  obtain ⟨e0, e1, e2, e3, e4⟩ := e9
  obtain ⟨z0, z1, z2, z3, z4⟩ := z
  dsimp only at e0 e1 e2 e3 e4 z0 z1 z2 z3 z4
  rw [ob_10, do_10, e0, ← (below_eq hk z0).1, ← (above_eq hk z0).1]
  unfold fn_X0_grid
  exact ⟨at5_u2 (at5_u1 e _) _, ⟨z0, (below_eq hk z0).2, (above_eq hk z0).2, z3, z4⟩, off5_u (off5_u (off5_rf nf a) (by decide) _) (by decide) _⟩
theorem so_11 {k a : Nat} (hk : k < 4) {nf : Nat → Int64} {p l h b w : Int64} (e : at5 nf a (p, l, h, b, w)) (z : ok5 k (p, l, h, b, w)) : at5 (fn_X3_does (nI k) a (nI 11) nf) a (obey5 k (nI 11) (p, l, h, b, w)) ∧ ok5 k (obey5 k (nI 11) (p, l, h, b, w)) ∧ off5 nf (fn_X3_does (nI k) a (nI 11) nf) a := by
  have e9 := e
  obtain ⟨e0, e1, e2, e3, e4⟩ := e9
  obtain ⟨z0, z1, z2, z3, z4⟩ := z
  dsimp only at e0 e1 e2 e3 e4 z0 z1 z2 z3 z4
  rw [ob_11, do_11, e1, e2]
  unfold fn_X0_swap
  exact ⟨at5_u2 (at5_u1 e _) _, ⟨z0, z2, z1, z3, z4⟩, off5_u (off5_u (off5_rf nf a) (by decide) _) (by decide) _⟩
theorem so_12 {k a : Nat} (hk : k < 4) {nf : Nat → Int64} {p l h b w : Int64} (e : at5 nf a (p, l, h, b, w)) (z : ok5 k (p, l, h, b, w)) : at5 (fn_X3_does (nI k) a (nI 12) nf) a (obey5 k (nI 12) (p, l, h, b, w)) ∧ ok5 k (obey5 k (nI 12) (p, l, h, b, w)) ∧ off5 nf (fn_X3_does (nI k) a (nI 12) nf) a := by
  have e9 := e
  obtain ⟨e0, e1, e2, e3, e4⟩ := e9
  obtain ⟨z0, z1, z2, z3, z4⟩ := z
  dsimp only at e0 e1 e2 e3 e4 z0 z1 z2 z3 z4
  rw [ob_12, do_12, e1]
  exact ⟨at5_u0 e _, ⟨z1, z1, z2, z3, z4⟩, off5_u (off5_rf nf a) (by decide) _⟩
theorem so_13 {k a : Nat} (hk : k < 4) {nf : Nat → Int64} {p l h b w : Int64} (e : at5 nf a (p, l, h, b, w)) (z : ok5 k (p, l, h, b, w)) : at5 (fn_X3_does (nI k) a (nI 13) nf) a (obey5 k (nI 13) (p, l, h, b, w)) ∧ ok5 k (obey5 k (nI 13) (p, l, h, b, w)) ∧ off5 nf (fn_X3_does (nI k) a (nI 13) nf) a := by
  have e9 := e
  obtain ⟨e0, e1, e2, e3, e4⟩ := e9
  obtain ⟨z0, z1, z2, z3, z4⟩ := z
  dsimp only at e0 e1 e2 e3 e4 z0 z1 z2 z3 z4
  rw [ob_13, do_13, e2]
  exact ⟨at5_u0 e _, ⟨z2, z1, z2, z3, z4⟩, off5_u (off5_rf nf a) (by decide) _⟩
/-- an order from 1 to 13 -/
theorem so_all {k a : Nat} (hk : k < 4) {nf : Nat → Int64} {x : Ax5} (e : at5 nf a x) (z : ok5 k x) {n : Nat} (h1 : 1 ≤ n) (h2 : n ≤ 13) : at5 (fn_X3_does (nI k) a (nI n) nf) a (obey5 k (nI n) x) ∧ ok5 k (obey5 k (nI n) x) ∧ off5 nf (fn_X3_does (nI k) a (nI n) nf) a := by
  obtain ⟨p, l, h, b, w⟩ := x
  rcases (show n = 1 ∨ n = 2 ∨ n = 3 ∨ n = 4 ∨ n = 5 ∨ n = 6 ∨ n = 7 ∨ n = 8 ∨ n = 9 ∨ n = 10 ∨ n = 11 ∨ n = 12 ∨ n = 13 by omega) with rfl | rfl | rfl | rfl | rfl | rfl | rfl | rfl | rfl | rfl | rfl | rfl | rfl
  · exact so_1 hk e z
  · exact so_2 hk e z
  · exact so_3 hk e z
  · exact so_4 hk e z
  · exact so_5 hk e z
  · exact so_6 hk e z
  · exact so_7 hk e z
  · exact so_8 hk e z
  · exact so_9 hk e z
  · exact so_10 hk e z
  · exact so_11 hk e z
  · exact so_12 hk e z
  · exact so_13 hk e z
theorem mAt_of (row : Int32) (i : Nat) : ∃ m : Nat, m < 16 ∧ mAt row i = nI m := by
  obtain ⟨j, hj, h⟩ := pk_andE ((Int32.toUInt32 row >>> (Int32.toUInt32 (nI (4 * i)) &&& Int32.toUInt32 31)).toInt32) (m := 15) 4 (by decide)
  exact ⟨j, hj, h⟩
theorem len_all {row : Int32} : ∀ (f i c : Nat), lenO (mAt row) f i = some c → ∀ j, i ≤ j → j < c → ∃ m : Nat, 1 ≤ m ∧ m ≤ 13 ∧ mAt row j = nI m := by
  intro f
  induction f with
  | zero =>
    intro i c h j h1 h2
    have h3 : some i = some c := h
    have := Option.some.inj h3
    omega
  | succ f ih =>
    intro i c h j h1 h2
    unfold lenO at h
    by_cases c1 : mAt row i = 0
    · rw [if_pos c1] at h
      have := Option.some.inj h
      omega
    · rw [if_neg c1] at h
      by_cases c2 : mAt row i ≤ (13 : Int32)
      · rw [if_pos c2] at h
        rcases Nat.eq_or_lt_of_le h1 with q | q
        · subst q
          obtain ⟨m, hm, em⟩ := mAt_of row i
          rw [em] at c1 c2
          refine ⟨m, ?_, ?_, em⟩
          · rcases Nat.eq_zero_or_pos m with z | z
            · subst z
              exact absurd rfl c1
            · exact z
          · have := (nI_leI (a := m) (b := 13) (by omega) (by decide)).mp c2
            exact this
        · exact ih (i + 1) c h j q h2
      · rw [if_neg c2] at h
        cases h
theorem so_row {k a : Nat} (hk : k < 4) {nf : Nat → Int64} {x : Ax5} (e : at5 nf a x) (z : ok5 k x) {row : Int32} {c : Nat} (hl : lenO (mAt row) 8 0 = some c) : ∀ j, j ≤ c → at5 (doesN (nI k) a row nf j) a (obeyN k row x j) ∧ ok5 k (obeyN k row x j) ∧ off5 nf (doesN (nI k) a row nf j) a := by
  intro j
  induction j with
  | zero => exact fun _ => ⟨e, z, off5_rf nf a⟩
  | succ j ih =>
    intro h
    obtain ⟨i1, i2, i3⟩ := ih (by omega)
    obtain ⟨m, m1, m2, em⟩ := len_all 8 0 c hl j (Nat.zero_le _) (by omega)
    obtain ⟨r1, r2, r3⟩ := so_all hk i1 i2 m1 m2
    rw [← em] at r1 r2 r3
    exact ⟨r1, r2, off5_tr i3 r3⟩
