/-! The tie between the two worlds, call by call; worlds side by side; the start. -/
def Rl (L : List Nat) (K : Nat → Nat) (u : Nat → Ax5) (kf : Nat → Int32) (nf : Nat → Int64) : Prop := L.length ≤ 8 ∧ (∀ a ∈ L, K a < 4) ∧ ∀ (i a : Nat), L[i]? = some a → kf i = nI (K a) ∧ at5 nf i (u a) ∧ ok5 (K a) (u a)
def nd (L : List Nat) : Prop := ∀ i j a : Nat, L[i]? = some a → L[j]? = some a → i = j
theorem dk_nd {A : Nat → Prop} {ad : Nat → Nat} {d0 ar : Nat} {cA : ClassId} {L : List Nat} {K : Nat → Nat} {u : Nat → Ax5} (hD : va_D A (dkW ad d0 ar cA L K u)) : nd L := by
  intro i j a hi hj
  have key : ∀ i : Nat, L[i]? = some a → (dkW ad d0 ar cA L K u)[2 + i]? = some (a, dkE ad K u a) := fun i hi => by
    show (dkX d0 ar cA L ++ va_pl L (dkE ad K u))[2 + i]? = _
    rw [List.getElem?_append_right (by show 2 ≤ 2 + i; omega)]
    show (va_pl L (dkE ad K u))[2 + i - 2]? = _
    rw [show 2 + i - 2 = i by omega]
    simp only [va_pl, List.getElem?_map, hi]
    rfl
  have := hD.1 (2 + i) (2 + j) _ _ (key i hi) (key j hj) rfl
  omega
theorem Rl_up {L : List Nat} {K : Nat → Nat} {u : Nat → Ax5} {kf : Nat → Int32} {nf nf' : Nat → Int64} (h : Rl L K u kf nf) (hn : nd L) {i a : Nat} (hi : L[i]? = some a) {x : Ax5} (hx : at5 nf' i x) (hz : ok5 (K a) x) (ho : off5 nf nf' i) : Rl L K (va_up u a x) kf nf' := by
  refine ⟨h.1, h.2.1, fun i2 a2 h2 => ?_⟩
  obtain ⟨r1, r2, r3⟩ := h.2.2 i2 a2 h2
  by_cases e : a2 = a
  · subst e
    have := hn i2 i a2 h2 hi
    subst this
    rw [va_up_self]
    exact ⟨r1, hx, hz⟩
  · rw [va_up_ne _ _ e]
    have hne : i2 ≠ i := fun q => by
      subst q
      rw [hi] at h2
      exact e (Option.some.inj h2).symm
    refine ⟨r1, ?_, r3⟩
    obtain ⟨e0, e1, e2, e3, e4⟩ := r2
    exact ⟨(ho _ (by omega)).trans e0, (ho _ (by omega)).trans e1, (ho _ (by omega)).trans e2, (ho _ (by omega)).trans e3, (ho _ (by omega)).trans e4⟩
theorem ax_at (n : Nat) (kf : Nat → Int32) (nf : Nat → Int64) {k : Nat} (hk : k < 4) : fn_X3_axis_at n kf nf k = (nI n, n + 1, upd kf n (nI k), vp_updL (vp_updL (vp_updL (vp_updL (vp_updL nf (5 * n + 0) 0) (5 * n + 3) 0) (5 * n + 4) 0) (5 * n + 1) (fn_X1_least k)) (5 * n + 2) (fn_X1_greatest k)) := by
  unfold fn_X3_axis_at
  rw [show nI (n + 1) - (1 : Int32) = nI n from nI_pred n]
  rcases (show k = 0 ∨ k = 1 ∨ k = 2 ∨ k = 3 by omega) with rfl | rfl | rfl | rfl
  · rw [if_pos (show nI 0 = 0 from rfl), show fn_X1_least 0 = -2147483648 by decide, show fn_X1_greatest 0 = 2147483647 by decide]
  · rw [if_neg (show ¬ nI 1 = 0 by decide), if_pos (show nI 1 = 1 from rfl), show fn_X1_least 1 = -9223372036854775808 by decide, show fn_X1_greatest 1 = 9223372036854775807 by decide]
  · rw [if_neg (show ¬ nI 2 = 0 by decide), if_neg (show ¬ nI 2 = 1 by decide), show fn_X1_least 2 = fn_X3_signed (nI 2) (fn_X3_endless (nI 2)) 1 by decide, show fn_X1_greatest 2 = fn_X3_endless (nI 2) by decide]
  · rw [if_neg (show ¬ nI 3 = 0 by decide), if_neg (show ¬ nI 3 = 1 by decide), show fn_X1_least 3 = fn_X3_signed (nI 3) (fn_X3_endless (nI 3)) 1 by decide, show fn_X1_greatest 3 = fn_X3_endless (nI 3) by decide]
theorem axI_ok {k : Nat} (hk : k < 4) : ok5 k (axI k) := by
  rcases (show k = 0 ∨ k = 1 ∨ k = 2 ∨ k = 3 by omega) with rfl | rfl | rfl | rfl
  · have h0 : okN 0 0 := by show ((0 : Int64)).toInt32.toInt64 = 0; decide
    have h1 : okN 0 (fn_X1_least 0) := by show (fn_X1_least 0).toInt32.toInt64 = fn_X1_least 0; decide
    have h2 : okN 0 (fn_X1_greatest 0) := by show (fn_X1_greatest 0).toInt32.toInt64 = fn_X1_greatest 0; decide
    exact ⟨h0, h1, h2, h0, h0⟩
  · exact ⟨trivial, trivial, trivial, trivial, trivial⟩
  · have h0 : okN 2 0 := okF (Or.inl rfl) (b := false) (n := 0) (Nat.zero_le _)
    have h1 : okN 2 (fn_X1_least 2) := by
      rw [show fn_X1_least 2 = sgn 2 true (infN 2) by decide]
      exact okF (Or.inl rfl) (Nat.le_refl _)
    have h2 : okN 2 (fn_X1_greatest 2) := by
      rw [show fn_X1_greatest 2 = sgn 2 false (infN 2) by decide]
      exact okF (Or.inl rfl) (Nat.le_refl _)
    exact ⟨h0, h1, h2, h0, h0⟩
  · have h0 : okN 3 0 := okF (Or.inr rfl) (b := false) (n := 0) (Nat.zero_le _)
    have h1 : okN 3 (fn_X1_least 3) := by
      rw [show fn_X1_least 3 = sgn 3 true (infN 3) by decide]
      exact okF (Or.inr rfl) (Nat.le_refl _)
    have h2 : okN 3 (fn_X1_greatest 3) := by
      rw [show fn_X1_greatest 3 = sgn 3 false (infN 3) by decide]
      exact okF (Or.inr rfl) (Nat.le_refl _)
    exact ⟨h0, h1, h2, h0, h0⟩
theorem Rl_axis {L : List Nat} {K : Nat → Nat} {u : Nat → Ax5} {kf : Nat → Int32} {nf : Nat → Int64} (h : Rl L K u kf nf) (h8 : L.length < 8) {q k : Nat} (hk : k < 4) (hn : nd (L ++ [q])) : Rl (L ++ [q]) (va_up K q k) (va_up u q (axI k)) (upd kf L.length (nI k)) (vp_updL (vp_updL (vp_updL (vp_updL (vp_updL nf (5 * L.length + 0) 0) (5 * L.length + 3) 0) (5 * L.length + 4) 0) (5 * L.length + 1) (fn_X1_least k)) (5 * L.length + 2) (fn_X1_greatest k)) := by
  have hq : ∀ i a : Nat, L[i]? = some a → a ≠ q := fun i a hi e => by
    subst e
    have l1 : i < L.length := (List.getElem?_eq_some_iff.mp hi).1
    have := hn i L.length a ((List.getElem?_append_left l1).trans hi) (by rw [List.getElem?_append_right (Nat.le_refl _), Nat.sub_self]; rfl)
    omega
  refine ⟨by rw [List.length_append]; simp only [List.length_singleton]; omega, fun a ha => ?_, fun i a hi => ?_⟩
  · rcases List.mem_append.mp ha with ha | ha
    · obtain ⟨i, hi⟩ := List.getElem?_of_mem ha
      rw [va_up_ne _ _ (hq i a hi)]
      exact h.2.1 a ha
    · rw [List.mem_singleton.mp ha, va_up_self]
      exact hk
  · by_cases hl : i < L.length
    · rw [List.getElem?_append_left hl] at hi
      obtain ⟨r1, r2, r3⟩ := h.2.2 i a hi
      rw [va_up_ne _ _ (hq i a hi), va_up_ne _ _ (hq i a hi)]
      have ho : off5 nf (vp_updL (vp_updL (vp_updL (vp_updL (vp_updL nf (5 * L.length + 0) 0) (5 * L.length + 3) 0) (5 * L.length + 4) 0) (5 * L.length + 1) (fn_X1_least k)) (5 * L.length + 2) (fn_X1_greatest k)) L.length := off5_u (off5_u (off5_u (off5_u (off5_u (off5_rf nf _) (by decide) _) (by decide) _) (by decide) _) (by decide) _) (by decide) _
      obtain ⟨e0, e1, e2, e3, e4⟩ := r2
      exact ⟨(pk_un (show i ≠ L.length by omega)).trans r1, ⟨(ho _ (by omega)).trans e0, (ho _ (by omega)).trans e1, (ho _ (by omega)).trans e2, (ho _ (by omega)).trans e3, (ho _ (by omega)).trans e4⟩, r3⟩
    · rw [List.getElem?_append_right (by omega)] at hi
      have hz : i - L.length < 1 := (List.getElem?_eq_some_iff.mp hi).1
      have ei : i = L.length := by omega
      subst ei
      rw [Nat.sub_self] at hi
      have ea : q = a := Option.some.inj hi
      subst ea
      rw [va_up_self, va_up_self]
      exact ⟨pk_us, at5_u2 (at5_u1 (at5_u4 (at5_u3 (at5_u0 (show at5 nf L.length (nf (5 * L.length + 0), nf (5 * L.length + 1), nf (5 * L.length + 2), nf (5 * L.length + 3), nf (5 * L.length + 4)) from ⟨rfl, rfl, rfl, rfl, rfl⟩) _) _) _) _) _, axI_ok hk⟩
/-! two worlds side by side -/
theorem wl_P {D : va_G} {cl : List vw_C} {w1 w2 : va_W} {H : Heap} (h : va_P D cl (w1 ++ w2) H) : va_P D cl w1 H := fun k q hk => h k q ((List.getElem?_append_left (List.getElem?_eq_some_iff.mp hk).1).trans hk)
theorem wr_P {D : va_G} {cl : List vw_C} {w1 w2 : va_W} {H : Heap} (h : va_P D cl (w1 ++ w2) H) : va_P D cl w2 H := fun k q hk => h (w1.length + k) q (by rw [List.getElem?_append_right (by omega), Nat.add_sub_cancel_left]; exact hk)
theorem wl_D {A : Nat → Prop} {w1 w2 : va_W} (h : va_D A (w1 ++ w2)) : va_D A w1 := ⟨fun i j p q hi hj e => h.1 i j p q ((List.getElem?_append_left (List.getElem?_eq_some_iff.mp hi).1).trans hi) ((List.getElem?_append_left (List.getElem?_eq_some_iff.mp hj).1).trans hj) e, fun k q hk => h.2 k q ((List.getElem?_append_left (List.getElem?_eq_some_iff.mp hk).1).trans hk)⟩
theorem wr_D {A : Nat → Prop} {w1 w2 : va_W} (h : va_D A (w1 ++ w2)) : va_D A w2 := by
  have key : ∀ (k : Nat) (q : Nat × va_E), w2[k]? = some q → (w1 ++ w2)[w1.length + k]? = some q := fun k q hk => by
    rw [List.getElem?_append_right (by omega), Nat.add_sub_cancel_left]
    exact hk
  exact ⟨fun i j p q hi hj e => by have := h.1 _ _ p q (key i p hi) (key j q hj) e; omega, fun k q hk => h.2 _ q (key k q hk)⟩
theorem wx_D {A : Nat → Prop} {w1 w2 : va_W} (h : va_D A (w1 ++ w2)) (i j : Nat) (p q : Nat × va_E) (hi : w1[i]? = some p) (hj : w2[j]? = some q) : p.1 ≠ q.1 := fun e => by
  have l1 := (List.getElem?_eq_some_iff.mp hi).1
  have := h.1 i (w1.length + j) p q ((List.getElem?_append_left l1).trans hi) (by rw [List.getElem?_append_right (by omega), Nat.add_sub_cancel_left]; exact hj) e
  omega
theorem w_free {A0 : Nat → Prop} {w : va_W} {H0 H : Heap} {locs : List Loc} (hD : va_D A0 w) (hS : va_S A0 H0 H locs) (hA : ∀ q, H0.size ≤ q → A0 q) : ∀ q, va_A w H.size q → A0 q := by
  intro q h
  rcases h with ⟨k, e, h⟩ | h
  · exact hD.2 k _ h
  · exact hA q (Nat.le_trans hS.1 h)
/-- behind a call that was given the right one -/
theorem w_jr {A0 : Nat → Prop} {D : va_G} {cl : List vw_C} {w1 w2 w3 : va_W} {H H1 : Heap} (hP : va_P D cl (w1 ++ w2) H) (hD : va_D A0 (w1 ++ w2)) (hk : ∀ q : Nat, q < H.size → ¬ va_A w2 H.size q → H1[q]? = H[q]?) (hF : ∀ q, va_A w2 H.size q → A0 q) (hP1 : va_P D cl w3 H1) (hD1 : va_D (va_A w2 H.size) w3) : va_P D cl (w1 ++ w3) H1 ∧ va_D A0 (w1 ++ w3) := by
  have hno : ∀ (k : Nat) (q : Nat × va_E), w1[k]? = some q → q.1 < H.size ∧ ¬ va_A w2 H.size q.1 := fun k q hq => by
    have hl := (wl_P hP k q hq).lt
    refine ⟨hl, fun h => ?_⟩
    rcases h with ⟨j, e, h⟩ | h
    · exact wx_D hD k j q (q.1, e) hq h rfl
    · omega
  refine ⟨va_P.app (fun k q hq => ?_) hP1, va_D.app (wl_D hD) (hD1.weaken (fun k q _ h => hF q.1 h)) (fun i j x y hx hy hxy => ?_)⟩
  · obtain ⟨g1, g2⟩ := hno k q hq
    exact (wl_P hP k q hq).kept (hk q.1 g1 g2)
  · exact (hno i x hx).2 (by rw [hxy]; exact hD1.2 j y hy)
/-- behind a call that was given the left one -/
theorem w_jl {A0 : Nat → Prop} {D : va_G} {cl : List vw_C} {w1 w2 w3 : va_W} {H H1 : Heap} (hP : va_P D cl (w1 ++ w2) H) (hD : va_D A0 (w1 ++ w2)) (hk : ∀ q : Nat, q < H.size → ¬ va_A w1 H.size q → H1[q]? = H[q]?) (hF : ∀ q, va_A w1 H.size q → A0 q) (hP1 : va_P D cl w3 H1) (hD1 : va_D (va_A w1 H.size) w3) : va_P D cl (w3 ++ w2) H1 ∧ va_D A0 (w3 ++ w2) := by
  have hno : ∀ (k : Nat) (q : Nat × va_E), w2[k]? = some q → q.1 < H.size ∧ ¬ va_A w1 H.size q.1 := fun k q hq => by
    have hl := (wr_P hP k q hq).lt
    refine ⟨hl, fun h => ?_⟩
    rcases h with ⟨j, e, h⟩ | h
    · exact wx_D hD j k (q.1, e) q h hq rfl
    · omega
  refine ⟨va_P.app hP1 (fun k q hq => ?_), va_D.app (hD1.weaken (fun k q _ h => hF q.1 h)) (wr_D hD) (fun i j x y hx hy hxy => ?_)⟩
  · obtain ⟨g1, g2⟩ := hno k q hq
    exact (wr_P hP k q hq).kept (hk q.1 g1 g2)
  · exact (hno j y hy).2 (by rw [← hxy]; exact hD1.2 i x hx)
/-! the start -/
theorem nsL_in : ∀ w ∈ nsL, w ∈ lw_tbl := by decide +kernel
abbrev kNm : List String := ["WHOLE", "LONG", "SINGLE", "DOUBLE"]
theorem four {P : Nat → Prop} (h0 : P 0) (h1 : P 1) (h2 : P 2) (h3 : P 3) : ∀ i, i < 4 → P i := fun i hi => co_4 h0 h1 h2 h3 hi
set_option maxRecDepth 100000 in
theorem kinds_start {args : Array Value} {s : State} (hts : ∀ w ∈ lw_tbl, w.before args s = true) (hgv : (Jvm.Cond.and given_1 narrow_1).before args s = true) {A : Nat → Prop} (hA : ∀ a : Nat, a < s.heap.size → ¬ A a) : ∃ (ad : Nat → Nat) (tk : Nat), kw ad A s s.heap ∧ kz ad tk A s s.heap := by
  have hs := flat_of_before _ hgv
  obtain ⟨ad, hE, hev⟩ := va_Enof2 (args := args) (s := s) (E := "ServoDesk$Kind") (d := "LServoDesk$Kind;") (nm := kNm) (F := []) (A := A)
    (four (hts _ (by decide +kernel)) (hts _ (by decide +kernel)) (hts _ (by decide +kernel)) (hts _ (by decide +kernel)))
    (hts _ (by decide +kernel))
    (four (hs _ (by decide +kernel)) (hs _ (by decide +kernel)) (hs _ (by decide +kernel)) (hs _ (by decide +kernel)))
    (fun q hq => absurd hq List.not_mem_nil)
    (fun i j hi hj hij => by
      have hi : i < 4 := hi
      have hj : j < 4 := hj
      rcases (show i = 0 ∨ i = 1 ∨ i = 2 ∨ i = 3 by omega) with rfl | rfl | rfl | rfl <;> rcases (show j = 0 ∨ j = 1 ∨ j = 2 ∨ j = 3 by omega) with rfl | rfl | rfl | rfl <;> first | exact absurd rfl hij | exact Or.inl (hs _ (by decide +kernel)) | exact Or.inr (hs _ (by decide +kernel)))
    hA
  have hev4 : ∀ i, i < 4 → (Term.static "ServoDesk$Kind" (kNm.getD i "") "LServoDesk$Kind;").eval args s none [] s = some (.ref (ad i)) := hev
  have f1 := va_Efof (N := 4) (o := "ServoDesk$Kind") (n := "unused") (d := "I") (v := fun i => .int (kU i)) (tm := fun i => .int (kU i)) hev4 (four (hs _ (by decide +kernel)) (hs _ (by decide +kernel)) (hs _ (by decide +kernel)) (hs _ (by decide +kernel))) (fun _ _ => rfl) hA
  have f2 := va_Efof (N := 4) (o := "ServoDesk$Kind") (n := "floating") (d := "Z") (v := fun i => .int (kF i)) (tm := fun i => .int (kF i)) hev4 (four (hs _ (by decide +kernel)) (hs _ (by decide +kernel)) (hs _ (by decide +kernel)) (hs _ (by decide +kernel))) (fun _ _ => rfl) hA
  have f3 := va_Efof (N := 4) (o := "ServoDesk$Kind") (n := "fraction") (d := "I") (v := fun i => .int (kR i)) (tm := fun i => .int (kR i)) hev4 (four (hs _ (by decide +kernel)) (hs _ (by decide +kernel)) (hs _ (by decide +kernel)) (hs _ (by decide +kernel))) (fun _ _ => rfl) hA
  have f4 := va_Efof (N := 4) (o := "ServoDesk$Kind") (n := "bias") (d := "I") (v := fun i => .int (kB i)) (tm := fun i => .int (kB i)) hev4 (four (hs _ (by decide +kernel)) (hs _ (by decide +kernel)) (hs _ (by decide +kernel)) (hs _ (by decide +kernel))) (fun _ _ => rfl) hA
  have f5 := va_Efof (N := 4) (o := "ServoDesk$Kind") (n := "sign") (d := "J") (v := fun i => .long (kS i)) (tm := fun i => .long (kS i)) hev4 (four (hs _ (by decide +kernel)) (hs _ (by decide +kernel)) (hs _ (by decide +kernel)) (hs _ (by decide +kernel))) (fun _ _ => rfl) hA
  obtain ⟨tk, ht, hT⟩ := va_Tof (tm := .static "ServoDesk" "KINDS" "[LServoDesk$Kind;") (ty := .object "ServoDesk$Kind") (N := 4) (f := fun i => .ref (ad i)) (A := A) (by decide) (hs _ (by decide +kernel)) (va_eqv (u := .int 4) (hs _ (by decide +kernel)) rfl)
    (four (va_eqv (u := .static "ServoDesk$Kind" "WHOLE" "LServoDesk$Kind;") (hs _ (by decide +kernel)) (hev4 0 (by decide))) (va_eqv (u := .static "ServoDesk$Kind" "LONG" "LServoDesk$Kind;") (hs _ (by decide +kernel)) (hev4 1 (by decide))) (va_eqv (u := .static "ServoDesk$Kind" "SINGLE" "LServoDesk$Kind;") (hs _ (by decide +kernel)) (hev4 2 (by decide))) (va_eqv (u := .static "ServoDesk$Kind" "DOUBLE" "LServoDesk$Kind;") (hs _ (by decide +kernel)) (hev4 3 (by decide)))) hA
  exact ⟨ad, tk, ⟨fun i hi => (hE.1 i hi).2.1, f1, f2, f3, f4, f5, fun i j hi hj e => hE.2 i j hi hj e, va_Zof (hts _ (by decide +kernel)) (hts _ (by decide +kernel)) (hev4 1 (by decide)) hA⟩, va_Zof (hts _ (by decide +kernel)) (hts _ (by decide +kernel)) ht hA, hT⟩
