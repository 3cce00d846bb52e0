set_option maxHeartbeats 4000000 in
set_option maxRecDepth 100000 in
theorem ct_X3_bits_no (l : Launch) (dC : Nat → ClassId) (dI : Nat → Nat → Nat) (m0 ka na : Nat) (cI cJ : ClassId) (sz n : Nat) (kf : Nat → Int32) (nf : Nat → Int64) (v1 v2 : Int32) (h1 : fn_X3_isAxis n v1 = 0) : Met l yX3_bits wsX3_bits ({ frames := 1, cells := 0, slots := 0, locals := 21 } : Room) (va_Pc [.ref m0, .int v1, .int v2] (fun U => mw dC dI m0 ka na cI cJ sz n kf nf U)) (vp_Sl (fun r => r = (0 : Int64))) 0 0 (fun _ => False) := by
  refine Met.ofW (cc := cX3_bits) (maxL := 3) (ret := (some .long)) (by decide) rfl ?_
  intro p e s m args below meth c s₁ B hml hv
  obtain ⟨rfl, hsz, hP, hK, hD0⟩ := hv
  have hx := B.exec
  have hb := B.bytes
  have hr := B.returns
  have hlocks := B.notSynchronized
  have hts := atoms_spec (ws := wsX3_bits) B.pre
  have hown : s.vm.findClass RX3 = some m.cls := findClass_of_methodNamed B.named
  have hin : ∀ w ∈ u_ws RX3 TX3 3, w ∈ wsX3_bits := fun _ h => List.mem_cons_of_mem _ (List.mem_append_right _ h)
  subst hsz
  have hD := hD0.self (sz := s.heap.size)
  generalize hAe : va_A (mdW m0 ka na cI cJ n kf nf) s.heap.size = A at hD ⊢
  have hA : ∀ q : Nat, s.heap.size ≤ q → A q := fun q h => by rw [← hAe]; exact Or.inr h
  have hS : va_S A s.heap s.heap [] := va_S.rf
  have hP : va_P (dC, dI) vwCl [(m0, .inr (3, [.ref ka, .ref na, .int (nI n)])), (ka, .inl (cI, 8, .inl kf)), (na, .inl (cJ, 40, .inr (.inl nf)))] s.heap := hP
  have hD : va_D A [(m0, .inr (3, [.ref ka, .ref na, .int (nI n)])), (ka, .inl (cI, 8, .inl kf)), (na, .inl (cJ, 40, .inr (.inl nf)))] := hD
  have hl := lv_entry ([.ref m0, .int v1, .int v2]) (n := 3) (Nat.le_of_ble_eq_true rfl)
  rw [lg_entry_eq]
  generalize (lg_sl ([.ref m0, .int v1, .int v2]) ++ List.replicate (3 - (lg_sl ([.ref m0, .int v1, .int v2])).length) Slot.unset).toArray = ls at hl ⊢
  have hl : lv_has ls 3 [(0, .ref m0), (1, .int v1), (2, .int v2)] := hl
  refine lv_aload_n hx hb dX3_bits_0 rfl (lv_at hl 0 rfl) ?_
  refine lv_iload_n hx hb dX3_bits_1 rfl (lv_at hl 1 rfl) ?_
  refine vp_callSi (W.runV (As := [.int v1]) (rest := []) ⟨hx, hb, hml, hown, hts⟩ (ct_X3_isAxis l dC dI m0 ka na cI cJ s.heap.size n kf nf v1) (cwV 1 hts gX3_bits_X3_isAxis rfl rfl rfl (by decide +kernel) ⟨Nat.le_of_ble_eq_true rfl, Nat.le_of_ble_eq_true rfl⟩) ⟨mw_blind, va_recv hK hP (ci := 3) (q0 := 0) rfl rfl, fun U hU hW9 => mw_call hK hP hD hU hW9⟩ rfl rfl hl.1 rfl (lv_room (Nat.le_of_ble_eq_true rfl)) dX3_bits_2 ⟨Nat.zero_le _, Nat.zero_le _⟩) (fun r er => ?_)
  subst er
  refine lv_if_eq (tgt := 30) hx hb dX3_bits_5 (by decide) (fun c_1 => ?_) (fun c_1 => ?_)
  · refine lv_lconst (v := (0 : Int64)) hx hb dX3_bits_30 (by decide) ?_
    have e9 : (0 : Int64) = (0 : Int64) := rfl
    exact W.lret (v := (0 : Int64)) hx hb hr (fun t ht hW9 => ⟨_, rfl, by rw [e9], ht⟩) (fun _ h => by cases h) dX3_bits_31
  · exact absurd h1 c_1
set_option maxHeartbeats 4000000 in
set_option maxRecDepth 100000 in
theorem ct_X3_bits_lo (l : Launch) (dC : Nat → ClassId) (dI : Nat → Nat → Nat) (m0 ka na : Nat) (cI cJ : ClassId) (sz n : Nat) (kf : Nat → Int32) (nf : Nat → Int64) (a : Nat) (v2 : Int32) (hn : n ≤ 8) (ha : a < n) (h2 : v2 < 0) : Met l yX3_bits wsX3_bits ({ frames := 1, cells := 0, slots := 0, locals := 21 } : Room) (va_Pc [.ref m0, .int (nI a), .int v2] (fun U => mw dC dI m0 ka na cI cJ sz n kf nf U)) (vp_Sl (fun r => r = (0 : Int64))) 0 0 (fun _ => False) := by
  refine Met.ofW (cc := cX3_bits) (maxL := 3) (ret := (some .long)) (by decide) rfl ?_
  intro p e s m args below meth c s₁ B hml hv
  obtain ⟨rfl, hsz, hP, hK, hD0⟩ := hv
  have hx := B.exec
  have hb := B.bytes
  have hr := B.returns
  have hlocks := B.notSynchronized
  have hts := atoms_spec (ws := wsX3_bits) B.pre
  have hown : s.vm.findClass RX3 = some m.cls := findClass_of_methodNamed B.named
  have hin : ∀ w ∈ u_ws RX3 TX3 3, w ∈ wsX3_bits := fun _ h => List.mem_cons_of_mem _ (List.mem_append_right _ h)
  subst hsz
  have hD := hD0.self (sz := s.heap.size)
  generalize hAe : va_A (mdW m0 ka na cI cJ n kf nf) s.heap.size = A at hD ⊢
  have hA : ∀ q : Nat, s.heap.size ≤ q → A q := fun q h => by rw [← hAe]; exact Or.inr h
  have hS : va_S A s.heap s.heap [] := va_S.rf
  have hP : va_P (dC, dI) vwCl [(m0, .inr (3, [.ref ka, .ref na, .int (nI n)])), (ka, .inl (cI, 8, .inl kf)), (na, .inl (cJ, 40, .inr (.inl nf)))] s.heap := hP
  have hD : va_D A [(m0, .inr (3, [.ref ka, .ref na, .int (nI n)])), (ka, .inl (cI, 8, .inl kf)), (na, .inl (cJ, 40, .inr (.inl nf)))] := hD
  have hl := lv_entry ([.ref m0, .int (nI a), .int v2]) (n := 3) (Nat.le_of_ble_eq_true rfl)
  rw [lg_entry_eq]
  generalize (lg_sl ([.ref m0, .int (nI a), .int v2]) ++ List.replicate (3 - (lg_sl ([.ref m0, .int (nI a), .int v2])).length) Slot.unset).toArray = ls at hl ⊢
  have hl : lv_has ls 3 [(0, .ref m0), (1, .int (nI a)), (2, .int v2)] := hl
  refine lv_aload_n hx hb dX3_bits_0 rfl (lv_at hl 0 rfl) ?_
  refine lv_iload_n hx hb dX3_bits_1 rfl (lv_at hl 1 rfl) ?_
  refine vp_callSi (W.runV (As := [.int (nI a)]) (rest := []) ⟨hx, hb, hml, hown, hts⟩ (ct_X3_isAxis l dC dI m0 ka na cI cJ s.heap.size n kf nf (nI a)) (cwV 1 hts gX3_bits_X3_isAxis rfl rfl rfl (by decide +kernel) ⟨Nat.le_of_ble_eq_true rfl, Nat.le_of_ble_eq_true rfl⟩) ⟨mw_blind, va_recv hK hP (ci := 3) (q0 := 0) rfl rfl, fun U hU hW9 => mw_call hK hP hD hU hW9⟩ rfl rfl hl.1 rfl (lv_room (Nat.le_of_ble_eq_true rfl)) dX3_bits_2 ⟨Nat.zero_le _, Nat.zero_le _⟩) (fun r er => ?_)
  subst er
  refine lv_if_eq (tgt := 30) hx hb dX3_bits_5 (by decide) (fun c_1 => ?_) (fun c_1 => ?_)
  · exact absurd c_1 (by rw [isax_in hn ha]; decide)
  · refine lv_iload_n hx hb dX3_bits_8 rfl (lv_at hl 2 rfl) ?_
    refine lv_if_lt (tgt := 30) hx hb dX3_bits_9 (by decide) (fun c_2 => ?_) (fun c_2 => ?_)
    · refine lv_lconst (v := (0 : Int64)) hx hb dX3_bits_30 (by decide) ?_
      have e9 : (0 : Int64) = (0 : Int64) := rfl
      exact W.lret (v := (0 : Int64)) hx hb hr (fun t ht hW9 => ⟨_, rfl, by rw [e9], ht⟩) (fun _ h => by cases h) dX3_bits_31
    · exact absurd h2 c_2
set_option maxHeartbeats 4000000 in
set_option maxRecDepth 100000 in
theorem ct_X3_bits_hi (l : Launch) (dC : Nat → ClassId) (dI : Nat → Nat → Nat) (m0 ka na : Nat) (cI cJ : ClassId) (sz n : Nat) (kf : Nat → Int32) (nf : Nat → Int64) (a : Nat) (v2 : Int32) (hn : n ≤ 8) (ha : a < n) (h2 : ¬ v2 < 0) (h3 : 4 < v2) : Met l yX3_bits wsX3_bits ({ frames := 1, cells := 0, slots := 0, locals := 21 } : Room) (va_Pc [.ref m0, .int (nI a), .int v2] (fun U => mw dC dI m0 ka na cI cJ sz n kf nf U)) (vp_Sl (fun r => r = (0 : Int64))) 0 0 (fun _ => False) := by
  refine Met.ofW (cc := cX3_bits) (maxL := 3) (ret := (some .long)) (by decide) rfl ?_
  intro p e s m args below meth c s₁ B hml hv
  obtain ⟨rfl, hsz, hP, hK, hD0⟩ := hv
  have hx := B.exec
  have hb := B.bytes
  have hr := B.returns
  have hlocks := B.notSynchronized
  have hts := atoms_spec (ws := wsX3_bits) B.pre
  have hown : s.vm.findClass RX3 = some m.cls := findClass_of_methodNamed B.named
  have hin : ∀ w ∈ u_ws RX3 TX3 3, w ∈ wsX3_bits := fun _ h => List.mem_cons_of_mem _ (List.mem_append_right _ h)
  subst hsz
  have hD := hD0.self (sz := s.heap.size)
  generalize hAe : va_A (mdW m0 ka na cI cJ n kf nf) s.heap.size = A at hD ⊢
  have hA : ∀ q : Nat, s.heap.size ≤ q → A q := fun q h => by rw [← hAe]; exact Or.inr h
  have hS : va_S A s.heap s.heap [] := va_S.rf
  have hP : va_P (dC, dI) vwCl [(m0, .inr (3, [.ref ka, .ref na, .int (nI n)])), (ka, .inl (cI, 8, .inl kf)), (na, .inl (cJ, 40, .inr (.inl nf)))] s.heap := hP
  have hD : va_D A [(m0, .inr (3, [.ref ka, .ref na, .int (nI n)])), (ka, .inl (cI, 8, .inl kf)), (na, .inl (cJ, 40, .inr (.inl nf)))] := hD
  have hl := lv_entry ([.ref m0, .int (nI a), .int v2]) (n := 3) (Nat.le_of_ble_eq_true rfl)
  rw [lg_entry_eq]
  generalize (lg_sl ([.ref m0, .int (nI a), .int v2]) ++ List.replicate (3 - (lg_sl ([.ref m0, .int (nI a), .int v2])).length) Slot.unset).toArray = ls at hl ⊢
  have hl : lv_has ls 3 [(0, .ref m0), (1, .int (nI a)), (2, .int v2)] := hl
  refine lv_aload_n hx hb dX3_bits_0 rfl (lv_at hl 0 rfl) ?_
  refine lv_iload_n hx hb dX3_bits_1 rfl (lv_at hl 1 rfl) ?_
  refine vp_callSi (W.runV (As := [.int (nI a)]) (rest := []) ⟨hx, hb, hml, hown, hts⟩ (ct_X3_isAxis l dC dI m0 ka na cI cJ s.heap.size n kf nf (nI a)) (cwV 1 hts gX3_bits_X3_isAxis rfl rfl rfl (by decide +kernel) ⟨Nat.le_of_ble_eq_true rfl, Nat.le_of_ble_eq_true rfl⟩) ⟨mw_blind, va_recv hK hP (ci := 3) (q0 := 0) rfl rfl, fun U hU hW9 => mw_call hK hP hD hU hW9⟩ rfl rfl hl.1 rfl (lv_room (Nat.le_of_ble_eq_true rfl)) dX3_bits_2 ⟨Nat.zero_le _, Nat.zero_le _⟩) (fun r er => ?_)
  subst er
  refine lv_if_eq (tgt := 30) hx hb dX3_bits_5 (by decide) (fun c_1 => ?_) (fun c_1 => ?_)
  · exact absurd c_1 (by rw [isax_in hn ha]; decide)
  · refine lv_iload_n hx hb dX3_bits_8 rfl (lv_at hl 2 rfl) ?_
    refine lv_if_lt (tgt := 30) hx hb dX3_bits_9 (by decide) (fun c_2 => ?_) (fun c_2 => ?_)
    · exact absurd c_2 h2
    · refine lv_iload_n hx hb dX3_bits_12 rfl (lv_at hl 2 rfl) ?_
      refine lv_iconst (v := (4 : Int32)) hx hb dX3_bits_13 (by decide) ?_
      refine lv_icmp_gt (tgt := 30) hx hb dX3_bits_14 (by decide) (fun c_3 => ?_) (fun c_3 => ?_)
      · refine lv_lconst (v := (0 : Int64)) hx hb dX3_bits_30 (by decide) ?_
        have e9 : (0 : Int64) = (0 : Int64) := rfl
        exact W.lret (v := (0 : Int64)) hx hb hr (fun t ht hW9 => ⟨_, rfl, by rw [e9], ht⟩) (fun _ h => by cases h) dX3_bits_31
      · exact absurd h3 c_3
set_option maxHeartbeats 4000000 in
set_option maxRecDepth 100000 in
theorem ct_X3_bits_at (l : Launch) (dC : Nat → ClassId) (dI : Nat → Nat → Nat) (m0 ka na : Nat) (cI cJ : ClassId) (sz n : Nat) (kf : Nat → Int32) (nf : Nat → Int64) (a w : Nat) (hn : n ≤ 8) (ha : a < n) (hw : w < 5) : Met l yX3_bits wsX3_bits ({ frames := 1, cells := 0, slots := 0, locals := 21 } : Room) (va_Pc [.ref m0, .int (nI a), .int (nI w)] (fun U => mw dC dI m0 ka na cI cJ sz n kf nf U)) (vp_Sl (fun r => r = nf (5 * a + w))) 0 0 (fun _ => False) := by
  refine Met.ofW (cc := cX3_bits) (maxL := 3) (ret := (some .long)) (by decide) rfl ?_
  intro p e s m args below meth c s₁ B hml hv
  obtain ⟨rfl, hsz, hP, hK, hD0⟩ := hv
  have hx := B.exec
  have hb := B.bytes
  have hr := B.returns
  have hlocks := B.notSynchronized
  have hts := atoms_spec (ws := wsX3_bits) B.pre
  have hown : s.vm.findClass RX3 = some m.cls := findClass_of_methodNamed B.named
  have hin : ∀ w ∈ u_ws RX3 TX3 3, w ∈ wsX3_bits := fun _ h => List.mem_cons_of_mem _ (List.mem_append_right _ h)
  subst hsz
  have hD := hD0.self (sz := s.heap.size)
  generalize hAe : va_A (mdW m0 ka na cI cJ n kf nf) s.heap.size = A at hD ⊢
  have hA : ∀ q : Nat, s.heap.size ≤ q → A q := fun q h => by rw [← hAe]; exact Or.inr h
  have hS : va_S A s.heap s.heap [] := va_S.rf
  have hP : va_P (dC, dI) vwCl [(m0, .inr (3, [.ref ka, .ref na, .int (nI n)])), (ka, .inl (cI, 8, .inl kf)), (na, .inl (cJ, 40, .inr (.inl nf)))] s.heap := hP
  have hD : va_D A [(m0, .inr (3, [.ref ka, .ref na, .int (nI n)])), (ka, .inl (cI, 8, .inl kf)), (na, .inl (cJ, 40, .inr (.inl nf)))] := hD
  have hl := lv_entry ([.ref m0, .int (nI a), .int (nI w)]) (n := 3) (Nat.le_of_ble_eq_true rfl)
  rw [lg_entry_eq]
  generalize (lg_sl ([.ref m0, .int (nI a), .int (nI w)]) ++ List.replicate (3 - (lg_sl ([.ref m0, .int (nI a), .int (nI w)])).length) Slot.unset).toArray = ls at hl ⊢
  have hl : lv_has ls 3 [(0, .ref m0), (1, .int (nI a)), (2, .int (nI w))] := hl
  refine lv_aload_n hx hb dX3_bits_0 rfl (lv_at hl 0 rfl) ?_
  refine lv_iload_n hx hb dX3_bits_1 rfl (lv_at hl 1 rfl) ?_
  refine vp_callSi (W.runV (As := [.int (nI a)]) (rest := []) ⟨hx, hb, hml, hown, hts⟩ (ct_X3_isAxis l dC dI m0 ka na cI cJ s.heap.size n kf nf (nI a)) (cwV 1 hts gX3_bits_X3_isAxis rfl rfl rfl (by decide +kernel) ⟨Nat.le_of_ble_eq_true rfl, Nat.le_of_ble_eq_true rfl⟩) ⟨mw_blind, va_recv hK hP (ci := 3) (q0 := 0) rfl rfl, fun U hU hW9 => mw_call hK hP hD hU hW9⟩ rfl rfl hl.1 rfl (lv_room (Nat.le_of_ble_eq_true rfl)) dX3_bits_2 ⟨Nat.zero_le _, Nat.zero_le _⟩) (fun r er => ?_)
  subst er
  refine lv_if_eq (tgt := 30) hx hb dX3_bits_5 (by decide) (fun c_1 => ?_) (fun c_1 => ?_)
  · exact absurd c_1 (by rw [isax_in hn ha]; decide)
  · refine lv_iload_n hx hb dX3_bits_8 rfl (lv_at hl 2 rfl) ?_
    refine lv_if_lt (tgt := 30) hx hb dX3_bits_9 (by decide) (fun c_2 => ?_) (fun c_2 => ?_)
    · exact absurd c_2 (nI_pos (n := w) (by omega))
    · refine lv_iload_n hx hb dX3_bits_12 rfl (lv_at hl 2 rfl) ?_
      refine lv_iconst (v := (4 : Int32)) hx hb dX3_bits_13 (by decide) ?_
      refine lv_icmp_gt (tgt := 30) hx hb dX3_bits_14 (by decide) (fun c_3 => ?_) (fun c_3 => ?_)
      · exact absurd c_3 (nI_nlt (a := 4) (b := w) (by omega) (by decide))
      · refine lv_aload_n hx hb dX3_bits_17 rfl (lv_at hl 0 rfl) ?_
        refine va_get (D := (dC, dI)) (ci := 3) (v := .ref na) (C := RX3) (T := TX3) (N := 3) hx hb hts hin hown hK hP 0 rfl rfl 1 (by decide) (hts (.fieldLink RX3 13 "ServoDeskModel" "number" "[J") (by decide +kernel)) (fun _ h9 => h9) rfl dX3_bits_18 ?_
        refine lv_iconst (v := (5 : Int32)) hx hb dX3_bits_21 (by decide) ?_
        refine lv_iload_n hx hb dX3_bits_22 rfl (lv_at hl 1 rfl) ?_
        refine lv_imul hx hb dX3_bits_23 ?_
        refine zn_top (n := 5 * a) (pk_mul 5 a) ?_
        refine lv_iload_n hx hb dX3_bits_24 rfl (lv_at hl 2 rfl) ?_
        refine lv_iadd hx hb dX3_bits_25 ?_
        refine zn_top (n := (5 * a) + w) (nI_add (5 * a) w) ?_
        refine zm_lald hx hb hK hP 2 1 rfl rfl (i := (5 * a) + w) (by omega) (by decide) dX3_bits_26 ?_
        refine lv_goto (tgt := 31) hx hb dX3_bits_27 (by decide) ?_
        have e9 : nf (5 * a + w) = nf ((5 * a) + w) := rfl
        exact W.lret (v := nf ((5 * a) + w)) hx hb hr (fun t ht hW9 => ⟨_, rfl, by rw [e9], ht⟩) (fun _ h => by cases h) dX3_bits_31
set_option maxHeartbeats 4000000 in
set_option maxRecDepth 100000 in
theorem ct_X3_set_no (l : Launch) (dC : Nat → ClassId) (dI : Nat → Nat → Nat) (m0 ka na : Nat) (cI cJ : ClassId) (sz n : Nat) (kf : Nat → Int32) (nf : Nat → Int64) (v1 v2 : Int32) (v3 : Int64) (h1 : fn_X3_isAxis n v1 = 0) : Met l yX3_set wsX3_set ({ frames := 1, cells := 0, slots := 0, locals := 21 } : Room) (va_Pc [.ref m0, .int v1, .int v2, .long v3] (fun U => mw dC dI m0 ka na cI cJ sz n kf nf U)) (va_Qi (fun r (_ : Unit) => r = (((0 : Int32), n, kf, nf)).1) (fun _ t => va_P (dC, dI) vwCl (mdW m0 ka na cI cJ (((0 : Int32), n, kf, nf)).2.1 (((0 : Int32), n, kf, nf)).2.2.1 (((0 : Int32), n, kf, nf)).2.2.2) t.heap ∧ va_D (va_A (mdW m0 ka na cI cJ n kf nf) sz) (mdW m0 ka na cI cJ (((0 : Int32), n, kf, nf)).2.1 (((0 : Int32), n, kf, nf)).2.2.1 (((0 : Int32), n, kf, nf)).2.2.2)) (va_A (mdW m0 ka na cI cJ n kf nf) sz)) 0 0 (va_A (mdW m0 ka na cI cJ n kf nf) sz) := by
  refine Met.ofW (cc := cX3_set) (maxL := 8) (ret := (some .boolean)) (by decide) rfl ?_
  intro p e s m args below meth c s₁ B hml hv
  obtain ⟨rfl, hsz, hP, hK, hD0⟩ := hv
  have hx := B.exec
  have hb := B.bytes
  have hr := B.returns
  have hlocks := B.notSynchronized
  have hts := atoms_spec (ws := wsX3_set) B.pre
  have hown : s.vm.findClass RX3 = some m.cls := findClass_of_methodNamed B.named
  have hin : ∀ w ∈ u_ws RX3 TX3 3, w ∈ wsX3_set := fun _ h => List.mem_cons_of_mem _ (List.mem_append_right _ h)
  subst hsz
  have hD := hD0.self (sz := s.heap.size)
  generalize hAe : va_A (mdW m0 ka na cI cJ n kf nf) s.heap.size = A at hD ⊢
  have hA : ∀ q : Nat, s.heap.size ≤ q → A q := fun q h => by rw [← hAe]; exact Or.inr h
  have hS : va_S A s.heap s.heap [] := va_S.rf
  have hP : va_P (dC, dI) vwCl [(m0, .inr (3, [.ref ka, .ref na, .int (nI n)])), (ka, .inl (cI, 8, .inl kf)), (na, .inl (cJ, 40, .inr (.inl nf)))] s.heap := hP
  have hD : va_D A [(m0, .inr (3, [.ref ka, .ref na, .int (nI n)])), (ka, .inl (cI, 8, .inl kf)), (na, .inl (cJ, 40, .inr (.inl nf)))] := hD
  have hl := lv_entry ([.ref m0, .int v1, .int v2, .long v3]) (n := 8) (Nat.le_of_ble_eq_true rfl)
  rw [lg_entry_eq]
  generalize (lg_sl ([.ref m0, .int v1, .int v2, .long v3]) ++ List.replicate (8 - (lg_sl ([.ref m0, .int v1, .int v2, .long v3])).length) Slot.unset).toArray = ls at hl ⊢
  have hl : lv_has ls 8 [(0, .ref m0), (1, .int v1), (2, .int v2), (3, .long v3)] := hl
  refine lv_aload_n hx hb dX3_set_0 rfl (lv_at hl 0 rfl) ?_
  refine lv_iload_n hx hb dX3_set_1 rfl (lv_at hl 1 rfl) ?_
  refine vp_callSi (W.runV (As := [.int v1]) (rest := []) ⟨hx, hb, hml, hown, hts⟩ (ct_X3_isAxis l dC dI m0 ka na cI cJ s.heap.size n kf nf v1) (cwV 1 hts gX3_set_X3_isAxis rfl rfl rfl (by decide +kernel) ⟨Nat.le_of_ble_eq_true rfl, Nat.le_of_ble_eq_true rfl⟩) ⟨mw_blind, va_recv hK hP (ci := 3) (q0 := 0) rfl rfl, fun U hU hW9 => mw_call hK hP hD hU hW9⟩ rfl rfl hl.1 rfl (lv_room (Nat.le_of_ble_eq_true rfl)) dX3_set_2 ⟨Nat.zero_le _, Nat.zero_le _⟩) (fun r er => ?_)
  subst er
  refine lv_if_eq (tgt := 17) hx hb dX3_set_5 (by decide) (fun c_1 => ?_) (fun c_1 => ?_)
  · refine lv_iconst (v := (0 : Int32)) hx hb dX3_set_17 (by decide) ?_
    have e9 : ((0 : Int32), n, kf, nf) = ((0 : Int32), n, kf, nf) := rfl
    exact W.zret (v := (0 : Int32)) (ty := .boolean) hx hb hr (by decide) (fun t ht hW9 => ⟨⟨_, (), rfl, by rw [e9], by rw [ht, e9]; exact hP, by rw [e9]; exact hD⟩, hS.F ht⟩) hS.2.2 dX3_set_18
  · exact absurd h1 c_1
set_option maxHeartbeats 4000000 in
set_option maxRecDepth 100000 in
theorem ct_X3_set_lo (l : Launch) (dC : Nat → ClassId) (dI : Nat → Nat → Nat) (m0 ka na : Nat) (cI cJ : ClassId) (sz n : Nat) (kf : Nat → Int32) (nf : Nat → Int64) (a : Nat) (v2 : Int32) (v3 : Int64) (hn : n ≤ 8) (ha : a < n) (h2 : v2 < 0) : Met l yX3_set wsX3_set ({ frames := 1, cells := 0, slots := 0, locals := 21 } : Room) (va_Pc [.ref m0, .int (nI a), .int v2, .long v3] (fun U => mw dC dI m0 ka na cI cJ sz n kf nf U)) (va_Qi (fun r (_ : Unit) => r = (((0 : Int32), n, kf, nf)).1) (fun _ t => va_P (dC, dI) vwCl (mdW m0 ka na cI cJ (((0 : Int32), n, kf, nf)).2.1 (((0 : Int32), n, kf, nf)).2.2.1 (((0 : Int32), n, kf, nf)).2.2.2) t.heap ∧ va_D (va_A (mdW m0 ka na cI cJ n kf nf) sz) (mdW m0 ka na cI cJ (((0 : Int32), n, kf, nf)).2.1 (((0 : Int32), n, kf, nf)).2.2.1 (((0 : Int32), n, kf, nf)).2.2.2)) (va_A (mdW m0 ka na cI cJ n kf nf) sz)) 0 0 (va_A (mdW m0 ka na cI cJ n kf nf) sz) := by
  refine Met.ofW (cc := cX3_set) (maxL := 8) (ret := (some .boolean)) (by decide) rfl ?_
  intro p e s m args below meth c s₁ B hml hv
  obtain ⟨rfl, hsz, hP, hK, hD0⟩ := hv
  have hx := B.exec
  have hb := B.bytes
  have hr := B.returns
  have hlocks := B.notSynchronized
  have hts := atoms_spec (ws := wsX3_set) B.pre
  have hown : s.vm.findClass RX3 = some m.cls := findClass_of_methodNamed B.named
  have hin : ∀ w ∈ u_ws RX3 TX3 3, w ∈ wsX3_set := fun _ h => List.mem_cons_of_mem _ (List.mem_append_right _ h)
  subst hsz
  have hD := hD0.self (sz := s.heap.size)
  generalize hAe : va_A (mdW m0 ka na cI cJ n kf nf) s.heap.size = A at hD ⊢
  have hA : ∀ q : Nat, s.heap.size ≤ q → A q := fun q h => by rw [← hAe]; exact Or.inr h
  have hS : va_S A s.heap s.heap [] := va_S.rf
  have hP : va_P (dC, dI) vwCl [(m0, .inr (3, [.ref ka, .ref na, .int (nI n)])), (ka, .inl (cI, 8, .inl kf)), (na, .inl (cJ, 40, .inr (.inl nf)))] s.heap := hP
  have hD : va_D A [(m0, .inr (3, [.ref ka, .ref na, .int (nI n)])), (ka, .inl (cI, 8, .inl kf)), (na, .inl (cJ, 40, .inr (.inl nf)))] := hD
  have hl := lv_entry ([.ref m0, .int (nI a), .int v2, .long v3]) (n := 8) (Nat.le_of_ble_eq_true rfl)
  rw [lg_entry_eq]
  generalize (lg_sl ([.ref m0, .int (nI a), .int v2, .long v3]) ++ List.replicate (8 - (lg_sl ([.ref m0, .int (nI a), .int v2, .long v3])).length) Slot.unset).toArray = ls at hl ⊢
  have hl : lv_has ls 8 [(0, .ref m0), (1, .int (nI a)), (2, .int v2), (3, .long v3)] := hl
  refine lv_aload_n hx hb dX3_set_0 rfl (lv_at hl 0 rfl) ?_
  refine lv_iload_n hx hb dX3_set_1 rfl (lv_at hl 1 rfl) ?_
  refine vp_callSi (W.runV (As := [.int (nI a)]) (rest := []) ⟨hx, hb, hml, hown, hts⟩ (ct_X3_isAxis l dC dI m0 ka na cI cJ s.heap.size n kf nf (nI a)) (cwV 1 hts gX3_set_X3_isAxis rfl rfl rfl (by decide +kernel) ⟨Nat.le_of_ble_eq_true rfl, Nat.le_of_ble_eq_true rfl⟩) ⟨mw_blind, va_recv hK hP (ci := 3) (q0 := 0) rfl rfl, fun U hU hW9 => mw_call hK hP hD hU hW9⟩ rfl rfl hl.1 rfl (lv_room (Nat.le_of_ble_eq_true rfl)) dX3_set_2 ⟨Nat.zero_le _, Nat.zero_le _⟩) (fun r er => ?_)
  subst er
  refine lv_if_eq (tgt := 17) hx hb dX3_set_5 (by decide) (fun c_1 => ?_) (fun c_1 => ?_)
  · exact absurd c_1 (by rw [isax_in hn ha]; decide)
  · refine lv_iload_n hx hb dX3_set_8 rfl (lv_at hl 2 rfl) ?_
    refine lv_if_lt (tgt := 17) hx hb dX3_set_9 (by decide) (fun c_2 => ?_) (fun c_2 => ?_)
    · refine lv_iconst (v := (0 : Int32)) hx hb dX3_set_17 (by decide) ?_
      have e9 : ((0 : Int32), n, kf, nf) = ((0 : Int32), n, kf, nf) := rfl
      exact W.zret (v := (0 : Int32)) (ty := .boolean) hx hb hr (by decide) (fun t ht hW9 => ⟨⟨_, (), rfl, by rw [e9], by rw [ht, e9]; exact hP, by rw [e9]; exact hD⟩, hS.F ht⟩) hS.2.2 dX3_set_18
    · exact absurd h2 c_2
set_option maxHeartbeats 4000000 in
set_option maxRecDepth 100000 in
theorem ct_X3_set_hi (l : Launch) (dC : Nat → ClassId) (dI : Nat → Nat → Nat) (m0 ka na : Nat) (cI cJ : ClassId) (sz n : Nat) (kf : Nat → Int32) (nf : Nat → Int64) (a : Nat) (v2 : Int32) (v3 : Int64) (hn : n ≤ 8) (ha : a < n) (h2 : ¬ v2 < 0) (h3 : 4 < v2) (h4 : ¬ v2 ≤ 4) : Met l yX3_set wsX3_set ({ frames := 1, cells := 0, slots := 0, locals := 21 } : Room) (va_Pc [.ref m0, .int (nI a), .int v2, .long v3] (fun U => mw dC dI m0 ka na cI cJ sz n kf nf U)) (va_Qi (fun r (_ : Unit) => r = (((0 : Int32), n, kf, nf)).1) (fun _ t => va_P (dC, dI) vwCl (mdW m0 ka na cI cJ (((0 : Int32), n, kf, nf)).2.1 (((0 : Int32), n, kf, nf)).2.2.1 (((0 : Int32), n, kf, nf)).2.2.2) t.heap ∧ va_D (va_A (mdW m0 ka na cI cJ n kf nf) sz) (mdW m0 ka na cI cJ (((0 : Int32), n, kf, nf)).2.1 (((0 : Int32), n, kf, nf)).2.2.1 (((0 : Int32), n, kf, nf)).2.2.2)) (va_A (mdW m0 ka na cI cJ n kf nf) sz)) 0 0 (va_A (mdW m0 ka na cI cJ n kf nf) sz) := by
  refine Met.ofW (cc := cX3_set) (maxL := 8) (ret := (some .boolean)) (by decide) rfl ?_
  intro p e s m args below meth c s₁ B hml hv
  obtain ⟨rfl, hsz, hP, hK, hD0⟩ := hv
  have hx := B.exec
  have hb := B.bytes
  have hr := B.returns
  have hlocks := B.notSynchronized
  have hts := atoms_spec (ws := wsX3_set) B.pre
  have hown : s.vm.findClass RX3 = some m.cls := findClass_of_methodNamed B.named
  have hin : ∀ w ∈ u_ws RX3 TX3 3, w ∈ wsX3_set := fun _ h => List.mem_cons_of_mem _ (List.mem_append_right _ h)
  subst hsz
  have hD := hD0.self (sz := s.heap.size)
  generalize hAe : va_A (mdW m0 ka na cI cJ n kf nf) s.heap.size = A at hD ⊢
  have hA : ∀ q : Nat, s.heap.size ≤ q → A q := fun q h => by rw [← hAe]; exact Or.inr h
  have hS : va_S A s.heap s.heap [] := va_S.rf
  have hP : va_P (dC, dI) vwCl [(m0, .inr (3, [.ref ka, .ref na, .int (nI n)])), (ka, .inl (cI, 8, .inl kf)), (na, .inl (cJ, 40, .inr (.inl nf)))] s.heap := hP
  have hD : va_D A [(m0, .inr (3, [.ref ka, .ref na, .int (nI n)])), (ka, .inl (cI, 8, .inl kf)), (na, .inl (cJ, 40, .inr (.inl nf)))] := hD
  have hl := lv_entry ([.ref m0, .int (nI a), .int v2, .long v3]) (n := 8) (Nat.le_of_ble_eq_true rfl)
  rw [lg_entry_eq]
  generalize (lg_sl ([.ref m0, .int (nI a), .int v2, .long v3]) ++ List.replicate (8 - (lg_sl ([.ref m0, .int (nI a), .int v2, .long v3])).length) Slot.unset).toArray = ls at hl ⊢
  have hl : lv_has ls 8 [(0, .ref m0), (1, .int (nI a)), (2, .int v2), (3, .long v3)] := hl
  refine lv_aload_n hx hb dX3_set_0 rfl (lv_at hl 0 rfl) ?_
  refine lv_iload_n hx hb dX3_set_1 rfl (lv_at hl 1 rfl) ?_
  refine vp_callSi (W.runV (As := [.int (nI a)]) (rest := []) ⟨hx, hb, hml, hown, hts⟩ (ct_X3_isAxis l dC dI m0 ka na cI cJ s.heap.size n kf nf (nI a)) (cwV 1 hts gX3_set_X3_isAxis rfl rfl rfl (by decide +kernel) ⟨Nat.le_of_ble_eq_true rfl, Nat.le_of_ble_eq_true rfl⟩) ⟨mw_blind, va_recv hK hP (ci := 3) (q0 := 0) rfl rfl, fun U hU hW9 => mw_call hK hP hD hU hW9⟩ rfl rfl hl.1 rfl (lv_room (Nat.le_of_ble_eq_true rfl)) dX3_set_2 ⟨Nat.zero_le _, Nat.zero_le _⟩) (fun r er => ?_)
  subst er
  refine lv_if_eq (tgt := 17) hx hb dX3_set_5 (by decide) (fun c_1 => ?_) (fun c_1 => ?_)
  · exact absurd c_1 (by rw [isax_in hn ha]; decide)
  · refine lv_iload_n hx hb dX3_set_8 rfl (lv_at hl 2 rfl) ?_
    refine lv_if_lt (tgt := 17) hx hb dX3_set_9 (by decide) (fun c_2 => ?_) (fun c_2 => ?_)
    · exact absurd c_2 h2
    · refine lv_iload_n hx hb dX3_set_12 rfl (lv_at hl 2 rfl) ?_
      refine lv_iconst (v := (4 : Int32)) hx hb dX3_set_13 (by decide) ?_
      refine lv_icmp_le (tgt := 19) hx hb dX3_set_14 (by decide) (fun c_3 => ?_) (fun c_3 => ?_)
      · exact absurd c_3 h4
      · refine lv_iconst (v := (0 : Int32)) hx hb dX3_set_17 (by decide) ?_
        have e9 : ((0 : Int32), n, kf, nf) = ((0 : Int32), n, kf, nf) := rfl
        exact W.zret (v := (0 : Int32)) (ty := .boolean) hx hb hr (by decide) (fun t ht hW9 => ⟨⟨_, (), rfl, by rw [e9], by rw [ht, e9]; exact hP, by rw [e9]; exact hD⟩, hS.F ht⟩) hS.2.2 dX3_set_18
def fn_X3_set_at (n : Nat) (kf : Nat → Int32) (nf : Nat → Int64) (a w : Nat) (v3 : Int64) : Int32 × Nat × (Nat → Int32) × (Nat → Int64) :=
  if (kf a) = 0 then
    if (fn_X3_isFloating (kf a)) = 0 then
      ((1 : Int32), n, kf, vp_updL nf ((5 * a) + w) (Int32.toInt64 (Int64.toInt32 v3)))
    else
      if (fn_X3_size (kf a) (Int32.toInt64 (Int64.toInt32 v3))) ≤ (fn_X3_endless (kf a)) then
        ((1 : Int32), n, kf, vp_updL nf ((5 * a) + w) (Int32.toInt64 (Int64.toInt32 v3)))
      else
        ((0 : Int32), n, kf, nf)
  else
    if (kf a) = (2 : Int32) then
      if (fn_X3_isFloating (kf a)) = 0 then
        ((1 : Int32), n, kf, vp_updL nf ((5 * a) + w) (Int32.toInt64 (Int64.toInt32 v3)))
      else
        if (fn_X3_size (kf a) (Int32.toInt64 (Int64.toInt32 v3))) ≤ (fn_X3_endless (kf a)) then
          ((1 : Int32), n, kf, vp_updL nf ((5 * a) + w) (Int32.toInt64 (Int64.toInt32 v3)))
        else
          ((0 : Int32), n, kf, nf)
    else
      if (fn_X3_isFloating (kf a)) = 0 then
        ((1 : Int32), n, kf, vp_updL nf ((5 * a) + w) v3)
      else
        if (fn_X3_size (kf a) v3) ≤ (fn_X3_endless (kf a)) then
          ((1 : Int32), n, kf, vp_updL nf ((5 * a) + w) v3)
        else
          ((0 : Int32), n, kf, nf)
set_option maxHeartbeats 4000000 in
set_option maxRecDepth 100000 in
theorem ct_X3_set_at (l : Launch) (dC : Nat → ClassId) (dI : Nat → Nat → Nat) (m0 ka na : Nat) (cI cJ : ClassId) (sz n : Nat) (kf : Nat → Int32) (nf : Nat → Int64) (a w : Nat) (v3 : Int64) (hn : n ≤ 8) (ha : a < n) (hw : w < 5) : Met l yX3_set wsX3_set ({ frames := 1, cells := 0, slots := 0, locals := 22 } : Room) (va_Pc [.ref m0, .int (nI a), .int (nI w), .long v3] (fun U => mw dC dI m0 ka na cI cJ sz n kf nf U)) (va_Qi (fun r (_ : Unit) => r = (fn_X3_set_at n kf nf a w v3).1) (fun _ t => va_P (dC, dI) vwCl (mdW m0 ka na cI cJ (fn_X3_set_at n kf nf a w v3).2.1 (fn_X3_set_at n kf nf a w v3).2.2.1 (fn_X3_set_at n kf nf a w v3).2.2.2) t.heap ∧ va_D (va_A (mdW m0 ka na cI cJ n kf nf) sz) (mdW m0 ka na cI cJ (fn_X3_set_at n kf nf a w v3).2.1 (fn_X3_set_at n kf nf a w v3).2.2.1 (fn_X3_set_at n kf nf a w v3).2.2.2)) (va_A (mdW m0 ka na cI cJ n kf nf) sz)) 0 0 (va_A (mdW m0 ka na cI cJ n kf nf) sz) := by
  refine Met.ofW (cc := cX3_set) (maxL := 8) (ret := (some .boolean)) (by decide) rfl ?_
  intro p e s m args below meth c s₁ B hml hv
  obtain ⟨rfl, hsz, hP, hK, hD0⟩ := hv
  have hx := B.exec
  have hb := B.bytes
  have hr := B.returns
  have hlocks := B.notSynchronized
  have hts := atoms_spec (ws := wsX3_set) B.pre
  have hown : s.vm.findClass RX3 = some m.cls := findClass_of_methodNamed B.named
  have hin : ∀ w ∈ u_ws RX3 TX3 3, w ∈ wsX3_set := fun _ h => List.mem_cons_of_mem _ (List.mem_append_right _ h)
  subst hsz
  have hD := hD0.self (sz := s.heap.size)
  generalize hAe : va_A (mdW m0 ka na cI cJ n kf nf) s.heap.size = A at hD ⊢
  have hA : ∀ q : Nat, s.heap.size ≤ q → A q := fun q h => by rw [← hAe]; exact Or.inr h
  have hS : va_S A s.heap s.heap [] := va_S.rf
  have hP : va_P (dC, dI) vwCl [(m0, .inr (3, [.ref ka, .ref na, .int (nI n)])), (ka, .inl (cI, 8, .inl kf)), (na, .inl (cJ, 40, .inr (.inl nf)))] s.heap := hP
  have hD : va_D A [(m0, .inr (3, [.ref ka, .ref na, .int (nI n)])), (ka, .inl (cI, 8, .inl kf)), (na, .inl (cJ, 40, .inr (.inl nf)))] := hD
  have hl := lv_entry ([.ref m0, .int (nI a), .int (nI w), .long v3]) (n := 8) (Nat.le_of_ble_eq_true rfl)
  rw [lg_entry_eq]
  generalize (lg_sl ([.ref m0, .int (nI a), .int (nI w), .long v3]) ++ List.replicate (8 - (lg_sl ([.ref m0, .int (nI a), .int (nI w), .long v3])).length) Slot.unset).toArray = ls at hl ⊢
  have hl : lv_has ls 8 [(0, .ref m0), (1, .int (nI a)), (2, .int (nI w)), (3, .long v3)] := hl
  refine lv_aload_n hx hb dX3_set_0 rfl (lv_at hl 0 rfl) ?_
  refine lv_iload_n hx hb dX3_set_1 rfl (lv_at hl 1 rfl) ?_
  refine vp_callSi (W.runV (As := [.int (nI a)]) (rest := []) ⟨hx, hb, hml, hown, hts⟩ (ct_X3_isAxis l dC dI m0 ka na cI cJ s.heap.size n kf nf (nI a)) (cwV 1 hts gX3_set_X3_isAxis rfl rfl rfl (by decide +kernel) ⟨Nat.le_of_ble_eq_true rfl, Nat.le_of_ble_eq_true rfl⟩) ⟨mw_blind, va_recv hK hP (ci := 3) (q0 := 0) rfl rfl, fun U hU hW9 => mw_call hK hP hD hU hW9⟩ rfl rfl hl.1 rfl (lv_room (Nat.le_of_ble_eq_true rfl)) dX3_set_2 ⟨Nat.zero_le _, Nat.zero_le _⟩) (fun r er => ?_)
  subst er
  refine lv_if_eq (tgt := 17) hx hb dX3_set_5 (by decide) (fun c_1 => ?_) (fun c_1 => ?_)
  · exact absurd c_1 (by rw [isax_in hn ha]; decide)
  · refine lv_iload_n hx hb dX3_set_8 rfl (lv_at hl 2 rfl) ?_
    refine lv_if_lt (tgt := 17) hx hb dX3_set_9 (by decide) (fun c_2 => ?_) (fun c_2 => ?_)
    · exact absurd c_2 (nI_pos (n := w) (by omega))
    · refine lv_iload_n hx hb dX3_set_12 rfl (lv_at hl 2 rfl) ?_
      refine lv_iconst (v := (4 : Int32)) hx hb dX3_set_13 (by decide) ?_
      refine lv_icmp_le (tgt := 19) hx hb dX3_set_14 (by decide) (fun c_3 => ?_) (fun c_3 => ?_)
      · refine lv_aload_n hx hb dX3_set_19 rfl (lv_at hl 0 rfl) ?_
        refine va_get (D := (dC, dI)) (ci := 3) (v := .ref ka) (C := RX3) (T := TX3) (N := 3) hx hb hts hin hown hK hP 0 rfl rfl 0 (by decide) (hts (.fieldLink RX3 7 "ServoDeskModel" "kind" "[I") (by decide +kernel)) (fun _ h9 => h9) rfl dX3_set_20 ?_
        refine lv_iload_n hx hb dX3_set_23 rfl (lv_at hl 1 rfl) ?_
        refine zm_iald hx hb hK hP 1 0 rfl rfl (i := a) (by omega) (by decide) dX3_set_24 ?_
        refine lv_istore (lv' := [(5, .int (kf a)), (0, .ref m0), (1, .int (nI a)), (2, .int (nI w)), (3, .long v3)]) hx hb dX3_set_25 hl (by decide) rfl (fun ls hl => ?_)
        refine lv_iload hx hb dX3_set_27 (lv_at hl 0 rfl) ?_
        refine lv_if_eq (tgt := 38) hx hb dX3_set_29 (by decide) (fun c_4 => ?_) (fun c_4 => ?_)
        · refine lv_lload_n hx hb dX3_set_38 rfl (lv_at hl 4 rfl) ?_
          refine lv_l2i hx hb dX3_set_39 rfl ?_
          refine lv_i2l hx hb dX3_set_40 rfl ?_
          refine lv_goto (tgt := 45) hx hb dX3_set_41 (by decide) ?_
          refine lv_lstore (lv' := [(6, .long (Int32.toInt64 (Int64.toInt32 v3))), (5, .int (kf a)), (0, .ref m0), (1, .int (nI a)), (2, .int (nI w)), (3, .long v3)]) hx hb dX3_set_45 hl (by decide) rfl (fun ls hl => ?_)
          refine lv_iload hx hb dX3_set_47 (lv_at hl 1 rfl) ?_
          refine vp_callSi (W.runS (As := [.int (kf a)]) (rest := []) ⟨hx, hb, hml, hown, hts⟩ (ct_X3_isFloating l (kf a)) (va_cwS 1 hts gX3_set_X3_isFloating rfl rfl rfl (by decide +kernel) ⟨Nat.le_of_ble_eq_true rfl, Nat.le_of_ble_eq_true rfl⟩) ⟨(fun a U g mk q => ⟨q.1, trivial⟩), fun U hU hW9 => ⟨rfl, trivial⟩⟩ rfl rfl hl.1 rfl (lv_room (Nat.le_of_ble_eq_true rfl)) dX3_set_49 ⟨Nat.zero_le _, Nat.zero_le _⟩) (fun r er => ?_)
          subst er
          refine lv_if_eq (tgt := 73) hx hb dX3_set_52 (by decide) (fun c_5 => ?_) (fun c_5 => ?_)
          · refine lv_aload_n hx hb dX3_set_73 rfl (lv_at hl 2 rfl) ?_
            refine va_get (D := (dC, dI)) (ci := 3) (v := .ref na) (C := RX3) (T := TX3) (N := 3) hx hb hts hin hown hK hP 0 rfl rfl 1 (by decide) (hts (.fieldLink RX3 13 "ServoDeskModel" "number" "[J") (by decide +kernel)) (fun _ h9 => h9) rfl dX3_set_74 ?_
            refine lv_iconst (v := (5 : Int32)) hx hb dX3_set_77 (by decide) ?_
            refine lv_iload_n hx hb dX3_set_78 rfl (lv_at hl 3 rfl) ?_
            refine lv_imul hx hb dX3_set_79 ?_
            refine zn_top (n := 5 * a) (pk_mul 5 a) ?_
            refine lv_iload_n hx hb dX3_set_80 rfl (lv_at hl 4 rfl) ?_
            refine lv_iadd hx hb dX3_set_81 ?_
            refine zn_top (n := (5 * a) + w) (nI_add (5 * a) w) ?_
            refine lv_lload hx hb dX3_set_82 (lv_at hl 0 rfl) ?_
            refine zm_last hx hb hK hP hD hS 2 1 rfl rfl (i := (5 * a) + w) (x := Int32.toInt64 (Int64.toInt32 v3)) (by omega) (by decide) dX3_set_84 (fun H locs hP hD hS => ?_)
            have hP : va_P (dC, dI) vwCl [(m0, .inr (3, [.ref ka, .ref na, .int (nI n)])), (ka, .inl (cI, 8, .inl kf)), (na, .inl (cJ, 40, .inr (.inl (vp_updL nf ((5 * a) + w) (Int32.toInt64 (Int64.toInt32 v3))))))] H := hP
            have hD : va_D A [(m0, .inr (3, [.ref ka, .ref na, .int (nI n)])), (ka, .inl (cI, 8, .inl kf)), (na, .inl (cJ, 40, .inr (.inl (vp_updL nf ((5 * a) + w) (Int32.toInt64 (Int64.toInt32 v3))))))] := hD
            refine lv_iconst (v := (1 : Int32)) hx hb dX3_set_85 (by decide) ?_
            have e9 : fn_X3_set_at n kf nf a w v3 = ((1 : Int32), n, kf, vp_updL nf ((5 * a) + w) (Int32.toInt64 (Int64.toInt32 v3))) := by unfold fn_X3_set_at; rw [if_pos c_4, if_pos c_5]
            exact W.zret (v := (1 : Int32)) (ty := .boolean) hx hb hr (by decide) (fun t ht hW9 => ⟨⟨_, (), rfl, by rw [e9], by rw [ht, e9]; exact hP, by rw [e9]; exact hD⟩, hS.F ht⟩) hS.2.2 dX3_set_86
          · refine lv_iload hx hb dX3_set_55 (lv_at hl 1 rfl) ?_
            refine lv_lload hx hb dX3_set_57 (lv_at hl 0 rfl) ?_
            refine vp_callSl (W.runS (As := [.int (kf a), .long (Int32.toInt64 (Int64.toInt32 v3))]) (rest := []) ⟨hx, hb, hml, hown, hts⟩ (ct_X3_size l (kf a) (Int32.toInt64 (Int64.toInt32 v3))) (va_cwS 2 hts gX3_set_X3_size rfl rfl rfl (by decide +kernel) ⟨Nat.le_of_ble_eq_true rfl, Nat.le_of_ble_eq_true rfl⟩) ⟨(fun a U g mk q => ⟨q.1, trivial⟩), fun U hU hW9 => ⟨rfl, trivial⟩⟩ rfl rfl hl.1 rfl (lv_room (Nat.le_of_ble_eq_true rfl)) dX3_set_59 ⟨Nat.zero_le _, Nat.zero_le _⟩) (fun r er => ?_)
            subst er
            refine lv_iload hx hb dX3_set_62 (lv_at hl 1 rfl) ?_
            refine vp_callSl (W.runS (As := [.int (kf a)]) (rest := [.long (fn_X3_size (kf a) (Int32.toInt64 (Int64.toInt32 v3)))]) ⟨hx, hb, hml, hown, hts⟩ (ct_X3_endless l (kf a)) (va_cwS 1 hts gX3_set_X3_endless rfl rfl rfl (by decide +kernel) ⟨Nat.le_of_ble_eq_true rfl, Nat.le_of_ble_eq_true rfl⟩) ⟨(fun a U g mk q => ⟨q.1, trivial⟩), fun U hU hW9 => ⟨rfl, trivial⟩⟩ rfl rfl hl.1 rfl (lv_room (Nat.le_of_ble_eq_true rfl)) dX3_set_64 ⟨Nat.zero_le _, Nat.zero_le _⟩) (fun r er => ?_)
            subst er
            refine zl_le (tgt := 73) hx hb dX3_set_67 dX3_set_68 (by decide) (fun c_6 => ?_) (fun c_6 => ?_)
            · refine lv_aload_n hx hb dX3_set_73 rfl (lv_at hl 2 rfl) ?_
              refine va_get (D := (dC, dI)) (ci := 3) (v := .ref na) (C := RX3) (T := TX3) (N := 3) hx hb hts hin hown hK hP 0 rfl rfl 1 (by decide) (hts (.fieldLink RX3 13 "ServoDeskModel" "number" "[J") (by decide +kernel)) (fun _ h9 => h9) rfl dX3_set_74 ?_
              refine lv_iconst (v := (5 : Int32)) hx hb dX3_set_77 (by decide) ?_
              refine lv_iload_n hx hb dX3_set_78 rfl (lv_at hl 3 rfl) ?_
              refine lv_imul hx hb dX3_set_79 ?_
              refine zn_top (n := 5 * a) (pk_mul 5 a) ?_
              refine lv_iload_n hx hb dX3_set_80 rfl (lv_at hl 4 rfl) ?_
              refine lv_iadd hx hb dX3_set_81 ?_
              refine zn_top (n := (5 * a) + w) (nI_add (5 * a) w) ?_
              refine lv_lload hx hb dX3_set_82 (lv_at hl 0 rfl) ?_
              refine zm_last hx hb hK hP hD hS 2 1 rfl rfl (i := (5 * a) + w) (x := Int32.toInt64 (Int64.toInt32 v3)) (by omega) (by decide) dX3_set_84 (fun H locs hP hD hS => ?_)
              have hP : va_P (dC, dI) vwCl [(m0, .inr (3, [.ref ka, .ref na, .int (nI n)])), (ka, .inl (cI, 8, .inl kf)), (na, .inl (cJ, 40, .inr (.inl (vp_updL nf ((5 * a) + w) (Int32.toInt64 (Int64.toInt32 v3))))))] H := hP
              have hD : va_D A [(m0, .inr (3, [.ref ka, .ref na, .int (nI n)])), (ka, .inl (cI, 8, .inl kf)), (na, .inl (cJ, 40, .inr (.inl (vp_updL nf ((5 * a) + w) (Int32.toInt64 (Int64.toInt32 v3))))))] := hD
              refine lv_iconst (v := (1 : Int32)) hx hb dX3_set_85 (by decide) ?_
              have e9 : fn_X3_set_at n kf nf a w v3 = ((1 : Int32), n, kf, vp_updL nf ((5 * a) + w) (Int32.toInt64 (Int64.toInt32 v3))) := by unfold fn_X3_set_at; rw [if_pos c_4, if_neg c_5, if_pos c_6]
              exact W.zret (v := (1 : Int32)) (ty := .boolean) hx hb hr (by decide) (fun t ht hW9 => ⟨⟨_, (), rfl, by rw [e9], by rw [ht, e9]; exact hP, by rw [e9]; exact hD⟩, hS.F ht⟩) hS.2.2 dX3_set_86
            · refine lv_iconst (v := (0 : Int32)) hx hb dX3_set_71 (by decide) ?_
              have e9 : fn_X3_set_at n kf nf a w v3 = ((0 : Int32), n, kf, nf) := by unfold fn_X3_set_at; rw [if_pos c_4, if_neg c_5, if_neg c_6]
              exact W.zret (v := (0 : Int32)) (ty := .boolean) hx hb hr (by decide) (fun t ht hW9 => ⟨⟨_, (), rfl, by rw [e9], by rw [ht, e9]; exact hP, by rw [e9]; exact hD⟩, hS.F ht⟩) hS.2.2 dX3_set_72
        · refine lv_iload hx hb dX3_set_32 (lv_at hl 0 rfl) ?_
          refine lv_iconst (v := (2 : Int32)) hx hb dX3_set_34 (by decide) ?_
          refine lv_icmp_ne (tgt := 44) hx hb dX3_set_35 (by decide) (fun c_7 => ?_) (fun c_7 => ?_)
          · refine lv_lload_n hx hb dX3_set_44 rfl (lv_at hl 4 rfl) ?_
            refine lv_lstore (lv' := [(6, .long v3), (5, .int (kf a)), (0, .ref m0), (1, .int (nI a)), (2, .int (nI w)), (3, .long v3)]) hx hb dX3_set_45 hl (by decide) rfl (fun ls hl => ?_)
            refine lv_iload hx hb dX3_set_47 (lv_at hl 1 rfl) ?_
            refine vp_callSi (W.runS (As := [.int (kf a)]) (rest := []) ⟨hx, hb, hml, hown, hts⟩ (ct_X3_isFloating l (kf a)) (va_cwS 1 hts gX3_set_X3_isFloating rfl rfl rfl (by decide +kernel) ⟨Nat.le_of_ble_eq_true rfl, Nat.le_of_ble_eq_true rfl⟩) ⟨(fun a U g mk q => ⟨q.1, trivial⟩), fun U hU hW9 => ⟨rfl, trivial⟩⟩ rfl rfl hl.1 rfl (lv_room (Nat.le_of_ble_eq_true rfl)) dX3_set_49 ⟨Nat.zero_le _, Nat.zero_le _⟩) (fun r er => ?_)
            subst er
            refine lv_if_eq (tgt := 73) hx hb dX3_set_52 (by decide) (fun c_8 => ?_) (fun c_8 => ?_)
            · refine lv_aload_n hx hb dX3_set_73 rfl (lv_at hl 2 rfl) ?_
              refine va_get (D := (dC, dI)) (ci := 3) (v := .ref na) (C := RX3) (T := TX3) (N := 3) hx hb hts hin hown hK hP 0 rfl rfl 1 (by decide) (hts (.fieldLink RX3 13 "ServoDeskModel" "number" "[J") (by decide +kernel)) (fun _ h9 => h9) rfl dX3_set_74 ?_
              refine lv_iconst (v := (5 : Int32)) hx hb dX3_set_77 (by decide) ?_
              refine lv_iload_n hx hb dX3_set_78 rfl (lv_at hl 3 rfl) ?_
              refine lv_imul hx hb dX3_set_79 ?_
              refine zn_top (n := 5 * a) (pk_mul 5 a) ?_
              refine lv_iload_n hx hb dX3_set_80 rfl (lv_at hl 4 rfl) ?_
              refine lv_iadd hx hb dX3_set_81 ?_
              refine zn_top (n := (5 * a) + w) (nI_add (5 * a) w) ?_
              refine lv_lload hx hb dX3_set_82 (lv_at hl 0 rfl) ?_
              refine zm_last hx hb hK hP hD hS 2 1 rfl rfl (i := (5 * a) + w) (x := v3) (by omega) (by decide) dX3_set_84 (fun H locs hP hD hS => ?_)
              have hP : va_P (dC, dI) vwCl [(m0, .inr (3, [.ref ka, .ref na, .int (nI n)])), (ka, .inl (cI, 8, .inl kf)), (na, .inl (cJ, 40, .inr (.inl (vp_updL nf ((5 * a) + w) v3))))] H := hP
              have hD : va_D A [(m0, .inr (3, [.ref ka, .ref na, .int (nI n)])), (ka, .inl (cI, 8, .inl kf)), (na, .inl (cJ, 40, .inr (.inl (vp_updL nf ((5 * a) + w) v3))))] := hD
              refine lv_iconst (v := (1 : Int32)) hx hb dX3_set_85 (by decide) ?_
              have e9 : fn_X3_set_at n kf nf a w v3 = ((1 : Int32), n, kf, vp_updL nf ((5 * a) + w) v3) := by unfold fn_X3_set_at; rw [if_neg c_4, if_neg c_7, if_pos c_8]
              exact W.zret (v := (1 : Int32)) (ty := .boolean) hx hb hr (by decide) (fun t ht hW9 => ⟨⟨_, (), rfl, by rw [e9], by rw [ht, e9]; exact hP, by rw [e9]; exact hD⟩, hS.F ht⟩) hS.2.2 dX3_set_86
            · refine lv_iload hx hb dX3_set_55 (lv_at hl 1 rfl) ?_
              refine lv_lload hx hb dX3_set_57 (lv_at hl 0 rfl) ?_
              refine vp_callSl (W.runS (As := [.int (kf a), .long v3]) (rest := []) ⟨hx, hb, hml, hown, hts⟩ (ct_X3_size l (kf a) v3) (va_cwS 2 hts gX3_set_X3_size rfl rfl rfl (by decide +kernel) ⟨Nat.le_of_ble_eq_true rfl, Nat.le_of_ble_eq_true rfl⟩) ⟨(fun a U g mk q => ⟨q.1, trivial⟩), fun U hU hW9 => ⟨rfl, trivial⟩⟩ rfl rfl hl.1 rfl (lv_room (Nat.le_of_ble_eq_true rfl)) dX3_set_59 ⟨Nat.zero_le _, Nat.zero_le _⟩) (fun r er => ?_)
              subst er
              refine lv_iload hx hb dX3_set_62 (lv_at hl 1 rfl) ?_
              refine vp_callSl (W.runS (As := [.int (kf a)]) (rest := [.long (fn_X3_size (kf a) v3)]) ⟨hx, hb, hml, hown, hts⟩ (ct_X3_endless l (kf a)) (va_cwS 1 hts gX3_set_X3_endless rfl rfl rfl (by decide +kernel) ⟨Nat.le_of_ble_eq_true rfl, Nat.le_of_ble_eq_true rfl⟩) ⟨(fun a U g mk q => ⟨q.1, trivial⟩), fun U hU hW9 => ⟨rfl, trivial⟩⟩ rfl rfl hl.1 rfl (lv_room (Nat.le_of_ble_eq_true rfl)) dX3_set_64 ⟨Nat.zero_le _, Nat.zero_le _⟩) (fun r er => ?_)
              subst er
              refine zl_le (tgt := 73) hx hb dX3_set_67 dX3_set_68 (by decide) (fun c_9 => ?_) (fun c_9 => ?_)
              · refine lv_aload_n hx hb dX3_set_73 rfl (lv_at hl 2 rfl) ?_
                refine va_get (D := (dC, dI)) (ci := 3) (v := .ref na) (C := RX3) (T := TX3) (N := 3) hx hb hts hin hown hK hP 0 rfl rfl 1 (by decide) (hts (.fieldLink RX3 13 "ServoDeskModel" "number" "[J") (by decide +kernel)) (fun _ h9 => h9) rfl dX3_set_74 ?_
                refine lv_iconst (v := (5 : Int32)) hx hb dX3_set_77 (by decide) ?_
                refine lv_iload_n hx hb dX3_set_78 rfl (lv_at hl 3 rfl) ?_
                refine lv_imul hx hb dX3_set_79 ?_
                refine zn_top (n := 5 * a) (pk_mul 5 a) ?_
                refine lv_iload_n hx hb dX3_set_80 rfl (lv_at hl 4 rfl) ?_
                refine lv_iadd hx hb dX3_set_81 ?_
                refine zn_top (n := (5 * a) + w) (nI_add (5 * a) w) ?_
                refine lv_lload hx hb dX3_set_82 (lv_at hl 0 rfl) ?_
                refine zm_last hx hb hK hP hD hS 2 1 rfl rfl (i := (5 * a) + w) (x := v3) (by omega) (by decide) dX3_set_84 (fun H locs hP hD hS => ?_)
                have hP : va_P (dC, dI) vwCl [(m0, .inr (3, [.ref ka, .ref na, .int (nI n)])), (ka, .inl (cI, 8, .inl kf)), (na, .inl (cJ, 40, .inr (.inl (vp_updL nf ((5 * a) + w) v3))))] H := hP
                have hD : va_D A [(m0, .inr (3, [.ref ka, .ref na, .int (nI n)])), (ka, .inl (cI, 8, .inl kf)), (na, .inl (cJ, 40, .inr (.inl (vp_updL nf ((5 * a) + w) v3))))] := hD
                refine lv_iconst (v := (1 : Int32)) hx hb dX3_set_85 (by decide) ?_
                have e9 : fn_X3_set_at n kf nf a w v3 = ((1 : Int32), n, kf, vp_updL nf ((5 * a) + w) v3) := by unfold fn_X3_set_at; rw [if_neg c_4, if_neg c_7, if_neg c_8, if_pos c_9]
                exact W.zret (v := (1 : Int32)) (ty := .boolean) hx hb hr (by decide) (fun t ht hW9 => ⟨⟨_, (), rfl, by rw [e9], by rw [ht, e9]; exact hP, by rw [e9]; exact hD⟩, hS.F ht⟩) hS.2.2 dX3_set_86
              · refine lv_iconst (v := (0 : Int32)) hx hb dX3_set_71 (by decide) ?_
                have e9 : fn_X3_set_at n kf nf a w v3 = ((0 : Int32), n, kf, nf) := by unfold fn_X3_set_at; rw [if_neg c_4, if_neg c_7, if_neg c_8, if_neg c_9]
                exact W.zret (v := (0 : Int32)) (ty := .boolean) hx hb hr (by decide) (fun t ht hW9 => ⟨⟨_, (), rfl, by rw [e9], by rw [ht, e9]; exact hP, by rw [e9]; exact hD⟩, hS.F ht⟩) hS.2.2 dX3_set_72
          · refine lv_lload_n hx hb dX3_set_38 rfl (lv_at hl 4 rfl) ?_
            refine lv_l2i hx hb dX3_set_39 rfl ?_
            refine lv_i2l hx hb dX3_set_40 rfl ?_
            refine lv_goto (tgt := 45) hx hb dX3_set_41 (by decide) ?_
            refine lv_lstore (lv' := [(6, .long (Int32.toInt64 (Int64.toInt32 v3))), (5, .int (kf a)), (0, .ref m0), (1, .int (nI a)), (2, .int (nI w)), (3, .long v3)]) hx hb dX3_set_45 hl (by decide) rfl (fun ls hl => ?_)
            refine lv_iload hx hb dX3_set_47 (lv_at hl 1 rfl) ?_
            refine vp_callSi (W.runS (As := [.int (kf a)]) (rest := []) ⟨hx, hb, hml, hown, hts⟩ (ct_X3_isFloating l (kf a)) (va_cwS 1 hts gX3_set_X3_isFloating rfl rfl rfl (by decide +kernel) ⟨Nat.le_of_ble_eq_true rfl, Nat.le_of_ble_eq_true rfl⟩) ⟨(fun a U g mk q => ⟨q.1, trivial⟩), fun U hU hW9 => ⟨rfl, trivial⟩⟩ rfl rfl hl.1 rfl (lv_room (Nat.le_of_ble_eq_true rfl)) dX3_set_49 ⟨Nat.zero_le _, Nat.zero_le _⟩) (fun r er => ?_)
            subst er
            refine lv_if_eq (tgt := 73) hx hb dX3_set_52 (by decide) (fun c_10 => ?_) (fun c_10 => ?_)
            · refine lv_aload_n hx hb dX3_set_73 rfl (lv_at hl 2 rfl) ?_
              refine va_get (D := (dC, dI)) (ci := 3) (v := .ref na) (C := RX3) (T := TX3) (N := 3) hx hb hts hin hown hK hP 0 rfl rfl 1 (by decide) (hts (.fieldLink RX3 13 "ServoDeskModel" "number" "[J") (by decide +kernel)) (fun _ h9 => h9) rfl dX3_set_74 ?_
              refine lv_iconst (v := (5 : Int32)) hx hb dX3_set_77 (by decide) ?_
              refine lv_iload_n hx hb dX3_set_78 rfl (lv_at hl 3 rfl) ?_
              refine lv_imul hx hb dX3_set_79 ?_
              refine zn_top (n := 5 * a) (pk_mul 5 a) ?_
              refine lv_iload_n hx hb dX3_set_80 rfl (lv_at hl 4 rfl) ?_
              refine lv_iadd hx hb dX3_set_81 ?_
              refine zn_top (n := (5 * a) + w) (nI_add (5 * a) w) ?_
              refine lv_lload hx hb dX3_set_82 (lv_at hl 0 rfl) ?_
              refine zm_last hx hb hK hP hD hS 2 1 rfl rfl (i := (5 * a) + w) (x := Int32.toInt64 (Int64.toInt32 v3)) (by omega) (by decide) dX3_set_84 (fun H locs hP hD hS => ?_)
              have hP : va_P (dC, dI) vwCl [(m0, .inr (3, [.ref ka, .ref na, .int (nI n)])), (ka, .inl (cI, 8, .inl kf)), (na, .inl (cJ, 40, .inr (.inl (vp_updL nf ((5 * a) + w) (Int32.toInt64 (Int64.toInt32 v3))))))] H := hP
              have hD : va_D A [(m0, .inr (3, [.ref ka, .ref na, .int (nI n)])), (ka, .inl (cI, 8, .inl kf)), (na, .inl (cJ, 40, .inr (.inl (vp_updL nf ((5 * a) + w) (Int32.toInt64 (Int64.toInt32 v3))))))] := hD
              refine lv_iconst (v := (1 : Int32)) hx hb dX3_set_85 (by decide) ?_
              have e9 : fn_X3_set_at n kf nf a w v3 = ((1 : Int32), n, kf, vp_updL nf ((5 * a) + w) (Int32.toInt64 (Int64.toInt32 v3))) := by unfold fn_X3_set_at; rw [if_neg c_4, if_pos c_7, if_pos c_10]
              exact W.zret (v := (1 : Int32)) (ty := .boolean) hx hb hr (by decide) (fun t ht hW9 => ⟨⟨_, (), rfl, by rw [e9], by rw [ht, e9]; exact hP, by rw [e9]; exact hD⟩, hS.F ht⟩) hS.2.2 dX3_set_86
            · refine lv_iload hx hb dX3_set_55 (lv_at hl 1 rfl) ?_
              refine lv_lload hx hb dX3_set_57 (lv_at hl 0 rfl) ?_
              refine vp_callSl (W.runS (As := [.int (kf a), .long (Int32.toInt64 (Int64.toInt32 v3))]) (rest := []) ⟨hx, hb, hml, hown, hts⟩ (ct_X3_size l (kf a) (Int32.toInt64 (Int64.toInt32 v3))) (va_cwS 2 hts gX3_set_X3_size rfl rfl rfl (by decide +kernel) ⟨Nat.le_of_ble_eq_true rfl, Nat.le_of_ble_eq_true rfl⟩) ⟨(fun a U g mk q => ⟨q.1, trivial⟩), fun U hU hW9 => ⟨rfl, trivial⟩⟩ rfl rfl hl.1 rfl (lv_room (Nat.le_of_ble_eq_true rfl)) dX3_set_59 ⟨Nat.zero_le _, Nat.zero_le _⟩) (fun r er => ?_)
              subst er
              refine lv_iload hx hb dX3_set_62 (lv_at hl 1 rfl) ?_
              refine vp_callSl (W.runS (As := [.int (kf a)]) (rest := [.long (fn_X3_size (kf a) (Int32.toInt64 (Int64.toInt32 v3)))]) ⟨hx, hb, hml, hown, hts⟩ (ct_X3_endless l (kf a)) (va_cwS 1 hts gX3_set_X3_endless rfl rfl rfl (by decide +kernel) ⟨Nat.le_of_ble_eq_true rfl, Nat.le_of_ble_eq_true rfl⟩) ⟨(fun a U g mk q => ⟨q.1, trivial⟩), fun U hU hW9 => ⟨rfl, trivial⟩⟩ rfl rfl hl.1 rfl (lv_room (Nat.le_of_ble_eq_true rfl)) dX3_set_64 ⟨Nat.zero_le _, Nat.zero_le _⟩) (fun r er => ?_)
              subst er
              refine zl_le (tgt := 73) hx hb dX3_set_67 dX3_set_68 (by decide) (fun c_11 => ?_) (fun c_11 => ?_)
              · refine lv_aload_n hx hb dX3_set_73 rfl (lv_at hl 2 rfl) ?_
                refine va_get (D := (dC, dI)) (ci := 3) (v := .ref na) (C := RX3) (T := TX3) (N := 3) hx hb hts hin hown hK hP 0 rfl rfl 1 (by decide) (hts (.fieldLink RX3 13 "ServoDeskModel" "number" "[J") (by decide +kernel)) (fun _ h9 => h9) rfl dX3_set_74 ?_
                refine lv_iconst (v := (5 : Int32)) hx hb dX3_set_77 (by decide) ?_
                refine lv_iload_n hx hb dX3_set_78 rfl (lv_at hl 3 rfl) ?_
                refine lv_imul hx hb dX3_set_79 ?_
                refine zn_top (n := 5 * a) (pk_mul 5 a) ?_
                refine lv_iload_n hx hb dX3_set_80 rfl (lv_at hl 4 rfl) ?_
                refine lv_iadd hx hb dX3_set_81 ?_
                refine zn_top (n := (5 * a) + w) (nI_add (5 * a) w) ?_
                refine lv_lload hx hb dX3_set_82 (lv_at hl 0 rfl) ?_
                refine zm_last hx hb hK hP hD hS 2 1 rfl rfl (i := (5 * a) + w) (x := Int32.toInt64 (Int64.toInt32 v3)) (by omega) (by decide) dX3_set_84 (fun H locs hP hD hS => ?_)
                have hP : va_P (dC, dI) vwCl [(m0, .inr (3, [.ref ka, .ref na, .int (nI n)])), (ka, .inl (cI, 8, .inl kf)), (na, .inl (cJ, 40, .inr (.inl (vp_updL nf ((5 * a) + w) (Int32.toInt64 (Int64.toInt32 v3))))))] H := hP
                have hD : va_D A [(m0, .inr (3, [.ref ka, .ref na, .int (nI n)])), (ka, .inl (cI, 8, .inl kf)), (na, .inl (cJ, 40, .inr (.inl (vp_updL nf ((5 * a) + w) (Int32.toInt64 (Int64.toInt32 v3))))))] := hD
                refine lv_iconst (v := (1 : Int32)) hx hb dX3_set_85 (by decide) ?_
                have e9 : fn_X3_set_at n kf nf a w v3 = ((1 : Int32), n, kf, vp_updL nf ((5 * a) + w) (Int32.toInt64 (Int64.toInt32 v3))) := by unfold fn_X3_set_at; rw [if_neg c_4, if_pos c_7, if_neg c_10, if_pos c_11]
                exact W.zret (v := (1 : Int32)) (ty := .boolean) hx hb hr (by decide) (fun t ht hW9 => ⟨⟨_, (), rfl, by rw [e9], by rw [ht, e9]; exact hP, by rw [e9]; exact hD⟩, hS.F ht⟩) hS.2.2 dX3_set_86
              · refine lv_iconst (v := (0 : Int32)) hx hb dX3_set_71 (by decide) ?_
                have e9 : fn_X3_set_at n kf nf a w v3 = ((0 : Int32), n, kf, nf) := by unfold fn_X3_set_at; rw [if_neg c_4, if_pos c_7, if_neg c_10, if_neg c_11]
                exact W.zret (v := (0 : Int32)) (ty := .boolean) hx hb hr (by decide) (fun t ht hW9 => ⟨⟨_, (), rfl, by rw [e9], by rw [ht, e9]; exact hP, by rw [e9]; exact hD⟩, hS.F ht⟩) hS.2.2 dX3_set_72
      · exact absurd (nI_le (a := w) (b := 4) (by omega) (by decide)) c_3
set_option maxHeartbeats 4000000 in
set_option maxRecDepth 100000 in
theorem ct_X3_follow_no (l : Launch) (dC : Nat → ClassId) (dI : Nat → Nat → Nat) (m0 ka na : Nat) (cI cJ : ClassId) (sz n : Nat) (kf : Nat → Int32) (nf : Nat → Int64) (v1 v2 : Int32) (h1 : fn_X3_isAxis n v1 = 0) : Met l yX3_follow wsX3_follow ({ frames := 1, cells := 0, slots := 0, locals := 21 } : Room) (va_Pc [.ref m0, .int v1, .int v2] (fun U => mw dC dI m0 ka na cI cJ sz n kf nf U)) (va_Qi (fun r (_ : Unit) => r = (((0 : Int32), n, kf, nf)).1) (fun _ t => va_P (dC, dI) vwCl (mdW m0 ka na cI cJ (((0 : Int32), n, kf, nf)).2.1 (((0 : Int32), n, kf, nf)).2.2.1 (((0 : Int32), n, kf, nf)).2.2.2) t.heap ∧ va_D (va_A (mdW m0 ka na cI cJ n kf nf) sz) (mdW m0 ka na cI cJ (((0 : Int32), n, kf, nf)).2.1 (((0 : Int32), n, kf, nf)).2.2.1 (((0 : Int32), n, kf, nf)).2.2.2)) (va_A (mdW m0 ka na cI cJ n kf nf) sz)) 0 0 (va_A (mdW m0 ka na cI cJ n kf nf) sz) := by
  refine Met.ofW (cc := cX3_follow) (maxL := 3) (ret := (some .boolean)) (by decide) rfl ?_
  intro p e s m args below meth c s₁ B hml hv
  obtain ⟨rfl, hsz, hP, hK, hD0⟩ := hv
  have hx := B.exec
  have hb := B.bytes
  have hr := B.returns
  have hlocks := B.notSynchronized
  have hts := atoms_spec (ws := wsX3_follow) B.pre
  have hown : s.vm.findClass RX3 = some m.cls := findClass_of_methodNamed B.named
  have hin : ∀ w ∈ u_ws RX3 TX3 3, w ∈ wsX3_follow := fun _ h => List.mem_cons_of_mem _ (List.mem_append_right _ h)
  subst hsz
  have hD := hD0.self (sz := s.heap.size)
  generalize hAe : va_A (mdW m0 ka na cI cJ n kf nf) s.heap.size = A at hD ⊢
  have hA : ∀ q : Nat, s.heap.size ≤ q → A q := fun q h => by rw [← hAe]; exact Or.inr h
  have hS : va_S A s.heap s.heap [] := va_S.rf
  have hP : va_P (dC, dI) vwCl [(m0, .inr (3, [.ref ka, .ref na, .int (nI n)])), (ka, .inl (cI, 8, .inl kf)), (na, .inl (cJ, 40, .inr (.inl nf)))] s.heap := hP
  have hD : va_D A [(m0, .inr (3, [.ref ka, .ref na, .int (nI n)])), (ka, .inl (cI, 8, .inl kf)), (na, .inl (cJ, 40, .inr (.inl nf)))] := hD
  have hl := lv_entry ([.ref m0, .int v1, .int v2]) (n := 3) (Nat.le_of_ble_eq_true rfl)
  rw [lg_entry_eq]
  generalize (lg_sl ([.ref m0, .int v1, .int v2]) ++ List.replicate (3 - (lg_sl ([.ref m0, .int v1, .int v2])).length) Slot.unset).toArray = ls at hl ⊢
  have hl : lv_has ls 3 [(0, .ref m0), (1, .int v1), (2, .int v2)] := hl
  refine lv_aload_n hx hb dX3_follow_0 rfl (lv_at hl 0 rfl) ?_
  refine lv_iload_n hx hb dX3_follow_1 rfl (lv_at hl 1 rfl) ?_
  refine vp_callSi (W.runV (As := [.int v1]) (rest := []) ⟨hx, hb, hml, hown, hts⟩ (ct_X3_isAxis l dC dI m0 ka na cI cJ s.heap.size n kf nf v1) (cwV 1 hts gX3_follow_X3_isAxis rfl rfl rfl (by decide +kernel) ⟨Nat.le_of_ble_eq_true rfl, Nat.le_of_ble_eq_true rfl⟩) ⟨mw_blind, va_recv hK hP (ci := 3) (q0 := 0) rfl rfl, fun U hU hW9 => mw_call hK hP hD hU hW9⟩ rfl rfl hl.1 rfl (lv_room (Nat.le_of_ble_eq_true rfl)) dX3_follow_2 ⟨Nat.zero_le _, Nat.zero_le _⟩) (fun r er => ?_)
  subst er
  refine lv_if_eq (tgt := 16) hx hb dX3_follow_5 (by decide) (fun c_1 => ?_) (fun c_1 => ?_)
  · refine lv_iconst (v := (0 : Int32)) hx hb dX3_follow_16 (by decide) ?_
    have e9 : ((0 : Int32), n, kf, nf) = ((0 : Int32), n, kf, nf) := rfl
    exact W.zret (v := (0 : Int32)) (ty := .boolean) hx hb hr (by decide) (fun t ht hW9 => ⟨⟨_, (), rfl, by rw [e9], by rw [ht, e9]; exact hP, by rw [e9]; exact hD⟩, hS.F ht⟩) hS.2.2 dX3_follow_17
  · exact absurd h1 c_1
set_option maxHeartbeats 4000000 in
set_option maxRecDepth 100000 in
theorem ct_X3_follow_nb (l : Launch) (dC : Nat → ClassId) (dI : Nat → Nat → Nat) (m0 ka na : Nat) (cI cJ : ClassId) (sz n : Nat) (kf : Nat → Int32) (nf : Nat → Int64) (a : Nat) (v2 : Int32) (hn : n ≤ 8) (ha : a < n) (h2 : fn_X3_isAxis n v2 = 0) : Met l yX3_follow wsX3_follow ({ frames := 1, cells := 0, slots := 0, locals := 21 } : Room) (va_Pc [.ref m0, .int (nI a), .int v2] (fun U => mw dC dI m0 ka na cI cJ sz n kf nf U)) (va_Qi (fun r (_ : Unit) => r = (((0 : Int32), n, kf, nf)).1) (fun _ t => va_P (dC, dI) vwCl (mdW m0 ka na cI cJ (((0 : Int32), n, kf, nf)).2.1 (((0 : Int32), n, kf, nf)).2.2.1 (((0 : Int32), n, kf, nf)).2.2.2) t.heap ∧ va_D (va_A (mdW m0 ka na cI cJ n kf nf) sz) (mdW m0 ka na cI cJ (((0 : Int32), n, kf, nf)).2.1 (((0 : Int32), n, kf, nf)).2.2.1 (((0 : Int32), n, kf, nf)).2.2.2)) (va_A (mdW m0 ka na cI cJ n kf nf) sz)) 0 0 (va_A (mdW m0 ka na cI cJ n kf nf) sz) := by
  refine Met.ofW (cc := cX3_follow) (maxL := 3) (ret := (some .boolean)) (by decide) rfl ?_
  intro p e s m args below meth c s₁ B hml hv
  obtain ⟨rfl, hsz, hP, hK, hD0⟩ := hv
  have hx := B.exec
  have hb := B.bytes
  have hr := B.returns
  have hlocks := B.notSynchronized
  have hts := atoms_spec (ws := wsX3_follow) B.pre
  have hown : s.vm.findClass RX3 = some m.cls := findClass_of_methodNamed B.named
  have hin : ∀ w ∈ u_ws RX3 TX3 3, w ∈ wsX3_follow := fun _ h => List.mem_cons_of_mem _ (List.mem_append_right _ h)
  subst hsz
  have hD := hD0.self (sz := s.heap.size)
  generalize hAe : va_A (mdW m0 ka na cI cJ n kf nf) s.heap.size = A at hD ⊢
  have hA : ∀ q : Nat, s.heap.size ≤ q → A q := fun q h => by rw [← hAe]; exact Or.inr h
  have hS : va_S A s.heap s.heap [] := va_S.rf
  have hP : va_P (dC, dI) vwCl [(m0, .inr (3, [.ref ka, .ref na, .int (nI n)])), (ka, .inl (cI, 8, .inl kf)), (na, .inl (cJ, 40, .inr (.inl nf)))] s.heap := hP
  have hD : va_D A [(m0, .inr (3, [.ref ka, .ref na, .int (nI n)])), (ka, .inl (cI, 8, .inl kf)), (na, .inl (cJ, 40, .inr (.inl nf)))] := hD
  have hl := lv_entry ([.ref m0, .int (nI a), .int v2]) (n := 3) (Nat.le_of_ble_eq_true rfl)
  rw [lg_entry_eq]
  generalize (lg_sl ([.ref m0, .int (nI a), .int v2]) ++ List.replicate (3 - (lg_sl ([.ref m0, .int (nI a), .int v2])).length) Slot.unset).toArray = ls at hl ⊢
  have hl : lv_has ls 3 [(0, .ref m0), (1, .int (nI a)), (2, .int v2)] := hl
  refine lv_aload_n hx hb dX3_follow_0 rfl (lv_at hl 0 rfl) ?_
  refine lv_iload_n hx hb dX3_follow_1 rfl (lv_at hl 1 rfl) ?_
  refine vp_callSi (W.runV (As := [.int (nI a)]) (rest := []) ⟨hx, hb, hml, hown, hts⟩ (ct_X3_isAxis l dC dI m0 ka na cI cJ s.heap.size n kf nf (nI a)) (cwV 1 hts gX3_follow_X3_isAxis rfl rfl rfl (by decide +kernel) ⟨Nat.le_of_ble_eq_true rfl, Nat.le_of_ble_eq_true rfl⟩) ⟨mw_blind, va_recv hK hP (ci := 3) (q0 := 0) rfl rfl, fun U hU hW9 => mw_call hK hP hD hU hW9⟩ rfl rfl hl.1 rfl (lv_room (Nat.le_of_ble_eq_true rfl)) dX3_follow_2 ⟨Nat.zero_le _, Nat.zero_le _⟩) (fun r er => ?_)
  subst er
  refine lv_if_eq (tgt := 16) hx hb dX3_follow_5 (by decide) (fun c_1 => ?_) (fun c_1 => ?_)
  · exact absurd c_1 (by rw [isax_in hn ha]; decide)
  · refine lv_aload_n hx hb dX3_follow_8 rfl (lv_at hl 0 rfl) ?_
    refine lv_iload_n hx hb dX3_follow_9 rfl (lv_at hl 2 rfl) ?_
    refine vp_callSi (W.runV (As := [.int v2]) (rest := []) ⟨hx, hb, hml, hown, hts⟩ (ct_X3_isAxis l dC dI m0 ka na cI cJ s.heap.size n kf nf v2) (cwV 1 hts gX3_follow_X3_isAxis rfl rfl rfl (by decide +kernel) ⟨Nat.le_of_ble_eq_true rfl, Nat.le_of_ble_eq_true rfl⟩) ⟨mw_blind, va_recv hK hP (ci := 3) (q0 := 0) rfl rfl, fun U hU hW9 => mw_call hK hP hD hU hW9⟩ rfl rfl hl.1 rfl (lv_room (Nat.le_of_ble_eq_true rfl)) dX3_follow_10 ⟨Nat.zero_le _, Nat.zero_le _⟩) (fun r er => ?_)
    subst er
    refine lv_if_ne (tgt := 18) hx hb dX3_follow_13 (by decide) (fun c_2 => ?_) (fun c_2 => ?_)
    · exact absurd h2 c_2
    · refine lv_iconst (v := (0 : Int32)) hx hb dX3_follow_16 (by decide) ?_
      have e9 : ((0 : Int32), n, kf, nf) = ((0 : Int32), n, kf, nf) := rfl
      exact W.zret (v := (0 : Int32)) (ty := .boolean) hx hb hr (by decide) (fun t ht hW9 => ⟨⟨_, (), rfl, by rw [e9], by rw [ht, e9]; exact hP, by rw [e9]; exact hD⟩, hS.F ht⟩) hS.2.2 dX3_follow_17
set_option maxHeartbeats 4000000 in
set_option maxRecDepth 100000 in
theorem ct_X3_follow_at (l : Launch) (dC : Nat → ClassId) (dI : Nat → Nat → Nat) (m0 ka na : Nat) (cI cJ : ClassId) (sz n : Nat) (kf : Nat → Int32) (nf : Nat → Int64) (a b : Nat) (hn : n ≤ 8) (ha : a < n) (hb0 : b < n) : Met l yX3_follow wsX3_follow ({ frames := 3, cells := 0, slots := 0, locals := 88 } : Room) (va_Pc [.ref m0, .int (nI a), .int (nI b)] (fun U => mw dC dI m0 ka na cI cJ sz n kf nf U)) (va_Qi (fun r (_ : Unit) => r = (((1 : Int32), n, kf, vp_updL nf (5 * a + 0) (fn_X3_turnedInto (kf a) (kf b) (nf (5 * b + 0))))).1) (fun _ t => va_P (dC, dI) vwCl (mdW m0 ka na cI cJ (((1 : Int32), n, kf, vp_updL nf (5 * a + 0) (fn_X3_turnedInto (kf a) (kf b) (nf (5 * b + 0))))).2.1 (((1 : Int32), n, kf, vp_updL nf (5 * a + 0) (fn_X3_turnedInto (kf a) (kf b) (nf (5 * b + 0))))).2.2.1 (((1 : Int32), n, kf, vp_updL nf (5 * a + 0) (fn_X3_turnedInto (kf a) (kf b) (nf (5 * b + 0))))).2.2.2) t.heap ∧ va_D (va_A (mdW m0 ka na cI cJ n kf nf) sz) (mdW m0 ka na cI cJ (((1 : Int32), n, kf, vp_updL nf (5 * a + 0) (fn_X3_turnedInto (kf a) (kf b) (nf (5 * b + 0))))).2.1 (((1 : Int32), n, kf, vp_updL nf (5 * a + 0) (fn_X3_turnedInto (kf a) (kf b) (nf (5 * b + 0))))).2.2.1 (((1 : Int32), n, kf, vp_updL nf (5 * a + 0) (fn_X3_turnedInto (kf a) (kf b) (nf (5 * b + 0))))).2.2.2)) (va_A (mdW m0 ka na cI cJ n kf nf) sz)) 0 0 (va_A (mdW m0 ka na cI cJ n kf nf) sz) := by
  refine Met.ofW (cc := cX3_follow) (maxL := 3) (ret := (some .boolean)) (by decide) rfl ?_
  intro p e s m args below meth c s₁ B hml hv
  obtain ⟨rfl, hsz, hP, hK, hD0⟩ := hv
  have hx := B.exec
  have hb := B.bytes
  have hr := B.returns
  have hlocks := B.notSynchronized
  have hts := atoms_spec (ws := wsX3_follow) B.pre
  have hown : s.vm.findClass RX3 = some m.cls := findClass_of_methodNamed B.named
  have hin : ∀ w ∈ u_ws RX3 TX3 3, w ∈ wsX3_follow := fun _ h => List.mem_cons_of_mem _ (List.mem_append_right _ h)
  subst hsz
  have hD := hD0.self (sz := s.heap.size)
  generalize hAe : va_A (mdW m0 ka na cI cJ n kf nf) s.heap.size = A at hD ⊢
  have hA : ∀ q : Nat, s.heap.size ≤ q → A q := fun q h => by rw [← hAe]; exact Or.inr h
  have hS : va_S A s.heap s.heap [] := va_S.rf
  have hP : va_P (dC, dI) vwCl [(m0, .inr (3, [.ref ka, .ref na, .int (nI n)])), (ka, .inl (cI, 8, .inl kf)), (na, .inl (cJ, 40, .inr (.inl nf)))] s.heap := hP
  have hD : va_D A [(m0, .inr (3, [.ref ka, .ref na, .int (nI n)])), (ka, .inl (cI, 8, .inl kf)), (na, .inl (cJ, 40, .inr (.inl nf)))] := hD
  have hl := lv_entry ([.ref m0, .int (nI a), .int (nI b)]) (n := 3) (Nat.le_of_ble_eq_true rfl)
  rw [lg_entry_eq]
  generalize (lg_sl ([.ref m0, .int (nI a), .int (nI b)]) ++ List.replicate (3 - (lg_sl ([.ref m0, .int (nI a), .int (nI b)])).length) Slot.unset).toArray = ls at hl ⊢
  have hl : lv_has ls 3 [(0, .ref m0), (1, .int (nI a)), (2, .int (nI b))] := hl
  refine lv_aload_n hx hb dX3_follow_0 rfl (lv_at hl 0 rfl) ?_
  refine lv_iload_n hx hb dX3_follow_1 rfl (lv_at hl 1 rfl) ?_
  refine vp_callSi (W.runV (As := [.int (nI a)]) (rest := []) ⟨hx, hb, hml, hown, hts⟩ (ct_X3_isAxis l dC dI m0 ka na cI cJ s.heap.size n kf nf (nI a)) (cwV 1 hts gX3_follow_X3_isAxis rfl rfl rfl (by decide +kernel) ⟨Nat.le_of_ble_eq_true rfl, Nat.le_of_ble_eq_true rfl⟩) ⟨mw_blind, va_recv hK hP (ci := 3) (q0 := 0) rfl rfl, fun U hU hW9 => mw_call hK hP hD hU hW9⟩ rfl rfl hl.1 rfl (lv_room (Nat.le_of_ble_eq_true rfl)) dX3_follow_2 ⟨Nat.zero_le _, Nat.zero_le _⟩) (fun r er => ?_)
  subst er
  refine lv_if_eq (tgt := 16) hx hb dX3_follow_5 (by decide) (fun c_1 => ?_) (fun c_1 => ?_)
  · exact absurd c_1 (by rw [isax_in hn ha]; decide)
  · refine lv_aload_n hx hb dX3_follow_8 rfl (lv_at hl 0 rfl) ?_
    refine lv_iload_n hx hb dX3_follow_9 rfl (lv_at hl 2 rfl) ?_
    refine vp_callSi (W.runV (As := [.int (nI b)]) (rest := []) ⟨hx, hb, hml, hown, hts⟩ (ct_X3_isAxis l dC dI m0 ka na cI cJ s.heap.size n kf nf (nI b)) (cwV 1 hts gX3_follow_X3_isAxis rfl rfl rfl (by decide +kernel) ⟨Nat.le_of_ble_eq_true rfl, Nat.le_of_ble_eq_true rfl⟩) ⟨mw_blind, va_recv hK hP (ci := 3) (q0 := 0) rfl rfl, fun U hU hW9 => mw_call hK hP hD hU hW9⟩ rfl rfl hl.1 rfl (lv_room (Nat.le_of_ble_eq_true rfl)) dX3_follow_10 ⟨Nat.zero_le _, Nat.zero_le _⟩) (fun r er => ?_)
    subst er
    refine lv_if_ne (tgt := 18) hx hb dX3_follow_13 (by decide) (fun c_2 => ?_) (fun c_2 => ?_)
    · refine lv_aload_n hx hb dX3_follow_18 rfl (lv_at hl 0 rfl) ?_
      refine va_get (D := (dC, dI)) (ci := 3) (v := .ref na) (C := RX3) (T := TX3) (N := 3) hx hb hts hin hown hK hP 0 rfl rfl 1 (by decide) (hts (.fieldLink RX3 13 "ServoDeskModel" "number" "[J") (by decide +kernel)) (fun _ h9 => h9) rfl dX3_follow_19 ?_
      refine lv_iconst (v := (5 : Int32)) hx hb dX3_follow_22 (by decide) ?_
      refine lv_iload_n hx hb dX3_follow_23 rfl (lv_at hl 1 rfl) ?_
      refine lv_imul hx hb dX3_follow_24 ?_
      refine zn_top (n := 5 * a) (pk_mul 5 a) ?_
      refine lv_iconst (v := (0 : Int32)) hx hb dX3_follow_25 (by decide) ?_
      refine lv_iadd hx hb dX3_follow_26 ?_
      refine zn_top (n := (5 * a) + 0) (nI_add (5 * a) 0) ?_
      refine lv_aload_n hx hb dX3_follow_27 rfl (lv_at hl 0 rfl) ?_
      refine va_get (D := (dC, dI)) (ci := 3) (v := .ref ka) (C := RX3) (T := TX3) (N := 3) hx hb hts hin hown hK hP 0 rfl rfl 0 (by decide) (hts (.fieldLink RX3 7 "ServoDeskModel" "kind" "[I") (by decide +kernel)) (fun _ h9 => h9) rfl dX3_follow_28 ?_
      refine lv_iload_n hx hb dX3_follow_31 rfl (lv_at hl 1 rfl) ?_
      refine zm_iald hx hb hK hP 1 0 rfl rfl (i := a) (by omega) (by decide) dX3_follow_32 ?_
      refine lv_aload_n hx hb dX3_follow_33 rfl (lv_at hl 0 rfl) ?_
      refine va_get (D := (dC, dI)) (ci := 3) (v := .ref ka) (C := RX3) (T := TX3) (N := 3) hx hb hts hin hown hK hP 0 rfl rfl 0 (by decide) (hts (.fieldLink RX3 7 "ServoDeskModel" "kind" "[I") (by decide +kernel)) (fun _ h9 => h9) rfl dX3_follow_34 ?_
      refine lv_iload_n hx hb dX3_follow_37 rfl (lv_at hl 2 rfl) ?_
      refine zm_iald hx hb hK hP 1 0 rfl rfl (i := b) (by omega) (by decide) dX3_follow_38 ?_
      refine lv_aload_n hx hb dX3_follow_39 rfl (lv_at hl 0 rfl) ?_
      refine va_get (D := (dC, dI)) (ci := 3) (v := .ref na) (C := RX3) (T := TX3) (N := 3) hx hb hts hin hown hK hP 0 rfl rfl 1 (by decide) (hts (.fieldLink RX3 13 "ServoDeskModel" "number" "[J") (by decide +kernel)) (fun _ h9 => h9) rfl dX3_follow_40 ?_
      refine lv_iconst (v := (5 : Int32)) hx hb dX3_follow_43 (by decide) ?_
      refine lv_iload_n hx hb dX3_follow_44 rfl (lv_at hl 2 rfl) ?_
      refine lv_imul hx hb dX3_follow_45 ?_
      refine zn_top (n := 5 * b) (pk_mul 5 b) ?_
      refine lv_iconst (v := (0 : Int32)) hx hb dX3_follow_46 (by decide) ?_
      refine lv_iadd hx hb dX3_follow_47 ?_
      refine zn_top (n := (5 * b) + 0) (nI_add (5 * b) 0) ?_
      refine zm_lald hx hb hK hP 2 1 rfl rfl (i := (5 * b) + 0) (by omega) (by decide) dX3_follow_48 ?_
      refine vp_callSl (W.runS (As := [.int (kf a), .int (kf b), .long (nf ((5 * b) + 0))]) (rest := [.int (nI ((5 * a) + 0)), .ref na]) ⟨hx, hb, hml, hown, hts⟩ (ct_X3_turnedInto l (kf a) (kf b) (nf ((5 * b) + 0))) (va_cwS 3 hts gX3_follow_X3_turnedInto rfl rfl rfl (by decide +kernel) ⟨Nat.le_of_ble_eq_true rfl, Nat.le_of_ble_eq_true rfl⟩) ⟨(fun a U g mk q => ⟨q.1, trivial⟩), fun U hU hW9 => ⟨rfl, trivial⟩⟩ rfl rfl hl.1 rfl (lv_room (Nat.le_of_ble_eq_true rfl)) dX3_follow_49 ⟨Nat.zero_le _, Nat.zero_le _⟩) (fun r er => ?_)
      subst er
      refine zm_last hx hb hK hP hD hS 2 1 rfl rfl (i := (5 * a) + 0) (x := fn_X3_turnedInto (kf a) (kf b) (nf ((5 * b) + 0))) (by omega) (by decide) dX3_follow_52 (fun H locs hP hD hS => ?_)
      have hP : va_P (dC, dI) vwCl [(m0, .inr (3, [.ref ka, .ref na, .int (nI n)])), (ka, .inl (cI, 8, .inl kf)), (na, .inl (cJ, 40, .inr (.inl (vp_updL nf ((5 * a) + 0) (fn_X3_turnedInto (kf a) (kf b) (nf ((5 * b) + 0)))))))] H := hP
      have hD : va_D A [(m0, .inr (3, [.ref ka, .ref na, .int (nI n)])), (ka, .inl (cI, 8, .inl kf)), (na, .inl (cJ, 40, .inr (.inl (vp_updL nf ((5 * a) + 0) (fn_X3_turnedInto (kf a) (kf b) (nf ((5 * b) + 0)))))))] := hD
      refine lv_iconst (v := (1 : Int32)) hx hb dX3_follow_53 (by decide) ?_
      have e9 : ((1 : Int32), n, kf, vp_updL nf (5 * a + 0) (fn_X3_turnedInto (kf a) (kf b) (nf (5 * b + 0)))) = ((1 : Int32), n, kf, vp_updL nf ((5 * a) + 0) (fn_X3_turnedInto (kf a) (kf b) (nf ((5 * b) + 0)))) := rfl
      exact W.zret (v := (1 : Int32)) (ty := .boolean) hx hb hr (by decide) (fun t ht hW9 => ⟨⟨_, (), rfl, by rw [e9], by rw [ht, e9]; exact hP, by rw [e9]; exact hD⟩, hS.F ht⟩) hS.2.2 dX3_follow_54
    · exact absurd c_2 (by rw [isax_in hn hb0]; decide)
set_option maxHeartbeats 4000000 in
set_option maxRecDepth 100000 in
theorem ct_X3_order_no (l : Launch) (dC : Nat → ClassId) (dI : Nat → Nat → Nat) (m0 ka na : Nat) (cI cJ : ClassId) (sz n : Nat) (kf : Nat → Int32) (nf : Nat → Int64) (v1 v2 : Int32) (h1 : fn_X3_isAxis n v1 = 0) : Met l yX3_order wsX3_order ({ frames := 1, cells := 0, slots := 0, locals := 21 } : Room) (va_Pc [.ref m0, .int v1, .int v2] (fun U => mw dC dI m0 ka na cI cJ sz n kf nf U)) (vp_Si (fun r => r = (-2 : Int32))) 0 0 (fun _ => False) := by
  refine Met.ofW (cc := cX3_order) (maxL := 7) (ret := (some .int)) (by decide) rfl ?_
  intro p e s m args below meth c s₁ B hml hv
  obtain ⟨rfl, hsz, hP, hK, hD0⟩ := hv
  have hx := B.exec
  have hb := B.bytes
  have hr := B.returns
  have hlocks := B.notSynchronized
  have hts := atoms_spec (ws := wsX3_order) B.pre
  have hown : s.vm.findClass RX3 = some m.cls := findClass_of_methodNamed B.named
  have hin : ∀ w ∈ u_ws RX3 TX3 3, w ∈ wsX3_order := fun _ h => List.mem_cons_of_mem _ (List.mem_append_right _ h)
  subst hsz
  have hD := hD0.self (sz := s.heap.size)
  generalize hAe : va_A (mdW m0 ka na cI cJ n kf nf) s.heap.size = A at hD ⊢
  have hA : ∀ q : Nat, s.heap.size ≤ q → A q := fun q h => by rw [← hAe]; exact Or.inr h
  have hS : va_S A s.heap s.heap [] := va_S.rf
  have hP : va_P (dC, dI) vwCl [(m0, .inr (3, [.ref ka, .ref na, .int (nI n)])), (ka, .inl (cI, 8, .inl kf)), (na, .inl (cJ, 40, .inr (.inl nf)))] s.heap := hP
  have hD : va_D A [(m0, .inr (3, [.ref ka, .ref na, .int (nI n)])), (ka, .inl (cI, 8, .inl kf)), (na, .inl (cJ, 40, .inr (.inl nf)))] := hD
  have hl := lv_entry ([.ref m0, .int v1, .int v2]) (n := 7) (Nat.le_of_ble_eq_true rfl)
  rw [lg_entry_eq]
  generalize (lg_sl ([.ref m0, .int v1, .int v2]) ++ List.replicate (7 - (lg_sl ([.ref m0, .int v1, .int v2])).length) Slot.unset).toArray = ls at hl ⊢
  have hl : lv_has ls 7 [(0, .ref m0), (1, .int v1), (2, .int v2)] := hl
  refine lv_aload_n hx hb dX3_order_0 rfl (lv_at hl 0 rfl) ?_
  refine lv_iload_n hx hb dX3_order_1 rfl (lv_at hl 1 rfl) ?_
  refine vp_callSi (W.runV (As := [.int v1]) (rest := []) ⟨hx, hb, hml, hown, hts⟩ (ct_X3_isAxis l dC dI m0 ka na cI cJ s.heap.size n kf nf v1) (cwV 1 hts gX3_order_X3_isAxis rfl rfl rfl (by decide +kernel) ⟨Nat.le_of_ble_eq_true rfl, Nat.le_of_ble_eq_true rfl⟩) ⟨mw_blind, va_recv hK hP (ci := 3) (q0 := 0) rfl rfl, fun U hU hW9 => mw_call hK hP hD hU hW9⟩ rfl rfl hl.1 rfl (lv_room (Nat.le_of_ble_eq_true rfl)) dX3_order_2 ⟨Nat.zero_le _, Nat.zero_le _⟩) (fun r er => ?_)
  subst er
  refine lv_if_eq (tgt := 31) hx hb dX3_order_5 (by decide) (fun c_1 => ?_) (fun c_1 => ?_)
  · refine lv_bipush (v := (-2 : Int32)) hx hb dX3_order_31 (by decide) ?_
    have e9 : (-2 : Int32) = (-2 : Int32) := rfl
    exact W.iret (v := (-2 : Int32)) hx hb hr (fun t ht hW9 => ⟨_, rfl, by rw [e9], ht⟩) (fun _ h => by cases h) dX3_order_33
  · exact absurd h1 c_1
set_option maxHeartbeats 4000000 in
set_option maxRecDepth 100000 in
theorem ct_X3_order_nb (l : Launch) (dC : Nat → ClassId) (dI : Nat → Nat → Nat) (m0 ka na : Nat) (cI cJ : ClassId) (sz n : Nat) (kf : Nat → Int32) (nf : Nat → Int64) (a : Nat) (v2 : Int32) (hn : n ≤ 8) (ha : a < n) (h2 : fn_X3_isAxis n v2 = 0) : Met l yX3_order wsX3_order ({ frames := 1, cells := 0, slots := 0, locals := 21 } : Room) (va_Pc [.ref m0, .int (nI a), .int v2] (fun U => mw dC dI m0 ka na cI cJ sz n kf nf U)) (vp_Si (fun r => r = (-2 : Int32))) 0 0 (fun _ => False) := by
  refine Met.ofW (cc := cX3_order) (maxL := 7) (ret := (some .int)) (by decide) rfl ?_
  intro p e s m args below meth c s₁ B hml hv
  obtain ⟨rfl, hsz, hP, hK, hD0⟩ := hv
  have hx := B.exec
  have hb := B.bytes
  have hr := B.returns
  have hlocks := B.notSynchronized
  have hts := atoms_spec (ws := wsX3_order) B.pre
  have hown : s.vm.findClass RX3 = some m.cls := findClass_of_methodNamed B.named
  have hin : ∀ w ∈ u_ws RX3 TX3 3, w ∈ wsX3_order := fun _ h => List.mem_cons_of_mem _ (List.mem_append_right _ h)
  subst hsz
  have hD := hD0.self (sz := s.heap.size)
  generalize hAe : va_A (mdW m0 ka na cI cJ n kf nf) s.heap.size = A at hD ⊢
  have hA : ∀ q : Nat, s.heap.size ≤ q → A q := fun q h => by rw [← hAe]; exact Or.inr h
  have hS : va_S A s.heap s.heap [] := va_S.rf
  have hP : va_P (dC, dI) vwCl [(m0, .inr (3, [.ref ka, .ref na, .int (nI n)])), (ka, .inl (cI, 8, .inl kf)), (na, .inl (cJ, 40, .inr (.inl nf)))] s.heap := hP
  have hD : va_D A [(m0, .inr (3, [.ref ka, .ref na, .int (nI n)])), (ka, .inl (cI, 8, .inl kf)), (na, .inl (cJ, 40, .inr (.inl nf)))] := hD
  have hl := lv_entry ([.ref m0, .int (nI a), .int v2]) (n := 7) (Nat.le_of_ble_eq_true rfl)
  rw [lg_entry_eq]
  generalize (lg_sl ([.ref m0, .int (nI a), .int v2]) ++ List.replicate (7 - (lg_sl ([.ref m0, .int (nI a), .int v2])).length) Slot.unset).toArray = ls at hl ⊢
  have hl : lv_has ls 7 [(0, .ref m0), (1, .int (nI a)), (2, .int v2)] := hl
  refine lv_aload_n hx hb dX3_order_0 rfl (lv_at hl 0 rfl) ?_
  refine lv_iload_n hx hb dX3_order_1 rfl (lv_at hl 1 rfl) ?_
  refine vp_callSi (W.runV (As := [.int (nI a)]) (rest := []) ⟨hx, hb, hml, hown, hts⟩ (ct_X3_isAxis l dC dI m0 ka na cI cJ s.heap.size n kf nf (nI a)) (cwV 1 hts gX3_order_X3_isAxis rfl rfl rfl (by decide +kernel) ⟨Nat.le_of_ble_eq_true rfl, Nat.le_of_ble_eq_true rfl⟩) ⟨mw_blind, va_recv hK hP (ci := 3) (q0 := 0) rfl rfl, fun U hU hW9 => mw_call hK hP hD hU hW9⟩ rfl rfl hl.1 rfl (lv_room (Nat.le_of_ble_eq_true rfl)) dX3_order_2 ⟨Nat.zero_le _, Nat.zero_le _⟩) (fun r er => ?_)
  subst er
  refine lv_if_eq (tgt := 31) hx hb dX3_order_5 (by decide) (fun c_1 => ?_) (fun c_1 => ?_)
  · exact absurd c_1 (by rw [isax_in hn ha]; decide)
  · refine lv_aload_n hx hb dX3_order_8 rfl (lv_at hl 0 rfl) ?_
    refine lv_iload_n hx hb dX3_order_9 rfl (lv_at hl 2 rfl) ?_
    refine vp_callSi (W.runV (As := [.int v2]) (rest := []) ⟨hx, hb, hml, hown, hts⟩ (ct_X3_isAxis l dC dI m0 ka na cI cJ s.heap.size n kf nf v2) (cwV 1 hts gX3_order_X3_isAxis rfl rfl rfl (by decide +kernel) ⟨Nat.le_of_ble_eq_true rfl, Nat.le_of_ble_eq_true rfl⟩) ⟨mw_blind, va_recv hK hP (ci := 3) (q0 := 0) rfl rfl, fun U hU hW9 => mw_call hK hP hD hU hW9⟩ rfl rfl hl.1 rfl (lv_room (Nat.le_of_ble_eq_true rfl)) dX3_order_10 ⟨Nat.zero_le _, Nat.zero_le _⟩) (fun r er => ?_)
    subst er
    refine lv_if_eq (tgt := 31) hx hb dX3_order_13 (by decide) (fun c_2 => ?_) (fun c_2 => ?_)
    · refine lv_bipush (v := (-2 : Int32)) hx hb dX3_order_31 (by decide) ?_
      have e9 : (-2 : Int32) = (-2 : Int32) := rfl
      exact W.iret (v := (-2 : Int32)) hx hb hr (fun t ht hW9 => ⟨_, rfl, by rw [e9], ht⟩) (fun _ h => by cases h) dX3_order_33
    · exact absurd h2 c_2
def fn_X3_order_at (kf : Nat → Int32) (nf : Nat → Int64) (a b : Nat) : Int32 :=
  if (kf a) = (kf b) then
    if (fn_X3_rank (kf b) (nf ((5 * b) + 0))) ≤ (fn_X3_rank (kf a) (nf ((5 * a) + 0))) then
      if (fn_X3_rank (kf a) (nf ((5 * a) + 0))) ≤ (fn_X3_rank (kf b) (nf ((5 * b) + 0))) then
        (0 : Int32)
      else
        (1 : Int32)
    else
      (-1 : Int32)
  else
    (-2 : Int32)
set_option maxHeartbeats 4000000 in
set_option maxRecDepth 100000 in
theorem ct_X3_order_at (l : Launch) (dC : Nat → ClassId) (dI : Nat → Nat → Nat) (m0 ka na : Nat) (cI cJ : ClassId) (sz n : Nat) (kf : Nat → Int32) (nf : Nat → Int64) (a b : Nat) (hn : n ≤ 8) (ha : a < n) (hb0 : b < n) : Met l yX3_order wsX3_order ({ frames := 2, cells := 0, slots := 0, locals := 44 } : Room) (va_Pc [.ref m0, .int (nI a), .int (nI b)] (fun U => mw dC dI m0 ka na cI cJ sz n kf nf U)) (vp_Si (fun r => r = fn_X3_order_at kf nf a b)) 0 0 (fun _ => False) := by
  refine Met.ofW (cc := cX3_order) (maxL := 7) (ret := (some .int)) (by decide) rfl ?_
  intro p e s m args below meth c s₁ B hml hv
  obtain ⟨rfl, hsz, hP, hK, hD0⟩ := hv
  have hx := B.exec
  have hb := B.bytes
  have hr := B.returns
  have hlocks := B.notSynchronized
  have hts := atoms_spec (ws := wsX3_order) B.pre
  have hown : s.vm.findClass RX3 = some m.cls := findClass_of_methodNamed B.named
  have hin : ∀ w ∈ u_ws RX3 TX3 3, w ∈ wsX3_order := fun _ h => List.mem_cons_of_mem _ (List.mem_append_right _ h)
  subst hsz
  have hD := hD0.self (sz := s.heap.size)
  generalize hAe : va_A (mdW m0 ka na cI cJ n kf nf) s.heap.size = A at hD ⊢
  have hA : ∀ q : Nat, s.heap.size ≤ q → A q := fun q h => by rw [← hAe]; exact Or.inr h
  have hS : va_S A s.heap s.heap [] := va_S.rf
  have hP : va_P (dC, dI) vwCl [(m0, .inr (3, [.ref ka, .ref na, .int (nI n)])), (ka, .inl (cI, 8, .inl kf)), (na, .inl (cJ, 40, .inr (.inl nf)))] s.heap := hP
  have hD : va_D A [(m0, .inr (3, [.ref ka, .ref na, .int (nI n)])), (ka, .inl (cI, 8, .inl kf)), (na, .inl (cJ, 40, .inr (.inl nf)))] := hD
  have hl := lv_entry ([.ref m0, .int (nI a), .int (nI b)]) (n := 7) (Nat.le_of_ble_eq_true rfl)
  rw [lg_entry_eq]
  generalize (lg_sl ([.ref m0, .int (nI a), .int (nI b)]) ++ List.replicate (7 - (lg_sl ([.ref m0, .int (nI a), .int (nI b)])).length) Slot.unset).toArray = ls at hl ⊢
  have hl : lv_has ls 7 [(0, .ref m0), (1, .int (nI a)), (2, .int (nI b))] := hl
  refine lv_aload_n hx hb dX3_order_0 rfl (lv_at hl 0 rfl) ?_
  refine lv_iload_n hx hb dX3_order_1 rfl (lv_at hl 1 rfl) ?_
  refine vp_callSi (W.runV (As := [.int (nI a)]) (rest := []) ⟨hx, hb, hml, hown, hts⟩ (ct_X3_isAxis l dC dI m0 ka na cI cJ s.heap.size n kf nf (nI a)) (cwV 1 hts gX3_order_X3_isAxis rfl rfl rfl (by decide +kernel) ⟨Nat.le_of_ble_eq_true rfl, Nat.le_of_ble_eq_true rfl⟩) ⟨mw_blind, va_recv hK hP (ci := 3) (q0 := 0) rfl rfl, fun U hU hW9 => mw_call hK hP hD hU hW9⟩ rfl rfl hl.1 rfl (lv_room (Nat.le_of_ble_eq_true rfl)) dX3_order_2 ⟨Nat.zero_le _, Nat.zero_le _⟩) (fun r er => ?_)
  subst er
  refine lv_if_eq (tgt := 31) hx hb dX3_order_5 (by decide) (fun c_1 => ?_) (fun c_1 => ?_)
  · exact absurd c_1 (by rw [isax_in hn ha]; decide)
  · refine lv_aload_n hx hb dX3_order_8 rfl (lv_at hl 0 rfl) ?_
    refine lv_iload_n hx hb dX3_order_9 rfl (lv_at hl 2 rfl) ?_
    refine vp_callSi (W.runV (As := [.int (nI b)]) (rest := []) ⟨hx, hb, hml, hown, hts⟩ (ct_X3_isAxis l dC dI m0 ka na cI cJ s.heap.size n kf nf (nI b)) (cwV 1 hts gX3_order_X3_isAxis rfl rfl rfl (by decide +kernel) ⟨Nat.le_of_ble_eq_true rfl, Nat.le_of_ble_eq_true rfl⟩) ⟨mw_blind, va_recv hK hP (ci := 3) (q0 := 0) rfl rfl, fun U hU hW9 => mw_call hK hP hD hU hW9⟩ rfl rfl hl.1 rfl (lv_room (Nat.le_of_ble_eq_true rfl)) dX3_order_10 ⟨Nat.zero_le _, Nat.zero_le _⟩) (fun r er => ?_)
    subst er
    refine lv_if_eq (tgt := 31) hx hb dX3_order_13 (by decide) (fun c_2 => ?_) (fun c_2 => ?_)
    · exact absurd c_2 (by rw [isax_in hn hb0]; decide)
    · refine lv_aload_n hx hb dX3_order_16 rfl (lv_at hl 0 rfl) ?_
      refine va_get (D := (dC, dI)) (ci := 3) (v := .ref ka) (C := RX3) (T := TX3) (N := 3) hx hb hts hin hown hK hP 0 rfl rfl 0 (by decide) (hts (.fieldLink RX3 7 "ServoDeskModel" "kind" "[I") (by decide +kernel)) (fun _ h9 => h9) rfl dX3_order_17 ?_
      refine lv_iload_n hx hb dX3_order_20 rfl (lv_at hl 1 rfl) ?_
      refine zm_iald hx hb hK hP 1 0 rfl rfl (i := a) (by omega) (by decide) dX3_order_21 ?_
      refine lv_aload_n hx hb dX3_order_22 rfl (lv_at hl 0 rfl) ?_
      refine va_get (D := (dC, dI)) (ci := 3) (v := .ref ka) (C := RX3) (T := TX3) (N := 3) hx hb hts hin hown hK hP 0 rfl rfl 0 (by decide) (hts (.fieldLink RX3 7 "ServoDeskModel" "kind" "[I") (by decide +kernel)) (fun _ h9 => h9) rfl dX3_order_23 ?_
      refine lv_iload_n hx hb dX3_order_26 rfl (lv_at hl 2 rfl) ?_
      refine zm_iald hx hb hK hP 1 0 rfl rfl (i := b) (by omega) (by decide) dX3_order_27 ?_
      refine lv_icmp_eq (tgt := 34) hx hb dX3_order_28 (by decide) (fun c_3 => ?_) (fun c_3 => ?_)
      · refine lv_aload_n hx hb dX3_order_34 rfl (lv_at hl 0 rfl) ?_
        refine va_get (D := (dC, dI)) (ci := 3) (v := .ref ka) (C := RX3) (T := TX3) (N := 3) hx hb hts hin hown hK hP 0 rfl rfl 0 (by decide) (hts (.fieldLink RX3 7 "ServoDeskModel" "kind" "[I") (by decide +kernel)) (fun _ h9 => h9) rfl dX3_order_35 ?_
        refine lv_iload_n hx hb dX3_order_38 rfl (lv_at hl 1 rfl) ?_
        refine zm_iald hx hb hK hP 1 0 rfl rfl (i := a) (by omega) (by decide) dX3_order_39 ?_
        refine lv_aload_n hx hb dX3_order_40 rfl (lv_at hl 0 rfl) ?_
        refine va_get (D := (dC, dI)) (ci := 3) (v := .ref na) (C := RX3) (T := TX3) (N := 3) hx hb hts hin hown hK hP 0 rfl rfl 1 (by decide) (hts (.fieldLink RX3 13 "ServoDeskModel" "number" "[J") (by decide +kernel)) (fun _ h9 => h9) rfl dX3_order_41 ?_
        refine lv_iconst (v := (5 : Int32)) hx hb dX3_order_44 (by decide) ?_
        refine lv_iload_n hx hb dX3_order_45 rfl (lv_at hl 1 rfl) ?_
        refine lv_imul hx hb dX3_order_46 ?_
        refine zn_top (n := 5 * a) (pk_mul 5 a) ?_
        refine lv_iconst (v := (0 : Int32)) hx hb dX3_order_47 (by decide) ?_
        refine lv_iadd hx hb dX3_order_48 ?_
        refine zn_top (n := (5 * a) + 0) (nI_add (5 * a) 0) ?_
        refine zm_lald hx hb hK hP 2 1 rfl rfl (i := (5 * a) + 0) (by omega) (by decide) dX3_order_49 ?_
        refine vp_callSl (W.runS (As := [.int (kf a), .long (nf ((5 * a) + 0))]) (rest := []) ⟨hx, hb, hml, hown, hts⟩ (ct_X3_rank l (kf a) (nf ((5 * a) + 0))) (va_cwS 2 hts gX3_order_X3_rank rfl rfl rfl (by decide +kernel) ⟨Nat.le_of_ble_eq_true rfl, Nat.le_of_ble_eq_true rfl⟩) ⟨(fun a U g mk q => ⟨q.1, trivial⟩), fun U hU hW9 => ⟨rfl, trivial⟩⟩ rfl rfl hl.1 rfl (lv_room (Nat.le_of_ble_eq_true rfl)) dX3_order_50 ⟨Nat.zero_le _, Nat.zero_le _⟩) (fun r er => ?_)
        subst er
        refine lv_lstore_n (lv' := [(3, .long (fn_X3_rank (kf a) (nf ((5 * a) + 0)))), (0, .ref m0), (1, .int (nI a)), (2, .int (nI b))]) hx hb dX3_order_53 rfl hl (by decide) rfl (fun ls hl => ?_)
        refine lv_aload_n hx hb dX3_order_54 rfl (lv_at hl 1 rfl) ?_
        refine va_get (D := (dC, dI)) (ci := 3) (v := .ref ka) (C := RX3) (T := TX3) (N := 3) hx hb hts hin hown hK hP 0 rfl rfl 0 (by decide) (hts (.fieldLink RX3 7 "ServoDeskModel" "kind" "[I") (by decide +kernel)) (fun _ h9 => h9) rfl dX3_order_55 ?_
        refine lv_iload_n hx hb dX3_order_58 rfl (lv_at hl 3 rfl) ?_
        refine zm_iald hx hb hK hP 1 0 rfl rfl (i := b) (by omega) (by decide) dX3_order_59 ?_
        refine lv_aload_n hx hb dX3_order_60 rfl (lv_at hl 1 rfl) ?_
        refine va_get (D := (dC, dI)) (ci := 3) (v := .ref na) (C := RX3) (T := TX3) (N := 3) hx hb hts hin hown hK hP 0 rfl rfl 1 (by decide) (hts (.fieldLink RX3 13 "ServoDeskModel" "number" "[J") (by decide +kernel)) (fun _ h9 => h9) rfl dX3_order_61 ?_
        refine lv_iconst (v := (5 : Int32)) hx hb dX3_order_64 (by decide) ?_
        refine lv_iload_n hx hb dX3_order_65 rfl (lv_at hl 3 rfl) ?_
        refine lv_imul hx hb dX3_order_66 ?_
        refine zn_top (n := 5 * b) (pk_mul 5 b) ?_
        refine lv_iconst (v := (0 : Int32)) hx hb dX3_order_67 (by decide) ?_
        refine lv_iadd hx hb dX3_order_68 ?_
        refine zn_top (n := (5 * b) + 0) (nI_add (5 * b) 0) ?_
        refine zm_lald hx hb hK hP 2 1 rfl rfl (i := (5 * b) + 0) (by omega) (by decide) dX3_order_69 ?_
        refine vp_callSl (W.runS (As := [.int (kf b), .long (nf ((5 * b) + 0))]) (rest := []) ⟨hx, hb, hml, hown, hts⟩ (ct_X3_rank l (kf b) (nf ((5 * b) + 0))) (va_cwS 2 hts gX3_order_X3_rank rfl rfl rfl (by decide +kernel) ⟨Nat.le_of_ble_eq_true rfl, Nat.le_of_ble_eq_true rfl⟩) ⟨(fun a U g mk q => ⟨q.1, trivial⟩), fun U hU hW9 => ⟨rfl, trivial⟩⟩ rfl rfl hl.1 rfl (lv_room (Nat.le_of_ble_eq_true rfl)) dX3_order_70 ⟨Nat.zero_le _, Nat.zero_le _⟩) (fun r er => ?_)
        subst er
        refine lv_lstore (lv' := [(5, .long (fn_X3_rank (kf b) (nf ((5 * b) + 0)))), (3, .long (fn_X3_rank (kf a) (nf ((5 * a) + 0)))), (0, .ref m0), (1, .int (nI a)), (2, .int (nI b))]) hx hb dX3_order_73 hl (by decide) rfl (fun ls hl => ?_)
        refine lv_lload_n hx hb dX3_order_75 rfl (lv_at hl 1 rfl) ?_
        refine lv_lload hx hb dX3_order_76 (lv_at hl 0 rfl) ?_
        refine zl_ge (tgt := 86) hx hb dX3_order_78 dX3_order_79 (by decide) (fun c_4 => ?_) (fun c_4 => ?_)
        · refine lv_lload_n hx hb dX3_order_86 rfl (lv_at hl 1 rfl) ?_
          refine lv_lload hx hb dX3_order_87 (lv_at hl 0 rfl) ?_
          refine zl_le (tgt := 97) hx hb dX3_order_89 dX3_order_90 (by decide) (fun c_5 => ?_) (fun c_5 => ?_)
          · refine lv_iconst (v := (0 : Int32)) hx hb dX3_order_97 (by decide) ?_
            have e9 : fn_X3_order_at kf nf a b = (0 : Int32) := by unfold fn_X3_order_at; rw [if_pos c_3, if_pos c_4, if_pos c_5]
            exact W.iret (v := (0 : Int32)) hx hb hr (fun t ht hW9 => ⟨_, rfl, by rw [e9], ht⟩) (fun _ h => by cases h) dX3_order_98
          · refine lv_iconst (v := (1 : Int32)) hx hb dX3_order_93 (by decide) ?_
            refine lv_goto (tgt := 98) hx hb dX3_order_94 (by decide) ?_
            have e9 : fn_X3_order_at kf nf a b = (1 : Int32) := by unfold fn_X3_order_at; rw [if_pos c_3, if_pos c_4, if_neg c_5]
            exact W.iret (v := (1 : Int32)) hx hb hr (fun t ht hW9 => ⟨_, rfl, by rw [e9], ht⟩) (fun _ h => by cases h) dX3_order_98
        · refine lv_iconst (v := (-1 : Int32)) hx hb dX3_order_82 (by decide) ?_
          refine lv_goto (tgt := 98) hx hb dX3_order_83 (by decide) ?_
          have e9 : fn_X3_order_at kf nf a b = (-1 : Int32) := by unfold fn_X3_order_at; rw [if_pos c_3, if_neg c_4]
          exact W.iret (v := (-1 : Int32)) hx hb hr (fun t ht hW9 => ⟨_, rfl, by rw [e9], ht⟩) (fun _ h => by cases h) dX3_order_98
      · refine lv_bipush (v := (-2 : Int32)) hx hb dX3_order_31 (by decide) ?_
        have e9 : fn_X3_order_at kf nf a b = (-2 : Int32) := by unfold fn_X3_order_at; rw [if_neg c_3]
        exact W.iret (v := (-2 : Int32)) hx hb hr (fun t ht hW9 => ⟨_, rfl, by rw [e9], ht⟩) (fun _ h => by cases h) dX3_order_33
set_option maxHeartbeats 4000000 in
set_option maxRecDepth 100000 in
theorem ct_X3_axis_lo (l : Launch) (dC : Nat → ClassId) (dI : Nat → Nat → Nat) (m0 ka na : Nat) (cI cJ : ClassId) (sz n : Nat) (kf : Nat → Int32) (nf : Nat → Int64) (v1 : Int32) (h1 : v1 < 0) : Met l yX3_axis wsX3_axis ({ frames := 0, cells := 0, slots := 0, locals := 0 } : Room) (va_Pc [.ref m0, .int v1] (fun U => mw dC dI m0 ka na cI cJ sz n kf nf U)) (va_Qi (fun r (_ : Unit) => r = (((-1 : Int32), n, kf, nf)).1) (fun _ t => va_P (dC, dI) vwCl (mdW m0 ka na cI cJ (((-1 : Int32), n, kf, nf)).2.1 (((-1 : Int32), n, kf, nf)).2.2.1 (((-1 : Int32), n, kf, nf)).2.2.2) t.heap ∧ va_D (va_A (mdW m0 ka na cI cJ n kf nf) sz) (mdW m0 ka na cI cJ (((-1 : Int32), n, kf, nf)).2.1 (((-1 : Int32), n, kf, nf)).2.2.1 (((-1 : Int32), n, kf, nf)).2.2.2)) (va_A (mdW m0 ka na cI cJ n kf nf) sz)) 0 0 (va_A (mdW m0 ka na cI cJ n kf nf) sz) := by
  refine Met.ofW (cc := cX3_axis) (maxL := 3) (ret := (some .int)) (by decide) rfl ?_
  intro p e s m args below meth c s₁ B hml hv
  obtain ⟨rfl, hsz, hP, hK, hD0⟩ := hv
  have hx := B.exec
  have hb := B.bytes
  have hr := B.returns
  have hlocks := B.notSynchronized
  have hts := atoms_spec (ws := wsX3_axis) B.pre
  have hown : s.vm.findClass RX3 = some m.cls := findClass_of_methodNamed B.named
  have hin : ∀ w ∈ u_ws RX3 TX3 3, w ∈ wsX3_axis := fun _ h => List.mem_cons_of_mem _ (List.mem_append_right _ h)
  subst hsz
  have hD := hD0.self (sz := s.heap.size)
  generalize hAe : va_A (mdW m0 ka na cI cJ n kf nf) s.heap.size = A at hD ⊢
  have hA : ∀ q : Nat, s.heap.size ≤ q → A q := fun q h => by rw [← hAe]; exact Or.inr h
  have hS : va_S A s.heap s.heap [] := va_S.rf
  have hP : va_P (dC, dI) vwCl [(m0, .inr (3, [.ref ka, .ref na, .int (nI n)])), (ka, .inl (cI, 8, .inl kf)), (na, .inl (cJ, 40, .inr (.inl nf)))] s.heap := hP
  have hD : va_D A [(m0, .inr (3, [.ref ka, .ref na, .int (nI n)])), (ka, .inl (cI, 8, .inl kf)), (na, .inl (cJ, 40, .inr (.inl nf)))] := hD
  have hl := lv_entry ([.ref m0, .int v1]) (n := 3) (Nat.le_of_ble_eq_true rfl)
  rw [lg_entry_eq]
  generalize (lg_sl ([.ref m0, .int v1]) ++ List.replicate (3 - (lg_sl ([.ref m0, .int v1])).length) Slot.unset).toArray = ls at hl ⊢
  have hl : lv_has ls 3 [(0, .ref m0), (1, .int v1)] := hl
  refine lv_iload_n hx hb dX3_axis_0 rfl (lv_at hl 1 rfl) ?_
  refine lv_if_lt (tgt := 18) hx hb dX3_axis_1 (by decide) (fun c_1 => ?_) (fun c_1 => ?_)
  · refine lv_iconst (v := (-1 : Int32)) hx hb dX3_axis_18 (by decide) ?_
    have e9 : ((-1 : Int32), n, kf, nf) = ((-1 : Int32), n, kf, nf) := rfl
    exact W.iret (v := (-1 : Int32)) hx hb hr (fun t ht hW9 => ⟨⟨_, (), rfl, by rw [e9], by rw [ht, e9]; exact hP, by rw [e9]; exact hD⟩, hS.F ht⟩) hS.2.2 dX3_axis_19
  · exact absurd h1 c_1
set_option maxHeartbeats 4000000 in
set_option maxRecDepth 100000 in
theorem ct_X3_axis_hi (l : Launch) (dC : Nat → ClassId) (dI : Nat → Nat → Nat) (m0 ka na : Nat) (cI cJ : ClassId) (sz n : Nat) (kf : Nat → Int32) (nf : Nat → Int64) (v1 : Int32) (h1 : ¬ v1 < 0) (h2 : 3 < v1) : Met l yX3_axis wsX3_axis ({ frames := 0, cells := 0, slots := 0, locals := 0 } : Room) (va_Pc [.ref m0, .int v1] (fun U => mw dC dI m0 ka na cI cJ sz n kf nf U)) (va_Qi (fun r (_ : Unit) => r = (((-1 : Int32), n, kf, nf)).1) (fun _ t => va_P (dC, dI) vwCl (mdW m0 ka na cI cJ (((-1 : Int32), n, kf, nf)).2.1 (((-1 : Int32), n, kf, nf)).2.2.1 (((-1 : Int32), n, kf, nf)).2.2.2) t.heap ∧ va_D (va_A (mdW m0 ka na cI cJ n kf nf) sz) (mdW m0 ka na cI cJ (((-1 : Int32), n, kf, nf)).2.1 (((-1 : Int32), n, kf, nf)).2.2.1 (((-1 : Int32), n, kf, nf)).2.2.2)) (va_A (mdW m0 ka na cI cJ n kf nf) sz)) 0 0 (va_A (mdW m0 ka na cI cJ n kf nf) sz) := by
  refine Met.ofW (cc := cX3_axis) (maxL := 3) (ret := (some .int)) (by decide) rfl ?_
  intro p e s m args below meth c s₁ B hml hv
  obtain ⟨rfl, hsz, hP, hK, hD0⟩ := hv
  have hx := B.exec
  have hb := B.bytes
  have hr := B.returns
  have hlocks := B.notSynchronized
  have hts := atoms_spec (ws := wsX3_axis) B.pre
  have hown : s.vm.findClass RX3 = some m.cls := findClass_of_methodNamed B.named
  have hin : ∀ w ∈ u_ws RX3 TX3 3, w ∈ wsX3_axis := fun _ h => List.mem_cons_of_mem _ (List.mem_append_right _ h)
  subst hsz
  have hD := hD0.self (sz := s.heap.size)
  generalize hAe : va_A (mdW m0 ka na cI cJ n kf nf) s.heap.size = A at hD ⊢
  have hA : ∀ q : Nat, s.heap.size ≤ q → A q := fun q h => by rw [← hAe]; exact Or.inr h
  have hS : va_S A s.heap s.heap [] := va_S.rf
  have hP : va_P (dC, dI) vwCl [(m0, .inr (3, [.ref ka, .ref na, .int (nI n)])), (ka, .inl (cI, 8, .inl kf)), (na, .inl (cJ, 40, .inr (.inl nf)))] s.heap := hP
  have hD : va_D A [(m0, .inr (3, [.ref ka, .ref na, .int (nI n)])), (ka, .inl (cI, 8, .inl kf)), (na, .inl (cJ, 40, .inr (.inl nf)))] := hD
  have hl := lv_entry ([.ref m0, .int v1]) (n := 3) (Nat.le_of_ble_eq_true rfl)
  rw [lg_entry_eq]
  generalize (lg_sl ([.ref m0, .int v1]) ++ List.replicate (3 - (lg_sl ([.ref m0, .int v1])).length) Slot.unset).toArray = ls at hl ⊢
  have hl : lv_has ls 3 [(0, .ref m0), (1, .int v1)] := hl
  refine lv_iload_n hx hb dX3_axis_0 rfl (lv_at hl 1 rfl) ?_
  refine lv_if_lt (tgt := 18) hx hb dX3_axis_1 (by decide) (fun c_1 => ?_) (fun c_1 => ?_)
  · exact absurd c_1 h1
  · refine lv_iload_n hx hb dX3_axis_4 rfl (lv_at hl 1 rfl) ?_
    refine lv_iconst (v := (3 : Int32)) hx hb dX3_axis_5 (by decide) ?_
    refine lv_icmp_gt (tgt := 18) hx hb dX3_axis_6 (by decide) (fun c_2 => ?_) (fun c_2 => ?_)
    · refine lv_iconst (v := (-1 : Int32)) hx hb dX3_axis_18 (by decide) ?_
      have e9 : ((-1 : Int32), n, kf, nf) = ((-1 : Int32), n, kf, nf) := rfl
      exact W.iret (v := (-1 : Int32)) hx hb hr (fun t ht hW9 => ⟨⟨_, (), rfl, by rw [e9], by rw [ht, e9]; exact hP, by rw [e9]; exact hD⟩, hS.F ht⟩) hS.2.2 dX3_axis_19
    · exact absurd h2 c_2
set_option maxHeartbeats 4000000 in
set_option maxRecDepth 100000 in
theorem ct_X3_axis_full (l : Launch) (dC : Nat → ClassId) (dI : Nat → Nat → Nat) (m0 ka na : Nat) (cI cJ : ClassId) (sz n : Nat) (kf : Nat → Int32) (nf : Nat → Int64) (k : Nat) (hk : k < 4) (h8 : n = 8) : Met l yX3_axis wsX3_axis ({ frames := 0, cells := 0, slots := 0, locals := 0 } : Room) (va_Pc [.ref m0, .int (nI k)] (fun U => mw dC dI m0 ka na cI cJ sz n kf nf U)) (va_Qi (fun r (_ : Unit) => r = (((-1 : Int32), n, kf, nf)).1) (fun _ t => va_P (dC, dI) vwCl (mdW m0 ka na cI cJ (((-1 : Int32), n, kf, nf)).2.1 (((-1 : Int32), n, kf, nf)).2.2.1 (((-1 : Int32), n, kf, nf)).2.2.2) t.heap ∧ va_D (va_A (mdW m0 ka na cI cJ n kf nf) sz) (mdW m0 ka na cI cJ (((-1 : Int32), n, kf, nf)).2.1 (((-1 : Int32), n, kf, nf)).2.2.1 (((-1 : Int32), n, kf, nf)).2.2.2)) (va_A (mdW m0 ka na cI cJ n kf nf) sz)) 0 0 (va_A (mdW m0 ka na cI cJ n kf nf) sz) := by
  refine Met.ofW (cc := cX3_axis) (maxL := 3) (ret := (some .int)) (by decide) rfl ?_
  intro p e s m args below meth c s₁ B hml hv
  obtain ⟨rfl, hsz, hP, hK, hD0⟩ := hv
  have hx := B.exec
  have hb := B.bytes
  have hr := B.returns
  have hlocks := B.notSynchronized
  have hts := atoms_spec (ws := wsX3_axis) B.pre
  have hown : s.vm.findClass RX3 = some m.cls := findClass_of_methodNamed B.named
  have hin : ∀ w ∈ u_ws RX3 TX3 3, w ∈ wsX3_axis := fun _ h => List.mem_cons_of_mem _ (List.mem_append_right _ h)
  subst hsz
  have hD := hD0.self (sz := s.heap.size)
  generalize hAe : va_A (mdW m0 ka na cI cJ n kf nf) s.heap.size = A at hD ⊢
  have hA : ∀ q : Nat, s.heap.size ≤ q → A q := fun q h => by rw [← hAe]; exact Or.inr h
  have hS : va_S A s.heap s.heap [] := va_S.rf
  have hP : va_P (dC, dI) vwCl [(m0, .inr (3, [.ref ka, .ref na, .int (nI n)])), (ka, .inl (cI, 8, .inl kf)), (na, .inl (cJ, 40, .inr (.inl nf)))] s.heap := hP
  have hD : va_D A [(m0, .inr (3, [.ref ka, .ref na, .int (nI n)])), (ka, .inl (cI, 8, .inl kf)), (na, .inl (cJ, 40, .inr (.inl nf)))] := hD
  have hl := lv_entry ([.ref m0, .int (nI k)]) (n := 3) (Nat.le_of_ble_eq_true rfl)
  rw [lg_entry_eq]
  generalize (lg_sl ([.ref m0, .int (nI k)]) ++ List.replicate (3 - (lg_sl ([.ref m0, .int (nI k)])).length) Slot.unset).toArray = ls at hl ⊢
  have hl : lv_has ls 3 [(0, .ref m0), (1, .int (nI k))] := hl
  refine lv_iload_n hx hb dX3_axis_0 rfl (lv_at hl 1 rfl) ?_
  refine lv_if_lt (tgt := 18) hx hb dX3_axis_1 (by decide) (fun c_1 => ?_) (fun c_1 => ?_)
  · exact absurd c_1 (nI_pos (n := k) (by omega))
  · refine lv_iload_n hx hb dX3_axis_4 rfl (lv_at hl 1 rfl) ?_
    refine lv_iconst (v := (3 : Int32)) hx hb dX3_axis_5 (by decide) ?_
    refine lv_icmp_gt (tgt := 18) hx hb dX3_axis_6 (by decide) (fun c_2 => ?_) (fun c_2 => ?_)
    · exact absurd c_2 (nI_nlt (a := 3) (b := k) (by omega) (by decide))
    · refine lv_aload_n hx hb dX3_axis_9 rfl (lv_at hl 0 rfl) ?_
      refine va_get (D := (dC, dI)) (ci := 3) (v := .int (nI n)) (C := RX3) (T := TX3) (N := 3) hx hb hts hin hown hK hP 0 rfl rfl 2 (by decide) (hts (.fieldLink RX3 17 "ServoDeskModel" "many" "I") (by decide +kernel)) (fun _ h9 => h9) rfl dX3_axis_10 ?_
      refine lv_bipush (v := (8 : Int32)) hx hb dX3_axis_13 (by decide) ?_
      refine lv_icmp_ne (tgt := 20) hx hb dX3_axis_15 (by decide) (fun c_3 => ?_) (fun c_3 => ?_)
      · exact absurd (by rw [h8]; decide) c_3
      · refine lv_iconst (v := (-1 : Int32)) hx hb dX3_axis_18 (by decide) ?_
        have e9 : ((-1 : Int32), n, kf, nf) = ((-1 : Int32), n, kf, nf) := rfl
        exact W.iret (v := (-1 : Int32)) hx hb hr (fun t ht hW9 => ⟨⟨_, (), rfl, by rw [e9], by rw [ht, e9]; exact hP, by rw [e9]; exact hD⟩, hS.F ht⟩) hS.2.2 dX3_axis_19
def fn_X3_axis_at (n : Nat) (kf : Nat → Int32) (nf : Nat → Int64) (k : Nat) : Int32 × Nat × (Nat → Int32) × (Nat → Int64) :=
  if (nI k) = 0 then
    ((nI (n + 1)) - (1 : Int32), n + 1, upd kf n (nI k), vp_updL (vp_updL (vp_updL (vp_updL (vp_updL nf ((5 * n) + 0) (0 : Int64)) ((5 * n) + 3) (0 : Int64)) ((5 * n) + 4) (0 : Int64)) ((5 * n) + 1) (-2147483648 : Int64)) ((5 * n) + 2) (2147483647 : Int64))
  else
    if (nI k) = (1 : Int32) then
      ((nI (n + 1)) - (1 : Int32), n + 1, upd kf n (nI k), vp_updL (vp_updL (vp_updL (vp_updL (vp_updL nf ((5 * n) + 0) (0 : Int64)) ((5 * n) + 3) (0 : Int64)) ((5 * n) + 4) (0 : Int64)) ((5 * n) + 1) (-9223372036854775808 : Int64)) ((5 * n) + 2) (9223372036854775807 : Int64))
    else
      ((nI (n + 1)) - (1 : Int32), n + 1, upd kf n (nI k), vp_updL (vp_updL (vp_updL (vp_updL (vp_updL nf ((5 * n) + 0) (0 : Int64)) ((5 * n) + 3) (0 : Int64)) ((5 * n) + 4) (0 : Int64)) ((5 * n) + 1) (fn_X3_signed (nI k) (fn_X3_endless (nI k)) (1 : Int32))) ((5 * n) + 2) (fn_X3_endless (nI k)))
set_option maxHeartbeats 4000000 in
set_option maxRecDepth 100000 in
theorem ct_X3_axis_at (l : Launch) (dC : Nat → ClassId) (dI : Nat → Nat → Nat) (m0 ka na : Nat) (cI cJ : ClassId) (sz n : Nat) (kf : Nat → Int32) (nf : Nat → Int64) (k : Nat) (hk : k < 4) (hn8 : n < 8) : Met l yX3_axis wsX3_axis ({ frames := 1, cells := 0, slots := 0, locals := 23 } : Room) (va_Pc [.ref m0, .int (nI k)] (fun U => mw dC dI m0 ka na cI cJ sz n kf nf U)) (va_Qi (fun r (_ : Unit) => r = (fn_X3_axis_at n kf nf k).1) (fun _ t => va_P (dC, dI) vwCl (mdW m0 ka na cI cJ (fn_X3_axis_at n kf nf k).2.1 (fn_X3_axis_at n kf nf k).2.2.1 (fn_X3_axis_at n kf nf k).2.2.2) t.heap ∧ va_D (va_A (mdW m0 ka na cI cJ n kf nf) sz) (mdW m0 ka na cI cJ (fn_X3_axis_at n kf nf k).2.1 (fn_X3_axis_at n kf nf k).2.2.1 (fn_X3_axis_at n kf nf k).2.2.2)) (va_A (mdW m0 ka na cI cJ n kf nf) sz)) 0 0 (va_A (mdW m0 ka na cI cJ n kf nf) sz) := by
  refine Met.ofW (cc := cX3_axis) (maxL := 3) (ret := (some .int)) (by decide) rfl ?_
  intro p e s m args below meth c s₁ B hml hv
  obtain ⟨rfl, hsz, hP, hK, hD0⟩ := hv
  have hx := B.exec
  have hb := B.bytes
  have hr := B.returns
  have hlocks := B.notSynchronized
  have hts := atoms_spec (ws := wsX3_axis) B.pre
  have hown : s.vm.findClass RX3 = some m.cls := findClass_of_methodNamed B.named
  have hin : ∀ w ∈ u_ws RX3 TX3 3, w ∈ wsX3_axis := fun _ h => List.mem_cons_of_mem _ (List.mem_append_right _ h)
  subst hsz
  have hD := hD0.self (sz := s.heap.size)
  generalize hAe : va_A (mdW m0 ka na cI cJ n kf nf) s.heap.size = A at hD ⊢
  have hA : ∀ q : Nat, s.heap.size ≤ q → A q := fun q h => by rw [← hAe]; exact Or.inr h
  have hS : va_S A s.heap s.heap [] := va_S.rf
  have hP : va_P (dC, dI) vwCl [(m0, .inr (3, [.ref ka, .ref na, .int (nI n)])), (ka, .inl (cI, 8, .inl kf)), (na, .inl (cJ, 40, .inr (.inl nf)))] s.heap := hP
  have hD : va_D A [(m0, .inr (3, [.ref ka, .ref na, .int (nI n)])), (ka, .inl (cI, 8, .inl kf)), (na, .inl (cJ, 40, .inr (.inl nf)))] := hD
  have hl := lv_entry ([.ref m0, .int (nI k)]) (n := 3) (Nat.le_of_ble_eq_true rfl)
  rw [lg_entry_eq]
  generalize (lg_sl ([.ref m0, .int (nI k)]) ++ List.replicate (3 - (lg_sl ([.ref m0, .int (nI k)])).length) Slot.unset).toArray = ls at hl ⊢
  have hl : lv_has ls 3 [(0, .ref m0), (1, .int (nI k))] := hl
  refine lv_iload_n hx hb dX3_axis_0 rfl (lv_at hl 1 rfl) ?_
  refine lv_if_lt (tgt := 18) hx hb dX3_axis_1 (by decide) (fun c_1 => ?_) (fun c_1 => ?_)
  · exact absurd c_1 (nI_pos (n := k) (by omega))
  · refine lv_iload_n hx hb dX3_axis_4 rfl (lv_at hl 1 rfl) ?_
    refine lv_iconst (v := (3 : Int32)) hx hb dX3_axis_5 (by decide) ?_
    refine lv_icmp_gt (tgt := 18) hx hb dX3_axis_6 (by decide) (fun c_2 => ?_) (fun c_2 => ?_)
    · exact absurd c_2 (nI_nlt (a := 3) (b := k) (by omega) (by decide))
    · refine lv_aload_n hx hb dX3_axis_9 rfl (lv_at hl 0 rfl) ?_
      refine va_get (D := (dC, dI)) (ci := 3) (v := .int (nI n)) (C := RX3) (T := TX3) (N := 3) hx hb hts hin hown hK hP 0 rfl rfl 2 (by decide) (hts (.fieldLink RX3 17 "ServoDeskModel" "many" "I") (by decide +kernel)) (fun _ h9 => h9) rfl dX3_axis_10 ?_
      refine lv_bipush (v := (8 : Int32)) hx hb dX3_axis_13 (by decide) ?_
      refine lv_icmp_ne (tgt := 20) hx hb dX3_axis_15 (by decide) (fun c_3 => ?_) (fun c_3 => ?_)
      · refine lv_iconst (v := (5 : Int32)) hx hb dX3_axis_20 (by decide) ?_
        refine lv_aload_n hx hb dX3_axis_21 rfl (lv_at hl 0 rfl) ?_
        refine va_get (D := (dC, dI)) (ci := 3) (v := .int (nI n)) (C := RX3) (T := TX3) (N := 3) hx hb hts hin hown hK hP 0 rfl rfl 2 (by decide) (hts (.fieldLink RX3 17 "ServoDeskModel" "many" "I") (by decide +kernel)) (fun _ h9 => h9) rfl dX3_axis_22 ?_
        refine lv_imul hx hb dX3_axis_25 ?_
        refine zn_top (n := 5 * n) (pk_mul 5 n) ?_
        refine lv_istore_n (lv' := [(2, .int (nI (5 * n))), (0, .ref m0), (1, .int (nI k))]) hx hb dX3_axis_26 rfl hl (by decide) rfl (fun ls hl => ?_)
        refine lv_aload_n hx hb dX3_axis_27 rfl (lv_at hl 1 rfl) ?_
        refine va_get (D := (dC, dI)) (ci := 3) (v := .ref ka) (C := RX3) (T := TX3) (N := 3) hx hb hts hin hown hK hP 0 rfl rfl 0 (by decide) (hts (.fieldLink RX3 7 "ServoDeskModel" "kind" "[I") (by decide +kernel)) (fun _ h9 => h9) rfl dX3_axis_28 ?_
        refine lv_aload_n hx hb dX3_axis_31 rfl (lv_at hl 1 rfl) ?_
        refine va_get (D := (dC, dI)) (ci := 3) (v := .int (nI n)) (C := RX3) (T := TX3) (N := 3) hx hb hts hin hown hK hP 0 rfl rfl 2 (by decide) (hts (.fieldLink RX3 17 "ServoDeskModel" "many" "I") (by decide +kernel)) (fun _ h9 => h9) rfl dX3_axis_32 ?_
        refine lv_iload_n hx hb dX3_axis_35 rfl (lv_at hl 2 rfl) ?_
        refine zm_iast hx hb hK hP hD hS 1 0 rfl rfl (i := n) (x := nI k) (by omega) (by decide) dX3_axis_36 (fun H locs hP hD hS => ?_)
        have hP : va_P (dC, dI) vwCl [(m0, .inr (3, [.ref ka, .ref na, .int (nI n)])), (ka, .inl (cI, 8, .inl (upd kf n (nI k)))), (na, .inl (cJ, 40, .inr (.inl nf)))] H := hP
        have hD : va_D A [(m0, .inr (3, [.ref ka, .ref na, .int (nI n)])), (ka, .inl (cI, 8, .inl (upd kf n (nI k)))), (na, .inl (cJ, 40, .inr (.inl nf)))] := hD
        refine lv_aload_n hx hb dX3_axis_37 rfl (lv_at hl 1 rfl) ?_
        refine va_get (D := (dC, dI)) (ci := 3) (v := .ref na) (C := RX3) (T := TX3) (N := 3) hx hb hts hin hown hK hP 0 rfl rfl 1 (by decide) (hts (.fieldLink RX3 13 "ServoDeskModel" "number" "[J") (by decide +kernel)) (fun _ h9 => h9) rfl dX3_axis_38 ?_
        refine lv_iload_n hx hb dX3_axis_41 rfl (lv_at hl 0 rfl) ?_
        refine lv_iconst (v := (0 : Int32)) hx hb dX3_axis_42 (by decide) ?_
        refine lv_iadd hx hb dX3_axis_43 ?_
        refine zn_top (n := (5 * n) + 0) (nI_add (5 * n) 0) ?_
        refine lv_lconst (v := (0 : Int64)) hx hb dX3_axis_44 (by decide) ?_
        refine zm_last hx hb hK hP hD hS 2 1 rfl rfl (i := (5 * n) + 0) (x := (0 : Int64)) (by omega) (by decide) dX3_axis_45 (fun H locs hP hD hS => ?_)
        have hP : va_P (dC, dI) vwCl [(m0, .inr (3, [.ref ka, .ref na, .int (nI n)])), (ka, .inl (cI, 8, .inl (upd kf n (nI k)))), (na, .inl (cJ, 40, .inr (.inl (vp_updL nf ((5 * n) + 0) (0 : Int64)))))] H := hP
        have hD : va_D A [(m0, .inr (3, [.ref ka, .ref na, .int (nI n)])), (ka, .inl (cI, 8, .inl (upd kf n (nI k)))), (na, .inl (cJ, 40, .inr (.inl (vp_updL nf ((5 * n) + 0) (0 : Int64)))))] := hD
        refine lv_aload_n hx hb dX3_axis_46 rfl (lv_at hl 1 rfl) ?_
        refine va_get (D := (dC, dI)) (ci := 3) (v := .ref na) (C := RX3) (T := TX3) (N := 3) hx hb hts hin hown hK hP 0 rfl rfl 1 (by decide) (hts (.fieldLink RX3 13 "ServoDeskModel" "number" "[J") (by decide +kernel)) (fun _ h9 => h9) rfl dX3_axis_47 ?_
        refine lv_iload_n hx hb dX3_axis_50 rfl (lv_at hl 0 rfl) ?_
        refine lv_iconst (v := (3 : Int32)) hx hb dX3_axis_51 (by decide) ?_
        refine lv_iadd hx hb dX3_axis_52 ?_
        refine zn_top (n := (5 * n) + 3) (nI_add (5 * n) 3) ?_
        refine lv_lconst (v := (0 : Int64)) hx hb dX3_axis_53 (by decide) ?_
        refine zm_last hx hb hK hP hD hS 2 1 rfl rfl (i := (5 * n) + 3) (x := (0 : Int64)) (by omega) (by decide) dX3_axis_54 (fun H locs hP hD hS => ?_)
        have hP : va_P (dC, dI) vwCl [(m0, .inr (3, [.ref ka, .ref na, .int (nI n)])), (ka, .inl (cI, 8, .inl (upd kf n (nI k)))), (na, .inl (cJ, 40, .inr (.inl (vp_updL (vp_updL nf ((5 * n) + 0) (0 : Int64)) ((5 * n) + 3) (0 : Int64)))))] H := hP
        have hD : va_D A [(m0, .inr (3, [.ref ka, .ref na, .int (nI n)])), (ka, .inl (cI, 8, .inl (upd kf n (nI k)))), (na, .inl (cJ, 40, .inr (.inl (vp_updL (vp_updL nf ((5 * n) + 0) (0 : Int64)) ((5 * n) + 3) (0 : Int64)))))] := hD
        refine lv_aload_n hx hb dX3_axis_55 rfl (lv_at hl 1 rfl) ?_
        refine va_get (D := (dC, dI)) (ci := 3) (v := .ref na) (C := RX3) (T := TX3) (N := 3) hx hb hts hin hown hK hP 0 rfl rfl 1 (by decide) (hts (.fieldLink RX3 13 "ServoDeskModel" "number" "[J") (by decide +kernel)) (fun _ h9 => h9) rfl dX3_axis_56 ?_
        refine lv_iload_n hx hb dX3_axis_59 rfl (lv_at hl 0 rfl) ?_
        refine lv_iconst (v := (4 : Int32)) hx hb dX3_axis_60 (by decide) ?_
        refine lv_iadd hx hb dX3_axis_61 ?_
        refine zn_top (n := (5 * n) + 4) (nI_add (5 * n) 4) ?_
        refine lv_lconst (v := (0 : Int64)) hx hb dX3_axis_62 (by decide) ?_
        refine zm_last hx hb hK hP hD hS 2 1 rfl rfl (i := (5 * n) + 4) (x := (0 : Int64)) (by omega) (by decide) dX3_axis_63 (fun H locs hP hD hS => ?_)
        have hP : va_P (dC, dI) vwCl [(m0, .inr (3, [.ref ka, .ref na, .int (nI n)])), (ka, .inl (cI, 8, .inl (upd kf n (nI k)))), (na, .inl (cJ, 40, .inr (.inl (vp_updL (vp_updL (vp_updL nf ((5 * n) + 0) (0 : Int64)) ((5 * n) + 3) (0 : Int64)) ((5 * n) + 4) (0 : Int64)))))] H := hP
        have hD : va_D A [(m0, .inr (3, [.ref ka, .ref na, .int (nI n)])), (ka, .inl (cI, 8, .inl (upd kf n (nI k)))), (na, .inl (cJ, 40, .inr (.inl (vp_updL (vp_updL (vp_updL nf ((5 * n) + 0) (0 : Int64)) ((5 * n) + 3) (0 : Int64)) ((5 * n) + 4) (0 : Int64)))))] := hD
        refine lv_aload_n hx hb dX3_axis_64 rfl (lv_at hl 1 rfl) ?_
        refine va_get (D := (dC, dI)) (ci := 3) (v := .ref na) (C := RX3) (T := TX3) (N := 3) hx hb hts hin hown hK hP 0 rfl rfl 1 (by decide) (hts (.fieldLink RX3 13 "ServoDeskModel" "number" "[J") (by decide +kernel)) (fun _ h9 => h9) rfl dX3_axis_65 ?_
        refine lv_iload_n hx hb dX3_axis_68 rfl (lv_at hl 0 rfl) ?_
        refine lv_iconst (v := (1 : Int32)) hx hb dX3_axis_69 (by decide) ?_
        refine lv_iadd hx hb dX3_axis_70 ?_
        refine zn_top (n := (5 * n) + 1) (nI_add (5 * n) 1) ?_
        refine lv_iload_n hx hb dX3_axis_71 rfl (lv_at hl 2 rfl) ?_
        refine lv_if_ne (tgt := 81) hx hb dX3_axis_72 (by decide) (fun c_4 => ?_) (fun c_4 => ?_)
        · refine lv_iload_n hx hb dX3_axis_81 rfl (lv_at hl 2 rfl) ?_
          refine lv_iconst (v := (1 : Int32)) hx hb dX3_axis_82 (by decide) ?_
          refine lv_icmp_ne (tgt := 92) hx hb dX3_axis_83 (by decide) (fun c_5 => ?_) (fun c_5 => ?_)
          · refine lv_iload_n hx hb dX3_axis_92 rfl (lv_at hl 2 rfl) ?_
            refine lv_iload_n hx hb dX3_axis_93 rfl (lv_at hl 2 rfl) ?_
            refine vp_callSl (W.runS (As := [.int (nI k)]) (rest := [.int (nI k), .int (nI ((5 * n) + 1)), .ref na]) ⟨hx, hb, hml, hown, hts⟩ (ct_X3_endless l (nI k)) (va_cwS 1 hts gX3_axis_X3_endless rfl rfl rfl (by decide +kernel) ⟨Nat.le_of_ble_eq_true rfl, Nat.le_of_ble_eq_true rfl⟩) ⟨(fun a U g mk q => ⟨q.1, trivial⟩), fun U hU hW9 => ⟨rfl, trivial⟩⟩ rfl rfl hl.1 rfl (lv_room (Nat.le_of_ble_eq_true rfl)) dX3_axis_94 ⟨Nat.zero_le _, Nat.zero_le _⟩) (fun r er => ?_)
            subst er
            refine lv_iconst (v := (1 : Int32)) hx hb dX3_axis_97 (by decide) ?_
            refine vp_callSl (W.runS (As := [.int (nI k), .long (fn_X3_endless (nI k)), .int (1 : Int32)]) (rest := [.int (nI ((5 * n) + 1)), .ref na]) ⟨hx, hb, hml, hown, hts⟩ (ct_X3_signed l (nI k) (fn_X3_endless (nI k)) (1 : Int32)) (va_cwS 3 hts gX3_axis_X3_signed rfl rfl rfl (by decide +kernel) ⟨Nat.le_of_ble_eq_true rfl, Nat.le_of_ble_eq_true rfl⟩) ⟨(fun a U g mk q => ⟨q.1, trivial⟩), fun U hU hW9 => ⟨rfl, trivial⟩⟩ rfl rfl hl.1 rfl (lv_room (Nat.le_of_ble_eq_true rfl)) dX3_axis_98 ⟨Nat.zero_le _, Nat.zero_le _⟩) (fun r er => ?_)
            subst er
            refine zm_last hx hb hK hP hD hS 2 1 rfl rfl (i := (5 * n) + 1) (x := fn_X3_signed (nI k) (fn_X3_endless (nI k)) (1 : Int32)) (by omega) (by decide) dX3_axis_101 (fun H locs hP hD hS => ?_)
            have hP : va_P (dC, dI) vwCl [(m0, .inr (3, [.ref ka, .ref na, .int (nI n)])), (ka, .inl (cI, 8, .inl (upd kf n (nI k)))), (na, .inl (cJ, 40, .inr (.inl (vp_updL (vp_updL (vp_updL (vp_updL nf ((5 * n) + 0) (0 : Int64)) ((5 * n) + 3) (0 : Int64)) ((5 * n) + 4) (0 : Int64)) ((5 * n) + 1) (fn_X3_signed (nI k) (fn_X3_endless (nI k)) (1 : Int32))))))] H := hP
            have hD : va_D A [(m0, .inr (3, [.ref ka, .ref na, .int (nI n)])), (ka, .inl (cI, 8, .inl (upd kf n (nI k)))), (na, .inl (cJ, 40, .inr (.inl (vp_updL (vp_updL (vp_updL (vp_updL nf ((5 * n) + 0) (0 : Int64)) ((5 * n) + 3) (0 : Int64)) ((5 * n) + 4) (0 : Int64)) ((5 * n) + 1) (fn_X3_signed (nI k) (fn_X3_endless (nI k)) (1 : Int32))))))] := hD
            refine lv_aload_n hx hb dX3_axis_102 rfl (lv_at hl 1 rfl) ?_
            refine va_get (D := (dC, dI)) (ci := 3) (v := .ref na) (C := RX3) (T := TX3) (N := 3) hx hb hts hin hown hK hP 0 rfl rfl 1 (by decide) (hts (.fieldLink RX3 13 "ServoDeskModel" "number" "[J") (by decide +kernel)) (fun _ h9 => h9) rfl dX3_axis_103 ?_
            refine lv_iload_n hx hb dX3_axis_106 rfl (lv_at hl 0 rfl) ?_
            refine lv_iconst (v := (2 : Int32)) hx hb dX3_axis_107 (by decide) ?_
            refine lv_iadd hx hb dX3_axis_108 ?_
            refine zn_top (n := (5 * n) + 2) (nI_add (5 * n) 2) ?_
            refine lv_iload_n hx hb dX3_axis_109 rfl (lv_at hl 2 rfl) ?_
            refine lv_if_ne (tgt := 119) hx hb dX3_axis_110 (by decide) (fun c_6 => ?_) (fun c_6 => ?_)
            · refine lv_iload_n hx hb dX3_axis_119 rfl (lv_at hl 2 rfl) ?_
              refine lv_iconst (v := (1 : Int32)) hx hb dX3_axis_120 (by decide) ?_
              refine lv_icmp_ne (tgt := 130) hx hb dX3_axis_121 (by decide) (fun c_7 => ?_) (fun c_7 => ?_)
              · refine lv_iload_n hx hb dX3_axis_130 rfl (lv_at hl 2 rfl) ?_
                refine vp_callSl (W.runS (As := [.int (nI k)]) (rest := [.int (nI ((5 * n) + 2)), .ref na]) ⟨hx, hb, hml, hown, hts⟩ (ct_X3_endless l (nI k)) (va_cwS 1 hts gX3_axis_X3_endless rfl rfl rfl (by decide +kernel) ⟨Nat.le_of_ble_eq_true rfl, Nat.le_of_ble_eq_true rfl⟩) ⟨(fun a U g mk q => ⟨q.1, trivial⟩), fun U hU hW9 => ⟨rfl, trivial⟩⟩ rfl rfl hl.1 rfl (lv_room (Nat.le_of_ble_eq_true rfl)) dX3_axis_131 ⟨Nat.zero_le _, Nat.zero_le _⟩) (fun r er => ?_)
                subst er
                refine zm_last hx hb hK hP hD hS 2 1 rfl rfl (i := (5 * n) + 2) (x := fn_X3_endless (nI k)) (by omega) (by decide) dX3_axis_134 (fun H locs hP hD hS => ?_)
                have hP : va_P (dC, dI) vwCl [(m0, .inr (3, [.ref ka, .ref na, .int (nI n)])), (ka, .inl (cI, 8, .inl (upd kf n (nI k)))), (na, .inl (cJ, 40, .inr (.inl (vp_updL (vp_updL (vp_updL (vp_updL (vp_updL nf ((5 * n) + 0) (0 : Int64)) ((5 * n) + 3) (0 : Int64)) ((5 * n) + 4) (0 : Int64)) ((5 * n) + 1) (fn_X3_signed (nI k) (fn_X3_endless (nI k)) (1 : Int32))) ((5 * n) + 2) (fn_X3_endless (nI k))))))] H := hP
                have hD : va_D A [(m0, .inr (3, [.ref ka, .ref na, .int (nI n)])), (ka, .inl (cI, 8, .inl (upd kf n (nI k)))), (na, .inl (cJ, 40, .inr (.inl (vp_updL (vp_updL (vp_updL (vp_updL (vp_updL nf ((5 * n) + 0) (0 : Int64)) ((5 * n) + 3) (0 : Int64)) ((5 * n) + 4) (0 : Int64)) ((5 * n) + 1) (fn_X3_signed (nI k) (fn_X3_endless (nI k)) (1 : Int32))) ((5 * n) + 2) (fn_X3_endless (nI k))))))] := hD
                refine lv_aload_n hx hb dX3_axis_135 rfl (lv_at hl 1 rfl) ?_
                refine lv_dup hx hb dX3_axis_136 rfl ?_
                refine va_get (D := (dC, dI)) (ci := 3) (v := .int (nI n)) (C := RX3) (T := TX3) (N := 3) hx hb hts hin hown hK hP 0 rfl rfl 2 (by decide) (hts (.fieldLink RX3 17 "ServoDeskModel" "many" "I") (by decide +kernel)) (fun _ h9 => h9) rfl dX3_axis_137 ?_
                refine lv_iconst (v := (1 : Int32)) hx hb dX3_axis_140 (by decide) ?_
                refine lv_iadd hx hb dX3_axis_141 ?_
                refine zn_top (n := n + 1) (nI_add n 1) ?_
                refine va_put (D := (dC, dI)) (ci := 3) (v := .int (nI (n + 1))) (ty := .int) (C := RX3) (T := TX3) (N := 3) hx hb hts hin tyX3 tyX3_ok nmX3 hown hK hP hD hS 0 rfl rfl 2 (by decide) (hts (.fieldLink RX3 17 "ServoDeskModel" "many" "I") (by decide +kernel)) (fun _ h9 => h9) rfl (by decide +kernel) rfl rfl (Nat.le_of_ble_eq_true rfl) dX3_axis_142 (fun H locs hP hD hS => ?_)
                have hP : va_P (dC, dI) vwCl [(m0, .inr (3, [.ref ka, .ref na, .int (nI (n + 1))])), (ka, .inl (cI, 8, .inl (upd kf n (nI k)))), (na, .inl (cJ, 40, .inr (.inl (vp_updL (vp_updL (vp_updL (vp_updL (vp_updL nf ((5 * n) + 0) (0 : Int64)) ((5 * n) + 3) (0 : Int64)) ((5 * n) + 4) (0 : Int64)) ((5 * n) + 1) (fn_X3_signed (nI k) (fn_X3_endless (nI k)) (1 : Int32))) ((5 * n) + 2) (fn_X3_endless (nI k))))))] H := hP
                have hD : va_D A [(m0, .inr (3, [.ref ka, .ref na, .int (nI (n + 1))])), (ka, .inl (cI, 8, .inl (upd kf n (nI k)))), (na, .inl (cJ, 40, .inr (.inl (vp_updL (vp_updL (vp_updL (vp_updL (vp_updL nf ((5 * n) + 0) (0 : Int64)) ((5 * n) + 3) (0 : Int64)) ((5 * n) + 4) (0 : Int64)) ((5 * n) + 1) (fn_X3_signed (nI k) (fn_X3_endless (nI k)) (1 : Int32))) ((5 * n) + 2) (fn_X3_endless (nI k))))))] := hD
                refine lv_aload_n hx hb dX3_axis_145 rfl (lv_at hl 1 rfl) ?_
                refine va_get (D := (dC, dI)) (ci := 3) (v := .int (nI (n + 1))) (C := RX3) (T := TX3) (N := 3) hx hb hts hin hown hK hP 0 rfl rfl 2 (by decide) (hts (.fieldLink RX3 17 "ServoDeskModel" "many" "I") (by decide +kernel)) (fun _ h9 => h9) rfl dX3_axis_146 ?_
                refine lv_iconst (v := (1 : Int32)) hx hb dX3_axis_149 (by decide) ?_
                refine lv_isub hx hb dX3_axis_150 ?_
                have e9 : fn_X3_axis_at n kf nf k = ((nI (n + 1)) - (1 : Int32), n + 1, upd kf n (nI k), vp_updL (vp_updL (vp_updL (vp_updL (vp_updL nf ((5 * n) + 0) (0 : Int64)) ((5 * n) + 3) (0 : Int64)) ((5 * n) + 4) (0 : Int64)) ((5 * n) + 1) (fn_X3_signed (nI k) (fn_X3_endless (nI k)) (1 : Int32))) ((5 * n) + 2) (fn_X3_endless (nI k))) := by unfold fn_X3_axis_at; rw [if_neg c_4, if_neg c_5]
                exact W.iret (v := (nI (n + 1)) - (1 : Int32)) hx hb hr (fun t ht hW9 => ⟨⟨_, (), rfl, by rw [e9], by rw [ht, e9]; exact hP, by rw [e9]; exact hD⟩, hS.F ht⟩) hS.2.2 dX3_axis_151
              · exact absurd c_7 c_5
            · exact absurd c_6 c_4
          · refine lv_ldc2 (v := (-9223372036854775808 : Int64)) hx hb hown (hts (.constantLong RX3 31 (-9223372036854775808)) (by decide +kernel)) dX3_axis_86 ?_
            refine lv_goto (tgt := 101) hx hb dX3_axis_89 (by decide) ?_
            refine zm_last hx hb hK hP hD hS 2 1 rfl rfl (i := (5 * n) + 1) (x := (-9223372036854775808 : Int64)) (by omega) (by decide) dX3_axis_101 (fun H locs hP hD hS => ?_)
            have hP : va_P (dC, dI) vwCl [(m0, .inr (3, [.ref ka, .ref na, .int (nI n)])), (ka, .inl (cI, 8, .inl (upd kf n (nI k)))), (na, .inl (cJ, 40, .inr (.inl (vp_updL (vp_updL (vp_updL (vp_updL nf ((5 * n) + 0) (0 : Int64)) ((5 * n) + 3) (0 : Int64)) ((5 * n) + 4) (0 : Int64)) ((5 * n) + 1) (-9223372036854775808 : Int64)))))] H := hP
            have hD : va_D A [(m0, .inr (3, [.ref ka, .ref na, .int (nI n)])), (ka, .inl (cI, 8, .inl (upd kf n (nI k)))), (na, .inl (cJ, 40, .inr (.inl (vp_updL (vp_updL (vp_updL (vp_updL nf ((5 * n) + 0) (0 : Int64)) ((5 * n) + 3) (0 : Int64)) ((5 * n) + 4) (0 : Int64)) ((5 * n) + 1) (-9223372036854775808 : Int64)))))] := hD
            refine lv_aload_n hx hb dX3_axis_102 rfl (lv_at hl 1 rfl) ?_
            refine va_get (D := (dC, dI)) (ci := 3) (v := .ref na) (C := RX3) (T := TX3) (N := 3) hx hb hts hin hown hK hP 0 rfl rfl 1 (by decide) (hts (.fieldLink RX3 13 "ServoDeskModel" "number" "[J") (by decide +kernel)) (fun _ h9 => h9) rfl dX3_axis_103 ?_
            refine lv_iload_n hx hb dX3_axis_106 rfl (lv_at hl 0 rfl) ?_
            refine lv_iconst (v := (2 : Int32)) hx hb dX3_axis_107 (by decide) ?_
            refine lv_iadd hx hb dX3_axis_108 ?_
            refine zn_top (n := (5 * n) + 2) (nI_add (5 * n) 2) ?_
            refine lv_iload_n hx hb dX3_axis_109 rfl (lv_at hl 2 rfl) ?_
            refine lv_if_ne (tgt := 119) hx hb dX3_axis_110 (by decide) (fun c_8 => ?_) (fun c_8 => ?_)
            · refine lv_iload_n hx hb dX3_axis_119 rfl (lv_at hl 2 rfl) ?_
              refine lv_iconst (v := (1 : Int32)) hx hb dX3_axis_120 (by decide) ?_
              refine lv_icmp_ne (tgt := 130) hx hb dX3_axis_121 (by decide) (fun c_9 => ?_) (fun c_9 => ?_)
              · exact absurd c_5 c_9
              · refine lv_ldc2 (v := (9223372036854775807 : Int64)) hx hb hown (hts (.constantLong RX3 27 (9223372036854775807)) (by decide +kernel)) dX3_axis_124 ?_
                refine lv_goto (tgt := 134) hx hb dX3_axis_127 (by decide) ?_
                refine zm_last hx hb hK hP hD hS 2 1 rfl rfl (i := (5 * n) + 2) (x := (9223372036854775807 : Int64)) (by omega) (by decide) dX3_axis_134 (fun H locs hP hD hS => ?_)
                have hP : va_P (dC, dI) vwCl [(m0, .inr (3, [.ref ka, .ref na, .int (nI n)])), (ka, .inl (cI, 8, .inl (upd kf n (nI k)))), (na, .inl (cJ, 40, .inr (.inl (vp_updL (vp_updL (vp_updL (vp_updL (vp_updL nf ((5 * n) + 0) (0 : Int64)) ((5 * n) + 3) (0 : Int64)) ((5 * n) + 4) (0 : Int64)) ((5 * n) + 1) (-9223372036854775808 : Int64)) ((5 * n) + 2) (9223372036854775807 : Int64)))))] H := hP
                have hD : va_D A [(m0, .inr (3, [.ref ka, .ref na, .int (nI n)])), (ka, .inl (cI, 8, .inl (upd kf n (nI k)))), (na, .inl (cJ, 40, .inr (.inl (vp_updL (vp_updL (vp_updL (vp_updL (vp_updL nf ((5 * n) + 0) (0 : Int64)) ((5 * n) + 3) (0 : Int64)) ((5 * n) + 4) (0 : Int64)) ((5 * n) + 1) (-9223372036854775808 : Int64)) ((5 * n) + 2) (9223372036854775807 : Int64)))))] := hD
                refine lv_aload_n hx hb dX3_axis_135 rfl (lv_at hl 1 rfl) ?_
                refine lv_dup hx hb dX3_axis_136 rfl ?_
                refine va_get (D := (dC, dI)) (ci := 3) (v := .int (nI n)) (C := RX3) (T := TX3) (N := 3) hx hb hts hin hown hK hP 0 rfl rfl 2 (by decide) (hts (.fieldLink RX3 17 "ServoDeskModel" "many" "I") (by decide +kernel)) (fun _ h9 => h9) rfl dX3_axis_137 ?_
                refine lv_iconst (v := (1 : Int32)) hx hb dX3_axis_140 (by decide) ?_
                refine lv_iadd hx hb dX3_axis_141 ?_
                refine zn_top (n := n + 1) (nI_add n 1) ?_
                refine va_put (D := (dC, dI)) (ci := 3) (v := .int (nI (n + 1))) (ty := .int) (C := RX3) (T := TX3) (N := 3) hx hb hts hin tyX3 tyX3_ok nmX3 hown hK hP hD hS 0 rfl rfl 2 (by decide) (hts (.fieldLink RX3 17 "ServoDeskModel" "many" "I") (by decide +kernel)) (fun _ h9 => h9) rfl (by decide +kernel) rfl rfl (Nat.le_of_ble_eq_true rfl) dX3_axis_142 (fun H locs hP hD hS => ?_)
                have hP : va_P (dC, dI) vwCl [(m0, .inr (3, [.ref ka, .ref na, .int (nI (n + 1))])), (ka, .inl (cI, 8, .inl (upd kf n (nI k)))), (na, .inl (cJ, 40, .inr (.inl (vp_updL (vp_updL (vp_updL (vp_updL (vp_updL nf ((5 * n) + 0) (0 : Int64)) ((5 * n) + 3) (0 : Int64)) ((5 * n) + 4) (0 : Int64)) ((5 * n) + 1) (-9223372036854775808 : Int64)) ((5 * n) + 2) (9223372036854775807 : Int64)))))] H := hP
                have hD : va_D A [(m0, .inr (3, [.ref ka, .ref na, .int (nI (n + 1))])), (ka, .inl (cI, 8, .inl (upd kf n (nI k)))), (na, .inl (cJ, 40, .inr (.inl (vp_updL (vp_updL (vp_updL (vp_updL (vp_updL nf ((5 * n) + 0) (0 : Int64)) ((5 * n) + 3) (0 : Int64)) ((5 * n) + 4) (0 : Int64)) ((5 * n) + 1) (-9223372036854775808 : Int64)) ((5 * n) + 2) (9223372036854775807 : Int64)))))] := hD
                refine lv_aload_n hx hb dX3_axis_145 rfl (lv_at hl 1 rfl) ?_
                refine va_get (D := (dC, dI)) (ci := 3) (v := .int (nI (n + 1))) (C := RX3) (T := TX3) (N := 3) hx hb hts hin hown hK hP 0 rfl rfl 2 (by decide) (hts (.fieldLink RX3 17 "ServoDeskModel" "many" "I") (by decide +kernel)) (fun _ h9 => h9) rfl dX3_axis_146 ?_
                refine lv_iconst (v := (1 : Int32)) hx hb dX3_axis_149 (by decide) ?_
                refine lv_isub hx hb dX3_axis_150 ?_
                have e9 : fn_X3_axis_at n kf nf k = ((nI (n + 1)) - (1 : Int32), n + 1, upd kf n (nI k), vp_updL (vp_updL (vp_updL (vp_updL (vp_updL nf ((5 * n) + 0) (0 : Int64)) ((5 * n) + 3) (0 : Int64)) ((5 * n) + 4) (0 : Int64)) ((5 * n) + 1) (-9223372036854775808 : Int64)) ((5 * n) + 2) (9223372036854775807 : Int64)) := by unfold fn_X3_axis_at; rw [if_neg c_4, if_pos c_5]
                exact W.iret (v := (nI (n + 1)) - (1 : Int32)) hx hb hr (fun t ht hW9 => ⟨⟨_, (), rfl, by rw [e9], by rw [ht, e9]; exact hP, by rw [e9]; exact hD⟩, hS.F ht⟩) hS.2.2 dX3_axis_151
            · exact absurd c_8 c_4
        · refine lv_ldc2 (v := (-2147483648 : Int64)) hx hb hown (hts (.constantLong RX3 71 (-2147483648)) (by decide +kernel)) dX3_axis_75 ?_
          refine lv_goto (tgt := 101) hx hb dX3_axis_78 (by decide) ?_
          refine zm_last hx hb hK hP hD hS 2 1 rfl rfl (i := (5 * n) + 1) (x := (-2147483648 : Int64)) (by omega) (by decide) dX3_axis_101 (fun H locs hP hD hS => ?_)
          have hP : va_P (dC, dI) vwCl [(m0, .inr (3, [.ref ka, .ref na, .int (nI n)])), (ka, .inl (cI, 8, .inl (upd kf n (nI k)))), (na, .inl (cJ, 40, .inr (.inl (vp_updL (vp_updL (vp_updL (vp_updL nf ((5 * n) + 0) (0 : Int64)) ((5 * n) + 3) (0 : Int64)) ((5 * n) + 4) (0 : Int64)) ((5 * n) + 1) (-2147483648 : Int64)))))] H := hP
          have hD : va_D A [(m0, .inr (3, [.ref ka, .ref na, .int (nI n)])), (ka, .inl (cI, 8, .inl (upd kf n (nI k)))), (na, .inl (cJ, 40, .inr (.inl (vp_updL (vp_updL (vp_updL (vp_updL nf ((5 * n) + 0) (0 : Int64)) ((5 * n) + 3) (0 : Int64)) ((5 * n) + 4) (0 : Int64)) ((5 * n) + 1) (-2147483648 : Int64)))))] := hD
          refine lv_aload_n hx hb dX3_axis_102 rfl (lv_at hl 1 rfl) ?_
          refine va_get (D := (dC, dI)) (ci := 3) (v := .ref na) (C := RX3) (T := TX3) (N := 3) hx hb hts hin hown hK hP 0 rfl rfl 1 (by decide) (hts (.fieldLink RX3 13 "ServoDeskModel" "number" "[J") (by decide +kernel)) (fun _ h9 => h9) rfl dX3_axis_103 ?_
          refine lv_iload_n hx hb dX3_axis_106 rfl (lv_at hl 0 rfl) ?_
          refine lv_iconst (v := (2 : Int32)) hx hb dX3_axis_107 (by decide) ?_
          refine lv_iadd hx hb dX3_axis_108 ?_
          refine zn_top (n := (5 * n) + 2) (nI_add (5 * n) 2) ?_
          refine lv_iload_n hx hb dX3_axis_109 rfl (lv_at hl 2 rfl) ?_
          refine lv_if_ne (tgt := 119) hx hb dX3_axis_110 (by decide) (fun c_10 => ?_) (fun c_10 => ?_)
          · exact absurd c_4 c_10
          · refine lv_ldc2 (v := (2147483647 : Int64)) hx hb hown (hts (.constantLong RX3 25 (2147483647)) (by decide +kernel)) dX3_axis_113 ?_
            refine lv_goto (tgt := 134) hx hb dX3_axis_116 (by decide) ?_
            refine zm_last hx hb hK hP hD hS 2 1 rfl rfl (i := (5 * n) + 2) (x := (2147483647 : Int64)) (by omega) (by decide) dX3_axis_134 (fun H locs hP hD hS => ?_)
            have hP : va_P (dC, dI) vwCl [(m0, .inr (3, [.ref ka, .ref na, .int (nI n)])), (ka, .inl (cI, 8, .inl (upd kf n (nI k)))), (na, .inl (cJ, 40, .inr (.inl (vp_updL (vp_updL (vp_updL (vp_updL (vp_updL nf ((5 * n) + 0) (0 : Int64)) ((5 * n) + 3) (0 : Int64)) ((5 * n) + 4) (0 : Int64)) ((5 * n) + 1) (-2147483648 : Int64)) ((5 * n) + 2) (2147483647 : Int64)))))] H := hP
            have hD : va_D A [(m0, .inr (3, [.ref ka, .ref na, .int (nI n)])), (ka, .inl (cI, 8, .inl (upd kf n (nI k)))), (na, .inl (cJ, 40, .inr (.inl (vp_updL (vp_updL (vp_updL (vp_updL (vp_updL nf ((5 * n) + 0) (0 : Int64)) ((5 * n) + 3) (0 : Int64)) ((5 * n) + 4) (0 : Int64)) ((5 * n) + 1) (-2147483648 : Int64)) ((5 * n) + 2) (2147483647 : Int64)))))] := hD
            refine lv_aload_n hx hb dX3_axis_135 rfl (lv_at hl 1 rfl) ?_
            refine lv_dup hx hb dX3_axis_136 rfl ?_
            refine va_get (D := (dC, dI)) (ci := 3) (v := .int (nI n)) (C := RX3) (T := TX3) (N := 3) hx hb hts hin hown hK hP 0 rfl rfl 2 (by decide) (hts (.fieldLink RX3 17 "ServoDeskModel" "many" "I") (by decide +kernel)) (fun _ h9 => h9) rfl dX3_axis_137 ?_
            refine lv_iconst (v := (1 : Int32)) hx hb dX3_axis_140 (by decide) ?_
            refine lv_iadd hx hb dX3_axis_141 ?_
            refine zn_top (n := n + 1) (nI_add n 1) ?_
            refine va_put (D := (dC, dI)) (ci := 3) (v := .int (nI (n + 1))) (ty := .int) (C := RX3) (T := TX3) (N := 3) hx hb hts hin tyX3 tyX3_ok nmX3 hown hK hP hD hS 0 rfl rfl 2 (by decide) (hts (.fieldLink RX3 17 "ServoDeskModel" "many" "I") (by decide +kernel)) (fun _ h9 => h9) rfl (by decide +kernel) rfl rfl (Nat.le_of_ble_eq_true rfl) dX3_axis_142 (fun H locs hP hD hS => ?_)
            have hP : va_P (dC, dI) vwCl [(m0, .inr (3, [.ref ka, .ref na, .int (nI (n + 1))])), (ka, .inl (cI, 8, .inl (upd kf n (nI k)))), (na, .inl (cJ, 40, .inr (.inl (vp_updL (vp_updL (vp_updL (vp_updL (vp_updL nf ((5 * n) + 0) (0 : Int64)) ((5 * n) + 3) (0 : Int64)) ((5 * n) + 4) (0 : Int64)) ((5 * n) + 1) (-2147483648 : Int64)) ((5 * n) + 2) (2147483647 : Int64)))))] H := hP
            have hD : va_D A [(m0, .inr (3, [.ref ka, .ref na, .int (nI (n + 1))])), (ka, .inl (cI, 8, .inl (upd kf n (nI k)))), (na, .inl (cJ, 40, .inr (.inl (vp_updL (vp_updL (vp_updL (vp_updL (vp_updL nf ((5 * n) + 0) (0 : Int64)) ((5 * n) + 3) (0 : Int64)) ((5 * n) + 4) (0 : Int64)) ((5 * n) + 1) (-2147483648 : Int64)) ((5 * n) + 2) (2147483647 : Int64)))))] := hD
            refine lv_aload_n hx hb dX3_axis_145 rfl (lv_at hl 1 rfl) ?_
            refine va_get (D := (dC, dI)) (ci := 3) (v := .int (nI (n + 1))) (C := RX3) (T := TX3) (N := 3) hx hb hts hin hown hK hP 0 rfl rfl 2 (by decide) (hts (.fieldLink RX3 17 "ServoDeskModel" "many" "I") (by decide +kernel)) (fun _ h9 => h9) rfl dX3_axis_146 ?_
            refine lv_iconst (v := (1 : Int32)) hx hb dX3_axis_149 (by decide) ?_
            refine lv_isub hx hb dX3_axis_150 ?_
            have e9 : fn_X3_axis_at n kf nf k = ((nI (n + 1)) - (1 : Int32), n + 1, upd kf n (nI k), vp_updL (vp_updL (vp_updL (vp_updL (vp_updL nf ((5 * n) + 0) (0 : Int64)) ((5 * n) + 3) (0 : Int64)) ((5 * n) + 4) (0 : Int64)) ((5 * n) + 1) (-2147483648 : Int64)) ((5 * n) + 2) (2147483647 : Int64)) := by unfold fn_X3_axis_at; rw [if_pos c_4]
            exact W.iret (v := (nI (n + 1)) - (1 : Int32)) hx hb hr (fun t ht hW9 => ⟨⟨_, (), rfl, by rw [e9], by rw [ht, e9]; exact hP, by rw [e9]; exact hD⟩, hS.F ht⟩) hS.2.2 dX3_axis_151
      · exact absurd c_3 (fun q => by have q2 := (nI_eq (a := n) (b := 8) (by omega) (by decide)).mp q; omega)
