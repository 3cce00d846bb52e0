set_option maxHeartbeats 4000000 in
set_option maxRecDepth 100000 in
theorem ct_X2_bits_no (l : Launch) (dC : Nat → ClassId) (dI : Nat → Nat → Nat) (ad : Nat → Nat) (d0 ar : Nat) (cA : ClassId) (sz : Nat) (L : List Nat) (K : Nat → Nat) (u : Nat → Ax5) (hL8 : L.length ≤ 8) (hKk : ∀ a ∈ L, K a < 4) (v1 v2 : Int32) (h1 : fn_X3_isAxis L.length v1 = 0) : Met l yX2_bits wsX2_bits ({ frames := 1, cells := 0, slots := 0, locals := 21 } : Room) (va_Pc [.ref d0, .int v1, .int v2] (fun U => dw dC dI ad d0 ar cA sz L K u U)) (vp_Sl (fun r => r = (0 : Int64))) 0 0 (fun _ => False) := by
  refine Met.ofW (cc := cX2_bits) (maxL := 4) (ret := (some .long)) (by decide) rfl ?_
  intro p e s m args below meth c s₁ B hml hv
  obtain ⟨rfl, hsz, hP, hK, hD0, hW, hN⟩ := hv
  have hx := B.exec
  have hb := B.bytes
  have hr := B.returns
  have hlocks := B.notSynchronized
  have hts := atoms_spec (ws := wsX2_bits) B.pre
  have hown : s.vm.findClass RX2 = some m.cls := findClass_of_methodNamed B.named
  have hin2 : ∀ w ∈ u_ws RX2 TX2 2, w ∈ wsX2_bits := fun _ h => List.mem_cons_of_mem _ (List.mem_append_left _ (List.mem_append_right _ h))
  have hin0 : ∀ w ∈ u_ws RX0 TX0 6, w ∈ wsX2_bits := fun _ h => List.mem_cons_of_mem _ (List.mem_append_right _ h)
  subst hsz
  have hD := hD0.self (sz := s.heap.size)
  generalize hAe : va_A (dkW ad d0 ar cA L K u) s.heap.size = A at hW hD ⊢
  have hA : ∀ q : Nat, s.heap.size ≤ q → A q := fun q h => by rw [← hAe]; exact Or.inr h
  have hS : va_S A s.heap s.heap [] := va_S.rf
  have hl := lv_entry ([.ref d0, .int v1, .int v2]) (n := 4) (Nat.le_of_ble_eq_true rfl)
  rw [lg_entry_eq]
  generalize (lg_sl ([.ref d0, .int v1, .int v2]) ++ List.replicate (4 - (lg_sl ([.ref d0, .int v1, .int v2])).length) Slot.unset).toArray = ls at hl ⊢
  have hl : lv_has ls 4 [(0, .ref d0), (1, .int v1), (2, .int v2)] := hl
  refine lv_aload_n hx hb dX2_bits_0 rfl (lv_at hl 0 rfl) ?_
  refine lv_iload_n hx hb dX2_bits_1 rfl (lv_at hl 1 rfl) ?_
  refine va_csq (W.runV (As := [.int v1]) (rest := []) ⟨hx, hb, hml, hown, hts⟩ (ct_X2_find_no l dC dI ad d0 ar cA s.heap.size L K u v1 h1) (cwV 1 hts gX2_bits_X2_find rfl rfl rfl (by decide +kernel) ⟨Nat.le_of_ble_eq_true rfl, Nat.le_of_ble_eq_true rfl⟩) ⟨dw_blind, va_recv hK hP (ci := 2) (q0 := 0) rfl rfl, fun U hU hW9 => dw_call hK hP hD hW hN hS hA hU hW9⟩ rfl rfl hl.1 rfl (lv_room (Nat.le_of_ble_eq_true rfl)) dX2_bits_2 ⟨Nat.zero_le _, Nat.zero_le _⟩) (fun r er => ?_)
  subst er
  refine W.eq (g2 := F0 m 5 ls [.null]) rfl ?_
  refine lv_astore_nN (lv' := [(3, .null), (0, .ref d0), (1, .int v1), (2, .int v2)]) hx hb dX2_bits_5 rfl hl (by decide) rfl (fun ls hl => ?_)
  refine lv_aload_nN hx hb dX2_bits_6 rfl (lv_at hl 0 rfl) ?_
  refine lv_ifnonnullN hx hb dX2_bits_7 ?_
  refine lv_lconst (v := (0 : Int64)) hx hb dX2_bits_10 (by decide) ?_
  refine lv_goto (tgt := 19) hx hb dX2_bits_11 (by decide) ?_
  exact W.lret (v := (0 : Int64)) hx hb hr (fun t ht _ => ⟨_, rfl, rfl, ht⟩) (fun _ h => by cases h) dX2_bits_19
set_option maxHeartbeats 4000000 in
set_option maxRecDepth 100000 in
theorem ct_X2_bits_at (l : Launch) (dC : Nat → ClassId) (dI : Nat → Nat → Nat) (ad : Nat → Nat) (d0 ar : Nat) (cA : ClassId) (sz : Nat) (L : List Nat) (K : Nat → Nat) (u : Nat → Ax5) (hL8 : L.length ≤ 8) (hKk : ∀ a ∈ L, K a < 4) (i a : Nat) (ha_a : a ∈ L) (hi_a : L[i]? = some a) (v2 : Int32) : Met l yX2_bits wsX2_bits ({ frames := 1, cells := 0, slots := 0, locals := 21 } : Room) (va_Pc [.ref d0, .int (nI i), .int v2] (fun U => dw dC dI ad d0 ar cA sz L K u U)) (vp_Sl (fun r => r = fn_X0_number (K a) v2 (u a).1 (u a).2.1 (u a).2.2.1 (u a).2.2.2.1 (u a).2.2.2.2)) 0 0 (fun _ => False) := by
  refine Met.ofW (cc := cX2_bits) (maxL := 4) (ret := (some .long)) (by decide) rfl ?_
  intro p e s m args below meth c s₁ B hml hv
  obtain ⟨rfl, hsz, hP, hK, hD0, hW, hN⟩ := hv
  have hx := B.exec
  have hb := B.bytes
  have hr := B.returns
  have hlocks := B.notSynchronized
  have hts := atoms_spec (ws := wsX2_bits) B.pre
  have hown : s.vm.findClass RX2 = some m.cls := findClass_of_methodNamed B.named
  have hin2 : ∀ w ∈ u_ws RX2 TX2 2, w ∈ wsX2_bits := fun _ h => List.mem_cons_of_mem _ (List.mem_append_left _ (List.mem_append_right _ h))
  have hin0 : ∀ w ∈ u_ws RX0 TX0 6, w ∈ wsX2_bits := fun _ h => List.mem_cons_of_mem _ (List.mem_append_right _ h)
  subst hsz
  have hD := hD0.self (sz := s.heap.size)
  generalize hAe : va_A (dkW ad d0 ar cA L K u) s.heap.size = A at hW hD ⊢
  have hA : ∀ q : Nat, s.heap.size ≤ q → A q := fun q h => by rw [← hAe]; exact Or.inr h
  have hS : va_S A s.heap s.heap [] := va_S.rf
  obtain ⟨hP_a, hD_a, hF_a⟩ := dk_at hP hD hS hA ha_a
  have hl := lv_entry ([.ref d0, .int (nI i), .int v2]) (n := 4) (Nat.le_of_ble_eq_true rfl)
  rw [lg_entry_eq]
  generalize (lg_sl ([.ref d0, .int (nI i), .int v2]) ++ List.replicate (4 - (lg_sl ([.ref d0, .int (nI i), .int v2])).length) Slot.unset).toArray = ls at hl ⊢
  have hl : lv_has ls 4 [(0, .ref d0), (1, .int (nI i)), (2, .int v2)] := hl
  refine lv_aload_n hx hb dX2_bits_0 rfl (lv_at hl 0 rfl) ?_
  refine lv_iload_n hx hb dX2_bits_1 rfl (lv_at hl 1 rfl) ?_
  refine va_csq (W.runV (As := [.int (nI i)]) (rest := []) ⟨hx, hb, hml, hown, hts⟩ (ct_X2_find_at l dC dI ad d0 ar cA s.heap.size L K u hL8 i a hi_a) (cwV 1 hts gX2_bits_X2_find rfl rfl rfl (by decide +kernel) ⟨Nat.le_of_ble_eq_true rfl, Nat.le_of_ble_eq_true rfl⟩) ⟨dw_blind, va_recv hK hP (ci := 2) (q0 := 0) rfl rfl, fun U hU hW9 => dw_call hK hP hD hW hN hS hA hU hW9⟩ rfl rfl hl.1 rfl (lv_room (Nat.le_of_ble_eq_true rfl)) dX2_bits_2 ⟨Nat.zero_le _, Nat.zero_le _⟩) (fun r er => ?_)
  subst er
  refine W.eq (g2 := F0 m 5 ls [.ref a]) rfl ?_
  refine lv_astore_n (lv' := [(3, .ref a), (0, .ref d0), (1, .int (nI i)), (2, .int v2)]) hx hb dX2_bits_5 rfl hl (by decide) rfl (fun ls hl => ?_)
  refine lv_aload_n hx hb dX2_bits_6 rfl (lv_at hl 0 rfl) ?_
  refine lv_ifnonnull (tgt := 14) hx hb dX2_bits_7 (by decide) ?_
  refine lv_aload_n hx hb dX2_bits_14 rfl (lv_at hl 0 rfl) ?_
  refine lv_iload_n hx hb dX2_bits_15 rfl (lv_at hl 3 rfl) ?_
  refine vp_callSl (va_Run.run (va_runVN (As := [.int v2]) (rest := []) ⟨hx, hb, hml, hown, hts⟩ (ct_X0_number l dC dI ad a s.heap.size (K a) (hKk a ha_a) v2 (u a).1 (u a).2.1 (u a).2.2.1 (u a).2.2.2.1 (u a).2.2.2.2) ⟨va_cnB 1 hts gX2_bits_X0_number_n34 rfl rfl rfl (nW_X2_34 hN) (hts (.initialized RX0) (by decide +kernel)) (by decide +kernel) ⟨Nat.le_of_ble_eq_true rfl, Nat.le_of_ble_eq_true rfl⟩, hts (.instanceMethod yX0_number) (by decide +kernel), hts (.selects RX0 yX0_number yX0_number) (by decide +kernel)⟩ ⟨axw_blind, va_recv hK hP_a (ci := 0) (q0 := 0) rfl rfl, fun U hU hW9 => axw_call hK hP_a hD_a hW hN hS hF_a hU hW9⟩ rfl rfl hl.1 rfl (lv_room (Nat.le_of_ble_eq_true rfl)) dX2_bits_16 ⟨Nat.zero_le _, Nat.zero_le _⟩)) (fun r er => ?_)
  subst er
  exact W.lret (v := fn_X0_number (K a) v2 (u a).1 (u a).2.1 (u a).2.2.1 (u a).2.2.2.1 (u a).2.2.2.2) hx hb hr (fun t ht _ => ⟨_, rfl, rfl, ht⟩) (fun _ h => by cases h) dX2_bits_19
set_option maxHeartbeats 4000000 in
set_option maxRecDepth 100000 in
theorem ct_X2_set_no (l : Launch) (dC : Nat → ClassId) (dI : Nat → Nat → Nat) (ad : Nat → Nat) (d0 ar : Nat) (cA : ClassId) (sz : Nat) (L : List Nat) (K : Nat → Nat) (u : Nat → Ax5) (hL8 : L.length ≤ 8) (hKk : ∀ a ∈ L, K a < 4) (v1 v2 : Int32) (v3 : Int64) (h1 : fn_X3_isAxis L.length v1 = 0) : Met l yX2_set wsX2_set ({ frames := 1, cells := 0, slots := 0, locals := 21 } : Room) (va_Pc [.ref d0, .int v1, .int v2, .long v3] (fun U => dw dC dI ad d0 ar cA sz L K u U)) (va_Qi (fun r (_ : Unit) => r = (0 : Int32)) (fun _ t => va_P (dC, dI) vwCl (dkW ad d0 ar cA L K (u)) t.heap ∧ va_D (va_A (dkW ad d0 ar cA L K u) sz) (dkW ad d0 ar cA L K (u))) (va_A (dkW ad d0 ar cA L K u) sz)) 0 0 (va_A (dkW ad d0 ar cA L K u) sz) := by
  refine Met.ofW (cc := cX2_set) (maxL := 6) (ret := (some .boolean)) (by decide) rfl ?_
  intro p e s m args below meth c s₁ B hml hv
  obtain ⟨rfl, hsz, hP, hK, hD0, hW, hN⟩ := hv
  have hx := B.exec
  have hb := B.bytes
  have hr := B.returns
  have hlocks := B.notSynchronized
  have hts := atoms_spec (ws := wsX2_set) B.pre
  have hown : s.vm.findClass RX2 = some m.cls := findClass_of_methodNamed B.named
  have hin2 : ∀ w ∈ u_ws RX2 TX2 2, w ∈ wsX2_set := fun _ h => List.mem_cons_of_mem _ (List.mem_append_left _ (List.mem_append_right _ h))
  have hin0 : ∀ w ∈ u_ws RX0 TX0 6, w ∈ wsX2_set := fun _ h => List.mem_cons_of_mem _ (List.mem_append_right _ h)
  subst hsz
  have hD := hD0.self (sz := s.heap.size)
  generalize hAe : va_A (dkW ad d0 ar cA L K u) s.heap.size = A at hW hD ⊢
  have hA : ∀ q : Nat, s.heap.size ≤ q → A q := fun q h => by rw [← hAe]; exact Or.inr h
  have hS : va_S A s.heap s.heap [] := va_S.rf
  have hl := lv_entry ([.ref d0, .int v1, .int v2, .long v3]) (n := 6) (Nat.le_of_ble_eq_true rfl)
  rw [lg_entry_eq]
  generalize (lg_sl ([.ref d0, .int v1, .int v2, .long v3]) ++ List.replicate (6 - (lg_sl ([.ref d0, .int v1, .int v2, .long v3])).length) Slot.unset).toArray = ls at hl ⊢
  have hl : lv_has ls 6 [(0, .ref d0), (1, .int v1), (2, .int v2), (3, .long v3)] := hl
  refine lv_aload_n hx hb dX2_set_0 rfl (lv_at hl 0 rfl) ?_
  refine lv_iload_n hx hb dX2_set_1 rfl (lv_at hl 1 rfl) ?_
  refine va_csq (W.runV (As := [.int v1]) (rest := []) ⟨hx, hb, hml, hown, hts⟩ (ct_X2_find_no l dC dI ad d0 ar cA s.heap.size L K u v1 h1) (cwV 1 hts gX2_set_X2_find rfl rfl rfl (by decide +kernel) ⟨Nat.le_of_ble_eq_true rfl, Nat.le_of_ble_eq_true rfl⟩) ⟨dw_blind, va_recv hK hP (ci := 2) (q0 := 0) rfl rfl, fun U hU hW9 => dw_call hK hP hD hW hN hS hA hU hW9⟩ rfl rfl hl.1 rfl (lv_room (Nat.le_of_ble_eq_true rfl)) dX2_set_2 ⟨Nat.zero_le _, Nat.zero_le _⟩) (fun r er => ?_)
  subst er
  refine W.eq (g2 := F0 m 5 ls [.null]) rfl ?_
  refine lv_astoreN (lv' := [(5, .null), (0, .ref d0), (1, .int v1), (2, .int v2), (3, .long v3)]) hx hb dX2_set_5 hl (by decide) rfl (fun ls hl => ?_)
  refine lv_aloadN hx hb dX2_set_7 (lv_at hl 0 rfl) ?_
  refine lv_ifnullN (tgt := 26) hx hb dX2_set_9 (by decide) ?_
  refine lv_iconst (v := (0 : Int32)) hx hb dX2_set_26 (by decide) ?_
  exact W.zret (v := (0 : Int32)) (ty := .boolean) hx hb hr (by decide) (fun t ht hW9 => ⟨⟨_, (), rfl, rfl, by rw [ht]; exact hP, hD⟩, hS.F ht⟩) hS.2.2 dX2_set_27
set_option maxHeartbeats 4000000 in
set_option maxRecDepth 100000 in
theorem ct_X2_set_at (l : Launch) (dC : Nat → ClassId) (dI : Nat → Nat → Nat) (ad : Nat → Nat) (d0 ar : Nat) (cA : ClassId) (sz : Nat) (L : List Nat) (K : Nat → Nat) (u : Nat → Ax5) (hL8 : L.length ≤ 8) (hKk : ∀ a ∈ L, K a < 4) (i a : Nat) (ha_a : a ∈ L) (hi_a : L[i]? = some a) (v2 : Int32) (v3 : Int64) : Met l yX2_set wsX2_set ({ frames := 4, cells := 0, slots := 0, locals := 92 } : Room) (va_Pc [.ref d0, .int (nI i), .int v2, .long v3] (fun U => dw dC dI ad d0 ar cA sz L K u U)) (va_Qi (fun r (_ : Unit) => r = (if (fn_X0_put (K a) v2 v3 (u a).1 (u a).2.1 (u a).2.2.1 (u a).2.2.2.1 (u a).2.2.2.2).1 = 0 then (0 : Int32) else (1 : Int32))) (fun _ t => va_P (dC, dI) vwCl (dkW ad d0 ar cA L K (va_up u a (fn_X0_put (K a) v2 v3 (u a).1 (u a).2.1 (u a).2.2.1 (u a).2.2.2.1 (u a).2.2.2.2).2)) t.heap ∧ va_D (va_A (dkW ad d0 ar cA L K u) sz) (dkW ad d0 ar cA L K (va_up u a (fn_X0_put (K a) v2 v3 (u a).1 (u a).2.1 (u a).2.2.1 (u a).2.2.2.1 (u a).2.2.2.2).2))) (va_A (dkW ad d0 ar cA L K u) sz)) 0 0 (va_A (dkW ad d0 ar cA L K u) sz) := by
  refine Met.ofW (cc := cX2_set) (maxL := 6) (ret := (some .boolean)) (by decide) rfl ?_
  intro p e s m args below meth c s₁ B hml hv
  obtain ⟨rfl, hsz, hP, hK, hD0, hW, hN⟩ := hv
  have hx := B.exec
  have hb := B.bytes
  have hr := B.returns
  have hlocks := B.notSynchronized
  have hts := atoms_spec (ws := wsX2_set) B.pre
  have hown : s.vm.findClass RX2 = some m.cls := findClass_of_methodNamed B.named
  have hin2 : ∀ w ∈ u_ws RX2 TX2 2, w ∈ wsX2_set := fun _ h => List.mem_cons_of_mem _ (List.mem_append_left _ (List.mem_append_right _ h))
  have hin0 : ∀ w ∈ u_ws RX0 TX0 6, w ∈ wsX2_set := fun _ h => List.mem_cons_of_mem _ (List.mem_append_right _ h)
  subst hsz
  have hD := hD0.self (sz := s.heap.size)
  generalize hAe : va_A (dkW ad d0 ar cA L K u) s.heap.size = A at hW hD ⊢
  have hA : ∀ q : Nat, s.heap.size ≤ q → A q := fun q h => by rw [← hAe]; exact Or.inr h
  have hS : va_S A s.heap s.heap [] := va_S.rf
  obtain ⟨hP_a, hD_a, hF_a⟩ := dk_at hP hD hS hA ha_a
  have hl := lv_entry ([.ref d0, .int (nI i), .int v2, .long v3]) (n := 6) (Nat.le_of_ble_eq_true rfl)
  rw [lg_entry_eq]
  generalize (lg_sl ([.ref d0, .int (nI i), .int v2, .long v3]) ++ List.replicate (6 - (lg_sl ([.ref d0, .int (nI i), .int v2, .long v3])).length) Slot.unset).toArray = ls at hl ⊢
  have hl : lv_has ls 6 [(0, .ref d0), (1, .int (nI i)), (2, .int v2), (3, .long v3)] := hl
  refine lv_aload_n hx hb dX2_set_0 rfl (lv_at hl 0 rfl) ?_
  refine lv_iload_n hx hb dX2_set_1 rfl (lv_at hl 1 rfl) ?_
  refine va_csq (W.runV (As := [.int (nI i)]) (rest := []) ⟨hx, hb, hml, hown, hts⟩ (ct_X2_find_at l dC dI ad d0 ar cA s.heap.size L K u hL8 i a hi_a) (cwV 1 hts gX2_set_X2_find rfl rfl rfl (by decide +kernel) ⟨Nat.le_of_ble_eq_true rfl, Nat.le_of_ble_eq_true rfl⟩) ⟨dw_blind, va_recv hK hP (ci := 2) (q0 := 0) rfl rfl, fun U hU hW9 => dw_call hK hP hD hW hN hS hA hU hW9⟩ rfl rfl hl.1 rfl (lv_room (Nat.le_of_ble_eq_true rfl)) dX2_set_2 ⟨Nat.zero_le _, Nat.zero_le _⟩) (fun r er => ?_)
  subst er
  refine W.eq (g2 := F0 m 5 ls [.ref a]) rfl ?_
  refine lv_astore (lv' := [(5, .ref a), (0, .ref d0), (1, .int (nI i)), (2, .int v2), (3, .long v3)]) hx hb dX2_set_5 hl (by decide) rfl (fun ls hl => ?_)
  refine lv_aload hx hb dX2_set_7 (lv_at hl 0 rfl) ?_
  refine lv_ifnull hx hb dX2_set_9 ?_
  refine lv_aload hx hb dX2_set_12 (lv_at hl 0 rfl) ?_
  refine lv_iload_n hx hb dX2_set_14 rfl (lv_at hl 3 rfl) ?_
  refine lv_lload_n hx hb dX2_set_15 rfl (lv_at hl 4 rfl) ?_
  refine va_calli (va_runVN (As := [.int v2, .long v3]) (rest := []) ⟨hx, hb, hml, hown, hts⟩ (ct_X0_put l dC dI ad a s.heap.size (K a) (hKk a ha_a) v2 v3 (u a).1 (u a).2.1 (u a).2.2.1 (u a).2.2.2.1 (u a).2.2.2.2) ⟨va_cnB 2 hts gX2_set_X0_put_n30 rfl rfl rfl (nW_X2_30 hN) (hts (.initialized RX0) (by decide +kernel)) (by decide +kernel) ⟨Nat.le_of_ble_eq_true rfl, Nat.le_of_ble_eq_true rfl⟩, hts (.instanceMethod yX0_put) (by decide +kernel), hts (.selects RX0 yX0_put yX0_put) (by decide +kernel)⟩ ⟨axw_blind, va_recv hK hP_a (ci := 0) (q0 := 0) rfl rfl, fun U hU hW9 => axw_call hK hP_a hD_a hW hN hS hF_a hU hW9⟩ rfl rfl hl.1 rfl (lv_room (Nat.le_of_ble_eq_true rfl)) dX2_set_16 ⟨Nat.zero_le _, Nat.zero_le _⟩) hS (fun q _ h => hF_a q h) hF_a (fun r _ t H1 locs ht hvm hw hB hz1 hk1 hS => ?_)
  subst hw
  obtain ⟨hP1, -⟩ := hB
  rw [ht] at hP1
  obtain ⟨hP, hD⟩ := dk_join (x := (fn_X0_put (K a) v2 v3 (u a).1 (u a).2.1 (u a).2.2.1 (u a).2.2.2.1 (u a).2.2.2.2).2) hP hD ha_a hk1 hP1
  generalize H1 = H at hP hS ⊢
  refine lv_if_eq (tgt := 26) hx hb dX2_set_19 (by decide) (fun c_1 => ?_) (fun c_1 => ?_)
  · refine lv_iconst (v := (0 : Int32)) hx hb dX2_set_26 (by decide) ?_
    exact W.zret (v := (0 : Int32)) (ty := .boolean) hx hb hr (by decide) (fun t ht hW9 => ⟨⟨_, (), rfl, by rw [if_pos c_1], by rw [ht]; exact hP, hD⟩, hS.F ht⟩) hS.2.2 dX2_set_27
  · refine lv_iconst (v := (1 : Int32)) hx hb dX2_set_22 (by decide) ?_
    refine lv_goto (tgt := 27) hx hb dX2_set_23 (by decide) ?_
    exact W.zret (v := (1 : Int32)) (ty := .boolean) hx hb hr (by decide) (fun t ht hW9 => ⟨⟨_, (), rfl, by rw [if_neg c_1], by rw [ht]; exact hP, hD⟩, hS.F ht⟩) hS.2.2 dX2_set_27
set_option maxHeartbeats 4000000 in
set_option maxRecDepth 100000 in
theorem ct_X2_follow_no (l : Launch) (dC : Nat → ClassId) (dI : Nat → Nat → Nat) (ad : Nat → Nat) (d0 ar : Nat) (cA : ClassId) (sz : Nat) (L : List Nat) (K : Nat → Nat) (u : Nat → Ax5) (hL8 : L.length ≤ 8) (hKk : ∀ a ∈ L, K a < 4) (v1 v2 : Int32) (h1 : fn_X3_isAxis L.length v1 = 0) (h2 : fn_X3_isAxis L.length v2 = 0) : Met l yX2_follow wsX2_follow ({ frames := 1, cells := 0, slots := 0, locals := 21 } : Room) (va_Pc [.ref d0, .int v1, .int v2] (fun U => dw dC dI ad d0 ar cA sz L K u U)) (va_Qi (fun r (_ : Unit) => r = (0 : Int32)) (fun _ t => va_P (dC, dI) vwCl (dkW ad d0 ar cA L K (u)) t.heap ∧ va_D (va_A (dkW ad d0 ar cA L K u) sz) (dkW ad d0 ar cA L K (u))) (va_A (dkW ad d0 ar cA L K u) sz)) 0 0 (va_A (dkW ad d0 ar cA L K u) sz) := by
  refine Met.ofW (cc := cX2_follow) (maxL := 5) (ret := (some .boolean)) (by decide) rfl ?_
  intro p e s m args below meth c s₁ B hml hv
  obtain ⟨rfl, hsz, hP, hK, hD0, hW, hN⟩ := hv
  have hx := B.exec
  have hb := B.bytes
  have hr := B.returns
  have hlocks := B.notSynchronized
  have hts := atoms_spec (ws := wsX2_follow) B.pre
  have hown : s.vm.findClass RX2 = some m.cls := findClass_of_methodNamed B.named
  have hin2 : ∀ w ∈ u_ws RX2 TX2 2, w ∈ wsX2_follow := fun _ h => List.mem_cons_of_mem _ (List.mem_append_left _ (List.mem_append_right _ h))
  have hin0 : ∀ w ∈ u_ws RX0 TX0 6, w ∈ wsX2_follow := fun _ h => List.mem_cons_of_mem _ (List.mem_append_right _ h)
  subst hsz
  have hD := hD0.self (sz := s.heap.size)
  generalize hAe : va_A (dkW ad d0 ar cA L K u) s.heap.size = A at hW hD ⊢
  have hA : ∀ q : Nat, s.heap.size ≤ q → A q := fun q h => by rw [← hAe]; exact Or.inr h
  have hS : va_S A s.heap s.heap [] := va_S.rf
  have hl := lv_entry ([.ref d0, .int v1, .int v2]) (n := 5) (Nat.le_of_ble_eq_true rfl)
  rw [lg_entry_eq]
  generalize (lg_sl ([.ref d0, .int v1, .int v2]) ++ List.replicate (5 - (lg_sl ([.ref d0, .int v1, .int v2])).length) Slot.unset).toArray = ls at hl ⊢
  have hl : lv_has ls 5 [(0, .ref d0), (1, .int v1), (2, .int v2)] := hl
  refine lv_aload_n hx hb dX2_follow_0 rfl (lv_at hl 0 rfl) ?_
  refine lv_iload_n hx hb dX2_follow_1 rfl (lv_at hl 1 rfl) ?_
  refine va_csq (W.runV (As := [.int v1]) (rest := []) ⟨hx, hb, hml, hown, hts⟩ (ct_X2_find_no l dC dI ad d0 ar cA s.heap.size L K u v1 h1) (cwV 1 hts gX2_follow_X2_find rfl rfl rfl (by decide +kernel) ⟨Nat.le_of_ble_eq_true rfl, Nat.le_of_ble_eq_true rfl⟩) ⟨dw_blind, va_recv hK hP (ci := 2) (q0 := 0) rfl rfl, fun U hU hW9 => dw_call hK hP hD hW hN hS hA hU hW9⟩ rfl rfl hl.1 rfl (lv_room (Nat.le_of_ble_eq_true rfl)) dX2_follow_2 ⟨Nat.zero_le _, Nat.zero_le _⟩) (fun r er => ?_)
  subst er
  refine W.eq (g2 := F0 m 5 ls [.null]) rfl ?_
  refine lv_astore_nN (lv' := [(3, .null), (0, .ref d0), (1, .int v1), (2, .int v2)]) hx hb dX2_follow_5 rfl hl (by decide) rfl (fun ls hl => ?_)
  refine lv_aload_n hx hb dX2_follow_6 rfl (lv_at hl 1 rfl) ?_
  refine lv_iload_n hx hb dX2_follow_7 rfl (lv_at hl 3 rfl) ?_
  refine va_csq (W.runV (As := [.int v2]) (rest := []) ⟨hx, hb, hml, hown, hts⟩ (ct_X2_find_no l dC dI ad d0 ar cA s.heap.size L K u v2 h2) (cwV 1 hts gX2_follow_X2_find rfl rfl rfl (by decide +kernel) ⟨Nat.le_of_ble_eq_true rfl, Nat.le_of_ble_eq_true rfl⟩) ⟨dw_blind, va_recv hK hP (ci := 2) (q0 := 0) rfl rfl, fun U hU hW9 => dw_call hK hP hD hW hN hS hA hU hW9⟩ rfl rfl hl.1 rfl (lv_room (Nat.le_of_ble_eq_true rfl)) dX2_follow_8 ⟨Nat.zero_le _, Nat.zero_le _⟩) (fun r er => ?_)
  subst er
  refine W.eq (g2 := F0 m 11 ls [.null]) rfl ?_
  refine lv_astoreN (lv' := [(4, .null), (3, .null), (0, .ref d0), (1, .int v1), (2, .int v2)]) hx hb dX2_follow_11 hl (by decide) rfl (fun ls hl => ?_)
  refine lv_aload_nN hx hb dX2_follow_13 rfl (lv_at hl 1 rfl) ?_
  refine lv_ifnullN (tgt := 22) hx hb dX2_follow_14 (by decide) ?_
  refine lv_iconst (v := (0 : Int32)) hx hb dX2_follow_22 (by decide) ?_
  exact W.zret (v := (0 : Int32)) (ty := .boolean) hx hb hr (by decide) (fun t ht hW9 => ⟨⟨_, (), rfl, rfl, by rw [ht]; exact hP, hD⟩, hS.F ht⟩) hS.2.2 dX2_follow_23
set_option maxHeartbeats 4000000 in
set_option maxRecDepth 100000 in
theorem ct_X2_follow_na (l : Launch) (dC : Nat → ClassId) (dI : Nat → Nat → Nat) (ad : Nat → Nat) (d0 ar : Nat) (cA : ClassId) (sz : Nat) (L : List Nat) (K : Nat → Nat) (u : Nat → Ax5) (hL8 : L.length ≤ 8) (hKk : ∀ a ∈ L, K a < 4) (v1 : Int32) (h1 : fn_X3_isAxis L.length v1 = 0) (j b : Nat) (ha_b : b ∈ L) (hi_b : L[j]? = some b) : Met l yX2_follow wsX2_follow ({ frames := 1, cells := 0, slots := 0, locals := 21 } : Room) (va_Pc [.ref d0, .int v1, .int (nI j)] (fun U => dw dC dI ad d0 ar cA sz L K u U)) (va_Qi (fun r (_ : Unit) => r = (0 : Int32)) (fun _ t => va_P (dC, dI) vwCl (dkW ad d0 ar cA L K (u)) t.heap ∧ va_D (va_A (dkW ad d0 ar cA L K u) sz) (dkW ad d0 ar cA L K (u))) (va_A (dkW ad d0 ar cA L K u) sz)) 0 0 (va_A (dkW ad d0 ar cA L K u) sz) := by
  refine Met.ofW (cc := cX2_follow) (maxL := 5) (ret := (some .boolean)) (by decide) rfl ?_
  intro p e s m args below meth c s₁ B hml hv
  obtain ⟨rfl, hsz, hP, hK, hD0, hW, hN⟩ := hv
  have hx := B.exec
  have hb := B.bytes
  have hr := B.returns
  have hlocks := B.notSynchronized
  have hts := atoms_spec (ws := wsX2_follow) B.pre
  have hown : s.vm.findClass RX2 = some m.cls := findClass_of_methodNamed B.named
  have hin2 : ∀ w ∈ u_ws RX2 TX2 2, w ∈ wsX2_follow := fun _ h => List.mem_cons_of_mem _ (List.mem_append_left _ (List.mem_append_right _ h))
  have hin0 : ∀ w ∈ u_ws RX0 TX0 6, w ∈ wsX2_follow := fun _ h => List.mem_cons_of_mem _ (List.mem_append_right _ h)
  subst hsz
  have hD := hD0.self (sz := s.heap.size)
  generalize hAe : va_A (dkW ad d0 ar cA L K u) s.heap.size = A at hW hD ⊢
  have hA : ∀ q : Nat, s.heap.size ≤ q → A q := fun q h => by rw [← hAe]; exact Or.inr h
  have hS : va_S A s.heap s.heap [] := va_S.rf
  have hl := lv_entry ([.ref d0, .int v1, .int (nI j)]) (n := 5) (Nat.le_of_ble_eq_true rfl)
  rw [lg_entry_eq]
  generalize (lg_sl ([.ref d0, .int v1, .int (nI j)]) ++ List.replicate (5 - (lg_sl ([.ref d0, .int v1, .int (nI j)])).length) Slot.unset).toArray = ls at hl ⊢
  have hl : lv_has ls 5 [(0, .ref d0), (1, .int v1), (2, .int (nI j))] := hl
  refine lv_aload_n hx hb dX2_follow_0 rfl (lv_at hl 0 rfl) ?_
  refine lv_iload_n hx hb dX2_follow_1 rfl (lv_at hl 1 rfl) ?_
  refine va_csq (W.runV (As := [.int v1]) (rest := []) ⟨hx, hb, hml, hown, hts⟩ (ct_X2_find_no l dC dI ad d0 ar cA s.heap.size L K u v1 h1) (cwV 1 hts gX2_follow_X2_find rfl rfl rfl (by decide +kernel) ⟨Nat.le_of_ble_eq_true rfl, Nat.le_of_ble_eq_true rfl⟩) ⟨dw_blind, va_recv hK hP (ci := 2) (q0 := 0) rfl rfl, fun U hU hW9 => dw_call hK hP hD hW hN hS hA hU hW9⟩ rfl rfl hl.1 rfl (lv_room (Nat.le_of_ble_eq_true rfl)) dX2_follow_2 ⟨Nat.zero_le _, Nat.zero_le _⟩) (fun r er => ?_)
  subst er
  refine W.eq (g2 := F0 m 5 ls [.null]) rfl ?_
  refine lv_astore_nN (lv' := [(3, .null), (0, .ref d0), (1, .int v1), (2, .int (nI j))]) hx hb dX2_follow_5 rfl hl (by decide) rfl (fun ls hl => ?_)
  refine lv_aload_n hx hb dX2_follow_6 rfl (lv_at hl 1 rfl) ?_
  refine lv_iload_n hx hb dX2_follow_7 rfl (lv_at hl 3 rfl) ?_
  refine va_csq (W.runV (As := [.int (nI j)]) (rest := []) ⟨hx, hb, hml, hown, hts⟩ (ct_X2_find_at l dC dI ad d0 ar cA s.heap.size L K u hL8 j b hi_b) (cwV 1 hts gX2_follow_X2_find rfl rfl rfl (by decide +kernel) ⟨Nat.le_of_ble_eq_true rfl, Nat.le_of_ble_eq_true rfl⟩) ⟨dw_blind, va_recv hK hP (ci := 2) (q0 := 0) rfl rfl, fun U hU hW9 => dw_call hK hP hD hW hN hS hA hU hW9⟩ rfl rfl hl.1 rfl (lv_room (Nat.le_of_ble_eq_true rfl)) dX2_follow_8 ⟨Nat.zero_le _, Nat.zero_le _⟩) (fun r er => ?_)
  subst er
  refine W.eq (g2 := F0 m 11 ls [.ref b]) rfl ?_
  refine lv_astore (lv' := [(4, .ref b), (3, .null), (0, .ref d0), (1, .int v1), (2, .int (nI j))]) hx hb dX2_follow_11 hl (by decide) rfl (fun ls hl => ?_)
  refine lv_aload_nN hx hb dX2_follow_13 rfl (lv_at hl 1 rfl) ?_
  refine lv_ifnullN (tgt := 22) hx hb dX2_follow_14 (by decide) ?_
  refine lv_iconst (v := (0 : Int32)) hx hb dX2_follow_22 (by decide) ?_
  exact W.zret (v := (0 : Int32)) (ty := .boolean) hx hb hr (by decide) (fun t ht hW9 => ⟨⟨_, (), rfl, rfl, by rw [ht]; exact hP, hD⟩, hS.F ht⟩) hS.2.2 dX2_follow_23
set_option maxHeartbeats 4000000 in
set_option maxRecDepth 100000 in
theorem ct_X2_follow_nb (l : Launch) (dC : Nat → ClassId) (dI : Nat → Nat → Nat) (ad : Nat → Nat) (d0 ar : Nat) (cA : ClassId) (sz : Nat) (L : List Nat) (K : Nat → Nat) (u : Nat → Ax5) (hL8 : L.length ≤ 8) (hKk : ∀ a ∈ L, K a < 4) (i a : Nat) (ha_a : a ∈ L) (hi_a : L[i]? = some a) (v2 : Int32) (h2 : fn_X3_isAxis L.length v2 = 0) : Met l yX2_follow wsX2_follow ({ frames := 1, cells := 0, slots := 0, locals := 21 } : Room) (va_Pc [.ref d0, .int (nI i), .int v2] (fun U => dw dC dI ad d0 ar cA sz L K u U)) (va_Qi (fun r (_ : Unit) => r = (0 : Int32)) (fun _ t => va_P (dC, dI) vwCl (dkW ad d0 ar cA L K (u)) t.heap ∧ va_D (va_A (dkW ad d0 ar cA L K u) sz) (dkW ad d0 ar cA L K (u))) (va_A (dkW ad d0 ar cA L K u) sz)) 0 0 (va_A (dkW ad d0 ar cA L K u) sz) := by
  refine Met.ofW (cc := cX2_follow) (maxL := 5) (ret := (some .boolean)) (by decide) rfl ?_
  intro p e s m args below meth c s₁ B hml hv
  obtain ⟨rfl, hsz, hP, hK, hD0, hW, hN⟩ := hv
  have hx := B.exec
  have hb := B.bytes
  have hr := B.returns
  have hlocks := B.notSynchronized
  have hts := atoms_spec (ws := wsX2_follow) B.pre
  have hown : s.vm.findClass RX2 = some m.cls := findClass_of_methodNamed B.named
  have hin2 : ∀ w ∈ u_ws RX2 TX2 2, w ∈ wsX2_follow := fun _ h => List.mem_cons_of_mem _ (List.mem_append_left _ (List.mem_append_right _ h))
  have hin0 : ∀ w ∈ u_ws RX0 TX0 6, w ∈ wsX2_follow := fun _ h => List.mem_cons_of_mem _ (List.mem_append_right _ h)
  subst hsz
  have hD := hD0.self (sz := s.heap.size)
  generalize hAe : va_A (dkW ad d0 ar cA L K u) s.heap.size = A at hW hD ⊢
  have hA : ∀ q : Nat, s.heap.size ≤ q → A q := fun q h => by rw [← hAe]; exact Or.inr h
  have hS : va_S A s.heap s.heap [] := va_S.rf
  have hl := lv_entry ([.ref d0, .int (nI i), .int v2]) (n := 5) (Nat.le_of_ble_eq_true rfl)
  rw [lg_entry_eq]
  generalize (lg_sl ([.ref d0, .int (nI i), .int v2]) ++ List.replicate (5 - (lg_sl ([.ref d0, .int (nI i), .int v2])).length) Slot.unset).toArray = ls at hl ⊢
  have hl : lv_has ls 5 [(0, .ref d0), (1, .int (nI i)), (2, .int v2)] := hl
  refine lv_aload_n hx hb dX2_follow_0 rfl (lv_at hl 0 rfl) ?_
  refine lv_iload_n hx hb dX2_follow_1 rfl (lv_at hl 1 rfl) ?_
  refine va_csq (W.runV (As := [.int (nI i)]) (rest := []) ⟨hx, hb, hml, hown, hts⟩ (ct_X2_find_at l dC dI ad d0 ar cA s.heap.size L K u hL8 i a hi_a) (cwV 1 hts gX2_follow_X2_find rfl rfl rfl (by decide +kernel) ⟨Nat.le_of_ble_eq_true rfl, Nat.le_of_ble_eq_true rfl⟩) ⟨dw_blind, va_recv hK hP (ci := 2) (q0 := 0) rfl rfl, fun U hU hW9 => dw_call hK hP hD hW hN hS hA hU hW9⟩ rfl rfl hl.1 rfl (lv_room (Nat.le_of_ble_eq_true rfl)) dX2_follow_2 ⟨Nat.zero_le _, Nat.zero_le _⟩) (fun r er => ?_)
  subst er
  refine W.eq (g2 := F0 m 5 ls [.ref a]) rfl ?_
  refine lv_astore_n (lv' := [(3, .ref a), (0, .ref d0), (1, .int (nI i)), (2, .int v2)]) hx hb dX2_follow_5 rfl hl (by decide) rfl (fun ls hl => ?_)
  refine lv_aload_n hx hb dX2_follow_6 rfl (lv_at hl 1 rfl) ?_
  refine lv_iload_n hx hb dX2_follow_7 rfl (lv_at hl 3 rfl) ?_
  refine va_csq (W.runV (As := [.int v2]) (rest := []) ⟨hx, hb, hml, hown, hts⟩ (ct_X2_find_no l dC dI ad d0 ar cA s.heap.size L K u v2 h2) (cwV 1 hts gX2_follow_X2_find rfl rfl rfl (by decide +kernel) ⟨Nat.le_of_ble_eq_true rfl, Nat.le_of_ble_eq_true rfl⟩) ⟨dw_blind, va_recv hK hP (ci := 2) (q0 := 0) rfl rfl, fun U hU hW9 => dw_call hK hP hD hW hN hS hA hU hW9⟩ rfl rfl hl.1 rfl (lv_room (Nat.le_of_ble_eq_true rfl)) dX2_follow_8 ⟨Nat.zero_le _, Nat.zero_le _⟩) (fun r er => ?_)
  subst er
  refine W.eq (g2 := F0 m 11 ls [.null]) rfl ?_
  refine lv_astoreN (lv' := [(4, .null), (3, .ref a), (0, .ref d0), (1, .int (nI i)), (2, .int v2)]) hx hb dX2_follow_11 hl (by decide) rfl (fun ls hl => ?_)
  refine lv_aload_n hx hb dX2_follow_13 rfl (lv_at hl 1 rfl) ?_
  refine lv_ifnull hx hb dX2_follow_14 ?_
  refine lv_aloadN hx hb dX2_follow_17 (lv_at hl 0 rfl) ?_
  refine lv_ifnonnullN hx hb dX2_follow_19 ?_
  refine lv_iconst (v := (0 : Int32)) hx hb dX2_follow_22 (by decide) ?_
  exact W.zret (v := (0 : Int32)) (ty := .boolean) hx hb hr (by decide) (fun t ht hW9 => ⟨⟨_, (), rfl, rfl, by rw [ht]; exact hP, hD⟩, hS.F ht⟩) hS.2.2 dX2_follow_23
set_option maxHeartbeats 4000000 in
set_option maxRecDepth 100000 in
theorem ct_X2_follow_at (l : Launch) (dC : Nat → ClassId) (dI : Nat → Nat → Nat) (ad : Nat → Nat) (d0 ar : Nat) (cA : ClassId) (sz : Nat) (L : List Nat) (K : Nat → Nat) (u : Nat → Ax5) (hL8 : L.length ≤ 8) (hKk : ∀ a ∈ L, K a < 4) (i a : Nat) (ha_a : a ∈ L) (hi_a : L[i]? = some a) (j b : Nat) (ha_b : b ∈ L) (hi_b : L[j]? = some b) : Met l yX2_follow wsX2_follow ({ frames := 5, cells := 0, slots := 0, locals := 126 } : Room) (va_Pc [.ref d0, .int (nI i), .int (nI j)] (fun U => dw dC dI ad d0 ar cA sz L K u U)) (va_Qi (fun r (_ : Unit) => r = (1 : Int32)) (fun _ t => va_P (dC, dI) vwCl (dkW ad d0 ar cA L K (va_up u a (fn_X0_moveTo (K a) (K b) (u b).1 (u a).1 (u a).2.1 (u a).2.2.1 (u a).2.2.2.1 (u a).2.2.2.2))) t.heap ∧ va_D (va_A (dkW ad d0 ar cA L K u) sz) (dkW ad d0 ar cA L K (va_up u a (fn_X0_moveTo (K a) (K b) (u b).1 (u a).1 (u a).2.1 (u a).2.2.1 (u a).2.2.2.1 (u a).2.2.2.2)))) (va_A (dkW ad d0 ar cA L K u) sz)) 0 0 (va_A (dkW ad d0 ar cA L K u) sz) := by
  refine Met.ofW (cc := cX2_follow) (maxL := 5) (ret := (some .boolean)) (by decide) rfl ?_
  intro p e s m args below meth c s₁ B hml hv
  obtain ⟨rfl, hsz, hP, hK, hD0, hW, hN⟩ := hv
  have hx := B.exec
  have hb := B.bytes
  have hr := B.returns
  have hlocks := B.notSynchronized
  have hts := atoms_spec (ws := wsX2_follow) B.pre
  have hown : s.vm.findClass RX2 = some m.cls := findClass_of_methodNamed B.named
  have hin2 : ∀ w ∈ u_ws RX2 TX2 2, w ∈ wsX2_follow := fun _ h => List.mem_cons_of_mem _ (List.mem_append_left _ (List.mem_append_right _ h))
  have hin0 : ∀ w ∈ u_ws RX0 TX0 6, w ∈ wsX2_follow := fun _ h => List.mem_cons_of_mem _ (List.mem_append_right _ h)
  subst hsz
  have hD := hD0.self (sz := s.heap.size)
  generalize hAe : va_A (dkW ad d0 ar cA L K u) s.heap.size = A at hW hD ⊢
  have hA : ∀ q : Nat, s.heap.size ≤ q → A q := fun q h => by rw [← hAe]; exact Or.inr h
  have hS : va_S A s.heap s.heap [] := va_S.rf
  obtain ⟨hP_a, hD_a, hF_a⟩ := dk_at hP hD hS hA ha_a
  obtain ⟨hP_b, hD_b, hF_b⟩ := dk_at hP hD hS hA ha_b
  have hl := lv_entry ([.ref d0, .int (nI i), .int (nI j)]) (n := 5) (Nat.le_of_ble_eq_true rfl)
  rw [lg_entry_eq]
  generalize (lg_sl ([.ref d0, .int (nI i), .int (nI j)]) ++ List.replicate (5 - (lg_sl ([.ref d0, .int (nI i), .int (nI j)])).length) Slot.unset).toArray = ls at hl ⊢
  have hl : lv_has ls 5 [(0, .ref d0), (1, .int (nI i)), (2, .int (nI j))] := hl
  refine lv_aload_n hx hb dX2_follow_0 rfl (lv_at hl 0 rfl) ?_
  refine lv_iload_n hx hb dX2_follow_1 rfl (lv_at hl 1 rfl) ?_
  refine va_csq (W.runV (As := [.int (nI i)]) (rest := []) ⟨hx, hb, hml, hown, hts⟩ (ct_X2_find_at l dC dI ad d0 ar cA s.heap.size L K u hL8 i a hi_a) (cwV 1 hts gX2_follow_X2_find rfl rfl rfl (by decide +kernel) ⟨Nat.le_of_ble_eq_true rfl, Nat.le_of_ble_eq_true rfl⟩) ⟨dw_blind, va_recv hK hP (ci := 2) (q0 := 0) rfl rfl, fun U hU hW9 => dw_call hK hP hD hW hN hS hA hU hW9⟩ rfl rfl hl.1 rfl (lv_room (Nat.le_of_ble_eq_true rfl)) dX2_follow_2 ⟨Nat.zero_le _, Nat.zero_le _⟩) (fun r er => ?_)
  subst er
  refine W.eq (g2 := F0 m 5 ls [.ref a]) rfl ?_
  refine lv_astore_n (lv' := [(3, .ref a), (0, .ref d0), (1, .int (nI i)), (2, .int (nI j))]) hx hb dX2_follow_5 rfl hl (by decide) rfl (fun ls hl => ?_)
  refine lv_aload_n hx hb dX2_follow_6 rfl (lv_at hl 1 rfl) ?_
  refine lv_iload_n hx hb dX2_follow_7 rfl (lv_at hl 3 rfl) ?_
  refine va_csq (W.runV (As := [.int (nI j)]) (rest := []) ⟨hx, hb, hml, hown, hts⟩ (ct_X2_find_at l dC dI ad d0 ar cA s.heap.size L K u hL8 j b hi_b) (cwV 1 hts gX2_follow_X2_find rfl rfl rfl (by decide +kernel) ⟨Nat.le_of_ble_eq_true rfl, Nat.le_of_ble_eq_true rfl⟩) ⟨dw_blind, va_recv hK hP (ci := 2) (q0 := 0) rfl rfl, fun U hU hW9 => dw_call hK hP hD hW hN hS hA hU hW9⟩ rfl rfl hl.1 rfl (lv_room (Nat.le_of_ble_eq_true rfl)) dX2_follow_8 ⟨Nat.zero_le _, Nat.zero_le _⟩) (fun r er => ?_)
  subst er
  refine W.eq (g2 := F0 m 11 ls [.ref b]) rfl ?_
  refine lv_astore (lv' := [(4, .ref b), (3, .ref a), (0, .ref d0), (1, .int (nI i)), (2, .int (nI j))]) hx hb dX2_follow_11 hl (by decide) rfl (fun ls hl => ?_)
  refine lv_aload_n hx hb dX2_follow_13 rfl (lv_at hl 1 rfl) ?_
  refine lv_ifnull hx hb dX2_follow_14 ?_
  refine lv_aload hx hb dX2_follow_17 (lv_at hl 0 rfl) ?_
  refine lv_ifnonnull (tgt := 24) hx hb dX2_follow_19 (by decide) ?_
  refine lv_aload_n hx hb dX2_follow_24 rfl (lv_at hl 1 rfl) ?_
  refine lv_aload hx hb dX2_follow_25 (lv_at hl 0 rfl) ?_
  refine va_callv (va_runVN (As := [.ref b]) (rest := []) ⟨hx, hb, hml, hown, hts⟩ (ct_X0_moveTo l dC dI ad a b s.heap.size (K a) (hKk a ha_a) (K b) (hKk b ha_b) (u b).1 (u b).2.1 (u b).2.2.1 (u b).2.2.2.1 (u b).2.2.2.2 (u a).1 (u a).2.1 (u a).2.2.1 (u a).2.2.2.1 (u a).2.2.2.2) ⟨va_cnB 1 hts gX2_follow_X0_moveTo_n50 rfl rfl rfl (nW_X2_50 hN) (hts (.initialized RX0) (by decide +kernel)) (by decide +kernel) ⟨Nat.le_of_ble_eq_true rfl, Nat.le_of_ble_eq_true rfl⟩, hts (.instanceMethod yX0_moveTo) (by decide +kernel), hts (.selects RX0 yX0_moveTo yX0_moveTo) (by decide +kernel)⟩ ⟨(fun a U g mk q => ⟨q.1, axw_cl q.2.1, q.2.2⟩), va_recv hK hP_a (ci := 0) (q0 := 0) rfl rfl, fun U hU hW9 => ⟨rfl, (axw_call (av := []) hK hP_a hD_a hW hN hS hF_a hU hW9).2, by rw [hU]; exact hP_b⟩⟩ rfl rfl hl.1 rfl (lv_room (Nat.le_of_ble_eq_true rfl)) dX2_follow_27 ⟨Nat.zero_le _, Nat.zero_le _⟩) hS (fun q _ h => hF_a q h) hF_a (fun _ t H1 locs ht hvm hw hB hz1 hk1 hS => ?_)
  obtain ⟨hP1, -⟩ := hB
  rw [ht] at hP1
  obtain ⟨hP, hD⟩ := dk_join (x := fn_X0_moveTo (K a) (K b) (u b).1 (u a).1 (u a).2.1 (u a).2.2.1 (u a).2.2.2.1 (u a).2.2.2.2) hP hD ha_a hk1 hP1
  generalize H1 = H at hP hS ⊢
  refine lv_iconst (v := (1 : Int32)) hx hb dX2_follow_30 (by decide) ?_
  exact W.zret (v := (1 : Int32)) (ty := .boolean) hx hb hr (by decide) (fun t ht hW9 => ⟨⟨_, (), rfl, rfl, by rw [ht]; exact hP, hD⟩, hS.F ht⟩) hS.2.2 dX2_follow_31
set_option maxHeartbeats 4000000 in
set_option maxRecDepth 100000 in
theorem ct_X2_order_no (l : Launch) (dC : Nat → ClassId) (dI : Nat → Nat → Nat) (ad : Nat → Nat) (d0 ar : Nat) (cA : ClassId) (sz : Nat) (L : List Nat) (K : Nat → Nat) (u : Nat → Ax5) (hL8 : L.length ≤ 8) (hKk : ∀ a ∈ L, K a < 4) (v1 v2 : Int32) (h1 : fn_X3_isAxis L.length v1 = 0) (h2 : fn_X3_isAxis L.length v2 = 0) : Met l yX2_order wsX2_order ({ frames := 1, cells := 0, slots := 0, locals := 21 } : Room) (va_Pc [.ref d0, .int v1, .int v2] (fun U => dw dC dI ad d0 ar cA sz L K u U)) (vp_Si (fun r => r = (-2 : Int32))) 0 0 (fun _ => False) := by
  refine Met.ofW (cc := cX2_order) (maxL := 5) (ret := (some .int)) (by decide) rfl ?_
  intro p e s m args below meth c s₁ B hml hv
  obtain ⟨rfl, hsz, hP, hK, hD0, hW, hN⟩ := hv
  have hx := B.exec
  have hb := B.bytes
  have hr := B.returns
  have hlocks := B.notSynchronized
  have hts := atoms_spec (ws := wsX2_order) B.pre
  have hown : s.vm.findClass RX2 = some m.cls := findClass_of_methodNamed B.named
  have hin2 : ∀ w ∈ u_ws RX2 TX2 2, w ∈ wsX2_order := fun _ h => List.mem_cons_of_mem _ (List.mem_append_right _ h)
  have hin0 : ∀ w ∈ u_ws RX0 TX0 6, w ∈ wsX2_order := fun _ h => List.mem_cons_of_mem _ (List.mem_append_left _ (List.mem_append_right _ h))
  subst hsz
  have hD := hD0.self (sz := s.heap.size)
  generalize hAe : va_A (dkW ad d0 ar cA L K u) s.heap.size = A at hW hD ⊢
  have hA : ∀ q : Nat, s.heap.size ≤ q → A q := fun q h => by rw [← hAe]; exact Or.inr h
  have hS : va_S A s.heap s.heap [] := va_S.rf
  have hl := lv_entry ([.ref d0, .int v1, .int v2]) (n := 5) (Nat.le_of_ble_eq_true rfl)
  rw [lg_entry_eq]
  generalize (lg_sl ([.ref d0, .int v1, .int v2]) ++ List.replicate (5 - (lg_sl ([.ref d0, .int v1, .int v2])).length) Slot.unset).toArray = ls at hl ⊢
  have hl : lv_has ls 5 [(0, .ref d0), (1, .int v1), (2, .int v2)] := hl
  refine lv_aload_n hx hb dX2_order_0 rfl (lv_at hl 0 rfl) ?_
  refine lv_iload_n hx hb dX2_order_1 rfl (lv_at hl 1 rfl) ?_
  refine va_csq (W.runV (As := [.int v1]) (rest := []) ⟨hx, hb, hml, hown, hts⟩ (ct_X2_find_no l dC dI ad d0 ar cA s.heap.size L K u v1 h1) (cwV 1 hts gX2_order_X2_find rfl rfl rfl (by decide +kernel) ⟨Nat.le_of_ble_eq_true rfl, Nat.le_of_ble_eq_true rfl⟩) ⟨dw_blind, va_recv hK hP (ci := 2) (q0 := 0) rfl rfl, fun U hU hW9 => dw_call hK hP hD hW hN hS hA hU hW9⟩ rfl rfl hl.1 rfl (lv_room (Nat.le_of_ble_eq_true rfl)) dX2_order_2 ⟨Nat.zero_le _, Nat.zero_le _⟩) (fun r er => ?_)
  subst er
  refine W.eq (g2 := F0 m 5 ls [.null]) rfl ?_
  refine lv_astore_nN (lv' := [(3, .null), (0, .ref d0), (1, .int v1), (2, .int v2)]) hx hb dX2_order_5 rfl hl (by decide) rfl (fun ls hl => ?_)
  refine lv_aload_n hx hb dX2_order_6 rfl (lv_at hl 1 rfl) ?_
  refine lv_iload_n hx hb dX2_order_7 rfl (lv_at hl 3 rfl) ?_
  refine va_csq (W.runV (As := [.int v2]) (rest := []) ⟨hx, hb, hml, hown, hts⟩ (ct_X2_find_no l dC dI ad d0 ar cA s.heap.size L K u v2 h2) (cwV 1 hts gX2_order_X2_find rfl rfl rfl (by decide +kernel) ⟨Nat.le_of_ble_eq_true rfl, Nat.le_of_ble_eq_true rfl⟩) ⟨dw_blind, va_recv hK hP (ci := 2) (q0 := 0) rfl rfl, fun U hU hW9 => dw_call hK hP hD hW hN hS hA hU hW9⟩ rfl rfl hl.1 rfl (lv_room (Nat.le_of_ble_eq_true rfl)) dX2_order_8 ⟨Nat.zero_le _, Nat.zero_le _⟩) (fun r er => ?_)
  subst er
  refine W.eq (g2 := F0 m 11 ls [.null]) rfl ?_
  refine lv_astoreN (lv' := [(4, .null), (3, .null), (0, .ref d0), (1, .int v1), (2, .int v2)]) hx hb dX2_order_11 hl (by decide) rfl (fun ls hl => ?_)
  refine lv_aload_nN hx hb dX2_order_13 rfl (lv_at hl 1 rfl) ?_
  refine lv_ifnullN (tgt := 34) hx hb dX2_order_14 (by decide) ?_
  refine lv_bipush (v := (-2 : Int32)) hx hb dX2_order_34 (by decide) ?_
  exact W.iret (v := (-2 : Int32)) hx hb hr (fun t ht _ => ⟨_, rfl, rfl, ht⟩) (fun _ h => by cases h) dX2_order_36
set_option maxHeartbeats 4000000 in
set_option maxRecDepth 100000 in
theorem ct_X2_order_na (l : Launch) (dC : Nat → ClassId) (dI : Nat → Nat → Nat) (ad : Nat → Nat) (d0 ar : Nat) (cA : ClassId) (sz : Nat) (L : List Nat) (K : Nat → Nat) (u : Nat → Ax5) (hL8 : L.length ≤ 8) (hKk : ∀ a ∈ L, K a < 4) (v1 : Int32) (h1 : fn_X3_isAxis L.length v1 = 0) (j b : Nat) (ha_b : b ∈ L) (hi_b : L[j]? = some b) : Met l yX2_order wsX2_order ({ frames := 1, cells := 0, slots := 0, locals := 21 } : Room) (va_Pc [.ref d0, .int v1, .int (nI j)] (fun U => dw dC dI ad d0 ar cA sz L K u U)) (vp_Si (fun r => r = (-2 : Int32))) 0 0 (fun _ => False) := by
  refine Met.ofW (cc := cX2_order) (maxL := 5) (ret := (some .int)) (by decide) rfl ?_
  intro p e s m args below meth c s₁ B hml hv
  obtain ⟨rfl, hsz, hP, hK, hD0, hW, hN⟩ := hv
  have hx := B.exec
  have hb := B.bytes
  have hr := B.returns
  have hlocks := B.notSynchronized
  have hts := atoms_spec (ws := wsX2_order) B.pre
  have hown : s.vm.findClass RX2 = some m.cls := findClass_of_methodNamed B.named
  have hin2 : ∀ w ∈ u_ws RX2 TX2 2, w ∈ wsX2_order := fun _ h => List.mem_cons_of_mem _ (List.mem_append_right _ h)
  have hin0 : ∀ w ∈ u_ws RX0 TX0 6, w ∈ wsX2_order := fun _ h => List.mem_cons_of_mem _ (List.mem_append_left _ (List.mem_append_right _ h))
  subst hsz
  have hD := hD0.self (sz := s.heap.size)
  generalize hAe : va_A (dkW ad d0 ar cA L K u) s.heap.size = A at hW hD ⊢
  have hA : ∀ q : Nat, s.heap.size ≤ q → A q := fun q h => by rw [← hAe]; exact Or.inr h
  have hS : va_S A s.heap s.heap [] := va_S.rf
  have hl := lv_entry ([.ref d0, .int v1, .int (nI j)]) (n := 5) (Nat.le_of_ble_eq_true rfl)
  rw [lg_entry_eq]
  generalize (lg_sl ([.ref d0, .int v1, .int (nI j)]) ++ List.replicate (5 - (lg_sl ([.ref d0, .int v1, .int (nI j)])).length) Slot.unset).toArray = ls at hl ⊢
  have hl : lv_has ls 5 [(0, .ref d0), (1, .int v1), (2, .int (nI j))] := hl
  refine lv_aload_n hx hb dX2_order_0 rfl (lv_at hl 0 rfl) ?_
  refine lv_iload_n hx hb dX2_order_1 rfl (lv_at hl 1 rfl) ?_
  refine va_csq (W.runV (As := [.int v1]) (rest := []) ⟨hx, hb, hml, hown, hts⟩ (ct_X2_find_no l dC dI ad d0 ar cA s.heap.size L K u v1 h1) (cwV 1 hts gX2_order_X2_find rfl rfl rfl (by decide +kernel) ⟨Nat.le_of_ble_eq_true rfl, Nat.le_of_ble_eq_true rfl⟩) ⟨dw_blind, va_recv hK hP (ci := 2) (q0 := 0) rfl rfl, fun U hU hW9 => dw_call hK hP hD hW hN hS hA hU hW9⟩ rfl rfl hl.1 rfl (lv_room (Nat.le_of_ble_eq_true rfl)) dX2_order_2 ⟨Nat.zero_le _, Nat.zero_le _⟩) (fun r er => ?_)
  subst er
  refine W.eq (g2 := F0 m 5 ls [.null]) rfl ?_
  refine lv_astore_nN (lv' := [(3, .null), (0, .ref d0), (1, .int v1), (2, .int (nI j))]) hx hb dX2_order_5 rfl hl (by decide) rfl (fun ls hl => ?_)
  refine lv_aload_n hx hb dX2_order_6 rfl (lv_at hl 1 rfl) ?_
  refine lv_iload_n hx hb dX2_order_7 rfl (lv_at hl 3 rfl) ?_
  refine va_csq (W.runV (As := [.int (nI j)]) (rest := []) ⟨hx, hb, hml, hown, hts⟩ (ct_X2_find_at l dC dI ad d0 ar cA s.heap.size L K u hL8 j b hi_b) (cwV 1 hts gX2_order_X2_find rfl rfl rfl (by decide +kernel) ⟨Nat.le_of_ble_eq_true rfl, Nat.le_of_ble_eq_true rfl⟩) ⟨dw_blind, va_recv hK hP (ci := 2) (q0 := 0) rfl rfl, fun U hU hW9 => dw_call hK hP hD hW hN hS hA hU hW9⟩ rfl rfl hl.1 rfl (lv_room (Nat.le_of_ble_eq_true rfl)) dX2_order_8 ⟨Nat.zero_le _, Nat.zero_le _⟩) (fun r er => ?_)
  subst er
  refine W.eq (g2 := F0 m 11 ls [.ref b]) rfl ?_
  refine lv_astore (lv' := [(4, .ref b), (3, .null), (0, .ref d0), (1, .int v1), (2, .int (nI j))]) hx hb dX2_order_11 hl (by decide) rfl (fun ls hl => ?_)
  refine lv_aload_nN hx hb dX2_order_13 rfl (lv_at hl 1 rfl) ?_
  refine lv_ifnullN (tgt := 34) hx hb dX2_order_14 (by decide) ?_
  refine lv_bipush (v := (-2 : Int32)) hx hb dX2_order_34 (by decide) ?_
  exact W.iret (v := (-2 : Int32)) hx hb hr (fun t ht _ => ⟨_, rfl, rfl, ht⟩) (fun _ h => by cases h) dX2_order_36
set_option maxHeartbeats 4000000 in
set_option maxRecDepth 100000 in
theorem ct_X2_order_nb (l : Launch) (dC : Nat → ClassId) (dI : Nat → Nat → Nat) (ad : Nat → Nat) (d0 ar : Nat) (cA : ClassId) (sz : Nat) (L : List Nat) (K : Nat → Nat) (u : Nat → Ax5) (hL8 : L.length ≤ 8) (hKk : ∀ a ∈ L, K a < 4) (i a : Nat) (ha_a : a ∈ L) (hi_a : L[i]? = some a) (v2 : Int32) (h2 : fn_X3_isAxis L.length v2 = 0) : Met l yX2_order wsX2_order ({ frames := 1, cells := 0, slots := 0, locals := 21 } : Room) (va_Pc [.ref d0, .int (nI i), .int v2] (fun U => dw dC dI ad d0 ar cA sz L K u U)) (vp_Si (fun r => r = (-2 : Int32))) 0 0 (fun _ => False) := by
  refine Met.ofW (cc := cX2_order) (maxL := 5) (ret := (some .int)) (by decide) rfl ?_
  intro p e s m args below meth c s₁ B hml hv
  obtain ⟨rfl, hsz, hP, hK, hD0, hW, hN⟩ := hv
  have hx := B.exec
  have hb := B.bytes
  have hr := B.returns
  have hlocks := B.notSynchronized
  have hts := atoms_spec (ws := wsX2_order) B.pre
  have hown : s.vm.findClass RX2 = some m.cls := findClass_of_methodNamed B.named
  have hin2 : ∀ w ∈ u_ws RX2 TX2 2, w ∈ wsX2_order := fun _ h => List.mem_cons_of_mem _ (List.mem_append_right _ h)
  have hin0 : ∀ w ∈ u_ws RX0 TX0 6, w ∈ wsX2_order := fun _ h => List.mem_cons_of_mem _ (List.mem_append_left _ (List.mem_append_right _ h))
  subst hsz
  have hD := hD0.self (sz := s.heap.size)
  generalize hAe : va_A (dkW ad d0 ar cA L K u) s.heap.size = A at hW hD ⊢
  have hA : ∀ q : Nat, s.heap.size ≤ q → A q := fun q h => by rw [← hAe]; exact Or.inr h
  have hS : va_S A s.heap s.heap [] := va_S.rf
  have hl := lv_entry ([.ref d0, .int (nI i), .int v2]) (n := 5) (Nat.le_of_ble_eq_true rfl)
  rw [lg_entry_eq]
  generalize (lg_sl ([.ref d0, .int (nI i), .int v2]) ++ List.replicate (5 - (lg_sl ([.ref d0, .int (nI i), .int v2])).length) Slot.unset).toArray = ls at hl ⊢
  have hl : lv_has ls 5 [(0, .ref d0), (1, .int (nI i)), (2, .int v2)] := hl
  refine lv_aload_n hx hb dX2_order_0 rfl (lv_at hl 0 rfl) ?_
  refine lv_iload_n hx hb dX2_order_1 rfl (lv_at hl 1 rfl) ?_
  refine va_csq (W.runV (As := [.int (nI i)]) (rest := []) ⟨hx, hb, hml, hown, hts⟩ (ct_X2_find_at l dC dI ad d0 ar cA s.heap.size L K u hL8 i a hi_a) (cwV 1 hts gX2_order_X2_find rfl rfl rfl (by decide +kernel) ⟨Nat.le_of_ble_eq_true rfl, Nat.le_of_ble_eq_true rfl⟩) ⟨dw_blind, va_recv hK hP (ci := 2) (q0 := 0) rfl rfl, fun U hU hW9 => dw_call hK hP hD hW hN hS hA hU hW9⟩ rfl rfl hl.1 rfl (lv_room (Nat.le_of_ble_eq_true rfl)) dX2_order_2 ⟨Nat.zero_le _, Nat.zero_le _⟩) (fun r er => ?_)
  subst er
  refine W.eq (g2 := F0 m 5 ls [.ref a]) rfl ?_
  refine lv_astore_n (lv' := [(3, .ref a), (0, .ref d0), (1, .int (nI i)), (2, .int v2)]) hx hb dX2_order_5 rfl hl (by decide) rfl (fun ls hl => ?_)
  refine lv_aload_n hx hb dX2_order_6 rfl (lv_at hl 1 rfl) ?_
  refine lv_iload_n hx hb dX2_order_7 rfl (lv_at hl 3 rfl) ?_
  refine va_csq (W.runV (As := [.int v2]) (rest := []) ⟨hx, hb, hml, hown, hts⟩ (ct_X2_find_no l dC dI ad d0 ar cA s.heap.size L K u v2 h2) (cwV 1 hts gX2_order_X2_find rfl rfl rfl (by decide +kernel) ⟨Nat.le_of_ble_eq_true rfl, Nat.le_of_ble_eq_true rfl⟩) ⟨dw_blind, va_recv hK hP (ci := 2) (q0 := 0) rfl rfl, fun U hU hW9 => dw_call hK hP hD hW hN hS hA hU hW9⟩ rfl rfl hl.1 rfl (lv_room (Nat.le_of_ble_eq_true rfl)) dX2_order_8 ⟨Nat.zero_le _, Nat.zero_le _⟩) (fun r er => ?_)
  subst er
  refine W.eq (g2 := F0 m 11 ls [.null]) rfl ?_
  refine lv_astoreN (lv' := [(4, .null), (3, .ref a), (0, .ref d0), (1, .int (nI i)), (2, .int v2)]) hx hb dX2_order_11 hl (by decide) rfl (fun ls hl => ?_)
  refine lv_aload_n hx hb dX2_order_13 rfl (lv_at hl 1 rfl) ?_
  refine lv_ifnull hx hb dX2_order_14 ?_
  refine lv_aloadN hx hb dX2_order_17 (lv_at hl 0 rfl) ?_
  refine lv_ifnullN (tgt := 34) hx hb dX2_order_19 (by decide) ?_
  refine lv_bipush (v := (-2 : Int32)) hx hb dX2_order_34 (by decide) ?_
  exact W.iret (v := (-2 : Int32)) hx hb hr (fun t ht _ => ⟨_, rfl, rfl, ht⟩) (fun _ h => by cases h) dX2_order_36
set_option maxHeartbeats 4000000 in
set_option maxRecDepth 100000 in
theorem ct_X2_order_ne (l : Launch) (dC : Nat → ClassId) (dI : Nat → Nat → Nat) (ad : Nat → Nat) (d0 ar : Nat) (cA : ClassId) (sz : Nat) (L : List Nat) (K : Nat → Nat) (u : Nat → Ax5) (hL8 : L.length ≤ 8) (hKk : ∀ a ∈ L, K a < 4) (i a : Nat) (ha_a : a ∈ L) (hi_a : L[i]? = some a) (j b : Nat) (ha_b : b ∈ L) (hi_b : L[j]? = some b) (hne : ¬ K a = K b) : Met l yX2_order wsX2_order ({ frames := 1, cells := 0, slots := 0, locals := 21 } : Room) (va_Pc [.ref d0, .int (nI i), .int (nI j)] (fun U => dw dC dI ad d0 ar cA sz L K u U)) (vp_Si (fun r => r = (-2 : Int32))) 0 0 (fun _ => False) := by
  refine Met.ofW (cc := cX2_order) (maxL := 5) (ret := (some .int)) (by decide) rfl ?_
  intro p e s m args below meth c s₁ B hml hv
  obtain ⟨rfl, hsz, hP, hK, hD0, hW, hN⟩ := hv
  have hx := B.exec
  have hb := B.bytes
  have hr := B.returns
  have hlocks := B.notSynchronized
  have hts := atoms_spec (ws := wsX2_order) B.pre
  have hown : s.vm.findClass RX2 = some m.cls := findClass_of_methodNamed B.named
  have hin2 : ∀ w ∈ u_ws RX2 TX2 2, w ∈ wsX2_order := fun _ h => List.mem_cons_of_mem _ (List.mem_append_right _ h)
  have hin0 : ∀ w ∈ u_ws RX0 TX0 6, w ∈ wsX2_order := fun _ h => List.mem_cons_of_mem _ (List.mem_append_left _ (List.mem_append_right _ h))
  subst hsz
  have hD := hD0.self (sz := s.heap.size)
  generalize hAe : va_A (dkW ad d0 ar cA L K u) s.heap.size = A at hW hD ⊢
  have hA : ∀ q : Nat, s.heap.size ≤ q → A q := fun q h => by rw [← hAe]; exact Or.inr h
  have hS : va_S A s.heap s.heap [] := va_S.rf
  obtain ⟨hP_a, hD_a, hF_a⟩ := dk_at hP hD hS hA ha_a
  obtain ⟨hP_b, hD_b, hF_b⟩ := dk_at hP hD hS hA ha_b
  have hl := lv_entry ([.ref d0, .int (nI i), .int (nI j)]) (n := 5) (Nat.le_of_ble_eq_true rfl)
  rw [lg_entry_eq]
  generalize (lg_sl ([.ref d0, .int (nI i), .int (nI j)]) ++ List.replicate (5 - (lg_sl ([.ref d0, .int (nI i), .int (nI j)])).length) Slot.unset).toArray = ls at hl ⊢
  have hl : lv_has ls 5 [(0, .ref d0), (1, .int (nI i)), (2, .int (nI j))] := hl
  refine lv_aload_n hx hb dX2_order_0 rfl (lv_at hl 0 rfl) ?_
  refine lv_iload_n hx hb dX2_order_1 rfl (lv_at hl 1 rfl) ?_
  refine va_csq (W.runV (As := [.int (nI i)]) (rest := []) ⟨hx, hb, hml, hown, hts⟩ (ct_X2_find_at l dC dI ad d0 ar cA s.heap.size L K u hL8 i a hi_a) (cwV 1 hts gX2_order_X2_find rfl rfl rfl (by decide +kernel) ⟨Nat.le_of_ble_eq_true rfl, Nat.le_of_ble_eq_true rfl⟩) ⟨dw_blind, va_recv hK hP (ci := 2) (q0 := 0) rfl rfl, fun U hU hW9 => dw_call hK hP hD hW hN hS hA hU hW9⟩ rfl rfl hl.1 rfl (lv_room (Nat.le_of_ble_eq_true rfl)) dX2_order_2 ⟨Nat.zero_le _, Nat.zero_le _⟩) (fun r er => ?_)
  subst er
  refine W.eq (g2 := F0 m 5 ls [.ref a]) rfl ?_
  refine lv_astore_n (lv' := [(3, .ref a), (0, .ref d0), (1, .int (nI i)), (2, .int (nI j))]) hx hb dX2_order_5 rfl hl (by decide) rfl (fun ls hl => ?_)
  refine lv_aload_n hx hb dX2_order_6 rfl (lv_at hl 1 rfl) ?_
  refine lv_iload_n hx hb dX2_order_7 rfl (lv_at hl 3 rfl) ?_
  refine va_csq (W.runV (As := [.int (nI j)]) (rest := []) ⟨hx, hb, hml, hown, hts⟩ (ct_X2_find_at l dC dI ad d0 ar cA s.heap.size L K u hL8 j b hi_b) (cwV 1 hts gX2_order_X2_find rfl rfl rfl (by decide +kernel) ⟨Nat.le_of_ble_eq_true rfl, Nat.le_of_ble_eq_true rfl⟩) ⟨dw_blind, va_recv hK hP (ci := 2) (q0 := 0) rfl rfl, fun U hU hW9 => dw_call hK hP hD hW hN hS hA hU hW9⟩ rfl rfl hl.1 rfl (lv_room (Nat.le_of_ble_eq_true rfl)) dX2_order_8 ⟨Nat.zero_le _, Nat.zero_le _⟩) (fun r er => ?_)
  subst er
  refine W.eq (g2 := F0 m 11 ls [.ref b]) rfl ?_
  refine lv_astore (lv' := [(4, .ref b), (3, .ref a), (0, .ref d0), (1, .int (nI i)), (2, .int (nI j))]) hx hb dX2_order_11 hl (by decide) rfl (fun ls hl => ?_)
  refine lv_aload_n hx hb dX2_order_13 rfl (lv_at hl 1 rfl) ?_
  refine lv_ifnull hx hb dX2_order_14 ?_
  refine lv_aload hx hb dX2_order_17 (lv_at hl 0 rfl) ?_
  refine lv_ifnull hx hb dX2_order_19 ?_
  refine lv_aload_n hx hb dX2_order_22 rfl (lv_at hl 1 rfl) ?_
  refine va_getN (D := (dC, dI)) (ci := 0) (v := .ref (ad (K a))) (C := RX0) (T := TX0) (N := 6) hx hb hts hin0 hown hK hP_a 0 rfl rfl 0 (by decide) (va_Nw.use rfl (nW_X2_54 hN)) (fun _ h9 => h9) rfl dX2_order_23 ?_
  refine lv_aload hx hb dX2_order_26 (lv_at hl 0 rfl) ?_
  refine va_getN (D := (dC, dI)) (ci := 0) (v := .ref (ad (K b))) (C := RX0) (T := TX0) (N := 6) hx hb hts hin0 hown hK hP_b 0 rfl rfl 0 (by decide) (va_Nw.use rfl (nW_X2_54 hN)) (fun _ h9 => h9) rfl dX2_order_28 ?_
  refine lv_acmp_eq (rx := some (ad (K a))) (ry := some (ad (K b))) (tgt := 37) hx hb dX2_order_31 (by decide) (fun c_1 => ?_) (fun c_1 => ?_)
  · exact absurd (hW.2.2.2.2.2.2.1 _ _ (hKk a ha_a) (hKk b ha_b) (Option.some.inj c_1)) hne
  · refine lv_bipush (v := (-2 : Int32)) hx hb dX2_order_34 (by decide) ?_
    exact W.iret (v := (-2 : Int32)) hx hb hr (fun t ht _ => ⟨_, rfl, rfl, ht⟩) (fun _ h => by cases h) dX2_order_36
set_option maxHeartbeats 4000000 in
set_option maxRecDepth 100000 in
theorem ct_X2_order_at (l : Launch) (dC : Nat → ClassId) (dI : Nat → Nat → Nat) (ad : Nat → Nat) (d0 ar : Nat) (cA : ClassId) (sz : Nat) (L : List Nat) (K : Nat → Nat) (u : Nat → Ax5) (hL8 : L.length ≤ 8) (hKk : ∀ a ∈ L, K a < 4) (i a : Nat) (ha_a : a ∈ L) (hi_a : L[i]? = some a) (j b : Nat) (ha_b : b ∈ L) (hi_b : L[j]? = some b) (heq : K a = K b) : Met l yX2_order wsX2_order ({ frames := 2, cells := 0, slots := 0, locals := 47 } : Room) (va_Pc [.ref d0, .int (nI i), .int (nI j)] (fun U => dw dC dI ad d0 ar cA sz L K u U)) (vp_Si (fun r => r = fn_X1_compared (K a) (u a).1 (u b).1)) 0 0 (fun _ => False) := by
  refine Met.ofW (cc := cX2_order) (maxL := 5) (ret := (some .int)) (by decide) rfl ?_
  intro p e s m args below meth c s₁ B hml hv
  obtain ⟨rfl, hsz, hP, hK, hD0, hW, hN⟩ := hv
  have hx := B.exec
  have hb := B.bytes
  have hr := B.returns
  have hlocks := B.notSynchronized
  have hts := atoms_spec (ws := wsX2_order) B.pre
  have hown : s.vm.findClass RX2 = some m.cls := findClass_of_methodNamed B.named
  have hin2 : ∀ w ∈ u_ws RX2 TX2 2, w ∈ wsX2_order := fun _ h => List.mem_cons_of_mem _ (List.mem_append_right _ h)
  have hin0 : ∀ w ∈ u_ws RX0 TX0 6, w ∈ wsX2_order := fun _ h => List.mem_cons_of_mem _ (List.mem_append_left _ (List.mem_append_right _ h))
  subst hsz
  have hD := hD0.self (sz := s.heap.size)
  generalize hAe : va_A (dkW ad d0 ar cA L K u) s.heap.size = A at hW hD ⊢
  have hA : ∀ q : Nat, s.heap.size ≤ q → A q := fun q h => by rw [← hAe]; exact Or.inr h
  have hS : va_S A s.heap s.heap [] := va_S.rf
  obtain ⟨hP_a, hD_a, hF_a⟩ := dk_at hP hD hS hA ha_a
  obtain ⟨hP_b, hD_b, hF_b⟩ := dk_at hP hD hS hA ha_b
  have hl := lv_entry ([.ref d0, .int (nI i), .int (nI j)]) (n := 5) (Nat.le_of_ble_eq_true rfl)
  rw [lg_entry_eq]
  generalize (lg_sl ([.ref d0, .int (nI i), .int (nI j)]) ++ List.replicate (5 - (lg_sl ([.ref d0, .int (nI i), .int (nI j)])).length) Slot.unset).toArray = ls at hl ⊢
  have hl : lv_has ls 5 [(0, .ref d0), (1, .int (nI i)), (2, .int (nI j))] := hl
  refine lv_aload_n hx hb dX2_order_0 rfl (lv_at hl 0 rfl) ?_
  refine lv_iload_n hx hb dX2_order_1 rfl (lv_at hl 1 rfl) ?_
  refine va_csq (W.runV (As := [.int (nI i)]) (rest := []) ⟨hx, hb, hml, hown, hts⟩ (ct_X2_find_at l dC dI ad d0 ar cA s.heap.size L K u hL8 i a hi_a) (cwV 1 hts gX2_order_X2_find rfl rfl rfl (by decide +kernel) ⟨Nat.le_of_ble_eq_true rfl, Nat.le_of_ble_eq_true rfl⟩) ⟨dw_blind, va_recv hK hP (ci := 2) (q0 := 0) rfl rfl, fun U hU hW9 => dw_call hK hP hD hW hN hS hA hU hW9⟩ rfl rfl hl.1 rfl (lv_room (Nat.le_of_ble_eq_true rfl)) dX2_order_2 ⟨Nat.zero_le _, Nat.zero_le _⟩) (fun r er => ?_)
  subst er
  refine W.eq (g2 := F0 m 5 ls [.ref a]) rfl ?_
  refine lv_astore_n (lv' := [(3, .ref a), (0, .ref d0), (1, .int (nI i)), (2, .int (nI j))]) hx hb dX2_order_5 rfl hl (by decide) rfl (fun ls hl => ?_)
  refine lv_aload_n hx hb dX2_order_6 rfl (lv_at hl 1 rfl) ?_
  refine lv_iload_n hx hb dX2_order_7 rfl (lv_at hl 3 rfl) ?_
  refine va_csq (W.runV (As := [.int (nI j)]) (rest := []) ⟨hx, hb, hml, hown, hts⟩ (ct_X2_find_at l dC dI ad d0 ar cA s.heap.size L K u hL8 j b hi_b) (cwV 1 hts gX2_order_X2_find rfl rfl rfl (by decide +kernel) ⟨Nat.le_of_ble_eq_true rfl, Nat.le_of_ble_eq_true rfl⟩) ⟨dw_blind, va_recv hK hP (ci := 2) (q0 := 0) rfl rfl, fun U hU hW9 => dw_call hK hP hD hW hN hS hA hU hW9⟩ rfl rfl hl.1 rfl (lv_room (Nat.le_of_ble_eq_true rfl)) dX2_order_8 ⟨Nat.zero_le _, Nat.zero_le _⟩) (fun r er => ?_)
  subst er
  refine W.eq (g2 := F0 m 11 ls [.ref b]) rfl ?_
  refine lv_astore (lv' := [(4, .ref b), (3, .ref a), (0, .ref d0), (1, .int (nI i)), (2, .int (nI j))]) hx hb dX2_order_11 hl (by decide) rfl (fun ls hl => ?_)
  refine lv_aload_n hx hb dX2_order_13 rfl (lv_at hl 1 rfl) ?_
  refine lv_ifnull hx hb dX2_order_14 ?_
  refine lv_aload hx hb dX2_order_17 (lv_at hl 0 rfl) ?_
  refine lv_ifnull hx hb dX2_order_19 ?_
  refine lv_aload_n hx hb dX2_order_22 rfl (lv_at hl 1 rfl) ?_
  refine va_getN (D := (dC, dI)) (ci := 0) (v := .ref (ad (K a))) (C := RX0) (T := TX0) (N := 6) hx hb hts hin0 hown hK hP_a 0 rfl rfl 0 (by decide) (va_Nw.use rfl (nW_X2_54 hN)) (fun _ h9 => h9) rfl dX2_order_23 ?_
  refine lv_aload hx hb dX2_order_26 (lv_at hl 0 rfl) ?_
  refine va_getN (D := (dC, dI)) (ci := 0) (v := .ref (ad (K b))) (C := RX0) (T := TX0) (N := 6) hx hb hts hin0 hown hK hP_b 0 rfl rfl 0 (by decide) (va_Nw.use rfl (nW_X2_54 hN)) (fun _ h9 => h9) rfl dX2_order_28 ?_
  refine lv_acmp_eq (rx := some (ad (K a))) (ry := some (ad (K b))) (tgt := 37) hx hb dX2_order_31 (by decide) (fun c_1 => ?_) (fun c_1 => ?_)
  · refine lv_aload_n hx hb dX2_order_37 rfl (lv_at hl 1 rfl) ?_
    refine va_getN (D := (dC, dI)) (ci := 0) (v := .ref (ad (K a))) (C := RX0) (T := TX0) (N := 6) hx hb hts hin0 hown hK hP_a 0 rfl rfl 0 (by decide) (va_Nw.use rfl (nW_X2_54 hN)) (fun _ h9 => h9) rfl dX2_order_38 ?_
    refine lv_aload_n hx hb dX2_order_41 rfl (lv_at hl 1 rfl) ?_
    refine va_getN (D := (dC, dI)) (ci := 0) (v := .long ((u a).1)) (C := RX0) (T := TX0) (N := 6) hx hb hts hin0 hown hK hP_a 0 rfl rfl 1 (by decide) (va_Nw.use rfl (nW_X2_58 hN)) (fun _ h9 => h9) rfl dX2_order_42 ?_
    refine lv_aload hx hb dX2_order_45 (lv_at hl 0 rfl) ?_
    refine va_getN (D := (dC, dI)) (ci := 0) (v := .long ((u b).1)) (C := RX0) (T := TX0) (N := 6) hx hb hts hin0 hown hK hP_b 0 rfl rfl 1 (by decide) (va_Nw.use rfl (nW_X2_58 hN)) (fun _ h9 => h9) rfl dX2_order_47 ?_
    refine vp_callSi (va_Run.run (va_runVN (As := [.long ((u a).1), .long ((u b).1)]) (rest := []) ⟨hx, hb, hml, hown, hts⟩ (ct_X1_compared l ad (K a) (hKk a ha_a) ((u a).1) ((u b).1)) ⟨va_cnB 2 hts gX2_order_X1_compared_n62 rfl rfl rfl (nW_X2_62 hN) (hts (.initialized RX1) (by decide +kernel)) (by decide +kernel) ⟨Nat.le_of_ble_eq_true rfl, Nat.le_of_ble_eq_true rfl⟩, hts (.instanceMethod yX1_compared) (by decide +kernel), hts (.selects RX1 yX1_compared yX1_compared) (by decide +kernel)⟩ ⟨(fun a U g mk q => ⟨q.1, kw_blind q.2⟩), kw_recv hW hS (hKk a ha_a), fun U hU hW9 => ⟨rfl, kw_call hW hS hU hW9⟩⟩ rfl rfl hl.1 rfl (lv_room (Nat.le_of_ble_eq_true rfl)) dX2_order_50 ⟨Nat.zero_le _, Nat.zero_le _⟩)) (fun r er => ?_)
    subst er
    exact W.iret (v := fn_X1_compared (K a) ((u a).1) ((u b).1)) hx hb hr (fun t ht _ => ⟨_, rfl, rfl, ht⟩) (fun _ h => by cases h) dX2_order_53
  · exact absurd (by rw [heq]) c_1
