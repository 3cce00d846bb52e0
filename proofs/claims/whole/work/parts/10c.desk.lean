/-- lengthOf's answer -/
def lenR (row : Int32) : Int32 := match lenO (mAt row) 8 0 with
  | some c => nI c
  | none => -1
set_option maxHeartbeats 4000000 in
set_option maxRecDepth 100000 in
theorem ct_X2_lengthOf (l : Launch) (v0 : Int32) : Met l yX2_lengthOf wsX2_lengthOf ({ frames := 1, cells := 0, slots := 0, locals := 21 } : Room) (va_Pc [.int v0] (fun _ => True)) (vp_Si (fun r => r = lenR v0)) 0 0 (fun _ => False) := by
  refine Met.ofW (cc := cX2_lengthOf) (maxL := 3) (ret := (some .int)) (by decide) rfl ?_
  intro p e s m args below meth c s₁ B hml hv
  obtain ⟨rfl, hW⟩ := hv
  have hx := B.exec
  have hb := B.bytes
  have hr := B.returns
  have hlocks := B.notSynchronized
  have hts := atoms_spec (ws := wsX2_lengthOf) B.pre
  have hown : s.vm.findClass RX2 = some m.cls := findClass_of_methodNamed B.named
  have hl := lv_entry ([.int v0]) (n := 3) (Nat.le_of_ble_eq_true rfl)
  rw [lg_entry_eq]
  generalize (lg_sl ([.int v0]) ++ List.replicate (3 - (lg_sl ([.int v0])).length) Slot.unset).toArray = ls at hl ⊢
  have hl : lv_has ls 3 [(0, .int v0)] := hl
  have lp : ∀ (f i : Nat), i + f = 8 → lenO (mAt v0) f i = lenO (mAt v0) 8 0 → ∀ ls : Array Slot, lv_has ls 3 [(0, .int v0), (1, .int (nI i))] → W p l e ({ frames := 1, cells := 0, slots := 0, locals := 21 } : Room) s m #[Value.int v0] below meth c s.heap [] 0 0 (MQ below (vp_Si (fun r => r = lenR v0)) #[Value.int v0] s 0 0 (fun _ => False)) (F0 m 2 ls []) := by
    intro f
    induction f with
    | zero =>
      intro i hi he ls hl
      have hi8 : i = 8 := by omega
      subst hi8
      have he2 : lenO (mAt v0) 8 0 = some 8 := he.symm
      refine lv_iload_n hx hb dX2_lengthOf_2 rfl (lv_at hl 1 rfl) ?_
      refine lv_bipush (v := (8 : Int32)) hx hb dX2_lengthOf_3 (by decide) ?_
      refine lv_icmp_ge (tgt := 34) hx hb dX2_lengthOf_5 (by decide) (fun c_1 => ?_) (fun c_1 => ?_)
      · refine lv_bipush (v := nI 8) hx hb dX2_lengthOf_34 (by decide) ?_
        exact W.iret (v := nI 8) hx hb hr (fun t ht _ => ⟨_, rfl, by unfold lenR; rw [he2], ht⟩) (fun _ h => by cases h) dX2_lengthOf_36
      · exact absurd (nI_le (a := 8) (b := 8) (by decide) (by decide)) c_1
    | succ f ih =>
      intro i hi he ls hl
      refine lv_iload_n hx hb dX2_lengthOf_2 rfl (lv_at hl 1 rfl) ?_
      refine lv_bipush (v := (8 : Int32)) hx hb dX2_lengthOf_3 (by decide) ?_
      refine lv_icmp_ge (tgt := 34) hx hb dX2_lengthOf_5 (by decide) (fun c_1 => ?_) (fun c_1 => ?_)
      · exact absurd c_1 (nI_ge (a := i) (b := 8) (by omega) (by decide))
      · refine lv_iload_n hx hb dX2_lengthOf_8 rfl (lv_at hl 0 rfl) ?_
        refine lv_iload_n hx hb dX2_lengthOf_9 rfl (lv_at hl 1 rfl) ?_
        refine vp_callSi (W.runS (As := [.int v0, .int (nI i)]) (rest := []) ⟨hx, hb, hml, hown, hts⟩ (ct_X2_orderAt l v0 (nI i)) (va_cwS 2 hts gX2_lengthOf_X2_orderAt rfl rfl rfl (by decide +kernel) ⟨Nat.le_of_ble_eq_true rfl, Nat.le_of_ble_eq_true rfl⟩) ⟨(fun a U g mk q => ⟨q.1, trivial⟩), fun U hU hW9 => ⟨rfl, trivial⟩⟩ rfl rfl hl.1 rfl (lv_room (Nat.le_of_ble_eq_true rfl)) dX2_lengthOf_10 ⟨Nat.zero_le _, Nat.zero_le _⟩) (fun r er => ?_)
        subst er
        refine lv_istore_n (lv' := [(2, .int (fn_X2_orderAt v0 (nI i))), (0, .int v0), (1, .int (nI i))]) hx hb dX2_lengthOf_13 rfl hl (by decide) rfl (fun ls hl => ?_)
        refine lv_iload_n hx hb dX2_lengthOf_14 rfl (lv_at hl 0 rfl) ?_
        refine lv_if_ne (tgt := 20) hx hb dX2_lengthOf_15 (by decide) (fun c_2 => ?_) (fun c_2 => ?_)
        · refine lv_iload_n hx hb dX2_lengthOf_20 rfl (lv_at hl 0 rfl) ?_
          refine lv_bipush (v := (13 : Int32)) hx hb dX2_lengthOf_21 (by decide) ?_
          refine lv_icmp_le (tgt := 28) hx hb dX2_lengthOf_23 (by decide) (fun c_3 => ?_) (fun c_3 => ?_)
          · rw [oAt_eq] at c_2
            rw [oAt_eq] at c_3
            have he2 : lenO (mAt v0) f (i + 1) = lenO (mAt v0) 8 0 := by rw [← he]; conv => rhs; unfold lenO; rw [if_neg c_2, if_pos c_3]
            refine lv_iinc (v := nI (i + 1)) (lv' := [(1, .int (nI (i + 1))), (2, .int (fn_X2_orderAt v0 (nI i))), (0, .int v0)]) hx hb dX2_lengthOf_28 hl (k := 2) rfl (nI_1 i) (by decide) rfl (fun ls hl => ?_)
            refine lv_goto (tgt := 2) hx hb dX2_lengthOf_31 (by decide) ?_
            exact ih (i + 1) (by omega) he2 ls (lv_sub hl [2, 0] rfl)
          · refine lv_iconst (v := (-1 : Int32)) hx hb dX2_lengthOf_26 (by decide) ?_
            rw [oAt_eq] at c_2
            rw [oAt_eq] at c_3
            have he2 : lenO (mAt v0) 8 0 = none := by rw [← he]; unfold lenO; rw [if_neg c_2, if_neg c_3]
            exact W.iret (v := (-1 : Int32)) hx hb hr (fun t ht _ => ⟨_, rfl, by unfold lenR; rw [he2], ht⟩) (fun _ h => by cases h) dX2_lengthOf_27
        · refine lv_iload_n hx hb dX2_lengthOf_18 rfl (lv_at hl 2 rfl) ?_
          rw [oAt_eq] at c_2
          have he2 : lenO (mAt v0) 8 0 = some i := by rw [← he]; unfold lenO; rw [if_pos c_2]
          exact W.iret (v := nI i) hx hb hr (fun t ht _ => ⟨_, rfl, by unfold lenR; rw [he2], ht⟩) (fun _ h => by cases h) dX2_lengthOf_19
  refine lv_iconst (v := (0 : Int32)) hx hb dX2_lengthOf_0 (by decide) ?_
  refine lv_istore_n (lv' := [(1, .int (nI 0)), (0, .int v0)]) hx hb dX2_lengthOf_1 rfl hl (by decide) rfl (fun ls hl => ?_)
  exact lp 8 0 rfl rfl ls (lv_sub hl [1, 0] rfl)
/-- a row's first j orders done -/
def obey5 (k : Nat) (o : Int32) (x : Ax5) : Ax5 := fn_X0_obey k o x.1 x.2.1 x.2.2.1 x.2.2.2.1 x.2.2.2.2
def obeyN (k : Nat) (row : Int32) (x : Ax5) : Nat → Ax5
  | 0 => x
  | j + 1 => obey5 k (mAt row j) (obeyN k row x j)
theorem va_up_id {α : Type} (f : Nat → α) (a : Nat) : va_up f a (f a) = f := funext (fun b => by
  by_cases h : b = a
  · subst h; rw [va_up_self]
  · rw [va_up_ne _ _ h])
set_option maxHeartbeats 4000000 in
set_option maxRecDepth 100000 in
theorem ct_X2_orders_no (l : Launch) (dC : Nat → ClassId) (dI : Nat → Nat → Nat) (ad : Nat → Nat) (d0 ar : Nat) (cA : ClassId) (sz : Nat) (L : List Nat) (K : Nat → Nat) (u : Nat → Ax5) (hL8 : L.length ≤ 8) (hKk : ∀ a ∈ L, K a < 4) (v1 v2 : Int32) (h1 : fn_X3_isAxis L.length v1 = 0) : Met l yX2_orders wsX2_orders ({ frames := 6, cells := 0, slots := 0, locals := 136 } : Room) (va_Pc [.ref d0, .int v1, .int v2] (fun U => dw dC dI ad d0 ar cA sz L K u U)) (va_Qi (fun r (_ : Unit) => r = (-1 : Int32)) (fun _ t => va_P (dC, dI) vwCl (dkW ad d0 ar cA L K u) t.heap ∧ va_D (va_A (dkW ad d0 ar cA L K u) sz) (dkW ad d0 ar cA L K u)) (va_A (dkW ad d0 ar cA L K u) sz)) 0 0 (va_A (dkW ad d0 ar cA L K u) sz) := by
  refine Met.ofW (cc := cX2_orders) (maxL := 6) (ret := (some .int)) (by decide) rfl ?_
  intro p e s m args below meth c s₁ B hml hv
  obtain ⟨rfl, hsz, hP, hK, hD0, hW, hN⟩ := hv
  have hx := B.exec
  have hb := B.bytes
  have hr := B.returns
  have hlocks := B.notSynchronized
  have hts := atoms_spec (ws := wsX2_orders) B.pre
  have hown : s.vm.findClass RX2 = some m.cls := findClass_of_methodNamed B.named
  have hin2 : ∀ w ∈ u_ws RX2 TX2 2, w ∈ wsX2_orders := fun _ h => List.mem_cons_of_mem _ (List.mem_append_left _ (List.mem_append_right _ h))
  have hin0 : ∀ w ∈ u_ws RX0 TX0 6, w ∈ wsX2_orders := fun _ h => List.mem_cons_of_mem _ (List.mem_append_right _ h)
  subst hsz
  have hD := hD0.self (sz := s.heap.size)
  generalize hAe : va_A (dkW ad d0 ar cA L K u) s.heap.size = A at hW hD ⊢
  have hA : ∀ q : Nat, s.heap.size ≤ q → A q := fun q h => by rw [← hAe]; exact Or.inr h
  have hS : va_S A s.heap s.heap [] := va_S.rf
  have hl := lv_entry ([.ref d0, .int v1, .int v2]) (n := 6) (Nat.le_of_ble_eq_true rfl)
  rw [lg_entry_eq]
  generalize (lg_sl ([.ref d0, .int v1, .int v2]) ++ List.replicate (6 - (lg_sl ([.ref d0, .int v1, .int v2])).length) Slot.unset).toArray = ls at hl ⊢
  have hl : lv_has ls 6 [(0, .ref d0), (1, .int v1), (2, .int v2)] := hl
  refine lv_aload_n hx hb dX2_orders_0 rfl (lv_at hl 0 rfl) ?_
  refine lv_iload_n hx hb dX2_orders_1 rfl (lv_at hl 1 rfl) ?_
  refine va_csq (W.runV (As := [.int v1]) (rest := []) ⟨hx, hb, hml, hown, hts⟩ (ct_X2_find_no l dC dI ad d0 ar cA s.heap.size L K u v1 h1) (cwV 1 hts gX2_orders_X2_find rfl rfl rfl (by decide +kernel) ⟨Nat.le_of_ble_eq_true rfl, Nat.le_of_ble_eq_true rfl⟩) ⟨dw_blind, va_recv hK hP (ci := 2) (q0 := 0) rfl rfl, fun U hU hW9 => dw_call hK hP hD hW hN hS hA hU hW9⟩ rfl rfl hl.1 rfl (lv_room (Nat.le_of_ble_eq_true rfl)) dX2_orders_2 ⟨Nat.zero_le _, Nat.zero_le _⟩) (fun r er => ?_)
  subst er
  refine W.eq (g2 := F0 m 5 ls [.null]) rfl ?_
  refine lv_astore_nN (lv' := [(3, .null), (0, .ref d0), (1, .int v1), (2, .int v2)]) hx hb dX2_orders_5 rfl hl (by decide) rfl (fun ls hl => ?_)
  refine lv_iload_n hx hb dX2_orders_6 rfl (lv_at hl 3 rfl) ?_
  refine vp_callSi (W.runS (As := [.int v2]) (rest := []) ⟨hx, hb, hml, hown, hts⟩ (ct_X2_lengthOf l v2) (va_cwS 1 hts gX2_orders_X2_lengthOf rfl rfl rfl (by decide +kernel) ⟨Nat.le_of_ble_eq_true rfl, Nat.le_of_ble_eq_true rfl⟩) ⟨(fun a U g mk q => ⟨q.1, trivial⟩), fun U hU hW9 => ⟨rfl, trivial⟩⟩ rfl rfl hl.1 rfl (lv_room (Nat.le_of_ble_eq_true rfl)) dX2_orders_7 ⟨Nat.zero_le _, Nat.zero_le _⟩) (fun r er => ?_)
  subst er
  refine lv_istore (lv' := [(4, .int (lenR v2)), (3, .null), (0, .ref d0), (1, .int v1), (2, .int v2)]) hx hb dX2_orders_10 hl (by decide) rfl (fun ls hl => ?_)
  refine lv_aload_nN hx hb dX2_orders_12 rfl (lv_at hl 1 rfl) ?_
  refine lv_ifnullN (tgt := 22) hx hb dX2_orders_13 (by decide) ?_
  refine lv_iconst (v := (-1 : Int32)) hx hb dX2_orders_22 (by decide) ?_
  exact W.iret (v := (-1 : Int32)) hx hb hr (fun t ht hW9 => ⟨⟨_, (), rfl, rfl, by rw [ht]; exact hP, hD⟩, hS.F ht⟩) hS.2.2 dX2_orders_23
set_option maxHeartbeats 4000000 in
set_option maxRecDepth 100000 in
theorem ct_X2_orders_bad (l : Launch) (dC : Nat → ClassId) (dI : Nat → Nat → Nat) (ad : Nat → Nat) (d0 ar : Nat) (cA : ClassId) (sz : Nat) (L : List Nat) (K : Nat → Nat) (u : Nat → Ax5) (hL8 : L.length ≤ 8) (hKk : ∀ a ∈ L, K a < 4) (i a : Nat) (ha_a : a ∈ L) (hi_a : L[i]? = some a) (v2 : Int32) (hlen : lenO (mAt v2) 8 0 = none) : Met l yX2_orders wsX2_orders ({ frames := 6, cells := 0, slots := 0, locals := 136 } : Room) (va_Pc [.ref d0, .int (nI i), .int v2] (fun U => dw dC dI ad d0 ar cA sz L K u U)) (va_Qi (fun r (_ : Unit) => r = (-1 : Int32)) (fun _ t => va_P (dC, dI) vwCl (dkW ad d0 ar cA L K u) t.heap ∧ va_D (va_A (dkW ad d0 ar cA L K u) sz) (dkW ad d0 ar cA L K u)) (va_A (dkW ad d0 ar cA L K u) sz)) 0 0 (va_A (dkW ad d0 ar cA L K u) sz) := by
  refine Met.ofW (cc := cX2_orders) (maxL := 6) (ret := (some .int)) (by decide) rfl ?_
  intro p e s m args below meth c s₁ B hml hv
  obtain ⟨rfl, hsz, hP, hK, hD0, hW, hN⟩ := hv
  have hx := B.exec
  have hb := B.bytes
  have hr := B.returns
  have hlocks := B.notSynchronized
  have hts := atoms_spec (ws := wsX2_orders) B.pre
  have hown : s.vm.findClass RX2 = some m.cls := findClass_of_methodNamed B.named
  have hin2 : ∀ w ∈ u_ws RX2 TX2 2, w ∈ wsX2_orders := fun _ h => List.mem_cons_of_mem _ (List.mem_append_left _ (List.mem_append_right _ h))
  have hin0 : ∀ w ∈ u_ws RX0 TX0 6, w ∈ wsX2_orders := fun _ h => List.mem_cons_of_mem _ (List.mem_append_right _ h)
  subst hsz
  have hD := hD0.self (sz := s.heap.size)
  generalize hAe : va_A (dkW ad d0 ar cA L K u) s.heap.size = A at hW hD ⊢
  have hA : ∀ q : Nat, s.heap.size ≤ q → A q := fun q h => by rw [← hAe]; exact Or.inr h
  have hS : va_S A s.heap s.heap [] := va_S.rf
  obtain ⟨hP_a, hD_a, hF_a⟩ := dk_at hP hD hS hA ha_a
  have hl := lv_entry ([.ref d0, .int (nI i), .int v2]) (n := 6) (Nat.le_of_ble_eq_true rfl)
  rw [lg_entry_eq]
  generalize (lg_sl ([.ref d0, .int (nI i), .int v2]) ++ List.replicate (6 - (lg_sl ([.ref d0, .int (nI i), .int v2])).length) Slot.unset).toArray = ls at hl ⊢
  have hl : lv_has ls 6 [(0, .ref d0), (1, .int (nI i)), (2, .int v2)] := hl
  refine lv_aload_n hx hb dX2_orders_0 rfl (lv_at hl 0 rfl) ?_
  refine lv_iload_n hx hb dX2_orders_1 rfl (lv_at hl 1 rfl) ?_
  refine va_csq (W.runV (As := [.int (nI i)]) (rest := []) ⟨hx, hb, hml, hown, hts⟩ (ct_X2_find_at l dC dI ad d0 ar cA s.heap.size L K u hL8 i a hi_a) (cwV 1 hts gX2_orders_X2_find rfl rfl rfl (by decide +kernel) ⟨Nat.le_of_ble_eq_true rfl, Nat.le_of_ble_eq_true rfl⟩) ⟨dw_blind, va_recv hK hP (ci := 2) (q0 := 0) rfl rfl, fun U hU hW9 => dw_call hK hP hD hW hN hS hA hU hW9⟩ rfl rfl hl.1 rfl (lv_room (Nat.le_of_ble_eq_true rfl)) dX2_orders_2 ⟨Nat.zero_le _, Nat.zero_le _⟩) (fun r er => ?_)
  subst er
  refine W.eq (g2 := F0 m 5 ls [.ref a]) rfl ?_
  refine lv_astore_n (lv' := [(3, .ref a), (0, .ref d0), (1, .int (nI i)), (2, .int v2)]) hx hb dX2_orders_5 rfl hl (by decide) rfl (fun ls hl => ?_)
  refine lv_iload_n hx hb dX2_orders_6 rfl (lv_at hl 3 rfl) ?_
  refine vp_callSi (W.runS (As := [.int v2]) (rest := []) ⟨hx, hb, hml, hown, hts⟩ (ct_X2_lengthOf l v2) (va_cwS 1 hts gX2_orders_X2_lengthOf rfl rfl rfl (by decide +kernel) ⟨Nat.le_of_ble_eq_true rfl, Nat.le_of_ble_eq_true rfl⟩) ⟨(fun a U g mk q => ⟨q.1, trivial⟩), fun U hU hW9 => ⟨rfl, trivial⟩⟩ rfl rfl hl.1 rfl (lv_room (Nat.le_of_ble_eq_true rfl)) dX2_orders_7 ⟨Nat.zero_le _, Nat.zero_le _⟩) (fun r er => ?_)
  subst er
  refine lv_istore (lv' := [(4, .int (lenR v2)), (3, .ref a), (0, .ref d0), (1, .int (nI i)), (2, .int v2)]) hx hb dX2_orders_10 hl (by decide) rfl (fun ls hl => ?_)
  refine lv_aload_n hx hb dX2_orders_12 rfl (lv_at hl 1 rfl) ?_
  refine lv_ifnull hx hb dX2_orders_13 ?_
  refine lv_iload hx hb dX2_orders_16 (lv_at hl 0 rfl) ?_
  refine lv_iconst (v := (-1 : Int32)) hx hb dX2_orders_18 (by decide) ?_
  refine lv_icmp_ne (tgt := 24) hx hb dX2_orders_19 (by decide) (fun c_1 => ?_) (fun c_1 => ?_)
  · exact absurd (by unfold lenR; rw [hlen]) c_1
  · refine lv_iconst (v := (-1 : Int32)) hx hb dX2_orders_22 (by decide) ?_
    exact W.iret (v := (-1 : Int32)) hx hb hr (fun t ht hW9 => ⟨⟨_, (), rfl, rfl, by rw [ht]; exact hP, hD⟩, hS.F ht⟩) hS.2.2 dX2_orders_23
theorem ne_m1 {x : Int32} {n : Nat} (h : x = nI n) (hn : n ≤ 8) : ¬ x = (-1 : Int32) := by
  intro q
  rw [h] at q
  exact absurd q (by
    have : ∀ n, n < 9 → ¬ nI n = (-1 : Int32) := by decide
    exact this n (by omega))
set_option maxHeartbeats 4000000 in
set_option maxRecDepth 100000 in
theorem ct_X2_orders_ok (l : Launch) (dC : Nat → ClassId) (dI : Nat → Nat → Nat) (ad : Nat → Nat) (d0 ar : Nat) (cA : ClassId) (sz : Nat) (L : List Nat) (K : Nat → Nat) (u : Nat → Ax5) (hL8 : L.length ≤ 8) (hKk : ∀ a ∈ L, K a < 4) (i a : Nat) (ha_a : a ∈ L) (hi_a : L[i]? = some a) (v2 : Int32) (cn : Nat) (hlen : lenO (mAt v2) 8 0 = some cn) : Met l yX2_orders wsX2_orders ({ frames := 6, cells := 0, slots := 0, locals := 136 } : Room) (va_Pc [.ref d0, .int (nI i), .int v2] (fun U => dw dC dI ad d0 ar cA sz L K u U)) (va_Qi (fun r (_ : Unit) => r = nI cn) (fun _ t => va_P (dC, dI) vwCl (dkW ad d0 ar cA L K (va_up u a (obeyN (K a) v2 (u a) cn))) t.heap ∧ va_D (va_A (dkW ad d0 ar cA L K u) sz) (dkW ad d0 ar cA L K (va_up u a (obeyN (K a) v2 (u a) cn)))) (va_A (dkW ad d0 ar cA L K u) sz)) 0 0 (va_A (dkW ad d0 ar cA L K u) sz) := by
  refine Met.ofW (cc := cX2_orders) (maxL := 6) (ret := (some .int)) (by decide) rfl ?_
  intro p e s m args below meth c s₁ B hml hv
  obtain ⟨rfl, hsz, hP, hK, hD0, hW, hN⟩ := hv
  have hx := B.exec
  have hb := B.bytes
  have hr := B.returns
  have hlocks := B.notSynchronized
  have hts := atoms_spec (ws := wsX2_orders) B.pre
  have hown : s.vm.findClass RX2 = some m.cls := findClass_of_methodNamed B.named
  have hin2 : ∀ w ∈ u_ws RX2 TX2 2, w ∈ wsX2_orders := fun _ h => List.mem_cons_of_mem _ (List.mem_append_left _ (List.mem_append_right _ h))
  have hin0 : ∀ w ∈ u_ws RX0 TX0 6, w ∈ wsX2_orders := fun _ h => List.mem_cons_of_mem _ (List.mem_append_right _ h)
  subst hsz
  have hD := hD0.self (sz := s.heap.size)
  generalize hAe : va_A (dkW ad d0 ar cA L K u) s.heap.size = A at hW hD ⊢
  have hA : ∀ q : Nat, s.heap.size ≤ q → A q := fun q h => by rw [← hAe]; exact Or.inr h
  have hS : va_S A s.heap s.heap [] := va_S.rf
  obtain ⟨hP_a, hD_a, hF_a⟩ := dk_at hP hD hS hA ha_a
  have hl := lv_entry ([.ref d0, .int (nI i), .int v2]) (n := 6) (Nat.le_of_ble_eq_true rfl)
  rw [lg_entry_eq]
  generalize (lg_sl ([.ref d0, .int (nI i), .int v2]) ++ List.replicate (6 - (lg_sl ([.ref d0, .int (nI i), .int v2])).length) Slot.unset).toArray = ls at hl ⊢
  have hl : lv_has ls 6 [(0, .ref d0), (1, .int (nI i)), (2, .int v2)] := hl
  have hcn : cn ≤ 8 := by have := lenO_le 8 0 cn hlen; omega
  have hlr : lenR v2 = nI cn := by unfold lenR; rw [hlen]
  have lp : ∀ (d j : Nat), j + d = cn → ∀ (H : Heap) (locs : List Loc) (ls : Array Slot) (u' : Nat → Ax5), u' = va_up u a (obeyN (K a) v2 (u a) j) → va_P (dC, dI) vwCl (dkW ad d0 ar cA L K u') H → va_D A (dkW ad d0 ar cA L K u') → va_S A s.heap H locs → lv_has ls 6 [(0, .ref d0), (1, .int (nI i)), (2, .int v2), (3, .ref a), (4, .int (nI cn)), (5, .int (nI j))] → W p l e ({ frames := 6, cells := 0, slots := 0, locals := 136 } : Room) s m #[Value.ref d0, Value.int (nI i), Value.int v2] below meth c H locs 0 0 (MQ below (va_Qi (fun r (_ : Unit) => r = nI cn) (fun _ t => va_P (dC, dI) vwCl (dkW ad d0 ar cA L K (va_up u a (obeyN (K a) v2 (u a) cn))) t.heap ∧ va_D (A) (dkW ad d0 ar cA L K (va_up u a (obeyN (K a) v2 (u a) cn)))) (A)) #[Value.ref d0, Value.int (nI i), Value.int v2] s 0 0 A) (F0 m 27 ls []) := by
    intro d
    induction d with
    | zero =>
      intro j hj H locs ls u' hu hP hD hS hl
      have hjc : j = cn := by omega
      subst hjc
      subst hu
      refine lv_iload hx hb dX2_orders_27 (lv_at hl 5 rfl) ?_
      refine lv_iload hx hb dX2_orders_29 (lv_at hl 4 rfl) ?_
      refine lv_icmp_ge (tgt := 50) hx hb dX2_orders_31 (by decide) (fun c_1 => ?_) (fun c_1 => ?_)
      · refine lv_iload hx hb dX2_orders_50 (lv_at hl 4 rfl) ?_
        exact W.iret (v := nI j) hx hb hr (fun t ht hW9 => ⟨⟨_, (), rfl, rfl, by rw [ht]; exact hP, hD⟩, hS.F ht⟩) hS.2.2 dX2_orders_52
      · exact absurd (nI_le (Nat.le_refl j) (by omega)) c_1
    | succ d ih =>
      intro j hj H locs ls u' hu hP hD hS hl
      obtain ⟨hP_a, hD_a, hF_a⟩ := dk_at hP hD hS hA ha_a
      refine lv_iload hx hb dX2_orders_27 (lv_at hl 5 rfl) ?_
      refine lv_iload hx hb dX2_orders_29 (lv_at hl 4 rfl) ?_
      refine lv_icmp_ge (tgt := 50) hx hb dX2_orders_31 (by decide) (fun c_1 => ?_) (fun c_1 => ?_)
      · exact absurd c_1 (nI_ge (a := j) (b := cn) (by omega) (by omega))
      · refine lv_aload_n hx hb dX2_orders_34 rfl (lv_at hl 3 rfl) ?_
        refine lv_iload_n hx hb dX2_orders_35 rfl (lv_at hl 2 rfl) ?_
        refine lv_iload hx hb dX2_orders_36 (lv_at hl 5 rfl) ?_
        refine vp_callSi (W.runS (As := [.int v2, .int (nI j)]) (rest := [.ref a]) ⟨hx, hb, hml, hown, hts⟩ (ct_X2_orderAt l v2 (nI j)) (va_cwS 2 hts gX2_orders_X2_orderAt rfl rfl rfl (by decide +kernel) ⟨Nat.le_of_ble_eq_true rfl, Nat.le_of_ble_eq_true rfl⟩) ⟨(fun a U g mk q => ⟨q.1, trivial⟩), fun U hU hW9 => ⟨rfl, trivial⟩⟩ rfl rfl hl.1 rfl (lv_room (Nat.le_of_ble_eq_true rfl)) dX2_orders_38 ⟨Nat.zero_le _, Nat.zero_le _⟩) (fun r er => ?_)
        subst er
        refine va_callv (va_runVN (As := [.int (fn_X2_orderAt v2 (nI j))]) (rest := []) ⟨hx, hb, hml, hown, hts⟩ (ct_X0_obey l dC dI ad a H.size (K a) (hKk a ha_a) (fn_X2_orderAt v2 (nI j)) (u' a).1 (u' a).2.1 (u' a).2.2.1 (u' a).2.2.2.1 (u' a).2.2.2.2) ⟨va_cnB 1 hts gX2_orders_X0_obey_n46 rfl rfl rfl (nW_X2_46 hN) (hts (.initialized RX0) (by decide +kernel)) (by decide +kernel) ⟨Nat.le_of_ble_eq_true rfl, Nat.le_of_ble_eq_true rfl⟩, hts (.instanceMethod yX0_obey) (by decide +kernel), hts (.selects RX0 yX0_obey yX0_obey) (by decide +kernel)⟩ ⟨axw_blind, va_recv hK hP_a (ci := 0) (q0 := 0) rfl rfl, fun U hU hW9 => axw_call hK hP_a hD_a hW hN hS hF_a hU hW9⟩ rfl rfl hl.1 rfl (lv_room (Nat.le_of_ble_eq_true rfl)) dX2_orders_41 ⟨Nat.zero_le _, Nat.zero_le _⟩) hS (fun q _ h => hF_a q h) hF_a (fun _ t H1 locs ht hvm hw hB hz1 hk1 hS => ?_)
        obtain ⟨hP1, -⟩ := hB
        rw [ht] at hP1
        obtain ⟨hP, hD⟩ := dk_join (x := fn_X0_obey (K a) (fn_X2_orderAt v2 (nI j)) (u' a).1 (u' a).2.1 (u' a).2.2.1 (u' a).2.2.2.1 (u' a).2.2.2.2) hP hD ha_a hk1 hP1
        generalize H1 = H at hP hS ⊢
        refine lv_iinc (v := nI (j + 1)) (lv' := [(5, .int (nI (j + 1))), (0, .ref d0), (1, .int (nI i)), (2, .int v2), (3, .ref a), (4, .int (nI cn))]) hx hb dX2_orders_44 hl (k := 5) rfl (nI_1 j) (by decide) rfl (fun ls hl => ?_)
        refine lv_goto (tgt := 27) hx hb dX2_orders_47 (by decide) ?_
        refine ih (j + 1) (by omega) H locs ls _ ?_ hP hD hS (lv_sub hl [1, 2, 3, 4, 5, 0] rfl)
        rw [oAt_eq, hu, bx_uu, va_up_self]
        rfl
  refine lv_aload_n hx hb dX2_orders_0 rfl (lv_at hl 0 rfl) ?_
  refine lv_iload_n hx hb dX2_orders_1 rfl (lv_at hl 1 rfl) ?_
  refine va_csq (W.runV (As := [.int (nI i)]) (rest := []) ⟨hx, hb, hml, hown, hts⟩ (ct_X2_find_at l dC dI ad d0 ar cA s.heap.size L K u hL8 i a hi_a) (cwV 1 hts gX2_orders_X2_find rfl rfl rfl (by decide +kernel) ⟨Nat.le_of_ble_eq_true rfl, Nat.le_of_ble_eq_true rfl⟩) ⟨dw_blind, va_recv hK hP (ci := 2) (q0 := 0) rfl rfl, fun U hU hW9 => dw_call hK hP hD hW hN hS hA hU hW9⟩ rfl rfl hl.1 rfl (lv_room (Nat.le_of_ble_eq_true rfl)) dX2_orders_2 ⟨Nat.zero_le _, Nat.zero_le _⟩) (fun r er => ?_)
  subst er
  refine W.eq (g2 := F0 m 5 ls [.ref a]) rfl ?_
  refine lv_astore_n (lv' := [(3, .ref a), (0, .ref d0), (1, .int (nI i)), (2, .int v2)]) hx hb dX2_orders_5 rfl hl (by decide) rfl (fun ls hl => ?_)
  refine lv_iload_n hx hb dX2_orders_6 rfl (lv_at hl 3 rfl) ?_
  refine vp_callSi (W.runS (As := [.int v2]) (rest := []) ⟨hx, hb, hml, hown, hts⟩ (ct_X2_lengthOf l v2) (va_cwS 1 hts gX2_orders_X2_lengthOf rfl rfl rfl (by decide +kernel) ⟨Nat.le_of_ble_eq_true rfl, Nat.le_of_ble_eq_true rfl⟩) ⟨(fun a U g mk q => ⟨q.1, trivial⟩), fun U hU hW9 => ⟨rfl, trivial⟩⟩ rfl rfl hl.1 rfl (lv_room (Nat.le_of_ble_eq_true rfl)) dX2_orders_7 ⟨Nat.zero_le _, Nat.zero_le _⟩) (fun r er => ?_)
  subst er
  refine lv_istore (lv' := [(4, .int (lenR v2)), (3, .ref a), (0, .ref d0), (1, .int (nI i)), (2, .int v2)]) hx hb dX2_orders_10 hl (by decide) rfl (fun ls hl => ?_)
  refine lv_aload_n hx hb dX2_orders_12 rfl (lv_at hl 1 rfl) ?_
  refine lv_ifnull hx hb dX2_orders_13 ?_
  refine lv_iload hx hb dX2_orders_16 (lv_at hl 0 rfl) ?_
  refine lv_iconst (v := (-1 : Int32)) hx hb dX2_orders_18 (by decide) ?_
  refine lv_icmp_ne (tgt := 24) hx hb dX2_orders_19 (by decide) (fun c_1 => ?_) (fun c_1 => ?_)
  · have hl : lv_has ls 6 [(4, .int (nI cn)), (3, .ref a), (0, .ref d0), (1, .int (nI i)), (2, .int v2)] := by rw [← hlr]; exact hl
    refine lv_iconst (v := (0 : Int32)) hx hb dX2_orders_24 (by decide) ?_
    refine lv_istore (lv' := [(5, .int (nI 0)), (4, .int (nI cn)), (3, .ref a), (0, .ref d0), (1, .int (nI i)), (2, .int v2)]) hx hb dX2_orders_25 hl (by decide) rfl (fun ls hl => ?_)
    exact lp cn 0 (by omega) s.heap [] ls u (va_up_id u a).symm hP hD hS (lv_sub hl [3, 4, 5, 2, 1, 0] rfl)
  · exact absurd c_1 (ne_m1 hlr hcn)
