/-! orders of the reference: two loops -/
def mAt (row : Int32) (i : Nat) : Int32 := ((Int32.toUInt32 row >>> (Int32.toUInt32 (nI (4 * i)) &&& Int32.toUInt32 31)).toInt32) &&& (15 : Int32)
/-- how many orders stand ahead of the first 0, if none of them is above 13 -/
def lenO (g : Nat → Int32) : Nat → Nat → Option Nat
  | 0, i => some i
  | f + 1, i => if g i = 0 then some i else if g i ≤ (13 : Int32) then lenO g f (i + 1) else none
def doesN (k : Int32) (a : Nat) (row : Int32) (nf : Nat → Int64) : Nat → (Nat → Int64)
  | 0 => nf
  | j + 1 => fn_X3_does k a (mAt row j) (doesN k a row nf j)
theorem lenO_le {g : Nat → Int32} : ∀ (f i c : Nat), lenO g f i = some c → c ≤ i + f := by
  intro f
  induction f with
  | zero =>
    intro i c h
    have h2 : some i = some c := h
    have := Option.some.inj h2
    omega
  | succ f ih =>
    intro i c h
    unfold lenO at h
    by_cases h1 : g i = 0
    · rw [if_pos h1] at h
      have := Option.some.inj h
      omega
    · rw [if_neg h1] at h
      by_cases h2 : g i ≤ (13 : Int32)
      · rw [if_pos h2] at h
        have := ih (i + 1) c h
        omega
      · rw [if_neg h2] at h
        cases h
set_option maxHeartbeats 4000000 in
set_option maxRecDepth 100000 in
theorem ct_X3_orders_no (l : Launch) (dC : Nat → ClassId) (dI : Nat → Nat → Nat) (m0 ka na : Nat) (cI cJ : ClassId) (sz n : Nat) (kf : Nat → Int32) (nf : Nat → Int64) (v1 v2 : Int32) (h1 : fn_X3_isAxis n v1 = 0) : Met l yX3_orders wsX3_orders ({ frames := 1, cells := 0, slots := 0, locals := 21 } : Room) (va_Pc [.ref m0, .int v1, .int v2] (fun U => mw dC dI m0 ka na cI cJ sz n kf nf U)) (va_Qi (fun r (_ : Unit) => r = (((-1 : Int32), n, kf, nf)).1) (fun _ t => va_P (dC, dI) vwCl (mdW m0 ka na cI cJ (((-1 : Int32), n, kf, nf)).2.1 (((-1 : Int32), n, kf, nf)).2.2.1 (((-1 : Int32), n, kf, nf)).2.2.2) t.heap ∧ va_D (va_A (mdW m0 ka na cI cJ n kf nf) sz) (mdW m0 ka na cI cJ (((-1 : Int32), n, kf, nf)).2.1 (((-1 : Int32), n, kf, nf)).2.2.1 (((-1 : Int32), n, kf, nf)).2.2.2)) (va_A (mdW m0 ka na cI cJ n kf nf) sz)) 0 0 (va_A (mdW m0 ka na cI cJ n kf nf) sz) := by
  refine Met.ofW (cc := cX3_orders) (maxL := 5) (ret := (some .int)) (by decide) rfl ?_
  intro p e s m args below meth c s₁ B hml hv
  obtain ⟨rfl, hsz, hP, hK, hD0⟩ := hv
  have hx := B.exec
  have hb := B.bytes
  have hr := B.returns
  have hlocks := B.notSynchronized
  have hts := atoms_spec (ws := wsX3_orders) B.pre
  have hown : s.vm.findClass RX3 = some m.cls := findClass_of_methodNamed B.named
  have hin : ∀ w ∈ u_ws RX3 TX3 3, w ∈ wsX3_orders := fun _ h => List.mem_cons_of_mem _ (List.mem_append_right _ h)
  subst hsz
  have hD := hD0.self (sz := s.heap.size)
  generalize hAe : va_A (mdW m0 ka na cI cJ n kf nf) s.heap.size = A at hD ⊢
  have hA : ∀ q : Nat, s.heap.size ≤ q → A q := fun q h => by rw [← hAe]; exact Or.inr h
  have hS : va_S A s.heap s.heap [] := va_S.rf
  have hP : va_P (dC, dI) vwCl [(m0, .inr (3, [.ref ka, .ref na, .int (nI n)])), (ka, .inl (cI, 8, .inl kf)), (na, .inl (cJ, 40, .inr (.inl nf)))] s.heap := hP
  have hD : va_D A [(m0, .inr (3, [.ref ka, .ref na, .int (nI n)])), (ka, .inl (cI, 8, .inl kf)), (na, .inl (cJ, 40, .inr (.inl nf)))] := hD
  have hl := lv_entry ([.ref m0, .int v1, .int v2]) (n := 5) (Nat.le_of_ble_eq_true rfl)
  rw [lg_entry_eq]
  generalize (lg_sl ([.ref m0, .int v1, .int v2]) ++ List.replicate (5 - (lg_sl ([.ref m0, .int v1, .int v2])).length) Slot.unset).toArray = ls at hl ⊢
  have hl : lv_has ls 5 [(0, .ref m0), (1, .int v1), (2, .int v2)] := hl
  refine lv_aload_n hx hb dX3_orders_0 rfl (lv_at hl 0 rfl) ?_
  refine lv_iload_n hx hb dX3_orders_1 rfl (lv_at hl 1 rfl) ?_
  refine vp_callSi (W.runV (As := [.int v1]) (rest := []) ⟨hx, hb, hml, hown, hts⟩ (ct_X3_isAxis l dC dI m0 ka na cI cJ s.heap.size n kf nf v1) (cwV 1 hts gX3_orders_X3_isAxis rfl rfl rfl (by decide +kernel) ⟨Nat.le_of_ble_eq_true rfl, Nat.le_of_ble_eq_true rfl⟩) ⟨mw_blind, va_recv hK hP (ci := 3) (q0 := 0) rfl rfl, fun U hU hW9 => mw_call hK hP hD hU hW9⟩ rfl rfl hl.1 rfl (lv_room (Nat.le_of_ble_eq_true rfl)) dX3_orders_2 ⟨Nat.zero_le _, Nat.zero_le _⟩) (fun r er => ?_)
  subst er
  refine lv_if_ne (tgt := 10) hx hb dX3_orders_5 (by decide) (fun c_1 => ?_) (fun c_1 => ?_)
  · exact absurd h1 c_1
  · refine lv_iconst (v := (-1 : Int32)) hx hb dX3_orders_8 (by decide) ?_
    have e9 : ((-1 : Int32), n, kf, nf) = ((-1 : Int32), n, kf, nf) := rfl
    exact W.iret (v := (-1 : Int32)) hx hb hr (fun t ht hW9 => ⟨⟨_, (), rfl, by rw [e9], by rw [ht, e9]; exact hP, by rw [e9]; exact hD⟩, hS.F ht⟩) hS.2.2 dX3_orders_9
set_option maxHeartbeats 4000000 in
set_option maxRecDepth 100000 in
theorem ct_X3_orders_bad (l : Launch) (dC : Nat → ClassId) (dI : Nat → Nat → Nat) (m0 ka na : Nat) (cI cJ : ClassId) (sz n : Nat) (kf : Nat → Int32) (nf : Nat → Int64) (a : Nat) (v2 : Int32) (hn : n ≤ 8) (ha : a < n) (hlen : lenO (mAt v2) 8 0 = none) : Met l yX3_orders wsX3_orders ({ frames := 5, cells := 0, slots := 0, locals := 121 } : Room) (va_Pc [.ref m0, .int (nI a), .int v2] (fun U => mw dC dI m0 ka na cI cJ sz n kf nf U)) (va_Qi (fun r (_ : Unit) => r = (-1 : Int32)) (fun _ t => va_P (dC, dI) vwCl (mdW m0 ka na cI cJ n kf nf) t.heap ∧ va_D (va_A (mdW m0 ka na cI cJ n kf nf) sz) (mdW m0 ka na cI cJ n kf nf)) (va_A (mdW m0 ka na cI cJ n kf nf) sz)) 0 0 (va_A (mdW m0 ka na cI cJ n kf nf) sz) := by
  refine Met.ofW (cc := cX3_orders) (maxL := 5) (ret := (some .int)) (by decide) rfl ?_
  intro p e s m args below meth c s₁ B hml hv
  obtain ⟨rfl, hsz, hP, hK, hD0⟩ := hv
  have hx := B.exec
  have hb := B.bytes
  have hr := B.returns
  have hlocks := B.notSynchronized
  have hts := atoms_spec (ws := wsX3_orders) B.pre
  have hown : s.vm.findClass RX3 = some m.cls := findClass_of_methodNamed B.named
  have hin : ∀ w ∈ u_ws RX3 TX3 3, w ∈ wsX3_orders := fun _ h => List.mem_cons_of_mem _ (List.mem_append_right _ h)
  subst hsz
  have hD := hD0.self (sz := s.heap.size)
  generalize hAe : va_A (mdW m0 ka na cI cJ n kf nf) s.heap.size = A at hD ⊢
  have hA : ∀ q : Nat, s.heap.size ≤ q → A q := fun q h => by rw [← hAe]; exact Or.inr h
  have hS : va_S A s.heap s.heap [] := va_S.rf
  have hP : va_P (dC, dI) vwCl [(m0, .inr (3, [.ref ka, .ref na, .int (nI n)])), (ka, .inl (cI, 8, .inl kf)), (na, .inl (cJ, 40, .inr (.inl nf)))] s.heap := hP
  have hD : va_D A [(m0, .inr (3, [.ref ka, .ref na, .int (nI n)])), (ka, .inl (cI, 8, .inl kf)), (na, .inl (cJ, 40, .inr (.inl nf)))] := hD
  have hl := lv_entry ([.ref m0, .int (nI a), .int v2]) (n := 5) (Nat.le_of_ble_eq_true rfl)
  rw [lg_entry_eq]
  generalize (lg_sl ([.ref m0, .int (nI a), .int v2]) ++ List.replicate (5 - (lg_sl ([.ref m0, .int (nI a), .int v2])).length) Slot.unset).toArray = ls at hl ⊢
  have hl : lv_has ls 5 [(0, .ref m0), (1, .int (nI a)), (2, .int v2)] := hl
  have lp1 : ∀ (f i : Nat), i + f = 8 → lenO (mAt v2) f i = lenO (mAt v2) 8 0 → ∀ ls : Array Slot, lv_has ls 5 [(0, .ref m0), (1, .int (nI a)), (2, .int v2), (3, .int (nI i))] → W p l e ({ frames := 5, cells := 0, slots := 0, locals := 121 } : Room) s m #[Value.ref m0, .int (nI a), .int v2] below meth c s.heap [] 0 0 (MQ below (va_Qi (fun r (_ : Unit) => r = (-1 : Int32)) (fun _ t => va_P (dC, dI) vwCl (mdW m0 ka na cI cJ n kf nf) t.heap ∧ va_D A (mdW m0 ka na cI cJ n kf nf)) A) #[Value.ref m0, .int (nI a), .int v2] s 0 0 A) (F0 m 12 ls []) := by
    intro f
    induction f with
    | zero =>
      intro i hi he ls hl
      have hi8 : i = 8 := by omega
      subst hi8
      refine lv_iload_n hx hb dX3_orders_12 rfl (lv_at hl 3 rfl) ?_
      refine lv_bipush (v := (8 : Int32)) hx hb dX3_orders_13 (by decide) ?_
      refine lv_icmp_ge (tgt := 50) hx hb dX3_orders_15 (by decide) (fun c_1 => ?_) (fun c_1 => ?_)
      · exact absurd (show lenO (mAt v2) 8 0 = some 8 from he.symm) (by rw [hlen]; exact fun q => by cases q)
      · exact absurd (nI_le (a := 8) (b := 8) (by decide) (by decide)) c_1
    | succ f ih =>
      intro i hi he ls hl
      refine lv_iload_n hx hb dX3_orders_12 rfl (lv_at hl 3 rfl) ?_
      refine lv_bipush (v := (8 : Int32)) hx hb dX3_orders_13 (by decide) ?_
      refine lv_icmp_ge (tgt := 50) hx hb dX3_orders_15 (by decide) (fun c_1 => ?_) (fun c_1 => ?_)
      · exact absurd c_1 (nI_ge (a := i) (b := 8) (by omega) (by decide))
      · refine lv_iload_n hx hb dX3_orders_18 rfl (lv_at hl 2 rfl) ?_
        refine lv_iconst (v := (4 : Int32)) hx hb dX3_orders_19 (by decide) ?_
        refine lv_iload_n hx hb dX3_orders_20 rfl (lv_at hl 3 rfl) ?_
        refine lv_imul hx hb dX3_orders_21 ?_
        refine zn_top (n := 4 * i) (pk_mul 4 i) ?_
        refine lv_iushr hx hb dX3_orders_22 rfl ?_
        refine lv_bipush (v := (15 : Int32)) hx hb dX3_orders_23 (by decide) ?_
        refine lv_iand hx hb dX3_orders_25 ?_
        refine lv_if_eq (tgt := 50) hx hb dX3_orders_26 (by decide) (fun c_2 => ?_) (fun c_2 => ?_)
        · have c_2 : mAt v2 i = 0 := c_2
          have he2 : lenO (mAt v2) 8 0 = some i := by rw [← he]; unfold lenO; rw [if_pos c_2]
          exact absurd (he2) (by rw [hlen]; exact fun q => by cases q)
        · refine lv_iload_n hx hb dX3_orders_29 rfl (lv_at hl 2 rfl) ?_
          refine lv_iconst (v := (4 : Int32)) hx hb dX3_orders_30 (by decide) ?_
          refine lv_iload_n hx hb dX3_orders_31 rfl (lv_at hl 3 rfl) ?_
          refine lv_imul hx hb dX3_orders_32 ?_
          refine zn_top (n := 4 * i) (pk_mul 4 i) ?_
          refine lv_iushr hx hb dX3_orders_33 rfl ?_
          refine lv_bipush (v := (15 : Int32)) hx hb dX3_orders_34 (by decide) ?_
          refine lv_iand hx hb dX3_orders_36 ?_
          refine lv_bipush (v := (13 : Int32)) hx hb dX3_orders_37 (by decide) ?_
          refine lv_icmp_le (tgt := 44) hx hb dX3_orders_39 (by decide) (fun c_3 => ?_) (fun c_3 => ?_)
          · have c_2 : ¬ mAt v2 i = 0 := c_2
            have c_3 : mAt v2 i ≤ (13 : Int32) := c_3
            have he2 : lenO (mAt v2) f (i + 1) = lenO (mAt v2) 8 0 := by rw [← he]; conv => rhs; unfold lenO; rw [if_neg c_2, if_pos c_3]
            refine lv_iinc (v := nI (i + 1)) (lv' := [(3, .int (nI (i + 1))), (0, .ref m0), (1, .int (nI a)), (2, .int v2)]) hx hb dX3_orders_44 hl (k := 3) rfl (nI_1 i) (by decide) rfl (fun ls hl => ?_)
            refine lv_goto (tgt := 12) hx hb dX3_orders_47 (by decide) ?_
            exact ih (i + 1) (by omega) he2 ls (lv_sub hl [1, 2, 3, 0] rfl)
          · refine lv_iconst (v := (-1 : Int32)) hx hb dX3_orders_42 (by decide) ?_
            have c_2 : ¬ mAt v2 i = 0 := c_2
            have c_3 : ¬ mAt v2 i ≤ (13 : Int32) := c_3
            have he2 : lenO (mAt v2) 8 0 = none := by rw [← he]; unfold lenO; rw [if_neg c_2, if_neg c_3]
            exact W.iret (v := (-1 : Int32)) hx hb hr (fun t ht hW9 => ⟨⟨_, (), rfl, rfl, by rw [ht]; exact hP, hD⟩, hS.F ht⟩) hS.2.2 dX3_orders_43
  refine lv_aload_n hx hb dX3_orders_0 rfl (lv_at hl 0 rfl) ?_
  refine lv_iload_n hx hb dX3_orders_1 rfl (lv_at hl 1 rfl) ?_
  refine vp_callSi (W.runV (As := [.int (nI a)]) (rest := []) ⟨hx, hb, hml, hown, hts⟩ (ct_X3_isAxis l dC dI m0 ka na cI cJ s.heap.size n kf nf (nI a)) (cwV 1 hts gX3_orders_X3_isAxis rfl rfl rfl (by decide +kernel) ⟨Nat.le_of_ble_eq_true rfl, Nat.le_of_ble_eq_true rfl⟩) ⟨mw_blind, va_recv hK hP (ci := 3) (q0 := 0) rfl rfl, fun U hU hW9 => mw_call hK hP hD hU hW9⟩ rfl rfl hl.1 rfl (lv_room (Nat.le_of_ble_eq_true rfl)) dX3_orders_2 ⟨Nat.zero_le _, Nat.zero_le _⟩) (fun r er => ?_)
  subst er
  refine lv_if_ne (tgt := 10) hx hb dX3_orders_5 (by decide) (fun c_1 => ?_) (fun c_1 => ?_)
  · refine lv_iconst (v := (0 : Int32)) hx hb dX3_orders_10 (by decide) ?_
    refine lv_istore_n (lv' := [(3, .int (0 : Int32)), (0, .ref m0), (1, .int (nI a)), (2, .int v2)]) hx hb dX3_orders_11 rfl hl (by decide) rfl (fun ls hl => ?_)
    exact lp1 8 0 rfl rfl ls (lv_sub hl [1, 2, 3, 0] rfl)
  · exact absurd c_1 (by rw [isax_in hn ha]; decide)
set_option maxHeartbeats 4000000 in
set_option maxRecDepth 100000 in
theorem ct_X3_orders_ok (l : Launch) (dC : Nat → ClassId) (dI : Nat → Nat → Nat) (m0 ka na : Nat) (cI cJ : ClassId) (sz n : Nat) (kf : Nat → Int32) (nf : Nat → Int64) (a : Nat) (v2 : Int32) (cn : Nat) (hn : n ≤ 8) (ha : a < n) (hlen : lenO (mAt v2) 8 0 = some cn) : Met l yX3_orders wsX3_orders ({ frames := 5, cells := 0, slots := 0, locals := 121 } : Room) (va_Pc [.ref m0, .int (nI a), .int v2] (fun U => mw dC dI m0 ka na cI cJ sz n kf nf U)) (va_Qi (fun r (_ : Unit) => r = nI cn) (fun _ t => va_P (dC, dI) vwCl (mdW m0 ka na cI cJ n kf (doesN (kf a) a v2 nf cn)) t.heap ∧ va_D (va_A (mdW m0 ka na cI cJ n kf nf) sz) (mdW m0 ka na cI cJ n kf (doesN (kf a) a v2 nf cn))) (va_A (mdW m0 ka na cI cJ n kf nf) sz)) 0 0 (va_A (mdW m0 ka na cI cJ n kf nf) sz) := by
  refine Met.ofW (cc := cX3_orders) (maxL := 5) (ret := (some .int)) (by decide) rfl ?_
  intro p e s m args below meth c s₁ B hml hv
  obtain ⟨rfl, hsz, hP, hK, hD0⟩ := hv
  have hx := B.exec
  have hb := B.bytes
  have hr := B.returns
  have hlocks := B.notSynchronized
  have hts := atoms_spec (ws := wsX3_orders) B.pre
  have hown : s.vm.findClass RX3 = some m.cls := findClass_of_methodNamed B.named
  have hin : ∀ w ∈ u_ws RX3 TX3 3, w ∈ wsX3_orders := fun _ h => List.mem_cons_of_mem _ (List.mem_append_right _ h)
  subst hsz
  have hD := hD0.self (sz := s.heap.size)
  generalize hAe : va_A (mdW m0 ka na cI cJ n kf nf) s.heap.size = A at hD ⊢
  have hA : ∀ q : Nat, s.heap.size ≤ q → A q := fun q h => by rw [← hAe]; exact Or.inr h
  have hS : va_S A s.heap s.heap [] := va_S.rf
  have hP : va_P (dC, dI) vwCl [(m0, .inr (3, [.ref ka, .ref na, .int (nI n)])), (ka, .inl (cI, 8, .inl kf)), (na, .inl (cJ, 40, .inr (.inl nf)))] s.heap := hP
  have hD : va_D A [(m0, .inr (3, [.ref ka, .ref na, .int (nI n)])), (ka, .inl (cI, 8, .inl kf)), (na, .inl (cJ, 40, .inr (.inl nf)))] := hD
  have hl := lv_entry ([.ref m0, .int (nI a), .int v2]) (n := 5) (Nat.le_of_ble_eq_true rfl)
  rw [lg_entry_eq]
  generalize (lg_sl ([.ref m0, .int (nI a), .int v2]) ++ List.replicate (5 - (lg_sl ([.ref m0, .int (nI a), .int v2])).length) Slot.unset).toArray = ls at hl ⊢
  have hl : lv_has ls 5 [(0, .ref m0), (1, .int (nI a)), (2, .int v2)] := hl
  have hcn : cn ≤ 8 := by have := lenO_le 8 0 cn hlen; omega
  have lp2 : ∀ (d j : Nat), j + d = cn → ∀ (H : Heap) (locs : List Loc) (ls : Array Slot), va_P (dC, dI) vwCl [(m0, .inr (3, [.ref ka, .ref na, .int (nI n)])), (ka, .inl (cI, 8, .inl kf)), (na, .inl (cJ, 40, .inr (.inl (doesN (kf a) a v2 nf j))))] H → va_D A [(m0, .inr (3, [.ref ka, .ref na, .int (nI n)])), (ka, .inl (cI, 8, .inl kf)), (na, .inl (cJ, 40, .inr (.inl (doesN (kf a) a v2 nf j))))] → va_S A s.heap H locs → lv_has ls 5 [(0, .ref m0), (1, .int (nI a)), (2, .int v2), (3, .int (nI cn)), (4, .int (nI j))] → W p l e ({ frames := 5, cells := 0, slots := 0, locals := 121 } : Room) s m #[Value.ref m0, .int (nI a), .int v2] below meth c H locs 0 0 (MQ below (va_Qi (fun r (_ : Unit) => r = nI cn) (fun _ t => va_P (dC, dI) vwCl (mdW m0 ka na cI cJ n kf (doesN (kf a) a v2 nf cn)) t.heap ∧ va_D A (mdW m0 ka na cI cJ n kf (doesN (kf a) a v2 nf cn))) A) #[Value.ref m0, .int (nI a), .int v2] s 0 0 A) (F0 m 53 ls []) := by
    intro d
    induction d with
    | zero =>
      intro j hj H locs ls hP hD hS hl
      have hjc : j = cn := by omega
      subst hjc
      refine lv_iload hx hb dX3_orders_53 (lv_at hl 4 rfl) ?_
      refine lv_iload_n hx hb dX3_orders_55 rfl (lv_at hl 3 rfl) ?_
      refine lv_icmp_ge (tgt := 87) hx hb dX3_orders_56 (by decide) (fun c_1 => ?_) (fun c_1 => ?_)
      · refine lv_iload_n hx hb dX3_orders_87 rfl (lv_at hl 3 rfl) ?_
        exact W.iret (v := nI j) hx hb hr (fun t ht hW9 => ⟨⟨_, (), rfl, rfl, by rw [ht]; exact hP, hD⟩, hS.F ht⟩) hS.2.2 dX3_orders_88
      · exact absurd (nI_le (Nat.le_refl j) (by omega)) c_1
    | succ d ih =>
      intro j hj H locs ls hP hD hS hl
      refine lv_iload hx hb dX3_orders_53 (lv_at hl 4 rfl) ?_
      refine lv_iload_n hx hb dX3_orders_55 rfl (lv_at hl 3 rfl) ?_
      refine lv_icmp_ge (tgt := 87) hx hb dX3_orders_56 (by decide) (fun c_1 => ?_) (fun c_1 => ?_)
      · exact absurd c_1 (nI_ge (a := j) (b := cn) (by omega) (by omega))
      · refine lv_aload_n hx hb dX3_orders_59 rfl (lv_at hl 0 rfl) ?_
        refine lv_aload_n hx hb dX3_orders_60 rfl (lv_at hl 0 rfl) ?_
        refine va_get (D := (dC, dI)) (ci := 3) (v := .ref ka) (C := RX3) (T := TX3) (N := 3) hx hb hts hin hown hK hP 0 rfl rfl 0 (by decide) (hts (.fieldLink RX3 7 "ServoDeskModel" "kind" "[I") (by decide +kernel)) (fun _ h9 => h9) rfl dX3_orders_61 ?_
        refine lv_iload_n hx hb dX3_orders_64 rfl (lv_at hl 1 rfl) ?_
        refine zm_iald hx hb hK hP 1 0 rfl rfl (i := a) (by omega) (by decide) dX3_orders_65 ?_
        refine lv_iconst (v := (5 : Int32)) hx hb dX3_orders_66 (by decide) ?_
        refine lv_iload_n hx hb dX3_orders_67 rfl (lv_at hl 1 rfl) ?_
        refine lv_imul hx hb dX3_orders_68 ?_
        refine zn_top (n := 5 * a) (pk_mul 5 a) ?_
        refine lv_iload_n hx hb dX3_orders_69 rfl (lv_at hl 2 rfl) ?_
        refine lv_iconst (v := (4 : Int32)) hx hb dX3_orders_70 (by decide) ?_
        refine lv_iload hx hb dX3_orders_71 (lv_at hl 4 rfl) ?_
        refine lv_imul hx hb dX3_orders_73 ?_
        refine zn_top (n := 4 * j) (pk_mul 4 j) ?_
        refine lv_iushr hx hb dX3_orders_74 rfl ?_
        refine lv_bipush (v := (15 : Int32)) hx hb dX3_orders_75 (by decide) ?_
        refine lv_iand hx hb dX3_orders_77 ?_
        have hFc := va_free (wc := mdW m0 ka na cI cJ n kf (doesN (kf a) a v2 nf j)) hD hS hA [0, 1, 2] rfl
        refine va_callv (va_runV (As := [.int (kf a), .int (nI (5 * a)), .int (mAt v2 j)]) (rest := []) ⟨hx, hb, hml, hown, hts⟩ (ct_X3_does l dC dI m0 ka na cI cJ H.size n kf (doesN (kf a) a v2 nf j) (kf a) a (mAt v2 j) (by omega)) (cwV 3 hts gX3_orders_X3_does rfl rfl rfl (by decide +kernel) ⟨Nat.le_of_ble_eq_true rfl, Nat.le_of_ble_eq_true rfl⟩) ⟨mw_blind, va_recv hK hP (ci := 3) (q0 := 0) rfl rfl, fun U hU hW9 => mw_call hK hP hD hU hW9⟩ rfl rfl hl.1 rfl (lv_room (Nat.le_of_ble_eq_true rfl)) dX3_orders_78 ⟨Nat.zero_le _, Nat.zero_le _⟩) hS (fun q _ h => hFc q h) hFc (fun _ t H1 locs ht hvm hw hB hz1 hk1 hS => ?_)
        obtain ⟨hP1, hD1⟩ := hB
        rw [ht] at hP1
        obtain ⟨hP, hD⟩ := va_join (wr := []) (w1 := mdW m0 ka na cI cJ n kf (fn_X3_does (kf a) a (mAt v2 j) (doesN (kf a) a v2 nf j))) hP hD [0, 1, 2] [] rfl rfl (by decide) (by decide) hk1 hFc hP1 hD1
        have hP : va_P (dC, dI) vwCl [(m0, .inr (3, [.ref ka, .ref na, .int (nI n)])), (ka, .inl (cI, 8, .inl kf)), (na, .inl (cJ, 40, .inr (.inl (doesN (kf a) a v2 nf (j + 1)))))] H1 := hP
        have hD : va_D A [(m0, .inr (3, [.ref ka, .ref na, .int (nI n)])), (ka, .inl (cI, 8, .inl kf)), (na, .inl (cJ, 40, .inr (.inl (doesN (kf a) a v2 nf (j + 1)))))] := hD
        refine lv_iinc (v := nI (j + 1)) (lv' := [(4, .int (nI (j + 1))), (0, .ref m0), (1, .int (nI a)), (2, .int v2), (3, .int (nI cn))]) hx hb dX3_orders_81 hl (k := 4) rfl (nI_1 j) (by decide) rfl (fun ls hl => ?_)
        refine lv_goto (tgt := 53) hx hb dX3_orders_84 (by decide) ?_
        exact ih (j + 1) (by omega) H1 locs ls hP hD hS (lv_sub hl [1, 2, 3, 4, 0] rfl)
  have lp1 : ∀ (f i : Nat), i + f = 8 → lenO (mAt v2) f i = lenO (mAt v2) 8 0 → ∀ ls : Array Slot, lv_has ls 5 [(0, .ref m0), (1, .int (nI a)), (2, .int v2), (3, .int (nI i))] → W p l e ({ frames := 5, cells := 0, slots := 0, locals := 121 } : Room) s m #[Value.ref m0, .int (nI a), .int v2] below meth c s.heap [] 0 0 (MQ below (va_Qi (fun r (_ : Unit) => r = nI cn) (fun _ t => va_P (dC, dI) vwCl (mdW m0 ka na cI cJ n kf (doesN (kf a) a v2 nf cn)) t.heap ∧ va_D A (mdW m0 ka na cI cJ n kf (doesN (kf a) a v2 nf cn))) A) #[Value.ref m0, .int (nI a), .int v2] s 0 0 A) (F0 m 12 ls []) := by
    intro f
    induction f with
    | zero =>
      intro i hi he ls hl
      have hi8 : i = 8 := by omega
      subst hi8
      refine lv_iload_n hx hb dX3_orders_12 rfl (lv_at hl 3 rfl) ?_
      refine lv_bipush (v := (8 : Int32)) hx hb dX3_orders_13 (by decide) ?_
      refine lv_icmp_ge (tgt := 50) hx hb dX3_orders_15 (by decide) (fun c_1 => ?_) (fun c_1 => ?_)
      · have hcc : 8 = cn := Option.some.inj ((show some 8 = lenO (mAt v2) 8 0 from he).trans hlen)
        have hl : lv_has ls 5 [(0, .ref m0), (1, .int (nI a)), (2, .int v2), (3, .int (nI cn))] := by rw [← hcc]; exact hl
        refine lv_iconst (v := (0 : Int32)) hx hb dX3_orders_50 (by decide) ?_
        refine lv_istore (lv' := [(4, .int (nI 0)), (0, .ref m0), (1, .int (nI a)), (2, .int v2), (3, .int (nI cn))]) hx hb dX3_orders_51 hl (by decide) rfl (fun ls hl => ?_)
        exact lp2 cn 0 (by omega) s.heap [] ls hP hD hS (lv_sub hl [1, 2, 3, 4, 0] rfl)
      · exact absurd (nI_le (a := 8) (b := 8) (by decide) (by decide)) c_1
    | succ f ih =>
      intro i hi he ls hl
      refine lv_iload_n hx hb dX3_orders_12 rfl (lv_at hl 3 rfl) ?_
      refine lv_bipush (v := (8 : Int32)) hx hb dX3_orders_13 (by decide) ?_
      refine lv_icmp_ge (tgt := 50) hx hb dX3_orders_15 (by decide) (fun c_1 => ?_) (fun c_1 => ?_)
      · exact absurd c_1 (nI_ge (a := i) (b := 8) (by omega) (by decide))
      · refine lv_iload_n hx hb dX3_orders_18 rfl (lv_at hl 2 rfl) ?_
        refine lv_iconst (v := (4 : Int32)) hx hb dX3_orders_19 (by decide) ?_
        refine lv_iload_n hx hb dX3_orders_20 rfl (lv_at hl 3 rfl) ?_
        refine lv_imul hx hb dX3_orders_21 ?_
        refine zn_top (n := 4 * i) (pk_mul 4 i) ?_
        refine lv_iushr hx hb dX3_orders_22 rfl ?_
        refine lv_bipush (v := (15 : Int32)) hx hb dX3_orders_23 (by decide) ?_
        refine lv_iand hx hb dX3_orders_25 ?_
        refine lv_if_eq (tgt := 50) hx hb dX3_orders_26 (by decide) (fun c_2 => ?_) (fun c_2 => ?_)
        · have c_2 : mAt v2 i = 0 := c_2
          have he2 : lenO (mAt v2) 8 0 = some i := by rw [← he]; unfold lenO; rw [if_pos c_2]
          have hcc : i = cn := Option.some.inj ((he2).symm.trans hlen)
          have hl : lv_has ls 5 [(0, .ref m0), (1, .int (nI a)), (2, .int v2), (3, .int (nI cn))] := by rw [← hcc]; exact hl
          refine lv_iconst (v := (0 : Int32)) hx hb dX3_orders_50 (by decide) ?_
          refine lv_istore (lv' := [(4, .int (nI 0)), (0, .ref m0), (1, .int (nI a)), (2, .int v2), (3, .int (nI cn))]) hx hb dX3_orders_51 hl (by decide) rfl (fun ls hl => ?_)
          exact lp2 cn 0 (by omega) s.heap [] ls hP hD hS (lv_sub hl [1, 2, 3, 4, 0] rfl)
        · refine lv_iload_n hx hb dX3_orders_29 rfl (lv_at hl 2 rfl) ?_
          refine lv_iconst (v := (4 : Int32)) hx hb dX3_orders_30 (by decide) ?_
          refine lv_iload_n hx hb dX3_orders_31 rfl (lv_at hl 3 rfl) ?_
          refine lv_imul hx hb dX3_orders_32 ?_
          refine zn_top (n := 4 * i) (pk_mul 4 i) ?_
          refine lv_iushr hx hb dX3_orders_33 rfl ?_
          refine lv_bipush (v := (15 : Int32)) hx hb dX3_orders_34 (by decide) ?_
          refine lv_iand hx hb dX3_orders_36 ?_
          refine lv_bipush (v := (13 : Int32)) hx hb dX3_orders_37 (by decide) ?_
          refine lv_icmp_le (tgt := 44) hx hb dX3_orders_39 (by decide) (fun c_3 => ?_) (fun c_3 => ?_)
          · have c_2 : ¬ mAt v2 i = 0 := c_2
            have c_3 : mAt v2 i ≤ (13 : Int32) := c_3
            have he2 : lenO (mAt v2) f (i + 1) = lenO (mAt v2) 8 0 := by rw [← he]; conv => rhs; unfold lenO; rw [if_neg c_2, if_pos c_3]
            refine lv_iinc (v := nI (i + 1)) (lv' := [(3, .int (nI (i + 1))), (0, .ref m0), (1, .int (nI a)), (2, .int v2)]) hx hb dX3_orders_44 hl (k := 3) rfl (nI_1 i) (by decide) rfl (fun ls hl => ?_)
            refine lv_goto (tgt := 12) hx hb dX3_orders_47 (by decide) ?_
            exact ih (i + 1) (by omega) he2 ls (lv_sub hl [1, 2, 3, 0] rfl)
          · refine lv_iconst (v := (-1 : Int32)) hx hb dX3_orders_42 (by decide) ?_
            have c_2 : ¬ mAt v2 i = 0 := c_2
            have c_3 : ¬ mAt v2 i ≤ (13 : Int32) := c_3
            have he2 : lenO (mAt v2) 8 0 = none := by rw [← he]; unfold lenO; rw [if_neg c_2, if_neg c_3]
            exact absurd he2 (by rw [hlen]; exact fun q => by cases q)
  refine lv_aload_n hx hb dX3_orders_0 rfl (lv_at hl 0 rfl) ?_
  refine lv_iload_n hx hb dX3_orders_1 rfl (lv_at hl 1 rfl) ?_
  refine vp_callSi (W.runV (As := [.int (nI a)]) (rest := []) ⟨hx, hb, hml, hown, hts⟩ (ct_X3_isAxis l dC dI m0 ka na cI cJ s.heap.size n kf nf (nI a)) (cwV 1 hts gX3_orders_X3_isAxis rfl rfl rfl (by decide +kernel) ⟨Nat.le_of_ble_eq_true rfl, Nat.le_of_ble_eq_true rfl⟩) ⟨mw_blind, va_recv hK hP (ci := 3) (q0 := 0) rfl rfl, fun U hU hW9 => mw_call hK hP hD hU hW9⟩ rfl rfl hl.1 rfl (lv_room (Nat.le_of_ble_eq_true rfl)) dX3_orders_2 ⟨Nat.zero_le _, Nat.zero_le _⟩) (fun r er => ?_)
  subst er
  refine lv_if_ne (tgt := 10) hx hb dX3_orders_5 (by decide) (fun c_1 => ?_) (fun c_1 => ?_)
  · refine lv_iconst (v := (0 : Int32)) hx hb dX3_orders_10 (by decide) ?_
    refine lv_istore_n (lv' := [(3, .int (0 : Int32)), (0, .ref m0), (1, .int (nI a)), (2, .int v2)]) hx hb dX3_orders_11 rfl hl (by decide) rfl (fun ls hl => ?_)
    exact lp1 8 0 rfl rfl ls (lv_sub hl [1, 2, 3, 0] rfl)
  · exact absurd c_1 (by rw [isax_in hn ha]; decide)
