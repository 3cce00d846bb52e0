/-- the static row of the constants -/
def kz (ad : Nat → Nat) (tk : Nat) (A : Nat → Prop) (U : State) (H : Heap) : Prop := va_Z "ServoDesk" "KINDS" "[LServoDesk$Kind;" (.ref tk) A U H ∧ va_T (.object "ServoDesk$Kind") tk 4 (fun i => .ref (ad i)) A U H
theorem kz_moved {ad : Nat → Nat} {tk : Nat} {A : Nat → Prop} {u U : State} {H : Heap} (hvm : u.vm.Alike U.vm) (h : kz ad tk A u H) : kz ad tk A U H := ⟨va_Z.moved hvm h.1, va_T.moved hvm h.2⟩
theorem kz_kept {ad : Nat → Nat} {tk : Nat} {A : Nat → Prop} {U : State} {H H1 : Heap} (h : kz ad tk A U H) (hq : ∀ a : Nat, a < H.size → ¬ A a → H1[a]? = H[a]?) : kz ad tk A U H1 := ⟨h.1.kept hq, h.2.kept hq⟩
theorem kz_narrow {ad : Nat → Nat} {tk : Nat} {A B : Nat → Prop} {U : State} {H : Heap} (h : kz ad tk A U H) (hAB : ∀ q, B q → A q) : kz ad tk B U H := ⟨h.1.narrow hAB, h.2.narrow hAB⟩
theorem kz_callA {ad : Nat → Nat} {tk : Nat} {A B : Nat → Prop} {s U : State} {H : Heap} {locs : List Loc} (h : kz ad tk A s s.heap) (hS : va_S A s.heap H locs) (hB : ∀ q, B q → A q) (hU : U.heap = H) (hW : s.WarmedH U.vm) : kz ad tk B U U.heap := by
  rw [hU]
  exact kz_moved hW.alike (kz_narrow (kz_kept h hS.2.1) hB)
set_option maxHeartbeats 4000000 in
set_option maxRecDepth 100000 in
theorem ct_X2_axis_lo (l : Launch) (dC : Nat → ClassId) (dI : Nat → Nat → Nat) (ad : Nat → Nat) (d0 ar : Nat) (cA : ClassId) (sz : Nat) (L : List Nat) (K : Nat → Nat) (u : Nat → Ax5) (tk : Nat) (v1 : Int32) (h1 : v1 < 0) : Met l yX2_axis wsX2_axis ({ frames := 3, cells := 0, slots := 0, locals := 61 } : Room) (va_Pc [.ref d0, .int v1] (fun U => dw dC dI ad d0 ar cA sz L K u U ∧ kz ad tk (va_A (dkW ad d0 ar cA L K u) sz) U U.heap)) (va_Qi (fun r (_ : Unit) => r = (-1 : Int32)) (fun _ t => va_P (dC, dI) vwCl (dkW ad d0 ar cA L K u) t.heap ∧ va_D (va_A (dkW ad d0 ar cA L K u) sz) (dkW ad d0 ar cA L K u)) (va_A (dkW ad d0 ar cA L K u) sz)) 0 0 (va_A (dkW ad d0 ar cA L K u) sz) := by
  refine Met.ofW (cc := cX2_axis) (maxL := 2) (ret := (some .int)) (by decide) rfl ?_
  intro p e s m args below meth c s₁ B hml hv
  obtain ⟨rfl, ⟨hsz, hP, hK, hD0, hW, hN⟩, hZ⟩ := hv
  have hx := B.exec
  have hb := B.bytes
  have hr := B.returns
  have hlocks := B.notSynchronized
  have hts := atoms_spec (ws := wsX2_axis) B.pre
  have hown : s.vm.findClass RX2 = some m.cls := findClass_of_methodNamed B.named
  have hin2 : ∀ w ∈ u_ws RX2 TX2 2, w ∈ wsX2_axis := fun _ h => List.mem_cons_of_mem _ (List.mem_append_left _ (List.mem_append_right _ h))
  have hin0 : ∀ w ∈ u_ws RX0 TX0 6, w ∈ wsX2_axis := fun _ h => List.mem_cons_of_mem _ (List.mem_append_right _ h)
  subst hsz
  have hD := hD0.self (sz := s.heap.size)
  generalize hAe : va_A (dkW ad d0 ar cA L K u) s.heap.size = A at hW hZ hD ⊢
  have hA : ∀ q : Nat, s.heap.size ≤ q → A q := fun q h => by rw [← hAe]; exact Or.inr h
  have hS : va_S A s.heap s.heap [] := va_S.rf
  have hl := lv_entry ([.ref d0, .int v1]) (n := 2) (Nat.le_of_ble_eq_true rfl)
  rw [lg_entry_eq]
  generalize (lg_sl ([.ref d0, .int v1]) ++ List.replicate (2 - (lg_sl ([.ref d0, .int v1])).length) Slot.unset).toArray = ls at hl ⊢
  have hl : lv_has ls 2 [(0, .ref d0), (1, .int v1)] := hl
  refine lv_iload_n hx hb dX2_axis_0 rfl (lv_at hl 1 rfl) ?_
  refine lv_if_lt (tgt := 24) hx hb dX2_axis_1 (by decide) (fun c_1 => ?_) (fun c_1 => ?_)
  · refine lv_iconst (v := (-1 : Int32)) hx hb dX2_axis_24 (by decide) ?_
    exact W.iret (v := (-1 : Int32)) hx hb hr (fun t ht hW9 => ⟨⟨_, (), rfl, rfl, by rw [ht]; exact hP, hD⟩, hS.F ht⟩) hS.2.2 dX2_axis_25
  · exact absurd h1 c_1
set_option maxHeartbeats 4000000 in
set_option maxRecDepth 100000 in
theorem ct_X2_axis_hi (l : Launch) (dC : Nat → ClassId) (dI : Nat → Nat → Nat) (ad : Nat → Nat) (d0 ar : Nat) (cA : ClassId) (sz : Nat) (L : List Nat) (K : Nat → Nat) (u : Nat → Ax5) (tk : Nat) (v1 : Int32) (h1 : ¬ v1 < 0) (h2 : 4 ≤ v1) : Met l yX2_axis wsX2_axis ({ frames := 3, cells := 0, slots := 0, locals := 61 } : Room) (va_Pc [.ref d0, .int v1] (fun U => dw dC dI ad d0 ar cA sz L K u U ∧ kz ad tk (va_A (dkW ad d0 ar cA L K u) sz) U U.heap)) (va_Qi (fun r (_ : Unit) => r = (-1 : Int32)) (fun _ t => va_P (dC, dI) vwCl (dkW ad d0 ar cA L K u) t.heap ∧ va_D (va_A (dkW ad d0 ar cA L K u) sz) (dkW ad d0 ar cA L K u)) (va_A (dkW ad d0 ar cA L K u) sz)) 0 0 (va_A (dkW ad d0 ar cA L K u) sz) := by
  refine Met.ofW (cc := cX2_axis) (maxL := 2) (ret := (some .int)) (by decide) rfl ?_
  intro p e s m args below meth c s₁ B hml hv
  obtain ⟨rfl, ⟨hsz, hP, hK, hD0, hW, hN⟩, hZ⟩ := hv
  have hx := B.exec
  have hb := B.bytes
  have hr := B.returns
  have hlocks := B.notSynchronized
  have hts := atoms_spec (ws := wsX2_axis) B.pre
  have hown : s.vm.findClass RX2 = some m.cls := findClass_of_methodNamed B.named
  have hin2 : ∀ w ∈ u_ws RX2 TX2 2, w ∈ wsX2_axis := fun _ h => List.mem_cons_of_mem _ (List.mem_append_left _ (List.mem_append_right _ h))
  have hin0 : ∀ w ∈ u_ws RX0 TX0 6, w ∈ wsX2_axis := fun _ h => List.mem_cons_of_mem _ (List.mem_append_right _ h)
  subst hsz
  have hD := hD0.self (sz := s.heap.size)
  generalize hAe : va_A (dkW ad d0 ar cA L K u) s.heap.size = A at hW hZ hD ⊢
  have hA : ∀ q : Nat, s.heap.size ≤ q → A q := fun q h => by rw [← hAe]; exact Or.inr h
  have hS : va_S A s.heap s.heap [] := va_S.rf
  have hl := lv_entry ([.ref d0, .int v1]) (n := 2) (Nat.le_of_ble_eq_true rfl)
  rw [lg_entry_eq]
  generalize (lg_sl ([.ref d0, .int v1]) ++ List.replicate (2 - (lg_sl ([.ref d0, .int v1])).length) Slot.unset).toArray = ls at hl ⊢
  have hl : lv_has ls 2 [(0, .ref d0), (1, .int v1)] := hl
  refine lv_iload_n hx hb dX2_axis_0 rfl (lv_at hl 1 rfl) ?_
  refine lv_if_lt (tgt := 24) hx hb dX2_axis_1 (by decide) (fun c_1 => ?_) (fun c_1 => ?_)
  · exact absurd c_1 h1
  · refine lv_iload_n hx hb dX2_axis_4 rfl (lv_at hl 1 rfl) ?_
    refine va_gets hx hb hZ.1 hS hown (hts (.fieldLink RX2 19 "ServoDesk" "KINDS" "[LServoDesk$Kind;") (by decide +kernel)) (fun _ h9 => h9) dX2_axis_5 ?_
    refine va_tlen (v := (4 : Int32)) hx hb hZ.2 hS (by decide) dX2_axis_8 ?_
    refine lv_icmp_ge (tgt := 24) hx hb dX2_axis_9 (by decide) (fun c_2 => ?_) (fun c_2 => ?_)
    · refine lv_iconst (v := (-1 : Int32)) hx hb dX2_axis_24 (by decide) ?_
      exact W.iret (v := (-1 : Int32)) hx hb hr (fun t ht hW9 => ⟨⟨_, (), rfl, rfl, by rw [ht]; exact hP, hD⟩, hS.F ht⟩) hS.2.2 dX2_axis_25
    · exact absurd h2 c_2
set_option maxHeartbeats 4000000 in
set_option maxRecDepth 100000 in
theorem ct_X2_axis_full (l : Launch) (dC : Nat → ClassId) (dI : Nat → Nat → Nat) (ad : Nat → Nat) (d0 ar : Nat) (cA : ClassId) (sz : Nat) (L : List Nat) (K : Nat → Nat) (u : Nat → Ax5) (tk : Nat) (k : Nat) (hk : k < 4) (h8 : L.length = 8) : Met l yX2_axis wsX2_axis ({ frames := 3, cells := 0, slots := 0, locals := 61 } : Room) (va_Pc [.ref d0, .int (nI k)] (fun U => dw dC dI ad d0 ar cA sz L K u U ∧ kz ad tk (va_A (dkW ad d0 ar cA L K u) sz) U U.heap)) (va_Qi (fun r (_ : Unit) => r = (-1 : Int32)) (fun _ t => va_P (dC, dI) vwCl (dkW ad d0 ar cA L K u) t.heap ∧ va_D (va_A (dkW ad d0 ar cA L K u) sz) (dkW ad d0 ar cA L K u)) (va_A (dkW ad d0 ar cA L K u) sz)) 0 0 (va_A (dkW ad d0 ar cA L K u) sz) := by
  refine Met.ofW (cc := cX2_axis) (maxL := 2) (ret := (some .int)) (by decide) rfl ?_
  intro p e s m args below meth c s₁ B hml hv
  obtain ⟨rfl, ⟨hsz, hP, hK, hD0, hW, hN⟩, hZ⟩ := hv
  have hx := B.exec
  have hb := B.bytes
  have hr := B.returns
  have hlocks := B.notSynchronized
  have hts := atoms_spec (ws := wsX2_axis) B.pre
  have hown : s.vm.findClass RX2 = some m.cls := findClass_of_methodNamed B.named
  have hin2 : ∀ w ∈ u_ws RX2 TX2 2, w ∈ wsX2_axis := fun _ h => List.mem_cons_of_mem _ (List.mem_append_left _ (List.mem_append_right _ h))
  have hin0 : ∀ w ∈ u_ws RX0 TX0 6, w ∈ wsX2_axis := fun _ h => List.mem_cons_of_mem _ (List.mem_append_right _ h)
  subst hsz
  have hD := hD0.self (sz := s.heap.size)
  generalize hAe : va_A (dkW ad d0 ar cA L K u) s.heap.size = A at hW hZ hD ⊢
  have hA : ∀ q : Nat, s.heap.size ≤ q → A q := fun q h => by rw [← hAe]; exact Or.inr h
  have hS : va_S A s.heap s.heap [] := va_S.rf
  have hl := lv_entry ([.ref d0, .int (nI k)]) (n := 2) (Nat.le_of_ble_eq_true rfl)
  rw [lg_entry_eq]
  generalize (lg_sl ([.ref d0, .int (nI k)]) ++ List.replicate (2 - (lg_sl ([.ref d0, .int (nI k)])).length) Slot.unset).toArray = ls at hl ⊢
  have hl : lv_has ls 2 [(0, .ref d0), (1, .int (nI k))] := hl
  refine lv_iload_n hx hb dX2_axis_0 rfl (lv_at hl 1 rfl) ?_
  refine lv_if_lt (tgt := 24) hx hb dX2_axis_1 (by decide) (fun c_1 => ?_) (fun c_1 => ?_)
  · exact absurd c_1 (nI_pos (n := k) (by omega))
  · refine lv_iload_n hx hb dX2_axis_4 rfl (lv_at hl 1 rfl) ?_
    refine va_gets hx hb hZ.1 hS hown (hts (.fieldLink RX2 19 "ServoDesk" "KINDS" "[LServoDesk$Kind;") (by decide +kernel)) (fun _ h9 => h9) dX2_axis_5 ?_
    refine va_tlen (v := (4 : Int32)) hx hb hZ.2 hS (by decide) dX2_axis_8 ?_
    refine lv_icmp_ge (tgt := 24) hx hb dX2_axis_9 (by decide) (fun c_2 => ?_) (fun c_2 => ?_)
    · exact absurd c_2 (nI_ge (a := k) (b := 4) hk (by decide))
    · refine lv_aload_n hx hb dX2_axis_12 rfl (lv_at hl 0 rfl) ?_
      refine va_get (D := (dC, dI)) (ci := 2) (v := .int (nI L.length)) (C := RX2) (T := TX2) (N := 2) hx hb hts hin2 hown hK hP 0 rfl rfl 1 (by decide) (hts (.fieldLink RX2 15 "ServoDesk" "count" "I") (by decide +kernel)) (fun _ h9 => h9) rfl dX2_axis_13 ?_
      refine lv_aload_n hx hb dX2_axis_16 rfl (lv_at hl 0 rfl) ?_
      refine va_get (D := (dC, dI)) (ci := 2) (v := .ref ar) (C := RX2) (T := TX2) (N := 2) hx hb hts hin2 hown hK hP 0 rfl rfl 0 (by decide) (hts (.fieldLink RX2 11 "ServoDesk" "axes" "[LServoDesk$Axis;") (by decide +kernel)) (fun _ h9 => h9) rfl dX2_axis_17 ?_
      refine va_alen (v := nI 8) hx hb hK hP 1 0 rfl rfl rfl dX2_axis_20 ?_
      refine lv_icmp_lt (tgt := 26) hx hb dX2_axis_21 (by decide) (fun c_3 => ?_) (fun c_3 => ?_)
      · exact absurd c_3 (nI_nlt (a := L.length) (b := 8) (by omega) (by omega))
      · refine lv_iconst (v := (-1 : Int32)) hx hb dX2_axis_24 (by decide) ?_
        exact W.iret (v := (-1 : Int32)) hx hb hr (fun t ht hW9 => ⟨⟨_, (), rfl, rfl, by rw [ht]; exact hP, hD⟩, hS.F ht⟩) hS.2.2 dX2_axis_25
set_option maxHeartbeats 4000000 in
set_option maxRecDepth 100000 in
theorem ct_X2_axis_at (l : Launch) (dC : Nat → ClassId) (dI : Nat → Nat → Nat) (ad : Nat → Nat) (d0 ar : Nat) (cA : ClassId) (sz : Nat) (L : List Nat) (K : Nat → Nat) (u : Nat → Ax5) (tk : Nat) (k : Nat) (hk : k < 4) (hn8 : L.length < 8) : Met l yX2_axis wsX2_axis ({ frames := 3, cells := 1, slots := 6, locals := 61 } : Room) (va_Pc [.ref d0, .int (nI k)] (fun U => dw dC dI ad d0 ar cA sz L K u U ∧ kz ad tk (va_A (dkW ad d0 ar cA L K u) sz) U U.heap)) (va_Qi (fun r (_ : Nat) => r = nI L.length) (fun q t => va_P (dC, dI) vwCl (dkW ad d0 ar cA (L ++ [q]) (va_up K q k) (va_up u q (axI k))) t.heap ∧ va_D (va_A (dkW ad d0 ar cA L K u) sz) (dkW ad d0 ar cA (L ++ [q]) (va_up K q k) (va_up u q (axI k)))) (va_A (dkW ad d0 ar cA L K u) sz)) 1 6 (va_A (dkW ad d0 ar cA L K u) sz) := by
  refine Met.ofW (cc := cX2_axis) (maxL := 2) (ret := (some .int)) (by decide) rfl ?_
  intro p e s m args below meth c s₁ B hml hv
  obtain ⟨rfl, ⟨hsz, hP, hK, hD0, hW, hN⟩, hZ⟩ := hv
  have hx := B.exec
  have hb := B.bytes
  have hr := B.returns
  have hlocks := B.notSynchronized
  have hts := atoms_spec (ws := wsX2_axis) B.pre
  have hown : s.vm.findClass RX2 = some m.cls := findClass_of_methodNamed B.named
  have hin2 : ∀ w ∈ u_ws RX2 TX2 2, w ∈ wsX2_axis := fun _ h => List.mem_cons_of_mem _ (List.mem_append_left _ (List.mem_append_right _ h))
  have hin0 : ∀ w ∈ u_ws RX0 TX0 6, w ∈ wsX2_axis := fun _ h => List.mem_cons_of_mem _ (List.mem_append_right _ h)
  subst hsz
  have hD := hD0.self (sz := s.heap.size)
  generalize hAe : va_A (dkW ad d0 ar cA L K u) s.heap.size = A at hW hZ hD ⊢
  have hA : ∀ q : Nat, s.heap.size ≤ q → A q := fun q h => by rw [← hAe]; exact Or.inr h
  have hS : va_S A s.heap s.heap [] := va_S.rf
  have hl := lv_entry ([.ref d0, .int (nI k)]) (n := 2) (Nat.le_of_ble_eq_true rfl)
  rw [lg_entry_eq]
  generalize (lg_sl ([.ref d0, .int (nI k)]) ++ List.replicate (2 - (lg_sl ([.ref d0, .int (nI k)])).length) Slot.unset).toArray = ls at hl ⊢
  have hl : lv_has ls 2 [(0, .ref d0), (1, .int (nI k))] := hl
  refine lv_iload_n hx hb dX2_axis_0 rfl (lv_at hl 1 rfl) ?_
  refine lv_if_lt (tgt := 24) hx hb dX2_axis_1 (by decide) (fun c_1 => ?_) (fun c_1 => ?_)
  · exact absurd c_1 (nI_pos (n := k) (by omega))
  · refine lv_iload_n hx hb dX2_axis_4 rfl (lv_at hl 1 rfl) ?_
    refine va_gets hx hb hZ.1 hS hown (hts (.fieldLink RX2 19 "ServoDesk" "KINDS" "[LServoDesk$Kind;") (by decide +kernel)) (fun _ h9 => h9) dX2_axis_5 ?_
    refine va_tlen (v := (4 : Int32)) hx hb hZ.2 hS (by decide) dX2_axis_8 ?_
    refine lv_icmp_ge (tgt := 24) hx hb dX2_axis_9 (by decide) (fun c_2 => ?_) (fun c_2 => ?_)
    · exact absurd c_2 (nI_ge (a := k) (b := 4) hk (by decide))
    · refine lv_aload_n hx hb dX2_axis_12 rfl (lv_at hl 0 rfl) ?_
      refine va_get (D := (dC, dI)) (ci := 2) (v := .int (nI L.length)) (C := RX2) (T := TX2) (N := 2) hx hb hts hin2 hown hK hP 0 rfl rfl 1 (by decide) (hts (.fieldLink RX2 15 "ServoDesk" "count" "I") (by decide +kernel)) (fun _ h9 => h9) rfl dX2_axis_13 ?_
      refine lv_aload_n hx hb dX2_axis_16 rfl (lv_at hl 0 rfl) ?_
      refine va_get (D := (dC, dI)) (ci := 2) (v := .ref ar) (C := RX2) (T := TX2) (N := 2) hx hb hts hin2 hown hK hP 0 rfl rfl 0 (by decide) (hts (.fieldLink RX2 11 "ServoDesk" "axes" "[LServoDesk$Axis;") (by decide +kernel)) (fun _ h9 => h9) rfl dX2_axis_17 ?_
      refine va_alen (v := nI 8) hx hb hK hP 1 0 rfl rfl rfl dX2_axis_20 ?_
      refine lv_icmp_lt (tgt := 26) hx hb dX2_axis_21 (by decide) (fun c_3 => ?_) (fun c_3 => ?_)
      · refine lv_aload_n hx hb dX2_axis_26 rfl (lv_at hl 0 rfl) ?_
        refine va_get (D := (dC, dI)) (ci := 2) (v := .ref ar) (C := RX2) (T := TX2) (N := 2) hx hb hts hin2 hown hK hP 0 rfl rfl 0 (by decide) (hts (.fieldLink RX2 11 "ServoDesk" "axes" "[LServoDesk$Axis;") (by decide +kernel)) (fun _ h9 => h9) rfl dX2_axis_27 ?_
        refine lv_aload_n hx hb dX2_axis_30 rfl (lv_at hl 0 rfl) ?_
        refine va_get (D := (dC, dI)) (ci := 2) (v := .int (nI L.length)) (C := RX2) (T := TX2) (N := 2) hx hb hts hin2 hown hK hP 0 rfl rfl 1 (by decide) (hts (.fieldLink RX2 15 "ServoDesk" "count" "I") (by decide +kernel)) (fun _ h9 => h9) rfl dX2_axis_31 ?_
        refine va_new (ci := 0) (fs := [.null, .long 0, .long 0, .long 0, .long 0, .long 0]) (C := RX0) (T := TX0) (N := 6) hx hb hts hin0 tyX0 tyX0_ok hown (hts (.classLink RX2 9 RX0) (by decide +kernel)) (hts (.instantiable RX0 6) (by decide +kernel)) (hts (.initialized RX0) (by decide +kernel)) hK hP hD hS hA rfl (fun j hj => by rcases (show j = 0 ∨ j = 1 ∨ j = 2 ∨ j = 3 ∨ j = 4 ∨ j = 5 by omega) with rfl | rfl | rfl | rfl | rfl | rfl <;> rfl) (Nat.le_of_ble_eq_true rfl) (Nat.le_of_ble_eq_true rfl) dX2_axis_34 (fun q H hP hD hS => ?_)
        have hkq : ∀ x : va_E, (dkW ad d0 ar cA L K u ++ [(q, x)])[(dkW ad d0 ar cA L K u).length]? = some (q, x) := fun x => by rw [List.getElem?_append_right (Nat.le_refl _), Nat.sub_self]; rfl
        have hqL : q ∉ L := fun hqm => by
            obtain ⟨i9, h9⟩ := va_pl_get (X := dkX d0 ar cA L) (f := dkE ad K u) hqm
            have l9 : i9 < (dkW ad d0 ar cA L K u).length := (List.getElem?_eq_some_iff.mp h9).1
            have e9 := hD.1 i9 (dkW ad d0 ar cA L K u).length _ _ ((List.getElem?_append_left l9).trans h9) (hkq _) rfl
            omega
        refine lv_dup hx hb dX2_axis_37 rfl ?_
        refine va_gets hx hb hZ.1 hS hown (hts (.fieldLink RX2 19 "ServoDesk" "KINDS" "[LServoDesk$Kind;") (by decide +kernel)) (fun _ h9 => h9) dX2_axis_38 ?_
        refine lv_iload_n hx hb dX2_axis_41 rfl (lv_at hl 1 rfl) ?_
        refine vb_tq (v := .ref (ad k)) hx hb hZ.2 hS (vp_in_nI hk (by decide)) (by rw [nI_clamp (by omega)]) dX2_axis_42 ?_
        have hFc := va_F1 hD hS hA (hkq _)
        refine va_callv (va_runIN (As := [.ref (ad k)]) (rest := [.ref q, .int (nI L.length), .ref ar]) ⟨hx, hb, hml, hown, hts⟩ (ct_X0_init l dC dI ad q H.size k hk) ⟨va_cnB 1 hts gX2_axis_X0_init_n23 rfl rfl rfl (nW_X2_23 hN) (hts (.initialized RX0) (by decide +kernel)) (by decide +kernel) ⟨Nat.le_of_ble_eq_true rfl, Nat.le_of_ble_eq_true rfl⟩, rfl, hts (.instanceMethod yX0_init) (by decide +kernel)⟩ ⟨(fun a U g mk x => ⟨x.1, x.2.1, x.2.2.1, va_K.moved (u := U) (U := U.calling g mk a) (Vm.Alike.refl U.vm) x.2.2.2.1, x.2.2.2.2.1, kw_blind x.2.2.2.2.2.1, nW_same (s := U) (U := U.calling g mk a) rfl x.2.2.2.2.2.2⟩), fun U hU hW9 => ⟨rfl, by rw [hU], by rw [hU]; exact va_P1 hP (hkq _), va_K.moved hW9.alike (hK.sub (tys' := []) [] rfl), (va_D1 hD (hkq _)).weaken (fun _ _ _ _ => trivial), kw_callA hW hS hFc hU hW9, nW_warm hW9 hN⟩⟩ rfl rfl hl.1 rfl (lv_room (Nat.le_of_ble_eq_true rfl)) dX2_axis_43 ⟨Nat.le_of_ble_eq_true rfl, Nat.le_of_ble_eq_true rfl⟩) hS (fun x _ h => hFc x h) hFc (fun _ t H1 locs ht hvm hw hB hz1 hk1 hS => ?_)
        obtain ⟨hP1, -⟩ := hB
        rw [ht] at hP1
        obtain ⟨hP, hD⟩ := va_J1 hP hD (hkq _) hk1 hP1
        have hse : ∀ x y : va_E, (dkW ad d0 ar cA L K u ++ [(q, x)]).set (dkW ad d0 ar cA L K u).length (q, y) = dkW ad d0 ar cA L K u ++ [(q, y)] := fun x y => by rw [List.set_append_right _ _ (Nat.le_refl _), Nat.sub_self]; rfl
        rw [hse] at hP hD
        generalize H1 = H at hP hS ⊢
        refine va_astq hx hb hK hP hD hS 1 0 (dkW ad d0 ar cA L K u).length 0 rfl rfl (hkq _) rfl (vp_in_nI hn8 (by decide)) dX2_axis_46 (fun H locs hP hD hS => ?_)
        rw [nI_clamp (show L.length < 2 ^ 31 by omega)] at hP hD
        have efL : va_up (fun i => L[i]?) L.length (some q) = fun i => (L ++ [q])[i]? := funext (fun i9 => by
            by_cases h9 : i9 = L.length
            · subst h9; rw [va_up_self, List.getElem?_append_right (Nat.le_refl _), Nat.sub_self]; rfl
            · rw [va_up_ne _ _ h9]
              by_cases h8 : i9 < L.length
              · rw [List.getElem?_append_left h8]
              · rw [List.getElem?_eq_none (by omega), List.getElem?_eq_none (by rw [List.length_append]; simp only [List.length_singleton]; omega)])
        rw [efL] at hP hD
        have hP : va_P (dC, dI) vwCl ([(d0, .inr (2, [.ref ar, .int (nI L.length)])), (ar, .inl (cA, 8, .inr (.inr (.inr (.inr (fun i => (L ++ [q])[i]?))))))] ++ va_pl L (dkE ad K u) ++ [(q, axE ad k (axI k))]) H := hP
        have hD : va_D A ([(d0, .inr (2, [.ref ar, .int (nI L.length)])), (ar, .inl (cA, 8, .inr (.inr (.inr (.inr (fun i => (L ++ [q])[i]?))))))] ++ va_pl L (dkE ad K u) ++ [(q, axE ad k (axI k))]) := hD
        refine lv_aload_n hx hb dX2_axis_47 rfl (lv_at hl 0 rfl) ?_
        refine lv_dup hx hb dX2_axis_48 rfl ?_
        refine va_get (D := (dC, dI)) (ci := 2) (v := .int (nI L.length)) (C := RX2) (T := TX2) (N := 2) hx hb hts hin2 hown hK hP 0 rfl rfl 1 (by decide) (hts (.fieldLink RX2 15 "ServoDesk" "count" "I") (by decide +kernel)) (fun _ h9 => h9) rfl dX2_axis_49 ?_
        refine lv_iconst (v := (1 : Int32)) hx hb dX2_axis_52 (by decide) ?_
        refine lv_iadd hx hb dX2_axis_53 ?_
        refine zn_top (n := L.length + 1) (nI_1 L.length) ?_
        refine va_put (D := (dC, dI)) (ci := 2) (v := .int (nI (L.length + 1))) (ty := .int) (C := RX2) (T := TX2) (N := 2) hx hb hts hin2 tyX2 tyX2_ok nmX2 hown hK hP hD hS 0 rfl rfl 1 (by decide) (hts (.fieldLink RX2 15 "ServoDesk" "count" "I") (by decide +kernel)) (fun _ h9 => h9) rfl (by decide +kernel) rfl rfl (Nat.le_of_ble_eq_true rfl) dX2_axis_54 (fun H locs hP hD hS => ?_)
        have hP : va_P (dC, dI) vwCl ([(d0, .inr (2, [.ref ar, .int (nI (L.length + 1))])), (ar, .inl (cA, 8, .inr (.inr (.inr (.inr (fun i => (L ++ [q])[i]?))))))] ++ va_pl L (dkE ad K u) ++ [(q, axE ad k (axI k))]) H := hP
        have hD : va_D A ([(d0, .inr (2, [.ref ar, .int (nI (L.length + 1))])), (ar, .inl (cA, 8, .inr (.inr (.inr (.inr (fun i => (L ++ [q])[i]?))))))] ++ va_pl L (dkE ad K u) ++ [(q, axE ad k (axI k))]) := hD
        refine lv_aload_n hx hb dX2_axis_57 rfl (lv_at hl 0 rfl) ?_
        refine va_get (D := (dC, dI)) (ci := 2) (v := .int (nI (L.length + 1))) (C := RX2) (T := TX2) (N := 2) hx hb hts hin2 hown hK hP 0 rfl rfl 1 (by decide) (hts (.fieldLink RX2 15 "ServoDesk" "count" "I") (by decide +kernel)) (fun _ h9 => h9) rfl dX2_axis_58 ?_
        refine lv_iconst (v := (1 : Int32)) hx hb dX2_axis_61 (by decide) ?_
        refine lv_isub hx hb dX2_axis_62 ?_
        refine zn_top (n := L.length) (nI_pred L.length) ?_
        have ewd : ([(d0, .inr (2, [.ref ar, .int (nI (L.length + 1))])), (ar, .inl (cA, 8, .inr (.inr (.inr (.inr (fun i => (L ++ [q])[i]?))))))] ++ va_pl L (dkE ad K u) ++ [(q, axE ad k (axI k))] : va_W) = dkW ad d0 ar cA (L ++ [q]) (va_up K q k) (va_up u q (axI k)) := by
            rw [List.append_assoc, va_pl_push hqL]
            have e1 : va_pl (L ++ [q]) (va_up (dkE ad K u) q (axE ad k (axI k))) = va_pl (L ++ [q]) (dkE ad (va_up K q k) (va_up u q (axI k))) := va_pl_congr (fun b9 => by
              by_cases h9 : b9 = q
              · subst h9
                show _ = axE ad (va_up K b9 k b9) (va_up u b9 (axI k) b9)
                rw [va_up_self, va_up_self, va_up_self]
              · show _ = axE ad (va_up K q k b9) (va_up u q (axI k) b9)
                rw [va_up_ne _ _ h9, va_up_ne _ _ h9, va_up_ne _ _ h9])
            have e2 : (L ++ [q]).length = L.length + 1 := by rw [List.length_append]; rfl
            rw [e1]
            show _ = dkX d0 ar cA (L ++ [q]) ++ _
            unfold dkX
            rw [e2]
        rw [ewd] at hP hD
        exact W.iret (v := nI L.length) hx hb hr (fun t ht hW9 => ⟨⟨_, q, rfl, rfl, by rw [ht]; exact hP, hD⟩, hS.F ht⟩) hS.2.2 dX2_axis_63
      · exact absurd (nI_lt (a := L.length) (b := 8) hn8 (by decide)) c_3
