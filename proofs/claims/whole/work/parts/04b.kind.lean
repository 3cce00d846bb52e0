def fn_X1_infinity (k : Nat) : Int64 :=
  (((2 : Int64) * (Int32.toInt64 (kB k))) + (1 : Int64)) <<< (Int32.toInt64 (kR k) &&& 63)
set_option maxHeartbeats 4000000 in
set_option maxRecDepth 100000 in
theorem ct_X1_infinity (l : Launch) (ad : Nat → Nat) (k : Nat) (hk_k : k < 4) : Met l yX1_infinity wsX1_infinity ({ frames := 0, cells := 0, slots := 0, locals := 0 } : Room) (va_Pc [.ref (ad k)] (fun U => kw ad (fun _ => False) U U.heap)) (vp_Sl (fun r => r = fn_X1_infinity k)) 0 0 (fun _ => False) := by
  refine Met.ofW (cc := cX1_infinity) (maxL := 1) (ret := (some .long)) (by decide) rfl ?_
  intro p e s m args below meth c s₁ B hml hv
  obtain ⟨rfl, hW⟩ := hv
  have hx := B.exec
  have hb := B.bytes
  have hr := B.returns
  have hlocks := B.notSynchronized
  have hts := atoms_spec (ws := wsX1_infinity) B.pre
  have hown : s.vm.findClass RX1 = some m.cls := findClass_of_methodNamed B.named
  have hS : va_S (fun _ => False) s.heap s.heap [] := va_S.rf
  have hl := lv_entry ([.ref (ad k)]) (n := 1) (Nat.le_of_ble_eq_true rfl)
  rw [lg_entry_eq]
  generalize (lg_sl ([.ref (ad k)]) ++ List.replicate (1 - (lg_sl ([.ref (ad k)])).length) Slot.unset).toArray = ls at hl ⊢
  have hl : lv_has ls 1 [(0, .ref (ad k))] := hl
  refine lv_ldc2 (v := (2 : Int64)) hx hb hown (hts (.constantLong RX1 55 (2)) (by decide +kernel)) dX1_infinity_0 ?_
  refine lv_aload_n hx hb dX1_infinity_3 rfl (lv_at hl 0 rfl) ?_
  refine kg_bias hx hb hW hk_k hS hown (hts (.fieldLink RX1 46 "ServoDesk$Kind" "bias" "I") (by decide +kernel)) dX1_infinity_4 ?_
  refine lv_i2l hx hb dX1_infinity_7 rfl ?_
  refine lv_lmul hx hb dX1_infinity_8 ?_
  refine lv_lconst (v := (1 : Int64)) hx hb dX1_infinity_9 (by decide) ?_
  refine lv_ladd hx hb dX1_infinity_10 ?_
  refine lv_aload_n hx hb dX1_infinity_11 rfl (lv_at hl 0 rfl) ?_
  refine kg_fraction hx hb hW hk_k hS hown (hts (.fieldLink RX1 43 "ServoDesk$Kind" "fraction" "I") (by decide +kernel)) dX1_infinity_12 ?_
  refine lv_lshl hx hb dX1_infinity_15 rfl ?_
  exact W.lret (v := (((2 : Int64) * (Int32.toInt64 (kB k))) + (1 : Int64)) <<< (Int32.toInt64 (kR k) &&& 63)) hx hb hr (fun t ht _ => ⟨_, rfl, rfl, ht⟩) (fun _ h => by cases h) dX1_infinity_16
def fn_X1_one (k : Nat) : Int64 :=
  if (kF k) = 0 then
    (1 : Int64)
  else
    (Int32.toInt64 (kB k)) <<< (Int32.toInt64 (kR k) &&& 63)
set_option maxHeartbeats 4000000 in
set_option maxRecDepth 100000 in
theorem ct_X1_one (l : Launch) (ad : Nat → Nat) (k : Nat) (hk_k : k < 4) : Met l yX1_one wsX1_one ({ frames := 0, cells := 0, slots := 0, locals := 0 } : Room) (va_Pc [.ref (ad k)] (fun U => kw ad (fun _ => False) U U.heap)) (vp_Sl (fun r => r = fn_X1_one k)) 0 0 (fun _ => False) := by
  refine Met.ofW (cc := cX1_one) (maxL := 1) (ret := (some .long)) (by decide) rfl ?_
  intro p e s m args below meth c s₁ B hml hv
  obtain ⟨rfl, hW⟩ := hv
  have hx := B.exec
  have hb := B.bytes
  have hr := B.returns
  have hlocks := B.notSynchronized
  have hts := atoms_spec (ws := wsX1_one) B.pre
  have hown : s.vm.findClass RX1 = some m.cls := findClass_of_methodNamed B.named
  have hS : va_S (fun _ => False) s.heap s.heap [] := va_S.rf
  have hl := lv_entry ([.ref (ad k)]) (n := 1) (Nat.le_of_ble_eq_true rfl)
  rw [lg_entry_eq]
  generalize (lg_sl ([.ref (ad k)]) ++ List.replicate (1 - (lg_sl ([.ref (ad k)])).length) Slot.unset).toArray = ls at hl ⊢
  have hl : lv_has ls 1 [(0, .ref (ad k))] := hl
  refine lv_aload_n hx hb dX1_one_0 rfl (lv_at hl 0 rfl) ?_
  refine kg_floating hx hb hW hk_k hS hown (hts (.fieldLink RX1 39 "ServoDesk$Kind" "floating" "Z") (by decide +kernel)) dX1_one_1 ?_
  refine lv_if_eq (tgt := 20) hx hb dX1_one_4 (by decide) (fun c_1 => ?_) (fun c_1 => ?_)
  · refine lv_lconst (v := (1 : Int64)) hx hb dX1_one_20 (by decide) ?_
    exact W.lret (v := (1 : Int64)) hx hb hr (fun t ht _ => ⟨_, rfl, by unfold fn_X1_one; rw [if_pos c_1], ht⟩) (fun _ h => by cases h) dX1_one_21
  · refine lv_aload_n hx hb dX1_one_7 rfl (lv_at hl 0 rfl) ?_
    refine kg_bias hx hb hW hk_k hS hown (hts (.fieldLink RX1 46 "ServoDesk$Kind" "bias" "I") (by decide +kernel)) dX1_one_8 ?_
    refine lv_i2l hx hb dX1_one_11 rfl ?_
    refine lv_aload_n hx hb dX1_one_12 rfl (lv_at hl 0 rfl) ?_
    refine kg_fraction hx hb hW hk_k hS hown (hts (.fieldLink RX1 43 "ServoDesk$Kind" "fraction" "I") (by decide +kernel)) dX1_one_13 ?_
    refine lv_lshl hx hb dX1_one_16 rfl ?_
    refine lv_goto (tgt := 21) hx hb dX1_one_17 (by decide) ?_
    exact W.lret (v := (Int32.toInt64 (kB k)) <<< (Int32.toInt64 (kR k) &&& 63)) hx hb hr (fun t ht _ => ⟨_, rfl, by unfold fn_X1_one; rw [if_neg c_1], ht⟩) (fun _ h => by cases h) dX1_one_21
def fn_X1_least (k : Nat) : Int64 :=
  if (kF k) = 0 then
    kS k
  else
    (fn_X1_infinity k) ||| (kS k)
set_option maxHeartbeats 4000000 in
set_option maxRecDepth 100000 in
theorem ct_X1_least (l : Launch) (ad : Nat → Nat) (k : Nat) (hk_k : k < 4) : Met l yX1_least wsX1_least ({ frames := 1, cells := 0, slots := 0, locals := 20 } : Room) (va_Pc [.ref (ad k)] (fun U => kw ad (fun _ => False) U U.heap)) (vp_Sl (fun r => r = fn_X1_least k)) 0 0 (fun _ => False) := by
  refine Met.ofW (cc := cX1_least) (maxL := 1) (ret := (some .long)) (by decide) rfl ?_
  intro p e s m args below meth c s₁ B hml hv
  obtain ⟨rfl, hW⟩ := hv
  have hx := B.exec
  have hb := B.bytes
  have hr := B.returns
  have hlocks := B.notSynchronized
  have hts := atoms_spec (ws := wsX1_least) B.pre
  have hown : s.vm.findClass RX1 = some m.cls := findClass_of_methodNamed B.named
  have hS : va_S (fun _ => False) s.heap s.heap [] := va_S.rf
  have hl := lv_entry ([.ref (ad k)]) (n := 1) (Nat.le_of_ble_eq_true rfl)
  rw [lg_entry_eq]
  generalize (lg_sl ([.ref (ad k)]) ++ List.replicate (1 - (lg_sl ([.ref (ad k)])).length) Slot.unset).toArray = ls at hl ⊢
  have hl : lv_has ls 1 [(0, .ref (ad k))] := hl
  refine lv_aload_n hx hb dX1_least_0 rfl (lv_at hl 0 rfl) ?_
  refine kg_floating hx hb hW hk_k hS hown (hts (.fieldLink RX1 39 "ServoDesk$Kind" "floating" "Z") (by decide +kernel)) dX1_least_1 ?_
  refine lv_if_eq (tgt := 19) hx hb dX1_least_4 (by decide) (fun c_1 => ?_) (fun c_1 => ?_)
  · refine lv_aload_n hx hb dX1_least_19 rfl (lv_at hl 0 rfl) ?_
    refine kg_sign hx hb hW hk_k hS hown (hts (.fieldLink RX1 51 "ServoDesk$Kind" "sign" "J") (by decide +kernel)) dX1_least_20 ?_
    exact W.lret (v := kS k) hx hb hr (fun t ht _ => ⟨_, rfl, by unfold fn_X1_least; rw [if_pos c_1], ht⟩) (fun _ h => by cases h) dX1_least_23
  · refine lv_aload_n hx hb dX1_least_7 rfl (lv_at hl 0 rfl) ?_
    refine vp_callSl (W.runV (As := []) (rest := []) ⟨hx, hb, hml, hown, hts⟩ (ct_X1_infinity l ad k hk_k) (cwV 0 hts gX1_least_X1_infinity rfl rfl rfl (by decide +kernel) ⟨Nat.le_of_ble_eq_true rfl, Nat.le_of_ble_eq_true rfl⟩) ⟨(fun a U g mk q => ⟨q.1, kw_blind q.2⟩), kw_recv hW hS hk_k, fun U hU hW9 => ⟨rfl, kw_call hW hS hU hW9⟩⟩ rfl rfl hl.1 rfl (lv_room (Nat.le_of_ble_eq_true rfl)) dX1_least_8 ⟨Nat.zero_le _, Nat.zero_le _⟩) (fun r er => ?_)
    subst er
    refine lv_aload_n hx hb dX1_least_11 rfl (lv_at hl 0 rfl) ?_
    refine kg_sign hx hb hW hk_k hS hown (hts (.fieldLink RX1 51 "ServoDesk$Kind" "sign" "J") (by decide +kernel)) dX1_least_12 ?_
    refine lv_lor hx hb dX1_least_15 ?_
    refine lv_goto (tgt := 23) hx hb dX1_least_16 (by decide) ?_
    exact W.lret (v := (fn_X1_infinity k) ||| (kS k)) hx hb hr (fun t ht _ => ⟨_, rfl, by unfold fn_X1_least; rw [if_neg c_1], ht⟩) (fun _ h => by cases h) dX1_least_23
def fn_X1_greatest (k : Nat) : Int64 :=
  if (kF k) = 0 then
    (kS k) ^^^ (-1 : Int64)
  else
    fn_X1_infinity k
set_option maxHeartbeats 4000000 in
set_option maxRecDepth 100000 in
theorem ct_X1_greatest (l : Launch) (ad : Nat → Nat) (k : Nat) (hk_k : k < 4) : Met l yX1_greatest wsX1_greatest ({ frames := 1, cells := 0, slots := 0, locals := 20 } : Room) (va_Pc [.ref (ad k)] (fun U => kw ad (fun _ => False) U U.heap)) (vp_Sl (fun r => r = fn_X1_greatest k)) 0 0 (fun _ => False) := by
  refine Met.ofW (cc := cX1_greatest) (maxL := 1) (ret := (some .long)) (by decide) rfl ?_
  intro p e s m args below meth c s₁ B hml hv
  obtain ⟨rfl, hW⟩ := hv
  have hx := B.exec
  have hb := B.bytes
  have hr := B.returns
  have hlocks := B.notSynchronized
  have hts := atoms_spec (ws := wsX1_greatest) B.pre
  have hown : s.vm.findClass RX1 = some m.cls := findClass_of_methodNamed B.named
  have hS : va_S (fun _ => False) s.heap s.heap [] := va_S.rf
  have hl := lv_entry ([.ref (ad k)]) (n := 1) (Nat.le_of_ble_eq_true rfl)
  rw [lg_entry_eq]
  generalize (lg_sl ([.ref (ad k)]) ++ List.replicate (1 - (lg_sl ([.ref (ad k)])).length) Slot.unset).toArray = ls at hl ⊢
  have hl : lv_has ls 1 [(0, .ref (ad k))] := hl
  refine lv_aload_n hx hb dX1_greatest_0 rfl (lv_at hl 0 rfl) ?_
  refine kg_floating hx hb hW hk_k hS hown (hts (.fieldLink RX1 39 "ServoDesk$Kind" "floating" "Z") (by decide +kernel)) dX1_greatest_1 ?_
  refine lv_if_eq (tgt := 14) hx hb dX1_greatest_4 (by decide) (fun c_1 => ?_) (fun c_1 => ?_)
  · refine lv_aload_n hx hb dX1_greatest_14 rfl (lv_at hl 0 rfl) ?_
    refine kg_sign hx hb hW hk_k hS hown (hts (.fieldLink RX1 51 "ServoDesk$Kind" "sign" "J") (by decide +kernel)) dX1_greatest_15 ?_
    refine lv_ldc2 (v := (-1 : Int64)) hx hb hown (hts (.constantLong RX1 49 (-1)) (by decide +kernel)) dX1_greatest_18 ?_
    refine lv_lxor hx hb dX1_greatest_21 ?_
    exact W.lret (v := (kS k) ^^^ (-1 : Int64)) hx hb hr (fun t ht _ => ⟨_, rfl, by unfold fn_X1_greatest; rw [if_pos c_1], ht⟩) (fun _ h => by cases h) dX1_greatest_22
  · refine lv_aload_n hx hb dX1_greatest_7 rfl (lv_at hl 0 rfl) ?_
    refine vp_callSl (W.runV (As := []) (rest := []) ⟨hx, hb, hml, hown, hts⟩ (ct_X1_infinity l ad k hk_k) (cwV 0 hts gX1_greatest_X1_infinity rfl rfl rfl (by decide +kernel) ⟨Nat.le_of_ble_eq_true rfl, Nat.le_of_ble_eq_true rfl⟩) ⟨(fun a U g mk q => ⟨q.1, kw_blind q.2⟩), kw_recv hW hS hk_k, fun U hU hW9 => ⟨rfl, kw_call hW hS hU hW9⟩⟩ rfl rfl hl.1 rfl (lv_room (Nat.le_of_ble_eq_true rfl)) dX1_greatest_8 ⟨Nat.zero_le _, Nat.zero_le _⟩) (fun r er => ?_)
    subst er
    refine lv_goto (tgt := 22) hx hb dX1_greatest_11 (by decide) ?_
    exact W.lret (v := fn_X1_infinity k) hx hb hr (fun t ht _ => ⟨_, rfl, by unfold fn_X1_greatest; rw [if_neg c_1], ht⟩) (fun _ h => by cases h) dX1_greatest_22
def fn_X1_fitted (k : Nat) (v1 : Int64) : Int64 :=
  (v1 <<< (Int32.toInt64 (kU k) &&& 63)) >>> (Int32.toInt64 (kU k) &&& 63)
set_option maxHeartbeats 4000000 in
set_option maxRecDepth 100000 in
theorem ct_X1_fitted (l : Launch) (ad : Nat → Nat) (k : Nat) (hk_k : k < 4) (v1 : Int64) : Met l yX1_fitted wsX1_fitted ({ frames := 0, cells := 0, slots := 0, locals := 0 } : Room) (va_Pc [.ref (ad k), .long v1] (fun U => kw ad (fun _ => False) U U.heap)) (vp_Sl (fun r => r = fn_X1_fitted k v1)) 0 0 (fun _ => False) := by
  refine Met.ofW (cc := cX1_fitted) (maxL := 3) (ret := (some .long)) (by decide) rfl ?_
  intro p e s m args below meth c s₁ B hml hv
  obtain ⟨rfl, hW⟩ := hv
  have hx := B.exec
  have hb := B.bytes
  have hr := B.returns
  have hlocks := B.notSynchronized
  have hts := atoms_spec (ws := wsX1_fitted) B.pre
  have hown : s.vm.findClass RX1 = some m.cls := findClass_of_methodNamed B.named
  have hS : va_S (fun _ => False) s.heap s.heap [] := va_S.rf
  have hl := lv_entry ([.ref (ad k), .long v1]) (n := 3) (Nat.le_of_ble_eq_true rfl)
  rw [lg_entry_eq]
  generalize (lg_sl ([.ref (ad k), .long v1]) ++ List.replicate (3 - (lg_sl ([.ref (ad k), .long v1])).length) Slot.unset).toArray = ls at hl ⊢
  have hl : lv_has ls 3 [(0, .ref (ad k)), (1, .long v1)] := hl
  refine lv_lload_n hx hb dX1_fitted_0 rfl (lv_at hl 1 rfl) ?_
  refine lv_aload_n hx hb dX1_fitted_1 rfl (lv_at hl 0 rfl) ?_
  refine kg_unused hx hb hW hk_k hS hown (hts (.fieldLink RX1 35 "ServoDesk$Kind" "unused" "I") (by decide +kernel)) dX1_fitted_2 ?_
  refine lv_lshl hx hb dX1_fitted_5 rfl ?_
  refine lv_aload_n hx hb dX1_fitted_6 rfl (lv_at hl 0 rfl) ?_
  refine kg_unused hx hb hW hk_k hS hown (hts (.fieldLink RX1 35 "ServoDesk$Kind" "unused" "I") (by decide +kernel)) dX1_fitted_7 ?_
  refine lv_lshr hx hb dX1_fitted_10 rfl ?_
  exact W.lret (v := (v1 <<< (Int32.toInt64 (kU k) &&& 63)) >>> (Int32.toInt64 (kU k) &&& 63)) hx hb hr (fun t ht _ => ⟨_, rfl, rfl, ht⟩) (fun _ h => by cases h) dX1_fitted_11
def fn_X1_rank (k : Nat) (v1 : Int64) : Int64 :=
  if (kF k) = 0 then
    v1
  else
    if (0 : Int64) ≤ v1 then
      v1
    else
      v1 ^^^ ((kS k) ^^^ (-1 : Int64))
set_option maxHeartbeats 4000000 in
set_option maxRecDepth 100000 in
theorem ct_X1_rank (l : Launch) (ad : Nat → Nat) (k : Nat) (hk_k : k < 4) (v1 : Int64) : Met l yX1_rank wsX1_rank ({ frames := 0, cells := 0, slots := 0, locals := 0 } : Room) (va_Pc [.ref (ad k), .long v1] (fun U => kw ad (fun _ => False) U U.heap)) (vp_Sl (fun r => r = fn_X1_rank k v1)) 0 0 (fun _ => False) := by
  refine Met.ofW (cc := cX1_rank) (maxL := 3) (ret := (some .long)) (by decide) rfl ?_
  intro p e s m args below meth c s₁ B hml hv
  obtain ⟨rfl, hW⟩ := hv
  have hx := B.exec
  have hb := B.bytes
  have hr := B.returns
  have hlocks := B.notSynchronized
  have hts := atoms_spec (ws := wsX1_rank) B.pre
  have hown : s.vm.findClass RX1 = some m.cls := findClass_of_methodNamed B.named
  have hS : va_S (fun _ => False) s.heap s.heap [] := va_S.rf
  have hl := lv_entry ([.ref (ad k), .long v1]) (n := 3) (Nat.le_of_ble_eq_true rfl)
  rw [lg_entry_eq]
  generalize (lg_sl ([.ref (ad k), .long v1]) ++ List.replicate (3 - (lg_sl ([.ref (ad k), .long v1])).length) Slot.unset).toArray = ls at hl ⊢
  have hl : lv_has ls 3 [(0, .ref (ad k)), (1, .long v1)] := hl
  refine lv_aload_n hx hb dX1_rank_0 rfl (lv_at hl 0 rfl) ?_
  refine kg_floating hx hb hW hk_k hS hown (hts (.fieldLink RX1 39 "ServoDesk$Kind" "floating" "Z") (by decide +kernel)) dX1_rank_1 ?_
  refine lv_if_eq (tgt := 26) hx hb dX1_rank_4 (by decide) (fun c_1 => ?_) (fun c_1 => ?_)
  · refine lv_lload_n hx hb dX1_rank_26 rfl (lv_at hl 1 rfl) ?_
    exact W.lret (v := v1) hx hb hr (fun t ht _ => ⟨_, rfl, by unfold fn_X1_rank; rw [if_pos c_1], ht⟩) (fun _ h => by cases h) dX1_rank_27
  · refine lv_lload_n hx hb dX1_rank_7 rfl (lv_at hl 1 rfl) ?_
    refine lv_lconst (v := (0 : Int64)) hx hb dX1_rank_8 (by decide) ?_
    refine zl_ge (tgt := 26) hx hb dX1_rank_9 dX1_rank_10 (by decide) (fun c_2 => ?_) (fun c_2 => ?_)
    · refine lv_lload_n hx hb dX1_rank_26 rfl (lv_at hl 1 rfl) ?_
      exact W.lret (v := v1) hx hb hr (fun t ht _ => ⟨_, rfl, by unfold fn_X1_rank; rw [if_neg c_1, if_pos c_2], ht⟩) (fun _ h => by cases h) dX1_rank_27
    · refine lv_lload_n hx hb dX1_rank_13 rfl (lv_at hl 1 rfl) ?_
      refine lv_aload_n hx hb dX1_rank_14 rfl (lv_at hl 0 rfl) ?_
      refine kg_sign hx hb hW hk_k hS hown (hts (.fieldLink RX1 51 "ServoDesk$Kind" "sign" "J") (by decide +kernel)) dX1_rank_15 ?_
      refine lv_ldc2 (v := (-1 : Int64)) hx hb hown (hts (.constantLong RX1 49 (-1)) (by decide +kernel)) dX1_rank_18 ?_
      refine lv_lxor hx hb dX1_rank_21 ?_
      refine lv_lxor hx hb dX1_rank_22 ?_
      refine lv_goto (tgt := 27) hx hb dX1_rank_23 (by decide) ?_
      exact W.lret (v := v1 ^^^ ((kS k) ^^^ (-1 : Int64))) hx hb hr (fun t ht _ => ⟨_, rfl, by unfold fn_X1_rank; rw [if_neg c_1, if_neg c_2], ht⟩) (fun _ h => by cases h) dX1_rank_27
def fn_X1_sized (k : Nat) (v1 : Int64) : Int64 :=
  if (kF k) = 0 then
    fn_X1_fitted k (if 0 < v1 then v1 else -v1)
  else
    v1 &&& ((kS k) ^^^ (-1 : Int64))
set_option maxHeartbeats 4000000 in
set_option maxRecDepth 100000 in
theorem ct_X1_sized (l : Launch) (ad : Nat → Nat) (k : Nat) (hk_k : k < 4) (v1 : Int64) : Met l yX1_sized wsX1_sized ({ frames := 1, cells := 0, slots := 0, locals := 23 } : Room) (va_Pc [.ref (ad k), .long v1] (fun U => kw ad (fun _ => False) U U.heap)) (vp_Sl (fun r => r = fn_X1_sized k v1)) 0 0 (fun _ => False) := by
  refine Met.ofW (cc := cX1_sized) (maxL := 3) (ret := (some .long)) (by decide) rfl ?_
  intro p e s m args below meth c s₁ B hml hv
  obtain ⟨rfl, hW⟩ := hv
  have hx := B.exec
  have hb := B.bytes
  have hr := B.returns
  have hlocks := B.notSynchronized
  have hts := atoms_spec (ws := wsX1_sized) B.pre
  have hown : s.vm.findClass RX1 = some m.cls := findClass_of_methodNamed B.named
  have hS : va_S (fun _ => False) s.heap s.heap [] := va_S.rf
  have hl := lv_entry ([.ref (ad k), .long v1]) (n := 3) (Nat.le_of_ble_eq_true rfl)
  rw [lg_entry_eq]
  generalize (lg_sl ([.ref (ad k), .long v1]) ++ List.replicate (3 - (lg_sl ([.ref (ad k), .long v1])).length) Slot.unset).toArray = ls at hl ⊢
  have hl : lv_has ls 3 [(0, .ref (ad k)), (1, .long v1)] := hl
  refine lv_aload_n hx hb dX1_sized_0 rfl (lv_at hl 0 rfl) ?_
  refine kg_floating hx hb hW hk_k hS hown (hts (.fieldLink RX1 39 "ServoDesk$Kind" "floating" "Z") (by decide +kernel)) dX1_sized_1 ?_
  refine lv_if_eq (tgt := 20) hx hb dX1_sized_4 (by decide) (fun c_1 => ?_) (fun c_1 => ?_)
  · refine lv_aload_n hx hb dX1_sized_20 rfl (lv_at hl 0 rfl) ?_
    refine lv_lload_n hx hb dX1_sized_21 rfl (lv_at hl 1 rfl) ?_
    refine va_mabs_long hx hb (hml.trans hl.1.symm) hown (hts (.methodLink RX1 77 Lib.MathLoose.abs_long.x) (by decide +kernel)) (hts (.static Lib.MathLoose.abs_long.x) (by decide +kernel)) (hts (.initialized "java/lang/Math") (by decide +kernel)) (hts (.code Lib.MathLoose.abs_long.x Lib.MathLoose.abs_long.code 2 (some .long)) (by decide +kernel)) (Nat.le_of_ble_eq_true rfl) (Nat.le_of_ble_eq_true rfl) (Nat.zero_le _) (Nat.zero_le _) dX1_sized_22 ?_
    refine vp_callSl (W.runV (As := [.long (if 0 < v1 then v1 else -v1)]) (rest := []) ⟨hx, hb, hml, hown, hts⟩ (ct_X1_fitted l ad k hk_k (if 0 < v1 then v1 else -v1)) (cwV 1 hts gX1_sized_X1_fitted rfl rfl rfl (by decide +kernel) ⟨Nat.le_of_ble_eq_true rfl, Nat.le_of_ble_eq_true rfl⟩) ⟨(fun a U g mk q => ⟨q.1, kw_blind q.2⟩), kw_recv hW hS hk_k, fun U hU hW9 => ⟨rfl, kw_call hW hS hU hW9⟩⟩ rfl rfl hl.1 rfl (lv_room (Nat.le_of_ble_eq_true rfl)) dX1_sized_25 ⟨Nat.zero_le _, Nat.zero_le _⟩) (fun r er => ?_)
    subst er
    exact W.lret (v := fn_X1_fitted k (if 0 < v1 then v1 else -v1)) hx hb hr (fun t ht _ => ⟨_, rfl, by unfold fn_X1_sized; rw [if_pos c_1], ht⟩) (fun _ h => by cases h) dX1_sized_28
  · refine lv_lload_n hx hb dX1_sized_7 rfl (lv_at hl 1 rfl) ?_
    refine lv_aload_n hx hb dX1_sized_8 rfl (lv_at hl 0 rfl) ?_
    refine kg_sign hx hb hW hk_k hS hown (hts (.fieldLink RX1 51 "ServoDesk$Kind" "sign" "J") (by decide +kernel)) dX1_sized_9 ?_
    refine lv_ldc2 (v := (-1 : Int64)) hx hb hown (hts (.constantLong RX1 49 (-1)) (by decide +kernel)) dX1_sized_12 ?_
    refine lv_lxor hx hb dX1_sized_15 ?_
    refine lv_land hx hb dX1_sized_16 ?_
    refine lv_goto (tgt := 28) hx hb dX1_sized_17 (by decide) ?_
    exact W.lret (v := v1 &&& ((kS k) ^^^ (-1 : Int64))) hx hb hr (fun t ht _ => ⟨_, rfl, by unfold fn_X1_sized; rw [if_neg c_1], ht⟩) (fun _ h => by cases h) dX1_sized_28
def fn_X1_isNumber (k : Nat) (v1 : Int64) : Int32 :=
  if (kF k) = 0 then
    (1 : Int32)
  else
    if (fn_X1_infinity k) < (fn_X1_sized k v1) then
      (0 : Int32)
    else
      (1 : Int32)
set_option maxHeartbeats 4000000 in
set_option maxRecDepth 100000 in
theorem ct_X1_isNumber (l : Launch) (ad : Nat → Nat) (k : Nat) (hk_k : k < 4) (v1 : Int64) : Met l yX1_isNumber wsX1_isNumber ({ frames := 2, cells := 0, slots := 0, locals := 45 } : Room) (va_Pc [.ref (ad k), .long v1] (fun U => kw ad (fun _ => False) U U.heap)) (vp_Si (fun r => r = fn_X1_isNumber k v1)) 0 0 (fun _ => False) := by
  refine Met.ofW (cc := cX1_isNumber) (maxL := 3) (ret := (some .boolean)) (by decide) rfl ?_
  intro p e s m args below meth c s₁ B hml hv
  obtain ⟨rfl, hW⟩ := hv
  have hx := B.exec
  have hb := B.bytes
  have hr := B.returns
  have hlocks := B.notSynchronized
  have hts := atoms_spec (ws := wsX1_isNumber) B.pre
  have hown : s.vm.findClass RX1 = some m.cls := findClass_of_methodNamed B.named
  have hS : va_S (fun _ => False) s.heap s.heap [] := va_S.rf
  have hl := lv_entry ([.ref (ad k), .long v1]) (n := 3) (Nat.le_of_ble_eq_true rfl)
  rw [lg_entry_eq]
  generalize (lg_sl ([.ref (ad k), .long v1]) ++ List.replicate (3 - (lg_sl ([.ref (ad k), .long v1])).length) Slot.unset).toArray = ls at hl ⊢
  have hl : lv_has ls 3 [(0, .ref (ad k)), (1, .long v1)] := hl
  refine lv_aload_n hx hb dX1_isNumber_0 rfl (lv_at hl 0 rfl) ?_
  refine kg_floating hx hb hW hk_k hS hown (hts (.fieldLink RX1 39 "ServoDesk$Kind" "floating" "Z") (by decide +kernel)) dX1_isNumber_1 ?_
  refine lv_if_eq (tgt := 20) hx hb dX1_isNumber_4 (by decide) (fun c_1 => ?_) (fun c_1 => ?_)
  · refine lv_iconst (v := (1 : Int32)) hx hb dX1_isNumber_20 (by decide) ?_
    refine lv_goto (tgt := 25) hx hb dX1_isNumber_21 (by decide) ?_
    exact W.zret (v := (1 : Int32)) (ty := .boolean) hx hb hr (by decide) (fun t ht _ => ⟨_, rfl, by unfold fn_X1_isNumber; rw [if_pos c_1], ht⟩) (fun _ h => by cases h) dX1_isNumber_25
  · refine lv_aload_n hx hb dX1_isNumber_7 rfl (lv_at hl 0 rfl) ?_
    refine lv_lload_n hx hb dX1_isNumber_8 rfl (lv_at hl 1 rfl) ?_
    refine vp_callSl (W.runV (As := [.long v1]) (rest := []) ⟨hx, hb, hml, hown, hts⟩ (ct_X1_sized l ad k hk_k v1) (cwV 1 hts gX1_isNumber_X1_sized rfl rfl rfl (by decide +kernel) ⟨Nat.le_of_ble_eq_true rfl, Nat.le_of_ble_eq_true rfl⟩) ⟨(fun a U g mk q => ⟨q.1, kw_blind q.2⟩), kw_recv hW hS hk_k, fun U hU hW9 => ⟨rfl, kw_call hW hS hU hW9⟩⟩ rfl rfl hl.1 rfl (lv_room (Nat.le_of_ble_eq_true rfl)) dX1_isNumber_9 ⟨Nat.zero_le _, Nat.zero_le _⟩) (fun r er => ?_)
    subst er
    refine lv_aload_n hx hb dX1_isNumber_12 rfl (lv_at hl 0 rfl) ?_
    refine vp_callSl (W.runV (As := []) (rest := [.long (fn_X1_sized k v1)]) ⟨hx, hb, hml, hown, hts⟩ (ct_X1_infinity l ad k hk_k) (cwV 0 hts gX1_isNumber_X1_infinity rfl rfl rfl (by decide +kernel) ⟨Nat.le_of_ble_eq_true rfl, Nat.le_of_ble_eq_true rfl⟩) ⟨(fun a U g mk q => ⟨q.1, kw_blind q.2⟩), kw_recv hW hS hk_k, fun U hU hW9 => ⟨rfl, kw_call hW hS hU hW9⟩⟩ rfl rfl hl.1 rfl (lv_room (Nat.le_of_ble_eq_true rfl)) dX1_isNumber_13 ⟨Nat.zero_le _, Nat.zero_le _⟩) (fun r er => ?_)
    subst er
    refine zl_gt (tgt := 24) hx hb dX1_isNumber_16 dX1_isNumber_17 (by decide) (fun c_2 => ?_) (fun c_2 => ?_)
    · refine lv_iconst (v := (0 : Int32)) hx hb dX1_isNumber_24 (by decide) ?_
      exact W.zret (v := (0 : Int32)) (ty := .boolean) hx hb hr (by decide) (fun t ht _ => ⟨_, rfl, by unfold fn_X1_isNumber; rw [if_neg c_1, if_pos c_2], ht⟩) (fun _ h => by cases h) dX1_isNumber_25
    · refine lv_iconst (v := (1 : Int32)) hx hb dX1_isNumber_20 (by decide) ?_
      refine lv_goto (tgt := 25) hx hb dX1_isNumber_21 (by decide) ?_
      exact W.zret (v := (1 : Int32)) (ty := .boolean) hx hb hr (by decide) (fun t ht _ => ⟨_, rfl, by unfold fn_X1_isNumber; rw [if_neg c_1, if_neg c_2], ht⟩) (fun _ h => by cases h) dX1_isNumber_25
def fn_X1_compared (k : Nat) (v1 : Int64) (v3 : Int64) : Int32 :=
  fn_J13_compare_74951 (fn_X1_rank k v1) (fn_X1_rank k v3)
set_option maxHeartbeats 4000000 in
set_option maxRecDepth 100000 in
theorem ct_X1_compared (l : Launch) (ad : Nat → Nat) (k : Nat) (hk_k : k < 4) (v1 : Int64) (v3 : Int64) : Met l yX1_compared wsX1_compared ({ frames := 1, cells := 0, slots := 0, locals := 23 } : Room) (va_Pc [.ref (ad k), .long v1, .long v3] (fun U => kw ad (fun _ => False) U U.heap)) (vp_Si (fun r => r = fn_X1_compared k v1 v3)) 0 0 (fun _ => False) := by
  refine Met.ofW (cc := cX1_compared) (maxL := 5) (ret := (some .int)) (by decide) rfl ?_
  intro p e s m args below meth c s₁ B hml hv
  obtain ⟨rfl, hW⟩ := hv
  have hx := B.exec
  have hb := B.bytes
  have hr := B.returns
  have hlocks := B.notSynchronized
  have hts := atoms_spec (ws := wsX1_compared) B.pre
  have hown : s.vm.findClass RX1 = some m.cls := findClass_of_methodNamed B.named
  have hS : va_S (fun _ => False) s.heap s.heap [] := va_S.rf
  have hl := lv_entry ([.ref (ad k), .long v1, .long v3]) (n := 5) (Nat.le_of_ble_eq_true rfl)
  rw [lg_entry_eq]
  generalize (lg_sl ([.ref (ad k), .long v1, .long v3]) ++ List.replicate (5 - (lg_sl ([.ref (ad k), .long v1, .long v3])).length) Slot.unset).toArray = ls at hl ⊢
  have hl : lv_has ls 5 [(0, .ref (ad k)), (1, .long v1), (3, .long v3)] := hl
  refine lv_aload_n hx hb dX1_compared_0 rfl (lv_at hl 0 rfl) ?_
  refine lv_lload_n hx hb dX1_compared_1 rfl (lv_at hl 1 rfl) ?_
  refine vp_callSl (W.runV (As := [.long v1]) (rest := []) ⟨hx, hb, hml, hown, hts⟩ (ct_X1_rank l ad k hk_k v1) (cwV 1 hts gX1_compared_X1_rank rfl rfl rfl (by decide +kernel) ⟨Nat.le_of_ble_eq_true rfl, Nat.le_of_ble_eq_true rfl⟩) ⟨(fun a U g mk q => ⟨q.1, kw_blind q.2⟩), kw_recv hW hS hk_k, fun U hU hW9 => ⟨rfl, kw_call hW hS hU hW9⟩⟩ rfl rfl hl.1 rfl (lv_room (Nat.le_of_ble_eq_true rfl)) dX1_compared_2 ⟨Nat.zero_le _, Nat.zero_le _⟩) (fun r er => ?_)
  subst er
  refine lv_aload_n hx hb dX1_compared_5 rfl (lv_at hl 0 rfl) ?_
  refine lv_lload_n hx hb dX1_compared_6 rfl (lv_at hl 2 rfl) ?_
  refine vp_callSl (W.runV (As := [.long v3]) (rest := [.long (fn_X1_rank k v1)]) ⟨hx, hb, hml, hown, hts⟩ (ct_X1_rank l ad k hk_k v3) (cwV 1 hts gX1_compared_X1_rank rfl rfl rfl (by decide +kernel) ⟨Nat.le_of_ble_eq_true rfl, Nat.le_of_ble_eq_true rfl⟩) ⟨(fun a U g mk q => ⟨q.1, kw_blind q.2⟩), kw_recv hW hS hk_k, fun U hU hW9 => ⟨rfl, kw_call hW hS hU hW9⟩⟩ rfl rfl hl.1 rfl (lv_room (Nat.le_of_ble_eq_true rfl)) dX1_compared_7 ⟨Nat.zero_le _, Nat.zero_le _⟩) (fun r er => ?_)
  subst er
  refine vp_callSi (W.runS (As := [.long (fn_X1_rank k v1), .long (fn_X1_rank k v3)]) (rest := []) ⟨hx, hb, hml, hown, hts⟩ (ct_J13_compare_74951 l (fn_X1_rank k v1) (fn_X1_rank k v3)) (va_cwS 2 hts gX1_compared_J13_compare_74951 rfl rfl rfl (by decide +kernel) ⟨Nat.le_of_ble_eq_true rfl, Nat.le_of_ble_eq_true rfl⟩) ⟨(fun a U g mk q => ⟨q.1, trivial⟩), fun U hU hW9 => ⟨rfl, trivial⟩⟩ rfl rfl hl.1 rfl (lv_room (Nat.le_of_ble_eq_true rfl)) dX1_compared_10 ⟨Nat.zero_le _, Nat.zero_le _⟩) (fun r er => ?_)
  subst er
  exact W.iret (v := fn_J13_compare_74951 (fn_X1_rank k v1) (fn_X1_rank k v3)) hx hb hr (fun t ht _ => ⟨_, rfl, rfl, ht⟩) (fun _ h => by cases h) dX1_compared_13
def fn_X1_greater (k : Nat) (v1 : Int64) (v3 : Int64) : Int64 :=
  if (fn_X1_compared k v1 v3) < 0 then
    v3
  else
    v1
set_option maxHeartbeats 4000000 in
set_option maxRecDepth 100000 in
theorem ct_X1_greater (l : Launch) (ad : Nat → Nat) (k : Nat) (hk_k : k < 4) (v1 : Int64) (v3 : Int64) : Met l yX1_greater wsX1_greater ({ frames := 2, cells := 0, slots := 0, locals := 47 } : Room) (va_Pc [.ref (ad k), .long v1, .long v3] (fun U => kw ad (fun _ => False) U U.heap)) (vp_Sl (fun r => r = fn_X1_greater k v1 v3)) 0 0 (fun _ => False) := by
  refine Met.ofW (cc := cX1_greater) (maxL := 5) (ret := (some .long)) (by decide) rfl ?_
  intro p e s m args below meth c s₁ B hml hv
  obtain ⟨rfl, hW⟩ := hv
  have hx := B.exec
  have hb := B.bytes
  have hr := B.returns
  have hlocks := B.notSynchronized
  have hts := atoms_spec (ws := wsX1_greater) B.pre
  have hown : s.vm.findClass RX1 = some m.cls := findClass_of_methodNamed B.named
  have hS : va_S (fun _ => False) s.heap s.heap [] := va_S.rf
  have hl := lv_entry ([.ref (ad k), .long v1, .long v3]) (n := 5) (Nat.le_of_ble_eq_true rfl)
  rw [lg_entry_eq]
  generalize (lg_sl ([.ref (ad k), .long v1, .long v3]) ++ List.replicate (5 - (lg_sl ([.ref (ad k), .long v1, .long v3])).length) Slot.unset).toArray = ls at hl ⊢
  have hl : lv_has ls 5 [(0, .ref (ad k)), (1, .long v1), (3, .long v3)] := hl
  refine lv_aload_n hx hb dX1_greater_0 rfl (lv_at hl 0 rfl) ?_
  refine lv_lload_n hx hb dX1_greater_1 rfl (lv_at hl 1 rfl) ?_
  refine lv_lload_n hx hb dX1_greater_2 rfl (lv_at hl 2 rfl) ?_
  refine vp_callSi (W.runV (As := [.long v1, .long v3]) (rest := []) ⟨hx, hb, hml, hown, hts⟩ (ct_X1_compared l ad k hk_k v1 v3) (cwV 2 hts gX1_greater_X1_compared rfl rfl rfl (by decide +kernel) ⟨Nat.le_of_ble_eq_true rfl, Nat.le_of_ble_eq_true rfl⟩) ⟨(fun a U g mk q => ⟨q.1, kw_blind q.2⟩), kw_recv hW hS hk_k, fun U hU hW9 => ⟨rfl, kw_call hW hS hU hW9⟩⟩ rfl rfl hl.1 rfl (lv_room (Nat.le_of_ble_eq_true rfl)) dX1_greater_3 ⟨Nat.zero_le _, Nat.zero_le _⟩) (fun r er => ?_)
  subst er
  refine lv_if_lt (tgt := 13) hx hb dX1_greater_6 (by decide) (fun c_1 => ?_) (fun c_1 => ?_)
  · refine lv_lload_n hx hb dX1_greater_13 rfl (lv_at hl 2 rfl) ?_
    exact W.lret (v := v3) hx hb hr (fun t ht _ => ⟨_, rfl, by unfold fn_X1_greater; rw [if_pos c_1], ht⟩) (fun _ h => by cases h) dX1_greater_14
  · refine lv_lload_n hx hb dX1_greater_9 rfl (lv_at hl 1 rfl) ?_
    refine lv_goto (tgt := 14) hx hb dX1_greater_10 (by decide) ?_
    exact W.lret (v := v1) hx hb hr (fun t ht _ => ⟨_, rfl, by unfold fn_X1_greater; rw [if_neg c_1], ht⟩) (fun _ h => by cases h) dX1_greater_14
def fn_X1_lesser (k : Nat) (v1 : Int64) (v3 : Int64) : Int64 :=
  if 0 < (fn_X1_compared k v1 v3) then
    v3
  else
    v1
set_option maxHeartbeats 4000000 in
set_option maxRecDepth 100000 in
theorem ct_X1_lesser (l : Launch) (ad : Nat → Nat) (k : Nat) (hk_k : k < 4) (v1 : Int64) (v3 : Int64) : Met l yX1_lesser wsX1_lesser ({ frames := 2, cells := 0, slots := 0, locals := 47 } : Room) (va_Pc [.ref (ad k), .long v1, .long v3] (fun U => kw ad (fun _ => False) U U.heap)) (vp_Sl (fun r => r = fn_X1_lesser k v1 v3)) 0 0 (fun _ => False) := by
  refine Met.ofW (cc := cX1_lesser) (maxL := 5) (ret := (some .long)) (by decide) rfl ?_
  intro p e s m args below meth c s₁ B hml hv
  obtain ⟨rfl, hW⟩ := hv
  have hx := B.exec
  have hb := B.bytes
  have hr := B.returns
  have hlocks := B.notSynchronized
  have hts := atoms_spec (ws := wsX1_lesser) B.pre
  have hown : s.vm.findClass RX1 = some m.cls := findClass_of_methodNamed B.named
  have hS : va_S (fun _ => False) s.heap s.heap [] := va_S.rf
  have hl := lv_entry ([.ref (ad k), .long v1, .long v3]) (n := 5) (Nat.le_of_ble_eq_true rfl)
  rw [lg_entry_eq]
  generalize (lg_sl ([.ref (ad k), .long v1, .long v3]) ++ List.replicate (5 - (lg_sl ([.ref (ad k), .long v1, .long v3])).length) Slot.unset).toArray = ls at hl ⊢
  have hl : lv_has ls 5 [(0, .ref (ad k)), (1, .long v1), (3, .long v3)] := hl
  refine lv_aload_n hx hb dX1_lesser_0 rfl (lv_at hl 0 rfl) ?_
  refine lv_lload_n hx hb dX1_lesser_1 rfl (lv_at hl 1 rfl) ?_
  refine lv_lload_n hx hb dX1_lesser_2 rfl (lv_at hl 2 rfl) ?_
  refine vp_callSi (W.runV (As := [.long v1, .long v3]) (rest := []) ⟨hx, hb, hml, hown, hts⟩ (ct_X1_compared l ad k hk_k v1 v3) (cwV 2 hts gX1_lesser_X1_compared rfl rfl rfl (by decide +kernel) ⟨Nat.le_of_ble_eq_true rfl, Nat.le_of_ble_eq_true rfl⟩) ⟨(fun a U g mk q => ⟨q.1, kw_blind q.2⟩), kw_recv hW hS hk_k, fun U hU hW9 => ⟨rfl, kw_call hW hS hU hW9⟩⟩ rfl rfl hl.1 rfl (lv_room (Nat.le_of_ble_eq_true rfl)) dX1_lesser_3 ⟨Nat.zero_le _, Nat.zero_le _⟩) (fun r er => ?_)
  subst er
  refine lv_if_gt (tgt := 13) hx hb dX1_lesser_6 (by decide) (fun c_1 => ?_) (fun c_1 => ?_)
  · refine lv_lload_n hx hb dX1_lesser_13 rfl (lv_at hl 2 rfl) ?_
    exact W.lret (v := v3) hx hb hr (fun t ht _ => ⟨_, rfl, by unfold fn_X1_lesser; rw [if_pos c_1], ht⟩) (fun _ h => by cases h) dX1_lesser_14
  · refine lv_lload_n hx hb dX1_lesser_9 rfl (lv_at hl 1 rfl) ?_
    refine lv_goto (tgt := 14) hx hb dX1_lesser_10 (by decide) ?_
    exact W.lret (v := v1) hx hb hr (fun t ht _ => ⟨_, rfl, by unfold fn_X1_lesser; rw [if_neg c_1], ht⟩) (fun _ h => by cases h) dX1_lesser_14
def fn_X1_turned (k : Nat) (v1 : Int64) (v3 : Int64) : Int64 :=
  if v3 < (0 : Int64) then
    if (kF k) = 0 then
      fn_X1_fitted k (-(fn_X1_sized k v1))
    else
      (fn_X1_sized k v1) ||| (kS k)
  else
    fn_X1_sized k v1
set_option maxHeartbeats 4000000 in
set_option maxRecDepth 100000 in
theorem ct_X1_turned (l : Launch) (ad : Nat → Nat) (k : Nat) (hk_k : k < 4) (v1 : Int64) (v3 : Int64) : Met l yX1_turned wsX1_turned ({ frames := 2, cells := 0, slots := 0, locals := 45 } : Room) (va_Pc [.ref (ad k), .long v1, .long v3] (fun U => kw ad (fun _ => False) U U.heap)) (vp_Sl (fun r => r = fn_X1_turned k v1 v3)) 0 0 (fun _ => False) := by
  refine Met.ofW (cc := cX1_turned) (maxL := 7) (ret := (some .long)) (by decide) rfl ?_
  intro p e s m args below meth c s₁ B hml hv
  obtain ⟨rfl, hW⟩ := hv
  have hx := B.exec
  have hb := B.bytes
  have hr := B.returns
  have hlocks := B.notSynchronized
  have hts := atoms_spec (ws := wsX1_turned) B.pre
  have hown : s.vm.findClass RX1 = some m.cls := findClass_of_methodNamed B.named
  have hS : va_S (fun _ => False) s.heap s.heap [] := va_S.rf
  have hl := lv_entry ([.ref (ad k), .long v1, .long v3]) (n := 7) (Nat.le_of_ble_eq_true rfl)
  rw [lg_entry_eq]
  generalize (lg_sl ([.ref (ad k), .long v1, .long v3]) ++ List.replicate (7 - (lg_sl ([.ref (ad k), .long v1, .long v3])).length) Slot.unset).toArray = ls at hl ⊢
  have hl : lv_has ls 7 [(0, .ref (ad k)), (1, .long v1), (3, .long v3)] := hl
  refine lv_aload_n hx hb dX1_turned_0 rfl (lv_at hl 0 rfl) ?_
  refine lv_lload_n hx hb dX1_turned_1 rfl (lv_at hl 1 rfl) ?_
  refine vp_callSl (W.runV (As := [.long v1]) (rest := []) ⟨hx, hb, hml, hown, hts⟩ (ct_X1_sized l ad k hk_k v1) (cwV 1 hts gX1_turned_X1_sized rfl rfl rfl (by decide +kernel) ⟨Nat.le_of_ble_eq_true rfl, Nat.le_of_ble_eq_true rfl⟩) ⟨(fun a U g mk q => ⟨q.1, kw_blind q.2⟩), kw_recv hW hS hk_k, fun U hU hW9 => ⟨rfl, kw_call hW hS hU hW9⟩⟩ rfl rfl hl.1 rfl (lv_room (Nat.le_of_ble_eq_true rfl)) dX1_turned_2 ⟨Nat.zero_le _, Nat.zero_le _⟩) (fun r er => ?_)
  subst er
  refine lv_lstore (lv' := [(5, .long (fn_X1_sized k v1)), (0, .ref (ad k)), (1, .long v1), (3, .long v3)]) hx hb dX1_turned_5 hl (by decide) rfl (fun ls hl => ?_)
  refine lv_lload_n hx hb dX1_turned_7 rfl (lv_at hl 3 rfl) ?_
  refine lv_lconst (v := (0 : Int64)) hx hb dX1_turned_8 (by decide) ?_
  refine zl_lt (tgt := 16) hx hb dX1_turned_9 dX1_turned_10 (by decide) (fun c_1 => ?_) (fun c_1 => ?_)
  · refine lv_aload_n hx hb dX1_turned_16 rfl (lv_at hl 1 rfl) ?_
    refine kg_floating hx hb hW hk_k hS hown (hts (.fieldLink RX1 39 "ServoDesk$Kind" "floating" "Z") (by decide +kernel)) dX1_turned_17 ?_
    refine lv_if_eq (tgt := 33) hx hb dX1_turned_20 (by decide) (fun c_2 => ?_) (fun c_2 => ?_)
    · refine lv_aload_n hx hb dX1_turned_33 rfl (lv_at hl 1 rfl) ?_
      refine lv_lload hx hb dX1_turned_34 (lv_at hl 0 rfl) ?_
      refine lv_lneg hx hb dX1_turned_36 ?_
      refine vp_callSl (W.runV (As := [.long (-(fn_X1_sized k v1))]) (rest := []) ⟨hx, hb, hml, hown, hts⟩ (ct_X1_fitted l ad k hk_k (-(fn_X1_sized k v1))) (cwV 1 hts gX1_turned_X1_fitted rfl rfl rfl (by decide +kernel) ⟨Nat.le_of_ble_eq_true rfl, Nat.le_of_ble_eq_true rfl⟩) ⟨(fun a U g mk q => ⟨q.1, kw_blind q.2⟩), kw_recv hW hS hk_k, fun U hU hW9 => ⟨rfl, kw_call hW hS hU hW9⟩⟩ rfl rfl hl.1 rfl (lv_room (Nat.le_of_ble_eq_true rfl)) dX1_turned_37 ⟨Nat.zero_le _, Nat.zero_le _⟩) (fun r er => ?_)
      subst er
      exact W.lret (v := fn_X1_fitted k (-(fn_X1_sized k v1))) hx hb hr (fun t ht _ => ⟨_, rfl, by unfold fn_X1_turned; rw [if_pos c_1, if_pos c_2], ht⟩) (fun _ h => by cases h) dX1_turned_40
    · refine lv_lload hx hb dX1_turned_23 (lv_at hl 0 rfl) ?_
      refine lv_aload_n hx hb dX1_turned_25 rfl (lv_at hl 1 rfl) ?_
      refine kg_sign hx hb hW hk_k hS hown (hts (.fieldLink RX1 51 "ServoDesk$Kind" "sign" "J") (by decide +kernel)) dX1_turned_26 ?_
      refine lv_lor hx hb dX1_turned_29 ?_
      refine lv_goto (tgt := 40) hx hb dX1_turned_30 (by decide) ?_
      exact W.lret (v := (fn_X1_sized k v1) ||| (kS k)) hx hb hr (fun t ht _ => ⟨_, rfl, by unfold fn_X1_turned; rw [if_pos c_1, if_neg c_2], ht⟩) (fun _ h => by cases h) dX1_turned_40
  · refine lv_lload hx hb dX1_turned_13 (lv_at hl 0 rfl) ?_
    exact W.lret (v := fn_X1_sized k v1) hx hb hr (fun t ht _ => ⟨_, rfl, by unfold fn_X1_turned; rw [if_neg c_1], ht⟩) (fun _ h => by cases h) dX1_turned_15
def fn_X1_zeroBeside (k : Nat) (v1 : Int64) : Int64 :=
  fn_X1_turned k (0 : Int64) v1
set_option maxHeartbeats 4000000 in
set_option maxRecDepth 100000 in
theorem ct_X1_zeroBeside (l : Launch) (ad : Nat → Nat) (k : Nat) (hk_k : k < 4) (v1 : Int64) : Met l yX1_zeroBeside wsX1_zeroBeside ({ frames := 3, cells := 0, slots := 0, locals := 71 } : Room) (va_Pc [.ref (ad k), .long v1] (fun U => kw ad (fun _ => False) U U.heap)) (vp_Sl (fun r => r = fn_X1_zeroBeside k v1)) 0 0 (fun _ => False) := by
  refine Met.ofW (cc := cX1_zeroBeside) (maxL := 3) (ret := (some .long)) (by decide) rfl ?_
  intro p e s m args below meth c s₁ B hml hv
  obtain ⟨rfl, hW⟩ := hv
  have hx := B.exec
  have hb := B.bytes
  have hr := B.returns
  have hlocks := B.notSynchronized
  have hts := atoms_spec (ws := wsX1_zeroBeside) B.pre
  have hown : s.vm.findClass RX1 = some m.cls := findClass_of_methodNamed B.named
  have hS : va_S (fun _ => False) s.heap s.heap [] := va_S.rf
  have hl := lv_entry ([.ref (ad k), .long v1]) (n := 3) (Nat.le_of_ble_eq_true rfl)
  rw [lg_entry_eq]
  generalize (lg_sl ([.ref (ad k), .long v1]) ++ List.replicate (3 - (lg_sl ([.ref (ad k), .long v1])).length) Slot.unset).toArray = ls at hl ⊢
  have hl : lv_has ls 3 [(0, .ref (ad k)), (1, .long v1)] := hl
  refine lv_aload_n hx hb dX1_zeroBeside_0 rfl (lv_at hl 0 rfl) ?_
  refine lv_lconst (v := (0 : Int64)) hx hb dX1_zeroBeside_1 (by decide) ?_
  refine lv_lload_n hx hb dX1_zeroBeside_2 rfl (lv_at hl 1 rfl) ?_
  refine vp_callSl (W.runV (As := [.long (0 : Int64), .long v1]) (rest := []) ⟨hx, hb, hml, hown, hts⟩ (ct_X1_turned l ad k hk_k (0 : Int64) v1) (cwV 2 hts gX1_zeroBeside_X1_turned rfl rfl rfl (by decide +kernel) ⟨Nat.le_of_ble_eq_true rfl, Nat.le_of_ble_eq_true rfl⟩) ⟨(fun a U g mk q => ⟨q.1, kw_blind q.2⟩), kw_recv hW hS hk_k, fun U hU hW9 => ⟨rfl, kw_call hW hS hU hW9⟩⟩ rfl rfl hl.1 rfl (lv_room (Nat.le_of_ble_eq_true rfl)) dX1_zeroBeside_3 ⟨Nat.zero_le _, Nat.zero_le _⟩) (fun r er => ?_)
  subst er
  exact W.lret (v := fn_X1_turned k (0 : Int64) v1) hx hb hr (fun t ht _ => ⟨_, rfl, rfl, ht⟩) (fun _ h => by cases h) dX1_zeroBeside_6
