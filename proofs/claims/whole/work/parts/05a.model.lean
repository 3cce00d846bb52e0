def fn_X3_isFloating (v0 : Int32) : Int32 :=
  if v0 < (2 : Int32) then
    (0 : Int32)
  else
    (1 : Int32)
set_option maxHeartbeats 4000000 in
set_option maxRecDepth 100000 in
theorem ct_X3_isFloating (l : Launch) (v0 : Int32) : Met l yX3_isFloating wsX3_isFloating ({ frames := 0, cells := 0, slots := 0, locals := 0 } : Room) (va_Pc [.int v0] (fun _ => True)) (vp_Si (fun r => r = fn_X3_isFloating v0)) 0 0 (fun _ => False) := by
  refine Met.ofW (cc := cX3_isFloating) (maxL := 1) (ret := (some .boolean)) (by decide) rfl ?_
  intro p e s m args below meth c s₁ B hml hv
  obtain ⟨rfl, hW⟩ := hv
  have hx := B.exec
  have hb := B.bytes
  have hr := B.returns
  have hlocks := B.notSynchronized
  have hts := atoms_spec (ws := wsX3_isFloating) B.pre
  have hown : s.vm.findClass RX3 = some m.cls := findClass_of_methodNamed B.named
  have hS : va_S (fun _ => False) s.heap s.heap [] := va_S.rf
  have hl := lv_entry ([.int v0]) (n := 1) (Nat.le_of_ble_eq_true rfl)
  rw [lg_entry_eq]
  generalize (lg_sl ([.int v0]) ++ List.replicate (1 - (lg_sl ([.int v0])).length) Slot.unset).toArray = ls at hl ⊢
  have hl : lv_has ls 1 [(0, .int v0)] := hl
  refine lv_iload_n hx hb dX3_isFloating_0 rfl (lv_at hl 0 rfl) ?_
  refine lv_iconst (v := (2 : Int32)) hx hb dX3_isFloating_1 (by decide) ?_
  refine lv_icmp_lt (tgt := 9) hx hb dX3_isFloating_2 (by decide) (fun c_1 => ?_) (fun c_1 => ?_)
  · refine lv_iconst (v := (0 : Int32)) hx hb dX3_isFloating_9 (by decide) ?_
    exact W.zret (v := (0 : Int32)) (ty := .boolean) hx hb hr (by decide) (fun t ht _ => ⟨_, rfl, by unfold fn_X3_isFloating; rw [if_pos c_1], ht⟩) (fun _ h => by cases h) dX3_isFloating_10
  · refine lv_iconst (v := (1 : Int32)) hx hb dX3_isFloating_5 (by decide) ?_
    refine lv_goto (tgt := 10) hx hb dX3_isFloating_6 (by decide) ?_
    exact W.zret (v := (1 : Int32)) (ty := .boolean) hx hb hr (by decide) (fun t ht _ => ⟨_, rfl, by unfold fn_X3_isFloating; rw [if_neg c_1], ht⟩) (fun _ h => by cases h) dX3_isFloating_10
def fn_X3_fractionOf (v0 : Int32) : Int32 :=
  if v0 = (2 : Int32) then
    (23 : Int32)
  else
    (52 : Int32)
set_option maxHeartbeats 4000000 in
set_option maxRecDepth 100000 in
theorem ct_X3_fractionOf (l : Launch) (v0 : Int32) : Met l yX3_fractionOf wsX3_fractionOf ({ frames := 0, cells := 0, slots := 0, locals := 0 } : Room) (va_Pc [.int v0] (fun _ => True)) (vp_Si (fun r => r = fn_X3_fractionOf v0)) 0 0 (fun _ => False) := by
  refine Met.ofW (cc := cX3_fractionOf) (maxL := 1) (ret := (some .int)) (by decide) rfl ?_
  intro p e s m args below meth c s₁ B hml hv
  obtain ⟨rfl, hW⟩ := hv
  have hx := B.exec
  have hb := B.bytes
  have hr := B.returns
  have hlocks := B.notSynchronized
  have hts := atoms_spec (ws := wsX3_fractionOf) B.pre
  have hown : s.vm.findClass RX3 = some m.cls := findClass_of_methodNamed B.named
  have hS : va_S (fun _ => False) s.heap s.heap [] := va_S.rf
  have hl := lv_entry ([.int v0]) (n := 1) (Nat.le_of_ble_eq_true rfl)
  rw [lg_entry_eq]
  generalize (lg_sl ([.int v0]) ++ List.replicate (1 - (lg_sl ([.int v0])).length) Slot.unset).toArray = ls at hl ⊢
  have hl : lv_has ls 1 [(0, .int v0)] := hl
  refine lv_iload_n hx hb dX3_fractionOf_0 rfl (lv_at hl 0 rfl) ?_
  refine lv_iconst (v := (2 : Int32)) hx hb dX3_fractionOf_1 (by decide) ?_
  refine lv_icmp_ne (tgt := 10) hx hb dX3_fractionOf_2 (by decide) (fun c_1 => ?_) (fun c_1 => ?_)
  · refine lv_bipush (v := (52 : Int32)) hx hb dX3_fractionOf_10 (by decide) ?_
    exact W.iret (v := (52 : Int32)) hx hb hr (fun t ht _ => ⟨_, rfl, by unfold fn_X3_fractionOf; rw [if_neg c_1], ht⟩) (fun _ h => by cases h) dX3_fractionOf_12
  · refine lv_bipush (v := (23 : Int32)) hx hb dX3_fractionOf_5 (by decide) ?_
    refine lv_goto (tgt := 12) hx hb dX3_fractionOf_7 (by decide) ?_
    exact W.iret (v := (23 : Int32)) hx hb hr (fun t ht _ => ⟨_, rfl, by unfold fn_X3_fractionOf; rw [if_pos c_1], ht⟩) (fun _ h => by cases h) dX3_fractionOf_12
def fn_X3_endless (v0 : Int32) : Int64 :=
  if v0 = (2 : Int32) then
    (2139095040 : Int64)
  else
    (9218868437227405312 : Int64)
set_option maxHeartbeats 4000000 in
set_option maxRecDepth 100000 in
theorem ct_X3_endless (l : Launch) (v0 : Int32) : Met l yX3_endless wsX3_endless ({ frames := 0, cells := 0, slots := 0, locals := 0 } : Room) (va_Pc [.int v0] (fun _ => True)) (vp_Sl (fun r => r = fn_X3_endless v0)) 0 0 (fun _ => False) := by
  refine Met.ofW (cc := cX3_endless) (maxL := 1) (ret := (some .long)) (by decide) rfl ?_
  intro p e s m args below meth c s₁ B hml hv
  obtain ⟨rfl, hW⟩ := hv
  have hx := B.exec
  have hb := B.bytes
  have hr := B.returns
  have hlocks := B.notSynchronized
  have hts := atoms_spec (ws := wsX3_endless) B.pre
  have hown : s.vm.findClass RX3 = some m.cls := findClass_of_methodNamed B.named
  have hS : va_S (fun _ => False) s.heap s.heap [] := va_S.rf
  have hl := lv_entry ([.int v0]) (n := 1) (Nat.le_of_ble_eq_true rfl)
  rw [lg_entry_eq]
  generalize (lg_sl ([.int v0]) ++ List.replicate (1 - (lg_sl ([.int v0])).length) Slot.unset).toArray = ls at hl ⊢
  have hl : lv_has ls 1 [(0, .int v0)] := hl
  refine lv_iload_n hx hb dX3_endless_0 rfl (lv_at hl 0 rfl) ?_
  refine lv_iconst (v := (2 : Int32)) hx hb dX3_endless_1 (by decide) ?_
  refine lv_icmp_ne (tgt := 11) hx hb dX3_endless_2 (by decide) (fun c_1 => ?_) (fun c_1 => ?_)
  · refine lv_ldc2 (v := (9218868437227405312 : Int64)) hx hb hown (hts (.constantLong RX3 23 (9218868437227405312)) (by decide +kernel)) dX3_endless_11 ?_
    exact W.lret (v := (9218868437227405312 : Int64)) hx hb hr (fun t ht _ => ⟨_, rfl, by unfold fn_X3_endless; rw [if_neg c_1], ht⟩) (fun _ h => by cases h) dX3_endless_14
  · refine lv_ldc2 (v := (2139095040 : Int64)) hx hb hown (hts (.constantLong RX3 21 (2139095040)) (by decide +kernel)) dX3_endless_5 ?_
    refine lv_goto (tgt := 14) hx hb dX3_endless_8 (by decide) ?_
    exact W.lret (v := (2139095040 : Int64)) hx hb hr (fun t ht _ => ⟨_, rfl, by unfold fn_X3_endless; rw [if_pos c_1], ht⟩) (fun _ h => by cases h) dX3_endless_14
def fn_X3_size (v0 : Int32) (v1 : Int64) : Int64 :=
  if v0 = (2 : Int32) then
    v1 &&& (2147483647 : Int64)
  else
    v1 &&& (9223372036854775807 : Int64)
set_option maxHeartbeats 4000000 in
set_option maxRecDepth 100000 in
theorem ct_X3_size (l : Launch) (v0 : Int32) (v1 : Int64) : Met l yX3_size wsX3_size ({ frames := 0, cells := 0, slots := 0, locals := 0 } : Room) (va_Pc [.int v0, .long v1] (fun _ => True)) (vp_Sl (fun r => r = fn_X3_size v0 v1)) 0 0 (fun _ => False) := by
  refine Met.ofW (cc := cX3_size) (maxL := 3) (ret := (some .long)) (by decide) rfl ?_
  intro p e s m args below meth c s₁ B hml hv
  obtain ⟨rfl, hW⟩ := hv
  have hx := B.exec
  have hb := B.bytes
  have hr := B.returns
  have hlocks := B.notSynchronized
  have hts := atoms_spec (ws := wsX3_size) B.pre
  have hown : s.vm.findClass RX3 = some m.cls := findClass_of_methodNamed B.named
  have hS : va_S (fun _ => False) s.heap s.heap [] := va_S.rf
  have hl := lv_entry ([.int v0, .long v1]) (n := 3) (Nat.le_of_ble_eq_true rfl)
  rw [lg_entry_eq]
  generalize (lg_sl ([.int v0, .long v1]) ++ List.replicate (3 - (lg_sl ([.int v0, .long v1])).length) Slot.unset).toArray = ls at hl ⊢
  have hl : lv_has ls 3 [(0, .int v0), (1, .long v1)] := hl
  refine lv_iload_n hx hb dX3_size_0 rfl (lv_at hl 0 rfl) ?_
  refine lv_iconst (v := (2 : Int32)) hx hb dX3_size_1 (by decide) ?_
  refine lv_icmp_ne (tgt := 13) hx hb dX3_size_2 (by decide) (fun c_1 => ?_) (fun c_1 => ?_)
  · refine lv_lload_n hx hb dX3_size_13 rfl (lv_at hl 1 rfl) ?_
    refine lv_ldc2 (v := (9223372036854775807 : Int64)) hx hb hown (hts (.constantLong RX3 27 (9223372036854775807)) (by decide +kernel)) dX3_size_14 ?_
    refine lv_land hx hb dX3_size_17 ?_
    exact W.lret (v := v1 &&& (9223372036854775807 : Int64)) hx hb hr (fun t ht _ => ⟨_, rfl, by unfold fn_X3_size; rw [if_neg c_1], ht⟩) (fun _ h => by cases h) dX3_size_18
  · refine lv_lload_n hx hb dX3_size_5 rfl (lv_at hl 1 rfl) ?_
    refine lv_ldc2 (v := (2147483647 : Int64)) hx hb hown (hts (.constantLong RX3 25 (2147483647)) (by decide +kernel)) dX3_size_6 ?_
    refine lv_land hx hb dX3_size_9 ?_
    refine lv_goto (tgt := 18) hx hb dX3_size_10 (by decide) ?_
    exact W.lret (v := v1 &&& (2147483647 : Int64)) hx hb hr (fun t ht _ => ⟨_, rfl, by unfold fn_X3_size; rw [if_pos c_1], ht⟩) (fun _ h => by cases h) dX3_size_18
def fn_X3_signed (v0 : Int32) (v1 : Int64) (v3 : Int32) : Int64 :=
  if v0 = (2 : Int32) then
    if v3 = 0 then
      v1
    else
      Int32.toInt64 (Int64.toInt32 (v1 ||| (2147483648 : Int64)))
  else
    if v3 = 0 then
      v1
    else
      v1 ||| (-9223372036854775808 : Int64)
set_option maxHeartbeats 4000000 in
set_option maxRecDepth 100000 in
theorem ct_X3_signed (l : Launch) (v0 : Int32) (v1 : Int64) (v3 : Int32) : Met l yX3_signed wsX3_signed ({ frames := 0, cells := 0, slots := 0, locals := 0 } : Room) (va_Pc [.int v0, .long v1, .int v3] (fun _ => True)) (vp_Sl (fun r => r = fn_X3_signed v0 v1 v3)) 0 0 (fun _ => False) := by
  refine Met.ofW (cc := cX3_signed) (maxL := 4) (ret := (some .long)) (by decide) rfl ?_
  intro p e s m args below meth c s₁ B hml hv
  obtain ⟨rfl, hW⟩ := hv
  have hx := B.exec
  have hb := B.bytes
  have hr := B.returns
  have hlocks := B.notSynchronized
  have hts := atoms_spec (ws := wsX3_signed) B.pre
  have hown : s.vm.findClass RX3 = some m.cls := findClass_of_methodNamed B.named
  have hS : va_S (fun _ => False) s.heap s.heap [] := va_S.rf
  have hl := lv_entry ([.int v0, .long v1, .int v3]) (n := 4) (Nat.le_of_ble_eq_true rfl)
  rw [lg_entry_eq]
  generalize (lg_sl ([.int v0, .long v1, .int v3]) ++ List.replicate (4 - (lg_sl ([.int v0, .long v1, .int v3])).length) Slot.unset).toArray = ls at hl ⊢
  have hl : lv_has ls 4 [(0, .int v0), (1, .long v1), (3, .int v3)] := hl
  refine lv_iload_n hx hb dX3_signed_0 rfl (lv_at hl 0 rfl) ?_
  refine lv_iconst (v := (2 : Int32)) hx hb dX3_signed_1 (by decide) ?_
  refine lv_icmp_ne (tgt := 21) hx hb dX3_signed_2 (by decide) (fun c_1 => ?_) (fun c_1 => ?_)
  · refine lv_iload_n hx hb dX3_signed_21 rfl (lv_at hl 2 rfl) ?_
    refine lv_if_eq (tgt := 33) hx hb dX3_signed_22 (by decide) (fun c_2 => ?_) (fun c_2 => ?_)
    · refine lv_lload_n hx hb dX3_signed_33 rfl (lv_at hl 1 rfl) ?_
      exact W.lret (v := v1) hx hb hr (fun t ht _ => ⟨_, rfl, by unfold fn_X3_signed; rw [if_neg c_1, if_pos c_2], ht⟩) (fun _ h => by cases h) dX3_signed_34
    · refine lv_lload_n hx hb dX3_signed_25 rfl (lv_at hl 1 rfl) ?_
      refine lv_ldc2 (v := (-9223372036854775808 : Int64)) hx hb hown (hts (.constantLong RX3 31 (-9223372036854775808)) (by decide +kernel)) dX3_signed_26 ?_
      refine lv_lor hx hb dX3_signed_29 ?_
      refine lv_goto (tgt := 34) hx hb dX3_signed_30 (by decide) ?_
      exact W.lret (v := v1 ||| (-9223372036854775808 : Int64)) hx hb hr (fun t ht _ => ⟨_, rfl, by unfold fn_X3_signed; rw [if_neg c_1, if_neg c_2], ht⟩) (fun _ h => by cases h) dX3_signed_34
  · refine lv_iload_n hx hb dX3_signed_5 rfl (lv_at hl 2 rfl) ?_
    refine lv_if_eq (tgt := 19) hx hb dX3_signed_6 (by decide) (fun c_3 => ?_) (fun c_3 => ?_)
    · refine lv_lload_n hx hb dX3_signed_19 rfl (lv_at hl 1 rfl) ?_
      exact W.lret (v := v1) hx hb hr (fun t ht _ => ⟨_, rfl, by unfold fn_X3_signed; rw [if_pos c_1, if_pos c_3], ht⟩) (fun _ h => by cases h) dX3_signed_20
    · refine lv_lload_n hx hb dX3_signed_9 rfl (lv_at hl 1 rfl) ?_
      refine lv_ldc2 (v := (2147483648 : Int64)) hx hb hown (hts (.constantLong RX3 29 (2147483648)) (by decide +kernel)) dX3_signed_10 ?_
      refine lv_lor hx hb dX3_signed_13 ?_
      refine lv_l2i hx hb dX3_signed_14 rfl ?_
      refine lv_i2l hx hb dX3_signed_15 rfl ?_
      refine lv_goto (tgt := 20) hx hb dX3_signed_16 (by decide) ?_
      exact W.lret (v := Int32.toInt64 (Int64.toInt32 (v1 ||| (2147483648 : Int64)))) hx hb hr (fun t ht _ => ⟨_, rfl, by unfold fn_X3_signed; rw [if_pos c_1, if_neg c_3], ht⟩) (fun _ h => by cases h) dX3_signed_20
def fn_X3_one (v0 : Int32) : Int64 :=
  if v0 = (2 : Int32) then
    (1065353216 : Int64)
  else
    (4607182418800017408 : Int64)
set_option maxHeartbeats 4000000 in
set_option maxRecDepth 100000 in
theorem ct_X3_one (l : Launch) (v0 : Int32) : Met l yX3_one wsX3_one ({ frames := 0, cells := 0, slots := 0, locals := 0 } : Room) (va_Pc [.int v0] (fun _ => True)) (vp_Sl (fun r => r = fn_X3_one v0)) 0 0 (fun _ => False) := by
  refine Met.ofW (cc := cX3_one) (maxL := 1) (ret := (some .long)) (by decide) rfl ?_
  intro p e s m args below meth c s₁ B hml hv
  obtain ⟨rfl, hW⟩ := hv
  have hx := B.exec
  have hb := B.bytes
  have hr := B.returns
  have hlocks := B.notSynchronized
  have hts := atoms_spec (ws := wsX3_one) B.pre
  have hown : s.vm.findClass RX3 = some m.cls := findClass_of_methodNamed B.named
  have hS : va_S (fun _ => False) s.heap s.heap [] := va_S.rf
  have hl := lv_entry ([.int v0]) (n := 1) (Nat.le_of_ble_eq_true rfl)
  rw [lg_entry_eq]
  generalize (lg_sl ([.int v0]) ++ List.replicate (1 - (lg_sl ([.int v0])).length) Slot.unset).toArray = ls at hl ⊢
  have hl : lv_has ls 1 [(0, .int v0)] := hl
  refine lv_iload_n hx hb dX3_one_0 rfl (lv_at hl 0 rfl) ?_
  refine lv_iconst (v := (2 : Int32)) hx hb dX3_one_1 (by decide) ?_
  refine lv_icmp_ne (tgt := 11) hx hb dX3_one_2 (by decide) (fun c_1 => ?_) (fun c_1 => ?_)
  · refine lv_ldc2 (v := (4607182418800017408 : Int64)) hx hb hown (hts (.constantLong RX3 35 (4607182418800017408)) (by decide +kernel)) dX3_one_11 ?_
    exact W.lret (v := (4607182418800017408 : Int64)) hx hb hr (fun t ht _ => ⟨_, rfl, by unfold fn_X3_one; rw [if_neg c_1], ht⟩) (fun _ h => by cases h) dX3_one_14
  · refine lv_ldc2 (v := (1065353216 : Int64)) hx hb hown (hts (.constantLong RX3 33 (1065353216)) (by decide +kernel)) dX3_one_5 ?_
    refine lv_goto (tgt := 14) hx hb dX3_one_8 (by decide) ?_
    exact W.lret (v := (1065353216 : Int64)) hx hb hr (fun t ht _ => ⟨_, rfl, by unfold fn_X3_one; rw [if_pos c_1], ht⟩) (fun _ h => by cases h) dX3_one_14
def fn_X3_rank (v0 : Int32) (v1 : Int64) : Int64 :=
  if (fn_X3_isFloating v0) = 0 then
    v1
  else
    if (0 : Int64) ≤ v1 then
      v1
    else
      (-1 : Int64) - (fn_X3_size v0 v1)
set_option maxHeartbeats 4000000 in
set_option maxRecDepth 100000 in
theorem ct_X3_rank (l : Launch) (v0 : Int32) (v1 : Int64) : Met l yX3_rank wsX3_rank ({ frames := 1, cells := 0, slots := 0, locals := 22 } : Room) (va_Pc [.int v0, .long v1] (fun _ => True)) (vp_Sl (fun r => r = fn_X3_rank v0 v1)) 0 0 (fun _ => False) := by
  refine Met.ofW (cc := cX3_rank) (maxL := 3) (ret := (some .long)) (by decide) rfl ?_
  intro p e s m args below meth c s₁ B hml hv
  obtain ⟨rfl, hW⟩ := hv
  have hx := B.exec
  have hb := B.bytes
  have hr := B.returns
  have hlocks := B.notSynchronized
  have hts := atoms_spec (ws := wsX3_rank) B.pre
  have hown : s.vm.findClass RX3 = some m.cls := findClass_of_methodNamed B.named
  have hS : va_S (fun _ => False) s.heap s.heap [] := va_S.rf
  have hl := lv_entry ([.int v0, .long v1]) (n := 3) (Nat.le_of_ble_eq_true rfl)
  rw [lg_entry_eq]
  generalize (lg_sl ([.int v0, .long v1]) ++ List.replicate (3 - (lg_sl ([.int v0, .long v1])).length) Slot.unset).toArray = ls at hl ⊢
  have hl : lv_has ls 3 [(0, .int v0), (1, .long v1)] := hl
  refine lv_iload_n hx hb dX3_rank_0 rfl (lv_at hl 0 rfl) ?_
  refine vp_callSi (W.runS (As := [.int v0]) (rest := []) ⟨hx, hb, hml, hown, hts⟩ (ct_X3_isFloating l v0) (va_cwS 1 hts gX3_rank_X3_isFloating rfl rfl rfl (by decide +kernel) ⟨Nat.le_of_ble_eq_true rfl, Nat.le_of_ble_eq_true rfl⟩) ⟨(fun a U g mk q => ⟨q.1, trivial⟩), fun U hU hW9 => ⟨rfl, trivial⟩⟩ rfl rfl hl.1 rfl (lv_room (Nat.le_of_ble_eq_true rfl)) dX3_rank_1 ⟨Nat.zero_le _, Nat.zero_le _⟩) (fun r er => ?_)
  subst er
  refine lv_if_eq (tgt := 25) hx hb dX3_rank_4 (by decide) (fun c_1 => ?_) (fun c_1 => ?_)
  · refine lv_lload_n hx hb dX3_rank_25 rfl (lv_at hl 1 rfl) ?_
    exact W.lret (v := v1) hx hb hr (fun t ht _ => ⟨_, rfl, by unfold fn_X3_rank; rw [if_pos c_1], ht⟩) (fun _ h => by cases h) dX3_rank_26
  · refine lv_lload_n hx hb dX3_rank_7 rfl (lv_at hl 1 rfl) ?_
    refine lv_lconst (v := (0 : Int64)) hx hb dX3_rank_8 (by decide) ?_
    refine zl_ge (tgt := 25) hx hb dX3_rank_9 dX3_rank_10 (by decide) (fun c_2 => ?_) (fun c_2 => ?_)
    · refine lv_lload_n hx hb dX3_rank_25 rfl (lv_at hl 1 rfl) ?_
      exact W.lret (v := v1) hx hb hr (fun t ht _ => ⟨_, rfl, by unfold fn_X3_rank; rw [if_neg c_1, if_pos c_2], ht⟩) (fun _ h => by cases h) dX3_rank_26
    · refine lv_ldc2 (v := (-1 : Int64)) hx hb hown (hts (.constantLong RX3 41 (-1)) (by decide +kernel)) dX3_rank_13 ?_
      refine lv_iload_n hx hb dX3_rank_16 rfl (lv_at hl 0 rfl) ?_
      refine lv_lload_n hx hb dX3_rank_17 rfl (lv_at hl 1 rfl) ?_
      refine vp_callSl (W.runS (As := [.int v0, .long v1]) (rest := [.long (-1 : Int64)]) ⟨hx, hb, hml, hown, hts⟩ (ct_X3_size l v0 v1) (va_cwS 2 hts gX3_rank_X3_size rfl rfl rfl (by decide +kernel) ⟨Nat.le_of_ble_eq_true rfl, Nat.le_of_ble_eq_true rfl⟩) ⟨(fun a U g mk q => ⟨q.1, trivial⟩), fun U hU hW9 => ⟨rfl, trivial⟩⟩ rfl rfl hl.1 rfl (lv_room (Nat.le_of_ble_eq_true rfl)) dX3_rank_18 ⟨Nat.zero_le _, Nat.zero_le _⟩) (fun r er => ?_)
      subst er
      refine lv_lsub hx hb dX3_rank_21 ?_
      refine lv_goto (tgt := 26) hx hb dX3_rank_22 (by decide) ?_
      exact W.lret (v := (-1 : Int64) - (fn_X3_size v0 v1)) hx hb hr (fun t ht _ => ⟨_, rfl, by unfold fn_X3_rank; rw [if_neg c_1, if_neg c_2], ht⟩) (fun _ h => by cases h) dX3_rank_26
def fn_X3_isLess (v0 : Int32) (v1 : Int64) (v3 : Int64) : Int32 :=
  if (fn_X3_rank v0 v3) ≤ (fn_X3_rank v0 v1) then
    (0 : Int32)
  else
    (1 : Int32)
set_option maxHeartbeats 4000000 in
set_option maxRecDepth 100000 in
theorem ct_X3_isLess (l : Launch) (v0 : Int32) (v1 : Int64) (v3 : Int64) : Met l yX3_isLess wsX3_isLess ({ frames := 2, cells := 0, slots := 0, locals := 44 } : Room) (va_Pc [.int v0, .long v1, .long v3] (fun _ => True)) (vp_Si (fun r => r = fn_X3_isLess v0 v1 v3)) 0 0 (fun _ => False) := by
  refine Met.ofW (cc := cX3_isLess) (maxL := 5) (ret := (some .boolean)) (by decide) rfl ?_
  intro p e s m args below meth c s₁ B hml hv
  obtain ⟨rfl, hW⟩ := hv
  have hx := B.exec
  have hb := B.bytes
  have hr := B.returns
  have hlocks := B.notSynchronized
  have hts := atoms_spec (ws := wsX3_isLess) B.pre
  have hown : s.vm.findClass RX3 = some m.cls := findClass_of_methodNamed B.named
  have hS : va_S (fun _ => False) s.heap s.heap [] := va_S.rf
  have hl := lv_entry ([.int v0, .long v1, .long v3]) (n := 5) (Nat.le_of_ble_eq_true rfl)
  rw [lg_entry_eq]
  generalize (lg_sl ([.int v0, .long v1, .long v3]) ++ List.replicate (5 - (lg_sl ([.int v0, .long v1, .long v3])).length) Slot.unset).toArray = ls at hl ⊢
  have hl : lv_has ls 5 [(0, .int v0), (1, .long v1), (3, .long v3)] := hl
  refine lv_iload_n hx hb dX3_isLess_0 rfl (lv_at hl 0 rfl) ?_
  refine lv_lload_n hx hb dX3_isLess_1 rfl (lv_at hl 1 rfl) ?_
  refine vp_callSl (W.runS (As := [.int v0, .long v1]) (rest := []) ⟨hx, hb, hml, hown, hts⟩ (ct_X3_rank l v0 v1) (va_cwS 2 hts gX3_isLess_X3_rank rfl rfl rfl (by decide +kernel) ⟨Nat.le_of_ble_eq_true rfl, Nat.le_of_ble_eq_true rfl⟩) ⟨(fun a U g mk q => ⟨q.1, trivial⟩), fun U hU hW9 => ⟨rfl, trivial⟩⟩ rfl rfl hl.1 rfl (lv_room (Nat.le_of_ble_eq_true rfl)) dX3_isLess_2 ⟨Nat.zero_le _, Nat.zero_le _⟩) (fun r er => ?_)
  subst er
  refine lv_iload_n hx hb dX3_isLess_5 rfl (lv_at hl 0 rfl) ?_
  refine lv_lload_n hx hb dX3_isLess_6 rfl (lv_at hl 2 rfl) ?_
  refine vp_callSl (W.runS (As := [.int v0, .long v3]) (rest := [.long (fn_X3_rank v0 v1)]) ⟨hx, hb, hml, hown, hts⟩ (ct_X3_rank l v0 v3) (va_cwS 2 hts gX3_isLess_X3_rank rfl rfl rfl (by decide +kernel) ⟨Nat.le_of_ble_eq_true rfl, Nat.le_of_ble_eq_true rfl⟩) ⟨(fun a U g mk q => ⟨q.1, trivial⟩), fun U hU hW9 => ⟨rfl, trivial⟩⟩ rfl rfl hl.1 rfl (lv_room (Nat.le_of_ble_eq_true rfl)) dX3_isLess_7 ⟨Nat.zero_le _, Nat.zero_le _⟩) (fun r er => ?_)
  subst er
  refine zl_ge (tgt := 18) hx hb dX3_isLess_10 dX3_isLess_11 (by decide) (fun c_1 => ?_) (fun c_1 => ?_)
  · refine lv_iconst (v := (0 : Int32)) hx hb dX3_isLess_18 (by decide) ?_
    exact W.zret (v := (0 : Int32)) (ty := .boolean) hx hb hr (by decide) (fun t ht _ => ⟨_, rfl, by unfold fn_X3_isLess; rw [if_pos c_1], ht⟩) (fun _ h => by cases h) dX3_isLess_19
  · refine lv_iconst (v := (1 : Int32)) hx hb dX3_isLess_14 (by decide) ?_
    refine lv_goto (tgt := 19) hx hb dX3_isLess_15 (by decide) ?_
    exact W.zret (v := (1 : Int32)) (ty := .boolean) hx hb hr (by decide) (fun t ht _ => ⟨_, rfl, by unfold fn_X3_isLess; rw [if_neg c_1], ht⟩) (fun _ h => by cases h) dX3_isLess_19
def fn_X3_lesser (v0 : Int32) (v1 : Int64) (v3 : Int64) : Int64 :=
  if (fn_X3_isLess v0 v3 v1) = 0 then
    v1
  else
    v3
set_option maxHeartbeats 4000000 in
set_option maxRecDepth 100000 in
theorem ct_X3_lesser (l : Launch) (v0 : Int32) (v1 : Int64) (v3 : Int64) : Met l yX3_lesser wsX3_lesser ({ frames := 3, cells := 0, slots := 0, locals := 68 } : Room) (va_Pc [.int v0, .long v1, .long v3] (fun _ => True)) (vp_Sl (fun r => r = fn_X3_lesser v0 v1 v3)) 0 0 (fun _ => False) := by
  refine Met.ofW (cc := cX3_lesser) (maxL := 5) (ret := (some .long)) (by decide) rfl ?_
  intro p e s m args below meth c s₁ B hml hv
  obtain ⟨rfl, hW⟩ := hv
  have hx := B.exec
  have hb := B.bytes
  have hr := B.returns
  have hlocks := B.notSynchronized
  have hts := atoms_spec (ws := wsX3_lesser) B.pre
  have hown : s.vm.findClass RX3 = some m.cls := findClass_of_methodNamed B.named
  have hS : va_S (fun _ => False) s.heap s.heap [] := va_S.rf
  have hl := lv_entry ([.int v0, .long v1, .long v3]) (n := 5) (Nat.le_of_ble_eq_true rfl)
  rw [lg_entry_eq]
  generalize (lg_sl ([.int v0, .long v1, .long v3]) ++ List.replicate (5 - (lg_sl ([.int v0, .long v1, .long v3])).length) Slot.unset).toArray = ls at hl ⊢
  have hl : lv_has ls 5 [(0, .int v0), (1, .long v1), (3, .long v3)] := hl
  refine lv_iload_n hx hb dX3_lesser_0 rfl (lv_at hl 0 rfl) ?_
  refine lv_lload_n hx hb dX3_lesser_1 rfl (lv_at hl 2 rfl) ?_
  refine lv_lload_n hx hb dX3_lesser_2 rfl (lv_at hl 1 rfl) ?_
  refine vp_callSi (W.runS (As := [.int v0, .long v3, .long v1]) (rest := []) ⟨hx, hb, hml, hown, hts⟩ (ct_X3_isLess l v0 v3 v1) (va_cwS 3 hts gX3_lesser_X3_isLess rfl rfl rfl (by decide +kernel) ⟨Nat.le_of_ble_eq_true rfl, Nat.le_of_ble_eq_true rfl⟩) ⟨(fun a U g mk q => ⟨q.1, trivial⟩), fun U hU hW9 => ⟨rfl, trivial⟩⟩ rfl rfl hl.1 rfl (lv_room (Nat.le_of_ble_eq_true rfl)) dX3_lesser_3 ⟨Nat.zero_le _, Nat.zero_le _⟩) (fun r er => ?_)
  subst er
  refine lv_if_eq (tgt := 13) hx hb dX3_lesser_6 (by decide) (fun c_1 => ?_) (fun c_1 => ?_)
  · refine lv_lload_n hx hb dX3_lesser_13 rfl (lv_at hl 1 rfl) ?_
    exact W.lret (v := v1) hx hb hr (fun t ht _ => ⟨_, rfl, by unfold fn_X3_lesser; rw [if_pos c_1], ht⟩) (fun _ h => by cases h) dX3_lesser_14
  · refine lv_lload_n hx hb dX3_lesser_9 rfl (lv_at hl 2 rfl) ?_
    refine lv_goto (tgt := 14) hx hb dX3_lesser_10 (by decide) ?_
    exact W.lret (v := v3) hx hb hr (fun t ht _ => ⟨_, rfl, by unfold fn_X3_lesser; rw [if_neg c_1], ht⟩) (fun _ h => by cases h) dX3_lesser_14
def fn_X3_greater (v0 : Int32) (v1 : Int64) (v3 : Int64) : Int64 :=
  if (fn_X3_isLess v0 v1 v3) = 0 then
    v1
  else
    v3
set_option maxHeartbeats 4000000 in
set_option maxRecDepth 100000 in
theorem ct_X3_greater (l : Launch) (v0 : Int32) (v1 : Int64) (v3 : Int64) : Met l yX3_greater wsX3_greater ({ frames := 3, cells := 0, slots := 0, locals := 68 } : Room) (va_Pc [.int v0, .long v1, .long v3] (fun _ => True)) (vp_Sl (fun r => r = fn_X3_greater v0 v1 v3)) 0 0 (fun _ => False) := by
  refine Met.ofW (cc := cX3_greater) (maxL := 5) (ret := (some .long)) (by decide) rfl ?_
  intro p e s m args below meth c s₁ B hml hv
  obtain ⟨rfl, hW⟩ := hv
  have hx := B.exec
  have hb := B.bytes
  have hr := B.returns
  have hlocks := B.notSynchronized
  have hts := atoms_spec (ws := wsX3_greater) B.pre
  have hown : s.vm.findClass RX3 = some m.cls := findClass_of_methodNamed B.named
  have hS : va_S (fun _ => False) s.heap s.heap [] := va_S.rf
  have hl := lv_entry ([.int v0, .long v1, .long v3]) (n := 5) (Nat.le_of_ble_eq_true rfl)
  rw [lg_entry_eq]
  generalize (lg_sl ([.int v0, .long v1, .long v3]) ++ List.replicate (5 - (lg_sl ([.int v0, .long v1, .long v3])).length) Slot.unset).toArray = ls at hl ⊢
  have hl : lv_has ls 5 [(0, .int v0), (1, .long v1), (3, .long v3)] := hl
  refine lv_iload_n hx hb dX3_greater_0 rfl (lv_at hl 0 rfl) ?_
  refine lv_lload_n hx hb dX3_greater_1 rfl (lv_at hl 1 rfl) ?_
  refine lv_lload_n hx hb dX3_greater_2 rfl (lv_at hl 2 rfl) ?_
  refine vp_callSi (W.runS (As := [.int v0, .long v1, .long v3]) (rest := []) ⟨hx, hb, hml, hown, hts⟩ (ct_X3_isLess l v0 v1 v3) (va_cwS 3 hts gX3_greater_X3_isLess rfl rfl rfl (by decide +kernel) ⟨Nat.le_of_ble_eq_true rfl, Nat.le_of_ble_eq_true rfl⟩) ⟨(fun a U g mk q => ⟨q.1, trivial⟩), fun U hU hW9 => ⟨rfl, trivial⟩⟩ rfl rfl hl.1 rfl (lv_room (Nat.le_of_ble_eq_true rfl)) dX3_greater_3 ⟨Nat.zero_le _, Nat.zero_le _⟩) (fun r er => ?_)
  subst er
  refine lv_if_eq (tgt := 13) hx hb dX3_greater_6 (by decide) (fun c_1 => ?_) (fun c_1 => ?_)
  · refine lv_lload_n hx hb dX3_greater_13 rfl (lv_at hl 1 rfl) ?_
    exact W.lret (v := v1) hx hb hr (fun t ht _ => ⟨_, rfl, by unfold fn_X3_greater; rw [if_pos c_1], ht⟩) (fun _ h => by cases h) dX3_greater_14
  · refine lv_lload_n hx hb dX3_greater_9 rfl (lv_at hl 2 rfl) ?_
    refine lv_goto (tgt := 14) hx hb dX3_greater_10 (by decide) ?_
    exact W.lret (v := v3) hx hb hr (fun t ht _ => ⟨_, rfl, by unfold fn_X3_greater; rw [if_neg c_1], ht⟩) (fun _ h => by cases h) dX3_greater_14
def fn_X3_sized (v0 : Int32) (v1 : Int64) : Int64 :=
  if (fn_X3_isFloating v0) = 0 then
    if v1 < (0 : Int64) then
      if v0 = 0 then
        Int32.toInt64 (Int64.toInt32 (-v1))
      else
        -v1
    else
      v1
  else
    fn_X3_size v0 v1
set_option maxHeartbeats 4000000 in
set_option maxRecDepth 100000 in
theorem ct_X3_sized (l : Launch) (v0 : Int32) (v1 : Int64) : Met l yX3_sized wsX3_sized ({ frames := 1, cells := 0, slots := 0, locals := 22 } : Room) (va_Pc [.int v0, .long v1] (fun _ => True)) (vp_Sl (fun r => r = fn_X3_sized v0 v1)) 0 0 (fun _ => False) := by
  refine Met.ofW (cc := cX3_sized) (maxL := 3) (ret := (some .long)) (by decide) rfl ?_
  intro p e s m args below meth c s₁ B hml hv
  obtain ⟨rfl, hW⟩ := hv
  have hx := B.exec
  have hb := B.bytes
  have hr := B.returns
  have hlocks := B.notSynchronized
  have hts := atoms_spec (ws := wsX3_sized) B.pre
  have hown : s.vm.findClass RX3 = some m.cls := findClass_of_methodNamed B.named
  have hS : va_S (fun _ => False) s.heap s.heap [] := va_S.rf
  have hl := lv_entry ([.int v0, .long v1]) (n := 3) (Nat.le_of_ble_eq_true rfl)
  rw [lg_entry_eq]
  generalize (lg_sl ([.int v0, .long v1]) ++ List.replicate (3 - (lg_sl ([.int v0, .long v1])).length) Slot.unset).toArray = ls at hl ⊢
  have hl : lv_has ls 3 [(0, .int v0), (1, .long v1)] := hl
  refine lv_iload_n hx hb dX3_sized_0 rfl (lv_at hl 0 rfl) ?_
  refine vp_callSi (W.runS (As := [.int v0]) (rest := []) ⟨hx, hb, hml, hown, hts⟩ (ct_X3_isFloating l v0) (va_cwS 1 hts gX3_sized_X3_isFloating rfl rfl rfl (by decide +kernel) ⟨Nat.le_of_ble_eq_true rfl, Nat.le_of_ble_eq_true rfl⟩) ⟨(fun a U g mk q => ⟨q.1, trivial⟩), fun U hU hW9 => ⟨rfl, trivial⟩⟩ rfl rfl hl.1 rfl (lv_room (Nat.le_of_ble_eq_true rfl)) dX3_sized_1 ⟨Nat.zero_le _, Nat.zero_le _⟩) (fun r er => ?_)
  subst er
  refine lv_if_eq (tgt := 13) hx hb dX3_sized_4 (by decide) (fun c_1 => ?_) (fun c_1 => ?_)
  · refine lv_lload_n hx hb dX3_sized_13 rfl (lv_at hl 1 rfl) ?_
    refine lv_lconst (v := (0 : Int64)) hx hb dX3_sized_14 (by decide) ?_
    refine zl_lt (tgt := 23) hx hb dX3_sized_15 dX3_sized_16 (by decide) (fun c_2 => ?_) (fun c_2 => ?_)
    · refine lv_iload_n hx hb dX3_sized_23 rfl (lv_at hl 0 rfl) ?_
      refine lv_if_ne (tgt := 34) hx hb dX3_sized_24 (by decide) (fun c_3 => ?_) (fun c_3 => ?_)
      · refine lv_lload_n hx hb dX3_sized_34 rfl (lv_at hl 1 rfl) ?_
        refine lv_lneg hx hb dX3_sized_35 ?_
        exact W.lret (v := -v1) hx hb hr (fun t ht _ => ⟨_, rfl, by unfold fn_X3_sized; rw [if_pos c_1, if_pos c_2, if_neg c_3], ht⟩) (fun _ h => by cases h) dX3_sized_36
      · refine lv_lload_n hx hb dX3_sized_27 rfl (lv_at hl 1 rfl) ?_
        refine lv_lneg hx hb dX3_sized_28 ?_
        refine lv_l2i hx hb dX3_sized_29 rfl ?_
        refine lv_i2l hx hb dX3_sized_30 rfl ?_
        refine lv_goto (tgt := 36) hx hb dX3_sized_31 (by decide) ?_
        exact W.lret (v := Int32.toInt64 (Int64.toInt32 (-v1))) hx hb hr (fun t ht _ => ⟨_, rfl, by unfold fn_X3_sized; rw [if_pos c_1, if_pos c_2, if_pos c_3], ht⟩) (fun _ h => by cases h) dX3_sized_36
    · refine lv_lload_n hx hb dX3_sized_19 rfl (lv_at hl 1 rfl) ?_
      refine lv_goto (tgt := 36) hx hb dX3_sized_20 (by decide) ?_
      exact W.lret (v := v1) hx hb hr (fun t ht _ => ⟨_, rfl, by unfold fn_X3_sized; rw [if_pos c_1, if_neg c_2], ht⟩) (fun _ h => by cases h) dX3_sized_36
  · refine lv_iload_n hx hb dX3_sized_7 rfl (lv_at hl 0 rfl) ?_
    refine lv_lload_n hx hb dX3_sized_8 rfl (lv_at hl 1 rfl) ?_
    refine vp_callSl (W.runS (As := [.int v0, .long v1]) (rest := []) ⟨hx, hb, hml, hown, hts⟩ (ct_X3_size l v0 v1) (va_cwS 2 hts gX3_sized_X3_size rfl rfl rfl (by decide +kernel) ⟨Nat.le_of_ble_eq_true rfl, Nat.le_of_ble_eq_true rfl⟩) ⟨(fun a U g mk q => ⟨q.1, trivial⟩), fun U hU hW9 => ⟨rfl, trivial⟩⟩ rfl rfl hl.1 rfl (lv_room (Nat.le_of_ble_eq_true rfl)) dX3_sized_9 ⟨Nat.zero_le _, Nat.zero_le _⟩) (fun r er => ?_)
    subst er
    exact W.lret (v := fn_X3_size v0 v1) hx hb hr (fun t ht _ => ⟨_, rfl, by unfold fn_X3_sized; rw [if_neg c_1], ht⟩) (fun _ h => by cases h) dX3_sized_12
def fn_X3_wayOf (v0 : Int32) (v1 : Int64) : Int64 :=
  if (fn_X3_isFloating v0) = 0 then
    if v1 ≤ (0 : Int64) then
      if (0 : Int64) ≤ v1 then
        (0 : Int64)
      else
        (-1 : Int64)
    else
      (1 : Int64)
  else
    if (fn_X3_size v0 v1) = (0 : Int64) then
      v1
    else
      if (0 : Int64) ≤ v1 then
        fn_X3_signed v0 (fn_X3_one v0) (0 : Int32)
      else
        fn_X3_signed v0 (fn_X3_one v0) (1 : Int32)
set_option maxHeartbeats 4000000 in
set_option maxRecDepth 100000 in
theorem ct_X3_wayOf (l : Launch) (v0 : Int32) (v1 : Int64) : Met l yX3_wayOf wsX3_wayOf ({ frames := 1, cells := 0, slots := 0, locals := 23 } : Room) (va_Pc [.int v0, .long v1] (fun _ => True)) (vp_Sl (fun r => r = fn_X3_wayOf v0 v1)) 0 0 (fun _ => False) := by
  refine Met.ofW (cc := cX3_wayOf) (maxL := 3) (ret := (some .long)) (by decide) rfl ?_
  intro p e s m args below meth c s₁ B hml hv
  obtain ⟨rfl, hW⟩ := hv
  have hx := B.exec
  have hb := B.bytes
  have hr := B.returns
  have hlocks := B.notSynchronized
  have hts := atoms_spec (ws := wsX3_wayOf) B.pre
  have hown : s.vm.findClass RX3 = some m.cls := findClass_of_methodNamed B.named
  have hS : va_S (fun _ => False) s.heap s.heap [] := va_S.rf
  have hl := lv_entry ([.int v0, .long v1]) (n := 3) (Nat.le_of_ble_eq_true rfl)
  rw [lg_entry_eq]
  generalize (lg_sl ([.int v0, .long v1]) ++ List.replicate (3 - (lg_sl ([.int v0, .long v1])).length) Slot.unset).toArray = ls at hl ⊢
  have hl : lv_has ls 3 [(0, .int v0), (1, .long v1)] := hl
  refine lv_iload_n hx hb dX3_wayOf_0 rfl (lv_at hl 0 rfl) ?_
  refine vp_callSi (W.runS (As := [.int v0]) (rest := []) ⟨hx, hb, hml, hown, hts⟩ (ct_X3_isFloating l v0) (va_cwS 1 hts gX3_wayOf_X3_isFloating rfl rfl rfl (by decide +kernel) ⟨Nat.le_of_ble_eq_true rfl, Nat.le_of_ble_eq_true rfl⟩) ⟨(fun a U g mk q => ⟨q.1, trivial⟩), fun U hU hW9 => ⟨rfl, trivial⟩⟩ rfl rfl hl.1 rfl (lv_room (Nat.le_of_ble_eq_true rfl)) dX3_wayOf_1 ⟨Nat.zero_le _, Nat.zero_le _⟩) (fun r er => ?_)
  subst er
  refine lv_if_ne (tgt := 31) hx hb dX3_wayOf_4 (by decide) (fun c_1 => ?_) (fun c_1 => ?_)
  · refine lv_iload_n hx hb dX3_wayOf_31 rfl (lv_at hl 0 rfl) ?_
    refine lv_lload_n hx hb dX3_wayOf_32 rfl (lv_at hl 1 rfl) ?_
    refine vp_callSl (W.runS (As := [.int v0, .long v1]) (rest := []) ⟨hx, hb, hml, hown, hts⟩ (ct_X3_size l v0 v1) (va_cwS 2 hts gX3_wayOf_X3_size rfl rfl rfl (by decide +kernel) ⟨Nat.le_of_ble_eq_true rfl, Nat.le_of_ble_eq_true rfl⟩) ⟨(fun a U g mk q => ⟨q.1, trivial⟩), fun U hU hW9 => ⟨rfl, trivial⟩⟩ rfl rfl hl.1 rfl (lv_room (Nat.le_of_ble_eq_true rfl)) dX3_wayOf_33 ⟨Nat.zero_le _, Nat.zero_le _⟩) (fun r er => ?_)
    subst er
    refine lv_lconst (v := (0 : Int64)) hx hb dX3_wayOf_36 (by decide) ?_
    refine zl_ne (tgt := 45) hx hb dX3_wayOf_37 dX3_wayOf_38 (by decide) (fun c_2 => ?_) (fun c_2 => ?_)
    · refine lv_iload_n hx hb dX3_wayOf_45 rfl (lv_at hl 0 rfl) ?_
      refine lv_iload_n hx hb dX3_wayOf_46 rfl (lv_at hl 0 rfl) ?_
      refine vp_callSl (W.runS (As := [.int v0]) (rest := [.int v0]) ⟨hx, hb, hml, hown, hts⟩ (ct_X3_one l v0) (va_cwS 1 hts gX3_wayOf_X3_one rfl rfl rfl (by decide +kernel) ⟨Nat.le_of_ble_eq_true rfl, Nat.le_of_ble_eq_true rfl⟩) ⟨(fun a U g mk q => ⟨q.1, trivial⟩), fun U hU hW9 => ⟨rfl, trivial⟩⟩ rfl rfl hl.1 rfl (lv_room (Nat.le_of_ble_eq_true rfl)) dX3_wayOf_47 ⟨Nat.zero_le _, Nat.zero_le _⟩) (fun r er => ?_)
      subst er
      refine lv_lload_n hx hb dX3_wayOf_50 rfl (lv_at hl 1 rfl) ?_
      refine lv_lconst (v := (0 : Int64)) hx hb dX3_wayOf_51 (by decide) ?_
      refine zl_ge (tgt := 60) hx hb dX3_wayOf_52 dX3_wayOf_53 (by decide) (fun c_3 => ?_) (fun c_3 => ?_)
      · refine lv_iconst (v := (0 : Int32)) hx hb dX3_wayOf_60 (by decide) ?_
        refine vp_callSl (W.runS (As := [.int v0, .long (fn_X3_one v0), .int (0 : Int32)]) (rest := []) ⟨hx, hb, hml, hown, hts⟩ (ct_X3_signed l v0 (fn_X3_one v0) (0 : Int32)) (va_cwS 3 hts gX3_wayOf_X3_signed rfl rfl rfl (by decide +kernel) ⟨Nat.le_of_ble_eq_true rfl, Nat.le_of_ble_eq_true rfl⟩) ⟨(fun a U g mk q => ⟨q.1, trivial⟩), fun U hU hW9 => ⟨rfl, trivial⟩⟩ rfl rfl hl.1 rfl (lv_room (Nat.le_of_ble_eq_true rfl)) dX3_wayOf_61 ⟨Nat.zero_le _, Nat.zero_le _⟩) (fun r er => ?_)
        subst er
        exact W.lret (v := fn_X3_signed v0 (fn_X3_one v0) (0 : Int32)) hx hb hr (fun t ht _ => ⟨_, rfl, by unfold fn_X3_wayOf; rw [if_neg c_1, if_neg c_2, if_pos c_3], ht⟩) (fun _ h => by cases h) dX3_wayOf_64
      · refine lv_iconst (v := (1 : Int32)) hx hb dX3_wayOf_56 (by decide) ?_
        refine lv_goto (tgt := 61) hx hb dX3_wayOf_57 (by decide) ?_
        refine vp_callSl (W.runS (As := [.int v0, .long (fn_X3_one v0), .int (1 : Int32)]) (rest := []) ⟨hx, hb, hml, hown, hts⟩ (ct_X3_signed l v0 (fn_X3_one v0) (1 : Int32)) (va_cwS 3 hts gX3_wayOf_X3_signed rfl rfl rfl (by decide +kernel) ⟨Nat.le_of_ble_eq_true rfl, Nat.le_of_ble_eq_true rfl⟩) ⟨(fun a U g mk q => ⟨q.1, trivial⟩), fun U hU hW9 => ⟨rfl, trivial⟩⟩ rfl rfl hl.1 rfl (lv_room (Nat.le_of_ble_eq_true rfl)) dX3_wayOf_61 ⟨Nat.zero_le _, Nat.zero_le _⟩) (fun r er => ?_)
        subst er
        exact W.lret (v := fn_X3_signed v0 (fn_X3_one v0) (1 : Int32)) hx hb hr (fun t ht _ => ⟨_, rfl, by unfold fn_X3_wayOf; rw [if_neg c_1, if_neg c_2, if_neg c_3], ht⟩) (fun _ h => by cases h) dX3_wayOf_64
    · refine lv_lload_n hx hb dX3_wayOf_41 rfl (lv_at hl 1 rfl) ?_
      refine lv_goto (tgt := 64) hx hb dX3_wayOf_42 (by decide) ?_
      exact W.lret (v := v1) hx hb hr (fun t ht _ => ⟨_, rfl, by unfold fn_X3_wayOf; rw [if_neg c_1, if_pos c_2], ht⟩) (fun _ h => by cases h) dX3_wayOf_64
  · refine lv_lload_n hx hb dX3_wayOf_7 rfl (lv_at hl 1 rfl) ?_
    refine lv_lconst (v := (0 : Int64)) hx hb dX3_wayOf_8 (by decide) ?_
    refine zl_le (tgt := 17) hx hb dX3_wayOf_9 dX3_wayOf_10 (by decide) (fun c_4 => ?_) (fun c_4 => ?_)
    · refine lv_lload_n hx hb dX3_wayOf_17 rfl (lv_at hl 1 rfl) ?_
      refine lv_lconst (v := (0 : Int64)) hx hb dX3_wayOf_18 (by decide) ?_
      refine zl_ge (tgt := 29) hx hb dX3_wayOf_19 dX3_wayOf_20 (by decide) (fun c_5 => ?_) (fun c_5 => ?_)
      · refine lv_lconst (v := (0 : Int64)) hx hb dX3_wayOf_29 (by decide) ?_
        exact W.lret (v := (0 : Int64)) hx hb hr (fun t ht _ => ⟨_, rfl, by unfold fn_X3_wayOf; rw [if_pos c_1, if_pos c_4, if_pos c_5], ht⟩) (fun _ h => by cases h) dX3_wayOf_30
      · refine lv_ldc2 (v := (-1 : Int64)) hx hb hown (hts (.constantLong RX3 41 (-1)) (by decide +kernel)) dX3_wayOf_23 ?_
        refine lv_goto (tgt := 30) hx hb dX3_wayOf_26 (by decide) ?_
        exact W.lret (v := (-1 : Int64)) hx hb hr (fun t ht _ => ⟨_, rfl, by unfold fn_X3_wayOf; rw [if_pos c_1, if_pos c_4, if_neg c_5], ht⟩) (fun _ h => by cases h) dX3_wayOf_30
    · refine lv_lconst (v := (1 : Int64)) hx hb dX3_wayOf_13 (by decide) ?_
      refine lv_goto (tgt := 30) hx hb dX3_wayOf_14 (by decide) ?_
      exact W.lret (v := (1 : Int64)) hx hb hr (fun t ht _ => ⟨_, rfl, by unfold fn_X3_wayOf; rw [if_pos c_1, if_neg c_4], ht⟩) (fun _ h => by cases h) dX3_wayOf_30
def fn_X3_turned (v0 : Int32) (v1 : Int64) (v3 : Int64) : Int64 :=
  if (fn_X3_isFloating v0) = 0 then
    if v3 < (0 : Int64) then
      if v0 = 0 then
        Int32.toInt64 (Int64.toInt32 (-(fn_X3_sized v0 v1)))
      else
        -(fn_X3_sized v0 v1)
    else
      fn_X3_sized v0 v1
  else
    if (0 : Int64) ≤ v3 then
      fn_X3_signed v0 (fn_X3_size v0 v1) (0 : Int32)
    else
      fn_X3_signed v0 (fn_X3_size v0 v1) (1 : Int32)
set_option maxHeartbeats 4000000 in
set_option maxRecDepth 100000 in
theorem ct_X3_turned (l : Launch) (v0 : Int32) (v1 : Int64) (v3 : Int64) : Met l yX3_turned wsX3_turned ({ frames := 2, cells := 0, slots := 0, locals := 44 } : Room) (va_Pc [.int v0, .long v1, .long v3] (fun _ => True)) (vp_Sl (fun r => r = fn_X3_turned v0 v1 v3)) 0 0 (fun _ => False) := by
  refine Met.ofW (cc := cX3_turned) (maxL := 7) (ret := (some .long)) (by decide) rfl ?_
  intro p e s m args below meth c s₁ B hml hv
  obtain ⟨rfl, hW⟩ := hv
  have hx := B.exec
  have hb := B.bytes
  have hr := B.returns
  have hlocks := B.notSynchronized
  have hts := atoms_spec (ws := wsX3_turned) B.pre
  have hown : s.vm.findClass RX3 = some m.cls := findClass_of_methodNamed B.named
  have hS : va_S (fun _ => False) s.heap s.heap [] := va_S.rf
  have hl := lv_entry ([.int v0, .long v1, .long v3]) (n := 7) (Nat.le_of_ble_eq_true rfl)
  rw [lg_entry_eq]
  generalize (lg_sl ([.int v0, .long v1, .long v3]) ++ List.replicate (7 - (lg_sl ([.int v0, .long v1, .long v3])).length) Slot.unset).toArray = ls at hl ⊢
  have hl : lv_has ls 7 [(0, .int v0), (1, .long v1), (3, .long v3)] := hl
  refine lv_iload_n hx hb dX3_turned_0 rfl (lv_at hl 0 rfl) ?_
  refine vp_callSi (W.runS (As := [.int v0]) (rest := []) ⟨hx, hb, hml, hown, hts⟩ (ct_X3_isFloating l v0) (va_cwS 1 hts gX3_turned_X3_isFloating rfl rfl rfl (by decide +kernel) ⟨Nat.le_of_ble_eq_true rfl, Nat.le_of_ble_eq_true rfl⟩) ⟨(fun a U g mk q => ⟨q.1, trivial⟩), fun U hU hW9 => ⟨rfl, trivial⟩⟩ rfl rfl hl.1 rfl (lv_room (Nat.le_of_ble_eq_true rfl)) dX3_turned_1 ⟨Nat.zero_le _, Nat.zero_le _⟩) (fun r er => ?_)
  subst er
  refine lv_if_eq (tgt := 28) hx hb dX3_turned_4 (by decide) (fun c_1 => ?_) (fun c_1 => ?_)
  · refine lv_iload_n hx hb dX3_turned_28 rfl (lv_at hl 0 rfl) ?_
    refine lv_lload_n hx hb dX3_turned_29 rfl (lv_at hl 1 rfl) ?_
    refine vp_callSl (W.runS (As := [.int v0, .long v1]) (rest := []) ⟨hx, hb, hml, hown, hts⟩ (ct_X3_sized l v0 v1) (va_cwS 2 hts gX3_turned_X3_sized rfl rfl rfl (by decide +kernel) ⟨Nat.le_of_ble_eq_true rfl, Nat.le_of_ble_eq_true rfl⟩) ⟨(fun a U g mk q => ⟨q.1, trivial⟩), fun U hU hW9 => ⟨rfl, trivial⟩⟩ rfl rfl hl.1 rfl (lv_room (Nat.le_of_ble_eq_true rfl)) dX3_turned_30 ⟨Nat.zero_le _, Nat.zero_le _⟩) (fun r er => ?_)
    subst er
    refine lv_lstore (lv' := [(5, .long (fn_X3_sized v0 v1)), (0, .int v0), (1, .long v1), (3, .long v3)]) hx hb dX3_turned_33 hl (by decide) rfl (fun ls hl => ?_)
    refine lv_lload_n hx hb dX3_turned_35 rfl (lv_at hl 3 rfl) ?_
    refine lv_lconst (v := (0 : Int64)) hx hb dX3_turned_36 (by decide) ?_
    refine zl_lt (tgt := 46) hx hb dX3_turned_37 dX3_turned_38 (by decide) (fun c_2 => ?_) (fun c_2 => ?_)
    · refine lv_iload_n hx hb dX3_turned_46 rfl (lv_at hl 1 rfl) ?_
      refine lv_if_ne (tgt := 58) hx hb dX3_turned_47 (by decide) (fun c_3 => ?_) (fun c_3 => ?_)
      · refine lv_lload hx hb dX3_turned_58 (lv_at hl 0 rfl) ?_
        refine lv_lneg hx hb dX3_turned_60 ?_
        exact W.lret (v := -(fn_X3_sized v0 v1)) hx hb hr (fun t ht _ => ⟨_, rfl, by unfold fn_X3_turned; rw [if_pos c_1, if_pos c_2, if_neg c_3], ht⟩) (fun _ h => by cases h) dX3_turned_61
      · refine lv_lload hx hb dX3_turned_50 (lv_at hl 0 rfl) ?_
        refine lv_lneg hx hb dX3_turned_52 ?_
        refine lv_l2i hx hb dX3_turned_53 rfl ?_
        refine lv_i2l hx hb dX3_turned_54 rfl ?_
        refine lv_goto (tgt := 61) hx hb dX3_turned_55 (by decide) ?_
        exact W.lret (v := Int32.toInt64 (Int64.toInt32 (-(fn_X3_sized v0 v1)))) hx hb hr (fun t ht _ => ⟨_, rfl, by unfold fn_X3_turned; rw [if_pos c_1, if_pos c_2, if_pos c_3], ht⟩) (fun _ h => by cases h) dX3_turned_61
    · refine lv_lload hx hb dX3_turned_41 (lv_at hl 0 rfl) ?_
      refine lv_goto (tgt := 61) hx hb dX3_turned_43 (by decide) ?_
      exact W.lret (v := fn_X3_sized v0 v1) hx hb hr (fun t ht _ => ⟨_, rfl, by unfold fn_X3_turned; rw [if_pos c_1, if_neg c_2], ht⟩) (fun _ h => by cases h) dX3_turned_61
  · refine lv_iload_n hx hb dX3_turned_7 rfl (lv_at hl 0 rfl) ?_
    refine lv_iload_n hx hb dX3_turned_8 rfl (lv_at hl 0 rfl) ?_
    refine lv_lload_n hx hb dX3_turned_9 rfl (lv_at hl 1 rfl) ?_
    refine vp_callSl (W.runS (As := [.int v0, .long v1]) (rest := [.int v0]) ⟨hx, hb, hml, hown, hts⟩ (ct_X3_size l v0 v1) (va_cwS 2 hts gX3_turned_X3_size rfl rfl rfl (by decide +kernel) ⟨Nat.le_of_ble_eq_true rfl, Nat.le_of_ble_eq_true rfl⟩) ⟨(fun a U g mk q => ⟨q.1, trivial⟩), fun U hU hW9 => ⟨rfl, trivial⟩⟩ rfl rfl hl.1 rfl (lv_room (Nat.le_of_ble_eq_true rfl)) dX3_turned_10 ⟨Nat.zero_le _, Nat.zero_le _⟩) (fun r er => ?_)
    subst er
    refine lv_lload_n hx hb dX3_turned_13 rfl (lv_at hl 2 rfl) ?_
    refine lv_lconst (v := (0 : Int64)) hx hb dX3_turned_14 (by decide) ?_
    refine zl_ge (tgt := 23) hx hb dX3_turned_15 dX3_turned_16 (by decide) (fun c_4 => ?_) (fun c_4 => ?_)
    · refine lv_iconst (v := (0 : Int32)) hx hb dX3_turned_23 (by decide) ?_
      refine vp_callSl (W.runS (As := [.int v0, .long (fn_X3_size v0 v1), .int (0 : Int32)]) (rest := []) ⟨hx, hb, hml, hown, hts⟩ (ct_X3_signed l v0 (fn_X3_size v0 v1) (0 : Int32)) (va_cwS 3 hts gX3_turned_X3_signed rfl rfl rfl (by decide +kernel) ⟨Nat.le_of_ble_eq_true rfl, Nat.le_of_ble_eq_true rfl⟩) ⟨(fun a U g mk q => ⟨q.1, trivial⟩), fun U hU hW9 => ⟨rfl, trivial⟩⟩ rfl rfl hl.1 rfl (lv_room (Nat.le_of_ble_eq_true rfl)) dX3_turned_24 ⟨Nat.zero_le _, Nat.zero_le _⟩) (fun r er => ?_)
      subst er
      exact W.lret (v := fn_X3_signed v0 (fn_X3_size v0 v1) (0 : Int32)) hx hb hr (fun t ht _ => ⟨_, rfl, by unfold fn_X3_turned; rw [if_neg c_1, if_pos c_4], ht⟩) (fun _ h => by cases h) dX3_turned_27
    · refine lv_iconst (v := (1 : Int32)) hx hb dX3_turned_19 (by decide) ?_
      refine lv_goto (tgt := 24) hx hb dX3_turned_20 (by decide) ?_
      refine vp_callSl (W.runS (As := [.int v0, .long (fn_X3_size v0 v1), .int (1 : Int32)]) (rest := []) ⟨hx, hb, hml, hown, hts⟩ (ct_X3_signed l v0 (fn_X3_size v0 v1) (1 : Int32)) (va_cwS 3 hts gX3_turned_X3_signed rfl rfl rfl (by decide +kernel) ⟨Nat.le_of_ble_eq_true rfl, Nat.le_of_ble_eq_true rfl⟩) ⟨(fun a U g mk q => ⟨q.1, trivial⟩), fun U hU hW9 => ⟨rfl, trivial⟩⟩ rfl rfl hl.1 rfl (lv_room (Nat.le_of_ble_eq_true rfl)) dX3_turned_24 ⟨Nat.zero_le _, Nat.zero_le _⟩) (fun r er => ?_)
      subst er
      exact W.lret (v := fn_X3_signed v0 (fn_X3_size v0 v1) (1 : Int32)) hx hb hr (fun t ht _ => ⟨_, rfl, by unfold fn_X3_turned; rw [if_neg c_1, if_neg c_4], ht⟩) (fun _ h => by cases h) dX3_turned_27
