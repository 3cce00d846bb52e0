def fn_X1_significand (k : Nat) (v1 : Int64) : Int64 :=
  if ((1 : Int64) <<< (Int32.toInt64 (kR k) &&& 63)) ≤ v1 then
    (v1 &&& (((1 : Int64) <<< (Int32.toInt64 (kR k) &&& 63)) - (1 : Int64))) ||| ((1 : Int64) <<< (Int32.toInt64 (kR k) &&& 63))
  else
    v1
set_option maxHeartbeats 4000000 in
set_option maxRecDepth 100000 in
theorem ct_X1_significand (l : Launch) (ad : Nat → Nat) (k : Nat) (hk_k : k < 4) (v1 : Int64) : Met l yX1_significand wsX1_significand ({ frames := 0, cells := 0, slots := 0, locals := 0 } : Room) (va_Pc [.ref (ad k), .long v1] (fun U => kw ad (fun _ => False) U U.heap)) (vp_Sl (fun r => r = fn_X1_significand k v1)) 0 0 (fun _ => False) := by
  refine Met.ofW (cc := cX1_significand) (maxL := 5) (ret := (some .long)) (by decide) rfl ?_
  intro p e s m args below meth c s₁ B hml hv
  obtain ⟨rfl, hW⟩ := hv
  have hx := B.exec
  have hb := B.bytes
  have hr := B.returns
  have hlocks := B.notSynchronized
  have hts := atoms_spec (ws := wsX1_significand) B.pre
  have hown : s.vm.findClass RX1 = some m.cls := findClass_of_methodNamed B.named
  have hS : va_S (fun _ => False) s.heap s.heap [] := va_S.rf
  have hl := lv_entry ([.ref (ad k), .long v1]) (n := 5) (Nat.le_of_ble_eq_true rfl)
  rw [lg_entry_eq]
  generalize (lg_sl ([.ref (ad k), .long v1]) ++ List.replicate (5 - (lg_sl ([.ref (ad k), .long v1])).length) Slot.unset).toArray = ls at hl ⊢
  have hl : lv_has ls 5 [(0, .ref (ad k)), (1, .long v1)] := hl
  refine lv_lconst (v := (1 : Int64)) hx hb dX1_significand_0 (by decide) ?_
  refine lv_aload_n hx hb dX1_significand_1 rfl (lv_at hl 0 rfl) ?_
  refine kg_fraction hx hb hW hk_k hS hown (hts (.fieldLink RX1 43 "ServoDesk$Kind" "fraction" "I") (by decide +kernel)) dX1_significand_2 ?_
  refine lv_lshl hx hb dX1_significand_5 rfl ?_
  refine lv_lstore_n (lv' := [(3, .long ((1 : Int64) <<< (Int32.toInt64 (kR k) &&& 63))), (0, .ref (ad k)), (1, .long v1)]) hx hb dX1_significand_6 rfl hl (by decide) rfl (fun ls hl => ?_)
  refine lv_lload_n hx hb dX1_significand_7 rfl (lv_at hl 2 rfl) ?_
  refine lv_lload_n hx hb dX1_significand_8 rfl (lv_at hl 0 rfl) ?_
  refine zl_ge (tgt := 17) hx hb dX1_significand_9 dX1_significand_10 (by decide) (fun c_1 => ?_) (fun c_1 => ?_)
  · refine lv_lload_n hx hb dX1_significand_17 rfl (lv_at hl 2 rfl) ?_
    refine lv_lload_n hx hb dX1_significand_18 rfl (lv_at hl 0 rfl) ?_
    refine lv_lconst (v := (1 : Int64)) hx hb dX1_significand_19 (by decide) ?_
    refine lv_lsub hx hb dX1_significand_20 ?_
    refine lv_land hx hb dX1_significand_21 ?_
    refine lv_lload_n hx hb dX1_significand_22 rfl (lv_at hl 0 rfl) ?_
    refine lv_lor hx hb dX1_significand_23 ?_
    exact W.lret (v := (v1 &&& (((1 : Int64) <<< (Int32.toInt64 (kR k) &&& 63)) - (1 : Int64))) ||| ((1 : Int64) <<< (Int32.toInt64 (kR k) &&& 63))) hx hb hr (fun t ht _ => ⟨_, rfl, by unfold fn_X1_significand; rw [if_pos c_1], ht⟩) (fun _ h => by cases h) dX1_significand_24
  · refine lv_lload_n hx hb dX1_significand_13 rfl (lv_at hl 2 rfl) ?_
    refine lv_goto (tgt := 24) hx hb dX1_significand_14 (by decide) ?_
    exact W.lret (v := v1) hx hb hr (fun t ht _ => ⟨_, rfl, by unfold fn_X1_significand; rw [if_neg c_1], ht⟩) (fun _ h => by cases h) dX1_significand_24
def fn_X1_scale (k : Nat) (v1 : Int64) : Int32 :=
  ((if (1 : Int32) < (Int64.toInt32 ((Int64.toUInt64 v1 >>> (Int64.toUInt64 (Int32.toInt64 (kR k)) &&& Int64.toUInt64 63)).toInt64)) then (Int64.toInt32 ((Int64.toUInt64 v1 >>> (Int64.toUInt64 (Int32.toInt64 (kR k)) &&& Int64.toUInt64 63)).toInt64)) else (1 : Int32)) - (kB k)) - (kR k)
set_option maxHeartbeats 4000000 in
set_option maxRecDepth 100000 in
theorem ct_X1_scale (l : Launch) (ad : Nat → Nat) (k : Nat) (hk_k : k < 4) (v1 : Int64) : Met l yX1_scale wsX1_scale ({ frames := 1, cells := 0, slots := 0, locals := 23 } : Room) (va_Pc [.ref (ad k), .long v1] (fun U => kw ad (fun _ => False) U U.heap)) (vp_Si (fun r => r = fn_X1_scale k v1)) 0 0 (fun _ => False) := by
  refine Met.ofW (cc := cX1_scale) (maxL := 3) (ret := (some .int)) (by decide) rfl ?_
  intro p e s m args below meth c s₁ B hml hv
  obtain ⟨rfl, hW⟩ := hv
  have hx := B.exec
  have hb := B.bytes
  have hr := B.returns
  have hlocks := B.notSynchronized
  have hts := atoms_spec (ws := wsX1_scale) B.pre
  have hown : s.vm.findClass RX1 = some m.cls := findClass_of_methodNamed B.named
  have hS : va_S (fun _ => False) s.heap s.heap [] := va_S.rf
  have hl := lv_entry ([.ref (ad k), .long v1]) (n := 3) (Nat.le_of_ble_eq_true rfl)
  rw [lg_entry_eq]
  generalize (lg_sl ([.ref (ad k), .long v1]) ++ List.replicate (3 - (lg_sl ([.ref (ad k), .long v1])).length) Slot.unset).toArray = ls at hl ⊢
  have hl : lv_has ls 3 [(0, .ref (ad k)), (1, .long v1)] := hl
  refine lv_iconst (v := (1 : Int32)) hx hb dX1_scale_0 (by decide) ?_
  refine lv_lload_n hx hb dX1_scale_1 rfl (lv_at hl 1 rfl) ?_
  refine lv_aload_n hx hb dX1_scale_2 rfl (lv_at hl 0 rfl) ?_
  refine kg_fraction hx hb hW hk_k hS hown (hts (.fieldLink RX1 43 "ServoDesk$Kind" "fraction" "I") (by decide +kernel)) dX1_scale_3 ?_
  refine lv_lushr hx hb dX1_scale_6 rfl ?_
  refine lv_l2i hx hb dX1_scale_7 rfl ?_
  refine va_mmax hx hb (hml.trans hl.1.symm) hown (hts (.methodLink RX1 98 Lib.Math.max.name) (by decide +kernel)) (hts (.static Lib.Math.max.name) (by decide +kernel)) (hts (.initialized "java/lang/Math") (by decide +kernel)) (hts (.code Lib.Math.max.name Lib.Math.max.code 2 (some .int)) (by decide +kernel)) (Nat.le_of_ble_eq_true rfl) (Nat.le_of_ble_eq_true rfl) (Nat.zero_le _) (Nat.zero_le _) dX1_scale_8 ?_
  refine lv_aload_n hx hb dX1_scale_11 rfl (lv_at hl 0 rfl) ?_
  refine kg_bias hx hb hW hk_k hS hown (hts (.fieldLink RX1 46 "ServoDesk$Kind" "bias" "I") (by decide +kernel)) dX1_scale_12 ?_
  refine lv_isub hx hb dX1_scale_15 ?_
  refine lv_aload_n hx hb dX1_scale_16 rfl (lv_at hl 0 rfl) ?_
  refine kg_fraction hx hb hW hk_k hS hown (hts (.fieldLink RX1 43 "ServoDesk$Kind" "fraction" "I") (by decide +kernel)) dX1_scale_17 ?_
  refine lv_isub hx hb dX1_scale_20 ?_
  exact W.iret (v := ((if (1 : Int32) < (Int64.toInt32 ((Int64.toUInt64 v1 >>> (Int64.toUInt64 (Int32.toInt64 (kR k)) &&& Int64.toUInt64 63)).toInt64)) then (Int64.toInt32 ((Int64.toUInt64 v1 >>> (Int64.toUInt64 (Int32.toInt64 (kR k)) &&& Int64.toUInt64 63)).toInt64)) else (1 : Int32)) - (kB k)) - (kR k)) hx hb hr (fun t ht _ => ⟨_, rfl, rfl, ht⟩) (fun _ h => by cases h) dX1_scale_21
def fn_X1_sizeOf (k : Nat) (v1 : Int64) (v3 : Int32) : Int64 :=
  if v1 = (0 : Int64) then
    (0 : Int64)
  else
    if (((63 : Int32) - (fn_J13_numberOfLeadingZeros_95d88 v1)) + v3) ≤ (kB k) then
      ((Int32.toInt64 (((if (((63 : Int32) - (fn_J13_numberOfLeadingZeros_95d88 v1)) + v3) < ((1 : Int32) - (kB k)) then ((1 : Int32) - (kB k)) else (((63 : Int32) - (fn_J13_numberOfLeadingZeros_95d88 v1)) + v3)) + (kB k)) - (1 : Int32))) <<< (Int32.toInt64 (kR k) &&& 63)) + (fn_X1_scaledDown v1 (((if (((63 : Int32) - (fn_J13_numberOfLeadingZeros_95d88 v1)) + v3) < ((1 : Int32) - (kB k)) then ((1 : Int32) - (kB k)) else (((63 : Int32) - (fn_J13_numberOfLeadingZeros_95d88 v1)) + v3)) - (kR k)) - v3))
    else
      fn_X1_infinity k
set_option maxHeartbeats 4000000 in
set_option maxRecDepth 100000 in
theorem ct_X1_sizeOf (l : Launch) (ad : Nat → Nat) (k : Nat) (hk_k : k < 4) (v1 : Int64) (v3 : Int32) : Met l yX1_sizeOf wsX1_sizeOf ({ frames := 2, cells := 0, slots := 0, locals := 52 } : Room) (va_Pc [.ref (ad k), .long v1, .int v3] (fun U => kw ad (fun _ => False) U U.heap)) (vp_Sl (fun r => r = fn_X1_sizeOf k v1 v3)) 0 0 (fun _ => False) := by
  refine Met.ofW (cc := cX1_sizeOf) (maxL := 8) (ret := (some .long)) (by decide) rfl ?_
  intro p e s m args below meth c s₁ B hml hv
  obtain ⟨rfl, hW⟩ := hv
  have hx := B.exec
  have hb := B.bytes
  have hr := B.returns
  have hlocks := B.notSynchronized
  have hts := atoms_spec (ws := wsX1_sizeOf) B.pre
  have hown : s.vm.findClass RX1 = some m.cls := findClass_of_methodNamed B.named
  have hS : va_S (fun _ => False) s.heap s.heap [] := va_S.rf
  have hl := lv_entry ([.ref (ad k), .long v1, .int v3]) (n := 8) (Nat.le_of_ble_eq_true rfl)
  rw [lg_entry_eq]
  generalize (lg_sl ([.ref (ad k), .long v1, .int v3]) ++ List.replicate (8 - (lg_sl ([.ref (ad k), .long v1, .int v3])).length) Slot.unset).toArray = ls at hl ⊢
  have hl : lv_has ls 8 [(0, .ref (ad k)), (1, .long v1), (3, .int v3)] := hl
  refine lv_lload_n hx hb dX1_sizeOf_0 rfl (lv_at hl 1 rfl) ?_
  refine lv_lconst (v := (0 : Int64)) hx hb dX1_sizeOf_1 (by decide) ?_
  refine zl_ne (tgt := 8) hx hb dX1_sizeOf_2 dX1_sizeOf_3 (by decide) (fun c_1 => ?_) (fun c_1 => ?_)
  · refine lv_bipush (v := (63 : Int32)) hx hb dX1_sizeOf_8 (by decide) ?_
    refine lv_lload_n hx hb dX1_sizeOf_10 rfl (lv_at hl 1 rfl) ?_
    refine vp_callSi (W.runS (As := [.long v1]) (rest := [.int (63 : Int32)]) ⟨hx, hb, hml, hown, hts⟩ (ct_J13_numberOfLeadingZeros_95d88 l v1) (va_cwS 1 hts gX1_sizeOf_J13_numberOfLeadingZeros_95d88 rfl rfl rfl (by decide +kernel) ⟨Nat.le_of_ble_eq_true rfl, Nat.le_of_ble_eq_true rfl⟩) ⟨(fun a U g mk q => ⟨q.1, trivial⟩), fun U hU hW9 => ⟨rfl, trivial⟩⟩ rfl rfl hl.1 rfl (lv_room (Nat.le_of_ble_eq_true rfl)) dX1_sizeOf_11 ⟨Nat.zero_le _, Nat.zero_le _⟩) (fun r er => ?_)
    subst er
    refine lv_isub hx hb dX1_sizeOf_14 ?_
    refine lv_iload_n hx hb dX1_sizeOf_15 rfl (lv_at hl 2 rfl) ?_
    refine lv_iadd hx hb dX1_sizeOf_16 ?_
    refine lv_istore (lv' := [(4, .int (((63 : Int32) - (fn_J13_numberOfLeadingZeros_95d88 v1)) + v3)), (0, .ref (ad k)), (1, .long v1), (3, .int v3)]) hx hb dX1_sizeOf_17 hl (by decide) rfl (fun ls hl => ?_)
    refine lv_iload hx hb dX1_sizeOf_19 (lv_at hl 0 rfl) ?_
    refine lv_aload_n hx hb dX1_sizeOf_21 rfl (lv_at hl 1 rfl) ?_
    refine kg_bias hx hb hW hk_k hS hown (hts (.fieldLink RX1 46 "ServoDesk$Kind" "bias" "I") (by decide +kernel)) dX1_sizeOf_22 ?_
    refine lv_icmp_le (tgt := 33) hx hb dX1_sizeOf_25 (by decide) (fun c_2 => ?_) (fun c_2 => ?_)
    · refine lv_iload hx hb dX1_sizeOf_33 (lv_at hl 0 rfl) ?_
      refine lv_iconst (v := (1 : Int32)) hx hb dX1_sizeOf_35 (by decide) ?_
      refine lv_aload_n hx hb dX1_sizeOf_36 rfl (lv_at hl 1 rfl) ?_
      refine kg_bias hx hb hW hk_k hS hown (hts (.fieldLink RX1 46 "ServoDesk$Kind" "bias" "I") (by decide +kernel)) dX1_sizeOf_37 ?_
      refine lv_isub hx hb dX1_sizeOf_40 ?_
      refine va_mmax hx hb (hml.trans hl.1.symm) hown (hts (.methodLink RX1 98 Lib.Math.max.name) (by decide +kernel)) (hts (.static Lib.Math.max.name) (by decide +kernel)) (hts (.initialized "java/lang/Math") (by decide +kernel)) (hts (.code Lib.Math.max.name Lib.Math.max.code 2 (some .int)) (by decide +kernel)) (Nat.le_of_ble_eq_true rfl) (Nat.le_of_ble_eq_true rfl) (Nat.zero_le _) (Nat.zero_le _) dX1_sizeOf_41 ?_
      refine lv_istore (lv' := [(5, .int (if (((63 : Int32) - (fn_J13_numberOfLeadingZeros_95d88 v1)) + v3) < ((1 : Int32) - (kB k)) then ((1 : Int32) - (kB k)) else (((63 : Int32) - (fn_J13_numberOfLeadingZeros_95d88 v1)) + v3))), (4, .int (((63 : Int32) - (fn_J13_numberOfLeadingZeros_95d88 v1)) + v3)), (0, .ref (ad k)), (1, .long v1), (3, .int v3)]) hx hb dX1_sizeOf_44 hl (by decide) rfl (fun ls hl => ?_)
      refine lv_lload_n hx hb dX1_sizeOf_46 rfl (lv_at hl 3 rfl) ?_
      refine lv_iload hx hb dX1_sizeOf_47 (lv_at hl 0 rfl) ?_
      refine lv_aload_n hx hb dX1_sizeOf_49 rfl (lv_at hl 2 rfl) ?_
      refine kg_fraction hx hb hW hk_k hS hown (hts (.fieldLink RX1 43 "ServoDesk$Kind" "fraction" "I") (by decide +kernel)) dX1_sizeOf_50 ?_
      refine lv_isub hx hb dX1_sizeOf_53 ?_
      refine lv_iload_n hx hb dX1_sizeOf_54 rfl (lv_at hl 4 rfl) ?_
      refine lv_isub hx hb dX1_sizeOf_55 ?_
      refine vp_callSl (W.runS (As := [.long v1, .int (((if (((63 : Int32) - (fn_J13_numberOfLeadingZeros_95d88 v1)) + v3) < ((1 : Int32) - (kB k)) then ((1 : Int32) - (kB k)) else (((63 : Int32) - (fn_J13_numberOfLeadingZeros_95d88 v1)) + v3)) - (kR k)) - v3)]) (rest := []) ⟨hx, hb, hml, hown, hts⟩ (ct_X1_scaledDown l v1 (((if (((63 : Int32) - (fn_J13_numberOfLeadingZeros_95d88 v1)) + v3) < ((1 : Int32) - (kB k)) then ((1 : Int32) - (kB k)) else (((63 : Int32) - (fn_J13_numberOfLeadingZeros_95d88 v1)) + v3)) - (kR k)) - v3)) (va_cwS 2 hts gX1_sizeOf_X1_scaledDown rfl rfl rfl (by decide +kernel) ⟨Nat.le_of_ble_eq_true rfl, Nat.le_of_ble_eq_true rfl⟩) ⟨(fun a U g mk q => ⟨q.1, trivial⟩), fun U hU hW9 => ⟨rfl, trivial⟩⟩ rfl rfl hl.1 rfl (lv_room (Nat.le_of_ble_eq_true rfl)) dX1_sizeOf_56 ⟨Nat.zero_le _, Nat.zero_le _⟩) (fun r er => ?_)
      subst er
      refine lv_lstore (lv' := [(6, .long (fn_X1_scaledDown v1 (((if (((63 : Int32) - (fn_J13_numberOfLeadingZeros_95d88 v1)) + v3) < ((1 : Int32) - (kB k)) then ((1 : Int32) - (kB k)) else (((63 : Int32) - (fn_J13_numberOfLeadingZeros_95d88 v1)) + v3)) - (kR k)) - v3))), (5, .int (if (((63 : Int32) - (fn_J13_numberOfLeadingZeros_95d88 v1)) + v3) < ((1 : Int32) - (kB k)) then ((1 : Int32) - (kB k)) else (((63 : Int32) - (fn_J13_numberOfLeadingZeros_95d88 v1)) + v3))), (4, .int (((63 : Int32) - (fn_J13_numberOfLeadingZeros_95d88 v1)) + v3)), (0, .ref (ad k)), (1, .long v1), (3, .int v3)]) hx hb dX1_sizeOf_59 hl (by decide) rfl (fun ls hl => ?_)
      refine lv_iload hx hb dX1_sizeOf_61 (lv_at hl 1 rfl) ?_
      refine lv_aload_n hx hb dX1_sizeOf_63 rfl (lv_at hl 3 rfl) ?_
      refine kg_bias hx hb hW hk_k hS hown (hts (.fieldLink RX1 46 "ServoDesk$Kind" "bias" "I") (by decide +kernel)) dX1_sizeOf_64 ?_
      refine lv_iadd hx hb dX1_sizeOf_67 ?_
      refine lv_iconst (v := (1 : Int32)) hx hb dX1_sizeOf_68 (by decide) ?_
      refine lv_isub hx hb dX1_sizeOf_69 ?_
      refine lv_i2l hx hb dX1_sizeOf_70 rfl ?_
      refine lv_aload_n hx hb dX1_sizeOf_71 rfl (lv_at hl 3 rfl) ?_
      refine kg_fraction hx hb hW hk_k hS hown (hts (.fieldLink RX1 43 "ServoDesk$Kind" "fraction" "I") (by decide +kernel)) dX1_sizeOf_72 ?_
      refine lv_lshl hx hb dX1_sizeOf_75 rfl ?_
      refine lv_lload hx hb dX1_sizeOf_76 (lv_at hl 0 rfl) ?_
      refine lv_ladd hx hb dX1_sizeOf_78 ?_
      exact W.lret (v := ((Int32.toInt64 (((if (((63 : Int32) - (fn_J13_numberOfLeadingZeros_95d88 v1)) + v3) < ((1 : Int32) - (kB k)) then ((1 : Int32) - (kB k)) else (((63 : Int32) - (fn_J13_numberOfLeadingZeros_95d88 v1)) + v3)) + (kB k)) - (1 : Int32))) <<< (Int32.toInt64 (kR k) &&& 63)) + (fn_X1_scaledDown v1 (((if (((63 : Int32) - (fn_J13_numberOfLeadingZeros_95d88 v1)) + v3) < ((1 : Int32) - (kB k)) then ((1 : Int32) - (kB k)) else (((63 : Int32) - (fn_J13_numberOfLeadingZeros_95d88 v1)) + v3)) - (kR k)) - v3))) hx hb hr (fun t ht _ => ⟨_, rfl, by unfold fn_X1_sizeOf; rw [if_neg c_1, if_pos c_2], ht⟩) (fun _ h => by cases h) dX1_sizeOf_79
    · refine lv_aload_n hx hb dX1_sizeOf_28 rfl (lv_at hl 1 rfl) ?_
      refine vp_callSl (W.runV (As := []) (rest := []) ⟨hx, hb, hml, hown, hts⟩ (ct_X1_infinity l ad k hk_k) (cwV 0 hts gX1_sizeOf_X1_infinity rfl rfl rfl (by decide +kernel) ⟨Nat.le_of_ble_eq_true rfl, Nat.le_of_ble_eq_true rfl⟩) ⟨(fun a U g mk q => ⟨q.1, kw_blind q.2⟩), kw_recv hW hS hk_k, fun U hU hW9 => ⟨rfl, kw_call hW hS hU hW9⟩⟩ rfl rfl hl.1 rfl (lv_room (Nat.le_of_ble_eq_true rfl)) dX1_sizeOf_29 ⟨Nat.zero_le _, Nat.zero_le _⟩) (fun r er => ?_)
      subst er
      exact W.lret (v := fn_X1_infinity k) hx hb hr (fun t ht _ => ⟨_, rfl, by unfold fn_X1_sizeOf; rw [if_neg c_1, if_neg c_2], ht⟩) (fun _ h => by cases h) dX1_sizeOf_32
  · refine lv_lconst (v := (0 : Int64)) hx hb dX1_sizeOf_6 (by decide) ?_
    exact W.lret (v := (0 : Int64)) hx hb hr (fun t ht _ => ⟨_, rfl, by unfold fn_X1_sizeOf; rw [if_pos c_1], ht⟩) (fun _ h => by cases h) dX1_sizeOf_7
def fn_X1_towardsZero_80 (x1 : Int64) (x8 : Int64) : Int64 :=
  if (0 : Int64) ≤ x1 then
    x8
  else
    -x8
set_option maxHeartbeats 4000000 in
set_option maxRecDepth 100000 in
theorem sg_X1_towardsZero_80 {p : Program} {l : Launch} {e : Env} {s : State} {m : MethodId} {args : Array Value} {below : List Frame} {meth : Method} {c : Code} {ls : Array Slot} {g : Int64} {ad : Nat → Nat} (hx : p.tables.exec = Jvm.exec) (hb : c.code = cX1_towardsZero) (hr : meth.sig.returnType = (some .long)) (hml : c.maxLocals = 10) (hts : ∀ w ∈ wsX1_towardsZero, w.before args s = true) (hown : s.vm.findClass RX1 = some m.cls) (hlocks : meth.locks = false) (hW : kw ad (fun _ => False) s s.heap) (x1 : Int64) (x8 : Int64) (hg : g = fn_X1_towardsZero_80 x1 x8) (hl : lv_has ls 10 [(1, .long x1), (8, .long x8)]) : W p l e ({ frames := 2, cells := 0, slots := 0, locals := 45 } : Room) s m args below meth c s.heap [] 0 0 (MQ below (vp_Sl (fun r => r = g)) args s 0 0 (fun _ => False)) (F0 m 80 ls []) := by
  have hS : va_S (fun _ => False) s.heap s.heap [] := va_S.rf
  refine lv_lload_n hx hb dX1_towardsZero_80 rfl (lv_at hl 0 rfl) ?_
  refine lv_lconst (v := (0 : Int64)) hx hb dX1_towardsZero_81 (by decide) ?_
  refine zl_ge (tgt := 92) hx hb dX1_towardsZero_82 dX1_towardsZero_83 (by decide) (fun c_1 => ?_) (fun c_1 => ?_)
  · refine lv_lload hx hb dX1_towardsZero_92 (lv_at hl 1 rfl) ?_
    exact W.lret (v := x8) hx hb hr (fun t ht _ => ⟨_, rfl, by rw [hg]; unfold fn_X1_towardsZero_80; rw [if_pos c_1], ht⟩) (fun _ h => by cases h) dX1_towardsZero_94
  · refine lv_lload hx hb dX1_towardsZero_86 (lv_at hl 1 rfl) ?_
    refine lv_lneg hx hb dX1_towardsZero_88 ?_
    refine lv_goto (tgt := 94) hx hb dX1_towardsZero_89 (by decide) ?_
    exact W.lret (v := -x8) hx hb hr (fun t ht _ => ⟨_, rfl, by rw [hg]; unfold fn_X1_towardsZero_80; rw [if_neg c_1], ht⟩) (fun _ h => by cases h) dX1_towardsZero_94
def fn_X1_towardsZero (k : Nat) (v1 : Int64) : Int64 :=
  if ((fn_X1_scale k (fn_X1_sized k v1)) + (kR k)) < (63 : Int32) then
    if (fn_X1_scale k (fn_X1_sized k v1)) < 0 then
      fn_X1_towardsZero_80 v1 ((Int64.toUInt64 (fn_X1_significand k (fn_X1_sized k v1)) >>> (Int64.toUInt64 (Int32.toInt64 (if (-(fn_X1_scale k (fn_X1_sized k v1))) < (63 : Int32) then (-(fn_X1_scale k (fn_X1_sized k v1))) else (63 : Int32))) &&& Int64.toUInt64 63)).toInt64)
    else
      fn_X1_towardsZero_80 v1 ((fn_X1_significand k (fn_X1_sized k v1)) <<< (Int32.toInt64 (fn_X1_scale k (fn_X1_sized k v1)) &&& 63))
  else
    if (0 : Int64) ≤ v1 then
      fn_X1_greatest 1
    else
      fn_X1_least 1
set_option maxHeartbeats 4000000 in
set_option maxRecDepth 100000 in
theorem ct_X1_towardsZero (l : Launch) (ad : Nat → Nat) (k : Nat) (hk_k : k < 4) (v1 : Int64) : Met l yX1_towardsZero wsX1_towardsZero ({ frames := 2, cells := 0, slots := 0, locals := 45 } : Room) (va_Pc [.ref (ad k), .long v1] (fun U => kw ad (fun _ => False) U U.heap)) (vp_Sl (fun r => r = fn_X1_towardsZero k v1)) 0 0 (fun _ => False) := by
  refine Met.ofW (cc := cX1_towardsZero) (maxL := 10) (ret := (some .long)) (by decide) rfl ?_
  intro p e s m args below meth c s₁ B hml hv
  obtain ⟨rfl, hW⟩ := hv
  have hx := B.exec
  have hb := B.bytes
  have hr := B.returns
  have hlocks := B.notSynchronized
  have hts := atoms_spec (ws := wsX1_towardsZero) B.pre
  have hown : s.vm.findClass RX1 = some m.cls := findClass_of_methodNamed B.named
  have hS : va_S (fun _ => False) s.heap s.heap [] := va_S.rf
  have hl := lv_entry ([.ref (ad k), .long v1]) (n := 10) (Nat.le_of_ble_eq_true rfl)
  rw [lg_entry_eq]
  generalize (lg_sl ([.ref (ad k), .long v1]) ++ List.replicate (10 - (lg_sl ([.ref (ad k), .long v1])).length) Slot.unset).toArray = ls at hl ⊢
  have hl : lv_has ls 10 [(0, .ref (ad k)), (1, .long v1)] := hl
  refine lv_aload_n hx hb dX1_towardsZero_0 rfl (lv_at hl 0 rfl) ?_
  refine lv_lload_n hx hb dX1_towardsZero_1 rfl (lv_at hl 1 rfl) ?_
  refine vp_callSl (W.runV (As := [.long v1]) (rest := []) ⟨hx, hb, hml, hown, hts⟩ (ct_X1_sized l ad k hk_k v1) (cwV 1 hts gX1_towardsZero_X1_sized rfl rfl rfl (by decide +kernel) ⟨Nat.le_of_ble_eq_true rfl, Nat.le_of_ble_eq_true rfl⟩) ⟨(fun a U g mk q => ⟨q.1, kw_blind q.2⟩), kw_recv hW hS hk_k, fun U hU hW9 => ⟨rfl, kw_call hW hS hU hW9⟩⟩ rfl rfl hl.1 rfl (lv_room (Nat.le_of_ble_eq_true rfl)) dX1_towardsZero_2 ⟨Nat.zero_le _, Nat.zero_le _⟩) (fun r er => ?_)
  subst er
  refine lv_lstore_n (lv' := [(3, .long (fn_X1_sized k v1)), (0, .ref (ad k)), (1, .long v1)]) hx hb dX1_towardsZero_5 rfl hl (by decide) rfl (fun ls hl => ?_)
  refine lv_aload_n hx hb dX1_towardsZero_6 rfl (lv_at hl 1 rfl) ?_
  refine lv_lload_n hx hb dX1_towardsZero_7 rfl (lv_at hl 0 rfl) ?_
  refine vp_callSi (W.runV (As := [.long (fn_X1_sized k v1)]) (rest := []) ⟨hx, hb, hml, hown, hts⟩ (ct_X1_scale l ad k hk_k (fn_X1_sized k v1)) (cwV 1 hts gX1_towardsZero_X1_scale rfl rfl rfl (by decide +kernel) ⟨Nat.le_of_ble_eq_true rfl, Nat.le_of_ble_eq_true rfl⟩) ⟨(fun a U g mk q => ⟨q.1, kw_blind q.2⟩), kw_recv hW hS hk_k, fun U hU hW9 => ⟨rfl, kw_call hW hS hU hW9⟩⟩ rfl rfl hl.1 rfl (lv_room (Nat.le_of_ble_eq_true rfl)) dX1_towardsZero_8 ⟨Nat.zero_le _, Nat.zero_le _⟩) (fun r er => ?_)
  subst er
  refine lv_istore (lv' := [(5, .int (fn_X1_scale k (fn_X1_sized k v1))), (3, .long (fn_X1_sized k v1)), (0, .ref (ad k)), (1, .long v1)]) hx hb dX1_towardsZero_11 hl (by decide) rfl (fun ls hl => ?_)
  refine lv_iload hx hb dX1_towardsZero_13 (lv_at hl 0 rfl) ?_
  refine lv_aload_n hx hb dX1_towardsZero_15 rfl (lv_at hl 2 rfl) ?_
  refine kg_fraction hx hb hW hk_k hS hown (hts (.fieldLink RX1 43 "ServoDesk$Kind" "fraction" "I") (by decide +kernel)) dX1_towardsZero_16 ?_
  refine lv_iadd hx hb dX1_towardsZero_19 ?_
  refine lv_bipush (v := (63 : Int32)) hx hb dX1_towardsZero_20 (by decide) ?_
  refine lv_icmp_lt (tgt := 47) hx hb dX1_towardsZero_22 (by decide) (fun c_1 => ?_) (fun c_1 => ?_)
  · refine lv_aload_n hx hb dX1_towardsZero_47 rfl (lv_at hl 2 rfl) ?_
    refine lv_lload_n hx hb dX1_towardsZero_48 rfl (lv_at hl 1 rfl) ?_
    refine vp_callSl (W.runV (As := [.long (fn_X1_sized k v1)]) (rest := []) ⟨hx, hb, hml, hown, hts⟩ (ct_X1_significand l ad k hk_k (fn_X1_sized k v1)) (cwV 1 hts gX1_towardsZero_X1_significand rfl rfl rfl (by decide +kernel) ⟨Nat.le_of_ble_eq_true rfl, Nat.le_of_ble_eq_true rfl⟩) ⟨(fun a U g mk q => ⟨q.1, kw_blind q.2⟩), kw_recv hW hS hk_k, fun U hU hW9 => ⟨rfl, kw_call hW hS hU hW9⟩⟩ rfl rfl hl.1 rfl (lv_room (Nat.le_of_ble_eq_true rfl)) dX1_towardsZero_49 ⟨Nat.zero_le _, Nat.zero_le _⟩) (fun r er => ?_)
    subst er
    refine lv_lstore (lv' := [(6, .long (fn_X1_significand k (fn_X1_sized k v1))), (5, .int (fn_X1_scale k (fn_X1_sized k v1))), (3, .long (fn_X1_sized k v1)), (0, .ref (ad k)), (1, .long v1)]) hx hb dX1_towardsZero_52 hl (by decide) rfl (fun ls hl => ?_)
    refine lv_iload hx hb dX1_towardsZero_54 (lv_at hl 1 rfl) ?_
    refine lv_if_lt (tgt := 67) hx hb dX1_towardsZero_56 (by decide) (fun c_2 => ?_) (fun c_2 => ?_)
    · refine lv_lload hx hb dX1_towardsZero_67 (lv_at hl 0 rfl) ?_
      refine lv_bipush (v := (63 : Int32)) hx hb dX1_towardsZero_69 (by decide) ?_
      refine lv_iload hx hb dX1_towardsZero_71 (lv_at hl 1 rfl) ?_
      refine lv_ineg hx hb dX1_towardsZero_73 ?_
      refine va_mmin hx hb (hml.trans hl.1.symm) hown (hts (.methodLink RX1 136 Lib.Math.min.name) (by decide +kernel)) (hts (.static Lib.Math.min.name) (by decide +kernel)) (hts (.initialized "java/lang/Math") (by decide +kernel)) (hts (.code Lib.Math.min.name Lib.Math.min.code 2 (some .int)) (by decide +kernel)) (Nat.le_of_ble_eq_true rfl) (Nat.le_of_ble_eq_true rfl) (Nat.zero_le _) (Nat.zero_le _) dX1_towardsZero_74 ?_
      refine lv_lushr hx hb dX1_towardsZero_77 rfl ?_
      refine lv_lstore (lv' := [(8, .long ((Int64.toUInt64 (fn_X1_significand k (fn_X1_sized k v1)) >>> (Int64.toUInt64 (Int32.toInt64 (if (-(fn_X1_scale k (fn_X1_sized k v1))) < (63 : Int32) then (-(fn_X1_scale k (fn_X1_sized k v1))) else (63 : Int32))) &&& Int64.toUInt64 63)).toInt64)), (6, .long (fn_X1_significand k (fn_X1_sized k v1))), (5, .int (fn_X1_scale k (fn_X1_sized k v1))), (3, .long (fn_X1_sized k v1)), (0, .ref (ad k)), (1, .long v1)]) hx hb dX1_towardsZero_78 hl (by decide) rfl (fun ls hl => ?_)
      exact sg_X1_towardsZero_80 hx hb hr hml hts hown hlocks hW v1 ((Int64.toUInt64 (fn_X1_significand k (fn_X1_sized k v1)) >>> (Int64.toUInt64 (Int32.toInt64 (if (-(fn_X1_scale k (fn_X1_sized k v1))) < (63 : Int32) then (-(fn_X1_scale k (fn_X1_sized k v1))) else (63 : Int32))) &&& Int64.toUInt64 63)).toInt64) (by unfold fn_X1_towardsZero; rw [if_pos c_1, if_pos c_2])  (lv_sub hl [5, 0] rfl)
    · refine lv_lload hx hb dX1_towardsZero_59 (lv_at hl 0 rfl) ?_
      refine lv_iload hx hb dX1_towardsZero_61 (lv_at hl 1 rfl) ?_
      refine lv_lshl hx hb dX1_towardsZero_63 rfl ?_
      refine lv_goto (tgt := 78) hx hb dX1_towardsZero_64 (by decide) ?_
      refine lv_lstore (lv' := [(8, .long ((fn_X1_significand k (fn_X1_sized k v1)) <<< (Int32.toInt64 (fn_X1_scale k (fn_X1_sized k v1)) &&& 63))), (6, .long (fn_X1_significand k (fn_X1_sized k v1))), (5, .int (fn_X1_scale k (fn_X1_sized k v1))), (3, .long (fn_X1_sized k v1)), (0, .ref (ad k)), (1, .long v1)]) hx hb dX1_towardsZero_78 hl (by decide) rfl (fun ls hl => ?_)
      exact sg_X1_towardsZero_80 hx hb hr hml hts hown hlocks hW v1 ((fn_X1_significand k (fn_X1_sized k v1)) <<< (Int32.toInt64 (fn_X1_scale k (fn_X1_sized k v1)) &&& 63)) (by unfold fn_X1_towardsZero; rw [if_pos c_1, if_neg c_2])  (lv_sub hl [5, 0] rfl)
  · refine lv_lload_n hx hb dX1_towardsZero_25 rfl (lv_at hl 3 rfl) ?_
    refine lv_lconst (v := (0 : Int64)) hx hb dX1_towardsZero_26 (by decide) ?_
    refine zl_ge (tgt := 40) hx hb dX1_towardsZero_27 dX1_towardsZero_28 (by decide) (fun c_3 => ?_) (fun c_3 => ?_)
    · refine kg_LONG hx hb hW hS hown (hts (.fieldLink RX1 7 "ServoDesk$Kind" "LONG" "LServoDesk$Kind;") (by decide +kernel)) dX1_towardsZero_40 ?_
      refine vp_callSl (W.runV (As := []) (rest := []) ⟨hx, hb, hml, hown, hts⟩ (ct_X1_greatest l ad 1 hk_1) (cwV 0 hts gX1_towardsZero_X1_greatest rfl rfl rfl (by decide +kernel) ⟨Nat.le_of_ble_eq_true rfl, Nat.le_of_ble_eq_true rfl⟩) ⟨(fun a U g mk q => ⟨q.1, kw_blind q.2⟩), kw_recv hW hS hk_1, fun U hU hW9 => ⟨rfl, kw_call hW hS hU hW9⟩⟩ rfl rfl hl.1 rfl (lv_room (Nat.le_of_ble_eq_true rfl)) dX1_towardsZero_43 ⟨Nat.zero_le _, Nat.zero_le _⟩) (fun r er => ?_)
      subst er
      exact W.lret (v := fn_X1_greatest 1) hx hb hr (fun t ht _ => ⟨_, rfl, by unfold fn_X1_towardsZero; rw [if_neg c_1, if_pos c_3], ht⟩) (fun _ h => by cases h) dX1_towardsZero_46
    · refine kg_LONG hx hb hW hS hown (hts (.fieldLink RX1 7 "ServoDesk$Kind" "LONG" "LServoDesk$Kind;") (by decide +kernel)) dX1_towardsZero_31 ?_
      refine vp_callSl (W.runV (As := []) (rest := []) ⟨hx, hb, hml, hown, hts⟩ (ct_X1_least l ad 1 hk_1) (cwV 0 hts gX1_towardsZero_X1_least rfl rfl rfl (by decide +kernel) ⟨Nat.le_of_ble_eq_true rfl, Nat.le_of_ble_eq_true rfl⟩) ⟨(fun a U g mk q => ⟨q.1, kw_blind q.2⟩), kw_recv hW hS hk_1, fun U hU hW9 => ⟨rfl, kw_call hW hS hU hW9⟩⟩ rfl rfl hl.1 rfl (lv_room (Nat.le_of_ble_eq_true rfl)) dX1_towardsZero_34 ⟨Nat.zero_le _, Nat.zero_le _⟩) (fun r er => ?_)
      subst er
      refine lv_goto (tgt := 46) hx hb dX1_towardsZero_37 (by decide) ?_
      exact W.lret (v := fn_X1_least 1) hx hb hr (fun t ht _ => ⟨_, rfl, by unfold fn_X1_towardsZero; rw [if_neg c_1, if_neg c_3], ht⟩) (fun _ h => by cases h) dX1_towardsZero_46
def fn_X1_made (k : Nat) (j : Nat) (v2 : Int64) : Int64 :=
  if (kF j) = 0 then
    if (kF k) = 0 then
      fn_X1_fitted k v2
    else
      fn_X1_turned k (fn_X1_sizeOf k (if 0 < v2 then v2 else -v2) (0 : Int32)) v2
  else
    if (kF k) = 0 then
      if (if (fn_X1_towardsZero j v2) < (fn_X1_greatest k) then (fn_X1_towardsZero j v2) else (fn_X1_greatest k)) < (fn_X1_least k) then (fn_X1_least k) else (if (fn_X1_towardsZero j v2) < (fn_X1_greatest k) then (fn_X1_towardsZero j v2) else (fn_X1_greatest k))
    else
      if (fn_X1_sized j v2) = (fn_X1_infinity j) then
        fn_X1_turned k (fn_X1_infinity k) v2
      else
        fn_X1_turned k (fn_X1_sizeOf k (fn_X1_significand j (fn_X1_sized j v2)) (fn_X1_scale j (fn_X1_sized j v2))) v2
set_option maxHeartbeats 4000000 in
set_option maxRecDepth 100000 in
theorem ct_X1_made (l : Launch) (ad : Nat → Nat) (k : Nat) (hk_k : k < 4) (j : Nat) (hk_j : j < 4) (v2 : Int64) : Met l yX1_made wsX1_made ({ frames := 3, cells := 0, slots := 0, locals := 79 } : Room) (va_Pc [.ref (ad k), .ref (ad j), .long v2] (fun U => kw ad (fun _ => False) U U.heap)) (vp_Sl (fun r => r = fn_X1_made k j v2)) 0 0 (fun _ => False) := by
  refine Met.ofW (cc := cX1_made) (maxL := 7) (ret := (some .long)) (by decide) rfl ?_
  intro p e s m args below meth c s₁ B hml hv
  obtain ⟨rfl, hW⟩ := hv
  have hx := B.exec
  have hb := B.bytes
  have hr := B.returns
  have hlocks := B.notSynchronized
  have hts := atoms_spec (ws := wsX1_made) B.pre
  have hown : s.vm.findClass RX1 = some m.cls := findClass_of_methodNamed B.named
  have hS : va_S (fun _ => False) s.heap s.heap [] := va_S.rf
  have hl := lv_entry ([.ref (ad k), .ref (ad j), .long v2]) (n := 7) (Nat.le_of_ble_eq_true rfl)
  rw [lg_entry_eq]
  generalize (lg_sl ([.ref (ad k), .ref (ad j), .long v2]) ++ List.replicate (7 - (lg_sl ([.ref (ad k), .ref (ad j), .long v2])).length) Slot.unset).toArray = ls at hl ⊢
  have hl : lv_has ls 7 [(0, .ref (ad k)), (1, .ref (ad j)), (2, .long v2)] := hl
  refine lv_aload_n hx hb dX1_made_0 rfl (lv_at hl 1 rfl) ?_
  refine kg_floating hx hb hW hk_j hS hown (hts (.fieldLink RX1 39 "ServoDesk$Kind" "floating" "Z") (by decide +kernel)) dX1_made_1 ?_
  refine lv_if_ne (tgt := 37) hx hb dX1_made_4 (by decide) (fun c_1 => ?_) (fun c_1 => ?_)
  · refine lv_aload_n hx hb dX1_made_37 rfl (lv_at hl 0 rfl) ?_
    refine kg_floating hx hb hW hk_k hS hown (hts (.fieldLink RX1 39 "ServoDesk$Kind" "floating" "Z") (by decide +kernel)) dX1_made_38 ?_
    refine lv_if_ne (tgt := 64) hx hb dX1_made_41 (by decide) (fun c_2 => ?_) (fun c_2 => ?_)
    · refine lv_aload_n hx hb dX1_made_64 rfl (lv_at hl 1 rfl) ?_
      refine lv_lload_n hx hb dX1_made_65 rfl (lv_at hl 2 rfl) ?_
      refine vp_callSl (W.runV (As := [.long v2]) (rest := []) ⟨hx, hb, hml, hown, hts⟩ (ct_X1_sized l ad j hk_j v2) (cwV 1 hts gX1_made_X1_sized rfl rfl rfl (by decide +kernel) ⟨Nat.le_of_ble_eq_true rfl, Nat.le_of_ble_eq_true rfl⟩) ⟨(fun a U g mk q => ⟨q.1, kw_blind q.2⟩), kw_recv hW hS hk_j, fun U hU hW9 => ⟨rfl, kw_call hW hS hU hW9⟩⟩ rfl rfl hl.1 rfl (lv_room (Nat.le_of_ble_eq_true rfl)) dX1_made_66 ⟨Nat.zero_le _, Nat.zero_le _⟩) (fun r er => ?_)
      subst er
      refine lv_lstore (lv' := [(4, .long (fn_X1_sized j v2)), (0, .ref (ad k)), (1, .ref (ad j)), (2, .long v2)]) hx hb dX1_made_69 hl (by decide) rfl (fun ls hl => ?_)
      refine lv_lload hx hb dX1_made_71 (lv_at hl 0 rfl) ?_
      refine lv_aload_n hx hb dX1_made_73 rfl (lv_at hl 2 rfl) ?_
      refine vp_callSl (W.runV (As := []) (rest := [.long (fn_X1_sized j v2)]) ⟨hx, hb, hml, hown, hts⟩ (ct_X1_infinity l ad j hk_j) (cwV 0 hts gX1_made_X1_infinity rfl rfl rfl (by decide +kernel) ⟨Nat.le_of_ble_eq_true rfl, Nat.le_of_ble_eq_true rfl⟩) ⟨(fun a U g mk q => ⟨q.1, kw_blind q.2⟩), kw_recv hW hS hk_j, fun U hU hW9 => ⟨rfl, kw_call hW hS hU hW9⟩⟩ rfl rfl hl.1 rfl (lv_room (Nat.le_of_ble_eq_true rfl)) dX1_made_74 ⟨Nat.zero_le _, Nat.zero_le _⟩) (fun r er => ?_)
      subst er
      refine zl_ne (tgt := 85) hx hb dX1_made_77 dX1_made_78 (by decide) (fun c_3 => ?_) (fun c_3 => ?_)
      · refine lv_iconst (v := (0 : Int32)) hx hb dX1_made_85 (by decide) ?_
        refine lv_istore (lv' := [(6, .int (0 : Int32)), (4, .long (fn_X1_sized j v2)), (0, .ref (ad k)), (1, .ref (ad j)), (2, .long v2)]) hx hb dX1_made_86 hl (by decide) rfl (fun ls hl => ?_)
        refine lv_aload_n hx hb dX1_made_88 rfl (lv_at hl 2 rfl) ?_
        refine lv_iload hx hb dX1_made_89 (lv_at hl 0 rfl) ?_
        refine lv_if_eq (tgt := 101) hx hb dX1_made_91 (by decide) (fun c_4 => ?_) (fun c_4 => ?_)
        · refine lv_aload_n hx hb dX1_made_101 rfl (lv_at hl 2 rfl) ?_
          refine lv_aload_n hx hb dX1_made_102 rfl (lv_at hl 3 rfl) ?_
          refine lv_lload hx hb dX1_made_103 (lv_at hl 1 rfl) ?_
          refine vp_callSl (W.runV (As := [.long (fn_X1_sized j v2)]) (rest := [.ref (ad k), .ref (ad k)]) ⟨hx, hb, hml, hown, hts⟩ (ct_X1_significand l ad j hk_j (fn_X1_sized j v2)) (cwV 1 hts gX1_made_X1_significand rfl rfl rfl (by decide +kernel) ⟨Nat.le_of_ble_eq_true rfl, Nat.le_of_ble_eq_true rfl⟩) ⟨(fun a U g mk q => ⟨q.1, kw_blind q.2⟩), kw_recv hW hS hk_j, fun U hU hW9 => ⟨rfl, kw_call hW hS hU hW9⟩⟩ rfl rfl hl.1 rfl (lv_room (Nat.le_of_ble_eq_true rfl)) dX1_made_105 ⟨Nat.zero_le _, Nat.zero_le _⟩) (fun r er => ?_)
          subst er
          refine lv_aload_n hx hb dX1_made_108 rfl (lv_at hl 3 rfl) ?_
          refine lv_lload hx hb dX1_made_109 (lv_at hl 1 rfl) ?_
          refine vp_callSi (W.runV (As := [.long (fn_X1_sized j v2)]) (rest := [.long (fn_X1_significand j (fn_X1_sized j v2)), .ref (ad k), .ref (ad k)]) ⟨hx, hb, hml, hown, hts⟩ (ct_X1_scale l ad j hk_j (fn_X1_sized j v2)) (cwV 1 hts gX1_made_X1_scale rfl rfl rfl (by decide +kernel) ⟨Nat.le_of_ble_eq_true rfl, Nat.le_of_ble_eq_true rfl⟩) ⟨(fun a U g mk q => ⟨q.1, kw_blind q.2⟩), kw_recv hW hS hk_j, fun U hU hW9 => ⟨rfl, kw_call hW hS hU hW9⟩⟩ rfl rfl hl.1 rfl (lv_room (Nat.le_of_ble_eq_true rfl)) dX1_made_111 ⟨Nat.zero_le _, Nat.zero_le _⟩) (fun r er => ?_)
          subst er
          refine vp_callSl (W.runV (As := [.long (fn_X1_significand j (fn_X1_sized j v2)), .int (fn_X1_scale j (fn_X1_sized j v2))]) (rest := [.ref (ad k)]) ⟨hx, hb, hml, hown, hts⟩ (ct_X1_sizeOf l ad k hk_k (fn_X1_significand j (fn_X1_sized j v2)) (fn_X1_scale j (fn_X1_sized j v2))) (cwV 2 hts gX1_made_X1_sizeOf rfl rfl rfl (by decide +kernel) ⟨Nat.le_of_ble_eq_true rfl, Nat.le_of_ble_eq_true rfl⟩) ⟨(fun a U g mk q => ⟨q.1, kw_blind q.2⟩), kw_recv hW hS hk_k, fun U hU hW9 => ⟨rfl, kw_call hW hS hU hW9⟩⟩ rfl rfl hl.1 rfl (lv_room (Nat.le_of_ble_eq_true rfl)) dX1_made_114 ⟨Nat.zero_le _, Nat.zero_le _⟩) (fun r er => ?_)
          subst er
          refine lv_lload_n hx hb dX1_made_117 rfl (lv_at hl 4 rfl) ?_
          refine vp_callSl (W.runV (As := [.long (fn_X1_sizeOf k (fn_X1_significand j (fn_X1_sized j v2)) (fn_X1_scale j (fn_X1_sized j v2))), .long v2]) (rest := []) ⟨hx, hb, hml, hown, hts⟩ (ct_X1_turned l ad k hk_k (fn_X1_sizeOf k (fn_X1_significand j (fn_X1_sized j v2)) (fn_X1_scale j (fn_X1_sized j v2))) v2) (cwV 2 hts gX1_made_X1_turned rfl rfl rfl (by decide +kernel) ⟨Nat.le_of_ble_eq_true rfl, Nat.le_of_ble_eq_true rfl⟩) ⟨(fun a U g mk q => ⟨q.1, kw_blind q.2⟩), kw_recv hW hS hk_k, fun U hU hW9 => ⟨rfl, kw_call hW hS hU hW9⟩⟩ rfl rfl hl.1 rfl (lv_room (Nat.le_of_ble_eq_true rfl)) dX1_made_118 ⟨Nat.zero_le _, Nat.zero_le _⟩) (fun r er => ?_)
          subst er
          exact W.lret (v := fn_X1_turned k (fn_X1_sizeOf k (fn_X1_significand j (fn_X1_sized j v2)) (fn_X1_scale j (fn_X1_sized j v2))) v2) hx hb hr (fun t ht _ => ⟨_, rfl, by unfold fn_X1_made; rw [if_neg c_1, if_neg c_2, if_neg c_3], ht⟩) (fun _ h => by cases h) dX1_made_121
        · exact absurd c_4 (by decide)
      · refine lv_iconst (v := (1 : Int32)) hx hb dX1_made_81 (by decide) ?_
        refine lv_goto (tgt := 86) hx hb dX1_made_82 (by decide) ?_
        refine lv_istore (lv' := [(6, .int (1 : Int32)), (4, .long (fn_X1_sized j v2)), (0, .ref (ad k)), (1, .ref (ad j)), (2, .long v2)]) hx hb dX1_made_86 hl (by decide) rfl (fun ls hl => ?_)
        refine lv_aload_n hx hb dX1_made_88 rfl (lv_at hl 2 rfl) ?_
        refine lv_iload hx hb dX1_made_89 (lv_at hl 0 rfl) ?_
        refine lv_if_eq (tgt := 101) hx hb dX1_made_91 (by decide) (fun c_5 => ?_) (fun c_5 => ?_)
        · exact absurd c_5 (by decide)
        · refine lv_aload_n hx hb dX1_made_94 rfl (lv_at hl 2 rfl) ?_
          refine vp_callSl (W.runV (As := []) (rest := [.ref (ad k)]) ⟨hx, hb, hml, hown, hts⟩ (ct_X1_infinity l ad k hk_k) (cwV 0 hts gX1_made_X1_infinity rfl rfl rfl (by decide +kernel) ⟨Nat.le_of_ble_eq_true rfl, Nat.le_of_ble_eq_true rfl⟩) ⟨(fun a U g mk q => ⟨q.1, kw_blind q.2⟩), kw_recv hW hS hk_k, fun U hU hW9 => ⟨rfl, kw_call hW hS hU hW9⟩⟩ rfl rfl hl.1 rfl (lv_room (Nat.le_of_ble_eq_true rfl)) dX1_made_95 ⟨Nat.zero_le _, Nat.zero_le _⟩) (fun r er => ?_)
          subst er
          refine lv_goto (tgt := 117) hx hb dX1_made_98 (by decide) ?_
          refine lv_lload_n hx hb dX1_made_117 rfl (lv_at hl 4 rfl) ?_
          refine vp_callSl (W.runV (As := [.long (fn_X1_infinity k), .long v2]) (rest := []) ⟨hx, hb, hml, hown, hts⟩ (ct_X1_turned l ad k hk_k (fn_X1_infinity k) v2) (cwV 2 hts gX1_made_X1_turned rfl rfl rfl (by decide +kernel) ⟨Nat.le_of_ble_eq_true rfl, Nat.le_of_ble_eq_true rfl⟩) ⟨(fun a U g mk q => ⟨q.1, kw_blind q.2⟩), kw_recv hW hS hk_k, fun U hU hW9 => ⟨rfl, kw_call hW hS hU hW9⟩⟩ rfl rfl hl.1 rfl (lv_room (Nat.le_of_ble_eq_true rfl)) dX1_made_118 ⟨Nat.zero_le _, Nat.zero_le _⟩) (fun r er => ?_)
          subst er
          exact W.lret (v := fn_X1_turned k (fn_X1_infinity k) v2) hx hb hr (fun t ht _ => ⟨_, rfl, by unfold fn_X1_made; rw [if_neg c_1, if_neg c_2, if_pos c_3], ht⟩) (fun _ h => by cases h) dX1_made_121
    · refine lv_aload_n hx hb dX1_made_44 rfl (lv_at hl 0 rfl) ?_
      refine vp_callSl (W.runV (As := []) (rest := []) ⟨hx, hb, hml, hown, hts⟩ (ct_X1_least l ad k hk_k) (cwV 0 hts gX1_made_X1_least rfl rfl rfl (by decide +kernel) ⟨Nat.le_of_ble_eq_true rfl, Nat.le_of_ble_eq_true rfl⟩) ⟨(fun a U g mk q => ⟨q.1, kw_blind q.2⟩), kw_recv hW hS hk_k, fun U hU hW9 => ⟨rfl, kw_call hW hS hU hW9⟩⟩ rfl rfl hl.1 rfl (lv_room (Nat.le_of_ble_eq_true rfl)) dX1_made_45 ⟨Nat.zero_le _, Nat.zero_le _⟩) (fun r er => ?_)
      subst er
      refine lv_aload_n hx hb dX1_made_48 rfl (lv_at hl 0 rfl) ?_
      refine vp_callSl (W.runV (As := []) (rest := [.long (fn_X1_least k)]) ⟨hx, hb, hml, hown, hts⟩ (ct_X1_greatest l ad k hk_k) (cwV 0 hts gX1_made_X1_greatest rfl rfl rfl (by decide +kernel) ⟨Nat.le_of_ble_eq_true rfl, Nat.le_of_ble_eq_true rfl⟩) ⟨(fun a U g mk q => ⟨q.1, kw_blind q.2⟩), kw_recv hW hS hk_k, fun U hU hW9 => ⟨rfl, kw_call hW hS hU hW9⟩⟩ rfl rfl hl.1 rfl (lv_room (Nat.le_of_ble_eq_true rfl)) dX1_made_49 ⟨Nat.zero_le _, Nat.zero_le _⟩) (fun r er => ?_)
      subst er
      refine lv_aload_n hx hb dX1_made_52 rfl (lv_at hl 1 rfl) ?_
      refine lv_lload_n hx hb dX1_made_53 rfl (lv_at hl 2 rfl) ?_
      refine vp_callSl (W.runV (As := [.long v2]) (rest := [.long (fn_X1_greatest k), .long (fn_X1_least k)]) ⟨hx, hb, hml, hown, hts⟩ (ct_X1_towardsZero l ad j hk_j v2) (cwV 1 hts gX1_made_X1_towardsZero rfl rfl rfl (by decide +kernel) ⟨Nat.le_of_ble_eq_true rfl, Nat.le_of_ble_eq_true rfl⟩) ⟨(fun a U g mk q => ⟨q.1, kw_blind q.2⟩), kw_recv hW hS hk_j, fun U hU hW9 => ⟨rfl, kw_call hW hS hU hW9⟩⟩ rfl rfl hl.1 rfl (lv_room (Nat.le_of_ble_eq_true rfl)) dX1_made_54 ⟨Nat.zero_le _, Nat.zero_le _⟩) (fun r er => ?_)
      subst er
      refine va_mmin_long hx hb (hml.trans hl.1.symm) hown (hts (.methodLink RX1 125 Lib.MathLoose.min_long.x) (by decide +kernel)) (hts (.static Lib.MathLoose.min_long.x) (by decide +kernel)) (hts (.initialized "java/lang/Math") (by decide +kernel)) (hts (.code Lib.MathLoose.min_long.x Lib.MathLoose.min_long.code 4 (some .long)) (by decide +kernel)) (Nat.le_of_ble_eq_true rfl) (Nat.le_of_ble_eq_true rfl) (Nat.zero_le _) (Nat.zero_le _) dX1_made_57 ?_
      refine va_mmax_long hx hb (hml.trans hl.1.symm) hown (hts (.methodLink RX1 128 Lib.MathLoose.max_long.x) (by decide +kernel)) (hts (.static Lib.MathLoose.max_long.x) (by decide +kernel)) (hts (.initialized "java/lang/Math") (by decide +kernel)) (hts (.code Lib.MathLoose.max_long.x Lib.MathLoose.max_long.code 4 (some .long)) (by decide +kernel)) (Nat.le_of_ble_eq_true rfl) (Nat.le_of_ble_eq_true rfl) (Nat.zero_le _) (Nat.zero_le _) dX1_made_60 ?_
      exact W.lret (v := if (if (fn_X1_towardsZero j v2) < (fn_X1_greatest k) then (fn_X1_towardsZero j v2) else (fn_X1_greatest k)) < (fn_X1_least k) then (fn_X1_least k) else (if (fn_X1_towardsZero j v2) < (fn_X1_greatest k) then (fn_X1_towardsZero j v2) else (fn_X1_greatest k))) hx hb hr (fun t ht _ => ⟨_, rfl, by unfold fn_X1_made; rw [if_neg c_1, if_pos c_2], ht⟩) (fun _ h => by cases h) dX1_made_63
  · refine lv_aload_n hx hb dX1_made_7 rfl (lv_at hl 0 rfl) ?_
    refine kg_floating hx hb hW hk_k hS hown (hts (.fieldLink RX1 39 "ServoDesk$Kind" "floating" "Z") (by decide +kernel)) dX1_made_8 ?_
    refine lv_if_eq (tgt := 31) hx hb dX1_made_11 (by decide) (fun c_6 => ?_) (fun c_6 => ?_)
    · refine lv_aload_n hx hb dX1_made_31 rfl (lv_at hl 0 rfl) ?_
      refine lv_lload_n hx hb dX1_made_32 rfl (lv_at hl 2 rfl) ?_
      refine vp_callSl (W.runV (As := [.long v2]) (rest := []) ⟨hx, hb, hml, hown, hts⟩ (ct_X1_fitted l ad k hk_k v2) (cwV 1 hts gX1_made_X1_fitted rfl rfl rfl (by decide +kernel) ⟨Nat.le_of_ble_eq_true rfl, Nat.le_of_ble_eq_true rfl⟩) ⟨(fun a U g mk q => ⟨q.1, kw_blind q.2⟩), kw_recv hW hS hk_k, fun U hU hW9 => ⟨rfl, kw_call hW hS hU hW9⟩⟩ rfl rfl hl.1 rfl (lv_room (Nat.le_of_ble_eq_true rfl)) dX1_made_33 ⟨Nat.zero_le _, Nat.zero_le _⟩) (fun r er => ?_)
      subst er
      exact W.lret (v := fn_X1_fitted k v2) hx hb hr (fun t ht _ => ⟨_, rfl, by unfold fn_X1_made; rw [if_pos c_1, if_pos c_6], ht⟩) (fun _ h => by cases h) dX1_made_36
    · refine lv_aload_n hx hb dX1_made_14 rfl (lv_at hl 0 rfl) ?_
      refine lv_aload_n hx hb dX1_made_15 rfl (lv_at hl 0 rfl) ?_
      refine lv_lload_n hx hb dX1_made_16 rfl (lv_at hl 2 rfl) ?_
      refine va_mabs_long hx hb (hml.trans hl.1.symm) hown (hts (.methodLink RX1 77 Lib.MathLoose.abs_long.x) (by decide +kernel)) (hts (.static Lib.MathLoose.abs_long.x) (by decide +kernel)) (hts (.initialized "java/lang/Math") (by decide +kernel)) (hts (.code Lib.MathLoose.abs_long.x Lib.MathLoose.abs_long.code 2 (some .long)) (by decide +kernel)) (Nat.le_of_ble_eq_true rfl) (Nat.le_of_ble_eq_true rfl) (Nat.zero_le _) (Nat.zero_le _) dX1_made_17 ?_
      refine lv_iconst (v := (0 : Int32)) hx hb dX1_made_20 (by decide) ?_
      refine vp_callSl (W.runV (As := [.long (if 0 < v2 then v2 else -v2), .int (0 : Int32)]) (rest := [.ref (ad k)]) ⟨hx, hb, hml, hown, hts⟩ (ct_X1_sizeOf l ad k hk_k (if 0 < v2 then v2 else -v2) (0 : Int32)) (cwV 2 hts gX1_made_X1_sizeOf rfl rfl rfl (by decide +kernel) ⟨Nat.le_of_ble_eq_true rfl, Nat.le_of_ble_eq_true rfl⟩) ⟨(fun a U g mk q => ⟨q.1, kw_blind q.2⟩), kw_recv hW hS hk_k, fun U hU hW9 => ⟨rfl, kw_call hW hS hU hW9⟩⟩ rfl rfl hl.1 rfl (lv_room (Nat.le_of_ble_eq_true rfl)) dX1_made_21 ⟨Nat.zero_le _, Nat.zero_le _⟩) (fun r er => ?_)
      subst er
      refine lv_lload_n hx hb dX1_made_24 rfl (lv_at hl 2 rfl) ?_
      refine vp_callSl (W.runV (As := [.long (fn_X1_sizeOf k (if 0 < v2 then v2 else -v2) (0 : Int32)), .long v2]) (rest := []) ⟨hx, hb, hml, hown, hts⟩ (ct_X1_turned l ad k hk_k (fn_X1_sizeOf k (if 0 < v2 then v2 else -v2) (0 : Int32)) v2) (cwV 2 hts gX1_made_X1_turned rfl rfl rfl (by decide +kernel) ⟨Nat.le_of_ble_eq_true rfl, Nat.le_of_ble_eq_true rfl⟩) ⟨(fun a U g mk q => ⟨q.1, kw_blind q.2⟩), kw_recv hW hS hk_k, fun U hU hW9 => ⟨rfl, kw_call hW hS hU hW9⟩⟩ rfl rfl hl.1 rfl (lv_room (Nat.le_of_ble_eq_true rfl)) dX1_made_25 ⟨Nat.zero_le _, Nat.zero_le _⟩) (fun r er => ?_)
      subst er
      refine lv_goto (tgt := 36) hx hb dX1_made_28 (by decide) ?_
      exact W.lret (v := fn_X1_turned k (fn_X1_sizeOf k (if 0 < v2 then v2 else -v2) (0 : Int32)) v2) hx hb hr (fun t ht _ => ⟨_, rfl, by unfold fn_X1_made; rw [if_pos c_1, if_neg c_6], ht⟩) (fun _ h => by cases h) dX1_made_36
