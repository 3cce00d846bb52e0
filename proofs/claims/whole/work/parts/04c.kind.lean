def fn_X1_bitsBelowUnit (k : Nat) (v1 : Int64) : Int32 :=
  if (0 : Int32) < (((kB k) + (kR k)) - (Int64.toInt32 ((Int64.toUInt64 v1 >>> (Int64.toUInt64 (Int32.toInt64 (kR k)) &&& Int64.toUInt64 63)).toInt64))) then (((kB k) + (kR k)) - (Int64.toInt32 ((Int64.toUInt64 v1 >>> (Int64.toUInt64 (Int32.toInt64 (kR k)) &&& Int64.toUInt64 63)).toInt64))) else (0 : Int32)
set_option maxHeartbeats 4000000 in
set_option maxRecDepth 100000 in
theorem ct_X1_bitsBelowUnit (l : Launch) (ad : Nat → Nat) (k : Nat) (hk_k : k < 4) (v1 : Int64) : Met l yX1_bitsBelowUnit wsX1_bitsBelowUnit ({ frames := 1, cells := 0, slots := 0, locals := 23 } : Room) (va_Pc [.ref (ad k), .long v1] (fun U => kw ad (fun _ => False) U U.heap)) (vp_Si (fun r => r = fn_X1_bitsBelowUnit k v1)) 0 0 (fun _ => False) := by
  refine Met.ofW (cc := cX1_bitsBelowUnit) (maxL := 3) (ret := (some .int)) (by decide) rfl ?_
  intro p e s m args below meth c s₁ B hml hv
  obtain ⟨rfl, hW⟩ := hv
  have hx := B.exec
  have hb := B.bytes
  have hr := B.returns
  have hlocks := B.notSynchronized
  have hts := atoms_spec (ws := wsX1_bitsBelowUnit) B.pre
  have hown : s.vm.findClass RX1 = some m.cls := findClass_of_methodNamed B.named
  have hS : va_S (fun _ => False) s.heap s.heap [] := va_S.rf
  have hl := lv_entry ([.ref (ad k), .long v1]) (n := 3) (Nat.le_of_ble_eq_true rfl)
  rw [lg_entry_eq]
  generalize (lg_sl ([.ref (ad k), .long v1]) ++ List.replicate (3 - (lg_sl ([.ref (ad k), .long v1])).length) Slot.unset).toArray = ls at hl ⊢
  have hl : lv_has ls 3 [(0, .ref (ad k)), (1, .long v1)] := hl
  refine lv_iconst (v := (0 : Int32)) hx hb dX1_bitsBelowUnit_0 (by decide) ?_
  refine lv_aload_n hx hb dX1_bitsBelowUnit_1 rfl (lv_at hl 0 rfl) ?_
  refine kg_bias hx hb hW hk_k hS hown (hts (.fieldLink RX1 46 "ServoDesk$Kind" "bias" "I") (by decide +kernel)) dX1_bitsBelowUnit_2 ?_
  refine lv_aload_n hx hb dX1_bitsBelowUnit_5 rfl (lv_at hl 0 rfl) ?_
  refine kg_fraction hx hb hW hk_k hS hown (hts (.fieldLink RX1 43 "ServoDesk$Kind" "fraction" "I") (by decide +kernel)) dX1_bitsBelowUnit_6 ?_
  refine lv_iadd hx hb dX1_bitsBelowUnit_9 ?_
  refine lv_lload_n hx hb dX1_bitsBelowUnit_10 rfl (lv_at hl 1 rfl) ?_
  refine lv_aload_n hx hb dX1_bitsBelowUnit_11 rfl (lv_at hl 0 rfl) ?_
  refine kg_fraction hx hb hW hk_k hS hown (hts (.fieldLink RX1 43 "ServoDesk$Kind" "fraction" "I") (by decide +kernel)) dX1_bitsBelowUnit_12 ?_
  refine lv_lushr hx hb dX1_bitsBelowUnit_15 rfl ?_
  refine lv_l2i hx hb dX1_bitsBelowUnit_16 rfl ?_
  refine lv_isub hx hb dX1_bitsBelowUnit_17 ?_
  refine va_mmax hx hb (hml.trans hl.1.symm) hown (hts (.methodLink RX1 98 Lib.Math.max.name) (by decide +kernel)) (hts (.static Lib.Math.max.name) (by decide +kernel)) (hts (.initialized "java/lang/Math") (by decide +kernel)) (hts (.code Lib.Math.max.name Lib.Math.max.code 2 (some .int)) (by decide +kernel)) (Nat.le_of_ble_eq_true rfl) (Nat.le_of_ble_eq_true rfl) (Nat.zero_le _) (Nat.zero_le _) dX1_bitsBelowUnit_18 ?_
  exact W.iret (v := if (0 : Int32) < (((kB k) + (kR k)) - (Int64.toInt32 ((Int64.toUInt64 v1 >>> (Int64.toUInt64 (Int32.toInt64 (kR k)) &&& Int64.toUInt64 63)).toInt64))) then (((kB k) + (kR k)) - (Int64.toInt32 ((Int64.toUInt64 v1 >>> (Int64.toUInt64 (Int32.toInt64 (kR k)) &&& Int64.toUInt64 63)).toInt64))) else (0 : Int32)) hx hb hr (fun t ht _ => ⟨_, rfl, rfl, ht⟩) (fun _ h => by cases h) dX1_bitsBelowUnit_21
def fn_X1_inward (k : Nat) (v1 : Int64) : Int64 :=
  if (fn_X1_one k) ≤ v1 then
    ((Int64.toUInt64 v1 >>> (Int64.toUInt64 (Int32.toInt64 (fn_X1_bitsBelowUnit k v1)) &&& Int64.toUInt64 63)).toInt64) <<< (Int32.toInt64 (fn_X1_bitsBelowUnit k v1) &&& 63)
  else
    (0 : Int64)
set_option maxHeartbeats 4000000 in
set_option maxRecDepth 100000 in
theorem ct_X1_inward (l : Launch) (ad : Nat → Nat) (k : Nat) (hk_k : k < 4) (v1 : Int64) : Met l yX1_inward wsX1_inward ({ frames := 2, cells := 0, slots := 0, locals := 45 } : Room) (va_Pc [.ref (ad k), .long v1] (fun U => kw ad (fun _ => False) U U.heap)) (vp_Sl (fun r => r = fn_X1_inward k v1)) 0 0 (fun _ => False) := by
  refine Met.ofW (cc := cX1_inward) (maxL := 4) (ret := (some .long)) (by decide) rfl ?_
  intro p e s m args below meth c s₁ B hml hv
  obtain ⟨rfl, hW⟩ := hv
  have hx := B.exec
  have hb := B.bytes
  have hr := B.returns
  have hlocks := B.notSynchronized
  have hts := atoms_spec (ws := wsX1_inward) B.pre
  have hown : s.vm.findClass RX1 = some m.cls := findClass_of_methodNamed B.named
  have hS : va_S (fun _ => False) s.heap s.heap [] := va_S.rf
  have hl := lv_entry ([.ref (ad k), .long v1]) (n := 4) (Nat.le_of_ble_eq_true rfl)
  rw [lg_entry_eq]
  generalize (lg_sl ([.ref (ad k), .long v1]) ++ List.replicate (4 - (lg_sl ([.ref (ad k), .long v1])).length) Slot.unset).toArray = ls at hl ⊢
  have hl : lv_has ls 4 [(0, .ref (ad k)), (1, .long v1)] := hl
  refine lv_lload_n hx hb dX1_inward_0 rfl (lv_at hl 1 rfl) ?_
  refine lv_aload_n hx hb dX1_inward_1 rfl (lv_at hl 0 rfl) ?_
  refine vp_callSl (W.runV (As := []) (rest := [.long v1]) ⟨hx, hb, hml, hown, hts⟩ (ct_X1_one l ad k hk_k) (cwV 0 hts gX1_inward_X1_one rfl rfl rfl (by decide +kernel) ⟨Nat.le_of_ble_eq_true rfl, Nat.le_of_ble_eq_true rfl⟩) ⟨(fun a U g mk q => ⟨q.1, kw_blind q.2⟩), kw_recv hW hS hk_k, fun U hU hW9 => ⟨rfl, kw_call hW hS hU hW9⟩⟩ rfl rfl hl.1 rfl (lv_room (Nat.le_of_ble_eq_true rfl)) dX1_inward_2 ⟨Nat.zero_le _, Nat.zero_le _⟩) (fun r er => ?_)
  subst er
  refine zl_ge (tgt := 11) hx hb dX1_inward_5 dX1_inward_6 (by decide) (fun c_1 => ?_) (fun c_1 => ?_)
  · refine lv_aload_n hx hb dX1_inward_11 rfl (lv_at hl 0 rfl) ?_
    refine lv_lload_n hx hb dX1_inward_12 rfl (lv_at hl 1 rfl) ?_
    refine vp_callSi (W.runV (As := [.long v1]) (rest := []) ⟨hx, hb, hml, hown, hts⟩ (ct_X1_bitsBelowUnit l ad k hk_k v1) (cwV 1 hts gX1_inward_X1_bitsBelowUnit rfl rfl rfl (by decide +kernel) ⟨Nat.le_of_ble_eq_true rfl, Nat.le_of_ble_eq_true rfl⟩) ⟨(fun a U g mk q => ⟨q.1, kw_blind q.2⟩), kw_recv hW hS hk_k, fun U hU hW9 => ⟨rfl, kw_call hW hS hU hW9⟩⟩ rfl rfl hl.1 rfl (lv_room (Nat.le_of_ble_eq_true rfl)) dX1_inward_13 ⟨Nat.zero_le _, Nat.zero_le _⟩) (fun r er => ?_)
    subst er
    refine lv_istore_n (lv' := [(3, .int (fn_X1_bitsBelowUnit k v1)), (0, .ref (ad k)), (1, .long v1)]) hx hb dX1_inward_16 rfl hl (by decide) rfl (fun ls hl => ?_)
    refine lv_lload_n hx hb dX1_inward_17 rfl (lv_at hl 2 rfl) ?_
    refine lv_iload_n hx hb dX1_inward_18 rfl (lv_at hl 0 rfl) ?_
    refine lv_lushr hx hb dX1_inward_19 rfl ?_
    refine lv_iload_n hx hb dX1_inward_20 rfl (lv_at hl 0 rfl) ?_
    refine lv_lshl hx hb dX1_inward_21 rfl ?_
    exact W.lret (v := ((Int64.toUInt64 v1 >>> (Int64.toUInt64 (Int32.toInt64 (fn_X1_bitsBelowUnit k v1)) &&& Int64.toUInt64 63)).toInt64) <<< (Int32.toInt64 (fn_X1_bitsBelowUnit k v1) &&& 63)) hx hb hr (fun t ht _ => ⟨_, rfl, by unfold fn_X1_inward; rw [if_pos c_1], ht⟩) (fun _ h => by cases h) dX1_inward_22
  · refine lv_lconst (v := (0 : Int64)) hx hb dX1_inward_9 (by decide) ?_
    exact W.lret (v := (0 : Int64)) hx hb hr (fun t ht _ => ⟨_, rfl, by unfold fn_X1_inward; rw [if_neg c_1], ht⟩) (fun _ h => by cases h) dX1_inward_10
def fn_X1_outward (k : Nat) (v1 : Int64) : Int64 :=
  if (fn_X1_one k) ≤ v1 then
    (v1 + (((1 : Int64) <<< (Int32.toInt64 (fn_X1_bitsBelowUnit k v1) &&& 63)) - (1 : Int64))) &&& ((((1 : Int64) <<< (Int32.toInt64 (fn_X1_bitsBelowUnit k v1) &&& 63)) - (1 : Int64)) ^^^ (-1 : Int64))
  else
    if v1 = (0 : Int64) then
      (0 : Int64)
    else
      fn_X1_one k
set_option maxHeartbeats 4000000 in
set_option maxRecDepth 100000 in
theorem ct_X1_outward (l : Launch) (ad : Nat → Nat) (k : Nat) (hk_k : k < 4) (v1 : Int64) : Met l yX1_outward wsX1_outward ({ frames := 2, cells := 0, slots := 0, locals := 45 } : Room) (va_Pc [.ref (ad k), .long v1] (fun U => kw ad (fun _ => False) U U.heap)) (vp_Sl (fun r => r = fn_X1_outward k v1)) 0 0 (fun _ => False) := by
  refine Met.ofW (cc := cX1_outward) (maxL := 5) (ret := (some .long)) (by decide) rfl ?_
  intro p e s m args below meth c s₁ B hml hv
  obtain ⟨rfl, hW⟩ := hv
  have hx := B.exec
  have hb := B.bytes
  have hr := B.returns
  have hlocks := B.notSynchronized
  have hts := atoms_spec (ws := wsX1_outward) B.pre
  have hown : s.vm.findClass RX1 = some m.cls := findClass_of_methodNamed B.named
  have hS : va_S (fun _ => False) s.heap s.heap [] := va_S.rf
  have hl := lv_entry ([.ref (ad k), .long v1]) (n := 5) (Nat.le_of_ble_eq_true rfl)
  rw [lg_entry_eq]
  generalize (lg_sl ([.ref (ad k), .long v1]) ++ List.replicate (5 - (lg_sl ([.ref (ad k), .long v1])).length) Slot.unset).toArray = ls at hl ⊢
  have hl : lv_has ls 5 [(0, .ref (ad k)), (1, .long v1)] := hl
  refine lv_lload_n hx hb dX1_outward_0 rfl (lv_at hl 1 rfl) ?_
  refine lv_aload_n hx hb dX1_outward_1 rfl (lv_at hl 0 rfl) ?_
  refine vp_callSl (W.runV (As := []) (rest := [.long v1]) ⟨hx, hb, hml, hown, hts⟩ (ct_X1_one l ad k hk_k) (cwV 0 hts gX1_outward_X1_one rfl rfl rfl (by decide +kernel) ⟨Nat.le_of_ble_eq_true rfl, Nat.le_of_ble_eq_true rfl⟩) ⟨(fun a U g mk q => ⟨q.1, kw_blind q.2⟩), kw_recv hW hS hk_k, fun U hU hW9 => ⟨rfl, kw_call hW hS hU hW9⟩⟩ rfl rfl hl.1 rfl (lv_room (Nat.le_of_ble_eq_true rfl)) dX1_outward_2 ⟨Nat.zero_le _, Nat.zero_le _⟩) (fun r er => ?_)
  subst er
  refine zl_ge (tgt := 24) hx hb dX1_outward_5 dX1_outward_6 (by decide) (fun c_1 => ?_) (fun c_1 => ?_)
  · refine lv_lconst (v := (1 : Int64)) hx hb dX1_outward_24 (by decide) ?_
    refine lv_aload_n hx hb dX1_outward_25 rfl (lv_at hl 0 rfl) ?_
    refine lv_lload_n hx hb dX1_outward_26 rfl (lv_at hl 1 rfl) ?_
    refine vp_callSi (W.runV (As := [.long v1]) (rest := [.long (1 : Int64)]) ⟨hx, hb, hml, hown, hts⟩ (ct_X1_bitsBelowUnit l ad k hk_k v1) (cwV 1 hts gX1_outward_X1_bitsBelowUnit rfl rfl rfl (by decide +kernel) ⟨Nat.le_of_ble_eq_true rfl, Nat.le_of_ble_eq_true rfl⟩) ⟨(fun a U g mk q => ⟨q.1, kw_blind q.2⟩), kw_recv hW hS hk_k, fun U hU hW9 => ⟨rfl, kw_call hW hS hU hW9⟩⟩ rfl rfl hl.1 rfl (lv_room (Nat.le_of_ble_eq_true rfl)) dX1_outward_27 ⟨Nat.zero_le _, Nat.zero_le _⟩) (fun r er => ?_)
    subst er
    refine lv_lshl hx hb dX1_outward_30 rfl ?_
    refine lv_lconst (v := (1 : Int64)) hx hb dX1_outward_31 (by decide) ?_
    refine lv_lsub hx hb dX1_outward_32 ?_
    refine lv_lstore_n (lv' := [(3, .long (((1 : Int64) <<< (Int32.toInt64 (fn_X1_bitsBelowUnit k v1) &&& 63)) - (1 : Int64))), (0, .ref (ad k)), (1, .long v1)]) hx hb dX1_outward_33 rfl hl (by decide) rfl (fun ls hl => ?_)
    refine lv_lload_n hx hb dX1_outward_34 rfl (lv_at hl 2 rfl) ?_
    refine lv_lload_n hx hb dX1_outward_35 rfl (lv_at hl 0 rfl) ?_
    refine lv_ladd hx hb dX1_outward_36 ?_
    refine lv_lload_n hx hb dX1_outward_37 rfl (lv_at hl 0 rfl) ?_
    refine lv_ldc2 (v := (-1 : Int64)) hx hb hown (hts (.constantLong RX1 49 (-1)) (by decide +kernel)) dX1_outward_38 ?_
    refine lv_lxor hx hb dX1_outward_41 ?_
    refine lv_land hx hb dX1_outward_42 ?_
    exact W.lret (v := (v1 + (((1 : Int64) <<< (Int32.toInt64 (fn_X1_bitsBelowUnit k v1) &&& 63)) - (1 : Int64))) &&& ((((1 : Int64) <<< (Int32.toInt64 (fn_X1_bitsBelowUnit k v1) &&& 63)) - (1 : Int64)) ^^^ (-1 : Int64))) hx hb hr (fun t ht _ => ⟨_, rfl, by unfold fn_X1_outward; rw [if_pos c_1], ht⟩) (fun _ h => by cases h) dX1_outward_43
  · refine lv_lload_n hx hb dX1_outward_9 rfl (lv_at hl 1 rfl) ?_
    refine lv_lconst (v := (0 : Int64)) hx hb dX1_outward_10 (by decide) ?_
    refine zl_ne (tgt := 19) hx hb dX1_outward_11 dX1_outward_12 (by decide) (fun c_2 => ?_) (fun c_2 => ?_)
    · refine lv_aload_n hx hb dX1_outward_19 rfl (lv_at hl 0 rfl) ?_
      refine vp_callSl (W.runV (As := []) (rest := []) ⟨hx, hb, hml, hown, hts⟩ (ct_X1_one l ad k hk_k) (cwV 0 hts gX1_outward_X1_one rfl rfl rfl (by decide +kernel) ⟨Nat.le_of_ble_eq_true rfl, Nat.le_of_ble_eq_true rfl⟩) ⟨(fun a U g mk q => ⟨q.1, kw_blind q.2⟩), kw_recv hW hS hk_k, fun U hU hW9 => ⟨rfl, kw_call hW hS hU hW9⟩⟩ rfl rfl hl.1 rfl (lv_room (Nat.le_of_ble_eq_true rfl)) dX1_outward_20 ⟨Nat.zero_le _, Nat.zero_le _⟩) (fun r er => ?_)
      subst er
      exact W.lret (v := fn_X1_one k) hx hb hr (fun t ht _ => ⟨_, rfl, by unfold fn_X1_outward; rw [if_neg c_1, if_neg c_2], ht⟩) (fun _ h => by cases h) dX1_outward_23
    · refine lv_lconst (v := (0 : Int64)) hx hb dX1_outward_15 (by decide) ?_
      refine lv_goto (tgt := 23) hx hb dX1_outward_16 (by decide) ?_
      exact W.lret (v := (0 : Int64)) hx hb hr (fun t ht _ => ⟨_, rfl, by unfold fn_X1_outward; rw [if_neg c_1, if_pos c_2], ht⟩) (fun _ h => by cases h) dX1_outward_23
def fn_X1_scaledDown_73 (x3 : Int64) (x9 : Int32) : Int64 :=
  if x9 = 0 then
    x3
  else
    x3 + (1 : Int64)
set_option maxHeartbeats 4000000 in
set_option maxRecDepth 100000 in
theorem sg_X1_scaledDown_73 {p : Program} {l : Launch} {e : Env} {s : State} {m : MethodId} {args : Array Value} {below : List Frame} {meth : Method} {c : Code} {ls : Array Slot} {g : Int64} (hx : p.tables.exec = Jvm.exec) (hb : c.code = cX1_scaledDown) (hr : meth.sig.returnType = (some .long)) (hml : c.maxLocals = 10) (hts : ∀ w ∈ wsX1_scaledDown, w.before args s = true) (hown : s.vm.findClass RX1 = some m.cls) (hlocks : meth.locks = false) (x3 : Int64) (x9 : Int32) (hg : g = fn_X1_scaledDown_73 x3 x9) (hl : lv_has ls 10 [(3, .long x3), (9, .int x9)]) : W p l e ({ frames := 1, cells := 0, slots := 0, locals := 23 } : Room) s m args below meth c s.heap [] 0 0 (MQ below (vp_Sl (fun r => r = g)) args s 0 0 (fun _ => False)) (F0 m 73 ls []) := by
  have hS : va_S (fun _ => False) s.heap s.heap [] := va_S.rf
  refine lv_iload hx hb dX1_scaledDown_73 (lv_at hl 1 rfl) ?_
  refine lv_if_eq (tgt := 84) hx hb dX1_scaledDown_75 (by decide) (fun c_1 => ?_) (fun c_1 => ?_)
  · refine lv_lload_n hx hb dX1_scaledDown_84 rfl (lv_at hl 0 rfl) ?_
    exact W.lret (v := x3) hx hb hr (fun t ht _ => ⟨_, rfl, by rw [hg]; unfold fn_X1_scaledDown_73; rw [if_pos c_1], ht⟩) (fun _ h => by cases h) dX1_scaledDown_85
  · refine lv_lload_n hx hb dX1_scaledDown_78 rfl (lv_at hl 0 rfl) ?_
    refine lv_lconst (v := (1 : Int64)) hx hb dX1_scaledDown_79 (by decide) ?_
    refine lv_ladd hx hb dX1_scaledDown_80 ?_
    refine lv_goto (tgt := 85) hx hb dX1_scaledDown_81 (by decide) ?_
    exact W.lret (v := x3 + (1 : Int64)) hx hb hr (fun t ht _ => ⟨_, rfl, by rw [hg]; unfold fn_X1_scaledDown_73; rw [if_neg c_1], ht⟩) (fun _ h => by cases h) dX1_scaledDown_85
def fn_X1_scaledDown_42 (x3 : Int64) (x5 : Int64) (x7 : Int64) : Int64 :=
  if x7 < x5 then
    fn_X1_scaledDown_73 x3 (1 : Int32)
  else
    if x5 = x7 then
      if (x3 &&& (1 : Int64)) = (0 : Int64) then
        fn_X1_scaledDown_73 x3 (0 : Int32)
      else
        fn_X1_scaledDown_73 x3 (1 : Int32)
    else
      fn_X1_scaledDown_73 x3 (0 : Int32)
set_option maxHeartbeats 4000000 in
set_option maxRecDepth 100000 in
theorem sg_X1_scaledDown_42 {p : Program} {l : Launch} {e : Env} {s : State} {m : MethodId} {args : Array Value} {below : List Frame} {meth : Method} {c : Code} {ls : Array Slot} {g : Int64} (hx : p.tables.exec = Jvm.exec) (hb : c.code = cX1_scaledDown) (hr : meth.sig.returnType = (some .long)) (hml : c.maxLocals = 10) (hts : ∀ w ∈ wsX1_scaledDown, w.before args s = true) (hown : s.vm.findClass RX1 = some m.cls) (hlocks : meth.locks = false) (x3 : Int64) (x5 : Int64) (x7 : Int64) (hg : g = fn_X1_scaledDown_42 x3 x5 x7) (hl : lv_has ls 10 [(3, .long x3), (5, .long x5), (7, .long x7)]) : W p l e ({ frames := 1, cells := 0, slots := 0, locals := 23 } : Room) s m args below meth c s.heap [] 0 0 (MQ below (vp_Sl (fun r => r = g)) args s 0 0 (fun _ => False)) (F0 m 42 ls []) := by
  have hS : va_S (fun _ => False) s.heap s.heap [] := va_S.rf
  refine lv_lload hx hb dX1_scaledDown_42 (lv_at hl 1 rfl) ?_
  refine lv_lload hx hb dX1_scaledDown_44 (lv_at hl 2 rfl) ?_
  refine zl_gt (tgt := 66) hx hb dX1_scaledDown_46 dX1_scaledDown_47 (by decide) (fun c_1 => ?_) (fun c_1 => ?_)
  · refine lv_iconst (v := (1 : Int32)) hx hb dX1_scaledDown_66 (by decide) ?_
    refine lv_goto (tgt := 71) hx hb dX1_scaledDown_67 (by decide) ?_
    refine lv_istore (lv' := [(9, .int (1 : Int32)), (3, .long x3), (5, .long x5), (7, .long x7)]) hx hb dX1_scaledDown_71 hl (by decide) rfl (fun ls hl => ?_)
    exact sg_X1_scaledDown_73 hx hb hr hml hts hown hlocks x3 (1 : Int32) (by rw [hg]; unfold fn_X1_scaledDown_42; rw [if_pos c_1])  (lv_sub hl [1, 0] rfl)
  · refine lv_lload hx hb dX1_scaledDown_50 (lv_at hl 1 rfl) ?_
    refine lv_lload hx hb dX1_scaledDown_52 (lv_at hl 2 rfl) ?_
    refine zl_ne (tgt := 70) hx hb dX1_scaledDown_54 dX1_scaledDown_55 (by decide) (fun c_2 => ?_) (fun c_2 => ?_)
    · refine lv_iconst (v := (0 : Int32)) hx hb dX1_scaledDown_70 (by decide) ?_
      refine lv_istore (lv' := [(9, .int (0 : Int32)), (3, .long x3), (5, .long x5), (7, .long x7)]) hx hb dX1_scaledDown_71 hl (by decide) rfl (fun ls hl => ?_)
      exact sg_X1_scaledDown_73 hx hb hr hml hts hown hlocks x3 (0 : Int32) (by rw [hg]; unfold fn_X1_scaledDown_42; rw [if_neg c_1, if_neg c_2])  (lv_sub hl [1, 0] rfl)
    · refine lv_lload_n hx hb dX1_scaledDown_58 rfl (lv_at hl 0 rfl) ?_
      refine lv_lconst (v := (1 : Int64)) hx hb dX1_scaledDown_59 (by decide) ?_
      refine lv_land hx hb dX1_scaledDown_60 ?_
      refine lv_lconst (v := (0 : Int64)) hx hb dX1_scaledDown_61 (by decide) ?_
      refine zl_eq (tgt := 70) hx hb dX1_scaledDown_62 dX1_scaledDown_63 (by decide) (fun c_3 => ?_) (fun c_3 => ?_)
      · refine lv_iconst (v := (0 : Int32)) hx hb dX1_scaledDown_70 (by decide) ?_
        refine lv_istore (lv' := [(9, .int (0 : Int32)), (3, .long x3), (5, .long x5), (7, .long x7)]) hx hb dX1_scaledDown_71 hl (by decide) rfl (fun ls hl => ?_)
        exact sg_X1_scaledDown_73 hx hb hr hml hts hown hlocks x3 (0 : Int32) (by rw [hg]; unfold fn_X1_scaledDown_42; rw [if_neg c_1, if_pos c_2, if_pos c_3])  (lv_sub hl [1, 0] rfl)
      · refine lv_iconst (v := (1 : Int32)) hx hb dX1_scaledDown_66 (by decide) ?_
        refine lv_goto (tgt := 71) hx hb dX1_scaledDown_67 (by decide) ?_
        refine lv_istore (lv' := [(9, .int (1 : Int32)), (3, .long x3), (5, .long x5), (7, .long x7)]) hx hb dX1_scaledDown_71 hl (by decide) rfl (fun ls hl => ?_)
        exact sg_X1_scaledDown_73 hx hb hr hml hts hown hlocks x3 (1 : Int32) (by rw [hg]; unfold fn_X1_scaledDown_42; rw [if_neg c_1, if_pos c_2, if_neg c_3])  (lv_sub hl [1, 0] rfl)
def fn_X1_scaledDown (v0 : Int64) (v2 : Int32) : Int64 :=
  if 0 < v2 then
    if v2 ≤ (63 : Int32) then
      fn_X1_scaledDown_42 ((Int64.toUInt64 v0 >>> (Int64.toUInt64 (Int32.toInt64 v2) &&& Int64.toUInt64 63)).toInt64) (v0 &&& (((1 : Int64) <<< (Int32.toInt64 v2 &&& 63)) - (1 : Int64))) ((1 : Int64) <<< (Int32.toInt64 (v2 - (1 : Int32)) &&& 63))
    else
      (0 : Int64)
  else
    v0 <<< (Int32.toInt64 (if (-v2) < (63 : Int32) then (-v2) else (63 : Int32)) &&& 63)
set_option maxHeartbeats 4000000 in
set_option maxRecDepth 100000 in
theorem ct_X1_scaledDown (l : Launch) (v0 : Int64) (v2 : Int32) : Met l yX1_scaledDown wsX1_scaledDown ({ frames := 1, cells := 0, slots := 0, locals := 23 } : Room) (va_Pc [.long v0, .int v2] (fun _ => True)) (vp_Sl (fun r => r = fn_X1_scaledDown v0 v2)) 0 0 (fun _ => False) := by
  refine Met.ofW (cc := cX1_scaledDown) (maxL := 10) (ret := (some .long)) (by decide) rfl ?_
  intro p e s m args below meth c s₁ B hml hv
  obtain ⟨rfl, hW⟩ := hv
  have hx := B.exec
  have hb := B.bytes
  have hr := B.returns
  have hlocks := B.notSynchronized
  have hts := atoms_spec (ws := wsX1_scaledDown) B.pre
  have hown : s.vm.findClass RX1 = some m.cls := findClass_of_methodNamed B.named
  have hS : va_S (fun _ => False) s.heap s.heap [] := va_S.rf
  have hl := lv_entry ([.long v0, .int v2]) (n := 10) (Nat.le_of_ble_eq_true rfl)
  rw [lg_entry_eq]
  generalize (lg_sl ([.long v0, .int v2]) ++ List.replicate (10 - (lg_sl ([.long v0, .int v2])).length) Slot.unset).toArray = ls at hl ⊢
  have hl : lv_has ls 10 [(0, .long v0), (2, .int v2)] := hl
  refine lv_iload_n hx hb dX1_scaledDown_0 rfl (lv_at hl 1 rfl) ?_
  refine lv_if_gt (tgt := 14) hx hb dX1_scaledDown_1 (by decide) (fun c_1 => ?_) (fun c_1 => ?_)
  · refine lv_iload_n hx hb dX1_scaledDown_14 rfl (lv_at hl 1 rfl) ?_
    refine lv_bipush (v := (63 : Int32)) hx hb dX1_scaledDown_15 (by decide) ?_
    refine lv_icmp_le (tgt := 22) hx hb dX1_scaledDown_17 (by decide) (fun c_2 => ?_) (fun c_2 => ?_)
    · refine lv_lload_n hx hb dX1_scaledDown_22 rfl (lv_at hl 0 rfl) ?_
      refine lv_iload_n hx hb dX1_scaledDown_23 rfl (lv_at hl 1 rfl) ?_
      refine lv_lushr hx hb dX1_scaledDown_24 rfl ?_
      refine lv_lstore_n (lv' := [(3, .long ((Int64.toUInt64 v0 >>> (Int64.toUInt64 (Int32.toInt64 v2) &&& Int64.toUInt64 63)).toInt64)), (0, .long v0), (2, .int v2)]) hx hb dX1_scaledDown_25 rfl hl (by decide) rfl (fun ls hl => ?_)
      refine lv_lload_n hx hb dX1_scaledDown_26 rfl (lv_at hl 1 rfl) ?_
      refine lv_lconst (v := (1 : Int64)) hx hb dX1_scaledDown_27 (by decide) ?_
      refine lv_iload_n hx hb dX1_scaledDown_28 rfl (lv_at hl 2 rfl) ?_
      refine lv_lshl hx hb dX1_scaledDown_29 rfl ?_
      refine lv_lconst (v := (1 : Int64)) hx hb dX1_scaledDown_30 (by decide) ?_
      refine lv_lsub hx hb dX1_scaledDown_31 ?_
      refine lv_land hx hb dX1_scaledDown_32 ?_
      refine lv_lstore (lv' := [(5, .long (v0 &&& (((1 : Int64) <<< (Int32.toInt64 v2 &&& 63)) - (1 : Int64)))), (3, .long ((Int64.toUInt64 v0 >>> (Int64.toUInt64 (Int32.toInt64 v2) &&& Int64.toUInt64 63)).toInt64)), (0, .long v0), (2, .int v2)]) hx hb dX1_scaledDown_33 hl (by decide) rfl (fun ls hl => ?_)
      refine lv_lconst (v := (1 : Int64)) hx hb dX1_scaledDown_35 (by decide) ?_
      refine lv_iload_n hx hb dX1_scaledDown_36 rfl (lv_at hl 3 rfl) ?_
      refine lv_iconst (v := (1 : Int32)) hx hb dX1_scaledDown_37 (by decide) ?_
      refine lv_isub hx hb dX1_scaledDown_38 ?_
      refine lv_lshl hx hb dX1_scaledDown_39 rfl ?_
      refine lv_lstore (lv' := [(7, .long ((1 : Int64) <<< (Int32.toInt64 (v2 - (1 : Int32)) &&& 63))), (5, .long (v0 &&& (((1 : Int64) <<< (Int32.toInt64 v2 &&& 63)) - (1 : Int64)))), (3, .long ((Int64.toUInt64 v0 >>> (Int64.toUInt64 (Int32.toInt64 v2) &&& Int64.toUInt64 63)).toInt64)), (0, .long v0), (2, .int v2)]) hx hb dX1_scaledDown_40 hl (by decide) rfl (fun ls hl => ?_)
      exact sg_X1_scaledDown_42 hx hb hr hml hts hown hlocks ((Int64.toUInt64 v0 >>> (Int64.toUInt64 (Int32.toInt64 v2) &&& Int64.toUInt64 63)).toInt64) (v0 &&& (((1 : Int64) <<< (Int32.toInt64 v2 &&& 63)) - (1 : Int64))) ((1 : Int64) <<< (Int32.toInt64 (v2 - (1 : Int32)) &&& 63)) (by unfold fn_X1_scaledDown; rw [if_pos c_1, if_pos c_2])  (lv_sub hl [2, 1, 0] rfl)
    · refine lv_lconst (v := (0 : Int64)) hx hb dX1_scaledDown_20 (by decide) ?_
      exact W.lret (v := (0 : Int64)) hx hb hr (fun t ht _ => ⟨_, rfl, by unfold fn_X1_scaledDown; rw [if_pos c_1, if_neg c_2], ht⟩) (fun _ h => by cases h) dX1_scaledDown_21
  · refine lv_lload_n hx hb dX1_scaledDown_4 rfl (lv_at hl 0 rfl) ?_
    refine lv_bipush (v := (63 : Int32)) hx hb dX1_scaledDown_5 (by decide) ?_
    refine lv_iload_n hx hb dX1_scaledDown_7 rfl (lv_at hl 1 rfl) ?_
    refine lv_ineg hx hb dX1_scaledDown_8 ?_
    refine va_mmin hx hb (hml.trans hl.1.symm) hown (hts (.methodLink RX1 136 Lib.Math.min.name) (by decide +kernel)) (hts (.static Lib.Math.min.name) (by decide +kernel)) (hts (.initialized "java/lang/Math") (by decide +kernel)) (hts (.code Lib.Math.min.name Lib.Math.min.code 2 (some .int)) (by decide +kernel)) (Nat.le_of_ble_eq_true rfl) (Nat.le_of_ble_eq_true rfl) (Nat.zero_le _) (Nat.zero_le _) dX1_scaledDown_9 ?_
    refine lv_lshl hx hb dX1_scaledDown_12 rfl ?_
    exact W.lret (v := v0 <<< (Int32.toInt64 (if (-v2) < (63 : Int32) then (-v2) else (63 : Int32)) &&& 63)) hx hb hr (fun t ht _ => ⟨_, rfl, by unfold fn_X1_scaledDown; rw [if_neg c_1], ht⟩) (fun _ h => by cases h) dX1_scaledDown_13
def fn_X1_nearest (k : Nat) (v1 : Int64) : Int64 :=
  if (fn_X1_one k) ≤ v1 then
    (fn_X1_scaledDown v1 (fn_X1_bitsBelowUnit k v1)) <<< (Int32.toInt64 (fn_X1_bitsBelowUnit k v1) &&& 63)
  else
    if v1 ≤ ((fn_X1_one k) - ((1 : Int64) <<< (Int32.toInt64 (kR k) &&& 63))) then
      (0 : Int64)
    else
      fn_X1_one k
set_option maxHeartbeats 4000000 in
set_option maxRecDepth 100000 in
theorem ct_X1_nearest (l : Launch) (ad : Nat → Nat) (k : Nat) (hk_k : k < 4) (v1 : Int64) : Met l yX1_nearest wsX1_nearest ({ frames := 2, cells := 0, slots := 0, locals := 52 } : Room) (va_Pc [.ref (ad k), .long v1] (fun U => kw ad (fun _ => False) U U.heap)) (vp_Sl (fun r => r = fn_X1_nearest k v1)) 0 0 (fun _ => False) := by
  refine Met.ofW (cc := cX1_nearest) (maxL := 5) (ret := (some .long)) (by decide) rfl ?_
  intro p e s m args below meth c s₁ B hml hv
  obtain ⟨rfl, hW⟩ := hv
  have hx := B.exec
  have hb := B.bytes
  have hr := B.returns
  have hlocks := B.notSynchronized
  have hts := atoms_spec (ws := wsX1_nearest) B.pre
  have hown : s.vm.findClass RX1 = some m.cls := findClass_of_methodNamed B.named
  have hS : va_S (fun _ => False) s.heap s.heap [] := va_S.rf
  have hl := lv_entry ([.ref (ad k), .long v1]) (n := 5) (Nat.le_of_ble_eq_true rfl)
  rw [lg_entry_eq]
  generalize (lg_sl ([.ref (ad k), .long v1]) ++ List.replicate (5 - (lg_sl ([.ref (ad k), .long v1])).length) Slot.unset).toArray = ls at hl ⊢
  have hl : lv_has ls 5 [(0, .ref (ad k)), (1, .long v1)] := hl
  refine lv_lload_n hx hb dX1_nearest_0 rfl (lv_at hl 1 rfl) ?_
  refine lv_aload_n hx hb dX1_nearest_1 rfl (lv_at hl 0 rfl) ?_
  refine vp_callSl (W.runV (As := []) (rest := [.long v1]) ⟨hx, hb, hml, hown, hts⟩ (ct_X1_one l ad k hk_k) (cwV 0 hts gX1_nearest_X1_one rfl rfl rfl (by decide +kernel) ⟨Nat.le_of_ble_eq_true rfl, Nat.le_of_ble_eq_true rfl⟩) ⟨(fun a U g mk q => ⟨q.1, kw_blind q.2⟩), kw_recv hW hS hk_k, fun U hU hW9 => ⟨rfl, kw_call hW hS hU hW9⟩⟩ rfl rfl hl.1 rfl (lv_room (Nat.le_of_ble_eq_true rfl)) dX1_nearest_2 ⟨Nat.zero_le _, Nat.zero_le _⟩) (fun r er => ?_)
  subst er
  refine zl_ge (tgt := 36) hx hb dX1_nearest_5 dX1_nearest_6 (by decide) (fun c_1 => ?_) (fun c_1 => ?_)
  · refine lv_aload_n hx hb dX1_nearest_36 rfl (lv_at hl 0 rfl) ?_
    refine lv_lload_n hx hb dX1_nearest_37 rfl (lv_at hl 1 rfl) ?_
    refine vp_callSi (W.runV (As := [.long v1]) (rest := []) ⟨hx, hb, hml, hown, hts⟩ (ct_X1_bitsBelowUnit l ad k hk_k v1) (cwV 1 hts gX1_nearest_X1_bitsBelowUnit rfl rfl rfl (by decide +kernel) ⟨Nat.le_of_ble_eq_true rfl, Nat.le_of_ble_eq_true rfl⟩) ⟨(fun a U g mk q => ⟨q.1, kw_blind q.2⟩), kw_recv hW hS hk_k, fun U hU hW9 => ⟨rfl, kw_call hW hS hU hW9⟩⟩ rfl rfl hl.1 rfl (lv_room (Nat.le_of_ble_eq_true rfl)) dX1_nearest_38 ⟨Nat.zero_le _, Nat.zero_le _⟩) (fun r er => ?_)
    subst er
    refine lv_istore_n (lv' := [(3, .int (fn_X1_bitsBelowUnit k v1)), (0, .ref (ad k)), (1, .long v1)]) hx hb dX1_nearest_41 rfl hl (by decide) rfl (fun ls hl => ?_)
    refine lv_lload_n hx hb dX1_nearest_42 rfl (lv_at hl 2 rfl) ?_
    refine lv_iload_n hx hb dX1_nearest_43 rfl (lv_at hl 0 rfl) ?_
    refine vp_callSl (W.runS (As := [.long v1, .int (fn_X1_bitsBelowUnit k v1)]) (rest := []) ⟨hx, hb, hml, hown, hts⟩ (ct_X1_scaledDown l v1 (fn_X1_bitsBelowUnit k v1)) (va_cwS 2 hts gX1_nearest_X1_scaledDown rfl rfl rfl (by decide +kernel) ⟨Nat.le_of_ble_eq_true rfl, Nat.le_of_ble_eq_true rfl⟩) ⟨(fun a U g mk q => ⟨q.1, trivial⟩), fun U hU hW9 => ⟨rfl, trivial⟩⟩ rfl rfl hl.1 rfl (lv_room (Nat.le_of_ble_eq_true rfl)) dX1_nearest_44 ⟨Nat.zero_le _, Nat.zero_le _⟩) (fun r er => ?_)
    subst er
    refine lv_iload_n hx hb dX1_nearest_47 rfl (lv_at hl 0 rfl) ?_
    refine lv_lshl hx hb dX1_nearest_48 rfl ?_
    exact W.lret (v := (fn_X1_scaledDown v1 (fn_X1_bitsBelowUnit k v1)) <<< (Int32.toInt64 (fn_X1_bitsBelowUnit k v1) &&& 63)) hx hb hr (fun t ht _ => ⟨_, rfl, by unfold fn_X1_nearest; rw [if_pos c_1], ht⟩) (fun _ h => by cases h) dX1_nearest_49
  · refine lv_aload_n hx hb dX1_nearest_9 rfl (lv_at hl 0 rfl) ?_
    refine vp_callSl (W.runV (As := []) (rest := []) ⟨hx, hb, hml, hown, hts⟩ (ct_X1_one l ad k hk_k) (cwV 0 hts gX1_nearest_X1_one rfl rfl rfl (by decide +kernel) ⟨Nat.le_of_ble_eq_true rfl, Nat.le_of_ble_eq_true rfl⟩) ⟨(fun a U g mk q => ⟨q.1, kw_blind q.2⟩), kw_recv hW hS hk_k, fun U hU hW9 => ⟨rfl, kw_call hW hS hU hW9⟩⟩ rfl rfl hl.1 rfl (lv_room (Nat.le_of_ble_eq_true rfl)) dX1_nearest_10 ⟨Nat.zero_le _, Nat.zero_le _⟩) (fun r er => ?_)
    subst er
    refine lv_lconst (v := (1 : Int64)) hx hb dX1_nearest_13 (by decide) ?_
    refine lv_aload_n hx hb dX1_nearest_14 rfl (lv_at hl 0 rfl) ?_
    refine kg_fraction hx hb hW hk_k hS hown (hts (.fieldLink RX1 43 "ServoDesk$Kind" "fraction" "I") (by decide +kernel)) dX1_nearest_15 ?_
    refine lv_lshl hx hb dX1_nearest_18 rfl ?_
    refine lv_lsub hx hb dX1_nearest_19 ?_
    refine lv_lstore_n (lv' := [(3, .long ((fn_X1_one k) - ((1 : Int64) <<< (Int32.toInt64 (kR k) &&& 63)))), (0, .ref (ad k)), (1, .long v1)]) hx hb dX1_nearest_20 rfl hl (by decide) rfl (fun ls hl => ?_)
    refine lv_lload_n hx hb dX1_nearest_21 rfl (lv_at hl 2 rfl) ?_
    refine lv_lload_n hx hb dX1_nearest_22 rfl (lv_at hl 0 rfl) ?_
    refine zl_le (tgt := 34) hx hb dX1_nearest_23 dX1_nearest_24 (by decide) (fun c_2 => ?_) (fun c_2 => ?_)
    · refine lv_lconst (v := (0 : Int64)) hx hb dX1_nearest_34 (by decide) ?_
      exact W.lret (v := (0 : Int64)) hx hb hr (fun t ht _ => ⟨_, rfl, by unfold fn_X1_nearest; rw [if_neg c_1, if_pos c_2], ht⟩) (fun _ h => by cases h) dX1_nearest_35
    · refine lv_aload_n hx hb dX1_nearest_27 rfl (lv_at hl 1 rfl) ?_
      refine vp_callSl (W.runV (As := []) (rest := []) ⟨hx, hb, hml, hown, hts⟩ (ct_X1_one l ad k hk_k) (cwV 0 hts gX1_nearest_X1_one rfl rfl rfl (by decide +kernel) ⟨Nat.le_of_ble_eq_true rfl, Nat.le_of_ble_eq_true rfl⟩) ⟨(fun a U g mk q => ⟨q.1, kw_blind q.2⟩), kw_recv hW hS hk_k, fun U hU hW9 => ⟨rfl, kw_call hW hS hU hW9⟩⟩ rfl rfl hl.1 rfl (lv_room (Nat.le_of_ble_eq_true rfl)) dX1_nearest_28 ⟨Nat.zero_le _, Nat.zero_le _⟩) (fun r er => ?_)
      subst er
      refine lv_goto (tgt := 35) hx hb dX1_nearest_31 (by decide) ?_
      exact W.lret (v := fn_X1_one k) hx hb hr (fun t ht _ => ⟨_, rfl, by unfold fn_X1_nearest; rw [if_neg c_1, if_neg c_2], ht⟩) (fun _ h => by cases h) dX1_nearest_35
def fn_X1_wholeBelow (k : Nat) (v1 : Int64) : Int64 :=
  if (kF k) = 0 then
    v1
  else
    if (0 : Int64) ≤ v1 then
      fn_X1_turned k (fn_X1_inward k (fn_X1_sized k v1)) v1
    else
      fn_X1_turned k (fn_X1_outward k (fn_X1_sized k v1)) v1
set_option maxHeartbeats 4000000 in
set_option maxRecDepth 100000 in
theorem ct_X1_wholeBelow (l : Launch) (ad : Nat → Nat) (k : Nat) (hk_k : k < 4) (v1 : Int64) : Met l yX1_wholeBelow wsX1_wholeBelow ({ frames := 3, cells := 0, slots := 0, locals := 71 } : Room) (va_Pc [.ref (ad k), .long v1] (fun U => kw ad (fun _ => False) U U.heap)) (vp_Sl (fun r => r = fn_X1_wholeBelow k v1)) 0 0 (fun _ => False) := by
  refine Met.ofW (cc := cX1_wholeBelow) (maxL := 5) (ret := (some .long)) (by decide) rfl ?_
  intro p e s m args below meth c s₁ B hml hv
  obtain ⟨rfl, hW⟩ := hv
  have hx := B.exec
  have hb := B.bytes
  have hr := B.returns
  have hlocks := B.notSynchronized
  have hts := atoms_spec (ws := wsX1_wholeBelow) B.pre
  have hown : s.vm.findClass RX1 = some m.cls := findClass_of_methodNamed B.named
  have hS : va_S (fun _ => False) s.heap s.heap [] := va_S.rf
  have hl := lv_entry ([.ref (ad k), .long v1]) (n := 5) (Nat.le_of_ble_eq_true rfl)
  rw [lg_entry_eq]
  generalize (lg_sl ([.ref (ad k), .long v1]) ++ List.replicate (5 - (lg_sl ([.ref (ad k), .long v1])).length) Slot.unset).toArray = ls at hl ⊢
  have hl : lv_has ls 5 [(0, .ref (ad k)), (1, .long v1)] := hl
  refine lv_aload_n hx hb dX1_wholeBelow_0 rfl (lv_at hl 0 rfl) ?_
  refine kg_floating hx hb hW hk_k hS hown (hts (.fieldLink RX1 39 "ServoDesk$Kind" "floating" "Z") (by decide +kernel)) dX1_wholeBelow_1 ?_
  refine lv_if_ne (tgt := 9) hx hb dX1_wholeBelow_4 (by decide) (fun c_1 => ?_) (fun c_1 => ?_)
  · refine lv_aload_n hx hb dX1_wholeBelow_9 rfl (lv_at hl 0 rfl) ?_
    refine lv_lload_n hx hb dX1_wholeBelow_10 rfl (lv_at hl 1 rfl) ?_
    refine vp_callSl (W.runV (As := [.long v1]) (rest := []) ⟨hx, hb, hml, hown, hts⟩ (ct_X1_sized l ad k hk_k v1) (cwV 1 hts gX1_wholeBelow_X1_sized rfl rfl rfl (by decide +kernel) ⟨Nat.le_of_ble_eq_true rfl, Nat.le_of_ble_eq_true rfl⟩) ⟨(fun a U g mk q => ⟨q.1, kw_blind q.2⟩), kw_recv hW hS hk_k, fun U hU hW9 => ⟨rfl, kw_call hW hS hU hW9⟩⟩ rfl rfl hl.1 rfl (lv_room (Nat.le_of_ble_eq_true rfl)) dX1_wholeBelow_11 ⟨Nat.zero_le _, Nat.zero_le _⟩) (fun r er => ?_)
    subst er
    refine lv_lstore_n (lv' := [(3, .long (fn_X1_sized k v1)), (0, .ref (ad k)), (1, .long v1)]) hx hb dX1_wholeBelow_14 rfl hl (by decide) rfl (fun ls hl => ?_)
    refine lv_aload_n hx hb dX1_wholeBelow_15 rfl (lv_at hl 1 rfl) ?_
    refine lv_lload_n hx hb dX1_wholeBelow_16 rfl (lv_at hl 2 rfl) ?_
    refine lv_lconst (v := (0 : Int64)) hx hb dX1_wholeBelow_17 (by decide) ?_
    refine zl_ge (tgt := 30) hx hb dX1_wholeBelow_18 dX1_wholeBelow_19 (by decide) (fun c_2 => ?_) (fun c_2 => ?_)
    · refine lv_aload_n hx hb dX1_wholeBelow_30 rfl (lv_at hl 1 rfl) ?_
      refine lv_lload_n hx hb dX1_wholeBelow_31 rfl (lv_at hl 0 rfl) ?_
      refine vp_callSl (W.runV (As := [.long (fn_X1_sized k v1)]) (rest := [.ref (ad k)]) ⟨hx, hb, hml, hown, hts⟩ (ct_X1_inward l ad k hk_k (fn_X1_sized k v1)) (cwV 1 hts gX1_wholeBelow_X1_inward rfl rfl rfl (by decide +kernel) ⟨Nat.le_of_ble_eq_true rfl, Nat.le_of_ble_eq_true rfl⟩) ⟨(fun a U g mk q => ⟨q.1, kw_blind q.2⟩), kw_recv hW hS hk_k, fun U hU hW9 => ⟨rfl, kw_call hW hS hU hW9⟩⟩ rfl rfl hl.1 rfl (lv_room (Nat.le_of_ble_eq_true rfl)) dX1_wholeBelow_32 ⟨Nat.zero_le _, Nat.zero_le _⟩) (fun r er => ?_)
      subst er
      refine lv_lload_n hx hb dX1_wholeBelow_35 rfl (lv_at hl 2 rfl) ?_
      refine vp_callSl (W.runV (As := [.long (fn_X1_inward k (fn_X1_sized k v1)), .long v1]) (rest := []) ⟨hx, hb, hml, hown, hts⟩ (ct_X1_turned l ad k hk_k (fn_X1_inward k (fn_X1_sized k v1)) v1) (cwV 2 hts gX1_wholeBelow_X1_turned rfl rfl rfl (by decide +kernel) ⟨Nat.le_of_ble_eq_true rfl, Nat.le_of_ble_eq_true rfl⟩) ⟨(fun a U g mk q => ⟨q.1, kw_blind q.2⟩), kw_recv hW hS hk_k, fun U hU hW9 => ⟨rfl, kw_call hW hS hU hW9⟩⟩ rfl rfl hl.1 rfl (lv_room (Nat.le_of_ble_eq_true rfl)) dX1_wholeBelow_36 ⟨Nat.zero_le _, Nat.zero_le _⟩) (fun r er => ?_)
      subst er
      exact W.lret (v := fn_X1_turned k (fn_X1_inward k (fn_X1_sized k v1)) v1) hx hb hr (fun t ht _ => ⟨_, rfl, by unfold fn_X1_wholeBelow; rw [if_neg c_1, if_pos c_2], ht⟩) (fun _ h => by cases h) dX1_wholeBelow_39
    · refine lv_aload_n hx hb dX1_wholeBelow_22 rfl (lv_at hl 1 rfl) ?_
      refine lv_lload_n hx hb dX1_wholeBelow_23 rfl (lv_at hl 0 rfl) ?_
      refine vp_callSl (W.runV (As := [.long (fn_X1_sized k v1)]) (rest := [.ref (ad k)]) ⟨hx, hb, hml, hown, hts⟩ (ct_X1_outward l ad k hk_k (fn_X1_sized k v1)) (cwV 1 hts gX1_wholeBelow_X1_outward rfl rfl rfl (by decide +kernel) ⟨Nat.le_of_ble_eq_true rfl, Nat.le_of_ble_eq_true rfl⟩) ⟨(fun a U g mk q => ⟨q.1, kw_blind q.2⟩), kw_recv hW hS hk_k, fun U hU hW9 => ⟨rfl, kw_call hW hS hU hW9⟩⟩ rfl rfl hl.1 rfl (lv_room (Nat.le_of_ble_eq_true rfl)) dX1_wholeBelow_24 ⟨Nat.zero_le _, Nat.zero_le _⟩) (fun r er => ?_)
      subst er
      refine lv_goto (tgt := 35) hx hb dX1_wholeBelow_27 (by decide) ?_
      refine lv_lload_n hx hb dX1_wholeBelow_35 rfl (lv_at hl 2 rfl) ?_
      refine vp_callSl (W.runV (As := [.long (fn_X1_outward k (fn_X1_sized k v1)), .long v1]) (rest := []) ⟨hx, hb, hml, hown, hts⟩ (ct_X1_turned l ad k hk_k (fn_X1_outward k (fn_X1_sized k v1)) v1) (cwV 2 hts gX1_wholeBelow_X1_turned rfl rfl rfl (by decide +kernel) ⟨Nat.le_of_ble_eq_true rfl, Nat.le_of_ble_eq_true rfl⟩) ⟨(fun a U g mk q => ⟨q.1, kw_blind q.2⟩), kw_recv hW hS hk_k, fun U hU hW9 => ⟨rfl, kw_call hW hS hU hW9⟩⟩ rfl rfl hl.1 rfl (lv_room (Nat.le_of_ble_eq_true rfl)) dX1_wholeBelow_36 ⟨Nat.zero_le _, Nat.zero_le _⟩) (fun r er => ?_)
      subst er
      exact W.lret (v := fn_X1_turned k (fn_X1_outward k (fn_X1_sized k v1)) v1) hx hb hr (fun t ht _ => ⟨_, rfl, by unfold fn_X1_wholeBelow; rw [if_neg c_1, if_neg c_2], ht⟩) (fun _ h => by cases h) dX1_wholeBelow_39
  · refine lv_lload_n hx hb dX1_wholeBelow_7 rfl (lv_at hl 1 rfl) ?_
    exact W.lret (v := v1) hx hb hr (fun t ht _ => ⟨_, rfl, by unfold fn_X1_wholeBelow; rw [if_pos c_1], ht⟩) (fun _ h => by cases h) dX1_wholeBelow_8
def fn_X1_wholeAbove (k : Nat) (v1 : Int64) : Int64 :=
  if (kF k) = 0 then
    v1
  else
    if (0 : Int64) ≤ v1 then
      fn_X1_turned k (fn_X1_outward k (fn_X1_sized k v1)) v1
    else
      fn_X1_turned k (fn_X1_inward k (fn_X1_sized k v1)) v1
set_option maxHeartbeats 4000000 in
set_option maxRecDepth 100000 in
theorem ct_X1_wholeAbove (l : Launch) (ad : Nat → Nat) (k : Nat) (hk_k : k < 4) (v1 : Int64) : Met l yX1_wholeAbove wsX1_wholeAbove ({ frames := 3, cells := 0, slots := 0, locals := 71 } : Room) (va_Pc [.ref (ad k), .long v1] (fun U => kw ad (fun _ => False) U U.heap)) (vp_Sl (fun r => r = fn_X1_wholeAbove k v1)) 0 0 (fun _ => False) := by
  refine Met.ofW (cc := cX1_wholeAbove) (maxL := 5) (ret := (some .long)) (by decide) rfl ?_
  intro p e s m args below meth c s₁ B hml hv
  obtain ⟨rfl, hW⟩ := hv
  have hx := B.exec
  have hb := B.bytes
  have hr := B.returns
  have hlocks := B.notSynchronized
  have hts := atoms_spec (ws := wsX1_wholeAbove) B.pre
  have hown : s.vm.findClass RX1 = some m.cls := findClass_of_methodNamed B.named
  have hS : va_S (fun _ => False) s.heap s.heap [] := va_S.rf
  have hl := lv_entry ([.ref (ad k), .long v1]) (n := 5) (Nat.le_of_ble_eq_true rfl)
  rw [lg_entry_eq]
  generalize (lg_sl ([.ref (ad k), .long v1]) ++ List.replicate (5 - (lg_sl ([.ref (ad k), .long v1])).length) Slot.unset).toArray = ls at hl ⊢
  have hl : lv_has ls 5 [(0, .ref (ad k)), (1, .long v1)] := hl
  refine lv_aload_n hx hb dX1_wholeAbove_0 rfl (lv_at hl 0 rfl) ?_
  refine kg_floating hx hb hW hk_k hS hown (hts (.fieldLink RX1 39 "ServoDesk$Kind" "floating" "Z") (by decide +kernel)) dX1_wholeAbove_1 ?_
  refine lv_if_ne (tgt := 9) hx hb dX1_wholeAbove_4 (by decide) (fun c_1 => ?_) (fun c_1 => ?_)
  · refine lv_aload_n hx hb dX1_wholeAbove_9 rfl (lv_at hl 0 rfl) ?_
    refine lv_lload_n hx hb dX1_wholeAbove_10 rfl (lv_at hl 1 rfl) ?_
    refine vp_callSl (W.runV (As := [.long v1]) (rest := []) ⟨hx, hb, hml, hown, hts⟩ (ct_X1_sized l ad k hk_k v1) (cwV 1 hts gX1_wholeAbove_X1_sized rfl rfl rfl (by decide +kernel) ⟨Nat.le_of_ble_eq_true rfl, Nat.le_of_ble_eq_true rfl⟩) ⟨(fun a U g mk q => ⟨q.1, kw_blind q.2⟩), kw_recv hW hS hk_k, fun U hU hW9 => ⟨rfl, kw_call hW hS hU hW9⟩⟩ rfl rfl hl.1 rfl (lv_room (Nat.le_of_ble_eq_true rfl)) dX1_wholeAbove_11 ⟨Nat.zero_le _, Nat.zero_le _⟩) (fun r er => ?_)
    subst er
    refine lv_lstore_n (lv' := [(3, .long (fn_X1_sized k v1)), (0, .ref (ad k)), (1, .long v1)]) hx hb dX1_wholeAbove_14 rfl hl (by decide) rfl (fun ls hl => ?_)
    refine lv_aload_n hx hb dX1_wholeAbove_15 rfl (lv_at hl 1 rfl) ?_
    refine lv_lload_n hx hb dX1_wholeAbove_16 rfl (lv_at hl 2 rfl) ?_
    refine lv_lconst (v := (0 : Int64)) hx hb dX1_wholeAbove_17 (by decide) ?_
    refine zl_ge (tgt := 30) hx hb dX1_wholeAbove_18 dX1_wholeAbove_19 (by decide) (fun c_2 => ?_) (fun c_2 => ?_)
    · refine lv_aload_n hx hb dX1_wholeAbove_30 rfl (lv_at hl 1 rfl) ?_
      refine lv_lload_n hx hb dX1_wholeAbove_31 rfl (lv_at hl 0 rfl) ?_
      refine vp_callSl (W.runV (As := [.long (fn_X1_sized k v1)]) (rest := [.ref (ad k)]) ⟨hx, hb, hml, hown, hts⟩ (ct_X1_outward l ad k hk_k (fn_X1_sized k v1)) (cwV 1 hts gX1_wholeAbove_X1_outward rfl rfl rfl (by decide +kernel) ⟨Nat.le_of_ble_eq_true rfl, Nat.le_of_ble_eq_true rfl⟩) ⟨(fun a U g mk q => ⟨q.1, kw_blind q.2⟩), kw_recv hW hS hk_k, fun U hU hW9 => ⟨rfl, kw_call hW hS hU hW9⟩⟩ rfl rfl hl.1 rfl (lv_room (Nat.le_of_ble_eq_true rfl)) dX1_wholeAbove_32 ⟨Nat.zero_le _, Nat.zero_le _⟩) (fun r er => ?_)
      subst er
      refine lv_lload_n hx hb dX1_wholeAbove_35 rfl (lv_at hl 2 rfl) ?_
      refine vp_callSl (W.runV (As := [.long (fn_X1_outward k (fn_X1_sized k v1)), .long v1]) (rest := []) ⟨hx, hb, hml, hown, hts⟩ (ct_X1_turned l ad k hk_k (fn_X1_outward k (fn_X1_sized k v1)) v1) (cwV 2 hts gX1_wholeAbove_X1_turned rfl rfl rfl (by decide +kernel) ⟨Nat.le_of_ble_eq_true rfl, Nat.le_of_ble_eq_true rfl⟩) ⟨(fun a U g mk q => ⟨q.1, kw_blind q.2⟩), kw_recv hW hS hk_k, fun U hU hW9 => ⟨rfl, kw_call hW hS hU hW9⟩⟩ rfl rfl hl.1 rfl (lv_room (Nat.le_of_ble_eq_true rfl)) dX1_wholeAbove_36 ⟨Nat.zero_le _, Nat.zero_le _⟩) (fun r er => ?_)
      subst er
      exact W.lret (v := fn_X1_turned k (fn_X1_outward k (fn_X1_sized k v1)) v1) hx hb hr (fun t ht _ => ⟨_, rfl, by unfold fn_X1_wholeAbove; rw [if_neg c_1, if_pos c_2], ht⟩) (fun _ h => by cases h) dX1_wholeAbove_39
    · refine lv_aload_n hx hb dX1_wholeAbove_22 rfl (lv_at hl 1 rfl) ?_
      refine lv_lload_n hx hb dX1_wholeAbove_23 rfl (lv_at hl 0 rfl) ?_
      refine vp_callSl (W.runV (As := [.long (fn_X1_sized k v1)]) (rest := [.ref (ad k)]) ⟨hx, hb, hml, hown, hts⟩ (ct_X1_inward l ad k hk_k (fn_X1_sized k v1)) (cwV 1 hts gX1_wholeAbove_X1_inward rfl rfl rfl (by decide +kernel) ⟨Nat.le_of_ble_eq_true rfl, Nat.le_of_ble_eq_true rfl⟩) ⟨(fun a U g mk q => ⟨q.1, kw_blind q.2⟩), kw_recv hW hS hk_k, fun U hU hW9 => ⟨rfl, kw_call hW hS hU hW9⟩⟩ rfl rfl hl.1 rfl (lv_room (Nat.le_of_ble_eq_true rfl)) dX1_wholeAbove_24 ⟨Nat.zero_le _, Nat.zero_le _⟩) (fun r er => ?_)
      subst er
      refine lv_goto (tgt := 35) hx hb dX1_wholeAbove_27 (by decide) ?_
      refine lv_lload_n hx hb dX1_wholeAbove_35 rfl (lv_at hl 2 rfl) ?_
      refine vp_callSl (W.runV (As := [.long (fn_X1_inward k (fn_X1_sized k v1)), .long v1]) (rest := []) ⟨hx, hb, hml, hown, hts⟩ (ct_X1_turned l ad k hk_k (fn_X1_inward k (fn_X1_sized k v1)) v1) (cwV 2 hts gX1_wholeAbove_X1_turned rfl rfl rfl (by decide +kernel) ⟨Nat.le_of_ble_eq_true rfl, Nat.le_of_ble_eq_true rfl⟩) ⟨(fun a U g mk q => ⟨q.1, kw_blind q.2⟩), kw_recv hW hS hk_k, fun U hU hW9 => ⟨rfl, kw_call hW hS hU hW9⟩⟩ rfl rfl hl.1 rfl (lv_room (Nat.le_of_ble_eq_true rfl)) dX1_wholeAbove_36 ⟨Nat.zero_le _, Nat.zero_le _⟩) (fun r er => ?_)
      subst er
      exact W.lret (v := fn_X1_turned k (fn_X1_inward k (fn_X1_sized k v1)) v1) hx hb hr (fun t ht _ => ⟨_, rfl, by unfold fn_X1_wholeAbove; rw [if_neg c_1, if_neg c_2], ht⟩) (fun _ h => by cases h) dX1_wholeAbove_39
  · refine lv_lload_n hx hb dX1_wholeAbove_7 rfl (lv_at hl 1 rfl) ?_
    exact W.lret (v := v1) hx hb hr (fun t ht _ => ⟨_, rfl, by unfold fn_X1_wholeAbove; rw [if_pos c_1], ht⟩) (fun _ h => by cases h) dX1_wholeAbove_8
def fn_X1_wholeNearest (k : Nat) (v1 : Int64) : Int64 :=
  if (kF k) = 0 then
    v1
  else
    fn_X1_turned k (fn_X1_nearest k (fn_X1_sized k v1)) v1
set_option maxHeartbeats 4000000 in
set_option maxRecDepth 100000 in
theorem ct_X1_wholeNearest (l : Launch) (ad : Nat → Nat) (k : Nat) (hk_k : k < 4) (v1 : Int64) : Met l yX1_wholeNearest wsX1_wholeNearest ({ frames := 3, cells := 0, slots := 0, locals := 76 } : Room) (va_Pc [.ref (ad k), .long v1] (fun U => kw ad (fun _ => False) U U.heap)) (vp_Sl (fun r => r = fn_X1_wholeNearest k v1)) 0 0 (fun _ => False) := by
  refine Met.ofW (cc := cX1_wholeNearest) (maxL := 3) (ret := (some .long)) (by decide) rfl ?_
  intro p e s m args below meth c s₁ B hml hv
  obtain ⟨rfl, hW⟩ := hv
  have hx := B.exec
  have hb := B.bytes
  have hr := B.returns
  have hlocks := B.notSynchronized
  have hts := atoms_spec (ws := wsX1_wholeNearest) B.pre
  have hown : s.vm.findClass RX1 = some m.cls := findClass_of_methodNamed B.named
  have hS : va_S (fun _ => False) s.heap s.heap [] := va_S.rf
  have hl := lv_entry ([.ref (ad k), .long v1]) (n := 3) (Nat.le_of_ble_eq_true rfl)
  rw [lg_entry_eq]
  generalize (lg_sl ([.ref (ad k), .long v1]) ++ List.replicate (3 - (lg_sl ([.ref (ad k), .long v1])).length) Slot.unset).toArray = ls at hl ⊢
  have hl : lv_has ls 3 [(0, .ref (ad k)), (1, .long v1)] := hl
  refine lv_aload_n hx hb dX1_wholeNearest_0 rfl (lv_at hl 0 rfl) ?_
  refine kg_floating hx hb hW hk_k hS hown (hts (.fieldLink RX1 39 "ServoDesk$Kind" "floating" "Z") (by decide +kernel)) dX1_wholeNearest_1 ?_
  refine lv_if_eq (tgt := 24) hx hb dX1_wholeNearest_4 (by decide) (fun c_1 => ?_) (fun c_1 => ?_)
  · refine lv_lload_n hx hb dX1_wholeNearest_24 rfl (lv_at hl 1 rfl) ?_
    exact W.lret (v := v1) hx hb hr (fun t ht _ => ⟨_, rfl, by unfold fn_X1_wholeNearest; rw [if_pos c_1], ht⟩) (fun _ h => by cases h) dX1_wholeNearest_25
  · refine lv_aload_n hx hb dX1_wholeNearest_7 rfl (lv_at hl 0 rfl) ?_
    refine lv_aload_n hx hb dX1_wholeNearest_8 rfl (lv_at hl 0 rfl) ?_
    refine lv_aload_n hx hb dX1_wholeNearest_9 rfl (lv_at hl 0 rfl) ?_
    refine lv_lload_n hx hb dX1_wholeNearest_10 rfl (lv_at hl 1 rfl) ?_
    refine vp_callSl (W.runV (As := [.long v1]) (rest := [.ref (ad k), .ref (ad k)]) ⟨hx, hb, hml, hown, hts⟩ (ct_X1_sized l ad k hk_k v1) (cwV 1 hts gX1_wholeNearest_X1_sized rfl rfl rfl (by decide +kernel) ⟨Nat.le_of_ble_eq_true rfl, Nat.le_of_ble_eq_true rfl⟩) ⟨(fun a U g mk q => ⟨q.1, kw_blind q.2⟩), kw_recv hW hS hk_k, fun U hU hW9 => ⟨rfl, kw_call hW hS hU hW9⟩⟩ rfl rfl hl.1 rfl (lv_room (Nat.le_of_ble_eq_true rfl)) dX1_wholeNearest_11 ⟨Nat.zero_le _, Nat.zero_le _⟩) (fun r er => ?_)
    subst er
    refine vp_callSl (W.runV (As := [.long (fn_X1_sized k v1)]) (rest := [.ref (ad k)]) ⟨hx, hb, hml, hown, hts⟩ (ct_X1_nearest l ad k hk_k (fn_X1_sized k v1)) (cwV 1 hts gX1_wholeNearest_X1_nearest rfl rfl rfl (by decide +kernel) ⟨Nat.le_of_ble_eq_true rfl, Nat.le_of_ble_eq_true rfl⟩) ⟨(fun a U g mk q => ⟨q.1, kw_blind q.2⟩), kw_recv hW hS hk_k, fun U hU hW9 => ⟨rfl, kw_call hW hS hU hW9⟩⟩ rfl rfl hl.1 rfl (lv_room (Nat.le_of_ble_eq_true rfl)) dX1_wholeNearest_14 ⟨Nat.zero_le _, Nat.zero_le _⟩) (fun r er => ?_)
    subst er
    refine lv_lload_n hx hb dX1_wholeNearest_17 rfl (lv_at hl 1 rfl) ?_
    refine vp_callSl (W.runV (As := [.long (fn_X1_nearest k (fn_X1_sized k v1)), .long v1]) (rest := []) ⟨hx, hb, hml, hown, hts⟩ (ct_X1_turned l ad k hk_k (fn_X1_nearest k (fn_X1_sized k v1)) v1) (cwV 2 hts gX1_wholeNearest_X1_turned rfl rfl rfl (by decide +kernel) ⟨Nat.le_of_ble_eq_true rfl, Nat.le_of_ble_eq_true rfl⟩) ⟨(fun a U g mk q => ⟨q.1, kw_blind q.2⟩), kw_recv hW hS hk_k, fun U hU hW9 => ⟨rfl, kw_call hW hS hU hW9⟩⟩ rfl rfl hl.1 rfl (lv_room (Nat.le_of_ble_eq_true rfl)) dX1_wholeNearest_18 ⟨Nat.zero_le _, Nat.zero_le _⟩) (fun r er => ?_)
    subst er
    refine lv_goto (tgt := 25) hx hb dX1_wholeNearest_21 (by decide) ?_
    exact W.lret (v := fn_X1_turned k (fn_X1_nearest k (fn_X1_sized k v1)) v1) hx hb hr (fun t ht _ => ⟨_, rfl, by unfold fn_X1_wholeNearest; rw [if_neg c_1], ht⟩) (fun _ h => by cases h) dX1_wholeNearest_25
