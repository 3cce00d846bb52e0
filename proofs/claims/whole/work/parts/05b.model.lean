def fn_X3_cut_144 (x2 : Int64) (x12 : Int64) : Int64 :=
  if (0 : Int64) ≤ x2 then
    x12
  else
    -x12
set_option maxHeartbeats 4000000 in
set_option maxRecDepth 100000 in
theorem sg_X3_cut_144 {p : Program} {l : Launch} {e : Env} {s : State} {m : MethodId} {args : Array Value} {below : List Frame} {meth : Method} {c : Code} {ls : Array Slot} {g : Int64} (hx : p.tables.exec = Jvm.exec) (hb : c.code = cX3_cut) (hr : meth.sig.returnType = (some .long)) (hml : c.maxLocals = 14) (hts : ∀ w ∈ wsX3_cut, w.before args s = true) (hown : s.vm.findClass RX3 = some m.cls) (hlocks : meth.locks = false) (x2 : Int64) (x12 : Int64) (hg : g = fn_X3_cut_144 x2 x12) (hl : lv_has ls 14 [(2, .long x2), (12, .long x12)]) : W p l e ({ frames := 1, cells := 0, slots := 0, locals := 22 } : Room) s m args below meth c s.heap [] 0 0 (MQ below (vp_Sl (fun r => r = g)) args s 0 0 (fun _ => False)) (F0 m 144 ls []) := by
  have hS : va_S (fun _ => False) s.heap s.heap [] := va_S.rf
  refine lv_lload_n hx hb dX3_cut_144 rfl (lv_at hl 0 rfl) ?_
  refine lv_lconst (v := (0 : Int64)) hx hb dX3_cut_145 (by decide) ?_
  refine zl_ge (tgt := 156) hx hb dX3_cut_146 dX3_cut_147 (by decide) (fun c_1 => ?_) (fun c_1 => ?_)
  · refine lv_lload hx hb dX3_cut_156 (lv_at hl 1 rfl) ?_
    exact W.lret (v := x12) hx hb hr (fun t ht _ => ⟨_, rfl, by rw [hg]; unfold fn_X3_cut_144; rw [if_pos c_1], ht⟩) (fun _ h => by cases h) dX3_cut_158
  · refine lv_lload hx hb dX3_cut_150 (lv_at hl 1 rfl) ?_
    refine lv_lneg hx hb dX3_cut_152 ?_
    refine lv_goto (tgt := 158) hx hb dX3_cut_153 (by decide) ?_
    exact W.lret (v := -x12) hx hb hr (fun t ht _ => ⟨_, rfl, by rw [hg]; unfold fn_X3_cut_144; rw [if_neg c_1], ht⟩) (fun _ h => by cases h) dX3_cut_158
def fn_X3_cut_59 (x0 : Int32) (x2 : Int64) (x4 : Int32) (x6 : Int64) (x8 : Int32) (x9 : Int32) : Int64 :=
  if x8 < x9 then
    if x8 < x4 then
      fn_X3_cut_144 x2 ((Int64.toUInt64 ((x6 &&& (((1 : Int64) <<< (Int32.toInt64 x4 &&& 63)) - (1 : Int64))) ||| ((1 : Int64) <<< (Int32.toInt64 x4 &&& 63))) >>> (Int64.toUInt64 (Int32.toInt64 (x4 - x8)) &&& Int64.toUInt64 63)).toInt64)
    else
      fn_X3_cut_144 x2 (((x6 &&& (((1 : Int64) <<< (Int32.toInt64 x4 &&& 63)) - (1 : Int64))) ||| ((1 : Int64) <<< (Int32.toInt64 x4 &&& 63))) <<< (Int32.toInt64 (x8 - x4) &&& 63))
  else
    if (0 : Int64) ≤ x2 then
      if x0 = 0 then
        (2147483647 : Int64)
      else
        (9223372036854775807 : Int64)
    else
      if x0 = 0 then
        (-2147483648 : Int64)
      else
        (-9223372036854775808 : Int64)
set_option maxHeartbeats 4000000 in
set_option maxRecDepth 100000 in
theorem sg_X3_cut_59 {p : Program} {l : Launch} {e : Env} {s : State} {m : MethodId} {args : Array Value} {below : List Frame} {meth : Method} {c : Code} {ls : Array Slot} {g : Int64} (hx : p.tables.exec = Jvm.exec) (hb : c.code = cX3_cut) (hr : meth.sig.returnType = (some .long)) (hml : c.maxLocals = 14) (hts : ∀ w ∈ wsX3_cut, w.before args s = true) (hown : s.vm.findClass RX3 = some m.cls) (hlocks : meth.locks = false) (x0 : Int32) (x2 : Int64) (x4 : Int32) (x6 : Int64) (x8 : Int32) (x9 : Int32) (hg : g = fn_X3_cut_59 x0 x2 x4 x6 x8 x9) (hl : lv_has ls 14 [(0, .int x0), (2, .long x2), (4, .int x4), (6, .long x6), (8, .int x8), (9, .int x9)]) : W p l e ({ frames := 1, cells := 0, slots := 0, locals := 22 } : Room) s m args below meth c s.heap [] 0 0 (MQ below (vp_Sl (fun r => r = g)) args s 0 0 (fun _ => False)) (F0 m 59 ls []) := by
  have hS : va_S (fun _ => False) s.heap s.heap [] := va_S.rf
  refine lv_iload hx hb dX3_cut_59 (lv_at hl 4 rfl) ?_
  refine lv_iload hx hb dX3_cut_61 (lv_at hl 5 rfl) ?_
  refine lv_icmp_lt (tgt := 100) hx hb dX3_cut_63 (by decide) (fun c_1 => ?_) (fun c_1 => ?_)
  · refine lv_lload hx hb dX3_cut_100 (lv_at hl 3 rfl) ?_
    refine lv_lconst (v := (1 : Int64)) hx hb dX3_cut_102 (by decide) ?_
    refine lv_iload hx hb dX3_cut_103 (lv_at hl 2 rfl) ?_
    refine lv_lshl hx hb dX3_cut_105 rfl ?_
    refine lv_lconst (v := (1 : Int64)) hx hb dX3_cut_106 (by decide) ?_
    refine lv_lsub hx hb dX3_cut_107 ?_
    refine lv_land hx hb dX3_cut_108 ?_
    refine lv_lconst (v := (1 : Int64)) hx hb dX3_cut_109 (by decide) ?_
    refine lv_iload hx hb dX3_cut_110 (lv_at hl 2 rfl) ?_
    refine lv_lshl hx hb dX3_cut_112 rfl ?_
    refine lv_lor hx hb dX3_cut_113 ?_
    refine lv_lstore (lv' := [(10, .long ((x6 &&& (((1 : Int64) <<< (Int32.toInt64 x4 &&& 63)) - (1 : Int64))) ||| ((1 : Int64) <<< (Int32.toInt64 x4 &&& 63)))), (0, .int x0), (2, .long x2), (4, .int x4), (6, .long x6), (8, .int x8), (9, .int x9)]) hx hb dX3_cut_114 hl (by decide) rfl (fun ls hl => ?_)
    refine lv_iload hx hb dX3_cut_116 (lv_at hl 5 rfl) ?_
    refine lv_iload hx hb dX3_cut_118 (lv_at hl 3 rfl) ?_
    refine lv_icmp_lt (tgt := 134) hx hb dX3_cut_120 (by decide) (fun c_2 => ?_) (fun c_2 => ?_)
    · refine lv_lload hx hb dX3_cut_134 (lv_at hl 0 rfl) ?_
      refine lv_iload hx hb dX3_cut_136 (lv_at hl 3 rfl) ?_
      refine lv_iload hx hb dX3_cut_138 (lv_at hl 5 rfl) ?_
      refine lv_isub hx hb dX3_cut_140 ?_
      refine lv_lushr hx hb dX3_cut_141 rfl ?_
      refine lv_lstore (lv' := [(12, .long ((Int64.toUInt64 ((x6 &&& (((1 : Int64) <<< (Int32.toInt64 x4 &&& 63)) - (1 : Int64))) ||| ((1 : Int64) <<< (Int32.toInt64 x4 &&& 63))) >>> (Int64.toUInt64 (Int32.toInt64 (x4 - x8)) &&& Int64.toUInt64 63)).toInt64)), (10, .long ((x6 &&& (((1 : Int64) <<< (Int32.toInt64 x4 &&& 63)) - (1 : Int64))) ||| ((1 : Int64) <<< (Int32.toInt64 x4 &&& 63)))), (0, .int x0), (2, .long x2), (4, .int x4), (6, .long x6), (8, .int x8), (9, .int x9)]) hx hb dX3_cut_142 hl (by decide) rfl (fun ls hl => ?_)
      exact sg_X3_cut_144 hx hb hr hml hts hown hlocks x2 ((Int64.toUInt64 ((x6 &&& (((1 : Int64) <<< (Int32.toInt64 x4 &&& 63)) - (1 : Int64))) ||| ((1 : Int64) <<< (Int32.toInt64 x4 &&& 63))) >>> (Int64.toUInt64 (Int32.toInt64 (x4 - x8)) &&& Int64.toUInt64 63)).toInt64) (by rw [hg]; unfold fn_X3_cut_59; rw [if_pos c_1, if_pos c_2])  (lv_sub hl [3, 0] rfl)
    · refine lv_lload hx hb dX3_cut_123 (lv_at hl 0 rfl) ?_
      refine lv_iload hx hb dX3_cut_125 (lv_at hl 5 rfl) ?_
      refine lv_iload hx hb dX3_cut_127 (lv_at hl 3 rfl) ?_
      refine lv_isub hx hb dX3_cut_129 ?_
      refine lv_lshl hx hb dX3_cut_130 rfl ?_
      refine lv_goto (tgt := 142) hx hb dX3_cut_131 (by decide) ?_
      refine lv_lstore (lv' := [(12, .long (((x6 &&& (((1 : Int64) <<< (Int32.toInt64 x4 &&& 63)) - (1 : Int64))) ||| ((1 : Int64) <<< (Int32.toInt64 x4 &&& 63))) <<< (Int32.toInt64 (x8 - x4) &&& 63))), (10, .long ((x6 &&& (((1 : Int64) <<< (Int32.toInt64 x4 &&& 63)) - (1 : Int64))) ||| ((1 : Int64) <<< (Int32.toInt64 x4 &&& 63)))), (0, .int x0), (2, .long x2), (4, .int x4), (6, .long x6), (8, .int x8), (9, .int x9)]) hx hb dX3_cut_142 hl (by decide) rfl (fun ls hl => ?_)
      exact sg_X3_cut_144 hx hb hr hml hts hown hlocks x2 (((x6 &&& (((1 : Int64) <<< (Int32.toInt64 x4 &&& 63)) - (1 : Int64))) ||| ((1 : Int64) <<< (Int32.toInt64 x4 &&& 63))) <<< (Int32.toInt64 (x8 - x4) &&& 63)) (by rw [hg]; unfold fn_X3_cut_59; rw [if_pos c_1, if_neg c_2])  (lv_sub hl [3, 0] rfl)
  · refine lv_lload_n hx hb dX3_cut_66 rfl (lv_at hl 1 rfl) ?_
    refine lv_lconst (v := (0 : Int64)) hx hb dX3_cut_67 (by decide) ?_
    refine zl_ge (tgt := 86) hx hb dX3_cut_68 dX3_cut_69 (by decide) (fun c_3 => ?_) (fun c_3 => ?_)
    · refine lv_iload_n hx hb dX3_cut_86 rfl (lv_at hl 0 rfl) ?_
      refine lv_if_ne (tgt := 96) hx hb dX3_cut_87 (by decide) (fun c_4 => ?_) (fun c_4 => ?_)
      · refine lv_ldc2 (v := (9223372036854775807 : Int64)) hx hb hown (hts (.constantLong RX3 27 (9223372036854775807)) (by decide +kernel)) dX3_cut_96 ?_
        exact W.lret (v := (9223372036854775807 : Int64)) hx hb hr (fun t ht _ => ⟨_, rfl, by rw [hg]; unfold fn_X3_cut_59; rw [if_neg c_1, if_pos c_3, if_neg c_4], ht⟩) (fun _ h => by cases h) dX3_cut_99
      · refine lv_ldc2 (v := (2147483647 : Int64)) hx hb hown (hts (.constantLong RX3 25 (2147483647)) (by decide +kernel)) dX3_cut_90 ?_
        refine lv_goto (tgt := 99) hx hb dX3_cut_93 (by decide) ?_
        exact W.lret (v := (2147483647 : Int64)) hx hb hr (fun t ht _ => ⟨_, rfl, by rw [hg]; unfold fn_X3_cut_59; rw [if_neg c_1, if_pos c_3, if_pos c_4], ht⟩) (fun _ h => by cases h) dX3_cut_99
    · refine lv_iload_n hx hb dX3_cut_72 rfl (lv_at hl 0 rfl) ?_
      refine lv_if_ne (tgt := 82) hx hb dX3_cut_73 (by decide) (fun c_5 => ?_) (fun c_5 => ?_)
      · refine lv_ldc2 (v := (-9223372036854775808 : Int64)) hx hb hown (hts (.constantLong RX3 31 (-9223372036854775808)) (by decide +kernel)) dX3_cut_82 ?_
        exact W.lret (v := (-9223372036854775808 : Int64)) hx hb hr (fun t ht _ => ⟨_, rfl, by rw [hg]; unfold fn_X3_cut_59; rw [if_neg c_1, if_neg c_3, if_neg c_5], ht⟩) (fun _ h => by cases h) dX3_cut_85
      · refine lv_ldc2 (v := (-2147483648 : Int64)) hx hb hown (hts (.constantLong RX3 71 (-2147483648)) (by decide +kernel)) dX3_cut_76 ?_
        refine lv_goto (tgt := 85) hx hb dX3_cut_79 (by decide) ?_
        exact W.lret (v := (-2147483648 : Int64)) hx hb hr (fun t ht _ => ⟨_, rfl, by rw [hg]; unfold fn_X3_cut_59; rw [if_neg c_1, if_neg c_3, if_pos c_5], ht⟩) (fun _ h => by cases h) dX3_cut_85
def fn_X3_cut_39 (x0 : Int32) (x2 : Int64) (x4 : Int32) (x6 : Int64) (x8 : Int32) : Int64 :=
  if 0 ≤ x8 then
    if x0 = 0 then
      fn_X3_cut_59 x0 x2 x4 x6 x8 (31 : Int32)
    else
      fn_X3_cut_59 x0 x2 x4 x6 x8 (63 : Int32)
  else
    (0 : Int64)
set_option maxHeartbeats 4000000 in
set_option maxRecDepth 100000 in
theorem sg_X3_cut_39 {p : Program} {l : Launch} {e : Env} {s : State} {m : MethodId} {args : Array Value} {below : List Frame} {meth : Method} {c : Code} {ls : Array Slot} {g : Int64} (hx : p.tables.exec = Jvm.exec) (hb : c.code = cX3_cut) (hr : meth.sig.returnType = (some .long)) (hml : c.maxLocals = 14) (hts : ∀ w ∈ wsX3_cut, w.before args s = true) (hown : s.vm.findClass RX3 = some m.cls) (hlocks : meth.locks = false) (x0 : Int32) (x2 : Int64) (x4 : Int32) (x6 : Int64) (x8 : Int32) (hg : g = fn_X3_cut_39 x0 x2 x4 x6 x8) (hl : lv_has ls 14 [(0, .int x0), (2, .long x2), (4, .int x4), (6, .long x6), (8, .int x8)]) : W p l e ({ frames := 1, cells := 0, slots := 0, locals := 22 } : Room) s m args below meth c s.heap [] 0 0 (MQ below (vp_Sl (fun r => r = g)) args s 0 0 (fun _ => False)) (F0 m 39 ls []) := by
  have hS : va_S (fun _ => False) s.heap s.heap [] := va_S.rf
  refine lv_iload hx hb dX3_cut_39 (lv_at hl 4 rfl) ?_
  refine lv_if_ge (tgt := 46) hx hb dX3_cut_41 (by decide) (fun c_1 => ?_) (fun c_1 => ?_)
  · refine lv_iload_n hx hb dX3_cut_46 rfl (lv_at hl 0 rfl) ?_
    refine lv_if_ne (tgt := 55) hx hb dX3_cut_47 (by decide) (fun c_2 => ?_) (fun c_2 => ?_)
    · refine lv_bipush (v := (63 : Int32)) hx hb dX3_cut_55 (by decide) ?_
      refine lv_istore (lv' := [(9, .int (63 : Int32)), (0, .int x0), (2, .long x2), (4, .int x4), (6, .long x6), (8, .int x8)]) hx hb dX3_cut_57 hl (by decide) rfl (fun ls hl => ?_)
      exact sg_X3_cut_59 hx hb hr hml hts hown hlocks x0 x2 x4 x6 x8 (63 : Int32) (by rw [hg]; unfold fn_X3_cut_39; rw [if_pos c_1, if_neg c_2])  (lv_sub hl [1, 2, 3, 4, 5, 0] rfl)
    · refine lv_bipush (v := (31 : Int32)) hx hb dX3_cut_50 (by decide) ?_
      refine lv_goto (tgt := 57) hx hb dX3_cut_52 (by decide) ?_
      refine lv_istore (lv' := [(9, .int (31 : Int32)), (0, .int x0), (2, .long x2), (4, .int x4), (6, .long x6), (8, .int x8)]) hx hb dX3_cut_57 hl (by decide) rfl (fun ls hl => ?_)
      exact sg_X3_cut_59 hx hb hr hml hts hown hlocks x0 x2 x4 x6 x8 (31 : Int32) (by rw [hg]; unfold fn_X3_cut_39; rw [if_pos c_1, if_pos c_2])  (lv_sub hl [1, 2, 3, 4, 5, 0] rfl)
  · refine lv_lconst (v := (0 : Int64)) hx hb dX3_cut_44 (by decide) ?_
    exact W.lret (v := (0 : Int64)) hx hb hr (fun t ht _ => ⟨_, rfl, by rw [hg]; unfold fn_X3_cut_39; rw [if_neg c_1], ht⟩) (fun _ h => by cases h) dX3_cut_45
def fn_X3_cut_21 (x0 : Int32) (x1 : Int32) (x2 : Int64) (x4 : Int32) (x5 : Int32) : Int64 :=
  fn_X3_cut_39 x0 x2 x4 (fn_X3_size x1 x2) ((Int64.toInt32 ((Int64.toUInt64 (fn_X3_size x1 x2) >>> (Int64.toUInt64 (Int32.toInt64 x4) &&& Int64.toUInt64 63)).toInt64)) - x5)
set_option maxHeartbeats 4000000 in
set_option maxRecDepth 100000 in
theorem sg_X3_cut_21 {p : Program} {l : Launch} {e : Env} {s : State} {m : MethodId} {args : Array Value} {below : List Frame} {meth : Method} {c : Code} {ls : Array Slot} {g : Int64} (hx : p.tables.exec = Jvm.exec) (hb : c.code = cX3_cut) (hr : meth.sig.returnType = (some .long)) (hml : c.maxLocals = 14) (hts : ∀ w ∈ wsX3_cut, w.before args s = true) (hown : s.vm.findClass RX3 = some m.cls) (hlocks : meth.locks = false) (x0 : Int32) (x1 : Int32) (x2 : Int64) (x4 : Int32) (x5 : Int32) (hg : g = fn_X3_cut_21 x0 x1 x2 x4 x5) (hl : lv_has ls 14 [(0, .int x0), (1, .int x1), (2, .long x2), (4, .int x4), (5, .int x5)]) : W p l e ({ frames := 1, cells := 0, slots := 0, locals := 22 } : Room) s m args below meth c s.heap [] 0 0 (MQ below (vp_Sl (fun r => r = g)) args s 0 0 (fun _ => False)) (F0 m 21 ls []) := by
  have hS : va_S (fun _ => False) s.heap s.heap [] := va_S.rf
  refine lv_iload_n hx hb dX3_cut_21 rfl (lv_at hl 1 rfl) ?_
  refine lv_lload_n hx hb dX3_cut_22 rfl (lv_at hl 2 rfl) ?_
  refine vp_callSl (W.runS (As := [.int x1, .long x2]) (rest := []) ⟨hx, hb, hml, hown, hts⟩ (ct_X3_size l x1 x2) (va_cwS 2 hts gX3_cut_X3_size rfl rfl rfl (by decide +kernel) ⟨Nat.le_of_ble_eq_true rfl, Nat.le_of_ble_eq_true rfl⟩) ⟨(fun a U g mk q => ⟨q.1, trivial⟩), fun U hU hW9 => ⟨rfl, trivial⟩⟩ rfl rfl hl.1 rfl (lv_room (Nat.le_of_ble_eq_true rfl)) dX3_cut_23 ⟨Nat.zero_le _, Nat.zero_le _⟩) (fun r er => ?_)
  subst er
  refine lv_lstore (lv' := [(6, .long (fn_X3_size x1 x2)), (0, .int x0), (1, .int x1), (2, .long x2), (4, .int x4), (5, .int x5)]) hx hb dX3_cut_26 hl (by decide) rfl (fun ls hl => ?_)
  refine lv_lload hx hb dX3_cut_28 (lv_at hl 0 rfl) ?_
  refine lv_iload hx hb dX3_cut_30 (lv_at hl 4 rfl) ?_
  refine lv_lushr hx hb dX3_cut_32 rfl ?_
  refine lv_l2i hx hb dX3_cut_33 rfl ?_
  refine lv_iload hx hb dX3_cut_34 (lv_at hl 5 rfl) ?_
  refine lv_isub hx hb dX3_cut_36 ?_
  refine lv_istore (lv' := [(8, .int ((Int64.toInt32 ((Int64.toUInt64 (fn_X3_size x1 x2) >>> (Int64.toUInt64 (Int32.toInt64 x4) &&& Int64.toUInt64 63)).toInt64)) - x5)), (6, .long (fn_X3_size x1 x2)), (0, .int x0), (1, .int x1), (2, .long x2), (4, .int x4), (5, .int x5)]) hx hb dX3_cut_37 hl (by decide) rfl (fun ls hl => ?_)
  exact sg_X3_cut_39 hx hb hr hml hts hown hlocks x0 x2 x4 (fn_X3_size x1 x2) ((Int64.toInt32 ((Int64.toUInt64 (fn_X3_size x1 x2) >>> (Int64.toUInt64 (Int32.toInt64 x4) &&& Int64.toUInt64 63)).toInt64)) - x5) (by rw [hg]; rfl)  (lv_sub hl [2, 4, 5, 1, 0] rfl)
def fn_X3_cut (v0 : Int32) (v1 : Int32) (v2 : Int64) : Int64 :=
  if v1 = (2 : Int32) then
    fn_X3_cut_21 v0 v1 v2 (fn_X3_fractionOf v1) (127 : Int32)
  else
    fn_X3_cut_21 v0 v1 v2 (fn_X3_fractionOf v1) (1023 : Int32)
set_option maxHeartbeats 4000000 in
set_option maxRecDepth 100000 in
theorem ct_X3_cut (l : Launch) (v0 : Int32) (v1 : Int32) (v2 : Int64) : Met l yX3_cut wsX3_cut ({ frames := 1, cells := 0, slots := 0, locals := 22 } : Room) (va_Pc [.int v0, .int v1, .long v2] (fun _ => True)) (vp_Sl (fun r => r = fn_X3_cut v0 v1 v2)) 0 0 (fun _ => False) := by
  refine Met.ofW (cc := cX3_cut) (maxL := 14) (ret := (some .long)) (by decide) rfl ?_
  intro p e s m args below meth c s₁ B hml hv
  obtain ⟨rfl, hW⟩ := hv
  have hx := B.exec
  have hb := B.bytes
  have hr := B.returns
  have hlocks := B.notSynchronized
  have hts := atoms_spec (ws := wsX3_cut) B.pre
  have hown : s.vm.findClass RX3 = some m.cls := findClass_of_methodNamed B.named
  have hS : va_S (fun _ => False) s.heap s.heap [] := va_S.rf
  have hl := lv_entry ([.int v0, .int v1, .long v2]) (n := 14) (Nat.le_of_ble_eq_true rfl)
  rw [lg_entry_eq]
  generalize (lg_sl ([.int v0, .int v1, .long v2]) ++ List.replicate (14 - (lg_sl ([.int v0, .int v1, .long v2])).length) Slot.unset).toArray = ls at hl ⊢
  have hl : lv_has ls 14 [(0, .int v0), (1, .int v1), (2, .long v2)] := hl
  refine lv_iload_n hx hb dX3_cut_0 rfl (lv_at hl 1 rfl) ?_
  refine vp_callSi (W.runS (As := [.int v1]) (rest := []) ⟨hx, hb, hml, hown, hts⟩ (ct_X3_fractionOf l v1) (va_cwS 1 hts gX3_cut_X3_fractionOf rfl rfl rfl (by decide +kernel) ⟨Nat.le_of_ble_eq_true rfl, Nat.le_of_ble_eq_true rfl⟩) ⟨(fun a U g mk q => ⟨q.1, trivial⟩), fun U hU hW9 => ⟨rfl, trivial⟩⟩ rfl rfl hl.1 rfl (lv_room (Nat.le_of_ble_eq_true rfl)) dX3_cut_1 ⟨Nat.zero_le _, Nat.zero_le _⟩) (fun r er => ?_)
  subst er
  refine lv_istore (lv' := [(4, .int (fn_X3_fractionOf v1)), (0, .int v0), (1, .int v1), (2, .long v2)]) hx hb dX3_cut_4 hl (by decide) rfl (fun ls hl => ?_)
  refine lv_iload_n hx hb dX3_cut_6 rfl (lv_at hl 2 rfl) ?_
  refine lv_iconst (v := (2 : Int32)) hx hb dX3_cut_7 (by decide) ?_
  refine lv_icmp_ne (tgt := 16) hx hb dX3_cut_8 (by decide) (fun c_1 => ?_) (fun c_1 => ?_)
  · refine lv_sipush (v := (1023 : Int32)) hx hb dX3_cut_16 (by decide) ?_
    refine lv_istore (lv' := [(5, .int (1023 : Int32)), (4, .int (fn_X3_fractionOf v1)), (0, .int v0), (1, .int v1), (2, .long v2)]) hx hb dX3_cut_19 hl (by decide) rfl (fun ls hl => ?_)
    exact sg_X3_cut_21 hx hb hr hml hts hown hlocks v0 v1 v2 (fn_X3_fractionOf v1) (1023 : Int32) (by unfold fn_X3_cut; rw [if_neg c_1])  (lv_sub hl [2, 3, 4, 1, 0] rfl)
  · refine lv_bipush (v := (127 : Int32)) hx hb dX3_cut_11 (by decide) ?_
    refine lv_goto (tgt := 19) hx hb dX3_cut_13 (by decide) ?_
    refine lv_istore (lv' := [(5, .int (127 : Int32)), (4, .int (fn_X3_fractionOf v1)), (0, .int v0), (1, .int v1), (2, .long v2)]) hx hb dX3_cut_19 hl (by decide) rfl (fun ls hl => ?_)
    exact sg_X3_cut_21 hx hb hr hml hts hown hlocks v0 v1 v2 (fn_X3_fractionOf v1) (127 : Int32) (by unfold fn_X3_cut; rw [if_pos c_1])  (lv_sub hl [2, 3, 4, 1, 0] rfl)
def fn_X3_stepped_241 (x0 : Int32) (x1 : Int64) (x9 : Int32) (x10 : Int64) (x14 : Int64) : Int64 :=
  if x9 = 0 then
    if (0 : Int64) ≤ x1 then
      fn_X3_signed x0 x14 (0 : Int32)
    else
      fn_X3_signed x0 x14 (1 : Int32)
  else
    if (0 : Int64) ≤ x1 then
      fn_X3_signed x0 (x14 + x10) (0 : Int32)
    else
      fn_X3_signed x0 (x14 + x10) (1 : Int32)
set_option maxHeartbeats 4000000 in
set_option maxRecDepth 100000 in
theorem sg_X3_stepped_241 {p : Program} {l : Launch} {e : Env} {s : State} {m : MethodId} {args : Array Value} {below : List Frame} {meth : Method} {c : Code} {ls : Array Slot} {g : Int64} (hx : p.tables.exec = Jvm.exec) (hb : c.code = cX3_stepped) (hr : meth.sig.returnType = (some .long)) (hml : c.maxLocals = 18) (hts : ∀ w ∈ wsX3_stepped, w.before args s = true) (hown : s.vm.findClass RX3 = some m.cls) (hlocks : meth.locks = false) (x0 : Int32) (x1 : Int64) (x9 : Int32) (x10 : Int64) (x14 : Int64) (hg : g = fn_X3_stepped_241 x0 x1 x9 x10 x14) (hl : lv_has ls 18 [(0, .int x0), (1, .long x1), (9, .int x9), (10, .long x10), (14, .long x14)]) : W p l e ({ frames := 1, cells := 0, slots := 0, locals := 23 } : Room) s m args below meth c s.heap [] 0 0 (MQ below (vp_Sl (fun r => r = g)) args s 0 0 (fun _ => False)) (F0 m 241 ls []) := by
  have hS : va_S (fun _ => False) s.heap s.heap [] := va_S.rf
  refine lv_iload_n hx hb dX3_stepped_241 rfl (lv_at hl 0 rfl) ?_
  refine lv_iload hx hb dX3_stepped_242 (lv_at hl 2 rfl) ?_
  refine lv_if_eq (tgt := 255) hx hb dX3_stepped_244 (by decide) (fun c_1 => ?_) (fun c_1 => ?_)
  · refine lv_lload hx hb dX3_stepped_255 (lv_at hl 4 rfl) ?_
    refine lv_lload_n hx hb dX3_stepped_257 rfl (lv_at hl 1 rfl) ?_
    refine lv_lconst (v := (0 : Int64)) hx hb dX3_stepped_258 (by decide) ?_
    refine zl_ge (tgt := 267) hx hb dX3_stepped_259 dX3_stepped_260 (by decide) (fun c_2 => ?_) (fun c_2 => ?_)
    · refine lv_iconst (v := (0 : Int32)) hx hb dX3_stepped_267 (by decide) ?_
      refine vp_callSl (W.runS (As := [.int x0, .long x14, .int (0 : Int32)]) (rest := []) ⟨hx, hb, hml, hown, hts⟩ (ct_X3_signed l x0 x14 (0 : Int32)) (va_cwS 3 hts gX3_stepped_X3_signed rfl rfl rfl (by decide +kernel) ⟨Nat.le_of_ble_eq_true rfl, Nat.le_of_ble_eq_true rfl⟩) ⟨(fun a U g mk q => ⟨q.1, trivial⟩), fun U hU hW9 => ⟨rfl, trivial⟩⟩ rfl rfl hl.1 rfl (lv_room (Nat.le_of_ble_eq_true rfl)) dX3_stepped_268 ⟨Nat.zero_le _, Nat.zero_le _⟩) (fun r er => ?_)
      subst er
      exact W.lret (v := fn_X3_signed x0 x14 (0 : Int32)) hx hb hr (fun t ht _ => ⟨_, rfl, by rw [hg]; unfold fn_X3_stepped_241; rw [if_pos c_1, if_pos c_2], ht⟩) (fun _ h => by cases h) dX3_stepped_271
    · refine lv_iconst (v := (1 : Int32)) hx hb dX3_stepped_263 (by decide) ?_
      refine lv_goto (tgt := 268) hx hb dX3_stepped_264 (by decide) ?_
      refine vp_callSl (W.runS (As := [.int x0, .long x14, .int (1 : Int32)]) (rest := []) ⟨hx, hb, hml, hown, hts⟩ (ct_X3_signed l x0 x14 (1 : Int32)) (va_cwS 3 hts gX3_stepped_X3_signed rfl rfl rfl (by decide +kernel) ⟨Nat.le_of_ble_eq_true rfl, Nat.le_of_ble_eq_true rfl⟩) ⟨(fun a U g mk q => ⟨q.1, trivial⟩), fun U hU hW9 => ⟨rfl, trivial⟩⟩ rfl rfl hl.1 rfl (lv_room (Nat.le_of_ble_eq_true rfl)) dX3_stepped_268 ⟨Nat.zero_le _, Nat.zero_le _⟩) (fun r er => ?_)
      subst er
      exact W.lret (v := fn_X3_signed x0 x14 (1 : Int32)) hx hb hr (fun t ht _ => ⟨_, rfl, by rw [hg]; unfold fn_X3_stepped_241; rw [if_pos c_1, if_neg c_2], ht⟩) (fun _ h => by cases h) dX3_stepped_271
  · refine lv_lload hx hb dX3_stepped_247 (lv_at hl 4 rfl) ?_
    refine lv_lload hx hb dX3_stepped_249 (lv_at hl 3 rfl) ?_
    refine lv_ladd hx hb dX3_stepped_251 ?_
    refine lv_goto (tgt := 257) hx hb dX3_stepped_252 (by decide) ?_
    refine lv_lload_n hx hb dX3_stepped_257 rfl (lv_at hl 1 rfl) ?_
    refine lv_lconst (v := (0 : Int64)) hx hb dX3_stepped_258 (by decide) ?_
    refine zl_ge (tgt := 267) hx hb dX3_stepped_259 dX3_stepped_260 (by decide) (fun c_3 => ?_) (fun c_3 => ?_)
    · refine lv_iconst (v := (0 : Int32)) hx hb dX3_stepped_267 (by decide) ?_
      refine vp_callSl (W.runS (As := [.int x0, .long (x14 + x10), .int (0 : Int32)]) (rest := []) ⟨hx, hb, hml, hown, hts⟩ (ct_X3_signed l x0 (x14 + x10) (0 : Int32)) (va_cwS 3 hts gX3_stepped_X3_signed rfl rfl rfl (by decide +kernel) ⟨Nat.le_of_ble_eq_true rfl, Nat.le_of_ble_eq_true rfl⟩) ⟨(fun a U g mk q => ⟨q.1, trivial⟩), fun U hU hW9 => ⟨rfl, trivial⟩⟩ rfl rfl hl.1 rfl (lv_room (Nat.le_of_ble_eq_true rfl)) dX3_stepped_268 ⟨Nat.zero_le _, Nat.zero_le _⟩) (fun r er => ?_)
      subst er
      exact W.lret (v := fn_X3_signed x0 (x14 + x10) (0 : Int32)) hx hb hr (fun t ht _ => ⟨_, rfl, by rw [hg]; unfold fn_X3_stepped_241; rw [if_neg c_1, if_pos c_3], ht⟩) (fun _ h => by cases h) dX3_stepped_271
    · refine lv_iconst (v := (1 : Int32)) hx hb dX3_stepped_263 (by decide) ?_
      refine lv_goto (tgt := 268) hx hb dX3_stepped_264 (by decide) ?_
      refine vp_callSl (W.runS (As := [.int x0, .long (x14 + x10), .int (1 : Int32)]) (rest := []) ⟨hx, hb, hml, hown, hts⟩ (ct_X3_signed l x0 (x14 + x10) (1 : Int32)) (va_cwS 3 hts gX3_stepped_X3_signed rfl rfl rfl (by decide +kernel) ⟨Nat.le_of_ble_eq_true rfl, Nat.le_of_ble_eq_true rfl⟩) ⟨(fun a U g mk q => ⟨q.1, trivial⟩), fun U hU hW9 => ⟨rfl, trivial⟩⟩ rfl rfl hl.1 rfl (lv_room (Nat.le_of_ble_eq_true rfl)) dX3_stepped_268 ⟨Nat.zero_le _, Nat.zero_le _⟩) (fun r er => ?_)
      subst er
      exact W.lret (v := fn_X3_signed x0 (x14 + x10) (1 : Int32)) hx hb hr (fun t ht _ => ⟨_, rfl, by rw [hg]; unfold fn_X3_stepped_241; rw [if_neg c_1, if_neg c_3], ht⟩) (fun _ h => by cases h) dX3_stepped_271
def fn_X3_stepped_195 (x0 : Int32) (x1 : Int64) (x3 : Int32) (x9 : Int32) (x10 : Int64) (x12 : Int64) (x14 : Int64) : Int64 :=
  if x3 = (2 : Int32) then
    if x10 < ((2 : Int64) * x12) then
      fn_X3_stepped_241 x0 x1 (1 : Int32) x10 x14
    else
      if ((2 : Int64) * x12) = x10 then
        if (x14 &&& x10) = (0 : Int64) then
          fn_X3_stepped_241 x0 x1 (0 : Int32) x10 x14
        else
          fn_X3_stepped_241 x0 x1 (1 : Int32) x10 x14
      else
        fn_X3_stepped_241 x0 x1 (0 : Int32) x10 x14
  else
    fn_X3_stepped_241 x0 x1 x9 x10 x14
set_option maxHeartbeats 4000000 in
set_option maxRecDepth 100000 in
theorem sg_X3_stepped_195 {p : Program} {l : Launch} {e : Env} {s : State} {m : MethodId} {args : Array Value} {below : List Frame} {meth : Method} {c : Code} {ls : Array Slot} {g : Int64} (hx : p.tables.exec = Jvm.exec) (hb : c.code = cX3_stepped) (hr : meth.sig.returnType = (some .long)) (hml : c.maxLocals = 18) (hts : ∀ w ∈ wsX3_stepped, w.before args s = true) (hown : s.vm.findClass RX3 = some m.cls) (hlocks : meth.locks = false) (x0 : Int32) (x1 : Int64) (x3 : Int32) (x9 : Int32) (x10 : Int64) (x12 : Int64) (x14 : Int64) (hg : g = fn_X3_stepped_195 x0 x1 x3 x9 x10 x12 x14) (hl : lv_has ls 18 [(0, .int x0), (1, .long x1), (3, .int x3), (9, .int x9), (10, .long x10), (12, .long x12), (14, .long x14)]) : W p l e ({ frames := 1, cells := 0, slots := 0, locals := 23 } : Room) s m args below meth c s.heap [] 0 0 (MQ below (vp_Sl (fun r => r = g)) args s 0 0 (fun _ => False)) (F0 m 195 ls []) := by
  have hS : va_S (fun _ => False) s.heap s.heap [] := va_S.rf
  refine lv_iload_n hx hb dX3_stepped_195 rfl (lv_at hl 2 rfl) ?_
  refine lv_iconst (v := (2 : Int32)) hx hb dX3_stepped_196 (by decide) ?_
  refine lv_icmp_ne (tgt := 241) hx hb dX3_stepped_197 (by decide) (fun c_1 => ?_) (fun c_1 => ?_)
  · exact sg_X3_stepped_241 hx hb hr hml hts hown hlocks x0 x1 x9 x10 x14 (by rw [hg]; unfold fn_X3_stepped_195; rw [if_neg c_1])  (lv_sub hl [0, 1, 3, 4, 6] rfl)
  · refine lv_ldc2 (v := (2 : Int64)) hx hb hown (hts (.constantLong RX3 66 (2)) (by decide +kernel)) dX3_stepped_200 ?_
    refine lv_lload hx hb dX3_stepped_203 (lv_at hl 5 rfl) ?_
    refine lv_lmul hx hb dX3_stepped_205 ?_
    refine lv_lstore (lv' := [(16, .long ((2 : Int64) * x12)), (0, .int x0), (1, .long x1), (3, .int x3), (9, .int x9), (10, .long x10), (12, .long x12), (14, .long x14)]) hx hb dX3_stepped_206 hl (by decide) rfl (fun ls hl => ?_)
    refine lv_lload hx hb dX3_stepped_208 (lv_at hl 0 rfl) ?_
    refine lv_lload hx hb dX3_stepped_210 (lv_at hl 5 rfl) ?_
    refine zl_gt (tgt := 234) hx hb dX3_stepped_212 dX3_stepped_213 (by decide) (fun c_2 => ?_) (fun c_2 => ?_)
    · refine lv_iconst (v := (1 : Int32)) hx hb dX3_stepped_234 (by decide) ?_
      refine lv_goto (tgt := 239) hx hb dX3_stepped_235 (by decide) ?_
      refine lv_istore (lv' := [(9, .int (1 : Int32)), (16, .long ((2 : Int64) * x12)), (0, .int x0), (1, .long x1), (3, .int x3), (10, .long x10), (12, .long x12), (14, .long x14)]) hx hb dX3_stepped_239 hl (by decide) rfl (fun ls hl => ?_)
      exact sg_X3_stepped_241 hx hb hr hml hts hown hlocks x0 x1 (1 : Int32) x10 x14 (by rw [hg]; unfold fn_X3_stepped_195; rw [if_pos c_1, if_pos c_2])  (lv_sub hl [2, 3, 0, 5, 7] rfl)
    · refine lv_lload hx hb dX3_stepped_216 (lv_at hl 0 rfl) ?_
      refine lv_lload hx hb dX3_stepped_218 (lv_at hl 5 rfl) ?_
      refine zl_ne (tgt := 238) hx hb dX3_stepped_220 dX3_stepped_221 (by decide) (fun c_3 => ?_) (fun c_3 => ?_)
      · refine lv_iconst (v := (0 : Int32)) hx hb dX3_stepped_238 (by decide) ?_
        refine lv_istore (lv' := [(9, .int (0 : Int32)), (16, .long ((2 : Int64) * x12)), (0, .int x0), (1, .long x1), (3, .int x3), (10, .long x10), (12, .long x12), (14, .long x14)]) hx hb dX3_stepped_239 hl (by decide) rfl (fun ls hl => ?_)
        exact sg_X3_stepped_241 hx hb hr hml hts hown hlocks x0 x1 (0 : Int32) x10 x14 (by rw [hg]; unfold fn_X3_stepped_195; rw [if_pos c_1, if_neg c_2, if_neg c_3])  (lv_sub hl [2, 3, 0, 5, 7] rfl)
      · refine lv_lload hx hb dX3_stepped_224 (lv_at hl 7 rfl) ?_
        refine lv_lload hx hb dX3_stepped_226 (lv_at hl 5 rfl) ?_
        refine lv_land hx hb dX3_stepped_228 ?_
        refine lv_lconst (v := (0 : Int64)) hx hb dX3_stepped_229 (by decide) ?_
        refine zl_eq (tgt := 238) hx hb dX3_stepped_230 dX3_stepped_231 (by decide) (fun c_4 => ?_) (fun c_4 => ?_)
        · refine lv_iconst (v := (0 : Int32)) hx hb dX3_stepped_238 (by decide) ?_
          refine lv_istore (lv' := [(9, .int (0 : Int32)), (16, .long ((2 : Int64) * x12)), (0, .int x0), (1, .long x1), (3, .int x3), (10, .long x10), (12, .long x12), (14, .long x14)]) hx hb dX3_stepped_239 hl (by decide) rfl (fun ls hl => ?_)
          exact sg_X3_stepped_241 hx hb hr hml hts hown hlocks x0 x1 (0 : Int32) x10 x14 (by rw [hg]; unfold fn_X3_stepped_195; rw [if_pos c_1, if_neg c_2, if_pos c_3, if_pos c_4])  (lv_sub hl [2, 3, 0, 5, 7] rfl)
        · refine lv_iconst (v := (1 : Int32)) hx hb dX3_stepped_234 (by decide) ?_
          refine lv_goto (tgt := 239) hx hb dX3_stepped_235 (by decide) ?_
          refine lv_istore (lv' := [(9, .int (1 : Int32)), (16, .long ((2 : Int64) * x12)), (0, .int x0), (1, .long x1), (3, .int x3), (10, .long x10), (12, .long x12), (14, .long x14)]) hx hb dX3_stepped_239 hl (by decide) rfl (fun ls hl => ?_)
          exact sg_X3_stepped_241 hx hb hr hml hts hown hlocks x0 x1 (1 : Int32) x10 x14 (by rw [hg]; unfold fn_X3_stepped_195; rw [if_pos c_1, if_neg c_2, if_pos c_3, if_neg c_4])  (lv_sub hl [2, 3, 0, 5, 7] rfl)
def fn_X3_stepped_179 (x0 : Int32) (x1 : Int64) (x3 : Int32) (x6 : Int64) (x9 : Int32) (x10 : Int64) (x12 : Int64) : Int64 :=
  if x12 = (0 : Int64) then
    x1
  else
    fn_X3_stepped_195 x0 x1 x3 x9 x10 x12 (x6 - x12)
set_option maxHeartbeats 4000000 in
set_option maxRecDepth 100000 in
theorem sg_X3_stepped_179 {p : Program} {l : Launch} {e : Env} {s : State} {m : MethodId} {args : Array Value} {below : List Frame} {meth : Method} {c : Code} {ls : Array Slot} {g : Int64} (hx : p.tables.exec = Jvm.exec) (hb : c.code = cX3_stepped) (hr : meth.sig.returnType = (some .long)) (hml : c.maxLocals = 18) (hts : ∀ w ∈ wsX3_stepped, w.before args s = true) (hown : s.vm.findClass RX3 = some m.cls) (hlocks : meth.locks = false) (x0 : Int32) (x1 : Int64) (x3 : Int32) (x6 : Int64) (x9 : Int32) (x10 : Int64) (x12 : Int64) (hg : g = fn_X3_stepped_179 x0 x1 x3 x6 x9 x10 x12) (hl : lv_has ls 18 [(0, .int x0), (1, .long x1), (3, .int x3), (6, .long x6), (9, .int x9), (10, .long x10), (12, .long x12)]) : W p l e ({ frames := 1, cells := 0, slots := 0, locals := 23 } : Room) s m args below meth c s.heap [] 0 0 (MQ below (vp_Sl (fun r => r = g)) args s 0 0 (fun _ => False)) (F0 m 179 ls []) := by
  have hS : va_S (fun _ => False) s.heap s.heap [] := va_S.rf
  refine lv_lload hx hb dX3_stepped_179 (lv_at hl 6 rfl) ?_
  refine lv_lconst (v := (0 : Int64)) hx hb dX3_stepped_181 (by decide) ?_
  refine zl_ne (tgt := 188) hx hb dX3_stepped_182 dX3_stepped_183 (by decide) (fun c_1 => ?_) (fun c_1 => ?_)
  · refine lv_lload hx hb dX3_stepped_188 (lv_at hl 3 rfl) ?_
    refine lv_lload hx hb dX3_stepped_190 (lv_at hl 6 rfl) ?_
    refine lv_lsub hx hb dX3_stepped_192 ?_
    refine lv_lstore (lv' := [(14, .long (x6 - x12)), (0, .int x0), (1, .long x1), (3, .int x3), (6, .long x6), (9, .int x9), (10, .long x10), (12, .long x12)]) hx hb dX3_stepped_193 hl (by decide) rfl (fun ls hl => ?_)
    exact sg_X3_stepped_195 hx hb hr hml hts hown hlocks x0 x1 x3 x9 x10 x12 (x6 - x12) (by rw [hg]; unfold fn_X3_stepped_179; rw [if_neg c_1])  (lv_sub hl [1, 2, 3, 5, 6, 7, 0] rfl)
  · refine lv_lload_n hx hb dX3_stepped_186 rfl (lv_at hl 1 rfl) ?_
    exact W.lret (v := x1) hx hb hr (fun t ht _ => ⟨_, rfl, by rw [hg]; unfold fn_X3_stepped_179; rw [if_pos c_1], ht⟩) (fun _ h => by cases h) dX3_stepped_187
def fn_X3_stepped_161 (x0 : Int32) (x1 : Int64) (x3 : Int32) (x4 : Int32) (x6 : Int64) (x8 : Int32) (x9 : Int32) : Int64 :=
  fn_X3_stepped_179 x0 x1 x3 x6 x9 ((1 : Int64) <<< (Int32.toInt64 (x4 - x8) &&& 63)) (x6 &&& (((1 : Int64) <<< (Int32.toInt64 (x4 - x8) &&& 63)) - (1 : Int64)))
set_option maxHeartbeats 4000000 in
set_option maxRecDepth 100000 in
theorem sg_X3_stepped_161 {p : Program} {l : Launch} {e : Env} {s : State} {m : MethodId} {args : Array Value} {below : List Frame} {meth : Method} {c : Code} {ls : Array Slot} {g : Int64} (hx : p.tables.exec = Jvm.exec) (hb : c.code = cX3_stepped) (hr : meth.sig.returnType = (some .long)) (hml : c.maxLocals = 18) (hts : ∀ w ∈ wsX3_stepped, w.before args s = true) (hown : s.vm.findClass RX3 = some m.cls) (hlocks : meth.locks = false) (x0 : Int32) (x1 : Int64) (x3 : Int32) (x4 : Int32) (x6 : Int64) (x8 : Int32) (x9 : Int32) (hg : g = fn_X3_stepped_161 x0 x1 x3 x4 x6 x8 x9) (hl : lv_has ls 18 [(0, .int x0), (1, .long x1), (3, .int x3), (4, .int x4), (6, .long x6), (8, .int x8), (9, .int x9)]) : W p l e ({ frames := 1, cells := 0, slots := 0, locals := 23 } : Room) s m args below meth c s.heap [] 0 0 (MQ below (vp_Sl (fun r => r = g)) args s 0 0 (fun _ => False)) (F0 m 161 ls []) := by
  have hS : va_S (fun _ => False) s.heap s.heap [] := va_S.rf
  refine lv_lconst (v := (1 : Int64)) hx hb dX3_stepped_161 (by decide) ?_
  refine lv_iload hx hb dX3_stepped_162 (lv_at hl 3 rfl) ?_
  refine lv_iload hx hb dX3_stepped_164 (lv_at hl 5 rfl) ?_
  refine lv_isub hx hb dX3_stepped_166 ?_
  refine lv_lshl hx hb dX3_stepped_167 rfl ?_
  refine lv_lstore (lv' := [(10, .long ((1 : Int64) <<< (Int32.toInt64 (x4 - x8) &&& 63))), (0, .int x0), (1, .long x1), (3, .int x3), (4, .int x4), (6, .long x6), (8, .int x8), (9, .int x9)]) hx hb dX3_stepped_168 hl (by decide) rfl (fun ls hl => ?_)
  refine lv_lload hx hb dX3_stepped_170 (lv_at hl 5 rfl) ?_
  refine lv_lload hx hb dX3_stepped_172 (lv_at hl 0 rfl) ?_
  refine lv_lconst (v := (1 : Int64)) hx hb dX3_stepped_174 (by decide) ?_
  refine lv_lsub hx hb dX3_stepped_175 ?_
  refine lv_land hx hb dX3_stepped_176 ?_
  refine lv_lstore (lv' := [(12, .long (x6 &&& (((1 : Int64) <<< (Int32.toInt64 (x4 - x8) &&& 63)) - (1 : Int64)))), (10, .long ((1 : Int64) <<< (Int32.toInt64 (x4 - x8) &&& 63))), (0, .int x0), (1, .long x1), (3, .int x3), (4, .int x4), (6, .long x6), (8, .int x8), (9, .int x9)]) hx hb dX3_stepped_177 hl (by decide) rfl (fun ls hl => ?_)
  exact sg_X3_stepped_179 hx hb hr hml hts hown hlocks x0 x1 x3 x6 x9 ((1 : Int64) <<< (Int32.toInt64 (x4 - x8) &&& 63)) (x6 &&& (((1 : Int64) <<< (Int32.toInt64 (x4 - x8) &&& 63)) - (1 : Int64))) (by rw [hg]; rfl)  (lv_sub hl [2, 3, 4, 6, 8, 1, 0] rfl)
def fn_X3_stepped_132 (x0 : Int32) (x1 : Int64) (x9 : Int32) : Int64 :=
  if x9 = 0 then
    if (0 : Int64) ≤ x1 then
      fn_X3_signed x0 (0 : Int64) (0 : Int32)
    else
      fn_X3_signed x0 (0 : Int64) (1 : Int32)
  else
    if (0 : Int64) ≤ x1 then
      fn_X3_signed x0 (fn_X3_one x0) (0 : Int32)
    else
      fn_X3_signed x0 (fn_X3_one x0) (1 : Int32)
set_option maxHeartbeats 4000000 in
set_option maxRecDepth 100000 in
theorem sg_X3_stepped_132 {p : Program} {l : Launch} {e : Env} {s : State} {m : MethodId} {args : Array Value} {below : List Frame} {meth : Method} {c : Code} {ls : Array Slot} {g : Int64} (hx : p.tables.exec = Jvm.exec) (hb : c.code = cX3_stepped) (hr : meth.sig.returnType = (some .long)) (hml : c.maxLocals = 18) (hts : ∀ w ∈ wsX3_stepped, w.before args s = true) (hown : s.vm.findClass RX3 = some m.cls) (hlocks : meth.locks = false) (x0 : Int32) (x1 : Int64) (x9 : Int32) (hg : g = fn_X3_stepped_132 x0 x1 x9) (hl : lv_has ls 18 [(0, .int x0), (1, .long x1), (9, .int x9)]) : W p l e ({ frames := 1, cells := 0, slots := 0, locals := 23 } : Room) s m args below meth c s.heap [] 0 0 (MQ below (vp_Sl (fun r => r = g)) args s 0 0 (fun _ => False)) (F0 m 132 ls []) := by
  have hS : va_S (fun _ => False) s.heap s.heap [] := va_S.rf
  refine lv_iload_n hx hb dX3_stepped_132 rfl (lv_at hl 0 rfl) ?_
  refine lv_iload hx hb dX3_stepped_133 (lv_at hl 2 rfl) ?_
  refine lv_if_eq (tgt := 145) hx hb dX3_stepped_135 (by decide) (fun c_1 => ?_) (fun c_1 => ?_)
  · refine lv_lconst (v := (0 : Int64)) hx hb dX3_stepped_145 (by decide) ?_
    refine lv_lload_n hx hb dX3_stepped_146 rfl (lv_at hl 1 rfl) ?_
    refine lv_lconst (v := (0 : Int64)) hx hb dX3_stepped_147 (by decide) ?_
    refine zl_ge (tgt := 156) hx hb dX3_stepped_148 dX3_stepped_149 (by decide) (fun c_2 => ?_) (fun c_2 => ?_)
    · refine lv_iconst (v := (0 : Int32)) hx hb dX3_stepped_156 (by decide) ?_
      refine vp_callSl (W.runS (As := [.int x0, .long (0 : Int64), .int (0 : Int32)]) (rest := []) ⟨hx, hb, hml, hown, hts⟩ (ct_X3_signed l x0 (0 : Int64) (0 : Int32)) (va_cwS 3 hts gX3_stepped_X3_signed rfl rfl rfl (by decide +kernel) ⟨Nat.le_of_ble_eq_true rfl, Nat.le_of_ble_eq_true rfl⟩) ⟨(fun a U g mk q => ⟨q.1, trivial⟩), fun U hU hW9 => ⟨rfl, trivial⟩⟩ rfl rfl hl.1 rfl (lv_room (Nat.le_of_ble_eq_true rfl)) dX3_stepped_157 ⟨Nat.zero_le _, Nat.zero_le _⟩) (fun r er => ?_)
      subst er
      exact W.lret (v := fn_X3_signed x0 (0 : Int64) (0 : Int32)) hx hb hr (fun t ht _ => ⟨_, rfl, by rw [hg]; unfold fn_X3_stepped_132; rw [if_pos c_1, if_pos c_2], ht⟩) (fun _ h => by cases h) dX3_stepped_160
    · refine lv_iconst (v := (1 : Int32)) hx hb dX3_stepped_152 (by decide) ?_
      refine lv_goto (tgt := 157) hx hb dX3_stepped_153 (by decide) ?_
      refine vp_callSl (W.runS (As := [.int x0, .long (0 : Int64), .int (1 : Int32)]) (rest := []) ⟨hx, hb, hml, hown, hts⟩ (ct_X3_signed l x0 (0 : Int64) (1 : Int32)) (va_cwS 3 hts gX3_stepped_X3_signed rfl rfl rfl (by decide +kernel) ⟨Nat.le_of_ble_eq_true rfl, Nat.le_of_ble_eq_true rfl⟩) ⟨(fun a U g mk q => ⟨q.1, trivial⟩), fun U hU hW9 => ⟨rfl, trivial⟩⟩ rfl rfl hl.1 rfl (lv_room (Nat.le_of_ble_eq_true rfl)) dX3_stepped_157 ⟨Nat.zero_le _, Nat.zero_le _⟩) (fun r er => ?_)
      subst er
      exact W.lret (v := fn_X3_signed x0 (0 : Int64) (1 : Int32)) hx hb hr (fun t ht _ => ⟨_, rfl, by rw [hg]; unfold fn_X3_stepped_132; rw [if_pos c_1, if_neg c_2], ht⟩) (fun _ h => by cases h) dX3_stepped_160
  · refine lv_iload_n hx hb dX3_stepped_138 rfl (lv_at hl 0 rfl) ?_
    refine vp_callSl (W.runS (As := [.int x0]) (rest := [.int x0]) ⟨hx, hb, hml, hown, hts⟩ (ct_X3_one l x0) (va_cwS 1 hts gX3_stepped_X3_one rfl rfl rfl (by decide +kernel) ⟨Nat.le_of_ble_eq_true rfl, Nat.le_of_ble_eq_true rfl⟩) ⟨(fun a U g mk q => ⟨q.1, trivial⟩), fun U hU hW9 => ⟨rfl, trivial⟩⟩ rfl rfl hl.1 rfl (lv_room (Nat.le_of_ble_eq_true rfl)) dX3_stepped_139 ⟨Nat.zero_le _, Nat.zero_le _⟩) (fun r er => ?_)
    subst er
    refine lv_goto (tgt := 146) hx hb dX3_stepped_142 (by decide) ?_
    refine lv_lload_n hx hb dX3_stepped_146 rfl (lv_at hl 1 rfl) ?_
    refine lv_lconst (v := (0 : Int64)) hx hb dX3_stepped_147 (by decide) ?_
    refine zl_ge (tgt := 156) hx hb dX3_stepped_148 dX3_stepped_149 (by decide) (fun c_3 => ?_) (fun c_3 => ?_)
    · refine lv_iconst (v := (0 : Int32)) hx hb dX3_stepped_156 (by decide) ?_
      refine vp_callSl (W.runS (As := [.int x0, .long (fn_X3_one x0), .int (0 : Int32)]) (rest := []) ⟨hx, hb, hml, hown, hts⟩ (ct_X3_signed l x0 (fn_X3_one x0) (0 : Int32)) (va_cwS 3 hts gX3_stepped_X3_signed rfl rfl rfl (by decide +kernel) ⟨Nat.le_of_ble_eq_true rfl, Nat.le_of_ble_eq_true rfl⟩) ⟨(fun a U g mk q => ⟨q.1, trivial⟩), fun U hU hW9 => ⟨rfl, trivial⟩⟩ rfl rfl hl.1 rfl (lv_room (Nat.le_of_ble_eq_true rfl)) dX3_stepped_157 ⟨Nat.zero_le _, Nat.zero_le _⟩) (fun r er => ?_)
      subst er
      exact W.lret (v := fn_X3_signed x0 (fn_X3_one x0) (0 : Int32)) hx hb hr (fun t ht _ => ⟨_, rfl, by rw [hg]; unfold fn_X3_stepped_132; rw [if_neg c_1, if_pos c_3], ht⟩) (fun _ h => by cases h) dX3_stepped_160
    · refine lv_iconst (v := (1 : Int32)) hx hb dX3_stepped_152 (by decide) ?_
      refine lv_goto (tgt := 157) hx hb dX3_stepped_153 (by decide) ?_
      refine vp_callSl (W.runS (As := [.int x0, .long (fn_X3_one x0), .int (1 : Int32)]) (rest := []) ⟨hx, hb, hml, hown, hts⟩ (ct_X3_signed l x0 (fn_X3_one x0) (1 : Int32)) (va_cwS 3 hts gX3_stepped_X3_signed rfl rfl rfl (by decide +kernel) ⟨Nat.le_of_ble_eq_true rfl, Nat.le_of_ble_eq_true rfl⟩) ⟨(fun a U g mk q => ⟨q.1, trivial⟩), fun U hU hW9 => ⟨rfl, trivial⟩⟩ rfl rfl hl.1 rfl (lv_room (Nat.le_of_ble_eq_true rfl)) dX3_stepped_157 ⟨Nat.zero_le _, Nat.zero_le _⟩) (fun r er => ?_)
      subst er
      exact W.lret (v := fn_X3_signed x0 (fn_X3_one x0) (1 : Int32)) hx hb hr (fun t ht _ => ⟨_, rfl, by rw [hg]; unfold fn_X3_stepped_132; rw [if_neg c_1, if_neg c_3], ht⟩) (fun _ h => by cases h) dX3_stepped_160
def fn_X3_stepped_95 (x0 : Int32) (x1 : Int64) (x3 : Int32) (x4 : Int32) (x5 : Int32) (x6 : Int64) (x8 : Int32) (x9 : Int32) : Int64 :=
  if 0 ≤ x8 then
    fn_X3_stepped_161 x0 x1 x3 x4 x6 x8 x9
  else
    if x3 = (2 : Int32) then
      if x8 = (-1 : Int32) then
        if x6 ≤ ((Int32.toInt64 (x5 - (1 : Int32))) <<< (Int32.toInt64 x4 &&& 63)) then
          fn_X3_stepped_132 x0 x1 (0 : Int32)
        else
          fn_X3_stepped_132 x0 x1 (1 : Int32)
      else
        fn_X3_stepped_132 x0 x1 (0 : Int32)
    else
      fn_X3_stepped_132 x0 x1 x9
set_option maxHeartbeats 4000000 in
set_option maxRecDepth 100000 in
theorem sg_X3_stepped_95 {p : Program} {l : Launch} {e : Env} {s : State} {m : MethodId} {args : Array Value} {below : List Frame} {meth : Method} {c : Code} {ls : Array Slot} {g : Int64} (hx : p.tables.exec = Jvm.exec) (hb : c.code = cX3_stepped) (hr : meth.sig.returnType = (some .long)) (hml : c.maxLocals = 18) (hts : ∀ w ∈ wsX3_stepped, w.before args s = true) (hown : s.vm.findClass RX3 = some m.cls) (hlocks : meth.locks = false) (x0 : Int32) (x1 : Int64) (x3 : Int32) (x4 : Int32) (x5 : Int32) (x6 : Int64) (x8 : Int32) (x9 : Int32) (hg : g = fn_X3_stepped_95 x0 x1 x3 x4 x5 x6 x8 x9) (hl : lv_has ls 18 [(0, .int x0), (1, .long x1), (3, .int x3), (4, .int x4), (5, .int x5), (6, .long x6), (8, .int x8), (9, .int x9)]) : W p l e ({ frames := 1, cells := 0, slots := 0, locals := 23 } : Room) s m args below meth c s.heap [] 0 0 (MQ below (vp_Sl (fun r => r = g)) args s 0 0 (fun _ => False)) (F0 m 95 ls []) := by
  have hS : va_S (fun _ => False) s.heap s.heap [] := va_S.rf
  refine lv_iload hx hb dX3_stepped_95 (lv_at hl 6 rfl) ?_
  refine lv_if_ge (tgt := 161) hx hb dX3_stepped_97 (by decide) (fun c_1 => ?_) (fun c_1 => ?_)
  · exact sg_X3_stepped_161 hx hb hr hml hts hown hlocks x0 x1 x3 x4 x6 x8 x9 (by rw [hg]; unfold fn_X3_stepped_95; rw [if_pos c_1])  (lv_sub hl [0, 1, 2, 3, 5, 6, 7] rfl)
  · refine lv_iload_n hx hb dX3_stepped_100 rfl (lv_at hl 2 rfl) ?_
    refine lv_iconst (v := (2 : Int32)) hx hb dX3_stepped_101 (by decide) ?_
    refine lv_icmp_ne (tgt := 132) hx hb dX3_stepped_102 (by decide) (fun c_2 => ?_) (fun c_2 => ?_)
    · exact sg_X3_stepped_132 hx hb hr hml hts hown hlocks x0 x1 x9 (by rw [hg]; unfold fn_X3_stepped_95; rw [if_neg c_1, if_neg c_2])  (lv_sub hl [0, 1, 7] rfl)
    · refine lv_iload hx hb dX3_stepped_105 (lv_at hl 6 rfl) ?_
      refine lv_iconst (v := (-1 : Int32)) hx hb dX3_stepped_107 (by decide) ?_
      refine lv_icmp_ne (tgt := 129) hx hb dX3_stepped_108 (by decide) (fun c_3 => ?_) (fun c_3 => ?_)
      · refine lv_iconst (v := (0 : Int32)) hx hb dX3_stepped_129 (by decide) ?_
        refine lv_istore (lv' := [(9, .int (0 : Int32)), (0, .int x0), (1, .long x1), (3, .int x3), (4, .int x4), (5, .int x5), (6, .long x6), (8, .int x8)]) hx hb dX3_stepped_130 hl (by decide) rfl (fun ls hl => ?_)
        exact sg_X3_stepped_132 hx hb hr hml hts hown hlocks x0 x1 (0 : Int32) (by rw [hg]; unfold fn_X3_stepped_95; rw [if_neg c_1, if_pos c_2, if_neg c_3])  (lv_sub hl [1, 2, 0] rfl)
      · refine lv_lload hx hb dX3_stepped_111 (lv_at hl 5 rfl) ?_
        refine lv_iload hx hb dX3_stepped_113 (lv_at hl 4 rfl) ?_
        refine lv_iconst (v := (1 : Int32)) hx hb dX3_stepped_115 (by decide) ?_
        refine lv_isub hx hb dX3_stepped_116 ?_
        refine lv_i2l hx hb dX3_stepped_117 rfl ?_
        refine lv_iload hx hb dX3_stepped_118 (lv_at hl 3 rfl) ?_
        refine lv_lshl hx hb dX3_stepped_120 rfl ?_
        refine zl_le (tgt := 129) hx hb dX3_stepped_121 dX3_stepped_122 (by decide) (fun c_4 => ?_) (fun c_4 => ?_)
        · refine lv_iconst (v := (0 : Int32)) hx hb dX3_stepped_129 (by decide) ?_
          refine lv_istore (lv' := [(9, .int (0 : Int32)), (0, .int x0), (1, .long x1), (3, .int x3), (4, .int x4), (5, .int x5), (6, .long x6), (8, .int x8)]) hx hb dX3_stepped_130 hl (by decide) rfl (fun ls hl => ?_)
          exact sg_X3_stepped_132 hx hb hr hml hts hown hlocks x0 x1 (0 : Int32) (by rw [hg]; unfold fn_X3_stepped_95; rw [if_neg c_1, if_pos c_2, if_pos c_3, if_pos c_4])  (lv_sub hl [1, 2, 0] rfl)
        · refine lv_iconst (v := (1 : Int32)) hx hb dX3_stepped_125 (by decide) ?_
          refine lv_goto (tgt := 130) hx hb dX3_stepped_126 (by decide) ?_
          refine lv_istore (lv' := [(9, .int (1 : Int32)), (0, .int x0), (1, .long x1), (3, .int x3), (4, .int x4), (5, .int x5), (6, .long x6), (8, .int x8)]) hx hb dX3_stepped_130 hl (by decide) rfl (fun ls hl => ?_)
          exact sg_X3_stepped_132 hx hb hr hml hts hown hlocks x0 x1 (1 : Int32) (by rw [hg]; unfold fn_X3_stepped_95; rw [if_neg c_1, if_pos c_2, if_pos c_3, if_neg c_4])  (lv_sub hl [1, 2, 0] rfl)
def fn_X3_stepped_48 (x0 : Int32) (x1 : Int64) (x3 : Int32) (x4 : Int32) (x5 : Int32) (x6 : Int64) (x8 : Int32) : Int64 :=
  if x6 = (0 : Int64) then
    x1
  else
    if x8 < x4 then
      if x3 = 0 then
        if (0 : Int64) ≤ x1 then
          fn_X3_stepped_95 x0 x1 x3 x4 x5 x6 x8 (0 : Int32)
        else
          fn_X3_stepped_95 x0 x1 x3 x4 x5 x6 x8 (1 : Int32)
      else
        if x1 < (0 : Int64) then
          fn_X3_stepped_95 x0 x1 x3 x4 x5 x6 x8 (0 : Int32)
        else
          fn_X3_stepped_95 x0 x1 x3 x4 x5 x6 x8 (1 : Int32)
    else
      x1
set_option maxHeartbeats 4000000 in
set_option maxRecDepth 100000 in
theorem sg_X3_stepped_48 {p : Program} {l : Launch} {e : Env} {s : State} {m : MethodId} {args : Array Value} {below : List Frame} {meth : Method} {c : Code} {ls : Array Slot} {g : Int64} (hx : p.tables.exec = Jvm.exec) (hb : c.code = cX3_stepped) (hr : meth.sig.returnType = (some .long)) (hml : c.maxLocals = 18) (hts : ∀ w ∈ wsX3_stepped, w.before args s = true) (hown : s.vm.findClass RX3 = some m.cls) (hlocks : meth.locks = false) (x0 : Int32) (x1 : Int64) (x3 : Int32) (x4 : Int32) (x5 : Int32) (x6 : Int64) (x8 : Int32) (hg : g = fn_X3_stepped_48 x0 x1 x3 x4 x5 x6 x8) (hl : lv_has ls 18 [(0, .int x0), (1, .long x1), (3, .int x3), (4, .int x4), (5, .int x5), (6, .long x6), (8, .int x8)]) : W p l e ({ frames := 1, cells := 0, slots := 0, locals := 23 } : Room) s m args below meth c s.heap [] 0 0 (MQ below (vp_Sl (fun r => r = g)) args s 0 0 (fun _ => False)) (F0 m 48 ls []) := by
  have hS : va_S (fun _ => False) s.heap s.heap [] := va_S.rf
  refine lv_lload hx hb dX3_stepped_48 (lv_at hl 5 rfl) ?_
  refine lv_lconst (v := (0 : Int64)) hx hb dX3_stepped_50 (by decide) ?_
  refine zl_eq (tgt := 62) hx hb dX3_stepped_51 dX3_stepped_52 (by decide) (fun c_1 => ?_) (fun c_1 => ?_)
  · refine lv_lload_n hx hb dX3_stepped_62 rfl (lv_at hl 1 rfl) ?_
    exact W.lret (v := x1) hx hb hr (fun t ht _ => ⟨_, rfl, by rw [hg]; unfold fn_X3_stepped_48; rw [if_pos c_1], ht⟩) (fun _ h => by cases h) dX3_stepped_63
  · refine lv_iload hx hb dX3_stepped_55 (lv_at hl 6 rfl) ?_
    refine lv_iload hx hb dX3_stepped_57 (lv_at hl 3 rfl) ?_
    refine lv_icmp_lt (tgt := 64) hx hb dX3_stepped_59 (by decide) (fun c_2 => ?_) (fun c_2 => ?_)
    · refine lv_iload_n hx hb dX3_stepped_64 rfl (lv_at hl 2 rfl) ?_
      refine lv_if_ne (tgt := 82) hx hb dX3_stepped_65 (by decide) (fun c_3 => ?_) (fun c_3 => ?_)
      · refine lv_lload_n hx hb dX3_stepped_82 rfl (lv_at hl 1 rfl) ?_
        refine lv_lconst (v := (0 : Int64)) hx hb dX3_stepped_83 (by decide) ?_
        refine zl_lt (tgt := 92) hx hb dX3_stepped_84 dX3_stepped_85 (by decide) (fun c_4 => ?_) (fun c_4 => ?_)
        · refine lv_iconst (v := (0 : Int32)) hx hb dX3_stepped_92 (by decide) ?_
          refine lv_istore (lv' := [(9, .int (0 : Int32)), (0, .int x0), (1, .long x1), (3, .int x3), (4, .int x4), (5, .int x5), (6, .long x6), (8, .int x8)]) hx hb dX3_stepped_93 hl (by decide) rfl (fun ls hl => ?_)
          exact sg_X3_stepped_95 hx hb hr hml hts hown hlocks x0 x1 x3 x4 x5 x6 x8 (0 : Int32) (by rw [hg]; unfold fn_X3_stepped_48; rw [if_neg c_1, if_pos c_2, if_neg c_3, if_pos c_4])  (lv_sub hl [1, 2, 3, 4, 5, 6, 7, 0] rfl)
        · refine lv_iconst (v := (1 : Int32)) hx hb dX3_stepped_88 (by decide) ?_
          refine lv_goto (tgt := 93) hx hb dX3_stepped_89 (by decide) ?_
          refine lv_istore (lv' := [(9, .int (1 : Int32)), (0, .int x0), (1, .long x1), (3, .int x3), (4, .int x4), (5, .int x5), (6, .long x6), (8, .int x8)]) hx hb dX3_stepped_93 hl (by decide) rfl (fun ls hl => ?_)
          exact sg_X3_stepped_95 hx hb hr hml hts hown hlocks x0 x1 x3 x4 x5 x6 x8 (1 : Int32) (by rw [hg]; unfold fn_X3_stepped_48; rw [if_neg c_1, if_pos c_2, if_neg c_3, if_neg c_4])  (lv_sub hl [1, 2, 3, 4, 5, 6, 7, 0] rfl)
      · refine lv_lload_n hx hb dX3_stepped_68 rfl (lv_at hl 1 rfl) ?_
        refine lv_lconst (v := (0 : Int64)) hx hb dX3_stepped_69 (by decide) ?_
        refine zl_ge (tgt := 78) hx hb dX3_stepped_70 dX3_stepped_71 (by decide) (fun c_5 => ?_) (fun c_5 => ?_)
        · refine lv_iconst (v := (0 : Int32)) hx hb dX3_stepped_78 (by decide) ?_
          refine lv_goto (tgt := 93) hx hb dX3_stepped_79 (by decide) ?_
          refine lv_istore (lv' := [(9, .int (0 : Int32)), (0, .int x0), (1, .long x1), (3, .int x3), (4, .int x4), (5, .int x5), (6, .long x6), (8, .int x8)]) hx hb dX3_stepped_93 hl (by decide) rfl (fun ls hl => ?_)
          exact sg_X3_stepped_95 hx hb hr hml hts hown hlocks x0 x1 x3 x4 x5 x6 x8 (0 : Int32) (by rw [hg]; unfold fn_X3_stepped_48; rw [if_neg c_1, if_pos c_2, if_pos c_3, if_pos c_5])  (lv_sub hl [1, 2, 3, 4, 5, 6, 7, 0] rfl)
        · refine lv_iconst (v := (1 : Int32)) hx hb dX3_stepped_74 (by decide) ?_
          refine lv_goto (tgt := 93) hx hb dX3_stepped_75 (by decide) ?_
          refine lv_istore (lv' := [(9, .int (1 : Int32)), (0, .int x0), (1, .long x1), (3, .int x3), (4, .int x4), (5, .int x5), (6, .long x6), (8, .int x8)]) hx hb dX3_stepped_93 hl (by decide) rfl (fun ls hl => ?_)
          exact sg_X3_stepped_95 hx hb hr hml hts hown hlocks x0 x1 x3 x4 x5 x6 x8 (1 : Int32) (by rw [hg]; unfold fn_X3_stepped_48; rw [if_neg c_1, if_pos c_2, if_pos c_3, if_neg c_5])  (lv_sub hl [1, 2, 3, 4, 5, 6, 7, 0] rfl)
    · refine lv_lload_n hx hb dX3_stepped_62 rfl (lv_at hl 1 rfl) ?_
      exact W.lret (v := x1) hx hb hr (fun t ht _ => ⟨_, rfl, by rw [hg]; unfold fn_X3_stepped_48; rw [if_neg c_1, if_neg c_2], ht⟩) (fun _ h => by cases h) dX3_stepped_63
def fn_X3_stepped_30 (x0 : Int32) (x1 : Int64) (x3 : Int32) (x4 : Int32) (x5 : Int32) : Int64 :=
  fn_X3_stepped_48 x0 x1 x3 x4 x5 (fn_X3_size x0 x1) ((Int64.toInt32 ((Int64.toUInt64 (fn_X3_size x0 x1) >>> (Int64.toUInt64 (Int32.toInt64 x4) &&& Int64.toUInt64 63)).toInt64)) - x5)
set_option maxHeartbeats 4000000 in
set_option maxRecDepth 100000 in
theorem sg_X3_stepped_30 {p : Program} {l : Launch} {e : Env} {s : State} {m : MethodId} {args : Array Value} {below : List Frame} {meth : Method} {c : Code} {ls : Array Slot} {g : Int64} (hx : p.tables.exec = Jvm.exec) (hb : c.code = cX3_stepped) (hr : meth.sig.returnType = (some .long)) (hml : c.maxLocals = 18) (hts : ∀ w ∈ wsX3_stepped, w.before args s = true) (hown : s.vm.findClass RX3 = some m.cls) (hlocks : meth.locks = false) (x0 : Int32) (x1 : Int64) (x3 : Int32) (x4 : Int32) (x5 : Int32) (hg : g = fn_X3_stepped_30 x0 x1 x3 x4 x5) (hl : lv_has ls 18 [(0, .int x0), (1, .long x1), (3, .int x3), (4, .int x4), (5, .int x5)]) : W p l e ({ frames := 1, cells := 0, slots := 0, locals := 23 } : Room) s m args below meth c s.heap [] 0 0 (MQ below (vp_Sl (fun r => r = g)) args s 0 0 (fun _ => False)) (F0 m 30 ls []) := by
  have hS : va_S (fun _ => False) s.heap s.heap [] := va_S.rf
  refine lv_iload_n hx hb dX3_stepped_30 rfl (lv_at hl 0 rfl) ?_
  refine lv_lload_n hx hb dX3_stepped_31 rfl (lv_at hl 1 rfl) ?_
  refine vp_callSl (W.runS (As := [.int x0, .long x1]) (rest := []) ⟨hx, hb, hml, hown, hts⟩ (ct_X3_size l x0 x1) (va_cwS 2 hts gX3_stepped_X3_size rfl rfl rfl (by decide +kernel) ⟨Nat.le_of_ble_eq_true rfl, Nat.le_of_ble_eq_true rfl⟩) ⟨(fun a U g mk q => ⟨q.1, trivial⟩), fun U hU hW9 => ⟨rfl, trivial⟩⟩ rfl rfl hl.1 rfl (lv_room (Nat.le_of_ble_eq_true rfl)) dX3_stepped_32 ⟨Nat.zero_le _, Nat.zero_le _⟩) (fun r er => ?_)
  subst er
  refine lv_lstore (lv' := [(6, .long (fn_X3_size x0 x1)), (0, .int x0), (1, .long x1), (3, .int x3), (4, .int x4), (5, .int x5)]) hx hb dX3_stepped_35 hl (by decide) rfl (fun ls hl => ?_)
  refine lv_lload hx hb dX3_stepped_37 (lv_at hl 0 rfl) ?_
  refine lv_iload hx hb dX3_stepped_39 (lv_at hl 4 rfl) ?_
  refine lv_lushr hx hb dX3_stepped_41 rfl ?_
  refine lv_l2i hx hb dX3_stepped_42 rfl ?_
  refine lv_iload hx hb dX3_stepped_43 (lv_at hl 5 rfl) ?_
  refine lv_isub hx hb dX3_stepped_45 ?_
  refine lv_istore (lv' := [(8, .int ((Int64.toInt32 ((Int64.toUInt64 (fn_X3_size x0 x1) >>> (Int64.toUInt64 (Int32.toInt64 x4) &&& Int64.toUInt64 63)).toInt64)) - x5)), (6, .long (fn_X3_size x0 x1)), (0, .int x0), (1, .long x1), (3, .int x3), (4, .int x4), (5, .int x5)]) hx hb dX3_stepped_46 hl (by decide) rfl (fun ls hl => ?_)
  exact sg_X3_stepped_48 hx hb hr hml hts hown hlocks x0 x1 x3 x4 x5 (fn_X3_size x0 x1) ((Int64.toInt32 ((Int64.toUInt64 (fn_X3_size x0 x1) >>> (Int64.toUInt64 (Int32.toInt64 x4) &&& Int64.toUInt64 63)).toInt64)) - x5) (by rw [hg]; rfl)  (lv_sub hl [2, 3, 4, 5, 6, 1, 0] rfl)
def fn_X3_stepped (v0 : Int32) (v1 : Int64) (v3 : Int32) : Int64 :=
  if (fn_X3_isFloating v0) = 0 then
    v1
  else
    if v0 = (2 : Int32) then
      fn_X3_stepped_30 v0 v1 v3 (fn_X3_fractionOf v0) (127 : Int32)
    else
      fn_X3_stepped_30 v0 v1 v3 (fn_X3_fractionOf v0) (1023 : Int32)
set_option maxHeartbeats 4000000 in
set_option maxRecDepth 100000 in
theorem ct_X3_stepped (l : Launch) (v0 : Int32) (v1 : Int64) (v3 : Int32) : Met l yX3_stepped wsX3_stepped ({ frames := 1, cells := 0, slots := 0, locals := 23 } : Room) (va_Pc [.int v0, .long v1, .int v3] (fun _ => True)) (vp_Sl (fun r => r = fn_X3_stepped v0 v1 v3)) 0 0 (fun _ => False) := by
  refine Met.ofW (cc := cX3_stepped) (maxL := 18) (ret := (some .long)) (by decide) rfl ?_
  intro p e s m args below meth c s₁ B hml hv
  obtain ⟨rfl, hW⟩ := hv
  have hx := B.exec
  have hb := B.bytes
  have hr := B.returns
  have hlocks := B.notSynchronized
  have hts := atoms_spec (ws := wsX3_stepped) B.pre
  have hown : s.vm.findClass RX3 = some m.cls := findClass_of_methodNamed B.named
  have hS : va_S (fun _ => False) s.heap s.heap [] := va_S.rf
  have hl := lv_entry ([.int v0, .long v1, .int v3]) (n := 18) (Nat.le_of_ble_eq_true rfl)
  rw [lg_entry_eq]
  generalize (lg_sl ([.int v0, .long v1, .int v3]) ++ List.replicate (18 - (lg_sl ([.int v0, .long v1, .int v3])).length) Slot.unset).toArray = ls at hl ⊢
  have hl : lv_has ls 18 [(0, .int v0), (1, .long v1), (3, .int v3)] := hl
  refine lv_iload_n hx hb dX3_stepped_0 rfl (lv_at hl 0 rfl) ?_
  refine vp_callSi (W.runS (As := [.int v0]) (rest := []) ⟨hx, hb, hml, hown, hts⟩ (ct_X3_isFloating l v0) (va_cwS 1 hts gX3_stepped_X3_isFloating rfl rfl rfl (by decide +kernel) ⟨Nat.le_of_ble_eq_true rfl, Nat.le_of_ble_eq_true rfl⟩) ⟨(fun a U g mk q => ⟨q.1, trivial⟩), fun U hU hW9 => ⟨rfl, trivial⟩⟩ rfl rfl hl.1 rfl (lv_room (Nat.le_of_ble_eq_true rfl)) dX3_stepped_1 ⟨Nat.zero_le _, Nat.zero_le _⟩) (fun r er => ?_)
  subst er
  refine lv_if_ne (tgt := 9) hx hb dX3_stepped_4 (by decide) (fun c_1 => ?_) (fun c_1 => ?_)
  · refine lv_iload_n hx hb dX3_stepped_9 rfl (lv_at hl 0 rfl) ?_
    refine vp_callSi (W.runS (As := [.int v0]) (rest := []) ⟨hx, hb, hml, hown, hts⟩ (ct_X3_fractionOf l v0) (va_cwS 1 hts gX3_stepped_X3_fractionOf rfl rfl rfl (by decide +kernel) ⟨Nat.le_of_ble_eq_true rfl, Nat.le_of_ble_eq_true rfl⟩) ⟨(fun a U g mk q => ⟨q.1, trivial⟩), fun U hU hW9 => ⟨rfl, trivial⟩⟩ rfl rfl hl.1 rfl (lv_room (Nat.le_of_ble_eq_true rfl)) dX3_stepped_10 ⟨Nat.zero_le _, Nat.zero_le _⟩) (fun r er => ?_)
    subst er
    refine lv_istore (lv' := [(4, .int (fn_X3_fractionOf v0)), (0, .int v0), (1, .long v1), (3, .int v3)]) hx hb dX3_stepped_13 hl (by decide) rfl (fun ls hl => ?_)
    refine lv_iload_n hx hb dX3_stepped_15 rfl (lv_at hl 1 rfl) ?_
    refine lv_iconst (v := (2 : Int32)) hx hb dX3_stepped_16 (by decide) ?_
    refine lv_icmp_ne (tgt := 25) hx hb dX3_stepped_17 (by decide) (fun c_2 => ?_) (fun c_2 => ?_)
    · refine lv_sipush (v := (1023 : Int32)) hx hb dX3_stepped_25 (by decide) ?_
      refine lv_istore (lv' := [(5, .int (1023 : Int32)), (4, .int (fn_X3_fractionOf v0)), (0, .int v0), (1, .long v1), (3, .int v3)]) hx hb dX3_stepped_28 hl (by decide) rfl (fun ls hl => ?_)
      exact sg_X3_stepped_30 hx hb hr hml hts hown hlocks v0 v1 v3 (fn_X3_fractionOf v0) (1023 : Int32) (by unfold fn_X3_stepped; rw [if_neg c_1, if_neg c_2])  (lv_sub hl [2, 3, 4, 1, 0] rfl)
    · refine lv_bipush (v := (127 : Int32)) hx hb dX3_stepped_20 (by decide) ?_
      refine lv_goto (tgt := 28) hx hb dX3_stepped_22 (by decide) ?_
      refine lv_istore (lv' := [(5, .int (127 : Int32)), (4, .int (fn_X3_fractionOf v0)), (0, .int v0), (1, .long v1), (3, .int v3)]) hx hb dX3_stepped_28 hl (by decide) rfl (fun ls hl => ?_)
      exact sg_X3_stepped_30 hx hb hr hml hts hown hlocks v0 v1 v3 (fn_X3_fractionOf v0) (127 : Int32) (by unfold fn_X3_stepped; rw [if_neg c_1, if_pos c_2])  (lv_sub hl [2, 3, 4, 1, 0] rfl)
  · refine lv_lload_n hx hb dX3_stepped_7 rfl (lv_at hl 1 rfl) ?_
    exact W.lret (v := v1) hx hb hr (fun t ht _ => ⟨_, rfl, by unfold fn_X3_stepped; rw [if_pos c_1], ht⟩) (fun _ h => by cases h) dX3_stepped_8
