def fn_J6_numberOfLeadingZeros_0f7a4_73 (x0 : Int32) (x1 : Int32) : Int32 :=
  x1 - ((Int32.toUInt32 x0 >>> (Int32.toUInt32 (1 : Int32) &&& Int32.toUInt32 31)).toInt32)
set_option maxHeartbeats 4000000 in
set_option maxRecDepth 100000 in
theorem sg_J6_numberOfLeadingZeros_0f7a4_73 {p : Program} {l : Launch} {e : Env} {s : State} {m : MethodId} {args : Array Value} {below : List Frame} {meth : Method} {c : Code} {ls : Array Slot} {g : Int32} (hx : p.tables.exec = Jvm.exec) (hb : c.code = cJ6_numberOfLeadingZeros_0f7a4) (hr : meth.sig.returnType = (some .int)) (hml : c.maxLocals = 2) (hts : ∀ w ∈ wsJ6_numberOfLeadingZeros_0f7a4, w.before args s = true) (hown : s.vm.findClass RJ6 = some m.cls) (hlocks : meth.locks = false) (x0 : Int32) (x1 : Int32) (hg : g = fn_J6_numberOfLeadingZeros_0f7a4_73 x0 x1) (hl : lv_has ls 2 [(0, .int x0), (1, .int x1)]) : W p l e ({ frames := 0, cells := 0, slots := 0, locals := 0 } : Room) s m args below meth c s.heap [] 0 0 (MQ below (vp_Si (fun r => r = g)) args s 0 0 (fun _ => False)) (F0 m 73 ls []) := by
  have hS : va_S (fun _ => False) s.heap s.heap [] := va_S.rf
  refine lv_iload_n hx hb dJ6_numberOfLeadingZeros_0f7a4_73 rfl (lv_at hl 1 rfl) ?_
  refine lv_iload_n hx hb dJ6_numberOfLeadingZeros_0f7a4_74 rfl (lv_at hl 0 rfl) ?_
  refine lv_iconst (v := (1 : Int32)) hx hb dJ6_numberOfLeadingZeros_0f7a4_75 (by decide) ?_
  refine lv_iushr hx hb dJ6_numberOfLeadingZeros_0f7a4_76 rfl ?_
  refine lv_isub hx hb dJ6_numberOfLeadingZeros_0f7a4_77 ?_
  exact W.iret (v := x1 - ((Int32.toUInt32 x0 >>> (Int32.toUInt32 (1 : Int32) &&& Int32.toUInt32 31)).toInt32)) hx hb hr (fun t ht _ => ⟨_, rfl, by rw [hg]; rfl, ht⟩) (fun _ h => by cases h) dJ6_numberOfLeadingZeros_0f7a4_78
def fn_J6_numberOfLeadingZeros_0f7a4_61 (x0 : Int32) (x1 : Int32) : Int32 :=
  if x0 < (4 : Int32) then
    fn_J6_numberOfLeadingZeros_0f7a4_73 x0 x1
  else
    fn_J6_numberOfLeadingZeros_0f7a4_73 ((Int32.toUInt32 x0 >>> (Int32.toUInt32 (2 : Int32) &&& Int32.toUInt32 31)).toInt32) (x1 + (-2 : Int32))
set_option maxHeartbeats 4000000 in
set_option maxRecDepth 100000 in
theorem sg_J6_numberOfLeadingZeros_0f7a4_61 {p : Program} {l : Launch} {e : Env} {s : State} {m : MethodId} {args : Array Value} {below : List Frame} {meth : Method} {c : Code} {ls : Array Slot} {g : Int32} (hx : p.tables.exec = Jvm.exec) (hb : c.code = cJ6_numberOfLeadingZeros_0f7a4) (hr : meth.sig.returnType = (some .int)) (hml : c.maxLocals = 2) (hts : ∀ w ∈ wsJ6_numberOfLeadingZeros_0f7a4, w.before args s = true) (hown : s.vm.findClass RJ6 = some m.cls) (hlocks : meth.locks = false) (x0 : Int32) (x1 : Int32) (hg : g = fn_J6_numberOfLeadingZeros_0f7a4_61 x0 x1) (hl : lv_has ls 2 [(0, .int x0), (1, .int x1)]) : W p l e ({ frames := 0, cells := 0, slots := 0, locals := 0 } : Room) s m args below meth c s.heap [] 0 0 (MQ below (vp_Si (fun r => r = g)) args s 0 0 (fun _ => False)) (F0 m 61 ls []) := by
  have hS : va_S (fun _ => False) s.heap s.heap [] := va_S.rf
  refine lv_iload_n hx hb dJ6_numberOfLeadingZeros_0f7a4_61 rfl (lv_at hl 0 rfl) ?_
  refine lv_iconst (v := (4 : Int32)) hx hb dJ6_numberOfLeadingZeros_0f7a4_62 (by decide) ?_
  refine lv_icmp_lt (tgt := 73) hx hb dJ6_numberOfLeadingZeros_0f7a4_63 (by decide) (fun c_1 => ?_) (fun c_1 => ?_)
  · exact sg_J6_numberOfLeadingZeros_0f7a4_73 hx hb hr hml hts hown hlocks x0 x1 (by rw [hg]; unfold fn_J6_numberOfLeadingZeros_0f7a4_61; rw [if_pos c_1])  (lv_sub hl [0, 1] rfl)
  · refine lv_iinc (v := x1 + (-2 : Int32)) (lv' := [(1, .int (x1 + (-2 : Int32))), (0, .int x0)]) hx hb dJ6_numberOfLeadingZeros_0f7a4_66 hl (k := 1) rfl rfl (by decide) rfl (fun ls hl => ?_)
    refine lv_iload_n hx hb dJ6_numberOfLeadingZeros_0f7a4_69 rfl (lv_at hl 1 rfl) ?_
    refine lv_iconst (v := (2 : Int32)) hx hb dJ6_numberOfLeadingZeros_0f7a4_70 (by decide) ?_
    refine lv_iushr hx hb dJ6_numberOfLeadingZeros_0f7a4_71 rfl ?_
    refine lv_istore_n (lv' := [(0, .int ((Int32.toUInt32 x0 >>> (Int32.toUInt32 (2 : Int32) &&& Int32.toUInt32 31)).toInt32)), (1, .int (x1 + (-2 : Int32)))]) hx hb dJ6_numberOfLeadingZeros_0f7a4_72 rfl hl (by decide) rfl (fun ls hl => ?_)
    exact sg_J6_numberOfLeadingZeros_0f7a4_73 hx hb hr hml hts hown hlocks ((Int32.toUInt32 x0 >>> (Int32.toUInt32 (2 : Int32) &&& Int32.toUInt32 31)).toInt32) (x1 + (-2 : Int32)) (by rw [hg]; unfold fn_J6_numberOfLeadingZeros_0f7a4_61; rw [if_neg c_1])  (lv_sub hl [0, 1] rfl)
def fn_J6_numberOfLeadingZeros_0f7a4_48 (x0 : Int32) (x1 : Int32) : Int32 :=
  if x0 < (16 : Int32) then
    fn_J6_numberOfLeadingZeros_0f7a4_61 x0 x1
  else
    fn_J6_numberOfLeadingZeros_0f7a4_61 ((Int32.toUInt32 x0 >>> (Int32.toUInt32 (4 : Int32) &&& Int32.toUInt32 31)).toInt32) (x1 + (-4 : Int32))
set_option maxHeartbeats 4000000 in
set_option maxRecDepth 100000 in
theorem sg_J6_numberOfLeadingZeros_0f7a4_48 {p : Program} {l : Launch} {e : Env} {s : State} {m : MethodId} {args : Array Value} {below : List Frame} {meth : Method} {c : Code} {ls : Array Slot} {g : Int32} (hx : p.tables.exec = Jvm.exec) (hb : c.code = cJ6_numberOfLeadingZeros_0f7a4) (hr : meth.sig.returnType = (some .int)) (hml : c.maxLocals = 2) (hts : ∀ w ∈ wsJ6_numberOfLeadingZeros_0f7a4, w.before args s = true) (hown : s.vm.findClass RJ6 = some m.cls) (hlocks : meth.locks = false) (x0 : Int32) (x1 : Int32) (hg : g = fn_J6_numberOfLeadingZeros_0f7a4_48 x0 x1) (hl : lv_has ls 2 [(0, .int x0), (1, .int x1)]) : W p l e ({ frames := 0, cells := 0, slots := 0, locals := 0 } : Room) s m args below meth c s.heap [] 0 0 (MQ below (vp_Si (fun r => r = g)) args s 0 0 (fun _ => False)) (F0 m 48 ls []) := by
  have hS : va_S (fun _ => False) s.heap s.heap [] := va_S.rf
  refine lv_iload_n hx hb dJ6_numberOfLeadingZeros_0f7a4_48 rfl (lv_at hl 0 rfl) ?_
  refine lv_bipush (v := (16 : Int32)) hx hb dJ6_numberOfLeadingZeros_0f7a4_49 (by decide) ?_
  refine lv_icmp_lt (tgt := 61) hx hb dJ6_numberOfLeadingZeros_0f7a4_51 (by decide) (fun c_1 => ?_) (fun c_1 => ?_)
  · exact sg_J6_numberOfLeadingZeros_0f7a4_61 hx hb hr hml hts hown hlocks x0 x1 (by rw [hg]; unfold fn_J6_numberOfLeadingZeros_0f7a4_48; rw [if_pos c_1])  (lv_sub hl [0, 1] rfl)
  · refine lv_iinc (v := x1 + (-4 : Int32)) (lv' := [(1, .int (x1 + (-4 : Int32))), (0, .int x0)]) hx hb dJ6_numberOfLeadingZeros_0f7a4_54 hl (k := 1) rfl rfl (by decide) rfl (fun ls hl => ?_)
    refine lv_iload_n hx hb dJ6_numberOfLeadingZeros_0f7a4_57 rfl (lv_at hl 1 rfl) ?_
    refine lv_iconst (v := (4 : Int32)) hx hb dJ6_numberOfLeadingZeros_0f7a4_58 (by decide) ?_
    refine lv_iushr hx hb dJ6_numberOfLeadingZeros_0f7a4_59 rfl ?_
    refine lv_istore_n (lv' := [(0, .int ((Int32.toUInt32 x0 >>> (Int32.toUInt32 (4 : Int32) &&& Int32.toUInt32 31)).toInt32)), (1, .int (x1 + (-4 : Int32)))]) hx hb dJ6_numberOfLeadingZeros_0f7a4_60 rfl hl (by decide) rfl (fun ls hl => ?_)
    exact sg_J6_numberOfLeadingZeros_0f7a4_61 hx hb hr hml hts hown hlocks ((Int32.toUInt32 x0 >>> (Int32.toUInt32 (4 : Int32) &&& Int32.toUInt32 31)).toInt32) (x1 + (-4 : Int32)) (by rw [hg]; unfold fn_J6_numberOfLeadingZeros_0f7a4_48; rw [if_neg c_1])  (lv_sub hl [0, 1] rfl)
def fn_J6_numberOfLeadingZeros_0f7a4_33 (x0 : Int32) (x1 : Int32) : Int32 :=
  if x0 < (256 : Int32) then
    fn_J6_numberOfLeadingZeros_0f7a4_48 x0 x1
  else
    fn_J6_numberOfLeadingZeros_0f7a4_48 ((Int32.toUInt32 x0 >>> (Int32.toUInt32 (8 : Int32) &&& Int32.toUInt32 31)).toInt32) (x1 + (-8 : Int32))
set_option maxHeartbeats 4000000 in
set_option maxRecDepth 100000 in
theorem sg_J6_numberOfLeadingZeros_0f7a4_33 {p : Program} {l : Launch} {e : Env} {s : State} {m : MethodId} {args : Array Value} {below : List Frame} {meth : Method} {c : Code} {ls : Array Slot} {g : Int32} (hx : p.tables.exec = Jvm.exec) (hb : c.code = cJ6_numberOfLeadingZeros_0f7a4) (hr : meth.sig.returnType = (some .int)) (hml : c.maxLocals = 2) (hts : ∀ w ∈ wsJ6_numberOfLeadingZeros_0f7a4, w.before args s = true) (hown : s.vm.findClass RJ6 = some m.cls) (hlocks : meth.locks = false) (x0 : Int32) (x1 : Int32) (hg : g = fn_J6_numberOfLeadingZeros_0f7a4_33 x0 x1) (hl : lv_has ls 2 [(0, .int x0), (1, .int x1)]) : W p l e ({ frames := 0, cells := 0, slots := 0, locals := 0 } : Room) s m args below meth c s.heap [] 0 0 (MQ below (vp_Si (fun r => r = g)) args s 0 0 (fun _ => False)) (F0 m 33 ls []) := by
  have hS : va_S (fun _ => False) s.heap s.heap [] := va_S.rf
  refine lv_iload_n hx hb dJ6_numberOfLeadingZeros_0f7a4_33 rfl (lv_at hl 0 rfl) ?_
  refine lv_sipush (v := (256 : Int32)) hx hb dJ6_numberOfLeadingZeros_0f7a4_34 (by decide) ?_
  refine lv_icmp_lt (tgt := 48) hx hb dJ6_numberOfLeadingZeros_0f7a4_37 (by decide) (fun c_1 => ?_) (fun c_1 => ?_)
  · exact sg_J6_numberOfLeadingZeros_0f7a4_48 hx hb hr hml hts hown hlocks x0 x1 (by rw [hg]; unfold fn_J6_numberOfLeadingZeros_0f7a4_33; rw [if_pos c_1])  (lv_sub hl [0, 1] rfl)
  · refine lv_iinc (v := x1 + (-8 : Int32)) (lv' := [(1, .int (x1 + (-8 : Int32))), (0, .int x0)]) hx hb dJ6_numberOfLeadingZeros_0f7a4_40 hl (k := 1) rfl rfl (by decide) rfl (fun ls hl => ?_)
    refine lv_iload_n hx hb dJ6_numberOfLeadingZeros_0f7a4_43 rfl (lv_at hl 1 rfl) ?_
    refine lv_bipush (v := (8 : Int32)) hx hb dJ6_numberOfLeadingZeros_0f7a4_44 (by decide) ?_
    refine lv_iushr hx hb dJ6_numberOfLeadingZeros_0f7a4_46 rfl ?_
    refine lv_istore_n (lv' := [(0, .int ((Int32.toUInt32 x0 >>> (Int32.toUInt32 (8 : Int32) &&& Int32.toUInt32 31)).toInt32)), (1, .int (x1 + (-8 : Int32)))]) hx hb dJ6_numberOfLeadingZeros_0f7a4_47 rfl hl (by decide) rfl (fun ls hl => ?_)
    exact sg_J6_numberOfLeadingZeros_0f7a4_48 hx hb hr hml hts hown hlocks ((Int32.toUInt32 x0 >>> (Int32.toUInt32 (8 : Int32) &&& Int32.toUInt32 31)).toInt32) (x1 + (-8 : Int32)) (by rw [hg]; unfold fn_J6_numberOfLeadingZeros_0f7a4_33; rw [if_neg c_1])  (lv_sub hl [0, 1] rfl)
def fn_J6_numberOfLeadingZeros_0f7a4 (v0 : Int32) : Int32 :=
  if 0 < v0 then
    if v0 < (65536 : Int32) then
      fn_J6_numberOfLeadingZeros_0f7a4_33 v0 (31 : Int32)
    else
      fn_J6_numberOfLeadingZeros_0f7a4_33 ((Int32.toUInt32 v0 >>> (Int32.toUInt32 (16 : Int32) &&& Int32.toUInt32 31)).toInt32) ((31 : Int32) + (-16 : Int32))
  else
    if v0 = 0 then
      (32 : Int32)
    else
      (0 : Int32)
set_option maxHeartbeats 4000000 in
set_option maxRecDepth 100000 in
theorem ct_J6_numberOfLeadingZeros_0f7a4 (l : Launch) (v0 : Int32) : Met l yJ6_numberOfLeadingZeros_0f7a4 wsJ6_numberOfLeadingZeros_0f7a4 ({ frames := 0, cells := 0, slots := 0, locals := 0 } : Room) (va_Pc [.int v0] (fun _ => True)) (vp_Si (fun r => r = fn_J6_numberOfLeadingZeros_0f7a4 v0)) 0 0 (fun _ => False) := by
  refine Met.ofW (cc := cJ6_numberOfLeadingZeros_0f7a4) (maxL := 2) (ret := (some .int)) (by decide) rfl ?_
  intro p e s m args below meth c s₁ B hml hv
  obtain ⟨rfl, hW⟩ := hv
  have hx := B.exec
  have hb := B.bytes
  have hr := B.returns
  have hlocks := B.notSynchronized
  have hts := atoms_spec (ws := wsJ6_numberOfLeadingZeros_0f7a4) B.pre
  have hown : s.vm.findClass RJ6 = some m.cls := findClass_of_methodNamed B.named
  have hS : va_S (fun _ => False) s.heap s.heap [] := va_S.rf
  have hl := lv_entry ([.int v0]) (n := 2) (Nat.le_of_ble_eq_true rfl)
  rw [lg_entry_eq]
  generalize (lg_sl ([.int v0]) ++ List.replicate (2 - (lg_sl ([.int v0])).length) Slot.unset).toArray = ls at hl ⊢
  have hl : lv_has ls 2 [(0, .int v0)] := hl
  refine lv_iload_n hx hb dJ6_numberOfLeadingZeros_0f7a4_0 rfl (lv_at hl 0 rfl) ?_
  refine lv_if_gt (tgt := 15) hx hb dJ6_numberOfLeadingZeros_0f7a4_1 (by decide) (fun c_1 => ?_) (fun c_1 => ?_)
  · refine lv_bipush (v := (31 : Int32)) hx hb dJ6_numberOfLeadingZeros_0f7a4_15 (by decide) ?_
    refine lv_istore_n (lv' := [(1, .int (31 : Int32)), (0, .int v0)]) hx hb dJ6_numberOfLeadingZeros_0f7a4_17 rfl hl (by decide) rfl (fun ls hl => ?_)
    refine lv_iload_n hx hb dJ6_numberOfLeadingZeros_0f7a4_18 rfl (lv_at hl 1 rfl) ?_
    refine lv_ldcw (v := (65536 : Int32)) hx hb hown (hts (.constant RJ6 264 (65536)) (by decide +kernel)) dJ6_numberOfLeadingZeros_0f7a4_19 ?_
    refine lv_icmp_lt (tgt := 33) hx hb dJ6_numberOfLeadingZeros_0f7a4_22 (by decide) (fun c_2 => ?_) (fun c_2 => ?_)
    · exact sg_J6_numberOfLeadingZeros_0f7a4_33 hx hb hr hml hts hown hlocks v0 (31 : Int32) (by unfold fn_J6_numberOfLeadingZeros_0f7a4; rw [if_pos c_1, if_pos c_2])  (lv_sub hl [1, 0] rfl)
    · refine lv_iinc (v := (31 : Int32) + (-16 : Int32)) (lv' := [(1, .int ((31 : Int32) + (-16 : Int32))), (0, .int v0)]) hx hb dJ6_numberOfLeadingZeros_0f7a4_25 hl (k := 0) rfl rfl (by decide) rfl (fun ls hl => ?_)
      refine lv_iload_n hx hb dJ6_numberOfLeadingZeros_0f7a4_28 rfl (lv_at hl 1 rfl) ?_
      refine lv_bipush (v := (16 : Int32)) hx hb dJ6_numberOfLeadingZeros_0f7a4_29 (by decide) ?_
      refine lv_iushr hx hb dJ6_numberOfLeadingZeros_0f7a4_31 rfl ?_
      refine lv_istore_n (lv' := [(0, .int ((Int32.toUInt32 v0 >>> (Int32.toUInt32 (16 : Int32) &&& Int32.toUInt32 31)).toInt32)), (1, .int ((31 : Int32) + (-16 : Int32)))]) hx hb dJ6_numberOfLeadingZeros_0f7a4_32 rfl hl (by decide) rfl (fun ls hl => ?_)
      exact sg_J6_numberOfLeadingZeros_0f7a4_33 hx hb hr hml hts hown hlocks ((Int32.toUInt32 v0 >>> (Int32.toUInt32 (16 : Int32) &&& Int32.toUInt32 31)).toInt32) ((31 : Int32) + (-16 : Int32)) (by unfold fn_J6_numberOfLeadingZeros_0f7a4; rw [if_pos c_1, if_neg c_2])  (lv_sub hl [0, 1] rfl)
  · refine lv_iload_n hx hb dJ6_numberOfLeadingZeros_0f7a4_4 rfl (lv_at hl 0 rfl) ?_
    refine lv_if_ne (tgt := 13) hx hb dJ6_numberOfLeadingZeros_0f7a4_5 (by decide) (fun c_3 => ?_) (fun c_3 => ?_)
    · refine lv_iconst (v := (0 : Int32)) hx hb dJ6_numberOfLeadingZeros_0f7a4_13 (by decide) ?_
      exact W.iret (v := (0 : Int32)) hx hb hr (fun t ht _ => ⟨_, rfl, by unfold fn_J6_numberOfLeadingZeros_0f7a4; rw [if_neg c_1, if_neg c_3], ht⟩) (fun _ h => by cases h) dJ6_numberOfLeadingZeros_0f7a4_14
    · refine lv_bipush (v := (32 : Int32)) hx hb dJ6_numberOfLeadingZeros_0f7a4_8 (by decide) ?_
      refine lv_goto (tgt := 14) hx hb dJ6_numberOfLeadingZeros_0f7a4_10 (by decide) ?_
      exact W.iret (v := (32 : Int32)) hx hb hr (fun t ht _ => ⟨_, rfl, by unfold fn_J6_numberOfLeadingZeros_0f7a4; rw [if_neg c_1, if_pos c_3], ht⟩) (fun _ h => by cases h) dJ6_numberOfLeadingZeros_0f7a4_14
def fn_J13_numberOfLeadingZeros_95d88 (v0 : Int64) : Int32 :=
  if (Int64.toInt32 ((Int64.toUInt64 v0 >>> (Int64.toUInt64 (Int32.toInt64 (32 : Int32)) &&& Int64.toUInt64 63)).toInt64)) = 0 then
    (32 : Int32) + (fn_J6_numberOfLeadingZeros_0f7a4 (Int64.toInt32 v0))
  else
    fn_J6_numberOfLeadingZeros_0f7a4 (Int64.toInt32 ((Int64.toUInt64 v0 >>> (Int64.toUInt64 (Int32.toInt64 (32 : Int32)) &&& Int64.toUInt64 63)).toInt64))
set_option maxHeartbeats 4000000 in
set_option maxRecDepth 100000 in
theorem ct_J13_numberOfLeadingZeros_95d88 (l : Launch) (v0 : Int64) : Met l yJ13_numberOfLeadingZeros_95d88 wsJ13_numberOfLeadingZeros_95d88 ({ frames := 1, cells := 0, slots := 0, locals := 21 } : Room) (va_Pc [.long v0] (fun _ => True)) (vp_Si (fun r => r = fn_J13_numberOfLeadingZeros_95d88 v0)) 0 0 (fun _ => False) := by
  refine Met.ofW (cc := cJ13_numberOfLeadingZeros_95d88) (maxL := 3) (ret := (some .int)) (by decide) rfl ?_
  intro p e s m args below meth c s₁ B hml hv
  obtain ⟨rfl, hW⟩ := hv
  have hx := B.exec
  have hb := B.bytes
  have hr := B.returns
  have hlocks := B.notSynchronized
  have hts := atoms_spec (ws := wsJ13_numberOfLeadingZeros_95d88) B.pre
  have hown : s.vm.findClass RJ13 = some m.cls := findClass_of_methodNamed B.named
  have hS : va_S (fun _ => False) s.heap s.heap [] := va_S.rf
  have hl := lv_entry ([.long v0]) (n := 3) (Nat.le_of_ble_eq_true rfl)
  rw [lg_entry_eq]
  generalize (lg_sl ([.long v0]) ++ List.replicate (3 - (lg_sl ([.long v0])).length) Slot.unset).toArray = ls at hl ⊢
  have hl : lv_has ls 3 [(0, .long v0)] := hl
  refine lv_lload_n hx hb dJ13_numberOfLeadingZeros_95d88_0 rfl (lv_at hl 0 rfl) ?_
  refine lv_bipush (v := (32 : Int32)) hx hb dJ13_numberOfLeadingZeros_95d88_1 (by decide) ?_
  refine lv_lushr hx hb dJ13_numberOfLeadingZeros_95d88_3 rfl ?_
  refine lv_l2i hx hb dJ13_numberOfLeadingZeros_95d88_4 rfl ?_
  refine lv_istore_n (lv' := [(2, .int (Int64.toInt32 ((Int64.toUInt64 v0 >>> (Int64.toUInt64 (Int32.toInt64 (32 : Int32)) &&& Int64.toUInt64 63)).toInt64))), (0, .long v0)]) hx hb dJ13_numberOfLeadingZeros_95d88_5 rfl hl (by decide) rfl (fun ls hl => ?_)
  refine lv_iload_n hx hb dJ13_numberOfLeadingZeros_95d88_6 rfl (lv_at hl 0 rfl) ?_
  refine lv_if_ne (tgt := 21) hx hb dJ13_numberOfLeadingZeros_95d88_7 (by decide) (fun c_1 => ?_) (fun c_1 => ?_)
  · refine lv_iload_n hx hb dJ13_numberOfLeadingZeros_95d88_21 rfl (lv_at hl 0 rfl) ?_
    refine vp_callSi (W.runS (As := [.int (Int64.toInt32 ((Int64.toUInt64 v0 >>> (Int64.toUInt64 (Int32.toInt64 (32 : Int32)) &&& Int64.toUInt64 63)).toInt64))]) (rest := []) ⟨hx, hb, hml, hown, hts⟩ (ct_J6_numberOfLeadingZeros_0f7a4 l (Int64.toInt32 ((Int64.toUInt64 v0 >>> (Int64.toUInt64 (Int32.toInt64 (32 : Int32)) &&& Int64.toUInt64 63)).toInt64))) (va_cwS 1 hts gJ13_numberOfLeadingZeros_95d88_J6_numberOfLeadingZeros_0f7a4 rfl rfl rfl (by decide +kernel) ⟨Nat.le_of_ble_eq_true rfl, Nat.le_of_ble_eq_true rfl⟩) ⟨(fun a U g mk q => ⟨q.1, trivial⟩), fun U hU hW9 => ⟨rfl, trivial⟩⟩ rfl rfl hl.1 rfl (lv_room (Nat.le_of_ble_eq_true rfl)) dJ13_numberOfLeadingZeros_95d88_22 ⟨Nat.zero_le _, Nat.zero_le _⟩) (fun r er => ?_)
    subst er
    exact W.iret (v := fn_J6_numberOfLeadingZeros_0f7a4 (Int64.toInt32 ((Int64.toUInt64 v0 >>> (Int64.toUInt64 (Int32.toInt64 (32 : Int32)) &&& Int64.toUInt64 63)).toInt64))) hx hb hr (fun t ht _ => ⟨_, rfl, by unfold fn_J13_numberOfLeadingZeros_95d88; rw [if_neg c_1], ht⟩) (fun _ h => by cases h) dJ13_numberOfLeadingZeros_95d88_25
  · refine lv_bipush (v := (32 : Int32)) hx hb dJ13_numberOfLeadingZeros_95d88_10 (by decide) ?_
    refine lv_lload_n hx hb dJ13_numberOfLeadingZeros_95d88_12 rfl (lv_at hl 1 rfl) ?_
    refine lv_l2i hx hb dJ13_numberOfLeadingZeros_95d88_13 rfl ?_
    refine vp_callSi (W.runS (As := [.int (Int64.toInt32 v0)]) (rest := [.int (32 : Int32)]) ⟨hx, hb, hml, hown, hts⟩ (ct_J6_numberOfLeadingZeros_0f7a4 l (Int64.toInt32 v0)) (va_cwS 1 hts gJ13_numberOfLeadingZeros_95d88_J6_numberOfLeadingZeros_0f7a4 rfl rfl rfl (by decide +kernel) ⟨Nat.le_of_ble_eq_true rfl, Nat.le_of_ble_eq_true rfl⟩) ⟨(fun a U g mk q => ⟨q.1, trivial⟩), fun U hU hW9 => ⟨rfl, trivial⟩⟩ rfl rfl hl.1 rfl (lv_room (Nat.le_of_ble_eq_true rfl)) dJ13_numberOfLeadingZeros_95d88_14 ⟨Nat.zero_le _, Nat.zero_le _⟩) (fun r er => ?_)
    subst er
    refine lv_iadd hx hb dJ13_numberOfLeadingZeros_95d88_17 ?_
    refine lv_goto (tgt := 25) hx hb dJ13_numberOfLeadingZeros_95d88_18 (by decide) ?_
    exact W.iret (v := (32 : Int32) + (fn_J6_numberOfLeadingZeros_0f7a4 (Int64.toInt32 v0))) hx hb hr (fun t ht _ => ⟨_, rfl, by unfold fn_J13_numberOfLeadingZeros_95d88; rw [if_pos c_1], ht⟩) (fun _ h => by cases h) dJ13_numberOfLeadingZeros_95d88_25
def fn_J13_compare_74951 (v0 : Int64) (v2 : Int64) : Int32 :=
  if v2 ≤ v0 then
    if v0 = v2 then
      (0 : Int32)
    else
      (1 : Int32)
  else
    (-1 : Int32)
set_option maxHeartbeats 4000000 in
set_option maxRecDepth 100000 in
theorem ct_J13_compare_74951 (l : Launch) (v0 : Int64) (v2 : Int64) : Met l yJ13_compare_74951 wsJ13_compare_74951 ({ frames := 0, cells := 0, slots := 0, locals := 0 } : Room) (va_Pc [.long v0, .long v2] (fun _ => True)) (vp_Si (fun r => r = fn_J13_compare_74951 v0 v2)) 0 0 (fun _ => False) := by
  refine Met.ofW (cc := cJ13_compare_74951) (maxL := 4) (ret := (some .int)) (by decide) rfl ?_
  intro p e s m args below meth c s₁ B hml hv
  obtain ⟨rfl, hW⟩ := hv
  have hx := B.exec
  have hb := B.bytes
  have hr := B.returns
  have hlocks := B.notSynchronized
  have hts := atoms_spec (ws := wsJ13_compare_74951) B.pre
  have hown : s.vm.findClass RJ13 = some m.cls := findClass_of_methodNamed B.named
  have hS : va_S (fun _ => False) s.heap s.heap [] := va_S.rf
  have hl := lv_entry ([.long v0, .long v2]) (n := 4) (Nat.le_of_ble_eq_true rfl)
  rw [lg_entry_eq]
  generalize (lg_sl ([.long v0, .long v2]) ++ List.replicate (4 - (lg_sl ([.long v0, .long v2])).length) Slot.unset).toArray = ls at hl ⊢
  have hl : lv_has ls 4 [(0, .long v0), (2, .long v2)] := hl
  refine lv_lload_n hx hb dJ13_compare_74951_0 rfl (lv_at hl 0 rfl) ?_
  refine lv_lload_n hx hb dJ13_compare_74951_1 rfl (lv_at hl 1 rfl) ?_
  refine zl_ge (tgt := 10) hx hb dJ13_compare_74951_2 dJ13_compare_74951_3 (by decide) (fun c_1 => ?_) (fun c_1 => ?_)
  · refine lv_lload_n hx hb dJ13_compare_74951_10 rfl (lv_at hl 0 rfl) ?_
    refine lv_lload_n hx hb dJ13_compare_74951_11 rfl (lv_at hl 1 rfl) ?_
    refine zl_ne (tgt := 20) hx hb dJ13_compare_74951_12 dJ13_compare_74951_13 (by decide) (fun c_2 => ?_) (fun c_2 => ?_)
    · refine lv_iconst (v := (1 : Int32)) hx hb dJ13_compare_74951_20 (by decide) ?_
      exact W.iret (v := (1 : Int32)) hx hb hr (fun t ht _ => ⟨_, rfl, by unfold fn_J13_compare_74951; rw [if_pos c_1, if_neg c_2], ht⟩) (fun _ h => by cases h) dJ13_compare_74951_21
    · refine lv_iconst (v := (0 : Int32)) hx hb dJ13_compare_74951_16 (by decide) ?_
      refine lv_goto (tgt := 21) hx hb dJ13_compare_74951_17 (by decide) ?_
      exact W.iret (v := (0 : Int32)) hx hb hr (fun t ht _ => ⟨_, rfl, by unfold fn_J13_compare_74951; rw [if_pos c_1, if_pos c_2], ht⟩) (fun _ h => by cases h) dJ13_compare_74951_21
  · refine lv_iconst (v := (-1 : Int32)) hx hb dJ13_compare_74951_6 (by decide) ?_
    refine lv_goto (tgt := 21) hx hb dJ13_compare_74951_7 (by decide) ?_
    exact W.iret (v := (-1 : Int32)) hx hb hr (fun t ht _ => ⟨_, rfl, by unfold fn_J13_compare_74951; rw [if_neg c_1], ht⟩) (fun _ h => by cases h) dJ13_compare_74951_21
