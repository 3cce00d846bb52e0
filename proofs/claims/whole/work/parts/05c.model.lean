def fn_X3_nearest_240 (x0 : Int32) (x1 : Int32) (x13 : Int64) : Int64 :=
  fn_X3_signed x0 x13 x1
set_option maxHeartbeats 4000000 in
set_option maxRecDepth 100000 in
theorem sg_X3_nearest_240 {p : Program} {l : Launch} {e : Env} {s : State} {m : MethodId} {args : Array Value} {below : List Frame} {meth : Method} {c : Code} {ls : Array Slot} {g : Int64} (hx : p.tables.exec = Jvm.exec) (hb : c.code = cX3_nearest) (hr : meth.sig.returnType = (some .long)) (hml : c.maxLocals = 16) (hts : ∀ w ∈ wsX3_nearest, w.before args s = true) (hown : s.vm.findClass RX3 = some m.cls) (hlocks : meth.locks = false) (x0 : Int32) (x1 : Int32) (x13 : Int64) (hg : g = fn_X3_nearest_240 x0 x1 x13) (hl : lv_has ls 16 [(0, .int x0), (1, .int x1), (13, .long x13)]) : W p l e ({ frames := 1, cells := 0, slots := 0, locals := 23 } : Room) s m args below meth c s.heap [] 0 0 (MQ below (vp_Sl (fun r => r = g)) args s 0 0 (fun _ => False)) (F0 m 240 ls []) := by
  have hS : va_S (fun _ => False) s.heap s.heap [] := va_S.rf
  refine lv_iload_n hx hb dX3_nearest_240 rfl (lv_at hl 0 rfl) ?_
  refine lv_lload hx hb dX3_nearest_241 (lv_at hl 2 rfl) ?_
  refine lv_iload_n hx hb dX3_nearest_243 rfl (lv_at hl 1 rfl) ?_
  refine vp_callSl (W.runS (As := [.int x0, .long x13, .int x1]) (rest := []) ⟨hx, hb, hml, hown, hts⟩ (ct_X3_signed l x0 x13 x1) (va_cwS 3 hts gX3_nearest_X3_signed rfl rfl rfl (by decide +kernel) ⟨Nat.le_of_ble_eq_true rfl, Nat.le_of_ble_eq_true rfl⟩) ⟨(fun a U g mk q => ⟨q.1, trivial⟩), fun U hU hW9 => ⟨rfl, trivial⟩⟩ rfl rfl hl.1 rfl (lv_room (Nat.le_of_ble_eq_true rfl)) dX3_nearest_244 ⟨Nat.zero_le _, Nat.zero_le _⟩) (fun r er => ?_)
  subst er
  exact W.lret (v := fn_X3_signed x0 x13 x1) hx hb hr (fun t ht _ => ⟨_, rfl, by rw [hg]; rfl, ht⟩) (fun _ h => by cases h) dX3_nearest_247
def fn_X3_nearest_224 (x0 : Int32) (x1 : Int32) (x13 : Int64) : Int64 :=
  if x13 ≤ (fn_X3_endless x0) then
    fn_X3_nearest_240 x0 x1 x13
  else
    fn_X3_nearest_240 x0 x1 (fn_X3_endless x0)
set_option maxHeartbeats 4000000 in
set_option maxRecDepth 100000 in
theorem sg_X3_nearest_224 {p : Program} {l : Launch} {e : Env} {s : State} {m : MethodId} {args : Array Value} {below : List Frame} {meth : Method} {c : Code} {ls : Array Slot} {g : Int64} (hx : p.tables.exec = Jvm.exec) (hb : c.code = cX3_nearest) (hr : meth.sig.returnType = (some .long)) (hml : c.maxLocals = 16) (hts : ∀ w ∈ wsX3_nearest, w.before args s = true) (hown : s.vm.findClass RX3 = some m.cls) (hlocks : meth.locks = false) (x0 : Int32) (x1 : Int32) (x13 : Int64) (hg : g = fn_X3_nearest_224 x0 x1 x13) (hl : lv_has ls 16 [(0, .int x0), (1, .int x1), (13, .long x13)]) : W p l e ({ frames := 1, cells := 0, slots := 0, locals := 23 } : Room) s m args below meth c s.heap [] 0 0 (MQ below (vp_Sl (fun r => r = g)) args s 0 0 (fun _ => False)) (F0 m 224 ls []) := by
  have hS : va_S (fun _ => False) s.heap s.heap [] := va_S.rf
  refine lv_lload hx hb dX3_nearest_224 (lv_at hl 2 rfl) ?_
  refine lv_iload_n hx hb dX3_nearest_226 rfl (lv_at hl 0 rfl) ?_
  refine vp_callSl (W.runS (As := [.int x0]) (rest := [.long x13]) ⟨hx, hb, hml, hown, hts⟩ (ct_X3_endless l x0) (va_cwS 1 hts gX3_nearest_X3_endless rfl rfl rfl (by decide +kernel) ⟨Nat.le_of_ble_eq_true rfl, Nat.le_of_ble_eq_true rfl⟩) ⟨(fun a U g mk q => ⟨q.1, trivial⟩), fun U hU hW9 => ⟨rfl, trivial⟩⟩ rfl rfl hl.1 rfl (lv_room (Nat.le_of_ble_eq_true rfl)) dX3_nearest_227 ⟨Nat.zero_le _, Nat.zero_le _⟩) (fun r er => ?_)
  subst er
  refine zl_le (tgt := 240) hx hb dX3_nearest_230 dX3_nearest_231 (by decide) (fun c_1 => ?_) (fun c_1 => ?_)
  · exact sg_X3_nearest_240 hx hb hr hml hts hown hlocks x0 x1 x13 (by rw [hg]; unfold fn_X3_nearest_224; rw [if_pos c_1])  (lv_sub hl [0, 1, 2] rfl)
  · refine lv_iload_n hx hb dX3_nearest_234 rfl (lv_at hl 0 rfl) ?_
    refine vp_callSl (W.runS (As := [.int x0]) (rest := []) ⟨hx, hb, hml, hown, hts⟩ (ct_X3_endless l x0) (va_cwS 1 hts gX3_nearest_X3_endless rfl rfl rfl (by decide +kernel) ⟨Nat.le_of_ble_eq_true rfl, Nat.le_of_ble_eq_true rfl⟩) ⟨(fun a U g mk q => ⟨q.1, trivial⟩), fun U hU hW9 => ⟨rfl, trivial⟩⟩ rfl rfl hl.1 rfl (lv_room (Nat.le_of_ble_eq_true rfl)) dX3_nearest_235 ⟨Nat.zero_le _, Nat.zero_le _⟩) (fun r er => ?_)
    subst er
    refine lv_lstore (lv' := [(13, .long (fn_X3_endless x0)), (0, .int x0), (1, .int x1)]) hx hb dX3_nearest_238 hl (by decide) rfl (fun ls hl => ?_)
    exact sg_X3_nearest_240 hx hb hr hml hts hown hlocks x0 x1 (fn_X3_endless x0) (by rw [hg]; unfold fn_X3_nearest_224; rw [if_neg c_1])  (lv_sub hl [1, 2, 0] rfl)
def fn_X3_nearest_185 (x0 : Int32) (x1 : Int32) (x5 : Int32) (x6 : Int32) (x8 : Int32) (x9 : Int64) : Int64 :=
  if ((1 : Int64) <<< (Int32.toInt64 x5 &&& 63)) ≤ x9 then
    fn_X3_nearest_224 x0 x1 (((Int32.toInt64 ((x8 + x5) + x6)) <<< (Int32.toInt64 x5 &&& 63)) + (x9 - ((1 : Int64) <<< (Int32.toInt64 x5 &&& 63))))
  else
    fn_X3_nearest_224 x0 x1 x9
set_option maxHeartbeats 4000000 in
set_option maxRecDepth 100000 in
theorem sg_X3_nearest_185 {p : Program} {l : Launch} {e : Env} {s : State} {m : MethodId} {args : Array Value} {below : List Frame} {meth : Method} {c : Code} {ls : Array Slot} {g : Int64} (hx : p.tables.exec = Jvm.exec) (hb : c.code = cX3_nearest) (hr : meth.sig.returnType = (some .long)) (hml : c.maxLocals = 16) (hts : ∀ w ∈ wsX3_nearest, w.before args s = true) (hown : s.vm.findClass RX3 = some m.cls) (hlocks : meth.locks = false) (x0 : Int32) (x1 : Int32) (x5 : Int32) (x6 : Int32) (x8 : Int32) (x9 : Int64) (hg : g = fn_X3_nearest_185 x0 x1 x5 x6 x8 x9) (hl : lv_has ls 16 [(0, .int x0), (1, .int x1), (5, .int x5), (6, .int x6), (8, .int x8), (9, .long x9)]) : W p l e ({ frames := 1, cells := 0, slots := 0, locals := 23 } : Room) s m args below meth c s.heap [] 0 0 (MQ below (vp_Sl (fun r => r = g)) args s 0 0 (fun _ => False)) (F0 m 185 ls []) := by
  have hS : va_S (fun _ => False) s.heap s.heap [] := va_S.rf
  refine lv_lconst (v := (1 : Int64)) hx hb dX3_nearest_185 (by decide) ?_
  refine lv_iload hx hb dX3_nearest_186 (lv_at hl 2 rfl) ?_
  refine lv_lshl hx hb dX3_nearest_188 rfl ?_
  refine lv_lstore (lv' := [(11, .long ((1 : Int64) <<< (Int32.toInt64 x5 &&& 63))), (0, .int x0), (1, .int x1), (5, .int x5), (6, .int x6), (8, .int x8), (9, .long x9)]) hx hb dX3_nearest_189 hl (by decide) rfl (fun ls hl => ?_)
  refine lv_lload hx hb dX3_nearest_191 (lv_at hl 6 rfl) ?_
  refine lv_lload hx hb dX3_nearest_193 (lv_at hl 0 rfl) ?_
  refine zl_ge (tgt := 204) hx hb dX3_nearest_195 dX3_nearest_196 (by decide) (fun c_1 => ?_) (fun c_1 => ?_)
  · refine lv_iload hx hb dX3_nearest_204 (lv_at hl 5 rfl) ?_
    refine lv_iload hx hb dX3_nearest_206 (lv_at hl 3 rfl) ?_
    refine lv_iadd hx hb dX3_nearest_208 ?_
    refine lv_iload hx hb dX3_nearest_209 (lv_at hl 4 rfl) ?_
    refine lv_iadd hx hb dX3_nearest_211 ?_
    refine lv_i2l hx hb dX3_nearest_212 rfl ?_
    refine lv_iload hx hb dX3_nearest_213 (lv_at hl 3 rfl) ?_
    refine lv_lshl hx hb dX3_nearest_215 rfl ?_
    refine lv_lload hx hb dX3_nearest_216 (lv_at hl 6 rfl) ?_
    refine lv_lload hx hb dX3_nearest_218 (lv_at hl 0 rfl) ?_
    refine lv_lsub hx hb dX3_nearest_220 ?_
    refine lv_ladd hx hb dX3_nearest_221 ?_
    refine lv_lstore (lv' := [(13, .long (((Int32.toInt64 ((x8 + x5) + x6)) <<< (Int32.toInt64 x5 &&& 63)) + (x9 - ((1 : Int64) <<< (Int32.toInt64 x5 &&& 63))))), (11, .long ((1 : Int64) <<< (Int32.toInt64 x5 &&& 63))), (0, .int x0), (1, .int x1), (5, .int x5), (6, .int x6), (8, .int x8), (9, .long x9)]) hx hb dX3_nearest_222 hl (by decide) rfl (fun ls hl => ?_)
    exact sg_X3_nearest_224 hx hb hr hml hts hown hlocks x0 x1 (((Int32.toInt64 ((x8 + x5) + x6)) <<< (Int32.toInt64 x5 &&& 63)) + (x9 - ((1 : Int64) <<< (Int32.toInt64 x5 &&& 63)))) (by rw [hg]; unfold fn_X3_nearest_185; rw [if_pos c_1])  (lv_sub hl [2, 3, 0] rfl)
  · refine lv_lload hx hb dX3_nearest_199 (lv_at hl 6 rfl) ?_
    refine lv_goto (tgt := 222) hx hb dX3_nearest_201 (by decide) ?_
    refine lv_lstore (lv' := [(13, .long x9), (11, .long ((1 : Int64) <<< (Int32.toInt64 x5 &&& 63))), (0, .int x0), (1, .int x1), (5, .int x5), (6, .int x6), (8, .int x8), (9, .long x9)]) hx hb dX3_nearest_222 hl (by decide) rfl (fun ls hl => ?_)
    exact sg_X3_nearest_224 hx hb hr hml hts hown hlocks x0 x1 x9 (by rw [hg]; unfold fn_X3_nearest_185; rw [if_neg c_1])  (lv_sub hl [2, 3, 0] rfl)
def fn_X3_nearest_154 (x0 : Int32) (x1 : Int32) (x5 : Int32) (x6 : Int32) (x8 : Int32) (x9 : Int64) (x12 : Int64) (x14 : Int64) : Int64 :=
  if x14 < x12 then
    fn_X3_nearest_185 x0 x1 x5 x6 x8 (x9 + (1 : Int64))
  else
    if x12 = x14 then
      if (x9 &&& (1 : Int64)) = (1 : Int64) then
        fn_X3_nearest_185 x0 x1 x5 x6 x8 (x9 + (1 : Int64))
      else
        fn_X3_nearest_185 x0 x1 x5 x6 x8 x9
    else
      fn_X3_nearest_185 x0 x1 x5 x6 x8 x9
set_option maxHeartbeats 4000000 in
set_option maxRecDepth 100000 in
theorem sg_X3_nearest_154 {p : Program} {l : Launch} {e : Env} {s : State} {m : MethodId} {args : Array Value} {below : List Frame} {meth : Method} {c : Code} {ls : Array Slot} {g : Int64} (hx : p.tables.exec = Jvm.exec) (hb : c.code = cX3_nearest) (hr : meth.sig.returnType = (some .long)) (hml : c.maxLocals = 16) (hts : ∀ w ∈ wsX3_nearest, w.before args s = true) (hown : s.vm.findClass RX3 = some m.cls) (hlocks : meth.locks = false) (x0 : Int32) (x1 : Int32) (x5 : Int32) (x6 : Int32) (x8 : Int32) (x9 : Int64) (x12 : Int64) (x14 : Int64) (hg : g = fn_X3_nearest_154 x0 x1 x5 x6 x8 x9 x12 x14) (hl : lv_has ls 16 [(0, .int x0), (1, .int x1), (5, .int x5), (6, .int x6), (8, .int x8), (9, .long x9), (12, .long x12), (14, .long x14)]) : W p l e ({ frames := 1, cells := 0, slots := 0, locals := 23 } : Room) s m args below meth c s.heap [] 0 0 (MQ below (vp_Sl (fun r => r = g)) args s 0 0 (fun _ => False)) (F0 m 154 ls []) := by
  have hS : va_S (fun _ => False) s.heap s.heap [] := va_S.rf
  refine lv_lload hx hb dX3_nearest_154 (lv_at hl 6 rfl) ?_
  refine lv_lload hx hb dX3_nearest_156 (lv_at hl 7 rfl) ?_
  refine zl_gt (tgt := 179) hx hb dX3_nearest_158 dX3_nearest_159 (by decide) (fun c_1 => ?_) (fun c_1 => ?_)
  · refine lv_lload hx hb dX3_nearest_179 (lv_at hl 5 rfl) ?_
    refine lv_lconst (v := (1 : Int64)) hx hb dX3_nearest_181 (by decide) ?_
    refine lv_ladd hx hb dX3_nearest_182 ?_
    refine lv_lstore (lv' := [(9, .long (x9 + (1 : Int64))), (0, .int x0), (1, .int x1), (5, .int x5), (6, .int x6), (8, .int x8), (12, .long x12), (14, .long x14)]) hx hb dX3_nearest_183 hl (by decide) rfl (fun ls hl => ?_)
    exact sg_X3_nearest_185 hx hb hr hml hts hown hlocks x0 x1 x5 x6 x8 (x9 + (1 : Int64)) (by rw [hg]; unfold fn_X3_nearest_154; rw [if_pos c_1])  (lv_sub hl [1, 2, 3, 4, 5, 0] rfl)
  · refine lv_lload hx hb dX3_nearest_162 (lv_at hl 6 rfl) ?_
    refine lv_lload hx hb dX3_nearest_164 (lv_at hl 7 rfl) ?_
    refine zl_ne (tgt := 185) hx hb dX3_nearest_166 dX3_nearest_167 (by decide) (fun c_2 => ?_) (fun c_2 => ?_)
    · exact sg_X3_nearest_185 hx hb hr hml hts hown hlocks x0 x1 x5 x6 x8 x9 (by rw [hg]; unfold fn_X3_nearest_154; rw [if_neg c_1, if_neg c_2])  (lv_sub hl [0, 1, 2, 3, 4, 5] rfl)
    · refine lv_lload hx hb dX3_nearest_170 (lv_at hl 5 rfl) ?_
      refine lv_lconst (v := (1 : Int64)) hx hb dX3_nearest_172 (by decide) ?_
      refine lv_land hx hb dX3_nearest_173 ?_
      refine lv_lconst (v := (1 : Int64)) hx hb dX3_nearest_174 (by decide) ?_
      refine zl_ne (tgt := 185) hx hb dX3_nearest_175 dX3_nearest_176 (by decide) (fun c_3 => ?_) (fun c_3 => ?_)
      · exact sg_X3_nearest_185 hx hb hr hml hts hown hlocks x0 x1 x5 x6 x8 x9 (by rw [hg]; unfold fn_X3_nearest_154; rw [if_neg c_1, if_pos c_2, if_neg c_3])  (lv_sub hl [0, 1, 2, 3, 4, 5] rfl)
      · refine lv_lload hx hb dX3_nearest_179 (lv_at hl 5 rfl) ?_
        refine lv_lconst (v := (1 : Int64)) hx hb dX3_nearest_181 (by decide) ?_
        refine lv_ladd hx hb dX3_nearest_182 ?_
        refine lv_lstore (lv' := [(9, .long (x9 + (1 : Int64))), (0, .int x0), (1, .int x1), (5, .int x5), (6, .int x6), (8, .int x8), (12, .long x12), (14, .long x14)]) hx hb dX3_nearest_183 hl (by decide) rfl (fun ls hl => ?_)
        exact sg_X3_nearest_185 hx hb hr hml hts hown hlocks x0 x1 x5 x6 x8 (x9 + (1 : Int64)) (by rw [hg]; unfold fn_X3_nearest_154; rw [if_neg c_1, if_pos c_2, if_pos c_3])  (lv_sub hl [1, 2, 3, 4, 5, 0] rfl)
def fn_X3_nearest_137 (x0 : Int32) (x1 : Int32) (x2 : Int64) (x5 : Int32) (x6 : Int32) (x8 : Int32) (x9 : Int64) (x11 : Int32) : Int64 :=
  fn_X3_nearest_154 x0 x1 x5 x6 x8 x9 (x2 - (x9 <<< (Int32.toInt64 x11 &&& 63))) ((1 : Int64) <<< (Int32.toInt64 (x11 - (1 : Int32)) &&& 63))
set_option maxHeartbeats 4000000 in
set_option maxRecDepth 100000 in
theorem sg_X3_nearest_137 {p : Program} {l : Launch} {e : Env} {s : State} {m : MethodId} {args : Array Value} {below : List Frame} {meth : Method} {c : Code} {ls : Array Slot} {g : Int64} (hx : p.tables.exec = Jvm.exec) (hb : c.code = cX3_nearest) (hr : meth.sig.returnType = (some .long)) (hml : c.maxLocals = 16) (hts : ∀ w ∈ wsX3_nearest, w.before args s = true) (hown : s.vm.findClass RX3 = some m.cls) (hlocks : meth.locks = false) (x0 : Int32) (x1 : Int32) (x2 : Int64) (x5 : Int32) (x6 : Int32) (x8 : Int32) (x9 : Int64) (x11 : Int32) (hg : g = fn_X3_nearest_137 x0 x1 x2 x5 x6 x8 x9 x11) (hl : lv_has ls 16 [(0, .int x0), (1, .int x1), (2, .long x2), (5, .int x5), (6, .int x6), (8, .int x8), (9, .long x9), (11, .int x11)]) : W p l e ({ frames := 1, cells := 0, slots := 0, locals := 23 } : Room) s m args below meth c s.heap [] 0 0 (MQ below (vp_Sl (fun r => r = g)) args s 0 0 (fun _ => False)) (F0 m 137 ls []) := by
  have hS : va_S (fun _ => False) s.heap s.heap [] := va_S.rf
  refine lv_lload_n hx hb dX3_nearest_137 rfl (lv_at hl 2 rfl) ?_
  refine lv_lload hx hb dX3_nearest_138 (lv_at hl 6 rfl) ?_
  refine lv_iload hx hb dX3_nearest_140 (lv_at hl 7 rfl) ?_
  refine lv_lshl hx hb dX3_nearest_142 rfl ?_
  refine lv_lsub hx hb dX3_nearest_143 ?_
  refine lv_lstore (lv' := [(12, .long (x2 - (x9 <<< (Int32.toInt64 x11 &&& 63)))), (0, .int x0), (1, .int x1), (2, .long x2), (5, .int x5), (6, .int x6), (8, .int x8), (9, .long x9), (11, .int x11)]) hx hb dX3_nearest_144 hl (by decide) rfl (fun ls hl => ?_)
  refine lv_lconst (v := (1 : Int64)) hx hb dX3_nearest_146 (by decide) ?_
  refine lv_iload hx hb dX3_nearest_147 (lv_at hl 8 rfl) ?_
  refine lv_iconst (v := (1 : Int32)) hx hb dX3_nearest_149 (by decide) ?_
  refine lv_isub hx hb dX3_nearest_150 ?_
  refine lv_lshl hx hb dX3_nearest_151 rfl ?_
  refine lv_lstore (lv' := [(14, .long ((1 : Int64) <<< (Int32.toInt64 (x11 - (1 : Int32)) &&& 63))), (12, .long (x2 - (x9 <<< (Int32.toInt64 x11 &&& 63)))), (0, .int x0), (1, .int x1), (2, .long x2), (5, .int x5), (6, .int x6), (8, .int x8), (9, .long x9), (11, .int x11)]) hx hb dX3_nearest_152 hl (by decide) rfl (fun ls hl => ?_)
  exact sg_X3_nearest_154 hx hb hr hml hts hown hlocks x0 x1 x5 x6 x8 x9 (x2 - (x9 <<< (Int32.toInt64 x11 &&& 63))) ((1 : Int64) <<< (Int32.toInt64 (x11 - (1 : Int32)) &&& 63)) (by rw [hg]; rfl)  (lv_sub hl [2, 3, 5, 6, 7, 8, 1, 0] rfl)
def fn_X3_nearest_131 (x0 : Int32) (x1 : Int32) (x2 : Int64) (x5 : Int32) (x6 : Int32) (x8 : Int32) (x11 : Int32) : Int64 :=
  fn_X3_nearest_137 x0 x1 x2 x5 x6 x8 ((Int64.toUInt64 x2 >>> (Int64.toUInt64 (Int32.toInt64 x11) &&& Int64.toUInt64 63)).toInt64) x11
set_option maxHeartbeats 4000000 in
set_option maxRecDepth 100000 in
theorem sg_X3_nearest_131 {p : Program} {l : Launch} {e : Env} {s : State} {m : MethodId} {args : Array Value} {below : List Frame} {meth : Method} {c : Code} {ls : Array Slot} {g : Int64} (hx : p.tables.exec = Jvm.exec) (hb : c.code = cX3_nearest) (hr : meth.sig.returnType = (some .long)) (hml : c.maxLocals = 16) (hts : ∀ w ∈ wsX3_nearest, w.before args s = true) (hown : s.vm.findClass RX3 = some m.cls) (hlocks : meth.locks = false) (x0 : Int32) (x1 : Int32) (x2 : Int64) (x5 : Int32) (x6 : Int32) (x8 : Int32) (x11 : Int32) (hg : g = fn_X3_nearest_131 x0 x1 x2 x5 x6 x8 x11) (hl : lv_has ls 16 [(0, .int x0), (1, .int x1), (2, .long x2), (5, .int x5), (6, .int x6), (8, .int x8), (11, .int x11)]) : W p l e ({ frames := 1, cells := 0, slots := 0, locals := 23 } : Room) s m args below meth c s.heap [] 0 0 (MQ below (vp_Sl (fun r => r = g)) args s 0 0 (fun _ => False)) (F0 m 131 ls []) := by
  have hS : va_S (fun _ => False) s.heap s.heap [] := va_S.rf
  refine lv_lload_n hx hb dX3_nearest_131 rfl (lv_at hl 2 rfl) ?_
  refine lv_iload hx hb dX3_nearest_132 (lv_at hl 6 rfl) ?_
  refine lv_lushr hx hb dX3_nearest_134 rfl ?_
  refine lv_lstore (lv' := [(9, .long ((Int64.toUInt64 x2 >>> (Int64.toUInt64 (Int32.toInt64 x11) &&& Int64.toUInt64 63)).toInt64)), (0, .int x0), (1, .int x1), (2, .long x2), (5, .int x5), (6, .int x6), (8, .int x8), (11, .int x11)]) hx hb dX3_nearest_135 hl (by decide) rfl (fun ls hl => ?_)
  exact sg_X3_nearest_137 hx hb hr hml hts hown hlocks x0 x1 x2 x5 x6 x8 ((Int64.toUInt64 x2 >>> (Int64.toUInt64 (Int32.toInt64 x11) &&& Int64.toUInt64 63)).toInt64) x11 (by rw [hg]; rfl)  (lv_sub hl [1, 2, 3, 4, 5, 6, 0, 7] rfl)
def fn_X3_nearest_124 (x0 : Int32) (x1 : Int32) (x2 : Int64) (x4 : Int32) (x5 : Int32) (x6 : Int32) (x8 : Int32) : Int64 :=
  fn_X3_nearest_131 x0 x1 x2 x5 x6 x8 (x8 - x4)
set_option maxHeartbeats 4000000 in
set_option maxRecDepth 100000 in
theorem sg_X3_nearest_124 {p : Program} {l : Launch} {e : Env} {s : State} {m : MethodId} {args : Array Value} {below : List Frame} {meth : Method} {c : Code} {ls : Array Slot} {g : Int64} (hx : p.tables.exec = Jvm.exec) (hb : c.code = cX3_nearest) (hr : meth.sig.returnType = (some .long)) (hml : c.maxLocals = 16) (hts : ∀ w ∈ wsX3_nearest, w.before args s = true) (hown : s.vm.findClass RX3 = some m.cls) (hlocks : meth.locks = false) (x0 : Int32) (x1 : Int32) (x2 : Int64) (x4 : Int32) (x5 : Int32) (x6 : Int32) (x8 : Int32) (hg : g = fn_X3_nearest_124 x0 x1 x2 x4 x5 x6 x8) (hl : lv_has ls 16 [(0, .int x0), (1, .int x1), (2, .long x2), (4, .int x4), (5, .int x5), (6, .int x6), (8, .int x8)]) : W p l e ({ frames := 1, cells := 0, slots := 0, locals := 23 } : Room) s m args below meth c s.heap [] 0 0 (MQ below (vp_Sl (fun r => r = g)) args s 0 0 (fun _ => False)) (F0 m 124 ls []) := by
  have hS : va_S (fun _ => False) s.heap s.heap [] := va_S.rf
  refine lv_iload hx hb dX3_nearest_124 (lv_at hl 6 rfl) ?_
  refine lv_iload hx hb dX3_nearest_126 (lv_at hl 3 rfl) ?_
  refine lv_isub hx hb dX3_nearest_128 ?_
  refine lv_istore (lv' := [(11, .int (x8 - x4)), (0, .int x0), (1, .int x1), (2, .long x2), (4, .int x4), (5, .int x5), (6, .int x6), (8, .int x8)]) hx hb dX3_nearest_129 hl (by decide) rfl (fun ls hl => ?_)
  exact sg_X3_nearest_131 hx hb hr hml hts hown hlocks x0 x1 x2 x5 x6 x8 (x8 - x4) (by rw [hg]; rfl)  (lv_sub hl [1, 2, 3, 5, 6, 7, 0] rfl)
def fn_X3_nearest_86 (x0 : Int32) (x1 : Int32) (x2 : Int64) (x4 : Int32) (x5 : Int32) (x6 : Int32) (x8 : Int32) : Int64 :=
  if x4 < x8 then
    if (x8 - x4) ≤ (63 : Int32) then
      fn_X3_nearest_124 x0 x1 x2 x4 x5 x6 x8
    else
      fn_X3_nearest_185 x0 x1 x5 x6 x8 (0 : Int64)
  else
    fn_X3_nearest_185 x0 x1 x5 x6 x8 (x2 <<< (Int32.toInt64 (x4 - x8) &&& 63))
set_option maxHeartbeats 4000000 in
set_option maxRecDepth 100000 in
theorem sg_X3_nearest_86 {p : Program} {l : Launch} {e : Env} {s : State} {m : MethodId} {args : Array Value} {below : List Frame} {meth : Method} {c : Code} {ls : Array Slot} {g : Int64} (hx : p.tables.exec = Jvm.exec) (hb : c.code = cX3_nearest) (hr : meth.sig.returnType = (some .long)) (hml : c.maxLocals = 16) (hts : ∀ w ∈ wsX3_nearest, w.before args s = true) (hown : s.vm.findClass RX3 = some m.cls) (hlocks : meth.locks = false) (x0 : Int32) (x1 : Int32) (x2 : Int64) (x4 : Int32) (x5 : Int32) (x6 : Int32) (x8 : Int32) (hg : g = fn_X3_nearest_86 x0 x1 x2 x4 x5 x6 x8) (hl : lv_has ls 16 [(0, .int x0), (1, .int x1), (2, .long x2), (4, .int x4), (5, .int x5), (6, .int x6), (8, .int x8)]) : W p l e ({ frames := 1, cells := 0, slots := 0, locals := 23 } : Room) s m args below meth c s.heap [] 0 0 (MQ below (vp_Sl (fun r => r = g)) args s 0 0 (fun _ => False)) (F0 m 86 ls []) := by
  have hS : va_S (fun _ => False) s.heap s.heap [] := va_S.rf
  refine lv_lload_n hx hb dX3_nearest_86 rfl (lv_at hl 2 rfl) ?_
  refine lv_lstore (lv' := [(9, .long x2), (0, .int x0), (1, .int x1), (2, .long x2), (4, .int x4), (5, .int x5), (6, .int x6), (8, .int x8)]) hx hb dX3_nearest_87 hl (by decide) rfl (fun ls hl => ?_)
  refine lv_iload hx hb dX3_nearest_89 (lv_at hl 4 rfl) ?_
  refine lv_iload hx hb dX3_nearest_91 (lv_at hl 7 rfl) ?_
  refine lv_icmp_lt (tgt := 108) hx hb dX3_nearest_93 (by decide) (fun c_1 => ?_) (fun c_1 => ?_)
  · refine lv_iload hx hb dX3_nearest_108 (lv_at hl 7 rfl) ?_
    refine lv_iload hx hb dX3_nearest_110 (lv_at hl 4 rfl) ?_
    refine lv_isub hx hb dX3_nearest_112 ?_
    refine lv_bipush (v := (63 : Int32)) hx hb dX3_nearest_113 (by decide) ?_
    refine lv_icmp_le (tgt := 124) hx hb dX3_nearest_115 (by decide) (fun c_2 => ?_) (fun c_2 => ?_)
    · exact sg_X3_nearest_124 hx hb hr hml hts hown hlocks x0 x1 x2 x4 x5 x6 x8 (by rw [hg]; unfold fn_X3_nearest_86; rw [if_pos c_1, if_pos c_2])  (lv_sub hl [1, 2, 3, 4, 5, 6, 7] rfl)
    · refine lv_lconst (v := (0 : Int64)) hx hb dX3_nearest_118 (by decide) ?_
      refine lv_lstore (lv' := [(9, .long (0 : Int64)), (0, .int x0), (1, .int x1), (2, .long x2), (4, .int x4), (5, .int x5), (6, .int x6), (8, .int x8)]) hx hb dX3_nearest_119 hl (by decide) rfl (fun ls hl => ?_)
      refine lv_goto (tgt := 185) hx hb dX3_nearest_121 (by decide) ?_
      exact sg_X3_nearest_185 hx hb hr hml hts hown hlocks x0 x1 x5 x6 x8 (0 : Int64) (by rw [hg]; unfold fn_X3_nearest_86; rw [if_pos c_1, if_neg c_2])  (lv_sub hl [1, 2, 5, 6, 7, 0] rfl)
  · refine lv_lload_n hx hb dX3_nearest_96 rfl (lv_at hl 3 rfl) ?_
    refine lv_iload hx hb dX3_nearest_97 (lv_at hl 4 rfl) ?_
    refine lv_iload hx hb dX3_nearest_99 (lv_at hl 7 rfl) ?_
    refine lv_isub hx hb dX3_nearest_101 ?_
    refine lv_lshl hx hb dX3_nearest_102 rfl ?_
    refine lv_lstore (lv' := [(9, .long (x2 <<< (Int32.toInt64 (x4 - x8) &&& 63))), (0, .int x0), (1, .int x1), (2, .long x2), (4, .int x4), (5, .int x5), (6, .int x6), (8, .int x8)]) hx hb dX3_nearest_103 hl (by decide) rfl (fun ls hl => ?_)
    refine lv_goto (tgt := 185) hx hb dX3_nearest_105 (by decide) ?_
    exact sg_X3_nearest_185 hx hb hr hml hts hown hlocks x0 x1 x5 x6 x8 (x2 <<< (Int32.toInt64 (x4 - x8) &&& 63)) (by rw [hg]; unfold fn_X3_nearest_86; rw [if_neg c_1])  (lv_sub hl [1, 2, 5, 6, 7, 0] rfl)
def fn_X3_nearest_65 (x0 : Int32) (x1 : Int32) (x2 : Int64) (x4 : Int32) (x5 : Int32) (x6 : Int32) (x8 : Int32) : Int64 :=
  if (((1 : Int32) - x6) - x5) ≤ x8 then
    fn_X3_nearest_86 x0 x1 x2 x4 x5 x6 x8
  else
    fn_X3_nearest_86 x0 x1 x2 x4 x5 x6 (((1 : Int32) - x6) - x5)
set_option maxHeartbeats 4000000 in
set_option maxRecDepth 100000 in
theorem sg_X3_nearest_65 {p : Program} {l : Launch} {e : Env} {s : State} {m : MethodId} {args : Array Value} {below : List Frame} {meth : Method} {c : Code} {ls : Array Slot} {g : Int64} (hx : p.tables.exec = Jvm.exec) (hb : c.code = cX3_nearest) (hr : meth.sig.returnType = (some .long)) (hml : c.maxLocals = 16) (hts : ∀ w ∈ wsX3_nearest, w.before args s = true) (hown : s.vm.findClass RX3 = some m.cls) (hlocks : meth.locks = false) (x0 : Int32) (x1 : Int32) (x2 : Int64) (x4 : Int32) (x5 : Int32) (x6 : Int32) (x8 : Int32) (hg : g = fn_X3_nearest_65 x0 x1 x2 x4 x5 x6 x8) (hl : lv_has ls 16 [(0, .int x0), (1, .int x1), (2, .long x2), (4, .int x4), (5, .int x5), (6, .int x6), (8, .int x8)]) : W p l e ({ frames := 1, cells := 0, slots := 0, locals := 23 } : Room) s m args below meth c s.heap [] 0 0 (MQ below (vp_Sl (fun r => r = g)) args s 0 0 (fun _ => False)) (F0 m 65 ls []) := by
  have hS : va_S (fun _ => False) s.heap s.heap [] := va_S.rf
  refine lv_iload hx hb dX3_nearest_65 (lv_at hl 6 rfl) ?_
  refine lv_iconst (v := (1 : Int32)) hx hb dX3_nearest_67 (by decide) ?_
  refine lv_iload hx hb dX3_nearest_68 (lv_at hl 5 rfl) ?_
  refine lv_isub hx hb dX3_nearest_70 ?_
  refine lv_iload hx hb dX3_nearest_71 (lv_at hl 4 rfl) ?_
  refine lv_isub hx hb dX3_nearest_73 ?_
  refine lv_icmp_ge (tgt := 86) hx hb dX3_nearest_74 (by decide) (fun c_1 => ?_) (fun c_1 => ?_)
  · exact sg_X3_nearest_86 hx hb hr hml hts hown hlocks x0 x1 x2 x4 x5 x6 x8 (by rw [hg]; unfold fn_X3_nearest_65; rw [if_pos c_1])  (lv_sub hl [0, 1, 2, 3, 4, 5, 6] rfl)
  · refine lv_iconst (v := (1 : Int32)) hx hb dX3_nearest_77 (by decide) ?_
    refine lv_iload hx hb dX3_nearest_78 (lv_at hl 5 rfl) ?_
    refine lv_isub hx hb dX3_nearest_80 ?_
    refine lv_iload hx hb dX3_nearest_81 (lv_at hl 4 rfl) ?_
    refine lv_isub hx hb dX3_nearest_83 ?_
    refine lv_istore (lv' := [(8, .int (((1 : Int32) - x6) - x5)), (0, .int x0), (1, .int x1), (2, .long x2), (4, .int x4), (5, .int x5), (6, .int x6)]) hx hb dX3_nearest_84 hl (by decide) rfl (fun ls hl => ?_)
    exact sg_X3_nearest_86 hx hb hr hml hts hown hlocks x0 x1 x2 x4 x5 x6 (((1 : Int32) - x6) - x5) (by rw [hg]; unfold fn_X3_nearest_65; rw [if_neg c_1])  (lv_sub hl [1, 2, 3, 4, 5, 6, 0] rfl)
def fn_X3_nearest_55 (x0 : Int32) (x1 : Int32) (x2 : Int64) (x4 : Int32) (x5 : Int32) (x6 : Int32) (x7 : Int32) : Int64 :=
  fn_X3_nearest_65 x0 x1 x2 x4 x5 x6 ((x7 + x4) - x5)
set_option maxHeartbeats 4000000 in
set_option maxRecDepth 100000 in
theorem sg_X3_nearest_55 {p : Program} {l : Launch} {e : Env} {s : State} {m : MethodId} {args : Array Value} {below : List Frame} {meth : Method} {c : Code} {ls : Array Slot} {g : Int64} (hx : p.tables.exec = Jvm.exec) (hb : c.code = cX3_nearest) (hr : meth.sig.returnType = (some .long)) (hml : c.maxLocals = 16) (hts : ∀ w ∈ wsX3_nearest, w.before args s = true) (hown : s.vm.findClass RX3 = some m.cls) (hlocks : meth.locks = false) (x0 : Int32) (x1 : Int32) (x2 : Int64) (x4 : Int32) (x5 : Int32) (x6 : Int32) (x7 : Int32) (hg : g = fn_X3_nearest_55 x0 x1 x2 x4 x5 x6 x7) (hl : lv_has ls 16 [(0, .int x0), (1, .int x1), (2, .long x2), (4, .int x4), (5, .int x5), (6, .int x6), (7, .int x7)]) : W p l e ({ frames := 1, cells := 0, slots := 0, locals := 23 } : Room) s m args below meth c s.heap [] 0 0 (MQ below (vp_Sl (fun r => r = g)) args s 0 0 (fun _ => False)) (F0 m 55 ls []) := by
  have hS : va_S (fun _ => False) s.heap s.heap [] := va_S.rf
  refine lv_iload hx hb dX3_nearest_55 (lv_at hl 6 rfl) ?_
  refine lv_iload hx hb dX3_nearest_57 (lv_at hl 3 rfl) ?_
  refine lv_iadd hx hb dX3_nearest_59 ?_
  refine lv_iload hx hb dX3_nearest_60 (lv_at hl 4 rfl) ?_
  refine lv_isub hx hb dX3_nearest_62 ?_
  refine lv_istore (lv' := [(8, .int ((x7 + x4) - x5)), (0, .int x0), (1, .int x1), (2, .long x2), (4, .int x4), (5, .int x5), (6, .int x6), (7, .int x7)]) hx hb dX3_nearest_63 hl (by decide) rfl (fun ls hl => ?_)
  exact sg_X3_nearest_65 hx hb hr hml hts hown hlocks x0 x1 x2 x4 x5 x6 ((x7 + x4) - x5) (by rw [hg]; rfl)  (lv_sub hl [1, 2, 3, 4, 5, 6, 0] rfl)
def fn_X3_nearest_38 (x0 : Int32) (x1 : Int32) (x2 : Int64) (x4 : Int32) (x5 : Int32) (x6 : Int32) (_ : Int32) : Int64 := fn_X3_nearest_55 x0 x1 x2 x4 x5 x6 (nI (tb x2))
set_option maxHeartbeats 4000000 in
set_option maxRecDepth 100000 in
theorem sl_X3_nearest_38 {p : Program} {l : Launch} {e : Env} {s : State} {m : MethodId} {args : Array Value} {below : List Frame} {meth : Method} {c : Code} {g : Int64} (hx : p.tables.exec = Jvm.exec) (hb : c.code = cX3_nearest) (hr : meth.sig.returnType = (some .long)) (hml : c.maxLocals = 16) (hts : ∀ w ∈ wsX3_nearest, w.before args s = true) (hown : s.vm.findClass RX3 = some m.cls) (hlocks : meth.locks = false) (x0 : Int32) (x1 : Int32) (x2 : Int64) (x4 : Int32) (x5 : Int32) (x6 : Int32) (hg : g = fn_X3_nearest_55 x0 x1 x2 x4 x5 x6 (nI (tb x2))) (h0 : ¬ x2 = 0) : ∀ n : Nat, tb x2 ≤ n → n < 64 → ∀ ls : Array Slot, lv_has ls 16 [(0, .int x0), (1, .int x1), (2, .long x2), (4, .int x4), (5, .int x5), (6, .int x6), (7, .int (nI n))] → W p l e ({ frames := 1, cells := 0, slots := 0, locals := 23 } : Room) s m args below meth c s.heap [] 0 0 (MQ below (vp_Sl (fun r => r = g)) args s 0 0 (fun _ => False)) (F0 m 38 ls []) := by
  intro n
  induction n with
  | zero =>
    intro ht hn ls hl
    refine lv_lload_n hx hb dX3_nearest_38 rfl (lv_at hl 2 rfl) ?_
    refine lv_iload hx hb dX3_nearest_39 (lv_at hl 6 rfl) ?_
    refine lv_lushr hx hb dX3_nearest_41 rfl ?_
    refine lv_lconst (v := (1 : Int64)) hx hb dX3_nearest_42 (by decide) ?_
    refine lv_land hx hb dX3_nearest_43 ?_
    refine lv_lconst (v := (0 : Int64)) hx hb dX3_nearest_44 (by decide) ?_
    refine zl_ne (tgt := 55) hx hb dX3_nearest_45 dX3_nearest_46 (by decide) (fun c_1 => ?_) (fun c_1 => ?_)
    · have e9 : 0 = tb x2 := Decidable.byContradiction (fun q => c_1 ((tb_bit h0 hn ht).mpr q))
      have e8 : nI (0) = nI (tb x2) := congrArg nI e9
      rw [e8] at hl
      exact sg_X3_nearest_55 hx hb hr hml hts hown hlocks x0 x1 x2 x4 x5 x6 (nI (tb x2)) hg (lv_sub hl [0, 1, 2, 3, 4, 5, 6] rfl)
    · exact absurd (by omega) ((tb_bit h0 hn ht).mp c_1)
  | succ n ih =>
    intro ht hn ls hl
    refine lv_lload_n hx hb dX3_nearest_38 rfl (lv_at hl 2 rfl) ?_
    refine lv_iload hx hb dX3_nearest_39 (lv_at hl 6 rfl) ?_
    refine lv_lushr hx hb dX3_nearest_41 rfl ?_
    refine lv_lconst (v := (1 : Int64)) hx hb dX3_nearest_42 (by decide) ?_
    refine lv_land hx hb dX3_nearest_43 ?_
    refine lv_lconst (v := (0 : Int64)) hx hb dX3_nearest_44 (by decide) ?_
    refine zl_ne (tgt := 55) hx hb dX3_nearest_45 dX3_nearest_46 (by decide) (fun c_1 => ?_) (fun c_1 => ?_)
    · have e9 : n + 1 = tb x2 := Decidable.byContradiction (fun q => c_1 ((tb_bit h0 hn ht).mpr q))
      have e8 : nI (n + 1) = nI (tb x2) := congrArg nI e9
      rw [e8] at hl
      exact sg_X3_nearest_55 hx hb hr hml hts hown hlocks x0 x1 x2 x4 x5 x6 (nI (tb x2)) hg (lv_sub hl [0, 1, 2, 3, 4, 5, 6] rfl)
    · have q := (tb_bit h0 hn ht).mp c_1
      refine lv_iinc (v := nI n) (lv' := [(7, .int (nI n)), (0, .int x0), (1, .int x1), (2, .long x2), (4, .int x4), (5, .int x5), (6, .int x6)]) hx hb dX3_nearest_49 hl (k := 6) rfl (by rw [← pk_m1 n]; rfl) (by decide) rfl (fun ls hl => ?_)
      refine lv_goto (tgt := 38) hx hb dX3_nearest_52 (by decide) ?_
      exact ih (by omega) (by omega) ls (lv_sub hl [1, 2, 3, 4, 5, 6, 0] rfl)
theorem sg_X3_nearest_38 {p : Program} {l : Launch} {e : Env} {s : State} {m : MethodId} {args : Array Value} {below : List Frame} {meth : Method} {c : Code} {g : Int64} (hx : p.tables.exec = Jvm.exec) (hb : c.code = cX3_nearest) (hr : meth.sig.returnType = (some .long)) (hml : c.maxLocals = 16) (hts : ∀ w ∈ wsX3_nearest, w.before args s = true) (hown : s.vm.findClass RX3 = some m.cls) (hlocks : meth.locks = false) (x0 : Int32) (x1 : Int32) (x2 : Int64) (x4 : Int32) (x5 : Int32) (x6 : Int32) (x7 : Int32) {ls : Array Slot} (hg : g = fn_X3_nearest_38 x0 x1 x2 x4 x5 x6 x7) (h0 : ¬ x2 = 0) (h7 : x7 = 63) (hl : lv_has ls 16 [(0, .int x0), (1, .int x1), (2, .long x2), (4, .int x4), (5, .int x5), (6, .int x6), (7, .int x7)]) : W p l e ({ frames := 1, cells := 0, slots := 0, locals := 23 } : Room) s m args below meth c s.heap [] 0 0 (MQ below (vp_Sl (fun r => r = g)) args s 0 0 (fun _ => False)) (F0 m 38 ls []) := by
  subst h7
  exact sl_X3_nearest_38 hx hb hr hml hts hown hlocks x0 x1 x2 x4 x5 x6 hg h0 63 (by have := tb_lt h0; omega) (by decide) ls hl

def fn_X3_nearest (v0 : Int32) (v1 : Int32) (v2 : Int64) (v4 : Int32) : Int64 :=
  if v2 = (0 : Int64) then
    fn_X3_signed v0 (0 : Int64) v1
  else
    if v0 = (2 : Int32) then
      fn_X3_nearest_38 v0 v1 v2 v4 (fn_X3_fractionOf v0) (127 : Int32) (63 : Int32)
    else
      fn_X3_nearest_38 v0 v1 v2 v4 (fn_X3_fractionOf v0) (1023 : Int32) (63 : Int32)
set_option maxHeartbeats 4000000 in
set_option maxRecDepth 100000 in
theorem ct_X3_nearest (l : Launch) (v0 : Int32) (v1 : Int32) (v2 : Int64) (v4 : Int32) : Met l yX3_nearest wsX3_nearest ({ frames := 1, cells := 0, slots := 0, locals := 23 } : Room) (va_Pc [.int v0, .int v1, .long v2, .int v4] (fun _ => True)) (vp_Sl (fun r => r = fn_X3_nearest v0 v1 v2 v4)) 0 0 (fun _ => False) := by
  refine Met.ofW (cc := cX3_nearest) (maxL := 16) (ret := (some .long)) (by decide) rfl ?_
  intro p e s m args below meth c s₁ B hml hv
  obtain ⟨rfl, hW⟩ := hv
  have hx := B.exec
  have hb := B.bytes
  have hr := B.returns
  have hlocks := B.notSynchronized
  have hts := atoms_spec (ws := wsX3_nearest) B.pre
  have hown : s.vm.findClass RX3 = some m.cls := findClass_of_methodNamed B.named
  have hS : va_S (fun _ => False) s.heap s.heap [] := va_S.rf
  have hl := lv_entry ([.int v0, .int v1, .long v2, .int v4]) (n := 16) (Nat.le_of_ble_eq_true rfl)
  rw [lg_entry_eq]
  generalize (lg_sl ([.int v0, .int v1, .long v2, .int v4]) ++ List.replicate (16 - (lg_sl ([.int v0, .int v1, .long v2, .int v4])).length) Slot.unset).toArray = ls at hl ⊢
  have hl : lv_has ls 16 [(0, .int v0), (1, .int v1), (2, .long v2), (4, .int v4)] := hl
  refine lv_lload_n hx hb dX3_nearest_0 rfl (lv_at hl 2 rfl) ?_
  refine lv_lconst (v := (0 : Int64)) hx hb dX3_nearest_1 (by decide) ?_
  refine zl_ne (tgt := 13) hx hb dX3_nearest_2 dX3_nearest_3 (by decide) (fun c_1 => ?_) (fun c_1 => ?_)
  · refine lv_iload_n hx hb dX3_nearest_13 rfl (lv_at hl 0 rfl) ?_
    refine vp_callSi (W.runS (As := [.int v0]) (rest := []) ⟨hx, hb, hml, hown, hts⟩ (ct_X3_fractionOf l v0) (va_cwS 1 hts gX3_nearest_X3_fractionOf rfl rfl rfl (by decide +kernel) ⟨Nat.le_of_ble_eq_true rfl, Nat.le_of_ble_eq_true rfl⟩) ⟨(fun a U g mk q => ⟨q.1, trivial⟩), fun U hU hW9 => ⟨rfl, trivial⟩⟩ rfl rfl hl.1 rfl (lv_room (Nat.le_of_ble_eq_true rfl)) dX3_nearest_14 ⟨Nat.zero_le _, Nat.zero_le _⟩) (fun r er => ?_)
    subst er
    refine lv_istore (lv' := [(5, .int (fn_X3_fractionOf v0)), (0, .int v0), (1, .int v1), (2, .long v2), (4, .int v4)]) hx hb dX3_nearest_17 hl (by decide) rfl (fun ls hl => ?_)
    refine lv_iload_n hx hb dX3_nearest_19 rfl (lv_at hl 1 rfl) ?_
    refine lv_iconst (v := (2 : Int32)) hx hb dX3_nearest_20 (by decide) ?_
    refine lv_icmp_ne (tgt := 29) hx hb dX3_nearest_21 (by decide) (fun c_2 => ?_) (fun c_2 => ?_)
    · refine lv_sipush (v := (1023 : Int32)) hx hb dX3_nearest_29 (by decide) ?_
      refine lv_istore (lv' := [(6, .int (1023 : Int32)), (5, .int (fn_X3_fractionOf v0)), (0, .int v0), (1, .int v1), (2, .long v2), (4, .int v4)]) hx hb dX3_nearest_32 hl (by decide) rfl (fun ls hl => ?_)
      refine lv_bipush (v := (63 : Int32)) hx hb dX3_nearest_34 (by decide) ?_
      refine lv_istore (lv' := [(7, .int (63 : Int32)), (6, .int (1023 : Int32)), (5, .int (fn_X3_fractionOf v0)), (0, .int v0), (1, .int v1), (2, .long v2), (4, .int v4)]) hx hb dX3_nearest_36 hl (by decide) rfl (fun ls hl => ?_)
      exact sg_X3_nearest_38 hx hb hr hml hts hown hlocks v0 v1 v2 v4 (fn_X3_fractionOf v0) (1023 : Int32) (63 : Int32) (by unfold fn_X3_nearest; rw [if_neg c_1, if_neg c_2]) c_1 rfl (lv_sub hl [3, 4, 5, 6, 2, 1, 0] rfl)
    · refine lv_bipush (v := (127 : Int32)) hx hb dX3_nearest_24 (by decide) ?_
      refine lv_goto (tgt := 32) hx hb dX3_nearest_26 (by decide) ?_
      refine lv_istore (lv' := [(6, .int (127 : Int32)), (5, .int (fn_X3_fractionOf v0)), (0, .int v0), (1, .int v1), (2, .long v2), (4, .int v4)]) hx hb dX3_nearest_32 hl (by decide) rfl (fun ls hl => ?_)
      refine lv_bipush (v := (63 : Int32)) hx hb dX3_nearest_34 (by decide) ?_
      refine lv_istore (lv' := [(7, .int (63 : Int32)), (6, .int (127 : Int32)), (5, .int (fn_X3_fractionOf v0)), (0, .int v0), (1, .int v1), (2, .long v2), (4, .int v4)]) hx hb dX3_nearest_36 hl (by decide) rfl (fun ls hl => ?_)
      exact sg_X3_nearest_38 hx hb hr hml hts hown hlocks v0 v1 v2 v4 (fn_X3_fractionOf v0) (127 : Int32) (63 : Int32) (by unfold fn_X3_nearest; rw [if_neg c_1, if_pos c_2]) c_1 rfl (lv_sub hl [3, 4, 5, 6, 2, 1, 0] rfl)
  · refine lv_iload_n hx hb dX3_nearest_6 rfl (lv_at hl 0 rfl) ?_
    refine lv_lconst (v := (0 : Int64)) hx hb dX3_nearest_7 (by decide) ?_
    refine lv_iload_n hx hb dX3_nearest_8 rfl (lv_at hl 1 rfl) ?_
    refine vp_callSl (W.runS (As := [.int v0, .long (0 : Int64), .int v1]) (rest := []) ⟨hx, hb, hml, hown, hts⟩ (ct_X3_signed l v0 (0 : Int64) v1) (va_cwS 3 hts gX3_nearest_X3_signed rfl rfl rfl (by decide +kernel) ⟨Nat.le_of_ble_eq_true rfl, Nat.le_of_ble_eq_true rfl⟩) ⟨(fun a U g mk q => ⟨q.1, trivial⟩), fun U hU hW9 => ⟨rfl, trivial⟩⟩ rfl rfl hl.1 rfl (lv_room (Nat.le_of_ble_eq_true rfl)) dX3_nearest_9 ⟨Nat.zero_le _, Nat.zero_le _⟩) (fun r er => ?_)
    subst er
    exact W.lret (v := fn_X3_signed v0 (0 : Int64) v1) hx hb hr (fun t ht _ => ⟨_, rfl, by unfold fn_X3_nearest; rw [if_pos c_1], ht⟩) (fun _ h => by cases h) dX3_nearest_12
def fn_X3_turnedInto_149 (x0 : Int32) (x2 : Int64) (x6 : Int32) (x7 : Int32) (x8 : Int32) (x9 : Int64) : Int64 :=
  if x8 = 0 then
    if (0 : Int64) ≤ x2 then
      fn_X3_nearest x0 (0 : Int32) x9 (((1 : Int32) - x7) - x6)
    else
      fn_X3_nearest x0 (1 : Int32) x9 (((1 : Int32) - x7) - x6)
  else
    if (0 : Int64) ≤ x2 then
      fn_X3_nearest x0 (0 : Int32) (x9 ||| ((1 : Int64) <<< (Int32.toInt64 x6 &&& 63))) ((x8 - x7) - x6)
    else
      fn_X3_nearest x0 (1 : Int32) (x9 ||| ((1 : Int64) <<< (Int32.toInt64 x6 &&& 63))) ((x8 - x7) - x6)
set_option maxHeartbeats 4000000 in
set_option maxRecDepth 100000 in
theorem sg_X3_turnedInto_149 {p : Program} {l : Launch} {e : Env} {s : State} {m : MethodId} {args : Array Value} {below : List Frame} {meth : Method} {c : Code} {ls : Array Slot} {g : Int64} (hx : p.tables.exec = Jvm.exec) (hb : c.code = cX3_turnedInto) (hr : meth.sig.returnType = (some .long)) (hml : c.maxLocals = 11) (hts : ∀ w ∈ wsX3_turnedInto, w.before args s = true) (hown : s.vm.findClass RX3 = some m.cls) (hlocks : meth.locks = false) (x0 : Int32) (x2 : Int64) (x6 : Int32) (x7 : Int32) (x8 : Int32) (x9 : Int64) (hg : g = fn_X3_turnedInto_149 x0 x2 x6 x7 x8 x9) (hl : lv_has ls 11 [(0, .int x0), (2, .long x2), (6, .int x6), (7, .int x7), (8, .int x8), (9, .long x9)]) : W p l e ({ frames := 2, cells := 0, slots := 0, locals := 58 } : Room) s m args below meth c s.heap [] 0 0 (MQ below (vp_Sl (fun r => r = g)) args s 0 0 (fun _ => False)) (F0 m 149 ls []) := by
  have hS : va_S (fun _ => False) s.heap s.heap [] := va_S.rf
  refine lv_iload hx hb dX3_turnedInto_149 (lv_at hl 4 rfl) ?_
  refine lv_if_ne (tgt := 181) hx hb dX3_turnedInto_151 (by decide) (fun c_1 => ?_) (fun c_1 => ?_)
  · refine lv_iload_n hx hb dX3_turnedInto_181 rfl (lv_at hl 0 rfl) ?_
    refine lv_lload_n hx hb dX3_turnedInto_182 rfl (lv_at hl 1 rfl) ?_
    refine lv_lconst (v := (0 : Int64)) hx hb dX3_turnedInto_183 (by decide) ?_
    refine zl_ge (tgt := 192) hx hb dX3_turnedInto_184 dX3_turnedInto_185 (by decide) (fun c_2 => ?_) (fun c_2 => ?_)
    · refine lv_iconst (v := (0 : Int32)) hx hb dX3_turnedInto_192 (by decide) ?_
      refine lv_lload hx hb dX3_turnedInto_193 (lv_at hl 5 rfl) ?_
      refine lv_lconst (v := (1 : Int64)) hx hb dX3_turnedInto_195 (by decide) ?_
      refine lv_iload hx hb dX3_turnedInto_196 (lv_at hl 2 rfl) ?_
      refine lv_lshl hx hb dX3_turnedInto_198 rfl ?_
      refine lv_lor hx hb dX3_turnedInto_199 ?_
      refine lv_iload hx hb dX3_turnedInto_200 (lv_at hl 4 rfl) ?_
      refine lv_iload hx hb dX3_turnedInto_202 (lv_at hl 3 rfl) ?_
      refine lv_isub hx hb dX3_turnedInto_204 ?_
      refine lv_iload hx hb dX3_turnedInto_205 (lv_at hl 2 rfl) ?_
      refine lv_isub hx hb dX3_turnedInto_207 ?_
      refine vp_callSl (W.runS (As := [.int x0, .int (0 : Int32), .long (x9 ||| ((1 : Int64) <<< (Int32.toInt64 x6 &&& 63))), .int ((x8 - x7) - x6)]) (rest := []) ⟨hx, hb, hml, hown, hts⟩ (ct_X3_nearest l x0 (0 : Int32) (x9 ||| ((1 : Int64) <<< (Int32.toInt64 x6 &&& 63))) ((x8 - x7) - x6)) (va_cwS 4 hts gX3_turnedInto_X3_nearest rfl rfl rfl (by decide +kernel) ⟨Nat.le_of_ble_eq_true rfl, Nat.le_of_ble_eq_true rfl⟩) ⟨(fun a U g mk q => ⟨q.1, trivial⟩), fun U hU hW9 => ⟨rfl, trivial⟩⟩ rfl rfl hl.1 rfl (lv_room (Nat.le_of_ble_eq_true rfl)) dX3_turnedInto_208 ⟨Nat.zero_le _, Nat.zero_le _⟩) (fun r er => ?_)
      subst er
      exact W.lret (v := fn_X3_nearest x0 (0 : Int32) (x9 ||| ((1 : Int64) <<< (Int32.toInt64 x6 &&& 63))) ((x8 - x7) - x6)) hx hb hr (fun t ht _ => ⟨_, rfl, by rw [hg]; unfold fn_X3_turnedInto_149; rw [if_neg c_1, if_pos c_2], ht⟩) (fun _ h => by cases h) dX3_turnedInto_211
    · refine lv_iconst (v := (1 : Int32)) hx hb dX3_turnedInto_188 (by decide) ?_
      refine lv_goto (tgt := 193) hx hb dX3_turnedInto_189 (by decide) ?_
      refine lv_lload hx hb dX3_turnedInto_193 (lv_at hl 5 rfl) ?_
      refine lv_lconst (v := (1 : Int64)) hx hb dX3_turnedInto_195 (by decide) ?_
      refine lv_iload hx hb dX3_turnedInto_196 (lv_at hl 2 rfl) ?_
      refine lv_lshl hx hb dX3_turnedInto_198 rfl ?_
      refine lv_lor hx hb dX3_turnedInto_199 ?_
      refine lv_iload hx hb dX3_turnedInto_200 (lv_at hl 4 rfl) ?_
      refine lv_iload hx hb dX3_turnedInto_202 (lv_at hl 3 rfl) ?_
      refine lv_isub hx hb dX3_turnedInto_204 ?_
      refine lv_iload hx hb dX3_turnedInto_205 (lv_at hl 2 rfl) ?_
      refine lv_isub hx hb dX3_turnedInto_207 ?_
      refine vp_callSl (W.runS (As := [.int x0, .int (1 : Int32), .long (x9 ||| ((1 : Int64) <<< (Int32.toInt64 x6 &&& 63))), .int ((x8 - x7) - x6)]) (rest := []) ⟨hx, hb, hml, hown, hts⟩ (ct_X3_nearest l x0 (1 : Int32) (x9 ||| ((1 : Int64) <<< (Int32.toInt64 x6 &&& 63))) ((x8 - x7) - x6)) (va_cwS 4 hts gX3_turnedInto_X3_nearest rfl rfl rfl (by decide +kernel) ⟨Nat.le_of_ble_eq_true rfl, Nat.le_of_ble_eq_true rfl⟩) ⟨(fun a U g mk q => ⟨q.1, trivial⟩), fun U hU hW9 => ⟨rfl, trivial⟩⟩ rfl rfl hl.1 rfl (lv_room (Nat.le_of_ble_eq_true rfl)) dX3_turnedInto_208 ⟨Nat.zero_le _, Nat.zero_le _⟩) (fun r er => ?_)
      subst er
      exact W.lret (v := fn_X3_nearest x0 (1 : Int32) (x9 ||| ((1 : Int64) <<< (Int32.toInt64 x6 &&& 63))) ((x8 - x7) - x6)) hx hb hr (fun t ht _ => ⟨_, rfl, by rw [hg]; unfold fn_X3_turnedInto_149; rw [if_neg c_1, if_neg c_2], ht⟩) (fun _ h => by cases h) dX3_turnedInto_211
  · refine lv_iload_n hx hb dX3_turnedInto_154 rfl (lv_at hl 0 rfl) ?_
    refine lv_lload_n hx hb dX3_turnedInto_155 rfl (lv_at hl 1 rfl) ?_
    refine lv_lconst (v := (0 : Int64)) hx hb dX3_turnedInto_156 (by decide) ?_
    refine zl_ge (tgt := 165) hx hb dX3_turnedInto_157 dX3_turnedInto_158 (by decide) (fun c_3 => ?_) (fun c_3 => ?_)
    · refine lv_iconst (v := (0 : Int32)) hx hb dX3_turnedInto_165 (by decide) ?_
      refine lv_lload hx hb dX3_turnedInto_166 (lv_at hl 5 rfl) ?_
      refine lv_iconst (v := (1 : Int32)) hx hb dX3_turnedInto_168 (by decide) ?_
      refine lv_iload hx hb dX3_turnedInto_169 (lv_at hl 3 rfl) ?_
      refine lv_isub hx hb dX3_turnedInto_171 ?_
      refine lv_iload hx hb dX3_turnedInto_172 (lv_at hl 2 rfl) ?_
      refine lv_isub hx hb dX3_turnedInto_174 ?_
      refine vp_callSl (W.runS (As := [.int x0, .int (0 : Int32), .long x9, .int (((1 : Int32) - x7) - x6)]) (rest := []) ⟨hx, hb, hml, hown, hts⟩ (ct_X3_nearest l x0 (0 : Int32) x9 (((1 : Int32) - x7) - x6)) (va_cwS 4 hts gX3_turnedInto_X3_nearest rfl rfl rfl (by decide +kernel) ⟨Nat.le_of_ble_eq_true rfl, Nat.le_of_ble_eq_true rfl⟩) ⟨(fun a U g mk q => ⟨q.1, trivial⟩), fun U hU hW9 => ⟨rfl, trivial⟩⟩ rfl rfl hl.1 rfl (lv_room (Nat.le_of_ble_eq_true rfl)) dX3_turnedInto_175 ⟨Nat.zero_le _, Nat.zero_le _⟩) (fun r er => ?_)
      subst er
      refine lv_goto (tgt := 211) hx hb dX3_turnedInto_178 (by decide) ?_
      exact W.lret (v := fn_X3_nearest x0 (0 : Int32) x9 (((1 : Int32) - x7) - x6)) hx hb hr (fun t ht _ => ⟨_, rfl, by rw [hg]; unfold fn_X3_turnedInto_149; rw [if_pos c_1, if_pos c_3], ht⟩) (fun _ h => by cases h) dX3_turnedInto_211
    · refine lv_iconst (v := (1 : Int32)) hx hb dX3_turnedInto_161 (by decide) ?_
      refine lv_goto (tgt := 166) hx hb dX3_turnedInto_162 (by decide) ?_
      refine lv_lload hx hb dX3_turnedInto_166 (lv_at hl 5 rfl) ?_
      refine lv_iconst (v := (1 : Int32)) hx hb dX3_turnedInto_168 (by decide) ?_
      refine lv_iload hx hb dX3_turnedInto_169 (lv_at hl 3 rfl) ?_
      refine lv_isub hx hb dX3_turnedInto_171 ?_
      refine lv_iload hx hb dX3_turnedInto_172 (lv_at hl 2 rfl) ?_
      refine lv_isub hx hb dX3_turnedInto_174 ?_
      refine vp_callSl (W.runS (As := [.int x0, .int (1 : Int32), .long x9, .int (((1 : Int32) - x7) - x6)]) (rest := []) ⟨hx, hb, hml, hown, hts⟩ (ct_X3_nearest l x0 (1 : Int32) x9 (((1 : Int32) - x7) - x6)) (va_cwS 4 hts gX3_turnedInto_X3_nearest rfl rfl rfl (by decide +kernel) ⟨Nat.le_of_ble_eq_true rfl, Nat.le_of_ble_eq_true rfl⟩) ⟨(fun a U g mk q => ⟨q.1, trivial⟩), fun U hU hW9 => ⟨rfl, trivial⟩⟩ rfl rfl hl.1 rfl (lv_room (Nat.le_of_ble_eq_true rfl)) dX3_turnedInto_175 ⟨Nat.zero_le _, Nat.zero_le _⟩) (fun r er => ?_)
      subst er
      refine lv_goto (tgt := 211) hx hb dX3_turnedInto_178 (by decide) ?_
      exact W.lret (v := fn_X3_nearest x0 (1 : Int32) x9 (((1 : Int32) - x7) - x6)) hx hb hr (fun t ht _ => ⟨_, rfl, by rw [hg]; unfold fn_X3_turnedInto_149; rw [if_pos c_1, if_neg c_3], ht⟩) (fun _ h => by cases h) dX3_turnedInto_211
def fn_X3_turnedInto_130 (x0 : Int32) (x2 : Int64) (x4 : Int64) (x6 : Int32) (x7 : Int32) : Int64 :=
  fn_X3_turnedInto_149 x0 x2 x6 x7 (Int64.toInt32 ((Int64.toUInt64 x4 >>> (Int64.toUInt64 (Int32.toInt64 x6) &&& Int64.toUInt64 63)).toInt64)) (x4 &&& (((1 : Int64) <<< (Int32.toInt64 x6 &&& 63)) - (1 : Int64)))
set_option maxHeartbeats 4000000 in
set_option maxRecDepth 100000 in
theorem sg_X3_turnedInto_130 {p : Program} {l : Launch} {e : Env} {s : State} {m : MethodId} {args : Array Value} {below : List Frame} {meth : Method} {c : Code} {ls : Array Slot} {g : Int64} (hx : p.tables.exec = Jvm.exec) (hb : c.code = cX3_turnedInto) (hr : meth.sig.returnType = (some .long)) (hml : c.maxLocals = 11) (hts : ∀ w ∈ wsX3_turnedInto, w.before args s = true) (hown : s.vm.findClass RX3 = some m.cls) (hlocks : meth.locks = false) (x0 : Int32) (x2 : Int64) (x4 : Int64) (x6 : Int32) (x7 : Int32) (hg : g = fn_X3_turnedInto_130 x0 x2 x4 x6 x7) (hl : lv_has ls 11 [(0, .int x0), (2, .long x2), (4, .long x4), (6, .int x6), (7, .int x7)]) : W p l e ({ frames := 2, cells := 0, slots := 0, locals := 58 } : Room) s m args below meth c s.heap [] 0 0 (MQ below (vp_Sl (fun r => r = g)) args s 0 0 (fun _ => False)) (F0 m 130 ls []) := by
  have hS : va_S (fun _ => False) s.heap s.heap [] := va_S.rf
  refine lv_lload hx hb dX3_turnedInto_130 (lv_at hl 2 rfl) ?_
  refine lv_iload hx hb dX3_turnedInto_132 (lv_at hl 3 rfl) ?_
  refine lv_lushr hx hb dX3_turnedInto_134 rfl ?_
  refine lv_l2i hx hb dX3_turnedInto_135 rfl ?_
  refine lv_istore (lv' := [(8, .int (Int64.toInt32 ((Int64.toUInt64 x4 >>> (Int64.toUInt64 (Int32.toInt64 x6) &&& Int64.toUInt64 63)).toInt64))), (0, .int x0), (2, .long x2), (4, .long x4), (6, .int x6), (7, .int x7)]) hx hb dX3_turnedInto_136 hl (by decide) rfl (fun ls hl => ?_)
  refine lv_lload hx hb dX3_turnedInto_138 (lv_at hl 3 rfl) ?_
  refine lv_lconst (v := (1 : Int64)) hx hb dX3_turnedInto_140 (by decide) ?_
  refine lv_iload hx hb dX3_turnedInto_141 (lv_at hl 4 rfl) ?_
  refine lv_lshl hx hb dX3_turnedInto_143 rfl ?_
  refine lv_lconst (v := (1 : Int64)) hx hb dX3_turnedInto_144 (by decide) ?_
  refine lv_lsub hx hb dX3_turnedInto_145 ?_
  refine lv_land hx hb dX3_turnedInto_146 ?_
  refine lv_lstore (lv' := [(9, .long (x4 &&& (((1 : Int64) <<< (Int32.toInt64 x6 &&& 63)) - (1 : Int64)))), (8, .int (Int64.toInt32 ((Int64.toUInt64 x4 >>> (Int64.toUInt64 (Int32.toInt64 x6) &&& Int64.toUInt64 63)).toInt64))), (0, .int x0), (2, .long x2), (4, .long x4), (6, .int x6), (7, .int x7)]) hx hb dX3_turnedInto_147 hl (by decide) rfl (fun ls hl => ?_)
  exact sg_X3_turnedInto_149 hx hb hr hml hts hown hlocks x0 x2 x6 x7 (Int64.toInt32 ((Int64.toUInt64 x4 >>> (Int64.toUInt64 (Int32.toInt64 x6) &&& Int64.toUInt64 63)).toInt64)) (x4 &&& (((1 : Int64) <<< (Int32.toInt64 x6 &&& 63)) - (1 : Int64))) (by rw [hg]; rfl)  (lv_sub hl [2, 3, 5, 6, 1, 0] rfl)
def fn_X3_turnedInto (v0 : Int32) (v1 : Int32) (v2 : Int64) : Int64 :=
  if v0 = v1 then
    v2
  else
    if (fn_X3_isFloating v1) = 0 then
      if v0 = (1 : Int32) then
        v2
      else
        if v0 = 0 then
          Int32.toInt64 (Int64.toInt32 v2)
        else
          if (0 : Int64) ≤ v2 then
            fn_X3_nearest v0 (0 : Int32) v2 (0 : Int32)
          else
            fn_X3_nearest v0 (1 : Int32) (-v2) (0 : Int32)
    else
      if (fn_X3_isFloating v0) = 0 then
        fn_X3_cut v0 v1 v2
      else
        if (fn_X3_size v1 v2) = (fn_X3_endless v1) then
          if (0 : Int64) ≤ v2 then
            fn_X3_signed v0 (fn_X3_endless v0) (0 : Int32)
          else
            fn_X3_signed v0 (fn_X3_endless v0) (1 : Int32)
        else
          if v1 = (2 : Int32) then
            fn_X3_turnedInto_130 v0 v2 (fn_X3_size v1 v2) (fn_X3_fractionOf v1) (127 : Int32)
          else
            fn_X3_turnedInto_130 v0 v2 (fn_X3_size v1 v2) (fn_X3_fractionOf v1) (1023 : Int32)
set_option maxHeartbeats 4000000 in
set_option maxRecDepth 100000 in
theorem ct_X3_turnedInto (l : Launch) (v0 : Int32) (v1 : Int32) (v2 : Int64) : Met l yX3_turnedInto wsX3_turnedInto ({ frames := 2, cells := 0, slots := 0, locals := 58 } : Room) (va_Pc [.int v0, .int v1, .long v2] (fun _ => True)) (vp_Sl (fun r => r = fn_X3_turnedInto v0 v1 v2)) 0 0 (fun _ => False) := by
  refine Met.ofW (cc := cX3_turnedInto) (maxL := 11) (ret := (some .long)) (by decide) rfl ?_
  intro p e s m args below meth c s₁ B hml hv
  obtain ⟨rfl, hW⟩ := hv
  have hx := B.exec
  have hb := B.bytes
  have hr := B.returns
  have hlocks := B.notSynchronized
  have hts := atoms_spec (ws := wsX3_turnedInto) B.pre
  have hown : s.vm.findClass RX3 = some m.cls := findClass_of_methodNamed B.named
  have hS : va_S (fun _ => False) s.heap s.heap [] := va_S.rf
  have hl := lv_entry ([.int v0, .int v1, .long v2]) (n := 11) (Nat.le_of_ble_eq_true rfl)
  rw [lg_entry_eq]
  generalize (lg_sl ([.int v0, .int v1, .long v2]) ++ List.replicate (11 - (lg_sl ([.int v0, .int v1, .long v2])).length) Slot.unset).toArray = ls at hl ⊢
  have hl : lv_has ls 11 [(0, .int v0), (1, .int v1), (2, .long v2)] := hl
  refine lv_iload_n hx hb dX3_turnedInto_0 rfl (lv_at hl 0 rfl) ?_
  refine lv_iload_n hx hb dX3_turnedInto_1 rfl (lv_at hl 1 rfl) ?_
  refine lv_icmp_ne (tgt := 7) hx hb dX3_turnedInto_2 (by decide) (fun c_1 => ?_) (fun c_1 => ?_)
  · refine lv_iload_n hx hb dX3_turnedInto_7 rfl (lv_at hl 1 rfl) ?_
    refine vp_callSi (W.runS (As := [.int v1]) (rest := []) ⟨hx, hb, hml, hown, hts⟩ (ct_X3_isFloating l v1) (va_cwS 1 hts gX3_turnedInto_X3_isFloating rfl rfl rfl (by decide +kernel) ⟨Nat.le_of_ble_eq_true rfl, Nat.le_of_ble_eq_true rfl⟩) ⟨(fun a U g mk q => ⟨q.1, trivial⟩), fun U hU hW9 => ⟨rfl, trivial⟩⟩ rfl rfl hl.1 rfl (lv_room (Nat.le_of_ble_eq_true rfl)) dX3_turnedInto_8 ⟨Nat.zero_le _, Nat.zero_le _⟩) (fun r er => ?_)
    subst er
    refine lv_if_ne (tgt := 58) hx hb dX3_turnedInto_11 (by decide) (fun c_2 => ?_) (fun c_2 => ?_)
    · refine lv_iload_n hx hb dX3_turnedInto_58 rfl (lv_at hl 0 rfl) ?_
      refine vp_callSi (W.runS (As := [.int v0]) (rest := []) ⟨hx, hb, hml, hown, hts⟩ (ct_X3_isFloating l v0) (va_cwS 1 hts gX3_turnedInto_X3_isFloating rfl rfl rfl (by decide +kernel) ⟨Nat.le_of_ble_eq_true rfl, Nat.le_of_ble_eq_true rfl⟩) ⟨(fun a U g mk q => ⟨q.1, trivial⟩), fun U hU hW9 => ⟨rfl, trivial⟩⟩ rfl rfl hl.1 rfl (lv_room (Nat.le_of_ble_eq_true rfl)) dX3_turnedInto_59 ⟨Nat.zero_le _, Nat.zero_le _⟩) (fun r er => ?_)
      subst er
      refine lv_if_ne (tgt := 72) hx hb dX3_turnedInto_62 (by decide) (fun c_3 => ?_) (fun c_3 => ?_)
      · refine lv_iload_n hx hb dX3_turnedInto_72 rfl (lv_at hl 1 rfl) ?_
        refine lv_lload_n hx hb dX3_turnedInto_73 rfl (lv_at hl 2 rfl) ?_
        refine vp_callSl (W.runS (As := [.int v1, .long v2]) (rest := []) ⟨hx, hb, hml, hown, hts⟩ (ct_X3_size l v1 v2) (va_cwS 2 hts gX3_turnedInto_X3_size rfl rfl rfl (by decide +kernel) ⟨Nat.le_of_ble_eq_true rfl, Nat.le_of_ble_eq_true rfl⟩) ⟨(fun a U g mk q => ⟨q.1, trivial⟩), fun U hU hW9 => ⟨rfl, trivial⟩⟩ rfl rfl hl.1 rfl (lv_room (Nat.le_of_ble_eq_true rfl)) dX3_turnedInto_74 ⟨Nat.zero_le _, Nat.zero_le _⟩) (fun r er => ?_)
        subst er
        refine lv_lstore (lv' := [(4, .long (fn_X3_size v1 v2)), (0, .int v0), (1, .int v1), (2, .long v2)]) hx hb dX3_turnedInto_77 hl (by decide) rfl (fun ls hl => ?_)
        refine lv_lload hx hb dX3_turnedInto_79 (lv_at hl 0 rfl) ?_
        refine lv_iload_n hx hb dX3_turnedInto_81 rfl (lv_at hl 2 rfl) ?_
        refine vp_callSl (W.runS (As := [.int v1]) (rest := [.long (fn_X3_size v1 v2)]) ⟨hx, hb, hml, hown, hts⟩ (ct_X3_endless l v1) (va_cwS 1 hts gX3_turnedInto_X3_endless rfl rfl rfl (by decide +kernel) ⟨Nat.le_of_ble_eq_true rfl, Nat.le_of_ble_eq_true rfl⟩) ⟨(fun a U g mk q => ⟨q.1, trivial⟩), fun U hU hW9 => ⟨rfl, trivial⟩⟩ rfl rfl hl.1 rfl (lv_room (Nat.le_of_ble_eq_true rfl)) dX3_turnedInto_82 ⟨Nat.zero_le _, Nat.zero_le _⟩) (fun r er => ?_)
        subst er
        refine zl_ne (tgt := 109) hx hb dX3_turnedInto_85 dX3_turnedInto_86 (by decide) (fun c_4 => ?_) (fun c_4 => ?_)
        · refine lv_iload_n hx hb dX3_turnedInto_109 rfl (lv_at hl 2 rfl) ?_
          refine vp_callSi (W.runS (As := [.int v1]) (rest := []) ⟨hx, hb, hml, hown, hts⟩ (ct_X3_fractionOf l v1) (va_cwS 1 hts gX3_turnedInto_X3_fractionOf rfl rfl rfl (by decide +kernel) ⟨Nat.le_of_ble_eq_true rfl, Nat.le_of_ble_eq_true rfl⟩) ⟨(fun a U g mk q => ⟨q.1, trivial⟩), fun U hU hW9 => ⟨rfl, trivial⟩⟩ rfl rfl hl.1 rfl (lv_room (Nat.le_of_ble_eq_true rfl)) dX3_turnedInto_110 ⟨Nat.zero_le _, Nat.zero_le _⟩) (fun r er => ?_)
          subst er
          refine lv_istore (lv' := [(6, .int (fn_X3_fractionOf v1)), (4, .long (fn_X3_size v1 v2)), (0, .int v0), (1, .int v1), (2, .long v2)]) hx hb dX3_turnedInto_113 hl (by decide) rfl (fun ls hl => ?_)
          refine lv_iload_n hx hb dX3_turnedInto_115 rfl (lv_at hl 3 rfl) ?_
          refine lv_iconst (v := (2 : Int32)) hx hb dX3_turnedInto_116 (by decide) ?_
          refine lv_icmp_ne (tgt := 125) hx hb dX3_turnedInto_117 (by decide) (fun c_5 => ?_) (fun c_5 => ?_)
          · refine lv_sipush (v := (1023 : Int32)) hx hb dX3_turnedInto_125 (by decide) ?_
            refine lv_istore (lv' := [(7, .int (1023 : Int32)), (6, .int (fn_X3_fractionOf v1)), (4, .long (fn_X3_size v1 v2)), (0, .int v0), (1, .int v1), (2, .long v2)]) hx hb dX3_turnedInto_128 hl (by decide) rfl (fun ls hl => ?_)
            exact sg_X3_turnedInto_130 hx hb hr hml hts hown hlocks v0 v2 (fn_X3_size v1 v2) (fn_X3_fractionOf v1) (1023 : Int32) (by unfold fn_X3_turnedInto; rw [if_neg c_1, if_neg c_2, if_neg c_3, if_neg c_4, if_neg c_5])  (lv_sub hl [3, 5, 2, 1, 0] rfl)
          · refine lv_bipush (v := (127 : Int32)) hx hb dX3_turnedInto_120 (by decide) ?_
            refine lv_goto (tgt := 128) hx hb dX3_turnedInto_122 (by decide) ?_
            refine lv_istore (lv' := [(7, .int (127 : Int32)), (6, .int (fn_X3_fractionOf v1)), (4, .long (fn_X3_size v1 v2)), (0, .int v0), (1, .int v1), (2, .long v2)]) hx hb dX3_turnedInto_128 hl (by decide) rfl (fun ls hl => ?_)
            exact sg_X3_turnedInto_130 hx hb hr hml hts hown hlocks v0 v2 (fn_X3_size v1 v2) (fn_X3_fractionOf v1) (127 : Int32) (by unfold fn_X3_turnedInto; rw [if_neg c_1, if_neg c_2, if_neg c_3, if_neg c_4, if_pos c_5])  (lv_sub hl [3, 5, 2, 1, 0] rfl)
        · refine lv_iload_n hx hb dX3_turnedInto_89 rfl (lv_at hl 1 rfl) ?_
          refine lv_iload_n hx hb dX3_turnedInto_90 rfl (lv_at hl 1 rfl) ?_
          refine vp_callSl (W.runS (As := [.int v0]) (rest := [.int v0]) ⟨hx, hb, hml, hown, hts⟩ (ct_X3_endless l v0) (va_cwS 1 hts gX3_turnedInto_X3_endless rfl rfl rfl (by decide +kernel) ⟨Nat.le_of_ble_eq_true rfl, Nat.le_of_ble_eq_true rfl⟩) ⟨(fun a U g mk q => ⟨q.1, trivial⟩), fun U hU hW9 => ⟨rfl, trivial⟩⟩ rfl rfl hl.1 rfl (lv_room (Nat.le_of_ble_eq_true rfl)) dX3_turnedInto_91 ⟨Nat.zero_le _, Nat.zero_le _⟩) (fun r er => ?_)
          subst er
          refine lv_lload_n hx hb dX3_turnedInto_94 rfl (lv_at hl 3 rfl) ?_
          refine lv_lconst (v := (0 : Int64)) hx hb dX3_turnedInto_95 (by decide) ?_
          refine zl_ge (tgt := 104) hx hb dX3_turnedInto_96 dX3_turnedInto_97 (by decide) (fun c_6 => ?_) (fun c_6 => ?_)
          · refine lv_iconst (v := (0 : Int32)) hx hb dX3_turnedInto_104 (by decide) ?_
            refine vp_callSl (W.runS (As := [.int v0, .long (fn_X3_endless v0), .int (0 : Int32)]) (rest := []) ⟨hx, hb, hml, hown, hts⟩ (ct_X3_signed l v0 (fn_X3_endless v0) (0 : Int32)) (va_cwS 3 hts gX3_turnedInto_X3_signed rfl rfl rfl (by decide +kernel) ⟨Nat.le_of_ble_eq_true rfl, Nat.le_of_ble_eq_true rfl⟩) ⟨(fun a U g mk q => ⟨q.1, trivial⟩), fun U hU hW9 => ⟨rfl, trivial⟩⟩ rfl rfl hl.1 rfl (lv_room (Nat.le_of_ble_eq_true rfl)) dX3_turnedInto_105 ⟨Nat.zero_le _, Nat.zero_le _⟩) (fun r er => ?_)
            subst er
            exact W.lret (v := fn_X3_signed v0 (fn_X3_endless v0) (0 : Int32)) hx hb hr (fun t ht _ => ⟨_, rfl, by unfold fn_X3_turnedInto; rw [if_neg c_1, if_neg c_2, if_neg c_3, if_pos c_4, if_pos c_6], ht⟩) (fun _ h => by cases h) dX3_turnedInto_108
          · refine lv_iconst (v := (1 : Int32)) hx hb dX3_turnedInto_100 (by decide) ?_
            refine lv_goto (tgt := 105) hx hb dX3_turnedInto_101 (by decide) ?_
            refine vp_callSl (W.runS (As := [.int v0, .long (fn_X3_endless v0), .int (1 : Int32)]) (rest := []) ⟨hx, hb, hml, hown, hts⟩ (ct_X3_signed l v0 (fn_X3_endless v0) (1 : Int32)) (va_cwS 3 hts gX3_turnedInto_X3_signed rfl rfl rfl (by decide +kernel) ⟨Nat.le_of_ble_eq_true rfl, Nat.le_of_ble_eq_true rfl⟩) ⟨(fun a U g mk q => ⟨q.1, trivial⟩), fun U hU hW9 => ⟨rfl, trivial⟩⟩ rfl rfl hl.1 rfl (lv_room (Nat.le_of_ble_eq_true rfl)) dX3_turnedInto_105 ⟨Nat.zero_le _, Nat.zero_le _⟩) (fun r er => ?_)
            subst er
            exact W.lret (v := fn_X3_signed v0 (fn_X3_endless v0) (1 : Int32)) hx hb hr (fun t ht _ => ⟨_, rfl, by unfold fn_X3_turnedInto; rw [if_neg c_1, if_neg c_2, if_neg c_3, if_pos c_4, if_neg c_6], ht⟩) (fun _ h => by cases h) dX3_turnedInto_108
      · refine lv_iload_n hx hb dX3_turnedInto_65 rfl (lv_at hl 0 rfl) ?_
        refine lv_iload_n hx hb dX3_turnedInto_66 rfl (lv_at hl 1 rfl) ?_
        refine lv_lload_n hx hb dX3_turnedInto_67 rfl (lv_at hl 2 rfl) ?_
        refine vp_callSl (W.runS (As := [.int v0, .int v1, .long v2]) (rest := []) ⟨hx, hb, hml, hown, hts⟩ (ct_X3_cut l v0 v1 v2) (va_cwS 3 hts gX3_turnedInto_X3_cut rfl rfl rfl (by decide +kernel) ⟨Nat.le_of_ble_eq_true rfl, Nat.le_of_ble_eq_true rfl⟩) ⟨(fun a U g mk q => ⟨q.1, trivial⟩), fun U hU hW9 => ⟨rfl, trivial⟩⟩ rfl rfl hl.1 rfl (lv_room (Nat.le_of_ble_eq_true rfl)) dX3_turnedInto_68 ⟨Nat.zero_le _, Nat.zero_le _⟩) (fun r er => ?_)
        subst er
        exact W.lret (v := fn_X3_cut v0 v1 v2) hx hb hr (fun t ht _ => ⟨_, rfl, by unfold fn_X3_turnedInto; rw [if_neg c_1, if_neg c_2, if_pos c_3], ht⟩) (fun _ h => by cases h) dX3_turnedInto_71
    · refine lv_iload_n hx hb dX3_turnedInto_14 rfl (lv_at hl 0 rfl) ?_
      refine lv_iconst (v := (1 : Int32)) hx hb dX3_turnedInto_15 (by decide) ?_
      refine lv_icmp_ne (tgt := 21) hx hb dX3_turnedInto_16 (by decide) (fun c_7 => ?_) (fun c_7 => ?_)
      · refine lv_iload_n hx hb dX3_turnedInto_21 rfl (lv_at hl 0 rfl) ?_
        refine lv_if_ne (tgt := 29) hx hb dX3_turnedInto_22 (by decide) (fun c_8 => ?_) (fun c_8 => ?_)
        · refine lv_iload_n hx hb dX3_turnedInto_29 rfl (lv_at hl 0 rfl) ?_
          refine lv_lload_n hx hb dX3_turnedInto_30 rfl (lv_at hl 2 rfl) ?_
          refine lv_lconst (v := (0 : Int64)) hx hb dX3_turnedInto_31 (by decide) ?_
          refine zl_ge (tgt := 40) hx hb dX3_turnedInto_32 dX3_turnedInto_33 (by decide) (fun c_9 => ?_) (fun c_9 => ?_)
          · refine lv_iconst (v := (0 : Int32)) hx hb dX3_turnedInto_40 (by decide) ?_
            refine lv_lload_n hx hb dX3_turnedInto_41 rfl (lv_at hl 2 rfl) ?_
            refine lv_lconst (v := (0 : Int64)) hx hb dX3_turnedInto_42 (by decide) ?_
            refine zl_ge (tgt := 52) hx hb dX3_turnedInto_43 dX3_turnedInto_44 (by decide) (fun c_10 => ?_) (fun c_10 => ?_)
            · refine lv_lload_n hx hb dX3_turnedInto_52 rfl (lv_at hl 2 rfl) ?_
              refine lv_iconst (v := (0 : Int32)) hx hb dX3_turnedInto_53 (by decide) ?_
              refine vp_callSl (W.runS (As := [.int v0, .int (0 : Int32), .long v2, .int (0 : Int32)]) (rest := []) ⟨hx, hb, hml, hown, hts⟩ (ct_X3_nearest l v0 (0 : Int32) v2 (0 : Int32)) (va_cwS 4 hts gX3_turnedInto_X3_nearest rfl rfl rfl (by decide +kernel) ⟨Nat.le_of_ble_eq_true rfl, Nat.le_of_ble_eq_true rfl⟩) ⟨(fun a U g mk q => ⟨q.1, trivial⟩), fun U hU hW9 => ⟨rfl, trivial⟩⟩ rfl rfl hl.1 rfl (lv_room (Nat.le_of_ble_eq_true rfl)) dX3_turnedInto_54 ⟨Nat.zero_le _, Nat.zero_le _⟩) (fun r er => ?_)
              subst er
              exact W.lret (v := fn_X3_nearest v0 (0 : Int32) v2 (0 : Int32)) hx hb hr (fun t ht _ => ⟨_, rfl, by unfold fn_X3_turnedInto; rw [if_neg c_1, if_pos c_2, if_neg c_7, if_neg c_8, if_pos c_9], ht⟩) (fun _ h => by cases h) dX3_turnedInto_57
            · exact absurd c_9 c_10
          · refine lv_iconst (v := (1 : Int32)) hx hb dX3_turnedInto_36 (by decide) ?_
            refine lv_goto (tgt := 41) hx hb dX3_turnedInto_37 (by decide) ?_
            refine lv_lload_n hx hb dX3_turnedInto_41 rfl (lv_at hl 2 rfl) ?_
            refine lv_lconst (v := (0 : Int64)) hx hb dX3_turnedInto_42 (by decide) ?_
            refine zl_ge (tgt := 52) hx hb dX3_turnedInto_43 dX3_turnedInto_44 (by decide) (fun c_11 => ?_) (fun c_11 => ?_)
            · exact absurd c_11 c_9
            · refine lv_lload_n hx hb dX3_turnedInto_47 rfl (lv_at hl 2 rfl) ?_
              refine lv_lneg hx hb dX3_turnedInto_48 ?_
              refine lv_goto (tgt := 53) hx hb dX3_turnedInto_49 (by decide) ?_
              refine lv_iconst (v := (0 : Int32)) hx hb dX3_turnedInto_53 (by decide) ?_
              refine vp_callSl (W.runS (As := [.int v0, .int (1 : Int32), .long (-v2), .int (0 : Int32)]) (rest := []) ⟨hx, hb, hml, hown, hts⟩ (ct_X3_nearest l v0 (1 : Int32) (-v2) (0 : Int32)) (va_cwS 4 hts gX3_turnedInto_X3_nearest rfl rfl rfl (by decide +kernel) ⟨Nat.le_of_ble_eq_true rfl, Nat.le_of_ble_eq_true rfl⟩) ⟨(fun a U g mk q => ⟨q.1, trivial⟩), fun U hU hW9 => ⟨rfl, trivial⟩⟩ rfl rfl hl.1 rfl (lv_room (Nat.le_of_ble_eq_true rfl)) dX3_turnedInto_54 ⟨Nat.zero_le _, Nat.zero_le _⟩) (fun r er => ?_)
              subst er
              exact W.lret (v := fn_X3_nearest v0 (1 : Int32) (-v2) (0 : Int32)) hx hb hr (fun t ht _ => ⟨_, rfl, by unfold fn_X3_turnedInto; rw [if_neg c_1, if_pos c_2, if_neg c_7, if_neg c_8, if_neg c_9], ht⟩) (fun _ h => by cases h) dX3_turnedInto_57
        · refine lv_lload_n hx hb dX3_turnedInto_25 rfl (lv_at hl 2 rfl) ?_
          refine lv_l2i hx hb dX3_turnedInto_26 rfl ?_
          refine lv_i2l hx hb dX3_turnedInto_27 rfl ?_
          exact W.lret (v := Int32.toInt64 (Int64.toInt32 v2)) hx hb hr (fun t ht _ => ⟨_, rfl, by unfold fn_X3_turnedInto; rw [if_neg c_1, if_pos c_2, if_neg c_7, if_pos c_8], ht⟩) (fun _ h => by cases h) dX3_turnedInto_28
      · refine lv_lload_n hx hb dX3_turnedInto_19 rfl (lv_at hl 2 rfl) ?_
        exact W.lret (v := v2) hx hb hr (fun t ht _ => ⟨_, rfl, by unfold fn_X3_turnedInto; rw [if_neg c_1, if_pos c_2, if_pos c_7], ht⟩) (fun _ h => by cases h) dX3_turnedInto_20
  · refine lv_lload_n hx hb dX3_turnedInto_5 rfl (lv_at hl 2 rfl) ?_
    exact W.lret (v := v2) hx hb hr (fun t ht _ => ⟨_, rfl, by unfold fn_X3_turnedInto; rw [if_pos c_1], ht⟩) (fun _ h => by cases h) dX3_turnedInto_6
