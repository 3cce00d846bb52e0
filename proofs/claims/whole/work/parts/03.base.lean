/-! The kinds' constants, the words for the four constant objects, and short rows over the kit's. -/
def kU (k : Nat) : Int32 := match k with
  | 0 => 32
  | 1 => 0
  | 2 => 32
  | _ => 0
def kF (k : Nat) : Int32 := match k with
  | 0 => 0
  | 1 => 0
  | 2 => 1
  | _ => 1
def kR (k : Nat) : Int32 := match k with
  | 0 => 0
  | 1 => 0
  | 2 => 23
  | _ => 52
def kB (k : Nat) : Int32 := match k with
  | 0 => 0
  | 1 => 0
  | 2 => 127
  | _ => 1023
def kS (k : Nat) : Int64 := match k with
  | 0 => -2147483648
  | 1 => -9223372036854775808
  | 2 => -2147483648
  | _ => -9223372036854775808
/-- the four constant objects stand at ad 0 .. ad 3, hold their numbers, and are never written; the static LONG holds ad 1 -/
def kw (ad : Nat → Nat) (A : Nat → Prop) (U : State) (H : Heap) : Prop :=
  (∀ i : Nat, i < 4 → va_O "ServoDesk$Kind" (ad i) A U H) ∧ va_Ef 4 "ServoDesk$Kind" "unused" "I" (fun i => .int (kU i)) ad A U H ∧ va_Ef 4 "ServoDesk$Kind" "floating" "Z" (fun i => .int (kF i)) ad A U H ∧ va_Ef 4 "ServoDesk$Kind" "fraction" "I" (fun i => .int (kR i)) ad A U H ∧ va_Ef 4 "ServoDesk$Kind" "bias" "I" (fun i => .int (kB i)) ad A U H ∧ va_Ef 4 "ServoDesk$Kind" "sign" "J" (fun i => .long (kS i)) ad A U H ∧ (∀ i j : Nat, i < 4 → j < 4 → ad i = ad j → i = j) ∧ va_Z "ServoDesk$Kind" "LONG" "LServoDesk$Kind;" (.ref (ad 1)) A U H
theorem hk_1 : 1 < 4 := by decide
theorem kw_moved {ad : Nat → Nat} {A : Nat → Prop} {u U : State} {H : Heap} (hvm : u.vm.Alike U.vm) (h : kw ad A u H) : kw ad A U H :=
  ⟨fun i hi => va_O.moved hvm (h.1 i hi), va_Ef.moved hvm h.2.1, va_Ef.moved hvm h.2.2.1, va_Ef.moved hvm h.2.2.2.1, va_Ef.moved hvm h.2.2.2.2.1, va_Ef.moved hvm h.2.2.2.2.2.1, h.2.2.2.2.2.2.1, va_Z.moved hvm h.2.2.2.2.2.2.2⟩
theorem kw_kept {ad : Nat → Nat} {A : Nat → Prop} {U : State} {H H1 : Heap} (h : kw ad A U H) (hq : ∀ a : Nat, a < H.size → ¬ A a → H1[a]? = H[a]?) : kw ad A U H1 :=
  ⟨fun i hi => (h.1 i hi).kept hq, h.2.1.kept hq, h.2.2.1.kept hq, h.2.2.2.1.kept hq, h.2.2.2.2.1.kept hq, h.2.2.2.2.2.1.kept hq, h.2.2.2.2.2.2.1, h.2.2.2.2.2.2.2.kept hq⟩
theorem kw_narrow {ad : Nat → Nat} {A B : Nat → Prop} {U : State} {H : Heap} (h : kw ad A U H) (hAB : ∀ q, B q → A q) : kw ad B U H :=
  ⟨fun i hi => (h.1 i hi).narrow hAB, h.2.1.narrow hAB, h.2.2.1.narrow hAB, h.2.2.2.1.narrow hAB, h.2.2.2.2.1.narrow hAB, h.2.2.2.2.2.1.narrow hAB, h.2.2.2.2.2.2.1, h.2.2.2.2.2.2.2.narrow hAB⟩
/-- for a call: the constants as the callee takes them -/
theorem kw_call {ad : Nat → Nat} {A : Nat → Prop} {s U : State} {H : Heap} {locs : List Loc} (h : kw ad A s s.heap) (hS : va_S A s.heap H locs) (hU : U.heap = H) (hW : s.WarmedH U.vm) : kw ad (fun _ => False) U U.heap := by
  rw [hU]
  exact kw_moved hW.alike (kw_narrow (kw_kept h hS.2.1) (fun _ q => q.elim))
theorem kw_blind {ad : Nat → Nat} {A : Nat → Prop} {U : State} {g : JFrame} {mk : MethodId} {a : Array Value} (h : kw ad A U U.heap) : kw ad A (U.calling g mk a) (U.calling g mk a).heap := kw_moved (u := U) (U := U.calling g mk a) (Vm.Alike.refl U.vm) h
theorem kw_recv {ad : Nat → Nat} {A : Nat → Prop} {s : State} {H : Heap} {locs : List Loc} {k : Nat} (h : kw ad A s s.heap) (hS : va_S A s.heap H locs) (hk : k < 4) : ∃ cell : Cell, H[ad k]? = some cell ∧ cell.vm.isStatics = false ∧ s.vm.findClass "ServoDesk$Kind" = some cell.cls := by
  obtain ⟨cell, h1, h2, h3, -⟩ := (h.1 k hk).kept hS.2.1
  exact ⟨cell, h1, h2, h3⟩
theorem zc_lt (x y : Int64) : lg_cmp x y < 0 ↔ x < y := by
  unfold lg_cmp
  simp only [Int64.lt_iff_toInt_lt, ← Int64.toInt_inj]
  split
  · constructor
    · intro h; exact absurd h (by decide)
    · intro h; omega
  · split
    · constructor
      · intro h; exact absurd h (by decide)
      · intro h; omega
    · constructor
      · intro h; omega
      · intro h; decide
theorem zc_gt (x y : Int64) : 0 < lg_cmp x y ↔ y < x := by
  unfold lg_cmp
  simp only [Int64.lt_iff_toInt_lt, ← Int64.toInt_inj]
  split
  · constructor
    · intro h; assumption
    · intro h; decide
  · split
    · constructor
      · intro h; exact absurd h (by decide)
      · intro h; omega
    · constructor
      · intro h; exact absurd h (by decide)
      · intro h; omega
theorem zc_ge (x y : Int64) : 0 ≤ lg_cmp x y ↔ y ≤ x := by
  unfold lg_cmp
  simp only [Int64.lt_iff_toInt_lt, Int64.le_iff_toInt_le, ← Int64.toInt_inj]
  split
  · constructor
    · intro h; omega
    · intro h; decide
  · split
    · constructor
      · intro h; omega
      · intro h; decide
    · constructor
      · intro h; exact absurd h (by decide)
      · intro h; omega
theorem zc_le (x y : Int64) : lg_cmp x y ≤ 0 ↔ x ≤ y := by
  unfold lg_cmp
  simp only [Int64.lt_iff_toInt_lt, Int64.le_iff_toInt_le, ← Int64.toInt_inj]
  split
  · constructor
    · intro h; exact absurd h (by decide)
    · intro h; omega
  · split
    · constructor
      · intro h; omega
      · intro h; decide
    · constructor
      · intro h; omega
      · intro h; decide
theorem zc_eq (x y : Int64) : lg_cmp x y = 0 ↔ x = y := by
  unfold lg_cmp
  simp only [Int64.lt_iff_toInt_lt]
  split
  · constructor
    · intro h; exact absurd h (by decide)
    · intro h; subst h; omega
  · split
    · constructor
      · intro h; assumption
      · intro h; rfl
    · constructor
      · intro h; exact absurd h (by decide)
      · intro h; contradiction
section ZL
variable {p : Program} {l : Launch} {e : Env} {R : Room} {s : State} {m : MethodId} {args : Array Value} {below : List Frame} {meth : Method} {c : Code} {H : Heap} {locs : List Loc} {cells slots : Nat} {Q : State → Prop}
variable {cc : ByteArray} {pc : Nat} {ls : Array Slot} {rest : List Value}
theorem zl_lt (hx : p.tables.exec = Jvm.exec) (hb : c.code = cc) {x y : Int64} {off : Int} {tgt : Nat} (h1 : decode cc pc = .ok (.lcmp, 1)) (h2 : decode cc (pc + 1) = .ok (.ifCond .lt off, 3)) (ht : ((pc + 1 : Nat) : Int) + off = (tgt : Int)) (kt : x < y → W p l e R s m args below meth c H locs cells slots Q (F0 m tgt ls rest)) (kf : ¬ x < y → W p l e R s m args below meth c H locs cells slots Q (F0 m (pc + 1 + 3) ls rest)) : W p l e R s m args below meth c H locs cells slots Q (F0 m pc ls (.long y :: .long x :: rest)) := W.lcmp hx hb h1 (lv_if_lt hx hb h2 ht (fun h => kt ((zc_lt x y).mp h)) (fun h => kf (fun q => h ((zc_lt x y).mpr q))))
theorem zl_gt (hx : p.tables.exec = Jvm.exec) (hb : c.code = cc) {x y : Int64} {off : Int} {tgt : Nat} (h1 : decode cc pc = .ok (.lcmp, 1)) (h2 : decode cc (pc + 1) = .ok (.ifCond .gt off, 3)) (ht : ((pc + 1 : Nat) : Int) + off = (tgt : Int)) (kt : y < x → W p l e R s m args below meth c H locs cells slots Q (F0 m tgt ls rest)) (kf : ¬ y < x → W p l e R s m args below meth c H locs cells slots Q (F0 m (pc + 1 + 3) ls rest)) : W p l e R s m args below meth c H locs cells slots Q (F0 m pc ls (.long y :: .long x :: rest)) := W.lcmp hx hb h1 (lv_if_gt hx hb h2 ht (fun h => kt ((zc_gt x y).mp h)) (fun h => kf (fun q => h ((zc_gt x y).mpr q))))
theorem zl_ge (hx : p.tables.exec = Jvm.exec) (hb : c.code = cc) {x y : Int64} {off : Int} {tgt : Nat} (h1 : decode cc pc = .ok (.lcmp, 1)) (h2 : decode cc (pc + 1) = .ok (.ifCond .ge off, 3)) (ht : ((pc + 1 : Nat) : Int) + off = (tgt : Int)) (kt : y ≤ x → W p l e R s m args below meth c H locs cells slots Q (F0 m tgt ls rest)) (kf : ¬ y ≤ x → W p l e R s m args below meth c H locs cells slots Q (F0 m (pc + 1 + 3) ls rest)) : W p l e R s m args below meth c H locs cells slots Q (F0 m pc ls (.long y :: .long x :: rest)) := W.lcmp hx hb h1 (lv_if_ge hx hb h2 ht (fun h => kt ((zc_ge x y).mp h)) (fun h => kf (fun q => h ((zc_ge x y).mpr q))))
theorem zl_le (hx : p.tables.exec = Jvm.exec) (hb : c.code = cc) {x y : Int64} {off : Int} {tgt : Nat} (h1 : decode cc pc = .ok (.lcmp, 1)) (h2 : decode cc (pc + 1) = .ok (.ifCond .le off, 3)) (ht : ((pc + 1 : Nat) : Int) + off = (tgt : Int)) (kt : x ≤ y → W p l e R s m args below meth c H locs cells slots Q (F0 m tgt ls rest)) (kf : ¬ x ≤ y → W p l e R s m args below meth c H locs cells slots Q (F0 m (pc + 1 + 3) ls rest)) : W p l e R s m args below meth c H locs cells slots Q (F0 m pc ls (.long y :: .long x :: rest)) := W.lcmp hx hb h1 (lv_if_le hx hb h2 ht (fun h => kt ((zc_le x y).mp h)) (fun h => kf (fun q => h ((zc_le x y).mpr q))))
theorem zl_eq (hx : p.tables.exec = Jvm.exec) (hb : c.code = cc) {x y : Int64} {off : Int} {tgt : Nat} (h1 : decode cc pc = .ok (.lcmp, 1)) (h2 : decode cc (pc + 1) = .ok (.ifCond .eq off, 3)) (ht : ((pc + 1 : Nat) : Int) + off = (tgt : Int)) (kt : x = y → W p l e R s m args below meth c H locs cells slots Q (F0 m tgt ls rest)) (kf : ¬ x = y → W p l e R s m args below meth c H locs cells slots Q (F0 m (pc + 1 + 3) ls rest)) : W p l e R s m args below meth c H locs cells slots Q (F0 m pc ls (.long y :: .long x :: rest)) := W.lcmp hx hb h1 (lv_if_eq hx hb h2 ht (fun h => kt ((zc_eq x y).mp h)) (fun h => kf (fun q => h ((zc_eq x y).mpr q))))
theorem zl_ne (hx : p.tables.exec = Jvm.exec) (hb : c.code = cc) {x y : Int64} {off : Int} {tgt : Nat} (h1 : decode cc pc = .ok (.lcmp, 1)) (h2 : decode cc (pc + 1) = .ok (.ifCond .ne off, 3)) (ht : ((pc + 1 : Nat) : Int) + off = (tgt : Int)) (kt : ¬ x = y → W p l e R s m args below meth c H locs cells slots Q (F0 m tgt ls rest)) (kf : x = y → W p l e R s m args below meth c H locs cells slots Q (F0 m (pc + 1 + 3) ls rest)) : W p l e R s m args below meth c H locs cells slots Q (F0 m pc ls (.long y :: .long x :: rest)) := W.lcmp hx hb h1 (lv_if_ne hx hb h2 ht (fun h => kt (fun q => h ((zc_eq x y).mpr q))) (fun h => kf ((zc_eq x y).mp h)))
variable {ad : Nat → Nat} {A : Nat → Prop} {k : Nat} {own : String} {index : Nat}
theorem kg_unused (hx : p.tables.exec = Jvm.exec) (hb : c.code = cc) (hW : kw ad A s s.heap) (hk : k < 4) (hS : va_S A s.heap H locs) (hown : s.vm.findClass own = some m.cls) (hlink : (Cond.fieldLink own index "ServoDesk$Kind" "unused" "I").before args s = true) (hdg : decode cc pc = .ok (.getfield index, 3)) (kk : W p l e R s m args below meth c H locs cells slots Q (F0 m (pc + 3) ls (.int (kU k) :: rest))) : W p l e R s m args below meth c H locs cells slots Q (F0 m pc ls (.ref (ad k) :: rest)) := va_getX hx hb hW.2.1 hk hS hown hlink (fun _ h => h) hdg kk
theorem kg_floating (hx : p.tables.exec = Jvm.exec) (hb : c.code = cc) (hW : kw ad A s s.heap) (hk : k < 4) (hS : va_S A s.heap H locs) (hown : s.vm.findClass own = some m.cls) (hlink : (Cond.fieldLink own index "ServoDesk$Kind" "floating" "Z").before args s = true) (hdg : decode cc pc = .ok (.getfield index, 3)) (kk : W p l e R s m args below meth c H locs cells slots Q (F0 m (pc + 3) ls (.int (kF k) :: rest))) : W p l e R s m args below meth c H locs cells slots Q (F0 m pc ls (.ref (ad k) :: rest)) := va_getX hx hb hW.2.2.1 hk hS hown hlink (fun _ h => h) hdg kk
theorem kg_fraction (hx : p.tables.exec = Jvm.exec) (hb : c.code = cc) (hW : kw ad A s s.heap) (hk : k < 4) (hS : va_S A s.heap H locs) (hown : s.vm.findClass own = some m.cls) (hlink : (Cond.fieldLink own index "ServoDesk$Kind" "fraction" "I").before args s = true) (hdg : decode cc pc = .ok (.getfield index, 3)) (kk : W p l e R s m args below meth c H locs cells slots Q (F0 m (pc + 3) ls (.int (kR k) :: rest))) : W p l e R s m args below meth c H locs cells slots Q (F0 m pc ls (.ref (ad k) :: rest)) := va_getX hx hb hW.2.2.2.1 hk hS hown hlink (fun _ h => h) hdg kk
theorem kg_bias (hx : p.tables.exec = Jvm.exec) (hb : c.code = cc) (hW : kw ad A s s.heap) (hk : k < 4) (hS : va_S A s.heap H locs) (hown : s.vm.findClass own = some m.cls) (hlink : (Cond.fieldLink own index "ServoDesk$Kind" "bias" "I").before args s = true) (hdg : decode cc pc = .ok (.getfield index, 3)) (kk : W p l e R s m args below meth c H locs cells slots Q (F0 m (pc + 3) ls (.int (kB k) :: rest))) : W p l e R s m args below meth c H locs cells slots Q (F0 m pc ls (.ref (ad k) :: rest)) := va_getX hx hb hW.2.2.2.2.1 hk hS hown hlink (fun _ h => h) hdg kk
theorem kg_sign (hx : p.tables.exec = Jvm.exec) (hb : c.code = cc) (hW : kw ad A s s.heap) (hk : k < 4) (hS : va_S A s.heap H locs) (hown : s.vm.findClass own = some m.cls) (hlink : (Cond.fieldLink own index "ServoDesk$Kind" "sign" "J").before args s = true) (hdg : decode cc pc = .ok (.getfield index, 3)) (kk : W p l e R s m args below meth c H locs cells slots Q (F0 m (pc + 3) ls (.long (kS k) :: rest))) : W p l e R s m args below meth c H locs cells slots Q (F0 m pc ls (.ref (ad k) :: rest)) := va_getX hx hb hW.2.2.2.2.2.1 hk hS hown hlink (fun _ h => h) hdg kk
theorem kg_LONG (hx : p.tables.exec = Jvm.exec) (hb : c.code = cc) (hW : kw ad A s s.heap) (hS : va_S A s.heap H locs) (hown : s.vm.findClass own = some m.cls) (hlink : (Cond.fieldLink own index "ServoDesk$Kind" "LONG" "LServoDesk$Kind;").before args s = true) (hdg : decode cc pc = .ok (.getstatic index, 3)) (kk : W p l e R s m args below meth c H locs cells slots Q (F0 m (pc + 3) ls (.ref (ad 1) :: rest))) : W p l e R s m args below meth c H locs cells slots Q (F0 m pc ls rest) := va_gets hx hb hW.2.2.2.2.2.2.2 hS hown hlink (fun _ h => h) hdg kk
end ZL
