section
-- ===== PART A: goes FIRST, ahead of the names: the tables' words, and 'selects' of the private methods out of them =====
/-- a private method of a class that the tables say can be made, by its rows of tables_1 -/
def lw_okq (q : MethodName × Nat) : Prop := (q.1.cls ≠ "java/lang/invoke/MethodHandle" ∧ q.1.cls ≠ "java/lang/invoke/VarHandle") ∧ Cond.instantiable q.1.cls q.2 ∈ tables_1 ∧ Cond.privateMethod q.1 ∈ tables_1 ∧ Cond.instanceMethod q.1 ∈ tables_1
theorem lw_p0 : lw_okq (⟨"ServoDesk$Kind", "least", "()J"⟩, 8) := ⟨⟨by decide +kernel, by decide +kernel⟩, List.mem_of_getElem? (i := 40) (by decide +kernel), List.mem_of_getElem? (i := 38) (by decide +kernel), List.mem_of_getElem? (i := 39) (by decide +kernel)⟩
theorem lw_p1 : lw_okq (⟨"ServoDesk$Kind", "infinity", "()J"⟩, 8) := ⟨⟨by decide +kernel, by decide +kernel⟩, List.mem_of_getElem? (i := 40) (by decide +kernel), List.mem_of_getElem? (i := 43) (by decide +kernel), List.mem_of_getElem? (i := 44) (by decide +kernel)⟩
theorem lw_p2 : lw_okq (⟨"ServoDesk$Kind", "greatest", "()J"⟩, 8) := ⟨⟨by decide +kernel, by decide +kernel⟩, List.mem_of_getElem? (i := 40) (by decide +kernel), List.mem_of_getElem? (i := 48) (by decide +kernel), List.mem_of_getElem? (i := 49) (by decide +kernel)⟩
theorem lw_p3 : lw_okq (⟨"ServoDesk", "find", "(I)LServoDesk$Axis;"⟩, 2) := ⟨⟨by decide +kernel, by decide +kernel⟩, List.mem_of_getElem? (i := 10) (by decide +kernel), List.mem_of_getElem? (i := 78) (by decide +kernel), List.mem_of_getElem? (i := 79) (by decide +kernel)⟩
theorem lw_p4 : lw_okq (⟨"ServoDesk$Axis", "put", "(IJ)Z"⟩, 6) := ⟨⟨by decide +kernel, by decide +kernel⟩, List.mem_of_getElem? (i := 32) (by decide +kernel), List.mem_of_getElem? (i := 82) (by decide +kernel), List.mem_of_getElem? (i := 83) (by decide +kernel)⟩
theorem lw_p5 : lw_okq (⟨"ServoDesk$Kind", "fitted", "(J)J"⟩, 8) := ⟨⟨by decide +kernel, by decide +kernel⟩, List.mem_of_getElem? (i := 40) (by decide +kernel), List.mem_of_getElem? (i := 86) (by decide +kernel), List.mem_of_getElem? (i := 87) (by decide +kernel)⟩
theorem lw_p6 : lw_okq (⟨"ServoDesk$Kind", "isNumber", "(J)Z"⟩, 8) := ⟨⟨by decide +kernel, by decide +kernel⟩, List.mem_of_getElem? (i := 40) (by decide +kernel), List.mem_of_getElem? (i := 90) (by decide +kernel), List.mem_of_getElem? (i := 91) (by decide +kernel)⟩
theorem lw_p7 : lw_okq (⟨"ServoDesk$Kind", "sized", "(J)J"⟩, 8) := ⟨⟨by decide +kernel, by decide +kernel⟩, List.mem_of_getElem? (i := 40) (by decide +kernel), List.mem_of_getElem? (i := 94) (by decide +kernel), List.mem_of_getElem? (i := 95) (by decide +kernel)⟩
theorem lw_p8 : lw_okq (⟨"ServoDesk$Axis", "number", "(I)J"⟩, 6) := ⟨⟨by decide +kernel, by decide +kernel⟩, List.mem_of_getElem? (i := 32) (by decide +kernel), List.mem_of_getElem? (i := 106) (by decide +kernel), List.mem_of_getElem? (i := 107) (by decide +kernel)⟩
theorem lw_p9 : lw_okq (⟨"ServoDesk$Axis", "obey", "(I)V"⟩, 6) := ⟨⟨by decide +kernel, by decide +kernel⟩, List.mem_of_getElem? (i := 32) (by decide +kernel), List.mem_of_getElem? (i := 120) (by decide +kernel), List.mem_of_getElem? (i := 121) (by decide +kernel)⟩
theorem lw_p10 : lw_okq (⟨"ServoDesk$Kind", "lesser", "(JJ)J"⟩, 8) := ⟨⟨by decide +kernel, by decide +kernel⟩, List.mem_of_getElem? (i := 40) (by decide +kernel), List.mem_of_getElem? (i := 124) (by decide +kernel), List.mem_of_getElem? (i := 125) (by decide +kernel)⟩
theorem lw_p11 : lw_okq (⟨"ServoDesk$Kind", "compared", "(JJ)I"⟩, 8) := ⟨⟨by decide +kernel, by decide +kernel⟩, List.mem_of_getElem? (i := 40) (by decide +kernel), List.mem_of_getElem? (i := 128) (by decide +kernel), List.mem_of_getElem? (i := 129) (by decide +kernel)⟩
theorem lw_p12 : lw_okq (⟨"ServoDesk$Kind", "rank", "(J)J"⟩, 8) := ⟨⟨by decide +kernel, by decide +kernel⟩, List.mem_of_getElem? (i := 40) (by decide +kernel), List.mem_of_getElem? (i := 132) (by decide +kernel), List.mem_of_getElem? (i := 133) (by decide +kernel)⟩
theorem lw_p13 : lw_okq (⟨"ServoDesk$Kind", "greater", "(JJ)J"⟩, 8) := ⟨⟨by decide +kernel, by decide +kernel⟩, List.mem_of_getElem? (i := 40) (by decide +kernel), List.mem_of_getElem? (i := 139) (by decide +kernel), List.mem_of_getElem? (i := 140) (by decide +kernel)⟩
theorem lw_p14 : lw_okq (⟨"ServoDesk$Kind", "wholeBelow", "(J)J"⟩, 8) := ⟨⟨by decide +kernel, by decide +kernel⟩, List.mem_of_getElem? (i := 40) (by decide +kernel), List.mem_of_getElem? (i := 144) (by decide +kernel), List.mem_of_getElem? (i := 145) (by decide +kernel)⟩
theorem lw_p15 : lw_okq (⟨"ServoDesk$Kind", "outward", "(J)J"⟩, 8) := ⟨⟨by decide +kernel, by decide +kernel⟩, List.mem_of_getElem? (i := 40) (by decide +kernel), List.mem_of_getElem? (i := 148) (by decide +kernel), List.mem_of_getElem? (i := 149) (by decide +kernel)⟩
def lw_privs_1 : List (MethodName × Nat) := [(⟨"ServoDesk$Kind", "least", "()J"⟩, 8), (⟨"ServoDesk$Kind", "infinity", "()J"⟩, 8), (⟨"ServoDesk$Kind", "greatest", "()J"⟩, 8), (⟨"ServoDesk", "find", "(I)LServoDesk$Axis;"⟩, 2), (⟨"ServoDesk$Axis", "put", "(IJ)Z"⟩, 6), (⟨"ServoDesk$Kind", "fitted", "(J)J"⟩, 8), (⟨"ServoDesk$Kind", "isNumber", "(J)Z"⟩, 8), (⟨"ServoDesk$Kind", "sized", "(J)J"⟩, 8), (⟨"ServoDesk$Axis", "number", "(I)J"⟩, 6), (⟨"ServoDesk$Axis", "obey", "(I)V"⟩, 6), (⟨"ServoDesk$Kind", "lesser", "(JJ)J"⟩, 8), (⟨"ServoDesk$Kind", "compared", "(JJ)I"⟩, 8), (⟨"ServoDesk$Kind", "rank", "(J)J"⟩, 8), (⟨"ServoDesk$Kind", "greater", "(JJ)J"⟩, 8), (⟨"ServoDesk$Kind", "wholeBelow", "(J)J"⟩, 8), (⟨"ServoDesk$Kind", "outward", "(J)J"⟩, 8)]
theorem lw_r1 : ∀ q ∈ lw_privs_1, lw_okq q := List.forall_mem_cons.mpr ⟨lw_p0, List.forall_mem_cons.mpr ⟨lw_p1, List.forall_mem_cons.mpr ⟨lw_p2, List.forall_mem_cons.mpr ⟨lw_p3, List.forall_mem_cons.mpr ⟨lw_p4, List.forall_mem_cons.mpr ⟨lw_p5, List.forall_mem_cons.mpr ⟨lw_p6, List.forall_mem_cons.mpr ⟨lw_p7, List.forall_mem_cons.mpr ⟨lw_p8, List.forall_mem_cons.mpr ⟨lw_p9, List.forall_mem_cons.mpr ⟨lw_p10, List.forall_mem_cons.mpr ⟨lw_p11, List.forall_mem_cons.mpr ⟨lw_p12, List.forall_mem_cons.mpr ⟨lw_p13, List.forall_mem_cons.mpr ⟨lw_p14, List.forall_mem_cons.mpr ⟨lw_p15, fun _ h => absurd h List.not_mem_nil⟩⟩⟩⟩⟩⟩⟩⟩⟩⟩⟩⟩⟩⟩⟩⟩
theorem lw_p16 : lw_okq (⟨"ServoDesk$Kind", "one", "()J"⟩, 8) := ⟨⟨by decide +kernel, by decide +kernel⟩, List.mem_of_getElem? (i := 40) (by decide +kernel), List.mem_of_getElem? (i := 152) (by decide +kernel), List.mem_of_getElem? (i := 153) (by decide +kernel)⟩
theorem lw_p17 : lw_okq (⟨"ServoDesk$Kind", "bitsBelowUnit", "(J)I"⟩, 8) := ⟨⟨by decide +kernel, by decide +kernel⟩, List.mem_of_getElem? (i := 40) (by decide +kernel), List.mem_of_getElem? (i := 156) (by decide +kernel), List.mem_of_getElem? (i := 157) (by decide +kernel)⟩
theorem lw_p18 : lw_okq (⟨"ServoDesk$Kind", "inward", "(J)J"⟩, 8) := ⟨⟨by decide +kernel, by decide +kernel⟩, List.mem_of_getElem? (i := 40) (by decide +kernel), List.mem_of_getElem? (i := 163) (by decide +kernel), List.mem_of_getElem? (i := 164) (by decide +kernel)⟩
theorem lw_p19 : lw_okq (⟨"ServoDesk$Kind", "turned", "(JJ)J"⟩, 8) := ⟨⟨by decide +kernel, by decide +kernel⟩, List.mem_of_getElem? (i := 40) (by decide +kernel), List.mem_of_getElem? (i := 167) (by decide +kernel), List.mem_of_getElem? (i := 168) (by decide +kernel)⟩
theorem lw_p20 : lw_okq (⟨"ServoDesk$Kind", "wholeAbove", "(J)J"⟩, 8) := ⟨⟨by decide +kernel, by decide +kernel⟩, List.mem_of_getElem? (i := 40) (by decide +kernel), List.mem_of_getElem? (i := 171) (by decide +kernel), List.mem_of_getElem? (i := 172) (by decide +kernel)⟩
theorem lw_p21 : lw_okq (⟨"ServoDesk$Kind", "wholeNearest", "(J)J"⟩, 8) := ⟨⟨by decide +kernel, by decide +kernel⟩, List.mem_of_getElem? (i := 40) (by decide +kernel), List.mem_of_getElem? (i := 175) (by decide +kernel), List.mem_of_getElem? (i := 176) (by decide +kernel)⟩
theorem lw_p22 : lw_okq (⟨"ServoDesk$Kind", "nearest", "(J)J"⟩, 8) := ⟨⟨by decide +kernel, by decide +kernel⟩, List.mem_of_getElem? (i := 40) (by decide +kernel), List.mem_of_getElem? (i := 179) (by decide +kernel), List.mem_of_getElem? (i := 180) (by decide +kernel)⟩
theorem lw_p23 : lw_okq (⟨"ServoDesk$Axis", "look", "()V"⟩, 6) := ⟨⟨by decide +kernel, by decide +kernel⟩, List.mem_of_getElem? (i := 32) (by decide +kernel), List.mem_of_getElem? (i := 189) (by decide +kernel), List.mem_of_getElem? (i := 190) (by decide +kernel)⟩
theorem lw_p24 : lw_okq (⟨"ServoDesk$Axis", "widen", "()V"⟩, 6) := ⟨⟨by decide +kernel, by decide +kernel⟩, List.mem_of_getElem? (i := 32) (by decide +kernel), List.mem_of_getElem? (i := 195) (by decide +kernel), List.mem_of_getElem? (i := 196) (by decide +kernel)⟩
theorem lw_p25 : lw_okq (⟨"ServoDesk$Axis", "rest", "()V"⟩, 6) := ⟨⟨by decide +kernel, by decide +kernel⟩, List.mem_of_getElem? (i := 32) (by decide +kernel), List.mem_of_getElem? (i := 199) (by decide +kernel), List.mem_of_getElem? (i := 200) (by decide +kernel)⟩
theorem lw_p26 : lw_okq (⟨"ServoDesk$Kind", "zeroBeside", "(J)J"⟩, 8) := ⟨⟨by decide +kernel, by decide +kernel⟩, List.mem_of_getElem? (i := 40) (by decide +kernel), List.mem_of_getElem? (i := 203) (by decide +kernel), List.mem_of_getElem? (i := 204) (by decide +kernel)⟩
theorem lw_p27 : lw_okq (⟨"ServoDesk$Axis", "grid", "()V"⟩, 6) := ⟨⟨by decide +kernel, by decide +kernel⟩, List.mem_of_getElem? (i := 32) (by decide +kernel), List.mem_of_getElem? (i := 207) (by decide +kernel), List.mem_of_getElem? (i := 208) (by decide +kernel)⟩
theorem lw_p28 : lw_okq (⟨"ServoDesk$Axis", "swap", "()V"⟩, 6) := ⟨⟨by decide +kernel, by decide +kernel⟩, List.mem_of_getElem? (i := 32) (by decide +kernel), List.mem_of_getElem? (i := 211) (by decide +kernel), List.mem_of_getElem? (i := 212) (by decide +kernel)⟩
theorem lw_p29 : lw_okq (⟨"ServoDesk$Axis", "moveTo", "(LServoDesk$Axis;)V"⟩, 6) := ⟨⟨by decide +kernel, by decide +kernel⟩, List.mem_of_getElem? (i := 32) (by decide +kernel), List.mem_of_getElem? (i := 219) (by decide +kernel), List.mem_of_getElem? (i := 220) (by decide +kernel)⟩
theorem lw_p30 : lw_okq (⟨"ServoDesk$Kind", "made", "(LServoDesk$Kind;J)J"⟩, 8) := ⟨⟨by decide +kernel, by decide +kernel⟩, List.mem_of_getElem? (i := 40) (by decide +kernel), List.mem_of_getElem? (i := 223) (by decide +kernel), List.mem_of_getElem? (i := 224) (by decide +kernel)⟩
theorem lw_p31 : lw_okq (⟨"ServoDesk$Kind", "sizeOf", "(JI)J"⟩, 8) := ⟨⟨by decide +kernel, by decide +kernel⟩, List.mem_of_getElem? (i := 40) (by decide +kernel), List.mem_of_getElem? (i := 227) (by decide +kernel), List.mem_of_getElem? (i := 228) (by decide +kernel)⟩
def lw_privs_2 : List (MethodName × Nat) := [(⟨"ServoDesk$Kind", "one", "()J"⟩, 8), (⟨"ServoDesk$Kind", "bitsBelowUnit", "(J)I"⟩, 8), (⟨"ServoDesk$Kind", "inward", "(J)J"⟩, 8), (⟨"ServoDesk$Kind", "turned", "(JJ)J"⟩, 8), (⟨"ServoDesk$Kind", "wholeAbove", "(J)J"⟩, 8), (⟨"ServoDesk$Kind", "wholeNearest", "(J)J"⟩, 8), (⟨"ServoDesk$Kind", "nearest", "(J)J"⟩, 8), (⟨"ServoDesk$Axis", "look", "()V"⟩, 6), (⟨"ServoDesk$Axis", "widen", "()V"⟩, 6), (⟨"ServoDesk$Axis", "rest", "()V"⟩, 6), (⟨"ServoDesk$Kind", "zeroBeside", "(J)J"⟩, 8), (⟨"ServoDesk$Axis", "grid", "()V"⟩, 6), (⟨"ServoDesk$Axis", "swap", "()V"⟩, 6), (⟨"ServoDesk$Axis", "moveTo", "(LServoDesk$Axis;)V"⟩, 6), (⟨"ServoDesk$Kind", "made", "(LServoDesk$Kind;J)J"⟩, 8), (⟨"ServoDesk$Kind", "sizeOf", "(JI)J"⟩, 8)]
theorem lw_r2 : ∀ q ∈ lw_privs_2, lw_okq q := List.forall_mem_cons.mpr ⟨lw_p16, List.forall_mem_cons.mpr ⟨lw_p17, List.forall_mem_cons.mpr ⟨lw_p18, List.forall_mem_cons.mpr ⟨lw_p19, List.forall_mem_cons.mpr ⟨lw_p20, List.forall_mem_cons.mpr ⟨lw_p21, List.forall_mem_cons.mpr ⟨lw_p22, List.forall_mem_cons.mpr ⟨lw_p23, List.forall_mem_cons.mpr ⟨lw_p24, List.forall_mem_cons.mpr ⟨lw_p25, List.forall_mem_cons.mpr ⟨lw_p26, List.forall_mem_cons.mpr ⟨lw_p27, List.forall_mem_cons.mpr ⟨lw_p28, List.forall_mem_cons.mpr ⟨lw_p29, List.forall_mem_cons.mpr ⟨lw_p30, List.forall_mem_cons.mpr ⟨lw_p31, fun _ h => absurd h List.not_mem_nil⟩⟩⟩⟩⟩⟩⟩⟩⟩⟩⟩⟩⟩⟩⟩⟩
theorem lw_p32 : lw_okq (⟨"ServoDesk$Kind", "towardsZero", "(J)J"⟩, 8) := ⟨⟨by decide +kernel, by decide +kernel⟩, List.mem_of_getElem? (i := 40) (by decide +kernel), List.mem_of_getElem? (i := 240) (by decide +kernel), List.mem_of_getElem? (i := 241) (by decide +kernel)⟩
theorem lw_p33 : lw_okq (⟨"ServoDesk$Kind", "scale", "(J)I"⟩, 8) := ⟨⟨by decide +kernel, by decide +kernel⟩, List.mem_of_getElem? (i := 40) (by decide +kernel), List.mem_of_getElem? (i := 244) (by decide +kernel), List.mem_of_getElem? (i := 245) (by decide +kernel)⟩
theorem lw_p34 : lw_okq (⟨"ServoDesk$Kind", "significand", "(J)J"⟩, 8) := ⟨⟨by decide +kernel, by decide +kernel⟩, List.mem_of_getElem? (i := 40) (by decide +kernel), List.mem_of_getElem? (i := 250) (by decide +kernel), List.mem_of_getElem? (i := 251) (by decide +kernel)⟩
theorem lw_p35 : lw_okq (⟨"ServoDeskModel", "isAxis", "(I)Z"⟩, 3) := ⟨⟨by decide +kernel, by decide +kernel⟩, List.mem_of_getElem? (i := 265) (by decide +kernel), List.mem_of_getElem? (i := 304) (by decide +kernel), List.mem_of_getElem? (i := 305) (by decide +kernel)⟩
theorem lw_p36 : lw_okq (⟨"ServoDeskModel", "does", "(III)V"⟩, 3) := ⟨⟨by decide +kernel, by decide +kernel⟩, List.mem_of_getElem? (i := 265) (by decide +kernel), List.mem_of_getElem? (i := 322) (by decide +kernel), List.mem_of_getElem? (i := 323) (by decide +kernel)⟩
def lw_privs_3 : List (MethodName × Nat) := [(⟨"ServoDesk$Kind", "towardsZero", "(J)J"⟩, 8), (⟨"ServoDesk$Kind", "scale", "(J)I"⟩, 8), (⟨"ServoDesk$Kind", "significand", "(J)J"⟩, 8), (⟨"ServoDeskModel", "isAxis", "(I)Z"⟩, 3), (⟨"ServoDeskModel", "does", "(III)V"⟩, 3)]
theorem lw_r3 : ∀ q ∈ lw_privs_3, lw_okq q := List.forall_mem_cons.mpr ⟨lw_p32, List.forall_mem_cons.mpr ⟨lw_p33, List.forall_mem_cons.mpr ⟨lw_p34, List.forall_mem_cons.mpr ⟨lw_p35, List.forall_mem_cons.mpr ⟨lw_p36, fun _ h => absurd h List.not_mem_nil⟩⟩⟩⟩⟩
def lw_privs : List (MethodName × Nat) := lw_privs_1 ++ (lw_privs_2 ++ (lw_privs_3))
def lw_tbl : List Cond := k2_sels lw_privs ++ tables_1
theorem lw_privs_ok : ∀ q ∈ lw_privs, lw_okq q := by
  show ∀ q ∈ lw_privs_1 ++ (lw_privs_2 ++ (lw_privs_3)), lw_okq q
  exact List.forall_mem_append.mpr ⟨lw_r1, List.forall_mem_append.mpr ⟨lw_r2, lw_r3⟩⟩
end
section
/-! ===== BEGIN words of one list among another's, by their places ===== -/
theorem goodIn_r {big : List Cond} (ws : List Cond) (ps : List Nat) (hp : ws = ps.filterMap (fun i => big[i]?)) (h : ws.all goodWord = true) : GoodIn big ws := by
  intro w hw
  have h1 := List.all_eq_true.mp h w hw
  rw [hp] at hw
  obtain ⟨i, -, hi⟩ := List.mem_filterMap.mp hw
  have hm : w ∈ big := by first | exact List.mem_of_getElem? hi | exact List.getElem?_mem hi
  exact ⟨hm, good_of_word h1⟩
theorem goodIn_app {big a b : List Cond} (ha : GoodIn big a) (hb : GoodIn big b) : GoodIn big (a ++ b) := fun w h => (List.mem_append.mp h).elim (ha w) (hb w)
theorem goodIn_ca {big a b : List Cond} {c : Cond} (ha : GoodIn big (c :: a)) (hb : GoodIn big b) : GoodIn big (c :: (a ++ b)) := fun w h => (List.mem_cons.mp h).elim (fun e => ha w (List.mem_cons.mpr (Or.inl e))) (fun h => (List.mem_append.mp h).elim (fun h => ha w (List.mem_cons.mpr (Or.inr h))) (hb w))
theorem goodIn_sub {big ws : List Cond} (hm : ∀ w ∈ ws, w ∈ big) (h : ws.all goodWord = true) : GoodIn big ws := fun w hw => ⟨hm w hw, good_of_word (List.all_eq_true.mp h w hw)⟩
/-! ===== END ===== -/

/-! ===== BEGIN printed: names, fields, word lists, decode rows ===== -/
def RX0 : String := "ServoDesk$Axis"
def TX0 : u_T := fun k => match k with
  | 0 => ("ServoDesk$Axis", "kind", "LServoDesk$Kind;", true)
  | 1 => ("ServoDesk$Axis", "place", "J", false)
  | 2 => ("ServoDesk$Axis", "low", "J", false)
  | 3 => ("ServoDesk$Axis", "high", "J", false)
  | 4 => ("ServoDesk$Axis", "band", "J", false)
  | _ => ("ServoDesk$Axis", "way", "J", false)
def tyX0 : Nat → FieldType := fun k => match k with
  | 0 => .object "ServoDesk$Kind"
  | 1 => .long
  | 2 => .long
  | 3 => .long
  | 4 => .long
  | _ => .long
abbrev wsX00 : List Cond := u_ws RX0 TX0 6
theorem nmX0 : ∀ a, a < 6 → ∀ b, b < 6 → a ≠ b → (TX0 a).2.1 ≠ (TX0 b).2.1 := by decide +kernel
theorem tyX0_ok : ∀ k, k < 6 → parseFieldDescriptor (TX0 k).2.2.1 = some (tyX0 k) := by decide +kernel
abbrev cX0_init : ByteArray := prog_2_method_1_code
def yX0_init : MethodName := ⟨RX0, "<init>", "(LServoDesk$Kind;)V"⟩
abbrev cX0_put : ByteArray := prog_2_method_2_code
def yX0_put : MethodName := ⟨RX0, "put", "(IJ)Z"⟩
abbrev cX0_number : ByteArray := prog_2_method_3_code
def yX0_number : MethodName := ⟨RX0, "number", "(I)J"⟩
abbrev cX0_moveTo : ByteArray := prog_2_method_4_code
def yX0_moveTo : MethodName := ⟨RX0, "moveTo", "(LServoDesk$Axis;)V"⟩
abbrev cX0_obey : ByteArray := prog_2_method_5_code
def yX0_obey : MethodName := ⟨RX0, "obey", "(I)V"⟩
abbrev cX0_look : ByteArray := prog_2_method_6_code
def yX0_look : MethodName := ⟨RX0, "look", "()V"⟩
abbrev cX0_widen : ByteArray := prog_2_method_7_code
def yX0_widen : MethodName := ⟨RX0, "widen", "()V"⟩
abbrev cX0_rest : ByteArray := prog_2_method_8_code
def yX0_rest : MethodName := ⟨RX0, "rest", "()V"⟩
abbrev cX0_grid : ByteArray := prog_2_method_9_code
def yX0_grid : MethodName := ⟨RX0, "grid", "()V"⟩
abbrev cX0_swap : ByteArray := prog_2_method_10_code
def yX0_swap : MethodName := ⟨RX0, "swap", "()V"⟩
def RX1 : String := "ServoDesk$Kind"
def TX1 : u_T := fun k => match k with
  | _ => ("", "", "", false)
def tyX1 : Nat → FieldType := fun k => match k with
  | _ => .int
abbrev wsX10 : List Cond := u_ws RX1 TX1 0
theorem nmX1 : ∀ a, a < 0 → ∀ b, b < 0 → a ≠ b → (TX1 a).2.1 ≠ (TX1 b).2.1 := by decide +kernel
theorem tyX1_ok : ∀ k, k < 0 → parseFieldDescriptor (TX1 k).2.2.1 = some (tyX1 k) := by decide +kernel
abbrev cX1_infinity : ByteArray := prog_3_method_4_code
def yX1_infinity : MethodName := ⟨RX1, "infinity", "()J"⟩
abbrev cX1_one : ByteArray := prog_3_method_5_code
def yX1_one : MethodName := ⟨RX1, "one", "()J"⟩
abbrev cX1_least : ByteArray := prog_3_method_6_code
def yX1_least : MethodName := ⟨RX1, "least", "()J"⟩
abbrev cX1_greatest : ByteArray := prog_3_method_7_code
def yX1_greatest : MethodName := ⟨RX1, "greatest", "()J"⟩
abbrev cX1_fitted : ByteArray := prog_3_method_8_code
def yX1_fitted : MethodName := ⟨RX1, "fitted", "(J)J"⟩
abbrev cX1_isNumber : ByteArray := prog_3_method_9_code
def yX1_isNumber : MethodName := ⟨RX1, "isNumber", "(J)Z"⟩
abbrev cX1_compared : ByteArray := prog_3_method_10_code
def yX1_compared : MethodName := ⟨RX1, "compared", "(JJ)I"⟩
abbrev cX1_greater : ByteArray := prog_3_method_11_code
def yX1_greater : MethodName := ⟨RX1, "greater", "(JJ)J"⟩
abbrev cX1_lesser : ByteArray := prog_3_method_12_code
def yX1_lesser : MethodName := ⟨RX1, "lesser", "(JJ)J"⟩
abbrev cX1_rank : ByteArray := prog_3_method_13_code
def yX1_rank : MethodName := ⟨RX1, "rank", "(J)J"⟩
abbrev cX1_sized : ByteArray := prog_3_method_14_code
def yX1_sized : MethodName := ⟨RX1, "sized", "(J)J"⟩
abbrev cX1_turned : ByteArray := prog_3_method_15_code
def yX1_turned : MethodName := ⟨RX1, "turned", "(JJ)J"⟩
abbrev cX1_zeroBeside : ByteArray := prog_3_method_16_code
def yX1_zeroBeside : MethodName := ⟨RX1, "zeroBeside", "(J)J"⟩
abbrev cX1_wholeBelow : ByteArray := prog_3_method_17_code
def yX1_wholeBelow : MethodName := ⟨RX1, "wholeBelow", "(J)J"⟩
abbrev cX1_wholeAbove : ByteArray := prog_3_method_18_code
def yX1_wholeAbove : MethodName := ⟨RX1, "wholeAbove", "(J)J"⟩
abbrev cX1_wholeNearest : ByteArray := prog_3_method_19_code
def yX1_wholeNearest : MethodName := ⟨RX1, "wholeNearest", "(J)J"⟩
abbrev cX1_bitsBelowUnit : ByteArray := prog_3_method_20_code
def yX1_bitsBelowUnit : MethodName := ⟨RX1, "bitsBelowUnit", "(J)I"⟩
abbrev cX1_inward : ByteArray := prog_3_method_21_code
def yX1_inward : MethodName := ⟨RX1, "inward", "(J)J"⟩
abbrev cX1_outward : ByteArray := prog_3_method_22_code
def yX1_outward : MethodName := ⟨RX1, "outward", "(J)J"⟩
abbrev cX1_nearest : ByteArray := prog_3_method_23_code
def yX1_nearest : MethodName := ⟨RX1, "nearest", "(J)J"⟩
abbrev cX1_made : ByteArray := prog_3_method_24_code
def yX1_made : MethodName := ⟨RX1, "made", "(LServoDesk$Kind;J)J"⟩
abbrev cX1_towardsZero : ByteArray := prog_3_method_25_code
def yX1_towardsZero : MethodName := ⟨RX1, "towardsZero", "(J)J"⟩
abbrev cX1_significand : ByteArray := prog_3_method_26_code
def yX1_significand : MethodName := ⟨RX1, "significand", "(J)J"⟩
abbrev cX1_scale : ByteArray := prog_3_method_27_code
def yX1_scale : MethodName := ⟨RX1, "scale", "(J)I"⟩
abbrev cX1_sizeOf : ByteArray := prog_3_method_28_code
def yX1_sizeOf : MethodName := ⟨RX1, "sizeOf", "(JI)J"⟩
abbrev cX1_scaledDown : ByteArray := prog_3_method_29_code
def yX1_scaledDown : MethodName := ⟨RX1, "scaledDown", "(JI)J"⟩
def RX2 : String := "ServoDesk"
def TX2 : u_T := fun k => match k with
  | 0 => ("ServoDesk", "axes", "[LServoDesk$Axis;", true)
  | _ => ("ServoDesk", "count", "I", false)
def tyX2 : Nat → FieldType := fun k => match k with
  | 0 => .array (.object "ServoDesk$Axis")
  | _ => .int
abbrev wsX20 : List Cond := u_ws RX2 TX2 2
theorem nmX2 : ∀ a, a < 2 → ∀ b, b < 2 → a ≠ b → (TX2 a).2.1 ≠ (TX2 b).2.1 := by decide +kernel
theorem tyX2_ok : ∀ k, k < 2 → parseFieldDescriptor (TX2 k).2.2.1 = some (tyX2 k) := by decide +kernel
abbrev cX2_init : ByteArray := prog_1_method_1_code
def yX2_init : MethodName := ⟨RX2, "<init>", "()V"⟩
abbrev cX2_axis : ByteArray := prog_1_method_2_code
def yX2_axis : MethodName := ⟨RX2, "axis", "(I)I"⟩
abbrev cX2_set : ByteArray := prog_1_method_3_code
def yX2_set : MethodName := ⟨RX2, "set", "(IIJ)Z"⟩
abbrev cX2_bits : ByteArray := prog_1_method_4_code
def yX2_bits : MethodName := ⟨RX2, "bits", "(II)J"⟩
abbrev cX2_orders : ByteArray := prog_1_method_5_code
def yX2_orders : MethodName := ⟨RX2, "orders", "(II)I"⟩
abbrev cX2_follow : ByteArray := prog_1_method_6_code
def yX2_follow : MethodName := ⟨RX2, "follow", "(II)Z"⟩
abbrev cX2_order : ByteArray := prog_1_method_7_code
def yX2_order : MethodName := ⟨RX2, "order", "(II)I"⟩
abbrev cX2_find : ByteArray := prog_1_method_8_code
def yX2_find : MethodName := ⟨RX2, "find", "(I)LServoDesk$Axis;"⟩
abbrev cX2_orderAt : ByteArray := prog_1_method_9_code
def yX2_orderAt : MethodName := ⟨RX2, "orderAt", "(II)I"⟩
abbrev cX2_lengthOf : ByteArray := prog_1_method_10_code
def yX2_lengthOf : MethodName := ⟨RX2, "lengthOf", "(I)I"⟩
def RX3 : String := "ServoDeskModel"
def TX3 : u_T := fun k => match k with
  | 0 => ("ServoDeskModel", "kind", "[I", true)
  | 1 => ("ServoDeskModel", "number", "[J", true)
  | _ => ("ServoDeskModel", "many", "I", false)
def tyX3 : Nat → FieldType := fun k => match k with
  | 0 => .array .int
  | 1 => .array .long
  | _ => .int
abbrev wsX30 : List Cond := u_ws RX3 TX3 3
theorem nmX3 : ∀ a, a < 3 → ∀ b, b < 3 → a ≠ b → (TX3 a).2.1 ≠ (TX3 b).2.1 := by decide +kernel
theorem tyX3_ok : ∀ k, k < 3 → parseFieldDescriptor (TX3 k).2.2.1 = some (tyX3 k) := by decide +kernel
abbrev cX3_init : ByteArray := prog_5_method_1_code
def yX3_init : MethodName := ⟨RX3, "<init>", "()V"⟩
abbrev cX3_isAxis : ByteArray := prog_5_method_2_code
def yX3_isAxis : MethodName := ⟨RX3, "isAxis", "(I)Z"⟩
abbrev cX3_isFloating : ByteArray := prog_5_method_3_code
def yX3_isFloating : MethodName := ⟨RX3, "isFloating", "(I)Z"⟩
abbrev cX3_fractionOf : ByteArray := prog_5_method_4_code
def yX3_fractionOf : MethodName := ⟨RX3, "fractionOf", "(I)I"⟩
abbrev cX3_endless : ByteArray := prog_5_method_5_code
def yX3_endless : MethodName := ⟨RX3, "endless", "(I)J"⟩
abbrev cX3_size : ByteArray := prog_5_method_6_code
def yX3_size : MethodName := ⟨RX3, "size", "(IJ)J"⟩
abbrev cX3_signed : ByteArray := prog_5_method_7_code
def yX3_signed : MethodName := ⟨RX3, "signed", "(IJZ)J"⟩
abbrev cX3_one : ByteArray := prog_5_method_8_code
def yX3_one : MethodName := ⟨RX3, "one", "(I)J"⟩
abbrev cX3_rank : ByteArray := prog_5_method_9_code
def yX3_rank : MethodName := ⟨RX3, "rank", "(IJ)J"⟩
abbrev cX3_isLess : ByteArray := prog_5_method_10_code
def yX3_isLess : MethodName := ⟨RX3, "isLess", "(IJJ)Z"⟩
abbrev cX3_lesser : ByteArray := prog_5_method_11_code
def yX3_lesser : MethodName := ⟨RX3, "lesser", "(IJJ)J"⟩
abbrev cX3_greater : ByteArray := prog_5_method_12_code
def yX3_greater : MethodName := ⟨RX3, "greater", "(IJJ)J"⟩
abbrev cX3_sized : ByteArray := prog_5_method_13_code
def yX3_sized : MethodName := ⟨RX3, "sized", "(IJ)J"⟩
abbrev cX3_stepped : ByteArray := prog_5_method_14_code
def yX3_stepped : MethodName := ⟨RX3, "stepped", "(IJI)J"⟩
abbrev cX3_nearest : ByteArray := prog_5_method_15_code
def yX3_nearest : MethodName := ⟨RX3, "nearest", "(IZJI)J"⟩
abbrev cX3_cut : ByteArray := prog_5_method_16_code
def yX3_cut : MethodName := ⟨RX3, "cut", "(IIJ)J"⟩
abbrev cX3_turnedInto : ByteArray := prog_5_method_17_code
def yX3_turnedInto : MethodName := ⟨RX3, "turnedInto", "(IIJ)J"⟩
abbrev cX3_axis : ByteArray := prog_5_method_18_code
def yX3_axis : MethodName := ⟨RX3, "axis", "(I)I"⟩
abbrev cX3_set : ByteArray := prog_5_method_19_code
def yX3_set : MethodName := ⟨RX3, "set", "(IIJ)Z"⟩
abbrev cX3_bits : ByteArray := prog_5_method_20_code
def yX3_bits : MethodName := ⟨RX3, "bits", "(II)J"⟩
abbrev cX3_orders : ByteArray := prog_5_method_21_code
def yX3_orders : MethodName := ⟨RX3, "orders", "(II)I"⟩
abbrev cX3_does : ByteArray := prog_5_method_22_code
def yX3_does : MethodName := ⟨RX3, "does", "(III)V"⟩
abbrev cX3_wayOf : ByteArray := prog_5_method_23_code
def yX3_wayOf : MethodName := ⟨RX3, "wayOf", "(IJ)J"⟩
abbrev cX3_turned : ByteArray := prog_5_method_24_code
def yX3_turned : MethodName := ⟨RX3, "turned", "(IJJ)J"⟩
abbrev cX3_follow : ByteArray := prog_5_method_25_code
def yX3_follow : MethodName := ⟨RX3, "follow", "(II)Z"⟩
abbrev cX3_order : ByteArray := prog_5_method_26_code
def yX3_order : MethodName := ⟨RX3, "order", "(II)I"⟩
def RJx29ce0 : String := "java/lang/Enum"
def TJx29ce0 : u_T := fun k => match k with
  | _ => ("", "", "", false)
def tyJx29ce0 : Nat → FieldType := fun k => match k with
  | _ => .int
abbrev wsJx29ce00 : List Cond := u_ws RJx29ce0 TJx29ce0 0
theorem nmJx29ce0 : ∀ a, a < 0 → ∀ b, b < 0 → a ≠ b → (TJx29ce0 a).2.1 ≠ (TJx29ce0 b).2.1 := by decide +kernel
theorem tyJx29ce0_ok : ∀ k, k < 0 → parseFieldDescriptor (TJx29ce0 k).2.2.1 = some (tyJx29ce0 k) := by decide +kernel
def RJ6 : String := "java/lang/Integer"
def TJ6 : u_T := fun k => match k with
  | _ => ("", "", "", false)
def tyJ6 : Nat → FieldType := fun k => match k with
  | _ => .int
abbrev wsJ60 : List Cond := u_ws RJ6 TJ6 0
theorem nmJ6 : ∀ a, a < 0 → ∀ b, b < 0 → a ≠ b → (TJ6 a).2.1 ≠ (TJ6 b).2.1 := by decide +kernel
theorem tyJ6_ok : ∀ k, k < 0 → parseFieldDescriptor (TJ6 k).2.2.1 = some (tyJ6 k) := by decide +kernel
abbrev cJ6_numberOfLeadingZeros_0f7a4 : ByteArray := prog_7_method_47_code
def yJ6_numberOfLeadingZeros_0f7a4 : MethodName := ⟨RJ6, "numberOfLeadingZeros", "(I)I"⟩
def RJ13 : String := "java/lang/Long"
def TJ13 : u_T := fun k => match k with
  | _ => ("", "", "", false)
def tyJ13 : Nat → FieldType := fun k => match k with
  | _ => .int
abbrev wsJ130 : List Cond := u_ws RJ13 TJ13 0
theorem nmJ13 : ∀ a, a < 0 → ∀ b, b < 0 → a ≠ b → (TJ13 a).2.1 ≠ (TJ13 b).2.1 := by decide +kernel
theorem tyJ13_ok : ∀ k, k < 0 → parseFieldDescriptor (TJ13 k).2.2.1 = some (tyJ13 k) := by decide +kernel
abbrev cJ13_compare_74951 : ByteArray := prog_8_method_42_code
def yJ13_compare_74951 : MethodName := ⟨RJ13, "compare", "(JJ)I"⟩
abbrev cJ13_numberOfLeadingZeros_95d88 : ByteArray := prog_8_method_48_code
def yJ13_numberOfLeadingZeros_95d88 : MethodName := ⟨RJ13, "numberOfLeadingZeros", "(J)I"⟩
def RJ9 : String := "java/lang/Math"
def TJ9 : u_T := fun k => match k with
  | _ => ("", "", "", false)
def tyJ9 : Nat → FieldType := fun k => match k with
  | _ => .int
abbrev wsJ90 : List Cond := u_ws RJ9 TJ9 0
theorem nmJ9 : ∀ a, a < 0 → ∀ b, b < 0 → a ≠ b → (TJ9 a).2.1 ≠ (TJ9 b).2.1 := by decide +kernel
theorem tyJ9_ok : ∀ k, k < 0 → parseFieldDescriptor (TJ9 k).2.2.1 = some (tyJ9 k) := by decide +kernel
abbrev cJ9_abs_067f4 : ByteArray := prog_9_method_61_code
def yJ9_abs_067f4 : MethodName := ⟨RJ9, "abs", "(J)J"⟩
abbrev cJ9_max_7cf53 : ByteArray := prog_9_method_65_code
def yJ9_max_7cf53 : MethodName := ⟨RJ9, "max", "(II)I"⟩
abbrev cJ9_max_f86c9 : ByteArray := prog_9_method_66_code
def yJ9_max_f86c9 : MethodName := ⟨RJ9, "max", "(JJ)J"⟩
abbrev cJ9_min_7cf53 : ByteArray := prog_9_method_69_code
def yJ9_min_7cf53 : MethodName := ⟨RJ9, "min", "(II)I"⟩
abbrev cJ9_min_f86c9 : ByteArray := prog_9_method_70_code
def yJ9_min_f86c9 : MethodName := ⟨RJ9, "min", "(JJ)J"⟩
def RL : String := "ServoDeskLaw"
abbrev cL_law : ByteArray := code
def yL_law : MethodName := ⟨RL, "law", "([I)Z"⟩
def wsX1_infinity : List Cond := .code yX1_infinity cX1_infinity 1 (some .long) :: ([.constantLong RX1 55 (2), .fieldLink RX1 46 "ServoDesk$Kind" "bias" "I", .fieldLink RX1 43 "ServoDesk$Kind" "fraction" "I"])
def wsX1_least : List Cond := .code yX1_least cX1_least 1 (some .long) :: ([.fieldLink RX1 39 "ServoDesk$Kind" "floating" "Z", .fieldLink RX1 51 "ServoDesk$Kind" "sign" "J", .methodLink RX1 57 yX1_infinity, .instanceMethod yX1_infinity, .selects RX1 yX1_infinity yX1_infinity, .initialized RX1, .code yX1_infinity cX1_infinity 1 (some .long), .constantLong RX1 55 (2), .fieldLink RX1 46 "ServoDesk$Kind" "bias" "I", .fieldLink RX1 43 "ServoDesk$Kind" "fraction" "I"])
def wsX1_greatest : List Cond := .code yX1_greatest cX1_greatest 1 (some .long) :: ([.fieldLink RX1 39 "ServoDesk$Kind" "floating" "Z", .fieldLink RX1 51 "ServoDesk$Kind" "sign" "J", .constantLong RX1 49 (-1), .methodLink RX1 57 yX1_infinity, .instanceMethod yX1_infinity, .selects RX1 yX1_infinity yX1_infinity, .initialized RX1, .code yX1_infinity cX1_infinity 1 (some .long), .constantLong RX1 55 (2), .fieldLink RX1 46 "ServoDesk$Kind" "bias" "I", .fieldLink RX1 43 "ServoDesk$Kind" "fraction" "I"])
def wsX0_init_r1 : List Cond := [Cond.methodLink RX0 1 objectInit, Cond.instanceMethod objectInit, Cond.code objectInit ⟨#[0xb1]⟩ 1 none, Cond.fieldLink RX0 7 "ServoDesk$Axis" "kind" "LServoDesk$Kind;", Cond.fieldLink RX0 13 "ServoDesk$Axis" "place" "J", Cond.fieldLink RX0 23 "ServoDesk$Axis" "low" "J", Cond.fieldLink RX0 29 "ServoDesk$Axis" "high" "J", Cond.fieldLink RX0 32 "ServoDesk$Axis" "band" "J", Cond.fieldLink RX0 35 "ServoDesk$Axis" "way" "J", Cond.instanceMethod yX1_least, Cond.initialized RX1, Cond.selects RX1 yX1_least yX1_least, Cond.code yX1_least cX1_least 1 (some .long), Cond.fieldLink RX1 39 "ServoDesk$Kind" "floating" "Z", Cond.fieldLink RX1 51 "ServoDesk$Kind" "sign" "J", Cond.methodLink RX1 57 yX1_infinity, Cond.instanceMethod yX1_infinity, Cond.selects RX1 yX1_infinity yX1_infinity, Cond.code yX1_infinity cX1_infinity 1 (some .long), Cond.constantLong RX1 55 (2), Cond.fieldLink RX1 46 "ServoDesk$Kind" "bias" "I", Cond.fieldLink RX1 43 "ServoDesk$Kind" "fraction" "I", Cond.instanceMethod yX1_greatest, Cond.selects RX1 yX1_greatest yX1_greatest]
def wsX0_init_r2 : List Cond := [Cond.code yX1_greatest cX1_greatest 1 (some .long), Cond.constantLong RX1 49 (-1)]
def wsX0_init : List Cond := .code yX0_init cX0_init 2 none :: ((wsX0_init_r1 ++ wsX0_init_r2) ++ wsX00)
def wsX1_fitted : List Cond := .code yX1_fitted cX1_fitted 3 (some .long) :: ([.fieldLink RX1 35 "ServoDesk$Kind" "unused" "I"])
def wsX1_sized : List Cond := .code yX1_sized cX1_sized 3 (some .long) :: ([.fieldLink RX1 39 "ServoDesk$Kind" "floating" "Z", .fieldLink RX1 51 "ServoDesk$Kind" "sign" "J", .constantLong RX1 49 (-1), .methodLink RX1 77 Lib.MathLoose.abs_long.x, .static Lib.MathLoose.abs_long.x, .initialized "java/lang/Math", .code Lib.MathLoose.abs_long.x Lib.MathLoose.abs_long.code 2 (some .long), .methodLink RX1 82 yX1_fitted, .instanceMethod yX1_fitted, .selects RX1 yX1_fitted yX1_fitted, .initialized RX1, .code yX1_fitted cX1_fitted 3 (some .long), .fieldLink RX1 35 "ServoDesk$Kind" "unused" "I"])
def wsX1_isNumber : List Cond := .code yX1_isNumber cX1_isNumber 3 (some .boolean) :: ([.fieldLink RX1 39 "ServoDesk$Kind" "floating" "Z", .methodLink RX1 61 yX1_sized, .instanceMethod yX1_sized, .selects RX1 yX1_sized yX1_sized, .initialized RX1, .code yX1_sized cX1_sized 3 (some .long), .fieldLink RX1 51 "ServoDesk$Kind" "sign" "J", .constantLong RX1 49 (-1), .methodLink RX1 77 Lib.MathLoose.abs_long.x, .static Lib.MathLoose.abs_long.x, .initialized "java/lang/Math", .code Lib.MathLoose.abs_long.x Lib.MathLoose.abs_long.code 2 (some .long), .methodLink RX1 82 yX1_fitted, .instanceMethod yX1_fitted, .selects RX1 yX1_fitted yX1_fitted, .code yX1_fitted cX1_fitted 3 (some .long), .fieldLink RX1 35 "ServoDesk$Kind" "unused" "I", .methodLink RX1 57 yX1_infinity, .instanceMethod yX1_infinity, .selects RX1 yX1_infinity yX1_infinity, .code yX1_infinity cX1_infinity 1 (some .long), .constantLong RX1 55 (2), .fieldLink RX1 46 "ServoDesk$Kind" "bias" "I", .fieldLink RX1 43 "ServoDesk$Kind" "fraction" "I"])
def wsX0_put_r1 : List Cond := [Cond.fieldLink RX0 7 "ServoDesk$Axis" "kind" "LServoDesk$Kind;", Cond.fieldLink RX0 13 "ServoDesk$Axis" "place" "J", Cond.fieldLink RX0 23 "ServoDesk$Axis" "low" "J", Cond.fieldLink RX0 29 "ServoDesk$Axis" "high" "J", Cond.fieldLink RX0 32 "ServoDesk$Axis" "band" "J", Cond.fieldLink RX0 35 "ServoDesk$Axis" "way" "J", Cond.instanceMethod yX1_fitted, Cond.initialized RX1, Cond.selects RX1 yX1_fitted yX1_fitted, Cond.code yX1_fitted cX1_fitted 3 (some .long), Cond.fieldLink RX1 35 "ServoDesk$Kind" "unused" "I", Cond.instanceMethod yX1_isNumber, Cond.selects RX1 yX1_isNumber yX1_isNumber, Cond.code yX1_isNumber cX1_isNumber 3 (some .boolean), Cond.fieldLink RX1 39 "ServoDesk$Kind" "floating" "Z", Cond.methodLink RX1 61 yX1_sized, Cond.instanceMethod yX1_sized, Cond.selects RX1 yX1_sized yX1_sized, Cond.code yX1_sized cX1_sized 3 (some .long), Cond.fieldLink RX1 51 "ServoDesk$Kind" "sign" "J", Cond.constantLong RX1 49 (-1), Cond.methodLink RX1 77 Lib.MathLoose.abs_long.x, Cond.static Lib.MathLoose.abs_long.x, Cond.initialized "java/lang/Math"]
def wsX0_put_r2 : List Cond := [Cond.code Lib.MathLoose.abs_long.x Lib.MathLoose.abs_long.code 2 (some .long), Cond.methodLink RX1 82 yX1_fitted, Cond.methodLink RX1 57 yX1_infinity, Cond.instanceMethod yX1_infinity, Cond.selects RX1 yX1_infinity yX1_infinity, Cond.code yX1_infinity cX1_infinity 1 (some .long), Cond.constantLong RX1 55 (2), Cond.fieldLink RX1 46 "ServoDesk$Kind" "bias" "I", Cond.fieldLink RX1 43 "ServoDesk$Kind" "fraction" "I"]
def wsX0_put : List Cond := .code yX0_put cX0_put 6 (some .boolean) :: ((wsX0_put_r1 ++ wsX0_put_r2) ++ wsX00)
def wsX0_number : List Cond := .code yX0_number cX0_number 2 (some .long) :: ([.fieldLink RX0 13 "ServoDesk$Axis" "place" "J", .fieldLink RX0 23 "ServoDesk$Axis" "low" "J", .fieldLink RX0 29 "ServoDesk$Axis" "high" "J", .fieldLink RX0 32 "ServoDesk$Axis" "band" "J", .fieldLink RX0 35 "ServoDesk$Axis" "way" "J"] ++ wsX00)
def wsJ6_numberOfLeadingZeros_0f7a4 : List Cond := .code yJ6_numberOfLeadingZeros_0f7a4 cJ6_numberOfLeadingZeros_0f7a4 2 (some .int) :: ([.constant RJ6 264 (65536)])
def wsJ13_numberOfLeadingZeros_95d88 : List Cond := .code yJ13_numberOfLeadingZeros_95d88 cJ13_numberOfLeadingZeros_95d88 3 (some .int) :: ([.methodLink RJ13 308 yJ6_numberOfLeadingZeros_0f7a4, .static yJ6_numberOfLeadingZeros_0f7a4, .initialized RJ6, .code yJ6_numberOfLeadingZeros_0f7a4 cJ6_numberOfLeadingZeros_0f7a4 2 (some .int), .constant RJ6 264 (65536)])
def wsX1_scaledDown : List Cond := .code yX1_scaledDown cX1_scaledDown 10 (some .long) :: ([.methodLink RX1 140 Lib.Math.min.name, .static Lib.Math.min.name, .initialized "java/lang/Math", .code Lib.Math.min.name Lib.Math.min.code 2 (some .int)])
def wsX1_sizeOf_r1 : List Cond := [Cond.fieldLink RX1 46 "ServoDesk$Kind" "bias" "I", Cond.methodLink RX1 98 Lib.Math.max.name, Cond.static Lib.Math.max.name, Cond.initialized "java/lang/Math", Cond.code Lib.Math.max.name Lib.Math.max.code 2 (some .int), Cond.fieldLink RX1 43 "ServoDesk$Kind" "fraction" "I", Cond.methodLink RX1 142 yJ13_numberOfLeadingZeros_95d88, Cond.static yJ13_numberOfLeadingZeros_95d88, Cond.initialized RJ13, Cond.code yJ13_numberOfLeadingZeros_95d88 cJ13_numberOfLeadingZeros_95d88 3 (some .int), Cond.methodLink RJ13 308 yJ6_numberOfLeadingZeros_0f7a4, Cond.static yJ6_numberOfLeadingZeros_0f7a4, Cond.initialized RJ6, Cond.code yJ6_numberOfLeadingZeros_0f7a4 cJ6_numberOfLeadingZeros_0f7a4 2 (some .int), Cond.constant RJ6 264 (65536), Cond.methodLink RX1 57 yX1_infinity, Cond.instanceMethod yX1_infinity, Cond.selects RX1 yX1_infinity yX1_infinity, Cond.initialized RX1, Cond.code yX1_infinity cX1_infinity 1 (some .long), Cond.constantLong RX1 55 (2), Cond.methodLink RX1 109 yX1_scaledDown, Cond.static yX1_scaledDown, Cond.code yX1_scaledDown cX1_scaledDown 10 (some .long)]
def wsX1_sizeOf_r2 : List Cond := [Cond.methodLink RX1 140 Lib.Math.min.name, Cond.static Lib.Math.min.name, Cond.code Lib.Math.min.name Lib.Math.min.code 2 (some .int)]
def wsX1_sizeOf : List Cond := .code yX1_sizeOf cX1_sizeOf 8 (some .long) :: ((wsX1_sizeOf_r1 ++ wsX1_sizeOf_r2))
def wsX1_turned : List Cond := .code yX1_turned cX1_turned 7 (some .long) :: ([.fieldLink RX1 39 "ServoDesk$Kind" "floating" "Z", .fieldLink RX1 51 "ServoDesk$Kind" "sign" "J", .methodLink RX1 61 yX1_sized, .instanceMethod yX1_sized, .selects RX1 yX1_sized yX1_sized, .initialized RX1, .code yX1_sized cX1_sized 3 (some .long), .constantLong RX1 49 (-1), .methodLink RX1 77 Lib.MathLoose.abs_long.x, .static Lib.MathLoose.abs_long.x, .initialized "java/lang/Math", .code Lib.MathLoose.abs_long.x Lib.MathLoose.abs_long.code 2 (some .long), .methodLink RX1 82 yX1_fitted, .instanceMethod yX1_fitted, .selects RX1 yX1_fitted yX1_fitted, .code yX1_fitted cX1_fitted 3 (some .long), .fieldLink RX1 35 "ServoDesk$Kind" "unused" "I"])
def wsX1_scale : List Cond := .code yX1_scale cX1_scale 3 (some .int) :: ([.fieldLink RX1 43 "ServoDesk$Kind" "fraction" "I", .methodLink RX1 98 Lib.Math.max.name, .static Lib.Math.max.name, .initialized "java/lang/Math", .code Lib.Math.max.name Lib.Math.max.code 2 (some .int), .fieldLink RX1 46 "ServoDesk$Kind" "bias" "I"])
def wsX1_significand : List Cond := .code yX1_significand cX1_significand 5 (some .long) :: ([.fieldLink RX1 43 "ServoDesk$Kind" "fraction" "I"])
def wsX1_towardsZero_r1 : List Cond := [Cond.fieldLink RX1 43 "ServoDesk$Kind" "fraction" "I", Cond.constantLong RX1 136 (-9223372036854775808), Cond.constantLong RX1 138 (9223372036854775807), Cond.methodLink RX1 140 Lib.Math.min.name, Cond.static Lib.Math.min.name, Cond.initialized "java/lang/Math", Cond.code Lib.Math.min.name Lib.Math.min.code 2 (some .int), Cond.methodLink RX1 61 yX1_sized, Cond.instanceMethod yX1_sized, Cond.selects RX1 yX1_sized yX1_sized, Cond.initialized RX1, Cond.code yX1_sized cX1_sized 3 (some .long), Cond.fieldLink RX1 39 "ServoDesk$Kind" "floating" "Z", Cond.fieldLink RX1 51 "ServoDesk$Kind" "sign" "J", Cond.constantLong RX1 49 (-1), Cond.methodLink RX1 77 Lib.MathLoose.abs_long.x, Cond.static Lib.MathLoose.abs_long.x, Cond.code Lib.MathLoose.abs_long.x Lib.MathLoose.abs_long.code 2 (some .long), Cond.methodLink RX1 82 yX1_fitted, Cond.instanceMethod yX1_fitted, Cond.selects RX1 yX1_fitted yX1_fitted, Cond.code yX1_fitted cX1_fitted 3 (some .long), Cond.fieldLink RX1 35 "ServoDesk$Kind" "unused" "I", Cond.methodLink RX1 133 yX1_scale]
def wsX1_towardsZero_r2 : List Cond := [Cond.instanceMethod yX1_scale, Cond.selects RX1 yX1_scale yX1_scale, Cond.code yX1_scale cX1_scale 3 (some .int), Cond.methodLink RX1 98 Lib.Math.max.name, Cond.static Lib.Math.max.name, Cond.code Lib.Math.max.name Lib.Math.max.code 2 (some .int), Cond.fieldLink RX1 46 "ServoDesk$Kind" "bias" "I", Cond.methodLink RX1 130 yX1_significand, Cond.instanceMethod yX1_significand, Cond.selects RX1 yX1_significand yX1_significand, Cond.code yX1_significand cX1_significand 5 (some .long)]
def wsX1_towardsZero : List Cond := .code yX1_towardsZero cX1_towardsZero 10 (some .long) :: ((wsX1_towardsZero_r1 ++ wsX1_towardsZero_r2))
def wsX1_made_r1 : List Cond := [Cond.fieldLink RX1 39 "ServoDesk$Kind" "floating" "Z", Cond.methodLink RX1 77 Lib.MathLoose.abs_long.x, Cond.static Lib.MathLoose.abs_long.x, Cond.initialized "java/lang/Math", Cond.code Lib.MathLoose.abs_long.x Lib.MathLoose.abs_long.code 2 (some .long), Cond.methodLink RX1 125 Lib.MathLoose.min_long.x, Cond.static Lib.MathLoose.min_long.x, Cond.code Lib.MathLoose.min_long.x Lib.MathLoose.min_long.code 4 (some .long), Cond.methodLink RX1 128 Lib.MathLoose.max_long.x, Cond.static Lib.MathLoose.max_long.x, Cond.code Lib.MathLoose.max_long.x Lib.MathLoose.max_long.code 4 (some .long), Cond.methodLink RX1 113 yX1_sizeOf, Cond.instanceMethod yX1_sizeOf, Cond.selects RX1 yX1_sizeOf yX1_sizeOf, Cond.initialized RX1, Cond.code yX1_sizeOf cX1_sizeOf 8 (some .long), Cond.fieldLink RX1 46 "ServoDesk$Kind" "bias" "I", Cond.methodLink RX1 98 Lib.Math.max.name, Cond.static Lib.Math.max.name, Cond.code Lib.Math.max.name Lib.Math.max.code 2 (some .int), Cond.fieldLink RX1 43 "ServoDesk$Kind" "fraction" "I", Cond.methodLink RX1 142 yJ13_numberOfLeadingZeros_95d88, Cond.static yJ13_numberOfLeadingZeros_95d88, Cond.initialized RJ13]
def wsX1_made_r2 : List Cond := [Cond.code yJ13_numberOfLeadingZeros_95d88 cJ13_numberOfLeadingZeros_95d88 3 (some .int), Cond.methodLink RJ13 308 yJ6_numberOfLeadingZeros_0f7a4, Cond.static yJ6_numberOfLeadingZeros_0f7a4, Cond.initialized RJ6, Cond.code yJ6_numberOfLeadingZeros_0f7a4 cJ6_numberOfLeadingZeros_0f7a4 2 (some .int), Cond.constant RJ6 264 (65536), Cond.methodLink RX1 57 yX1_infinity, Cond.instanceMethod yX1_infinity, Cond.selects RX1 yX1_infinity yX1_infinity, Cond.code yX1_infinity cX1_infinity 1 (some .long), Cond.constantLong RX1 55 (2), Cond.methodLink RX1 109 yX1_scaledDown, Cond.static yX1_scaledDown, Cond.code yX1_scaledDown cX1_scaledDown 10 (some .long), Cond.methodLink RX1 140 Lib.Math.min.name, Cond.static Lib.Math.min.name, Cond.code Lib.Math.min.name Lib.Math.min.code 2 (some .int), Cond.methodLink RX1 85 yX1_turned, Cond.instanceMethod yX1_turned, Cond.selects RX1 yX1_turned yX1_turned, Cond.code yX1_turned cX1_turned 7 (some .long), Cond.fieldLink RX1 51 "ServoDesk$Kind" "sign" "J", Cond.methodLink RX1 61 yX1_sized, Cond.instanceMethod yX1_sized]
def wsX1_made_r3 : List Cond := [Cond.selects RX1 yX1_sized yX1_sized, Cond.code yX1_sized cX1_sized 3 (some .long), Cond.constantLong RX1 49 (-1), Cond.methodLink RX1 82 yX1_fitted, Cond.instanceMethod yX1_fitted, Cond.selects RX1 yX1_fitted yX1_fitted, Cond.code yX1_fitted cX1_fitted 3 (some .long), Cond.fieldLink RX1 35 "ServoDesk$Kind" "unused" "I", Cond.methodLink RX1 116 yX1_least, Cond.instanceMethod yX1_least, Cond.selects RX1 yX1_least yX1_least, Cond.code yX1_least cX1_least 1 (some .long), Cond.methodLink RX1 119 yX1_greatest, Cond.instanceMethod yX1_greatest, Cond.selects RX1 yX1_greatest yX1_greatest, Cond.code yX1_greatest cX1_greatest 1 (some .long), Cond.methodLink RX1 122 yX1_towardsZero, Cond.instanceMethod yX1_towardsZero, Cond.selects RX1 yX1_towardsZero yX1_towardsZero, Cond.code yX1_towardsZero cX1_towardsZero 10 (some .long), Cond.constantLong RX1 136 (-9223372036854775808), Cond.constantLong RX1 138 (9223372036854775807), Cond.methodLink RX1 133 yX1_scale, Cond.instanceMethod yX1_scale]
def wsX1_made_r4 : List Cond := [Cond.selects RX1 yX1_scale yX1_scale, Cond.code yX1_scale cX1_scale 3 (some .int), Cond.methodLink RX1 130 yX1_significand, Cond.instanceMethod yX1_significand, Cond.selects RX1 yX1_significand yX1_significand, Cond.code yX1_significand cX1_significand 5 (some .long)]
def wsX1_made : List Cond := .code yX1_made cX1_made 7 (some .long) :: ((wsX1_made_r1 ++ (wsX1_made_r2 ++ (wsX1_made_r3 ++ wsX1_made_r4))))
def wsX0_moveTo_r1 : List Cond := [Cond.fieldLink RX0 7 "ServoDesk$Axis" "kind" "LServoDesk$Kind;", Cond.fieldLink RX0 13 "ServoDesk$Axis" "place" "J", Cond.instanceMethod yX1_made, Cond.initialized RX1, Cond.selects RX1 yX1_made yX1_made, Cond.code yX1_made cX1_made 7 (some .long), Cond.fieldLink RX1 39 "ServoDesk$Kind" "floating" "Z", Cond.methodLink RX1 77 Lib.MathLoose.abs_long.x, Cond.static Lib.MathLoose.abs_long.x, Cond.initialized "java/lang/Math", Cond.code Lib.MathLoose.abs_long.x Lib.MathLoose.abs_long.code 2 (some .long), Cond.methodLink RX1 125 Lib.MathLoose.min_long.x, Cond.static Lib.MathLoose.min_long.x, Cond.code Lib.MathLoose.min_long.x Lib.MathLoose.min_long.code 4 (some .long), Cond.methodLink RX1 128 Lib.MathLoose.max_long.x, Cond.static Lib.MathLoose.max_long.x, Cond.code Lib.MathLoose.max_long.x Lib.MathLoose.max_long.code 4 (some .long), Cond.methodLink RX1 113 yX1_sizeOf, Cond.instanceMethod yX1_sizeOf, Cond.selects RX1 yX1_sizeOf yX1_sizeOf, Cond.code yX1_sizeOf cX1_sizeOf 8 (some .long), Cond.fieldLink RX1 46 "ServoDesk$Kind" "bias" "I", Cond.methodLink RX1 98 Lib.Math.max.name, Cond.static Lib.Math.max.name]
def wsX0_moveTo_r2 : List Cond := [Cond.code Lib.Math.max.name Lib.Math.max.code 2 (some .int), Cond.fieldLink RX1 43 "ServoDesk$Kind" "fraction" "I", Cond.methodLink RX1 142 yJ13_numberOfLeadingZeros_95d88, Cond.static yJ13_numberOfLeadingZeros_95d88, Cond.initialized RJ13, Cond.code yJ13_numberOfLeadingZeros_95d88 cJ13_numberOfLeadingZeros_95d88 3 (some .int), Cond.methodLink RJ13 308 yJ6_numberOfLeadingZeros_0f7a4, Cond.static yJ6_numberOfLeadingZeros_0f7a4, Cond.initialized RJ6, Cond.code yJ6_numberOfLeadingZeros_0f7a4 cJ6_numberOfLeadingZeros_0f7a4 2 (some .int), Cond.constant RJ6 264 (65536), Cond.methodLink RX1 57 yX1_infinity, Cond.instanceMethod yX1_infinity, Cond.selects RX1 yX1_infinity yX1_infinity, Cond.code yX1_infinity cX1_infinity 1 (some .long), Cond.constantLong RX1 55 (2), Cond.methodLink RX1 109 yX1_scaledDown, Cond.static yX1_scaledDown, Cond.code yX1_scaledDown cX1_scaledDown 10 (some .long), Cond.methodLink RX1 140 Lib.Math.min.name, Cond.static Lib.Math.min.name, Cond.code Lib.Math.min.name Lib.Math.min.code 2 (some .int), Cond.methodLink RX1 85 yX1_turned, Cond.instanceMethod yX1_turned]
def wsX0_moveTo_r3 : List Cond := [Cond.selects RX1 yX1_turned yX1_turned, Cond.code yX1_turned cX1_turned 7 (some .long), Cond.fieldLink RX1 51 "ServoDesk$Kind" "sign" "J", Cond.methodLink RX1 61 yX1_sized, Cond.instanceMethod yX1_sized, Cond.selects RX1 yX1_sized yX1_sized, Cond.code yX1_sized cX1_sized 3 (some .long), Cond.constantLong RX1 49 (-1), Cond.methodLink RX1 82 yX1_fitted, Cond.instanceMethod yX1_fitted, Cond.selects RX1 yX1_fitted yX1_fitted, Cond.code yX1_fitted cX1_fitted 3 (some .long), Cond.fieldLink RX1 35 "ServoDesk$Kind" "unused" "I", Cond.methodLink RX1 116 yX1_least, Cond.instanceMethod yX1_least, Cond.selects RX1 yX1_least yX1_least, Cond.code yX1_least cX1_least 1 (some .long), Cond.methodLink RX1 119 yX1_greatest, Cond.instanceMethod yX1_greatest, Cond.selects RX1 yX1_greatest yX1_greatest, Cond.code yX1_greatest cX1_greatest 1 (some .long), Cond.methodLink RX1 122 yX1_towardsZero, Cond.instanceMethod yX1_towardsZero, Cond.selects RX1 yX1_towardsZero yX1_towardsZero]
def wsX0_moveTo_r4 : List Cond := [Cond.code yX1_towardsZero cX1_towardsZero 10 (some .long), Cond.constantLong RX1 136 (-9223372036854775808), Cond.constantLong RX1 138 (9223372036854775807), Cond.methodLink RX1 133 yX1_scale, Cond.instanceMethod yX1_scale, Cond.selects RX1 yX1_scale yX1_scale, Cond.code yX1_scale cX1_scale 3 (some .int), Cond.methodLink RX1 130 yX1_significand, Cond.instanceMethod yX1_significand, Cond.selects RX1 yX1_significand yX1_significand, Cond.code yX1_significand cX1_significand 5 (some .long)]
def wsX0_moveTo : List Cond := .code yX0_moveTo cX0_moveTo 2 none :: ((wsX0_moveTo_r1 ++ (wsX0_moveTo_r2 ++ (wsX0_moveTo_r3 ++ wsX0_moveTo_r4))) ++ wsX00)
def wsX1_rank : List Cond := .code yX1_rank cX1_rank 3 (some .long) :: ([.fieldLink RX1 39 "ServoDesk$Kind" "floating" "Z", .fieldLink RX1 51 "ServoDesk$Kind" "sign" "J", .constantLong RX1 49 (-1)])
def wsJ13_compare_74951 : List Cond := .code yJ13_compare_74951 cJ13_compare_74951 4 (some .int) :: ([])
def wsX1_compared : List Cond := .code yX1_compared cX1_compared 5 (some .int) :: ([.methodLink RX1 65 yX1_rank, .instanceMethod yX1_rank, .selects RX1 yX1_rank yX1_rank, .initialized RX1, .code yX1_rank cX1_rank 3 (some .long), .fieldLink RX1 39 "ServoDesk$Kind" "floating" "Z", .fieldLink RX1 51 "ServoDesk$Kind" "sign" "J", .constantLong RX1 49 (-1), .methodLink RX1 68 yJ13_compare_74951, .static yJ13_compare_74951, .initialized RJ13, .code yJ13_compare_74951 cJ13_compare_74951 4 (some .int)])
def wsX1_lesser : List Cond := .code yX1_lesser cX1_lesser 5 (some .long) :: ([.methodLink RX1 74 yX1_compared, .instanceMethod yX1_compared, .selects RX1 yX1_compared yX1_compared, .initialized RX1, .code yX1_compared cX1_compared 5 (some .int), .methodLink RX1 65 yX1_rank, .instanceMethod yX1_rank, .selects RX1 yX1_rank yX1_rank, .code yX1_rank cX1_rank 3 (some .long), .fieldLink RX1 39 "ServoDesk$Kind" "floating" "Z", .fieldLink RX1 51 "ServoDesk$Kind" "sign" "J", .constantLong RX1 49 (-1), .methodLink RX1 68 yJ13_compare_74951, .static yJ13_compare_74951, .initialized RJ13, .code yJ13_compare_74951 cJ13_compare_74951 4 (some .int)])
def wsX1_greater : List Cond := .code yX1_greater cX1_greater 5 (some .long) :: ([.methodLink RX1 74 yX1_compared, .instanceMethod yX1_compared, .selects RX1 yX1_compared yX1_compared, .initialized RX1, .code yX1_compared cX1_compared 5 (some .int), .methodLink RX1 65 yX1_rank, .instanceMethod yX1_rank, .selects RX1 yX1_rank yX1_rank, .code yX1_rank cX1_rank 3 (some .long), .fieldLink RX1 39 "ServoDesk$Kind" "floating" "Z", .fieldLink RX1 51 "ServoDesk$Kind" "sign" "J", .constantLong RX1 49 (-1), .methodLink RX1 68 yJ13_compare_74951, .static yJ13_compare_74951, .initialized RJ13, .code yJ13_compare_74951 cJ13_compare_74951 4 (some .int)])
def wsX1_one : List Cond := .code yX1_one cX1_one 1 (some .long) :: ([.fieldLink RX1 39 "ServoDesk$Kind" "floating" "Z", .fieldLink RX1 46 "ServoDesk$Kind" "bias" "I", .fieldLink RX1 43 "ServoDesk$Kind" "fraction" "I"])
def wsX1_bitsBelowUnit : List Cond := .code yX1_bitsBelowUnit cX1_bitsBelowUnit 3 (some .int) :: ([.fieldLink RX1 46 "ServoDesk$Kind" "bias" "I", .fieldLink RX1 43 "ServoDesk$Kind" "fraction" "I", .methodLink RX1 98 Lib.Math.max.name, .static Lib.Math.max.name, .initialized "java/lang/Math", .code Lib.Math.max.name Lib.Math.max.code 2 (some .int)])
def wsX1_outward : List Cond := .code yX1_outward cX1_outward 5 (some .long) :: ([.constantLong RX1 49 (-1), .methodLink RX1 102 yX1_one, .instanceMethod yX1_one, .selects RX1 yX1_one yX1_one, .initialized RX1, .code yX1_one cX1_one 1 (some .long), .fieldLink RX1 39 "ServoDesk$Kind" "floating" "Z", .fieldLink RX1 46 "ServoDesk$Kind" "bias" "I", .fieldLink RX1 43 "ServoDesk$Kind" "fraction" "I", .methodLink RX1 105 yX1_bitsBelowUnit, .instanceMethod yX1_bitsBelowUnit, .selects RX1 yX1_bitsBelowUnit yX1_bitsBelowUnit, .code yX1_bitsBelowUnit cX1_bitsBelowUnit 3 (some .int), .methodLink RX1 98 Lib.Math.max.name, .static Lib.Math.max.name, .initialized "java/lang/Math", .code Lib.Math.max.name Lib.Math.max.code 2 (some .int)])
def wsX1_inward : List Cond := .code yX1_inward cX1_inward 4 (some .long) :: ([.methodLink RX1 102 yX1_one, .instanceMethod yX1_one, .selects RX1 yX1_one yX1_one, .initialized RX1, .code yX1_one cX1_one 1 (some .long), .fieldLink RX1 39 "ServoDesk$Kind" "floating" "Z", .fieldLink RX1 46 "ServoDesk$Kind" "bias" "I", .fieldLink RX1 43 "ServoDesk$Kind" "fraction" "I", .methodLink RX1 105 yX1_bitsBelowUnit, .instanceMethod yX1_bitsBelowUnit, .selects RX1 yX1_bitsBelowUnit yX1_bitsBelowUnit, .code yX1_bitsBelowUnit cX1_bitsBelowUnit 3 (some .int), .methodLink RX1 98 Lib.Math.max.name, .static Lib.Math.max.name, .initialized "java/lang/Math", .code Lib.Math.max.name Lib.Math.max.code 2 (some .int)])
def wsX1_wholeBelow_r1 : List Cond := [Cond.fieldLink RX1 39 "ServoDesk$Kind" "floating" "Z", Cond.methodLink RX1 61 yX1_sized, Cond.instanceMethod yX1_sized, Cond.selects RX1 yX1_sized yX1_sized, Cond.initialized RX1, Cond.code yX1_sized cX1_sized 3 (some .long), Cond.fieldLink RX1 51 "ServoDesk$Kind" "sign" "J", Cond.constantLong RX1 49 (-1), Cond.methodLink RX1 77 Lib.MathLoose.abs_long.x, Cond.static Lib.MathLoose.abs_long.x, Cond.initialized "java/lang/Math", Cond.code Lib.MathLoose.abs_long.x Lib.MathLoose.abs_long.code 2 (some .long), Cond.methodLink RX1 82 yX1_fitted, Cond.instanceMethod yX1_fitted, Cond.selects RX1 yX1_fitted yX1_fitted, Cond.code yX1_fitted cX1_fitted 3 (some .long), Cond.fieldLink RX1 35 "ServoDesk$Kind" "unused" "I", Cond.methodLink RX1 89 yX1_outward, Cond.instanceMethod yX1_outward, Cond.selects RX1 yX1_outward yX1_outward, Cond.code yX1_outward cX1_outward 5 (some .long), Cond.methodLink RX1 102 yX1_one, Cond.instanceMethod yX1_one, Cond.selects RX1 yX1_one yX1_one]
def wsX1_wholeBelow_r2 : List Cond := [Cond.code yX1_one cX1_one 1 (some .long), Cond.fieldLink RX1 46 "ServoDesk$Kind" "bias" "I", Cond.fieldLink RX1 43 "ServoDesk$Kind" "fraction" "I", Cond.methodLink RX1 105 yX1_bitsBelowUnit, Cond.instanceMethod yX1_bitsBelowUnit, Cond.selects RX1 yX1_bitsBelowUnit yX1_bitsBelowUnit, Cond.code yX1_bitsBelowUnit cX1_bitsBelowUnit 3 (some .int), Cond.methodLink RX1 98 Lib.Math.max.name, Cond.static Lib.Math.max.name, Cond.code Lib.Math.max.name Lib.Math.max.code 2 (some .int), Cond.methodLink RX1 92 yX1_inward, Cond.instanceMethod yX1_inward, Cond.selects RX1 yX1_inward yX1_inward, Cond.code yX1_inward cX1_inward 4 (some .long), Cond.methodLink RX1 85 yX1_turned, Cond.instanceMethod yX1_turned, Cond.selects RX1 yX1_turned yX1_turned, Cond.code yX1_turned cX1_turned 7 (some .long)]
def wsX1_wholeBelow : List Cond := .code yX1_wholeBelow cX1_wholeBelow 5 (some .long) :: ((wsX1_wholeBelow_r1 ++ wsX1_wholeBelow_r2))
def wsX1_wholeAbove_r1 : List Cond := [Cond.fieldLink RX1 39 "ServoDesk$Kind" "floating" "Z", Cond.methodLink RX1 61 yX1_sized, Cond.instanceMethod yX1_sized, Cond.selects RX1 yX1_sized yX1_sized, Cond.initialized RX1, Cond.code yX1_sized cX1_sized 3 (some .long), Cond.fieldLink RX1 51 "ServoDesk$Kind" "sign" "J", Cond.constantLong RX1 49 (-1), Cond.methodLink RX1 77 Lib.MathLoose.abs_long.x, Cond.static Lib.MathLoose.abs_long.x, Cond.initialized "java/lang/Math", Cond.code Lib.MathLoose.abs_long.x Lib.MathLoose.abs_long.code 2 (some .long), Cond.methodLink RX1 82 yX1_fitted, Cond.instanceMethod yX1_fitted, Cond.selects RX1 yX1_fitted yX1_fitted, Cond.code yX1_fitted cX1_fitted 3 (some .long), Cond.fieldLink RX1 35 "ServoDesk$Kind" "unused" "I", Cond.methodLink RX1 92 yX1_inward, Cond.instanceMethod yX1_inward, Cond.selects RX1 yX1_inward yX1_inward, Cond.code yX1_inward cX1_inward 4 (some .long), Cond.methodLink RX1 102 yX1_one, Cond.instanceMethod yX1_one, Cond.selects RX1 yX1_one yX1_one]
def wsX1_wholeAbove_r2 : List Cond := [Cond.code yX1_one cX1_one 1 (some .long), Cond.fieldLink RX1 46 "ServoDesk$Kind" "bias" "I", Cond.fieldLink RX1 43 "ServoDesk$Kind" "fraction" "I", Cond.methodLink RX1 105 yX1_bitsBelowUnit, Cond.instanceMethod yX1_bitsBelowUnit, Cond.selects RX1 yX1_bitsBelowUnit yX1_bitsBelowUnit, Cond.code yX1_bitsBelowUnit cX1_bitsBelowUnit 3 (some .int), Cond.methodLink RX1 98 Lib.Math.max.name, Cond.static Lib.Math.max.name, Cond.code Lib.Math.max.name Lib.Math.max.code 2 (some .int), Cond.methodLink RX1 89 yX1_outward, Cond.instanceMethod yX1_outward, Cond.selects RX1 yX1_outward yX1_outward, Cond.code yX1_outward cX1_outward 5 (some .long), Cond.methodLink RX1 85 yX1_turned, Cond.instanceMethod yX1_turned, Cond.selects RX1 yX1_turned yX1_turned, Cond.code yX1_turned cX1_turned 7 (some .long)]
def wsX1_wholeAbove : List Cond := .code yX1_wholeAbove cX1_wholeAbove 5 (some .long) :: ((wsX1_wholeAbove_r1 ++ wsX1_wholeAbove_r2))
def wsX1_nearest : List Cond := .code yX1_nearest cX1_nearest 5 (some .long) :: ([.fieldLink RX1 43 "ServoDesk$Kind" "fraction" "I", .methodLink RX1 102 yX1_one, .instanceMethod yX1_one, .selects RX1 yX1_one yX1_one, .initialized RX1, .code yX1_one cX1_one 1 (some .long), .fieldLink RX1 39 "ServoDesk$Kind" "floating" "Z", .fieldLink RX1 46 "ServoDesk$Kind" "bias" "I", .methodLink RX1 105 yX1_bitsBelowUnit, .instanceMethod yX1_bitsBelowUnit, .selects RX1 yX1_bitsBelowUnit yX1_bitsBelowUnit, .code yX1_bitsBelowUnit cX1_bitsBelowUnit 3 (some .int), .methodLink RX1 98 Lib.Math.max.name, .static Lib.Math.max.name, .initialized "java/lang/Math", .code Lib.Math.max.name Lib.Math.max.code 2 (some .int), .methodLink RX1 109 yX1_scaledDown, .static yX1_scaledDown, .code yX1_scaledDown cX1_scaledDown 10 (some .long), .methodLink RX1 140 Lib.Math.min.name, .static Lib.Math.min.name, .code Lib.Math.min.name Lib.Math.min.code 2 (some .int)])
def wsX1_wholeNearest_r1 : List Cond := [Cond.fieldLink RX1 39 "ServoDesk$Kind" "floating" "Z", Cond.methodLink RX1 61 yX1_sized, Cond.instanceMethod yX1_sized, Cond.selects RX1 yX1_sized yX1_sized, Cond.initialized RX1, Cond.code yX1_sized cX1_sized 3 (some .long), Cond.fieldLink RX1 51 "ServoDesk$Kind" "sign" "J", Cond.constantLong RX1 49 (-1), Cond.methodLink RX1 77 Lib.MathLoose.abs_long.x, Cond.static Lib.MathLoose.abs_long.x, Cond.initialized "java/lang/Math", Cond.code Lib.MathLoose.abs_long.x Lib.MathLoose.abs_long.code 2 (some .long), Cond.methodLink RX1 82 yX1_fitted, Cond.instanceMethod yX1_fitted, Cond.selects RX1 yX1_fitted yX1_fitted, Cond.code yX1_fitted cX1_fitted 3 (some .long), Cond.fieldLink RX1 35 "ServoDesk$Kind" "unused" "I", Cond.methodLink RX1 95 yX1_nearest, Cond.instanceMethod yX1_nearest, Cond.selects RX1 yX1_nearest yX1_nearest, Cond.code yX1_nearest cX1_nearest 5 (some .long), Cond.fieldLink RX1 43 "ServoDesk$Kind" "fraction" "I", Cond.methodLink RX1 102 yX1_one, Cond.instanceMethod yX1_one]
def wsX1_wholeNearest_r2 : List Cond := [Cond.selects RX1 yX1_one yX1_one, Cond.code yX1_one cX1_one 1 (some .long), Cond.fieldLink RX1 46 "ServoDesk$Kind" "bias" "I", Cond.methodLink RX1 105 yX1_bitsBelowUnit, Cond.instanceMethod yX1_bitsBelowUnit, Cond.selects RX1 yX1_bitsBelowUnit yX1_bitsBelowUnit, Cond.code yX1_bitsBelowUnit cX1_bitsBelowUnit 3 (some .int), Cond.methodLink RX1 98 Lib.Math.max.name, Cond.static Lib.Math.max.name, Cond.code Lib.Math.max.name Lib.Math.max.code 2 (some .int), Cond.methodLink RX1 109 yX1_scaledDown, Cond.static yX1_scaledDown, Cond.code yX1_scaledDown cX1_scaledDown 10 (some .long), Cond.methodLink RX1 140 Lib.Math.min.name, Cond.static Lib.Math.min.name, Cond.code Lib.Math.min.name Lib.Math.min.code 2 (some .int), Cond.methodLink RX1 85 yX1_turned, Cond.instanceMethod yX1_turned, Cond.selects RX1 yX1_turned yX1_turned, Cond.code yX1_turned cX1_turned 7 (some .long)]
def wsX1_wholeNearest : List Cond := .code yX1_wholeNearest cX1_wholeNearest 3 (some .long) :: ((wsX1_wholeNearest_r1 ++ wsX1_wholeNearest_r2))
def wsX0_look_r1 : List Cond := [Cond.fieldLink RX0 7 "ServoDesk$Axis" "kind" "LServoDesk$Kind;", Cond.fieldLink RX0 13 "ServoDesk$Axis" "place" "J", Cond.fieldLink RX0 35 "ServoDesk$Axis" "way" "J", Cond.instanceMethod yX1_sized, Cond.initialized RX1, Cond.selects RX1 yX1_sized yX1_sized, Cond.code yX1_sized cX1_sized 3 (some .long), Cond.fieldLink RX1 39 "ServoDesk$Kind" "floating" "Z", Cond.fieldLink RX1 51 "ServoDesk$Kind" "sign" "J", Cond.constantLong RX1 49 (-1), Cond.methodLink RX1 77 Lib.MathLoose.abs_long.x, Cond.static Lib.MathLoose.abs_long.x, Cond.initialized "java/lang/Math", Cond.code Lib.MathLoose.abs_long.x Lib.MathLoose.abs_long.code 2 (some .long), Cond.methodLink RX1 82 yX1_fitted, Cond.instanceMethod yX1_fitted, Cond.selects RX1 yX1_fitted yX1_fitted, Cond.code yX1_fitted cX1_fitted 3 (some .long), Cond.fieldLink RX1 35 "ServoDesk$Kind" "unused" "I", Cond.instanceMethod yX1_one, Cond.selects RX1 yX1_one yX1_one, Cond.code yX1_one cX1_one 1 (some .long), Cond.fieldLink RX1 46 "ServoDesk$Kind" "bias" "I", Cond.fieldLink RX1 43 "ServoDesk$Kind" "fraction" "I"]
def wsX0_look_r2 : List Cond := [Cond.instanceMethod yX1_turned, Cond.selects RX1 yX1_turned yX1_turned, Cond.code yX1_turned cX1_turned 7 (some .long), Cond.methodLink RX1 61 yX1_sized]
def wsX0_look : List Cond := .code yX0_look cX0_look 1 none :: ((wsX0_look_r1 ++ wsX0_look_r2) ++ wsX00)
def wsX0_widen_r1 : List Cond := [Cond.fieldLink RX0 7 "ServoDesk$Axis" "kind" "LServoDesk$Kind;", Cond.fieldLink RX0 29 "ServoDesk$Axis" "high" "J", Cond.fieldLink RX0 13 "ServoDesk$Axis" "place" "J", Cond.fieldLink RX0 23 "ServoDesk$Axis" "low" "J", Cond.instanceMethod yX1_greater, Cond.initialized RX1, Cond.selects RX1 yX1_greater yX1_greater, Cond.code yX1_greater cX1_greater 5 (some .long), Cond.methodLink RX1 74 yX1_compared, Cond.instanceMethod yX1_compared, Cond.selects RX1 yX1_compared yX1_compared, Cond.code yX1_compared cX1_compared 5 (some .int), Cond.methodLink RX1 65 yX1_rank, Cond.instanceMethod yX1_rank, Cond.selects RX1 yX1_rank yX1_rank, Cond.code yX1_rank cX1_rank 3 (some .long), Cond.fieldLink RX1 39 "ServoDesk$Kind" "floating" "Z", Cond.fieldLink RX1 51 "ServoDesk$Kind" "sign" "J", Cond.constantLong RX1 49 (-1), Cond.methodLink RX1 68 yJ13_compare_74951, Cond.static yJ13_compare_74951, Cond.initialized RJ13, Cond.code yJ13_compare_74951 cJ13_compare_74951 4 (some .int), Cond.instanceMethod yX1_lesser]
def wsX0_widen_r2 : List Cond := [Cond.selects RX1 yX1_lesser yX1_lesser, Cond.code yX1_lesser cX1_lesser 5 (some .long)]
def wsX0_widen : List Cond := .code yX0_widen cX0_widen 1 none :: ((wsX0_widen_r1 ++ wsX0_widen_r2) ++ wsX00)
def wsX1_zeroBeside : List Cond := .code yX1_zeroBeside cX1_zeroBeside 3 (some .long) :: ([.methodLink RX1 85 yX1_turned, .instanceMethod yX1_turned, .selects RX1 yX1_turned yX1_turned, .initialized RX1, .code yX1_turned cX1_turned 7 (some .long), .fieldLink RX1 39 "ServoDesk$Kind" "floating" "Z", .fieldLink RX1 51 "ServoDesk$Kind" "sign" "J", .methodLink RX1 61 yX1_sized, .instanceMethod yX1_sized, .selects RX1 yX1_sized yX1_sized, .code yX1_sized cX1_sized 3 (some .long), .constantLong RX1 49 (-1), .methodLink RX1 77 Lib.MathLoose.abs_long.x, .static Lib.MathLoose.abs_long.x, .initialized "java/lang/Math", .code Lib.MathLoose.abs_long.x Lib.MathLoose.abs_long.code 2 (some .long), .methodLink RX1 82 yX1_fitted, .instanceMethod yX1_fitted, .selects RX1 yX1_fitted yX1_fitted, .code yX1_fitted cX1_fitted 3 (some .long), .fieldLink RX1 35 "ServoDesk$Kind" "unused" "I"])
def wsX0_rest_r1 : List Cond := [Cond.fieldLink RX0 7 "ServoDesk$Axis" "kind" "LServoDesk$Kind;", Cond.fieldLink RX0 13 "ServoDesk$Axis" "place" "J", Cond.fieldLink RX0 32 "ServoDesk$Axis" "band" "J", Cond.instanceMethod yX1_sized, Cond.initialized RX1, Cond.selects RX1 yX1_sized yX1_sized, Cond.code yX1_sized cX1_sized 3 (some .long), Cond.fieldLink RX1 39 "ServoDesk$Kind" "floating" "Z", Cond.fieldLink RX1 51 "ServoDesk$Kind" "sign" "J", Cond.constantLong RX1 49 (-1), Cond.methodLink RX1 77 Lib.MathLoose.abs_long.x, Cond.static Lib.MathLoose.abs_long.x, Cond.initialized "java/lang/Math", Cond.code Lib.MathLoose.abs_long.x Lib.MathLoose.abs_long.code 2 (some .long), Cond.methodLink RX1 82 yX1_fitted, Cond.instanceMethod yX1_fitted, Cond.selects RX1 yX1_fitted yX1_fitted, Cond.code yX1_fitted cX1_fitted 3 (some .long), Cond.fieldLink RX1 35 "ServoDesk$Kind" "unused" "I", Cond.instanceMethod yX1_zeroBeside, Cond.selects RX1 yX1_zeroBeside yX1_zeroBeside, Cond.code yX1_zeroBeside cX1_zeroBeside 3 (some .long), Cond.methodLink RX1 85 yX1_turned, Cond.instanceMethod yX1_turned]
def wsX0_rest_r2 : List Cond := [Cond.selects RX1 yX1_turned yX1_turned, Cond.code yX1_turned cX1_turned 7 (some .long), Cond.methodLink RX1 61 yX1_sized]
def wsX0_rest : List Cond := .code yX0_rest cX0_rest 1 none :: ((wsX0_rest_r1 ++ wsX0_rest_r2) ++ wsX00)
def wsX0_grid_r1 : List Cond := [Cond.fieldLink RX0 7 "ServoDesk$Axis" "kind" "LServoDesk$Kind;", Cond.fieldLink RX0 13 "ServoDesk$Axis" "place" "J", Cond.fieldLink RX0 23 "ServoDesk$Axis" "low" "J", Cond.fieldLink RX0 29 "ServoDesk$Axis" "high" "J", Cond.instanceMethod yX1_wholeBelow, Cond.initialized RX1, Cond.selects RX1 yX1_wholeBelow yX1_wholeBelow, Cond.code yX1_wholeBelow cX1_wholeBelow 5 (some .long), Cond.fieldLink RX1 39 "ServoDesk$Kind" "floating" "Z", Cond.methodLink RX1 61 yX1_sized, Cond.instanceMethod yX1_sized, Cond.selects RX1 yX1_sized yX1_sized, Cond.code yX1_sized cX1_sized 3 (some .long), Cond.fieldLink RX1 51 "ServoDesk$Kind" "sign" "J", Cond.constantLong RX1 49 (-1), Cond.methodLink RX1 77 Lib.MathLoose.abs_long.x, Cond.static Lib.MathLoose.abs_long.x, Cond.initialized "java/lang/Math", Cond.code Lib.MathLoose.abs_long.x Lib.MathLoose.abs_long.code 2 (some .long), Cond.methodLink RX1 82 yX1_fitted, Cond.instanceMethod yX1_fitted, Cond.selects RX1 yX1_fitted yX1_fitted, Cond.code yX1_fitted cX1_fitted 3 (some .long), Cond.fieldLink RX1 35 "ServoDesk$Kind" "unused" "I"]
def wsX0_grid_r2 : List Cond := [Cond.methodLink RX1 89 yX1_outward, Cond.instanceMethod yX1_outward, Cond.selects RX1 yX1_outward yX1_outward, Cond.code yX1_outward cX1_outward 5 (some .long), Cond.methodLink RX1 102 yX1_one, Cond.instanceMethod yX1_one, Cond.selects RX1 yX1_one yX1_one, Cond.code yX1_one cX1_one 1 (some .long), Cond.fieldLink RX1 46 "ServoDesk$Kind" "bias" "I", Cond.fieldLink RX1 43 "ServoDesk$Kind" "fraction" "I", Cond.methodLink RX1 105 yX1_bitsBelowUnit, Cond.instanceMethod yX1_bitsBelowUnit, Cond.selects RX1 yX1_bitsBelowUnit yX1_bitsBelowUnit, Cond.code yX1_bitsBelowUnit cX1_bitsBelowUnit 3 (some .int), Cond.methodLink RX1 98 Lib.Math.max.name, Cond.static Lib.Math.max.name, Cond.code Lib.Math.max.name Lib.Math.max.code 2 (some .int), Cond.methodLink RX1 92 yX1_inward, Cond.instanceMethod yX1_inward, Cond.selects RX1 yX1_inward yX1_inward, Cond.code yX1_inward cX1_inward 4 (some .long), Cond.methodLink RX1 85 yX1_turned, Cond.instanceMethod yX1_turned, Cond.selects RX1 yX1_turned yX1_turned]
def wsX0_grid_r3 : List Cond := [Cond.code yX1_turned cX1_turned 7 (some .long), Cond.instanceMethod yX1_wholeAbove, Cond.selects RX1 yX1_wholeAbove yX1_wholeAbove, Cond.code yX1_wholeAbove cX1_wholeAbove 5 (some .long)]
def wsX0_grid : List Cond := .code yX0_grid cX0_grid 1 none :: ((wsX0_grid_r1 ++ (wsX0_grid_r2 ++ wsX0_grid_r3)) ++ wsX00)
def wsX0_swap : List Cond := .code yX0_swap cX0_swap 3 none :: ([.fieldLink RX0 23 "ServoDesk$Axis" "low" "J", .fieldLink RX0 29 "ServoDesk$Axis" "high" "J"] ++ wsX00)
def wsX0_obey_r1 : List Cond := [Cond.fieldLink RX0 7 "ServoDesk$Axis" "kind" "LServoDesk$Kind;", Cond.fieldLink RX0 23 "ServoDesk$Axis" "low" "J", Cond.fieldLink RX0 29 "ServoDesk$Axis" "high" "J", Cond.fieldLink RX0 13 "ServoDesk$Axis" "place" "J", Cond.fieldLink RX0 35 "ServoDesk$Axis" "way" "J", Cond.instanceMethod yX1_lesser, Cond.initialized RX1, Cond.selects RX1 yX1_lesser yX1_lesser, Cond.code yX1_lesser cX1_lesser 5 (some .long), Cond.methodLink RX1 74 yX1_compared, Cond.instanceMethod yX1_compared, Cond.selects RX1 yX1_compared yX1_compared, Cond.code yX1_compared cX1_compared 5 (some .int), Cond.methodLink RX1 65 yX1_rank, Cond.instanceMethod yX1_rank, Cond.selects RX1 yX1_rank yX1_rank, Cond.code yX1_rank cX1_rank 3 (some .long), Cond.fieldLink RX1 39 "ServoDesk$Kind" "floating" "Z", Cond.fieldLink RX1 51 "ServoDesk$Kind" "sign" "J", Cond.constantLong RX1 49 (-1), Cond.methodLink RX1 68 yJ13_compare_74951, Cond.static yJ13_compare_74951, Cond.initialized RJ13, Cond.code yJ13_compare_74951 cJ13_compare_74951 4 (some .int)]
def wsX0_obey_r2 : List Cond := [Cond.instanceMethod yX1_greater, Cond.selects RX1 yX1_greater yX1_greater, Cond.code yX1_greater cX1_greater 5 (some .long), Cond.instanceMethod yX1_sized, Cond.selects RX1 yX1_sized yX1_sized, Cond.code yX1_sized cX1_sized 3 (some .long), Cond.methodLink RX1 77 Lib.MathLoose.abs_long.x, Cond.static Lib.MathLoose.abs_long.x, Cond.initialized "java/lang/Math", Cond.code Lib.MathLoose.abs_long.x Lib.MathLoose.abs_long.code 2 (some .long), Cond.methodLink RX1 82 yX1_fitted, Cond.instanceMethod yX1_fitted, Cond.selects RX1 yX1_fitted yX1_fitted, Cond.code yX1_fitted cX1_fitted 3 (some .long), Cond.fieldLink RX1 35 "ServoDesk$Kind" "unused" "I", Cond.instanceMethod yX1_wholeBelow, Cond.selects RX1 yX1_wholeBelow yX1_wholeBelow, Cond.code yX1_wholeBelow cX1_wholeBelow 5 (some .long), Cond.methodLink RX1 61 yX1_sized, Cond.methodLink RX1 89 yX1_outward, Cond.instanceMethod yX1_outward, Cond.selects RX1 yX1_outward yX1_outward, Cond.code yX1_outward cX1_outward 5 (some .long), Cond.methodLink RX1 102 yX1_one]
def wsX0_obey_r3 : List Cond := [Cond.instanceMethod yX1_one, Cond.selects RX1 yX1_one yX1_one, Cond.code yX1_one cX1_one 1 (some .long), Cond.fieldLink RX1 46 "ServoDesk$Kind" "bias" "I", Cond.fieldLink RX1 43 "ServoDesk$Kind" "fraction" "I", Cond.methodLink RX1 105 yX1_bitsBelowUnit, Cond.instanceMethod yX1_bitsBelowUnit, Cond.selects RX1 yX1_bitsBelowUnit yX1_bitsBelowUnit, Cond.code yX1_bitsBelowUnit cX1_bitsBelowUnit 3 (some .int), Cond.methodLink RX1 98 Lib.Math.max.name, Cond.static Lib.Math.max.name, Cond.code Lib.Math.max.name Lib.Math.max.code 2 (some .int), Cond.methodLink RX1 92 yX1_inward, Cond.instanceMethod yX1_inward, Cond.selects RX1 yX1_inward yX1_inward, Cond.code yX1_inward cX1_inward 4 (some .long), Cond.methodLink RX1 85 yX1_turned, Cond.instanceMethod yX1_turned, Cond.selects RX1 yX1_turned yX1_turned, Cond.code yX1_turned cX1_turned 7 (some .long), Cond.instanceMethod yX1_wholeAbove, Cond.selects RX1 yX1_wholeAbove yX1_wholeAbove, Cond.code yX1_wholeAbove cX1_wholeAbove 5 (some .long), Cond.instanceMethod yX1_wholeNearest]
def wsX0_obey_r4 : List Cond := [Cond.selects RX1 yX1_wholeNearest yX1_wholeNearest, Cond.code yX1_wholeNearest cX1_wholeNearest 3 (some .long), Cond.methodLink RX1 95 yX1_nearest, Cond.instanceMethod yX1_nearest, Cond.selects RX1 yX1_nearest yX1_nearest, Cond.code yX1_nearest cX1_nearest 5 (some .long), Cond.methodLink RX1 109 yX1_scaledDown, Cond.static yX1_scaledDown, Cond.code yX1_scaledDown cX1_scaledDown 10 (some .long), Cond.methodLink RX1 140 Lib.Math.min.name, Cond.static Lib.Math.min.name, Cond.code Lib.Math.min.name Lib.Math.min.code 2 (some .int), Cond.methodLink RX0 69 yX0_look, Cond.instanceMethod yX0_look, Cond.selects RX0 yX0_look yX0_look, Cond.initialized RX0, Cond.code yX0_look cX0_look 1 none, Cond.methodLink RX0 75 yX0_widen, Cond.instanceMethod yX0_widen, Cond.selects RX0 yX0_widen yX0_widen, Cond.code yX0_widen cX0_widen 1 none, Cond.methodLink RX0 78 yX0_rest, Cond.instanceMethod yX0_rest, Cond.selects RX0 yX0_rest yX0_rest]
def wsX0_obey_r5 : List Cond := [Cond.code yX0_rest cX0_rest 1 none, Cond.fieldLink RX0 32 "ServoDesk$Axis" "band" "J", Cond.instanceMethod yX1_zeroBeside, Cond.selects RX1 yX1_zeroBeside yX1_zeroBeside, Cond.code yX1_zeroBeside cX1_zeroBeside 3 (some .long), Cond.methodLink RX0 81 yX0_grid, Cond.instanceMethod yX0_grid, Cond.selects RX0 yX0_grid yX0_grid, Cond.code yX0_grid cX0_grid 1 none, Cond.methodLink RX0 84 yX0_swap, Cond.instanceMethod yX0_swap, Cond.selects RX0 yX0_swap yX0_swap, Cond.code yX0_swap cX0_swap 3 none]
def wsX0_obey : List Cond := .code yX0_obey cX0_obey 2 none :: ((wsX0_obey_r1 ++ (wsX0_obey_r2 ++ (wsX0_obey_r3 ++ (wsX0_obey_r4 ++ wsX0_obey_r5)))) ++ wsX00)
def wsX2_init : List Cond := .code yX2_init cX2_init 1 none :: ([.methodLink RX2 1 objectInit, .instanceMethod objectInit, .code objectInit ⟨#[0xb1]⟩ 1 none, .classLink RX2 9 RX0, .fieldLink RX2 11 "ServoDesk" "axes" "[LServoDesk$Axis;", .fieldLink RX2 15 "ServoDesk" "count" "I"] ++ wsX20)
def wsX2_axis_r1 : List Cond := [Cond.fieldLink RX2 19 "ServoDesk" "KINDS" "[LServoDesk$Kind;", Cond.fieldLink RX2 15 "ServoDesk" "count" "I", Cond.fieldLink RX2 11 "ServoDesk" "axes" "[LServoDesk$Axis;", Cond.classLink RX2 9 RX0, Cond.instantiable RX0 6, Cond.initialized RX0, Cond.instanceMethod yX0_init, Cond.code yX0_init cX0_init 2 none, Cond.methodLink RX0 1 objectInit, Cond.instanceMethod objectInit, Cond.code objectInit ⟨#[0xb1]⟩ 1 none, Cond.fieldLink RX0 7 "ServoDesk$Axis" "kind" "LServoDesk$Kind;", Cond.fieldLink RX0 13 "ServoDesk$Axis" "place" "J", Cond.fieldLink RX0 23 "ServoDesk$Axis" "low" "J", Cond.fieldLink RX0 29 "ServoDesk$Axis" "high" "J", Cond.fieldLink RX0 32 "ServoDesk$Axis" "band" "J", Cond.fieldLink RX0 35 "ServoDesk$Axis" "way" "J", Cond.instanceMethod yX1_least, Cond.initialized RX1, Cond.selects RX1 yX1_least yX1_least, Cond.code yX1_least cX1_least 1 (some .long), Cond.fieldLink RX1 39 "ServoDesk$Kind" "floating" "Z", Cond.fieldLink RX1 51 "ServoDesk$Kind" "sign" "J", Cond.methodLink RX1 57 yX1_infinity]
def wsX2_axis_r2 : List Cond := [Cond.instanceMethod yX1_infinity, Cond.selects RX1 yX1_infinity yX1_infinity, Cond.code yX1_infinity cX1_infinity 1 (some .long), Cond.constantLong RX1 55 (2), Cond.fieldLink RX1 46 "ServoDesk$Kind" "bias" "I", Cond.fieldLink RX1 43 "ServoDesk$Kind" "fraction" "I", Cond.instanceMethod yX1_greatest, Cond.selects RX1 yX1_greatest yX1_greatest, Cond.code yX1_greatest cX1_greatest 1 (some .long), Cond.constantLong RX1 49 (-1)]
def wsX2_axis : List Cond := .code yX2_axis cX2_axis 2 (some .int) :: ((wsX2_axis_r1 ++ wsX2_axis_r2) ++ wsX20 ++ wsX00)
def wsX2_find : List Cond := .code yX2_find cX2_find 2 (some (.object "ServoDesk$Axis")) :: ([.fieldLink RX2 15 "ServoDesk" "count" "I", .fieldLink RX2 11 "ServoDesk" "axes" "[LServoDesk$Axis;"] ++ wsX20)
def wsX2_set_r1 : List Cond := [Cond.methodLink RX2 26 yX2_find, Cond.instanceMethod yX2_find, Cond.selects RX2 yX2_find yX2_find, Cond.initialized RX2, Cond.code yX2_find cX2_find 2 (some (.object "ServoDesk$Axis")), Cond.fieldLink RX2 15 "ServoDesk" "count" "I", Cond.fieldLink RX2 11 "ServoDesk" "axes" "[LServoDesk$Axis;", Cond.instanceMethod yX0_put, Cond.initialized RX0, Cond.selects RX0 yX0_put yX0_put, Cond.code yX0_put cX0_put 6 (some .boolean), Cond.fieldLink RX0 7 "ServoDesk$Axis" "kind" "LServoDesk$Kind;", Cond.fieldLink RX0 13 "ServoDesk$Axis" "place" "J", Cond.fieldLink RX0 23 "ServoDesk$Axis" "low" "J", Cond.fieldLink RX0 29 "ServoDesk$Axis" "high" "J", Cond.fieldLink RX0 32 "ServoDesk$Axis" "band" "J", Cond.fieldLink RX0 35 "ServoDesk$Axis" "way" "J", Cond.instanceMethod yX1_fitted, Cond.initialized RX1, Cond.selects RX1 yX1_fitted yX1_fitted, Cond.code yX1_fitted cX1_fitted 3 (some .long), Cond.fieldLink RX1 35 "ServoDesk$Kind" "unused" "I", Cond.instanceMethod yX1_isNumber, Cond.selects RX1 yX1_isNumber yX1_isNumber]
def wsX2_set_r2 : List Cond := [Cond.code yX1_isNumber cX1_isNumber 3 (some .boolean), Cond.fieldLink RX1 39 "ServoDesk$Kind" "floating" "Z", Cond.methodLink RX1 61 yX1_sized, Cond.instanceMethod yX1_sized, Cond.selects RX1 yX1_sized yX1_sized, Cond.code yX1_sized cX1_sized 3 (some .long), Cond.fieldLink RX1 51 "ServoDesk$Kind" "sign" "J", Cond.constantLong RX1 49 (-1), Cond.methodLink RX1 77 Lib.MathLoose.abs_long.x, Cond.static Lib.MathLoose.abs_long.x, Cond.initialized "java/lang/Math", Cond.code Lib.MathLoose.abs_long.x Lib.MathLoose.abs_long.code 2 (some .long), Cond.methodLink RX1 82 yX1_fitted, Cond.methodLink RX1 57 yX1_infinity, Cond.instanceMethod yX1_infinity, Cond.selects RX1 yX1_infinity yX1_infinity, Cond.code yX1_infinity cX1_infinity 1 (some .long), Cond.constantLong RX1 55 (2), Cond.fieldLink RX1 46 "ServoDesk$Kind" "bias" "I", Cond.fieldLink RX1 43 "ServoDesk$Kind" "fraction" "I"]
def wsX2_set : List Cond := .code yX2_set cX2_set 6 (some .boolean) :: ((wsX2_set_r1 ++ wsX2_set_r2) ++ wsX20 ++ wsX00)
def wsX2_bits : List Cond := .code yX2_bits cX2_bits 4 (some .long) :: ([.methodLink RX2 26 yX2_find, .instanceMethod yX2_find, .selects RX2 yX2_find yX2_find, .initialized RX2, .code yX2_find cX2_find 2 (some (.object "ServoDesk$Axis")), .fieldLink RX2 15 "ServoDesk" "count" "I", .fieldLink RX2 11 "ServoDesk" "axes" "[LServoDesk$Axis;", .instanceMethod yX0_number, .initialized RX0, .selects RX0 yX0_number yX0_number, .code yX0_number cX0_number 2 (some .long), .fieldLink RX0 13 "ServoDesk$Axis" "place" "J", .fieldLink RX0 23 "ServoDesk$Axis" "low" "J", .fieldLink RX0 29 "ServoDesk$Axis" "high" "J", .fieldLink RX0 32 "ServoDesk$Axis" "band" "J", .fieldLink RX0 35 "ServoDesk$Axis" "way" "J"] ++ wsX20 ++ wsX00)
def wsX2_orderAt : List Cond := .code yX2_orderAt cX2_orderAt 2 (some .int) :: ([])
def wsX2_lengthOf : List Cond := .code yX2_lengthOf cX2_lengthOf 3 (some .int) :: ([.methodLink RX2 42 yX2_orderAt, .static yX2_orderAt, .initialized RX2, .code yX2_orderAt cX2_orderAt 2 (some .int)])
def wsX2_orders_r1 : List Cond := [Cond.methodLink RX2 26 yX2_find, Cond.instanceMethod yX2_find, Cond.selects RX2 yX2_find yX2_find, Cond.initialized RX2, Cond.code yX2_find cX2_find 2 (some (.object "ServoDesk$Axis")), Cond.fieldLink RX2 15 "ServoDesk" "count" "I", Cond.fieldLink RX2 11 "ServoDesk" "axes" "[LServoDesk$Axis;", Cond.methodLink RX2 38 yX2_lengthOf, Cond.static yX2_lengthOf, Cond.code yX2_lengthOf cX2_lengthOf 3 (some .int), Cond.methodLink RX2 42 yX2_orderAt, Cond.static yX2_orderAt, Cond.code yX2_orderAt cX2_orderAt 2 (some .int), Cond.instanceMethod yX0_obey, Cond.initialized RX0, Cond.selects RX0 yX0_obey yX0_obey, Cond.code yX0_obey cX0_obey 2 none, Cond.fieldLink RX0 7 "ServoDesk$Axis" "kind" "LServoDesk$Kind;", Cond.fieldLink RX0 23 "ServoDesk$Axis" "low" "J", Cond.fieldLink RX0 29 "ServoDesk$Axis" "high" "J", Cond.fieldLink RX0 13 "ServoDesk$Axis" "place" "J", Cond.fieldLink RX0 35 "ServoDesk$Axis" "way" "J", Cond.instanceMethod yX1_lesser, Cond.initialized RX1]
def wsX2_orders_r2 : List Cond := [Cond.selects RX1 yX1_lesser yX1_lesser, Cond.code yX1_lesser cX1_lesser 5 (some .long), Cond.methodLink RX1 74 yX1_compared, Cond.instanceMethod yX1_compared, Cond.selects RX1 yX1_compared yX1_compared, Cond.code yX1_compared cX1_compared 5 (some .int), Cond.methodLink RX1 65 yX1_rank, Cond.instanceMethod yX1_rank, Cond.selects RX1 yX1_rank yX1_rank, Cond.code yX1_rank cX1_rank 3 (some .long), Cond.fieldLink RX1 39 "ServoDesk$Kind" "floating" "Z", Cond.fieldLink RX1 51 "ServoDesk$Kind" "sign" "J", Cond.constantLong RX1 49 (-1), Cond.methodLink RX1 68 yJ13_compare_74951, Cond.static yJ13_compare_74951, Cond.initialized RJ13, Cond.code yJ13_compare_74951 cJ13_compare_74951 4 (some .int), Cond.instanceMethod yX1_greater, Cond.selects RX1 yX1_greater yX1_greater, Cond.code yX1_greater cX1_greater 5 (some .long), Cond.instanceMethod yX1_sized, Cond.selects RX1 yX1_sized yX1_sized, Cond.code yX1_sized cX1_sized 3 (some .long), Cond.methodLink RX1 77 Lib.MathLoose.abs_long.x]
def wsX2_orders_r3 : List Cond := [Cond.static Lib.MathLoose.abs_long.x, Cond.initialized "java/lang/Math", Cond.code Lib.MathLoose.abs_long.x Lib.MathLoose.abs_long.code 2 (some .long), Cond.methodLink RX1 82 yX1_fitted, Cond.instanceMethod yX1_fitted, Cond.selects RX1 yX1_fitted yX1_fitted, Cond.code yX1_fitted cX1_fitted 3 (some .long), Cond.fieldLink RX1 35 "ServoDesk$Kind" "unused" "I", Cond.instanceMethod yX1_wholeBelow, Cond.selects RX1 yX1_wholeBelow yX1_wholeBelow, Cond.code yX1_wholeBelow cX1_wholeBelow 5 (some .long), Cond.methodLink RX1 61 yX1_sized, Cond.methodLink RX1 89 yX1_outward, Cond.instanceMethod yX1_outward, Cond.selects RX1 yX1_outward yX1_outward, Cond.code yX1_outward cX1_outward 5 (some .long), Cond.methodLink RX1 102 yX1_one, Cond.instanceMethod yX1_one, Cond.selects RX1 yX1_one yX1_one, Cond.code yX1_one cX1_one 1 (some .long), Cond.fieldLink RX1 46 "ServoDesk$Kind" "bias" "I", Cond.fieldLink RX1 43 "ServoDesk$Kind" "fraction" "I", Cond.methodLink RX1 105 yX1_bitsBelowUnit, Cond.instanceMethod yX1_bitsBelowUnit]
def wsX2_orders_r4 : List Cond := [Cond.selects RX1 yX1_bitsBelowUnit yX1_bitsBelowUnit, Cond.code yX1_bitsBelowUnit cX1_bitsBelowUnit 3 (some .int), Cond.methodLink RX1 98 Lib.Math.max.name, Cond.static Lib.Math.max.name, Cond.code Lib.Math.max.name Lib.Math.max.code 2 (some .int), Cond.methodLink RX1 92 yX1_inward, Cond.instanceMethod yX1_inward, Cond.selects RX1 yX1_inward yX1_inward, Cond.code yX1_inward cX1_inward 4 (some .long), Cond.methodLink RX1 85 yX1_turned, Cond.instanceMethod yX1_turned, Cond.selects RX1 yX1_turned yX1_turned, Cond.code yX1_turned cX1_turned 7 (some .long), Cond.instanceMethod yX1_wholeAbove, Cond.selects RX1 yX1_wholeAbove yX1_wholeAbove, Cond.code yX1_wholeAbove cX1_wholeAbove 5 (some .long), Cond.instanceMethod yX1_wholeNearest, Cond.selects RX1 yX1_wholeNearest yX1_wholeNearest, Cond.code yX1_wholeNearest cX1_wholeNearest 3 (some .long), Cond.methodLink RX1 95 yX1_nearest, Cond.instanceMethod yX1_nearest, Cond.selects RX1 yX1_nearest yX1_nearest, Cond.code yX1_nearest cX1_nearest 5 (some .long), Cond.methodLink RX1 109 yX1_scaledDown]
def wsX2_orders_r5 : List Cond := [Cond.static yX1_scaledDown, Cond.code yX1_scaledDown cX1_scaledDown 10 (some .long), Cond.methodLink RX1 140 Lib.Math.min.name, Cond.static Lib.Math.min.name, Cond.code Lib.Math.min.name Lib.Math.min.code 2 (some .int), Cond.methodLink RX0 69 yX0_look, Cond.instanceMethod yX0_look, Cond.selects RX0 yX0_look yX0_look, Cond.code yX0_look cX0_look 1 none, Cond.methodLink RX0 75 yX0_widen, Cond.instanceMethod yX0_widen, Cond.selects RX0 yX0_widen yX0_widen, Cond.code yX0_widen cX0_widen 1 none, Cond.methodLink RX0 78 yX0_rest, Cond.instanceMethod yX0_rest, Cond.selects RX0 yX0_rest yX0_rest, Cond.code yX0_rest cX0_rest 1 none, Cond.fieldLink RX0 32 "ServoDesk$Axis" "band" "J", Cond.instanceMethod yX1_zeroBeside, Cond.selects RX1 yX1_zeroBeside yX1_zeroBeside, Cond.code yX1_zeroBeside cX1_zeroBeside 3 (some .long), Cond.methodLink RX0 81 yX0_grid, Cond.instanceMethod yX0_grid, Cond.selects RX0 yX0_grid yX0_grid]
def wsX2_orders_r6 : List Cond := [Cond.code yX0_grid cX0_grid 1 none, Cond.methodLink RX0 84 yX0_swap, Cond.instanceMethod yX0_swap, Cond.selects RX0 yX0_swap yX0_swap, Cond.code yX0_swap cX0_swap 3 none]
def wsX2_orders : List Cond := .code yX2_orders cX2_orders 6 (some .int) :: ((wsX2_orders_r1 ++ (wsX2_orders_r2 ++ (wsX2_orders_r3 ++ (wsX2_orders_r4 ++ (wsX2_orders_r5 ++ wsX2_orders_r6))))) ++ wsX20 ++ wsX00)
def wsX2_follow_r1 : List Cond := [Cond.methodLink RX2 26 yX2_find, Cond.instanceMethod yX2_find, Cond.selects RX2 yX2_find yX2_find, Cond.initialized RX2, Cond.code yX2_find cX2_find 2 (some (.object "ServoDesk$Axis")), Cond.fieldLink RX2 15 "ServoDesk" "count" "I", Cond.fieldLink RX2 11 "ServoDesk" "axes" "[LServoDesk$Axis;", Cond.instanceMethod yX0_moveTo, Cond.initialized RX0, Cond.selects RX0 yX0_moveTo yX0_moveTo, Cond.code yX0_moveTo cX0_moveTo 2 none, Cond.fieldLink RX0 7 "ServoDesk$Axis" "kind" "LServoDesk$Kind;", Cond.fieldLink RX0 13 "ServoDesk$Axis" "place" "J", Cond.instanceMethod yX1_made, Cond.initialized RX1, Cond.selects RX1 yX1_made yX1_made, Cond.code yX1_made cX1_made 7 (some .long), Cond.fieldLink RX1 39 "ServoDesk$Kind" "floating" "Z", Cond.methodLink RX1 77 Lib.MathLoose.abs_long.x, Cond.static Lib.MathLoose.abs_long.x, Cond.initialized "java/lang/Math", Cond.code Lib.MathLoose.abs_long.x Lib.MathLoose.abs_long.code 2 (some .long), Cond.methodLink RX1 125 Lib.MathLoose.min_long.x, Cond.static Lib.MathLoose.min_long.x]
def wsX2_follow_r2 : List Cond := [Cond.code Lib.MathLoose.min_long.x Lib.MathLoose.min_long.code 4 (some .long), Cond.methodLink RX1 128 Lib.MathLoose.max_long.x, Cond.static Lib.MathLoose.max_long.x, Cond.code Lib.MathLoose.max_long.x Lib.MathLoose.max_long.code 4 (some .long), Cond.methodLink RX1 113 yX1_sizeOf, Cond.instanceMethod yX1_sizeOf, Cond.selects RX1 yX1_sizeOf yX1_sizeOf, Cond.code yX1_sizeOf cX1_sizeOf 8 (some .long), Cond.fieldLink RX1 46 "ServoDesk$Kind" "bias" "I", Cond.methodLink RX1 98 Lib.Math.max.name, Cond.static Lib.Math.max.name, Cond.code Lib.Math.max.name Lib.Math.max.code 2 (some .int), Cond.fieldLink RX1 43 "ServoDesk$Kind" "fraction" "I", Cond.methodLink RX1 142 yJ13_numberOfLeadingZeros_95d88, Cond.static yJ13_numberOfLeadingZeros_95d88, Cond.initialized RJ13, Cond.code yJ13_numberOfLeadingZeros_95d88 cJ13_numberOfLeadingZeros_95d88 3 (some .int), Cond.methodLink RJ13 308 yJ6_numberOfLeadingZeros_0f7a4, Cond.static yJ6_numberOfLeadingZeros_0f7a4, Cond.initialized RJ6, Cond.code yJ6_numberOfLeadingZeros_0f7a4 cJ6_numberOfLeadingZeros_0f7a4 2 (some .int), Cond.constant RJ6 264 (65536), Cond.methodLink RX1 57 yX1_infinity, Cond.instanceMethod yX1_infinity]
def wsX2_follow_r3 : List Cond := [Cond.selects RX1 yX1_infinity yX1_infinity, Cond.code yX1_infinity cX1_infinity 1 (some .long), Cond.constantLong RX1 55 (2), Cond.methodLink RX1 109 yX1_scaledDown, Cond.static yX1_scaledDown, Cond.code yX1_scaledDown cX1_scaledDown 10 (some .long), Cond.methodLink RX1 140 Lib.Math.min.name, Cond.static Lib.Math.min.name, Cond.code Lib.Math.min.name Lib.Math.min.code 2 (some .int), Cond.methodLink RX1 85 yX1_turned, Cond.instanceMethod yX1_turned, Cond.selects RX1 yX1_turned yX1_turned, Cond.code yX1_turned cX1_turned 7 (some .long), Cond.fieldLink RX1 51 "ServoDesk$Kind" "sign" "J", Cond.methodLink RX1 61 yX1_sized, Cond.instanceMethod yX1_sized, Cond.selects RX1 yX1_sized yX1_sized, Cond.code yX1_sized cX1_sized 3 (some .long), Cond.constantLong RX1 49 (-1), Cond.methodLink RX1 82 yX1_fitted, Cond.instanceMethod yX1_fitted, Cond.selects RX1 yX1_fitted yX1_fitted, Cond.code yX1_fitted cX1_fitted 3 (some .long), Cond.fieldLink RX1 35 "ServoDesk$Kind" "unused" "I"]
def wsX2_follow_r4 : List Cond := [Cond.methodLink RX1 116 yX1_least, Cond.instanceMethod yX1_least, Cond.selects RX1 yX1_least yX1_least, Cond.code yX1_least cX1_least 1 (some .long), Cond.methodLink RX1 119 yX1_greatest, Cond.instanceMethod yX1_greatest, Cond.selects RX1 yX1_greatest yX1_greatest, Cond.code yX1_greatest cX1_greatest 1 (some .long), Cond.methodLink RX1 122 yX1_towardsZero, Cond.instanceMethod yX1_towardsZero, Cond.selects RX1 yX1_towardsZero yX1_towardsZero, Cond.code yX1_towardsZero cX1_towardsZero 10 (some .long), Cond.constantLong RX1 136 (-9223372036854775808), Cond.constantLong RX1 138 (9223372036854775807), Cond.methodLink RX1 133 yX1_scale, Cond.instanceMethod yX1_scale, Cond.selects RX1 yX1_scale yX1_scale, Cond.code yX1_scale cX1_scale 3 (some .int), Cond.methodLink RX1 130 yX1_significand, Cond.instanceMethod yX1_significand, Cond.selects RX1 yX1_significand yX1_significand, Cond.code yX1_significand cX1_significand 5 (some .long)]
def wsX2_follow : List Cond := .code yX2_follow cX2_follow 5 (some .boolean) :: ((wsX2_follow_r1 ++ (wsX2_follow_r2 ++ (wsX2_follow_r3 ++ wsX2_follow_r4))) ++ wsX20 ++ wsX00)
def wsX2_order : List Cond := .code yX2_order cX2_order 5 (some .int) :: ([.methodLink RX2 26 yX2_find, .instanceMethod yX2_find, .selects RX2 yX2_find yX2_find, .initialized RX2, .code yX2_find cX2_find 2 (some (.object "ServoDesk$Axis")), .fieldLink RX2 15 "ServoDesk" "count" "I", .fieldLink RX2 11 "ServoDesk" "axes" "[LServoDesk$Axis;", .instanceMethod yX1_compared, .initialized RX1, .selects RX1 yX1_compared yX1_compared, .code yX1_compared cX1_compared 5 (some .int), .methodLink RX1 65 yX1_rank, .instanceMethod yX1_rank, .selects RX1 yX1_rank yX1_rank, .code yX1_rank cX1_rank 3 (some .long), .fieldLink RX1 39 "ServoDesk$Kind" "floating" "Z", .fieldLink RX1 51 "ServoDesk$Kind" "sign" "J", .constantLong RX1 49 (-1), .methodLink RX1 68 yJ13_compare_74951, .static yJ13_compare_74951, .initialized RJ13, .code yJ13_compare_74951 cJ13_compare_74951 4 (some .int)] ++ wsX00 ++ wsX20)
def wsX3_init : List Cond := .code yX3_init cX3_init 1 none :: ([.methodLink RX3 1 objectInit, .instanceMethod objectInit, .code objectInit ⟨#[0xb1]⟩ 1 none, .arrayClass .int, .fieldLink RX3 7 "ServoDeskModel" "kind" "[I", .arrayClass .long, .fieldLink RX3 13 "ServoDeskModel" "number" "[J"] ++ wsX30)
def wsX3_isAxis : List Cond := .code yX3_isAxis cX3_isAxis 2 (some .boolean) :: ([.fieldLink RX3 17 "ServoDeskModel" "many" "I"] ++ wsX30)
def wsX3_isFloating : List Cond := .code yX3_isFloating cX3_isFloating 1 (some .boolean) :: ([])
def wsX3_fractionOf : List Cond := .code yX3_fractionOf cX3_fractionOf 1 (some .int) :: ([])
def wsX3_endless : List Cond := .code yX3_endless cX3_endless 1 (some .long) :: ([.constantLong RX3 21 (2139095040), .constantLong RX3 23 (9218868437227405312)])
def wsX3_size : List Cond := .code yX3_size cX3_size 3 (some .long) :: ([.constantLong RX3 25 (2147483647), .constantLong RX3 27 (9223372036854775807)])
def wsX3_signed : List Cond := .code yX3_signed cX3_signed 4 (some .long) :: ([.constantLong RX3 29 (2147483648), .constantLong RX3 31 (-9223372036854775808)])
def wsX3_one : List Cond := .code yX3_one cX3_one 1 (some .long) :: ([.constantLong RX3 33 (1065353216), .constantLong RX3 35 (4607182418800017408)])
def wsX3_rank : List Cond := .code yX3_rank cX3_rank 3 (some .long) :: ([.constantLong RX3 41 (-1), .methodLink RX3 37 yX3_isFloating, .static yX3_isFloating, .initialized RX3, .code yX3_isFloating cX3_isFloating 1 (some .boolean), .methodLink RX3 43 yX3_size, .static yX3_size, .code yX3_size cX3_size 3 (some .long), .constantLong RX3 25 (2147483647), .constantLong RX3 27 (9223372036854775807)])
def wsX3_isLess : List Cond := .code yX3_isLess cX3_isLess 5 (some .boolean) :: ([.methodLink RX3 47 yX3_rank, .static yX3_rank, .initialized RX3, .code yX3_rank cX3_rank 3 (some .long), .constantLong RX3 41 (-1), .methodLink RX3 37 yX3_isFloating, .static yX3_isFloating, .code yX3_isFloating cX3_isFloating 1 (some .boolean), .methodLink RX3 43 yX3_size, .static yX3_size, .code yX3_size cX3_size 3 (some .long), .constantLong RX3 25 (2147483647), .constantLong RX3 27 (9223372036854775807)])
def wsX3_lesser : List Cond := .code yX3_lesser cX3_lesser 5 (some .long) :: ([.methodLink RX3 50 yX3_isLess, .static yX3_isLess, .initialized RX3, .code yX3_isLess cX3_isLess 5 (some .boolean), .methodLink RX3 47 yX3_rank, .static yX3_rank, .code yX3_rank cX3_rank 3 (some .long), .constantLong RX3 41 (-1), .methodLink RX3 37 yX3_isFloating, .static yX3_isFloating, .code yX3_isFloating cX3_isFloating 1 (some .boolean), .methodLink RX3 43 yX3_size, .static yX3_size, .code yX3_size cX3_size 3 (some .long), .constantLong RX3 25 (2147483647), .constantLong RX3 27 (9223372036854775807)])
def wsX3_greater : List Cond := .code yX3_greater cX3_greater 5 (some .long) :: ([.methodLink RX3 50 yX3_isLess, .static yX3_isLess, .initialized RX3, .code yX3_isLess cX3_isLess 5 (some .boolean), .methodLink RX3 47 yX3_rank, .static yX3_rank, .code yX3_rank cX3_rank 3 (some .long), .constantLong RX3 41 (-1), .methodLink RX3 37 yX3_isFloating, .static yX3_isFloating, .code yX3_isFloating cX3_isFloating 1 (some .boolean), .methodLink RX3 43 yX3_size, .static yX3_size, .code yX3_size cX3_size 3 (some .long), .constantLong RX3 25 (2147483647), .constantLong RX3 27 (9223372036854775807)])
def wsX3_sized : List Cond := .code yX3_sized cX3_sized 3 (some .long) :: ([.methodLink RX3 37 yX3_isFloating, .static yX3_isFloating, .initialized RX3, .code yX3_isFloating cX3_isFloating 1 (some .boolean), .methodLink RX3 43 yX3_size, .static yX3_size, .code yX3_size cX3_size 3 (some .long), .constantLong RX3 25 (2147483647), .constantLong RX3 27 (9223372036854775807)])
def wsX3_stepped : List Cond := .code yX3_stepped cX3_stepped 18 (some .long) :: ([.constantLong RX3 66 (2), .methodLink RX3 37 yX3_isFloating, .static yX3_isFloating, .initialized RX3, .code yX3_isFloating cX3_isFloating 1 (some .boolean), .methodLink RX3 54 yX3_fractionOf, .static yX3_fractionOf, .code yX3_fractionOf cX3_fractionOf 1 (some .int), .methodLink RX3 43 yX3_size, .static yX3_size, .code yX3_size cX3_size 3 (some .long), .constantLong RX3 25 (2147483647), .constantLong RX3 27 (9223372036854775807), .methodLink RX3 58 yX3_one, .static yX3_one, .code yX3_one cX3_one 1 (some .long), .constantLong RX3 33 (1065353216), .constantLong RX3 35 (4607182418800017408), .methodLink RX3 62 yX3_signed, .static yX3_signed, .code yX3_signed cX3_signed 4 (some .long), .constantLong RX3 29 (2147483648), .constantLong RX3 31 (-9223372036854775808)])
def wsX3_nearest : List Cond := .code yX3_nearest cX3_nearest 16 (some .long) :: ([.methodLink RX3 62 yX3_signed, .static yX3_signed, .initialized RX3, .code yX3_signed cX3_signed 4 (some .long), .constantLong RX3 29 (2147483648), .constantLong RX3 31 (-9223372036854775808), .methodLink RX3 54 yX3_fractionOf, .static yX3_fractionOf, .code yX3_fractionOf cX3_fractionOf 1 (some .int), .methodLink RX3 68 yX3_endless, .static yX3_endless, .code yX3_endless cX3_endless 1 (some .long), .constantLong RX3 21 (2139095040), .constantLong RX3 23 (9218868437227405312)])
def wsX3_cut : List Cond := .code yX3_cut cX3_cut 14 (some .long) :: ([.constantLong RX3 71 (-2147483648), .constantLong RX3 31 (-9223372036854775808), .constantLong RX3 25 (2147483647), .constantLong RX3 27 (9223372036854775807), .methodLink RX3 54 yX3_fractionOf, .static yX3_fractionOf, .initialized RX3, .code yX3_fractionOf cX3_fractionOf 1 (some .int), .methodLink RX3 43 yX3_size, .static yX3_size, .code yX3_size cX3_size 3 (some .long)])
def wsX3_turnedInto_r1 : List Cond := [Cond.methodLink RX3 37 yX3_isFloating, Cond.static yX3_isFloating, Cond.initialized RX3, Cond.code yX3_isFloating cX3_isFloating 1 (some .boolean), Cond.methodLink RX3 73 yX3_nearest, Cond.static yX3_nearest, Cond.code yX3_nearest cX3_nearest 16 (some .long), Cond.methodLink RX3 62 yX3_signed, Cond.static yX3_signed, Cond.code yX3_signed cX3_signed 4 (some .long), Cond.constantLong RX3 29 (2147483648), Cond.constantLong RX3 31 (-9223372036854775808), Cond.methodLink RX3 54 yX3_fractionOf, Cond.static yX3_fractionOf, Cond.code yX3_fractionOf cX3_fractionOf 1 (some .int), Cond.methodLink RX3 68 yX3_endless, Cond.static yX3_endless, Cond.code yX3_endless cX3_endless 1 (some .long), Cond.constantLong RX3 21 (2139095040), Cond.constantLong RX3 23 (9218868437227405312), Cond.methodLink RX3 77 yX3_cut, Cond.static yX3_cut, Cond.code yX3_cut cX3_cut 14 (some .long), Cond.constantLong RX3 71 (-2147483648)]
def wsX3_turnedInto_r2 : List Cond := [Cond.constantLong RX3 25 (2147483647), Cond.constantLong RX3 27 (9223372036854775807), Cond.methodLink RX3 43 yX3_size, Cond.static yX3_size, Cond.code yX3_size cX3_size 3 (some .long)]
def wsX3_turnedInto : List Cond := .code yX3_turnedInto cX3_turnedInto 11 (some .long) :: ((wsX3_turnedInto_r1 ++ wsX3_turnedInto_r2))
def wsX3_axis : List Cond := .code yX3_axis cX3_axis 3 (some .int) :: ([.fieldLink RX3 17 "ServoDeskModel" "many" "I", .fieldLink RX3 7 "ServoDeskModel" "kind" "[I", .fieldLink RX3 13 "ServoDeskModel" "number" "[J", .constantLong RX3 71 (-2147483648), .constantLong RX3 31 (-9223372036854775808), .constantLong RX3 25 (2147483647), .constantLong RX3 27 (9223372036854775807), .methodLink RX3 68 yX3_endless, .static yX3_endless, .initialized RX3, .code yX3_endless cX3_endless 1 (some .long), .constantLong RX3 21 (2139095040), .constantLong RX3 23 (9218868437227405312), .methodLink RX3 62 yX3_signed, .static yX3_signed, .code yX3_signed cX3_signed 4 (some .long), .constantLong RX3 29 (2147483648)] ++ wsX30)
def wsX3_set : List Cond := .code yX3_set cX3_set 8 (some .boolean) :: ([.fieldLink RX3 7 "ServoDeskModel" "kind" "[I", .fieldLink RX3 13 "ServoDeskModel" "number" "[J", .methodLink RX3 81 yX3_isAxis, .instanceMethod yX3_isAxis, .selects RX3 yX3_isAxis yX3_isAxis, .initialized RX3, .code yX3_isAxis cX3_isAxis 2 (some .boolean), .fieldLink RX3 17 "ServoDeskModel" "many" "I", .methodLink RX3 37 yX3_isFloating, .static yX3_isFloating, .code yX3_isFloating cX3_isFloating 1 (some .boolean), .methodLink RX3 43 yX3_size, .static yX3_size, .code yX3_size cX3_size 3 (some .long), .constantLong RX3 25 (2147483647), .constantLong RX3 27 (9223372036854775807), .methodLink RX3 68 yX3_endless, .static yX3_endless, .code yX3_endless cX3_endless 1 (some .long), .constantLong RX3 21 (2139095040), .constantLong RX3 23 (9218868437227405312)] ++ wsX30)
def wsX3_bits : List Cond := .code yX3_bits cX3_bits 3 (some .long) :: ([.fieldLink RX3 13 "ServoDeskModel" "number" "[J", .methodLink RX3 81 yX3_isAxis, .instanceMethod yX3_isAxis, .selects RX3 yX3_isAxis yX3_isAxis, .initialized RX3, .code yX3_isAxis cX3_isAxis 2 (some .boolean), .fieldLink RX3 17 "ServoDeskModel" "many" "I"] ++ wsX30)
def wsX3_wayOf : List Cond := .code yX3_wayOf cX3_wayOf 3 (some .long) :: ([.constantLong RX3 41 (-1), .methodLink RX3 37 yX3_isFloating, .static yX3_isFloating, .initialized RX3, .code yX3_isFloating cX3_isFloating 1 (some .boolean), .methodLink RX3 43 yX3_size, .static yX3_size, .code yX3_size cX3_size 3 (some .long), .constantLong RX3 25 (2147483647), .constantLong RX3 27 (9223372036854775807), .methodLink RX3 58 yX3_one, .static yX3_one, .code yX3_one cX3_one 1 (some .long), .constantLong RX3 33 (1065353216), .constantLong RX3 35 (4607182418800017408), .methodLink RX3 62 yX3_signed, .static yX3_signed, .code yX3_signed cX3_signed 4 (some .long), .constantLong RX3 29 (2147483648), .constantLong RX3 31 (-9223372036854775808)])
def wsX3_turned : List Cond := .code yX3_turned cX3_turned 7 (some .long) :: ([.methodLink RX3 37 yX3_isFloating, .static yX3_isFloating, .initialized RX3, .code yX3_isFloating cX3_isFloating 1 (some .boolean), .methodLink RX3 43 yX3_size, .static yX3_size, .code yX3_size cX3_size 3 (some .long), .constantLong RX3 25 (2147483647), .constantLong RX3 27 (9223372036854775807), .methodLink RX3 62 yX3_signed, .static yX3_signed, .code yX3_signed cX3_signed 4 (some .long), .constantLong RX3 29 (2147483648), .constantLong RX3 31 (-9223372036854775808), .methodLink RX3 95 yX3_sized, .static yX3_sized, .code yX3_sized cX3_sized 3 (some .long)])
def wsX3_does_r1 : List Cond := [Cond.fieldLink RX3 13 "ServoDeskModel" "number" "[J", Cond.methodLink RX3 88 yX3_lesser, Cond.static yX3_lesser, Cond.initialized RX3, Cond.code yX3_lesser cX3_lesser 5 (some .long), Cond.methodLink RX3 50 yX3_isLess, Cond.static yX3_isLess, Cond.code yX3_isLess cX3_isLess 5 (some .boolean), Cond.methodLink RX3 47 yX3_rank, Cond.static yX3_rank, Cond.code yX3_rank cX3_rank 3 (some .long), Cond.constantLong RX3 41 (-1), Cond.methodLink RX3 37 yX3_isFloating, Cond.static yX3_isFloating, Cond.code yX3_isFloating cX3_isFloating 1 (some .boolean), Cond.methodLink RX3 43 yX3_size, Cond.static yX3_size, Cond.code yX3_size cX3_size 3 (some .long), Cond.constantLong RX3 25 (2147483647), Cond.constantLong RX3 27 (9223372036854775807), Cond.methodLink RX3 92 yX3_greater, Cond.static yX3_greater, Cond.code yX3_greater cX3_greater 5 (some .long), Cond.methodLink RX3 95 yX3_sized]
def wsX3_does_r2 : List Cond := [Cond.static yX3_sized, Cond.code yX3_sized cX3_sized 3 (some .long), Cond.methodLink RX3 98 yX3_stepped, Cond.static yX3_stepped, Cond.code yX3_stepped cX3_stepped 18 (some .long), Cond.constantLong RX3 66 (2), Cond.methodLink RX3 54 yX3_fractionOf, Cond.static yX3_fractionOf, Cond.code yX3_fractionOf cX3_fractionOf 1 (some .int), Cond.methodLink RX3 58 yX3_one, Cond.static yX3_one, Cond.code yX3_one cX3_one 1 (some .long), Cond.constantLong RX3 33 (1065353216), Cond.constantLong RX3 35 (4607182418800017408), Cond.methodLink RX3 62 yX3_signed, Cond.static yX3_signed, Cond.code yX3_signed cX3_signed 4 (some .long), Cond.constantLong RX3 29 (2147483648), Cond.constantLong RX3 31 (-9223372036854775808), Cond.methodLink RX3 102 yX3_wayOf, Cond.static yX3_wayOf, Cond.code yX3_wayOf cX3_wayOf 3 (some .long), Cond.methodLink RX3 105 yX3_turned, Cond.static yX3_turned]
def wsX3_does_r3 : List Cond := [Cond.code yX3_turned cX3_turned 7 (some .long)]
def wsX3_does : List Cond := .code yX3_does cX3_does 10 none :: ((wsX3_does_r1 ++ (wsX3_does_r2 ++ wsX3_does_r3)) ++ wsX30)
def wsX3_orders_r1 : List Cond := [Cond.fieldLink RX3 7 "ServoDeskModel" "kind" "[I", Cond.methodLink RX3 81 yX3_isAxis, Cond.instanceMethod yX3_isAxis, Cond.selects RX3 yX3_isAxis yX3_isAxis, Cond.initialized RX3, Cond.code yX3_isAxis cX3_isAxis 2 (some .boolean), Cond.fieldLink RX3 17 "ServoDeskModel" "many" "I", Cond.methodLink RX3 84 yX3_does, Cond.instanceMethod yX3_does, Cond.selects RX3 yX3_does yX3_does, Cond.code yX3_does cX3_does 10 none, Cond.fieldLink RX3 13 "ServoDeskModel" "number" "[J", Cond.methodLink RX3 88 yX3_lesser, Cond.static yX3_lesser, Cond.code yX3_lesser cX3_lesser 5 (some .long), Cond.methodLink RX3 50 yX3_isLess, Cond.static yX3_isLess, Cond.code yX3_isLess cX3_isLess 5 (some .boolean), Cond.methodLink RX3 47 yX3_rank, Cond.static yX3_rank, Cond.code yX3_rank cX3_rank 3 (some .long), Cond.constantLong RX3 41 (-1), Cond.methodLink RX3 37 yX3_isFloating, Cond.static yX3_isFloating]
def wsX3_orders_r2 : List Cond := [Cond.code yX3_isFloating cX3_isFloating 1 (some .boolean), Cond.methodLink RX3 43 yX3_size, Cond.static yX3_size, Cond.code yX3_size cX3_size 3 (some .long), Cond.constantLong RX3 25 (2147483647), Cond.constantLong RX3 27 (9223372036854775807), Cond.methodLink RX3 92 yX3_greater, Cond.static yX3_greater, Cond.code yX3_greater cX3_greater 5 (some .long), Cond.methodLink RX3 95 yX3_sized, Cond.static yX3_sized, Cond.code yX3_sized cX3_sized 3 (some .long), Cond.methodLink RX3 98 yX3_stepped, Cond.static yX3_stepped, Cond.code yX3_stepped cX3_stepped 18 (some .long), Cond.constantLong RX3 66 (2), Cond.methodLink RX3 54 yX3_fractionOf, Cond.static yX3_fractionOf, Cond.code yX3_fractionOf cX3_fractionOf 1 (some .int), Cond.methodLink RX3 58 yX3_one, Cond.static yX3_one, Cond.code yX3_one cX3_one 1 (some .long), Cond.constantLong RX3 33 (1065353216), Cond.constantLong RX3 35 (4607182418800017408)]
def wsX3_orders_r3 : List Cond := [Cond.methodLink RX3 62 yX3_signed, Cond.static yX3_signed, Cond.code yX3_signed cX3_signed 4 (some .long), Cond.constantLong RX3 29 (2147483648), Cond.constantLong RX3 31 (-9223372036854775808), Cond.methodLink RX3 102 yX3_wayOf, Cond.static yX3_wayOf, Cond.code yX3_wayOf cX3_wayOf 3 (some .long), Cond.methodLink RX3 105 yX3_turned, Cond.static yX3_turned, Cond.code yX3_turned cX3_turned 7 (some .long)]
def wsX3_orders : List Cond := .code yX3_orders cX3_orders 5 (some .int) :: ((wsX3_orders_r1 ++ (wsX3_orders_r2 ++ wsX3_orders_r3)) ++ wsX30)
def wsX3_follow_r1 : List Cond := [Cond.fieldLink RX3 13 "ServoDeskModel" "number" "[J", Cond.fieldLink RX3 7 "ServoDeskModel" "kind" "[I", Cond.methodLink RX3 81 yX3_isAxis, Cond.instanceMethod yX3_isAxis, Cond.selects RX3 yX3_isAxis yX3_isAxis, Cond.initialized RX3, Cond.code yX3_isAxis cX3_isAxis 2 (some .boolean), Cond.fieldLink RX3 17 "ServoDeskModel" "many" "I", Cond.methodLink RX3 108 yX3_turnedInto, Cond.static yX3_turnedInto, Cond.code yX3_turnedInto cX3_turnedInto 11 (some .long), Cond.methodLink RX3 37 yX3_isFloating, Cond.static yX3_isFloating, Cond.code yX3_isFloating cX3_isFloating 1 (some .boolean), Cond.methodLink RX3 73 yX3_nearest, Cond.static yX3_nearest, Cond.code yX3_nearest cX3_nearest 16 (some .long), Cond.methodLink RX3 62 yX3_signed, Cond.static yX3_signed, Cond.code yX3_signed cX3_signed 4 (some .long), Cond.constantLong RX3 29 (2147483648), Cond.constantLong RX3 31 (-9223372036854775808), Cond.methodLink RX3 54 yX3_fractionOf, Cond.static yX3_fractionOf]
def wsX3_follow_r2 : List Cond := [Cond.code yX3_fractionOf cX3_fractionOf 1 (some .int), Cond.methodLink RX3 68 yX3_endless, Cond.static yX3_endless, Cond.code yX3_endless cX3_endless 1 (some .long), Cond.constantLong RX3 21 (2139095040), Cond.constantLong RX3 23 (9218868437227405312), Cond.methodLink RX3 77 yX3_cut, Cond.static yX3_cut, Cond.code yX3_cut cX3_cut 14 (some .long), Cond.constantLong RX3 71 (-2147483648), Cond.constantLong RX3 25 (2147483647), Cond.constantLong RX3 27 (9223372036854775807), Cond.methodLink RX3 43 yX3_size, Cond.static yX3_size, Cond.code yX3_size cX3_size 3 (some .long)]
def wsX3_follow : List Cond := .code yX3_follow cX3_follow 3 (some .boolean) :: ((wsX3_follow_r1 ++ wsX3_follow_r2) ++ wsX30)
def wsX3_order : List Cond := .code yX3_order cX3_order 7 (some .int) :: ([.fieldLink RX3 7 "ServoDeskModel" "kind" "[I", .fieldLink RX3 13 "ServoDeskModel" "number" "[J", .methodLink RX3 81 yX3_isAxis, .instanceMethod yX3_isAxis, .selects RX3 yX3_isAxis yX3_isAxis, .initialized RX3, .code yX3_isAxis cX3_isAxis 2 (some .boolean), .fieldLink RX3 17 "ServoDeskModel" "many" "I", .methodLink RX3 47 yX3_rank, .static yX3_rank, .code yX3_rank cX3_rank 3 (some .long), .constantLong RX3 41 (-1), .methodLink RX3 37 yX3_isFloating, .static yX3_isFloating, .code yX3_isFloating cX3_isFloating 1 (some .boolean), .methodLink RX3 43 yX3_size, .static yX3_size, .code yX3_size cX3_size 3 (some .long), .constantLong RX3 25 (2147483647), .constantLong RX3 27 (9223372036854775807)] ++ wsX30)
def wsJ9_abs_067f4 : List Cond := .code yJ9_abs_067f4 cJ9_abs_067f4 2 (some .long) :: ([])
def wsJ9_max_7cf53 : List Cond := .code yJ9_max_7cf53 cJ9_max_7cf53 2 (some .int) :: ([])
def wsJ9_max_f86c9 : List Cond := .code yJ9_max_f86c9 cJ9_max_f86c9 4 (some .long) :: ([])
def wsJ9_min_7cf53 : List Cond := .code yJ9_min_7cf53 cJ9_min_7cf53 2 (some .int) :: ([])
def wsJ9_min_f86c9 : List Cond := .code yJ9_min_f86c9 cJ9_min_f86c9 4 (some .long) :: ([])
def wsL_law_r1 : List Cond := [Cond.classLink RL 7 RX2, Cond.instantiable RX2 2, Cond.initialized RX2, Cond.classLink RL 10 RX3, Cond.instantiable RX3 3, Cond.initialized RX3, Cond.constantLong RL 18 (4294967295), Cond.methodLink RL 9 yX2_init, Cond.instanceMethod yX2_init, Cond.code yX2_init cX2_init 1 none, Cond.methodLink RX2 1 objectInit, Cond.instanceMethod objectInit, Cond.code objectInit ⟨#[0xb1]⟩ 1 none, Cond.classLink RX2 9 RX0, Cond.fieldLink RX2 11 "ServoDesk" "axes" "[LServoDesk$Axis;", Cond.fieldLink RX2 15 "ServoDesk" "count" "I", Cond.methodLink RL 12 yX3_init, Cond.instanceMethod yX3_init, Cond.code yX3_init cX3_init 1 none, Cond.methodLink RX3 1 objectInit, Cond.arrayClass .int, Cond.fieldLink RX3 7 "ServoDeskModel" "kind" "[I", Cond.arrayClass .long, Cond.fieldLink RX3 13 "ServoDeskModel" "number" "[J"]
def wsL_law_r2 : List Cond := [Cond.methodLink RL 13 yX2_axis, Cond.instanceMethod yX2_axis, Cond.selects RX2 yX2_axis yX2_axis, Cond.code yX2_axis cX2_axis 2 (some .int), Cond.fieldLink RX2 19 "ServoDesk" "KINDS" "[LServoDesk$Kind;", Cond.instantiable RX0 6, Cond.initialized RX0, Cond.instanceMethod yX0_init, Cond.code yX0_init cX0_init 2 none, Cond.methodLink RX0 1 objectInit, Cond.fieldLink RX0 7 "ServoDesk$Axis" "kind" "LServoDesk$Kind;", Cond.fieldLink RX0 13 "ServoDesk$Axis" "place" "J", Cond.fieldLink RX0 23 "ServoDesk$Axis" "low" "J", Cond.fieldLink RX0 29 "ServoDesk$Axis" "high" "J", Cond.fieldLink RX0 32 "ServoDesk$Axis" "band" "J", Cond.fieldLink RX0 35 "ServoDesk$Axis" "way" "J", Cond.instanceMethod yX1_least, Cond.initialized RX1, Cond.selects RX1 yX1_least yX1_least, Cond.code yX1_least cX1_least 1 (some .long), Cond.fieldLink RX1 39 "ServoDesk$Kind" "floating" "Z", Cond.fieldLink RX1 51 "ServoDesk$Kind" "sign" "J", Cond.methodLink RX1 57 yX1_infinity, Cond.instanceMethod yX1_infinity]
def wsL_law_r3 : List Cond := [Cond.selects RX1 yX1_infinity yX1_infinity, Cond.code yX1_infinity cX1_infinity 1 (some .long), Cond.constantLong RX1 55 (2), Cond.fieldLink RX1 46 "ServoDesk$Kind" "bias" "I", Cond.fieldLink RX1 43 "ServoDesk$Kind" "fraction" "I", Cond.instanceMethod yX1_greatest, Cond.selects RX1 yX1_greatest yX1_greatest, Cond.code yX1_greatest cX1_greatest 1 (some .long), Cond.constantLong RX1 49 (-1), Cond.methodLink RL 17 yX3_axis, Cond.instanceMethod yX3_axis, Cond.selects RX3 yX3_axis yX3_axis, Cond.code yX3_axis cX3_axis 3 (some .int), Cond.fieldLink RX3 17 "ServoDeskModel" "many" "I", Cond.constantLong RX3 71 (-2147483648), Cond.constantLong RX3 31 (-9223372036854775808), Cond.constantLong RX3 25 (2147483647), Cond.constantLong RX3 27 (9223372036854775807), Cond.methodLink RX3 68 yX3_endless, Cond.static yX3_endless, Cond.code yX3_endless cX3_endless 1 (some .long), Cond.constantLong RX3 21 (2139095040), Cond.constantLong RX3 23 (9218868437227405312), Cond.methodLink RX3 62 yX3_signed]
def wsL_law_r4 : List Cond := [Cond.static yX3_signed, Cond.code yX3_signed cX3_signed 4 (some .long), Cond.constantLong RX3 29 (2147483648), Cond.methodLink RL 20 yX2_set, Cond.instanceMethod yX2_set, Cond.selects RX2 yX2_set yX2_set, Cond.code yX2_set cX2_set 6 (some .boolean), Cond.methodLink RX2 26 yX2_find, Cond.instanceMethod yX2_find, Cond.selects RX2 yX2_find yX2_find, Cond.code yX2_find cX2_find 2 (some (.object "ServoDesk$Axis")), Cond.instanceMethod yX0_put, Cond.selects RX0 yX0_put yX0_put, Cond.code yX0_put cX0_put 6 (some .boolean), Cond.instanceMethod yX1_fitted, Cond.selects RX1 yX1_fitted yX1_fitted, Cond.code yX1_fitted cX1_fitted 3 (some .long), Cond.fieldLink RX1 35 "ServoDesk$Kind" "unused" "I", Cond.instanceMethod yX1_isNumber, Cond.selects RX1 yX1_isNumber yX1_isNumber, Cond.code yX1_isNumber cX1_isNumber 3 (some .boolean), Cond.methodLink RX1 61 yX1_sized, Cond.instanceMethod yX1_sized, Cond.selects RX1 yX1_sized yX1_sized]
def wsL_law_r5 : List Cond := [Cond.code yX1_sized cX1_sized 3 (some .long), Cond.methodLink RX1 77 Lib.MathLoose.abs_long.x, Cond.static Lib.MathLoose.abs_long.x, Cond.initialized "java/lang/Math", Cond.code Lib.MathLoose.abs_long.x Lib.MathLoose.abs_long.code 2 (some .long), Cond.methodLink RX1 82 yX1_fitted, Cond.methodLink RL 24 yX3_set, Cond.instanceMethod yX3_set, Cond.selects RX3 yX3_set yX3_set, Cond.code yX3_set cX3_set 8 (some .boolean), Cond.methodLink RX3 81 yX3_isAxis, Cond.instanceMethod yX3_isAxis, Cond.selects RX3 yX3_isAxis yX3_isAxis, Cond.code yX3_isAxis cX3_isAxis 2 (some .boolean), Cond.methodLink RX3 37 yX3_isFloating, Cond.static yX3_isFloating, Cond.code yX3_isFloating cX3_isFloating 1 (some .boolean), Cond.methodLink RX3 43 yX3_size, Cond.static yX3_size, Cond.code yX3_size cX3_size 3 (some .long), Cond.methodLink RL 25 yX2_bits, Cond.instanceMethod yX2_bits, Cond.selects RX2 yX2_bits yX2_bits, Cond.code yX2_bits cX2_bits 4 (some .long)]
def wsL_law_r6 : List Cond := [Cond.instanceMethod yX0_number, Cond.selects RX0 yX0_number yX0_number, Cond.code yX0_number cX0_number 2 (some .long), Cond.methodLink RL 29 yX3_bits, Cond.instanceMethod yX3_bits, Cond.selects RX3 yX3_bits yX3_bits, Cond.code yX3_bits cX3_bits 3 (some .long), Cond.methodLink RL 30 yX2_orders, Cond.instanceMethod yX2_orders, Cond.selects RX2 yX2_orders yX2_orders, Cond.code yX2_orders cX2_orders 6 (some .int), Cond.methodLink RX2 38 yX2_lengthOf, Cond.static yX2_lengthOf, Cond.code yX2_lengthOf cX2_lengthOf 3 (some .int), Cond.methodLink RX2 42 yX2_orderAt, Cond.static yX2_orderAt, Cond.code yX2_orderAt cX2_orderAt 2 (some .int), Cond.instanceMethod yX0_obey, Cond.selects RX0 yX0_obey yX0_obey, Cond.code yX0_obey cX0_obey 2 none, Cond.instanceMethod yX1_lesser, Cond.selects RX1 yX1_lesser yX1_lesser, Cond.code yX1_lesser cX1_lesser 5 (some .long), Cond.methodLink RX1 74 yX1_compared]
def wsL_law_r7 : List Cond := [Cond.instanceMethod yX1_compared, Cond.selects RX1 yX1_compared yX1_compared, Cond.code yX1_compared cX1_compared 5 (some .int), Cond.methodLink RX1 65 yX1_rank, Cond.instanceMethod yX1_rank, Cond.selects RX1 yX1_rank yX1_rank, Cond.code yX1_rank cX1_rank 3 (some .long), Cond.methodLink RX1 68 yJ13_compare_74951, Cond.static yJ13_compare_74951, Cond.initialized RJ13, Cond.code yJ13_compare_74951 cJ13_compare_74951 4 (some .int), Cond.instanceMethod yX1_greater, Cond.selects RX1 yX1_greater yX1_greater, Cond.code yX1_greater cX1_greater 5 (some .long), Cond.instanceMethod yX1_wholeBelow, Cond.selects RX1 yX1_wholeBelow yX1_wholeBelow, Cond.code yX1_wholeBelow cX1_wholeBelow 5 (some .long), Cond.methodLink RX1 89 yX1_outward, Cond.instanceMethod yX1_outward, Cond.selects RX1 yX1_outward yX1_outward, Cond.code yX1_outward cX1_outward 5 (some .long), Cond.methodLink RX1 102 yX1_one, Cond.instanceMethod yX1_one, Cond.selects RX1 yX1_one yX1_one]
def wsL_law_r8 : List Cond := [Cond.code yX1_one cX1_one 1 (some .long), Cond.methodLink RX1 105 yX1_bitsBelowUnit, Cond.instanceMethod yX1_bitsBelowUnit, Cond.selects RX1 yX1_bitsBelowUnit yX1_bitsBelowUnit, Cond.code yX1_bitsBelowUnit cX1_bitsBelowUnit 3 (some .int), Cond.methodLink RX1 98 Lib.Math.max.name, Cond.static Lib.Math.max.name, Cond.code Lib.Math.max.name Lib.Math.max.code 2 (some .int), Cond.methodLink RX1 92 yX1_inward, Cond.instanceMethod yX1_inward, Cond.selects RX1 yX1_inward yX1_inward, Cond.code yX1_inward cX1_inward 4 (some .long), Cond.methodLink RX1 85 yX1_turned, Cond.instanceMethod yX1_turned, Cond.selects RX1 yX1_turned yX1_turned, Cond.code yX1_turned cX1_turned 7 (some .long), Cond.instanceMethod yX1_wholeAbove, Cond.selects RX1 yX1_wholeAbove yX1_wholeAbove, Cond.code yX1_wholeAbove cX1_wholeAbove 5 (some .long), Cond.instanceMethod yX1_wholeNearest, Cond.selects RX1 yX1_wholeNearest yX1_wholeNearest, Cond.code yX1_wholeNearest cX1_wholeNearest 3 (some .long), Cond.methodLink RX1 95 yX1_nearest, Cond.instanceMethod yX1_nearest]
def wsL_law_r9 : List Cond := [Cond.selects RX1 yX1_nearest yX1_nearest, Cond.code yX1_nearest cX1_nearest 5 (some .long), Cond.methodLink RX1 109 yX1_scaledDown, Cond.static yX1_scaledDown, Cond.code yX1_scaledDown cX1_scaledDown 10 (some .long), Cond.methodLink RX1 140 Lib.Math.min.name, Cond.static Lib.Math.min.name, Cond.code Lib.Math.min.name Lib.Math.min.code 2 (some .int), Cond.methodLink RX0 69 yX0_look, Cond.instanceMethod yX0_look, Cond.selects RX0 yX0_look yX0_look, Cond.code yX0_look cX0_look 1 none, Cond.methodLink RX0 75 yX0_widen, Cond.instanceMethod yX0_widen, Cond.selects RX0 yX0_widen yX0_widen, Cond.code yX0_widen cX0_widen 1 none, Cond.methodLink RX0 78 yX0_rest, Cond.instanceMethod yX0_rest, Cond.selects RX0 yX0_rest yX0_rest, Cond.code yX0_rest cX0_rest 1 none, Cond.instanceMethod yX1_zeroBeside, Cond.selects RX1 yX1_zeroBeside yX1_zeroBeside, Cond.code yX1_zeroBeside cX1_zeroBeside 3 (some .long), Cond.methodLink RX0 81 yX0_grid]
def wsL_law_r10 : List Cond := [Cond.instanceMethod yX0_grid, Cond.selects RX0 yX0_grid yX0_grid, Cond.code yX0_grid cX0_grid 1 none, Cond.methodLink RX0 84 yX0_swap, Cond.instanceMethod yX0_swap, Cond.selects RX0 yX0_swap yX0_swap, Cond.code yX0_swap cX0_swap 3 none, Cond.methodLink RL 34 yX3_orders, Cond.instanceMethod yX3_orders, Cond.selects RX3 yX3_orders yX3_orders, Cond.code yX3_orders cX3_orders 5 (some .int), Cond.methodLink RX3 84 yX3_does, Cond.instanceMethod yX3_does, Cond.selects RX3 yX3_does yX3_does, Cond.code yX3_does cX3_does 10 none, Cond.methodLink RX3 88 yX3_lesser, Cond.static yX3_lesser, Cond.code yX3_lesser cX3_lesser 5 (some .long), Cond.methodLink RX3 50 yX3_isLess, Cond.static yX3_isLess, Cond.code yX3_isLess cX3_isLess 5 (some .boolean), Cond.methodLink RX3 47 yX3_rank, Cond.static yX3_rank, Cond.code yX3_rank cX3_rank 3 (some .long)]
def wsL_law_r11 : List Cond := [Cond.constantLong RX3 41 (-1), Cond.methodLink RX3 92 yX3_greater, Cond.static yX3_greater, Cond.code yX3_greater cX3_greater 5 (some .long), Cond.methodLink RX3 95 yX3_sized, Cond.static yX3_sized, Cond.code yX3_sized cX3_sized 3 (some .long), Cond.methodLink RX3 98 yX3_stepped, Cond.static yX3_stepped, Cond.code yX3_stepped cX3_stepped 18 (some .long), Cond.constantLong RX3 66 (2), Cond.methodLink RX3 54 yX3_fractionOf, Cond.static yX3_fractionOf, Cond.code yX3_fractionOf cX3_fractionOf 1 (some .int), Cond.methodLink RX3 58 yX3_one, Cond.static yX3_one, Cond.code yX3_one cX3_one 1 (some .long), Cond.constantLong RX3 33 (1065353216), Cond.constantLong RX3 35 (4607182418800017408), Cond.methodLink RX3 102 yX3_wayOf, Cond.static yX3_wayOf, Cond.code yX3_wayOf cX3_wayOf 3 (some .long), Cond.methodLink RX3 105 yX3_turned, Cond.static yX3_turned]
def wsL_law_r12 : List Cond := [Cond.code yX3_turned cX3_turned 7 (some .long), Cond.methodLink RL 35 yX2_follow, Cond.instanceMethod yX2_follow, Cond.selects RX2 yX2_follow yX2_follow, Cond.code yX2_follow cX2_follow 5 (some .boolean), Cond.instanceMethod yX0_moveTo, Cond.selects RX0 yX0_moveTo yX0_moveTo, Cond.code yX0_moveTo cX0_moveTo 2 none, Cond.instanceMethod yX1_made, Cond.selects RX1 yX1_made yX1_made, Cond.code yX1_made cX1_made 7 (some .long), Cond.methodLink RX1 125 Lib.MathLoose.min_long.x, Cond.static Lib.MathLoose.min_long.x, Cond.code Lib.MathLoose.min_long.x Lib.MathLoose.min_long.code 4 (some .long), Cond.methodLink RX1 128 Lib.MathLoose.max_long.x, Cond.static Lib.MathLoose.max_long.x, Cond.code Lib.MathLoose.max_long.x Lib.MathLoose.max_long.code 4 (some .long), Cond.methodLink RX1 113 yX1_sizeOf, Cond.instanceMethod yX1_sizeOf, Cond.selects RX1 yX1_sizeOf yX1_sizeOf, Cond.code yX1_sizeOf cX1_sizeOf 8 (some .long), Cond.methodLink RX1 142 yJ13_numberOfLeadingZeros_95d88, Cond.static yJ13_numberOfLeadingZeros_95d88, Cond.code yJ13_numberOfLeadingZeros_95d88 cJ13_numberOfLeadingZeros_95d88 3 (some .int)]
def wsL_law_r13 : List Cond := [Cond.methodLink RJ13 308 yJ6_numberOfLeadingZeros_0f7a4, Cond.static yJ6_numberOfLeadingZeros_0f7a4, Cond.initialized RJ6, Cond.code yJ6_numberOfLeadingZeros_0f7a4 cJ6_numberOfLeadingZeros_0f7a4 2 (some .int), Cond.constant RJ6 264 (65536), Cond.methodLink RX1 116 yX1_least, Cond.methodLink RX1 119 yX1_greatest, Cond.methodLink RX1 122 yX1_towardsZero, Cond.instanceMethod yX1_towardsZero, Cond.selects RX1 yX1_towardsZero yX1_towardsZero, Cond.code yX1_towardsZero cX1_towardsZero 10 (some .long), Cond.constantLong RX1 136 (-9223372036854775808), Cond.constantLong RX1 138 (9223372036854775807), Cond.methodLink RX1 133 yX1_scale, Cond.instanceMethod yX1_scale, Cond.selects RX1 yX1_scale yX1_scale, Cond.code yX1_scale cX1_scale 3 (some .int), Cond.methodLink RX1 130 yX1_significand, Cond.instanceMethod yX1_significand, Cond.selects RX1 yX1_significand yX1_significand, Cond.code yX1_significand cX1_significand 5 (some .long), Cond.methodLink RL 39 yX3_follow, Cond.instanceMethod yX3_follow, Cond.selects RX3 yX3_follow yX3_follow]
def wsL_law_r14 : List Cond := [Cond.code yX3_follow cX3_follow 3 (some .boolean), Cond.methodLink RX3 108 yX3_turnedInto, Cond.static yX3_turnedInto, Cond.code yX3_turnedInto cX3_turnedInto 11 (some .long), Cond.methodLink RX3 73 yX3_nearest, Cond.static yX3_nearest, Cond.code yX3_nearest cX3_nearest 16 (some .long), Cond.methodLink RX3 77 yX3_cut, Cond.static yX3_cut, Cond.code yX3_cut cX3_cut 14 (some .long), Cond.methodLink RL 40 yX2_order, Cond.instanceMethod yX2_order, Cond.selects RX2 yX2_order yX2_order, Cond.code yX2_order cX2_order 5 (some .int), Cond.methodLink RL 43 yX3_order, Cond.instanceMethod yX3_order, Cond.selects RX3 yX3_order yX3_order, Cond.code yX3_order cX3_order 7 (some .int)]
def wsL_law : List Cond := (wsL_law_r1 ++ (wsL_law_r2 ++ (wsL_law_r3 ++ (wsL_law_r4 ++ (wsL_law_r5 ++ (wsL_law_r6 ++ (wsL_law_r7 ++ (wsL_law_r8 ++ (wsL_law_r9 ++ (wsL_law_r10 ++ (wsL_law_r11 ++ (wsL_law_r12 ++ (wsL_law_r13 ++ wsL_law_r14))))))))))))) ++ wsX20 ++ wsX30 ++ wsX00 ++ ([] : List Cond)
end
section
set_option maxRecDepth 20000 in
theorem ggX0_init_X1_least : GoodIn wsX0_init wsX1_least := goodIn_r _ [13, 14, 15, 16, 17, 18, 11, 19, 20, 21, 22] (by decide +kernel) (by decide +kernel)
set_option maxRecDepth 20000 in
theorem gX0_init_X1_least_n17 : GoodIn wsX0_init (wsX1_least) := ggX0_init_X1_least
set_option maxRecDepth 20000 in
theorem ggX0_init_X1_greatest : GoodIn wsX0_init wsX1_greatest := goodIn_r _ [25, 14, 15, 26, 16, 17, 18, 11, 19, 20, 21, 22] (by decide +kernel) (by decide +kernel)
set_option maxRecDepth 20000 in
theorem gX0_init_X1_greatest_n26 : GoodIn wsX0_init (wsX1_greatest) := ggX0_init_X1_greatest
theorem dX0_init_0 : decode cX0_init 0 = .ok (.aload_n 0, 1) := by decide +kernel
theorem dX0_init_1 : decode cX0_init 1 = .ok (.invokespecial 1, 3) := by decide +kernel
theorem dX0_init_4 : decode cX0_init 4 = .ok (.aload_n 0, 1) := by decide +kernel
theorem dX0_init_5 : decode cX0_init 5 = .ok (.aload_n 1, 1) := by decide +kernel
theorem dX0_init_6 : decode cX0_init 6 = .ok (.putfield 7, 3) := by decide +kernel
theorem dX0_init_9 : decode cX0_init 9 = .ok (.aload_n 0, 1) := by decide +kernel
theorem dX0_init_10 : decode cX0_init 10 = .ok (.lconst 0, 1) := by decide +kernel
theorem dX0_init_11 : decode cX0_init 11 = .ok (.putfield 13, 3) := by decide +kernel
theorem dX0_init_14 : decode cX0_init 14 = .ok (.aload_n 0, 1) := by decide +kernel
theorem dX0_init_15 : decode cX0_init 15 = .ok (.aload_n 1, 1) := by decide +kernel
theorem dX0_init_16 : decode cX0_init 16 = .ok (.invokevirtual 17, 3) := by decide +kernel
theorem dX0_init_19 : decode cX0_init 19 = .ok (.putfield 23, 3) := by decide +kernel
theorem dX0_init_22 : decode cX0_init 22 = .ok (.aload_n 0, 1) := by decide +kernel
theorem dX0_init_23 : decode cX0_init 23 = .ok (.aload_n 1, 1) := by decide +kernel
theorem dX0_init_24 : decode cX0_init 24 = .ok (.invokevirtual 26, 3) := by decide +kernel
theorem dX0_init_27 : decode cX0_init 27 = .ok (.putfield 29, 3) := by decide +kernel
theorem dX0_init_30 : decode cX0_init 30 = .ok (.aload_n 0, 1) := by decide +kernel
theorem dX0_init_31 : decode cX0_init 31 = .ok (.lconst 0, 1) := by decide +kernel
theorem dX0_init_32 : decode cX0_init 32 = .ok (.putfield 32, 3) := by decide +kernel
theorem dX0_init_35 : decode cX0_init 35 = .ok (.aload_n 0, 1) := by decide +kernel
theorem dX0_init_36 : decode cX0_init 36 = .ok (.lconst 0, 1) := by decide +kernel
theorem dX0_init_37 : decode cX0_init 37 = .ok (.putfield 35, 3) := by decide +kernel
theorem dX0_init_40 : decode cX0_init 40 = .ok (.return_, 1) := by decide +kernel
set_option maxRecDepth 20000 in
theorem ggX0_put_X1_fitted : GoodIn wsX0_put wsX1_fitted := goodIn_r _ [10, 11] (by decide +kernel) (by decide +kernel)
set_option maxRecDepth 20000 in
theorem gX0_put_X1_fitted_n38 : GoodIn wsX0_put (wsX1_fitted) := ggX0_put_X1_fitted
set_option maxRecDepth 20000 in
theorem ggX0_put_X1_isNumber : GoodIn wsX0_put wsX1_isNumber := goodIn_r _ [14, 15, 16, 17, 18, 8, 19, 20, 21, 22, 23, 24, 25, 26, 7, 9, 10, 11, 27, 28, 29, 30, 31, 32, 33] (by decide +kernel) (by decide +kernel)
set_option maxRecDepth 20000 in
theorem gX0_put_X1_isNumber_n42 : GoodIn wsX0_put (wsX1_isNumber) := ggX0_put_X1_isNumber
theorem dX0_put_0 : decode cX0_put 0 = .ok (.aload_n 0, 1) := by decide +kernel
theorem dX0_put_1 : decode cX0_put 1 = .ok (.getfield 7, 3) := by decide +kernel
theorem dX0_put_4 : decode cX0_put 4 = .ok (.lload_n 2, 1) := by decide +kernel
theorem dX0_put_5 : decode cX0_put 5 = .ok (.invokevirtual 38, 3) := by decide +kernel
theorem dX0_put_8 : decode cX0_put 8 = .ok (.lstore 4, 2) := by decide +kernel
theorem dX0_put_10 : decode cX0_put 10 = .ok (.aload_n 0, 1) := by decide +kernel
theorem dX0_put_11 : decode cX0_put 11 = .ok (.getfield 7, 3) := by decide +kernel
theorem dX0_put_14 : decode cX0_put 14 = .ok (.lload 4, 2) := by decide +kernel
theorem dX0_put_16 : decode cX0_put 16 = .ok (.invokevirtual 42, 3) := by decide +kernel
theorem dX0_put_19 : decode cX0_put 19 = .ok (.ifCond .ne 5, 3) := by decide +kernel
theorem dX0_put_22 : decode cX0_put 22 = .ok (.iconst 0, 1) := by decide +kernel
theorem dX0_put_23 : decode cX0_put 23 = .ok (.ireturn, 1) := by decide +kernel
theorem dX0_put_24 : decode cX0_put 24 = .ok (.iload_n 1, 1) := by decide +kernel
theorem dX0_put_25 : decode cX0_put 25 = .ok (.tableswitch 75 0 4 #[35, 43, 51, 59, 67], 35) := by decide +kernel
theorem dX0_put_60 : decode cX0_put 60 = .ok (.aload_n 0, 1) := by decide +kernel
theorem dX0_put_61 : decode cX0_put 61 = .ok (.lload 4, 2) := by decide +kernel
theorem dX0_put_63 : decode cX0_put 63 = .ok (.putfield 13, 3) := by decide +kernel
theorem dX0_put_66 : decode cX0_put 66 = .ok (.iconst 1, 1) := by decide +kernel
theorem dX0_put_67 : decode cX0_put 67 = .ok (.ireturn, 1) := by decide +kernel
theorem dX0_put_68 : decode cX0_put 68 = .ok (.aload_n 0, 1) := by decide +kernel
theorem dX0_put_69 : decode cX0_put 69 = .ok (.lload 4, 2) := by decide +kernel
theorem dX0_put_71 : decode cX0_put 71 = .ok (.putfield 23, 3) := by decide +kernel
theorem dX0_put_74 : decode cX0_put 74 = .ok (.iconst 1, 1) := by decide +kernel
theorem dX0_put_75 : decode cX0_put 75 = .ok (.ireturn, 1) := by decide +kernel
theorem dX0_put_76 : decode cX0_put 76 = .ok (.aload_n 0, 1) := by decide +kernel
theorem dX0_put_77 : decode cX0_put 77 = .ok (.lload 4, 2) := by decide +kernel
theorem dX0_put_79 : decode cX0_put 79 = .ok (.putfield 29, 3) := by decide +kernel
theorem dX0_put_82 : decode cX0_put 82 = .ok (.iconst 1, 1) := by decide +kernel
theorem dX0_put_83 : decode cX0_put 83 = .ok (.ireturn, 1) := by decide +kernel
theorem dX0_put_84 : decode cX0_put 84 = .ok (.aload_n 0, 1) := by decide +kernel
theorem dX0_put_85 : decode cX0_put 85 = .ok (.lload 4, 2) := by decide +kernel
theorem dX0_put_87 : decode cX0_put 87 = .ok (.putfield 32, 3) := by decide +kernel
theorem dX0_put_90 : decode cX0_put 90 = .ok (.iconst 1, 1) := by decide +kernel
theorem dX0_put_91 : decode cX0_put 91 = .ok (.ireturn, 1) := by decide +kernel
theorem dX0_put_92 : decode cX0_put 92 = .ok (.aload_n 0, 1) := by decide +kernel
theorem dX0_put_93 : decode cX0_put 93 = .ok (.lload 4, 2) := by decide +kernel
theorem dX0_put_95 : decode cX0_put 95 = .ok (.putfield 35, 3) := by decide +kernel
theorem dX0_put_98 : decode cX0_put 98 = .ok (.iconst 1, 1) := by decide +kernel
theorem dX0_put_99 : decode cX0_put 99 = .ok (.ireturn, 1) := by decide +kernel
theorem dX0_put_100 : decode cX0_put 100 = .ok (.iconst 0, 1) := by decide +kernel
theorem dX0_put_101 : decode cX0_put 101 = .ok (.ireturn, 1) := by decide +kernel
theorem dX0_number_0 : decode cX0_number 0 = .ok (.iload_n 1, 1) := by decide +kernel
theorem dX0_number_1 : decode cX0_number 1 = .ok (.tableswitch 60 0 4 #[35, 40, 45, 50, 55], 35) := by decide +kernel
theorem dX0_number_36 : decode cX0_number 36 = .ok (.aload_n 0, 1) := by decide +kernel
theorem dX0_number_37 : decode cX0_number 37 = .ok (.getfield 13, 3) := by decide +kernel
theorem dX0_number_40 : decode cX0_number 40 = .ok (.lreturn, 1) := by decide +kernel
theorem dX0_number_41 : decode cX0_number 41 = .ok (.aload_n 0, 1) := by decide +kernel
theorem dX0_number_42 : decode cX0_number 42 = .ok (.getfield 23, 3) := by decide +kernel
theorem dX0_number_45 : decode cX0_number 45 = .ok (.lreturn, 1) := by decide +kernel
theorem dX0_number_46 : decode cX0_number 46 = .ok (.aload_n 0, 1) := by decide +kernel
theorem dX0_number_47 : decode cX0_number 47 = .ok (.getfield 29, 3) := by decide +kernel
theorem dX0_number_50 : decode cX0_number 50 = .ok (.lreturn, 1) := by decide +kernel
theorem dX0_number_51 : decode cX0_number 51 = .ok (.aload_n 0, 1) := by decide +kernel
theorem dX0_number_52 : decode cX0_number 52 = .ok (.getfield 32, 3) := by decide +kernel
theorem dX0_number_55 : decode cX0_number 55 = .ok (.lreturn, 1) := by decide +kernel
theorem dX0_number_56 : decode cX0_number 56 = .ok (.aload_n 0, 1) := by decide +kernel
theorem dX0_number_57 : decode cX0_number 57 = .ok (.getfield 35, 3) := by decide +kernel
theorem dX0_number_60 : decode cX0_number 60 = .ok (.lreturn, 1) := by decide +kernel
theorem dX0_number_61 : decode cX0_number 61 = .ok (.lconst 0, 1) := by decide +kernel
theorem dX0_number_62 : decode cX0_number 62 = .ok (.lreturn, 1) := by decide +kernel
set_option maxRecDepth 20000 in
theorem ggX0_moveTo_X1_made : GoodIn wsX0_moveTo wsX1_made := goodIn_r _ [6, 7, 8, 9, 10, 11, 12, 13, 14, 15, 16, 17, 18, 19, 20, 4, 21, 22, 23, 24, 25, 26, 27, 28, 29, 30, 31, 32, 33, 34, 35, 36, 37, 38, 39, 40, 41, 42, 43, 44, 45, 46, 47, 48, 49, 50, 51, 52, 53, 54, 55, 56, 57, 58, 59, 60, 61, 62, 63, 64, 65, 66, 67, 68, 69, 70, 71, 72, 73, 74, 75, 76, 77, 78, 79, 80, 81, 82, 83] (by decide +kernel) (by decide +kernel)
set_option maxRecDepth 20000 in
theorem gX0_moveTo_X1_made_n46 : GoodIn wsX0_moveTo (wsX1_made) := ggX0_moveTo_X1_made
theorem dX0_moveTo_0 : decode cX0_moveTo 0 = .ok (.aload_n 0, 1) := by decide +kernel
theorem dX0_moveTo_1 : decode cX0_moveTo 1 = .ok (.aload_n 0, 1) := by decide +kernel
theorem dX0_moveTo_2 : decode cX0_moveTo 2 = .ok (.getfield 7, 3) := by decide +kernel
theorem dX0_moveTo_5 : decode cX0_moveTo 5 = .ok (.aload_n 1, 1) := by decide +kernel
theorem dX0_moveTo_6 : decode cX0_moveTo 6 = .ok (.getfield 7, 3) := by decide +kernel
theorem dX0_moveTo_9 : decode cX0_moveTo 9 = .ok (.aload_n 1, 1) := by decide +kernel
theorem dX0_moveTo_10 : decode cX0_moveTo 10 = .ok (.getfield 13, 3) := by decide +kernel
theorem dX0_moveTo_13 : decode cX0_moveTo 13 = .ok (.invokevirtual 46, 3) := by decide +kernel
theorem dX0_moveTo_16 : decode cX0_moveTo 16 = .ok (.putfield 13, 3) := by decide +kernel
theorem dX0_moveTo_19 : decode cX0_moveTo 19 = .ok (.return_, 1) := by decide +kernel
set_option maxRecDepth 20000 in
theorem ggX0_obey_X1_lesser : GoodIn wsX0_obey wsX1_lesser := goodIn_r _ [9, 10, 11, 12, 7, 13, 14, 15, 16, 17, 18, 19, 20, 21, 22, 23, 24] (by decide +kernel) (by decide +kernel)
set_option maxRecDepth 20000 in
theorem gX0_obey_X1_lesser_n50 : GoodIn wsX0_obey (wsX1_lesser) := ggX0_obey_X1_lesser
set_option maxRecDepth 20000 in
theorem ggX0_obey_X1_greater : GoodIn wsX0_obey wsX1_greater := goodIn_r _ [27, 10, 11, 12, 7, 13, 14, 15, 16, 17, 18, 19, 20, 21, 22, 23, 24] (by decide +kernel) (by decide +kernel)
set_option maxRecDepth 20000 in
theorem gX0_obey_X1_greater_n54 : GoodIn wsX0_obey (wsX1_greater) := ggX0_obey_X1_greater
set_option maxRecDepth 20000 in
theorem ggX0_obey_X1_sized : GoodIn wsX0_obey wsX1_sized := goodIn_r _ [30, 18, 19, 20, 31, 32, 33, 34, 35, 36, 37, 7, 38, 39] (by decide +kernel) (by decide +kernel)
set_option maxRecDepth 20000 in
theorem gX0_obey_X1_sized_n57 : GoodIn wsX0_obey (wsX1_sized) := ggX0_obey_X1_sized
set_option maxRecDepth 20000 in
theorem ggX0_obey_X1_wholeBelow : GoodIn wsX0_obey wsX1_wholeBelow := goodIn_r _ [42, 18, 43, 28, 29, 7, 30, 19, 20, 31, 32, 33, 34, 35, 36, 37, 38, 39, 44, 45, 46, 47, 48, 49, 50, 51, 52, 53, 54, 55, 56, 57, 58, 59, 60, 61, 62, 63, 64, 65, 66, 67, 68] (by decide +kernel) (by decide +kernel)
set_option maxRecDepth 20000 in
theorem gX0_obey_X1_wholeBelow_n60 : GoodIn wsX0_obey (wsX1_wholeBelow) := ggX0_obey_X1_wholeBelow
set_option maxRecDepth 20000 in
theorem ggX0_obey_X1_wholeAbove : GoodIn wsX0_obey wsX1_wholeAbove := goodIn_r _ [71, 18, 43, 28, 29, 7, 30, 19, 20, 31, 32, 33, 34, 35, 36, 37, 38, 39, 61, 62, 63, 64, 48, 49, 50, 51, 52, 53, 54, 55, 56, 57, 58, 59, 60, 44, 45, 46, 47, 65, 66, 67, 68] (by decide +kernel) (by decide +kernel)
set_option maxRecDepth 20000 in
theorem gX0_obey_X1_wholeAbove_n63 : GoodIn wsX0_obey (wsX1_wholeAbove) := ggX0_obey_X1_wholeAbove
set_option maxRecDepth 20000 in
theorem ggX0_obey_X1_wholeNearest : GoodIn wsX0_obey wsX1_wholeNearest := goodIn_r _ [74, 18, 43, 28, 29, 7, 30, 19, 20, 31, 32, 33, 34, 35, 36, 37, 38, 39, 75, 76, 77, 78, 53, 48, 49, 50, 51, 52, 54, 55, 56, 57, 58, 59, 60, 79, 80, 81, 82, 83, 84, 65, 66, 67, 68] (by decide +kernel) (by decide +kernel)
set_option maxRecDepth 20000 in
theorem gX0_obey_X1_wholeNearest_n66 : GoodIn wsX0_obey (wsX1_wholeNearest) := ggX0_obey_X1_wholeNearest
set_option maxRecDepth 20000 in
theorem ggX0_obey_X0_look : GoodIn wsX0_obey wsX0_look := goodIn_r _ [89, 1, 4, 5, 28, 7, 29, 30, 18, 19, 20, 31, 32, 33, 34, 35, 36, 37, 38, 39, 49, 50, 51, 52, 53, 66, 67, 68, 43, 110, 111, 112, 113, 114, 115] (by decide +kernel) (by decide +kernel)
set_option maxRecDepth 20000 in
theorem gX0_obey_X0_look : GoodIn wsX0_obey (wsV RX0 69 RX0 yX0_look wsX0_look) := goodIn_app (goodIn_of _ (by decide +kernel)) ggX0_obey_X0_look
set_option maxRecDepth 20000 in
theorem ggX0_obey_X1_turned : GoodIn wsX0_obey wsX1_turned := goodIn_r _ [68, 18, 19, 43, 28, 29, 7, 30, 20, 31, 32, 33, 34, 35, 36, 37, 38, 39] (by decide +kernel) (by decide +kernel)
set_option maxRecDepth 20000 in
theorem gX0_obey_X1_turned_n72 : GoodIn wsX0_obey (wsX1_turned) := ggX0_obey_X1_turned
set_option maxRecDepth 20000 in
theorem ggX0_obey_X0_widen : GoodIn wsX0_obey wsX0_widen := goodIn_r _ [93, 1, 3, 4, 2, 25, 7, 26, 27, 10, 11, 12, 13, 14, 15, 16, 17, 18, 19, 20, 21, 22, 23, 24, 6, 8, 9, 110, 111, 112, 113, 114, 115] (by decide +kernel) (by decide +kernel)
set_option maxRecDepth 20000 in
theorem gX0_obey_X0_widen : GoodIn wsX0_obey (wsV RX0 75 RX0 yX0_widen wsX0_widen) := goodIn_app (goodIn_of _ (by decide +kernel)) ggX0_obey_X0_widen
set_option maxRecDepth 20000 in
theorem ggX0_obey_X0_rest : GoodIn wsX0_obey wsX0_rest := goodIn_r _ [97, 1, 4, 98, 28, 7, 29, 30, 18, 19, 20, 31, 32, 33, 34, 35, 36, 37, 38, 39, 99, 100, 101, 65, 66, 67, 68, 43, 110, 111, 112, 113, 114, 115] (by decide +kernel) (by decide +kernel)
set_option maxRecDepth 20000 in
theorem gX0_obey_X0_rest : GoodIn wsX0_obey (wsV RX0 78 RX0 yX0_rest wsX0_rest) := goodIn_app (goodIn_of _ (by decide +kernel)) ggX0_obey_X0_rest
set_option maxRecDepth 20000 in
theorem ggX0_obey_X0_grid : GoodIn wsX0_obey wsX0_grid := goodIn_r _ [105, 1, 4, 2, 3, 40, 7, 41, 42, 18, 43, 28, 29, 30, 19, 20, 31, 32, 33, 34, 35, 36, 37, 38, 39, 44, 45, 46, 47, 48, 49, 50, 51, 52, 53, 54, 55, 56, 57, 58, 59, 60, 61, 62, 63, 64, 65, 66, 67, 68, 69, 70, 71, 110, 111, 112, 113, 114, 115] (by decide +kernel) (by decide +kernel)
set_option maxRecDepth 20000 in
theorem gX0_obey_X0_grid : GoodIn wsX0_obey (wsV RX0 81 RX0 yX0_grid wsX0_grid) := goodIn_app (goodIn_of _ (by decide +kernel)) ggX0_obey_X0_grid
set_option maxRecDepth 20000 in
theorem ggX0_obey_X0_swap : GoodIn wsX0_obey wsX0_swap := goodIn_r _ [109, 2, 3, 110, 111, 112, 113, 114, 115] (by decide +kernel) (by decide +kernel)
set_option maxRecDepth 20000 in
theorem gX0_obey_X0_swap : GoodIn wsX0_obey (wsV RX0 84 RX0 yX0_swap wsX0_swap) := goodIn_app (goodIn_of _ (by decide +kernel)) ggX0_obey_X0_swap
theorem dX0_obey_0 : decode cX0_obey 0 = .ok (.iload_n 1, 1) := by decide +kernel
theorem dX0_obey_1 : decode cX0_obey 1 = .ok (.tableswitch 251 1 13 #[67, 100, 118, 136, 154, 172, 179, 201, 208, 215, 222, 229, 240], 67) := by decide +kernel
theorem dX0_obey_68 : decode cX0_obey 68 = .ok (.aload_n 0, 1) := by decide +kernel
theorem dX0_obey_69 : decode cX0_obey 69 = .ok (.aload_n 0, 1) := by decide +kernel
theorem dX0_obey_70 : decode cX0_obey 70 = .ok (.getfield 7, 3) := by decide +kernel
theorem dX0_obey_73 : decode cX0_obey 73 = .ok (.aload_n 0, 1) := by decide +kernel
theorem dX0_obey_74 : decode cX0_obey 74 = .ok (.getfield 23, 3) := by decide +kernel
theorem dX0_obey_77 : decode cX0_obey 77 = .ok (.aload_n 0, 1) := by decide +kernel
theorem dX0_obey_78 : decode cX0_obey 78 = .ok (.getfield 7, 3) := by decide +kernel
theorem dX0_obey_81 : decode cX0_obey 81 = .ok (.aload_n 0, 1) := by decide +kernel
theorem dX0_obey_82 : decode cX0_obey 82 = .ok (.getfield 29, 3) := by decide +kernel
theorem dX0_obey_85 : decode cX0_obey 85 = .ok (.aload_n 0, 1) := by decide +kernel
theorem dX0_obey_86 : decode cX0_obey 86 = .ok (.getfield 13, 3) := by decide +kernel
theorem dX0_obey_89 : decode cX0_obey 89 = .ok (.invokevirtual 50, 3) := by decide +kernel
theorem dX0_obey_92 : decode cX0_obey 92 = .ok (.invokevirtual 54, 3) := by decide +kernel
theorem dX0_obey_95 : decode cX0_obey 95 = .ok (.putfield 13, 3) := by decide +kernel
theorem dX0_obey_98 : decode cX0_obey 98 = .ok (.goto 154, 3) := by decide +kernel
theorem dX0_obey_101 : decode cX0_obey 101 = .ok (.aload_n 0, 1) := by decide +kernel
theorem dX0_obey_102 : decode cX0_obey 102 = .ok (.aload_n 0, 1) := by decide +kernel
theorem dX0_obey_103 : decode cX0_obey 103 = .ok (.getfield 7, 3) := by decide +kernel
theorem dX0_obey_106 : decode cX0_obey 106 = .ok (.aload_n 0, 1) := by decide +kernel
theorem dX0_obey_107 : decode cX0_obey 107 = .ok (.getfield 13, 3) := by decide +kernel
theorem dX0_obey_110 : decode cX0_obey 110 = .ok (.invokevirtual 57, 3) := by decide +kernel
theorem dX0_obey_113 : decode cX0_obey 113 = .ok (.putfield 13, 3) := by decide +kernel
theorem dX0_obey_116 : decode cX0_obey 116 = .ok (.goto 136, 3) := by decide +kernel
theorem dX0_obey_119 : decode cX0_obey 119 = .ok (.aload_n 0, 1) := by decide +kernel
theorem dX0_obey_120 : decode cX0_obey 120 = .ok (.aload_n 0, 1) := by decide +kernel
theorem dX0_obey_121 : decode cX0_obey 121 = .ok (.getfield 7, 3) := by decide +kernel
theorem dX0_obey_124 : decode cX0_obey 124 = .ok (.aload_n 0, 1) := by decide +kernel
theorem dX0_obey_125 : decode cX0_obey 125 = .ok (.getfield 13, 3) := by decide +kernel
theorem dX0_obey_128 : decode cX0_obey 128 = .ok (.invokevirtual 60, 3) := by decide +kernel
theorem dX0_obey_131 : decode cX0_obey 131 = .ok (.putfield 13, 3) := by decide +kernel
theorem dX0_obey_134 : decode cX0_obey 134 = .ok (.goto 118, 3) := by decide +kernel
theorem dX0_obey_137 : decode cX0_obey 137 = .ok (.aload_n 0, 1) := by decide +kernel
theorem dX0_obey_138 : decode cX0_obey 138 = .ok (.aload_n 0, 1) := by decide +kernel
theorem dX0_obey_139 : decode cX0_obey 139 = .ok (.getfield 7, 3) := by decide +kernel
theorem dX0_obey_142 : decode cX0_obey 142 = .ok (.aload_n 0, 1) := by decide +kernel
theorem dX0_obey_143 : decode cX0_obey 143 = .ok (.getfield 13, 3) := by decide +kernel
theorem dX0_obey_146 : decode cX0_obey 146 = .ok (.invokevirtual 63, 3) := by decide +kernel
theorem dX0_obey_149 : decode cX0_obey 149 = .ok (.putfield 13, 3) := by decide +kernel
theorem dX0_obey_152 : decode cX0_obey 152 = .ok (.goto 100, 3) := by decide +kernel
theorem dX0_obey_155 : decode cX0_obey 155 = .ok (.aload_n 0, 1) := by decide +kernel
theorem dX0_obey_156 : decode cX0_obey 156 = .ok (.aload_n 0, 1) := by decide +kernel
theorem dX0_obey_157 : decode cX0_obey 157 = .ok (.getfield 7, 3) := by decide +kernel
theorem dX0_obey_160 : decode cX0_obey 160 = .ok (.aload_n 0, 1) := by decide +kernel
theorem dX0_obey_161 : decode cX0_obey 161 = .ok (.getfield 13, 3) := by decide +kernel
theorem dX0_obey_164 : decode cX0_obey 164 = .ok (.invokevirtual 66, 3) := by decide +kernel
theorem dX0_obey_167 : decode cX0_obey 167 = .ok (.putfield 13, 3) := by decide +kernel
theorem dX0_obey_170 : decode cX0_obey 170 = .ok (.goto 82, 3) := by decide +kernel
theorem dX0_obey_173 : decode cX0_obey 173 = .ok (.aload_n 0, 1) := by decide +kernel
theorem dX0_obey_174 : decode cX0_obey 174 = .ok (.invokevirtual 69, 3) := by decide +kernel
theorem dX0_obey_177 : decode cX0_obey 177 = .ok (.goto 75, 3) := by decide +kernel
theorem dX0_obey_180 : decode cX0_obey 180 = .ok (.aload_n 0, 1) := by decide +kernel
theorem dX0_obey_181 : decode cX0_obey 181 = .ok (.aload_n 0, 1) := by decide +kernel
theorem dX0_obey_182 : decode cX0_obey 182 = .ok (.getfield 7, 3) := by decide +kernel
theorem dX0_obey_185 : decode cX0_obey 185 = .ok (.aload_n 0, 1) := by decide +kernel
theorem dX0_obey_186 : decode cX0_obey 186 = .ok (.getfield 13, 3) := by decide +kernel
theorem dX0_obey_189 : decode cX0_obey 189 = .ok (.aload_n 0, 1) := by decide +kernel
theorem dX0_obey_190 : decode cX0_obey 190 = .ok (.getfield 35, 3) := by decide +kernel
theorem dX0_obey_193 : decode cX0_obey 193 = .ok (.invokevirtual 72, 3) := by decide +kernel
theorem dX0_obey_196 : decode cX0_obey 196 = .ok (.putfield 13, 3) := by decide +kernel
theorem dX0_obey_199 : decode cX0_obey 199 = .ok (.goto 53, 3) := by decide +kernel
theorem dX0_obey_202 : decode cX0_obey 202 = .ok (.aload_n 0, 1) := by decide +kernel
theorem dX0_obey_203 : decode cX0_obey 203 = .ok (.invokevirtual 75, 3) := by decide +kernel
theorem dX0_obey_206 : decode cX0_obey 206 = .ok (.goto 46, 3) := by decide +kernel
theorem dX0_obey_209 : decode cX0_obey 209 = .ok (.aload_n 0, 1) := by decide +kernel
theorem dX0_obey_210 : decode cX0_obey 210 = .ok (.invokevirtual 78, 3) := by decide +kernel
theorem dX0_obey_213 : decode cX0_obey 213 = .ok (.goto 39, 3) := by decide +kernel
theorem dX0_obey_216 : decode cX0_obey 216 = .ok (.aload_n 0, 1) := by decide +kernel
theorem dX0_obey_217 : decode cX0_obey 217 = .ok (.invokevirtual 81, 3) := by decide +kernel
theorem dX0_obey_220 : decode cX0_obey 220 = .ok (.goto 32, 3) := by decide +kernel
theorem dX0_obey_223 : decode cX0_obey 223 = .ok (.aload_n 0, 1) := by decide +kernel
theorem dX0_obey_224 : decode cX0_obey 224 = .ok (.invokevirtual 84, 3) := by decide +kernel
theorem dX0_obey_227 : decode cX0_obey 227 = .ok (.goto 25, 3) := by decide +kernel
theorem dX0_obey_230 : decode cX0_obey 230 = .ok (.aload_n 0, 1) := by decide +kernel
theorem dX0_obey_231 : decode cX0_obey 231 = .ok (.aload_n 0, 1) := by decide +kernel
theorem dX0_obey_232 : decode cX0_obey 232 = .ok (.getfield 23, 3) := by decide +kernel
theorem dX0_obey_235 : decode cX0_obey 235 = .ok (.putfield 13, 3) := by decide +kernel
theorem dX0_obey_238 : decode cX0_obey 238 = .ok (.goto 14, 3) := by decide +kernel
theorem dX0_obey_241 : decode cX0_obey 241 = .ok (.aload_n 0, 1) := by decide +kernel
theorem dX0_obey_242 : decode cX0_obey 242 = .ok (.aload_n 0, 1) := by decide +kernel
theorem dX0_obey_243 : decode cX0_obey 243 = .ok (.getfield 29, 3) := by decide +kernel
theorem dX0_obey_246 : decode cX0_obey 246 = .ok (.putfield 13, 3) := by decide +kernel
theorem dX0_obey_249 : decode cX0_obey 249 = .ok (.goto 3, 3) := by decide +kernel
theorem dX0_obey_252 : decode cX0_obey 252 = .ok (.return_, 1) := by decide +kernel
set_option maxRecDepth 20000 in
theorem ggX0_look_X1_sized : GoodIn wsX0_look wsX1_sized := goodIn_r _ [7, 8, 9, 10, 11, 12, 13, 14, 15, 16, 17, 5, 18, 19] (by decide +kernel) (by decide +kernel)
set_option maxRecDepth 20000 in
theorem gX0_look_X1_sized_n57 : GoodIn wsX0_look (wsX1_sized) := ggX0_look_X1_sized
set_option maxRecDepth 20000 in
theorem ggX0_look_X1_one : GoodIn wsX0_look wsX1_one := goodIn_r _ [22, 8, 23, 24] (by decide +kernel) (by decide +kernel)
set_option maxRecDepth 20000 in
theorem gX0_look_X1_one_n87 : GoodIn wsX0_look (wsX1_one) := ggX0_look_X1_one
set_option maxRecDepth 20000 in
theorem ggX0_look_X1_turned : GoodIn wsX0_look wsX1_turned := goodIn_r _ [27, 8, 9, 28, 4, 6, 5, 7, 10, 11, 12, 13, 14, 15, 16, 17, 18, 19] (by decide +kernel) (by decide +kernel)
set_option maxRecDepth 20000 in
theorem gX0_look_X1_turned_n72 : GoodIn wsX0_look (wsX1_turned) := ggX0_look_X1_turned
theorem dX0_look_0 : decode cX0_look 0 = .ok (.aload_n 0, 1) := by decide +kernel
theorem dX0_look_1 : decode cX0_look 1 = .ok (.aload_n 0, 1) := by decide +kernel
theorem dX0_look_2 : decode cX0_look 2 = .ok (.getfield 7, 3) := by decide +kernel
theorem dX0_look_5 : decode cX0_look 5 = .ok (.aload_n 0, 1) := by decide +kernel
theorem dX0_look_6 : decode cX0_look 6 = .ok (.getfield 13, 3) := by decide +kernel
theorem dX0_look_9 : decode cX0_look 9 = .ok (.invokevirtual 57, 3) := by decide +kernel
theorem dX0_look_12 : decode cX0_look 12 = .ok (.lconst 0, 1) := by decide +kernel
theorem dX0_look_13 : decode cX0_look 13 = .ok (.lcmp, 1) := by decide +kernel
theorem dX0_look_14 : decode cX0_look 14 = .ok (.ifCond .ne 10, 3) := by decide +kernel
theorem dX0_look_17 : decode cX0_look 17 = .ok (.aload_n 0, 1) := by decide +kernel
theorem dX0_look_18 : decode cX0_look 18 = .ok (.getfield 13, 3) := by decide +kernel
theorem dX0_look_21 : decode cX0_look 21 = .ok (.goto 21, 3) := by decide +kernel
theorem dX0_look_24 : decode cX0_look 24 = .ok (.aload_n 0, 1) := by decide +kernel
theorem dX0_look_25 : decode cX0_look 25 = .ok (.getfield 7, 3) := by decide +kernel
theorem dX0_look_28 : decode cX0_look 28 = .ok (.aload_n 0, 1) := by decide +kernel
theorem dX0_look_29 : decode cX0_look 29 = .ok (.getfield 7, 3) := by decide +kernel
theorem dX0_look_32 : decode cX0_look 32 = .ok (.invokevirtual 87, 3) := by decide +kernel
theorem dX0_look_35 : decode cX0_look 35 = .ok (.aload_n 0, 1) := by decide +kernel
theorem dX0_look_36 : decode cX0_look 36 = .ok (.getfield 13, 3) := by decide +kernel
theorem dX0_look_39 : decode cX0_look 39 = .ok (.invokevirtual 72, 3) := by decide +kernel
theorem dX0_look_42 : decode cX0_look 42 = .ok (.putfield 35, 3) := by decide +kernel
theorem dX0_look_45 : decode cX0_look 45 = .ok (.return_, 1) := by decide +kernel
set_option maxRecDepth 20000 in
theorem ggX0_widen_X1_greater : GoodIn wsX0_widen wsX1_greater := goodIn_r _ [8, 9, 10, 11, 6, 12, 13, 14, 15, 16, 17, 18, 19, 20, 21, 22, 23] (by decide +kernel) (by decide +kernel)
set_option maxRecDepth 20000 in
theorem gX0_widen_X1_greater_n54 : GoodIn wsX0_widen (wsX1_greater) := ggX0_widen_X1_greater
set_option maxRecDepth 20000 in
theorem ggX0_widen_X1_lesser : GoodIn wsX0_widen wsX1_lesser := goodIn_r _ [26, 9, 10, 11, 6, 12, 13, 14, 15, 16, 17, 18, 19, 20, 21, 22, 23] (by decide +kernel) (by decide +kernel)
set_option maxRecDepth 20000 in
theorem gX0_widen_X1_lesser_n50 : GoodIn wsX0_widen (wsX1_lesser) := ggX0_widen_X1_lesser
theorem dX0_widen_0 : decode cX0_widen 0 = .ok (.aload_n 0, 1) := by decide +kernel
theorem dX0_widen_1 : decode cX0_widen 1 = .ok (.aload_n 0, 1) := by decide +kernel
theorem dX0_widen_2 : decode cX0_widen 2 = .ok (.getfield 7, 3) := by decide +kernel
theorem dX0_widen_5 : decode cX0_widen 5 = .ok (.aload_n 0, 1) := by decide +kernel
theorem dX0_widen_6 : decode cX0_widen 6 = .ok (.getfield 29, 3) := by decide +kernel
theorem dX0_widen_9 : decode cX0_widen 9 = .ok (.aload_n 0, 1) := by decide +kernel
theorem dX0_widen_10 : decode cX0_widen 10 = .ok (.getfield 13, 3) := by decide +kernel
theorem dX0_widen_13 : decode cX0_widen 13 = .ok (.invokevirtual 54, 3) := by decide +kernel
theorem dX0_widen_16 : decode cX0_widen 16 = .ok (.putfield 29, 3) := by decide +kernel
theorem dX0_widen_19 : decode cX0_widen 19 = .ok (.aload_n 0, 1) := by decide +kernel
theorem dX0_widen_20 : decode cX0_widen 20 = .ok (.aload_n 0, 1) := by decide +kernel
theorem dX0_widen_21 : decode cX0_widen 21 = .ok (.getfield 7, 3) := by decide +kernel
theorem dX0_widen_24 : decode cX0_widen 24 = .ok (.aload_n 0, 1) := by decide +kernel
theorem dX0_widen_25 : decode cX0_widen 25 = .ok (.getfield 23, 3) := by decide +kernel
theorem dX0_widen_28 : decode cX0_widen 28 = .ok (.aload_n 0, 1) := by decide +kernel
theorem dX0_widen_29 : decode cX0_widen 29 = .ok (.getfield 13, 3) := by decide +kernel
theorem dX0_widen_32 : decode cX0_widen 32 = .ok (.invokevirtual 50, 3) := by decide +kernel
theorem dX0_widen_35 : decode cX0_widen 35 = .ok (.putfield 23, 3) := by decide +kernel
theorem dX0_widen_38 : decode cX0_widen 38 = .ok (.return_, 1) := by decide +kernel
set_option maxRecDepth 20000 in
theorem ggX0_rest_X1_sized : GoodIn wsX0_rest wsX1_sized := goodIn_r _ [7, 8, 9, 10, 11, 12, 13, 14, 15, 16, 17, 5, 18, 19] (by decide +kernel) (by decide +kernel)
set_option maxRecDepth 20000 in
theorem gX0_rest_X1_sized_n57 : GoodIn wsX0_rest (wsX1_sized) := ggX0_rest_X1_sized
set_option maxRecDepth 20000 in
theorem ggX0_rest_X1_zeroBeside : GoodIn wsX0_rest wsX1_zeroBeside := goodIn_r _ [22, 23, 24, 25, 5, 26, 8, 9, 27, 4, 6, 7, 10, 11, 12, 13, 14, 15, 16, 17, 18, 19] (by decide +kernel) (by decide +kernel)
set_option maxRecDepth 20000 in
theorem gX0_rest_X1_zeroBeside_n90 : GoodIn wsX0_rest (wsX1_zeroBeside) := ggX0_rest_X1_zeroBeside
theorem dX0_rest_0 : decode cX0_rest 0 = .ok (.aload_n 0, 1) := by decide +kernel
theorem dX0_rest_1 : decode cX0_rest 1 = .ok (.getfield 7, 3) := by decide +kernel
theorem dX0_rest_4 : decode cX0_rest 4 = .ok (.aload_n 0, 1) := by decide +kernel
theorem dX0_rest_5 : decode cX0_rest 5 = .ok (.getfield 13, 3) := by decide +kernel
theorem dX0_rest_8 : decode cX0_rest 8 = .ok (.invokevirtual 57, 3) := by decide +kernel
theorem dX0_rest_11 : decode cX0_rest 11 = .ok (.aload_n 0, 1) := by decide +kernel
theorem dX0_rest_12 : decode cX0_rest 12 = .ok (.getfield 7, 3) := by decide +kernel
theorem dX0_rest_15 : decode cX0_rest 15 = .ok (.aload_n 0, 1) := by decide +kernel
theorem dX0_rest_16 : decode cX0_rest 16 = .ok (.getfield 32, 3) := by decide +kernel
theorem dX0_rest_19 : decode cX0_rest 19 = .ok (.invokevirtual 57, 3) := by decide +kernel
theorem dX0_rest_22 : decode cX0_rest 22 = .ok (.lcmp, 1) := by decide +kernel
theorem dX0_rest_23 : decode cX0_rest 23 = .ok (.ifCond .gt 18, 3) := by decide +kernel
theorem dX0_rest_26 : decode cX0_rest 26 = .ok (.aload_n 0, 1) := by decide +kernel
theorem dX0_rest_27 : decode cX0_rest 27 = .ok (.aload_n 0, 1) := by decide +kernel
theorem dX0_rest_28 : decode cX0_rest 28 = .ok (.getfield 7, 3) := by decide +kernel
theorem dX0_rest_31 : decode cX0_rest 31 = .ok (.aload_n 0, 1) := by decide +kernel
theorem dX0_rest_32 : decode cX0_rest 32 = .ok (.getfield 13, 3) := by decide +kernel
theorem dX0_rest_35 : decode cX0_rest 35 = .ok (.invokevirtual 90, 3) := by decide +kernel
theorem dX0_rest_38 : decode cX0_rest 38 = .ok (.putfield 13, 3) := by decide +kernel
theorem dX0_rest_41 : decode cX0_rest 41 = .ok (.return_, 1) := by decide +kernel
set_option maxRecDepth 20000 in
theorem ggX0_grid_X1_wholeBelow : GoodIn wsX0_grid wsX1_wholeBelow := goodIn_r _ [8, 9, 10, 11, 12, 6, 13, 14, 15, 16, 17, 18, 19, 20, 21, 22, 23, 24, 25, 26, 27, 28, 29, 30, 31, 32, 33, 34, 35, 36, 37, 38, 39, 40, 41, 42, 43, 44, 45, 46, 47, 48, 49] (by decide +kernel) (by decide +kernel)
set_option maxRecDepth 20000 in
theorem gX0_grid_X1_wholeBelow_n60 : GoodIn wsX0_grid (wsX1_wholeBelow) := ggX0_grid_X1_wholeBelow
set_option maxRecDepth 20000 in
theorem ggX0_grid_X1_wholeAbove : GoodIn wsX0_grid wsX1_wholeAbove := goodIn_r _ [52, 9, 10, 11, 12, 6, 13, 14, 15, 16, 17, 18, 19, 20, 21, 22, 23, 24, 42, 43, 44, 45, 29, 30, 31, 32, 33, 34, 35, 36, 37, 38, 39, 40, 41, 25, 26, 27, 28, 46, 47, 48, 49] (by decide +kernel) (by decide +kernel)
set_option maxRecDepth 20000 in
theorem gX0_grid_X1_wholeAbove_n63 : GoodIn wsX0_grid (wsX1_wholeAbove) := ggX0_grid_X1_wholeAbove
theorem dX0_grid_0 : decode cX0_grid 0 = .ok (.aload_n 0, 1) := by decide +kernel
theorem dX0_grid_1 : decode cX0_grid 1 = .ok (.aload_n 0, 1) := by decide +kernel
theorem dX0_grid_2 : decode cX0_grid 2 = .ok (.getfield 7, 3) := by decide +kernel
theorem dX0_grid_5 : decode cX0_grid 5 = .ok (.aload_n 0, 1) := by decide +kernel
theorem dX0_grid_6 : decode cX0_grid 6 = .ok (.getfield 13, 3) := by decide +kernel
theorem dX0_grid_9 : decode cX0_grid 9 = .ok (.invokevirtual 60, 3) := by decide +kernel
theorem dX0_grid_12 : decode cX0_grid 12 = .ok (.putfield 23, 3) := by decide +kernel
theorem dX0_grid_15 : decode cX0_grid 15 = .ok (.aload_n 0, 1) := by decide +kernel
theorem dX0_grid_16 : decode cX0_grid 16 = .ok (.aload_n 0, 1) := by decide +kernel
theorem dX0_grid_17 : decode cX0_grid 17 = .ok (.getfield 7, 3) := by decide +kernel
theorem dX0_grid_20 : decode cX0_grid 20 = .ok (.aload_n 0, 1) := by decide +kernel
theorem dX0_grid_21 : decode cX0_grid 21 = .ok (.getfield 13, 3) := by decide +kernel
theorem dX0_grid_24 : decode cX0_grid 24 = .ok (.invokevirtual 63, 3) := by decide +kernel
theorem dX0_grid_27 : decode cX0_grid 27 = .ok (.putfield 29, 3) := by decide +kernel
theorem dX0_grid_30 : decode cX0_grid 30 = .ok (.return_, 1) := by decide +kernel
theorem dX0_swap_0 : decode cX0_swap 0 = .ok (.aload_n 0, 1) := by decide +kernel
theorem dX0_swap_1 : decode cX0_swap 1 = .ok (.getfield 23, 3) := by decide +kernel
theorem dX0_swap_4 : decode cX0_swap 4 = .ok (.lstore_n 1, 1) := by decide +kernel
theorem dX0_swap_5 : decode cX0_swap 5 = .ok (.aload_n 0, 1) := by decide +kernel
theorem dX0_swap_6 : decode cX0_swap 6 = .ok (.aload_n 0, 1) := by decide +kernel
theorem dX0_swap_7 : decode cX0_swap 7 = .ok (.getfield 29, 3) := by decide +kernel
theorem dX0_swap_10 : decode cX0_swap 10 = .ok (.putfield 23, 3) := by decide +kernel
theorem dX0_swap_13 : decode cX0_swap 13 = .ok (.aload_n 0, 1) := by decide +kernel
theorem dX0_swap_14 : decode cX0_swap 14 = .ok (.lload_n 1, 1) := by decide +kernel
theorem dX0_swap_15 : decode cX0_swap 15 = .ok (.putfield 29, 3) := by decide +kernel
theorem dX0_swap_18 : decode cX0_swap 18 = .ok (.return_, 1) := by decide +kernel
theorem dX1_infinity_0 : decode cX1_infinity 0 = .ok (.ldc2_w 55, 3) := by decide +kernel
theorem dX1_infinity_3 : decode cX1_infinity 3 = .ok (.aload_n 0, 1) := by decide +kernel
theorem dX1_infinity_4 : decode cX1_infinity 4 = .ok (.getfield 46, 3) := by decide +kernel
theorem dX1_infinity_7 : decode cX1_infinity 7 = .ok (.i2l, 1) := by decide +kernel
theorem dX1_infinity_8 : decode cX1_infinity 8 = .ok (.lmul, 1) := by decide +kernel
theorem dX1_infinity_9 : decode cX1_infinity 9 = .ok (.lconst 1, 1) := by decide +kernel
theorem dX1_infinity_10 : decode cX1_infinity 10 = .ok (.ladd, 1) := by decide +kernel
theorem dX1_infinity_11 : decode cX1_infinity 11 = .ok (.aload_n 0, 1) := by decide +kernel
theorem dX1_infinity_12 : decode cX1_infinity 12 = .ok (.getfield 43, 3) := by decide +kernel
theorem dX1_infinity_15 : decode cX1_infinity 15 = .ok (.lshl, 1) := by decide +kernel
theorem dX1_infinity_16 : decode cX1_infinity 16 = .ok (.lreturn, 1) := by decide +kernel
theorem dX1_one_0 : decode cX1_one 0 = .ok (.aload_n 0, 1) := by decide +kernel
theorem dX1_one_1 : decode cX1_one 1 = .ok (.getfield 39, 3) := by decide +kernel
theorem dX1_one_4 : decode cX1_one 4 = .ok (.ifCond .eq 16, 3) := by decide +kernel
theorem dX1_one_7 : decode cX1_one 7 = .ok (.aload_n 0, 1) := by decide +kernel
theorem dX1_one_8 : decode cX1_one 8 = .ok (.getfield 46, 3) := by decide +kernel
theorem dX1_one_11 : decode cX1_one 11 = .ok (.i2l, 1) := by decide +kernel
theorem dX1_one_12 : decode cX1_one 12 = .ok (.aload_n 0, 1) := by decide +kernel
theorem dX1_one_13 : decode cX1_one 13 = .ok (.getfield 43, 3) := by decide +kernel
theorem dX1_one_16 : decode cX1_one 16 = .ok (.lshl, 1) := by decide +kernel
theorem dX1_one_17 : decode cX1_one 17 = .ok (.goto 4, 3) := by decide +kernel
theorem dX1_one_20 : decode cX1_one 20 = .ok (.lconst 1, 1) := by decide +kernel
theorem dX1_one_21 : decode cX1_one 21 = .ok (.lreturn, 1) := by decide +kernel
set_option maxRecDepth 20000 in
theorem ggX1_least_X1_infinity : GoodIn wsX1_least wsX1_infinity := goodIn_r _ [7, 8, 9, 10] (by decide +kernel) (by decide +kernel)
set_option maxRecDepth 20000 in
theorem gX1_least_X1_infinity : GoodIn wsX1_least (wsV RX1 57 RX1 yX1_infinity wsX1_infinity) := goodIn_app (goodIn_of _ (by decide +kernel)) ggX1_least_X1_infinity
theorem dX1_least_0 : decode cX1_least 0 = .ok (.aload_n 0, 1) := by decide +kernel
theorem dX1_least_1 : decode cX1_least 1 = .ok (.getfield 39, 3) := by decide +kernel
theorem dX1_least_4 : decode cX1_least 4 = .ok (.ifCond .eq 15, 3) := by decide +kernel
theorem dX1_least_7 : decode cX1_least 7 = .ok (.aload_n 0, 1) := by decide +kernel
theorem dX1_least_8 : decode cX1_least 8 = .ok (.invokevirtual 57, 3) := by decide +kernel
theorem dX1_least_11 : decode cX1_least 11 = .ok (.aload_n 0, 1) := by decide +kernel
theorem dX1_least_12 : decode cX1_least 12 = .ok (.getfield 51, 3) := by decide +kernel
theorem dX1_least_15 : decode cX1_least 15 = .ok (.lor, 1) := by decide +kernel
theorem dX1_least_16 : decode cX1_least 16 = .ok (.goto 7, 3) := by decide +kernel
theorem dX1_least_19 : decode cX1_least 19 = .ok (.aload_n 0, 1) := by decide +kernel
theorem dX1_least_20 : decode cX1_least 20 = .ok (.getfield 51, 3) := by decide +kernel
theorem dX1_least_23 : decode cX1_least 23 = .ok (.lreturn, 1) := by decide +kernel
set_option maxRecDepth 20000 in
theorem ggX1_greatest_X1_infinity : GoodIn wsX1_greatest wsX1_infinity := goodIn_r _ [8, 9, 10, 11] (by decide +kernel) (by decide +kernel)
set_option maxRecDepth 20000 in
theorem gX1_greatest_X1_infinity : GoodIn wsX1_greatest (wsV RX1 57 RX1 yX1_infinity wsX1_infinity) := goodIn_app (goodIn_of _ (by decide +kernel)) ggX1_greatest_X1_infinity
theorem dX1_greatest_0 : decode cX1_greatest 0 = .ok (.aload_n 0, 1) := by decide +kernel
theorem dX1_greatest_1 : decode cX1_greatest 1 = .ok (.getfield 39, 3) := by decide +kernel
theorem dX1_greatest_4 : decode cX1_greatest 4 = .ok (.ifCond .eq 10, 3) := by decide +kernel
theorem dX1_greatest_7 : decode cX1_greatest 7 = .ok (.aload_n 0, 1) := by decide +kernel
theorem dX1_greatest_8 : decode cX1_greatest 8 = .ok (.invokevirtual 57, 3) := by decide +kernel
theorem dX1_greatest_11 : decode cX1_greatest 11 = .ok (.goto 11, 3) := by decide +kernel
theorem dX1_greatest_14 : decode cX1_greatest 14 = .ok (.aload_n 0, 1) := by decide +kernel
theorem dX1_greatest_15 : decode cX1_greatest 15 = .ok (.getfield 51, 3) := by decide +kernel
theorem dX1_greatest_18 : decode cX1_greatest 18 = .ok (.ldc2_w 49, 3) := by decide +kernel
theorem dX1_greatest_21 : decode cX1_greatest 21 = .ok (.lxor, 1) := by decide +kernel
theorem dX1_greatest_22 : decode cX1_greatest 22 = .ok (.lreturn, 1) := by decide +kernel
theorem dX1_fitted_0 : decode cX1_fitted 0 = .ok (.lload_n 1, 1) := by decide +kernel
theorem dX1_fitted_1 : decode cX1_fitted 1 = .ok (.aload_n 0, 1) := by decide +kernel
theorem dX1_fitted_2 : decode cX1_fitted 2 = .ok (.getfield 35, 3) := by decide +kernel
theorem dX1_fitted_5 : decode cX1_fitted 5 = .ok (.lshl, 1) := by decide +kernel
theorem dX1_fitted_6 : decode cX1_fitted 6 = .ok (.aload_n 0, 1) := by decide +kernel
theorem dX1_fitted_7 : decode cX1_fitted 7 = .ok (.getfield 35, 3) := by decide +kernel
theorem dX1_fitted_10 : decode cX1_fitted 10 = .ok (.lshr, 1) := by decide +kernel
theorem dX1_fitted_11 : decode cX1_fitted 11 = .ok (.lreturn, 1) := by decide +kernel
set_option maxRecDepth 20000 in
theorem ggX1_isNumber_X1_sized : GoodIn wsX1_isNumber wsX1_sized := goodIn_r _ [6, 1, 7, 8, 9, 10, 11, 12, 13, 14, 15, 5, 16, 17] (by decide +kernel) (by decide +kernel)
set_option maxRecDepth 20000 in
theorem gX1_isNumber_X1_sized : GoodIn wsX1_isNumber (wsV RX1 61 RX1 yX1_sized wsX1_sized) := goodIn_app (goodIn_of _ (by decide +kernel)) ggX1_isNumber_X1_sized
set_option maxRecDepth 20000 in
theorem ggX1_isNumber_X1_infinity : GoodIn wsX1_isNumber wsX1_infinity := goodIn_r _ [21, 22, 23, 24] (by decide +kernel) (by decide +kernel)
set_option maxRecDepth 20000 in
theorem gX1_isNumber_X1_infinity : GoodIn wsX1_isNumber (wsV RX1 57 RX1 yX1_infinity wsX1_infinity) := goodIn_app (goodIn_of _ (by decide +kernel)) ggX1_isNumber_X1_infinity
theorem dX1_isNumber_0 : decode cX1_isNumber 0 = .ok (.aload_n 0, 1) := by decide +kernel
theorem dX1_isNumber_1 : decode cX1_isNumber 1 = .ok (.getfield 39, 3) := by decide +kernel
theorem dX1_isNumber_4 : decode cX1_isNumber 4 = .ok (.ifCond .eq 16, 3) := by decide +kernel
theorem dX1_isNumber_7 : decode cX1_isNumber 7 = .ok (.aload_n 0, 1) := by decide +kernel
theorem dX1_isNumber_8 : decode cX1_isNumber 8 = .ok (.lload_n 1, 1) := by decide +kernel
theorem dX1_isNumber_9 : decode cX1_isNumber 9 = .ok (.invokevirtual 61, 3) := by decide +kernel
theorem dX1_isNumber_12 : decode cX1_isNumber 12 = .ok (.aload_n 0, 1) := by decide +kernel
theorem dX1_isNumber_13 : decode cX1_isNumber 13 = .ok (.invokevirtual 57, 3) := by decide +kernel
theorem dX1_isNumber_16 : decode cX1_isNumber 16 = .ok (.lcmp, 1) := by decide +kernel
theorem dX1_isNumber_17 : decode cX1_isNumber 17 = .ok (.ifCond .gt 7, 3) := by decide +kernel
theorem dX1_isNumber_20 : decode cX1_isNumber 20 = .ok (.iconst 1, 1) := by decide +kernel
theorem dX1_isNumber_21 : decode cX1_isNumber 21 = .ok (.goto 4, 3) := by decide +kernel
theorem dX1_isNumber_24 : decode cX1_isNumber 24 = .ok (.iconst 0, 1) := by decide +kernel
theorem dX1_isNumber_25 : decode cX1_isNumber 25 = .ok (.ireturn, 1) := by decide +kernel
set_option maxRecDepth 20000 in
theorem ggX1_compared_X1_rank : GoodIn wsX1_compared wsX1_rank := goodIn_r _ [5, 6, 7, 8] (by decide +kernel) (by decide +kernel)
set_option maxRecDepth 20000 in
theorem gX1_compared_X1_rank : GoodIn wsX1_compared (wsV RX1 65 RX1 yX1_rank wsX1_rank) := goodIn_app (goodIn_of _ (by decide +kernel)) ggX1_compared_X1_rank
set_option maxRecDepth 20000 in
theorem ggX1_compared_J13_compare_74951 : GoodIn wsX1_compared wsJ13_compare_74951 := goodIn_r _ [12] (by decide +kernel) (by decide +kernel)
set_option maxRecDepth 20000 in
theorem gX1_compared_J13_compare_74951 : GoodIn wsX1_compared (va_wsS RX1 68 yJ13_compare_74951 wsJ13_compare_74951) := goodIn_app (goodIn_of _ (by decide +kernel)) ggX1_compared_J13_compare_74951
theorem dX1_compared_0 : decode cX1_compared 0 = .ok (.aload_n 0, 1) := by decide +kernel
theorem dX1_compared_1 : decode cX1_compared 1 = .ok (.lload_n 1, 1) := by decide +kernel
theorem dX1_compared_2 : decode cX1_compared 2 = .ok (.invokevirtual 65, 3) := by decide +kernel
theorem dX1_compared_5 : decode cX1_compared 5 = .ok (.aload_n 0, 1) := by decide +kernel
theorem dX1_compared_6 : decode cX1_compared 6 = .ok (.lload_n 3, 1) := by decide +kernel
theorem dX1_compared_7 : decode cX1_compared 7 = .ok (.invokevirtual 65, 3) := by decide +kernel
theorem dX1_compared_10 : decode cX1_compared 10 = .ok (.invokestatic 68, 3) := by decide +kernel
theorem dX1_compared_13 : decode cX1_compared 13 = .ok (.ireturn, 1) := by decide +kernel
set_option maxRecDepth 20000 in
theorem ggX1_greater_X1_compared : GoodIn wsX1_greater wsX1_compared := goodIn_r _ [5, 6, 7, 8, 4, 9, 10, 11, 12, 13, 14, 15, 16] (by decide +kernel) (by decide +kernel)
set_option maxRecDepth 20000 in
theorem gX1_greater_X1_compared : GoodIn wsX1_greater (wsV RX1 74 RX1 yX1_compared wsX1_compared) := goodIn_app (goodIn_of _ (by decide +kernel)) ggX1_greater_X1_compared
theorem dX1_greater_0 : decode cX1_greater 0 = .ok (.aload_n 0, 1) := by decide +kernel
theorem dX1_greater_1 : decode cX1_greater 1 = .ok (.lload_n 1, 1) := by decide +kernel
theorem dX1_greater_2 : decode cX1_greater 2 = .ok (.lload_n 3, 1) := by decide +kernel
theorem dX1_greater_3 : decode cX1_greater 3 = .ok (.invokevirtual 74, 3) := by decide +kernel
theorem dX1_greater_6 : decode cX1_greater 6 = .ok (.ifCond .lt 7, 3) := by decide +kernel
theorem dX1_greater_9 : decode cX1_greater 9 = .ok (.lload_n 1, 1) := by decide +kernel
theorem dX1_greater_10 : decode cX1_greater 10 = .ok (.goto 4, 3) := by decide +kernel
theorem dX1_greater_13 : decode cX1_greater 13 = .ok (.lload_n 3, 1) := by decide +kernel
theorem dX1_greater_14 : decode cX1_greater 14 = .ok (.lreturn, 1) := by decide +kernel
set_option maxRecDepth 20000 in
theorem ggX1_lesser_X1_compared : GoodIn wsX1_lesser wsX1_compared := goodIn_r _ [5, 6, 7, 8, 4, 9, 10, 11, 12, 13, 14, 15, 16] (by decide +kernel) (by decide +kernel)
set_option maxRecDepth 20000 in
theorem gX1_lesser_X1_compared : GoodIn wsX1_lesser (wsV RX1 74 RX1 yX1_compared wsX1_compared) := goodIn_app (goodIn_of _ (by decide +kernel)) ggX1_lesser_X1_compared
theorem dX1_lesser_0 : decode cX1_lesser 0 = .ok (.aload_n 0, 1) := by decide +kernel
theorem dX1_lesser_1 : decode cX1_lesser 1 = .ok (.lload_n 1, 1) := by decide +kernel
theorem dX1_lesser_2 : decode cX1_lesser 2 = .ok (.lload_n 3, 1) := by decide +kernel
theorem dX1_lesser_3 : decode cX1_lesser 3 = .ok (.invokevirtual 74, 3) := by decide +kernel
theorem dX1_lesser_6 : decode cX1_lesser 6 = .ok (.ifCond .gt 7, 3) := by decide +kernel
theorem dX1_lesser_9 : decode cX1_lesser 9 = .ok (.lload_n 1, 1) := by decide +kernel
theorem dX1_lesser_10 : decode cX1_lesser 10 = .ok (.goto 4, 3) := by decide +kernel
theorem dX1_lesser_13 : decode cX1_lesser 13 = .ok (.lload_n 3, 1) := by decide +kernel
theorem dX1_lesser_14 : decode cX1_lesser 14 = .ok (.lreturn, 1) := by decide +kernel
theorem dX1_rank_0 : decode cX1_rank 0 = .ok (.aload_n 0, 1) := by decide +kernel
theorem dX1_rank_1 : decode cX1_rank 1 = .ok (.getfield 39, 3) := by decide +kernel
theorem dX1_rank_4 : decode cX1_rank 4 = .ok (.ifCond .eq 22, 3) := by decide +kernel
theorem dX1_rank_7 : decode cX1_rank 7 = .ok (.lload_n 1, 1) := by decide +kernel
theorem dX1_rank_8 : decode cX1_rank 8 = .ok (.lconst 0, 1) := by decide +kernel
theorem dX1_rank_9 : decode cX1_rank 9 = .ok (.lcmp, 1) := by decide +kernel
theorem dX1_rank_10 : decode cX1_rank 10 = .ok (.ifCond .ge 16, 3) := by decide +kernel
theorem dX1_rank_13 : decode cX1_rank 13 = .ok (.lload_n 1, 1) := by decide +kernel
theorem dX1_rank_14 : decode cX1_rank 14 = .ok (.aload_n 0, 1) := by decide +kernel
theorem dX1_rank_15 : decode cX1_rank 15 = .ok (.getfield 51, 3) := by decide +kernel
theorem dX1_rank_18 : decode cX1_rank 18 = .ok (.ldc2_w 49, 3) := by decide +kernel
theorem dX1_rank_21 : decode cX1_rank 21 = .ok (.lxor, 1) := by decide +kernel
theorem dX1_rank_22 : decode cX1_rank 22 = .ok (.lxor, 1) := by decide +kernel
theorem dX1_rank_23 : decode cX1_rank 23 = .ok (.goto 4, 3) := by decide +kernel
theorem dX1_rank_26 : decode cX1_rank 26 = .ok (.lload_n 1, 1) := by decide +kernel
theorem dX1_rank_27 : decode cX1_rank 27 = .ok (.lreturn, 1) := by decide +kernel
set_option maxRecDepth 20000 in
theorem ggX1_sized_X1_fitted : GoodIn wsX1_sized wsX1_fitted := goodIn_r _ [12, 13] (by decide +kernel) (by decide +kernel)
set_option maxRecDepth 20000 in
theorem gX1_sized_X1_fitted : GoodIn wsX1_sized (wsV RX1 82 RX1 yX1_fitted wsX1_fitted) := goodIn_app (goodIn_of _ (by decide +kernel)) ggX1_sized_X1_fitted
theorem dX1_sized_0 : decode cX1_sized 0 = .ok (.aload_n 0, 1) := by decide +kernel
theorem dX1_sized_1 : decode cX1_sized 1 = .ok (.getfield 39, 3) := by decide +kernel
theorem dX1_sized_4 : decode cX1_sized 4 = .ok (.ifCond .eq 16, 3) := by decide +kernel
theorem dX1_sized_7 : decode cX1_sized 7 = .ok (.lload_n 1, 1) := by decide +kernel
theorem dX1_sized_8 : decode cX1_sized 8 = .ok (.aload_n 0, 1) := by decide +kernel
theorem dX1_sized_9 : decode cX1_sized 9 = .ok (.getfield 51, 3) := by decide +kernel
theorem dX1_sized_12 : decode cX1_sized 12 = .ok (.ldc2_w 49, 3) := by decide +kernel
theorem dX1_sized_15 : decode cX1_sized 15 = .ok (.lxor, 1) := by decide +kernel
theorem dX1_sized_16 : decode cX1_sized 16 = .ok (.land, 1) := by decide +kernel
theorem dX1_sized_17 : decode cX1_sized 17 = .ok (.goto 11, 3) := by decide +kernel
theorem dX1_sized_20 : decode cX1_sized 20 = .ok (.aload_n 0, 1) := by decide +kernel
theorem dX1_sized_21 : decode cX1_sized 21 = .ok (.lload_n 1, 1) := by decide +kernel
theorem dX1_sized_22 : decode cX1_sized 22 = .ok (.invokestatic 77, 3) := by decide +kernel
theorem dX1_sized_25 : decode cX1_sized 25 = .ok (.invokevirtual 82, 3) := by decide +kernel
theorem dX1_sized_28 : decode cX1_sized 28 = .ok (.lreturn, 1) := by decide +kernel
set_option maxRecDepth 20000 in
theorem ggX1_turned_X1_sized : GoodIn wsX1_turned wsX1_sized := goodIn_r _ [7, 1, 2, 8, 9, 10, 11, 12, 13, 14, 15, 6, 16, 17] (by decide +kernel) (by decide +kernel)
set_option maxRecDepth 20000 in
theorem gX1_turned_X1_sized : GoodIn wsX1_turned (wsV RX1 61 RX1 yX1_sized wsX1_sized) := goodIn_app (goodIn_of _ (by decide +kernel)) ggX1_turned_X1_sized
set_option maxRecDepth 20000 in
theorem ggX1_turned_X1_fitted : GoodIn wsX1_turned wsX1_fitted := goodIn_r _ [16, 17] (by decide +kernel) (by decide +kernel)
set_option maxRecDepth 20000 in
theorem gX1_turned_X1_fitted : GoodIn wsX1_turned (wsV RX1 82 RX1 yX1_fitted wsX1_fitted) := goodIn_app (goodIn_of _ (by decide +kernel)) ggX1_turned_X1_fitted
theorem dX1_turned_0 : decode cX1_turned 0 = .ok (.aload_n 0, 1) := by decide +kernel
theorem dX1_turned_1 : decode cX1_turned 1 = .ok (.lload_n 1, 1) := by decide +kernel
theorem dX1_turned_2 : decode cX1_turned 2 = .ok (.invokevirtual 61, 3) := by decide +kernel
theorem dX1_turned_5 : decode cX1_turned 5 = .ok (.lstore 5, 2) := by decide +kernel
theorem dX1_turned_7 : decode cX1_turned 7 = .ok (.lload_n 3, 1) := by decide +kernel
theorem dX1_turned_8 : decode cX1_turned 8 = .ok (.lconst 0, 1) := by decide +kernel
theorem dX1_turned_9 : decode cX1_turned 9 = .ok (.lcmp, 1) := by decide +kernel
theorem dX1_turned_10 : decode cX1_turned 10 = .ok (.ifCond .lt 6, 3) := by decide +kernel
theorem dX1_turned_13 : decode cX1_turned 13 = .ok (.lload 5, 2) := by decide +kernel
theorem dX1_turned_15 : decode cX1_turned 15 = .ok (.lreturn, 1) := by decide +kernel
theorem dX1_turned_16 : decode cX1_turned 16 = .ok (.aload_n 0, 1) := by decide +kernel
theorem dX1_turned_17 : decode cX1_turned 17 = .ok (.getfield 39, 3) := by decide +kernel
theorem dX1_turned_20 : decode cX1_turned 20 = .ok (.ifCond .eq 13, 3) := by decide +kernel
theorem dX1_turned_23 : decode cX1_turned 23 = .ok (.lload 5, 2) := by decide +kernel
theorem dX1_turned_25 : decode cX1_turned 25 = .ok (.aload_n 0, 1) := by decide +kernel
theorem dX1_turned_26 : decode cX1_turned 26 = .ok (.getfield 51, 3) := by decide +kernel
theorem dX1_turned_29 : decode cX1_turned 29 = .ok (.lor, 1) := by decide +kernel
theorem dX1_turned_30 : decode cX1_turned 30 = .ok (.goto 10, 3) := by decide +kernel
theorem dX1_turned_33 : decode cX1_turned 33 = .ok (.aload_n 0, 1) := by decide +kernel
theorem dX1_turned_34 : decode cX1_turned 34 = .ok (.lload 5, 2) := by decide +kernel
theorem dX1_turned_36 : decode cX1_turned 36 = .ok (.lneg, 1) := by decide +kernel
theorem dX1_turned_37 : decode cX1_turned 37 = .ok (.invokevirtual 82, 3) := by decide +kernel
theorem dX1_turned_40 : decode cX1_turned 40 = .ok (.lreturn, 1) := by decide +kernel
set_option maxRecDepth 20000 in
theorem ggX1_zeroBeside_X1_turned : GoodIn wsX1_zeroBeside wsX1_turned := goodIn_r _ [5, 6, 7, 8, 9, 10, 4, 11, 12, 13, 14, 15, 16, 17, 18, 19, 20, 21] (by decide +kernel) (by decide +kernel)
set_option maxRecDepth 20000 in
theorem gX1_zeroBeside_X1_turned : GoodIn wsX1_zeroBeside (wsV RX1 85 RX1 yX1_turned wsX1_turned) := goodIn_app (goodIn_of _ (by decide +kernel)) ggX1_zeroBeside_X1_turned
theorem dX1_zeroBeside_0 : decode cX1_zeroBeside 0 = .ok (.aload_n 0, 1) := by decide +kernel
theorem dX1_zeroBeside_1 : decode cX1_zeroBeside 1 = .ok (.lconst 0, 1) := by decide +kernel
theorem dX1_zeroBeside_2 : decode cX1_zeroBeside 2 = .ok (.lload_n 1, 1) := by decide +kernel
theorem dX1_zeroBeside_3 : decode cX1_zeroBeside 3 = .ok (.invokevirtual 85, 3) := by decide +kernel
theorem dX1_zeroBeside_6 : decode cX1_zeroBeside 6 = .ok (.lreturn, 1) := by decide +kernel
set_option maxRecDepth 20000 in
theorem ggX1_wholeBelow_X1_sized : GoodIn wsX1_wholeBelow wsX1_sized := goodIn_r _ [6, 1, 7, 8, 9, 10, 11, 12, 13, 14, 15, 5, 16, 17] (by decide +kernel) (by decide +kernel)
set_option maxRecDepth 20000 in
theorem gX1_wholeBelow_X1_sized : GoodIn wsX1_wholeBelow (wsV RX1 61 RX1 yX1_sized wsX1_sized) := goodIn_app (goodIn_of _ (by decide +kernel)) ggX1_wholeBelow_X1_sized
set_option maxRecDepth 20000 in
theorem ggX1_wholeBelow_X1_outward : GoodIn wsX1_wholeBelow wsX1_outward := goodIn_r _ [21, 8, 22, 23, 24, 5, 25, 1, 26, 27, 28, 29, 30, 31, 32, 33, 11, 34] (by decide +kernel) (by decide +kernel)
set_option maxRecDepth 20000 in
theorem gX1_wholeBelow_X1_outward : GoodIn wsX1_wholeBelow (wsV RX1 89 RX1 yX1_outward wsX1_outward) := goodIn_app (goodIn_of _ (by decide +kernel)) ggX1_wholeBelow_X1_outward
set_option maxRecDepth 20000 in
theorem ggX1_wholeBelow_X1_inward : GoodIn wsX1_wholeBelow wsX1_inward := goodIn_r _ [38, 22, 23, 24, 5, 25, 1, 26, 27, 28, 29, 30, 31, 32, 33, 11, 34] (by decide +kernel) (by decide +kernel)
set_option maxRecDepth 20000 in
theorem gX1_wholeBelow_X1_inward : GoodIn wsX1_wholeBelow (wsV RX1 92 RX1 yX1_inward wsX1_inward) := goodIn_app (goodIn_of _ (by decide +kernel)) ggX1_wholeBelow_X1_inward
set_option maxRecDepth 20000 in
theorem ggX1_wholeBelow_X1_turned : GoodIn wsX1_wholeBelow wsX1_turned := goodIn_r _ [42, 1, 7, 2, 3, 4, 5, 6, 8, 9, 10, 11, 12, 13, 14, 15, 16, 17] (by decide +kernel) (by decide +kernel)
set_option maxRecDepth 20000 in
theorem gX1_wholeBelow_X1_turned : GoodIn wsX1_wholeBelow (wsV RX1 85 RX1 yX1_turned wsX1_turned) := goodIn_app (goodIn_of _ (by decide +kernel)) ggX1_wholeBelow_X1_turned
theorem dX1_wholeBelow_0 : decode cX1_wholeBelow 0 = .ok (.aload_n 0, 1) := by decide +kernel
theorem dX1_wholeBelow_1 : decode cX1_wholeBelow 1 = .ok (.getfield 39, 3) := by decide +kernel
theorem dX1_wholeBelow_4 : decode cX1_wholeBelow 4 = .ok (.ifCond .ne 5, 3) := by decide +kernel
theorem dX1_wholeBelow_7 : decode cX1_wholeBelow 7 = .ok (.lload_n 1, 1) := by decide +kernel
theorem dX1_wholeBelow_8 : decode cX1_wholeBelow 8 = .ok (.lreturn, 1) := by decide +kernel
theorem dX1_wholeBelow_9 : decode cX1_wholeBelow 9 = .ok (.aload_n 0, 1) := by decide +kernel
theorem dX1_wholeBelow_10 : decode cX1_wholeBelow 10 = .ok (.lload_n 1, 1) := by decide +kernel
theorem dX1_wholeBelow_11 : decode cX1_wholeBelow 11 = .ok (.invokevirtual 61, 3) := by decide +kernel
theorem dX1_wholeBelow_14 : decode cX1_wholeBelow 14 = .ok (.lstore_n 3, 1) := by decide +kernel
theorem dX1_wholeBelow_15 : decode cX1_wholeBelow 15 = .ok (.aload_n 0, 1) := by decide +kernel
theorem dX1_wholeBelow_16 : decode cX1_wholeBelow 16 = .ok (.lload_n 1, 1) := by decide +kernel
theorem dX1_wholeBelow_17 : decode cX1_wholeBelow 17 = .ok (.lconst 0, 1) := by decide +kernel
theorem dX1_wholeBelow_18 : decode cX1_wholeBelow 18 = .ok (.lcmp, 1) := by decide +kernel
theorem dX1_wholeBelow_19 : decode cX1_wholeBelow 19 = .ok (.ifCond .ge 11, 3) := by decide +kernel
theorem dX1_wholeBelow_22 : decode cX1_wholeBelow 22 = .ok (.aload_n 0, 1) := by decide +kernel
theorem dX1_wholeBelow_23 : decode cX1_wholeBelow 23 = .ok (.lload_n 3, 1) := by decide +kernel
theorem dX1_wholeBelow_24 : decode cX1_wholeBelow 24 = .ok (.invokevirtual 89, 3) := by decide +kernel
theorem dX1_wholeBelow_27 : decode cX1_wholeBelow 27 = .ok (.goto 8, 3) := by decide +kernel
theorem dX1_wholeBelow_30 : decode cX1_wholeBelow 30 = .ok (.aload_n 0, 1) := by decide +kernel
theorem dX1_wholeBelow_31 : decode cX1_wholeBelow 31 = .ok (.lload_n 3, 1) := by decide +kernel
theorem dX1_wholeBelow_32 : decode cX1_wholeBelow 32 = .ok (.invokevirtual 92, 3) := by decide +kernel
theorem dX1_wholeBelow_35 : decode cX1_wholeBelow 35 = .ok (.lload_n 1, 1) := by decide +kernel
theorem dX1_wholeBelow_36 : decode cX1_wholeBelow 36 = .ok (.invokevirtual 85, 3) := by decide +kernel
theorem dX1_wholeBelow_39 : decode cX1_wholeBelow 39 = .ok (.lreturn, 1) := by decide +kernel
set_option maxRecDepth 20000 in
theorem ggX1_wholeAbove_X1_sized : GoodIn wsX1_wholeAbove wsX1_sized := goodIn_r _ [6, 1, 7, 8, 9, 10, 11, 12, 13, 14, 15, 5, 16, 17] (by decide +kernel) (by decide +kernel)
set_option maxRecDepth 20000 in
theorem gX1_wholeAbove_X1_sized : GoodIn wsX1_wholeAbove (wsV RX1 61 RX1 yX1_sized wsX1_sized) := goodIn_app (goodIn_of _ (by decide +kernel)) ggX1_wholeAbove_X1_sized
set_option maxRecDepth 20000 in
theorem ggX1_wholeAbove_X1_inward : GoodIn wsX1_wholeAbove wsX1_inward := goodIn_r _ [21, 22, 23, 24, 5, 25, 1, 26, 27, 28, 29, 30, 31, 32, 33, 11, 34] (by decide +kernel) (by decide +kernel)
set_option maxRecDepth 20000 in
theorem gX1_wholeAbove_X1_inward : GoodIn wsX1_wholeAbove (wsV RX1 92 RX1 yX1_inward wsX1_inward) := goodIn_app (goodIn_of _ (by decide +kernel)) ggX1_wholeAbove_X1_inward
set_option maxRecDepth 20000 in
theorem ggX1_wholeAbove_X1_outward : GoodIn wsX1_wholeAbove wsX1_outward := goodIn_r _ [38, 8, 22, 23, 24, 5, 25, 1, 26, 27, 28, 29, 30, 31, 32, 33, 11, 34] (by decide +kernel) (by decide +kernel)
set_option maxRecDepth 20000 in
theorem gX1_wholeAbove_X1_outward : GoodIn wsX1_wholeAbove (wsV RX1 89 RX1 yX1_outward wsX1_outward) := goodIn_app (goodIn_of _ (by decide +kernel)) ggX1_wholeAbove_X1_outward
set_option maxRecDepth 20000 in
theorem ggX1_wholeAbove_X1_turned : GoodIn wsX1_wholeAbove wsX1_turned := goodIn_r _ [42, 1, 7, 2, 3, 4, 5, 6, 8, 9, 10, 11, 12, 13, 14, 15, 16, 17] (by decide +kernel) (by decide +kernel)
set_option maxRecDepth 20000 in
theorem gX1_wholeAbove_X1_turned : GoodIn wsX1_wholeAbove (wsV RX1 85 RX1 yX1_turned wsX1_turned) := goodIn_app (goodIn_of _ (by decide +kernel)) ggX1_wholeAbove_X1_turned
theorem dX1_wholeAbove_0 : decode cX1_wholeAbove 0 = .ok (.aload_n 0, 1) := by decide +kernel
theorem dX1_wholeAbove_1 : decode cX1_wholeAbove 1 = .ok (.getfield 39, 3) := by decide +kernel
theorem dX1_wholeAbove_4 : decode cX1_wholeAbove 4 = .ok (.ifCond .ne 5, 3) := by decide +kernel
theorem dX1_wholeAbove_7 : decode cX1_wholeAbove 7 = .ok (.lload_n 1, 1) := by decide +kernel
theorem dX1_wholeAbove_8 : decode cX1_wholeAbove 8 = .ok (.lreturn, 1) := by decide +kernel
theorem dX1_wholeAbove_9 : decode cX1_wholeAbove 9 = .ok (.aload_n 0, 1) := by decide +kernel
theorem dX1_wholeAbove_10 : decode cX1_wholeAbove 10 = .ok (.lload_n 1, 1) := by decide +kernel
theorem dX1_wholeAbove_11 : decode cX1_wholeAbove 11 = .ok (.invokevirtual 61, 3) := by decide +kernel
theorem dX1_wholeAbove_14 : decode cX1_wholeAbove 14 = .ok (.lstore_n 3, 1) := by decide +kernel
theorem dX1_wholeAbove_15 : decode cX1_wholeAbove 15 = .ok (.aload_n 0, 1) := by decide +kernel
theorem dX1_wholeAbove_16 : decode cX1_wholeAbove 16 = .ok (.lload_n 1, 1) := by decide +kernel
theorem dX1_wholeAbove_17 : decode cX1_wholeAbove 17 = .ok (.lconst 0, 1) := by decide +kernel
theorem dX1_wholeAbove_18 : decode cX1_wholeAbove 18 = .ok (.lcmp, 1) := by decide +kernel
theorem dX1_wholeAbove_19 : decode cX1_wholeAbove 19 = .ok (.ifCond .ge 11, 3) := by decide +kernel
theorem dX1_wholeAbove_22 : decode cX1_wholeAbove 22 = .ok (.aload_n 0, 1) := by decide +kernel
theorem dX1_wholeAbove_23 : decode cX1_wholeAbove 23 = .ok (.lload_n 3, 1) := by decide +kernel
theorem dX1_wholeAbove_24 : decode cX1_wholeAbove 24 = .ok (.invokevirtual 92, 3) := by decide +kernel
theorem dX1_wholeAbove_27 : decode cX1_wholeAbove 27 = .ok (.goto 8, 3) := by decide +kernel
theorem dX1_wholeAbove_30 : decode cX1_wholeAbove 30 = .ok (.aload_n 0, 1) := by decide +kernel
theorem dX1_wholeAbove_31 : decode cX1_wholeAbove 31 = .ok (.lload_n 3, 1) := by decide +kernel
theorem dX1_wholeAbove_32 : decode cX1_wholeAbove 32 = .ok (.invokevirtual 89, 3) := by decide +kernel
theorem dX1_wholeAbove_35 : decode cX1_wholeAbove 35 = .ok (.lload_n 1, 1) := by decide +kernel
theorem dX1_wholeAbove_36 : decode cX1_wholeAbove 36 = .ok (.invokevirtual 85, 3) := by decide +kernel
theorem dX1_wholeAbove_39 : decode cX1_wholeAbove 39 = .ok (.lreturn, 1) := by decide +kernel
set_option maxRecDepth 20000 in
theorem ggX1_wholeNearest_X1_sized : GoodIn wsX1_wholeNearest wsX1_sized := goodIn_r _ [6, 1, 7, 8, 9, 10, 11, 12, 13, 14, 15, 5, 16, 17] (by decide +kernel) (by decide +kernel)
set_option maxRecDepth 20000 in
theorem gX1_wholeNearest_X1_sized : GoodIn wsX1_wholeNearest (wsV RX1 61 RX1 yX1_sized wsX1_sized) := goodIn_app (goodIn_of _ (by decide +kernel)) ggX1_wholeNearest_X1_sized
set_option maxRecDepth 20000 in
theorem ggX1_wholeNearest_X1_nearest : GoodIn wsX1_wholeNearest wsX1_nearest := goodIn_r _ [21, 22, 23, 24, 25, 5, 26, 1, 27, 28, 29, 30, 31, 32, 33, 11, 34, 35, 36, 37, 38, 39, 40] (by decide +kernel) (by decide +kernel)
set_option maxRecDepth 20000 in
theorem gX1_wholeNearest_X1_nearest : GoodIn wsX1_wholeNearest (wsV RX1 95 RX1 yX1_nearest wsX1_nearest) := goodIn_app (goodIn_of _ (by decide +kernel)) ggX1_wholeNearest_X1_nearest
set_option maxRecDepth 20000 in
theorem ggX1_wholeNearest_X1_turned : GoodIn wsX1_wholeNearest wsX1_turned := goodIn_r _ [44, 1, 7, 2, 3, 4, 5, 6, 8, 9, 10, 11, 12, 13, 14, 15, 16, 17] (by decide +kernel) (by decide +kernel)
set_option maxRecDepth 20000 in
theorem gX1_wholeNearest_X1_turned : GoodIn wsX1_wholeNearest (wsV RX1 85 RX1 yX1_turned wsX1_turned) := goodIn_app (goodIn_of _ (by decide +kernel)) ggX1_wholeNearest_X1_turned
theorem dX1_wholeNearest_0 : decode cX1_wholeNearest 0 = .ok (.aload_n 0, 1) := by decide +kernel
theorem dX1_wholeNearest_1 : decode cX1_wholeNearest 1 = .ok (.getfield 39, 3) := by decide +kernel
theorem dX1_wholeNearest_4 : decode cX1_wholeNearest 4 = .ok (.ifCond .eq 20, 3) := by decide +kernel
theorem dX1_wholeNearest_7 : decode cX1_wholeNearest 7 = .ok (.aload_n 0, 1) := by decide +kernel
theorem dX1_wholeNearest_8 : decode cX1_wholeNearest 8 = .ok (.aload_n 0, 1) := by decide +kernel
theorem dX1_wholeNearest_9 : decode cX1_wholeNearest 9 = .ok (.aload_n 0, 1) := by decide +kernel
theorem dX1_wholeNearest_10 : decode cX1_wholeNearest 10 = .ok (.lload_n 1, 1) := by decide +kernel
theorem dX1_wholeNearest_11 : decode cX1_wholeNearest 11 = .ok (.invokevirtual 61, 3) := by decide +kernel
theorem dX1_wholeNearest_14 : decode cX1_wholeNearest 14 = .ok (.invokevirtual 95, 3) := by decide +kernel
theorem dX1_wholeNearest_17 : decode cX1_wholeNearest 17 = .ok (.lload_n 1, 1) := by decide +kernel
theorem dX1_wholeNearest_18 : decode cX1_wholeNearest 18 = .ok (.invokevirtual 85, 3) := by decide +kernel
theorem dX1_wholeNearest_21 : decode cX1_wholeNearest 21 = .ok (.goto 4, 3) := by decide +kernel
theorem dX1_wholeNearest_24 : decode cX1_wholeNearest 24 = .ok (.lload_n 1, 1) := by decide +kernel
theorem dX1_wholeNearest_25 : decode cX1_wholeNearest 25 = .ok (.lreturn, 1) := by decide +kernel
theorem dX1_bitsBelowUnit_0 : decode cX1_bitsBelowUnit 0 = .ok (.iconst 0, 1) := by decide +kernel
theorem dX1_bitsBelowUnit_1 : decode cX1_bitsBelowUnit 1 = .ok (.aload_n 0, 1) := by decide +kernel
theorem dX1_bitsBelowUnit_2 : decode cX1_bitsBelowUnit 2 = .ok (.getfield 46, 3) := by decide +kernel
theorem dX1_bitsBelowUnit_5 : decode cX1_bitsBelowUnit 5 = .ok (.aload_n 0, 1) := by decide +kernel
theorem dX1_bitsBelowUnit_6 : decode cX1_bitsBelowUnit 6 = .ok (.getfield 43, 3) := by decide +kernel
theorem dX1_bitsBelowUnit_9 : decode cX1_bitsBelowUnit 9 = .ok (.iadd, 1) := by decide +kernel
theorem dX1_bitsBelowUnit_10 : decode cX1_bitsBelowUnit 10 = .ok (.lload_n 1, 1) := by decide +kernel
theorem dX1_bitsBelowUnit_11 : decode cX1_bitsBelowUnit 11 = .ok (.aload_n 0, 1) := by decide +kernel
theorem dX1_bitsBelowUnit_12 : decode cX1_bitsBelowUnit 12 = .ok (.getfield 43, 3) := by decide +kernel
theorem dX1_bitsBelowUnit_15 : decode cX1_bitsBelowUnit 15 = .ok (.lushr, 1) := by decide +kernel
theorem dX1_bitsBelowUnit_16 : decode cX1_bitsBelowUnit 16 = .ok (.l2i, 1) := by decide +kernel
theorem dX1_bitsBelowUnit_17 : decode cX1_bitsBelowUnit 17 = .ok (.isub, 1) := by decide +kernel
theorem dX1_bitsBelowUnit_18 : decode cX1_bitsBelowUnit 18 = .ok (.invokestatic 98, 3) := by decide +kernel
theorem dX1_bitsBelowUnit_21 : decode cX1_bitsBelowUnit 21 = .ok (.ireturn, 1) := by decide +kernel
set_option maxRecDepth 20000 in
theorem ggX1_inward_X1_one : GoodIn wsX1_inward wsX1_one := goodIn_r _ [5, 6, 7, 8] (by decide +kernel) (by decide +kernel)
set_option maxRecDepth 20000 in
theorem gX1_inward_X1_one : GoodIn wsX1_inward (wsV RX1 102 RX1 yX1_one wsX1_one) := goodIn_app (goodIn_of _ (by decide +kernel)) ggX1_inward_X1_one
set_option maxRecDepth 20000 in
theorem ggX1_inward_X1_bitsBelowUnit : GoodIn wsX1_inward wsX1_bitsBelowUnit := goodIn_r _ [12, 7, 8, 13, 14, 15, 16] (by decide +kernel) (by decide +kernel)
set_option maxRecDepth 20000 in
theorem gX1_inward_X1_bitsBelowUnit : GoodIn wsX1_inward (wsV RX1 105 RX1 yX1_bitsBelowUnit wsX1_bitsBelowUnit) := goodIn_app (goodIn_of _ (by decide +kernel)) ggX1_inward_X1_bitsBelowUnit
theorem dX1_inward_0 : decode cX1_inward 0 = .ok (.lload_n 1, 1) := by decide +kernel
theorem dX1_inward_1 : decode cX1_inward 1 = .ok (.aload_n 0, 1) := by decide +kernel
theorem dX1_inward_2 : decode cX1_inward 2 = .ok (.invokevirtual 102, 3) := by decide +kernel
theorem dX1_inward_5 : decode cX1_inward 5 = .ok (.lcmp, 1) := by decide +kernel
theorem dX1_inward_6 : decode cX1_inward 6 = .ok (.ifCond .ge 5, 3) := by decide +kernel
theorem dX1_inward_9 : decode cX1_inward 9 = .ok (.lconst 0, 1) := by decide +kernel
theorem dX1_inward_10 : decode cX1_inward 10 = .ok (.lreturn, 1) := by decide +kernel
theorem dX1_inward_11 : decode cX1_inward 11 = .ok (.aload_n 0, 1) := by decide +kernel
theorem dX1_inward_12 : decode cX1_inward 12 = .ok (.lload_n 1, 1) := by decide +kernel
theorem dX1_inward_13 : decode cX1_inward 13 = .ok (.invokevirtual 105, 3) := by decide +kernel
theorem dX1_inward_16 : decode cX1_inward 16 = .ok (.istore_n 3, 1) := by decide +kernel
theorem dX1_inward_17 : decode cX1_inward 17 = .ok (.lload_n 1, 1) := by decide +kernel
theorem dX1_inward_18 : decode cX1_inward 18 = .ok (.iload_n 3, 1) := by decide +kernel
theorem dX1_inward_19 : decode cX1_inward 19 = .ok (.lushr, 1) := by decide +kernel
theorem dX1_inward_20 : decode cX1_inward 20 = .ok (.iload_n 3, 1) := by decide +kernel
theorem dX1_inward_21 : decode cX1_inward 21 = .ok (.lshl, 1) := by decide +kernel
theorem dX1_inward_22 : decode cX1_inward 22 = .ok (.lreturn, 1) := by decide +kernel
set_option maxRecDepth 20000 in
theorem ggX1_outward_X1_one : GoodIn wsX1_outward wsX1_one := goodIn_r _ [6, 7, 8, 9] (by decide +kernel) (by decide +kernel)
set_option maxRecDepth 20000 in
theorem gX1_outward_X1_one : GoodIn wsX1_outward (wsV RX1 102 RX1 yX1_one wsX1_one) := goodIn_app (goodIn_of _ (by decide +kernel)) ggX1_outward_X1_one
set_option maxRecDepth 20000 in
theorem ggX1_outward_X1_bitsBelowUnit : GoodIn wsX1_outward wsX1_bitsBelowUnit := goodIn_r _ [13, 8, 9, 14, 15, 16, 17] (by decide +kernel) (by decide +kernel)
set_option maxRecDepth 20000 in
theorem gX1_outward_X1_bitsBelowUnit : GoodIn wsX1_outward (wsV RX1 105 RX1 yX1_bitsBelowUnit wsX1_bitsBelowUnit) := goodIn_app (goodIn_of _ (by decide +kernel)) ggX1_outward_X1_bitsBelowUnit
theorem dX1_outward_0 : decode cX1_outward 0 = .ok (.lload_n 1, 1) := by decide +kernel
theorem dX1_outward_1 : decode cX1_outward 1 = .ok (.aload_n 0, 1) := by decide +kernel
theorem dX1_outward_2 : decode cX1_outward 2 = .ok (.invokevirtual 102, 3) := by decide +kernel
theorem dX1_outward_5 : decode cX1_outward 5 = .ok (.lcmp, 1) := by decide +kernel
theorem dX1_outward_6 : decode cX1_outward 6 = .ok (.ifCond .ge 18, 3) := by decide +kernel
theorem dX1_outward_9 : decode cX1_outward 9 = .ok (.lload_n 1, 1) := by decide +kernel
theorem dX1_outward_10 : decode cX1_outward 10 = .ok (.lconst 0, 1) := by decide +kernel
theorem dX1_outward_11 : decode cX1_outward 11 = .ok (.lcmp, 1) := by decide +kernel
theorem dX1_outward_12 : decode cX1_outward 12 = .ok (.ifCond .ne 7, 3) := by decide +kernel
theorem dX1_outward_15 : decode cX1_outward 15 = .ok (.lconst 0, 1) := by decide +kernel
theorem dX1_outward_16 : decode cX1_outward 16 = .ok (.goto 7, 3) := by decide +kernel
theorem dX1_outward_19 : decode cX1_outward 19 = .ok (.aload_n 0, 1) := by decide +kernel
theorem dX1_outward_20 : decode cX1_outward 20 = .ok (.invokevirtual 102, 3) := by decide +kernel
theorem dX1_outward_23 : decode cX1_outward 23 = .ok (.lreturn, 1) := by decide +kernel
theorem dX1_outward_24 : decode cX1_outward 24 = .ok (.lconst 1, 1) := by decide +kernel
theorem dX1_outward_25 : decode cX1_outward 25 = .ok (.aload_n 0, 1) := by decide +kernel
theorem dX1_outward_26 : decode cX1_outward 26 = .ok (.lload_n 1, 1) := by decide +kernel
theorem dX1_outward_27 : decode cX1_outward 27 = .ok (.invokevirtual 105, 3) := by decide +kernel
theorem dX1_outward_30 : decode cX1_outward 30 = .ok (.lshl, 1) := by decide +kernel
theorem dX1_outward_31 : decode cX1_outward 31 = .ok (.lconst 1, 1) := by decide +kernel
theorem dX1_outward_32 : decode cX1_outward 32 = .ok (.lsub, 1) := by decide +kernel
theorem dX1_outward_33 : decode cX1_outward 33 = .ok (.lstore_n 3, 1) := by decide +kernel
theorem dX1_outward_34 : decode cX1_outward 34 = .ok (.lload_n 1, 1) := by decide +kernel
theorem dX1_outward_35 : decode cX1_outward 35 = .ok (.lload_n 3, 1) := by decide +kernel
theorem dX1_outward_36 : decode cX1_outward 36 = .ok (.ladd, 1) := by decide +kernel
theorem dX1_outward_37 : decode cX1_outward 37 = .ok (.lload_n 3, 1) := by decide +kernel
theorem dX1_outward_38 : decode cX1_outward 38 = .ok (.ldc2_w 49, 3) := by decide +kernel
theorem dX1_outward_41 : decode cX1_outward 41 = .ok (.lxor, 1) := by decide +kernel
theorem dX1_outward_42 : decode cX1_outward 42 = .ok (.land, 1) := by decide +kernel
theorem dX1_outward_43 : decode cX1_outward 43 = .ok (.lreturn, 1) := by decide +kernel
set_option maxRecDepth 20000 in
theorem ggX1_nearest_X1_one : GoodIn wsX1_nearest wsX1_one := goodIn_r _ [6, 7, 8, 1] (by decide +kernel) (by decide +kernel)
set_option maxRecDepth 20000 in
theorem gX1_nearest_X1_one : GoodIn wsX1_nearest (wsV RX1 102 RX1 yX1_one wsX1_one) := goodIn_app (goodIn_of _ (by decide +kernel)) ggX1_nearest_X1_one
set_option maxRecDepth 20000 in
theorem ggX1_nearest_X1_bitsBelowUnit : GoodIn wsX1_nearest wsX1_bitsBelowUnit := goodIn_r _ [12, 8, 1, 13, 14, 15, 16] (by decide +kernel) (by decide +kernel)
set_option maxRecDepth 20000 in
theorem gX1_nearest_X1_bitsBelowUnit : GoodIn wsX1_nearest (wsV RX1 105 RX1 yX1_bitsBelowUnit wsX1_bitsBelowUnit) := goodIn_app (goodIn_of _ (by decide +kernel)) ggX1_nearest_X1_bitsBelowUnit
set_option maxRecDepth 20000 in
theorem ggX1_nearest_X1_scaledDown : GoodIn wsX1_nearest wsX1_scaledDown := goodIn_r _ [19, 20, 21, 15, 22] (by decide +kernel) (by decide +kernel)
set_option maxRecDepth 20000 in
theorem gX1_nearest_X1_scaledDown : GoodIn wsX1_nearest (va_wsS RX1 109 yX1_scaledDown wsX1_scaledDown) := goodIn_app (goodIn_of _ (by decide +kernel)) ggX1_nearest_X1_scaledDown
theorem dX1_nearest_0 : decode cX1_nearest 0 = .ok (.lload_n 1, 1) := by decide +kernel
theorem dX1_nearest_1 : decode cX1_nearest 1 = .ok (.aload_n 0, 1) := by decide +kernel
theorem dX1_nearest_2 : decode cX1_nearest 2 = .ok (.invokevirtual 102, 3) := by decide +kernel
theorem dX1_nearest_5 : decode cX1_nearest 5 = .ok (.lcmp, 1) := by decide +kernel
theorem dX1_nearest_6 : decode cX1_nearest 6 = .ok (.ifCond .ge 30, 3) := by decide +kernel
theorem dX1_nearest_9 : decode cX1_nearest 9 = .ok (.aload_n 0, 1) := by decide +kernel
theorem dX1_nearest_10 : decode cX1_nearest 10 = .ok (.invokevirtual 102, 3) := by decide +kernel
theorem dX1_nearest_13 : decode cX1_nearest 13 = .ok (.lconst 1, 1) := by decide +kernel
theorem dX1_nearest_14 : decode cX1_nearest 14 = .ok (.aload_n 0, 1) := by decide +kernel
theorem dX1_nearest_15 : decode cX1_nearest 15 = .ok (.getfield 43, 3) := by decide +kernel
theorem dX1_nearest_18 : decode cX1_nearest 18 = .ok (.lshl, 1) := by decide +kernel
theorem dX1_nearest_19 : decode cX1_nearest 19 = .ok (.lsub, 1) := by decide +kernel
theorem dX1_nearest_20 : decode cX1_nearest 20 = .ok (.lstore_n 3, 1) := by decide +kernel
theorem dX1_nearest_21 : decode cX1_nearest 21 = .ok (.lload_n 1, 1) := by decide +kernel
theorem dX1_nearest_22 : decode cX1_nearest 22 = .ok (.lload_n 3, 1) := by decide +kernel
theorem dX1_nearest_23 : decode cX1_nearest 23 = .ok (.lcmp, 1) := by decide +kernel
theorem dX1_nearest_24 : decode cX1_nearest 24 = .ok (.ifCond .le 10, 3) := by decide +kernel
theorem dX1_nearest_27 : decode cX1_nearest 27 = .ok (.aload_n 0, 1) := by decide +kernel
theorem dX1_nearest_28 : decode cX1_nearest 28 = .ok (.invokevirtual 102, 3) := by decide +kernel
theorem dX1_nearest_31 : decode cX1_nearest 31 = .ok (.goto 4, 3) := by decide +kernel
theorem dX1_nearest_34 : decode cX1_nearest 34 = .ok (.lconst 0, 1) := by decide +kernel
theorem dX1_nearest_35 : decode cX1_nearest 35 = .ok (.lreturn, 1) := by decide +kernel
theorem dX1_nearest_36 : decode cX1_nearest 36 = .ok (.aload_n 0, 1) := by decide +kernel
theorem dX1_nearest_37 : decode cX1_nearest 37 = .ok (.lload_n 1, 1) := by decide +kernel
theorem dX1_nearest_38 : decode cX1_nearest 38 = .ok (.invokevirtual 105, 3) := by decide +kernel
theorem dX1_nearest_41 : decode cX1_nearest 41 = .ok (.istore_n 3, 1) := by decide +kernel
theorem dX1_nearest_42 : decode cX1_nearest 42 = .ok (.lload_n 1, 1) := by decide +kernel
theorem dX1_nearest_43 : decode cX1_nearest 43 = .ok (.iload_n 3, 1) := by decide +kernel
theorem dX1_nearest_44 : decode cX1_nearest 44 = .ok (.invokestatic 109, 3) := by decide +kernel
theorem dX1_nearest_47 : decode cX1_nearest 47 = .ok (.iload_n 3, 1) := by decide +kernel
theorem dX1_nearest_48 : decode cX1_nearest 48 = .ok (.lshl, 1) := by decide +kernel
theorem dX1_nearest_49 : decode cX1_nearest 49 = .ok (.lreturn, 1) := by decide +kernel
set_option maxRecDepth 20000 in
theorem ggX1_made_X1_sizeOf : GoodIn wsX1_made wsX1_sizeOf := goodIn_r _ [16, 17, 18, 19, 4, 20, 21, 22, 23, 24, 25, 26, 27, 28, 29, 30, 31, 32, 33, 15, 34, 35, 36, 37, 38, 39, 40, 41] (by decide +kernel) (by decide +kernel)
set_option maxRecDepth 20000 in
theorem gX1_made_X1_sizeOf : GoodIn wsX1_made (wsV RX1 113 RX1 yX1_sizeOf wsX1_sizeOf) := goodIn_app (goodIn_of _ (by decide +kernel)) ggX1_made_X1_sizeOf
set_option maxRecDepth 20000 in
theorem ggX1_made_X1_turned : GoodIn wsX1_made wsX1_turned := goodIn_r _ [45, 1, 46, 47, 48, 49, 15, 50, 51, 2, 3, 4, 5, 52, 53, 54, 55, 56] (by decide +kernel) (by decide +kernel)
set_option maxRecDepth 20000 in
theorem gX1_made_X1_turned : GoodIn wsX1_made (wsV RX1 85 RX1 yX1_turned wsX1_turned) := goodIn_app (goodIn_of _ (by decide +kernel)) ggX1_made_X1_turned
set_option maxRecDepth 20000 in
theorem ggX1_made_X1_fitted : GoodIn wsX1_made wsX1_fitted := goodIn_r _ [55, 56] (by decide +kernel) (by decide +kernel)
set_option maxRecDepth 20000 in
theorem gX1_made_X1_fitted : GoodIn wsX1_made (wsV RX1 82 RX1 yX1_fitted wsX1_fitted) := goodIn_app (goodIn_of _ (by decide +kernel)) ggX1_made_X1_fitted
set_option maxRecDepth 20000 in
theorem ggX1_made_X1_least : GoodIn wsX1_made wsX1_least := goodIn_r _ [60, 1, 46, 31, 32, 33, 15, 34, 35, 17, 21] (by decide +kernel) (by decide +kernel)
set_option maxRecDepth 20000 in
theorem gX1_made_X1_least : GoodIn wsX1_made (wsV RX1 116 RX1 yX1_least wsX1_least) := goodIn_app (goodIn_of _ (by decide +kernel)) ggX1_made_X1_least
set_option maxRecDepth 20000 in
theorem ggX1_made_X1_greatest : GoodIn wsX1_made wsX1_greatest := goodIn_r _ [64, 1, 46, 51, 31, 32, 33, 15, 34, 35, 17, 21] (by decide +kernel) (by decide +kernel)
set_option maxRecDepth 20000 in
theorem gX1_made_X1_greatest : GoodIn wsX1_made (wsV RX1 119 RX1 yX1_greatest wsX1_greatest) := goodIn_app (goodIn_of _ (by decide +kernel)) ggX1_made_X1_greatest
set_option maxRecDepth 20000 in
theorem ggX1_made_X1_towardsZero : GoodIn wsX1_made wsX1_towardsZero := goodIn_r _ [68, 21, 69, 70, 39, 40, 4, 41, 47, 48, 49, 15, 50, 1, 46, 51, 2, 3, 5, 52, 53, 54, 55, 56, 71, 72, 73, 74, 18, 19, 20, 17, 75, 76, 77, 78] (by decide +kernel) (by decide +kernel)
set_option maxRecDepth 20000 in
theorem gX1_made_X1_towardsZero : GoodIn wsX1_made (wsV RX1 122 RX1 yX1_towardsZero wsX1_towardsZero) := goodIn_app (goodIn_of _ (by decide +kernel)) ggX1_made_X1_towardsZero
set_option maxRecDepth 20000 in
theorem ggX1_made_X1_sized : GoodIn wsX1_made wsX1_sized := goodIn_r _ [50, 1, 46, 51, 2, 3, 4, 5, 52, 53, 54, 15, 55, 56] (by decide +kernel) (by decide +kernel)
set_option maxRecDepth 20000 in
theorem gX1_made_X1_sized : GoodIn wsX1_made (wsV RX1 61 RX1 yX1_sized wsX1_sized) := goodIn_app (goodIn_of _ (by decide +kernel)) ggX1_made_X1_sized
set_option maxRecDepth 20000 in
theorem ggX1_made_X1_infinity : GoodIn wsX1_made wsX1_infinity := goodIn_r _ [34, 35, 17, 21] (by decide +kernel) (by decide +kernel)
set_option maxRecDepth 20000 in
theorem gX1_made_X1_infinity : GoodIn wsX1_made (wsV RX1 57 RX1 yX1_infinity wsX1_infinity) := goodIn_app (goodIn_of _ (by decide +kernel)) ggX1_made_X1_infinity
set_option maxRecDepth 20000 in
theorem ggX1_made_X1_significand : GoodIn wsX1_made wsX1_significand := goodIn_r _ [78, 21] (by decide +kernel) (by decide +kernel)
set_option maxRecDepth 20000 in
theorem gX1_made_X1_significand : GoodIn wsX1_made (wsV RX1 130 RX1 yX1_significand wsX1_significand) := goodIn_app (goodIn_of _ (by decide +kernel)) ggX1_made_X1_significand
set_option maxRecDepth 20000 in
theorem ggX1_made_X1_scale : GoodIn wsX1_made wsX1_scale := goodIn_r _ [74, 21, 18, 19, 4, 20, 17] (by decide +kernel) (by decide +kernel)
set_option maxRecDepth 20000 in
theorem gX1_made_X1_scale : GoodIn wsX1_made (wsV RX1 133 RX1 yX1_scale wsX1_scale) := goodIn_app (goodIn_of _ (by decide +kernel)) ggX1_made_X1_scale
theorem dX1_made_0 : decode cX1_made 0 = .ok (.aload_n 1, 1) := by decide +kernel
theorem dX1_made_1 : decode cX1_made 1 = .ok (.getfield 39, 3) := by decide +kernel
theorem dX1_made_4 : decode cX1_made 4 = .ok (.ifCond .ne 33, 3) := by decide +kernel
theorem dX1_made_7 : decode cX1_made 7 = .ok (.aload_n 0, 1) := by decide +kernel
theorem dX1_made_8 : decode cX1_made 8 = .ok (.getfield 39, 3) := by decide +kernel
theorem dX1_made_11 : decode cX1_made 11 = .ok (.ifCond .eq 20, 3) := by decide +kernel
theorem dX1_made_14 : decode cX1_made 14 = .ok (.aload_n 0, 1) := by decide +kernel
theorem dX1_made_15 : decode cX1_made 15 = .ok (.aload_n 0, 1) := by decide +kernel
theorem dX1_made_16 : decode cX1_made 16 = .ok (.lload_n 2, 1) := by decide +kernel
theorem dX1_made_17 : decode cX1_made 17 = .ok (.invokestatic 77, 3) := by decide +kernel
theorem dX1_made_20 : decode cX1_made 20 = .ok (.iconst 0, 1) := by decide +kernel
theorem dX1_made_21 : decode cX1_made 21 = .ok (.invokevirtual 113, 3) := by decide +kernel
theorem dX1_made_24 : decode cX1_made 24 = .ok (.lload_n 2, 1) := by decide +kernel
theorem dX1_made_25 : decode cX1_made 25 = .ok (.invokevirtual 85, 3) := by decide +kernel
theorem dX1_made_28 : decode cX1_made 28 = .ok (.goto 8, 3) := by decide +kernel
theorem dX1_made_31 : decode cX1_made 31 = .ok (.aload_n 0, 1) := by decide +kernel
theorem dX1_made_32 : decode cX1_made 32 = .ok (.lload_n 2, 1) := by decide +kernel
theorem dX1_made_33 : decode cX1_made 33 = .ok (.invokevirtual 82, 3) := by decide +kernel
theorem dX1_made_36 : decode cX1_made 36 = .ok (.lreturn, 1) := by decide +kernel
theorem dX1_made_37 : decode cX1_made 37 = .ok (.aload_n 0, 1) := by decide +kernel
theorem dX1_made_38 : decode cX1_made 38 = .ok (.getfield 39, 3) := by decide +kernel
theorem dX1_made_41 : decode cX1_made 41 = .ok (.ifCond .ne 23, 3) := by decide +kernel
theorem dX1_made_44 : decode cX1_made 44 = .ok (.aload_n 0, 1) := by decide +kernel
theorem dX1_made_45 : decode cX1_made 45 = .ok (.invokevirtual 116, 3) := by decide +kernel
theorem dX1_made_48 : decode cX1_made 48 = .ok (.aload_n 0, 1) := by decide +kernel
end
section
theorem dX1_made_49 : decode cX1_made 49 = .ok (.invokevirtual 119, 3) := by decide +kernel
theorem dX1_made_52 : decode cX1_made 52 = .ok (.aload_n 1, 1) := by decide +kernel
theorem dX1_made_53 : decode cX1_made 53 = .ok (.lload_n 2, 1) := by decide +kernel
theorem dX1_made_54 : decode cX1_made 54 = .ok (.invokevirtual 122, 3) := by decide +kernel
theorem dX1_made_57 : decode cX1_made 57 = .ok (.invokestatic 125, 3) := by decide +kernel
theorem dX1_made_60 : decode cX1_made 60 = .ok (.invokestatic 128, 3) := by decide +kernel
theorem dX1_made_63 : decode cX1_made 63 = .ok (.lreturn, 1) := by decide +kernel
theorem dX1_made_64 : decode cX1_made 64 = .ok (.aload_n 1, 1) := by decide +kernel
theorem dX1_made_65 : decode cX1_made 65 = .ok (.lload_n 2, 1) := by decide +kernel
theorem dX1_made_66 : decode cX1_made 66 = .ok (.invokevirtual 61, 3) := by decide +kernel
theorem dX1_made_69 : decode cX1_made 69 = .ok (.lstore 4, 2) := by decide +kernel
theorem dX1_made_71 : decode cX1_made 71 = .ok (.lload 4, 2) := by decide +kernel
theorem dX1_made_73 : decode cX1_made 73 = .ok (.aload_n 1, 1) := by decide +kernel
theorem dX1_made_74 : decode cX1_made 74 = .ok (.invokevirtual 57, 3) := by decide +kernel
theorem dX1_made_77 : decode cX1_made 77 = .ok (.lcmp, 1) := by decide +kernel
theorem dX1_made_78 : decode cX1_made 78 = .ok (.ifCond .ne 7, 3) := by decide +kernel
theorem dX1_made_81 : decode cX1_made 81 = .ok (.iconst 1, 1) := by decide +kernel
theorem dX1_made_82 : decode cX1_made 82 = .ok (.goto 4, 3) := by decide +kernel
theorem dX1_made_85 : decode cX1_made 85 = .ok (.iconst 0, 1) := by decide +kernel
theorem dX1_made_86 : decode cX1_made 86 = .ok (.istore 6, 2) := by decide +kernel
theorem dX1_made_88 : decode cX1_made 88 = .ok (.aload_n 0, 1) := by decide +kernel
theorem dX1_made_89 : decode cX1_made 89 = .ok (.iload 6, 2) := by decide +kernel
theorem dX1_made_91 : decode cX1_made 91 = .ok (.ifCond .eq 10, 3) := by decide +kernel
theorem dX1_made_94 : decode cX1_made 94 = .ok (.aload_n 0, 1) := by decide +kernel
theorem dX1_made_95 : decode cX1_made 95 = .ok (.invokevirtual 57, 3) := by decide +kernel
theorem dX1_made_98 : decode cX1_made 98 = .ok (.goto 19, 3) := by decide +kernel
theorem dX1_made_101 : decode cX1_made 101 = .ok (.aload_n 0, 1) := by decide +kernel
theorem dX1_made_102 : decode cX1_made 102 = .ok (.aload_n 1, 1) := by decide +kernel
theorem dX1_made_103 : decode cX1_made 103 = .ok (.lload 4, 2) := by decide +kernel
theorem dX1_made_105 : decode cX1_made 105 = .ok (.invokevirtual 130, 3) := by decide +kernel
theorem dX1_made_108 : decode cX1_made 108 = .ok (.aload_n 1, 1) := by decide +kernel
theorem dX1_made_109 : decode cX1_made 109 = .ok (.lload 4, 2) := by decide +kernel
theorem dX1_made_111 : decode cX1_made 111 = .ok (.invokevirtual 133, 3) := by decide +kernel
theorem dX1_made_114 : decode cX1_made 114 = .ok (.invokevirtual 113, 3) := by decide +kernel
theorem dX1_made_117 : decode cX1_made 117 = .ok (.lload_n 2, 1) := by decide +kernel
theorem dX1_made_118 : decode cX1_made 118 = .ok (.invokevirtual 85, 3) := by decide +kernel
theorem dX1_made_121 : decode cX1_made 121 = .ok (.lreturn, 1) := by decide +kernel
set_option maxRecDepth 20000 in
theorem ggX1_towardsZero_X1_sized : GoodIn wsX1_towardsZero wsX1_sized := goodIn_r _ [12, 13, 14, 15, 16, 17, 6, 18, 19, 20, 21, 11, 22, 23] (by decide +kernel) (by decide +kernel)
set_option maxRecDepth 20000 in
theorem gX1_towardsZero_X1_sized : GoodIn wsX1_towardsZero (wsV RX1 61 RX1 yX1_sized wsX1_sized) := goodIn_app (goodIn_of _ (by decide +kernel)) ggX1_towardsZero_X1_sized
set_option maxRecDepth 20000 in
theorem ggX1_towardsZero_X1_scale : GoodIn wsX1_towardsZero wsX1_scale := goodIn_r _ [27, 1, 28, 29, 6, 30, 31] (by decide +kernel) (by decide +kernel)
set_option maxRecDepth 20000 in
theorem gX1_towardsZero_X1_scale : GoodIn wsX1_towardsZero (wsV RX1 133 RX1 yX1_scale wsX1_scale) := goodIn_app (goodIn_of _ (by decide +kernel)) ggX1_towardsZero_X1_scale
set_option maxRecDepth 20000 in
theorem ggX1_towardsZero_X1_significand : GoodIn wsX1_towardsZero wsX1_significand := goodIn_r _ [35, 1] (by decide +kernel) (by decide +kernel)
set_option maxRecDepth 20000 in
theorem gX1_towardsZero_X1_significand : GoodIn wsX1_towardsZero (wsV RX1 130 RX1 yX1_significand wsX1_significand) := goodIn_app (goodIn_of _ (by decide +kernel)) ggX1_towardsZero_X1_significand
theorem dX1_towardsZero_0 : decode cX1_towardsZero 0 = .ok (.aload_n 0, 1) := by decide +kernel
theorem dX1_towardsZero_1 : decode cX1_towardsZero 1 = .ok (.lload_n 1, 1) := by decide +kernel
theorem dX1_towardsZero_2 : decode cX1_towardsZero 2 = .ok (.invokevirtual 61, 3) := by decide +kernel
theorem dX1_towardsZero_5 : decode cX1_towardsZero 5 = .ok (.lstore_n 3, 1) := by decide +kernel
theorem dX1_towardsZero_6 : decode cX1_towardsZero 6 = .ok (.aload_n 0, 1) := by decide +kernel
theorem dX1_towardsZero_7 : decode cX1_towardsZero 7 = .ok (.lload_n 3, 1) := by decide +kernel
theorem dX1_towardsZero_8 : decode cX1_towardsZero 8 = .ok (.invokevirtual 133, 3) := by decide +kernel
theorem dX1_towardsZero_11 : decode cX1_towardsZero 11 = .ok (.istore 5, 2) := by decide +kernel
theorem dX1_towardsZero_13 : decode cX1_towardsZero 13 = .ok (.iload 5, 2) := by decide +kernel
theorem dX1_towardsZero_15 : decode cX1_towardsZero 15 = .ok (.aload_n 0, 1) := by decide +kernel
theorem dX1_towardsZero_16 : decode cX1_towardsZero 16 = .ok (.getfield 43, 3) := by decide +kernel
theorem dX1_towardsZero_19 : decode cX1_towardsZero 19 = .ok (.iadd, 1) := by decide +kernel
theorem dX1_towardsZero_20 : decode cX1_towardsZero 20 = .ok (.bipush 63, 2) := by decide +kernel
theorem dX1_towardsZero_22 : decode cX1_towardsZero 22 = .ok (.if_icmp .lt 19, 3) := by decide +kernel
theorem dX1_towardsZero_25 : decode cX1_towardsZero 25 = .ok (.lload_n 1, 1) := by decide +kernel
theorem dX1_towardsZero_26 : decode cX1_towardsZero 26 = .ok (.lconst 0, 1) := by decide +kernel
theorem dX1_towardsZero_27 : decode cX1_towardsZero 27 = .ok (.lcmp, 1) := by decide +kernel
theorem dX1_towardsZero_28 : decode cX1_towardsZero 28 = .ok (.ifCond .ge 9, 3) := by decide +kernel
theorem dX1_towardsZero_31 : decode cX1_towardsZero 31 = .ok (.ldc2_w 136, 3) := by decide +kernel
theorem dX1_towardsZero_34 : decode cX1_towardsZero 34 = .ok (.goto 6, 3) := by decide +kernel
theorem dX1_towardsZero_37 : decode cX1_towardsZero 37 = .ok (.ldc2_w 138, 3) := by decide +kernel
theorem dX1_towardsZero_40 : decode cX1_towardsZero 40 = .ok (.lreturn, 1) := by decide +kernel
theorem dX1_towardsZero_41 : decode cX1_towardsZero 41 = .ok (.aload_n 0, 1) := by decide +kernel
theorem dX1_towardsZero_42 : decode cX1_towardsZero 42 = .ok (.lload_n 3, 1) := by decide +kernel
theorem dX1_towardsZero_43 : decode cX1_towardsZero 43 = .ok (.invokevirtual 130, 3) := by decide +kernel
theorem dX1_towardsZero_46 : decode cX1_towardsZero 46 = .ok (.lstore 6, 2) := by decide +kernel
theorem dX1_towardsZero_48 : decode cX1_towardsZero 48 = .ok (.iload 5, 2) := by decide +kernel
theorem dX1_towardsZero_50 : decode cX1_towardsZero 50 = .ok (.ifCond .lt 11, 3) := by decide +kernel
theorem dX1_towardsZero_53 : decode cX1_towardsZero 53 = .ok (.lload 6, 2) := by decide +kernel
theorem dX1_towardsZero_55 : decode cX1_towardsZero 55 = .ok (.iload 5, 2) := by decide +kernel
theorem dX1_towardsZero_57 : decode cX1_towardsZero 57 = .ok (.lshl, 1) := by decide +kernel
theorem dX1_towardsZero_58 : decode cX1_towardsZero 58 = .ok (.goto 14, 3) := by decide +kernel
theorem dX1_towardsZero_61 : decode cX1_towardsZero 61 = .ok (.lload 6, 2) := by decide +kernel
theorem dX1_towardsZero_63 : decode cX1_towardsZero 63 = .ok (.bipush 63, 2) := by decide +kernel
theorem dX1_towardsZero_65 : decode cX1_towardsZero 65 = .ok (.iload 5, 2) := by decide +kernel
theorem dX1_towardsZero_67 : decode cX1_towardsZero 67 = .ok (.ineg, 1) := by decide +kernel
theorem dX1_towardsZero_68 : decode cX1_towardsZero 68 = .ok (.invokestatic 140, 3) := by decide +kernel
theorem dX1_towardsZero_71 : decode cX1_towardsZero 71 = .ok (.lushr, 1) := by decide +kernel
theorem dX1_towardsZero_72 : decode cX1_towardsZero 72 = .ok (.lstore 8, 2) := by decide +kernel
theorem dX1_towardsZero_74 : decode cX1_towardsZero 74 = .ok (.lload_n 1, 1) := by decide +kernel
theorem dX1_towardsZero_75 : decode cX1_towardsZero 75 = .ok (.lconst 0, 1) := by decide +kernel
theorem dX1_towardsZero_76 : decode cX1_towardsZero 76 = .ok (.lcmp, 1) := by decide +kernel
theorem dX1_towardsZero_77 : decode cX1_towardsZero 77 = .ok (.ifCond .ge 9, 3) := by decide +kernel
theorem dX1_towardsZero_80 : decode cX1_towardsZero 80 = .ok (.lload 8, 2) := by decide +kernel
theorem dX1_towardsZero_82 : decode cX1_towardsZero 82 = .ok (.lneg, 1) := by decide +kernel
theorem dX1_towardsZero_83 : decode cX1_towardsZero 83 = .ok (.goto 5, 3) := by decide +kernel
theorem dX1_towardsZero_86 : decode cX1_towardsZero 86 = .ok (.lload 8, 2) := by decide +kernel
theorem dX1_towardsZero_88 : decode cX1_towardsZero 88 = .ok (.lreturn, 1) := by decide +kernel
theorem dX1_significand_0 : decode cX1_significand 0 = .ok (.lconst 1, 1) := by decide +kernel
theorem dX1_significand_1 : decode cX1_significand 1 = .ok (.aload_n 0, 1) := by decide +kernel
theorem dX1_significand_2 : decode cX1_significand 2 = .ok (.getfield 43, 3) := by decide +kernel
theorem dX1_significand_5 : decode cX1_significand 5 = .ok (.lshl, 1) := by decide +kernel
theorem dX1_significand_6 : decode cX1_significand 6 = .ok (.lstore_n 3, 1) := by decide +kernel
theorem dX1_significand_7 : decode cX1_significand 7 = .ok (.lload_n 1, 1) := by decide +kernel
theorem dX1_significand_8 : decode cX1_significand 8 = .ok (.lload_n 3, 1) := by decide +kernel
theorem dX1_significand_9 : decode cX1_significand 9 = .ok (.lcmp, 1) := by decide +kernel
theorem dX1_significand_10 : decode cX1_significand 10 = .ok (.ifCond .ge 7, 3) := by decide +kernel
theorem dX1_significand_13 : decode cX1_significand 13 = .ok (.lload_n 1, 1) := by decide +kernel
theorem dX1_significand_14 : decode cX1_significand 14 = .ok (.goto 10, 3) := by decide +kernel
theorem dX1_significand_17 : decode cX1_significand 17 = .ok (.lload_n 1, 1) := by decide +kernel
theorem dX1_significand_18 : decode cX1_significand 18 = .ok (.lload_n 3, 1) := by decide +kernel
theorem dX1_significand_19 : decode cX1_significand 19 = .ok (.lconst 1, 1) := by decide +kernel
theorem dX1_significand_20 : decode cX1_significand 20 = .ok (.lsub, 1) := by decide +kernel
theorem dX1_significand_21 : decode cX1_significand 21 = .ok (.land, 1) := by decide +kernel
theorem dX1_significand_22 : decode cX1_significand 22 = .ok (.lload_n 3, 1) := by decide +kernel
theorem dX1_significand_23 : decode cX1_significand 23 = .ok (.lor, 1) := by decide +kernel
theorem dX1_significand_24 : decode cX1_significand 24 = .ok (.lreturn, 1) := by decide +kernel
theorem dX1_scale_0 : decode cX1_scale 0 = .ok (.iconst 1, 1) := by decide +kernel
theorem dX1_scale_1 : decode cX1_scale 1 = .ok (.lload_n 1, 1) := by decide +kernel
theorem dX1_scale_2 : decode cX1_scale 2 = .ok (.aload_n 0, 1) := by decide +kernel
theorem dX1_scale_3 : decode cX1_scale 3 = .ok (.getfield 43, 3) := by decide +kernel
theorem dX1_scale_6 : decode cX1_scale 6 = .ok (.lushr, 1) := by decide +kernel
theorem dX1_scale_7 : decode cX1_scale 7 = .ok (.l2i, 1) := by decide +kernel
theorem dX1_scale_8 : decode cX1_scale 8 = .ok (.invokestatic 98, 3) := by decide +kernel
theorem dX1_scale_11 : decode cX1_scale 11 = .ok (.aload_n 0, 1) := by decide +kernel
theorem dX1_scale_12 : decode cX1_scale 12 = .ok (.getfield 46, 3) := by decide +kernel
theorem dX1_scale_15 : decode cX1_scale 15 = .ok (.isub, 1) := by decide +kernel
theorem dX1_scale_16 : decode cX1_scale 16 = .ok (.aload_n 0, 1) := by decide +kernel
theorem dX1_scale_17 : decode cX1_scale 17 = .ok (.getfield 43, 3) := by decide +kernel
theorem dX1_scale_20 : decode cX1_scale 20 = .ok (.isub, 1) := by decide +kernel
theorem dX1_scale_21 : decode cX1_scale 21 = .ok (.ireturn, 1) := by decide +kernel
set_option maxRecDepth 20000 in
theorem ggX1_sizeOf_J13_numberOfLeadingZeros_95d88 : GoodIn wsX1_sizeOf wsJ13_numberOfLeadingZeros_95d88 := goodIn_r _ [10, 11, 12, 13, 14, 15] (by decide +kernel) (by decide +kernel)
set_option maxRecDepth 20000 in
theorem gX1_sizeOf_J13_numberOfLeadingZeros_95d88 : GoodIn wsX1_sizeOf (va_wsS RX1 142 yJ13_numberOfLeadingZeros_95d88 wsJ13_numberOfLeadingZeros_95d88) := goodIn_app (goodIn_of _ (by decide +kernel)) ggX1_sizeOf_J13_numberOfLeadingZeros_95d88
set_option maxRecDepth 20000 in
theorem ggX1_sizeOf_X1_infinity : GoodIn wsX1_sizeOf wsX1_infinity := goodIn_r _ [20, 21, 1, 6] (by decide +kernel) (by decide +kernel)
set_option maxRecDepth 20000 in
theorem gX1_sizeOf_X1_infinity : GoodIn wsX1_sizeOf (wsV RX1 57 RX1 yX1_infinity wsX1_infinity) := goodIn_app (goodIn_of _ (by decide +kernel)) ggX1_sizeOf_X1_infinity
set_option maxRecDepth 20000 in
theorem ggX1_sizeOf_X1_scaledDown : GoodIn wsX1_sizeOf wsX1_scaledDown := goodIn_r _ [24, 25, 26, 4, 27] (by decide +kernel) (by decide +kernel)
set_option maxRecDepth 20000 in
theorem gX1_sizeOf_X1_scaledDown : GoodIn wsX1_sizeOf (va_wsS RX1 109 yX1_scaledDown wsX1_scaledDown) := goodIn_app (goodIn_of _ (by decide +kernel)) ggX1_sizeOf_X1_scaledDown
theorem dX1_sizeOf_0 : decode cX1_sizeOf 0 = .ok (.lload_n 1, 1) := by decide +kernel
theorem dX1_sizeOf_1 : decode cX1_sizeOf 1 = .ok (.lconst 0, 1) := by decide +kernel
theorem dX1_sizeOf_2 : decode cX1_sizeOf 2 = .ok (.lcmp, 1) := by decide +kernel
theorem dX1_sizeOf_3 : decode cX1_sizeOf 3 = .ok (.ifCond .ne 5, 3) := by decide +kernel
theorem dX1_sizeOf_6 : decode cX1_sizeOf 6 = .ok (.lconst 0, 1) := by decide +kernel
theorem dX1_sizeOf_7 : decode cX1_sizeOf 7 = .ok (.lreturn, 1) := by decide +kernel
theorem dX1_sizeOf_8 : decode cX1_sizeOf 8 = .ok (.bipush 63, 2) := by decide +kernel
theorem dX1_sizeOf_10 : decode cX1_sizeOf 10 = .ok (.lload_n 1, 1) := by decide +kernel
theorem dX1_sizeOf_11 : decode cX1_sizeOf 11 = .ok (.invokestatic 142, 3) := by decide +kernel
theorem dX1_sizeOf_14 : decode cX1_sizeOf 14 = .ok (.isub, 1) := by decide +kernel
theorem dX1_sizeOf_15 : decode cX1_sizeOf 15 = .ok (.iload_n 3, 1) := by decide +kernel
theorem dX1_sizeOf_16 : decode cX1_sizeOf 16 = .ok (.iadd, 1) := by decide +kernel
theorem dX1_sizeOf_17 : decode cX1_sizeOf 17 = .ok (.istore 4, 2) := by decide +kernel
theorem dX1_sizeOf_19 : decode cX1_sizeOf 19 = .ok (.iload 4, 2) := by decide +kernel
theorem dX1_sizeOf_21 : decode cX1_sizeOf 21 = .ok (.aload_n 0, 1) := by decide +kernel
theorem dX1_sizeOf_22 : decode cX1_sizeOf 22 = .ok (.getfield 46, 3) := by decide +kernel
theorem dX1_sizeOf_25 : decode cX1_sizeOf 25 = .ok (.if_icmp .le 8, 3) := by decide +kernel
theorem dX1_sizeOf_28 : decode cX1_sizeOf 28 = .ok (.aload_n 0, 1) := by decide +kernel
theorem dX1_sizeOf_29 : decode cX1_sizeOf 29 = .ok (.invokevirtual 57, 3) := by decide +kernel
theorem dX1_sizeOf_32 : decode cX1_sizeOf 32 = .ok (.lreturn, 1) := by decide +kernel
theorem dX1_sizeOf_33 : decode cX1_sizeOf 33 = .ok (.iload 4, 2) := by decide +kernel
theorem dX1_sizeOf_35 : decode cX1_sizeOf 35 = .ok (.iconst 1, 1) := by decide +kernel
theorem dX1_sizeOf_36 : decode cX1_sizeOf 36 = .ok (.aload_n 0, 1) := by decide +kernel
theorem dX1_sizeOf_37 : decode cX1_sizeOf 37 = .ok (.getfield 46, 3) := by decide +kernel
theorem dX1_sizeOf_40 : decode cX1_sizeOf 40 = .ok (.isub, 1) := by decide +kernel
theorem dX1_sizeOf_41 : decode cX1_sizeOf 41 = .ok (.invokestatic 98, 3) := by decide +kernel
theorem dX1_sizeOf_44 : decode cX1_sizeOf 44 = .ok (.istore 5, 2) := by decide +kernel
theorem dX1_sizeOf_46 : decode cX1_sizeOf 46 = .ok (.lload_n 1, 1) := by decide +kernel
theorem dX1_sizeOf_47 : decode cX1_sizeOf 47 = .ok (.iload 5, 2) := by decide +kernel
theorem dX1_sizeOf_49 : decode cX1_sizeOf 49 = .ok (.aload_n 0, 1) := by decide +kernel
theorem dX1_sizeOf_50 : decode cX1_sizeOf 50 = .ok (.getfield 43, 3) := by decide +kernel
theorem dX1_sizeOf_53 : decode cX1_sizeOf 53 = .ok (.isub, 1) := by decide +kernel
theorem dX1_sizeOf_54 : decode cX1_sizeOf 54 = .ok (.iload_n 3, 1) := by decide +kernel
theorem dX1_sizeOf_55 : decode cX1_sizeOf 55 = .ok (.isub, 1) := by decide +kernel
theorem dX1_sizeOf_56 : decode cX1_sizeOf 56 = .ok (.invokestatic 109, 3) := by decide +kernel
theorem dX1_sizeOf_59 : decode cX1_sizeOf 59 = .ok (.lstore 6, 2) := by decide +kernel
theorem dX1_sizeOf_61 : decode cX1_sizeOf 61 = .ok (.iload 5, 2) := by decide +kernel
theorem dX1_sizeOf_63 : decode cX1_sizeOf 63 = .ok (.aload_n 0, 1) := by decide +kernel
theorem dX1_sizeOf_64 : decode cX1_sizeOf 64 = .ok (.getfield 46, 3) := by decide +kernel
theorem dX1_sizeOf_67 : decode cX1_sizeOf 67 = .ok (.iadd, 1) := by decide +kernel
theorem dX1_sizeOf_68 : decode cX1_sizeOf 68 = .ok (.iconst 1, 1) := by decide +kernel
theorem dX1_sizeOf_69 : decode cX1_sizeOf 69 = .ok (.isub, 1) := by decide +kernel
theorem dX1_sizeOf_70 : decode cX1_sizeOf 70 = .ok (.i2l, 1) := by decide +kernel
theorem dX1_sizeOf_71 : decode cX1_sizeOf 71 = .ok (.aload_n 0, 1) := by decide +kernel
theorem dX1_sizeOf_72 : decode cX1_sizeOf 72 = .ok (.getfield 43, 3) := by decide +kernel
theorem dX1_sizeOf_75 : decode cX1_sizeOf 75 = .ok (.lshl, 1) := by decide +kernel
theorem dX1_sizeOf_76 : decode cX1_sizeOf 76 = .ok (.lload 6, 2) := by decide +kernel
theorem dX1_sizeOf_78 : decode cX1_sizeOf 78 = .ok (.ladd, 1) := by decide +kernel
theorem dX1_sizeOf_79 : decode cX1_sizeOf 79 = .ok (.lreturn, 1) := by decide +kernel
theorem dX1_scaledDown_0 : decode cX1_scaledDown 0 = .ok (.iload_n 2, 1) := by decide +kernel
theorem dX1_scaledDown_1 : decode cX1_scaledDown 1 = .ok (.ifCond .gt 13, 3) := by decide +kernel
theorem dX1_scaledDown_4 : decode cX1_scaledDown 4 = .ok (.lload_n 0, 1) := by decide +kernel
theorem dX1_scaledDown_5 : decode cX1_scaledDown 5 = .ok (.bipush 63, 2) := by decide +kernel
theorem dX1_scaledDown_7 : decode cX1_scaledDown 7 = .ok (.iload_n 2, 1) := by decide +kernel
theorem dX1_scaledDown_8 : decode cX1_scaledDown 8 = .ok (.ineg, 1) := by decide +kernel
theorem dX1_scaledDown_9 : decode cX1_scaledDown 9 = .ok (.invokestatic 140, 3) := by decide +kernel
theorem dX1_scaledDown_12 : decode cX1_scaledDown 12 = .ok (.lshl, 1) := by decide +kernel
theorem dX1_scaledDown_13 : decode cX1_scaledDown 13 = .ok (.lreturn, 1) := by decide +kernel
theorem dX1_scaledDown_14 : decode cX1_scaledDown 14 = .ok (.iload_n 2, 1) := by decide +kernel
theorem dX1_scaledDown_15 : decode cX1_scaledDown 15 = .ok (.bipush 63, 2) := by decide +kernel
theorem dX1_scaledDown_17 : decode cX1_scaledDown 17 = .ok (.if_icmp .le 5, 3) := by decide +kernel
theorem dX1_scaledDown_20 : decode cX1_scaledDown 20 = .ok (.lconst 0, 1) := by decide +kernel
theorem dX1_scaledDown_21 : decode cX1_scaledDown 21 = .ok (.lreturn, 1) := by decide +kernel
theorem dX1_scaledDown_22 : decode cX1_scaledDown 22 = .ok (.lload_n 0, 1) := by decide +kernel
theorem dX1_scaledDown_23 : decode cX1_scaledDown 23 = .ok (.iload_n 2, 1) := by decide +kernel
theorem dX1_scaledDown_24 : decode cX1_scaledDown 24 = .ok (.lushr, 1) := by decide +kernel
theorem dX1_scaledDown_25 : decode cX1_scaledDown 25 = .ok (.lstore_n 3, 1) := by decide +kernel
theorem dX1_scaledDown_26 : decode cX1_scaledDown 26 = .ok (.lload_n 0, 1) := by decide +kernel
theorem dX1_scaledDown_27 : decode cX1_scaledDown 27 = .ok (.lconst 1, 1) := by decide +kernel
theorem dX1_scaledDown_28 : decode cX1_scaledDown 28 = .ok (.iload_n 2, 1) := by decide +kernel
theorem dX1_scaledDown_29 : decode cX1_scaledDown 29 = .ok (.lshl, 1) := by decide +kernel
theorem dX1_scaledDown_30 : decode cX1_scaledDown 30 = .ok (.lconst 1, 1) := by decide +kernel
theorem dX1_scaledDown_31 : decode cX1_scaledDown 31 = .ok (.lsub, 1) := by decide +kernel
theorem dX1_scaledDown_32 : decode cX1_scaledDown 32 = .ok (.land, 1) := by decide +kernel
theorem dX1_scaledDown_33 : decode cX1_scaledDown 33 = .ok (.lstore 5, 2) := by decide +kernel
theorem dX1_scaledDown_35 : decode cX1_scaledDown 35 = .ok (.lconst 1, 1) := by decide +kernel
theorem dX1_scaledDown_36 : decode cX1_scaledDown 36 = .ok (.iload_n 2, 1) := by decide +kernel
theorem dX1_scaledDown_37 : decode cX1_scaledDown 37 = .ok (.iconst 1, 1) := by decide +kernel
theorem dX1_scaledDown_38 : decode cX1_scaledDown 38 = .ok (.isub, 1) := by decide +kernel
theorem dX1_scaledDown_39 : decode cX1_scaledDown 39 = .ok (.lshl, 1) := by decide +kernel
theorem dX1_scaledDown_40 : decode cX1_scaledDown 40 = .ok (.lstore 7, 2) := by decide +kernel
theorem dX1_scaledDown_42 : decode cX1_scaledDown 42 = .ok (.lload 5, 2) := by decide +kernel
theorem dX1_scaledDown_44 : decode cX1_scaledDown 44 = .ok (.lload 7, 2) := by decide +kernel
theorem dX1_scaledDown_46 : decode cX1_scaledDown 46 = .ok (.lcmp, 1) := by decide +kernel
theorem dX1_scaledDown_47 : decode cX1_scaledDown 47 = .ok (.ifCond .gt 19, 3) := by decide +kernel
theorem dX1_scaledDown_50 : decode cX1_scaledDown 50 = .ok (.lload 5, 2) := by decide +kernel
theorem dX1_scaledDown_52 : decode cX1_scaledDown 52 = .ok (.lload 7, 2) := by decide +kernel
theorem dX1_scaledDown_54 : decode cX1_scaledDown 54 = .ok (.lcmp, 1) := by decide +kernel
theorem dX1_scaledDown_55 : decode cX1_scaledDown 55 = .ok (.ifCond .ne 15, 3) := by decide +kernel
theorem dX1_scaledDown_58 : decode cX1_scaledDown 58 = .ok (.lload_n 3, 1) := by decide +kernel
theorem dX1_scaledDown_59 : decode cX1_scaledDown 59 = .ok (.lconst 1, 1) := by decide +kernel
theorem dX1_scaledDown_60 : decode cX1_scaledDown 60 = .ok (.land, 1) := by decide +kernel
theorem dX1_scaledDown_61 : decode cX1_scaledDown 61 = .ok (.lconst 0, 1) := by decide +kernel
theorem dX1_scaledDown_62 : decode cX1_scaledDown 62 = .ok (.lcmp, 1) := by decide +kernel
theorem dX1_scaledDown_63 : decode cX1_scaledDown 63 = .ok (.ifCond .eq 7, 3) := by decide +kernel
theorem dX1_scaledDown_66 : decode cX1_scaledDown 66 = .ok (.iconst 1, 1) := by decide +kernel
theorem dX1_scaledDown_67 : decode cX1_scaledDown 67 = .ok (.goto 4, 3) := by decide +kernel
theorem dX1_scaledDown_70 : decode cX1_scaledDown 70 = .ok (.iconst 0, 1) := by decide +kernel
theorem dX1_scaledDown_71 : decode cX1_scaledDown 71 = .ok (.istore 9, 2) := by decide +kernel
theorem dX1_scaledDown_73 : decode cX1_scaledDown 73 = .ok (.iload 9, 2) := by decide +kernel
theorem dX1_scaledDown_75 : decode cX1_scaledDown 75 = .ok (.ifCond .eq 9, 3) := by decide +kernel
theorem dX1_scaledDown_78 : decode cX1_scaledDown 78 = .ok (.lload_n 3, 1) := by decide +kernel
theorem dX1_scaledDown_79 : decode cX1_scaledDown 79 = .ok (.lconst 1, 1) := by decide +kernel
theorem dX1_scaledDown_80 : decode cX1_scaledDown 80 = .ok (.ladd, 1) := by decide +kernel
theorem dX1_scaledDown_81 : decode cX1_scaledDown 81 = .ok (.goto 4, 3) := by decide +kernel
theorem dX1_scaledDown_84 : decode cX1_scaledDown 84 = .ok (.lload_n 3, 1) := by decide +kernel
theorem dX1_scaledDown_85 : decode cX1_scaledDown 85 = .ok (.lreturn, 1) := by decide +kernel
theorem dX2_init_0 : decode cX2_init 0 = .ok (.aload_n 0, 1) := by decide +kernel
theorem dX2_init_1 : decode cX2_init 1 = .ok (.invokespecial 1, 3) := by decide +kernel
theorem dX2_init_4 : decode cX2_init 4 = .ok (.aload_n 0, 1) := by decide +kernel
theorem dX2_init_5 : decode cX2_init 5 = .ok (.bipush 8, 2) := by decide +kernel
theorem dX2_init_7 : decode cX2_init 7 = .ok (.anewarray 9, 3) := by decide +kernel
theorem dX2_init_10 : decode cX2_init 10 = .ok (.putfield 11, 3) := by decide +kernel
theorem dX2_init_13 : decode cX2_init 13 = .ok (.aload_n 0, 1) := by decide +kernel
theorem dX2_init_14 : decode cX2_init 14 = .ok (.iconst 0, 1) := by decide +kernel
theorem dX2_init_15 : decode cX2_init 15 = .ok (.putfield 15, 3) := by decide +kernel
theorem dX2_init_18 : decode cX2_init 18 = .ok (.return_, 1) := by decide +kernel
set_option maxRecDepth 20000 in
theorem ggX2_axis_X0_init : GoodIn wsX2_axis wsX0_init := goodIn_r _ [8, 9, 10, 11, 12, 13, 14, 15, 16, 17, 18, 19, 20, 21, 22, 23, 24, 25, 26, 27, 28, 29, 30, 31, 32, 33, 34, 37, 38, 39, 40, 41, 42] (by decide +kernel) (by decide +kernel)
set_option maxRecDepth 20000 in
theorem gX2_axis_X0_init_n23 : GoodIn wsX2_axis (wsX0_init) := ggX2_axis_X0_init
theorem dX2_axis_0 : decode cX2_axis 0 = .ok (.iload_n 1, 1) := by decide +kernel
theorem dX2_axis_1 : decode cX2_axis 1 = .ok (.ifCond .lt 23, 3) := by decide +kernel
theorem dX2_axis_4 : decode cX2_axis 4 = .ok (.iload_n 1, 1) := by decide +kernel
theorem dX2_axis_5 : decode cX2_axis 5 = .ok (.getstatic 19, 3) := by decide +kernel
theorem dX2_axis_8 : decode cX2_axis 8 = .ok (.arraylength, 1) := by decide +kernel
theorem dX2_axis_9 : decode cX2_axis 9 = .ok (.if_icmp .ge 15, 3) := by decide +kernel
theorem dX2_axis_12 : decode cX2_axis 12 = .ok (.aload_n 0, 1) := by decide +kernel
theorem dX2_axis_13 : decode cX2_axis 13 = .ok (.getfield 15, 3) := by decide +kernel
theorem dX2_axis_16 : decode cX2_axis 16 = .ok (.aload_n 0, 1) := by decide +kernel
theorem dX2_axis_17 : decode cX2_axis 17 = .ok (.getfield 11, 3) := by decide +kernel
theorem dX2_axis_20 : decode cX2_axis 20 = .ok (.arraylength, 1) := by decide +kernel
theorem dX2_axis_21 : decode cX2_axis 21 = .ok (.if_icmp .lt 5, 3) := by decide +kernel
theorem dX2_axis_24 : decode cX2_axis 24 = .ok (.iconst (-1), 1) := by decide +kernel
theorem dX2_axis_25 : decode cX2_axis 25 = .ok (.ireturn, 1) := by decide +kernel
theorem dX2_axis_26 : decode cX2_axis 26 = .ok (.aload_n 0, 1) := by decide +kernel
theorem dX2_axis_27 : decode cX2_axis 27 = .ok (.getfield 11, 3) := by decide +kernel
theorem dX2_axis_30 : decode cX2_axis 30 = .ok (.aload_n 0, 1) := by decide +kernel
theorem dX2_axis_31 : decode cX2_axis 31 = .ok (.getfield 15, 3) := by decide +kernel
theorem dX2_axis_34 : decode cX2_axis 34 = .ok (.new 9, 3) := by decide +kernel
theorem dX2_axis_37 : decode cX2_axis 37 = .ok (.dup, 1) := by decide +kernel
theorem dX2_axis_38 : decode cX2_axis 38 = .ok (.getstatic 19, 3) := by decide +kernel
theorem dX2_axis_41 : decode cX2_axis 41 = .ok (.iload_n 1, 1) := by decide +kernel
theorem dX2_axis_42 : decode cX2_axis 42 = .ok (.aaload, 1) := by decide +kernel
theorem dX2_axis_43 : decode cX2_axis 43 = .ok (.invokespecial 23, 3) := by decide +kernel
theorem dX2_axis_46 : decode cX2_axis 46 = .ok (.aastore, 1) := by decide +kernel
theorem dX2_axis_47 : decode cX2_axis 47 = .ok (.aload_n 0, 1) := by decide +kernel
theorem dX2_axis_48 : decode cX2_axis 48 = .ok (.dup, 1) := by decide +kernel
theorem dX2_axis_49 : decode cX2_axis 49 = .ok (.getfield 15, 3) := by decide +kernel
theorem dX2_axis_52 : decode cX2_axis 52 = .ok (.iconst 1, 1) := by decide +kernel
theorem dX2_axis_53 : decode cX2_axis 53 = .ok (.iadd, 1) := by decide +kernel
theorem dX2_axis_54 : decode cX2_axis 54 = .ok (.putfield 15, 3) := by decide +kernel
theorem dX2_axis_57 : decode cX2_axis 57 = .ok (.aload_n 0, 1) := by decide +kernel
theorem dX2_axis_58 : decode cX2_axis 58 = .ok (.getfield 15, 3) := by decide +kernel
theorem dX2_axis_61 : decode cX2_axis 61 = .ok (.iconst 1, 1) := by decide +kernel
theorem dX2_axis_62 : decode cX2_axis 62 = .ok (.isub, 1) := by decide +kernel
theorem dX2_axis_63 : decode cX2_axis 63 = .ok (.ireturn, 1) := by decide +kernel
set_option maxRecDepth 20000 in
theorem ggX2_set_X2_find : GoodIn wsX2_set wsX2_find := goodIn_r _ [5, 6, 7, 45, 46] (by decide +kernel) (by decide +kernel)
set_option maxRecDepth 20000 in
theorem gX2_set_X2_find : GoodIn wsX2_set (wsV RX2 26 RX2 yX2_find wsX2_find) := goodIn_app (goodIn_of _ (by decide +kernel)) ggX2_set_X2_find
set_option maxRecDepth 20000 in
theorem ggX2_set_X0_put : GoodIn wsX2_set wsX0_put := goodIn_r _ [11, 12, 13, 14, 15, 16, 17, 18, 19, 20, 21, 22, 23, 24, 25, 26, 27, 28, 29, 30, 31, 32, 33, 34, 35, 36, 37, 38, 39, 40, 41, 42, 43, 44, 47, 48, 49, 50, 51, 52] (by decide +kernel) (by decide +kernel)
set_option maxRecDepth 20000 in
theorem gX2_set_X0_put_n30 : GoodIn wsX2_set (wsX0_put) := ggX2_set_X0_put
theorem dX2_set_0 : decode cX2_set 0 = .ok (.aload_n 0, 1) := by decide +kernel
theorem dX2_set_1 : decode cX2_set 1 = .ok (.iload_n 1, 1) := by decide +kernel
theorem dX2_set_2 : decode cX2_set 2 = .ok (.invokevirtual 26, 3) := by decide +kernel
theorem dX2_set_5 : decode cX2_set 5 = .ok (.astore 5, 2) := by decide +kernel
theorem dX2_set_7 : decode cX2_set 7 = .ok (.aload 5, 2) := by decide +kernel
theorem dX2_set_9 : decode cX2_set 9 = .ok (.ifnull 17, 3) := by decide +kernel
theorem dX2_set_12 : decode cX2_set 12 = .ok (.aload 5, 2) := by decide +kernel
theorem dX2_set_14 : decode cX2_set 14 = .ok (.iload_n 2, 1) := by decide +kernel
theorem dX2_set_15 : decode cX2_set 15 = .ok (.lload_n 3, 1) := by decide +kernel
theorem dX2_set_16 : decode cX2_set 16 = .ok (.invokevirtual 30, 3) := by decide +kernel
theorem dX2_set_19 : decode cX2_set 19 = .ok (.ifCond .eq 7, 3) := by decide +kernel
theorem dX2_set_22 : decode cX2_set 22 = .ok (.iconst 1, 1) := by decide +kernel
theorem dX2_set_23 : decode cX2_set 23 = .ok (.goto 4, 3) := by decide +kernel
theorem dX2_set_26 : decode cX2_set 26 = .ok (.iconst 0, 1) := by decide +kernel
theorem dX2_set_27 : decode cX2_set 27 = .ok (.ireturn, 1) := by decide +kernel
set_option maxRecDepth 20000 in
theorem ggX2_bits_X2_find : GoodIn wsX2_bits wsX2_find := goodIn_r _ [5, 6, 7, 17, 18] (by decide +kernel) (by decide +kernel)
set_option maxRecDepth 20000 in
theorem gX2_bits_X2_find : GoodIn wsX2_bits (wsV RX2 26 RX2 yX2_find wsX2_find) := goodIn_app (goodIn_of _ (by decide +kernel)) ggX2_bits_X2_find
set_option maxRecDepth 20000 in
theorem ggX2_bits_X0_number : GoodIn wsX2_bits wsX0_number := goodIn_r _ [11, 12, 13, 14, 15, 16, 19, 20, 21, 22, 23, 24] (by decide +kernel) (by decide +kernel)
set_option maxRecDepth 20000 in
theorem gX2_bits_X0_number_n34 : GoodIn wsX2_bits (wsX0_number) := ggX2_bits_X0_number
theorem dX2_bits_0 : decode cX2_bits 0 = .ok (.aload_n 0, 1) := by decide +kernel
theorem dX2_bits_1 : decode cX2_bits 1 = .ok (.iload_n 1, 1) := by decide +kernel
theorem dX2_bits_2 : decode cX2_bits 2 = .ok (.invokevirtual 26, 3) := by decide +kernel
theorem dX2_bits_5 : decode cX2_bits 5 = .ok (.astore_n 3, 1) := by decide +kernel
theorem dX2_bits_6 : decode cX2_bits 6 = .ok (.aload_n 3, 1) := by decide +kernel
theorem dX2_bits_7 : decode cX2_bits 7 = .ok (.ifnonnull 7, 3) := by decide +kernel
theorem dX2_bits_10 : decode cX2_bits 10 = .ok (.lconst 0, 1) := by decide +kernel
theorem dX2_bits_11 : decode cX2_bits 11 = .ok (.goto 8, 3) := by decide +kernel
theorem dX2_bits_14 : decode cX2_bits 14 = .ok (.aload_n 3, 1) := by decide +kernel
theorem dX2_bits_15 : decode cX2_bits 15 = .ok (.iload_n 2, 1) := by decide +kernel
theorem dX2_bits_16 : decode cX2_bits 16 = .ok (.invokevirtual 34, 3) := by decide +kernel
theorem dX2_bits_19 : decode cX2_bits 19 = .ok (.lreturn, 1) := by decide +kernel
set_option maxRecDepth 20000 in
theorem ggX2_orders_X2_find : GoodIn wsX2_orders wsX2_find := goodIn_r _ [5, 6, 7, 126, 127] (by decide +kernel) (by decide +kernel)
set_option maxRecDepth 20000 in
theorem gX2_orders_X2_find : GoodIn wsX2_orders (wsV RX2 26 RX2 yX2_find wsX2_find) := goodIn_app (goodIn_of _ (by decide +kernel)) ggX2_orders_X2_find
set_option maxRecDepth 20000 in
theorem ggX2_orders_X2_lengthOf : GoodIn wsX2_orders wsX2_lengthOf := goodIn_r _ [10, 11, 12, 4, 13] (by decide +kernel) (by decide +kernel)
set_option maxRecDepth 20000 in
theorem gX2_orders_X2_lengthOf : GoodIn wsX2_orders (va_wsS RX2 38 yX2_lengthOf wsX2_lengthOf) := goodIn_app (goodIn_of _ (by decide +kernel)) ggX2_orders_X2_lengthOf
set_option maxRecDepth 20000 in
theorem ggX2_orders_X2_orderAt : GoodIn wsX2_orders wsX2_orderAt := goodIn_r _ [13] (by decide +kernel) (by decide +kernel)
set_option maxRecDepth 20000 in
theorem gX2_orders_X2_orderAt : GoodIn wsX2_orders (va_wsS RX2 42 yX2_orderAt wsX2_orderAt) := goodIn_app (goodIn_of _ (by decide +kernel)) ggX2_orders_X2_orderAt
set_option maxRecDepth 20000 in
theorem ggX2_orders_X0_obey : GoodIn wsX2_orders wsX0_obey := goodIn_r _ [17, 18, 19, 20, 21, 22, 23, 24, 25, 26, 27, 28, 29, 30, 31, 32, 33, 34, 35, 36, 37, 38, 39, 40, 41, 42, 43, 44, 45, 46, 47, 48, 49, 50, 51, 52, 53, 54, 55, 56, 57, 58, 59, 60, 61, 62, 63, 64, 65, 66, 67, 68, 69, 70, 71, 72, 73, 74, 75, 76, 77, 78, 79, 80, 81, 82, 83, 84, 85, 86, 87, 88, 89, 90, 91, 92, 93, 94, 95, 96, 97, 98, 99, 100, 101, 102, 103, 104, 15, 105, 106, 107, 108, 109, 110, 111, 112, 113, 114, 115, 116, 117, 118, 119, 120, 121, 122, 123, 124, 125, 128, 129, 130, 131, 132, 133] (by decide +kernel) (by decide +kernel)
set_option maxRecDepth 20000 in
theorem gX2_orders_X0_obey_n46 : GoodIn wsX2_orders (wsX0_obey) := ggX2_orders_X0_obey
theorem dX2_orders_0 : decode cX2_orders 0 = .ok (.aload_n 0, 1) := by decide +kernel
theorem dX2_orders_1 : decode cX2_orders 1 = .ok (.iload_n 1, 1) := by decide +kernel
theorem dX2_orders_2 : decode cX2_orders 2 = .ok (.invokevirtual 26, 3) := by decide +kernel
theorem dX2_orders_5 : decode cX2_orders 5 = .ok (.astore_n 3, 1) := by decide +kernel
theorem dX2_orders_6 : decode cX2_orders 6 = .ok (.iload_n 2, 1) := by decide +kernel
theorem dX2_orders_7 : decode cX2_orders 7 = .ok (.invokestatic 38, 3) := by decide +kernel
theorem dX2_orders_10 : decode cX2_orders 10 = .ok (.istore 4, 2) := by decide +kernel
theorem dX2_orders_12 : decode cX2_orders 12 = .ok (.aload_n 3, 1) := by decide +kernel
theorem dX2_orders_13 : decode cX2_orders 13 = .ok (.ifnull 9, 3) := by decide +kernel
theorem dX2_orders_16 : decode cX2_orders 16 = .ok (.iload 4, 2) := by decide +kernel
theorem dX2_orders_18 : decode cX2_orders 18 = .ok (.iconst (-1), 1) := by decide +kernel
theorem dX2_orders_19 : decode cX2_orders 19 = .ok (.if_icmp .ne 5, 3) := by decide +kernel
theorem dX2_orders_22 : decode cX2_orders 22 = .ok (.iconst (-1), 1) := by decide +kernel
theorem dX2_orders_23 : decode cX2_orders 23 = .ok (.ireturn, 1) := by decide +kernel
theorem dX2_orders_24 : decode cX2_orders 24 = .ok (.iconst 0, 1) := by decide +kernel
theorem dX2_orders_25 : decode cX2_orders 25 = .ok (.istore 5, 2) := by decide +kernel
theorem dX2_orders_27 : decode cX2_orders 27 = .ok (.iload 5, 2) := by decide +kernel
theorem dX2_orders_29 : decode cX2_orders 29 = .ok (.iload 4, 2) := by decide +kernel
theorem dX2_orders_31 : decode cX2_orders 31 = .ok (.if_icmp .ge 19, 3) := by decide +kernel
theorem dX2_orders_34 : decode cX2_orders 34 = .ok (.aload_n 3, 1) := by decide +kernel
theorem dX2_orders_35 : decode cX2_orders 35 = .ok (.iload_n 2, 1) := by decide +kernel
theorem dX2_orders_36 : decode cX2_orders 36 = .ok (.iload 5, 2) := by decide +kernel
theorem dX2_orders_38 : decode cX2_orders 38 = .ok (.invokestatic 42, 3) := by decide +kernel
theorem dX2_orders_41 : decode cX2_orders 41 = .ok (.invokevirtual 46, 3) := by decide +kernel
theorem dX2_orders_44 : decode cX2_orders 44 = .ok (.iinc 5 1, 3) := by decide +kernel
theorem dX2_orders_47 : decode cX2_orders 47 = .ok (.goto (-20), 3) := by decide +kernel
theorem dX2_orders_50 : decode cX2_orders 50 = .ok (.iload 4, 2) := by decide +kernel
theorem dX2_orders_52 : decode cX2_orders 52 = .ok (.ireturn, 1) := by decide +kernel
set_option maxRecDepth 20000 in
theorem ggX2_follow_X2_find : GoodIn wsX2_follow wsX2_find := goodIn_r _ [5, 6, 7, 95, 96] (by decide +kernel) (by decide +kernel)
set_option maxRecDepth 20000 in
theorem gX2_follow_X2_find : GoodIn wsX2_follow (wsV RX2 26 RX2 yX2_find wsX2_find) := goodIn_app (goodIn_of _ (by decide +kernel)) ggX2_follow_X2_find
set_option maxRecDepth 20000 in
theorem ggX2_follow_X0_moveTo : GoodIn wsX2_follow wsX0_moveTo := goodIn_r _ [11, 12, 13, 14, 15, 16, 17, 18, 19, 20, 21, 22, 23, 24, 25, 26, 27, 28, 29, 30, 31, 32, 33, 34, 35, 36, 37, 38, 39, 40, 41, 42, 43, 44, 45, 46, 47, 48, 49, 50, 51, 52, 53, 54, 55, 56, 57, 58, 59, 60, 61, 62, 63, 64, 65, 66, 67, 68, 69, 70, 71, 72, 73, 74, 75, 76, 77, 78, 79, 80, 81, 82, 83, 84, 85, 86, 87, 88, 89, 90, 91, 92, 93, 94, 97, 98, 99, 100, 101, 102] (by decide +kernel) (by decide +kernel)
set_option maxRecDepth 20000 in
theorem gX2_follow_X0_moveTo_n50 : GoodIn wsX2_follow (wsX0_moveTo) := ggX2_follow_X0_moveTo
theorem dX2_follow_0 : decode cX2_follow 0 = .ok (.aload_n 0, 1) := by decide +kernel
theorem dX2_follow_1 : decode cX2_follow 1 = .ok (.iload_n 1, 1) := by decide +kernel
theorem dX2_follow_2 : decode cX2_follow 2 = .ok (.invokevirtual 26, 3) := by decide +kernel
theorem dX2_follow_5 : decode cX2_follow 5 = .ok (.astore_n 3, 1) := by decide +kernel
theorem dX2_follow_6 : decode cX2_follow 6 = .ok (.aload_n 0, 1) := by decide +kernel
theorem dX2_follow_7 : decode cX2_follow 7 = .ok (.iload_n 2, 1) := by decide +kernel
theorem dX2_follow_8 : decode cX2_follow 8 = .ok (.invokevirtual 26, 3) := by decide +kernel
theorem dX2_follow_11 : decode cX2_follow 11 = .ok (.astore 4, 2) := by decide +kernel
theorem dX2_follow_13 : decode cX2_follow 13 = .ok (.aload_n 3, 1) := by decide +kernel
theorem dX2_follow_14 : decode cX2_follow 14 = .ok (.ifnull 8, 3) := by decide +kernel
theorem dX2_follow_17 : decode cX2_follow 17 = .ok (.aload 4, 2) := by decide +kernel
theorem dX2_follow_19 : decode cX2_follow 19 = .ok (.ifnonnull 5, 3) := by decide +kernel
theorem dX2_follow_22 : decode cX2_follow 22 = .ok (.iconst 0, 1) := by decide +kernel
theorem dX2_follow_23 : decode cX2_follow 23 = .ok (.ireturn, 1) := by decide +kernel
theorem dX2_follow_24 : decode cX2_follow 24 = .ok (.aload_n 3, 1) := by decide +kernel
theorem dX2_follow_25 : decode cX2_follow 25 = .ok (.aload 4, 2) := by decide +kernel
theorem dX2_follow_27 : decode cX2_follow 27 = .ok (.invokevirtual 50, 3) := by decide +kernel
theorem dX2_follow_30 : decode cX2_follow 30 = .ok (.iconst 1, 1) := by decide +kernel
theorem dX2_follow_31 : decode cX2_follow 31 = .ok (.ireturn, 1) := by decide +kernel
set_option maxRecDepth 20000 in
theorem ggX2_order_X2_find : GoodIn wsX2_order wsX2_find := goodIn_r _ [5, 6, 7, 29, 30] (by decide +kernel) (by decide +kernel)
set_option maxRecDepth 20000 in
theorem gX2_order_X2_find : GoodIn wsX2_order (wsV RX2 26 RX2 yX2_find wsX2_find) := goodIn_app (goodIn_of _ (by decide +kernel)) ggX2_order_X2_find
set_option maxRecDepth 20000 in
theorem ggX2_order_X1_compared : GoodIn wsX2_order wsX1_compared := goodIn_r _ [11, 12, 13, 14, 9, 15, 16, 17, 18, 19, 20, 21, 22] (by decide +kernel) (by decide +kernel)
set_option maxRecDepth 20000 in
theorem gX2_order_X1_compared_n62 : GoodIn wsX2_order (wsX1_compared) := ggX2_order_X1_compared
theorem dX2_order_0 : decode cX2_order 0 = .ok (.aload_n 0, 1) := by decide +kernel
theorem dX2_order_1 : decode cX2_order 1 = .ok (.iload_n 1, 1) := by decide +kernel
theorem dX2_order_2 : decode cX2_order 2 = .ok (.invokevirtual 26, 3) := by decide +kernel
theorem dX2_order_5 : decode cX2_order 5 = .ok (.astore_n 3, 1) := by decide +kernel
theorem dX2_order_6 : decode cX2_order 6 = .ok (.aload_n 0, 1) := by decide +kernel
theorem dX2_order_7 : decode cX2_order 7 = .ok (.iload_n 2, 1) := by decide +kernel
theorem dX2_order_8 : decode cX2_order 8 = .ok (.invokevirtual 26, 3) := by decide +kernel
theorem dX2_order_11 : decode cX2_order 11 = .ok (.astore 4, 2) := by decide +kernel
theorem dX2_order_13 : decode cX2_order 13 = .ok (.aload_n 3, 1) := by decide +kernel
theorem dX2_order_14 : decode cX2_order 14 = .ok (.ifnull 20, 3) := by decide +kernel
theorem dX2_order_17 : decode cX2_order 17 = .ok (.aload 4, 2) := by decide +kernel
theorem dX2_order_19 : decode cX2_order 19 = .ok (.ifnull 15, 3) := by decide +kernel
theorem dX2_order_22 : decode cX2_order 22 = .ok (.aload_n 3, 1) := by decide +kernel
theorem dX2_order_23 : decode cX2_order 23 = .ok (.getfield 54, 3) := by decide +kernel
theorem dX2_order_26 : decode cX2_order 26 = .ok (.aload 4, 2) := by decide +kernel
theorem dX2_order_28 : decode cX2_order 28 = .ok (.getfield 54, 3) := by decide +kernel
theorem dX2_order_31 : decode cX2_order 31 = .ok (.if_acmp .eq 6, 3) := by decide +kernel
theorem dX2_order_34 : decode cX2_order 34 = .ok (.bipush (-2), 2) := by decide +kernel
theorem dX2_order_36 : decode cX2_order 36 = .ok (.ireturn, 1) := by decide +kernel
theorem dX2_order_37 : decode cX2_order 37 = .ok (.aload_n 3, 1) := by decide +kernel
theorem dX2_order_38 : decode cX2_order 38 = .ok (.getfield 54, 3) := by decide +kernel
theorem dX2_order_41 : decode cX2_order 41 = .ok (.aload_n 3, 1) := by decide +kernel
theorem dX2_order_42 : decode cX2_order 42 = .ok (.getfield 58, 3) := by decide +kernel
theorem dX2_order_45 : decode cX2_order 45 = .ok (.aload 4, 2) := by decide +kernel
theorem dX2_order_47 : decode cX2_order 47 = .ok (.getfield 58, 3) := by decide +kernel
theorem dX2_order_50 : decode cX2_order 50 = .ok (.invokevirtual 62, 3) := by decide +kernel
theorem dX2_order_53 : decode cX2_order 53 = .ok (.ireturn, 1) := by decide +kernel
theorem dX2_find_0 : decode cX2_find 0 = .ok (.iload_n 1, 1) := by decide +kernel
theorem dX2_find_1 : decode cX2_find 1 = .ok (.ifCond .lt 29, 3) := by decide +kernel
theorem dX2_find_4 : decode cX2_find 4 = .ok (.iload_n 1, 1) := by decide +kernel
theorem dX2_find_5 : decode cX2_find 5 = .ok (.aload_n 0, 1) := by decide +kernel
theorem dX2_find_6 : decode cX2_find 6 = .ok (.getfield 15, 3) := by decide +kernel
theorem dX2_find_9 : decode cX2_find 9 = .ok (.if_icmp .ge 21, 3) := by decide +kernel
theorem dX2_find_12 : decode cX2_find 12 = .ok (.iload_n 1, 1) := by decide +kernel
theorem dX2_find_13 : decode cX2_find 13 = .ok (.aload_n 0, 1) := by decide +kernel
theorem dX2_find_14 : decode cX2_find 14 = .ok (.getfield 11, 3) := by decide +kernel
theorem dX2_find_17 : decode cX2_find 17 = .ok (.arraylength, 1) := by decide +kernel
theorem dX2_find_18 : decode cX2_find 18 = .ok (.if_icmp .ge 12, 3) := by decide +kernel
theorem dX2_find_21 : decode cX2_find 21 = .ok (.aload_n 0, 1) := by decide +kernel
theorem dX2_find_22 : decode cX2_find 22 = .ok (.getfield 11, 3) := by decide +kernel
theorem dX2_find_25 : decode cX2_find 25 = .ok (.iload_n 1, 1) := by decide +kernel
theorem dX2_find_26 : decode cX2_find 26 = .ok (.aaload, 1) := by decide +kernel
theorem dX2_find_27 : decode cX2_find 27 = .ok (.goto 4, 3) := by decide +kernel
theorem dX2_find_30 : decode cX2_find 30 = .ok (.aconst_null, 1) := by decide +kernel
theorem dX2_find_31 : decode cX2_find 31 = .ok (.areturn, 1) := by decide +kernel
theorem dX2_orderAt_0 : decode cX2_orderAt 0 = .ok (.iload_n 0, 1) := by decide +kernel
theorem dX2_orderAt_1 : decode cX2_orderAt 1 = .ok (.iload_n 1, 1) := by decide +kernel
theorem dX2_orderAt_2 : decode cX2_orderAt 2 = .ok (.iconst 4, 1) := by decide +kernel
theorem dX2_orderAt_3 : decode cX2_orderAt 3 = .ok (.imul, 1) := by decide +kernel
theorem dX2_orderAt_4 : decode cX2_orderAt 4 = .ok (.iushr, 1) := by decide +kernel
theorem dX2_orderAt_5 : decode cX2_orderAt 5 = .ok (.bipush 15, 2) := by decide +kernel
theorem dX2_orderAt_7 : decode cX2_orderAt 7 = .ok (.iand, 1) := by decide +kernel
theorem dX2_orderAt_8 : decode cX2_orderAt 8 = .ok (.ireturn, 1) := by decide +kernel
set_option maxRecDepth 20000 in
theorem ggX2_lengthOf_X2_orderAt : GoodIn wsX2_lengthOf wsX2_orderAt := goodIn_r _ [4] (by decide +kernel) (by decide +kernel)
set_option maxRecDepth 20000 in
theorem gX2_lengthOf_X2_orderAt : GoodIn wsX2_lengthOf (va_wsS RX2 42 yX2_orderAt wsX2_orderAt) := goodIn_app (goodIn_of _ (by decide +kernel)) ggX2_lengthOf_X2_orderAt
theorem dX2_lengthOf_0 : decode cX2_lengthOf 0 = .ok (.iconst 0, 1) := by decide +kernel
theorem dX2_lengthOf_1 : decode cX2_lengthOf 1 = .ok (.istore_n 1, 1) := by decide +kernel
theorem dX2_lengthOf_2 : decode cX2_lengthOf 2 = .ok (.iload_n 1, 1) := by decide +kernel
theorem dX2_lengthOf_3 : decode cX2_lengthOf 3 = .ok (.bipush 8, 2) := by decide +kernel
theorem dX2_lengthOf_5 : decode cX2_lengthOf 5 = .ok (.if_icmp .ge 29, 3) := by decide +kernel
theorem dX2_lengthOf_8 : decode cX2_lengthOf 8 = .ok (.iload_n 0, 1) := by decide +kernel
theorem dX2_lengthOf_9 : decode cX2_lengthOf 9 = .ok (.iload_n 1, 1) := by decide +kernel
theorem dX2_lengthOf_10 : decode cX2_lengthOf 10 = .ok (.invokestatic 42, 3) := by decide +kernel
theorem dX2_lengthOf_13 : decode cX2_lengthOf 13 = .ok (.istore_n 2, 1) := by decide +kernel
theorem dX2_lengthOf_14 : decode cX2_lengthOf 14 = .ok (.iload_n 2, 1) := by decide +kernel
theorem dX2_lengthOf_15 : decode cX2_lengthOf 15 = .ok (.ifCond .ne 5, 3) := by decide +kernel
theorem dX2_lengthOf_18 : decode cX2_lengthOf 18 = .ok (.iload_n 1, 1) := by decide +kernel
theorem dX2_lengthOf_19 : decode cX2_lengthOf 19 = .ok (.ireturn, 1) := by decide +kernel
theorem dX2_lengthOf_20 : decode cX2_lengthOf 20 = .ok (.iload_n 2, 1) := by decide +kernel
theorem dX2_lengthOf_21 : decode cX2_lengthOf 21 = .ok (.bipush 13, 2) := by decide +kernel
theorem dX2_lengthOf_23 : decode cX2_lengthOf 23 = .ok (.if_icmp .le 5, 3) := by decide +kernel
theorem dX2_lengthOf_26 : decode cX2_lengthOf 26 = .ok (.iconst (-1), 1) := by decide +kernel
theorem dX2_lengthOf_27 : decode cX2_lengthOf 27 = .ok (.ireturn, 1) := by decide +kernel
theorem dX2_lengthOf_28 : decode cX2_lengthOf 28 = .ok (.iinc 1 1, 3) := by decide +kernel
theorem dX2_lengthOf_31 : decode cX2_lengthOf 31 = .ok (.goto (-29), 3) := by decide +kernel
theorem dX2_lengthOf_34 : decode cX2_lengthOf 34 = .ok (.bipush 8, 2) := by decide +kernel
theorem dX2_lengthOf_36 : decode cX2_lengthOf 36 = .ok (.ireturn, 1) := by decide +kernel
theorem dX3_init_0 : decode cX3_init 0 = .ok (.aload_n 0, 1) := by decide +kernel
theorem dX3_init_1 : decode cX3_init 1 = .ok (.invokespecial 1, 3) := by decide +kernel
theorem dX3_init_4 : decode cX3_init 4 = .ok (.aload_n 0, 1) := by decide +kernel
theorem dX3_init_5 : decode cX3_init 5 = .ok (.bipush 8, 2) := by decide +kernel
theorem dX3_init_7 : decode cX3_init 7 = .ok (.newarray .int, 2) := by decide +kernel
theorem dX3_init_9 : decode cX3_init 9 = .ok (.putfield 7, 3) := by decide +kernel
theorem dX3_init_12 : decode cX3_init 12 = .ok (.aload_n 0, 1) := by decide +kernel
theorem dX3_init_13 : decode cX3_init 13 = .ok (.bipush 40, 2) := by decide +kernel
theorem dX3_init_15 : decode cX3_init 15 = .ok (.newarray .long, 2) := by decide +kernel
theorem dX3_init_17 : decode cX3_init 17 = .ok (.putfield 13, 3) := by decide +kernel
theorem dX3_init_20 : decode cX3_init 20 = .ok (.return_, 1) := by decide +kernel
theorem dX3_isAxis_0 : decode cX3_isAxis 0 = .ok (.iload_n 1, 1) := by decide +kernel
theorem dX3_isAxis_1 : decode cX3_isAxis 1 = .ok (.ifCond .lt 15, 3) := by decide +kernel
theorem dX3_isAxis_4 : decode cX3_isAxis 4 = .ok (.iload_n 1, 1) := by decide +kernel
theorem dX3_isAxis_5 : decode cX3_isAxis 5 = .ok (.aload_n 0, 1) := by decide +kernel
theorem dX3_isAxis_6 : decode cX3_isAxis 6 = .ok (.getfield 17, 3) := by decide +kernel
theorem dX3_isAxis_9 : decode cX3_isAxis 9 = .ok (.if_icmp .ge 7, 3) := by decide +kernel
theorem dX3_isAxis_12 : decode cX3_isAxis 12 = .ok (.iconst 1, 1) := by decide +kernel
theorem dX3_isAxis_13 : decode cX3_isAxis 13 = .ok (.goto 4, 3) := by decide +kernel
theorem dX3_isAxis_16 : decode cX3_isAxis 16 = .ok (.iconst 0, 1) := by decide +kernel
theorem dX3_isAxis_17 : decode cX3_isAxis 17 = .ok (.ireturn, 1) := by decide +kernel
theorem dX3_isFloating_0 : decode cX3_isFloating 0 = .ok (.iload_n 0, 1) := by decide +kernel
theorem dX3_isFloating_1 : decode cX3_isFloating 1 = .ok (.iconst 2, 1) := by decide +kernel
theorem dX3_isFloating_2 : decode cX3_isFloating 2 = .ok (.if_icmp .lt 7, 3) := by decide +kernel
theorem dX3_isFloating_5 : decode cX3_isFloating 5 = .ok (.iconst 1, 1) := by decide +kernel
theorem dX3_isFloating_6 : decode cX3_isFloating 6 = .ok (.goto 4, 3) := by decide +kernel
theorem dX3_isFloating_9 : decode cX3_isFloating 9 = .ok (.iconst 0, 1) := by decide +kernel
theorem dX3_isFloating_10 : decode cX3_isFloating 10 = .ok (.ireturn, 1) := by decide +kernel
theorem dX3_fractionOf_0 : decode cX3_fractionOf 0 = .ok (.iload_n 0, 1) := by decide +kernel
theorem dX3_fractionOf_1 : decode cX3_fractionOf 1 = .ok (.iconst 2, 1) := by decide +kernel
theorem dX3_fractionOf_2 : decode cX3_fractionOf 2 = .ok (.if_icmp .ne 8, 3) := by decide +kernel
theorem dX3_fractionOf_5 : decode cX3_fractionOf 5 = .ok (.bipush 23, 2) := by decide +kernel
theorem dX3_fractionOf_7 : decode cX3_fractionOf 7 = .ok (.goto 5, 3) := by decide +kernel
theorem dX3_fractionOf_10 : decode cX3_fractionOf 10 = .ok (.bipush 52, 2) := by decide +kernel
theorem dX3_fractionOf_12 : decode cX3_fractionOf 12 = .ok (.ireturn, 1) := by decide +kernel
theorem dX3_endless_0 : decode cX3_endless 0 = .ok (.iload_n 0, 1) := by decide +kernel
theorem dX3_endless_1 : decode cX3_endless 1 = .ok (.iconst 2, 1) := by decide +kernel
theorem dX3_endless_2 : decode cX3_endless 2 = .ok (.if_icmp .ne 9, 3) := by decide +kernel
theorem dX3_endless_5 : decode cX3_endless 5 = .ok (.ldc2_w 21, 3) := by decide +kernel
theorem dX3_endless_8 : decode cX3_endless 8 = .ok (.goto 6, 3) := by decide +kernel
theorem dX3_endless_11 : decode cX3_endless 11 = .ok (.ldc2_w 23, 3) := by decide +kernel
theorem dX3_endless_14 : decode cX3_endless 14 = .ok (.lreturn, 1) := by decide +kernel
theorem dX3_size_0 : decode cX3_size 0 = .ok (.iload_n 0, 1) := by decide +kernel
theorem dX3_size_1 : decode cX3_size 1 = .ok (.iconst 2, 1) := by decide +kernel
theorem dX3_size_2 : decode cX3_size 2 = .ok (.if_icmp .ne 11, 3) := by decide +kernel
theorem dX3_size_5 : decode cX3_size 5 = .ok (.lload_n 1, 1) := by decide +kernel
theorem dX3_size_6 : decode cX3_size 6 = .ok (.ldc2_w 25, 3) := by decide +kernel
theorem dX3_size_9 : decode cX3_size 9 = .ok (.land, 1) := by decide +kernel
theorem dX3_size_10 : decode cX3_size 10 = .ok (.goto 8, 3) := by decide +kernel
theorem dX3_size_13 : decode cX3_size 13 = .ok (.lload_n 1, 1) := by decide +kernel
theorem dX3_size_14 : decode cX3_size 14 = .ok (.ldc2_w 27, 3) := by decide +kernel
theorem dX3_size_17 : decode cX3_size 17 = .ok (.land, 1) := by decide +kernel
theorem dX3_size_18 : decode cX3_size 18 = .ok (.lreturn, 1) := by decide +kernel
theorem dX3_signed_0 : decode cX3_signed 0 = .ok (.iload_n 0, 1) := by decide +kernel
theorem dX3_signed_1 : decode cX3_signed 1 = .ok (.iconst 2, 1) := by decide +kernel
theorem dX3_signed_2 : decode cX3_signed 2 = .ok (.if_icmp .ne 19, 3) := by decide +kernel
theorem dX3_signed_5 : decode cX3_signed 5 = .ok (.iload_n 3, 1) := by decide +kernel
theorem dX3_signed_6 : decode cX3_signed 6 = .ok (.ifCond .eq 13, 3) := by decide +kernel
theorem dX3_signed_9 : decode cX3_signed 9 = .ok (.lload_n 1, 1) := by decide +kernel
theorem dX3_signed_10 : decode cX3_signed 10 = .ok (.ldc2_w 29, 3) := by decide +kernel
theorem dX3_signed_13 : decode cX3_signed 13 = .ok (.lor, 1) := by decide +kernel
theorem dX3_signed_14 : decode cX3_signed 14 = .ok (.l2i, 1) := by decide +kernel
theorem dX3_signed_15 : decode cX3_signed 15 = .ok (.i2l, 1) := by decide +kernel
theorem dX3_signed_16 : decode cX3_signed 16 = .ok (.goto 4, 3) := by decide +kernel
theorem dX3_signed_19 : decode cX3_signed 19 = .ok (.lload_n 1, 1) := by decide +kernel
theorem dX3_signed_20 : decode cX3_signed 20 = .ok (.lreturn, 1) := by decide +kernel
theorem dX3_signed_21 : decode cX3_signed 21 = .ok (.iload_n 3, 1) := by decide +kernel
theorem dX3_signed_22 : decode cX3_signed 22 = .ok (.ifCond .eq 11, 3) := by decide +kernel
theorem dX3_signed_25 : decode cX3_signed 25 = .ok (.lload_n 1, 1) := by decide +kernel
theorem dX3_signed_26 : decode cX3_signed 26 = .ok (.ldc2_w 31, 3) := by decide +kernel
theorem dX3_signed_29 : decode cX3_signed 29 = .ok (.lor, 1) := by decide +kernel
theorem dX3_signed_30 : decode cX3_signed 30 = .ok (.goto 4, 3) := by decide +kernel
theorem dX3_signed_33 : decode cX3_signed 33 = .ok (.lload_n 1, 1) := by decide +kernel
theorem dX3_signed_34 : decode cX3_signed 34 = .ok (.lreturn, 1) := by decide +kernel
theorem dX3_one_0 : decode cX3_one 0 = .ok (.iload_n 0, 1) := by decide +kernel
theorem dX3_one_1 : decode cX3_one 1 = .ok (.iconst 2, 1) := by decide +kernel
theorem dX3_one_2 : decode cX3_one 2 = .ok (.if_icmp .ne 9, 3) := by decide +kernel
theorem dX3_one_5 : decode cX3_one 5 = .ok (.ldc2_w 33, 3) := by decide +kernel
theorem dX3_one_8 : decode cX3_one 8 = .ok (.goto 6, 3) := by decide +kernel
theorem dX3_one_11 : decode cX3_one 11 = .ok (.ldc2_w 35, 3) := by decide +kernel
theorem dX3_one_14 : decode cX3_one 14 = .ok (.lreturn, 1) := by decide +kernel
set_option maxRecDepth 20000 in
theorem ggX3_rank_X3_isFloating : GoodIn wsX3_rank wsX3_isFloating := goodIn_r _ [5] (by decide +kernel) (by decide +kernel)
set_option maxRecDepth 20000 in
theorem gX3_rank_X3_isFloating : GoodIn wsX3_rank (va_wsS RX3 37 yX3_isFloating wsX3_isFloating) := goodIn_app (goodIn_of _ (by decide +kernel)) ggX3_rank_X3_isFloating
set_option maxRecDepth 20000 in
theorem ggX3_rank_X3_size : GoodIn wsX3_rank wsX3_size := goodIn_r _ [8, 9, 10] (by decide +kernel) (by decide +kernel)
set_option maxRecDepth 20000 in
theorem gX3_rank_X3_size : GoodIn wsX3_rank (va_wsS RX3 43 yX3_size wsX3_size) := goodIn_app (goodIn_of _ (by decide +kernel)) ggX3_rank_X3_size
theorem dX3_rank_0 : decode cX3_rank 0 = .ok (.iload_n 0, 1) := by decide +kernel
theorem dX3_rank_1 : decode cX3_rank 1 = .ok (.invokestatic 37, 3) := by decide +kernel
theorem dX3_rank_4 : decode cX3_rank 4 = .ok (.ifCond .eq 21, 3) := by decide +kernel
theorem dX3_rank_7 : decode cX3_rank 7 = .ok (.lload_n 1, 1) := by decide +kernel
theorem dX3_rank_8 : decode cX3_rank 8 = .ok (.lconst 0, 1) := by decide +kernel
theorem dX3_rank_9 : decode cX3_rank 9 = .ok (.lcmp, 1) := by decide +kernel
theorem dX3_rank_10 : decode cX3_rank 10 = .ok (.ifCond .ge 15, 3) := by decide +kernel
theorem dX3_rank_13 : decode cX3_rank 13 = .ok (.ldc2_w 41, 3) := by decide +kernel
theorem dX3_rank_16 : decode cX3_rank 16 = .ok (.iload_n 0, 1) := by decide +kernel
theorem dX3_rank_17 : decode cX3_rank 17 = .ok (.lload_n 1, 1) := by decide +kernel
theorem dX3_rank_18 : decode cX3_rank 18 = .ok (.invokestatic 43, 3) := by decide +kernel
theorem dX3_rank_21 : decode cX3_rank 21 = .ok (.lsub, 1) := by decide +kernel
theorem dX3_rank_22 : decode cX3_rank 22 = .ok (.goto 4, 3) := by decide +kernel
theorem dX3_rank_25 : decode cX3_rank 25 = .ok (.lload_n 1, 1) := by decide +kernel
theorem dX3_rank_26 : decode cX3_rank 26 = .ok (.lreturn, 1) := by decide +kernel
set_option maxRecDepth 20000 in
theorem ggX3_isLess_X3_rank : GoodIn wsX3_isLess wsX3_rank := goodIn_r _ [4, 5, 6, 7, 3, 8, 9, 10, 11, 12, 13] (by decide +kernel) (by decide +kernel)
set_option maxRecDepth 20000 in
theorem gX3_isLess_X3_rank : GoodIn wsX3_isLess (va_wsS RX3 47 yX3_rank wsX3_rank) := goodIn_app (goodIn_of _ (by decide +kernel)) ggX3_isLess_X3_rank
theorem dX3_isLess_0 : decode cX3_isLess 0 = .ok (.iload_n 0, 1) := by decide +kernel
theorem dX3_isLess_1 : decode cX3_isLess 1 = .ok (.lload_n 1, 1) := by decide +kernel
theorem dX3_isLess_2 : decode cX3_isLess 2 = .ok (.invokestatic 47, 3) := by decide +kernel
theorem dX3_isLess_5 : decode cX3_isLess 5 = .ok (.iload_n 0, 1) := by decide +kernel
theorem dX3_isLess_6 : decode cX3_isLess 6 = .ok (.lload_n 3, 1) := by decide +kernel
theorem dX3_isLess_7 : decode cX3_isLess 7 = .ok (.invokestatic 47, 3) := by decide +kernel
theorem dX3_isLess_10 : decode cX3_isLess 10 = .ok (.lcmp, 1) := by decide +kernel
theorem dX3_isLess_11 : decode cX3_isLess 11 = .ok (.ifCond .ge 7, 3) := by decide +kernel
theorem dX3_isLess_14 : decode cX3_isLess 14 = .ok (.iconst 1, 1) := by decide +kernel
theorem dX3_isLess_15 : decode cX3_isLess 15 = .ok (.goto 4, 3) := by decide +kernel
theorem dX3_isLess_18 : decode cX3_isLess 18 = .ok (.iconst 0, 1) := by decide +kernel
theorem dX3_isLess_19 : decode cX3_isLess 19 = .ok (.ireturn, 1) := by decide +kernel
set_option maxRecDepth 20000 in
theorem ggX3_lesser_X3_isLess : GoodIn wsX3_lesser wsX3_isLess := goodIn_r _ [4, 5, 6, 3, 7, 8, 9, 10, 11, 12, 13, 14, 15, 16] (by decide +kernel) (by decide +kernel)
set_option maxRecDepth 20000 in
theorem gX3_lesser_X3_isLess : GoodIn wsX3_lesser (va_wsS RX3 50 yX3_isLess wsX3_isLess) := goodIn_app (goodIn_of _ (by decide +kernel)) ggX3_lesser_X3_isLess
theorem dX3_lesser_0 : decode cX3_lesser 0 = .ok (.iload_n 0, 1) := by decide +kernel
theorem dX3_lesser_1 : decode cX3_lesser 1 = .ok (.lload_n 3, 1) := by decide +kernel
theorem dX3_lesser_2 : decode cX3_lesser 2 = .ok (.lload_n 1, 1) := by decide +kernel
theorem dX3_lesser_3 : decode cX3_lesser 3 = .ok (.invokestatic 50, 3) := by decide +kernel
theorem dX3_lesser_6 : decode cX3_lesser 6 = .ok (.ifCond .eq 7, 3) := by decide +kernel
theorem dX3_lesser_9 : decode cX3_lesser 9 = .ok (.lload_n 3, 1) := by decide +kernel
theorem dX3_lesser_10 : decode cX3_lesser 10 = .ok (.goto 4, 3) := by decide +kernel
theorem dX3_lesser_13 : decode cX3_lesser 13 = .ok (.lload_n 1, 1) := by decide +kernel
theorem dX3_lesser_14 : decode cX3_lesser 14 = .ok (.lreturn, 1) := by decide +kernel
set_option maxRecDepth 20000 in
theorem ggX3_greater_X3_isLess : GoodIn wsX3_greater wsX3_isLess := goodIn_r _ [4, 5, 6, 3, 7, 8, 9, 10, 11, 12, 13, 14, 15, 16] (by decide +kernel) (by decide +kernel)
set_option maxRecDepth 20000 in
theorem gX3_greater_X3_isLess : GoodIn wsX3_greater (va_wsS RX3 50 yX3_isLess wsX3_isLess) := goodIn_app (goodIn_of _ (by decide +kernel)) ggX3_greater_X3_isLess
theorem dX3_greater_0 : decode cX3_greater 0 = .ok (.iload_n 0, 1) := by decide +kernel
theorem dX3_greater_1 : decode cX3_greater 1 = .ok (.lload_n 1, 1) := by decide +kernel
theorem dX3_greater_2 : decode cX3_greater 2 = .ok (.lload_n 3, 1) := by decide +kernel
theorem dX3_greater_3 : decode cX3_greater 3 = .ok (.invokestatic 50, 3) := by decide +kernel
theorem dX3_greater_6 : decode cX3_greater 6 = .ok (.ifCond .eq 7, 3) := by decide +kernel
theorem dX3_greater_9 : decode cX3_greater 9 = .ok (.lload_n 3, 1) := by decide +kernel
theorem dX3_greater_10 : decode cX3_greater 10 = .ok (.goto 4, 3) := by decide +kernel
theorem dX3_greater_13 : decode cX3_greater 13 = .ok (.lload_n 1, 1) := by decide +kernel
theorem dX3_greater_14 : decode cX3_greater 14 = .ok (.lreturn, 1) := by decide +kernel
set_option maxRecDepth 20000 in
theorem ggX3_sized_X3_isFloating : GoodIn wsX3_sized wsX3_isFloating := goodIn_r _ [4] (by decide +kernel) (by decide +kernel)
set_option maxRecDepth 20000 in
theorem gX3_sized_X3_isFloating : GoodIn wsX3_sized (va_wsS RX3 37 yX3_isFloating wsX3_isFloating) := goodIn_app (goodIn_of _ (by decide +kernel)) ggX3_sized_X3_isFloating
set_option maxRecDepth 20000 in
theorem ggX3_sized_X3_size : GoodIn wsX3_sized wsX3_size := goodIn_r _ [7, 8, 9] (by decide +kernel) (by decide +kernel)
set_option maxRecDepth 20000 in
theorem gX3_sized_X3_size : GoodIn wsX3_sized (va_wsS RX3 43 yX3_size wsX3_size) := goodIn_app (goodIn_of _ (by decide +kernel)) ggX3_sized_X3_size
theorem dX3_sized_0 : decode cX3_sized 0 = .ok (.iload_n 0, 1) := by decide +kernel
theorem dX3_sized_1 : decode cX3_sized 1 = .ok (.invokestatic 37, 3) := by decide +kernel
theorem dX3_sized_4 : decode cX3_sized 4 = .ok (.ifCond .eq 9, 3) := by decide +kernel
theorem dX3_sized_7 : decode cX3_sized 7 = .ok (.iload_n 0, 1) := by decide +kernel
theorem dX3_sized_8 : decode cX3_sized 8 = .ok (.lload_n 1, 1) := by decide +kernel
theorem dX3_sized_9 : decode cX3_sized 9 = .ok (.invokestatic 43, 3) := by decide +kernel
theorem dX3_sized_12 : decode cX3_sized 12 = .ok (.lreturn, 1) := by decide +kernel
theorem dX3_sized_13 : decode cX3_sized 13 = .ok (.lload_n 1, 1) := by decide +kernel
theorem dX3_sized_14 : decode cX3_sized 14 = .ok (.lconst 0, 1) := by decide +kernel
theorem dX3_sized_15 : decode cX3_sized 15 = .ok (.lcmp, 1) := by decide +kernel
theorem dX3_sized_16 : decode cX3_sized 16 = .ok (.ifCond .lt 7, 3) := by decide +kernel
theorem dX3_sized_19 : decode cX3_sized 19 = .ok (.lload_n 1, 1) := by decide +kernel
theorem dX3_sized_20 : decode cX3_sized 20 = .ok (.goto 16, 3) := by decide +kernel
theorem dX3_sized_23 : decode cX3_sized 23 = .ok (.iload_n 0, 1) := by decide +kernel
theorem dX3_sized_24 : decode cX3_sized 24 = .ok (.ifCond .ne 10, 3) := by decide +kernel
theorem dX3_sized_27 : decode cX3_sized 27 = .ok (.lload_n 1, 1) := by decide +kernel
theorem dX3_sized_28 : decode cX3_sized 28 = .ok (.lneg, 1) := by decide +kernel
theorem dX3_sized_29 : decode cX3_sized 29 = .ok (.l2i, 1) := by decide +kernel
theorem dX3_sized_30 : decode cX3_sized 30 = .ok (.i2l, 1) := by decide +kernel
theorem dX3_sized_31 : decode cX3_sized 31 = .ok (.goto 5, 3) := by decide +kernel
theorem dX3_sized_34 : decode cX3_sized 34 = .ok (.lload_n 1, 1) := by decide +kernel
theorem dX3_sized_35 : decode cX3_sized 35 = .ok (.lneg, 1) := by decide +kernel
theorem dX3_sized_36 : decode cX3_sized 36 = .ok (.lreturn, 1) := by decide +kernel
set_option maxRecDepth 20000 in
theorem ggX3_stepped_X3_isFloating : GoodIn wsX3_stepped wsX3_isFloating := goodIn_r _ [5] (by decide +kernel) (by decide +kernel)
set_option maxRecDepth 20000 in
theorem gX3_stepped_X3_isFloating : GoodIn wsX3_stepped (va_wsS RX3 37 yX3_isFloating wsX3_isFloating) := goodIn_app (goodIn_of _ (by decide +kernel)) ggX3_stepped_X3_isFloating
set_option maxRecDepth 20000 in
theorem ggX3_stepped_X3_fractionOf : GoodIn wsX3_stepped wsX3_fractionOf := goodIn_r _ [8] (by decide +kernel) (by decide +kernel)
set_option maxRecDepth 20000 in
theorem gX3_stepped_X3_fractionOf : GoodIn wsX3_stepped (va_wsS RX3 54 yX3_fractionOf wsX3_fractionOf) := goodIn_app (goodIn_of _ (by decide +kernel)) ggX3_stepped_X3_fractionOf
set_option maxRecDepth 20000 in
theorem ggX3_stepped_X3_size : GoodIn wsX3_stepped wsX3_size := goodIn_r _ [11, 12, 13] (by decide +kernel) (by decide +kernel)
set_option maxRecDepth 20000 in
theorem gX3_stepped_X3_size : GoodIn wsX3_stepped (va_wsS RX3 43 yX3_size wsX3_size) := goodIn_app (goodIn_of _ (by decide +kernel)) ggX3_stepped_X3_size
set_option maxRecDepth 20000 in
theorem ggX3_stepped_X3_one : GoodIn wsX3_stepped wsX3_one := goodIn_r _ [16, 17, 18] (by decide +kernel) (by decide +kernel)
set_option maxRecDepth 20000 in
theorem gX3_stepped_X3_one : GoodIn wsX3_stepped (va_wsS RX3 58 yX3_one wsX3_one) := goodIn_app (goodIn_of _ (by decide +kernel)) ggX3_stepped_X3_one
set_option maxRecDepth 20000 in
theorem ggX3_stepped_X3_signed : GoodIn wsX3_stepped wsX3_signed := goodIn_r _ [21, 22, 23] (by decide +kernel) (by decide +kernel)
set_option maxRecDepth 20000 in
theorem gX3_stepped_X3_signed : GoodIn wsX3_stepped (va_wsS RX3 62 yX3_signed wsX3_signed) := goodIn_app (goodIn_of _ (by decide +kernel)) ggX3_stepped_X3_signed
theorem dX3_stepped_0 : decode cX3_stepped 0 = .ok (.iload_n 0, 1) := by decide +kernel
theorem dX3_stepped_1 : decode cX3_stepped 1 = .ok (.invokestatic 37, 3) := by decide +kernel
theorem dX3_stepped_4 : decode cX3_stepped 4 = .ok (.ifCond .ne 5, 3) := by decide +kernel
theorem dX3_stepped_7 : decode cX3_stepped 7 = .ok (.lload_n 1, 1) := by decide +kernel
theorem dX3_stepped_8 : decode cX3_stepped 8 = .ok (.lreturn, 1) := by decide +kernel
theorem dX3_stepped_9 : decode cX3_stepped 9 = .ok (.iload_n 0, 1) := by decide +kernel
theorem dX3_stepped_10 : decode cX3_stepped 10 = .ok (.invokestatic 54, 3) := by decide +kernel
theorem dX3_stepped_13 : decode cX3_stepped 13 = .ok (.istore 4, 2) := by decide +kernel
theorem dX3_stepped_15 : decode cX3_stepped 15 = .ok (.iload_n 0, 1) := by decide +kernel
theorem dX3_stepped_16 : decode cX3_stepped 16 = .ok (.iconst 2, 1) := by decide +kernel
theorem dX3_stepped_17 : decode cX3_stepped 17 = .ok (.if_icmp .ne 8, 3) := by decide +kernel
theorem dX3_stepped_20 : decode cX3_stepped 20 = .ok (.bipush 127, 2) := by decide +kernel
theorem dX3_stepped_22 : decode cX3_stepped 22 = .ok (.goto 6, 3) := by decide +kernel
theorem dX3_stepped_25 : decode cX3_stepped 25 = .ok (.sipush 1023, 3) := by decide +kernel
theorem dX3_stepped_28 : decode cX3_stepped 28 = .ok (.istore 5, 2) := by decide +kernel
theorem dX3_stepped_30 : decode cX3_stepped 30 = .ok (.iload_n 0, 1) := by decide +kernel
theorem dX3_stepped_31 : decode cX3_stepped 31 = .ok (.lload_n 1, 1) := by decide +kernel
theorem dX3_stepped_32 : decode cX3_stepped 32 = .ok (.invokestatic 43, 3) := by decide +kernel
theorem dX3_stepped_35 : decode cX3_stepped 35 = .ok (.lstore 6, 2) := by decide +kernel
theorem dX3_stepped_37 : decode cX3_stepped 37 = .ok (.lload 6, 2) := by decide +kernel
theorem dX3_stepped_39 : decode cX3_stepped 39 = .ok (.iload 4, 2) := by decide +kernel
theorem dX3_stepped_41 : decode cX3_stepped 41 = .ok (.lushr, 1) := by decide +kernel
theorem dX3_stepped_42 : decode cX3_stepped 42 = .ok (.l2i, 1) := by decide +kernel
theorem dX3_stepped_43 : decode cX3_stepped 43 = .ok (.iload 5, 2) := by decide +kernel
theorem dX3_stepped_45 : decode cX3_stepped 45 = .ok (.isub, 1) := by decide +kernel
theorem dX3_stepped_46 : decode cX3_stepped 46 = .ok (.istore 8, 2) := by decide +kernel
theorem dX3_stepped_48 : decode cX3_stepped 48 = .ok (.lload 6, 2) := by decide +kernel
theorem dX3_stepped_50 : decode cX3_stepped 50 = .ok (.lconst 0, 1) := by decide +kernel
theorem dX3_stepped_51 : decode cX3_stepped 51 = .ok (.lcmp, 1) := by decide +kernel
theorem dX3_stepped_52 : decode cX3_stepped 52 = .ok (.ifCond .eq 10, 3) := by decide +kernel
theorem dX3_stepped_55 : decode cX3_stepped 55 = .ok (.iload 8, 2) := by decide +kernel
theorem dX3_stepped_57 : decode cX3_stepped 57 = .ok (.iload 4, 2) := by decide +kernel
theorem dX3_stepped_59 : decode cX3_stepped 59 = .ok (.if_icmp .lt 5, 3) := by decide +kernel
theorem dX3_stepped_62 : decode cX3_stepped 62 = .ok (.lload_n 1, 1) := by decide +kernel
theorem dX3_stepped_63 : decode cX3_stepped 63 = .ok (.lreturn, 1) := by decide +kernel
theorem dX3_stepped_64 : decode cX3_stepped 64 = .ok (.iload_n 3, 1) := by decide +kernel
theorem dX3_stepped_65 : decode cX3_stepped 65 = .ok (.ifCond .ne 17, 3) := by decide +kernel
theorem dX3_stepped_68 : decode cX3_stepped 68 = .ok (.lload_n 1, 1) := by decide +kernel
theorem dX3_stepped_69 : decode cX3_stepped 69 = .ok (.lconst 0, 1) := by decide +kernel
theorem dX3_stepped_70 : decode cX3_stepped 70 = .ok (.lcmp, 1) := by decide +kernel
theorem dX3_stepped_71 : decode cX3_stepped 71 = .ok (.ifCond .ge 7, 3) := by decide +kernel
theorem dX3_stepped_74 : decode cX3_stepped 74 = .ok (.iconst 1, 1) := by decide +kernel
theorem dX3_stepped_75 : decode cX3_stepped 75 = .ok (.goto 18, 3) := by decide +kernel
theorem dX3_stepped_78 : decode cX3_stepped 78 = .ok (.iconst 0, 1) := by decide +kernel
theorem dX3_stepped_79 : decode cX3_stepped 79 = .ok (.goto 14, 3) := by decide +kernel
theorem dX3_stepped_82 : decode cX3_stepped 82 = .ok (.lload_n 1, 1) := by decide +kernel
theorem dX3_stepped_83 : decode cX3_stepped 83 = .ok (.lconst 0, 1) := by decide +kernel
theorem dX3_stepped_84 : decode cX3_stepped 84 = .ok (.lcmp, 1) := by decide +kernel
theorem dX3_stepped_85 : decode cX3_stepped 85 = .ok (.ifCond .lt 7, 3) := by decide +kernel
theorem dX3_stepped_88 : decode cX3_stepped 88 = .ok (.iconst 1, 1) := by decide +kernel
theorem dX3_stepped_89 : decode cX3_stepped 89 = .ok (.goto 4, 3) := by decide +kernel
theorem dX3_stepped_92 : decode cX3_stepped 92 = .ok (.iconst 0, 1) := by decide +kernel
theorem dX3_stepped_93 : decode cX3_stepped 93 = .ok (.istore 9, 2) := by decide +kernel
theorem dX3_stepped_95 : decode cX3_stepped 95 = .ok (.iload 8, 2) := by decide +kernel
theorem dX3_stepped_97 : decode cX3_stepped 97 = .ok (.ifCond .ge 64, 3) := by decide +kernel
theorem dX3_stepped_100 : decode cX3_stepped 100 = .ok (.iload_n 3, 1) := by decide +kernel
theorem dX3_stepped_101 : decode cX3_stepped 101 = .ok (.iconst 2, 1) := by decide +kernel
theorem dX3_stepped_102 : decode cX3_stepped 102 = .ok (.if_icmp .ne 30, 3) := by decide +kernel
theorem dX3_stepped_105 : decode cX3_stepped 105 = .ok (.iload 8, 2) := by decide +kernel
theorem dX3_stepped_107 : decode cX3_stepped 107 = .ok (.iconst (-1), 1) := by decide +kernel
theorem dX3_stepped_108 : decode cX3_stepped 108 = .ok (.if_icmp .ne 21, 3) := by decide +kernel
theorem dX3_stepped_111 : decode cX3_stepped 111 = .ok (.lload 6, 2) := by decide +kernel
theorem dX3_stepped_113 : decode cX3_stepped 113 = .ok (.iload 5, 2) := by decide +kernel
theorem dX3_stepped_115 : decode cX3_stepped 115 = .ok (.iconst 1, 1) := by decide +kernel
theorem dX3_stepped_116 : decode cX3_stepped 116 = .ok (.isub, 1) := by decide +kernel
theorem dX3_stepped_117 : decode cX3_stepped 117 = .ok (.i2l, 1) := by decide +kernel
theorem dX3_stepped_118 : decode cX3_stepped 118 = .ok (.iload 4, 2) := by decide +kernel
theorem dX3_stepped_120 : decode cX3_stepped 120 = .ok (.lshl, 1) := by decide +kernel
theorem dX3_stepped_121 : decode cX3_stepped 121 = .ok (.lcmp, 1) := by decide +kernel
theorem dX3_stepped_122 : decode cX3_stepped 122 = .ok (.ifCond .le 7, 3) := by decide +kernel
theorem dX3_stepped_125 : decode cX3_stepped 125 = .ok (.iconst 1, 1) := by decide +kernel
theorem dX3_stepped_126 : decode cX3_stepped 126 = .ok (.goto 4, 3) := by decide +kernel
theorem dX3_stepped_129 : decode cX3_stepped 129 = .ok (.iconst 0, 1) := by decide +kernel
theorem dX3_stepped_130 : decode cX3_stepped 130 = .ok (.istore 9, 2) := by decide +kernel
theorem dX3_stepped_132 : decode cX3_stepped 132 = .ok (.iload_n 0, 1) := by decide +kernel
theorem dX3_stepped_133 : decode cX3_stepped 133 = .ok (.iload 9, 2) := by decide +kernel
theorem dX3_stepped_135 : decode cX3_stepped 135 = .ok (.ifCond .eq 10, 3) := by decide +kernel
theorem dX3_stepped_138 : decode cX3_stepped 138 = .ok (.iload_n 0, 1) := by decide +kernel
theorem dX3_stepped_139 : decode cX3_stepped 139 = .ok (.invokestatic 58, 3) := by decide +kernel
theorem dX3_stepped_142 : decode cX3_stepped 142 = .ok (.goto 4, 3) := by decide +kernel
theorem dX3_stepped_145 : decode cX3_stepped 145 = .ok (.lconst 0, 1) := by decide +kernel
theorem dX3_stepped_146 : decode cX3_stepped 146 = .ok (.lload_n 1, 1) := by decide +kernel
theorem dX3_stepped_147 : decode cX3_stepped 147 = .ok (.lconst 0, 1) := by decide +kernel
theorem dX3_stepped_148 : decode cX3_stepped 148 = .ok (.lcmp, 1) := by decide +kernel
theorem dX3_stepped_149 : decode cX3_stepped 149 = .ok (.ifCond .ge 7, 3) := by decide +kernel
theorem dX3_stepped_152 : decode cX3_stepped 152 = .ok (.iconst 1, 1) := by decide +kernel
theorem dX3_stepped_153 : decode cX3_stepped 153 = .ok (.goto 4, 3) := by decide +kernel
theorem dX3_stepped_156 : decode cX3_stepped 156 = .ok (.iconst 0, 1) := by decide +kernel
theorem dX3_stepped_157 : decode cX3_stepped 157 = .ok (.invokestatic 62, 3) := by decide +kernel
theorem dX3_stepped_160 : decode cX3_stepped 160 = .ok (.lreturn, 1) := by decide +kernel
theorem dX3_stepped_161 : decode cX3_stepped 161 = .ok (.lconst 1, 1) := by decide +kernel
theorem dX3_stepped_162 : decode cX3_stepped 162 = .ok (.iload 4, 2) := by decide +kernel
theorem dX3_stepped_164 : decode cX3_stepped 164 = .ok (.iload 8, 2) := by decide +kernel
theorem dX3_stepped_166 : decode cX3_stepped 166 = .ok (.isub, 1) := by decide +kernel
theorem dX3_stepped_167 : decode cX3_stepped 167 = .ok (.lshl, 1) := by decide +kernel
theorem dX3_stepped_168 : decode cX3_stepped 168 = .ok (.lstore 10, 2) := by decide +kernel
theorem dX3_stepped_170 : decode cX3_stepped 170 = .ok (.lload 6, 2) := by decide +kernel
end
section
theorem dX3_stepped_172 : decode cX3_stepped 172 = .ok (.lload 10, 2) := by decide +kernel
theorem dX3_stepped_174 : decode cX3_stepped 174 = .ok (.lconst 1, 1) := by decide +kernel
theorem dX3_stepped_175 : decode cX3_stepped 175 = .ok (.lsub, 1) := by decide +kernel
theorem dX3_stepped_176 : decode cX3_stepped 176 = .ok (.land, 1) := by decide +kernel
theorem dX3_stepped_177 : decode cX3_stepped 177 = .ok (.lstore 12, 2) := by decide +kernel
theorem dX3_stepped_179 : decode cX3_stepped 179 = .ok (.lload 12, 2) := by decide +kernel
theorem dX3_stepped_181 : decode cX3_stepped 181 = .ok (.lconst 0, 1) := by decide +kernel
theorem dX3_stepped_182 : decode cX3_stepped 182 = .ok (.lcmp, 1) := by decide +kernel
theorem dX3_stepped_183 : decode cX3_stepped 183 = .ok (.ifCond .ne 5, 3) := by decide +kernel
theorem dX3_stepped_186 : decode cX3_stepped 186 = .ok (.lload_n 1, 1) := by decide +kernel
theorem dX3_stepped_187 : decode cX3_stepped 187 = .ok (.lreturn, 1) := by decide +kernel
theorem dX3_stepped_188 : decode cX3_stepped 188 = .ok (.lload 6, 2) := by decide +kernel
theorem dX3_stepped_190 : decode cX3_stepped 190 = .ok (.lload 12, 2) := by decide +kernel
theorem dX3_stepped_192 : decode cX3_stepped 192 = .ok (.lsub, 1) := by decide +kernel
theorem dX3_stepped_193 : decode cX3_stepped 193 = .ok (.lstore 14, 2) := by decide +kernel
theorem dX3_stepped_195 : decode cX3_stepped 195 = .ok (.iload_n 3, 1) := by decide +kernel
theorem dX3_stepped_196 : decode cX3_stepped 196 = .ok (.iconst 2, 1) := by decide +kernel
theorem dX3_stepped_197 : decode cX3_stepped 197 = .ok (.if_icmp .ne 44, 3) := by decide +kernel
theorem dX3_stepped_200 : decode cX3_stepped 200 = .ok (.ldc2_w 66, 3) := by decide +kernel
theorem dX3_stepped_203 : decode cX3_stepped 203 = .ok (.lload 12, 2) := by decide +kernel
theorem dX3_stepped_205 : decode cX3_stepped 205 = .ok (.lmul, 1) := by decide +kernel
theorem dX3_stepped_206 : decode cX3_stepped 206 = .ok (.lstore 16, 2) := by decide +kernel
theorem dX3_stepped_208 : decode cX3_stepped 208 = .ok (.lload 16, 2) := by decide +kernel
theorem dX3_stepped_210 : decode cX3_stepped 210 = .ok (.lload 10, 2) := by decide +kernel
theorem dX3_stepped_212 : decode cX3_stepped 212 = .ok (.lcmp, 1) := by decide +kernel
theorem dX3_stepped_213 : decode cX3_stepped 213 = .ok (.ifCond .gt 21, 3) := by decide +kernel
theorem dX3_stepped_216 : decode cX3_stepped 216 = .ok (.lload 16, 2) := by decide +kernel
theorem dX3_stepped_218 : decode cX3_stepped 218 = .ok (.lload 10, 2) := by decide +kernel
theorem dX3_stepped_220 : decode cX3_stepped 220 = .ok (.lcmp, 1) := by decide +kernel
theorem dX3_stepped_221 : decode cX3_stepped 221 = .ok (.ifCond .ne 17, 3) := by decide +kernel
theorem dX3_stepped_224 : decode cX3_stepped 224 = .ok (.lload 14, 2) := by decide +kernel
theorem dX3_stepped_226 : decode cX3_stepped 226 = .ok (.lload 10, 2) := by decide +kernel
theorem dX3_stepped_228 : decode cX3_stepped 228 = .ok (.land, 1) := by decide +kernel
theorem dX3_stepped_229 : decode cX3_stepped 229 = .ok (.lconst 0, 1) := by decide +kernel
theorem dX3_stepped_230 : decode cX3_stepped 230 = .ok (.lcmp, 1) := by decide +kernel
theorem dX3_stepped_231 : decode cX3_stepped 231 = .ok (.ifCond .eq 7, 3) := by decide +kernel
theorem dX3_stepped_234 : decode cX3_stepped 234 = .ok (.iconst 1, 1) := by decide +kernel
theorem dX3_stepped_235 : decode cX3_stepped 235 = .ok (.goto 4, 3) := by decide +kernel
theorem dX3_stepped_238 : decode cX3_stepped 238 = .ok (.iconst 0, 1) := by decide +kernel
theorem dX3_stepped_239 : decode cX3_stepped 239 = .ok (.istore 9, 2) := by decide +kernel
theorem dX3_stepped_241 : decode cX3_stepped 241 = .ok (.iload_n 0, 1) := by decide +kernel
theorem dX3_stepped_242 : decode cX3_stepped 242 = .ok (.iload 9, 2) := by decide +kernel
theorem dX3_stepped_244 : decode cX3_stepped 244 = .ok (.ifCond .eq 11, 3) := by decide +kernel
theorem dX3_stepped_247 : decode cX3_stepped 247 = .ok (.lload 14, 2) := by decide +kernel
theorem dX3_stepped_249 : decode cX3_stepped 249 = .ok (.lload 10, 2) := by decide +kernel
theorem dX3_stepped_251 : decode cX3_stepped 251 = .ok (.ladd, 1) := by decide +kernel
theorem dX3_stepped_252 : decode cX3_stepped 252 = .ok (.goto 5, 3) := by decide +kernel
theorem dX3_stepped_255 : decode cX3_stepped 255 = .ok (.lload 14, 2) := by decide +kernel
theorem dX3_stepped_257 : decode cX3_stepped 257 = .ok (.lload_n 1, 1) := by decide +kernel
theorem dX3_stepped_258 : decode cX3_stepped 258 = .ok (.lconst 0, 1) := by decide +kernel
theorem dX3_stepped_259 : decode cX3_stepped 259 = .ok (.lcmp, 1) := by decide +kernel
theorem dX3_stepped_260 : decode cX3_stepped 260 = .ok (.ifCond .ge 7, 3) := by decide +kernel
theorem dX3_stepped_263 : decode cX3_stepped 263 = .ok (.iconst 1, 1) := by decide +kernel
theorem dX3_stepped_264 : decode cX3_stepped 264 = .ok (.goto 4, 3) := by decide +kernel
theorem dX3_stepped_267 : decode cX3_stepped 267 = .ok (.iconst 0, 1) := by decide +kernel
theorem dX3_stepped_268 : decode cX3_stepped 268 = .ok (.invokestatic 62, 3) := by decide +kernel
theorem dX3_stepped_271 : decode cX3_stepped 271 = .ok (.lreturn, 1) := by decide +kernel
set_option maxRecDepth 20000 in
theorem ggX3_nearest_X3_signed : GoodIn wsX3_nearest wsX3_signed := goodIn_r _ [4, 5, 6] (by decide +kernel) (by decide +kernel)
set_option maxRecDepth 20000 in
theorem gX3_nearest_X3_signed : GoodIn wsX3_nearest (va_wsS RX3 62 yX3_signed wsX3_signed) := goodIn_app (goodIn_of _ (by decide +kernel)) ggX3_nearest_X3_signed
set_option maxRecDepth 20000 in
theorem ggX3_nearest_X3_fractionOf : GoodIn wsX3_nearest wsX3_fractionOf := goodIn_r _ [9] (by decide +kernel) (by decide +kernel)
set_option maxRecDepth 20000 in
theorem gX3_nearest_X3_fractionOf : GoodIn wsX3_nearest (va_wsS RX3 54 yX3_fractionOf wsX3_fractionOf) := goodIn_app (goodIn_of _ (by decide +kernel)) ggX3_nearest_X3_fractionOf
set_option maxRecDepth 20000 in
theorem ggX3_nearest_X3_endless : GoodIn wsX3_nearest wsX3_endless := goodIn_r _ [12, 13, 14] (by decide +kernel) (by decide +kernel)
set_option maxRecDepth 20000 in
theorem gX3_nearest_X3_endless : GoodIn wsX3_nearest (va_wsS RX3 68 yX3_endless wsX3_endless) := goodIn_app (goodIn_of _ (by decide +kernel)) ggX3_nearest_X3_endless
theorem dX3_nearest_0 : decode cX3_nearest 0 = .ok (.lload_n 2, 1) := by decide +kernel
theorem dX3_nearest_1 : decode cX3_nearest 1 = .ok (.lconst 0, 1) := by decide +kernel
theorem dX3_nearest_2 : decode cX3_nearest 2 = .ok (.lcmp, 1) := by decide +kernel
theorem dX3_nearest_3 : decode cX3_nearest 3 = .ok (.ifCond .ne 10, 3) := by decide +kernel
theorem dX3_nearest_6 : decode cX3_nearest 6 = .ok (.iload_n 0, 1) := by decide +kernel
theorem dX3_nearest_7 : decode cX3_nearest 7 = .ok (.lconst 0, 1) := by decide +kernel
theorem dX3_nearest_8 : decode cX3_nearest 8 = .ok (.iload_n 1, 1) := by decide +kernel
theorem dX3_nearest_9 : decode cX3_nearest 9 = .ok (.invokestatic 62, 3) := by decide +kernel
theorem dX3_nearest_12 : decode cX3_nearest 12 = .ok (.lreturn, 1) := by decide +kernel
theorem dX3_nearest_13 : decode cX3_nearest 13 = .ok (.iload_n 0, 1) := by decide +kernel
theorem dX3_nearest_14 : decode cX3_nearest 14 = .ok (.invokestatic 54, 3) := by decide +kernel
theorem dX3_nearest_17 : decode cX3_nearest 17 = .ok (.istore 5, 2) := by decide +kernel
theorem dX3_nearest_19 : decode cX3_nearest 19 = .ok (.iload_n 0, 1) := by decide +kernel
theorem dX3_nearest_20 : decode cX3_nearest 20 = .ok (.iconst 2, 1) := by decide +kernel
theorem dX3_nearest_21 : decode cX3_nearest 21 = .ok (.if_icmp .ne 8, 3) := by decide +kernel
theorem dX3_nearest_24 : decode cX3_nearest 24 = .ok (.bipush 127, 2) := by decide +kernel
theorem dX3_nearest_26 : decode cX3_nearest 26 = .ok (.goto 6, 3) := by decide +kernel
theorem dX3_nearest_29 : decode cX3_nearest 29 = .ok (.sipush 1023, 3) := by decide +kernel
theorem dX3_nearest_32 : decode cX3_nearest 32 = .ok (.istore 6, 2) := by decide +kernel
theorem dX3_nearest_34 : decode cX3_nearest 34 = .ok (.bipush 63, 2) := by decide +kernel
theorem dX3_nearest_36 : decode cX3_nearest 36 = .ok (.istore 7, 2) := by decide +kernel
theorem dX3_nearest_38 : decode cX3_nearest 38 = .ok (.lload_n 2, 1) := by decide +kernel
theorem dX3_nearest_39 : decode cX3_nearest 39 = .ok (.iload 7, 2) := by decide +kernel
theorem dX3_nearest_41 : decode cX3_nearest 41 = .ok (.lushr, 1) := by decide +kernel
theorem dX3_nearest_42 : decode cX3_nearest 42 = .ok (.lconst 1, 1) := by decide +kernel
theorem dX3_nearest_43 : decode cX3_nearest 43 = .ok (.land, 1) := by decide +kernel
theorem dX3_nearest_44 : decode cX3_nearest 44 = .ok (.lconst 0, 1) := by decide +kernel
theorem dX3_nearest_45 : decode cX3_nearest 45 = .ok (.lcmp, 1) := by decide +kernel
theorem dX3_nearest_46 : decode cX3_nearest 46 = .ok (.ifCond .ne 9, 3) := by decide +kernel
theorem dX3_nearest_49 : decode cX3_nearest 49 = .ok (.iinc 7 (-1), 3) := by decide +kernel
theorem dX3_nearest_52 : decode cX3_nearest 52 = .ok (.goto (-14), 3) := by decide +kernel
theorem dX3_nearest_55 : decode cX3_nearest 55 = .ok (.iload 7, 2) := by decide +kernel
theorem dX3_nearest_57 : decode cX3_nearest 57 = .ok (.iload 4, 2) := by decide +kernel
theorem dX3_nearest_59 : decode cX3_nearest 59 = .ok (.iadd, 1) := by decide +kernel
theorem dX3_nearest_60 : decode cX3_nearest 60 = .ok (.iload 5, 2) := by decide +kernel
theorem dX3_nearest_62 : decode cX3_nearest 62 = .ok (.isub, 1) := by decide +kernel
theorem dX3_nearest_63 : decode cX3_nearest 63 = .ok (.istore 8, 2) := by decide +kernel
theorem dX3_nearest_65 : decode cX3_nearest 65 = .ok (.iload 8, 2) := by decide +kernel
theorem dX3_nearest_67 : decode cX3_nearest 67 = .ok (.iconst 1, 1) := by decide +kernel
theorem dX3_nearest_68 : decode cX3_nearest 68 = .ok (.iload 6, 2) := by decide +kernel
theorem dX3_nearest_70 : decode cX3_nearest 70 = .ok (.isub, 1) := by decide +kernel
theorem dX3_nearest_71 : decode cX3_nearest 71 = .ok (.iload 5, 2) := by decide +kernel
theorem dX3_nearest_73 : decode cX3_nearest 73 = .ok (.isub, 1) := by decide +kernel
theorem dX3_nearest_74 : decode cX3_nearest 74 = .ok (.if_icmp .ge 12, 3) := by decide +kernel
theorem dX3_nearest_77 : decode cX3_nearest 77 = .ok (.iconst 1, 1) := by decide +kernel
theorem dX3_nearest_78 : decode cX3_nearest 78 = .ok (.iload 6, 2) := by decide +kernel
theorem dX3_nearest_80 : decode cX3_nearest 80 = .ok (.isub, 1) := by decide +kernel
theorem dX3_nearest_81 : decode cX3_nearest 81 = .ok (.iload 5, 2) := by decide +kernel
theorem dX3_nearest_83 : decode cX3_nearest 83 = .ok (.isub, 1) := by decide +kernel
theorem dX3_nearest_84 : decode cX3_nearest 84 = .ok (.istore 8, 2) := by decide +kernel
theorem dX3_nearest_86 : decode cX3_nearest 86 = .ok (.lload_n 2, 1) := by decide +kernel
theorem dX3_nearest_87 : decode cX3_nearest 87 = .ok (.lstore 9, 2) := by decide +kernel
theorem dX3_nearest_89 : decode cX3_nearest 89 = .ok (.iload 4, 2) := by decide +kernel
theorem dX3_nearest_91 : decode cX3_nearest 91 = .ok (.iload 8, 2) := by decide +kernel
theorem dX3_nearest_93 : decode cX3_nearest 93 = .ok (.if_icmp .lt 15, 3) := by decide +kernel
theorem dX3_nearest_96 : decode cX3_nearest 96 = .ok (.lload_n 2, 1) := by decide +kernel
theorem dX3_nearest_97 : decode cX3_nearest 97 = .ok (.iload 4, 2) := by decide +kernel
theorem dX3_nearest_99 : decode cX3_nearest 99 = .ok (.iload 8, 2) := by decide +kernel
theorem dX3_nearest_101 : decode cX3_nearest 101 = .ok (.isub, 1) := by decide +kernel
theorem dX3_nearest_102 : decode cX3_nearest 102 = .ok (.lshl, 1) := by decide +kernel
theorem dX3_nearest_103 : decode cX3_nearest 103 = .ok (.lstore 9, 2) := by decide +kernel
theorem dX3_nearest_105 : decode cX3_nearest 105 = .ok (.goto 80, 3) := by decide +kernel
theorem dX3_nearest_108 : decode cX3_nearest 108 = .ok (.iload 8, 2) := by decide +kernel
theorem dX3_nearest_110 : decode cX3_nearest 110 = .ok (.iload 4, 2) := by decide +kernel
theorem dX3_nearest_112 : decode cX3_nearest 112 = .ok (.isub, 1) := by decide +kernel
theorem dX3_nearest_113 : decode cX3_nearest 113 = .ok (.bipush 63, 2) := by decide +kernel
theorem dX3_nearest_115 : decode cX3_nearest 115 = .ok (.if_icmp .le 9, 3) := by decide +kernel
theorem dX3_nearest_118 : decode cX3_nearest 118 = .ok (.lconst 0, 1) := by decide +kernel
theorem dX3_nearest_119 : decode cX3_nearest 119 = .ok (.lstore 9, 2) := by decide +kernel
theorem dX3_nearest_121 : decode cX3_nearest 121 = .ok (.goto 64, 3) := by decide +kernel
theorem dX3_nearest_124 : decode cX3_nearest 124 = .ok (.iload 8, 2) := by decide +kernel
theorem dX3_nearest_126 : decode cX3_nearest 126 = .ok (.iload 4, 2) := by decide +kernel
theorem dX3_nearest_128 : decode cX3_nearest 128 = .ok (.isub, 1) := by decide +kernel
theorem dX3_nearest_129 : decode cX3_nearest 129 = .ok (.istore 11, 2) := by decide +kernel
theorem dX3_nearest_131 : decode cX3_nearest 131 = .ok (.lload_n 2, 1) := by decide +kernel
theorem dX3_nearest_132 : decode cX3_nearest 132 = .ok (.iload 11, 2) := by decide +kernel
theorem dX3_nearest_134 : decode cX3_nearest 134 = .ok (.lushr, 1) := by decide +kernel
theorem dX3_nearest_135 : decode cX3_nearest 135 = .ok (.lstore 9, 2) := by decide +kernel
theorem dX3_nearest_137 : decode cX3_nearest 137 = .ok (.lload_n 2, 1) := by decide +kernel
theorem dX3_nearest_138 : decode cX3_nearest 138 = .ok (.lload 9, 2) := by decide +kernel
theorem dX3_nearest_140 : decode cX3_nearest 140 = .ok (.iload 11, 2) := by decide +kernel
theorem dX3_nearest_142 : decode cX3_nearest 142 = .ok (.lshl, 1) := by decide +kernel
theorem dX3_nearest_143 : decode cX3_nearest 143 = .ok (.lsub, 1) := by decide +kernel
theorem dX3_nearest_144 : decode cX3_nearest 144 = .ok (.lstore 12, 2) := by decide +kernel
theorem dX3_nearest_146 : decode cX3_nearest 146 = .ok (.lconst 1, 1) := by decide +kernel
theorem dX3_nearest_147 : decode cX3_nearest 147 = .ok (.iload 11, 2) := by decide +kernel
theorem dX3_nearest_149 : decode cX3_nearest 149 = .ok (.iconst 1, 1) := by decide +kernel
theorem dX3_nearest_150 : decode cX3_nearest 150 = .ok (.isub, 1) := by decide +kernel
theorem dX3_nearest_151 : decode cX3_nearest 151 = .ok (.lshl, 1) := by decide +kernel
theorem dX3_nearest_152 : decode cX3_nearest 152 = .ok (.lstore 14, 2) := by decide +kernel
theorem dX3_nearest_154 : decode cX3_nearest 154 = .ok (.lload 12, 2) := by decide +kernel
theorem dX3_nearest_156 : decode cX3_nearest 156 = .ok (.lload 14, 2) := by decide +kernel
theorem dX3_nearest_158 : decode cX3_nearest 158 = .ok (.lcmp, 1) := by decide +kernel
theorem dX3_nearest_159 : decode cX3_nearest 159 = .ok (.ifCond .gt 20, 3) := by decide +kernel
theorem dX3_nearest_162 : decode cX3_nearest 162 = .ok (.lload 12, 2) := by decide +kernel
theorem dX3_nearest_164 : decode cX3_nearest 164 = .ok (.lload 14, 2) := by decide +kernel
theorem dX3_nearest_166 : decode cX3_nearest 166 = .ok (.lcmp, 1) := by decide +kernel
theorem dX3_nearest_167 : decode cX3_nearest 167 = .ok (.ifCond .ne 18, 3) := by decide +kernel
theorem dX3_nearest_170 : decode cX3_nearest 170 = .ok (.lload 9, 2) := by decide +kernel
theorem dX3_nearest_172 : decode cX3_nearest 172 = .ok (.lconst 1, 1) := by decide +kernel
theorem dX3_nearest_173 : decode cX3_nearest 173 = .ok (.land, 1) := by decide +kernel
theorem dX3_nearest_174 : decode cX3_nearest 174 = .ok (.lconst 1, 1) := by decide +kernel
theorem dX3_nearest_175 : decode cX3_nearest 175 = .ok (.lcmp, 1) := by decide +kernel
theorem dX3_nearest_176 : decode cX3_nearest 176 = .ok (.ifCond .ne 9, 3) := by decide +kernel
theorem dX3_nearest_179 : decode cX3_nearest 179 = .ok (.lload 9, 2) := by decide +kernel
theorem dX3_nearest_181 : decode cX3_nearest 181 = .ok (.lconst 1, 1) := by decide +kernel
theorem dX3_nearest_182 : decode cX3_nearest 182 = .ok (.ladd, 1) := by decide +kernel
theorem dX3_nearest_183 : decode cX3_nearest 183 = .ok (.lstore 9, 2) := by decide +kernel
theorem dX3_nearest_185 : decode cX3_nearest 185 = .ok (.lconst 1, 1) := by decide +kernel
theorem dX3_nearest_186 : decode cX3_nearest 186 = .ok (.iload 5, 2) := by decide +kernel
theorem dX3_nearest_188 : decode cX3_nearest 188 = .ok (.lshl, 1) := by decide +kernel
theorem dX3_nearest_189 : decode cX3_nearest 189 = .ok (.lstore 11, 2) := by decide +kernel
theorem dX3_nearest_191 : decode cX3_nearest 191 = .ok (.lload 9, 2) := by decide +kernel
theorem dX3_nearest_193 : decode cX3_nearest 193 = .ok (.lload 11, 2) := by decide +kernel
theorem dX3_nearest_195 : decode cX3_nearest 195 = .ok (.lcmp, 1) := by decide +kernel
theorem dX3_nearest_196 : decode cX3_nearest 196 = .ok (.ifCond .ge 8, 3) := by decide +kernel
theorem dX3_nearest_199 : decode cX3_nearest 199 = .ok (.lload 9, 2) := by decide +kernel
theorem dX3_nearest_201 : decode cX3_nearest 201 = .ok (.goto 21, 3) := by decide +kernel
theorem dX3_nearest_204 : decode cX3_nearest 204 = .ok (.iload 8, 2) := by decide +kernel
theorem dX3_nearest_206 : decode cX3_nearest 206 = .ok (.iload 5, 2) := by decide +kernel
theorem dX3_nearest_208 : decode cX3_nearest 208 = .ok (.iadd, 1) := by decide +kernel
theorem dX3_nearest_209 : decode cX3_nearest 209 = .ok (.iload 6, 2) := by decide +kernel
theorem dX3_nearest_211 : decode cX3_nearest 211 = .ok (.iadd, 1) := by decide +kernel
theorem dX3_nearest_212 : decode cX3_nearest 212 = .ok (.i2l, 1) := by decide +kernel
theorem dX3_nearest_213 : decode cX3_nearest 213 = .ok (.iload 5, 2) := by decide +kernel
theorem dX3_nearest_215 : decode cX3_nearest 215 = .ok (.lshl, 1) := by decide +kernel
theorem dX3_nearest_216 : decode cX3_nearest 216 = .ok (.lload 9, 2) := by decide +kernel
theorem dX3_nearest_218 : decode cX3_nearest 218 = .ok (.lload 11, 2) := by decide +kernel
theorem dX3_nearest_220 : decode cX3_nearest 220 = .ok (.lsub, 1) := by decide +kernel
theorem dX3_nearest_221 : decode cX3_nearest 221 = .ok (.ladd, 1) := by decide +kernel
theorem dX3_nearest_222 : decode cX3_nearest 222 = .ok (.lstore 13, 2) := by decide +kernel
theorem dX3_nearest_224 : decode cX3_nearest 224 = .ok (.lload 13, 2) := by decide +kernel
theorem dX3_nearest_226 : decode cX3_nearest 226 = .ok (.iload_n 0, 1) := by decide +kernel
theorem dX3_nearest_227 : decode cX3_nearest 227 = .ok (.invokestatic 68, 3) := by decide +kernel
theorem dX3_nearest_230 : decode cX3_nearest 230 = .ok (.lcmp, 1) := by decide +kernel
theorem dX3_nearest_231 : decode cX3_nearest 231 = .ok (.ifCond .le 9, 3) := by decide +kernel
theorem dX3_nearest_234 : decode cX3_nearest 234 = .ok (.iload_n 0, 1) := by decide +kernel
theorem dX3_nearest_235 : decode cX3_nearest 235 = .ok (.invokestatic 68, 3) := by decide +kernel
theorem dX3_nearest_238 : decode cX3_nearest 238 = .ok (.lstore 13, 2) := by decide +kernel
theorem dX3_nearest_240 : decode cX3_nearest 240 = .ok (.iload_n 0, 1) := by decide +kernel
theorem dX3_nearest_241 : decode cX3_nearest 241 = .ok (.lload 13, 2) := by decide +kernel
theorem dX3_nearest_243 : decode cX3_nearest 243 = .ok (.iload_n 1, 1) := by decide +kernel
theorem dX3_nearest_244 : decode cX3_nearest 244 = .ok (.invokestatic 62, 3) := by decide +kernel
theorem dX3_nearest_247 : decode cX3_nearest 247 = .ok (.lreturn, 1) := by decide +kernel
set_option maxRecDepth 20000 in
theorem ggX3_cut_X3_fractionOf : GoodIn wsX3_cut wsX3_fractionOf := goodIn_r _ [8] (by decide +kernel) (by decide +kernel)
set_option maxRecDepth 20000 in
theorem gX3_cut_X3_fractionOf : GoodIn wsX3_cut (va_wsS RX3 54 yX3_fractionOf wsX3_fractionOf) := goodIn_app (goodIn_of _ (by decide +kernel)) ggX3_cut_X3_fractionOf
set_option maxRecDepth 20000 in
theorem ggX3_cut_X3_size : GoodIn wsX3_cut wsX3_size := goodIn_r _ [11, 3, 4] (by decide +kernel) (by decide +kernel)
set_option maxRecDepth 20000 in
theorem gX3_cut_X3_size : GoodIn wsX3_cut (va_wsS RX3 43 yX3_size wsX3_size) := goodIn_app (goodIn_of _ (by decide +kernel)) ggX3_cut_X3_size
theorem dX3_cut_0 : decode cX3_cut 0 = .ok (.iload_n 1, 1) := by decide +kernel
theorem dX3_cut_1 : decode cX3_cut 1 = .ok (.invokestatic 54, 3) := by decide +kernel
theorem dX3_cut_4 : decode cX3_cut 4 = .ok (.istore 4, 2) := by decide +kernel
theorem dX3_cut_6 : decode cX3_cut 6 = .ok (.iload_n 1, 1) := by decide +kernel
theorem dX3_cut_7 : decode cX3_cut 7 = .ok (.iconst 2, 1) := by decide +kernel
theorem dX3_cut_8 : decode cX3_cut 8 = .ok (.if_icmp .ne 8, 3) := by decide +kernel
theorem dX3_cut_11 : decode cX3_cut 11 = .ok (.bipush 127, 2) := by decide +kernel
theorem dX3_cut_13 : decode cX3_cut 13 = .ok (.goto 6, 3) := by decide +kernel
theorem dX3_cut_16 : decode cX3_cut 16 = .ok (.sipush 1023, 3) := by decide +kernel
theorem dX3_cut_19 : decode cX3_cut 19 = .ok (.istore 5, 2) := by decide +kernel
theorem dX3_cut_21 : decode cX3_cut 21 = .ok (.iload_n 1, 1) := by decide +kernel
theorem dX3_cut_22 : decode cX3_cut 22 = .ok (.lload_n 2, 1) := by decide +kernel
theorem dX3_cut_23 : decode cX3_cut 23 = .ok (.invokestatic 43, 3) := by decide +kernel
theorem dX3_cut_26 : decode cX3_cut 26 = .ok (.lstore 6, 2) := by decide +kernel
theorem dX3_cut_28 : decode cX3_cut 28 = .ok (.lload 6, 2) := by decide +kernel
theorem dX3_cut_30 : decode cX3_cut 30 = .ok (.iload 4, 2) := by decide +kernel
theorem dX3_cut_32 : decode cX3_cut 32 = .ok (.lushr, 1) := by decide +kernel
theorem dX3_cut_33 : decode cX3_cut 33 = .ok (.l2i, 1) := by decide +kernel
theorem dX3_cut_34 : decode cX3_cut 34 = .ok (.iload 5, 2) := by decide +kernel
theorem dX3_cut_36 : decode cX3_cut 36 = .ok (.isub, 1) := by decide +kernel
theorem dX3_cut_37 : decode cX3_cut 37 = .ok (.istore 8, 2) := by decide +kernel
theorem dX3_cut_39 : decode cX3_cut 39 = .ok (.iload 8, 2) := by decide +kernel
theorem dX3_cut_41 : decode cX3_cut 41 = .ok (.ifCond .ge 5, 3) := by decide +kernel
theorem dX3_cut_44 : decode cX3_cut 44 = .ok (.lconst 0, 1) := by decide +kernel
theorem dX3_cut_45 : decode cX3_cut 45 = .ok (.lreturn, 1) := by decide +kernel
theorem dX3_cut_46 : decode cX3_cut 46 = .ok (.iload_n 0, 1) := by decide +kernel
theorem dX3_cut_47 : decode cX3_cut 47 = .ok (.ifCond .ne 8, 3) := by decide +kernel
theorem dX3_cut_50 : decode cX3_cut 50 = .ok (.bipush 31, 2) := by decide +kernel
theorem dX3_cut_52 : decode cX3_cut 52 = .ok (.goto 5, 3) := by decide +kernel
theorem dX3_cut_55 : decode cX3_cut 55 = .ok (.bipush 63, 2) := by decide +kernel
theorem dX3_cut_57 : decode cX3_cut 57 = .ok (.istore 9, 2) := by decide +kernel
theorem dX3_cut_59 : decode cX3_cut 59 = .ok (.iload 8, 2) := by decide +kernel
theorem dX3_cut_61 : decode cX3_cut 61 = .ok (.iload 9, 2) := by decide +kernel
theorem dX3_cut_63 : decode cX3_cut 63 = .ok (.if_icmp .lt 37, 3) := by decide +kernel
theorem dX3_cut_66 : decode cX3_cut 66 = .ok (.lload_n 2, 1) := by decide +kernel
theorem dX3_cut_67 : decode cX3_cut 67 = .ok (.lconst 0, 1) := by decide +kernel
theorem dX3_cut_68 : decode cX3_cut 68 = .ok (.lcmp, 1) := by decide +kernel
theorem dX3_cut_69 : decode cX3_cut 69 = .ok (.ifCond .ge 17, 3) := by decide +kernel
theorem dX3_cut_72 : decode cX3_cut 72 = .ok (.iload_n 0, 1) := by decide +kernel
theorem dX3_cut_73 : decode cX3_cut 73 = .ok (.ifCond .ne 9, 3) := by decide +kernel
theorem dX3_cut_76 : decode cX3_cut 76 = .ok (.ldc2_w 71, 3) := by decide +kernel
theorem dX3_cut_79 : decode cX3_cut 79 = .ok (.goto 6, 3) := by decide +kernel
theorem dX3_cut_82 : decode cX3_cut 82 = .ok (.ldc2_w 31, 3) := by decide +kernel
theorem dX3_cut_85 : decode cX3_cut 85 = .ok (.lreturn, 1) := by decide +kernel
theorem dX3_cut_86 : decode cX3_cut 86 = .ok (.iload_n 0, 1) := by decide +kernel
theorem dX3_cut_87 : decode cX3_cut 87 = .ok (.ifCond .ne 9, 3) := by decide +kernel
theorem dX3_cut_90 : decode cX3_cut 90 = .ok (.ldc2_w 25, 3) := by decide +kernel
theorem dX3_cut_93 : decode cX3_cut 93 = .ok (.goto 6, 3) := by decide +kernel
theorem dX3_cut_96 : decode cX3_cut 96 = .ok (.ldc2_w 27, 3) := by decide +kernel
theorem dX3_cut_99 : decode cX3_cut 99 = .ok (.lreturn, 1) := by decide +kernel
theorem dX3_cut_100 : decode cX3_cut 100 = .ok (.lload 6, 2) := by decide +kernel
theorem dX3_cut_102 : decode cX3_cut 102 = .ok (.lconst 1, 1) := by decide +kernel
theorem dX3_cut_103 : decode cX3_cut 103 = .ok (.iload 4, 2) := by decide +kernel
theorem dX3_cut_105 : decode cX3_cut 105 = .ok (.lshl, 1) := by decide +kernel
theorem dX3_cut_106 : decode cX3_cut 106 = .ok (.lconst 1, 1) := by decide +kernel
theorem dX3_cut_107 : decode cX3_cut 107 = .ok (.lsub, 1) := by decide +kernel
theorem dX3_cut_108 : decode cX3_cut 108 = .ok (.land, 1) := by decide +kernel
theorem dX3_cut_109 : decode cX3_cut 109 = .ok (.lconst 1, 1) := by decide +kernel
theorem dX3_cut_110 : decode cX3_cut 110 = .ok (.iload 4, 2) := by decide +kernel
theorem dX3_cut_112 : decode cX3_cut 112 = .ok (.lshl, 1) := by decide +kernel
theorem dX3_cut_113 : decode cX3_cut 113 = .ok (.lor, 1) := by decide +kernel
theorem dX3_cut_114 : decode cX3_cut 114 = .ok (.lstore 10, 2) := by decide +kernel
theorem dX3_cut_116 : decode cX3_cut 116 = .ok (.iload 8, 2) := by decide +kernel
theorem dX3_cut_118 : decode cX3_cut 118 = .ok (.iload 4, 2) := by decide +kernel
theorem dX3_cut_120 : decode cX3_cut 120 = .ok (.if_icmp .lt 14, 3) := by decide +kernel
theorem dX3_cut_123 : decode cX3_cut 123 = .ok (.lload 10, 2) := by decide +kernel
theorem dX3_cut_125 : decode cX3_cut 125 = .ok (.iload 8, 2) := by decide +kernel
theorem dX3_cut_127 : decode cX3_cut 127 = .ok (.iload 4, 2) := by decide +kernel
theorem dX3_cut_129 : decode cX3_cut 129 = .ok (.isub, 1) := by decide +kernel
theorem dX3_cut_130 : decode cX3_cut 130 = .ok (.lshl, 1) := by decide +kernel
theorem dX3_cut_131 : decode cX3_cut 131 = .ok (.goto 11, 3) := by decide +kernel
theorem dX3_cut_134 : decode cX3_cut 134 = .ok (.lload 10, 2) := by decide +kernel
theorem dX3_cut_136 : decode cX3_cut 136 = .ok (.iload 4, 2) := by decide +kernel
theorem dX3_cut_138 : decode cX3_cut 138 = .ok (.iload 8, 2) := by decide +kernel
theorem dX3_cut_140 : decode cX3_cut 140 = .ok (.isub, 1) := by decide +kernel
theorem dX3_cut_141 : decode cX3_cut 141 = .ok (.lushr, 1) := by decide +kernel
theorem dX3_cut_142 : decode cX3_cut 142 = .ok (.lstore 12, 2) := by decide +kernel
theorem dX3_cut_144 : decode cX3_cut 144 = .ok (.lload_n 2, 1) := by decide +kernel
theorem dX3_cut_145 : decode cX3_cut 145 = .ok (.lconst 0, 1) := by decide +kernel
theorem dX3_cut_146 : decode cX3_cut 146 = .ok (.lcmp, 1) := by decide +kernel
theorem dX3_cut_147 : decode cX3_cut 147 = .ok (.ifCond .ge 9, 3) := by decide +kernel
theorem dX3_cut_150 : decode cX3_cut 150 = .ok (.lload 12, 2) := by decide +kernel
theorem dX3_cut_152 : decode cX3_cut 152 = .ok (.lneg, 1) := by decide +kernel
theorem dX3_cut_153 : decode cX3_cut 153 = .ok (.goto 5, 3) := by decide +kernel
theorem dX3_cut_156 : decode cX3_cut 156 = .ok (.lload 12, 2) := by decide +kernel
theorem dX3_cut_158 : decode cX3_cut 158 = .ok (.lreturn, 1) := by decide +kernel
set_option maxRecDepth 20000 in
theorem ggX3_turnedInto_X3_isFloating : GoodIn wsX3_turnedInto wsX3_isFloating := goodIn_r _ [4] (by decide +kernel) (by decide +kernel)
set_option maxRecDepth 20000 in
theorem gX3_turnedInto_X3_isFloating : GoodIn wsX3_turnedInto (va_wsS RX3 37 yX3_isFloating wsX3_isFloating) := goodIn_app (goodIn_of _ (by decide +kernel)) ggX3_turnedInto_X3_isFloating
set_option maxRecDepth 20000 in
theorem ggX3_turnedInto_X3_nearest : GoodIn wsX3_turnedInto wsX3_nearest := goodIn_r _ [7, 8, 9, 3, 10, 11, 12, 13, 14, 15, 16, 17, 18, 19, 20] (by decide +kernel) (by decide +kernel)
set_option maxRecDepth 20000 in
theorem gX3_turnedInto_X3_nearest : GoodIn wsX3_turnedInto (va_wsS RX3 73 yX3_nearest wsX3_nearest) := goodIn_app (goodIn_of _ (by decide +kernel)) ggX3_turnedInto_X3_nearest
set_option maxRecDepth 20000 in
theorem ggX3_turnedInto_X3_cut : GoodIn wsX3_turnedInto wsX3_cut := goodIn_r _ [23, 24, 12, 25, 26, 13, 14, 3, 15, 27, 28, 29] (by decide +kernel) (by decide +kernel)
set_option maxRecDepth 20000 in
theorem gX3_turnedInto_X3_cut : GoodIn wsX3_turnedInto (va_wsS RX3 77 yX3_cut wsX3_cut) := goodIn_app (goodIn_of _ (by decide +kernel)) ggX3_turnedInto_X3_cut
set_option maxRecDepth 20000 in
theorem ggX3_turnedInto_X3_size : GoodIn wsX3_turnedInto wsX3_size := goodIn_r _ [29, 25, 26] (by decide +kernel) (by decide +kernel)
set_option maxRecDepth 20000 in
theorem gX3_turnedInto_X3_size : GoodIn wsX3_turnedInto (va_wsS RX3 43 yX3_size wsX3_size) := goodIn_app (goodIn_of _ (by decide +kernel)) ggX3_turnedInto_X3_size
set_option maxRecDepth 20000 in
theorem ggX3_turnedInto_X3_endless : GoodIn wsX3_turnedInto wsX3_endless := goodIn_r _ [18, 19, 20] (by decide +kernel) (by decide +kernel)
set_option maxRecDepth 20000 in
theorem gX3_turnedInto_X3_endless : GoodIn wsX3_turnedInto (va_wsS RX3 68 yX3_endless wsX3_endless) := goodIn_app (goodIn_of _ (by decide +kernel)) ggX3_turnedInto_X3_endless
set_option maxRecDepth 20000 in
theorem ggX3_turnedInto_X3_signed : GoodIn wsX3_turnedInto wsX3_signed := goodIn_r _ [10, 11, 12] (by decide +kernel) (by decide +kernel)
set_option maxRecDepth 20000 in
theorem gX3_turnedInto_X3_signed : GoodIn wsX3_turnedInto (va_wsS RX3 62 yX3_signed wsX3_signed) := goodIn_app (goodIn_of _ (by decide +kernel)) ggX3_turnedInto_X3_signed
set_option maxRecDepth 20000 in
theorem ggX3_turnedInto_X3_fractionOf : GoodIn wsX3_turnedInto wsX3_fractionOf := goodIn_r _ [15] (by decide +kernel) (by decide +kernel)
set_option maxRecDepth 20000 in
theorem gX3_turnedInto_X3_fractionOf : GoodIn wsX3_turnedInto (va_wsS RX3 54 yX3_fractionOf wsX3_fractionOf) := goodIn_app (goodIn_of _ (by decide +kernel)) ggX3_turnedInto_X3_fractionOf
theorem dX3_turnedInto_0 : decode cX3_turnedInto 0 = .ok (.iload_n 0, 1) := by decide +kernel
theorem dX3_turnedInto_1 : decode cX3_turnedInto 1 = .ok (.iload_n 1, 1) := by decide +kernel
theorem dX3_turnedInto_2 : decode cX3_turnedInto 2 = .ok (.if_icmp .ne 5, 3) := by decide +kernel
theorem dX3_turnedInto_5 : decode cX3_turnedInto 5 = .ok (.lload_n 2, 1) := by decide +kernel
theorem dX3_turnedInto_6 : decode cX3_turnedInto 6 = .ok (.lreturn, 1) := by decide +kernel
theorem dX3_turnedInto_7 : decode cX3_turnedInto 7 = .ok (.iload_n 1, 1) := by decide +kernel
theorem dX3_turnedInto_8 : decode cX3_turnedInto 8 = .ok (.invokestatic 37, 3) := by decide +kernel
theorem dX3_turnedInto_11 : decode cX3_turnedInto 11 = .ok (.ifCond .ne 47, 3) := by decide +kernel
theorem dX3_turnedInto_14 : decode cX3_turnedInto 14 = .ok (.iload_n 0, 1) := by decide +kernel
theorem dX3_turnedInto_15 : decode cX3_turnedInto 15 = .ok (.iconst 1, 1) := by decide +kernel
theorem dX3_turnedInto_16 : decode cX3_turnedInto 16 = .ok (.if_icmp .ne 5, 3) := by decide +kernel
theorem dX3_turnedInto_19 : decode cX3_turnedInto 19 = .ok (.lload_n 2, 1) := by decide +kernel
theorem dX3_turnedInto_20 : decode cX3_turnedInto 20 = .ok (.lreturn, 1) := by decide +kernel
theorem dX3_turnedInto_21 : decode cX3_turnedInto 21 = .ok (.iload_n 0, 1) := by decide +kernel
theorem dX3_turnedInto_22 : decode cX3_turnedInto 22 = .ok (.ifCond .ne 7, 3) := by decide +kernel
theorem dX3_turnedInto_25 : decode cX3_turnedInto 25 = .ok (.lload_n 2, 1) := by decide +kernel
theorem dX3_turnedInto_26 : decode cX3_turnedInto 26 = .ok (.l2i, 1) := by decide +kernel
theorem dX3_turnedInto_27 : decode cX3_turnedInto 27 = .ok (.i2l, 1) := by decide +kernel
theorem dX3_turnedInto_28 : decode cX3_turnedInto 28 = .ok (.lreturn, 1) := by decide +kernel
theorem dX3_turnedInto_29 : decode cX3_turnedInto 29 = .ok (.iload_n 0, 1) := by decide +kernel
theorem dX3_turnedInto_30 : decode cX3_turnedInto 30 = .ok (.lload_n 2, 1) := by decide +kernel
theorem dX3_turnedInto_31 : decode cX3_turnedInto 31 = .ok (.lconst 0, 1) := by decide +kernel
theorem dX3_turnedInto_32 : decode cX3_turnedInto 32 = .ok (.lcmp, 1) := by decide +kernel
theorem dX3_turnedInto_33 : decode cX3_turnedInto 33 = .ok (.ifCond .ge 7, 3) := by decide +kernel
theorem dX3_turnedInto_36 : decode cX3_turnedInto 36 = .ok (.iconst 1, 1) := by decide +kernel
theorem dX3_turnedInto_37 : decode cX3_turnedInto 37 = .ok (.goto 4, 3) := by decide +kernel
theorem dX3_turnedInto_40 : decode cX3_turnedInto 40 = .ok (.iconst 0, 1) := by decide +kernel
theorem dX3_turnedInto_41 : decode cX3_turnedInto 41 = .ok (.lload_n 2, 1) := by decide +kernel
theorem dX3_turnedInto_42 : decode cX3_turnedInto 42 = .ok (.lconst 0, 1) := by decide +kernel
theorem dX3_turnedInto_43 : decode cX3_turnedInto 43 = .ok (.lcmp, 1) := by decide +kernel
theorem dX3_turnedInto_44 : decode cX3_turnedInto 44 = .ok (.ifCond .ge 8, 3) := by decide +kernel
theorem dX3_turnedInto_47 : decode cX3_turnedInto 47 = .ok (.lload_n 2, 1) := by decide +kernel
theorem dX3_turnedInto_48 : decode cX3_turnedInto 48 = .ok (.lneg, 1) := by decide +kernel
theorem dX3_turnedInto_49 : decode cX3_turnedInto 49 = .ok (.goto 4, 3) := by decide +kernel
theorem dX3_turnedInto_52 : decode cX3_turnedInto 52 = .ok (.lload_n 2, 1) := by decide +kernel
theorem dX3_turnedInto_53 : decode cX3_turnedInto 53 = .ok (.iconst 0, 1) := by decide +kernel
theorem dX3_turnedInto_54 : decode cX3_turnedInto 54 = .ok (.invokestatic 73, 3) := by decide +kernel
theorem dX3_turnedInto_57 : decode cX3_turnedInto 57 = .ok (.lreturn, 1) := by decide +kernel
theorem dX3_turnedInto_58 : decode cX3_turnedInto 58 = .ok (.iload_n 0, 1) := by decide +kernel
theorem dX3_turnedInto_59 : decode cX3_turnedInto 59 = .ok (.invokestatic 37, 3) := by decide +kernel
theorem dX3_turnedInto_62 : decode cX3_turnedInto 62 = .ok (.ifCond .ne 10, 3) := by decide +kernel
theorem dX3_turnedInto_65 : decode cX3_turnedInto 65 = .ok (.iload_n 0, 1) := by decide +kernel
theorem dX3_turnedInto_66 : decode cX3_turnedInto 66 = .ok (.iload_n 1, 1) := by decide +kernel
theorem dX3_turnedInto_67 : decode cX3_turnedInto 67 = .ok (.lload_n 2, 1) := by decide +kernel
theorem dX3_turnedInto_68 : decode cX3_turnedInto 68 = .ok (.invokestatic 77, 3) := by decide +kernel
theorem dX3_turnedInto_71 : decode cX3_turnedInto 71 = .ok (.lreturn, 1) := by decide +kernel
theorem dX3_turnedInto_72 : decode cX3_turnedInto 72 = .ok (.iload_n 1, 1) := by decide +kernel
theorem dX3_turnedInto_73 : decode cX3_turnedInto 73 = .ok (.lload_n 2, 1) := by decide +kernel
theorem dX3_turnedInto_74 : decode cX3_turnedInto 74 = .ok (.invokestatic 43, 3) := by decide +kernel
theorem dX3_turnedInto_77 : decode cX3_turnedInto 77 = .ok (.lstore 4, 2) := by decide +kernel
theorem dX3_turnedInto_79 : decode cX3_turnedInto 79 = .ok (.lload 4, 2) := by decide +kernel
theorem dX3_turnedInto_81 : decode cX3_turnedInto 81 = .ok (.iload_n 1, 1) := by decide +kernel
theorem dX3_turnedInto_82 : decode cX3_turnedInto 82 = .ok (.invokestatic 68, 3) := by decide +kernel
theorem dX3_turnedInto_85 : decode cX3_turnedInto 85 = .ok (.lcmp, 1) := by decide +kernel
theorem dX3_turnedInto_86 : decode cX3_turnedInto 86 = .ok (.ifCond .ne 23, 3) := by decide +kernel
theorem dX3_turnedInto_89 : decode cX3_turnedInto 89 = .ok (.iload_n 0, 1) := by decide +kernel
theorem dX3_turnedInto_90 : decode cX3_turnedInto 90 = .ok (.iload_n 0, 1) := by decide +kernel
theorem dX3_turnedInto_91 : decode cX3_turnedInto 91 = .ok (.invokestatic 68, 3) := by decide +kernel
theorem dX3_turnedInto_94 : decode cX3_turnedInto 94 = .ok (.lload_n 2, 1) := by decide +kernel
theorem dX3_turnedInto_95 : decode cX3_turnedInto 95 = .ok (.lconst 0, 1) := by decide +kernel
theorem dX3_turnedInto_96 : decode cX3_turnedInto 96 = .ok (.lcmp, 1) := by decide +kernel
theorem dX3_turnedInto_97 : decode cX3_turnedInto 97 = .ok (.ifCond .ge 7, 3) := by decide +kernel
theorem dX3_turnedInto_100 : decode cX3_turnedInto 100 = .ok (.iconst 1, 1) := by decide +kernel
theorem dX3_turnedInto_101 : decode cX3_turnedInto 101 = .ok (.goto 4, 3) := by decide +kernel
theorem dX3_turnedInto_104 : decode cX3_turnedInto 104 = .ok (.iconst 0, 1) := by decide +kernel
theorem dX3_turnedInto_105 : decode cX3_turnedInto 105 = .ok (.invokestatic 62, 3) := by decide +kernel
theorem dX3_turnedInto_108 : decode cX3_turnedInto 108 = .ok (.lreturn, 1) := by decide +kernel
theorem dX3_turnedInto_109 : decode cX3_turnedInto 109 = .ok (.iload_n 1, 1) := by decide +kernel
theorem dX3_turnedInto_110 : decode cX3_turnedInto 110 = .ok (.invokestatic 54, 3) := by decide +kernel
theorem dX3_turnedInto_113 : decode cX3_turnedInto 113 = .ok (.istore 6, 2) := by decide +kernel
theorem dX3_turnedInto_115 : decode cX3_turnedInto 115 = .ok (.iload_n 1, 1) := by decide +kernel
theorem dX3_turnedInto_116 : decode cX3_turnedInto 116 = .ok (.iconst 2, 1) := by decide +kernel
theorem dX3_turnedInto_117 : decode cX3_turnedInto 117 = .ok (.if_icmp .ne 8, 3) := by decide +kernel
theorem dX3_turnedInto_120 : decode cX3_turnedInto 120 = .ok (.bipush 127, 2) := by decide +kernel
theorem dX3_turnedInto_122 : decode cX3_turnedInto 122 = .ok (.goto 6, 3) := by decide +kernel
theorem dX3_turnedInto_125 : decode cX3_turnedInto 125 = .ok (.sipush 1023, 3) := by decide +kernel
theorem dX3_turnedInto_128 : decode cX3_turnedInto 128 = .ok (.istore 7, 2) := by decide +kernel
theorem dX3_turnedInto_130 : decode cX3_turnedInto 130 = .ok (.lload 4, 2) := by decide +kernel
theorem dX3_turnedInto_132 : decode cX3_turnedInto 132 = .ok (.iload 6, 2) := by decide +kernel
theorem dX3_turnedInto_134 : decode cX3_turnedInto 134 = .ok (.lushr, 1) := by decide +kernel
theorem dX3_turnedInto_135 : decode cX3_turnedInto 135 = .ok (.l2i, 1) := by decide +kernel
theorem dX3_turnedInto_136 : decode cX3_turnedInto 136 = .ok (.istore 8, 2) := by decide +kernel
theorem dX3_turnedInto_138 : decode cX3_turnedInto 138 = .ok (.lload 4, 2) := by decide +kernel
theorem dX3_turnedInto_140 : decode cX3_turnedInto 140 = .ok (.lconst 1, 1) := by decide +kernel
theorem dX3_turnedInto_141 : decode cX3_turnedInto 141 = .ok (.iload 6, 2) := by decide +kernel
theorem dX3_turnedInto_143 : decode cX3_turnedInto 143 = .ok (.lshl, 1) := by decide +kernel
theorem dX3_turnedInto_144 : decode cX3_turnedInto 144 = .ok (.lconst 1, 1) := by decide +kernel
theorem dX3_turnedInto_145 : decode cX3_turnedInto 145 = .ok (.lsub, 1) := by decide +kernel
theorem dX3_turnedInto_146 : decode cX3_turnedInto 146 = .ok (.land, 1) := by decide +kernel
theorem dX3_turnedInto_147 : decode cX3_turnedInto 147 = .ok (.lstore 9, 2) := by decide +kernel
theorem dX3_turnedInto_149 : decode cX3_turnedInto 149 = .ok (.iload 8, 2) := by decide +kernel
theorem dX3_turnedInto_151 : decode cX3_turnedInto 151 = .ok (.ifCond .ne 30, 3) := by decide +kernel
theorem dX3_turnedInto_154 : decode cX3_turnedInto 154 = .ok (.iload_n 0, 1) := by decide +kernel
theorem dX3_turnedInto_155 : decode cX3_turnedInto 155 = .ok (.lload_n 2, 1) := by decide +kernel
theorem dX3_turnedInto_156 : decode cX3_turnedInto 156 = .ok (.lconst 0, 1) := by decide +kernel
theorem dX3_turnedInto_157 : decode cX3_turnedInto 157 = .ok (.lcmp, 1) := by decide +kernel
theorem dX3_turnedInto_158 : decode cX3_turnedInto 158 = .ok (.ifCond .ge 7, 3) := by decide +kernel
theorem dX3_turnedInto_161 : decode cX3_turnedInto 161 = .ok (.iconst 1, 1) := by decide +kernel
theorem dX3_turnedInto_162 : decode cX3_turnedInto 162 = .ok (.goto 4, 3) := by decide +kernel
theorem dX3_turnedInto_165 : decode cX3_turnedInto 165 = .ok (.iconst 0, 1) := by decide +kernel
theorem dX3_turnedInto_166 : decode cX3_turnedInto 166 = .ok (.lload 9, 2) := by decide +kernel
theorem dX3_turnedInto_168 : decode cX3_turnedInto 168 = .ok (.iconst 1, 1) := by decide +kernel
theorem dX3_turnedInto_169 : decode cX3_turnedInto 169 = .ok (.iload 7, 2) := by decide +kernel
theorem dX3_turnedInto_171 : decode cX3_turnedInto 171 = .ok (.isub, 1) := by decide +kernel
theorem dX3_turnedInto_172 : decode cX3_turnedInto 172 = .ok (.iload 6, 2) := by decide +kernel
theorem dX3_turnedInto_174 : decode cX3_turnedInto 174 = .ok (.isub, 1) := by decide +kernel
theorem dX3_turnedInto_175 : decode cX3_turnedInto 175 = .ok (.invokestatic 73, 3) := by decide +kernel
theorem dX3_turnedInto_178 : decode cX3_turnedInto 178 = .ok (.goto 33, 3) := by decide +kernel
theorem dX3_turnedInto_181 : decode cX3_turnedInto 181 = .ok (.iload_n 0, 1) := by decide +kernel
theorem dX3_turnedInto_182 : decode cX3_turnedInto 182 = .ok (.lload_n 2, 1) := by decide +kernel
theorem dX3_turnedInto_183 : decode cX3_turnedInto 183 = .ok (.lconst 0, 1) := by decide +kernel
theorem dX3_turnedInto_184 : decode cX3_turnedInto 184 = .ok (.lcmp, 1) := by decide +kernel
theorem dX3_turnedInto_185 : decode cX3_turnedInto 185 = .ok (.ifCond .ge 7, 3) := by decide +kernel
theorem dX3_turnedInto_188 : decode cX3_turnedInto 188 = .ok (.iconst 1, 1) := by decide +kernel
theorem dX3_turnedInto_189 : decode cX3_turnedInto 189 = .ok (.goto 4, 3) := by decide +kernel
theorem dX3_turnedInto_192 : decode cX3_turnedInto 192 = .ok (.iconst 0, 1) := by decide +kernel
theorem dX3_turnedInto_193 : decode cX3_turnedInto 193 = .ok (.lload 9, 2) := by decide +kernel
theorem dX3_turnedInto_195 : decode cX3_turnedInto 195 = .ok (.lconst 1, 1) := by decide +kernel
theorem dX3_turnedInto_196 : decode cX3_turnedInto 196 = .ok (.iload 6, 2) := by decide +kernel
theorem dX3_turnedInto_198 : decode cX3_turnedInto 198 = .ok (.lshl, 1) := by decide +kernel
theorem dX3_turnedInto_199 : decode cX3_turnedInto 199 = .ok (.lor, 1) := by decide +kernel
theorem dX3_turnedInto_200 : decode cX3_turnedInto 200 = .ok (.iload 8, 2) := by decide +kernel
theorem dX3_turnedInto_202 : decode cX3_turnedInto 202 = .ok (.iload 7, 2) := by decide +kernel
theorem dX3_turnedInto_204 : decode cX3_turnedInto 204 = .ok (.isub, 1) := by decide +kernel
theorem dX3_turnedInto_205 : decode cX3_turnedInto 205 = .ok (.iload 6, 2) := by decide +kernel
theorem dX3_turnedInto_207 : decode cX3_turnedInto 207 = .ok (.isub, 1) := by decide +kernel
theorem dX3_turnedInto_208 : decode cX3_turnedInto 208 = .ok (.invokestatic 73, 3) := by decide +kernel
theorem dX3_turnedInto_211 : decode cX3_turnedInto 211 = .ok (.lreturn, 1) := by decide +kernel
set_option maxRecDepth 20000 in
theorem ggX3_axis_X3_endless : GoodIn wsX3_axis wsX3_endless := goodIn_r _ [11, 12, 13] (by decide +kernel) (by decide +kernel)
set_option maxRecDepth 20000 in
theorem gX3_axis_X3_endless : GoodIn wsX3_axis (va_wsS RX3 68 yX3_endless wsX3_endless) := goodIn_app (goodIn_of _ (by decide +kernel)) ggX3_axis_X3_endless
set_option maxRecDepth 20000 in
theorem ggX3_axis_X3_signed : GoodIn wsX3_axis wsX3_signed := goodIn_r _ [16, 17, 5] (by decide +kernel) (by decide +kernel)
set_option maxRecDepth 20000 in
theorem gX3_axis_X3_signed : GoodIn wsX3_axis (va_wsS RX3 62 yX3_signed wsX3_signed) := goodIn_app (goodIn_of _ (by decide +kernel)) ggX3_axis_X3_signed
theorem dX3_axis_0 : decode cX3_axis 0 = .ok (.iload_n 1, 1) := by decide +kernel
theorem dX3_axis_1 : decode cX3_axis 1 = .ok (.ifCond .lt 17, 3) := by decide +kernel
theorem dX3_axis_4 : decode cX3_axis 4 = .ok (.iload_n 1, 1) := by decide +kernel
theorem dX3_axis_5 : decode cX3_axis 5 = .ok (.iconst 3, 1) := by decide +kernel
theorem dX3_axis_6 : decode cX3_axis 6 = .ok (.if_icmp .gt 12, 3) := by decide +kernel
theorem dX3_axis_9 : decode cX3_axis 9 = .ok (.aload_n 0, 1) := by decide +kernel
theorem dX3_axis_10 : decode cX3_axis 10 = .ok (.getfield 17, 3) := by decide +kernel
theorem dX3_axis_13 : decode cX3_axis 13 = .ok (.bipush 8, 2) := by decide +kernel
theorem dX3_axis_15 : decode cX3_axis 15 = .ok (.if_icmp .ne 5, 3) := by decide +kernel
theorem dX3_axis_18 : decode cX3_axis 18 = .ok (.iconst (-1), 1) := by decide +kernel
theorem dX3_axis_19 : decode cX3_axis 19 = .ok (.ireturn, 1) := by decide +kernel
theorem dX3_axis_20 : decode cX3_axis 20 = .ok (.iconst 5, 1) := by decide +kernel
theorem dX3_axis_21 : decode cX3_axis 21 = .ok (.aload_n 0, 1) := by decide +kernel
theorem dX3_axis_22 : decode cX3_axis 22 = .ok (.getfield 17, 3) := by decide +kernel
theorem dX3_axis_25 : decode cX3_axis 25 = .ok (.imul, 1) := by decide +kernel
theorem dX3_axis_26 : decode cX3_axis 26 = .ok (.istore_n 2, 1) := by decide +kernel
theorem dX3_axis_27 : decode cX3_axis 27 = .ok (.aload_n 0, 1) := by decide +kernel
theorem dX3_axis_28 : decode cX3_axis 28 = .ok (.getfield 7, 3) := by decide +kernel
theorem dX3_axis_31 : decode cX3_axis 31 = .ok (.aload_n 0, 1) := by decide +kernel
theorem dX3_axis_32 : decode cX3_axis 32 = .ok (.getfield 17, 3) := by decide +kernel
theorem dX3_axis_35 : decode cX3_axis 35 = .ok (.iload_n 1, 1) := by decide +kernel
theorem dX3_axis_36 : decode cX3_axis 36 = .ok (.iastore, 1) := by decide +kernel
theorem dX3_axis_37 : decode cX3_axis 37 = .ok (.aload_n 0, 1) := by decide +kernel
theorem dX3_axis_38 : decode cX3_axis 38 = .ok (.getfield 13, 3) := by decide +kernel
theorem dX3_axis_41 : decode cX3_axis 41 = .ok (.iload_n 2, 1) := by decide +kernel
theorem dX3_axis_42 : decode cX3_axis 42 = .ok (.iconst 0, 1) := by decide +kernel
theorem dX3_axis_43 : decode cX3_axis 43 = .ok (.iadd, 1) := by decide +kernel
theorem dX3_axis_44 : decode cX3_axis 44 = .ok (.lconst 0, 1) := by decide +kernel
theorem dX3_axis_45 : decode cX3_axis 45 = .ok (.lastore, 1) := by decide +kernel
theorem dX3_axis_46 : decode cX3_axis 46 = .ok (.aload_n 0, 1) := by decide +kernel
theorem dX3_axis_47 : decode cX3_axis 47 = .ok (.getfield 13, 3) := by decide +kernel
theorem dX3_axis_50 : decode cX3_axis 50 = .ok (.iload_n 2, 1) := by decide +kernel
theorem dX3_axis_51 : decode cX3_axis 51 = .ok (.iconst 3, 1) := by decide +kernel
theorem dX3_axis_52 : decode cX3_axis 52 = .ok (.iadd, 1) := by decide +kernel
theorem dX3_axis_53 : decode cX3_axis 53 = .ok (.lconst 0, 1) := by decide +kernel
theorem dX3_axis_54 : decode cX3_axis 54 = .ok (.lastore, 1) := by decide +kernel
theorem dX3_axis_55 : decode cX3_axis 55 = .ok (.aload_n 0, 1) := by decide +kernel
theorem dX3_axis_56 : decode cX3_axis 56 = .ok (.getfield 13, 3) := by decide +kernel
theorem dX3_axis_59 : decode cX3_axis 59 = .ok (.iload_n 2, 1) := by decide +kernel
theorem dX3_axis_60 : decode cX3_axis 60 = .ok (.iconst 4, 1) := by decide +kernel
theorem dX3_axis_61 : decode cX3_axis 61 = .ok (.iadd, 1) := by decide +kernel
theorem dX3_axis_62 : decode cX3_axis 62 = .ok (.lconst 0, 1) := by decide +kernel
theorem dX3_axis_63 : decode cX3_axis 63 = .ok (.lastore, 1) := by decide +kernel
theorem dX3_axis_64 : decode cX3_axis 64 = .ok (.aload_n 0, 1) := by decide +kernel
theorem dX3_axis_65 : decode cX3_axis 65 = .ok (.getfield 13, 3) := by decide +kernel
theorem dX3_axis_68 : decode cX3_axis 68 = .ok (.iload_n 2, 1) := by decide +kernel
theorem dX3_axis_69 : decode cX3_axis 69 = .ok (.iconst 1, 1) := by decide +kernel
theorem dX3_axis_70 : decode cX3_axis 70 = .ok (.iadd, 1) := by decide +kernel
theorem dX3_axis_71 : decode cX3_axis 71 = .ok (.iload_n 1, 1) := by decide +kernel
theorem dX3_axis_72 : decode cX3_axis 72 = .ok (.ifCond .ne 9, 3) := by decide +kernel
theorem dX3_axis_75 : decode cX3_axis 75 = .ok (.ldc2_w 71, 3) := by decide +kernel
theorem dX3_axis_78 : decode cX3_axis 78 = .ok (.goto 23, 3) := by decide +kernel
theorem dX3_axis_81 : decode cX3_axis 81 = .ok (.iload_n 1, 1) := by decide +kernel
theorem dX3_axis_82 : decode cX3_axis 82 = .ok (.iconst 1, 1) := by decide +kernel
theorem dX3_axis_83 : decode cX3_axis 83 = .ok (.if_icmp .ne 9, 3) := by decide +kernel
theorem dX3_axis_86 : decode cX3_axis 86 = .ok (.ldc2_w 31, 3) := by decide +kernel
theorem dX3_axis_89 : decode cX3_axis 89 = .ok (.goto 12, 3) := by decide +kernel
theorem dX3_axis_92 : decode cX3_axis 92 = .ok (.iload_n 1, 1) := by decide +kernel
theorem dX3_axis_93 : decode cX3_axis 93 = .ok (.iload_n 1, 1) := by decide +kernel
theorem dX3_axis_94 : decode cX3_axis 94 = .ok (.invokestatic 68, 3) := by decide +kernel
theorem dX3_axis_97 : decode cX3_axis 97 = .ok (.iconst 1, 1) := by decide +kernel
theorem dX3_axis_98 : decode cX3_axis 98 = .ok (.invokestatic 62, 3) := by decide +kernel
theorem dX3_axis_101 : decode cX3_axis 101 = .ok (.lastore, 1) := by decide +kernel
theorem dX3_axis_102 : decode cX3_axis 102 = .ok (.aload_n 0, 1) := by decide +kernel
theorem dX3_axis_103 : decode cX3_axis 103 = .ok (.getfield 13, 3) := by decide +kernel
theorem dX3_axis_106 : decode cX3_axis 106 = .ok (.iload_n 2, 1) := by decide +kernel
theorem dX3_axis_107 : decode cX3_axis 107 = .ok (.iconst 2, 1) := by decide +kernel
theorem dX3_axis_108 : decode cX3_axis 108 = .ok (.iadd, 1) := by decide +kernel
theorem dX3_axis_109 : decode cX3_axis 109 = .ok (.iload_n 1, 1) := by decide +kernel
theorem dX3_axis_110 : decode cX3_axis 110 = .ok (.ifCond .ne 9, 3) := by decide +kernel
theorem dX3_axis_113 : decode cX3_axis 113 = .ok (.ldc2_w 25, 3) := by decide +kernel
theorem dX3_axis_116 : decode cX3_axis 116 = .ok (.goto 18, 3) := by decide +kernel
theorem dX3_axis_119 : decode cX3_axis 119 = .ok (.iload_n 1, 1) := by decide +kernel
theorem dX3_axis_120 : decode cX3_axis 120 = .ok (.iconst 1, 1) := by decide +kernel
theorem dX3_axis_121 : decode cX3_axis 121 = .ok (.if_icmp .ne 9, 3) := by decide +kernel
theorem dX3_axis_124 : decode cX3_axis 124 = .ok (.ldc2_w 27, 3) := by decide +kernel
theorem dX3_axis_127 : decode cX3_axis 127 = .ok (.goto 7, 3) := by decide +kernel
theorem dX3_axis_130 : decode cX3_axis 130 = .ok (.iload_n 1, 1) := by decide +kernel
theorem dX3_axis_131 : decode cX3_axis 131 = .ok (.invokestatic 68, 3) := by decide +kernel
theorem dX3_axis_134 : decode cX3_axis 134 = .ok (.lastore, 1) := by decide +kernel
theorem dX3_axis_135 : decode cX3_axis 135 = .ok (.aload_n 0, 1) := by decide +kernel
theorem dX3_axis_136 : decode cX3_axis 136 = .ok (.dup, 1) := by decide +kernel
theorem dX3_axis_137 : decode cX3_axis 137 = .ok (.getfield 17, 3) := by decide +kernel
theorem dX3_axis_140 : decode cX3_axis 140 = .ok (.iconst 1, 1) := by decide +kernel
theorem dX3_axis_141 : decode cX3_axis 141 = .ok (.iadd, 1) := by decide +kernel
theorem dX3_axis_142 : decode cX3_axis 142 = .ok (.putfield 17, 3) := by decide +kernel
theorem dX3_axis_145 : decode cX3_axis 145 = .ok (.aload_n 0, 1) := by decide +kernel
theorem dX3_axis_146 : decode cX3_axis 146 = .ok (.getfield 17, 3) := by decide +kernel
theorem dX3_axis_149 : decode cX3_axis 149 = .ok (.iconst 1, 1) := by decide +kernel
theorem dX3_axis_150 : decode cX3_axis 150 = .ok (.isub, 1) := by decide +kernel
theorem dX3_axis_151 : decode cX3_axis 151 = .ok (.ireturn, 1) := by decide +kernel
set_option maxRecDepth 20000 in
theorem ggX3_set_X3_isAxis : GoodIn wsX3_set wsX3_isAxis := goodIn_r _ [7, 8, 22, 23, 24] (by decide +kernel) (by decide +kernel)
set_option maxRecDepth 20000 in
theorem gX3_set_X3_isAxis : GoodIn wsX3_set (wsV RX3 81 RX3 yX3_isAxis wsX3_isAxis) := goodIn_app (goodIn_of _ (by decide +kernel)) ggX3_set_X3_isAxis
set_option maxRecDepth 20000 in
theorem ggX3_set_X3_isFloating : GoodIn wsX3_set wsX3_isFloating := goodIn_r _ [11] (by decide +kernel) (by decide +kernel)
set_option maxRecDepth 20000 in
theorem gX3_set_X3_isFloating : GoodIn wsX3_set (va_wsS RX3 37 yX3_isFloating wsX3_isFloating) := goodIn_app (goodIn_of _ (by decide +kernel)) ggX3_set_X3_isFloating
set_option maxRecDepth 20000 in
theorem ggX3_set_X3_size : GoodIn wsX3_set wsX3_size := goodIn_r _ [14, 15, 16] (by decide +kernel) (by decide +kernel)
set_option maxRecDepth 20000 in
theorem gX3_set_X3_size : GoodIn wsX3_set (va_wsS RX3 43 yX3_size wsX3_size) := goodIn_app (goodIn_of _ (by decide +kernel)) ggX3_set_X3_size
set_option maxRecDepth 20000 in
theorem ggX3_set_X3_endless : GoodIn wsX3_set wsX3_endless := goodIn_r _ [19, 20, 21] (by decide +kernel) (by decide +kernel)
set_option maxRecDepth 20000 in
theorem gX3_set_X3_endless : GoodIn wsX3_set (va_wsS RX3 68 yX3_endless wsX3_endless) := goodIn_app (goodIn_of _ (by decide +kernel)) ggX3_set_X3_endless
theorem dX3_set_0 : decode cX3_set 0 = .ok (.aload_n 0, 1) := by decide +kernel
theorem dX3_set_1 : decode cX3_set 1 = .ok (.iload_n 1, 1) := by decide +kernel
theorem dX3_set_2 : decode cX3_set 2 = .ok (.invokevirtual 81, 3) := by decide +kernel
theorem dX3_set_5 : decode cX3_set 5 = .ok (.ifCond .eq 12, 3) := by decide +kernel
theorem dX3_set_8 : decode cX3_set 8 = .ok (.iload_n 2, 1) := by decide +kernel
theorem dX3_set_9 : decode cX3_set 9 = .ok (.ifCond .lt 8, 3) := by decide +kernel
theorem dX3_set_12 : decode cX3_set 12 = .ok (.iload_n 2, 1) := by decide +kernel
theorem dX3_set_13 : decode cX3_set 13 = .ok (.iconst 4, 1) := by decide +kernel
theorem dX3_set_14 : decode cX3_set 14 = .ok (.if_icmp .le 5, 3) := by decide +kernel
theorem dX3_set_17 : decode cX3_set 17 = .ok (.iconst 0, 1) := by decide +kernel
theorem dX3_set_18 : decode cX3_set 18 = .ok (.ireturn, 1) := by decide +kernel
theorem dX3_set_19 : decode cX3_set 19 = .ok (.aload_n 0, 1) := by decide +kernel
theorem dX3_set_20 : decode cX3_set 20 = .ok (.getfield 7, 3) := by decide +kernel
theorem dX3_set_23 : decode cX3_set 23 = .ok (.iload_n 1, 1) := by decide +kernel
theorem dX3_set_24 : decode cX3_set 24 = .ok (.iaload, 1) := by decide +kernel
theorem dX3_set_25 : decode cX3_set 25 = .ok (.istore 5, 2) := by decide +kernel
theorem dX3_set_27 : decode cX3_set 27 = .ok (.iload 5, 2) := by decide +kernel
theorem dX3_set_29 : decode cX3_set 29 = .ok (.ifCond .eq 9, 3) := by decide +kernel
theorem dX3_set_32 : decode cX3_set 32 = .ok (.iload 5, 2) := by decide +kernel
theorem dX3_set_34 : decode cX3_set 34 = .ok (.iconst 2, 1) := by decide +kernel
theorem dX3_set_35 : decode cX3_set 35 = .ok (.if_icmp .ne 9, 3) := by decide +kernel
theorem dX3_set_38 : decode cX3_set 38 = .ok (.lload_n 3, 1) := by decide +kernel
theorem dX3_set_39 : decode cX3_set 39 = .ok (.l2i, 1) := by decide +kernel
theorem dX3_set_40 : decode cX3_set 40 = .ok (.i2l, 1) := by decide +kernel
theorem dX3_set_41 : decode cX3_set 41 = .ok (.goto 4, 3) := by decide +kernel
theorem dX3_set_44 : decode cX3_set 44 = .ok (.lload_n 3, 1) := by decide +kernel
theorem dX3_set_45 : decode cX3_set 45 = .ok (.lstore 6, 2) := by decide +kernel
theorem dX3_set_47 : decode cX3_set 47 = .ok (.iload 5, 2) := by decide +kernel
theorem dX3_set_49 : decode cX3_set 49 = .ok (.invokestatic 37, 3) := by decide +kernel
theorem dX3_set_52 : decode cX3_set 52 = .ok (.ifCond .eq 21, 3) := by decide +kernel
theorem dX3_set_55 : decode cX3_set 55 = .ok (.iload 5, 2) := by decide +kernel
theorem dX3_set_57 : decode cX3_set 57 = .ok (.lload 6, 2) := by decide +kernel
theorem dX3_set_59 : decode cX3_set 59 = .ok (.invokestatic 43, 3) := by decide +kernel
theorem dX3_set_62 : decode cX3_set 62 = .ok (.iload 5, 2) := by decide +kernel
theorem dX3_set_64 : decode cX3_set 64 = .ok (.invokestatic 68, 3) := by decide +kernel
theorem dX3_set_67 : decode cX3_set 67 = .ok (.lcmp, 1) := by decide +kernel
theorem dX3_set_68 : decode cX3_set 68 = .ok (.ifCond .le 5, 3) := by decide +kernel
theorem dX3_set_71 : decode cX3_set 71 = .ok (.iconst 0, 1) := by decide +kernel
theorem dX3_set_72 : decode cX3_set 72 = .ok (.ireturn, 1) := by decide +kernel
theorem dX3_set_73 : decode cX3_set 73 = .ok (.aload_n 0, 1) := by decide +kernel
theorem dX3_set_74 : decode cX3_set 74 = .ok (.getfield 13, 3) := by decide +kernel
theorem dX3_set_77 : decode cX3_set 77 = .ok (.iconst 5, 1) := by decide +kernel
theorem dX3_set_78 : decode cX3_set 78 = .ok (.iload_n 1, 1) := by decide +kernel
theorem dX3_set_79 : decode cX3_set 79 = .ok (.imul, 1) := by decide +kernel
theorem dX3_set_80 : decode cX3_set 80 = .ok (.iload_n 2, 1) := by decide +kernel
theorem dX3_set_81 : decode cX3_set 81 = .ok (.iadd, 1) := by decide +kernel
theorem dX3_set_82 : decode cX3_set 82 = .ok (.lload 6, 2) := by decide +kernel
theorem dX3_set_84 : decode cX3_set 84 = .ok (.lastore, 1) := by decide +kernel
theorem dX3_set_85 : decode cX3_set 85 = .ok (.iconst 1, 1) := by decide +kernel
theorem dX3_set_86 : decode cX3_set 86 = .ok (.ireturn, 1) := by decide +kernel
set_option maxRecDepth 20000 in
theorem ggX3_bits_X3_isAxis : GoodIn wsX3_bits wsX3_isAxis := goodIn_r _ [6, 7, 8, 9, 10] (by decide +kernel) (by decide +kernel)
set_option maxRecDepth 20000 in
theorem gX3_bits_X3_isAxis : GoodIn wsX3_bits (wsV RX3 81 RX3 yX3_isAxis wsX3_isAxis) := goodIn_app (goodIn_of _ (by decide +kernel)) ggX3_bits_X3_isAxis
theorem dX3_bits_0 : decode cX3_bits 0 = .ok (.aload_n 0, 1) := by decide +kernel
theorem dX3_bits_1 : decode cX3_bits 1 = .ok (.iload_n 1, 1) := by decide +kernel
theorem dX3_bits_2 : decode cX3_bits 2 = .ok (.invokevirtual 81, 3) := by decide +kernel
theorem dX3_bits_5 : decode cX3_bits 5 = .ok (.ifCond .eq 25, 3) := by decide +kernel
theorem dX3_bits_8 : decode cX3_bits 8 = .ok (.iload_n 2, 1) := by decide +kernel
theorem dX3_bits_9 : decode cX3_bits 9 = .ok (.ifCond .lt 21, 3) := by decide +kernel
theorem dX3_bits_12 : decode cX3_bits 12 = .ok (.iload_n 2, 1) := by decide +kernel
theorem dX3_bits_13 : decode cX3_bits 13 = .ok (.iconst 4, 1) := by decide +kernel
theorem dX3_bits_14 : decode cX3_bits 14 = .ok (.if_icmp .gt 16, 3) := by decide +kernel
theorem dX3_bits_17 : decode cX3_bits 17 = .ok (.aload_n 0, 1) := by decide +kernel
theorem dX3_bits_18 : decode cX3_bits 18 = .ok (.getfield 13, 3) := by decide +kernel
theorem dX3_bits_21 : decode cX3_bits 21 = .ok (.iconst 5, 1) := by decide +kernel
theorem dX3_bits_22 : decode cX3_bits 22 = .ok (.iload_n 1, 1) := by decide +kernel
theorem dX3_bits_23 : decode cX3_bits 23 = .ok (.imul, 1) := by decide +kernel
theorem dX3_bits_24 : decode cX3_bits 24 = .ok (.iload_n 2, 1) := by decide +kernel
theorem dX3_bits_25 : decode cX3_bits 25 = .ok (.iadd, 1) := by decide +kernel
theorem dX3_bits_26 : decode cX3_bits 26 = .ok (.laload, 1) := by decide +kernel
theorem dX3_bits_27 : decode cX3_bits 27 = .ok (.goto 4, 3) := by decide +kernel
theorem dX3_bits_30 : decode cX3_bits 30 = .ok (.lconst 0, 1) := by decide +kernel
theorem dX3_bits_31 : decode cX3_bits 31 = .ok (.lreturn, 1) := by decide +kernel
set_option maxRecDepth 20000 in
theorem ggX3_orders_X3_isAxis : GoodIn wsX3_orders wsX3_isAxis := goodIn_r _ [6, 7, 60, 61, 62] (by decide +kernel) (by decide +kernel)
set_option maxRecDepth 20000 in
theorem gX3_orders_X3_isAxis : GoodIn wsX3_orders (wsV RX3 81 RX3 yX3_isAxis wsX3_isAxis) := goodIn_app (goodIn_of _ (by decide +kernel)) ggX3_orders_X3_isAxis
set_option maxRecDepth 20000 in
theorem ggX3_orders_X3_does : GoodIn wsX3_orders wsX3_does := goodIn_r _ [11, 12, 13, 14, 5, 15, 16, 17, 18, 19, 20, 21, 22, 23, 24, 25, 26, 27, 28, 29, 30, 31, 32, 33, 34, 35, 36, 37, 38, 39, 40, 41, 42, 43, 44, 45, 46, 47, 48, 49, 50, 51, 52, 53, 54, 55, 56, 57, 58, 59, 60, 61, 62] (by decide +kernel) (by decide +kernel)
set_option maxRecDepth 20000 in
theorem gX3_orders_X3_does : GoodIn wsX3_orders (wsV RX3 84 RX3 yX3_does wsX3_does) := goodIn_app (goodIn_of _ (by decide +kernel)) ggX3_orders_X3_does
theorem dX3_orders_0 : decode cX3_orders 0 = .ok (.aload_n 0, 1) := by decide +kernel
theorem dX3_orders_1 : decode cX3_orders 1 = .ok (.iload_n 1, 1) := by decide +kernel
theorem dX3_orders_2 : decode cX3_orders 2 = .ok (.invokevirtual 81, 3) := by decide +kernel
theorem dX3_orders_5 : decode cX3_orders 5 = .ok (.ifCond .ne 5, 3) := by decide +kernel
theorem dX3_orders_8 : decode cX3_orders 8 = .ok (.iconst (-1), 1) := by decide +kernel
theorem dX3_orders_9 : decode cX3_orders 9 = .ok (.ireturn, 1) := by decide +kernel
theorem dX3_orders_10 : decode cX3_orders 10 = .ok (.iconst 0, 1) := by decide +kernel
theorem dX3_orders_11 : decode cX3_orders 11 = .ok (.istore_n 3, 1) := by decide +kernel
theorem dX3_orders_12 : decode cX3_orders 12 = .ok (.iload_n 3, 1) := by decide +kernel
theorem dX3_orders_13 : decode cX3_orders 13 = .ok (.bipush 8, 2) := by decide +kernel
theorem dX3_orders_15 : decode cX3_orders 15 = .ok (.if_icmp .ge 35, 3) := by decide +kernel
theorem dX3_orders_18 : decode cX3_orders 18 = .ok (.iload_n 2, 1) := by decide +kernel
theorem dX3_orders_19 : decode cX3_orders 19 = .ok (.iconst 4, 1) := by decide +kernel
theorem dX3_orders_20 : decode cX3_orders 20 = .ok (.iload_n 3, 1) := by decide +kernel
theorem dX3_orders_21 : decode cX3_orders 21 = .ok (.imul, 1) := by decide +kernel
theorem dX3_orders_22 : decode cX3_orders 22 = .ok (.iushr, 1) := by decide +kernel
theorem dX3_orders_23 : decode cX3_orders 23 = .ok (.bipush 15, 2) := by decide +kernel
theorem dX3_orders_25 : decode cX3_orders 25 = .ok (.iand, 1) := by decide +kernel
theorem dX3_orders_26 : decode cX3_orders 26 = .ok (.ifCond .eq 24, 3) := by decide +kernel
theorem dX3_orders_29 : decode cX3_orders 29 = .ok (.iload_n 2, 1) := by decide +kernel
theorem dX3_orders_30 : decode cX3_orders 30 = .ok (.iconst 4, 1) := by decide +kernel
theorem dX3_orders_31 : decode cX3_orders 31 = .ok (.iload_n 3, 1) := by decide +kernel
theorem dX3_orders_32 : decode cX3_orders 32 = .ok (.imul, 1) := by decide +kernel
theorem dX3_orders_33 : decode cX3_orders 33 = .ok (.iushr, 1) := by decide +kernel
theorem dX3_orders_34 : decode cX3_orders 34 = .ok (.bipush 15, 2) := by decide +kernel
theorem dX3_orders_36 : decode cX3_orders 36 = .ok (.iand, 1) := by decide +kernel
theorem dX3_orders_37 : decode cX3_orders 37 = .ok (.bipush 13, 2) := by decide +kernel
theorem dX3_orders_39 : decode cX3_orders 39 = .ok (.if_icmp .le 5, 3) := by decide +kernel
theorem dX3_orders_42 : decode cX3_orders 42 = .ok (.iconst (-1), 1) := by decide +kernel
theorem dX3_orders_43 : decode cX3_orders 43 = .ok (.ireturn, 1) := by decide +kernel
theorem dX3_orders_44 : decode cX3_orders 44 = .ok (.iinc 3 1, 3) := by decide +kernel
theorem dX3_orders_47 : decode cX3_orders 47 = .ok (.goto (-35), 3) := by decide +kernel
theorem dX3_orders_50 : decode cX3_orders 50 = .ok (.iconst 0, 1) := by decide +kernel
theorem dX3_orders_51 : decode cX3_orders 51 = .ok (.istore 4, 2) := by decide +kernel
theorem dX3_orders_53 : decode cX3_orders 53 = .ok (.iload 4, 2) := by decide +kernel
theorem dX3_orders_55 : decode cX3_orders 55 = .ok (.iload_n 3, 1) := by decide +kernel
theorem dX3_orders_56 : decode cX3_orders 56 = .ok (.if_icmp .ge 31, 3) := by decide +kernel
theorem dX3_orders_59 : decode cX3_orders 59 = .ok (.aload_n 0, 1) := by decide +kernel
theorem dX3_orders_60 : decode cX3_orders 60 = .ok (.aload_n 0, 1) := by decide +kernel
theorem dX3_orders_61 : decode cX3_orders 61 = .ok (.getfield 7, 3) := by decide +kernel
theorem dX3_orders_64 : decode cX3_orders 64 = .ok (.iload_n 1, 1) := by decide +kernel
theorem dX3_orders_65 : decode cX3_orders 65 = .ok (.iaload, 1) := by decide +kernel
theorem dX3_orders_66 : decode cX3_orders 66 = .ok (.iconst 5, 1) := by decide +kernel
theorem dX3_orders_67 : decode cX3_orders 67 = .ok (.iload_n 1, 1) := by decide +kernel
theorem dX3_orders_68 : decode cX3_orders 68 = .ok (.imul, 1) := by decide +kernel
theorem dX3_orders_69 : decode cX3_orders 69 = .ok (.iload_n 2, 1) := by decide +kernel
theorem dX3_orders_70 : decode cX3_orders 70 = .ok (.iconst 4, 1) := by decide +kernel
theorem dX3_orders_71 : decode cX3_orders 71 = .ok (.iload 4, 2) := by decide +kernel
theorem dX3_orders_73 : decode cX3_orders 73 = .ok (.imul, 1) := by decide +kernel
theorem dX3_orders_74 : decode cX3_orders 74 = .ok (.iushr, 1) := by decide +kernel
theorem dX3_orders_75 : decode cX3_orders 75 = .ok (.bipush 15, 2) := by decide +kernel
theorem dX3_orders_77 : decode cX3_orders 77 = .ok (.iand, 1) := by decide +kernel
theorem dX3_orders_78 : decode cX3_orders 78 = .ok (.invokevirtual 84, 3) := by decide +kernel
theorem dX3_orders_81 : decode cX3_orders 81 = .ok (.iinc 4 1, 3) := by decide +kernel
theorem dX3_orders_84 : decode cX3_orders 84 = .ok (.goto (-31), 3) := by decide +kernel
theorem dX3_orders_87 : decode cX3_orders 87 = .ok (.iload_n 3, 1) := by decide +kernel
theorem dX3_orders_88 : decode cX3_orders 88 = .ok (.ireturn, 1) := by decide +kernel
set_option maxRecDepth 20000 in
theorem ggX3_does_X3_lesser : GoodIn wsX3_does wsX3_lesser := goodIn_r _ [5, 6, 7, 4, 8, 9, 10, 11, 12, 13, 14, 15, 16, 17, 18, 19, 20] (by decide +kernel) (by decide +kernel)
set_option maxRecDepth 20000 in
theorem gX3_does_X3_lesser : GoodIn wsX3_does (va_wsS RX3 88 yX3_lesser wsX3_lesser) := goodIn_app (goodIn_of _ (by decide +kernel)) ggX3_does_X3_lesser
set_option maxRecDepth 20000 in
theorem ggX3_does_X3_greater : GoodIn wsX3_does wsX3_greater := goodIn_r _ [23, 6, 7, 4, 8, 9, 10, 11, 12, 13, 14, 15, 16, 17, 18, 19, 20] (by decide +kernel) (by decide +kernel)
set_option maxRecDepth 20000 in
theorem gX3_does_X3_greater : GoodIn wsX3_does (va_wsS RX3 92 yX3_greater wsX3_greater) := goodIn_app (goodIn_of _ (by decide +kernel)) ggX3_does_X3_greater
set_option maxRecDepth 20000 in
theorem ggX3_does_X3_sized : GoodIn wsX3_does wsX3_sized := goodIn_r _ [26, 13, 14, 4, 15, 16, 17, 18, 19, 20] (by decide +kernel) (by decide +kernel)
set_option maxRecDepth 20000 in
theorem gX3_does_X3_sized : GoodIn wsX3_does (va_wsS RX3 95 yX3_sized wsX3_sized) := goodIn_app (goodIn_of _ (by decide +kernel)) ggX3_does_X3_sized
set_option maxRecDepth 20000 in
theorem ggX3_does_X3_stepped : GoodIn wsX3_does wsX3_stepped := goodIn_r _ [29, 30, 13, 14, 4, 15, 31, 32, 33, 16, 17, 18, 19, 20, 34, 35, 36, 37, 38, 39, 40, 41, 42, 43] (by decide +kernel) (by decide +kernel)
set_option maxRecDepth 20000 in
theorem gX3_does_X3_stepped : GoodIn wsX3_does (va_wsS RX3 98 yX3_stepped wsX3_stepped) := goodIn_app (goodIn_of _ (by decide +kernel)) ggX3_does_X3_stepped
set_option maxRecDepth 20000 in
theorem ggX3_does_X3_wayOf : GoodIn wsX3_does wsX3_wayOf := goodIn_r _ [46, 12, 13, 14, 4, 15, 16, 17, 18, 19, 20, 34, 35, 36, 37, 38, 39, 40, 41, 42, 43] (by decide +kernel) (by decide +kernel)
set_option maxRecDepth 20000 in
theorem gX3_does_X3_wayOf : GoodIn wsX3_does (va_wsS RX3 102 yX3_wayOf wsX3_wayOf) := goodIn_app (goodIn_of _ (by decide +kernel)) ggX3_does_X3_wayOf
set_option maxRecDepth 20000 in
theorem ggX3_does_X3_turned : GoodIn wsX3_does wsX3_turned := goodIn_r _ [49, 13, 14, 4, 15, 16, 17, 18, 19, 20, 39, 40, 41, 42, 43, 24, 25, 26] (by decide +kernel) (by decide +kernel)
set_option maxRecDepth 20000 in
theorem gX3_does_X3_turned : GoodIn wsX3_does (va_wsS RX3 105 yX3_turned wsX3_turned) := goodIn_app (goodIn_of _ (by decide +kernel)) ggX3_does_X3_turned
set_option maxRecDepth 20000 in
theorem ggX3_does_X3_isFloating : GoodIn wsX3_does wsX3_isFloating := goodIn_r _ [15] (by decide +kernel) (by decide +kernel)
set_option maxRecDepth 20000 in
theorem gX3_does_X3_isFloating : GoodIn wsX3_does (va_wsS RX3 37 yX3_isFloating wsX3_isFloating) := goodIn_app (goodIn_of _ (by decide +kernel)) ggX3_does_X3_isFloating
set_option maxRecDepth 20000 in
theorem ggX3_does_X3_signed : GoodIn wsX3_does wsX3_signed := goodIn_r _ [41, 42, 43] (by decide +kernel) (by decide +kernel)
set_option maxRecDepth 20000 in
theorem gX3_does_X3_signed : GoodIn wsX3_does (va_wsS RX3 62 yX3_signed wsX3_signed) := goodIn_app (goodIn_of _ (by decide +kernel)) ggX3_does_X3_signed
theorem dX3_does_0 : decode cX3_does 0 = .ok (.aload_n 0, 1) := by decide +kernel
theorem dX3_does_1 : decode cX3_does 1 = .ok (.getfield 13, 3) := by decide +kernel
theorem dX3_does_4 : decode cX3_does 4 = .ok (.iload_n 2, 1) := by decide +kernel
theorem dX3_does_5 : decode cX3_does 5 = .ok (.iconst 0, 1) := by decide +kernel
theorem dX3_does_6 : decode cX3_does 6 = .ok (.iadd, 1) := by decide +kernel
theorem dX3_does_7 : decode cX3_does 7 = .ok (.laload, 1) := by decide +kernel
theorem dX3_does_8 : decode cX3_does 8 = .ok (.lstore 4, 2) := by decide +kernel
theorem dX3_does_10 : decode cX3_does 10 = .ok (.aload_n 0, 1) := by decide +kernel
theorem dX3_does_11 : decode cX3_does 11 = .ok (.getfield 13, 3) := by decide +kernel
theorem dX3_does_14 : decode cX3_does 14 = .ok (.iload_n 2, 1) := by decide +kernel
theorem dX3_does_15 : decode cX3_does 15 = .ok (.iconst 1, 1) := by decide +kernel
theorem dX3_does_16 : decode cX3_does 16 = .ok (.iadd, 1) := by decide +kernel
theorem dX3_does_17 : decode cX3_does 17 = .ok (.laload, 1) := by decide +kernel
theorem dX3_does_18 : decode cX3_does 18 = .ok (.lstore 6, 2) := by decide +kernel
theorem dX3_does_20 : decode cX3_does 20 = .ok (.aload_n 0, 1) := by decide +kernel
theorem dX3_does_21 : decode cX3_does 21 = .ok (.getfield 13, 3) := by decide +kernel
theorem dX3_does_24 : decode cX3_does 24 = .ok (.iload_n 2, 1) := by decide +kernel
theorem dX3_does_25 : decode cX3_does 25 = .ok (.iconst 2, 1) := by decide +kernel
theorem dX3_does_26 : decode cX3_does 26 = .ok (.iadd, 1) := by decide +kernel
theorem dX3_does_27 : decode cX3_does 27 = .ok (.laload, 1) := by decide +kernel
theorem dX3_does_28 : decode cX3_does 28 = .ok (.lstore 8, 2) := by decide +kernel
theorem dX3_does_30 : decode cX3_does 30 = .ok (.iload_n 3, 1) := by decide +kernel
theorem dX3_does_31 : decode cX3_does 31 = .ok (.tableswitch 364 1 12 #[61, 86, 103, 121, 139, 157, 174, 199, 234, 295, 328, 351], 61) := by decide +kernel
theorem dX3_does_92 : decode cX3_does 92 = .ok (.aload_n 0, 1) := by decide +kernel
theorem dX3_does_93 : decode cX3_does 93 = .ok (.getfield 13, 3) := by decide +kernel
theorem dX3_does_96 : decode cX3_does 96 = .ok (.iload_n 2, 1) := by decide +kernel
theorem dX3_does_97 : decode cX3_does 97 = .ok (.iconst 0, 1) := by decide +kernel
theorem dX3_does_98 : decode cX3_does 98 = .ok (.iadd, 1) := by decide +kernel
theorem dX3_does_99 : decode cX3_does 99 = .ok (.iload_n 1, 1) := by decide +kernel
theorem dX3_does_100 : decode cX3_does 100 = .ok (.lload 6, 2) := by decide +kernel
theorem dX3_does_102 : decode cX3_does 102 = .ok (.iload_n 1, 1) := by decide +kernel
theorem dX3_does_103 : decode cX3_does 103 = .ok (.lload 8, 2) := by decide +kernel
theorem dX3_does_105 : decode cX3_does 105 = .ok (.lload 4, 2) := by decide +kernel
theorem dX3_does_107 : decode cX3_does 107 = .ok (.invokestatic 88, 3) := by decide +kernel
theorem dX3_does_110 : decode cX3_does 110 = .ok (.invokestatic 92, 3) := by decide +kernel
theorem dX3_does_113 : decode cX3_does 113 = .ok (.lastore, 1) := by decide +kernel
theorem dX3_does_114 : decode cX3_does 114 = .ok (.goto 291, 3) := by decide +kernel
theorem dX3_does_117 : decode cX3_does 117 = .ok (.aload_n 0, 1) := by decide +kernel
theorem dX3_does_118 : decode cX3_does 118 = .ok (.getfield 13, 3) := by decide +kernel
end
section
theorem dX3_does_121 : decode cX3_does 121 = .ok (.iload_n 2, 1) := by decide +kernel
theorem dX3_does_122 : decode cX3_does 122 = .ok (.iconst 0, 1) := by decide +kernel
theorem dX3_does_123 : decode cX3_does 123 = .ok (.iadd, 1) := by decide +kernel
theorem dX3_does_124 : decode cX3_does 124 = .ok (.iload_n 1, 1) := by decide +kernel
theorem dX3_does_125 : decode cX3_does 125 = .ok (.lload 4, 2) := by decide +kernel
theorem dX3_does_127 : decode cX3_does 127 = .ok (.invokestatic 95, 3) := by decide +kernel
theorem dX3_does_130 : decode cX3_does 130 = .ok (.lastore, 1) := by decide +kernel
theorem dX3_does_131 : decode cX3_does 131 = .ok (.goto 274, 3) := by decide +kernel
theorem dX3_does_134 : decode cX3_does 134 = .ok (.aload_n 0, 1) := by decide +kernel
theorem dX3_does_135 : decode cX3_does 135 = .ok (.getfield 13, 3) := by decide +kernel
theorem dX3_does_138 : decode cX3_does 138 = .ok (.iload_n 2, 1) := by decide +kernel
theorem dX3_does_139 : decode cX3_does 139 = .ok (.iconst 0, 1) := by decide +kernel
theorem dX3_does_140 : decode cX3_does 140 = .ok (.iadd, 1) := by decide +kernel
theorem dX3_does_141 : decode cX3_does 141 = .ok (.iload_n 1, 1) := by decide +kernel
theorem dX3_does_142 : decode cX3_does 142 = .ok (.lload 4, 2) := by decide +kernel
theorem dX3_does_144 : decode cX3_does 144 = .ok (.iconst 0, 1) := by decide +kernel
theorem dX3_does_145 : decode cX3_does 145 = .ok (.invokestatic 98, 3) := by decide +kernel
theorem dX3_does_148 : decode cX3_does 148 = .ok (.lastore, 1) := by decide +kernel
theorem dX3_does_149 : decode cX3_does 149 = .ok (.goto 256, 3) := by decide +kernel
theorem dX3_does_152 : decode cX3_does 152 = .ok (.aload_n 0, 1) := by decide +kernel
theorem dX3_does_153 : decode cX3_does 153 = .ok (.getfield 13, 3) := by decide +kernel
theorem dX3_does_156 : decode cX3_does 156 = .ok (.iload_n 2, 1) := by decide +kernel
theorem dX3_does_157 : decode cX3_does 157 = .ok (.iconst 0, 1) := by decide +kernel
theorem dX3_does_158 : decode cX3_does 158 = .ok (.iadd, 1) := by decide +kernel
theorem dX3_does_159 : decode cX3_does 159 = .ok (.iload_n 1, 1) := by decide +kernel
theorem dX3_does_160 : decode cX3_does 160 = .ok (.lload 4, 2) := by decide +kernel
theorem dX3_does_162 : decode cX3_does 162 = .ok (.iconst 1, 1) := by decide +kernel
theorem dX3_does_163 : decode cX3_does 163 = .ok (.invokestatic 98, 3) := by decide +kernel
theorem dX3_does_166 : decode cX3_does 166 = .ok (.lastore, 1) := by decide +kernel
theorem dX3_does_167 : decode cX3_does 167 = .ok (.goto 238, 3) := by decide +kernel
theorem dX3_does_170 : decode cX3_does 170 = .ok (.aload_n 0, 1) := by decide +kernel
theorem dX3_does_171 : decode cX3_does 171 = .ok (.getfield 13, 3) := by decide +kernel
theorem dX3_does_174 : decode cX3_does 174 = .ok (.iload_n 2, 1) := by decide +kernel
theorem dX3_does_175 : decode cX3_does 175 = .ok (.iconst 0, 1) := by decide +kernel
theorem dX3_does_176 : decode cX3_does 176 = .ok (.iadd, 1) := by decide +kernel
theorem dX3_does_177 : decode cX3_does 177 = .ok (.iload_n 1, 1) := by decide +kernel
theorem dX3_does_178 : decode cX3_does 178 = .ok (.lload 4, 2) := by decide +kernel
theorem dX3_does_180 : decode cX3_does 180 = .ok (.iconst 2, 1) := by decide +kernel
theorem dX3_does_181 : decode cX3_does 181 = .ok (.invokestatic 98, 3) := by decide +kernel
theorem dX3_does_184 : decode cX3_does 184 = .ok (.lastore, 1) := by decide +kernel
theorem dX3_does_185 : decode cX3_does 185 = .ok (.goto 220, 3) := by decide +kernel
theorem dX3_does_188 : decode cX3_does 188 = .ok (.aload_n 0, 1) := by decide +kernel
theorem dX3_does_189 : decode cX3_does 189 = .ok (.getfield 13, 3) := by decide +kernel
theorem dX3_does_192 : decode cX3_does 192 = .ok (.iload_n 2, 1) := by decide +kernel
theorem dX3_does_193 : decode cX3_does 193 = .ok (.iconst 4, 1) := by decide +kernel
theorem dX3_does_194 : decode cX3_does 194 = .ok (.iadd, 1) := by decide +kernel
theorem dX3_does_195 : decode cX3_does 195 = .ok (.iload_n 1, 1) := by decide +kernel
theorem dX3_does_196 : decode cX3_does 196 = .ok (.lload 4, 2) := by decide +kernel
theorem dX3_does_198 : decode cX3_does 198 = .ok (.invokestatic 102, 3) := by decide +kernel
theorem dX3_does_201 : decode cX3_does 201 = .ok (.lastore, 1) := by decide +kernel
theorem dX3_does_202 : decode cX3_does 202 = .ok (.goto 203, 3) := by decide +kernel
theorem dX3_does_205 : decode cX3_does 205 = .ok (.aload_n 0, 1) := by decide +kernel
theorem dX3_does_206 : decode cX3_does 206 = .ok (.getfield 13, 3) := by decide +kernel
theorem dX3_does_209 : decode cX3_does 209 = .ok (.iload_n 2, 1) := by decide +kernel
theorem dX3_does_210 : decode cX3_does 210 = .ok (.iconst 0, 1) := by decide +kernel
theorem dX3_does_211 : decode cX3_does 211 = .ok (.iadd, 1) := by decide +kernel
theorem dX3_does_212 : decode cX3_does 212 = .ok (.iload_n 1, 1) := by decide +kernel
theorem dX3_does_213 : decode cX3_does 213 = .ok (.lload 4, 2) := by decide +kernel
theorem dX3_does_215 : decode cX3_does 215 = .ok (.aload_n 0, 1) := by decide +kernel
theorem dX3_does_216 : decode cX3_does 216 = .ok (.getfield 13, 3) := by decide +kernel
theorem dX3_does_219 : decode cX3_does 219 = .ok (.iload_n 2, 1) := by decide +kernel
theorem dX3_does_220 : decode cX3_does 220 = .ok (.iconst 4, 1) := by decide +kernel
theorem dX3_does_221 : decode cX3_does 221 = .ok (.iadd, 1) := by decide +kernel
theorem dX3_does_222 : decode cX3_does 222 = .ok (.laload, 1) := by decide +kernel
theorem dX3_does_223 : decode cX3_does 223 = .ok (.invokestatic 105, 3) := by decide +kernel
theorem dX3_does_226 : decode cX3_does 226 = .ok (.lastore, 1) := by decide +kernel
theorem dX3_does_227 : decode cX3_does 227 = .ok (.goto 178, 3) := by decide +kernel
theorem dX3_does_230 : decode cX3_does 230 = .ok (.aload_n 0, 1) := by decide +kernel
theorem dX3_does_231 : decode cX3_does 231 = .ok (.getfield 13, 3) := by decide +kernel
theorem dX3_does_234 : decode cX3_does 234 = .ok (.iload_n 2, 1) := by decide +kernel
theorem dX3_does_235 : decode cX3_does 235 = .ok (.iconst 2, 1) := by decide +kernel
theorem dX3_does_236 : decode cX3_does 236 = .ok (.iadd, 1) := by decide +kernel
theorem dX3_does_237 : decode cX3_does 237 = .ok (.iload_n 1, 1) := by decide +kernel
theorem dX3_does_238 : decode cX3_does 238 = .ok (.lload 8, 2) := by decide +kernel
theorem dX3_does_240 : decode cX3_does 240 = .ok (.lload 4, 2) := by decide +kernel
theorem dX3_does_242 : decode cX3_does 242 = .ok (.invokestatic 92, 3) := by decide +kernel
theorem dX3_does_245 : decode cX3_does 245 = .ok (.lastore, 1) := by decide +kernel
theorem dX3_does_246 : decode cX3_does 246 = .ok (.aload_n 0, 1) := by decide +kernel
theorem dX3_does_247 : decode cX3_does 247 = .ok (.getfield 13, 3) := by decide +kernel
theorem dX3_does_250 : decode cX3_does 250 = .ok (.iload_n 2, 1) := by decide +kernel
theorem dX3_does_251 : decode cX3_does 251 = .ok (.iconst 1, 1) := by decide +kernel
theorem dX3_does_252 : decode cX3_does 252 = .ok (.iadd, 1) := by decide +kernel
theorem dX3_does_253 : decode cX3_does 253 = .ok (.iload_n 1, 1) := by decide +kernel
theorem dX3_does_254 : decode cX3_does 254 = .ok (.lload 6, 2) := by decide +kernel
theorem dX3_does_256 : decode cX3_does 256 = .ok (.lload 4, 2) := by decide +kernel
theorem dX3_does_258 : decode cX3_does 258 = .ok (.invokestatic 88, 3) := by decide +kernel
theorem dX3_does_261 : decode cX3_does 261 = .ok (.lastore, 1) := by decide +kernel
theorem dX3_does_262 : decode cX3_does 262 = .ok (.goto 143, 3) := by decide +kernel
theorem dX3_does_265 : decode cX3_does 265 = .ok (.iload_n 1, 1) := by decide +kernel
theorem dX3_does_266 : decode cX3_does 266 = .ok (.lload 4, 2) := by decide +kernel
theorem dX3_does_268 : decode cX3_does 268 = .ok (.invokestatic 95, 3) := by decide +kernel
theorem dX3_does_271 : decode cX3_does 271 = .ok (.iload_n 1, 1) := by decide +kernel
theorem dX3_does_272 : decode cX3_does 272 = .ok (.aload_n 0, 1) := by decide +kernel
theorem dX3_does_273 : decode cX3_does 273 = .ok (.getfield 13, 3) := by decide +kernel
theorem dX3_does_276 : decode cX3_does 276 = .ok (.iload_n 2, 1) := by decide +kernel
theorem dX3_does_277 : decode cX3_does 277 = .ok (.iconst 3, 1) := by decide +kernel
theorem dX3_does_278 : decode cX3_does 278 = .ok (.iadd, 1) := by decide +kernel
theorem dX3_does_279 : decode cX3_does 279 = .ok (.laload, 1) := by decide +kernel
theorem dX3_does_280 : decode cX3_does 280 = .ok (.invokestatic 95, 3) := by decide +kernel
theorem dX3_does_283 : decode cX3_does 283 = .ok (.lcmp, 1) := by decide +kernel
theorem dX3_does_284 : decode cX3_does 284 = .ok (.ifCond .gt 121, 3) := by decide +kernel
theorem dX3_does_287 : decode cX3_does 287 = .ok (.aload_n 0, 1) := by decide +kernel
theorem dX3_does_288 : decode cX3_does 288 = .ok (.getfield 13, 3) := by decide +kernel
theorem dX3_does_291 : decode cX3_does 291 = .ok (.iload_n 2, 1) := by decide +kernel
theorem dX3_does_292 : decode cX3_does 292 = .ok (.iconst 0, 1) := by decide +kernel
theorem dX3_does_293 : decode cX3_does 293 = .ok (.iadd, 1) := by decide +kernel
theorem dX3_does_294 : decode cX3_does 294 = .ok (.iload_n 1, 1) := by decide +kernel
theorem dX3_does_295 : decode cX3_does 295 = .ok (.invokestatic 37, 3) := by decide +kernel
theorem dX3_does_298 : decode cX3_does 298 = .ok (.ifCond .eq 23, 3) := by decide +kernel
theorem dX3_does_301 : decode cX3_does 301 = .ok (.iload_n 1, 1) := by decide +kernel
theorem dX3_does_302 : decode cX3_does 302 = .ok (.lconst 0, 1) := by decide +kernel
theorem dX3_does_303 : decode cX3_does 303 = .ok (.lload 4, 2) := by decide +kernel
theorem dX3_does_305 : decode cX3_does 305 = .ok (.lconst 0, 1) := by decide +kernel
theorem dX3_does_306 : decode cX3_does 306 = .ok (.lcmp, 1) := by decide +kernel
theorem dX3_does_307 : decode cX3_does 307 = .ok (.ifCond .ge 7, 3) := by decide +kernel
theorem dX3_does_310 : decode cX3_does 310 = .ok (.iconst 1, 1) := by decide +kernel
theorem dX3_does_311 : decode cX3_does 311 = .ok (.goto 4, 3) := by decide +kernel
theorem dX3_does_314 : decode cX3_does 314 = .ok (.iconst 0, 1) := by decide +kernel
theorem dX3_does_315 : decode cX3_does 315 = .ok (.invokestatic 62, 3) := by decide +kernel
theorem dX3_does_318 : decode cX3_does 318 = .ok (.goto 4, 3) := by decide +kernel
theorem dX3_does_321 : decode cX3_does 321 = .ok (.lconst 0, 1) := by decide +kernel
theorem dX3_does_322 : decode cX3_does 322 = .ok (.lastore, 1) := by decide +kernel
theorem dX3_does_323 : decode cX3_does 323 = .ok (.goto 82, 3) := by decide +kernel
theorem dX3_does_326 : decode cX3_does 326 = .ok (.aload_n 0, 1) := by decide +kernel
theorem dX3_does_327 : decode cX3_does 327 = .ok (.getfield 13, 3) := by decide +kernel
theorem dX3_does_330 : decode cX3_does 330 = .ok (.iload_n 2, 1) := by decide +kernel
theorem dX3_does_331 : decode cX3_does 331 = .ok (.iconst 1, 1) := by decide +kernel
theorem dX3_does_332 : decode cX3_does 332 = .ok (.iadd, 1) := by decide +kernel
theorem dX3_does_333 : decode cX3_does 333 = .ok (.iload_n 1, 1) := by decide +kernel
theorem dX3_does_334 : decode cX3_does 334 = .ok (.lload 4, 2) := by decide +kernel
theorem dX3_does_336 : decode cX3_does 336 = .ok (.iconst 0, 1) := by decide +kernel
theorem dX3_does_337 : decode cX3_does 337 = .ok (.invokestatic 98, 3) := by decide +kernel
theorem dX3_does_340 : decode cX3_does 340 = .ok (.lastore, 1) := by decide +kernel
theorem dX3_does_341 : decode cX3_does 341 = .ok (.aload_n 0, 1) := by decide +kernel
theorem dX3_does_342 : decode cX3_does 342 = .ok (.getfield 13, 3) := by decide +kernel
theorem dX3_does_345 : decode cX3_does 345 = .ok (.iload_n 2, 1) := by decide +kernel
theorem dX3_does_346 : decode cX3_does 346 = .ok (.iconst 2, 1) := by decide +kernel
theorem dX3_does_347 : decode cX3_does 347 = .ok (.iadd, 1) := by decide +kernel
theorem dX3_does_348 : decode cX3_does 348 = .ok (.iload_n 1, 1) := by decide +kernel
theorem dX3_does_349 : decode cX3_does 349 = .ok (.lload 4, 2) := by decide +kernel
theorem dX3_does_351 : decode cX3_does 351 = .ok (.iconst 1, 1) := by decide +kernel
theorem dX3_does_352 : decode cX3_does 352 = .ok (.invokestatic 98, 3) := by decide +kernel
theorem dX3_does_355 : decode cX3_does 355 = .ok (.lastore, 1) := by decide +kernel
theorem dX3_does_356 : decode cX3_does 356 = .ok (.goto 49, 3) := by decide +kernel
theorem dX3_does_359 : decode cX3_does 359 = .ok (.aload_n 0, 1) := by decide +kernel
theorem dX3_does_360 : decode cX3_does 360 = .ok (.getfield 13, 3) := by decide +kernel
theorem dX3_does_363 : decode cX3_does 363 = .ok (.iload_n 2, 1) := by decide +kernel
theorem dX3_does_364 : decode cX3_does 364 = .ok (.iconst 1, 1) := by decide +kernel
theorem dX3_does_365 : decode cX3_does 365 = .ok (.iadd, 1) := by decide +kernel
theorem dX3_does_366 : decode cX3_does 366 = .ok (.lload 8, 2) := by decide +kernel
theorem dX3_does_368 : decode cX3_does 368 = .ok (.lastore, 1) := by decide +kernel
theorem dX3_does_369 : decode cX3_does 369 = .ok (.aload_n 0, 1) := by decide +kernel
theorem dX3_does_370 : decode cX3_does 370 = .ok (.getfield 13, 3) := by decide +kernel
theorem dX3_does_373 : decode cX3_does 373 = .ok (.iload_n 2, 1) := by decide +kernel
theorem dX3_does_374 : decode cX3_does 374 = .ok (.iconst 2, 1) := by decide +kernel
theorem dX3_does_375 : decode cX3_does 375 = .ok (.iadd, 1) := by decide +kernel
theorem dX3_does_376 : decode cX3_does 376 = .ok (.lload 6, 2) := by decide +kernel
theorem dX3_does_378 : decode cX3_does 378 = .ok (.lastore, 1) := by decide +kernel
theorem dX3_does_379 : decode cX3_does 379 = .ok (.goto 26, 3) := by decide +kernel
theorem dX3_does_382 : decode cX3_does 382 = .ok (.aload_n 0, 1) := by decide +kernel
theorem dX3_does_383 : decode cX3_does 383 = .ok (.getfield 13, 3) := by decide +kernel
theorem dX3_does_386 : decode cX3_does 386 = .ok (.iload_n 2, 1) := by decide +kernel
theorem dX3_does_387 : decode cX3_does 387 = .ok (.iconst 0, 1) := by decide +kernel
theorem dX3_does_388 : decode cX3_does 388 = .ok (.iadd, 1) := by decide +kernel
theorem dX3_does_389 : decode cX3_does 389 = .ok (.lload 6, 2) := by decide +kernel
theorem dX3_does_391 : decode cX3_does 391 = .ok (.lastore, 1) := by decide +kernel
theorem dX3_does_392 : decode cX3_does 392 = .ok (.goto 13, 3) := by decide +kernel
theorem dX3_does_395 : decode cX3_does 395 = .ok (.aload_n 0, 1) := by decide +kernel
theorem dX3_does_396 : decode cX3_does 396 = .ok (.getfield 13, 3) := by decide +kernel
theorem dX3_does_399 : decode cX3_does 399 = .ok (.iload_n 2, 1) := by decide +kernel
theorem dX3_does_400 : decode cX3_does 400 = .ok (.iconst 0, 1) := by decide +kernel
theorem dX3_does_401 : decode cX3_does 401 = .ok (.iadd, 1) := by decide +kernel
theorem dX3_does_402 : decode cX3_does 402 = .ok (.lload 8, 2) := by decide +kernel
theorem dX3_does_404 : decode cX3_does 404 = .ok (.lastore, 1) := by decide +kernel
theorem dX3_does_405 : decode cX3_does 405 = .ok (.return_, 1) := by decide +kernel
set_option maxRecDepth 20000 in
theorem ggX3_wayOf_X3_isFloating : GoodIn wsX3_wayOf wsX3_isFloating := goodIn_r _ [5] (by decide +kernel) (by decide +kernel)
set_option maxRecDepth 20000 in
theorem gX3_wayOf_X3_isFloating : GoodIn wsX3_wayOf (va_wsS RX3 37 yX3_isFloating wsX3_isFloating) := goodIn_app (goodIn_of _ (by decide +kernel)) ggX3_wayOf_X3_isFloating
set_option maxRecDepth 20000 in
theorem ggX3_wayOf_X3_size : GoodIn wsX3_wayOf wsX3_size := goodIn_r _ [8, 9, 10] (by decide +kernel) (by decide +kernel)
set_option maxRecDepth 20000 in
theorem gX3_wayOf_X3_size : GoodIn wsX3_wayOf (va_wsS RX3 43 yX3_size wsX3_size) := goodIn_app (goodIn_of _ (by decide +kernel)) ggX3_wayOf_X3_size
set_option maxRecDepth 20000 in
theorem ggX3_wayOf_X3_one : GoodIn wsX3_wayOf wsX3_one := goodIn_r _ [13, 14, 15] (by decide +kernel) (by decide +kernel)
set_option maxRecDepth 20000 in
theorem gX3_wayOf_X3_one : GoodIn wsX3_wayOf (va_wsS RX3 58 yX3_one wsX3_one) := goodIn_app (goodIn_of _ (by decide +kernel)) ggX3_wayOf_X3_one
set_option maxRecDepth 20000 in
theorem ggX3_wayOf_X3_signed : GoodIn wsX3_wayOf wsX3_signed := goodIn_r _ [18, 19, 20] (by decide +kernel) (by decide +kernel)
set_option maxRecDepth 20000 in
theorem gX3_wayOf_X3_signed : GoodIn wsX3_wayOf (va_wsS RX3 62 yX3_signed wsX3_signed) := goodIn_app (goodIn_of _ (by decide +kernel)) ggX3_wayOf_X3_signed
theorem dX3_wayOf_0 : decode cX3_wayOf 0 = .ok (.iload_n 0, 1) := by decide +kernel
theorem dX3_wayOf_1 : decode cX3_wayOf 1 = .ok (.invokestatic 37, 3) := by decide +kernel
theorem dX3_wayOf_4 : decode cX3_wayOf 4 = .ok (.ifCond .ne 27, 3) := by decide +kernel
theorem dX3_wayOf_7 : decode cX3_wayOf 7 = .ok (.lload_n 1, 1) := by decide +kernel
theorem dX3_wayOf_8 : decode cX3_wayOf 8 = .ok (.lconst 0, 1) := by decide +kernel
theorem dX3_wayOf_9 : decode cX3_wayOf 9 = .ok (.lcmp, 1) := by decide +kernel
theorem dX3_wayOf_10 : decode cX3_wayOf 10 = .ok (.ifCond .le 7, 3) := by decide +kernel
theorem dX3_wayOf_13 : decode cX3_wayOf 13 = .ok (.lconst 1, 1) := by decide +kernel
theorem dX3_wayOf_14 : decode cX3_wayOf 14 = .ok (.goto 16, 3) := by decide +kernel
theorem dX3_wayOf_17 : decode cX3_wayOf 17 = .ok (.lload_n 1, 1) := by decide +kernel
theorem dX3_wayOf_18 : decode cX3_wayOf 18 = .ok (.lconst 0, 1) := by decide +kernel
theorem dX3_wayOf_19 : decode cX3_wayOf 19 = .ok (.lcmp, 1) := by decide +kernel
theorem dX3_wayOf_20 : decode cX3_wayOf 20 = .ok (.ifCond .ge 9, 3) := by decide +kernel
theorem dX3_wayOf_23 : decode cX3_wayOf 23 = .ok (.ldc2_w 41, 3) := by decide +kernel
theorem dX3_wayOf_26 : decode cX3_wayOf 26 = .ok (.goto 4, 3) := by decide +kernel
theorem dX3_wayOf_29 : decode cX3_wayOf 29 = .ok (.lconst 0, 1) := by decide +kernel
theorem dX3_wayOf_30 : decode cX3_wayOf 30 = .ok (.lreturn, 1) := by decide +kernel
theorem dX3_wayOf_31 : decode cX3_wayOf 31 = .ok (.iload_n 0, 1) := by decide +kernel
theorem dX3_wayOf_32 : decode cX3_wayOf 32 = .ok (.lload_n 1, 1) := by decide +kernel
theorem dX3_wayOf_33 : decode cX3_wayOf 33 = .ok (.invokestatic 43, 3) := by decide +kernel
theorem dX3_wayOf_36 : decode cX3_wayOf 36 = .ok (.lconst 0, 1) := by decide +kernel
theorem dX3_wayOf_37 : decode cX3_wayOf 37 = .ok (.lcmp, 1) := by decide +kernel
theorem dX3_wayOf_38 : decode cX3_wayOf 38 = .ok (.ifCond .ne 7, 3) := by decide +kernel
theorem dX3_wayOf_41 : decode cX3_wayOf 41 = .ok (.lload_n 1, 1) := by decide +kernel
theorem dX3_wayOf_42 : decode cX3_wayOf 42 = .ok (.goto 22, 3) := by decide +kernel
theorem dX3_wayOf_45 : decode cX3_wayOf 45 = .ok (.iload_n 0, 1) := by decide +kernel
theorem dX3_wayOf_46 : decode cX3_wayOf 46 = .ok (.iload_n 0, 1) := by decide +kernel
theorem dX3_wayOf_47 : decode cX3_wayOf 47 = .ok (.invokestatic 58, 3) := by decide +kernel
theorem dX3_wayOf_50 : decode cX3_wayOf 50 = .ok (.lload_n 1, 1) := by decide +kernel
theorem dX3_wayOf_51 : decode cX3_wayOf 51 = .ok (.lconst 0, 1) := by decide +kernel
theorem dX3_wayOf_52 : decode cX3_wayOf 52 = .ok (.lcmp, 1) := by decide +kernel
theorem dX3_wayOf_53 : decode cX3_wayOf 53 = .ok (.ifCond .ge 7, 3) := by decide +kernel
theorem dX3_wayOf_56 : decode cX3_wayOf 56 = .ok (.iconst 1, 1) := by decide +kernel
theorem dX3_wayOf_57 : decode cX3_wayOf 57 = .ok (.goto 4, 3) := by decide +kernel
theorem dX3_wayOf_60 : decode cX3_wayOf 60 = .ok (.iconst 0, 1) := by decide +kernel
theorem dX3_wayOf_61 : decode cX3_wayOf 61 = .ok (.invokestatic 62, 3) := by decide +kernel
theorem dX3_wayOf_64 : decode cX3_wayOf 64 = .ok (.lreturn, 1) := by decide +kernel
set_option maxRecDepth 20000 in
theorem ggX3_turned_X3_isFloating : GoodIn wsX3_turned wsX3_isFloating := goodIn_r _ [4] (by decide +kernel) (by decide +kernel)
set_option maxRecDepth 20000 in
theorem gX3_turned_X3_isFloating : GoodIn wsX3_turned (va_wsS RX3 37 yX3_isFloating wsX3_isFloating) := goodIn_app (goodIn_of _ (by decide +kernel)) ggX3_turned_X3_isFloating
set_option maxRecDepth 20000 in
theorem ggX3_turned_X3_size : GoodIn wsX3_turned wsX3_size := goodIn_r _ [7, 8, 9] (by decide +kernel) (by decide +kernel)
set_option maxRecDepth 20000 in
theorem gX3_turned_X3_size : GoodIn wsX3_turned (va_wsS RX3 43 yX3_size wsX3_size) := goodIn_app (goodIn_of _ (by decide +kernel)) ggX3_turned_X3_size
set_option maxRecDepth 20000 in
theorem ggX3_turned_X3_signed : GoodIn wsX3_turned wsX3_signed := goodIn_r _ [12, 13, 14] (by decide +kernel) (by decide +kernel)
set_option maxRecDepth 20000 in
theorem gX3_turned_X3_signed : GoodIn wsX3_turned (va_wsS RX3 62 yX3_signed wsX3_signed) := goodIn_app (goodIn_of _ (by decide +kernel)) ggX3_turned_X3_signed
set_option maxRecDepth 20000 in
theorem ggX3_turned_X3_sized : GoodIn wsX3_turned wsX3_sized := goodIn_r _ [17, 1, 2, 3, 4, 5, 6, 7, 8, 9] (by decide +kernel) (by decide +kernel)
set_option maxRecDepth 20000 in
theorem gX3_turned_X3_sized : GoodIn wsX3_turned (va_wsS RX3 95 yX3_sized wsX3_sized) := goodIn_app (goodIn_of _ (by decide +kernel)) ggX3_turned_X3_sized
theorem dX3_turned_0 : decode cX3_turned 0 = .ok (.iload_n 0, 1) := by decide +kernel
theorem dX3_turned_1 : decode cX3_turned 1 = .ok (.invokestatic 37, 3) := by decide +kernel
theorem dX3_turned_4 : decode cX3_turned 4 = .ok (.ifCond .eq 24, 3) := by decide +kernel
theorem dX3_turned_7 : decode cX3_turned 7 = .ok (.iload_n 0, 1) := by decide +kernel
theorem dX3_turned_8 : decode cX3_turned 8 = .ok (.iload_n 0, 1) := by decide +kernel
theorem dX3_turned_9 : decode cX3_turned 9 = .ok (.lload_n 1, 1) := by decide +kernel
theorem dX3_turned_10 : decode cX3_turned 10 = .ok (.invokestatic 43, 3) := by decide +kernel
theorem dX3_turned_13 : decode cX3_turned 13 = .ok (.lload_n 3, 1) := by decide +kernel
theorem dX3_turned_14 : decode cX3_turned 14 = .ok (.lconst 0, 1) := by decide +kernel
theorem dX3_turned_15 : decode cX3_turned 15 = .ok (.lcmp, 1) := by decide +kernel
theorem dX3_turned_16 : decode cX3_turned 16 = .ok (.ifCond .ge 7, 3) := by decide +kernel
theorem dX3_turned_19 : decode cX3_turned 19 = .ok (.iconst 1, 1) := by decide +kernel
theorem dX3_turned_20 : decode cX3_turned 20 = .ok (.goto 4, 3) := by decide +kernel
theorem dX3_turned_23 : decode cX3_turned 23 = .ok (.iconst 0, 1) := by decide +kernel
theorem dX3_turned_24 : decode cX3_turned 24 = .ok (.invokestatic 62, 3) := by decide +kernel
theorem dX3_turned_27 : decode cX3_turned 27 = .ok (.lreturn, 1) := by decide +kernel
theorem dX3_turned_28 : decode cX3_turned 28 = .ok (.iload_n 0, 1) := by decide +kernel
theorem dX3_turned_29 : decode cX3_turned 29 = .ok (.lload_n 1, 1) := by decide +kernel
theorem dX3_turned_30 : decode cX3_turned 30 = .ok (.invokestatic 95, 3) := by decide +kernel
theorem dX3_turned_33 : decode cX3_turned 33 = .ok (.lstore 5, 2) := by decide +kernel
theorem dX3_turned_35 : decode cX3_turned 35 = .ok (.lload_n 3, 1) := by decide +kernel
theorem dX3_turned_36 : decode cX3_turned 36 = .ok (.lconst 0, 1) := by decide +kernel
theorem dX3_turned_37 : decode cX3_turned 37 = .ok (.lcmp, 1) := by decide +kernel
theorem dX3_turned_38 : decode cX3_turned 38 = .ok (.ifCond .lt 8, 3) := by decide +kernel
theorem dX3_turned_41 : decode cX3_turned 41 = .ok (.lload 5, 2) := by decide +kernel
theorem dX3_turned_43 : decode cX3_turned 43 = .ok (.goto 18, 3) := by decide +kernel
theorem dX3_turned_46 : decode cX3_turned 46 = .ok (.iload_n 0, 1) := by decide +kernel
theorem dX3_turned_47 : decode cX3_turned 47 = .ok (.ifCond .ne 11, 3) := by decide +kernel
theorem dX3_turned_50 : decode cX3_turned 50 = .ok (.lload 5, 2) := by decide +kernel
theorem dX3_turned_52 : decode cX3_turned 52 = .ok (.lneg, 1) := by decide +kernel
theorem dX3_turned_53 : decode cX3_turned 53 = .ok (.l2i, 1) := by decide +kernel
theorem dX3_turned_54 : decode cX3_turned 54 = .ok (.i2l, 1) := by decide +kernel
theorem dX3_turned_55 : decode cX3_turned 55 = .ok (.goto 6, 3) := by decide +kernel
theorem dX3_turned_58 : decode cX3_turned 58 = .ok (.lload 5, 2) := by decide +kernel
theorem dX3_turned_60 : decode cX3_turned 60 = .ok (.lneg, 1) := by decide +kernel
theorem dX3_turned_61 : decode cX3_turned 61 = .ok (.lreturn, 1) := by decide +kernel
set_option maxRecDepth 20000 in
theorem ggX3_follow_X3_isAxis : GoodIn wsX3_follow wsX3_isAxis := goodIn_r _ [7, 8, 40, 41, 42] (by decide +kernel) (by decide +kernel)
set_option maxRecDepth 20000 in
theorem gX3_follow_X3_isAxis : GoodIn wsX3_follow (wsV RX3 81 RX3 yX3_isAxis wsX3_isAxis) := goodIn_app (goodIn_of _ (by decide +kernel)) ggX3_follow_X3_isAxis
set_option maxRecDepth 20000 in
theorem ggX3_follow_X3_turnedInto : GoodIn wsX3_follow wsX3_turnedInto := goodIn_r _ [11, 12, 13, 6, 14, 15, 16, 17, 18, 19, 20, 21, 22, 23, 24, 25, 26, 27, 28, 29, 30, 31, 32, 33, 34, 35, 36, 37, 38, 39] (by decide +kernel) (by decide +kernel)
set_option maxRecDepth 20000 in
theorem gX3_follow_X3_turnedInto : GoodIn wsX3_follow (va_wsS RX3 108 yX3_turnedInto wsX3_turnedInto) := goodIn_app (goodIn_of _ (by decide +kernel)) ggX3_follow_X3_turnedInto
theorem dX3_follow_0 : decode cX3_follow 0 = .ok (.aload_n 0, 1) := by decide +kernel
theorem dX3_follow_1 : decode cX3_follow 1 = .ok (.iload_n 1, 1) := by decide +kernel
theorem dX3_follow_2 : decode cX3_follow 2 = .ok (.invokevirtual 81, 3) := by decide +kernel
theorem dX3_follow_5 : decode cX3_follow 5 = .ok (.ifCond .eq 11, 3) := by decide +kernel
theorem dX3_follow_8 : decode cX3_follow 8 = .ok (.aload_n 0, 1) := by decide +kernel
theorem dX3_follow_9 : decode cX3_follow 9 = .ok (.iload_n 2, 1) := by decide +kernel
theorem dX3_follow_10 : decode cX3_follow 10 = .ok (.invokevirtual 81, 3) := by decide +kernel
theorem dX3_follow_13 : decode cX3_follow 13 = .ok (.ifCond .ne 5, 3) := by decide +kernel
theorem dX3_follow_16 : decode cX3_follow 16 = .ok (.iconst 0, 1) := by decide +kernel
theorem dX3_follow_17 : decode cX3_follow 17 = .ok (.ireturn, 1) := by decide +kernel
theorem dX3_follow_18 : decode cX3_follow 18 = .ok (.aload_n 0, 1) := by decide +kernel
theorem dX3_follow_19 : decode cX3_follow 19 = .ok (.getfield 13, 3) := by decide +kernel
theorem dX3_follow_22 : decode cX3_follow 22 = .ok (.iconst 5, 1) := by decide +kernel
theorem dX3_follow_23 : decode cX3_follow 23 = .ok (.iload_n 1, 1) := by decide +kernel
theorem dX3_follow_24 : decode cX3_follow 24 = .ok (.imul, 1) := by decide +kernel
theorem dX3_follow_25 : decode cX3_follow 25 = .ok (.iconst 0, 1) := by decide +kernel
theorem dX3_follow_26 : decode cX3_follow 26 = .ok (.iadd, 1) := by decide +kernel
theorem dX3_follow_27 : decode cX3_follow 27 = .ok (.aload_n 0, 1) := by decide +kernel
theorem dX3_follow_28 : decode cX3_follow 28 = .ok (.getfield 7, 3) := by decide +kernel
theorem dX3_follow_31 : decode cX3_follow 31 = .ok (.iload_n 1, 1) := by decide +kernel
theorem dX3_follow_32 : decode cX3_follow 32 = .ok (.iaload, 1) := by decide +kernel
theorem dX3_follow_33 : decode cX3_follow 33 = .ok (.aload_n 0, 1) := by decide +kernel
theorem dX3_follow_34 : decode cX3_follow 34 = .ok (.getfield 7, 3) := by decide +kernel
theorem dX3_follow_37 : decode cX3_follow 37 = .ok (.iload_n 2, 1) := by decide +kernel
theorem dX3_follow_38 : decode cX3_follow 38 = .ok (.iaload, 1) := by decide +kernel
theorem dX3_follow_39 : decode cX3_follow 39 = .ok (.aload_n 0, 1) := by decide +kernel
theorem dX3_follow_40 : decode cX3_follow 40 = .ok (.getfield 13, 3) := by decide +kernel
theorem dX3_follow_43 : decode cX3_follow 43 = .ok (.iconst 5, 1) := by decide +kernel
theorem dX3_follow_44 : decode cX3_follow 44 = .ok (.iload_n 2, 1) := by decide +kernel
theorem dX3_follow_45 : decode cX3_follow 45 = .ok (.imul, 1) := by decide +kernel
theorem dX3_follow_46 : decode cX3_follow 46 = .ok (.iconst 0, 1) := by decide +kernel
theorem dX3_follow_47 : decode cX3_follow 47 = .ok (.iadd, 1) := by decide +kernel
theorem dX3_follow_48 : decode cX3_follow 48 = .ok (.laload, 1) := by decide +kernel
theorem dX3_follow_49 : decode cX3_follow 49 = .ok (.invokestatic 108, 3) := by decide +kernel
theorem dX3_follow_52 : decode cX3_follow 52 = .ok (.lastore, 1) := by decide +kernel
theorem dX3_follow_53 : decode cX3_follow 53 = .ok (.iconst 1, 1) := by decide +kernel
theorem dX3_follow_54 : decode cX3_follow 54 = .ok (.ireturn, 1) := by decide +kernel
set_option maxRecDepth 20000 in
theorem ggX3_order_X3_isAxis : GoodIn wsX3_order wsX3_isAxis := goodIn_r _ [7, 8, 21, 22, 23] (by decide +kernel) (by decide +kernel)
set_option maxRecDepth 20000 in
theorem gX3_order_X3_isAxis : GoodIn wsX3_order (wsV RX3 81 RX3 yX3_isAxis wsX3_isAxis) := goodIn_app (goodIn_of _ (by decide +kernel)) ggX3_order_X3_isAxis
set_option maxRecDepth 20000 in
theorem ggX3_order_X3_rank : GoodIn wsX3_order wsX3_rank := goodIn_r _ [11, 12, 13, 14, 6, 15, 16, 17, 18, 19, 20] (by decide +kernel) (by decide +kernel)
set_option maxRecDepth 20000 in
theorem gX3_order_X3_rank : GoodIn wsX3_order (va_wsS RX3 47 yX3_rank wsX3_rank) := goodIn_app (goodIn_of _ (by decide +kernel)) ggX3_order_X3_rank
theorem dX3_order_0 : decode cX3_order 0 = .ok (.aload_n 0, 1) := by decide +kernel
theorem dX3_order_1 : decode cX3_order 1 = .ok (.iload_n 1, 1) := by decide +kernel
theorem dX3_order_2 : decode cX3_order 2 = .ok (.invokevirtual 81, 3) := by decide +kernel
theorem dX3_order_5 : decode cX3_order 5 = .ok (.ifCond .eq 26, 3) := by decide +kernel
theorem dX3_order_8 : decode cX3_order 8 = .ok (.aload_n 0, 1) := by decide +kernel
theorem dX3_order_9 : decode cX3_order 9 = .ok (.iload_n 2, 1) := by decide +kernel
theorem dX3_order_10 : decode cX3_order 10 = .ok (.invokevirtual 81, 3) := by decide +kernel
theorem dX3_order_13 : decode cX3_order 13 = .ok (.ifCond .eq 18, 3) := by decide +kernel
theorem dX3_order_16 : decode cX3_order 16 = .ok (.aload_n 0, 1) := by decide +kernel
theorem dX3_order_17 : decode cX3_order 17 = .ok (.getfield 7, 3) := by decide +kernel
theorem dX3_order_20 : decode cX3_order 20 = .ok (.iload_n 1, 1) := by decide +kernel
theorem dX3_order_21 : decode cX3_order 21 = .ok (.iaload, 1) := by decide +kernel
theorem dX3_order_22 : decode cX3_order 22 = .ok (.aload_n 0, 1) := by decide +kernel
theorem dX3_order_23 : decode cX3_order 23 = .ok (.getfield 7, 3) := by decide +kernel
theorem dX3_order_26 : decode cX3_order 26 = .ok (.iload_n 2, 1) := by decide +kernel
theorem dX3_order_27 : decode cX3_order 27 = .ok (.iaload, 1) := by decide +kernel
theorem dX3_order_28 : decode cX3_order 28 = .ok (.if_icmp .eq 6, 3) := by decide +kernel
theorem dX3_order_31 : decode cX3_order 31 = .ok (.bipush (-2), 2) := by decide +kernel
theorem dX3_order_33 : decode cX3_order 33 = .ok (.ireturn, 1) := by decide +kernel
theorem dX3_order_34 : decode cX3_order 34 = .ok (.aload_n 0, 1) := by decide +kernel
theorem dX3_order_35 : decode cX3_order 35 = .ok (.getfield 7, 3) := by decide +kernel
theorem dX3_order_38 : decode cX3_order 38 = .ok (.iload_n 1, 1) := by decide +kernel
theorem dX3_order_39 : decode cX3_order 39 = .ok (.iaload, 1) := by decide +kernel
theorem dX3_order_40 : decode cX3_order 40 = .ok (.aload_n 0, 1) := by decide +kernel
theorem dX3_order_41 : decode cX3_order 41 = .ok (.getfield 13, 3) := by decide +kernel
theorem dX3_order_44 : decode cX3_order 44 = .ok (.iconst 5, 1) := by decide +kernel
theorem dX3_order_45 : decode cX3_order 45 = .ok (.iload_n 1, 1) := by decide +kernel
theorem dX3_order_46 : decode cX3_order 46 = .ok (.imul, 1) := by decide +kernel
theorem dX3_order_47 : decode cX3_order 47 = .ok (.iconst 0, 1) := by decide +kernel
theorem dX3_order_48 : decode cX3_order 48 = .ok (.iadd, 1) := by decide +kernel
theorem dX3_order_49 : decode cX3_order 49 = .ok (.laload, 1) := by decide +kernel
theorem dX3_order_50 : decode cX3_order 50 = .ok (.invokestatic 47, 3) := by decide +kernel
theorem dX3_order_53 : decode cX3_order 53 = .ok (.lstore_n 3, 1) := by decide +kernel
theorem dX3_order_54 : decode cX3_order 54 = .ok (.aload_n 0, 1) := by decide +kernel
theorem dX3_order_55 : decode cX3_order 55 = .ok (.getfield 7, 3) := by decide +kernel
theorem dX3_order_58 : decode cX3_order 58 = .ok (.iload_n 2, 1) := by decide +kernel
theorem dX3_order_59 : decode cX3_order 59 = .ok (.iaload, 1) := by decide +kernel
theorem dX3_order_60 : decode cX3_order 60 = .ok (.aload_n 0, 1) := by decide +kernel
theorem dX3_order_61 : decode cX3_order 61 = .ok (.getfield 13, 3) := by decide +kernel
theorem dX3_order_64 : decode cX3_order 64 = .ok (.iconst 5, 1) := by decide +kernel
theorem dX3_order_65 : decode cX3_order 65 = .ok (.iload_n 2, 1) := by decide +kernel
theorem dX3_order_66 : decode cX3_order 66 = .ok (.imul, 1) := by decide +kernel
theorem dX3_order_67 : decode cX3_order 67 = .ok (.iconst 0, 1) := by decide +kernel
theorem dX3_order_68 : decode cX3_order 68 = .ok (.iadd, 1) := by decide +kernel
theorem dX3_order_69 : decode cX3_order 69 = .ok (.laload, 1) := by decide +kernel
theorem dX3_order_70 : decode cX3_order 70 = .ok (.invokestatic 47, 3) := by decide +kernel
theorem dX3_order_73 : decode cX3_order 73 = .ok (.lstore 5, 2) := by decide +kernel
theorem dX3_order_75 : decode cX3_order 75 = .ok (.lload_n 3, 1) := by decide +kernel
theorem dX3_order_76 : decode cX3_order 76 = .ok (.lload 5, 2) := by decide +kernel
theorem dX3_order_78 : decode cX3_order 78 = .ok (.lcmp, 1) := by decide +kernel
theorem dX3_order_79 : decode cX3_order 79 = .ok (.ifCond .ge 7, 3) := by decide +kernel
theorem dX3_order_82 : decode cX3_order 82 = .ok (.iconst (-1), 1) := by decide +kernel
theorem dX3_order_83 : decode cX3_order 83 = .ok (.goto 15, 3) := by decide +kernel
theorem dX3_order_86 : decode cX3_order 86 = .ok (.lload_n 3, 1) := by decide +kernel
theorem dX3_order_87 : decode cX3_order 87 = .ok (.lload 5, 2) := by decide +kernel
theorem dX3_order_89 : decode cX3_order 89 = .ok (.lcmp, 1) := by decide +kernel
theorem dX3_order_90 : decode cX3_order 90 = .ok (.ifCond .le 7, 3) := by decide +kernel
theorem dX3_order_93 : decode cX3_order 93 = .ok (.iconst 1, 1) := by decide +kernel
theorem dX3_order_94 : decode cX3_order 94 = .ok (.goto 4, 3) := by decide +kernel
theorem dX3_order_97 : decode cX3_order 97 = .ok (.iconst 0, 1) := by decide +kernel
theorem dX3_order_98 : decode cX3_order 98 = .ok (.ireturn, 1) := by decide +kernel
theorem dJ6_numberOfLeadingZeros_0f7a4_0 : decode cJ6_numberOfLeadingZeros_0f7a4 0 = .ok (.iload_n 0, 1) := by decide +kernel
theorem dJ6_numberOfLeadingZeros_0f7a4_1 : decode cJ6_numberOfLeadingZeros_0f7a4 1 = .ok (.ifCond .gt 14, 3) := by decide +kernel
theorem dJ6_numberOfLeadingZeros_0f7a4_4 : decode cJ6_numberOfLeadingZeros_0f7a4 4 = .ok (.iload_n 0, 1) := by decide +kernel
theorem dJ6_numberOfLeadingZeros_0f7a4_5 : decode cJ6_numberOfLeadingZeros_0f7a4 5 = .ok (.ifCond .ne 8, 3) := by decide +kernel
theorem dJ6_numberOfLeadingZeros_0f7a4_8 : decode cJ6_numberOfLeadingZeros_0f7a4 8 = .ok (.bipush 32, 2) := by decide +kernel
theorem dJ6_numberOfLeadingZeros_0f7a4_10 : decode cJ6_numberOfLeadingZeros_0f7a4 10 = .ok (.goto 4, 3) := by decide +kernel
theorem dJ6_numberOfLeadingZeros_0f7a4_13 : decode cJ6_numberOfLeadingZeros_0f7a4 13 = .ok (.iconst 0, 1) := by decide +kernel
theorem dJ6_numberOfLeadingZeros_0f7a4_14 : decode cJ6_numberOfLeadingZeros_0f7a4 14 = .ok (.ireturn, 1) := by decide +kernel
theorem dJ6_numberOfLeadingZeros_0f7a4_15 : decode cJ6_numberOfLeadingZeros_0f7a4 15 = .ok (.bipush 31, 2) := by decide +kernel
theorem dJ6_numberOfLeadingZeros_0f7a4_17 : decode cJ6_numberOfLeadingZeros_0f7a4 17 = .ok (.istore_n 1, 1) := by decide +kernel
theorem dJ6_numberOfLeadingZeros_0f7a4_18 : decode cJ6_numberOfLeadingZeros_0f7a4 18 = .ok (.iload_n 0, 1) := by decide +kernel
theorem dJ6_numberOfLeadingZeros_0f7a4_19 : decode cJ6_numberOfLeadingZeros_0f7a4 19 = .ok (.ldc_w 264, 3) := by decide +kernel
theorem dJ6_numberOfLeadingZeros_0f7a4_22 : decode cJ6_numberOfLeadingZeros_0f7a4 22 = .ok (.if_icmp .lt 11, 3) := by decide +kernel
theorem dJ6_numberOfLeadingZeros_0f7a4_25 : decode cJ6_numberOfLeadingZeros_0f7a4 25 = .ok (.iinc 1 (-16), 3) := by decide +kernel
theorem dJ6_numberOfLeadingZeros_0f7a4_28 : decode cJ6_numberOfLeadingZeros_0f7a4 28 = .ok (.iload_n 0, 1) := by decide +kernel
theorem dJ6_numberOfLeadingZeros_0f7a4_29 : decode cJ6_numberOfLeadingZeros_0f7a4 29 = .ok (.bipush 16, 2) := by decide +kernel
theorem dJ6_numberOfLeadingZeros_0f7a4_31 : decode cJ6_numberOfLeadingZeros_0f7a4 31 = .ok (.iushr, 1) := by decide +kernel
theorem dJ6_numberOfLeadingZeros_0f7a4_32 : decode cJ6_numberOfLeadingZeros_0f7a4 32 = .ok (.istore_n 0, 1) := by decide +kernel
theorem dJ6_numberOfLeadingZeros_0f7a4_33 : decode cJ6_numberOfLeadingZeros_0f7a4 33 = .ok (.iload_n 0, 1) := by decide +kernel
theorem dJ6_numberOfLeadingZeros_0f7a4_34 : decode cJ6_numberOfLeadingZeros_0f7a4 34 = .ok (.sipush 256, 3) := by decide +kernel
theorem dJ6_numberOfLeadingZeros_0f7a4_37 : decode cJ6_numberOfLeadingZeros_0f7a4 37 = .ok (.if_icmp .lt 11, 3) := by decide +kernel
theorem dJ6_numberOfLeadingZeros_0f7a4_40 : decode cJ6_numberOfLeadingZeros_0f7a4 40 = .ok (.iinc 1 (-8), 3) := by decide +kernel
theorem dJ6_numberOfLeadingZeros_0f7a4_43 : decode cJ6_numberOfLeadingZeros_0f7a4 43 = .ok (.iload_n 0, 1) := by decide +kernel
theorem dJ6_numberOfLeadingZeros_0f7a4_44 : decode cJ6_numberOfLeadingZeros_0f7a4 44 = .ok (.bipush 8, 2) := by decide +kernel
theorem dJ6_numberOfLeadingZeros_0f7a4_46 : decode cJ6_numberOfLeadingZeros_0f7a4 46 = .ok (.iushr, 1) := by decide +kernel
theorem dJ6_numberOfLeadingZeros_0f7a4_47 : decode cJ6_numberOfLeadingZeros_0f7a4 47 = .ok (.istore_n 0, 1) := by decide +kernel
theorem dJ6_numberOfLeadingZeros_0f7a4_48 : decode cJ6_numberOfLeadingZeros_0f7a4 48 = .ok (.iload_n 0, 1) := by decide +kernel
theorem dJ6_numberOfLeadingZeros_0f7a4_49 : decode cJ6_numberOfLeadingZeros_0f7a4 49 = .ok (.bipush 16, 2) := by decide +kernel
theorem dJ6_numberOfLeadingZeros_0f7a4_51 : decode cJ6_numberOfLeadingZeros_0f7a4 51 = .ok (.if_icmp .lt 10, 3) := by decide +kernel
theorem dJ6_numberOfLeadingZeros_0f7a4_54 : decode cJ6_numberOfLeadingZeros_0f7a4 54 = .ok (.iinc 1 (-4), 3) := by decide +kernel
theorem dJ6_numberOfLeadingZeros_0f7a4_57 : decode cJ6_numberOfLeadingZeros_0f7a4 57 = .ok (.iload_n 0, 1) := by decide +kernel
theorem dJ6_numberOfLeadingZeros_0f7a4_58 : decode cJ6_numberOfLeadingZeros_0f7a4 58 = .ok (.iconst 4, 1) := by decide +kernel
theorem dJ6_numberOfLeadingZeros_0f7a4_59 : decode cJ6_numberOfLeadingZeros_0f7a4 59 = .ok (.iushr, 1) := by decide +kernel
theorem dJ6_numberOfLeadingZeros_0f7a4_60 : decode cJ6_numberOfLeadingZeros_0f7a4 60 = .ok (.istore_n 0, 1) := by decide +kernel
theorem dJ6_numberOfLeadingZeros_0f7a4_61 : decode cJ6_numberOfLeadingZeros_0f7a4 61 = .ok (.iload_n 0, 1) := by decide +kernel
theorem dJ6_numberOfLeadingZeros_0f7a4_62 : decode cJ6_numberOfLeadingZeros_0f7a4 62 = .ok (.iconst 4, 1) := by decide +kernel
theorem dJ6_numberOfLeadingZeros_0f7a4_63 : decode cJ6_numberOfLeadingZeros_0f7a4 63 = .ok (.if_icmp .lt 10, 3) := by decide +kernel
theorem dJ6_numberOfLeadingZeros_0f7a4_66 : decode cJ6_numberOfLeadingZeros_0f7a4 66 = .ok (.iinc 1 (-2), 3) := by decide +kernel
theorem dJ6_numberOfLeadingZeros_0f7a4_69 : decode cJ6_numberOfLeadingZeros_0f7a4 69 = .ok (.iload_n 0, 1) := by decide +kernel
theorem dJ6_numberOfLeadingZeros_0f7a4_70 : decode cJ6_numberOfLeadingZeros_0f7a4 70 = .ok (.iconst 2, 1) := by decide +kernel
theorem dJ6_numberOfLeadingZeros_0f7a4_71 : decode cJ6_numberOfLeadingZeros_0f7a4 71 = .ok (.iushr, 1) := by decide +kernel
theorem dJ6_numberOfLeadingZeros_0f7a4_72 : decode cJ6_numberOfLeadingZeros_0f7a4 72 = .ok (.istore_n 0, 1) := by decide +kernel
theorem dJ6_numberOfLeadingZeros_0f7a4_73 : decode cJ6_numberOfLeadingZeros_0f7a4 73 = .ok (.iload_n 1, 1) := by decide +kernel
theorem dJ6_numberOfLeadingZeros_0f7a4_74 : decode cJ6_numberOfLeadingZeros_0f7a4 74 = .ok (.iload_n 0, 1) := by decide +kernel
theorem dJ6_numberOfLeadingZeros_0f7a4_75 : decode cJ6_numberOfLeadingZeros_0f7a4 75 = .ok (.iconst 1, 1) := by decide +kernel
theorem dJ6_numberOfLeadingZeros_0f7a4_76 : decode cJ6_numberOfLeadingZeros_0f7a4 76 = .ok (.iushr, 1) := by decide +kernel
theorem dJ6_numberOfLeadingZeros_0f7a4_77 : decode cJ6_numberOfLeadingZeros_0f7a4 77 = .ok (.isub, 1) := by decide +kernel
theorem dJ6_numberOfLeadingZeros_0f7a4_78 : decode cJ6_numberOfLeadingZeros_0f7a4 78 = .ok (.ireturn, 1) := by decide +kernel
theorem dJ13_compare_74951_0 : decode cJ13_compare_74951 0 = .ok (.lload_n 0, 1) := by decide +kernel
theorem dJ13_compare_74951_1 : decode cJ13_compare_74951 1 = .ok (.lload_n 2, 1) := by decide +kernel
theorem dJ13_compare_74951_2 : decode cJ13_compare_74951 2 = .ok (.lcmp, 1) := by decide +kernel
theorem dJ13_compare_74951_3 : decode cJ13_compare_74951 3 = .ok (.ifCond .ge 7, 3) := by decide +kernel
theorem dJ13_compare_74951_6 : decode cJ13_compare_74951 6 = .ok (.iconst (-1), 1) := by decide +kernel
theorem dJ13_compare_74951_7 : decode cJ13_compare_74951 7 = .ok (.goto 14, 3) := by decide +kernel
theorem dJ13_compare_74951_10 : decode cJ13_compare_74951 10 = .ok (.lload_n 0, 1) := by decide +kernel
theorem dJ13_compare_74951_11 : decode cJ13_compare_74951 11 = .ok (.lload_n 2, 1) := by decide +kernel
theorem dJ13_compare_74951_12 : decode cJ13_compare_74951 12 = .ok (.lcmp, 1) := by decide +kernel
theorem dJ13_compare_74951_13 : decode cJ13_compare_74951 13 = .ok (.ifCond .ne 7, 3) := by decide +kernel
theorem dJ13_compare_74951_16 : decode cJ13_compare_74951 16 = .ok (.iconst 0, 1) := by decide +kernel
theorem dJ13_compare_74951_17 : decode cJ13_compare_74951 17 = .ok (.goto 4, 3) := by decide +kernel
theorem dJ13_compare_74951_20 : decode cJ13_compare_74951 20 = .ok (.iconst 1, 1) := by decide +kernel
theorem dJ13_compare_74951_21 : decode cJ13_compare_74951 21 = .ok (.ireturn, 1) := by decide +kernel
set_option maxRecDepth 20000 in
theorem ggJ13_numberOfLeadingZeros_95d88_J6_numberOfLeadingZeros_0f7a4 : GoodIn wsJ13_numberOfLeadingZeros_95d88 wsJ6_numberOfLeadingZeros_0f7a4 := goodIn_r _ [4, 5] (by decide +kernel) (by decide +kernel)
set_option maxRecDepth 20000 in
theorem gJ13_numberOfLeadingZeros_95d88_J6_numberOfLeadingZeros_0f7a4 : GoodIn wsJ13_numberOfLeadingZeros_95d88 (va_wsS RJ13 308 yJ6_numberOfLeadingZeros_0f7a4 wsJ6_numberOfLeadingZeros_0f7a4) := goodIn_app (goodIn_of _ (by decide +kernel)) ggJ13_numberOfLeadingZeros_95d88_J6_numberOfLeadingZeros_0f7a4
theorem dJ13_numberOfLeadingZeros_95d88_0 : decode cJ13_numberOfLeadingZeros_95d88 0 = .ok (.lload_n 0, 1) := by decide +kernel
theorem dJ13_numberOfLeadingZeros_95d88_1 : decode cJ13_numberOfLeadingZeros_95d88 1 = .ok (.bipush 32, 2) := by decide +kernel
theorem dJ13_numberOfLeadingZeros_95d88_3 : decode cJ13_numberOfLeadingZeros_95d88 3 = .ok (.lushr, 1) := by decide +kernel
theorem dJ13_numberOfLeadingZeros_95d88_4 : decode cJ13_numberOfLeadingZeros_95d88 4 = .ok (.l2i, 1) := by decide +kernel
theorem dJ13_numberOfLeadingZeros_95d88_5 : decode cJ13_numberOfLeadingZeros_95d88 5 = .ok (.istore_n 2, 1) := by decide +kernel
theorem dJ13_numberOfLeadingZeros_95d88_6 : decode cJ13_numberOfLeadingZeros_95d88 6 = .ok (.iload_n 2, 1) := by decide +kernel
theorem dJ13_numberOfLeadingZeros_95d88_7 : decode cJ13_numberOfLeadingZeros_95d88 7 = .ok (.ifCond .ne 14, 3) := by decide +kernel
theorem dJ13_numberOfLeadingZeros_95d88_10 : decode cJ13_numberOfLeadingZeros_95d88 10 = .ok (.bipush 32, 2) := by decide +kernel
theorem dJ13_numberOfLeadingZeros_95d88_12 : decode cJ13_numberOfLeadingZeros_95d88 12 = .ok (.lload_n 0, 1) := by decide +kernel
theorem dJ13_numberOfLeadingZeros_95d88_13 : decode cJ13_numberOfLeadingZeros_95d88 13 = .ok (.l2i, 1) := by decide +kernel
theorem dJ13_numberOfLeadingZeros_95d88_14 : decode cJ13_numberOfLeadingZeros_95d88 14 = .ok (.invokestatic 308, 3) := by decide +kernel
theorem dJ13_numberOfLeadingZeros_95d88_17 : decode cJ13_numberOfLeadingZeros_95d88 17 = .ok (.iadd, 1) := by decide +kernel
theorem dJ13_numberOfLeadingZeros_95d88_18 : decode cJ13_numberOfLeadingZeros_95d88 18 = .ok (.goto 7, 3) := by decide +kernel
theorem dJ13_numberOfLeadingZeros_95d88_21 : decode cJ13_numberOfLeadingZeros_95d88 21 = .ok (.iload_n 2, 1) := by decide +kernel
theorem dJ13_numberOfLeadingZeros_95d88_22 : decode cJ13_numberOfLeadingZeros_95d88 22 = .ok (.invokestatic 308, 3) := by decide +kernel
theorem dJ13_numberOfLeadingZeros_95d88_25 : decode cJ13_numberOfLeadingZeros_95d88 25 = .ok (.ireturn, 1) := by decide +kernel
theorem dJ9_abs_067f4_0 : decode cJ9_abs_067f4 0 = .ok (.lload_n 0, 1) := by decide +kernel
theorem dJ9_abs_067f4_1 : decode cJ9_abs_067f4 1 = .ok (.lconst 0, 1) := by decide +kernel
theorem dJ9_abs_067f4_2 : decode cJ9_abs_067f4 2 = .ok (.lcmp, 1) := by decide +kernel
theorem dJ9_abs_067f4_3 : decode cJ9_abs_067f4 3 = .ok (.ifCond .ge 8, 3) := by decide +kernel
theorem dJ9_abs_067f4_6 : decode cJ9_abs_067f4 6 = .ok (.lload_n 0, 1) := by decide +kernel
theorem dJ9_abs_067f4_7 : decode cJ9_abs_067f4 7 = .ok (.lneg, 1) := by decide +kernel
theorem dJ9_abs_067f4_8 : decode cJ9_abs_067f4 8 = .ok (.goto 4, 3) := by decide +kernel
theorem dJ9_abs_067f4_11 : decode cJ9_abs_067f4 11 = .ok (.lload_n 0, 1) := by decide +kernel
theorem dJ9_abs_067f4_12 : decode cJ9_abs_067f4 12 = .ok (.lreturn, 1) := by decide +kernel
theorem dJ9_max_7cf53_0 : decode cJ9_max_7cf53 0 = .ok (.iload_n 0, 1) := by decide +kernel
theorem dJ9_max_7cf53_1 : decode cJ9_max_7cf53 1 = .ok (.iload_n 1, 1) := by decide +kernel
theorem dJ9_max_7cf53_2 : decode cJ9_max_7cf53 2 = .ok (.if_icmp .lt 7, 3) := by decide +kernel
theorem dJ9_max_7cf53_5 : decode cJ9_max_7cf53 5 = .ok (.iload_n 0, 1) := by decide +kernel
theorem dJ9_max_7cf53_6 : decode cJ9_max_7cf53 6 = .ok (.goto 4, 3) := by decide +kernel
theorem dJ9_max_7cf53_9 : decode cJ9_max_7cf53 9 = .ok (.iload_n 1, 1) := by decide +kernel
theorem dJ9_max_7cf53_10 : decode cJ9_max_7cf53 10 = .ok (.ireturn, 1) := by decide +kernel
theorem dJ9_max_f86c9_0 : decode cJ9_max_f86c9 0 = .ok (.lload_n 0, 1) := by decide +kernel
theorem dJ9_max_f86c9_1 : decode cJ9_max_f86c9 1 = .ok (.lload_n 2, 1) := by decide +kernel
theorem dJ9_max_f86c9_2 : decode cJ9_max_f86c9 2 = .ok (.lcmp, 1) := by decide +kernel
theorem dJ9_max_f86c9_3 : decode cJ9_max_f86c9 3 = .ok (.ifCond .lt 7, 3) := by decide +kernel
theorem dJ9_max_f86c9_6 : decode cJ9_max_f86c9 6 = .ok (.lload_n 0, 1) := by decide +kernel
theorem dJ9_max_f86c9_7 : decode cJ9_max_f86c9 7 = .ok (.goto 4, 3) := by decide +kernel
theorem dJ9_max_f86c9_10 : decode cJ9_max_f86c9 10 = .ok (.lload_n 2, 1) := by decide +kernel
theorem dJ9_max_f86c9_11 : decode cJ9_max_f86c9 11 = .ok (.lreturn, 1) := by decide +kernel
theorem dJ9_min_7cf53_0 : decode cJ9_min_7cf53 0 = .ok (.iload_n 0, 1) := by decide +kernel
theorem dJ9_min_7cf53_1 : decode cJ9_min_7cf53 1 = .ok (.iload_n 1, 1) := by decide +kernel
theorem dJ9_min_7cf53_2 : decode cJ9_min_7cf53 2 = .ok (.if_icmp .gt 7, 3) := by decide +kernel
theorem dJ9_min_7cf53_5 : decode cJ9_min_7cf53 5 = .ok (.iload_n 0, 1) := by decide +kernel
theorem dJ9_min_7cf53_6 : decode cJ9_min_7cf53 6 = .ok (.goto 4, 3) := by decide +kernel
theorem dJ9_min_7cf53_9 : decode cJ9_min_7cf53 9 = .ok (.iload_n 1, 1) := by decide +kernel
theorem dJ9_min_7cf53_10 : decode cJ9_min_7cf53 10 = .ok (.ireturn, 1) := by decide +kernel
theorem dJ9_min_f86c9_0 : decode cJ9_min_f86c9 0 = .ok (.lload_n 0, 1) := by decide +kernel
theorem dJ9_min_f86c9_1 : decode cJ9_min_f86c9 1 = .ok (.lload_n 2, 1) := by decide +kernel
theorem dJ9_min_f86c9_2 : decode cJ9_min_f86c9 2 = .ok (.lcmp, 1) := by decide +kernel
theorem dJ9_min_f86c9_3 : decode cJ9_min_f86c9 3 = .ok (.ifCond .gt 7, 3) := by decide +kernel
theorem dJ9_min_f86c9_6 : decode cJ9_min_f86c9 6 = .ok (.lload_n 0, 1) := by decide +kernel
theorem dJ9_min_f86c9_7 : decode cJ9_min_f86c9 7 = .ok (.goto 4, 3) := by decide +kernel
theorem dJ9_min_f86c9_10 : decode cJ9_min_f86c9 10 = .ok (.lload_n 2, 1) := by decide +kernel
theorem dJ9_min_f86c9_11 : decode cJ9_min_f86c9 11 = .ok (.lreturn, 1) := by decide +kernel
set_option maxRecDepth 20000 in
theorem ggL_law_X2_init : GoodIn wsL_law wsX2_init := goodIn_r _ [9, 10, 11, 12, 13, 14, 15, 330, 331] (by decide +kernel) (by decide +kernel)
set_option maxRecDepth 20000 in
theorem gL_law_X2_init : GoodIn wsL_law (wsX2_init) := ggL_law_X2_init
set_option maxRecDepth 20000 in
theorem ggL_law_X3_init : GoodIn wsL_law wsX3_init := goodIn_r _ [18, 19, 11, 12, 20, 21, 22, 23, 332, 333, 334] (by decide +kernel) (by decide +kernel)
set_option maxRecDepth 20000 in
theorem gL_law_X3_init : GoodIn wsL_law (wsX3_init) := ggL_law_X3_init
set_option maxRecDepth 20000 in
theorem ggL_law_X2_axis : GoodIn wsL_law wsX2_axis := goodIn_r _ [27, 28, 15, 14, 13, 29, 30, 31, 32, 33, 11, 12, 34, 35, 36, 37, 38, 39, 40, 41, 42, 43, 44, 45, 46, 47, 48, 49, 50, 51, 52, 53, 54, 55, 56, 330, 331, 335, 336, 337, 338, 339, 340] (by decide +kernel) (by decide +kernel)
set_option maxRecDepth 20000 in
theorem gL_law_X2_axis : GoodIn wsL_law (wsV RL 13 RX2 yX2_axis wsX2_axis) := goodIn_app (goodIn_of _ (by decide +kernel)) ggL_law_X2_axis
set_option maxRecDepth 20000 in
theorem ggL_law_X3_axis : GoodIn wsL_law wsX3_axis := goodIn_r _ [60, 61, 21, 23, 62, 63, 64, 65, 66, 67, 5, 68, 69, 70, 71, 72, 73, 74, 332, 333, 334] (by decide +kernel) (by decide +kernel)
set_option maxRecDepth 20000 in
theorem gL_law_X3_axis : GoodIn wsL_law (wsV RL 17 RX3 yX3_axis wsX3_axis) := goodIn_app (goodIn_of _ (by decide +kernel)) ggL_law_X3_axis
set_option maxRecDepth 20000 in
theorem ggL_law_X2_set : GoodIn wsL_law wsX2_set := goodIn_r _ [78, 79, 80, 81, 2, 82, 15, 14, 83, 30, 84, 85, 34, 35, 36, 37, 38, 39, 86, 41, 87, 88, 89, 90, 91, 92, 44, 93, 94, 95, 96, 45, 56, 97, 98, 99, 100, 101, 46, 47, 48, 49, 50, 51, 52, 330, 331, 335, 336, 337, 338, 339, 340] (by decide +kernel) (by decide +kernel)
set_option maxRecDepth 20000 in
theorem gL_law_X2_set : GoodIn wsL_law (wsV RL 20 RX2 yX2_set wsX2_set) := goodIn_app (goodIn_of _ (by decide +kernel)) ggL_law_X2_set
set_option maxRecDepth 20000 in
theorem ggL_law_X3_set : GoodIn wsL_law wsX3_set := goodIn_r _ [105, 21, 23, 106, 107, 108, 5, 109, 61, 110, 111, 112, 113, 114, 115, 64, 65, 66, 67, 68, 69, 70, 332, 333, 334] (by decide +kernel) (by decide +kernel)
set_option maxRecDepth 20000 in
theorem gL_law_X3_set : GoodIn wsL_law (wsV RL 24 RX3 yX3_set wsX3_set) := goodIn_app (goodIn_of _ (by decide +kernel)) ggL_law_X3_set
set_option maxRecDepth 20000 in
theorem ggL_law_X2_bits : GoodIn wsL_law wsX2_bits := goodIn_r _ [119, 79, 80, 81, 2, 82, 15, 14, 120, 30, 121, 122, 35, 36, 37, 38, 39, 330, 331, 335, 336, 337, 338, 339, 340] (by decide +kernel) (by decide +kernel)
set_option maxRecDepth 20000 in
theorem gL_law_X2_bits : GoodIn wsL_law (wsV RL 25 RX2 yX2_bits wsX2_bits) := goodIn_app (goodIn_of _ (by decide +kernel)) ggL_law_X2_bits
set_option maxRecDepth 20000 in
theorem ggL_law_X3_bits : GoodIn wsL_law wsX3_bits := goodIn_r _ [126, 23, 106, 107, 108, 5, 109, 61, 332, 333, 334] (by decide +kernel) (by decide +kernel)
set_option maxRecDepth 20000 in
theorem gL_law_X3_bits : GoodIn wsL_law (wsV RL 29 RX3 yX3_bits wsX3_bits) := goodIn_app (goodIn_of _ (by decide +kernel)) ggL_law_X3_bits
set_option maxRecDepth 20000 in
theorem ggL_law_X2_orders : GoodIn wsL_law wsX2_orders := goodIn_r _ [130, 79, 80, 81, 2, 82, 15, 14, 131, 132, 133, 134, 135, 136, 137, 30, 138, 139, 34, 36, 37, 35, 39, 140, 41, 141, 142, 143, 144, 145, 146, 147, 148, 149, 150, 44, 45, 56, 151, 152, 153, 154, 155, 156, 157, 94, 95, 96, 97, 98, 99, 100, 101, 86, 87, 88, 89, 158, 159, 160, 93, 161, 162, 163, 164, 165, 166, 167, 168, 51, 52, 169, 170, 171, 172, 173, 174, 175, 176, 177, 178, 179, 180, 181, 182, 183, 184, 185, 186, 187, 188, 189, 190, 191, 192, 193, 194, 195, 196, 197, 198, 199, 200, 201, 202, 203, 204, 205, 206, 207, 208, 209, 210, 211, 38, 212, 213, 214, 215, 216, 217, 218, 219, 220, 221, 222, 330, 331, 335, 336, 337, 338, 339, 340] (by decide +kernel) (by decide +kernel)
set_option maxRecDepth 20000 in
theorem gL_law_X2_orders : GoodIn wsL_law (wsV RL 30 RX2 yX2_orders wsX2_orders) := goodIn_app (goodIn_of _ (by decide +kernel)) ggL_law_X2_orders
set_option maxRecDepth 20000 in
theorem ggL_law_X3_orders : GoodIn wsL_law wsX3_orders := goodIn_r _ [226, 21, 106, 107, 108, 5, 109, 61, 227, 228, 229, 230, 23, 231, 232, 233, 234, 235, 236, 237, 238, 239, 240, 110, 111, 112, 113, 114, 115, 64, 65, 241, 242, 243, 244, 245, 246, 247, 248, 249, 250, 251, 252, 253, 254, 255, 256, 257, 258, 71, 72, 73, 74, 63, 259, 260, 261, 262, 263, 264, 332, 333, 334] (by decide +kernel) (by decide +kernel)
set_option maxRecDepth 20000 in
theorem gL_law_X3_orders : GoodIn wsL_law (wsV RL 34 RX3 yX3_orders wsX3_orders) := goodIn_app (goodIn_of _ (by decide +kernel)) ggL_law_X3_orders
set_option maxRecDepth 20000 in
theorem ggL_law_X2_follow : GoodIn wsL_law wsX2_follow := goodIn_r _ [268, 79, 80, 81, 2, 82, 15, 14, 269, 30, 270, 271, 34, 35, 272, 41, 273, 274, 44, 97, 98, 99, 100, 275, 276, 277, 278, 279, 280, 281, 282, 283, 284, 51, 173, 174, 175, 52, 285, 286, 153, 287, 288, 289, 290, 291, 292, 46, 47, 48, 49, 50, 194, 195, 196, 197, 198, 199, 180, 181, 182, 183, 45, 93, 94, 95, 96, 56, 101, 86, 87, 88, 89, 293, 40, 42, 43, 294, 53, 54, 55, 295, 296, 297, 298, 299, 300, 301, 302, 303, 304, 305, 306, 307, 308, 330, 331, 335, 336, 337, 338, 339, 340] (by decide +kernel) (by decide +kernel)
set_option maxRecDepth 20000 in
theorem gL_law_X2_follow : GoodIn wsL_law (wsV RL 35 RX2 yX2_follow wsX2_follow) := goodIn_app (goodIn_of _ (by decide +kernel)) ggL_law_X2_follow
set_option maxRecDepth 20000 in
theorem ggL_law_X3_follow : GoodIn wsL_law wsX3_follow := goodIn_r _ [312, 23, 21, 106, 107, 108, 5, 109, 61, 313, 314, 315, 110, 111, 112, 316, 317, 318, 71, 72, 73, 74, 63, 251, 252, 253, 66, 67, 68, 69, 70, 319, 320, 321, 62, 64, 65, 113, 114, 115, 332, 333, 334] (by decide +kernel) (by decide +kernel)
set_option maxRecDepth 20000 in
theorem gL_law_X3_follow : GoodIn wsL_law (wsV RL 39 RX3 yX3_follow wsX3_follow) := goodIn_app (goodIn_of _ (by decide +kernel)) ggL_law_X3_follow
set_option maxRecDepth 20000 in
theorem ggL_law_X2_order : GoodIn wsL_law wsX2_order := goodIn_r _ [325, 79, 80, 81, 2, 82, 15, 14, 144, 41, 145, 146, 147, 148, 149, 150, 44, 45, 56, 151, 152, 153, 154, 335, 336, 337, 338, 339, 340, 330, 331] (by decide +kernel) (by decide +kernel)
set_option maxRecDepth 20000 in
theorem gL_law_X2_order : GoodIn wsL_law (wsV RL 40 RX2 yX2_order wsX2_order) := goodIn_app (goodIn_of _ (by decide +kernel)) ggL_law_X2_order
set_option maxRecDepth 20000 in
theorem ggL_law_X3_order : GoodIn wsL_law wsX3_order := goodIn_r _ [329, 21, 23, 106, 107, 108, 5, 109, 61, 237, 238, 239, 240, 110, 111, 112, 113, 114, 115, 64, 65, 332, 333, 334] (by decide +kernel) (by decide +kernel)
set_option maxRecDepth 20000 in
theorem gL_law_X3_order : GoodIn wsL_law (wsV RL 43 RX3 yX3_order wsX3_order) := goodIn_app (goodIn_of _ (by decide +kernel)) ggL_law_X3_order
theorem dL_law_0 : decode cL_law 0 = .ok (.new 7, 3) := by decide +kernel
theorem dL_law_3 : decode cL_law 3 = .ok (.dup, 1) := by decide +kernel
theorem dL_law_4 : decode cL_law 4 = .ok (.invokespecial 9, 3) := by decide +kernel
theorem dL_law_7 : decode cL_law 7 = .ok (.astore_n 1, 1) := by decide +kernel
theorem dL_law_8 : decode cL_law 8 = .ok (.new 10, 3) := by decide +kernel
theorem dL_law_11 : decode cL_law 11 = .ok (.dup, 1) := by decide +kernel
theorem dL_law_12 : decode cL_law 12 = .ok (.invokespecial 12, 3) := by decide +kernel
theorem dL_law_15 : decode cL_law 15 = .ok (.astore_n 2, 1) := by decide +kernel
theorem dL_law_16 : decode cL_law 16 = .ok (.iconst 0, 1) := by decide +kernel
theorem dL_law_17 : decode cL_law 17 = .ok (.istore_n 3, 1) := by decide +kernel
theorem dL_law_18 : decode cL_law 18 = .ok (.iload_n 3, 1) := by decide +kernel
theorem dL_law_19 : decode cL_law 19 = .ok (.aload_n 0, 1) := by decide +kernel
theorem dL_law_20 : decode cL_law 20 = .ok (.arraylength, 1) := by decide +kernel
theorem dL_law_21 : decode cL_law 21 = .ok (.iconst 5, 1) := by decide +kernel
theorem dL_law_22 : decode cL_law 22 = .ok (.isub, 1) := by decide +kernel
theorem dL_law_23 : decode cL_law 23 = .ok (.if_icmp .gt 284, 3) := by decide +kernel
theorem dL_law_26 : decode cL_law 26 = .ok (.aload_n 0, 1) := by decide +kernel
theorem dL_law_27 : decode cL_law 27 = .ok (.iload_n 3, 1) := by decide +kernel
theorem dL_law_28 : decode cL_law 28 = .ok (.iaload, 1) := by decide +kernel
theorem dL_law_29 : decode cL_law 29 = .ok (.bipush 7, 2) := by decide +kernel
theorem dL_law_31 : decode cL_law 31 = .ok (.iand, 1) := by decide +kernel
theorem dL_law_32 : decode cL_law 32 = .ok (.tableswitch 269 0 5 #[40, 63, 136, 170, 203, 236], 40) := by decide +kernel
theorem dL_law_72 : decode cL_law 72 = .ok (.aload_n 1, 1) := by decide +kernel
theorem dL_law_73 : decode cL_law 73 = .ok (.aload_n 0, 1) := by decide +kernel
theorem dL_law_74 : decode cL_law 74 = .ok (.iload_n 3, 1) := by decide +kernel
theorem dL_law_75 : decode cL_law 75 = .ok (.iconst 1, 1) := by decide +kernel
theorem dL_law_76 : decode cL_law 76 = .ok (.iadd, 1) := by decide +kernel
theorem dL_law_77 : decode cL_law 77 = .ok (.iaload, 1) := by decide +kernel
theorem dL_law_78 : decode cL_law 78 = .ok (.invokevirtual 13, 3) := by decide +kernel
theorem dL_law_81 : decode cL_law 81 = .ok (.aload_n 2, 1) := by decide +kernel
theorem dL_law_82 : decode cL_law 82 = .ok (.aload_n 0, 1) := by decide +kernel
theorem dL_law_83 : decode cL_law 83 = .ok (.iload_n 3, 1) := by decide +kernel
theorem dL_law_84 : decode cL_law 84 = .ok (.iconst 1, 1) := by decide +kernel
theorem dL_law_85 : decode cL_law 85 = .ok (.iadd, 1) := by decide +kernel
theorem dL_law_86 : decode cL_law 86 = .ok (.iaload, 1) := by decide +kernel
theorem dL_law_87 : decode cL_law 87 = .ok (.invokevirtual 17, 3) := by decide +kernel
theorem dL_law_90 : decode cL_law 90 = .ok (.if_icmp .eq 211, 3) := by decide +kernel
theorem dL_law_93 : decode cL_law 93 = .ok (.iconst 0, 1) := by decide +kernel
theorem dL_law_94 : decode cL_law 94 = .ok (.ireturn, 1) := by decide +kernel
theorem dL_law_95 : decode cL_law 95 = .ok (.aload_n 1, 1) := by decide +kernel
theorem dL_law_96 : decode cL_law 96 = .ok (.aload_n 0, 1) := by decide +kernel
theorem dL_law_97 : decode cL_law 97 = .ok (.iload_n 3, 1) := by decide +kernel
theorem dL_law_98 : decode cL_law 98 = .ok (.iconst 1, 1) := by decide +kernel
theorem dL_law_99 : decode cL_law 99 = .ok (.iadd, 1) := by decide +kernel
theorem dL_law_100 : decode cL_law 100 = .ok (.iaload, 1) := by decide +kernel
theorem dL_law_101 : decode cL_law 101 = .ok (.aload_n 0, 1) := by decide +kernel
theorem dL_law_102 : decode cL_law 102 = .ok (.iload_n 3, 1) := by decide +kernel
theorem dL_law_103 : decode cL_law 103 = .ok (.iconst 2, 1) := by decide +kernel
theorem dL_law_104 : decode cL_law 104 = .ok (.iadd, 1) := by decide +kernel
theorem dL_law_105 : decode cL_law 105 = .ok (.iaload, 1) := by decide +kernel
theorem dL_law_106 : decode cL_law 106 = .ok (.aload_n 0, 1) := by decide +kernel
theorem dL_law_107 : decode cL_law 107 = .ok (.iload_n 3, 1) := by decide +kernel
theorem dL_law_108 : decode cL_law 108 = .ok (.iconst 3, 1) := by decide +kernel
theorem dL_law_109 : decode cL_law 109 = .ok (.iadd, 1) := by decide +kernel
theorem dL_law_110 : decode cL_law 110 = .ok (.iaload, 1) := by decide +kernel
theorem dL_law_111 : decode cL_law 111 = .ok (.i2l, 1) := by decide +kernel
theorem dL_law_112 : decode cL_law 112 = .ok (.bipush 32, 2) := by decide +kernel
theorem dL_law_114 : decode cL_law 114 = .ok (.lshl, 1) := by decide +kernel
theorem dL_law_115 : decode cL_law 115 = .ok (.aload_n 0, 1) := by decide +kernel
theorem dL_law_116 : decode cL_law 116 = .ok (.iload_n 3, 1) := by decide +kernel
theorem dL_law_117 : decode cL_law 117 = .ok (.iconst 4, 1) := by decide +kernel
theorem dL_law_118 : decode cL_law 118 = .ok (.iadd, 1) := by decide +kernel
theorem dL_law_119 : decode cL_law 119 = .ok (.iaload, 1) := by decide +kernel
theorem dL_law_120 : decode cL_law 120 = .ok (.i2l, 1) := by decide +kernel
theorem dL_law_121 : decode cL_law 121 = .ok (.ldc2_w 18, 3) := by decide +kernel
theorem dL_law_124 : decode cL_law 124 = .ok (.land, 1) := by decide +kernel
theorem dL_law_125 : decode cL_law 125 = .ok (.lor, 1) := by decide +kernel
theorem dL_law_126 : decode cL_law 126 = .ok (.invokevirtual 20, 3) := by decide +kernel
theorem dL_law_129 : decode cL_law 129 = .ok (.aload_n 2, 1) := by decide +kernel
theorem dL_law_130 : decode cL_law 130 = .ok (.aload_n 0, 1) := by decide +kernel
theorem dL_law_131 : decode cL_law 131 = .ok (.iload_n 3, 1) := by decide +kernel
theorem dL_law_132 : decode cL_law 132 = .ok (.iconst 1, 1) := by decide +kernel
theorem dL_law_133 : decode cL_law 133 = .ok (.iadd, 1) := by decide +kernel
theorem dL_law_134 : decode cL_law 134 = .ok (.iaload, 1) := by decide +kernel
theorem dL_law_135 : decode cL_law 135 = .ok (.aload_n 0, 1) := by decide +kernel
theorem dL_law_136 : decode cL_law 136 = .ok (.iload_n 3, 1) := by decide +kernel
theorem dL_law_137 : decode cL_law 137 = .ok (.iconst 2, 1) := by decide +kernel
theorem dL_law_138 : decode cL_law 138 = .ok (.iadd, 1) := by decide +kernel
theorem dL_law_139 : decode cL_law 139 = .ok (.iaload, 1) := by decide +kernel
theorem dL_law_140 : decode cL_law 140 = .ok (.aload_n 0, 1) := by decide +kernel
theorem dL_law_141 : decode cL_law 141 = .ok (.iload_n 3, 1) := by decide +kernel
theorem dL_law_142 : decode cL_law 142 = .ok (.iconst 3, 1) := by decide +kernel
theorem dL_law_143 : decode cL_law 143 = .ok (.iadd, 1) := by decide +kernel
theorem dL_law_144 : decode cL_law 144 = .ok (.iaload, 1) := by decide +kernel
theorem dL_law_145 : decode cL_law 145 = .ok (.i2l, 1) := by decide +kernel
theorem dL_law_146 : decode cL_law 146 = .ok (.bipush 32, 2) := by decide +kernel
theorem dL_law_148 : decode cL_law 148 = .ok (.lshl, 1) := by decide +kernel
theorem dL_law_149 : decode cL_law 149 = .ok (.aload_n 0, 1) := by decide +kernel
theorem dL_law_150 : decode cL_law 150 = .ok (.iload_n 3, 1) := by decide +kernel
theorem dL_law_151 : decode cL_law 151 = .ok (.iconst 4, 1) := by decide +kernel
theorem dL_law_152 : decode cL_law 152 = .ok (.iadd, 1) := by decide +kernel
theorem dL_law_153 : decode cL_law 153 = .ok (.iaload, 1) := by decide +kernel
theorem dL_law_154 : decode cL_law 154 = .ok (.i2l, 1) := by decide +kernel
theorem dL_law_155 : decode cL_law 155 = .ok (.ldc2_w 18, 3) := by decide +kernel
theorem dL_law_158 : decode cL_law 158 = .ok (.land, 1) := by decide +kernel
theorem dL_law_159 : decode cL_law 159 = .ok (.lor, 1) := by decide +kernel
theorem dL_law_160 : decode cL_law 160 = .ok (.invokevirtual 24, 3) := by decide +kernel
theorem dL_law_163 : decode cL_law 163 = .ok (.if_icmp .eq 138, 3) := by decide +kernel
theorem dL_law_166 : decode cL_law 166 = .ok (.iconst 0, 1) := by decide +kernel
theorem dL_law_167 : decode cL_law 167 = .ok (.ireturn, 1) := by decide +kernel
theorem dL_law_168 : decode cL_law 168 = .ok (.aload_n 1, 1) := by decide +kernel
theorem dL_law_169 : decode cL_law 169 = .ok (.aload_n 0, 1) := by decide +kernel
theorem dL_law_170 : decode cL_law 170 = .ok (.iload_n 3, 1) := by decide +kernel
theorem dL_law_171 : decode cL_law 171 = .ok (.iconst 1, 1) := by decide +kernel
theorem dL_law_172 : decode cL_law 172 = .ok (.iadd, 1) := by decide +kernel
theorem dL_law_173 : decode cL_law 173 = .ok (.iaload, 1) := by decide +kernel
theorem dL_law_174 : decode cL_law 174 = .ok (.aload_n 0, 1) := by decide +kernel
theorem dL_law_175 : decode cL_law 175 = .ok (.iload_n 3, 1) := by decide +kernel
theorem dL_law_176 : decode cL_law 176 = .ok (.iconst 2, 1) := by decide +kernel
theorem dL_law_177 : decode cL_law 177 = .ok (.iadd, 1) := by decide +kernel
theorem dL_law_178 : decode cL_law 178 = .ok (.iaload, 1) := by decide +kernel
theorem dL_law_179 : decode cL_law 179 = .ok (.invokevirtual 25, 3) := by decide +kernel
theorem dL_law_182 : decode cL_law 182 = .ok (.aload_n 2, 1) := by decide +kernel
theorem dL_law_183 : decode cL_law 183 = .ok (.aload_n 0, 1) := by decide +kernel
theorem dL_law_184 : decode cL_law 184 = .ok (.iload_n 3, 1) := by decide +kernel
theorem dL_law_185 : decode cL_law 185 = .ok (.iconst 1, 1) := by decide +kernel
theorem dL_law_186 : decode cL_law 186 = .ok (.iadd, 1) := by decide +kernel
theorem dL_law_187 : decode cL_law 187 = .ok (.iaload, 1) := by decide +kernel
theorem dL_law_188 : decode cL_law 188 = .ok (.aload_n 0, 1) := by decide +kernel
theorem dL_law_189 : decode cL_law 189 = .ok (.iload_n 3, 1) := by decide +kernel
theorem dL_law_190 : decode cL_law 190 = .ok (.iconst 2, 1) := by decide +kernel
theorem dL_law_191 : decode cL_law 191 = .ok (.iadd, 1) := by decide +kernel
theorem dL_law_192 : decode cL_law 192 = .ok (.iaload, 1) := by decide +kernel
theorem dL_law_193 : decode cL_law 193 = .ok (.invokevirtual 29, 3) := by decide +kernel
theorem dL_law_196 : decode cL_law 196 = .ok (.lcmp, 1) := by decide +kernel
theorem dL_law_197 : decode cL_law 197 = .ok (.ifCond .eq 104, 3) := by decide +kernel
theorem dL_law_200 : decode cL_law 200 = .ok (.iconst 0, 1) := by decide +kernel
theorem dL_law_201 : decode cL_law 201 = .ok (.ireturn, 1) := by decide +kernel
theorem dL_law_202 : decode cL_law 202 = .ok (.aload_n 1, 1) := by decide +kernel
theorem dL_law_203 : decode cL_law 203 = .ok (.aload_n 0, 1) := by decide +kernel
theorem dL_law_204 : decode cL_law 204 = .ok (.iload_n 3, 1) := by decide +kernel
theorem dL_law_205 : decode cL_law 205 = .ok (.iconst 1, 1) := by decide +kernel
theorem dL_law_206 : decode cL_law 206 = .ok (.iadd, 1) := by decide +kernel
theorem dL_law_207 : decode cL_law 207 = .ok (.iaload, 1) := by decide +kernel
theorem dL_law_208 : decode cL_law 208 = .ok (.aload_n 0, 1) := by decide +kernel
theorem dL_law_209 : decode cL_law 209 = .ok (.iload_n 3, 1) := by decide +kernel
theorem dL_law_210 : decode cL_law 210 = .ok (.iconst 2, 1) := by decide +kernel
theorem dL_law_211 : decode cL_law 211 = .ok (.iadd, 1) := by decide +kernel
theorem dL_law_212 : decode cL_law 212 = .ok (.iaload, 1) := by decide +kernel
theorem dL_law_213 : decode cL_law 213 = .ok (.invokevirtual 30, 3) := by decide +kernel
theorem dL_law_216 : decode cL_law 216 = .ok (.aload_n 2, 1) := by decide +kernel
theorem dL_law_217 : decode cL_law 217 = .ok (.aload_n 0, 1) := by decide +kernel
theorem dL_law_218 : decode cL_law 218 = .ok (.iload_n 3, 1) := by decide +kernel
theorem dL_law_219 : decode cL_law 219 = .ok (.iconst 1, 1) := by decide +kernel
theorem dL_law_220 : decode cL_law 220 = .ok (.iadd, 1) := by decide +kernel
theorem dL_law_221 : decode cL_law 221 = .ok (.iaload, 1) := by decide +kernel
theorem dL_law_222 : decode cL_law 222 = .ok (.aload_n 0, 1) := by decide +kernel
theorem dL_law_223 : decode cL_law 223 = .ok (.iload_n 3, 1) := by decide +kernel
theorem dL_law_224 : decode cL_law 224 = .ok (.iconst 2, 1) := by decide +kernel
theorem dL_law_225 : decode cL_law 225 = .ok (.iadd, 1) := by decide +kernel
theorem dL_law_226 : decode cL_law 226 = .ok (.iaload, 1) := by decide +kernel
theorem dL_law_227 : decode cL_law 227 = .ok (.invokevirtual 34, 3) := by decide +kernel
theorem dL_law_230 : decode cL_law 230 = .ok (.if_icmp .eq 71, 3) := by decide +kernel
theorem dL_law_233 : decode cL_law 233 = .ok (.iconst 0, 1) := by decide +kernel
theorem dL_law_234 : decode cL_law 234 = .ok (.ireturn, 1) := by decide +kernel
theorem dL_law_235 : decode cL_law 235 = .ok (.aload_n 1, 1) := by decide +kernel
theorem dL_law_236 : decode cL_law 236 = .ok (.aload_n 0, 1) := by decide +kernel
theorem dL_law_237 : decode cL_law 237 = .ok (.iload_n 3, 1) := by decide +kernel
theorem dL_law_238 : decode cL_law 238 = .ok (.iconst 1, 1) := by decide +kernel
theorem dL_law_239 : decode cL_law 239 = .ok (.iadd, 1) := by decide +kernel
theorem dL_law_240 : decode cL_law 240 = .ok (.iaload, 1) := by decide +kernel
theorem dL_law_241 : decode cL_law 241 = .ok (.aload_n 0, 1) := by decide +kernel
theorem dL_law_242 : decode cL_law 242 = .ok (.iload_n 3, 1) := by decide +kernel
theorem dL_law_243 : decode cL_law 243 = .ok (.iconst 2, 1) := by decide +kernel
theorem dL_law_244 : decode cL_law 244 = .ok (.iadd, 1) := by decide +kernel
theorem dL_law_245 : decode cL_law 245 = .ok (.iaload, 1) := by decide +kernel
theorem dL_law_246 : decode cL_law 246 = .ok (.invokevirtual 35, 3) := by decide +kernel
theorem dL_law_249 : decode cL_law 249 = .ok (.aload_n 2, 1) := by decide +kernel
theorem dL_law_250 : decode cL_law 250 = .ok (.aload_n 0, 1) := by decide +kernel
theorem dL_law_251 : decode cL_law 251 = .ok (.iload_n 3, 1) := by decide +kernel
theorem dL_law_252 : decode cL_law 252 = .ok (.iconst 1, 1) := by decide +kernel
theorem dL_law_253 : decode cL_law 253 = .ok (.iadd, 1) := by decide +kernel
theorem dL_law_254 : decode cL_law 254 = .ok (.iaload, 1) := by decide +kernel
theorem dL_law_255 : decode cL_law 255 = .ok (.aload_n 0, 1) := by decide +kernel
theorem dL_law_256 : decode cL_law 256 = .ok (.iload_n 3, 1) := by decide +kernel
theorem dL_law_257 : decode cL_law 257 = .ok (.iconst 2, 1) := by decide +kernel
theorem dL_law_258 : decode cL_law 258 = .ok (.iadd, 1) := by decide +kernel
theorem dL_law_259 : decode cL_law 259 = .ok (.iaload, 1) := by decide +kernel
theorem dL_law_260 : decode cL_law 260 = .ok (.invokevirtual 39, 3) := by decide +kernel
theorem dL_law_263 : decode cL_law 263 = .ok (.if_icmp .eq 38, 3) := by decide +kernel
theorem dL_law_266 : decode cL_law 266 = .ok (.iconst 0, 1) := by decide +kernel
theorem dL_law_267 : decode cL_law 267 = .ok (.ireturn, 1) := by decide +kernel
theorem dL_law_268 : decode cL_law 268 = .ok (.aload_n 1, 1) := by decide +kernel
theorem dL_law_269 : decode cL_law 269 = .ok (.aload_n 0, 1) := by decide +kernel
theorem dL_law_270 : decode cL_law 270 = .ok (.iload_n 3, 1) := by decide +kernel
theorem dL_law_271 : decode cL_law 271 = .ok (.iconst 1, 1) := by decide +kernel
theorem dL_law_272 : decode cL_law 272 = .ok (.iadd, 1) := by decide +kernel
theorem dL_law_273 : decode cL_law 273 = .ok (.iaload, 1) := by decide +kernel
theorem dL_law_274 : decode cL_law 274 = .ok (.aload_n 0, 1) := by decide +kernel
theorem dL_law_275 : decode cL_law 275 = .ok (.iload_n 3, 1) := by decide +kernel
theorem dL_law_276 : decode cL_law 276 = .ok (.iconst 2, 1) := by decide +kernel
theorem dL_law_277 : decode cL_law 277 = .ok (.iadd, 1) := by decide +kernel
theorem dL_law_278 : decode cL_law 278 = .ok (.iaload, 1) := by decide +kernel
theorem dL_law_279 : decode cL_law 279 = .ok (.invokevirtual 40, 3) := by decide +kernel
theorem dL_law_282 : decode cL_law 282 = .ok (.aload_n 2, 1) := by decide +kernel
theorem dL_law_283 : decode cL_law 283 = .ok (.aload_n 0, 1) := by decide +kernel
theorem dL_law_284 : decode cL_law 284 = .ok (.iload_n 3, 1) := by decide +kernel
theorem dL_law_285 : decode cL_law 285 = .ok (.iconst 1, 1) := by decide +kernel
theorem dL_law_286 : decode cL_law 286 = .ok (.iadd, 1) := by decide +kernel
theorem dL_law_287 : decode cL_law 287 = .ok (.iaload, 1) := by decide +kernel
theorem dL_law_288 : decode cL_law 288 = .ok (.aload_n 0, 1) := by decide +kernel
theorem dL_law_289 : decode cL_law 289 = .ok (.iload_n 3, 1) := by decide +kernel
theorem dL_law_290 : decode cL_law 290 = .ok (.iconst 2, 1) := by decide +kernel
theorem dL_law_291 : decode cL_law 291 = .ok (.iadd, 1) := by decide +kernel
theorem dL_law_292 : decode cL_law 292 = .ok (.iaload, 1) := by decide +kernel
theorem dL_law_293 : decode cL_law 293 = .ok (.invokevirtual 43, 3) := by decide +kernel
theorem dL_law_296 : decode cL_law 296 = .ok (.if_icmp .eq 5, 3) := by decide +kernel
theorem dL_law_299 : decode cL_law 299 = .ok (.iconst 0, 1) := by decide +kernel
theorem dL_law_300 : decode cL_law 300 = .ok (.ireturn, 1) := by decide +kernel
theorem dL_law_301 : decode cL_law 301 = .ok (.iinc 3 5, 3) := by decide +kernel
theorem dL_law_304 : decode cL_law 304 = .ok (.goto (-286), 3) := by decide +kernel
theorem dL_law_307 : decode cL_law 307 = .ok (.iconst 1, 1) := by decide +kernel
theorem dL_law_308 : decode cL_law 308 = .ok (.ireturn, 1) := by decide +kernel
abbrev vwCl : List vw_C := [(RX0, TX0, 6), (RX1, TX1, 0), (RX2, TX2, 2), (RX3, TX3, 3)]
end
section
/-! The kinds' constants, the words for the four constant objects, and short rows over the kit's. -/
def kU (k : Nat) : Int32 := match k with
  | 0 => 32
  | 1 => 0
  | 2 => 32
  | _ => 0
def kF (k : Nat) : Int32 := match k with
  | 0 => 0
  | 1 => 0
  | 2 => 1
  | _ => 1
def kR (k : Nat) : Int32 := match k with
  | 0 => 0
  | 1 => 0
  | 2 => 23
  | _ => 52
def kB (k : Nat) : Int32 := match k with
  | 0 => 0
  | 1 => 0
  | 2 => 127
  | _ => 1023
def kS (k : Nat) : Int64 := match k with
  | 0 => -2147483648
  | 1 => -9223372036854775808
  | 2 => -2147483648
  | _ => -9223372036854775808
/-- the four constant objects stand at ad 0 .. ad 3, hold their numbers, and are never written -/
def kw (ad : Nat → Nat) (A : Nat → Prop) (U : State) (H : Heap) : Prop :=
  (∀ i : Nat, i < 4 → va_O "ServoDesk$Kind" (ad i) A U H) ∧ va_Ef 4 "ServoDesk$Kind" "unused" "I" (fun i => .int (kU i)) ad A U H ∧ va_Ef 4 "ServoDesk$Kind" "floating" "Z" (fun i => .int (kF i)) ad A U H ∧ va_Ef 4 "ServoDesk$Kind" "fraction" "I" (fun i => .int (kR i)) ad A U H ∧ va_Ef 4 "ServoDesk$Kind" "bias" "I" (fun i => .int (kB i)) ad A U H ∧ va_Ef 4 "ServoDesk$Kind" "sign" "J" (fun i => .long (kS i)) ad A U H ∧ (∀ i j : Nat, i < 4 → j < 4 → ad i = ad j → i = j)
theorem kw_moved {ad : Nat → Nat} {A : Nat → Prop} {u U : State} {H : Heap} (hvm : u.vm.Alike U.vm) (h : kw ad A u H) : kw ad A U H :=
  ⟨fun i hi => va_O.moved hvm (h.1 i hi), va_Ef.moved hvm h.2.1, va_Ef.moved hvm h.2.2.1, va_Ef.moved hvm h.2.2.2.1, va_Ef.moved hvm h.2.2.2.2.1, va_Ef.moved hvm h.2.2.2.2.2.1, h.2.2.2.2.2.2⟩
theorem kw_kept {ad : Nat → Nat} {A : Nat → Prop} {U : State} {H H1 : Heap} (h : kw ad A U H) (hq : ∀ a : Nat, a < H.size → ¬ A a → H1[a]? = H[a]?) : kw ad A U H1 :=
  ⟨fun i hi => (h.1 i hi).kept hq, h.2.1.kept hq, h.2.2.1.kept hq, h.2.2.2.1.kept hq, h.2.2.2.2.1.kept hq, h.2.2.2.2.2.1.kept hq, h.2.2.2.2.2.2⟩
theorem kw_narrow {ad : Nat → Nat} {A B : Nat → Prop} {U : State} {H : Heap} (h : kw ad A U H) (hAB : ∀ q, B q → A q) : kw ad B U H :=
  ⟨fun i hi => (h.1 i hi).narrow hAB, h.2.1.narrow hAB, h.2.2.1.narrow hAB, h.2.2.2.1.narrow hAB, h.2.2.2.2.1.narrow hAB, h.2.2.2.2.2.1.narrow hAB, h.2.2.2.2.2.2⟩
/-- for a call: the constants as the callee takes them -/
theorem kw_call {ad : Nat → Nat} {A : Nat → Prop} {s U : State} {H : Heap} {locs : List Loc} (h : kw ad A s s.heap) (hS : va_S A s.heap H locs) (hU : U.heap = H) (hW : s.WarmedH U.vm) : kw ad (fun _ => False) U U.heap := by
  rw [hU]
  exact kw_moved hW.alike (kw_narrow (kw_kept h hS.2.1) (fun _ q => q.elim))
theorem kw_blind {ad : Nat → Nat} {A : Nat → Prop} {U : State} {g : JFrame} {mk : MethodId} {a : Array Value} (h : kw ad A U U.heap) : kw ad A (U.calling g mk a) (U.calling g mk a).heap := kw_moved (u := U) (U := U.calling g mk a) (Vm.Alike.refl U.vm) h
theorem kw_recv {ad : Nat → Nat} {A : Nat → Prop} {s : State} {H : Heap} {locs : List Loc} {k : Nat} (h : kw ad A s s.heap) (hS : va_S A s.heap H locs) (hk : k < 4) : ∃ cell : Cell, H[ad k]? = some cell ∧ cell.vm.isStatics = false ∧ s.vm.findClass "ServoDesk$Kind" = some cell.cls := by
  obtain ⟨cell, h1, h2, h3, -⟩ := (h.1 k hk).kept hS.2.1
  exact ⟨cell, h1, h2, h3⟩
theorem zc_lt (x y : Int64) : lg_cmp x y < 0 ↔ x < y := by
  unfold lg_cmp
  simp only [Int64.lt_iff_toInt_lt, ← Int64.toInt_inj]
  split
  · constructor
    · intro h; exact absurd h (by decide)
    · intro h; omega
  · split
    · constructor
      · intro h; exact absurd h (by decide)
      · intro h; omega
    · constructor
      · intro h; omega
      · intro h; decide
theorem zc_gt (x y : Int64) : 0 < lg_cmp x y ↔ y < x := by
  unfold lg_cmp
  simp only [Int64.lt_iff_toInt_lt, ← Int64.toInt_inj]
  split
  · constructor
    · intro h; assumption
    · intro h; decide
  · split
    · constructor
      · intro h; exact absurd h (by decide)
      · intro h; omega
    · constructor
      · intro h; exact absurd h (by decide)
      · intro h; omega
theorem zc_ge (x y : Int64) : 0 ≤ lg_cmp x y ↔ y ≤ x := by
  unfold lg_cmp
  simp only [Int64.lt_iff_toInt_lt, Int64.le_iff_toInt_le, ← Int64.toInt_inj]
  split
  · constructor
    · intro h; omega
    · intro h; decide
  · split
    · constructor
      · intro h; omega
      · intro h; decide
    · constructor
      · intro h; exact absurd h (by decide)
      · intro h; omega
theorem zc_le (x y : Int64) : lg_cmp x y ≤ 0 ↔ x ≤ y := by
  unfold lg_cmp
  simp only [Int64.lt_iff_toInt_lt, Int64.le_iff_toInt_le, ← Int64.toInt_inj]
  split
  · constructor
    · intro h; exact absurd h (by decide)
    · intro h; omega
  · split
    · constructor
      · intro h; omega
      · intro h; decide
    · constructor
      · intro h; omega
      · intro h; decide
theorem zc_eq (x y : Int64) : lg_cmp x y = 0 ↔ x = y := by
  unfold lg_cmp
  simp only [Int64.lt_iff_toInt_lt]
  split
  · constructor
    · intro h; exact absurd h (by decide)
    · intro h; subst h; omega
  · split
    · constructor
      · intro h; assumption
      · intro h; rfl
    · constructor
      · intro h; exact absurd h (by decide)
      · intro h; contradiction
section ZL
variable {p : Program} {l : Launch} {e : Env} {R : Room} {s : State} {m : MethodId} {args : Array Value} {below : List Frame} {meth : Method} {c : Code} {H : Heap} {locs : List Loc} {cells slots : Nat} {Q : State → Prop}
variable {cc : ByteArray} {pc : Nat} {ls : Array Slot} {rest : List Value}
theorem zl_lt (hx : p.tables.exec = Jvm.exec) (hb : c.code = cc) {x y : Int64} {off : Int} {tgt : Nat} (h1 : decode cc pc = .ok (.lcmp, 1)) (h2 : decode cc (pc + 1) = .ok (.ifCond .lt off, 3)) (ht : ((pc + 1 : Nat) : Int) + off = (tgt : Int)) (kt : x < y → W p l e R s m args below meth c H locs cells slots Q (F0 m tgt ls rest)) (kf : ¬ x < y → W p l e R s m args below meth c H locs cells slots Q (F0 m (pc + 1 + 3) ls rest)) : W p l e R s m args below meth c H locs cells slots Q (F0 m pc ls (.long y :: .long x :: rest)) := W.lcmp hx hb h1 (lv_if_lt hx hb h2 ht (fun h => kt ((zc_lt x y).mp h)) (fun h => kf (fun q => h ((zc_lt x y).mpr q))))
theorem zl_gt (hx : p.tables.exec = Jvm.exec) (hb : c.code = cc) {x y : Int64} {off : Int} {tgt : Nat} (h1 : decode cc pc = .ok (.lcmp, 1)) (h2 : decode cc (pc + 1) = .ok (.ifCond .gt off, 3)) (ht : ((pc + 1 : Nat) : Int) + off = (tgt : Int)) (kt : y < x → W p l e R s m args below meth c H locs cells slots Q (F0 m tgt ls rest)) (kf : ¬ y < x → W p l e R s m args below meth c H locs cells slots Q (F0 m (pc + 1 + 3) ls rest)) : W p l e R s m args below meth c H locs cells slots Q (F0 m pc ls (.long y :: .long x :: rest)) := W.lcmp hx hb h1 (lv_if_gt hx hb h2 ht (fun h => kt ((zc_gt x y).mp h)) (fun h => kf (fun q => h ((zc_gt x y).mpr q))))
theorem zl_ge (hx : p.tables.exec = Jvm.exec) (hb : c.code = cc) {x y : Int64} {off : Int} {tgt : Nat} (h1 : decode cc pc = .ok (.lcmp, 1)) (h2 : decode cc (pc + 1) = .ok (.ifCond .ge off, 3)) (ht : ((pc + 1 : Nat) : Int) + off = (tgt : Int)) (kt : y ≤ x → W p l e R s m args below meth c H locs cells slots Q (F0 m tgt ls rest)) (kf : ¬ y ≤ x → W p l e R s m args below meth c H locs cells slots Q (F0 m (pc + 1 + 3) ls rest)) : W p l e R s m args below meth c H locs cells slots Q (F0 m pc ls (.long y :: .long x :: rest)) := W.lcmp hx hb h1 (lv_if_ge hx hb h2 ht (fun h => kt ((zc_ge x y).mp h)) (fun h => kf (fun q => h ((zc_ge x y).mpr q))))
theorem zl_le (hx : p.tables.exec = Jvm.exec) (hb : c.code = cc) {x y : Int64} {off : Int} {tgt : Nat} (h1 : decode cc pc = .ok (.lcmp, 1)) (h2 : decode cc (pc + 1) = .ok (.ifCond .le off, 3)) (ht : ((pc + 1 : Nat) : Int) + off = (tgt : Int)) (kt : x ≤ y → W p l e R s m args below meth c H locs cells slots Q (F0 m tgt ls rest)) (kf : ¬ x ≤ y → W p l e R s m args below meth c H locs cells slots Q (F0 m (pc + 1 + 3) ls rest)) : W p l e R s m args below meth c H locs cells slots Q (F0 m pc ls (.long y :: .long x :: rest)) := W.lcmp hx hb h1 (lv_if_le hx hb h2 ht (fun h => kt ((zc_le x y).mp h)) (fun h => kf (fun q => h ((zc_le x y).mpr q))))
theorem zl_eq (hx : p.tables.exec = Jvm.exec) (hb : c.code = cc) {x y : Int64} {off : Int} {tgt : Nat} (h1 : decode cc pc = .ok (.lcmp, 1)) (h2 : decode cc (pc + 1) = .ok (.ifCond .eq off, 3)) (ht : ((pc + 1 : Nat) : Int) + off = (tgt : Int)) (kt : x = y → W p l e R s m args below meth c H locs cells slots Q (F0 m tgt ls rest)) (kf : ¬ x = y → W p l e R s m args below meth c H locs cells slots Q (F0 m (pc + 1 + 3) ls rest)) : W p l e R s m args below meth c H locs cells slots Q (F0 m pc ls (.long y :: .long x :: rest)) := W.lcmp hx hb h1 (lv_if_eq hx hb h2 ht (fun h => kt ((zc_eq x y).mp h)) (fun h => kf (fun q => h ((zc_eq x y).mpr q))))
theorem zl_ne (hx : p.tables.exec = Jvm.exec) (hb : c.code = cc) {x y : Int64} {off : Int} {tgt : Nat} (h1 : decode cc pc = .ok (.lcmp, 1)) (h2 : decode cc (pc + 1) = .ok (.ifCond .ne off, 3)) (ht : ((pc + 1 : Nat) : Int) + off = (tgt : Int)) (kt : ¬ x = y → W p l e R s m args below meth c H locs cells slots Q (F0 m tgt ls rest)) (kf : x = y → W p l e R s m args below meth c H locs cells slots Q (F0 m (pc + 1 + 3) ls rest)) : W p l e R s m args below meth c H locs cells slots Q (F0 m pc ls (.long y :: .long x :: rest)) := W.lcmp hx hb h1 (lv_if_ne hx hb h2 ht (fun h => kt (fun q => h ((zc_eq x y).mpr q))) (fun h => kf ((zc_eq x y).mp h)))
variable {ad : Nat → Nat} {A : Nat → Prop} {k : Nat} {own : String} {index : Nat}
theorem kg_unused (hx : p.tables.exec = Jvm.exec) (hb : c.code = cc) (hW : kw ad A s s.heap) (hk : k < 4) (hS : va_S A s.heap H locs) (hown : s.vm.findClass own = some m.cls) (hlink : (Cond.fieldLink own index "ServoDesk$Kind" "unused" "I").before args s = true) (hdg : decode cc pc = .ok (.getfield index, 3)) (kk : W p l e R s m args below meth c H locs cells slots Q (F0 m (pc + 3) ls (.int (kU k) :: rest))) : W p l e R s m args below meth c H locs cells slots Q (F0 m pc ls (.ref (ad k) :: rest)) := va_getX hx hb hW.2.1 hk hS hown hlink (fun _ h => h) hdg kk
theorem kg_floating (hx : p.tables.exec = Jvm.exec) (hb : c.code = cc) (hW : kw ad A s s.heap) (hk : k < 4) (hS : va_S A s.heap H locs) (hown : s.vm.findClass own = some m.cls) (hlink : (Cond.fieldLink own index "ServoDesk$Kind" "floating" "Z").before args s = true) (hdg : decode cc pc = .ok (.getfield index, 3)) (kk : W p l e R s m args below meth c H locs cells slots Q (F0 m (pc + 3) ls (.int (kF k) :: rest))) : W p l e R s m args below meth c H locs cells slots Q (F0 m pc ls (.ref (ad k) :: rest)) := va_getX hx hb hW.2.2.1 hk hS hown hlink (fun _ h => h) hdg kk
theorem kg_fraction (hx : p.tables.exec = Jvm.exec) (hb : c.code = cc) (hW : kw ad A s s.heap) (hk : k < 4) (hS : va_S A s.heap H locs) (hown : s.vm.findClass own = some m.cls) (hlink : (Cond.fieldLink own index "ServoDesk$Kind" "fraction" "I").before args s = true) (hdg : decode cc pc = .ok (.getfield index, 3)) (kk : W p l e R s m args below meth c H locs cells slots Q (F0 m (pc + 3) ls (.int (kR k) :: rest))) : W p l e R s m args below meth c H locs cells slots Q (F0 m pc ls (.ref (ad k) :: rest)) := va_getX hx hb hW.2.2.2.1 hk hS hown hlink (fun _ h => h) hdg kk
theorem kg_bias (hx : p.tables.exec = Jvm.exec) (hb : c.code = cc) (hW : kw ad A s s.heap) (hk : k < 4) (hS : va_S A s.heap H locs) (hown : s.vm.findClass own = some m.cls) (hlink : (Cond.fieldLink own index "ServoDesk$Kind" "bias" "I").before args s = true) (hdg : decode cc pc = .ok (.getfield index, 3)) (kk : W p l e R s m args below meth c H locs cells slots Q (F0 m (pc + 3) ls (.int (kB k) :: rest))) : W p l e R s m args below meth c H locs cells slots Q (F0 m pc ls (.ref (ad k) :: rest)) := va_getX hx hb hW.2.2.2.2.1 hk hS hown hlink (fun _ h => h) hdg kk
theorem kg_sign (hx : p.tables.exec = Jvm.exec) (hb : c.code = cc) (hW : kw ad A s s.heap) (hk : k < 4) (hS : va_S A s.heap H locs) (hown : s.vm.findClass own = some m.cls) (hlink : (Cond.fieldLink own index "ServoDesk$Kind" "sign" "J").before args s = true) (hdg : decode cc pc = .ok (.getfield index, 3)) (kk : W p l e R s m args below meth c H locs cells slots Q (F0 m (pc + 3) ls (.long (kS k) :: rest))) : W p l e R s m args below meth c H locs cells slots Q (F0 m pc ls (.ref (ad k) :: rest)) := va_getX hx hb hW.2.2.2.2.2.1 hk hS hown hlink (fun _ h => h) hdg kk
end ZL
end
section
/-! ===== lN n to 2^64: shifts, and, or, masks, one bit ===== -/
theorem wb_tb (n : Nat) : (lN n).toBitVec = BitVec.ofNat 64 n := rfl
theorem wb_inj {a b : Int64} (h : a.toBitVec = b.toBitVec) : a = b := Int64.toBitVec_inj.mp h
theorem wb_tn {n : Nat} (h : n < 2 ^ 64) : (lN n).toBitVec.toNat = n := by rw [wb_tb, BitVec.toNat_ofNat, Nat.mod_eq_of_lt h]
theorem wb_of (x : Int64) : ∃ n, n < 2 ^ 64 ∧ x = lN n := ⟨x.toBitVec.toNat, x.toBitVec.isLt, wb_inj (by rw [wb_tb]; simp)⟩
theorem wb_of32 (x : Int32) : ∃ n, n < 2 ^ 32 ∧ x = nI n := ⟨x.toBitVec.toNat, x.toBitVec.isLt, Int32.toBitVec_inj.mp (by show _ = BitVec.ofNat 32 _; simp)⟩
theorem wb_c : ∀ k, k < 64 → ((nI k).toInt64 &&& 63) = lN k := by decide +kernel
theorem wb_cu : ∀ k, k < 64 → ((nI k).toInt64.toUInt64 &&& Int64.toUInt64 63) = UInt64.ofNat k := by decide +kernel
theorem wb_sm : ∀ k, k < 64 → (BitVec.ofNat 64 k).smod 64 = BitVec.ofNat 64 k := by decide +kernel
theorem wb_pw {a b : Nat} (h : a ≤ b) : 2 ^ b = 2 ^ a * 2 ^ (b - a) := by rw [← Nat.pow_add]; congr 1; omega
theorem wb_lt2 {a b : Nat} (h : a < b) : 2 ^ a < 2 ^ b := Nat.pow_lt_pow_right (by decide) h
theorem wb_mod (n : Nat) : lN n = lN (n % 2 ^ 64) := wb_inj (by rw [wb_tb, wb_tb]; apply BitVec.eq_of_toNat_eq; rw [BitVec.toNat_ofNat, BitVec.toNat_ofNat, Nat.mod_mod])
theorem wb_shr {n k : Nat} (hn : n < 2 ^ 64) (hk : k < 64) : ((lN n).toUInt64 >>> ((nI k).toInt64.toUInt64 &&& Int64.toUInt64 63)).toInt64 = lN (n / 2 ^ k) := by
  rw [wb_cu k hk]
  apply wb_inj
  apply BitVec.eq_of_toNat_eq
  show ((lN n).toUInt64 >>> UInt64.ofNat k).toNat = (BitVec.ofNat 64 _).toNat
  have h1 : (UInt64.ofNat k).toNat = k := by
    show (BitVec.ofNat 64 k).toNat = k
    rw [BitVec.toNat_ofNat, Nat.mod_eq_of_lt (by omega)]
  have h2 : (lN n).toUInt64.toNat = n := wb_tn hn
  rw [UInt64.toNat_shiftRight, h1, h2, Nat.mod_eq_of_lt hk, Nat.shiftRight_eq_div_pow, BitVec.toNat_ofNat, Nat.mod_eq_of_lt (Nat.lt_of_le_of_lt (Nat.div_le_self _ _) hn)]
theorem wb_shl (n : Nat) {k : Nat} (hk : k < 64) : lN n <<< ((nI k).toInt64 &&& 63) = lN (n * 2 ^ k) := by
  rw [wb_c k hk]
  apply wb_inj
  rw [Int64.toBitVec_shiftLeft, wb_tb, wb_tb, wb_tb, wb_sm k hk]
  apply BitVec.eq_of_toNat_eq
  rw [BitVec.shiftLeft_eq', BitVec.toNat_shiftLeft, BitVec.toNat_ofNat, BitVec.toNat_ofNat, BitVec.toNat_ofNat, Nat.mod_eq_of_lt (show k < 2 ^ 64 by omega), Nat.shiftLeft_eq, Nat.mul_mod, Nat.mod_mod, ← Nat.mul_mod]
theorem wb_and {a b : Nat} (ha : a < 2 ^ 64) (hb : b < 2 ^ 64) : lN a &&& lN b = lN (a &&& b) := by
  apply wb_inj
  rw [Int64.toBitVec_and, wb_tb, wb_tb, wb_tb]
  apply BitVec.eq_of_toNat_eq
  rw [BitVec.toNat_and, BitVec.toNat_ofNat, BitVec.toNat_ofNat, BitVec.toNat_ofNat, Nat.mod_eq_of_lt ha, Nat.mod_eq_of_lt hb, Nat.mod_eq_of_lt (Nat.and_lt_two_pow _ hb)]
theorem wb_or {a b : Nat} (ha : a < 2 ^ 64) (hb : b < 2 ^ 64) : lN a ||| lN b = lN (a ||| b) := by
  apply wb_inj
  rw [Int64.toBitVec_or, wb_tb, wb_tb, wb_tb]
  apply BitVec.eq_of_toNat_eq
  rw [BitVec.toNat_or, BitVec.toNat_ofNat, BitVec.toNat_ofNat, BitVec.toNat_ofNat, Nat.mod_eq_of_lt ha, Nat.mod_eq_of_lt hb, Nat.mod_eq_of_lt (Nat.or_lt_two_pow ha hb)]
theorem wb_mask {n k : Nat} (hn : n < 2 ^ 64) (hk : k < 64) : lN n &&& lN (2 ^ k - 1) = lN (n % 2 ^ k) := by
  rw [wb_and hn (by have := wb_lt2 hk; omega), Nat.and_two_pow_sub_one_eq_mod]
theorem wb_a1 {n : Nat} (hn : n < 2 ^ 64) : lN n &&& 1 = lN (n % 2) := wb_mask (k := 1) hn (by decide)
theorem wb_bit {n k : Nat} (hn : n < 2 ^ 64) (hk : k < 64) : ((lN n).toUInt64 >>> ((nI k).toInt64.toUInt64 &&& Int64.toUInt64 63)).toInt64 &&& 1 = lN (n / 2 ^ k % 2) := by
  rw [wb_shr hn hk, wb_a1 (Nat.lt_of_le_of_lt (Nat.div_le_self _ _) hn)]
theorem wb_xor {q k : Nat} (hk : k < 63) (h : 2 ^ k ≤ q) (h2 : q < 2 ^ (k + 1)) : lN q ^^^ lN (2 ^ k) = lN (q - 2 ^ k) := by
  obtain ⟨r, rfl⟩ : ∃ r, q = 2 ^ k + r := ⟨q - 2 ^ k, by omega⟩
  have hr : r < 2 ^ k := by rw [Nat.pow_succ] at h2; omega
  have hx : (2 ^ k + r) ^^^ 2 ^ k = r := by
    apply Nat.eq_of_testBit_eq
    intro i
    rw [Nat.testBit_xor, Nat.testBit_two_pow]
    rcases Nat.lt_trichotomy i k with h | h | h
    · rw [Nat.testBit_two_pow_add_gt h]
      simp [show ¬ k = i by omega]
    · subst h
      rw [Nat.testBit_two_pow_add_eq]
      simp
    · have a1 : 2 ^ (k + 1) ≤ 2 ^ i := Nat.pow_le_pow_right (by decide) h
      rw [Nat.testBit_lt_two_pow (show 2 ^ k + r < 2 ^ i by omega), Nat.testBit_lt_two_pow (show r < 2 ^ i by omega)]
      simp [show ¬ k = i by omega]
  have b1 := wb_lt2 (show k + 1 < 64 by omega)
  have b2 := wb_lt2 (show k < 64 by omega)
  apply wb_inj
  rw [Int64.toBitVec_xor, wb_tb, wb_tb, wb_tb]
  apply BitVec.eq_of_toNat_eq
  rw [BitVec.toNat_xor, BitVec.toNat_ofNat, BitVec.toNat_ofNat, BitVec.toNat_ofNat, Nat.mod_eq_of_lt (by omega : 2 ^ k + r < 2 ^ 64), Nat.mod_eq_of_lt b2, hx, Nat.add_sub_cancel_left, Nat.mod_eq_of_lt (by omega)]
/-! ===== lN: masks, 'or' of parts that don't overlap is a sum ===== -/
theorem u_tn {n : Nat} (h : n < 2 ^ 64) : (UInt64.ofNat n).toNat = n := Nat.mod_eq_of_lt h
theorem g_and {a b c : Nat} (ha : a < 2 ^ 64) (hb : b < 2 ^ 64) (hc : a &&& b = c) : lN a &&& lN b = lN c := by
  subst hc
  have h : UInt64.ofNat a &&& UInt64.ofNat b = UInt64.ofNat (a &&& b) := UInt64.toNat_inj.mp (by rw [UInt64.toNat_and, u_tn ha, u_tn hb, u_tn (Nat.and_lt_two_pow a hb)])
  have h2 := congrArg UInt64.toInt64 h
  exact h2
theorem g_and1 {a : Nat} (ha : a < 2 ^ 64) : lN a &&& 1 = lN (a % 2) := g_and (b := 1) ha (by decide) (Nat.and_two_pow_sub_one_eq_mod a 1)
theorem g_mask {a s p : Nat} (hp : 2 ^ s = p) (hs : s < 64) (ha : a < 2 ^ 64) : lN a &&& lN (p - 1) = lN (a % p) := by
  subst hp
  have := Nat.pow_lt_pow_right (show 1 < 2 by decide) hs
  exact g_and ha (by omega) (Nat.and_two_pow_sub_one_eq_mod a s)
theorem g_or {k p a b : Nat} (hp : 2 ^ k = p) (ha : a < p) (h : b * p + a < 2 ^ 64) : lN (b * p) ||| lN a = lN (b * p + a) := by
  subst hp
  have h1 : b * 2 ^ k ||| a = b * 2 ^ k + a := by rw [← Nat.shiftLeft_eq, Nat.shiftLeft_add_eq_or_of_lt ha]
  have h3 : UInt64.ofNat (b * 2 ^ k) ||| UInt64.ofNat a = UInt64.ofNat (b * 2 ^ k + a) := UInt64.toNat_inj.mp (by rw [UInt64.toNat_or, u_tn (by omega), u_tn (by omega), u_tn h, h1])
  have h2 := congrArg UInt64.toInt64 h3
  exact h2
theorem g_or' {k p a b : Nat} (hp : 2 ^ k = p) (ha : a < p) (h : a + b * p < 2 ^ 64) : lN a ||| lN (b * p) = lN (a + b * p) := by
  rw [Int64.or_comm, g_or hp ha (by omega), Nat.add_comm]
theorem g_ushr {a k p : Nat} {y : UInt64} (hy : y = UInt64.ofNat k) (hk : k < 64) (hp : 2 ^ k = p) (ha : a < 2 ^ 64) : ((lN a).toUInt64 >>> y).toInt64 = lN (a / p) := by
  subst hy hp
  have h : UInt64.ofNat a >>> UInt64.ofNat k = UInt64.ofNat (a / 2 ^ k) := UInt64.toNat_inj.mp (by rw [UInt64.toNat_shiftRight, u_tn ha, u_tn (by omega), u_tn (Nat.lt_of_le_of_lt (Nat.div_le_self _ _) ha), Nat.mod_eq_of_lt hk, Nat.shiftRight_eq_div_pow])
  have h2 := congrArg UInt64.toInt64 h
  exact h2
theorem g_shl {a k p : Nat} {y : Int64} (hy : y.toBitVec.smod 64 = BitVec.ofNat 64 k) (hk : k < 64) (hp : 2 ^ k = p) (ha : a < 2 ^ 64) : lN a <<< y = lN (a * p) := by
  subst hp
  apply Int64.toBitVec_inj.mp
  rw [Int64.toBitVec_shiftLeft, hy]
  apply BitVec.eq_of_toNat_eq
  have hb : (lN a).toBitVec.toNat = a := Nat.mod_eq_of_lt ha
  have hk' : (BitVec.ofNat 64 k).toNat = k := Nat.mod_eq_of_lt (by omega)
  have h : ((lN a).toBitVec <<< BitVec.ofNat 64 k).toNat = (a * 2 ^ k) % 2 ^ 64 := by simp only [BitVec.shiftLeft_eq', BitVec.toNat_shiftLeft, hb, hk', Nat.shiftLeft_eq]
  exact h
/-! ===== Int64 as an unsigned number: uN x ===== -/
def uN (x : Int64) : Nat := x.toUInt64.toNat
theorem uN_lt (x : Int64) : uN x < 18446744073709551616 := x.toUInt64.toNat_lt
theorem uN_inj {x y : Int64} (h : uN x = uN y) : x = y := congrArg UInt64.toInt64 (UInt64.toNat_inj.mp h)
theorem uN_add (x y : Int64) : uN (x + y) = (uN x + uN y) % 18446744073709551616 := by
  show (x.toUInt64 + y.toUInt64).toNat = _
  exact UInt64.toNat_add _ _
theorem uN_mul (x y : Int64) : uN (x * y) = (uN x * uN y) % 18446744073709551616 := by
  show (x.toUInt64 * y.toUInt64).toNat = _
  exact UInt64.toNat_mul _ _
theorem uN_shl (x : Int64) : uN (x <<< ((1 : Int32).toInt64 &&& 63)) = (2 * uN x) % 18446744073709551616 := by
  have h : (((1 : Int32).toInt64 &&& 63).toBitVec.smod 64).toNat = 1 := by decide
  show (x.toBitVec <<< (((1 : Int32).toInt64 &&& 63).toBitVec.smod 64).toNat).toNat = _
  rw [h, BitVec.toNat_shiftLeft, Nat.shiftLeft_eq, Nat.mul_comm]
  rfl
theorem uN_shr (x : Int64) (s : UInt64) : uN (x.toUInt64 >>> s).toInt64 = uN x / 2 ^ (s.toNat % 64) := by
  show (x.toUInt64 >>> s).toNat = _
  rw [UInt64.toNat_shiftRight, Nat.shiftRight_eq_div_pow]
  rfl
theorem uN_s32 (x : Int64) : uN (x.toUInt64 >>> ((32 : Int32).toInt64.toUInt64 &&& Int64.toUInt64 63)).toInt64 = uN x / 4294967296 := by
  have h : ((32 : Int32).toInt64.toUInt64 &&& Int64.toUInt64 63).toNat % 64 = 32 := by decide
  rw [uN_shr, h]
theorem uN_s63 (x : Int64) : uN (x.toUInt64 >>> ((63 : Int32).toInt64.toUInt64 &&& Int64.toUInt64 63)).toInt64 = uN x / 9223372036854775808 := by
  have h : ((63 : Int32).toInt64.toUInt64 &&& Int64.toUInt64 63).toNat % 64 = 63 := by decide
  rw [uN_shr, h]
theorem uN_lo (x : Int64) : uN (x &&& 4294967295) = uN x % 4294967296 := by
  show (x.toUInt64 &&& Int64.toUInt64 4294967295).toNat = _
  rw [UInt64.toNat_and]
  exact Nat.and_two_pow_sub_one_eq_mod _ 32
theorem uN_bit (x : Int64) : (x &&& 1) = 0 ↔ uN x % 2 = 0 := by
  have h : uN (x &&& 1) = uN x % 2 := by
    show (x.toUInt64 &&& Int64.toUInt64 1).toNat = _
    rw [UInt64.toNat_and]
    exact Nat.and_two_pow_sub_one_eq_mod _ 1
  rw [← h]
  exact ⟨fun z => by rw [z]; rfl, fun z => uN_inj (z.trans rfl)⟩
theorem uN_or {x y : Int64} (hy : uN y < 2) : uN ((x <<< ((1 : Int32).toInt64 &&& 63)) ||| y) = (2 * uN x) % 18446744073709551616 + uN y := by
  have h1 : uN ((x <<< ((1 : Int32).toInt64 &&& 63)) ||| y) = uN (x <<< ((1 : Int32).toInt64 &&& 63)) ||| uN y := UInt64.toNat_or _ _
  have h2 : (2 * uN x) % 18446744073709551616 = 2 ^ 1 * (uN x % 9223372036854775808) := by omega
  rw [h1, uN_shl, h2]
  exact (Nat.two_pow_add_eq_or_of_lt (i := 1) hy _).symm
theorem nat_xor {a : Nat} (h : a < 18446744073709551616) : a ^^^ 2 ^ 63 = (a + 9223372036854775808) % 18446744073709551616 := by
  have h1 : (a ^^^ 2 ^ 63) % 2 ^ 63 = a % 2 ^ 63 := by rw [Nat.xor_mod_two_pow, Nat.mod_self, Nat.xor_zero]
  have h2 : (a ^^^ 2 ^ 63) / 2 ^ 63 = (a / 2 ^ 63) ^^^ 1 := by rw [Nat.xor_div_two_pow, Nat.div_self (Nat.two_pow_pos 63)]
  have h3 : a / 2 ^ 63 = 0 ∨ a / 2 ^ 63 = 1 := by omega
  generalize a ^^^ 2 ^ 63 = t at h1 h2
  rcases h3 with h3 | h3
  · rw [h3] at h2
    have h2 : t / 2 ^ 63 = 1 := h2
    omega
  · rw [h3] at h2
    have h2 : t / 2 ^ 63 = 0 := h2
    omega
theorem uN_xor (x : Int64) : uN (x ^^^ (-9223372036854775808)) = (uN x + 9223372036854775808) % 18446744073709551616 := by
  rw [← nat_xor (uN_lt x)]
  exact UInt64.toNat_xor _ _
theorem uN_int (x : Int64) : x.toInt = if 2 * uN x < 18446744073709551616 then (uN x : Int) else (uN x : Int) - 18446744073709551616 := BitVec.toInt_eq_toNat_cond _
theorem uN_le (x y : Int64) : (x ^^^ (-9223372036854775808)) ≤ (y ^^^ (-9223372036854775808)) ↔ uN x ≤ uN y := by
  have hx := uN_lt x
  have hy := uN_lt y
  rw [Int64.le_iff_toInt_le, uN_int, uN_int, uN_xor, uN_xor]
  omega
theorem uN_sk (x : Int64) {k : Nat} (hk : k < 64) : uN (x.toUInt64 >>> ((nI k).toInt64.toUInt64 &&& Int64.toUInt64 63)).toInt64 = uN x / 2 ^ k := by
  have h : ((nI k).toInt64.toUInt64 &&& Int64.toUInt64 63).toNat % 64 = k := by
    rw [nI_l (by omega), UInt64.toNat_and]
    have e : (lN k).toUInt64.toNat = k % 2 ^ 64 := rfl
    have e2 : (Int64.toUInt64 63).toNat = 2 ^ 6 - 1 := by decide
    rw [e, e2, Nat.and_two_pow_sub_one_eq_mod]
    omega
  rw [uN_shr, h]
/-! the place of the highest bit -/
def tb (v : Int64) : Nat := Nat.log2 (uN v)
theorem uN_pos {v : Int64} (h : ¬ v = 0) : uN v ≠ 0 := fun q => h (uN_inj (q.trans rfl))
theorem tb_lt {v : Int64} (h : ¬ v = 0) : tb v < 64 := by
  have h1 := (Nat.log2_lt (n := uN v) (k := 64) (uN_pos h)).mpr (uN_lt v)
  exact h1
theorem tb_le {v : Int64} (h : ¬ v = 0) : 2 ^ tb v ≤ uN v := Nat.log2_self_le (uN_pos h)
theorem tb_up (v : Int64) : uN v < 2 ^ (tb v + 1) := Nat.lt_log2_self
/-- the bit at n, n not below the highest one's place: set only there -/
theorem tb_bit {v : Int64} (h : ¬ v = 0) {n : Nat} (hn : n < 64) (ht : tb v ≤ n) : ((Int64.toUInt64 v >>> (Int64.toUInt64 (Int32.toInt64 (nI n)) &&& Int64.toUInt64 63)).toInt64 &&& (1 : Int64)) = 0 ↔ ¬ n = tb v := by
  rw [uN_bit, uN_sk v hn]
  rcases Nat.lt_or_ge (tb v) n with q | q
  · have h1 : uN v < 2 ^ n := Nat.lt_of_lt_of_le (tb_up v) (Nat.pow_le_pow_right (by decide) q)
    rw [Nat.div_eq_of_lt h1]
    constructor
    · intro _; omega
    · intro _; rfl
  · have e : n = tb v := by omega
    subst e
    have h1 : uN v / 2 ^ tb v = 1 := by
      have a1 := tb_le h
      have a2 := tb_up v
      rw [Nat.pow_succ] at a2
      apply Nat.div_eq_of_lt_le
      · omega
      · omega
    rw [h1]
    constructor
    · intro h2; omega
    · intro h2; exact absurd rfl h2
end
section
def fn_J6_numberOfLeadingZeros_0f7a4_73 (x0 : Int32) (x1 : Int32) : Int32 :=
  x1 - ((Int32.toUInt32 x0 >>> (Int32.toUInt32 (1 : Int32) &&& Int32.toUInt32 31)).toInt32)
set_option maxHeartbeats 4000000 in
set_option maxRecDepth 100000 in
theorem sg_J6_numberOfLeadingZeros_0f7a4_73 {p : Program} {l : Launch} {e : Env} {s : State} {m : MethodId} {args : Array Value} {below : List Frame} {meth : Method} {c : Code} {ls : Array Slot} {g : Int32} (hx : p.tables.exec = Jvm.exec) (hb : c.code = cJ6_numberOfLeadingZeros_0f7a4) (hr : meth.sig.returnType = (some .int)) (hml : c.maxLocals = 2) (hts : ∀ w ∈ wsJ6_numberOfLeadingZeros_0f7a4, w.before args s = true) (hown : s.vm.findClass RJ6 = some m.cls) (hlocks : meth.locks = false) (x0 : Int32) (x1 : Int32) (hg : g = fn_J6_numberOfLeadingZeros_0f7a4_73 x0 x1) (hl : lv_has ls 2 [(0, .int x0), (1, .int x1)]) : W p l e ({ frames := 0, cells := 0, slots := 0, locals := 0 } : Room) s m args below meth c s.heap [] 0 0 (MQ below (vp_Si (fun r => r = g)) args s 0 0 (fun _ => False)) (F0 m 73 ls []) := by
  have hS : va_S (fun _ => False) s.heap s.heap [] := va_S.rf
  refine lv_iload_n hx hb dJ6_numberOfLeadingZeros_0f7a4_73 rfl (lv_at hl 1 rfl) ?_
  refine lv_iload_n hx hb dJ6_numberOfLeadingZeros_0f7a4_74 rfl (lv_at hl 0 rfl) ?_
  refine lv_iconst (v := (1 : Int32)) hx hb dJ6_numberOfLeadingZeros_0f7a4_75 (by decide) ?_
  refine lv_iushr hx hb dJ6_numberOfLeadingZeros_0f7a4_76 rfl ?_
  refine lv_isub hx hb dJ6_numberOfLeadingZeros_0f7a4_77 ?_
  exact W.iret (v := x1 - ((Int32.toUInt32 x0 >>> (Int32.toUInt32 (1 : Int32) &&& Int32.toUInt32 31)).toInt32)) hx hb hr (fun t ht _ => ⟨_, rfl, by rw [hg]; rfl, ht⟩) (fun _ h => by cases h) dJ6_numberOfLeadingZeros_0f7a4_78
def fn_J6_numberOfLeadingZeros_0f7a4_61 (x0 : Int32) (x1 : Int32) : Int32 :=
  if x0 < (4 : Int32) then
    fn_J6_numberOfLeadingZeros_0f7a4_73 x0 x1
  else
    fn_J6_numberOfLeadingZeros_0f7a4_73 ((Int32.toUInt32 x0 >>> (Int32.toUInt32 (2 : Int32) &&& Int32.toUInt32 31)).toInt32) (x1 + (-2 : Int32))
set_option maxHeartbeats 4000000 in
set_option maxRecDepth 100000 in
theorem sg_J6_numberOfLeadingZeros_0f7a4_61 {p : Program} {l : Launch} {e : Env} {s : State} {m : MethodId} {args : Array Value} {below : List Frame} {meth : Method} {c : Code} {ls : Array Slot} {g : Int32} (hx : p.tables.exec = Jvm.exec) (hb : c.code = cJ6_numberOfLeadingZeros_0f7a4) (hr : meth.sig.returnType = (some .int)) (hml : c.maxLocals = 2) (hts : ∀ w ∈ wsJ6_numberOfLeadingZeros_0f7a4, w.before args s = true) (hown : s.vm.findClass RJ6 = some m.cls) (hlocks : meth.locks = false) (x0 : Int32) (x1 : Int32) (hg : g = fn_J6_numberOfLeadingZeros_0f7a4_61 x0 x1) (hl : lv_has ls 2 [(0, .int x0), (1, .int x1)]) : W p l e ({ frames := 0, cells := 0, slots := 0, locals := 0 } : Room) s m args below meth c s.heap [] 0 0 (MQ below (vp_Si (fun r => r = g)) args s 0 0 (fun _ => False)) (F0 m 61 ls []) := by
  have hS : va_S (fun _ => False) s.heap s.heap [] := va_S.rf
  refine lv_iload_n hx hb dJ6_numberOfLeadingZeros_0f7a4_61 rfl (lv_at hl 0 rfl) ?_
  refine lv_iconst (v := (4 : Int32)) hx hb dJ6_numberOfLeadingZeros_0f7a4_62 (by decide) ?_
  refine lv_icmp_lt (tgt := 73) hx hb dJ6_numberOfLeadingZeros_0f7a4_63 (by decide) (fun c_1 => ?_) (fun c_1 => ?_)
  · exact sg_J6_numberOfLeadingZeros_0f7a4_73 hx hb hr hml hts hown hlocks x0 x1 (by rw [hg]; unfold fn_J6_numberOfLeadingZeros_0f7a4_61; rw [if_pos c_1])  (lv_sub hl [0, 1] rfl)
  · refine lv_iinc (v := x1 + (-2 : Int32)) (lv' := [(1, .int (x1 + (-2 : Int32))), (0, .int x0)]) hx hb dJ6_numberOfLeadingZeros_0f7a4_66 hl (k := 1) rfl rfl (by decide) rfl (fun ls hl => ?_)
    refine lv_iload_n hx hb dJ6_numberOfLeadingZeros_0f7a4_69 rfl (lv_at hl 1 rfl) ?_
    refine lv_iconst (v := (2 : Int32)) hx hb dJ6_numberOfLeadingZeros_0f7a4_70 (by decide) ?_
    refine lv_iushr hx hb dJ6_numberOfLeadingZeros_0f7a4_71 rfl ?_
    refine lv_istore_n (lv' := [(0, .int ((Int32.toUInt32 x0 >>> (Int32.toUInt32 (2 : Int32) &&& Int32.toUInt32 31)).toInt32)), (1, .int (x1 + (-2 : Int32)))]) hx hb dJ6_numberOfLeadingZeros_0f7a4_72 rfl hl (by decide) rfl (fun ls hl => ?_)
    exact sg_J6_numberOfLeadingZeros_0f7a4_73 hx hb hr hml hts hown hlocks ((Int32.toUInt32 x0 >>> (Int32.toUInt32 (2 : Int32) &&& Int32.toUInt32 31)).toInt32) (x1 + (-2 : Int32)) (by rw [hg]; unfold fn_J6_numberOfLeadingZeros_0f7a4_61; rw [if_neg c_1])  (lv_sub hl [0, 1] rfl)
def fn_J6_numberOfLeadingZeros_0f7a4_48 (x0 : Int32) (x1 : Int32) : Int32 :=
  if x0 < (16 : Int32) then
    fn_J6_numberOfLeadingZeros_0f7a4_61 x0 x1
  else
    fn_J6_numberOfLeadingZeros_0f7a4_61 ((Int32.toUInt32 x0 >>> (Int32.toUInt32 (4 : Int32) &&& Int32.toUInt32 31)).toInt32) (x1 + (-4 : Int32))
set_option maxHeartbeats 4000000 in
set_option maxRecDepth 100000 in
theorem sg_J6_numberOfLeadingZeros_0f7a4_48 {p : Program} {l : Launch} {e : Env} {s : State} {m : MethodId} {args : Array Value} {below : List Frame} {meth : Method} {c : Code} {ls : Array Slot} {g : Int32} (hx : p.tables.exec = Jvm.exec) (hb : c.code = cJ6_numberOfLeadingZeros_0f7a4) (hr : meth.sig.returnType = (some .int)) (hml : c.maxLocals = 2) (hts : ∀ w ∈ wsJ6_numberOfLeadingZeros_0f7a4, w.before args s = true) (hown : s.vm.findClass RJ6 = some m.cls) (hlocks : meth.locks = false) (x0 : Int32) (x1 : Int32) (hg : g = fn_J6_numberOfLeadingZeros_0f7a4_48 x0 x1) (hl : lv_has ls 2 [(0, .int x0), (1, .int x1)]) : W p l e ({ frames := 0, cells := 0, slots := 0, locals := 0 } : Room) s m args below meth c s.heap [] 0 0 (MQ below (vp_Si (fun r => r = g)) args s 0 0 (fun _ => False)) (F0 m 48 ls []) := by
  have hS : va_S (fun _ => False) s.heap s.heap [] := va_S.rf
  refine lv_iload_n hx hb dJ6_numberOfLeadingZeros_0f7a4_48 rfl (lv_at hl 0 rfl) ?_
  refine lv_bipush (v := (16 : Int32)) hx hb dJ6_numberOfLeadingZeros_0f7a4_49 (by decide) ?_
  refine lv_icmp_lt (tgt := 61) hx hb dJ6_numberOfLeadingZeros_0f7a4_51 (by decide) (fun c_1 => ?_) (fun c_1 => ?_)
  · exact sg_J6_numberOfLeadingZeros_0f7a4_61 hx hb hr hml hts hown hlocks x0 x1 (by rw [hg]; unfold fn_J6_numberOfLeadingZeros_0f7a4_48; rw [if_pos c_1])  (lv_sub hl [0, 1] rfl)
  · refine lv_iinc (v := x1 + (-4 : Int32)) (lv' := [(1, .int (x1 + (-4 : Int32))), (0, .int x0)]) hx hb dJ6_numberOfLeadingZeros_0f7a4_54 hl (k := 1) rfl rfl (by decide) rfl (fun ls hl => ?_)
    refine lv_iload_n hx hb dJ6_numberOfLeadingZeros_0f7a4_57 rfl (lv_at hl 1 rfl) ?_
    refine lv_iconst (v := (4 : Int32)) hx hb dJ6_numberOfLeadingZeros_0f7a4_58 (by decide) ?_
    refine lv_iushr hx hb dJ6_numberOfLeadingZeros_0f7a4_59 rfl ?_
    refine lv_istore_n (lv' := [(0, .int ((Int32.toUInt32 x0 >>> (Int32.toUInt32 (4 : Int32) &&& Int32.toUInt32 31)).toInt32)), (1, .int (x1 + (-4 : Int32)))]) hx hb dJ6_numberOfLeadingZeros_0f7a4_60 rfl hl (by decide) rfl (fun ls hl => ?_)
    exact sg_J6_numberOfLeadingZeros_0f7a4_61 hx hb hr hml hts hown hlocks ((Int32.toUInt32 x0 >>> (Int32.toUInt32 (4 : Int32) &&& Int32.toUInt32 31)).toInt32) (x1 + (-4 : Int32)) (by rw [hg]; unfold fn_J6_numberOfLeadingZeros_0f7a4_48; rw [if_neg c_1])  (lv_sub hl [0, 1] rfl)
def fn_J6_numberOfLeadingZeros_0f7a4_33 (x0 : Int32) (x1 : Int32) : Int32 :=
  if x0 < (256 : Int32) then
    fn_J6_numberOfLeadingZeros_0f7a4_48 x0 x1
  else
    fn_J6_numberOfLeadingZeros_0f7a4_48 ((Int32.toUInt32 x0 >>> (Int32.toUInt32 (8 : Int32) &&& Int32.toUInt32 31)).toInt32) (x1 + (-8 : Int32))
set_option maxHeartbeats 4000000 in
set_option maxRecDepth 100000 in
theorem sg_J6_numberOfLeadingZeros_0f7a4_33 {p : Program} {l : Launch} {e : Env} {s : State} {m : MethodId} {args : Array Value} {below : List Frame} {meth : Method} {c : Code} {ls : Array Slot} {g : Int32} (hx : p.tables.exec = Jvm.exec) (hb : c.code = cJ6_numberOfLeadingZeros_0f7a4) (hr : meth.sig.returnType = (some .int)) (hml : c.maxLocals = 2) (hts : ∀ w ∈ wsJ6_numberOfLeadingZeros_0f7a4, w.before args s = true) (hown : s.vm.findClass RJ6 = some m.cls) (hlocks : meth.locks = false) (x0 : Int32) (x1 : Int32) (hg : g = fn_J6_numberOfLeadingZeros_0f7a4_33 x0 x1) (hl : lv_has ls 2 [(0, .int x0), (1, .int x1)]) : W p l e ({ frames := 0, cells := 0, slots := 0, locals := 0 } : Room) s m args below meth c s.heap [] 0 0 (MQ below (vp_Si (fun r => r = g)) args s 0 0 (fun _ => False)) (F0 m 33 ls []) := by
  have hS : va_S (fun _ => False) s.heap s.heap [] := va_S.rf
  refine lv_iload_n hx hb dJ6_numberOfLeadingZeros_0f7a4_33 rfl (lv_at hl 0 rfl) ?_
  refine lv_sipush (v := (256 : Int32)) hx hb dJ6_numberOfLeadingZeros_0f7a4_34 (by decide) ?_
  refine lv_icmp_lt (tgt := 48) hx hb dJ6_numberOfLeadingZeros_0f7a4_37 (by decide) (fun c_1 => ?_) (fun c_1 => ?_)
  · exact sg_J6_numberOfLeadingZeros_0f7a4_48 hx hb hr hml hts hown hlocks x0 x1 (by rw [hg]; unfold fn_J6_numberOfLeadingZeros_0f7a4_33; rw [if_pos c_1])  (lv_sub hl [0, 1] rfl)
  · refine lv_iinc (v := x1 + (-8 : Int32)) (lv' := [(1, .int (x1 + (-8 : Int32))), (0, .int x0)]) hx hb dJ6_numberOfLeadingZeros_0f7a4_40 hl (k := 1) rfl rfl (by decide) rfl (fun ls hl => ?_)
    refine lv_iload_n hx hb dJ6_numberOfLeadingZeros_0f7a4_43 rfl (lv_at hl 1 rfl) ?_
    refine lv_bipush (v := (8 : Int32)) hx hb dJ6_numberOfLeadingZeros_0f7a4_44 (by decide) ?_
    refine lv_iushr hx hb dJ6_numberOfLeadingZeros_0f7a4_46 rfl ?_
    refine lv_istore_n (lv' := [(0, .int ((Int32.toUInt32 x0 >>> (Int32.toUInt32 (8 : Int32) &&& Int32.toUInt32 31)).toInt32)), (1, .int (x1 + (-8 : Int32)))]) hx hb dJ6_numberOfLeadingZeros_0f7a4_47 rfl hl (by decide) rfl (fun ls hl => ?_)
    exact sg_J6_numberOfLeadingZeros_0f7a4_48 hx hb hr hml hts hown hlocks ((Int32.toUInt32 x0 >>> (Int32.toUInt32 (8 : Int32) &&& Int32.toUInt32 31)).toInt32) (x1 + (-8 : Int32)) (by rw [hg]; unfold fn_J6_numberOfLeadingZeros_0f7a4_33; rw [if_neg c_1])  (lv_sub hl [0, 1] rfl)
def fn_J6_numberOfLeadingZeros_0f7a4 (v0 : Int32) : Int32 :=
  if 0 < v0 then
    if v0 < (65536 : Int32) then
      fn_J6_numberOfLeadingZeros_0f7a4_33 v0 (31 : Int32)
    else
      fn_J6_numberOfLeadingZeros_0f7a4_33 ((Int32.toUInt32 v0 >>> (Int32.toUInt32 (16 : Int32) &&& Int32.toUInt32 31)).toInt32) ((31 : Int32) + (-16 : Int32))
  else
    if v0 = 0 then
      (32 : Int32)
    else
      (0 : Int32)
set_option maxHeartbeats 4000000 in
set_option maxRecDepth 100000 in
theorem ct_J6_numberOfLeadingZeros_0f7a4 (l : Launch) (v0 : Int32) : Met l yJ6_numberOfLeadingZeros_0f7a4 wsJ6_numberOfLeadingZeros_0f7a4 ({ frames := 0, cells := 0, slots := 0, locals := 0 } : Room) (va_Pc [.int v0] (fun _ => True)) (vp_Si (fun r => r = fn_J6_numberOfLeadingZeros_0f7a4 v0)) 0 0 (fun _ => False) := by
  refine Met.ofW (cc := cJ6_numberOfLeadingZeros_0f7a4) (maxL := 2) (ret := (some .int)) (by decide) rfl ?_
  intro p e s m args below meth c s₁ B hml hv
  obtain ⟨rfl, hW⟩ := hv
  have hx := B.exec
  have hb := B.bytes
  have hr := B.returns
  have hlocks := B.notSynchronized
  have hts := atoms_spec (ws := wsJ6_numberOfLeadingZeros_0f7a4) B.pre
  have hown : s.vm.findClass RJ6 = some m.cls := findClass_of_methodNamed B.named
  have hS : va_S (fun _ => False) s.heap s.heap [] := va_S.rf
  have hl := lv_entry ([.int v0]) (n := 2) (Nat.le_of_ble_eq_true rfl)
  rw [lg_entry_eq]
  generalize (lg_sl ([.int v0]) ++ List.replicate (2 - (lg_sl ([.int v0])).length) Slot.unset).toArray = ls at hl ⊢
  have hl : lv_has ls 2 [(0, .int v0)] := hl
  refine lv_iload_n hx hb dJ6_numberOfLeadingZeros_0f7a4_0 rfl (lv_at hl 0 rfl) ?_
  refine lv_if_gt (tgt := 15) hx hb dJ6_numberOfLeadingZeros_0f7a4_1 (by decide) (fun c_1 => ?_) (fun c_1 => ?_)
  · refine lv_bipush (v := (31 : Int32)) hx hb dJ6_numberOfLeadingZeros_0f7a4_15 (by decide) ?_
    refine lv_istore_n (lv' := [(1, .int (31 : Int32)), (0, .int v0)]) hx hb dJ6_numberOfLeadingZeros_0f7a4_17 rfl hl (by decide) rfl (fun ls hl => ?_)
    refine lv_iload_n hx hb dJ6_numberOfLeadingZeros_0f7a4_18 rfl (lv_at hl 1 rfl) ?_
    refine lv_ldcw (v := (65536 : Int32)) hx hb hown (hts (.constant RJ6 264 (65536)) (by decide +kernel)) dJ6_numberOfLeadingZeros_0f7a4_19 ?_
    refine lv_icmp_lt (tgt := 33) hx hb dJ6_numberOfLeadingZeros_0f7a4_22 (by decide) (fun c_2 => ?_) (fun c_2 => ?_)
    · exact sg_J6_numberOfLeadingZeros_0f7a4_33 hx hb hr hml hts hown hlocks v0 (31 : Int32) (by unfold fn_J6_numberOfLeadingZeros_0f7a4; rw [if_pos c_1, if_pos c_2])  (lv_sub hl [1, 0] rfl)
    · refine lv_iinc (v := (31 : Int32) + (-16 : Int32)) (lv' := [(1, .int ((31 : Int32) + (-16 : Int32))), (0, .int v0)]) hx hb dJ6_numberOfLeadingZeros_0f7a4_25 hl (k := 0) rfl rfl (by decide) rfl (fun ls hl => ?_)
      refine lv_iload_n hx hb dJ6_numberOfLeadingZeros_0f7a4_28 rfl (lv_at hl 1 rfl) ?_
      refine lv_bipush (v := (16 : Int32)) hx hb dJ6_numberOfLeadingZeros_0f7a4_29 (by decide) ?_
      refine lv_iushr hx hb dJ6_numberOfLeadingZeros_0f7a4_31 rfl ?_
      refine lv_istore_n (lv' := [(0, .int ((Int32.toUInt32 v0 >>> (Int32.toUInt32 (16 : Int32) &&& Int32.toUInt32 31)).toInt32)), (1, .int ((31 : Int32) + (-16 : Int32)))]) hx hb dJ6_numberOfLeadingZeros_0f7a4_32 rfl hl (by decide) rfl (fun ls hl => ?_)
      exact sg_J6_numberOfLeadingZeros_0f7a4_33 hx hb hr hml hts hown hlocks ((Int32.toUInt32 v0 >>> (Int32.toUInt32 (16 : Int32) &&& Int32.toUInt32 31)).toInt32) ((31 : Int32) + (-16 : Int32)) (by unfold fn_J6_numberOfLeadingZeros_0f7a4; rw [if_pos c_1, if_neg c_2])  (lv_sub hl [0, 1] rfl)
  · refine lv_iload_n hx hb dJ6_numberOfLeadingZeros_0f7a4_4 rfl (lv_at hl 0 rfl) ?_
    refine lv_if_ne (tgt := 13) hx hb dJ6_numberOfLeadingZeros_0f7a4_5 (by decide) (fun c_3 => ?_) (fun c_3 => ?_)
    · refine lv_iconst (v := (0 : Int32)) hx hb dJ6_numberOfLeadingZeros_0f7a4_13 (by decide) ?_
      exact W.iret (v := (0 : Int32)) hx hb hr (fun t ht _ => ⟨_, rfl, by unfold fn_J6_numberOfLeadingZeros_0f7a4; rw [if_neg c_1, if_neg c_3], ht⟩) (fun _ h => by cases h) dJ6_numberOfLeadingZeros_0f7a4_14
    · refine lv_bipush (v := (32 : Int32)) hx hb dJ6_numberOfLeadingZeros_0f7a4_8 (by decide) ?_
      refine lv_goto (tgt := 14) hx hb dJ6_numberOfLeadingZeros_0f7a4_10 (by decide) ?_
      exact W.iret (v := (32 : Int32)) hx hb hr (fun t ht _ => ⟨_, rfl, by unfold fn_J6_numberOfLeadingZeros_0f7a4; rw [if_neg c_1, if_pos c_3], ht⟩) (fun _ h => by cases h) dJ6_numberOfLeadingZeros_0f7a4_14
def fn_J13_numberOfLeadingZeros_95d88 (v0 : Int64) : Int32 :=
  if (Int64.toInt32 ((Int64.toUInt64 v0 >>> (Int64.toUInt64 (Int32.toInt64 (32 : Int32)) &&& Int64.toUInt64 63)).toInt64)) = 0 then
    (32 : Int32) + (fn_J6_numberOfLeadingZeros_0f7a4 (Int64.toInt32 v0))
  else
    fn_J6_numberOfLeadingZeros_0f7a4 (Int64.toInt32 ((Int64.toUInt64 v0 >>> (Int64.toUInt64 (Int32.toInt64 (32 : Int32)) &&& Int64.toUInt64 63)).toInt64))
set_option maxHeartbeats 4000000 in
set_option maxRecDepth 100000 in
theorem ct_J13_numberOfLeadingZeros_95d88 (l : Launch) (v0 : Int64) : Met l yJ13_numberOfLeadingZeros_95d88 wsJ13_numberOfLeadingZeros_95d88 ({ frames := 1, cells := 0, slots := 0, locals := 21 } : Room) (va_Pc [.long v0] (fun _ => True)) (vp_Si (fun r => r = fn_J13_numberOfLeadingZeros_95d88 v0)) 0 0 (fun _ => False) := by
  refine Met.ofW (cc := cJ13_numberOfLeadingZeros_95d88) (maxL := 3) (ret := (some .int)) (by decide) rfl ?_
  intro p e s m args below meth c s₁ B hml hv
  obtain ⟨rfl, hW⟩ := hv
  have hx := B.exec
  have hb := B.bytes
  have hr := B.returns
  have hlocks := B.notSynchronized
  have hts := atoms_spec (ws := wsJ13_numberOfLeadingZeros_95d88) B.pre
  have hown : s.vm.findClass RJ13 = some m.cls := findClass_of_methodNamed B.named
  have hS : va_S (fun _ => False) s.heap s.heap [] := va_S.rf
  have hl := lv_entry ([.long v0]) (n := 3) (Nat.le_of_ble_eq_true rfl)
  rw [lg_entry_eq]
  generalize (lg_sl ([.long v0]) ++ List.replicate (3 - (lg_sl ([.long v0])).length) Slot.unset).toArray = ls at hl ⊢
  have hl : lv_has ls 3 [(0, .long v0)] := hl
  refine lv_lload_n hx hb dJ13_numberOfLeadingZeros_95d88_0 rfl (lv_at hl 0 rfl) ?_
  refine lv_bipush (v := (32 : Int32)) hx hb dJ13_numberOfLeadingZeros_95d88_1 (by decide) ?_
  refine lv_lushr hx hb dJ13_numberOfLeadingZeros_95d88_3 rfl ?_
  refine lv_l2i hx hb dJ13_numberOfLeadingZeros_95d88_4 rfl ?_
  refine lv_istore_n (lv' := [(2, .int (Int64.toInt32 ((Int64.toUInt64 v0 >>> (Int64.toUInt64 (Int32.toInt64 (32 : Int32)) &&& Int64.toUInt64 63)).toInt64))), (0, .long v0)]) hx hb dJ13_numberOfLeadingZeros_95d88_5 rfl hl (by decide) rfl (fun ls hl => ?_)
  refine lv_iload_n hx hb dJ13_numberOfLeadingZeros_95d88_6 rfl (lv_at hl 0 rfl) ?_
  refine lv_if_ne (tgt := 21) hx hb dJ13_numberOfLeadingZeros_95d88_7 (by decide) (fun c_1 => ?_) (fun c_1 => ?_)
  · refine lv_iload_n hx hb dJ13_numberOfLeadingZeros_95d88_21 rfl (lv_at hl 0 rfl) ?_
    refine vp_callSi (W.runS (As := [.int (Int64.toInt32 ((Int64.toUInt64 v0 >>> (Int64.toUInt64 (Int32.toInt64 (32 : Int32)) &&& Int64.toUInt64 63)).toInt64))]) (rest := []) ⟨hx, hb, hml, hown, hts⟩ (ct_J6_numberOfLeadingZeros_0f7a4 l (Int64.toInt32 ((Int64.toUInt64 v0 >>> (Int64.toUInt64 (Int32.toInt64 (32 : Int32)) &&& Int64.toUInt64 63)).toInt64))) (va_cwS 1 hts gJ13_numberOfLeadingZeros_95d88_J6_numberOfLeadingZeros_0f7a4 rfl rfl rfl (by decide +kernel) ⟨Nat.le_of_ble_eq_true rfl, Nat.le_of_ble_eq_true rfl⟩) ⟨(fun a U g mk q => ⟨q.1, trivial⟩), fun U hU hW9 => ⟨rfl, trivial⟩⟩ rfl rfl hl.1 rfl (lv_room (Nat.le_of_ble_eq_true rfl)) dJ13_numberOfLeadingZeros_95d88_22 ⟨Nat.zero_le _, Nat.zero_le _⟩) (fun r er => ?_)
    subst er
    exact W.iret (v := fn_J6_numberOfLeadingZeros_0f7a4 (Int64.toInt32 ((Int64.toUInt64 v0 >>> (Int64.toUInt64 (Int32.toInt64 (32 : Int32)) &&& Int64.toUInt64 63)).toInt64))) hx hb hr (fun t ht _ => ⟨_, rfl, by unfold fn_J13_numberOfLeadingZeros_95d88; rw [if_neg c_1], ht⟩) (fun _ h => by cases h) dJ13_numberOfLeadingZeros_95d88_25
  · refine lv_bipush (v := (32 : Int32)) hx hb dJ13_numberOfLeadingZeros_95d88_10 (by decide) ?_
    refine lv_lload_n hx hb dJ13_numberOfLeadingZeros_95d88_12 rfl (lv_at hl 1 rfl) ?_
    refine lv_l2i hx hb dJ13_numberOfLeadingZeros_95d88_13 rfl ?_
    refine vp_callSi (W.runS (As := [.int (Int64.toInt32 v0)]) (rest := [.int (32 : Int32)]) ⟨hx, hb, hml, hown, hts⟩ (ct_J6_numberOfLeadingZeros_0f7a4 l (Int64.toInt32 v0)) (va_cwS 1 hts gJ13_numberOfLeadingZeros_95d88_J6_numberOfLeadingZeros_0f7a4 rfl rfl rfl (by decide +kernel) ⟨Nat.le_of_ble_eq_true rfl, Nat.le_of_ble_eq_true rfl⟩) ⟨(fun a U g mk q => ⟨q.1, trivial⟩), fun U hU hW9 => ⟨rfl, trivial⟩⟩ rfl rfl hl.1 rfl (lv_room (Nat.le_of_ble_eq_true rfl)) dJ13_numberOfLeadingZeros_95d88_14 ⟨Nat.zero_le _, Nat.zero_le _⟩) (fun r er => ?_)
    subst er
    refine lv_iadd hx hb dJ13_numberOfLeadingZeros_95d88_17 ?_
    refine lv_goto (tgt := 25) hx hb dJ13_numberOfLeadingZeros_95d88_18 (by decide) ?_
    exact W.iret (v := (32 : Int32) + (fn_J6_numberOfLeadingZeros_0f7a4 (Int64.toInt32 v0))) hx hb hr (fun t ht _ => ⟨_, rfl, by unfold fn_J13_numberOfLeadingZeros_95d88; rw [if_pos c_1], ht⟩) (fun _ h => by cases h) dJ13_numberOfLeadingZeros_95d88_25
def fn_J13_compare_74951 (v0 : Int64) (v2 : Int64) : Int32 :=
  if v2 ≤ v0 then
    if v0 = v2 then
      (0 : Int32)
    else
      (1 : Int32)
  else
    (-1 : Int32)
set_option maxHeartbeats 4000000 in
set_option maxRecDepth 100000 in
theorem ct_J13_compare_74951 (l : Launch) (v0 : Int64) (v2 : Int64) : Met l yJ13_compare_74951 wsJ13_compare_74951 ({ frames := 0, cells := 0, slots := 0, locals := 0 } : Room) (va_Pc [.long v0, .long v2] (fun _ => True)) (vp_Si (fun r => r = fn_J13_compare_74951 v0 v2)) 0 0 (fun _ => False) := by
  refine Met.ofW (cc := cJ13_compare_74951) (maxL := 4) (ret := (some .int)) (by decide) rfl ?_
  intro p e s m args below meth c s₁ B hml hv
  obtain ⟨rfl, hW⟩ := hv
  have hx := B.exec
  have hb := B.bytes
  have hr := B.returns
  have hlocks := B.notSynchronized
  have hts := atoms_spec (ws := wsJ13_compare_74951) B.pre
  have hown : s.vm.findClass RJ13 = some m.cls := findClass_of_methodNamed B.named
  have hS : va_S (fun _ => False) s.heap s.heap [] := va_S.rf
  have hl := lv_entry ([.long v0, .long v2]) (n := 4) (Nat.le_of_ble_eq_true rfl)
  rw [lg_entry_eq]
  generalize (lg_sl ([.long v0, .long v2]) ++ List.replicate (4 - (lg_sl ([.long v0, .long v2])).length) Slot.unset).toArray = ls at hl ⊢
  have hl : lv_has ls 4 [(0, .long v0), (2, .long v2)] := hl
  refine lv_lload_n hx hb dJ13_compare_74951_0 rfl (lv_at hl 0 rfl) ?_
  refine lv_lload_n hx hb dJ13_compare_74951_1 rfl (lv_at hl 1 rfl) ?_
  refine zl_ge (tgt := 10) hx hb dJ13_compare_74951_2 dJ13_compare_74951_3 (by decide) (fun c_1 => ?_) (fun c_1 => ?_)
  · refine lv_lload_n hx hb dJ13_compare_74951_10 rfl (lv_at hl 0 rfl) ?_
    refine lv_lload_n hx hb dJ13_compare_74951_11 rfl (lv_at hl 1 rfl) ?_
    refine zl_ne (tgt := 20) hx hb dJ13_compare_74951_12 dJ13_compare_74951_13 (by decide) (fun c_2 => ?_) (fun c_2 => ?_)
    · refine lv_iconst (v := (1 : Int32)) hx hb dJ13_compare_74951_20 (by decide) ?_
      exact W.iret (v := (1 : Int32)) hx hb hr (fun t ht _ => ⟨_, rfl, by unfold fn_J13_compare_74951; rw [if_pos c_1, if_neg c_2], ht⟩) (fun _ h => by cases h) dJ13_compare_74951_21
    · refine lv_iconst (v := (0 : Int32)) hx hb dJ13_compare_74951_16 (by decide) ?_
      refine lv_goto (tgt := 21) hx hb dJ13_compare_74951_17 (by decide) ?_
      exact W.iret (v := (0 : Int32)) hx hb hr (fun t ht _ => ⟨_, rfl, by unfold fn_J13_compare_74951; rw [if_pos c_1, if_pos c_2], ht⟩) (fun _ h => by cases h) dJ13_compare_74951_21
  · refine lv_iconst (v := (-1 : Int32)) hx hb dJ13_compare_74951_6 (by decide) ?_
    refine lv_goto (tgt := 21) hx hb dJ13_compare_74951_7 (by decide) ?_
    exact W.iret (v := (-1 : Int32)) hx hb hr (fun t ht _ => ⟨_, rfl, by unfold fn_J13_compare_74951; rw [if_neg c_1], ht⟩) (fun _ h => by cases h) dJ13_compare_74951_21
end
section
def fn_X1_infinity (k : Nat) : Int64 :=
  (((2 : Int64) * (Int32.toInt64 (kB k))) + (1 : Int64)) <<< (Int32.toInt64 (kR k) &&& 63)
set_option maxHeartbeats 4000000 in
set_option maxRecDepth 100000 in
theorem ct_X1_infinity (l : Launch) (ad : Nat → Nat) (k : Nat) (hk_k : k < 4) : Met l yX1_infinity wsX1_infinity ({ frames := 0, cells := 0, slots := 0, locals := 0 } : Room) (va_Pc [.ref (ad k)] (fun U => kw ad (fun _ => False) U U.heap)) (vp_Sl (fun r => r = fn_X1_infinity k)) 0 0 (fun _ => False) := by
  refine Met.ofW (cc := cX1_infinity) (maxL := 1) (ret := (some .long)) (by decide) rfl ?_
  intro p e s m args below meth c s₁ B hml hv
  obtain ⟨rfl, hW⟩ := hv
  have hx := B.exec
  have hb := B.bytes
  have hr := B.returns
  have hlocks := B.notSynchronized
  have hts := atoms_spec (ws := wsX1_infinity) B.pre
  have hown : s.vm.findClass RX1 = some m.cls := findClass_of_methodNamed B.named
  have hS : va_S (fun _ => False) s.heap s.heap [] := va_S.rf
  have hl := lv_entry ([.ref (ad k)]) (n := 1) (Nat.le_of_ble_eq_true rfl)
  rw [lg_entry_eq]
  generalize (lg_sl ([.ref (ad k)]) ++ List.replicate (1 - (lg_sl ([.ref (ad k)])).length) Slot.unset).toArray = ls at hl ⊢
  have hl : lv_has ls 1 [(0, .ref (ad k))] := hl
  refine lv_ldc2 (v := (2 : Int64)) hx hb hown (hts (.constantLong RX1 55 (2)) (by decide +kernel)) dX1_infinity_0 ?_
  refine lv_aload_n hx hb dX1_infinity_3 rfl (lv_at hl 0 rfl) ?_
  refine kg_bias hx hb hW hk_k hS hown (hts (.fieldLink RX1 46 "ServoDesk$Kind" "bias" "I") (by decide +kernel)) dX1_infinity_4 ?_
  refine lv_i2l hx hb dX1_infinity_7 rfl ?_
  refine lv_lmul hx hb dX1_infinity_8 ?_
  refine lv_lconst (v := (1 : Int64)) hx hb dX1_infinity_9 (by decide) ?_
  refine lv_ladd hx hb dX1_infinity_10 ?_
  refine lv_aload_n hx hb dX1_infinity_11 rfl (lv_at hl 0 rfl) ?_
  refine kg_fraction hx hb hW hk_k hS hown (hts (.fieldLink RX1 43 "ServoDesk$Kind" "fraction" "I") (by decide +kernel)) dX1_infinity_12 ?_
  refine lv_lshl hx hb dX1_infinity_15 rfl ?_
  exact W.lret (v := (((2 : Int64) * (Int32.toInt64 (kB k))) + (1 : Int64)) <<< (Int32.toInt64 (kR k) &&& 63)) hx hb hr (fun t ht _ => ⟨_, rfl, rfl, ht⟩) (fun _ h => by cases h) dX1_infinity_16
def fn_X1_one (k : Nat) : Int64 :=
  if (kF k) = 0 then
    (1 : Int64)
  else
    (Int32.toInt64 (kB k)) <<< (Int32.toInt64 (kR k) &&& 63)
set_option maxHeartbeats 4000000 in
set_option maxRecDepth 100000 in
theorem ct_X1_one (l : Launch) (ad : Nat → Nat) (k : Nat) (hk_k : k < 4) : Met l yX1_one wsX1_one ({ frames := 0, cells := 0, slots := 0, locals := 0 } : Room) (va_Pc [.ref (ad k)] (fun U => kw ad (fun _ => False) U U.heap)) (vp_Sl (fun r => r = fn_X1_one k)) 0 0 (fun _ => False) := by
  refine Met.ofW (cc := cX1_one) (maxL := 1) (ret := (some .long)) (by decide) rfl ?_
  intro p e s m args below meth c s₁ B hml hv
  obtain ⟨rfl, hW⟩ := hv
  have hx := B.exec
  have hb := B.bytes
  have hr := B.returns
  have hlocks := B.notSynchronized
  have hts := atoms_spec (ws := wsX1_one) B.pre
  have hown : s.vm.findClass RX1 = some m.cls := findClass_of_methodNamed B.named
  have hS : va_S (fun _ => False) s.heap s.heap [] := va_S.rf
  have hl := lv_entry ([.ref (ad k)]) (n := 1) (Nat.le_of_ble_eq_true rfl)
  rw [lg_entry_eq]
  generalize (lg_sl ([.ref (ad k)]) ++ List.replicate (1 - (lg_sl ([.ref (ad k)])).length) Slot.unset).toArray = ls at hl ⊢
  have hl : lv_has ls 1 [(0, .ref (ad k))] := hl
  refine lv_aload_n hx hb dX1_one_0 rfl (lv_at hl 0 rfl) ?_
  refine kg_floating hx hb hW hk_k hS hown (hts (.fieldLink RX1 39 "ServoDesk$Kind" "floating" "Z") (by decide +kernel)) dX1_one_1 ?_
  refine lv_if_eq (tgt := 20) hx hb dX1_one_4 (by decide) (fun c_1 => ?_) (fun c_1 => ?_)
  · refine lv_lconst (v := (1 : Int64)) hx hb dX1_one_20 (by decide) ?_
    exact W.lret (v := (1 : Int64)) hx hb hr (fun t ht _ => ⟨_, rfl, by unfold fn_X1_one; rw [if_pos c_1], ht⟩) (fun _ h => by cases h) dX1_one_21
  · refine lv_aload_n hx hb dX1_one_7 rfl (lv_at hl 0 rfl) ?_
    refine kg_bias hx hb hW hk_k hS hown (hts (.fieldLink RX1 46 "ServoDesk$Kind" "bias" "I") (by decide +kernel)) dX1_one_8 ?_
    refine lv_i2l hx hb dX1_one_11 rfl ?_
    refine lv_aload_n hx hb dX1_one_12 rfl (lv_at hl 0 rfl) ?_
    refine kg_fraction hx hb hW hk_k hS hown (hts (.fieldLink RX1 43 "ServoDesk$Kind" "fraction" "I") (by decide +kernel)) dX1_one_13 ?_
    refine lv_lshl hx hb dX1_one_16 rfl ?_
    refine lv_goto (tgt := 21) hx hb dX1_one_17 (by decide) ?_
    exact W.lret (v := (Int32.toInt64 (kB k)) <<< (Int32.toInt64 (kR k) &&& 63)) hx hb hr (fun t ht _ => ⟨_, rfl, by unfold fn_X1_one; rw [if_neg c_1], ht⟩) (fun _ h => by cases h) dX1_one_21
def fn_X1_least (k : Nat) : Int64 :=
  if (kF k) = 0 then
    kS k
  else
    (fn_X1_infinity k) ||| (kS k)
set_option maxHeartbeats 4000000 in
set_option maxRecDepth 100000 in
theorem ct_X1_least (l : Launch) (ad : Nat → Nat) (k : Nat) (hk_k : k < 4) : Met l yX1_least wsX1_least ({ frames := 1, cells := 0, slots := 0, locals := 20 } : Room) (va_Pc [.ref (ad k)] (fun U => kw ad (fun _ => False) U U.heap)) (vp_Sl (fun r => r = fn_X1_least k)) 0 0 (fun _ => False) := by
  refine Met.ofW (cc := cX1_least) (maxL := 1) (ret := (some .long)) (by decide) rfl ?_
  intro p e s m args below meth c s₁ B hml hv
  obtain ⟨rfl, hW⟩ := hv
  have hx := B.exec
  have hb := B.bytes
  have hr := B.returns
  have hlocks := B.notSynchronized
  have hts := atoms_spec (ws := wsX1_least) B.pre
  have hown : s.vm.findClass RX1 = some m.cls := findClass_of_methodNamed B.named
  have hS : va_S (fun _ => False) s.heap s.heap [] := va_S.rf
  have hl := lv_entry ([.ref (ad k)]) (n := 1) (Nat.le_of_ble_eq_true rfl)
  rw [lg_entry_eq]
  generalize (lg_sl ([.ref (ad k)]) ++ List.replicate (1 - (lg_sl ([.ref (ad k)])).length) Slot.unset).toArray = ls at hl ⊢
  have hl : lv_has ls 1 [(0, .ref (ad k))] := hl
  refine lv_aload_n hx hb dX1_least_0 rfl (lv_at hl 0 rfl) ?_
  refine kg_floating hx hb hW hk_k hS hown (hts (.fieldLink RX1 39 "ServoDesk$Kind" "floating" "Z") (by decide +kernel)) dX1_least_1 ?_
  refine lv_if_eq (tgt := 19) hx hb dX1_least_4 (by decide) (fun c_1 => ?_) (fun c_1 => ?_)
  · refine lv_aload_n hx hb dX1_least_19 rfl (lv_at hl 0 rfl) ?_
    refine kg_sign hx hb hW hk_k hS hown (hts (.fieldLink RX1 51 "ServoDesk$Kind" "sign" "J") (by decide +kernel)) dX1_least_20 ?_
    exact W.lret (v := kS k) hx hb hr (fun t ht _ => ⟨_, rfl, by unfold fn_X1_least; rw [if_pos c_1], ht⟩) (fun _ h => by cases h) dX1_least_23
  · refine lv_aload_n hx hb dX1_least_7 rfl (lv_at hl 0 rfl) ?_
    refine vp_callSl (W.runV (As := []) (rest := []) ⟨hx, hb, hml, hown, hts⟩ (ct_X1_infinity l ad k hk_k) (cwV 0 hts gX1_least_X1_infinity rfl rfl rfl (by decide +kernel) ⟨Nat.le_of_ble_eq_true rfl, Nat.le_of_ble_eq_true rfl⟩) ⟨(fun a U g mk q => ⟨q.1, kw_blind q.2⟩), kw_recv hW hS hk_k, fun U hU hW9 => ⟨rfl, kw_call hW hS hU hW9⟩⟩ rfl rfl hl.1 rfl (lv_room (Nat.le_of_ble_eq_true rfl)) dX1_least_8 ⟨Nat.zero_le _, Nat.zero_le _⟩) (fun r er => ?_)
    subst er
    refine lv_aload_n hx hb dX1_least_11 rfl (lv_at hl 0 rfl) ?_
    refine kg_sign hx hb hW hk_k hS hown (hts (.fieldLink RX1 51 "ServoDesk$Kind" "sign" "J") (by decide +kernel)) dX1_least_12 ?_
    refine lv_lor hx hb dX1_least_15 ?_
    refine lv_goto (tgt := 23) hx hb dX1_least_16 (by decide) ?_
    exact W.lret (v := (fn_X1_infinity k) ||| (kS k)) hx hb hr (fun t ht _ => ⟨_, rfl, by unfold fn_X1_least; rw [if_neg c_1], ht⟩) (fun _ h => by cases h) dX1_least_23
def fn_X1_greatest (k : Nat) : Int64 :=
  if (kF k) = 0 then
    (kS k) ^^^ (-1 : Int64)
  else
    fn_X1_infinity k
set_option maxHeartbeats 4000000 in
set_option maxRecDepth 100000 in
theorem ct_X1_greatest (l : Launch) (ad : Nat → Nat) (k : Nat) (hk_k : k < 4) : Met l yX1_greatest wsX1_greatest ({ frames := 1, cells := 0, slots := 0, locals := 20 } : Room) (va_Pc [.ref (ad k)] (fun U => kw ad (fun _ => False) U U.heap)) (vp_Sl (fun r => r = fn_X1_greatest k)) 0 0 (fun _ => False) := by
  refine Met.ofW (cc := cX1_greatest) (maxL := 1) (ret := (some .long)) (by decide) rfl ?_
  intro p e s m args below meth c s₁ B hml hv
  obtain ⟨rfl, hW⟩ := hv
  have hx := B.exec
  have hb := B.bytes
  have hr := B.returns
  have hlocks := B.notSynchronized
  have hts := atoms_spec (ws := wsX1_greatest) B.pre
  have hown : s.vm.findClass RX1 = some m.cls := findClass_of_methodNamed B.named
  have hS : va_S (fun _ => False) s.heap s.heap [] := va_S.rf
  have hl := lv_entry ([.ref (ad k)]) (n := 1) (Nat.le_of_ble_eq_true rfl)
  rw [lg_entry_eq]
  generalize (lg_sl ([.ref (ad k)]) ++ List.replicate (1 - (lg_sl ([.ref (ad k)])).length) Slot.unset).toArray = ls at hl ⊢
  have hl : lv_has ls 1 [(0, .ref (ad k))] := hl
  refine lv_aload_n hx hb dX1_greatest_0 rfl (lv_at hl 0 rfl) ?_
  refine kg_floating hx hb hW hk_k hS hown (hts (.fieldLink RX1 39 "ServoDesk$Kind" "floating" "Z") (by decide +kernel)) dX1_greatest_1 ?_
  refine lv_if_eq (tgt := 14) hx hb dX1_greatest_4 (by decide) (fun c_1 => ?_) (fun c_1 => ?_)
  · refine lv_aload_n hx hb dX1_greatest_14 rfl (lv_at hl 0 rfl) ?_
    refine kg_sign hx hb hW hk_k hS hown (hts (.fieldLink RX1 51 "ServoDesk$Kind" "sign" "J") (by decide +kernel)) dX1_greatest_15 ?_
    refine lv_ldc2 (v := (-1 : Int64)) hx hb hown (hts (.constantLong RX1 49 (-1)) (by decide +kernel)) dX1_greatest_18 ?_
    refine lv_lxor hx hb dX1_greatest_21 ?_
    exact W.lret (v := (kS k) ^^^ (-1 : Int64)) hx hb hr (fun t ht _ => ⟨_, rfl, by unfold fn_X1_greatest; rw [if_pos c_1], ht⟩) (fun _ h => by cases h) dX1_greatest_22
  · refine lv_aload_n hx hb dX1_greatest_7 rfl (lv_at hl 0 rfl) ?_
    refine vp_callSl (W.runV (As := []) (rest := []) ⟨hx, hb, hml, hown, hts⟩ (ct_X1_infinity l ad k hk_k) (cwV 0 hts gX1_greatest_X1_infinity rfl rfl rfl (by decide +kernel) ⟨Nat.le_of_ble_eq_true rfl, Nat.le_of_ble_eq_true rfl⟩) ⟨(fun a U g mk q => ⟨q.1, kw_blind q.2⟩), kw_recv hW hS hk_k, fun U hU hW9 => ⟨rfl, kw_call hW hS hU hW9⟩⟩ rfl rfl hl.1 rfl (lv_room (Nat.le_of_ble_eq_true rfl)) dX1_greatest_8 ⟨Nat.zero_le _, Nat.zero_le _⟩) (fun r er => ?_)
    subst er
    refine lv_goto (tgt := 22) hx hb dX1_greatest_11 (by decide) ?_
    exact W.lret (v := fn_X1_infinity k) hx hb hr (fun t ht _ => ⟨_, rfl, by unfold fn_X1_greatest; rw [if_neg c_1], ht⟩) (fun _ h => by cases h) dX1_greatest_22
def fn_X1_fitted (k : Nat) (v1 : Int64) : Int64 :=
  (v1 <<< (Int32.toInt64 (kU k) &&& 63)) >>> (Int32.toInt64 (kU k) &&& 63)
set_option maxHeartbeats 4000000 in
set_option maxRecDepth 100000 in
theorem ct_X1_fitted (l : Launch) (ad : Nat → Nat) (k : Nat) (hk_k : k < 4) (v1 : Int64) : Met l yX1_fitted wsX1_fitted ({ frames := 0, cells := 0, slots := 0, locals := 0 } : Room) (va_Pc [.ref (ad k), .long v1] (fun U => kw ad (fun _ => False) U U.heap)) (vp_Sl (fun r => r = fn_X1_fitted k v1)) 0 0 (fun _ => False) := by
  refine Met.ofW (cc := cX1_fitted) (maxL := 3) (ret := (some .long)) (by decide) rfl ?_
  intro p e s m args below meth c s₁ B hml hv
  obtain ⟨rfl, hW⟩ := hv
  have hx := B.exec
  have hb := B.bytes
  have hr := B.returns
  have hlocks := B.notSynchronized
  have hts := atoms_spec (ws := wsX1_fitted) B.pre
  have hown : s.vm.findClass RX1 = some m.cls := findClass_of_methodNamed B.named
  have hS : va_S (fun _ => False) s.heap s.heap [] := va_S.rf
  have hl := lv_entry ([.ref (ad k), .long v1]) (n := 3) (Nat.le_of_ble_eq_true rfl)
  rw [lg_entry_eq]
  generalize (lg_sl ([.ref (ad k), .long v1]) ++ List.replicate (3 - (lg_sl ([.ref (ad k), .long v1])).length) Slot.unset).toArray = ls at hl ⊢
  have hl : lv_has ls 3 [(0, .ref (ad k)), (1, .long v1)] := hl
  refine lv_lload_n hx hb dX1_fitted_0 rfl (lv_at hl 1 rfl) ?_
  refine lv_aload_n hx hb dX1_fitted_1 rfl (lv_at hl 0 rfl) ?_
  refine kg_unused hx hb hW hk_k hS hown (hts (.fieldLink RX1 35 "ServoDesk$Kind" "unused" "I") (by decide +kernel)) dX1_fitted_2 ?_
  refine lv_lshl hx hb dX1_fitted_5 rfl ?_
  refine lv_aload_n hx hb dX1_fitted_6 rfl (lv_at hl 0 rfl) ?_
  refine kg_unused hx hb hW hk_k hS hown (hts (.fieldLink RX1 35 "ServoDesk$Kind" "unused" "I") (by decide +kernel)) dX1_fitted_7 ?_
  refine lv_lshr hx hb dX1_fitted_10 rfl ?_
  exact W.lret (v := (v1 <<< (Int32.toInt64 (kU k) &&& 63)) >>> (Int32.toInt64 (kU k) &&& 63)) hx hb hr (fun t ht _ => ⟨_, rfl, rfl, ht⟩) (fun _ h => by cases h) dX1_fitted_11
def fn_X1_rank (k : Nat) (v1 : Int64) : Int64 :=
  if (kF k) = 0 then
    v1
  else
    if (0 : Int64) ≤ v1 then
      v1
    else
      v1 ^^^ ((kS k) ^^^ (-1 : Int64))
set_option maxHeartbeats 4000000 in
set_option maxRecDepth 100000 in
theorem ct_X1_rank (l : Launch) (ad : Nat → Nat) (k : Nat) (hk_k : k < 4) (v1 : Int64) : Met l yX1_rank wsX1_rank ({ frames := 0, cells := 0, slots := 0, locals := 0 } : Room) (va_Pc [.ref (ad k), .long v1] (fun U => kw ad (fun _ => False) U U.heap)) (vp_Sl (fun r => r = fn_X1_rank k v1)) 0 0 (fun _ => False) := by
  refine Met.ofW (cc := cX1_rank) (maxL := 3) (ret := (some .long)) (by decide) rfl ?_
  intro p e s m args below meth c s₁ B hml hv
  obtain ⟨rfl, hW⟩ := hv
  have hx := B.exec
  have hb := B.bytes
  have hr := B.returns
  have hlocks := B.notSynchronized
  have hts := atoms_spec (ws := wsX1_rank) B.pre
  have hown : s.vm.findClass RX1 = some m.cls := findClass_of_methodNamed B.named
  have hS : va_S (fun _ => False) s.heap s.heap [] := va_S.rf
  have hl := lv_entry ([.ref (ad k), .long v1]) (n := 3) (Nat.le_of_ble_eq_true rfl)
  rw [lg_entry_eq]
  generalize (lg_sl ([.ref (ad k), .long v1]) ++ List.replicate (3 - (lg_sl ([.ref (ad k), .long v1])).length) Slot.unset).toArray = ls at hl ⊢
  have hl : lv_has ls 3 [(0, .ref (ad k)), (1, .long v1)] := hl
  refine lv_aload_n hx hb dX1_rank_0 rfl (lv_at hl 0 rfl) ?_
  refine kg_floating hx hb hW hk_k hS hown (hts (.fieldLink RX1 39 "ServoDesk$Kind" "floating" "Z") (by decide +kernel)) dX1_rank_1 ?_
  refine lv_if_eq (tgt := 26) hx hb dX1_rank_4 (by decide) (fun c_1 => ?_) (fun c_1 => ?_)
  · refine lv_lload_n hx hb dX1_rank_26 rfl (lv_at hl 1 rfl) ?_
    exact W.lret (v := v1) hx hb hr (fun t ht _ => ⟨_, rfl, by unfold fn_X1_rank; rw [if_pos c_1], ht⟩) (fun _ h => by cases h) dX1_rank_27
  · refine lv_lload_n hx hb dX1_rank_7 rfl (lv_at hl 1 rfl) ?_
    refine lv_lconst (v := (0 : Int64)) hx hb dX1_rank_8 (by decide) ?_
    refine zl_ge (tgt := 26) hx hb dX1_rank_9 dX1_rank_10 (by decide) (fun c_2 => ?_) (fun c_2 => ?_)
    · refine lv_lload_n hx hb dX1_rank_26 rfl (lv_at hl 1 rfl) ?_
      exact W.lret (v := v1) hx hb hr (fun t ht _ => ⟨_, rfl, by unfold fn_X1_rank; rw [if_neg c_1, if_pos c_2], ht⟩) (fun _ h => by cases h) dX1_rank_27
    · refine lv_lload_n hx hb dX1_rank_13 rfl (lv_at hl 1 rfl) ?_
      refine lv_aload_n hx hb dX1_rank_14 rfl (lv_at hl 0 rfl) ?_
      refine kg_sign hx hb hW hk_k hS hown (hts (.fieldLink RX1 51 "ServoDesk$Kind" "sign" "J") (by decide +kernel)) dX1_rank_15 ?_
      refine lv_ldc2 (v := (-1 : Int64)) hx hb hown (hts (.constantLong RX1 49 (-1)) (by decide +kernel)) dX1_rank_18 ?_
      refine lv_lxor hx hb dX1_rank_21 ?_
      refine lv_lxor hx hb dX1_rank_22 ?_
      refine lv_goto (tgt := 27) hx hb dX1_rank_23 (by decide) ?_
      exact W.lret (v := v1 ^^^ ((kS k) ^^^ (-1 : Int64))) hx hb hr (fun t ht _ => ⟨_, rfl, by unfold fn_X1_rank; rw [if_neg c_1, if_neg c_2], ht⟩) (fun _ h => by cases h) dX1_rank_27
def fn_X1_sized (k : Nat) (v1 : Int64) : Int64 :=
  if (kF k) = 0 then
    fn_X1_fitted k (if 0 < v1 then v1 else -v1)
  else
    v1 &&& ((kS k) ^^^ (-1 : Int64))
set_option maxHeartbeats 4000000 in
set_option maxRecDepth 100000 in
theorem ct_X1_sized (l : Launch) (ad : Nat → Nat) (k : Nat) (hk_k : k < 4) (v1 : Int64) : Met l yX1_sized wsX1_sized ({ frames := 1, cells := 0, slots := 0, locals := 23 } : Room) (va_Pc [.ref (ad k), .long v1] (fun U => kw ad (fun _ => False) U U.heap)) (vp_Sl (fun r => r = fn_X1_sized k v1)) 0 0 (fun _ => False) := by
  refine Met.ofW (cc := cX1_sized) (maxL := 3) (ret := (some .long)) (by decide) rfl ?_
  intro p e s m args below meth c s₁ B hml hv
  obtain ⟨rfl, hW⟩ := hv
  have hx := B.exec
  have hb := B.bytes
  have hr := B.returns
  have hlocks := B.notSynchronized
  have hts := atoms_spec (ws := wsX1_sized) B.pre
  have hown : s.vm.findClass RX1 = some m.cls := findClass_of_methodNamed B.named
  have hS : va_S (fun _ => False) s.heap s.heap [] := va_S.rf
  have hl := lv_entry ([.ref (ad k), .long v1]) (n := 3) (Nat.le_of_ble_eq_true rfl)
  rw [lg_entry_eq]
  generalize (lg_sl ([.ref (ad k), .long v1]) ++ List.replicate (3 - (lg_sl ([.ref (ad k), .long v1])).length) Slot.unset).toArray = ls at hl ⊢
  have hl : lv_has ls 3 [(0, .ref (ad k)), (1, .long v1)] := hl
  refine lv_aload_n hx hb dX1_sized_0 rfl (lv_at hl 0 rfl) ?_
  refine kg_floating hx hb hW hk_k hS hown (hts (.fieldLink RX1 39 "ServoDesk$Kind" "floating" "Z") (by decide +kernel)) dX1_sized_1 ?_
  refine lv_if_eq (tgt := 20) hx hb dX1_sized_4 (by decide) (fun c_1 => ?_) (fun c_1 => ?_)
  · refine lv_aload_n hx hb dX1_sized_20 rfl (lv_at hl 0 rfl) ?_
    refine lv_lload_n hx hb dX1_sized_21 rfl (lv_at hl 1 rfl) ?_
    refine va_mabs_long hx hb (hml.trans hl.1.symm) hown (hts (.methodLink RX1 77 Lib.MathLoose.abs_long.x) (by decide +kernel)) (hts (.static Lib.MathLoose.abs_long.x) (by decide +kernel)) (hts (.initialized "java/lang/Math") (by decide +kernel)) (hts (.code Lib.MathLoose.abs_long.x Lib.MathLoose.abs_long.code 2 (some .long)) (by decide +kernel)) (Nat.le_of_ble_eq_true rfl) (Nat.le_of_ble_eq_true rfl) (Nat.zero_le _) (Nat.zero_le _) dX1_sized_22 ?_
    refine vp_callSl (W.runV (As := [.long (if 0 < v1 then v1 else -v1)]) (rest := []) ⟨hx, hb, hml, hown, hts⟩ (ct_X1_fitted l ad k hk_k (if 0 < v1 then v1 else -v1)) (cwV 1 hts gX1_sized_X1_fitted rfl rfl rfl (by decide +kernel) ⟨Nat.le_of_ble_eq_true rfl, Nat.le_of_ble_eq_true rfl⟩) ⟨(fun a U g mk q => ⟨q.1, kw_blind q.2⟩), kw_recv hW hS hk_k, fun U hU hW9 => ⟨rfl, kw_call hW hS hU hW9⟩⟩ rfl rfl hl.1 rfl (lv_room (Nat.le_of_ble_eq_true rfl)) dX1_sized_25 ⟨Nat.zero_le _, Nat.zero_le _⟩) (fun r er => ?_)
    subst er
    exact W.lret (v := fn_X1_fitted k (if 0 < v1 then v1 else -v1)) hx hb hr (fun t ht _ => ⟨_, rfl, by unfold fn_X1_sized; rw [if_pos c_1], ht⟩) (fun _ h => by cases h) dX1_sized_28
  · refine lv_lload_n hx hb dX1_sized_7 rfl (lv_at hl 1 rfl) ?_
    refine lv_aload_n hx hb dX1_sized_8 rfl (lv_at hl 0 rfl) ?_
    refine kg_sign hx hb hW hk_k hS hown (hts (.fieldLink RX1 51 "ServoDesk$Kind" "sign" "J") (by decide +kernel)) dX1_sized_9 ?_
    refine lv_ldc2 (v := (-1 : Int64)) hx hb hown (hts (.constantLong RX1 49 (-1)) (by decide +kernel)) dX1_sized_12 ?_
    refine lv_lxor hx hb dX1_sized_15 ?_
    refine lv_land hx hb dX1_sized_16 ?_
    refine lv_goto (tgt := 28) hx hb dX1_sized_17 (by decide) ?_
    exact W.lret (v := v1 &&& ((kS k) ^^^ (-1 : Int64))) hx hb hr (fun t ht _ => ⟨_, rfl, by unfold fn_X1_sized; rw [if_neg c_1], ht⟩) (fun _ h => by cases h) dX1_sized_28
def fn_X1_isNumber (k : Nat) (v1 : Int64) : Int32 :=
  if (kF k) = 0 then
    (1 : Int32)
  else
    if (fn_X1_infinity k) < (fn_X1_sized k v1) then
      (0 : Int32)
    else
      (1 : Int32)
set_option maxHeartbeats 4000000 in
set_option maxRecDepth 100000 in
theorem ct_X1_isNumber (l : Launch) (ad : Nat → Nat) (k : Nat) (hk_k : k < 4) (v1 : Int64) : Met l yX1_isNumber wsX1_isNumber ({ frames := 2, cells := 0, slots := 0, locals := 45 } : Room) (va_Pc [.ref (ad k), .long v1] (fun U => kw ad (fun _ => False) U U.heap)) (vp_Si (fun r => r = fn_X1_isNumber k v1)) 0 0 (fun _ => False) := by
  refine Met.ofW (cc := cX1_isNumber) (maxL := 3) (ret := (some .boolean)) (by decide) rfl ?_
  intro p e s m args below meth c s₁ B hml hv
  obtain ⟨rfl, hW⟩ := hv
  have hx := B.exec
  have hb := B.bytes
  have hr := B.returns
  have hlocks := B.notSynchronized
  have hts := atoms_spec (ws := wsX1_isNumber) B.pre
  have hown : s.vm.findClass RX1 = some m.cls := findClass_of_methodNamed B.named
  have hS : va_S (fun _ => False) s.heap s.heap [] := va_S.rf
  have hl := lv_entry ([.ref (ad k), .long v1]) (n := 3) (Nat.le_of_ble_eq_true rfl)
  rw [lg_entry_eq]
  generalize (lg_sl ([.ref (ad k), .long v1]) ++ List.replicate (3 - (lg_sl ([.ref (ad k), .long v1])).length) Slot.unset).toArray = ls at hl ⊢
  have hl : lv_has ls 3 [(0, .ref (ad k)), (1, .long v1)] := hl
  refine lv_aload_n hx hb dX1_isNumber_0 rfl (lv_at hl 0 rfl) ?_
  refine kg_floating hx hb hW hk_k hS hown (hts (.fieldLink RX1 39 "ServoDesk$Kind" "floating" "Z") (by decide +kernel)) dX1_isNumber_1 ?_
  refine lv_if_eq (tgt := 20) hx hb dX1_isNumber_4 (by decide) (fun c_1 => ?_) (fun c_1 => ?_)
  · refine lv_iconst (v := (1 : Int32)) hx hb dX1_isNumber_20 (by decide) ?_
    refine lv_goto (tgt := 25) hx hb dX1_isNumber_21 (by decide) ?_
    exact W.zret (v := (1 : Int32)) (ty := .boolean) hx hb hr (by decide) (fun t ht _ => ⟨_, rfl, by unfold fn_X1_isNumber; rw [if_pos c_1], ht⟩) (fun _ h => by cases h) dX1_isNumber_25
  · refine lv_aload_n hx hb dX1_isNumber_7 rfl (lv_at hl 0 rfl) ?_
    refine lv_lload_n hx hb dX1_isNumber_8 rfl (lv_at hl 1 rfl) ?_
    refine vp_callSl (W.runV (As := [.long v1]) (rest := []) ⟨hx, hb, hml, hown, hts⟩ (ct_X1_sized l ad k hk_k v1) (cwV 1 hts gX1_isNumber_X1_sized rfl rfl rfl (by decide +kernel) ⟨Nat.le_of_ble_eq_true rfl, Nat.le_of_ble_eq_true rfl⟩) ⟨(fun a U g mk q => ⟨q.1, kw_blind q.2⟩), kw_recv hW hS hk_k, fun U hU hW9 => ⟨rfl, kw_call hW hS hU hW9⟩⟩ rfl rfl hl.1 rfl (lv_room (Nat.le_of_ble_eq_true rfl)) dX1_isNumber_9 ⟨Nat.zero_le _, Nat.zero_le _⟩) (fun r er => ?_)
    subst er
    refine lv_aload_n hx hb dX1_isNumber_12 rfl (lv_at hl 0 rfl) ?_
    refine vp_callSl (W.runV (As := []) (rest := [.long (fn_X1_sized k v1)]) ⟨hx, hb, hml, hown, hts⟩ (ct_X1_infinity l ad k hk_k) (cwV 0 hts gX1_isNumber_X1_infinity rfl rfl rfl (by decide +kernel) ⟨Nat.le_of_ble_eq_true rfl, Nat.le_of_ble_eq_true rfl⟩) ⟨(fun a U g mk q => ⟨q.1, kw_blind q.2⟩), kw_recv hW hS hk_k, fun U hU hW9 => ⟨rfl, kw_call hW hS hU hW9⟩⟩ rfl rfl hl.1 rfl (lv_room (Nat.le_of_ble_eq_true rfl)) dX1_isNumber_13 ⟨Nat.zero_le _, Nat.zero_le _⟩) (fun r er => ?_)
    subst er
    refine zl_gt (tgt := 24) hx hb dX1_isNumber_16 dX1_isNumber_17 (by decide) (fun c_2 => ?_) (fun c_2 => ?_)
    · refine lv_iconst (v := (0 : Int32)) hx hb dX1_isNumber_24 (by decide) ?_
      exact W.zret (v := (0 : Int32)) (ty := .boolean) hx hb hr (by decide) (fun t ht _ => ⟨_, rfl, by unfold fn_X1_isNumber; rw [if_neg c_1, if_pos c_2], ht⟩) (fun _ h => by cases h) dX1_isNumber_25
    · refine lv_iconst (v := (1 : Int32)) hx hb dX1_isNumber_20 (by decide) ?_
      refine lv_goto (tgt := 25) hx hb dX1_isNumber_21 (by decide) ?_
      exact W.zret (v := (1 : Int32)) (ty := .boolean) hx hb hr (by decide) (fun t ht _ => ⟨_, rfl, by unfold fn_X1_isNumber; rw [if_neg c_1, if_neg c_2], ht⟩) (fun _ h => by cases h) dX1_isNumber_25
def fn_X1_compared (k : Nat) (v1 : Int64) (v3 : Int64) : Int32 :=
  fn_J13_compare_74951 (fn_X1_rank k v1) (fn_X1_rank k v3)
set_option maxHeartbeats 4000000 in
set_option maxRecDepth 100000 in
theorem ct_X1_compared (l : Launch) (ad : Nat → Nat) (k : Nat) (hk_k : k < 4) (v1 : Int64) (v3 : Int64) : Met l yX1_compared wsX1_compared ({ frames := 1, cells := 0, slots := 0, locals := 23 } : Room) (va_Pc [.ref (ad k), .long v1, .long v3] (fun U => kw ad (fun _ => False) U U.heap)) (vp_Si (fun r => r = fn_X1_compared k v1 v3)) 0 0 (fun _ => False) := by
  refine Met.ofW (cc := cX1_compared) (maxL := 5) (ret := (some .int)) (by decide) rfl ?_
  intro p e s m args below meth c s₁ B hml hv
  obtain ⟨rfl, hW⟩ := hv
  have hx := B.exec
  have hb := B.bytes
  have hr := B.returns
  have hlocks := B.notSynchronized
  have hts := atoms_spec (ws := wsX1_compared) B.pre
  have hown : s.vm.findClass RX1 = some m.cls := findClass_of_methodNamed B.named
  have hS : va_S (fun _ => False) s.heap s.heap [] := va_S.rf
  have hl := lv_entry ([.ref (ad k), .long v1, .long v3]) (n := 5) (Nat.le_of_ble_eq_true rfl)
  rw [lg_entry_eq]
  generalize (lg_sl ([.ref (ad k), .long v1, .long v3]) ++ List.replicate (5 - (lg_sl ([.ref (ad k), .long v1, .long v3])).length) Slot.unset).toArray = ls at hl ⊢
  have hl : lv_has ls 5 [(0, .ref (ad k)), (1, .long v1), (3, .long v3)] := hl
  refine lv_aload_n hx hb dX1_compared_0 rfl (lv_at hl 0 rfl) ?_
  refine lv_lload_n hx hb dX1_compared_1 rfl (lv_at hl 1 rfl) ?_
  refine vp_callSl (W.runV (As := [.long v1]) (rest := []) ⟨hx, hb, hml, hown, hts⟩ (ct_X1_rank l ad k hk_k v1) (cwV 1 hts gX1_compared_X1_rank rfl rfl rfl (by decide +kernel) ⟨Nat.le_of_ble_eq_true rfl, Nat.le_of_ble_eq_true rfl⟩) ⟨(fun a U g mk q => ⟨q.1, kw_blind q.2⟩), kw_recv hW hS hk_k, fun U hU hW9 => ⟨rfl, kw_call hW hS hU hW9⟩⟩ rfl rfl hl.1 rfl (lv_room (Nat.le_of_ble_eq_true rfl)) dX1_compared_2 ⟨Nat.zero_le _, Nat.zero_le _⟩) (fun r er => ?_)
  subst er
  refine lv_aload_n hx hb dX1_compared_5 rfl (lv_at hl 0 rfl) ?_
  refine lv_lload_n hx hb dX1_compared_6 rfl (lv_at hl 2 rfl) ?_
  refine vp_callSl (W.runV (As := [.long v3]) (rest := [.long (fn_X1_rank k v1)]) ⟨hx, hb, hml, hown, hts⟩ (ct_X1_rank l ad k hk_k v3) (cwV 1 hts gX1_compared_X1_rank rfl rfl rfl (by decide +kernel) ⟨Nat.le_of_ble_eq_true rfl, Nat.le_of_ble_eq_true rfl⟩) ⟨(fun a U g mk q => ⟨q.1, kw_blind q.2⟩), kw_recv hW hS hk_k, fun U hU hW9 => ⟨rfl, kw_call hW hS hU hW9⟩⟩ rfl rfl hl.1 rfl (lv_room (Nat.le_of_ble_eq_true rfl)) dX1_compared_7 ⟨Nat.zero_le _, Nat.zero_le _⟩) (fun r er => ?_)
  subst er
  refine vp_callSi (W.runS (As := [.long (fn_X1_rank k v1), .long (fn_X1_rank k v3)]) (rest := []) ⟨hx, hb, hml, hown, hts⟩ (ct_J13_compare_74951 l (fn_X1_rank k v1) (fn_X1_rank k v3)) (va_cwS 2 hts gX1_compared_J13_compare_74951 rfl rfl rfl (by decide +kernel) ⟨Nat.le_of_ble_eq_true rfl, Nat.le_of_ble_eq_true rfl⟩) ⟨(fun a U g mk q => ⟨q.1, trivial⟩), fun U hU hW9 => ⟨rfl, trivial⟩⟩ rfl rfl hl.1 rfl (lv_room (Nat.le_of_ble_eq_true rfl)) dX1_compared_10 ⟨Nat.zero_le _, Nat.zero_le _⟩) (fun r er => ?_)
  subst er
  exact W.iret (v := fn_J13_compare_74951 (fn_X1_rank k v1) (fn_X1_rank k v3)) hx hb hr (fun t ht _ => ⟨_, rfl, rfl, ht⟩) (fun _ h => by cases h) dX1_compared_13
def fn_X1_greater (k : Nat) (v1 : Int64) (v3 : Int64) : Int64 :=
  if (fn_X1_compared k v1 v3) < 0 then
    v3
  else
    v1
set_option maxHeartbeats 4000000 in
set_option maxRecDepth 100000 in
theorem ct_X1_greater (l : Launch) (ad : Nat → Nat) (k : Nat) (hk_k : k < 4) (v1 : Int64) (v3 : Int64) : Met l yX1_greater wsX1_greater ({ frames := 2, cells := 0, slots := 0, locals := 47 } : Room) (va_Pc [.ref (ad k), .long v1, .long v3] (fun U => kw ad (fun _ => False) U U.heap)) (vp_Sl (fun r => r = fn_X1_greater k v1 v3)) 0 0 (fun _ => False) := by
  refine Met.ofW (cc := cX1_greater) (maxL := 5) (ret := (some .long)) (by decide) rfl ?_
  intro p e s m args below meth c s₁ B hml hv
  obtain ⟨rfl, hW⟩ := hv
  have hx := B.exec
  have hb := B.bytes
  have hr := B.returns
  have hlocks := B.notSynchronized
  have hts := atoms_spec (ws := wsX1_greater) B.pre
  have hown : s.vm.findClass RX1 = some m.cls := findClass_of_methodNamed B.named
  have hS : va_S (fun _ => False) s.heap s.heap [] := va_S.rf
  have hl := lv_entry ([.ref (ad k), .long v1, .long v3]) (n := 5) (Nat.le_of_ble_eq_true rfl)
  rw [lg_entry_eq]
  generalize (lg_sl ([.ref (ad k), .long v1, .long v3]) ++ List.replicate (5 - (lg_sl ([.ref (ad k), .long v1, .long v3])).length) Slot.unset).toArray = ls at hl ⊢
  have hl : lv_has ls 5 [(0, .ref (ad k)), (1, .long v1), (3, .long v3)] := hl
  refine lv_aload_n hx hb dX1_greater_0 rfl (lv_at hl 0 rfl) ?_
  refine lv_lload_n hx hb dX1_greater_1 rfl (lv_at hl 1 rfl) ?_
  refine lv_lload_n hx hb dX1_greater_2 rfl (lv_at hl 2 rfl) ?_
  refine vp_callSi (W.runV (As := [.long v1, .long v3]) (rest := []) ⟨hx, hb, hml, hown, hts⟩ (ct_X1_compared l ad k hk_k v1 v3) (cwV 2 hts gX1_greater_X1_compared rfl rfl rfl (by decide +kernel) ⟨Nat.le_of_ble_eq_true rfl, Nat.le_of_ble_eq_true rfl⟩) ⟨(fun a U g mk q => ⟨q.1, kw_blind q.2⟩), kw_recv hW hS hk_k, fun U hU hW9 => ⟨rfl, kw_call hW hS hU hW9⟩⟩ rfl rfl hl.1 rfl (lv_room (Nat.le_of_ble_eq_true rfl)) dX1_greater_3 ⟨Nat.zero_le _, Nat.zero_le _⟩) (fun r er => ?_)
  subst er
  refine lv_if_lt (tgt := 13) hx hb dX1_greater_6 (by decide) (fun c_1 => ?_) (fun c_1 => ?_)
  · refine lv_lload_n hx hb dX1_greater_13 rfl (lv_at hl 2 rfl) ?_
    exact W.lret (v := v3) hx hb hr (fun t ht _ => ⟨_, rfl, by unfold fn_X1_greater; rw [if_pos c_1], ht⟩) (fun _ h => by cases h) dX1_greater_14
  · refine lv_lload_n hx hb dX1_greater_9 rfl (lv_at hl 1 rfl) ?_
    refine lv_goto (tgt := 14) hx hb dX1_greater_10 (by decide) ?_
    exact W.lret (v := v1) hx hb hr (fun t ht _ => ⟨_, rfl, by unfold fn_X1_greater; rw [if_neg c_1], ht⟩) (fun _ h => by cases h) dX1_greater_14
def fn_X1_lesser (k : Nat) (v1 : Int64) (v3 : Int64) : Int64 :=
  if 0 < (fn_X1_compared k v1 v3) then
    v3
  else
    v1
set_option maxHeartbeats 4000000 in
set_option maxRecDepth 100000 in
theorem ct_X1_lesser (l : Launch) (ad : Nat → Nat) (k : Nat) (hk_k : k < 4) (v1 : Int64) (v3 : Int64) : Met l yX1_lesser wsX1_lesser ({ frames := 2, cells := 0, slots := 0, locals := 47 } : Room) (va_Pc [.ref (ad k), .long v1, .long v3] (fun U => kw ad (fun _ => False) U U.heap)) (vp_Sl (fun r => r = fn_X1_lesser k v1 v3)) 0 0 (fun _ => False) := by
  refine Met.ofW (cc := cX1_lesser) (maxL := 5) (ret := (some .long)) (by decide) rfl ?_
  intro p e s m args below meth c s₁ B hml hv
  obtain ⟨rfl, hW⟩ := hv
  have hx := B.exec
  have hb := B.bytes
  have hr := B.returns
  have hlocks := B.notSynchronized
  have hts := atoms_spec (ws := wsX1_lesser) B.pre
  have hown : s.vm.findClass RX1 = some m.cls := findClass_of_methodNamed B.named
  have hS : va_S (fun _ => False) s.heap s.heap [] := va_S.rf
  have hl := lv_entry ([.ref (ad k), .long v1, .long v3]) (n := 5) (Nat.le_of_ble_eq_true rfl)
  rw [lg_entry_eq]
  generalize (lg_sl ([.ref (ad k), .long v1, .long v3]) ++ List.replicate (5 - (lg_sl ([.ref (ad k), .long v1, .long v3])).length) Slot.unset).toArray = ls at hl ⊢
  have hl : lv_has ls 5 [(0, .ref (ad k)), (1, .long v1), (3, .long v3)] := hl
  refine lv_aload_n hx hb dX1_lesser_0 rfl (lv_at hl 0 rfl) ?_
  refine lv_lload_n hx hb dX1_lesser_1 rfl (lv_at hl 1 rfl) ?_
  refine lv_lload_n hx hb dX1_lesser_2 rfl (lv_at hl 2 rfl) ?_
  refine vp_callSi (W.runV (As := [.long v1, .long v3]) (rest := []) ⟨hx, hb, hml, hown, hts⟩ (ct_X1_compared l ad k hk_k v1 v3) (cwV 2 hts gX1_lesser_X1_compared rfl rfl rfl (by decide +kernel) ⟨Nat.le_of_ble_eq_true rfl, Nat.le_of_ble_eq_true rfl⟩) ⟨(fun a U g mk q => ⟨q.1, kw_blind q.2⟩), kw_recv hW hS hk_k, fun U hU hW9 => ⟨rfl, kw_call hW hS hU hW9⟩⟩ rfl rfl hl.1 rfl (lv_room (Nat.le_of_ble_eq_true rfl)) dX1_lesser_3 ⟨Nat.zero_le _, Nat.zero_le _⟩) (fun r er => ?_)
  subst er
  refine lv_if_gt (tgt := 13) hx hb dX1_lesser_6 (by decide) (fun c_1 => ?_) (fun c_1 => ?_)
  · refine lv_lload_n hx hb dX1_lesser_13 rfl (lv_at hl 2 rfl) ?_
    exact W.lret (v := v3) hx hb hr (fun t ht _ => ⟨_, rfl, by unfold fn_X1_lesser; rw [if_pos c_1], ht⟩) (fun _ h => by cases h) dX1_lesser_14
  · refine lv_lload_n hx hb dX1_lesser_9 rfl (lv_at hl 1 rfl) ?_
    refine lv_goto (tgt := 14) hx hb dX1_lesser_10 (by decide) ?_
    exact W.lret (v := v1) hx hb hr (fun t ht _ => ⟨_, rfl, by unfold fn_X1_lesser; rw [if_neg c_1], ht⟩) (fun _ h => by cases h) dX1_lesser_14
def fn_X1_turned (k : Nat) (v1 : Int64) (v3 : Int64) : Int64 :=
  if v3 < (0 : Int64) then
    if (kF k) = 0 then
      fn_X1_fitted k (-(fn_X1_sized k v1))
    else
      (fn_X1_sized k v1) ||| (kS k)
  else
    fn_X1_sized k v1
set_option maxHeartbeats 4000000 in
set_option maxRecDepth 100000 in
theorem ct_X1_turned (l : Launch) (ad : Nat → Nat) (k : Nat) (hk_k : k < 4) (v1 : Int64) (v3 : Int64) : Met l yX1_turned wsX1_turned ({ frames := 2, cells := 0, slots := 0, locals := 45 } : Room) (va_Pc [.ref (ad k), .long v1, .long v3] (fun U => kw ad (fun _ => False) U U.heap)) (vp_Sl (fun r => r = fn_X1_turned k v1 v3)) 0 0 (fun _ => False) := by
  refine Met.ofW (cc := cX1_turned) (maxL := 7) (ret := (some .long)) (by decide) rfl ?_
  intro p e s m args below meth c s₁ B hml hv
  obtain ⟨rfl, hW⟩ := hv
  have hx := B.exec
  have hb := B.bytes
  have hr := B.returns
  have hlocks := B.notSynchronized
  have hts := atoms_spec (ws := wsX1_turned) B.pre
  have hown : s.vm.findClass RX1 = some m.cls := findClass_of_methodNamed B.named
  have hS : va_S (fun _ => False) s.heap s.heap [] := va_S.rf
  have hl := lv_entry ([.ref (ad k), .long v1, .long v3]) (n := 7) (Nat.le_of_ble_eq_true rfl)
  rw [lg_entry_eq]
  generalize (lg_sl ([.ref (ad k), .long v1, .long v3]) ++ List.replicate (7 - (lg_sl ([.ref (ad k), .long v1, .long v3])).length) Slot.unset).toArray = ls at hl ⊢
  have hl : lv_has ls 7 [(0, .ref (ad k)), (1, .long v1), (3, .long v3)] := hl
  refine lv_aload_n hx hb dX1_turned_0 rfl (lv_at hl 0 rfl) ?_
  refine lv_lload_n hx hb dX1_turned_1 rfl (lv_at hl 1 rfl) ?_
  refine vp_callSl (W.runV (As := [.long v1]) (rest := []) ⟨hx, hb, hml, hown, hts⟩ (ct_X1_sized l ad k hk_k v1) (cwV 1 hts gX1_turned_X1_sized rfl rfl rfl (by decide +kernel) ⟨Nat.le_of_ble_eq_true rfl, Nat.le_of_ble_eq_true rfl⟩) ⟨(fun a U g mk q => ⟨q.1, kw_blind q.2⟩), kw_recv hW hS hk_k, fun U hU hW9 => ⟨rfl, kw_call hW hS hU hW9⟩⟩ rfl rfl hl.1 rfl (lv_room (Nat.le_of_ble_eq_true rfl)) dX1_turned_2 ⟨Nat.zero_le _, Nat.zero_le _⟩) (fun r er => ?_)
  subst er
  refine lv_lstore (lv' := [(5, .long (fn_X1_sized k v1)), (0, .ref (ad k)), (1, .long v1), (3, .long v3)]) hx hb dX1_turned_5 hl (by decide) rfl (fun ls hl => ?_)
  refine lv_lload_n hx hb dX1_turned_7 rfl (lv_at hl 3 rfl) ?_
  refine lv_lconst (v := (0 : Int64)) hx hb dX1_turned_8 (by decide) ?_
  refine zl_lt (tgt := 16) hx hb dX1_turned_9 dX1_turned_10 (by decide) (fun c_1 => ?_) (fun c_1 => ?_)
  · refine lv_aload_n hx hb dX1_turned_16 rfl (lv_at hl 1 rfl) ?_
    refine kg_floating hx hb hW hk_k hS hown (hts (.fieldLink RX1 39 "ServoDesk$Kind" "floating" "Z") (by decide +kernel)) dX1_turned_17 ?_
    refine lv_if_eq (tgt := 33) hx hb dX1_turned_20 (by decide) (fun c_2 => ?_) (fun c_2 => ?_)
    · refine lv_aload_n hx hb dX1_turned_33 rfl (lv_at hl 1 rfl) ?_
      refine lv_lload hx hb dX1_turned_34 (lv_at hl 0 rfl) ?_
      refine lv_lneg hx hb dX1_turned_36 ?_
      refine vp_callSl (W.runV (As := [.long (-(fn_X1_sized k v1))]) (rest := []) ⟨hx, hb, hml, hown, hts⟩ (ct_X1_fitted l ad k hk_k (-(fn_X1_sized k v1))) (cwV 1 hts gX1_turned_X1_fitted rfl rfl rfl (by decide +kernel) ⟨Nat.le_of_ble_eq_true rfl, Nat.le_of_ble_eq_true rfl⟩) ⟨(fun a U g mk q => ⟨q.1, kw_blind q.2⟩), kw_recv hW hS hk_k, fun U hU hW9 => ⟨rfl, kw_call hW hS hU hW9⟩⟩ rfl rfl hl.1 rfl (lv_room (Nat.le_of_ble_eq_true rfl)) dX1_turned_37 ⟨Nat.zero_le _, Nat.zero_le _⟩) (fun r er => ?_)
      subst er
      exact W.lret (v := fn_X1_fitted k (-(fn_X1_sized k v1))) hx hb hr (fun t ht _ => ⟨_, rfl, by unfold fn_X1_turned; rw [if_pos c_1, if_pos c_2], ht⟩) (fun _ h => by cases h) dX1_turned_40
    · refine lv_lload hx hb dX1_turned_23 (lv_at hl 0 rfl) ?_
      refine lv_aload_n hx hb dX1_turned_25 rfl (lv_at hl 1 rfl) ?_
      refine kg_sign hx hb hW hk_k hS hown (hts (.fieldLink RX1 51 "ServoDesk$Kind" "sign" "J") (by decide +kernel)) dX1_turned_26 ?_
      refine lv_lor hx hb dX1_turned_29 ?_
      refine lv_goto (tgt := 40) hx hb dX1_turned_30 (by decide) ?_
      exact W.lret (v := (fn_X1_sized k v1) ||| (kS k)) hx hb hr (fun t ht _ => ⟨_, rfl, by unfold fn_X1_turned; rw [if_pos c_1, if_neg c_2], ht⟩) (fun _ h => by cases h) dX1_turned_40
  · refine lv_lload hx hb dX1_turned_13 (lv_at hl 0 rfl) ?_
    exact W.lret (v := fn_X1_sized k v1) hx hb hr (fun t ht _ => ⟨_, rfl, by unfold fn_X1_turned; rw [if_neg c_1], ht⟩) (fun _ h => by cases h) dX1_turned_15
def fn_X1_zeroBeside (k : Nat) (v1 : Int64) : Int64 :=
  fn_X1_turned k (0 : Int64) v1
set_option maxHeartbeats 4000000 in
set_option maxRecDepth 100000 in
theorem ct_X1_zeroBeside (l : Launch) (ad : Nat → Nat) (k : Nat) (hk_k : k < 4) (v1 : Int64) : Met l yX1_zeroBeside wsX1_zeroBeside ({ frames := 3, cells := 0, slots := 0, locals := 71 } : Room) (va_Pc [.ref (ad k), .long v1] (fun U => kw ad (fun _ => False) U U.heap)) (vp_Sl (fun r => r = fn_X1_zeroBeside k v1)) 0 0 (fun _ => False) := by
  refine Met.ofW (cc := cX1_zeroBeside) (maxL := 3) (ret := (some .long)) (by decide) rfl ?_
  intro p e s m args below meth c s₁ B hml hv
  obtain ⟨rfl, hW⟩ := hv
  have hx := B.exec
  have hb := B.bytes
  have hr := B.returns
  have hlocks := B.notSynchronized
  have hts := atoms_spec (ws := wsX1_zeroBeside) B.pre
  have hown : s.vm.findClass RX1 = some m.cls := findClass_of_methodNamed B.named
  have hS : va_S (fun _ => False) s.heap s.heap [] := va_S.rf
  have hl := lv_entry ([.ref (ad k), .long v1]) (n := 3) (Nat.le_of_ble_eq_true rfl)
  rw [lg_entry_eq]
  generalize (lg_sl ([.ref (ad k), .long v1]) ++ List.replicate (3 - (lg_sl ([.ref (ad k), .long v1])).length) Slot.unset).toArray = ls at hl ⊢
  have hl : lv_has ls 3 [(0, .ref (ad k)), (1, .long v1)] := hl
  refine lv_aload_n hx hb dX1_zeroBeside_0 rfl (lv_at hl 0 rfl) ?_
  refine lv_lconst (v := (0 : Int64)) hx hb dX1_zeroBeside_1 (by decide) ?_
  refine lv_lload_n hx hb dX1_zeroBeside_2 rfl (lv_at hl 1 rfl) ?_
  refine vp_callSl (W.runV (As := [.long (0 : Int64), .long v1]) (rest := []) ⟨hx, hb, hml, hown, hts⟩ (ct_X1_turned l ad k hk_k (0 : Int64) v1) (cwV 2 hts gX1_zeroBeside_X1_turned rfl rfl rfl (by decide +kernel) ⟨Nat.le_of_ble_eq_true rfl, Nat.le_of_ble_eq_true rfl⟩) ⟨(fun a U g mk q => ⟨q.1, kw_blind q.2⟩), kw_recv hW hS hk_k, fun U hU hW9 => ⟨rfl, kw_call hW hS hU hW9⟩⟩ rfl rfl hl.1 rfl (lv_room (Nat.le_of_ble_eq_true rfl)) dX1_zeroBeside_3 ⟨Nat.zero_le _, Nat.zero_le _⟩) (fun r er => ?_)
  subst er
  exact W.lret (v := fn_X1_turned k (0 : Int64) v1) hx hb hr (fun t ht _ => ⟨_, rfl, rfl, ht⟩) (fun _ h => by cases h) dX1_zeroBeside_6
end
section
def fn_X1_bitsBelowUnit (k : Nat) (v1 : Int64) : Int32 :=
  if (0 : Int32) < (((kB k) + (kR k)) - (Int64.toInt32 ((Int64.toUInt64 v1 >>> (Int64.toUInt64 (Int32.toInt64 (kR k)) &&& Int64.toUInt64 63)).toInt64))) then (((kB k) + (kR k)) - (Int64.toInt32 ((Int64.toUInt64 v1 >>> (Int64.toUInt64 (Int32.toInt64 (kR k)) &&& Int64.toUInt64 63)).toInt64))) else (0 : Int32)
set_option maxHeartbeats 4000000 in
set_option maxRecDepth 100000 in
theorem ct_X1_bitsBelowUnit (l : Launch) (ad : Nat → Nat) (k : Nat) (hk_k : k < 4) (v1 : Int64) : Met l yX1_bitsBelowUnit wsX1_bitsBelowUnit ({ frames := 1, cells := 0, slots := 0, locals := 23 } : Room) (va_Pc [.ref (ad k), .long v1] (fun U => kw ad (fun _ => False) U U.heap)) (vp_Si (fun r => r = fn_X1_bitsBelowUnit k v1)) 0 0 (fun _ => False) := by
  refine Met.ofW (cc := cX1_bitsBelowUnit) (maxL := 3) (ret := (some .int)) (by decide) rfl ?_
  intro p e s m args below meth c s₁ B hml hv
  obtain ⟨rfl, hW⟩ := hv
  have hx := B.exec
  have hb := B.bytes
  have hr := B.returns
  have hlocks := B.notSynchronized
  have hts := atoms_spec (ws := wsX1_bitsBelowUnit) B.pre
  have hown : s.vm.findClass RX1 = some m.cls := findClass_of_methodNamed B.named
  have hS : va_S (fun _ => False) s.heap s.heap [] := va_S.rf
  have hl := lv_entry ([.ref (ad k), .long v1]) (n := 3) (Nat.le_of_ble_eq_true rfl)
  rw [lg_entry_eq]
  generalize (lg_sl ([.ref (ad k), .long v1]) ++ List.replicate (3 - (lg_sl ([.ref (ad k), .long v1])).length) Slot.unset).toArray = ls at hl ⊢
  have hl : lv_has ls 3 [(0, .ref (ad k)), (1, .long v1)] := hl
  refine lv_iconst (v := (0 : Int32)) hx hb dX1_bitsBelowUnit_0 (by decide) ?_
  refine lv_aload_n hx hb dX1_bitsBelowUnit_1 rfl (lv_at hl 0 rfl) ?_
  refine kg_bias hx hb hW hk_k hS hown (hts (.fieldLink RX1 46 "ServoDesk$Kind" "bias" "I") (by decide +kernel)) dX1_bitsBelowUnit_2 ?_
  refine lv_aload_n hx hb dX1_bitsBelowUnit_5 rfl (lv_at hl 0 rfl) ?_
  refine kg_fraction hx hb hW hk_k hS hown (hts (.fieldLink RX1 43 "ServoDesk$Kind" "fraction" "I") (by decide +kernel)) dX1_bitsBelowUnit_6 ?_
  refine lv_iadd hx hb dX1_bitsBelowUnit_9 ?_
  refine lv_lload_n hx hb dX1_bitsBelowUnit_10 rfl (lv_at hl 1 rfl) ?_
  refine lv_aload_n hx hb dX1_bitsBelowUnit_11 rfl (lv_at hl 0 rfl) ?_
  refine kg_fraction hx hb hW hk_k hS hown (hts (.fieldLink RX1 43 "ServoDesk$Kind" "fraction" "I") (by decide +kernel)) dX1_bitsBelowUnit_12 ?_
  refine lv_lushr hx hb dX1_bitsBelowUnit_15 rfl ?_
  refine lv_l2i hx hb dX1_bitsBelowUnit_16 rfl ?_
  refine lv_isub hx hb dX1_bitsBelowUnit_17 ?_
  refine va_mmax hx hb (hml.trans hl.1.symm) hown (hts (.methodLink RX1 98 Lib.Math.max.name) (by decide +kernel)) (hts (.static Lib.Math.max.name) (by decide +kernel)) (hts (.initialized "java/lang/Math") (by decide +kernel)) (hts (.code Lib.Math.max.name Lib.Math.max.code 2 (some .int)) (by decide +kernel)) (Nat.le_of_ble_eq_true rfl) (Nat.le_of_ble_eq_true rfl) (Nat.zero_le _) (Nat.zero_le _) dX1_bitsBelowUnit_18 ?_
  exact W.iret (v := if (0 : Int32) < (((kB k) + (kR k)) - (Int64.toInt32 ((Int64.toUInt64 v1 >>> (Int64.toUInt64 (Int32.toInt64 (kR k)) &&& Int64.toUInt64 63)).toInt64))) then (((kB k) + (kR k)) - (Int64.toInt32 ((Int64.toUInt64 v1 >>> (Int64.toUInt64 (Int32.toInt64 (kR k)) &&& Int64.toUInt64 63)).toInt64))) else (0 : Int32)) hx hb hr (fun t ht _ => ⟨_, rfl, rfl, ht⟩) (fun _ h => by cases h) dX1_bitsBelowUnit_21
def fn_X1_inward (k : Nat) (v1 : Int64) : Int64 :=
  if (fn_X1_one k) ≤ v1 then
    ((Int64.toUInt64 v1 >>> (Int64.toUInt64 (Int32.toInt64 (fn_X1_bitsBelowUnit k v1)) &&& Int64.toUInt64 63)).toInt64) <<< (Int32.toInt64 (fn_X1_bitsBelowUnit k v1) &&& 63)
  else
    (0 : Int64)
set_option maxHeartbeats 4000000 in
set_option maxRecDepth 100000 in
theorem ct_X1_inward (l : Launch) (ad : Nat → Nat) (k : Nat) (hk_k : k < 4) (v1 : Int64) : Met l yX1_inward wsX1_inward ({ frames := 2, cells := 0, slots := 0, locals := 45 } : Room) (va_Pc [.ref (ad k), .long v1] (fun U => kw ad (fun _ => False) U U.heap)) (vp_Sl (fun r => r = fn_X1_inward k v1)) 0 0 (fun _ => False) := by
  refine Met.ofW (cc := cX1_inward) (maxL := 4) (ret := (some .long)) (by decide) rfl ?_
  intro p e s m args below meth c s₁ B hml hv
  obtain ⟨rfl, hW⟩ := hv
  have hx := B.exec
  have hb := B.bytes
  have hr := B.returns
  have hlocks := B.notSynchronized
  have hts := atoms_spec (ws := wsX1_inward) B.pre
  have hown : s.vm.findClass RX1 = some m.cls := findClass_of_methodNamed B.named
  have hS : va_S (fun _ => False) s.heap s.heap [] := va_S.rf
  have hl := lv_entry ([.ref (ad k), .long v1]) (n := 4) (Nat.le_of_ble_eq_true rfl)
  rw [lg_entry_eq]
  generalize (lg_sl ([.ref (ad k), .long v1]) ++ List.replicate (4 - (lg_sl ([.ref (ad k), .long v1])).length) Slot.unset).toArray = ls at hl ⊢
  have hl : lv_has ls 4 [(0, .ref (ad k)), (1, .long v1)] := hl
  refine lv_lload_n hx hb dX1_inward_0 rfl (lv_at hl 1 rfl) ?_
  refine lv_aload_n hx hb dX1_inward_1 rfl (lv_at hl 0 rfl) ?_
  refine vp_callSl (W.runV (As := []) (rest := [.long v1]) ⟨hx, hb, hml, hown, hts⟩ (ct_X1_one l ad k hk_k) (cwV 0 hts gX1_inward_X1_one rfl rfl rfl (by decide +kernel) ⟨Nat.le_of_ble_eq_true rfl, Nat.le_of_ble_eq_true rfl⟩) ⟨(fun a U g mk q => ⟨q.1, kw_blind q.2⟩), kw_recv hW hS hk_k, fun U hU hW9 => ⟨rfl, kw_call hW hS hU hW9⟩⟩ rfl rfl hl.1 rfl (lv_room (Nat.le_of_ble_eq_true rfl)) dX1_inward_2 ⟨Nat.zero_le _, Nat.zero_le _⟩) (fun r er => ?_)
  subst er
  refine zl_ge (tgt := 11) hx hb dX1_inward_5 dX1_inward_6 (by decide) (fun c_1 => ?_) (fun c_1 => ?_)
  · refine lv_aload_n hx hb dX1_inward_11 rfl (lv_at hl 0 rfl) ?_
    refine lv_lload_n hx hb dX1_inward_12 rfl (lv_at hl 1 rfl) ?_
    refine vp_callSi (W.runV (As := [.long v1]) (rest := []) ⟨hx, hb, hml, hown, hts⟩ (ct_X1_bitsBelowUnit l ad k hk_k v1) (cwV 1 hts gX1_inward_X1_bitsBelowUnit rfl rfl rfl (by decide +kernel) ⟨Nat.le_of_ble_eq_true rfl, Nat.le_of_ble_eq_true rfl⟩) ⟨(fun a U g mk q => ⟨q.1, kw_blind q.2⟩), kw_recv hW hS hk_k, fun U hU hW9 => ⟨rfl, kw_call hW hS hU hW9⟩⟩ rfl rfl hl.1 rfl (lv_room (Nat.le_of_ble_eq_true rfl)) dX1_inward_13 ⟨Nat.zero_le _, Nat.zero_le _⟩) (fun r er => ?_)
    subst er
    refine lv_istore_n (lv' := [(3, .int (fn_X1_bitsBelowUnit k v1)), (0, .ref (ad k)), (1, .long v1)]) hx hb dX1_inward_16 rfl hl (by decide) rfl (fun ls hl => ?_)
    refine lv_lload_n hx hb dX1_inward_17 rfl (lv_at hl 2 rfl) ?_
    refine lv_iload_n hx hb dX1_inward_18 rfl (lv_at hl 0 rfl) ?_
    refine lv_lushr hx hb dX1_inward_19 rfl ?_
    refine lv_iload_n hx hb dX1_inward_20 rfl (lv_at hl 0 rfl) ?_
    refine lv_lshl hx hb dX1_inward_21 rfl ?_
    exact W.lret (v := ((Int64.toUInt64 v1 >>> (Int64.toUInt64 (Int32.toInt64 (fn_X1_bitsBelowUnit k v1)) &&& Int64.toUInt64 63)).toInt64) <<< (Int32.toInt64 (fn_X1_bitsBelowUnit k v1) &&& 63)) hx hb hr (fun t ht _ => ⟨_, rfl, by unfold fn_X1_inward; rw [if_pos c_1], ht⟩) (fun _ h => by cases h) dX1_inward_22
  · refine lv_lconst (v := (0 : Int64)) hx hb dX1_inward_9 (by decide) ?_
    exact W.lret (v := (0 : Int64)) hx hb hr (fun t ht _ => ⟨_, rfl, by unfold fn_X1_inward; rw [if_neg c_1], ht⟩) (fun _ h => by cases h) dX1_inward_10
def fn_X1_outward (k : Nat) (v1 : Int64) : Int64 :=
  if (fn_X1_one k) ≤ v1 then
    (v1 + (((1 : Int64) <<< (Int32.toInt64 (fn_X1_bitsBelowUnit k v1) &&& 63)) - (1 : Int64))) &&& ((((1 : Int64) <<< (Int32.toInt64 (fn_X1_bitsBelowUnit k v1) &&& 63)) - (1 : Int64)) ^^^ (-1 : Int64))
  else
    if v1 = (0 : Int64) then
      (0 : Int64)
    else
      fn_X1_one k
set_option maxHeartbeats 4000000 in
set_option maxRecDepth 100000 in
theorem ct_X1_outward (l : Launch) (ad : Nat → Nat) (k : Nat) (hk_k : k < 4) (v1 : Int64) : Met l yX1_outward wsX1_outward ({ frames := 2, cells := 0, slots := 0, locals := 45 } : Room) (va_Pc [.ref (ad k), .long v1] (fun U => kw ad (fun _ => False) U U.heap)) (vp_Sl (fun r => r = fn_X1_outward k v1)) 0 0 (fun _ => False) := by
  refine Met.ofW (cc := cX1_outward) (maxL := 5) (ret := (some .long)) (by decide) rfl ?_
  intro p e s m args below meth c s₁ B hml hv
  obtain ⟨rfl, hW⟩ := hv
  have hx := B.exec
  have hb := B.bytes
  have hr := B.returns
  have hlocks := B.notSynchronized
  have hts := atoms_spec (ws := wsX1_outward) B.pre
  have hown : s.vm.findClass RX1 = some m.cls := findClass_of_methodNamed B.named
  have hS : va_S (fun _ => False) s.heap s.heap [] := va_S.rf
  have hl := lv_entry ([.ref (ad k), .long v1]) (n := 5) (Nat.le_of_ble_eq_true rfl)
  rw [lg_entry_eq]
  generalize (lg_sl ([.ref (ad k), .long v1]) ++ List.replicate (5 - (lg_sl ([.ref (ad k), .long v1])).length) Slot.unset).toArray = ls at hl ⊢
  have hl : lv_has ls 5 [(0, .ref (ad k)), (1, .long v1)] := hl
  refine lv_lload_n hx hb dX1_outward_0 rfl (lv_at hl 1 rfl) ?_
  refine lv_aload_n hx hb dX1_outward_1 rfl (lv_at hl 0 rfl) ?_
  refine vp_callSl (W.runV (As := []) (rest := [.long v1]) ⟨hx, hb, hml, hown, hts⟩ (ct_X1_one l ad k hk_k) (cwV 0 hts gX1_outward_X1_one rfl rfl rfl (by decide +kernel) ⟨Nat.le_of_ble_eq_true rfl, Nat.le_of_ble_eq_true rfl⟩) ⟨(fun a U g mk q => ⟨q.1, kw_blind q.2⟩), kw_recv hW hS hk_k, fun U hU hW9 => ⟨rfl, kw_call hW hS hU hW9⟩⟩ rfl rfl hl.1 rfl (lv_room (Nat.le_of_ble_eq_true rfl)) dX1_outward_2 ⟨Nat.zero_le _, Nat.zero_le _⟩) (fun r er => ?_)
  subst er
  refine zl_ge (tgt := 24) hx hb dX1_outward_5 dX1_outward_6 (by decide) (fun c_1 => ?_) (fun c_1 => ?_)
  · refine lv_lconst (v := (1 : Int64)) hx hb dX1_outward_24 (by decide) ?_
    refine lv_aload_n hx hb dX1_outward_25 rfl (lv_at hl 0 rfl) ?_
    refine lv_lload_n hx hb dX1_outward_26 rfl (lv_at hl 1 rfl) ?_
    refine vp_callSi (W.runV (As := [.long v1]) (rest := [.long (1 : Int64)]) ⟨hx, hb, hml, hown, hts⟩ (ct_X1_bitsBelowUnit l ad k hk_k v1) (cwV 1 hts gX1_outward_X1_bitsBelowUnit rfl rfl rfl (by decide +kernel) ⟨Nat.le_of_ble_eq_true rfl, Nat.le_of_ble_eq_true rfl⟩) ⟨(fun a U g mk q => ⟨q.1, kw_blind q.2⟩), kw_recv hW hS hk_k, fun U hU hW9 => ⟨rfl, kw_call hW hS hU hW9⟩⟩ rfl rfl hl.1 rfl (lv_room (Nat.le_of_ble_eq_true rfl)) dX1_outward_27 ⟨Nat.zero_le _, Nat.zero_le _⟩) (fun r er => ?_)
    subst er
    refine lv_lshl hx hb dX1_outward_30 rfl ?_
    refine lv_lconst (v := (1 : Int64)) hx hb dX1_outward_31 (by decide) ?_
    refine lv_lsub hx hb dX1_outward_32 ?_
    refine lv_lstore_n (lv' := [(3, .long (((1 : Int64) <<< (Int32.toInt64 (fn_X1_bitsBelowUnit k v1) &&& 63)) - (1 : Int64))), (0, .ref (ad k)), (1, .long v1)]) hx hb dX1_outward_33 rfl hl (by decide) rfl (fun ls hl => ?_)
    refine lv_lload_n hx hb dX1_outward_34 rfl (lv_at hl 2 rfl) ?_
    refine lv_lload_n hx hb dX1_outward_35 rfl (lv_at hl 0 rfl) ?_
    refine lv_ladd hx hb dX1_outward_36 ?_
    refine lv_lload_n hx hb dX1_outward_37 rfl (lv_at hl 0 rfl) ?_
    refine lv_ldc2 (v := (-1 : Int64)) hx hb hown (hts (.constantLong RX1 49 (-1)) (by decide +kernel)) dX1_outward_38 ?_
    refine lv_lxor hx hb dX1_outward_41 ?_
    refine lv_land hx hb dX1_outward_42 ?_
    exact W.lret (v := (v1 + (((1 : Int64) <<< (Int32.toInt64 (fn_X1_bitsBelowUnit k v1) &&& 63)) - (1 : Int64))) &&& ((((1 : Int64) <<< (Int32.toInt64 (fn_X1_bitsBelowUnit k v1) &&& 63)) - (1 : Int64)) ^^^ (-1 : Int64))) hx hb hr (fun t ht _ => ⟨_, rfl, by unfold fn_X1_outward; rw [if_pos c_1], ht⟩) (fun _ h => by cases h) dX1_outward_43
  · refine lv_lload_n hx hb dX1_outward_9 rfl (lv_at hl 1 rfl) ?_
    refine lv_lconst (v := (0 : Int64)) hx hb dX1_outward_10 (by decide) ?_
    refine zl_ne (tgt := 19) hx hb dX1_outward_11 dX1_outward_12 (by decide) (fun c_2 => ?_) (fun c_2 => ?_)
    · refine lv_aload_n hx hb dX1_outward_19 rfl (lv_at hl 0 rfl) ?_
      refine vp_callSl (W.runV (As := []) (rest := []) ⟨hx, hb, hml, hown, hts⟩ (ct_X1_one l ad k hk_k) (cwV 0 hts gX1_outward_X1_one rfl rfl rfl (by decide +kernel) ⟨Nat.le_of_ble_eq_true rfl, Nat.le_of_ble_eq_true rfl⟩) ⟨(fun a U g mk q => ⟨q.1, kw_blind q.2⟩), kw_recv hW hS hk_k, fun U hU hW9 => ⟨rfl, kw_call hW hS hU hW9⟩⟩ rfl rfl hl.1 rfl (lv_room (Nat.le_of_ble_eq_true rfl)) dX1_outward_20 ⟨Nat.zero_le _, Nat.zero_le _⟩) (fun r er => ?_)
      subst er
      exact W.lret (v := fn_X1_one k) hx hb hr (fun t ht _ => ⟨_, rfl, by unfold fn_X1_outward; rw [if_neg c_1, if_neg c_2], ht⟩) (fun _ h => by cases h) dX1_outward_23
    · refine lv_lconst (v := (0 : Int64)) hx hb dX1_outward_15 (by decide) ?_
      refine lv_goto (tgt := 23) hx hb dX1_outward_16 (by decide) ?_
      exact W.lret (v := (0 : Int64)) hx hb hr (fun t ht _ => ⟨_, rfl, by unfold fn_X1_outward; rw [if_neg c_1, if_pos c_2], ht⟩) (fun _ h => by cases h) dX1_outward_23
def fn_X1_scaledDown_73 (x3 : Int64) (x9 : Int32) : Int64 :=
  if x9 = 0 then
    x3
  else
    x3 + (1 : Int64)
set_option maxHeartbeats 4000000 in
set_option maxRecDepth 100000 in
theorem sg_X1_scaledDown_73 {p : Program} {l : Launch} {e : Env} {s : State} {m : MethodId} {args : Array Value} {below : List Frame} {meth : Method} {c : Code} {ls : Array Slot} {g : Int64} (hx : p.tables.exec = Jvm.exec) (hb : c.code = cX1_scaledDown) (hr : meth.sig.returnType = (some .long)) (hml : c.maxLocals = 10) (hts : ∀ w ∈ wsX1_scaledDown, w.before args s = true) (hown : s.vm.findClass RX1 = some m.cls) (hlocks : meth.locks = false) (x3 : Int64) (x9 : Int32) (hg : g = fn_X1_scaledDown_73 x3 x9) (hl : lv_has ls 10 [(3, .long x3), (9, .int x9)]) : W p l e ({ frames := 1, cells := 0, slots := 0, locals := 23 } : Room) s m args below meth c s.heap [] 0 0 (MQ below (vp_Sl (fun r => r = g)) args s 0 0 (fun _ => False)) (F0 m 73 ls []) := by
  have hS : va_S (fun _ => False) s.heap s.heap [] := va_S.rf
  refine lv_iload hx hb dX1_scaledDown_73 (lv_at hl 1 rfl) ?_
  refine lv_if_eq (tgt := 84) hx hb dX1_scaledDown_75 (by decide) (fun c_1 => ?_) (fun c_1 => ?_)
  · refine lv_lload_n hx hb dX1_scaledDown_84 rfl (lv_at hl 0 rfl) ?_
    exact W.lret (v := x3) hx hb hr (fun t ht _ => ⟨_, rfl, by rw [hg]; unfold fn_X1_scaledDown_73; rw [if_pos c_1], ht⟩) (fun _ h => by cases h) dX1_scaledDown_85
  · refine lv_lload_n hx hb dX1_scaledDown_78 rfl (lv_at hl 0 rfl) ?_
    refine lv_lconst (v := (1 : Int64)) hx hb dX1_scaledDown_79 (by decide) ?_
    refine lv_ladd hx hb dX1_scaledDown_80 ?_
    refine lv_goto (tgt := 85) hx hb dX1_scaledDown_81 (by decide) ?_
    exact W.lret (v := x3 + (1 : Int64)) hx hb hr (fun t ht _ => ⟨_, rfl, by rw [hg]; unfold fn_X1_scaledDown_73; rw [if_neg c_1], ht⟩) (fun _ h => by cases h) dX1_scaledDown_85
def fn_X1_scaledDown_42 (x3 : Int64) (x5 : Int64) (x7 : Int64) : Int64 :=
  if x7 < x5 then
    fn_X1_scaledDown_73 x3 (1 : Int32)
  else
    if x5 = x7 then
      if (x3 &&& (1 : Int64)) = (0 : Int64) then
        fn_X1_scaledDown_73 x3 (0 : Int32)
      else
        fn_X1_scaledDown_73 x3 (1 : Int32)
    else
      fn_X1_scaledDown_73 x3 (0 : Int32)
set_option maxHeartbeats 4000000 in
set_option maxRecDepth 100000 in
theorem sg_X1_scaledDown_42 {p : Program} {l : Launch} {e : Env} {s : State} {m : MethodId} {args : Array Value} {below : List Frame} {meth : Method} {c : Code} {ls : Array Slot} {g : Int64} (hx : p.tables.exec = Jvm.exec) (hb : c.code = cX1_scaledDown) (hr : meth.sig.returnType = (some .long)) (hml : c.maxLocals = 10) (hts : ∀ w ∈ wsX1_scaledDown, w.before args s = true) (hown : s.vm.findClass RX1 = some m.cls) (hlocks : meth.locks = false) (x3 : Int64) (x5 : Int64) (x7 : Int64) (hg : g = fn_X1_scaledDown_42 x3 x5 x7) (hl : lv_has ls 10 [(3, .long x3), (5, .long x5), (7, .long x7)]) : W p l e ({ frames := 1, cells := 0, slots := 0, locals := 23 } : Room) s m args below meth c s.heap [] 0 0 (MQ below (vp_Sl (fun r => r = g)) args s 0 0 (fun _ => False)) (F0 m 42 ls []) := by
  have hS : va_S (fun _ => False) s.heap s.heap [] := va_S.rf
  refine lv_lload hx hb dX1_scaledDown_42 (lv_at hl 1 rfl) ?_
  refine lv_lload hx hb dX1_scaledDown_44 (lv_at hl 2 rfl) ?_
  refine zl_gt (tgt := 66) hx hb dX1_scaledDown_46 dX1_scaledDown_47 (by decide) (fun c_1 => ?_) (fun c_1 => ?_)
  · refine lv_iconst (v := (1 : Int32)) hx hb dX1_scaledDown_66 (by decide) ?_
    refine lv_goto (tgt := 71) hx hb dX1_scaledDown_67 (by decide) ?_
    refine lv_istore (lv' := [(9, .int (1 : Int32)), (3, .long x3), (5, .long x5), (7, .long x7)]) hx hb dX1_scaledDown_71 hl (by decide) rfl (fun ls hl => ?_)
    exact sg_X1_scaledDown_73 hx hb hr hml hts hown hlocks x3 (1 : Int32) (by rw [hg]; unfold fn_X1_scaledDown_42; rw [if_pos c_1])  (lv_sub hl [1, 0] rfl)
  · refine lv_lload hx hb dX1_scaledDown_50 (lv_at hl 1 rfl) ?_
    refine lv_lload hx hb dX1_scaledDown_52 (lv_at hl 2 rfl) ?_
    refine zl_ne (tgt := 70) hx hb dX1_scaledDown_54 dX1_scaledDown_55 (by decide) (fun c_2 => ?_) (fun c_2 => ?_)
    · refine lv_iconst (v := (0 : Int32)) hx hb dX1_scaledDown_70 (by decide) ?_
      refine lv_istore (lv' := [(9, .int (0 : Int32)), (3, .long x3), (5, .long x5), (7, .long x7)]) hx hb dX1_scaledDown_71 hl (by decide) rfl (fun ls hl => ?_)
      exact sg_X1_scaledDown_73 hx hb hr hml hts hown hlocks x3 (0 : Int32) (by rw [hg]; unfold fn_X1_scaledDown_42; rw [if_neg c_1, if_neg c_2])  (lv_sub hl [1, 0] rfl)
    · refine lv_lload_n hx hb dX1_scaledDown_58 rfl (lv_at hl 0 rfl) ?_
      refine lv_lconst (v := (1 : Int64)) hx hb dX1_scaledDown_59 (by decide) ?_
      refine lv_land hx hb dX1_scaledDown_60 ?_
      refine lv_lconst (v := (0 : Int64)) hx hb dX1_scaledDown_61 (by decide) ?_
      refine zl_eq (tgt := 70) hx hb dX1_scaledDown_62 dX1_scaledDown_63 (by decide) (fun c_3 => ?_) (fun c_3 => ?_)
      · refine lv_iconst (v := (0 : Int32)) hx hb dX1_scaledDown_70 (by decide) ?_
        refine lv_istore (lv' := [(9, .int (0 : Int32)), (3, .long x3), (5, .long x5), (7, .long x7)]) hx hb dX1_scaledDown_71 hl (by decide) rfl (fun ls hl => ?_)
        exact sg_X1_scaledDown_73 hx hb hr hml hts hown hlocks x3 (0 : Int32) (by rw [hg]; unfold fn_X1_scaledDown_42; rw [if_neg c_1, if_pos c_2, if_pos c_3])  (lv_sub hl [1, 0] rfl)
      · refine lv_iconst (v := (1 : Int32)) hx hb dX1_scaledDown_66 (by decide) ?_
        refine lv_goto (tgt := 71) hx hb dX1_scaledDown_67 (by decide) ?_
        refine lv_istore (lv' := [(9, .int (1 : Int32)), (3, .long x3), (5, .long x5), (7, .long x7)]) hx hb dX1_scaledDown_71 hl (by decide) rfl (fun ls hl => ?_)
        exact sg_X1_scaledDown_73 hx hb hr hml hts hown hlocks x3 (1 : Int32) (by rw [hg]; unfold fn_X1_scaledDown_42; rw [if_neg c_1, if_pos c_2, if_neg c_3])  (lv_sub hl [1, 0] rfl)
def fn_X1_scaledDown (v0 : Int64) (v2 : Int32) : Int64 :=
  if 0 < v2 then
    if v2 ≤ (63 : Int32) then
      fn_X1_scaledDown_42 ((Int64.toUInt64 v0 >>> (Int64.toUInt64 (Int32.toInt64 v2) &&& Int64.toUInt64 63)).toInt64) (v0 &&& (((1 : Int64) <<< (Int32.toInt64 v2 &&& 63)) - (1 : Int64))) ((1 : Int64) <<< (Int32.toInt64 (v2 - (1 : Int32)) &&& 63))
    else
      (0 : Int64)
  else
    v0 <<< (Int32.toInt64 (if (-v2) < (63 : Int32) then (-v2) else (63 : Int32)) &&& 63)
set_option maxHeartbeats 4000000 in
set_option maxRecDepth 100000 in
theorem ct_X1_scaledDown (l : Launch) (v0 : Int64) (v2 : Int32) : Met l yX1_scaledDown wsX1_scaledDown ({ frames := 1, cells := 0, slots := 0, locals := 23 } : Room) (va_Pc [.long v0, .int v2] (fun _ => True)) (vp_Sl (fun r => r = fn_X1_scaledDown v0 v2)) 0 0 (fun _ => False) := by
  refine Met.ofW (cc := cX1_scaledDown) (maxL := 10) (ret := (some .long)) (by decide) rfl ?_
  intro p e s m args below meth c s₁ B hml hv
  obtain ⟨rfl, hW⟩ := hv
  have hx := B.exec
  have hb := B.bytes
  have hr := B.returns
  have hlocks := B.notSynchronized
  have hts := atoms_spec (ws := wsX1_scaledDown) B.pre
  have hown : s.vm.findClass RX1 = some m.cls := findClass_of_methodNamed B.named
  have hS : va_S (fun _ => False) s.heap s.heap [] := va_S.rf
  have hl := lv_entry ([.long v0, .int v2]) (n := 10) (Nat.le_of_ble_eq_true rfl)
  rw [lg_entry_eq]
  generalize (lg_sl ([.long v0, .int v2]) ++ List.replicate (10 - (lg_sl ([.long v0, .int v2])).length) Slot.unset).toArray = ls at hl ⊢
  have hl : lv_has ls 10 [(0, .long v0), (2, .int v2)] := hl
  refine lv_iload_n hx hb dX1_scaledDown_0 rfl (lv_at hl 1 rfl) ?_
  refine lv_if_gt (tgt := 14) hx hb dX1_scaledDown_1 (by decide) (fun c_1 => ?_) (fun c_1 => ?_)
  · refine lv_iload_n hx hb dX1_scaledDown_14 rfl (lv_at hl 1 rfl) ?_
    refine lv_bipush (v := (63 : Int32)) hx hb dX1_scaledDown_15 (by decide) ?_
    refine lv_icmp_le (tgt := 22) hx hb dX1_scaledDown_17 (by decide) (fun c_2 => ?_) (fun c_2 => ?_)
    · refine lv_lload_n hx hb dX1_scaledDown_22 rfl (lv_at hl 0 rfl) ?_
      refine lv_iload_n hx hb dX1_scaledDown_23 rfl (lv_at hl 1 rfl) ?_
      refine lv_lushr hx hb dX1_scaledDown_24 rfl ?_
      refine lv_lstore_n (lv' := [(3, .long ((Int64.toUInt64 v0 >>> (Int64.toUInt64 (Int32.toInt64 v2) &&& Int64.toUInt64 63)).toInt64)), (0, .long v0), (2, .int v2)]) hx hb dX1_scaledDown_25 rfl hl (by decide) rfl (fun ls hl => ?_)
      refine lv_lload_n hx hb dX1_scaledDown_26 rfl (lv_at hl 1 rfl) ?_
      refine lv_lconst (v := (1 : Int64)) hx hb dX1_scaledDown_27 (by decide) ?_
      refine lv_iload_n hx hb dX1_scaledDown_28 rfl (lv_at hl 2 rfl) ?_
      refine lv_lshl hx hb dX1_scaledDown_29 rfl ?_
      refine lv_lconst (v := (1 : Int64)) hx hb dX1_scaledDown_30 (by decide) ?_
      refine lv_lsub hx hb dX1_scaledDown_31 ?_
      refine lv_land hx hb dX1_scaledDown_32 ?_
      refine lv_lstore (lv' := [(5, .long (v0 &&& (((1 : Int64) <<< (Int32.toInt64 v2 &&& 63)) - (1 : Int64)))), (3, .long ((Int64.toUInt64 v0 >>> (Int64.toUInt64 (Int32.toInt64 v2) &&& Int64.toUInt64 63)).toInt64)), (0, .long v0), (2, .int v2)]) hx hb dX1_scaledDown_33 hl (by decide) rfl (fun ls hl => ?_)
      refine lv_lconst (v := (1 : Int64)) hx hb dX1_scaledDown_35 (by decide) ?_
      refine lv_iload_n hx hb dX1_scaledDown_36 rfl (lv_at hl 3 rfl) ?_
      refine lv_iconst (v := (1 : Int32)) hx hb dX1_scaledDown_37 (by decide) ?_
      refine lv_isub hx hb dX1_scaledDown_38 ?_
      refine lv_lshl hx hb dX1_scaledDown_39 rfl ?_
      refine lv_lstore (lv' := [(7, .long ((1 : Int64) <<< (Int32.toInt64 (v2 - (1 : Int32)) &&& 63))), (5, .long (v0 &&& (((1 : Int64) <<< (Int32.toInt64 v2 &&& 63)) - (1 : Int64)))), (3, .long ((Int64.toUInt64 v0 >>> (Int64.toUInt64 (Int32.toInt64 v2) &&& Int64.toUInt64 63)).toInt64)), (0, .long v0), (2, .int v2)]) hx hb dX1_scaledDown_40 hl (by decide) rfl (fun ls hl => ?_)
      exact sg_X1_scaledDown_42 hx hb hr hml hts hown hlocks ((Int64.toUInt64 v0 >>> (Int64.toUInt64 (Int32.toInt64 v2) &&& Int64.toUInt64 63)).toInt64) (v0 &&& (((1 : Int64) <<< (Int32.toInt64 v2 &&& 63)) - (1 : Int64))) ((1 : Int64) <<< (Int32.toInt64 (v2 - (1 : Int32)) &&& 63)) (by unfold fn_X1_scaledDown; rw [if_pos c_1, if_pos c_2])  (lv_sub hl [2, 1, 0] rfl)
    · refine lv_lconst (v := (0 : Int64)) hx hb dX1_scaledDown_20 (by decide) ?_
      exact W.lret (v := (0 : Int64)) hx hb hr (fun t ht _ => ⟨_, rfl, by unfold fn_X1_scaledDown; rw [if_pos c_1, if_neg c_2], ht⟩) (fun _ h => by cases h) dX1_scaledDown_21
  · refine lv_lload_n hx hb dX1_scaledDown_4 rfl (lv_at hl 0 rfl) ?_
    refine lv_bipush (v := (63 : Int32)) hx hb dX1_scaledDown_5 (by decide) ?_
    refine lv_iload_n hx hb dX1_scaledDown_7 rfl (lv_at hl 1 rfl) ?_
    refine lv_ineg hx hb dX1_scaledDown_8 ?_
    refine va_mmin hx hb (hml.trans hl.1.symm) hown (hts (.methodLink RX1 140 Lib.Math.min.name) (by decide +kernel)) (hts (.static Lib.Math.min.name) (by decide +kernel)) (hts (.initialized "java/lang/Math") (by decide +kernel)) (hts (.code Lib.Math.min.name Lib.Math.min.code 2 (some .int)) (by decide +kernel)) (Nat.le_of_ble_eq_true rfl) (Nat.le_of_ble_eq_true rfl) (Nat.zero_le _) (Nat.zero_le _) dX1_scaledDown_9 ?_
    refine lv_lshl hx hb dX1_scaledDown_12 rfl ?_
    exact W.lret (v := v0 <<< (Int32.toInt64 (if (-v2) < (63 : Int32) then (-v2) else (63 : Int32)) &&& 63)) hx hb hr (fun t ht _ => ⟨_, rfl, by unfold fn_X1_scaledDown; rw [if_neg c_1], ht⟩) (fun _ h => by cases h) dX1_scaledDown_13
def fn_X1_nearest (k : Nat) (v1 : Int64) : Int64 :=
  if (fn_X1_one k) ≤ v1 then
    (fn_X1_scaledDown v1 (fn_X1_bitsBelowUnit k v1)) <<< (Int32.toInt64 (fn_X1_bitsBelowUnit k v1) &&& 63)
  else
    if v1 ≤ ((fn_X1_one k) - ((1 : Int64) <<< (Int32.toInt64 (kR k) &&& 63))) then
      (0 : Int64)
    else
      fn_X1_one k
set_option maxHeartbeats 4000000 in
set_option maxRecDepth 100000 in
theorem ct_X1_nearest (l : Launch) (ad : Nat → Nat) (k : Nat) (hk_k : k < 4) (v1 : Int64) : Met l yX1_nearest wsX1_nearest ({ frames := 2, cells := 0, slots := 0, locals := 52 } : Room) (va_Pc [.ref (ad k), .long v1] (fun U => kw ad (fun _ => False) U U.heap)) (vp_Sl (fun r => r = fn_X1_nearest k v1)) 0 0 (fun _ => False) := by
  refine Met.ofW (cc := cX1_nearest) (maxL := 5) (ret := (some .long)) (by decide) rfl ?_
  intro p e s m args below meth c s₁ B hml hv
  obtain ⟨rfl, hW⟩ := hv
  have hx := B.exec
  have hb := B.bytes
  have hr := B.returns
  have hlocks := B.notSynchronized
  have hts := atoms_spec (ws := wsX1_nearest) B.pre
  have hown : s.vm.findClass RX1 = some m.cls := findClass_of_methodNamed B.named
  have hS : va_S (fun _ => False) s.heap s.heap [] := va_S.rf
  have hl := lv_entry ([.ref (ad k), .long v1]) (n := 5) (Nat.le_of_ble_eq_true rfl)
  rw [lg_entry_eq]
  generalize (lg_sl ([.ref (ad k), .long v1]) ++ List.replicate (5 - (lg_sl ([.ref (ad k), .long v1])).length) Slot.unset).toArray = ls at hl ⊢
  have hl : lv_has ls 5 [(0, .ref (ad k)), (1, .long v1)] := hl
  refine lv_lload_n hx hb dX1_nearest_0 rfl (lv_at hl 1 rfl) ?_
  refine lv_aload_n hx hb dX1_nearest_1 rfl (lv_at hl 0 rfl) ?_
  refine vp_callSl (W.runV (As := []) (rest := [.long v1]) ⟨hx, hb, hml, hown, hts⟩ (ct_X1_one l ad k hk_k) (cwV 0 hts gX1_nearest_X1_one rfl rfl rfl (by decide +kernel) ⟨Nat.le_of_ble_eq_true rfl, Nat.le_of_ble_eq_true rfl⟩) ⟨(fun a U g mk q => ⟨q.1, kw_blind q.2⟩), kw_recv hW hS hk_k, fun U hU hW9 => ⟨rfl, kw_call hW hS hU hW9⟩⟩ rfl rfl hl.1 rfl (lv_room (Nat.le_of_ble_eq_true rfl)) dX1_nearest_2 ⟨Nat.zero_le _, Nat.zero_le _⟩) (fun r er => ?_)
  subst er
  refine zl_ge (tgt := 36) hx hb dX1_nearest_5 dX1_nearest_6 (by decide) (fun c_1 => ?_) (fun c_1 => ?_)
  · refine lv_aload_n hx hb dX1_nearest_36 rfl (lv_at hl 0 rfl) ?_
    refine lv_lload_n hx hb dX1_nearest_37 rfl (lv_at hl 1 rfl) ?_
    refine vp_callSi (W.runV (As := [.long v1]) (rest := []) ⟨hx, hb, hml, hown, hts⟩ (ct_X1_bitsBelowUnit l ad k hk_k v1) (cwV 1 hts gX1_nearest_X1_bitsBelowUnit rfl rfl rfl (by decide +kernel) ⟨Nat.le_of_ble_eq_true rfl, Nat.le_of_ble_eq_true rfl⟩) ⟨(fun a U g mk q => ⟨q.1, kw_blind q.2⟩), kw_recv hW hS hk_k, fun U hU hW9 => ⟨rfl, kw_call hW hS hU hW9⟩⟩ rfl rfl hl.1 rfl (lv_room (Nat.le_of_ble_eq_true rfl)) dX1_nearest_38 ⟨Nat.zero_le _, Nat.zero_le _⟩) (fun r er => ?_)
    subst er
    refine lv_istore_n (lv' := [(3, .int (fn_X1_bitsBelowUnit k v1)), (0, .ref (ad k)), (1, .long v1)]) hx hb dX1_nearest_41 rfl hl (by decide) rfl (fun ls hl => ?_)
    refine lv_lload_n hx hb dX1_nearest_42 rfl (lv_at hl 2 rfl) ?_
    refine lv_iload_n hx hb dX1_nearest_43 rfl (lv_at hl 0 rfl) ?_
    refine vp_callSl (W.runS (As := [.long v1, .int (fn_X1_bitsBelowUnit k v1)]) (rest := []) ⟨hx, hb, hml, hown, hts⟩ (ct_X1_scaledDown l v1 (fn_X1_bitsBelowUnit k v1)) (va_cwS 2 hts gX1_nearest_X1_scaledDown rfl rfl rfl (by decide +kernel) ⟨Nat.le_of_ble_eq_true rfl, Nat.le_of_ble_eq_true rfl⟩) ⟨(fun a U g mk q => ⟨q.1, trivial⟩), fun U hU hW9 => ⟨rfl, trivial⟩⟩ rfl rfl hl.1 rfl (lv_room (Nat.le_of_ble_eq_true rfl)) dX1_nearest_44 ⟨Nat.zero_le _, Nat.zero_le _⟩) (fun r er => ?_)
    subst er
    refine lv_iload_n hx hb dX1_nearest_47 rfl (lv_at hl 0 rfl) ?_
    refine lv_lshl hx hb dX1_nearest_48 rfl ?_
    exact W.lret (v := (fn_X1_scaledDown v1 (fn_X1_bitsBelowUnit k v1)) <<< (Int32.toInt64 (fn_X1_bitsBelowUnit k v1) &&& 63)) hx hb hr (fun t ht _ => ⟨_, rfl, by unfold fn_X1_nearest; rw [if_pos c_1], ht⟩) (fun _ h => by cases h) dX1_nearest_49
  · refine lv_aload_n hx hb dX1_nearest_9 rfl (lv_at hl 0 rfl) ?_
    refine vp_callSl (W.runV (As := []) (rest := []) ⟨hx, hb, hml, hown, hts⟩ (ct_X1_one l ad k hk_k) (cwV 0 hts gX1_nearest_X1_one rfl rfl rfl (by decide +kernel) ⟨Nat.le_of_ble_eq_true rfl, Nat.le_of_ble_eq_true rfl⟩) ⟨(fun a U g mk q => ⟨q.1, kw_blind q.2⟩), kw_recv hW hS hk_k, fun U hU hW9 => ⟨rfl, kw_call hW hS hU hW9⟩⟩ rfl rfl hl.1 rfl (lv_room (Nat.le_of_ble_eq_true rfl)) dX1_nearest_10 ⟨Nat.zero_le _, Nat.zero_le _⟩) (fun r er => ?_)
    subst er
    refine lv_lconst (v := (1 : Int64)) hx hb dX1_nearest_13 (by decide) ?_
    refine lv_aload_n hx hb dX1_nearest_14 rfl (lv_at hl 0 rfl) ?_
    refine kg_fraction hx hb hW hk_k hS hown (hts (.fieldLink RX1 43 "ServoDesk$Kind" "fraction" "I") (by decide +kernel)) dX1_nearest_15 ?_
    refine lv_lshl hx hb dX1_nearest_18 rfl ?_
    refine lv_lsub hx hb dX1_nearest_19 ?_
    refine lv_lstore_n (lv' := [(3, .long ((fn_X1_one k) - ((1 : Int64) <<< (Int32.toInt64 (kR k) &&& 63)))), (0, .ref (ad k)), (1, .long v1)]) hx hb dX1_nearest_20 rfl hl (by decide) rfl (fun ls hl => ?_)
    refine lv_lload_n hx hb dX1_nearest_21 rfl (lv_at hl 2 rfl) ?_
    refine lv_lload_n hx hb dX1_nearest_22 rfl (lv_at hl 0 rfl) ?_
    refine zl_le (tgt := 34) hx hb dX1_nearest_23 dX1_nearest_24 (by decide) (fun c_2 => ?_) (fun c_2 => ?_)
    · refine lv_lconst (v := (0 : Int64)) hx hb dX1_nearest_34 (by decide) ?_
      exact W.lret (v := (0 : Int64)) hx hb hr (fun t ht _ => ⟨_, rfl, by unfold fn_X1_nearest; rw [if_neg c_1, if_pos c_2], ht⟩) (fun _ h => by cases h) dX1_nearest_35
    · refine lv_aload_n hx hb dX1_nearest_27 rfl (lv_at hl 1 rfl) ?_
      refine vp_callSl (W.runV (As := []) (rest := []) ⟨hx, hb, hml, hown, hts⟩ (ct_X1_one l ad k hk_k) (cwV 0 hts gX1_nearest_X1_one rfl rfl rfl (by decide +kernel) ⟨Nat.le_of_ble_eq_true rfl, Nat.le_of_ble_eq_true rfl⟩) ⟨(fun a U g mk q => ⟨q.1, kw_blind q.2⟩), kw_recv hW hS hk_k, fun U hU hW9 => ⟨rfl, kw_call hW hS hU hW9⟩⟩ rfl rfl hl.1 rfl (lv_room (Nat.le_of_ble_eq_true rfl)) dX1_nearest_28 ⟨Nat.zero_le _, Nat.zero_le _⟩) (fun r er => ?_)
      subst er
      refine lv_goto (tgt := 35) hx hb dX1_nearest_31 (by decide) ?_
      exact W.lret (v := fn_X1_one k) hx hb hr (fun t ht _ => ⟨_, rfl, by unfold fn_X1_nearest; rw [if_neg c_1, if_neg c_2], ht⟩) (fun _ h => by cases h) dX1_nearest_35
def fn_X1_wholeBelow (k : Nat) (v1 : Int64) : Int64 :=
  if (kF k) = 0 then
    v1
  else
    if (0 : Int64) ≤ v1 then
      fn_X1_turned k (fn_X1_inward k (fn_X1_sized k v1)) v1
    else
      fn_X1_turned k (fn_X1_outward k (fn_X1_sized k v1)) v1
set_option maxHeartbeats 4000000 in
set_option maxRecDepth 100000 in
theorem ct_X1_wholeBelow (l : Launch) (ad : Nat → Nat) (k : Nat) (hk_k : k < 4) (v1 : Int64) : Met l yX1_wholeBelow wsX1_wholeBelow ({ frames := 3, cells := 0, slots := 0, locals := 71 } : Room) (va_Pc [.ref (ad k), .long v1] (fun U => kw ad (fun _ => False) U U.heap)) (vp_Sl (fun r => r = fn_X1_wholeBelow k v1)) 0 0 (fun _ => False) := by
  refine Met.ofW (cc := cX1_wholeBelow) (maxL := 5) (ret := (some .long)) (by decide) rfl ?_
  intro p e s m args below meth c s₁ B hml hv
  obtain ⟨rfl, hW⟩ := hv
  have hx := B.exec
  have hb := B.bytes
  have hr := B.returns
  have hlocks := B.notSynchronized
  have hts := atoms_spec (ws := wsX1_wholeBelow) B.pre
  have hown : s.vm.findClass RX1 = some m.cls := findClass_of_methodNamed B.named
  have hS : va_S (fun _ => False) s.heap s.heap [] := va_S.rf
  have hl := lv_entry ([.ref (ad k), .long v1]) (n := 5) (Nat.le_of_ble_eq_true rfl)
  rw [lg_entry_eq]
  generalize (lg_sl ([.ref (ad k), .long v1]) ++ List.replicate (5 - (lg_sl ([.ref (ad k), .long v1])).length) Slot.unset).toArray = ls at hl ⊢
  have hl : lv_has ls 5 [(0, .ref (ad k)), (1, .long v1)] := hl
  refine lv_aload_n hx hb dX1_wholeBelow_0 rfl (lv_at hl 0 rfl) ?_
  refine kg_floating hx hb hW hk_k hS hown (hts (.fieldLink RX1 39 "ServoDesk$Kind" "floating" "Z") (by decide +kernel)) dX1_wholeBelow_1 ?_
  refine lv_if_ne (tgt := 9) hx hb dX1_wholeBelow_4 (by decide) (fun c_1 => ?_) (fun c_1 => ?_)
  · refine lv_aload_n hx hb dX1_wholeBelow_9 rfl (lv_at hl 0 rfl) ?_
    refine lv_lload_n hx hb dX1_wholeBelow_10 rfl (lv_at hl 1 rfl) ?_
    refine vp_callSl (W.runV (As := [.long v1]) (rest := []) ⟨hx, hb, hml, hown, hts⟩ (ct_X1_sized l ad k hk_k v1) (cwV 1 hts gX1_wholeBelow_X1_sized rfl rfl rfl (by decide +kernel) ⟨Nat.le_of_ble_eq_true rfl, Nat.le_of_ble_eq_true rfl⟩) ⟨(fun a U g mk q => ⟨q.1, kw_blind q.2⟩), kw_recv hW hS hk_k, fun U hU hW9 => ⟨rfl, kw_call hW hS hU hW9⟩⟩ rfl rfl hl.1 rfl (lv_room (Nat.le_of_ble_eq_true rfl)) dX1_wholeBelow_11 ⟨Nat.zero_le _, Nat.zero_le _⟩) (fun r er => ?_)
    subst er
    refine lv_lstore_n (lv' := [(3, .long (fn_X1_sized k v1)), (0, .ref (ad k)), (1, .long v1)]) hx hb dX1_wholeBelow_14 rfl hl (by decide) rfl (fun ls hl => ?_)
    refine lv_aload_n hx hb dX1_wholeBelow_15 rfl (lv_at hl 1 rfl) ?_
    refine lv_lload_n hx hb dX1_wholeBelow_16 rfl (lv_at hl 2 rfl) ?_
    refine lv_lconst (v := (0 : Int64)) hx hb dX1_wholeBelow_17 (by decide) ?_
    refine zl_ge (tgt := 30) hx hb dX1_wholeBelow_18 dX1_wholeBelow_19 (by decide) (fun c_2 => ?_) (fun c_2 => ?_)
    · refine lv_aload_n hx hb dX1_wholeBelow_30 rfl (lv_at hl 1 rfl) ?_
      refine lv_lload_n hx hb dX1_wholeBelow_31 rfl (lv_at hl 0 rfl) ?_
      refine vp_callSl (W.runV (As := [.long (fn_X1_sized k v1)]) (rest := [.ref (ad k)]) ⟨hx, hb, hml, hown, hts⟩ (ct_X1_inward l ad k hk_k (fn_X1_sized k v1)) (cwV 1 hts gX1_wholeBelow_X1_inward rfl rfl rfl (by decide +kernel) ⟨Nat.le_of_ble_eq_true rfl, Nat.le_of_ble_eq_true rfl⟩) ⟨(fun a U g mk q => ⟨q.1, kw_blind q.2⟩), kw_recv hW hS hk_k, fun U hU hW9 => ⟨rfl, kw_call hW hS hU hW9⟩⟩ rfl rfl hl.1 rfl (lv_room (Nat.le_of_ble_eq_true rfl)) dX1_wholeBelow_32 ⟨Nat.zero_le _, Nat.zero_le _⟩) (fun r er => ?_)
      subst er
      refine lv_lload_n hx hb dX1_wholeBelow_35 rfl (lv_at hl 2 rfl) ?_
      refine vp_callSl (W.runV (As := [.long (fn_X1_inward k (fn_X1_sized k v1)), .long v1]) (rest := []) ⟨hx, hb, hml, hown, hts⟩ (ct_X1_turned l ad k hk_k (fn_X1_inward k (fn_X1_sized k v1)) v1) (cwV 2 hts gX1_wholeBelow_X1_turned rfl rfl rfl (by decide +kernel) ⟨Nat.le_of_ble_eq_true rfl, Nat.le_of_ble_eq_true rfl⟩) ⟨(fun a U g mk q => ⟨q.1, kw_blind q.2⟩), kw_recv hW hS hk_k, fun U hU hW9 => ⟨rfl, kw_call hW hS hU hW9⟩⟩ rfl rfl hl.1 rfl (lv_room (Nat.le_of_ble_eq_true rfl)) dX1_wholeBelow_36 ⟨Nat.zero_le _, Nat.zero_le _⟩) (fun r er => ?_)
      subst er
      exact W.lret (v := fn_X1_turned k (fn_X1_inward k (fn_X1_sized k v1)) v1) hx hb hr (fun t ht _ => ⟨_, rfl, by unfold fn_X1_wholeBelow; rw [if_neg c_1, if_pos c_2], ht⟩) (fun _ h => by cases h) dX1_wholeBelow_39
    · refine lv_aload_n hx hb dX1_wholeBelow_22 rfl (lv_at hl 1 rfl) ?_
      refine lv_lload_n hx hb dX1_wholeBelow_23 rfl (lv_at hl 0 rfl) ?_
      refine vp_callSl (W.runV (As := [.long (fn_X1_sized k v1)]) (rest := [.ref (ad k)]) ⟨hx, hb, hml, hown, hts⟩ (ct_X1_outward l ad k hk_k (fn_X1_sized k v1)) (cwV 1 hts gX1_wholeBelow_X1_outward rfl rfl rfl (by decide +kernel) ⟨Nat.le_of_ble_eq_true rfl, Nat.le_of_ble_eq_true rfl⟩) ⟨(fun a U g mk q => ⟨q.1, kw_blind q.2⟩), kw_recv hW hS hk_k, fun U hU hW9 => ⟨rfl, kw_call hW hS hU hW9⟩⟩ rfl rfl hl.1 rfl (lv_room (Nat.le_of_ble_eq_true rfl)) dX1_wholeBelow_24 ⟨Nat.zero_le _, Nat.zero_le _⟩) (fun r er => ?_)
      subst er
      refine lv_goto (tgt := 35) hx hb dX1_wholeBelow_27 (by decide) ?_
      refine lv_lload_n hx hb dX1_wholeBelow_35 rfl (lv_at hl 2 rfl) ?_
      refine vp_callSl (W.runV (As := [.long (fn_X1_outward k (fn_X1_sized k v1)), .long v1]) (rest := []) ⟨hx, hb, hml, hown, hts⟩ (ct_X1_turned l ad k hk_k (fn_X1_outward k (fn_X1_sized k v1)) v1) (cwV 2 hts gX1_wholeBelow_X1_turned rfl rfl rfl (by decide +kernel) ⟨Nat.le_of_ble_eq_true rfl, Nat.le_of_ble_eq_true rfl⟩) ⟨(fun a U g mk q => ⟨q.1, kw_blind q.2⟩), kw_recv hW hS hk_k, fun U hU hW9 => ⟨rfl, kw_call hW hS hU hW9⟩⟩ rfl rfl hl.1 rfl (lv_room (Nat.le_of_ble_eq_true rfl)) dX1_wholeBelow_36 ⟨Nat.zero_le _, Nat.zero_le _⟩) (fun r er => ?_)
      subst er
      exact W.lret (v := fn_X1_turned k (fn_X1_outward k (fn_X1_sized k v1)) v1) hx hb hr (fun t ht _ => ⟨_, rfl, by unfold fn_X1_wholeBelow; rw [if_neg c_1, if_neg c_2], ht⟩) (fun _ h => by cases h) dX1_wholeBelow_39
  · refine lv_lload_n hx hb dX1_wholeBelow_7 rfl (lv_at hl 1 rfl) ?_
    exact W.lret (v := v1) hx hb hr (fun t ht _ => ⟨_, rfl, by unfold fn_X1_wholeBelow; rw [if_pos c_1], ht⟩) (fun _ h => by cases h) dX1_wholeBelow_8
def fn_X1_wholeAbove (k : Nat) (v1 : Int64) : Int64 :=
  if (kF k) = 0 then
    v1
  else
    if (0 : Int64) ≤ v1 then
      fn_X1_turned k (fn_X1_outward k (fn_X1_sized k v1)) v1
    else
      fn_X1_turned k (fn_X1_inward k (fn_X1_sized k v1)) v1
set_option maxHeartbeats 4000000 in
set_option maxRecDepth 100000 in
theorem ct_X1_wholeAbove (l : Launch) (ad : Nat → Nat) (k : Nat) (hk_k : k < 4) (v1 : Int64) : Met l yX1_wholeAbove wsX1_wholeAbove ({ frames := 3, cells := 0, slots := 0, locals := 71 } : Room) (va_Pc [.ref (ad k), .long v1] (fun U => kw ad (fun _ => False) U U.heap)) (vp_Sl (fun r => r = fn_X1_wholeAbove k v1)) 0 0 (fun _ => False) := by
  refine Met.ofW (cc := cX1_wholeAbove) (maxL := 5) (ret := (some .long)) (by decide) rfl ?_
  intro p e s m args below meth c s₁ B hml hv
  obtain ⟨rfl, hW⟩ := hv
  have hx := B.exec
  have hb := B.bytes
  have hr := B.returns
  have hlocks := B.notSynchronized
  have hts := atoms_spec (ws := wsX1_wholeAbove) B.pre
  have hown : s.vm.findClass RX1 = some m.cls := findClass_of_methodNamed B.named
  have hS : va_S (fun _ => False) s.heap s.heap [] := va_S.rf
  have hl := lv_entry ([.ref (ad k), .long v1]) (n := 5) (Nat.le_of_ble_eq_true rfl)
  rw [lg_entry_eq]
  generalize (lg_sl ([.ref (ad k), .long v1]) ++ List.replicate (5 - (lg_sl ([.ref (ad k), .long v1])).length) Slot.unset).toArray = ls at hl ⊢
  have hl : lv_has ls 5 [(0, .ref (ad k)), (1, .long v1)] := hl
  refine lv_aload_n hx hb dX1_wholeAbove_0 rfl (lv_at hl 0 rfl) ?_
  refine kg_floating hx hb hW hk_k hS hown (hts (.fieldLink RX1 39 "ServoDesk$Kind" "floating" "Z") (by decide +kernel)) dX1_wholeAbove_1 ?_
  refine lv_if_ne (tgt := 9) hx hb dX1_wholeAbove_4 (by decide) (fun c_1 => ?_) (fun c_1 => ?_)
  · refine lv_aload_n hx hb dX1_wholeAbove_9 rfl (lv_at hl 0 rfl) ?_
    refine lv_lload_n hx hb dX1_wholeAbove_10 rfl (lv_at hl 1 rfl) ?_
    refine vp_callSl (W.runV (As := [.long v1]) (rest := []) ⟨hx, hb, hml, hown, hts⟩ (ct_X1_sized l ad k hk_k v1) (cwV 1 hts gX1_wholeAbove_X1_sized rfl rfl rfl (by decide +kernel) ⟨Nat.le_of_ble_eq_true rfl, Nat.le_of_ble_eq_true rfl⟩) ⟨(fun a U g mk q => ⟨q.1, kw_blind q.2⟩), kw_recv hW hS hk_k, fun U hU hW9 => ⟨rfl, kw_call hW hS hU hW9⟩⟩ rfl rfl hl.1 rfl (lv_room (Nat.le_of_ble_eq_true rfl)) dX1_wholeAbove_11 ⟨Nat.zero_le _, Nat.zero_le _⟩) (fun r er => ?_)
    subst er
    refine lv_lstore_n (lv' := [(3, .long (fn_X1_sized k v1)), (0, .ref (ad k)), (1, .long v1)]) hx hb dX1_wholeAbove_14 rfl hl (by decide) rfl (fun ls hl => ?_)
    refine lv_aload_n hx hb dX1_wholeAbove_15 rfl (lv_at hl 1 rfl) ?_
    refine lv_lload_n hx hb dX1_wholeAbove_16 rfl (lv_at hl 2 rfl) ?_
    refine lv_lconst (v := (0 : Int64)) hx hb dX1_wholeAbove_17 (by decide) ?_
    refine zl_ge (tgt := 30) hx hb dX1_wholeAbove_18 dX1_wholeAbove_19 (by decide) (fun c_2 => ?_) (fun c_2 => ?_)
    · refine lv_aload_n hx hb dX1_wholeAbove_30 rfl (lv_at hl 1 rfl) ?_
      refine lv_lload_n hx hb dX1_wholeAbove_31 rfl (lv_at hl 0 rfl) ?_
      refine vp_callSl (W.runV (As := [.long (fn_X1_sized k v1)]) (rest := [.ref (ad k)]) ⟨hx, hb, hml, hown, hts⟩ (ct_X1_outward l ad k hk_k (fn_X1_sized k v1)) (cwV 1 hts gX1_wholeAbove_X1_outward rfl rfl rfl (by decide +kernel) ⟨Nat.le_of_ble_eq_true rfl, Nat.le_of_ble_eq_true rfl⟩) ⟨(fun a U g mk q => ⟨q.1, kw_blind q.2⟩), kw_recv hW hS hk_k, fun U hU hW9 => ⟨rfl, kw_call hW hS hU hW9⟩⟩ rfl rfl hl.1 rfl (lv_room (Nat.le_of_ble_eq_true rfl)) dX1_wholeAbove_32 ⟨Nat.zero_le _, Nat.zero_le _⟩) (fun r er => ?_)
      subst er
      refine lv_lload_n hx hb dX1_wholeAbove_35 rfl (lv_at hl 2 rfl) ?_
      refine vp_callSl (W.runV (As := [.long (fn_X1_outward k (fn_X1_sized k v1)), .long v1]) (rest := []) ⟨hx, hb, hml, hown, hts⟩ (ct_X1_turned l ad k hk_k (fn_X1_outward k (fn_X1_sized k v1)) v1) (cwV 2 hts gX1_wholeAbove_X1_turned rfl rfl rfl (by decide +kernel) ⟨Nat.le_of_ble_eq_true rfl, Nat.le_of_ble_eq_true rfl⟩) ⟨(fun a U g mk q => ⟨q.1, kw_blind q.2⟩), kw_recv hW hS hk_k, fun U hU hW9 => ⟨rfl, kw_call hW hS hU hW9⟩⟩ rfl rfl hl.1 rfl (lv_room (Nat.le_of_ble_eq_true rfl)) dX1_wholeAbove_36 ⟨Nat.zero_le _, Nat.zero_le _⟩) (fun r er => ?_)
      subst er
      exact W.lret (v := fn_X1_turned k (fn_X1_outward k (fn_X1_sized k v1)) v1) hx hb hr (fun t ht _ => ⟨_, rfl, by unfold fn_X1_wholeAbove; rw [if_neg c_1, if_pos c_2], ht⟩) (fun _ h => by cases h) dX1_wholeAbove_39
    · refine lv_aload_n hx hb dX1_wholeAbove_22 rfl (lv_at hl 1 rfl) ?_
      refine lv_lload_n hx hb dX1_wholeAbove_23 rfl (lv_at hl 0 rfl) ?_
      refine vp_callSl (W.runV (As := [.long (fn_X1_sized k v1)]) (rest := [.ref (ad k)]) ⟨hx, hb, hml, hown, hts⟩ (ct_X1_inward l ad k hk_k (fn_X1_sized k v1)) (cwV 1 hts gX1_wholeAbove_X1_inward rfl rfl rfl (by decide +kernel) ⟨Nat.le_of_ble_eq_true rfl, Nat.le_of_ble_eq_true rfl⟩) ⟨(fun a U g mk q => ⟨q.1, kw_blind q.2⟩), kw_recv hW hS hk_k, fun U hU hW9 => ⟨rfl, kw_call hW hS hU hW9⟩⟩ rfl rfl hl.1 rfl (lv_room (Nat.le_of_ble_eq_true rfl)) dX1_wholeAbove_24 ⟨Nat.zero_le _, Nat.zero_le _⟩) (fun r er => ?_)
      subst er
      refine lv_goto (tgt := 35) hx hb dX1_wholeAbove_27 (by decide) ?_
      refine lv_lload_n hx hb dX1_wholeAbove_35 rfl (lv_at hl 2 rfl) ?_
      refine vp_callSl (W.runV (As := [.long (fn_X1_inward k (fn_X1_sized k v1)), .long v1]) (rest := []) ⟨hx, hb, hml, hown, hts⟩ (ct_X1_turned l ad k hk_k (fn_X1_inward k (fn_X1_sized k v1)) v1) (cwV 2 hts gX1_wholeAbove_X1_turned rfl rfl rfl (by decide +kernel) ⟨Nat.le_of_ble_eq_true rfl, Nat.le_of_ble_eq_true rfl⟩) ⟨(fun a U g mk q => ⟨q.1, kw_blind q.2⟩), kw_recv hW hS hk_k, fun U hU hW9 => ⟨rfl, kw_call hW hS hU hW9⟩⟩ rfl rfl hl.1 rfl (lv_room (Nat.le_of_ble_eq_true rfl)) dX1_wholeAbove_36 ⟨Nat.zero_le _, Nat.zero_le _⟩) (fun r er => ?_)
      subst er
      exact W.lret (v := fn_X1_turned k (fn_X1_inward k (fn_X1_sized k v1)) v1) hx hb hr (fun t ht _ => ⟨_, rfl, by unfold fn_X1_wholeAbove; rw [if_neg c_1, if_neg c_2], ht⟩) (fun _ h => by cases h) dX1_wholeAbove_39
  · refine lv_lload_n hx hb dX1_wholeAbove_7 rfl (lv_at hl 1 rfl) ?_
    exact W.lret (v := v1) hx hb hr (fun t ht _ => ⟨_, rfl, by unfold fn_X1_wholeAbove; rw [if_pos c_1], ht⟩) (fun _ h => by cases h) dX1_wholeAbove_8
def fn_X1_wholeNearest (k : Nat) (v1 : Int64) : Int64 :=
  if (kF k) = 0 then
    v1
  else
    fn_X1_turned k (fn_X1_nearest k (fn_X1_sized k v1)) v1
set_option maxHeartbeats 4000000 in
set_option maxRecDepth 100000 in
theorem ct_X1_wholeNearest (l : Launch) (ad : Nat → Nat) (k : Nat) (hk_k : k < 4) (v1 : Int64) : Met l yX1_wholeNearest wsX1_wholeNearest ({ frames := 3, cells := 0, slots := 0, locals := 76 } : Room) (va_Pc [.ref (ad k), .long v1] (fun U => kw ad (fun _ => False) U U.heap)) (vp_Sl (fun r => r = fn_X1_wholeNearest k v1)) 0 0 (fun _ => False) := by
  refine Met.ofW (cc := cX1_wholeNearest) (maxL := 3) (ret := (some .long)) (by decide) rfl ?_
  intro p e s m args below meth c s₁ B hml hv
  obtain ⟨rfl, hW⟩ := hv
  have hx := B.exec
  have hb := B.bytes
  have hr := B.returns
  have hlocks := B.notSynchronized
  have hts := atoms_spec (ws := wsX1_wholeNearest) B.pre
  have hown : s.vm.findClass RX1 = some m.cls := findClass_of_methodNamed B.named
  have hS : va_S (fun _ => False) s.heap s.heap [] := va_S.rf
  have hl := lv_entry ([.ref (ad k), .long v1]) (n := 3) (Nat.le_of_ble_eq_true rfl)
  rw [lg_entry_eq]
  generalize (lg_sl ([.ref (ad k), .long v1]) ++ List.replicate (3 - (lg_sl ([.ref (ad k), .long v1])).length) Slot.unset).toArray = ls at hl ⊢
  have hl : lv_has ls 3 [(0, .ref (ad k)), (1, .long v1)] := hl
  refine lv_aload_n hx hb dX1_wholeNearest_0 rfl (lv_at hl 0 rfl) ?_
  refine kg_floating hx hb hW hk_k hS hown (hts (.fieldLink RX1 39 "ServoDesk$Kind" "floating" "Z") (by decide +kernel)) dX1_wholeNearest_1 ?_
  refine lv_if_eq (tgt := 24) hx hb dX1_wholeNearest_4 (by decide) (fun c_1 => ?_) (fun c_1 => ?_)
  · refine lv_lload_n hx hb dX1_wholeNearest_24 rfl (lv_at hl 1 rfl) ?_
    exact W.lret (v := v1) hx hb hr (fun t ht _ => ⟨_, rfl, by unfold fn_X1_wholeNearest; rw [if_pos c_1], ht⟩) (fun _ h => by cases h) dX1_wholeNearest_25
  · refine lv_aload_n hx hb dX1_wholeNearest_7 rfl (lv_at hl 0 rfl) ?_
    refine lv_aload_n hx hb dX1_wholeNearest_8 rfl (lv_at hl 0 rfl) ?_
    refine lv_aload_n hx hb dX1_wholeNearest_9 rfl (lv_at hl 0 rfl) ?_
    refine lv_lload_n hx hb dX1_wholeNearest_10 rfl (lv_at hl 1 rfl) ?_
    refine vp_callSl (W.runV (As := [.long v1]) (rest := [.ref (ad k), .ref (ad k)]) ⟨hx, hb, hml, hown, hts⟩ (ct_X1_sized l ad k hk_k v1) (cwV 1 hts gX1_wholeNearest_X1_sized rfl rfl rfl (by decide +kernel) ⟨Nat.le_of_ble_eq_true rfl, Nat.le_of_ble_eq_true rfl⟩) ⟨(fun a U g mk q => ⟨q.1, kw_blind q.2⟩), kw_recv hW hS hk_k, fun U hU hW9 => ⟨rfl, kw_call hW hS hU hW9⟩⟩ rfl rfl hl.1 rfl (lv_room (Nat.le_of_ble_eq_true rfl)) dX1_wholeNearest_11 ⟨Nat.zero_le _, Nat.zero_le _⟩) (fun r er => ?_)
    subst er
    refine vp_callSl (W.runV (As := [.long (fn_X1_sized k v1)]) (rest := [.ref (ad k)]) ⟨hx, hb, hml, hown, hts⟩ (ct_X1_nearest l ad k hk_k (fn_X1_sized k v1)) (cwV 1 hts gX1_wholeNearest_X1_nearest rfl rfl rfl (by decide +kernel) ⟨Nat.le_of_ble_eq_true rfl, Nat.le_of_ble_eq_true rfl⟩) ⟨(fun a U g mk q => ⟨q.1, kw_blind q.2⟩), kw_recv hW hS hk_k, fun U hU hW9 => ⟨rfl, kw_call hW hS hU hW9⟩⟩ rfl rfl hl.1 rfl (lv_room (Nat.le_of_ble_eq_true rfl)) dX1_wholeNearest_14 ⟨Nat.zero_le _, Nat.zero_le _⟩) (fun r er => ?_)
    subst er
    refine lv_lload_n hx hb dX1_wholeNearest_17 rfl (lv_at hl 1 rfl) ?_
    refine vp_callSl (W.runV (As := [.long (fn_X1_nearest k (fn_X1_sized k v1)), .long v1]) (rest := []) ⟨hx, hb, hml, hown, hts⟩ (ct_X1_turned l ad k hk_k (fn_X1_nearest k (fn_X1_sized k v1)) v1) (cwV 2 hts gX1_wholeNearest_X1_turned rfl rfl rfl (by decide +kernel) ⟨Nat.le_of_ble_eq_true rfl, Nat.le_of_ble_eq_true rfl⟩) ⟨(fun a U g mk q => ⟨q.1, kw_blind q.2⟩), kw_recv hW hS hk_k, fun U hU hW9 => ⟨rfl, kw_call hW hS hU hW9⟩⟩ rfl rfl hl.1 rfl (lv_room (Nat.le_of_ble_eq_true rfl)) dX1_wholeNearest_18 ⟨Nat.zero_le _, Nat.zero_le _⟩) (fun r er => ?_)
    subst er
    refine lv_goto (tgt := 25) hx hb dX1_wholeNearest_21 (by decide) ?_
    exact W.lret (v := fn_X1_turned k (fn_X1_nearest k (fn_X1_sized k v1)) v1) hx hb hr (fun t ht _ => ⟨_, rfl, by unfold fn_X1_wholeNearest; rw [if_neg c_1], ht⟩) (fun _ h => by cases h) dX1_wholeNearest_25
end
section
def fn_X1_significand (k : Nat) (v1 : Int64) : Int64 :=
  if ((1 : Int64) <<< (Int32.toInt64 (kR k) &&& 63)) ≤ v1 then
    (v1 &&& (((1 : Int64) <<< (Int32.toInt64 (kR k) &&& 63)) - (1 : Int64))) ||| ((1 : Int64) <<< (Int32.toInt64 (kR k) &&& 63))
  else
    v1
set_option maxHeartbeats 4000000 in
set_option maxRecDepth 100000 in
theorem ct_X1_significand (l : Launch) (ad : Nat → Nat) (k : Nat) (hk_k : k < 4) (v1 : Int64) : Met l yX1_significand wsX1_significand ({ frames := 0, cells := 0, slots := 0, locals := 0 } : Room) (va_Pc [.ref (ad k), .long v1] (fun U => kw ad (fun _ => False) U U.heap)) (vp_Sl (fun r => r = fn_X1_significand k v1)) 0 0 (fun _ => False) := by
  refine Met.ofW (cc := cX1_significand) (maxL := 5) (ret := (some .long)) (by decide) rfl ?_
  intro p e s m args below meth c s₁ B hml hv
  obtain ⟨rfl, hW⟩ := hv
  have hx := B.exec
  have hb := B.bytes
  have hr := B.returns
  have hlocks := B.notSynchronized
  have hts := atoms_spec (ws := wsX1_significand) B.pre
  have hown : s.vm.findClass RX1 = some m.cls := findClass_of_methodNamed B.named
  have hS : va_S (fun _ => False) s.heap s.heap [] := va_S.rf
  have hl := lv_entry ([.ref (ad k), .long v1]) (n := 5) (Nat.le_of_ble_eq_true rfl)
  rw [lg_entry_eq]
  generalize (lg_sl ([.ref (ad k), .long v1]) ++ List.replicate (5 - (lg_sl ([.ref (ad k), .long v1])).length) Slot.unset).toArray = ls at hl ⊢
  have hl : lv_has ls 5 [(0, .ref (ad k)), (1, .long v1)] := hl
  refine lv_lconst (v := (1 : Int64)) hx hb dX1_significand_0 (by decide) ?_
  refine lv_aload_n hx hb dX1_significand_1 rfl (lv_at hl 0 rfl) ?_
  refine kg_fraction hx hb hW hk_k hS hown (hts (.fieldLink RX1 43 "ServoDesk$Kind" "fraction" "I") (by decide +kernel)) dX1_significand_2 ?_
  refine lv_lshl hx hb dX1_significand_5 rfl ?_
  refine lv_lstore_n (lv' := [(3, .long ((1 : Int64) <<< (Int32.toInt64 (kR k) &&& 63))), (0, .ref (ad k)), (1, .long v1)]) hx hb dX1_significand_6 rfl hl (by decide) rfl (fun ls hl => ?_)
  refine lv_lload_n hx hb dX1_significand_7 rfl (lv_at hl 2 rfl) ?_
  refine lv_lload_n hx hb dX1_significand_8 rfl (lv_at hl 0 rfl) ?_
  refine zl_ge (tgt := 17) hx hb dX1_significand_9 dX1_significand_10 (by decide) (fun c_1 => ?_) (fun c_1 => ?_)
  · refine lv_lload_n hx hb dX1_significand_17 rfl (lv_at hl 2 rfl) ?_
    refine lv_lload_n hx hb dX1_significand_18 rfl (lv_at hl 0 rfl) ?_
    refine lv_lconst (v := (1 : Int64)) hx hb dX1_significand_19 (by decide) ?_
    refine lv_lsub hx hb dX1_significand_20 ?_
    refine lv_land hx hb dX1_significand_21 ?_
    refine lv_lload_n hx hb dX1_significand_22 rfl (lv_at hl 0 rfl) ?_
    refine lv_lor hx hb dX1_significand_23 ?_
    exact W.lret (v := (v1 &&& (((1 : Int64) <<< (Int32.toInt64 (kR k) &&& 63)) - (1 : Int64))) ||| ((1 : Int64) <<< (Int32.toInt64 (kR k) &&& 63))) hx hb hr (fun t ht _ => ⟨_, rfl, by unfold fn_X1_significand; rw [if_pos c_1], ht⟩) (fun _ h => by cases h) dX1_significand_24
  · refine lv_lload_n hx hb dX1_significand_13 rfl (lv_at hl 2 rfl) ?_
    refine lv_goto (tgt := 24) hx hb dX1_significand_14 (by decide) ?_
    exact W.lret (v := v1) hx hb hr (fun t ht _ => ⟨_, rfl, by unfold fn_X1_significand; rw [if_neg c_1], ht⟩) (fun _ h => by cases h) dX1_significand_24
def fn_X1_scale (k : Nat) (v1 : Int64) : Int32 :=
  ((if (1 : Int32) < (Int64.toInt32 ((Int64.toUInt64 v1 >>> (Int64.toUInt64 (Int32.toInt64 (kR k)) &&& Int64.toUInt64 63)).toInt64)) then (Int64.toInt32 ((Int64.toUInt64 v1 >>> (Int64.toUInt64 (Int32.toInt64 (kR k)) &&& Int64.toUInt64 63)).toInt64)) else (1 : Int32)) - (kB k)) - (kR k)
set_option maxHeartbeats 4000000 in
set_option maxRecDepth 100000 in
theorem ct_X1_scale (l : Launch) (ad : Nat → Nat) (k : Nat) (hk_k : k < 4) (v1 : Int64) : Met l yX1_scale wsX1_scale ({ frames := 1, cells := 0, slots := 0, locals := 23 } : Room) (va_Pc [.ref (ad k), .long v1] (fun U => kw ad (fun _ => False) U U.heap)) (vp_Si (fun r => r = fn_X1_scale k v1)) 0 0 (fun _ => False) := by
  refine Met.ofW (cc := cX1_scale) (maxL := 3) (ret := (some .int)) (by decide) rfl ?_
  intro p e s m args below meth c s₁ B hml hv
  obtain ⟨rfl, hW⟩ := hv
  have hx := B.exec
  have hb := B.bytes
  have hr := B.returns
  have hlocks := B.notSynchronized
  have hts := atoms_spec (ws := wsX1_scale) B.pre
  have hown : s.vm.findClass RX1 = some m.cls := findClass_of_methodNamed B.named
  have hS : va_S (fun _ => False) s.heap s.heap [] := va_S.rf
  have hl := lv_entry ([.ref (ad k), .long v1]) (n := 3) (Nat.le_of_ble_eq_true rfl)
  rw [lg_entry_eq]
  generalize (lg_sl ([.ref (ad k), .long v1]) ++ List.replicate (3 - (lg_sl ([.ref (ad k), .long v1])).length) Slot.unset).toArray = ls at hl ⊢
  have hl : lv_has ls 3 [(0, .ref (ad k)), (1, .long v1)] := hl
  refine lv_iconst (v := (1 : Int32)) hx hb dX1_scale_0 (by decide) ?_
  refine lv_lload_n hx hb dX1_scale_1 rfl (lv_at hl 1 rfl) ?_
  refine lv_aload_n hx hb dX1_scale_2 rfl (lv_at hl 0 rfl) ?_
  refine kg_fraction hx hb hW hk_k hS hown (hts (.fieldLink RX1 43 "ServoDesk$Kind" "fraction" "I") (by decide +kernel)) dX1_scale_3 ?_
  refine lv_lushr hx hb dX1_scale_6 rfl ?_
  refine lv_l2i hx hb dX1_scale_7 rfl ?_
  refine va_mmax hx hb (hml.trans hl.1.symm) hown (hts (.methodLink RX1 98 Lib.Math.max.name) (by decide +kernel)) (hts (.static Lib.Math.max.name) (by decide +kernel)) (hts (.initialized "java/lang/Math") (by decide +kernel)) (hts (.code Lib.Math.max.name Lib.Math.max.code 2 (some .int)) (by decide +kernel)) (Nat.le_of_ble_eq_true rfl) (Nat.le_of_ble_eq_true rfl) (Nat.zero_le _) (Nat.zero_le _) dX1_scale_8 ?_
  refine lv_aload_n hx hb dX1_scale_11 rfl (lv_at hl 0 rfl) ?_
  refine kg_bias hx hb hW hk_k hS hown (hts (.fieldLink RX1 46 "ServoDesk$Kind" "bias" "I") (by decide +kernel)) dX1_scale_12 ?_
  refine lv_isub hx hb dX1_scale_15 ?_
  refine lv_aload_n hx hb dX1_scale_16 rfl (lv_at hl 0 rfl) ?_
  refine kg_fraction hx hb hW hk_k hS hown (hts (.fieldLink RX1 43 "ServoDesk$Kind" "fraction" "I") (by decide +kernel)) dX1_scale_17 ?_
  refine lv_isub hx hb dX1_scale_20 ?_
  exact W.iret (v := ((if (1 : Int32) < (Int64.toInt32 ((Int64.toUInt64 v1 >>> (Int64.toUInt64 (Int32.toInt64 (kR k)) &&& Int64.toUInt64 63)).toInt64)) then (Int64.toInt32 ((Int64.toUInt64 v1 >>> (Int64.toUInt64 (Int32.toInt64 (kR k)) &&& Int64.toUInt64 63)).toInt64)) else (1 : Int32)) - (kB k)) - (kR k)) hx hb hr (fun t ht _ => ⟨_, rfl, rfl, ht⟩) (fun _ h => by cases h) dX1_scale_21
def fn_X1_sizeOf (k : Nat) (v1 : Int64) (v3 : Int32) : Int64 :=
  if v1 = (0 : Int64) then
    (0 : Int64)
  else
    if (((63 : Int32) - (fn_J13_numberOfLeadingZeros_95d88 v1)) + v3) ≤ (kB k) then
      ((Int32.toInt64 (((if (((63 : Int32) - (fn_J13_numberOfLeadingZeros_95d88 v1)) + v3) < ((1 : Int32) - (kB k)) then ((1 : Int32) - (kB k)) else (((63 : Int32) - (fn_J13_numberOfLeadingZeros_95d88 v1)) + v3)) + (kB k)) - (1 : Int32))) <<< (Int32.toInt64 (kR k) &&& 63)) + (fn_X1_scaledDown v1 (((if (((63 : Int32) - (fn_J13_numberOfLeadingZeros_95d88 v1)) + v3) < ((1 : Int32) - (kB k)) then ((1 : Int32) - (kB k)) else (((63 : Int32) - (fn_J13_numberOfLeadingZeros_95d88 v1)) + v3)) - (kR k)) - v3))
    else
      fn_X1_infinity k
set_option maxHeartbeats 4000000 in
set_option maxRecDepth 100000 in
theorem ct_X1_sizeOf (l : Launch) (ad : Nat → Nat) (k : Nat) (hk_k : k < 4) (v1 : Int64) (v3 : Int32) : Met l yX1_sizeOf wsX1_sizeOf ({ frames := 2, cells := 0, slots := 0, locals := 52 } : Room) (va_Pc [.ref (ad k), .long v1, .int v3] (fun U => kw ad (fun _ => False) U U.heap)) (vp_Sl (fun r => r = fn_X1_sizeOf k v1 v3)) 0 0 (fun _ => False) := by
  refine Met.ofW (cc := cX1_sizeOf) (maxL := 8) (ret := (some .long)) (by decide) rfl ?_
  intro p e s m args below meth c s₁ B hml hv
  obtain ⟨rfl, hW⟩ := hv
  have hx := B.exec
  have hb := B.bytes
  have hr := B.returns
  have hlocks := B.notSynchronized
  have hts := atoms_spec (ws := wsX1_sizeOf) B.pre
  have hown : s.vm.findClass RX1 = some m.cls := findClass_of_methodNamed B.named
  have hS : va_S (fun _ => False) s.heap s.heap [] := va_S.rf
  have hl := lv_entry ([.ref (ad k), .long v1, .int v3]) (n := 8) (Nat.le_of_ble_eq_true rfl)
  rw [lg_entry_eq]
  generalize (lg_sl ([.ref (ad k), .long v1, .int v3]) ++ List.replicate (8 - (lg_sl ([.ref (ad k), .long v1, .int v3])).length) Slot.unset).toArray = ls at hl ⊢
  have hl : lv_has ls 8 [(0, .ref (ad k)), (1, .long v1), (3, .int v3)] := hl
  refine lv_lload_n hx hb dX1_sizeOf_0 rfl (lv_at hl 1 rfl) ?_
  refine lv_lconst (v := (0 : Int64)) hx hb dX1_sizeOf_1 (by decide) ?_
  refine zl_ne (tgt := 8) hx hb dX1_sizeOf_2 dX1_sizeOf_3 (by decide) (fun c_1 => ?_) (fun c_1 => ?_)
  · refine lv_bipush (v := (63 : Int32)) hx hb dX1_sizeOf_8 (by decide) ?_
    refine lv_lload_n hx hb dX1_sizeOf_10 rfl (lv_at hl 1 rfl) ?_
    refine vp_callSi (W.runS (As := [.long v1]) (rest := [.int (63 : Int32)]) ⟨hx, hb, hml, hown, hts⟩ (ct_J13_numberOfLeadingZeros_95d88 l v1) (va_cwS 1 hts gX1_sizeOf_J13_numberOfLeadingZeros_95d88 rfl rfl rfl (by decide +kernel) ⟨Nat.le_of_ble_eq_true rfl, Nat.le_of_ble_eq_true rfl⟩) ⟨(fun a U g mk q => ⟨q.1, trivial⟩), fun U hU hW9 => ⟨rfl, trivial⟩⟩ rfl rfl hl.1 rfl (lv_room (Nat.le_of_ble_eq_true rfl)) dX1_sizeOf_11 ⟨Nat.zero_le _, Nat.zero_le _⟩) (fun r er => ?_)
    subst er
    refine lv_isub hx hb dX1_sizeOf_14 ?_
    refine lv_iload_n hx hb dX1_sizeOf_15 rfl (lv_at hl 2 rfl) ?_
    refine lv_iadd hx hb dX1_sizeOf_16 ?_
    refine lv_istore (lv' := [(4, .int (((63 : Int32) - (fn_J13_numberOfLeadingZeros_95d88 v1)) + v3)), (0, .ref (ad k)), (1, .long v1), (3, .int v3)]) hx hb dX1_sizeOf_17 hl (by decide) rfl (fun ls hl => ?_)
    refine lv_iload hx hb dX1_sizeOf_19 (lv_at hl 0 rfl) ?_
    refine lv_aload_n hx hb dX1_sizeOf_21 rfl (lv_at hl 1 rfl) ?_
    refine kg_bias hx hb hW hk_k hS hown (hts (.fieldLink RX1 46 "ServoDesk$Kind" "bias" "I") (by decide +kernel)) dX1_sizeOf_22 ?_
    refine lv_icmp_le (tgt := 33) hx hb dX1_sizeOf_25 (by decide) (fun c_2 => ?_) (fun c_2 => ?_)
    · refine lv_iload hx hb dX1_sizeOf_33 (lv_at hl 0 rfl) ?_
      refine lv_iconst (v := (1 : Int32)) hx hb dX1_sizeOf_35 (by decide) ?_
      refine lv_aload_n hx hb dX1_sizeOf_36 rfl (lv_at hl 1 rfl) ?_
      refine kg_bias hx hb hW hk_k hS hown (hts (.fieldLink RX1 46 "ServoDesk$Kind" "bias" "I") (by decide +kernel)) dX1_sizeOf_37 ?_
      refine lv_isub hx hb dX1_sizeOf_40 ?_
      refine va_mmax hx hb (hml.trans hl.1.symm) hown (hts (.methodLink RX1 98 Lib.Math.max.name) (by decide +kernel)) (hts (.static Lib.Math.max.name) (by decide +kernel)) (hts (.initialized "java/lang/Math") (by decide +kernel)) (hts (.code Lib.Math.max.name Lib.Math.max.code 2 (some .int)) (by decide +kernel)) (Nat.le_of_ble_eq_true rfl) (Nat.le_of_ble_eq_true rfl) (Nat.zero_le _) (Nat.zero_le _) dX1_sizeOf_41 ?_
      refine lv_istore (lv' := [(5, .int (if (((63 : Int32) - (fn_J13_numberOfLeadingZeros_95d88 v1)) + v3) < ((1 : Int32) - (kB k)) then ((1 : Int32) - (kB k)) else (((63 : Int32) - (fn_J13_numberOfLeadingZeros_95d88 v1)) + v3))), (4, .int (((63 : Int32) - (fn_J13_numberOfLeadingZeros_95d88 v1)) + v3)), (0, .ref (ad k)), (1, .long v1), (3, .int v3)]) hx hb dX1_sizeOf_44 hl (by decide) rfl (fun ls hl => ?_)
      refine lv_lload_n hx hb dX1_sizeOf_46 rfl (lv_at hl 3 rfl) ?_
      refine lv_iload hx hb dX1_sizeOf_47 (lv_at hl 0 rfl) ?_
      refine lv_aload_n hx hb dX1_sizeOf_49 rfl (lv_at hl 2 rfl) ?_
      refine kg_fraction hx hb hW hk_k hS hown (hts (.fieldLink RX1 43 "ServoDesk$Kind" "fraction" "I") (by decide +kernel)) dX1_sizeOf_50 ?_
      refine lv_isub hx hb dX1_sizeOf_53 ?_
      refine lv_iload_n hx hb dX1_sizeOf_54 rfl (lv_at hl 4 rfl) ?_
      refine lv_isub hx hb dX1_sizeOf_55 ?_
      refine vp_callSl (W.runS (As := [.long v1, .int (((if (((63 : Int32) - (fn_J13_numberOfLeadingZeros_95d88 v1)) + v3) < ((1 : Int32) - (kB k)) then ((1 : Int32) - (kB k)) else (((63 : Int32) - (fn_J13_numberOfLeadingZeros_95d88 v1)) + v3)) - (kR k)) - v3)]) (rest := []) ⟨hx, hb, hml, hown, hts⟩ (ct_X1_scaledDown l v1 (((if (((63 : Int32) - (fn_J13_numberOfLeadingZeros_95d88 v1)) + v3) < ((1 : Int32) - (kB k)) then ((1 : Int32) - (kB k)) else (((63 : Int32) - (fn_J13_numberOfLeadingZeros_95d88 v1)) + v3)) - (kR k)) - v3)) (va_cwS 2 hts gX1_sizeOf_X1_scaledDown rfl rfl rfl (by decide +kernel) ⟨Nat.le_of_ble_eq_true rfl, Nat.le_of_ble_eq_true rfl⟩) ⟨(fun a U g mk q => ⟨q.1, trivial⟩), fun U hU hW9 => ⟨rfl, trivial⟩⟩ rfl rfl hl.1 rfl (lv_room (Nat.le_of_ble_eq_true rfl)) dX1_sizeOf_56 ⟨Nat.zero_le _, Nat.zero_le _⟩) (fun r er => ?_)
      subst er
      refine lv_lstore (lv' := [(6, .long (fn_X1_scaledDown v1 (((if (((63 : Int32) - (fn_J13_numberOfLeadingZeros_95d88 v1)) + v3) < ((1 : Int32) - (kB k)) then ((1 : Int32) - (kB k)) else (((63 : Int32) - (fn_J13_numberOfLeadingZeros_95d88 v1)) + v3)) - (kR k)) - v3))), (5, .int (if (((63 : Int32) - (fn_J13_numberOfLeadingZeros_95d88 v1)) + v3) < ((1 : Int32) - (kB k)) then ((1 : Int32) - (kB k)) else (((63 : Int32) - (fn_J13_numberOfLeadingZeros_95d88 v1)) + v3))), (4, .int (((63 : Int32) - (fn_J13_numberOfLeadingZeros_95d88 v1)) + v3)), (0, .ref (ad k)), (1, .long v1), (3, .int v3)]) hx hb dX1_sizeOf_59 hl (by decide) rfl (fun ls hl => ?_)
      refine lv_iload hx hb dX1_sizeOf_61 (lv_at hl 1 rfl) ?_
      refine lv_aload_n hx hb dX1_sizeOf_63 rfl (lv_at hl 3 rfl) ?_
      refine kg_bias hx hb hW hk_k hS hown (hts (.fieldLink RX1 46 "ServoDesk$Kind" "bias" "I") (by decide +kernel)) dX1_sizeOf_64 ?_
      refine lv_iadd hx hb dX1_sizeOf_67 ?_
      refine lv_iconst (v := (1 : Int32)) hx hb dX1_sizeOf_68 (by decide) ?_
      refine lv_isub hx hb dX1_sizeOf_69 ?_
      refine lv_i2l hx hb dX1_sizeOf_70 rfl ?_
      refine lv_aload_n hx hb dX1_sizeOf_71 rfl (lv_at hl 3 rfl) ?_
      refine kg_fraction hx hb hW hk_k hS hown (hts (.fieldLink RX1 43 "ServoDesk$Kind" "fraction" "I") (by decide +kernel)) dX1_sizeOf_72 ?_
      refine lv_lshl hx hb dX1_sizeOf_75 rfl ?_
      refine lv_lload hx hb dX1_sizeOf_76 (lv_at hl 0 rfl) ?_
      refine lv_ladd hx hb dX1_sizeOf_78 ?_
      exact W.lret (v := ((Int32.toInt64 (((if (((63 : Int32) - (fn_J13_numberOfLeadingZeros_95d88 v1)) + v3) < ((1 : Int32) - (kB k)) then ((1 : Int32) - (kB k)) else (((63 : Int32) - (fn_J13_numberOfLeadingZeros_95d88 v1)) + v3)) + (kB k)) - (1 : Int32))) <<< (Int32.toInt64 (kR k) &&& 63)) + (fn_X1_scaledDown v1 (((if (((63 : Int32) - (fn_J13_numberOfLeadingZeros_95d88 v1)) + v3) < ((1 : Int32) - (kB k)) then ((1 : Int32) - (kB k)) else (((63 : Int32) - (fn_J13_numberOfLeadingZeros_95d88 v1)) + v3)) - (kR k)) - v3))) hx hb hr (fun t ht _ => ⟨_, rfl, by unfold fn_X1_sizeOf; rw [if_neg c_1, if_pos c_2], ht⟩) (fun _ h => by cases h) dX1_sizeOf_79
    · refine lv_aload_n hx hb dX1_sizeOf_28 rfl (lv_at hl 1 rfl) ?_
      refine vp_callSl (W.runV (As := []) (rest := []) ⟨hx, hb, hml, hown, hts⟩ (ct_X1_infinity l ad k hk_k) (cwV 0 hts gX1_sizeOf_X1_infinity rfl rfl rfl (by decide +kernel) ⟨Nat.le_of_ble_eq_true rfl, Nat.le_of_ble_eq_true rfl⟩) ⟨(fun a U g mk q => ⟨q.1, kw_blind q.2⟩), kw_recv hW hS hk_k, fun U hU hW9 => ⟨rfl, kw_call hW hS hU hW9⟩⟩ rfl rfl hl.1 rfl (lv_room (Nat.le_of_ble_eq_true rfl)) dX1_sizeOf_29 ⟨Nat.zero_le _, Nat.zero_le _⟩) (fun r er => ?_)
      subst er
      exact W.lret (v := fn_X1_infinity k) hx hb hr (fun t ht _ => ⟨_, rfl, by unfold fn_X1_sizeOf; rw [if_neg c_1, if_neg c_2], ht⟩) (fun _ h => by cases h) dX1_sizeOf_32
  · refine lv_lconst (v := (0 : Int64)) hx hb dX1_sizeOf_6 (by decide) ?_
    exact W.lret (v := (0 : Int64)) hx hb hr (fun t ht _ => ⟨_, rfl, by unfold fn_X1_sizeOf; rw [if_pos c_1], ht⟩) (fun _ h => by cases h) dX1_sizeOf_7
def fn_X1_towardsZero_74 (x1 : Int64) (x8 : Int64) : Int64 :=
  if (0 : Int64) ≤ x1 then
    x8
  else
    -x8
set_option maxHeartbeats 4000000 in
set_option maxRecDepth 100000 in
theorem sg_X1_towardsZero_74 {p : Program} {l : Launch} {e : Env} {s : State} {m : MethodId} {args : Array Value} {below : List Frame} {meth : Method} {c : Code} {ls : Array Slot} {g : Int64} {ad : Nat → Nat} (hx : p.tables.exec = Jvm.exec) (hb : c.code = cX1_towardsZero) (hr : meth.sig.returnType = (some .long)) (hml : c.maxLocals = 10) (hts : ∀ w ∈ wsX1_towardsZero, w.before args s = true) (hown : s.vm.findClass RX1 = some m.cls) (hlocks : meth.locks = false) (hW : kw ad (fun _ => False) s s.heap) (x1 : Int64) (x8 : Int64) (hg : g = fn_X1_towardsZero_74 x1 x8) (hl : lv_has ls 10 [(1, .long x1), (8, .long x8)]) : W p l e ({ frames := 2, cells := 0, slots := 0, locals := 45 } : Room) s m args below meth c s.heap [] 0 0 (MQ below (vp_Sl (fun r => r = g)) args s 0 0 (fun _ => False)) (F0 m 74 ls []) := by
  have hS : va_S (fun _ => False) s.heap s.heap [] := va_S.rf
  refine lv_lload_n hx hb dX1_towardsZero_74 rfl (lv_at hl 0 rfl) ?_
  refine lv_lconst (v := (0 : Int64)) hx hb dX1_towardsZero_75 (by decide) ?_
  refine zl_ge (tgt := 86) hx hb dX1_towardsZero_76 dX1_towardsZero_77 (by decide) (fun c_1 => ?_) (fun c_1 => ?_)
  · refine lv_lload hx hb dX1_towardsZero_86 (lv_at hl 1 rfl) ?_
    exact W.lret (v := x8) hx hb hr (fun t ht _ => ⟨_, rfl, by rw [hg]; unfold fn_X1_towardsZero_74; rw [if_pos c_1], ht⟩) (fun _ h => by cases h) dX1_towardsZero_88
  · refine lv_lload hx hb dX1_towardsZero_80 (lv_at hl 1 rfl) ?_
    refine lv_lneg hx hb dX1_towardsZero_82 ?_
    refine lv_goto (tgt := 88) hx hb dX1_towardsZero_83 (by decide) ?_
    exact W.lret (v := -x8) hx hb hr (fun t ht _ => ⟨_, rfl, by rw [hg]; unfold fn_X1_towardsZero_74; rw [if_neg c_1], ht⟩) (fun _ h => by cases h) dX1_towardsZero_88
def fn_X1_towardsZero (k : Nat) (v1 : Int64) : Int64 :=
  if ((fn_X1_scale k (fn_X1_sized k v1)) + (kR k)) < (63 : Int32) then
    if (fn_X1_scale k (fn_X1_sized k v1)) < 0 then
      fn_X1_towardsZero_74 v1 ((Int64.toUInt64 (fn_X1_significand k (fn_X1_sized k v1)) >>> (Int64.toUInt64 (Int32.toInt64 (if (-(fn_X1_scale k (fn_X1_sized k v1))) < (63 : Int32) then (-(fn_X1_scale k (fn_X1_sized k v1))) else (63 : Int32))) &&& Int64.toUInt64 63)).toInt64)
    else
      fn_X1_towardsZero_74 v1 ((fn_X1_significand k (fn_X1_sized k v1)) <<< (Int32.toInt64 (fn_X1_scale k (fn_X1_sized k v1)) &&& 63))
  else
    if (0 : Int64) ≤ v1 then
      (9223372036854775807 : Int64)
    else
      (-9223372036854775808 : Int64)
set_option maxHeartbeats 4000000 in
set_option maxRecDepth 100000 in
theorem ct_X1_towardsZero (l : Launch) (ad : Nat → Nat) (k : Nat) (hk_k : k < 4) (v1 : Int64) : Met l yX1_towardsZero wsX1_towardsZero ({ frames := 2, cells := 0, slots := 0, locals := 45 } : Room) (va_Pc [.ref (ad k), .long v1] (fun U => kw ad (fun _ => False) U U.heap)) (vp_Sl (fun r => r = fn_X1_towardsZero k v1)) 0 0 (fun _ => False) := by
  refine Met.ofW (cc := cX1_towardsZero) (maxL := 10) (ret := (some .long)) (by decide) rfl ?_
  intro p e s m args below meth c s₁ B hml hv
  obtain ⟨rfl, hW⟩ := hv
  have hx := B.exec
  have hb := B.bytes
  have hr := B.returns
  have hlocks := B.notSynchronized
  have hts := atoms_spec (ws := wsX1_towardsZero) B.pre
  have hown : s.vm.findClass RX1 = some m.cls := findClass_of_methodNamed B.named
  have hS : va_S (fun _ => False) s.heap s.heap [] := va_S.rf
  have hl := lv_entry ([.ref (ad k), .long v1]) (n := 10) (Nat.le_of_ble_eq_true rfl)
  rw [lg_entry_eq]
  generalize (lg_sl ([.ref (ad k), .long v1]) ++ List.replicate (10 - (lg_sl ([.ref (ad k), .long v1])).length) Slot.unset).toArray = ls at hl ⊢
  have hl : lv_has ls 10 [(0, .ref (ad k)), (1, .long v1)] := hl
  refine lv_aload_n hx hb dX1_towardsZero_0 rfl (lv_at hl 0 rfl) ?_
  refine lv_lload_n hx hb dX1_towardsZero_1 rfl (lv_at hl 1 rfl) ?_
  refine vp_callSl (W.runV (As := [.long v1]) (rest := []) ⟨hx, hb, hml, hown, hts⟩ (ct_X1_sized l ad k hk_k v1) (cwV 1 hts gX1_towardsZero_X1_sized rfl rfl rfl (by decide +kernel) ⟨Nat.le_of_ble_eq_true rfl, Nat.le_of_ble_eq_true rfl⟩) ⟨(fun a U g mk q => ⟨q.1, kw_blind q.2⟩), kw_recv hW hS hk_k, fun U hU hW9 => ⟨rfl, kw_call hW hS hU hW9⟩⟩ rfl rfl hl.1 rfl (lv_room (Nat.le_of_ble_eq_true rfl)) dX1_towardsZero_2 ⟨Nat.zero_le _, Nat.zero_le _⟩) (fun r er => ?_)
  subst er
  refine lv_lstore_n (lv' := [(3, .long (fn_X1_sized k v1)), (0, .ref (ad k)), (1, .long v1)]) hx hb dX1_towardsZero_5 rfl hl (by decide) rfl (fun ls hl => ?_)
  refine lv_aload_n hx hb dX1_towardsZero_6 rfl (lv_at hl 1 rfl) ?_
  refine lv_lload_n hx hb dX1_towardsZero_7 rfl (lv_at hl 0 rfl) ?_
  refine vp_callSi (W.runV (As := [.long (fn_X1_sized k v1)]) (rest := []) ⟨hx, hb, hml, hown, hts⟩ (ct_X1_scale l ad k hk_k (fn_X1_sized k v1)) (cwV 1 hts gX1_towardsZero_X1_scale rfl rfl rfl (by decide +kernel) ⟨Nat.le_of_ble_eq_true rfl, Nat.le_of_ble_eq_true rfl⟩) ⟨(fun a U g mk q => ⟨q.1, kw_blind q.2⟩), kw_recv hW hS hk_k, fun U hU hW9 => ⟨rfl, kw_call hW hS hU hW9⟩⟩ rfl rfl hl.1 rfl (lv_room (Nat.le_of_ble_eq_true rfl)) dX1_towardsZero_8 ⟨Nat.zero_le _, Nat.zero_le _⟩) (fun r er => ?_)
  subst er
  refine lv_istore (lv' := [(5, .int (fn_X1_scale k (fn_X1_sized k v1))), (3, .long (fn_X1_sized k v1)), (0, .ref (ad k)), (1, .long v1)]) hx hb dX1_towardsZero_11 hl (by decide) rfl (fun ls hl => ?_)
  refine lv_iload hx hb dX1_towardsZero_13 (lv_at hl 0 rfl) ?_
  refine lv_aload_n hx hb dX1_towardsZero_15 rfl (lv_at hl 2 rfl) ?_
  refine kg_fraction hx hb hW hk_k hS hown (hts (.fieldLink RX1 43 "ServoDesk$Kind" "fraction" "I") (by decide +kernel)) dX1_towardsZero_16 ?_
  refine lv_iadd hx hb dX1_towardsZero_19 ?_
  refine lv_bipush (v := (63 : Int32)) hx hb dX1_towardsZero_20 (by decide) ?_
  refine lv_icmp_lt (tgt := 41) hx hb dX1_towardsZero_22 (by decide) (fun c_1 => ?_) (fun c_1 => ?_)
  · refine lv_aload_n hx hb dX1_towardsZero_41 rfl (lv_at hl 2 rfl) ?_
    refine lv_lload_n hx hb dX1_towardsZero_42 rfl (lv_at hl 1 rfl) ?_
    refine vp_callSl (W.runV (As := [.long (fn_X1_sized k v1)]) (rest := []) ⟨hx, hb, hml, hown, hts⟩ (ct_X1_significand l ad k hk_k (fn_X1_sized k v1)) (cwV 1 hts gX1_towardsZero_X1_significand rfl rfl rfl (by decide +kernel) ⟨Nat.le_of_ble_eq_true rfl, Nat.le_of_ble_eq_true rfl⟩) ⟨(fun a U g mk q => ⟨q.1, kw_blind q.2⟩), kw_recv hW hS hk_k, fun U hU hW9 => ⟨rfl, kw_call hW hS hU hW9⟩⟩ rfl rfl hl.1 rfl (lv_room (Nat.le_of_ble_eq_true rfl)) dX1_towardsZero_43 ⟨Nat.zero_le _, Nat.zero_le _⟩) (fun r er => ?_)
    subst er
    refine lv_lstore (lv' := [(6, .long (fn_X1_significand k (fn_X1_sized k v1))), (5, .int (fn_X1_scale k (fn_X1_sized k v1))), (3, .long (fn_X1_sized k v1)), (0, .ref (ad k)), (1, .long v1)]) hx hb dX1_towardsZero_46 hl (by decide) rfl (fun ls hl => ?_)
    refine lv_iload hx hb dX1_towardsZero_48 (lv_at hl 1 rfl) ?_
    refine lv_if_lt (tgt := 61) hx hb dX1_towardsZero_50 (by decide) (fun c_2 => ?_) (fun c_2 => ?_)
    · refine lv_lload hx hb dX1_towardsZero_61 (lv_at hl 0 rfl) ?_
      refine lv_bipush (v := (63 : Int32)) hx hb dX1_towardsZero_63 (by decide) ?_
      refine lv_iload hx hb dX1_towardsZero_65 (lv_at hl 1 rfl) ?_
      refine lv_ineg hx hb dX1_towardsZero_67 ?_
      refine va_mmin hx hb (hml.trans hl.1.symm) hown (hts (.methodLink RX1 140 Lib.Math.min.name) (by decide +kernel)) (hts (.static Lib.Math.min.name) (by decide +kernel)) (hts (.initialized "java/lang/Math") (by decide +kernel)) (hts (.code Lib.Math.min.name Lib.Math.min.code 2 (some .int)) (by decide +kernel)) (Nat.le_of_ble_eq_true rfl) (Nat.le_of_ble_eq_true rfl) (Nat.zero_le _) (Nat.zero_le _) dX1_towardsZero_68 ?_
      refine lv_lushr hx hb dX1_towardsZero_71 rfl ?_
      refine lv_lstore (lv' := [(8, .long ((Int64.toUInt64 (fn_X1_significand k (fn_X1_sized k v1)) >>> (Int64.toUInt64 (Int32.toInt64 (if (-(fn_X1_scale k (fn_X1_sized k v1))) < (63 : Int32) then (-(fn_X1_scale k (fn_X1_sized k v1))) else (63 : Int32))) &&& Int64.toUInt64 63)).toInt64)), (6, .long (fn_X1_significand k (fn_X1_sized k v1))), (5, .int (fn_X1_scale k (fn_X1_sized k v1))), (3, .long (fn_X1_sized k v1)), (0, .ref (ad k)), (1, .long v1)]) hx hb dX1_towardsZero_72 hl (by decide) rfl (fun ls hl => ?_)
      exact sg_X1_towardsZero_74 hx hb hr hml hts hown hlocks hW v1 ((Int64.toUInt64 (fn_X1_significand k (fn_X1_sized k v1)) >>> (Int64.toUInt64 (Int32.toInt64 (if (-(fn_X1_scale k (fn_X1_sized k v1))) < (63 : Int32) then (-(fn_X1_scale k (fn_X1_sized k v1))) else (63 : Int32))) &&& Int64.toUInt64 63)).toInt64) (by unfold fn_X1_towardsZero; rw [if_pos c_1, if_pos c_2])  (lv_sub hl [5, 0] rfl)
    · refine lv_lload hx hb dX1_towardsZero_53 (lv_at hl 0 rfl) ?_
      refine lv_iload hx hb dX1_towardsZero_55 (lv_at hl 1 rfl) ?_
      refine lv_lshl hx hb dX1_towardsZero_57 rfl ?_
      refine lv_goto (tgt := 72) hx hb dX1_towardsZero_58 (by decide) ?_
      refine lv_lstore (lv' := [(8, .long ((fn_X1_significand k (fn_X1_sized k v1)) <<< (Int32.toInt64 (fn_X1_scale k (fn_X1_sized k v1)) &&& 63))), (6, .long (fn_X1_significand k (fn_X1_sized k v1))), (5, .int (fn_X1_scale k (fn_X1_sized k v1))), (3, .long (fn_X1_sized k v1)), (0, .ref (ad k)), (1, .long v1)]) hx hb dX1_towardsZero_72 hl (by decide) rfl (fun ls hl => ?_)
      exact sg_X1_towardsZero_74 hx hb hr hml hts hown hlocks hW v1 ((fn_X1_significand k (fn_X1_sized k v1)) <<< (Int32.toInt64 (fn_X1_scale k (fn_X1_sized k v1)) &&& 63)) (by unfold fn_X1_towardsZero; rw [if_pos c_1, if_neg c_2])  (lv_sub hl [5, 0] rfl)
  · refine lv_lload_n hx hb dX1_towardsZero_25 rfl (lv_at hl 3 rfl) ?_
    refine lv_lconst (v := (0 : Int64)) hx hb dX1_towardsZero_26 (by decide) ?_
    refine zl_ge (tgt := 37) hx hb dX1_towardsZero_27 dX1_towardsZero_28 (by decide) (fun c_3 => ?_) (fun c_3 => ?_)
    · refine lv_ldc2 (v := (9223372036854775807 : Int64)) hx hb hown (hts (.constantLong RX1 138 (9223372036854775807)) (by decide +kernel)) dX1_towardsZero_37 ?_
      exact W.lret (v := (9223372036854775807 : Int64)) hx hb hr (fun t ht _ => ⟨_, rfl, by unfold fn_X1_towardsZero; rw [if_neg c_1, if_pos c_3], ht⟩) (fun _ h => by cases h) dX1_towardsZero_40
    · refine lv_ldc2 (v := (-9223372036854775808 : Int64)) hx hb hown (hts (.constantLong RX1 136 (-9223372036854775808)) (by decide +kernel)) dX1_towardsZero_31 ?_
      refine lv_goto (tgt := 40) hx hb dX1_towardsZero_34 (by decide) ?_
      exact W.lret (v := (-9223372036854775808 : Int64)) hx hb hr (fun t ht _ => ⟨_, rfl, by unfold fn_X1_towardsZero; rw [if_neg c_1, if_neg c_3], ht⟩) (fun _ h => by cases h) dX1_towardsZero_40
def fn_X1_made (k : Nat) (j : Nat) (v2 : Int64) : Int64 :=
  if (kF j) = 0 then
    if (kF k) = 0 then
      fn_X1_fitted k v2
    else
      fn_X1_turned k (fn_X1_sizeOf k (if 0 < v2 then v2 else -v2) (0 : Int32)) v2
  else
    if (kF k) = 0 then
      if (if (fn_X1_towardsZero j v2) < (fn_X1_greatest k) then (fn_X1_towardsZero j v2) else (fn_X1_greatest k)) < (fn_X1_least k) then (fn_X1_least k) else (if (fn_X1_towardsZero j v2) < (fn_X1_greatest k) then (fn_X1_towardsZero j v2) else (fn_X1_greatest k))
    else
      if (fn_X1_sized j v2) = (fn_X1_infinity j) then
        fn_X1_turned k (fn_X1_infinity k) v2
      else
        fn_X1_turned k (fn_X1_sizeOf k (fn_X1_significand j (fn_X1_sized j v2)) (fn_X1_scale j (fn_X1_sized j v2))) v2
set_option maxHeartbeats 4000000 in
set_option maxRecDepth 100000 in
theorem ct_X1_made (l : Launch) (ad : Nat → Nat) (k : Nat) (hk_k : k < 4) (j : Nat) (hk_j : j < 4) (v2 : Int64) : Met l yX1_made wsX1_made ({ frames := 3, cells := 0, slots := 0, locals := 79 } : Room) (va_Pc [.ref (ad k), .ref (ad j), .long v2] (fun U => kw ad (fun _ => False) U U.heap)) (vp_Sl (fun r => r = fn_X1_made k j v2)) 0 0 (fun _ => False) := by
  refine Met.ofW (cc := cX1_made) (maxL := 7) (ret := (some .long)) (by decide) rfl ?_
  intro p e s m args below meth c s₁ B hml hv
  obtain ⟨rfl, hW⟩ := hv
  have hx := B.exec
  have hb := B.bytes
  have hr := B.returns
  have hlocks := B.notSynchronized
  have hts := atoms_spec (ws := wsX1_made) B.pre
  have hown : s.vm.findClass RX1 = some m.cls := findClass_of_methodNamed B.named
  have hS : va_S (fun _ => False) s.heap s.heap [] := va_S.rf
  have hl := lv_entry ([.ref (ad k), .ref (ad j), .long v2]) (n := 7) (Nat.le_of_ble_eq_true rfl)
  rw [lg_entry_eq]
  generalize (lg_sl ([.ref (ad k), .ref (ad j), .long v2]) ++ List.replicate (7 - (lg_sl ([.ref (ad k), .ref (ad j), .long v2])).length) Slot.unset).toArray = ls at hl ⊢
  have hl : lv_has ls 7 [(0, .ref (ad k)), (1, .ref (ad j)), (2, .long v2)] := hl
  refine lv_aload_n hx hb dX1_made_0 rfl (lv_at hl 1 rfl) ?_
  refine kg_floating hx hb hW hk_j hS hown (hts (.fieldLink RX1 39 "ServoDesk$Kind" "floating" "Z") (by decide +kernel)) dX1_made_1 ?_
  refine lv_if_ne (tgt := 37) hx hb dX1_made_4 (by decide) (fun c_1 => ?_) (fun c_1 => ?_)
  · refine lv_aload_n hx hb dX1_made_37 rfl (lv_at hl 0 rfl) ?_
    refine kg_floating hx hb hW hk_k hS hown (hts (.fieldLink RX1 39 "ServoDesk$Kind" "floating" "Z") (by decide +kernel)) dX1_made_38 ?_
    refine lv_if_ne (tgt := 64) hx hb dX1_made_41 (by decide) (fun c_2 => ?_) (fun c_2 => ?_)
    · refine lv_aload_n hx hb dX1_made_64 rfl (lv_at hl 1 rfl) ?_
      refine lv_lload_n hx hb dX1_made_65 rfl (lv_at hl 2 rfl) ?_
      refine vp_callSl (W.runV (As := [.long v2]) (rest := []) ⟨hx, hb, hml, hown, hts⟩ (ct_X1_sized l ad j hk_j v2) (cwV 1 hts gX1_made_X1_sized rfl rfl rfl (by decide +kernel) ⟨Nat.le_of_ble_eq_true rfl, Nat.le_of_ble_eq_true rfl⟩) ⟨(fun a U g mk q => ⟨q.1, kw_blind q.2⟩), kw_recv hW hS hk_j, fun U hU hW9 => ⟨rfl, kw_call hW hS hU hW9⟩⟩ rfl rfl hl.1 rfl (lv_room (Nat.le_of_ble_eq_true rfl)) dX1_made_66 ⟨Nat.zero_le _, Nat.zero_le _⟩) (fun r er => ?_)
      subst er
      refine lv_lstore (lv' := [(4, .long (fn_X1_sized j v2)), (0, .ref (ad k)), (1, .ref (ad j)), (2, .long v2)]) hx hb dX1_made_69 hl (by decide) rfl (fun ls hl => ?_)
      refine lv_lload hx hb dX1_made_71 (lv_at hl 0 rfl) ?_
      refine lv_aload_n hx hb dX1_made_73 rfl (lv_at hl 2 rfl) ?_
      refine vp_callSl (W.runV (As := []) (rest := [.long (fn_X1_sized j v2)]) ⟨hx, hb, hml, hown, hts⟩ (ct_X1_infinity l ad j hk_j) (cwV 0 hts gX1_made_X1_infinity rfl rfl rfl (by decide +kernel) ⟨Nat.le_of_ble_eq_true rfl, Nat.le_of_ble_eq_true rfl⟩) ⟨(fun a U g mk q => ⟨q.1, kw_blind q.2⟩), kw_recv hW hS hk_j, fun U hU hW9 => ⟨rfl, kw_call hW hS hU hW9⟩⟩ rfl rfl hl.1 rfl (lv_room (Nat.le_of_ble_eq_true rfl)) dX1_made_74 ⟨Nat.zero_le _, Nat.zero_le _⟩) (fun r er => ?_)
      subst er
      refine zl_ne (tgt := 85) hx hb dX1_made_77 dX1_made_78 (by decide) (fun c_3 => ?_) (fun c_3 => ?_)
      · refine lv_iconst (v := (0 : Int32)) hx hb dX1_made_85 (by decide) ?_
        refine lv_istore (lv' := [(6, .int (0 : Int32)), (4, .long (fn_X1_sized j v2)), (0, .ref (ad k)), (1, .ref (ad j)), (2, .long v2)]) hx hb dX1_made_86 hl (by decide) rfl (fun ls hl => ?_)
        refine lv_aload_n hx hb dX1_made_88 rfl (lv_at hl 2 rfl) ?_
        refine lv_iload hx hb dX1_made_89 (lv_at hl 0 rfl) ?_
        refine lv_if_eq (tgt := 101) hx hb dX1_made_91 (by decide) (fun c_4 => ?_) (fun c_4 => ?_)
        · refine lv_aload_n hx hb dX1_made_101 rfl (lv_at hl 2 rfl) ?_
          refine lv_aload_n hx hb dX1_made_102 rfl (lv_at hl 3 rfl) ?_
          refine lv_lload hx hb dX1_made_103 (lv_at hl 1 rfl) ?_
          refine vp_callSl (W.runV (As := [.long (fn_X1_sized j v2)]) (rest := [.ref (ad k), .ref (ad k)]) ⟨hx, hb, hml, hown, hts⟩ (ct_X1_significand l ad j hk_j (fn_X1_sized j v2)) (cwV 1 hts gX1_made_X1_significand rfl rfl rfl (by decide +kernel) ⟨Nat.le_of_ble_eq_true rfl, Nat.le_of_ble_eq_true rfl⟩) ⟨(fun a U g mk q => ⟨q.1, kw_blind q.2⟩), kw_recv hW hS hk_j, fun U hU hW9 => ⟨rfl, kw_call hW hS hU hW9⟩⟩ rfl rfl hl.1 rfl (lv_room (Nat.le_of_ble_eq_true rfl)) dX1_made_105 ⟨Nat.zero_le _, Nat.zero_le _⟩) (fun r er => ?_)
          subst er
          refine lv_aload_n hx hb dX1_made_108 rfl (lv_at hl 3 rfl) ?_
          refine lv_lload hx hb dX1_made_109 (lv_at hl 1 rfl) ?_
          refine vp_callSi (W.runV (As := [.long (fn_X1_sized j v2)]) (rest := [.long (fn_X1_significand j (fn_X1_sized j v2)), .ref (ad k), .ref (ad k)]) ⟨hx, hb, hml, hown, hts⟩ (ct_X1_scale l ad j hk_j (fn_X1_sized j v2)) (cwV 1 hts gX1_made_X1_scale rfl rfl rfl (by decide +kernel) ⟨Nat.le_of_ble_eq_true rfl, Nat.le_of_ble_eq_true rfl⟩) ⟨(fun a U g mk q => ⟨q.1, kw_blind q.2⟩), kw_recv hW hS hk_j, fun U hU hW9 => ⟨rfl, kw_call hW hS hU hW9⟩⟩ rfl rfl hl.1 rfl (lv_room (Nat.le_of_ble_eq_true rfl)) dX1_made_111 ⟨Nat.zero_le _, Nat.zero_le _⟩) (fun r er => ?_)
          subst er
          refine vp_callSl (W.runV (As := [.long (fn_X1_significand j (fn_X1_sized j v2)), .int (fn_X1_scale j (fn_X1_sized j v2))]) (rest := [.ref (ad k)]) ⟨hx, hb, hml, hown, hts⟩ (ct_X1_sizeOf l ad k hk_k (fn_X1_significand j (fn_X1_sized j v2)) (fn_X1_scale j (fn_X1_sized j v2))) (cwV 2 hts gX1_made_X1_sizeOf rfl rfl rfl (by decide +kernel) ⟨Nat.le_of_ble_eq_true rfl, Nat.le_of_ble_eq_true rfl⟩) ⟨(fun a U g mk q => ⟨q.1, kw_blind q.2⟩), kw_recv hW hS hk_k, fun U hU hW9 => ⟨rfl, kw_call hW hS hU hW9⟩⟩ rfl rfl hl.1 rfl (lv_room (Nat.le_of_ble_eq_true rfl)) dX1_made_114 ⟨Nat.zero_le _, Nat.zero_le _⟩) (fun r er => ?_)
          subst er
          refine lv_lload_n hx hb dX1_made_117 rfl (lv_at hl 4 rfl) ?_
          refine vp_callSl (W.runV (As := [.long (fn_X1_sizeOf k (fn_X1_significand j (fn_X1_sized j v2)) (fn_X1_scale j (fn_X1_sized j v2))), .long v2]) (rest := []) ⟨hx, hb, hml, hown, hts⟩ (ct_X1_turned l ad k hk_k (fn_X1_sizeOf k (fn_X1_significand j (fn_X1_sized j v2)) (fn_X1_scale j (fn_X1_sized j v2))) v2) (cwV 2 hts gX1_made_X1_turned rfl rfl rfl (by decide +kernel) ⟨Nat.le_of_ble_eq_true rfl, Nat.le_of_ble_eq_true rfl⟩) ⟨(fun a U g mk q => ⟨q.1, kw_blind q.2⟩), kw_recv hW hS hk_k, fun U hU hW9 => ⟨rfl, kw_call hW hS hU hW9⟩⟩ rfl rfl hl.1 rfl (lv_room (Nat.le_of_ble_eq_true rfl)) dX1_made_118 ⟨Nat.zero_le _, Nat.zero_le _⟩) (fun r er => ?_)
          subst er
          exact W.lret (v := fn_X1_turned k (fn_X1_sizeOf k (fn_X1_significand j (fn_X1_sized j v2)) (fn_X1_scale j (fn_X1_sized j v2))) v2) hx hb hr (fun t ht _ => ⟨_, rfl, by unfold fn_X1_made; rw [if_neg c_1, if_neg c_2, if_neg c_3], ht⟩) (fun _ h => by cases h) dX1_made_121
        · exact absurd c_4 (by decide)
      · refine lv_iconst (v := (1 : Int32)) hx hb dX1_made_81 (by decide) ?_
        refine lv_goto (tgt := 86) hx hb dX1_made_82 (by decide) ?_
        refine lv_istore (lv' := [(6, .int (1 : Int32)), (4, .long (fn_X1_sized j v2)), (0, .ref (ad k)), (1, .ref (ad j)), (2, .long v2)]) hx hb dX1_made_86 hl (by decide) rfl (fun ls hl => ?_)
        refine lv_aload_n hx hb dX1_made_88 rfl (lv_at hl 2 rfl) ?_
        refine lv_iload hx hb dX1_made_89 (lv_at hl 0 rfl) ?_
        refine lv_if_eq (tgt := 101) hx hb dX1_made_91 (by decide) (fun c_5 => ?_) (fun c_5 => ?_)
        · exact absurd c_5 (by decide)
        · refine lv_aload_n hx hb dX1_made_94 rfl (lv_at hl 2 rfl) ?_
          refine vp_callSl (W.runV (As := []) (rest := [.ref (ad k)]) ⟨hx, hb, hml, hown, hts⟩ (ct_X1_infinity l ad k hk_k) (cwV 0 hts gX1_made_X1_infinity rfl rfl rfl (by decide +kernel) ⟨Nat.le_of_ble_eq_true rfl, Nat.le_of_ble_eq_true rfl⟩) ⟨(fun a U g mk q => ⟨q.1, kw_blind q.2⟩), kw_recv hW hS hk_k, fun U hU hW9 => ⟨rfl, kw_call hW hS hU hW9⟩⟩ rfl rfl hl.1 rfl (lv_room (Nat.le_of_ble_eq_true rfl)) dX1_made_95 ⟨Nat.zero_le _, Nat.zero_le _⟩) (fun r er => ?_)
          subst er
          refine lv_goto (tgt := 117) hx hb dX1_made_98 (by decide) ?_
          refine lv_lload_n hx hb dX1_made_117 rfl (lv_at hl 4 rfl) ?_
          refine vp_callSl (W.runV (As := [.long (fn_X1_infinity k), .long v2]) (rest := []) ⟨hx, hb, hml, hown, hts⟩ (ct_X1_turned l ad k hk_k (fn_X1_infinity k) v2) (cwV 2 hts gX1_made_X1_turned rfl rfl rfl (by decide +kernel) ⟨Nat.le_of_ble_eq_true rfl, Nat.le_of_ble_eq_true rfl⟩) ⟨(fun a U g mk q => ⟨q.1, kw_blind q.2⟩), kw_recv hW hS hk_k, fun U hU hW9 => ⟨rfl, kw_call hW hS hU hW9⟩⟩ rfl rfl hl.1 rfl (lv_room (Nat.le_of_ble_eq_true rfl)) dX1_made_118 ⟨Nat.zero_le _, Nat.zero_le _⟩) (fun r er => ?_)
          subst er
          exact W.lret (v := fn_X1_turned k (fn_X1_infinity k) v2) hx hb hr (fun t ht _ => ⟨_, rfl, by unfold fn_X1_made; rw [if_neg c_1, if_neg c_2, if_pos c_3], ht⟩) (fun _ h => by cases h) dX1_made_121
    · refine lv_aload_n hx hb dX1_made_44 rfl (lv_at hl 0 rfl) ?_
      refine vp_callSl (W.runV (As := []) (rest := []) ⟨hx, hb, hml, hown, hts⟩ (ct_X1_least l ad k hk_k) (cwV 0 hts gX1_made_X1_least rfl rfl rfl (by decide +kernel) ⟨Nat.le_of_ble_eq_true rfl, Nat.le_of_ble_eq_true rfl⟩) ⟨(fun a U g mk q => ⟨q.1, kw_blind q.2⟩), kw_recv hW hS hk_k, fun U hU hW9 => ⟨rfl, kw_call hW hS hU hW9⟩⟩ rfl rfl hl.1 rfl (lv_room (Nat.le_of_ble_eq_true rfl)) dX1_made_45 ⟨Nat.zero_le _, Nat.zero_le _⟩) (fun r er => ?_)
      subst er
      refine lv_aload_n hx hb dX1_made_48 rfl (lv_at hl 0 rfl) ?_
      refine vp_callSl (W.runV (As := []) (rest := [.long (fn_X1_least k)]) ⟨hx, hb, hml, hown, hts⟩ (ct_X1_greatest l ad k hk_k) (cwV 0 hts gX1_made_X1_greatest rfl rfl rfl (by decide +kernel) ⟨Nat.le_of_ble_eq_true rfl, Nat.le_of_ble_eq_true rfl⟩) ⟨(fun a U g mk q => ⟨q.1, kw_blind q.2⟩), kw_recv hW hS hk_k, fun U hU hW9 => ⟨rfl, kw_call hW hS hU hW9⟩⟩ rfl rfl hl.1 rfl (lv_room (Nat.le_of_ble_eq_true rfl)) dX1_made_49 ⟨Nat.zero_le _, Nat.zero_le _⟩) (fun r er => ?_)
      subst er
      refine lv_aload_n hx hb dX1_made_52 rfl (lv_at hl 1 rfl) ?_
      refine lv_lload_n hx hb dX1_made_53 rfl (lv_at hl 2 rfl) ?_
      refine vp_callSl (W.runV (As := [.long v2]) (rest := [.long (fn_X1_greatest k), .long (fn_X1_least k)]) ⟨hx, hb, hml, hown, hts⟩ (ct_X1_towardsZero l ad j hk_j v2) (cwV 1 hts gX1_made_X1_towardsZero rfl rfl rfl (by decide +kernel) ⟨Nat.le_of_ble_eq_true rfl, Nat.le_of_ble_eq_true rfl⟩) ⟨(fun a U g mk q => ⟨q.1, kw_blind q.2⟩), kw_recv hW hS hk_j, fun U hU hW9 => ⟨rfl, kw_call hW hS hU hW9⟩⟩ rfl rfl hl.1 rfl (lv_room (Nat.le_of_ble_eq_true rfl)) dX1_made_54 ⟨Nat.zero_le _, Nat.zero_le _⟩) (fun r er => ?_)
      subst er
      refine va_mmin_long hx hb (hml.trans hl.1.symm) hown (hts (.methodLink RX1 125 Lib.MathLoose.min_long.x) (by decide +kernel)) (hts (.static Lib.MathLoose.min_long.x) (by decide +kernel)) (hts (.initialized "java/lang/Math") (by decide +kernel)) (hts (.code Lib.MathLoose.min_long.x Lib.MathLoose.min_long.code 4 (some .long)) (by decide +kernel)) (Nat.le_of_ble_eq_true rfl) (Nat.le_of_ble_eq_true rfl) (Nat.zero_le _) (Nat.zero_le _) dX1_made_57 ?_
      refine va_mmax_long hx hb (hml.trans hl.1.symm) hown (hts (.methodLink RX1 128 Lib.MathLoose.max_long.x) (by decide +kernel)) (hts (.static Lib.MathLoose.max_long.x) (by decide +kernel)) (hts (.initialized "java/lang/Math") (by decide +kernel)) (hts (.code Lib.MathLoose.max_long.x Lib.MathLoose.max_long.code 4 (some .long)) (by decide +kernel)) (Nat.le_of_ble_eq_true rfl) (Nat.le_of_ble_eq_true rfl) (Nat.zero_le _) (Nat.zero_le _) dX1_made_60 ?_
      exact W.lret (v := if (if (fn_X1_towardsZero j v2) < (fn_X1_greatest k) then (fn_X1_towardsZero j v2) else (fn_X1_greatest k)) < (fn_X1_least k) then (fn_X1_least k) else (if (fn_X1_towardsZero j v2) < (fn_X1_greatest k) then (fn_X1_towardsZero j v2) else (fn_X1_greatest k))) hx hb hr (fun t ht _ => ⟨_, rfl, by unfold fn_X1_made; rw [if_neg c_1, if_pos c_2], ht⟩) (fun _ h => by cases h) dX1_made_63
  · refine lv_aload_n hx hb dX1_made_7 rfl (lv_at hl 0 rfl) ?_
    refine kg_floating hx hb hW hk_k hS hown (hts (.fieldLink RX1 39 "ServoDesk$Kind" "floating" "Z") (by decide +kernel)) dX1_made_8 ?_
    refine lv_if_eq (tgt := 31) hx hb dX1_made_11 (by decide) (fun c_6 => ?_) (fun c_6 => ?_)
    · refine lv_aload_n hx hb dX1_made_31 rfl (lv_at hl 0 rfl) ?_
      refine lv_lload_n hx hb dX1_made_32 rfl (lv_at hl 2 rfl) ?_
      refine vp_callSl (W.runV (As := [.long v2]) (rest := []) ⟨hx, hb, hml, hown, hts⟩ (ct_X1_fitted l ad k hk_k v2) (cwV 1 hts gX1_made_X1_fitted rfl rfl rfl (by decide +kernel) ⟨Nat.le_of_ble_eq_true rfl, Nat.le_of_ble_eq_true rfl⟩) ⟨(fun a U g mk q => ⟨q.1, kw_blind q.2⟩), kw_recv hW hS hk_k, fun U hU hW9 => ⟨rfl, kw_call hW hS hU hW9⟩⟩ rfl rfl hl.1 rfl (lv_room (Nat.le_of_ble_eq_true rfl)) dX1_made_33 ⟨Nat.zero_le _, Nat.zero_le _⟩) (fun r er => ?_)
      subst er
      exact W.lret (v := fn_X1_fitted k v2) hx hb hr (fun t ht _ => ⟨_, rfl, by unfold fn_X1_made; rw [if_pos c_1, if_pos c_6], ht⟩) (fun _ h => by cases h) dX1_made_36
    · refine lv_aload_n hx hb dX1_made_14 rfl (lv_at hl 0 rfl) ?_
      refine lv_aload_n hx hb dX1_made_15 rfl (lv_at hl 0 rfl) ?_
      refine lv_lload_n hx hb dX1_made_16 rfl (lv_at hl 2 rfl) ?_
      refine va_mabs_long hx hb (hml.trans hl.1.symm) hown (hts (.methodLink RX1 77 Lib.MathLoose.abs_long.x) (by decide +kernel)) (hts (.static Lib.MathLoose.abs_long.x) (by decide +kernel)) (hts (.initialized "java/lang/Math") (by decide +kernel)) (hts (.code Lib.MathLoose.abs_long.x Lib.MathLoose.abs_long.code 2 (some .long)) (by decide +kernel)) (Nat.le_of_ble_eq_true rfl) (Nat.le_of_ble_eq_true rfl) (Nat.zero_le _) (Nat.zero_le _) dX1_made_17 ?_
      refine lv_iconst (v := (0 : Int32)) hx hb dX1_made_20 (by decide) ?_
      refine vp_callSl (W.runV (As := [.long (if 0 < v2 then v2 else -v2), .int (0 : Int32)]) (rest := [.ref (ad k)]) ⟨hx, hb, hml, hown, hts⟩ (ct_X1_sizeOf l ad k hk_k (if 0 < v2 then v2 else -v2) (0 : Int32)) (cwV 2 hts gX1_made_X1_sizeOf rfl rfl rfl (by decide +kernel) ⟨Nat.le_of_ble_eq_true rfl, Nat.le_of_ble_eq_true rfl⟩) ⟨(fun a U g mk q => ⟨q.1, kw_blind q.2⟩), kw_recv hW hS hk_k, fun U hU hW9 => ⟨rfl, kw_call hW hS hU hW9⟩⟩ rfl rfl hl.1 rfl (lv_room (Nat.le_of_ble_eq_true rfl)) dX1_made_21 ⟨Nat.zero_le _, Nat.zero_le _⟩) (fun r er => ?_)
      subst er
      refine lv_lload_n hx hb dX1_made_24 rfl (lv_at hl 2 rfl) ?_
      refine vp_callSl (W.runV (As := [.long (fn_X1_sizeOf k (if 0 < v2 then v2 else -v2) (0 : Int32)), .long v2]) (rest := []) ⟨hx, hb, hml, hown, hts⟩ (ct_X1_turned l ad k hk_k (fn_X1_sizeOf k (if 0 < v2 then v2 else -v2) (0 : Int32)) v2) (cwV 2 hts gX1_made_X1_turned rfl rfl rfl (by decide +kernel) ⟨Nat.le_of_ble_eq_true rfl, Nat.le_of_ble_eq_true rfl⟩) ⟨(fun a U g mk q => ⟨q.1, kw_blind q.2⟩), kw_recv hW hS hk_k, fun U hU hW9 => ⟨rfl, kw_call hW hS hU hW9⟩⟩ rfl rfl hl.1 rfl (lv_room (Nat.le_of_ble_eq_true rfl)) dX1_made_25 ⟨Nat.zero_le _, Nat.zero_le _⟩) (fun r er => ?_)
      subst er
      refine lv_goto (tgt := 36) hx hb dX1_made_28 (by decide) ?_
      exact W.lret (v := fn_X1_turned k (fn_X1_sizeOf k (if 0 < v2 then v2 else -v2) (0 : Int32)) v2) hx hb hr (fun t ht _ => ⟨_, rfl, by unfold fn_X1_made; rw [if_pos c_1, if_neg c_6], ht⟩) (fun _ h => by cases h) dX1_made_36
end
section
def fn_X3_isFloating (v0 : Int32) : Int32 :=
  if v0 < (2 : Int32) then
    (0 : Int32)
  else
    (1 : Int32)
set_option maxHeartbeats 4000000 in
set_option maxRecDepth 100000 in
theorem ct_X3_isFloating (l : Launch) (v0 : Int32) : Met l yX3_isFloating wsX3_isFloating ({ frames := 0, cells := 0, slots := 0, locals := 0 } : Room) (va_Pc [.int v0] (fun _ => True)) (vp_Si (fun r => r = fn_X3_isFloating v0)) 0 0 (fun _ => False) := by
  refine Met.ofW (cc := cX3_isFloating) (maxL := 1) (ret := (some .boolean)) (by decide) rfl ?_
  intro p e s m args below meth c s₁ B hml hv
  obtain ⟨rfl, hW⟩ := hv
  have hx := B.exec
  have hb := B.bytes
  have hr := B.returns
  have hlocks := B.notSynchronized
  have hts := atoms_spec (ws := wsX3_isFloating) B.pre
  have hown : s.vm.findClass RX3 = some m.cls := findClass_of_methodNamed B.named
  have hS : va_S (fun _ => False) s.heap s.heap [] := va_S.rf
  have hl := lv_entry ([.int v0]) (n := 1) (Nat.le_of_ble_eq_true rfl)
  rw [lg_entry_eq]
  generalize (lg_sl ([.int v0]) ++ List.replicate (1 - (lg_sl ([.int v0])).length) Slot.unset).toArray = ls at hl ⊢
  have hl : lv_has ls 1 [(0, .int v0)] := hl
  refine lv_iload_n hx hb dX3_isFloating_0 rfl (lv_at hl 0 rfl) ?_
  refine lv_iconst (v := (2 : Int32)) hx hb dX3_isFloating_1 (by decide) ?_
  refine lv_icmp_lt (tgt := 9) hx hb dX3_isFloating_2 (by decide) (fun c_1 => ?_) (fun c_1 => ?_)
  · refine lv_iconst (v := (0 : Int32)) hx hb dX3_isFloating_9 (by decide) ?_
    exact W.zret (v := (0 : Int32)) (ty := .boolean) hx hb hr (by decide) (fun t ht _ => ⟨_, rfl, by unfold fn_X3_isFloating; rw [if_pos c_1], ht⟩) (fun _ h => by cases h) dX3_isFloating_10
  · refine lv_iconst (v := (1 : Int32)) hx hb dX3_isFloating_5 (by decide) ?_
    refine lv_goto (tgt := 10) hx hb dX3_isFloating_6 (by decide) ?_
    exact W.zret (v := (1 : Int32)) (ty := .boolean) hx hb hr (by decide) (fun t ht _ => ⟨_, rfl, by unfold fn_X3_isFloating; rw [if_neg c_1], ht⟩) (fun _ h => by cases h) dX3_isFloating_10
def fn_X3_fractionOf (v0 : Int32) : Int32 :=
  if v0 = (2 : Int32) then
    (23 : Int32)
  else
    (52 : Int32)
set_option maxHeartbeats 4000000 in
set_option maxRecDepth 100000 in
theorem ct_X3_fractionOf (l : Launch) (v0 : Int32) : Met l yX3_fractionOf wsX3_fractionOf ({ frames := 0, cells := 0, slots := 0, locals := 0 } : Room) (va_Pc [.int v0] (fun _ => True)) (vp_Si (fun r => r = fn_X3_fractionOf v0)) 0 0 (fun _ => False) := by
  refine Met.ofW (cc := cX3_fractionOf) (maxL := 1) (ret := (some .int)) (by decide) rfl ?_
  intro p e s m args below meth c s₁ B hml hv
  obtain ⟨rfl, hW⟩ := hv
  have hx := B.exec
  have hb := B.bytes
  have hr := B.returns
  have hlocks := B.notSynchronized
  have hts := atoms_spec (ws := wsX3_fractionOf) B.pre
  have hown : s.vm.findClass RX3 = some m.cls := findClass_of_methodNamed B.named
  have hS : va_S (fun _ => False) s.heap s.heap [] := va_S.rf
  have hl := lv_entry ([.int v0]) (n := 1) (Nat.le_of_ble_eq_true rfl)
  rw [lg_entry_eq]
  generalize (lg_sl ([.int v0]) ++ List.replicate (1 - (lg_sl ([.int v0])).length) Slot.unset).toArray = ls at hl ⊢
  have hl : lv_has ls 1 [(0, .int v0)] := hl
  refine lv_iload_n hx hb dX3_fractionOf_0 rfl (lv_at hl 0 rfl) ?_
  refine lv_iconst (v := (2 : Int32)) hx hb dX3_fractionOf_1 (by decide) ?_
  refine lv_icmp_ne (tgt := 10) hx hb dX3_fractionOf_2 (by decide) (fun c_1 => ?_) (fun c_1 => ?_)
  · refine lv_bipush (v := (52 : Int32)) hx hb dX3_fractionOf_10 (by decide) ?_
    exact W.iret (v := (52 : Int32)) hx hb hr (fun t ht _ => ⟨_, rfl, by unfold fn_X3_fractionOf; rw [if_neg c_1], ht⟩) (fun _ h => by cases h) dX3_fractionOf_12
  · refine lv_bipush (v := (23 : Int32)) hx hb dX3_fractionOf_5 (by decide) ?_
    refine lv_goto (tgt := 12) hx hb dX3_fractionOf_7 (by decide) ?_
    exact W.iret (v := (23 : Int32)) hx hb hr (fun t ht _ => ⟨_, rfl, by unfold fn_X3_fractionOf; rw [if_pos c_1], ht⟩) (fun _ h => by cases h) dX3_fractionOf_12
def fn_X3_endless (v0 : Int32) : Int64 :=
  if v0 = (2 : Int32) then
    (2139095040 : Int64)
  else
    (9218868437227405312 : Int64)
set_option maxHeartbeats 4000000 in
set_option maxRecDepth 100000 in
theorem ct_X3_endless (l : Launch) (v0 : Int32) : Met l yX3_endless wsX3_endless ({ frames := 0, cells := 0, slots := 0, locals := 0 } : Room) (va_Pc [.int v0] (fun _ => True)) (vp_Sl (fun r => r = fn_X3_endless v0)) 0 0 (fun _ => False) := by
  refine Met.ofW (cc := cX3_endless) (maxL := 1) (ret := (some .long)) (by decide) rfl ?_
  intro p e s m args below meth c s₁ B hml hv
  obtain ⟨rfl, hW⟩ := hv
  have hx := B.exec
  have hb := B.bytes
  have hr := B.returns
  have hlocks := B.notSynchronized
  have hts := atoms_spec (ws := wsX3_endless) B.pre
  have hown : s.vm.findClass RX3 = some m.cls := findClass_of_methodNamed B.named
  have hS : va_S (fun _ => False) s.heap s.heap [] := va_S.rf
  have hl := lv_entry ([.int v0]) (n := 1) (Nat.le_of_ble_eq_true rfl)
  rw [lg_entry_eq]
  generalize (lg_sl ([.int v0]) ++ List.replicate (1 - (lg_sl ([.int v0])).length) Slot.unset).toArray = ls at hl ⊢
  have hl : lv_has ls 1 [(0, .int v0)] := hl
  refine lv_iload_n hx hb dX3_endless_0 rfl (lv_at hl 0 rfl) ?_
  refine lv_iconst (v := (2 : Int32)) hx hb dX3_endless_1 (by decide) ?_
  refine lv_icmp_ne (tgt := 11) hx hb dX3_endless_2 (by decide) (fun c_1 => ?_) (fun c_1 => ?_)
  · refine lv_ldc2 (v := (9218868437227405312 : Int64)) hx hb hown (hts (.constantLong RX3 23 (9218868437227405312)) (by decide +kernel)) dX3_endless_11 ?_
    exact W.lret (v := (9218868437227405312 : Int64)) hx hb hr (fun t ht _ => ⟨_, rfl, by unfold fn_X3_endless; rw [if_neg c_1], ht⟩) (fun _ h => by cases h) dX3_endless_14
  · refine lv_ldc2 (v := (2139095040 : Int64)) hx hb hown (hts (.constantLong RX3 21 (2139095040)) (by decide +kernel)) dX3_endless_5 ?_
    refine lv_goto (tgt := 14) hx hb dX3_endless_8 (by decide) ?_
    exact W.lret (v := (2139095040 : Int64)) hx hb hr (fun t ht _ => ⟨_, rfl, by unfold fn_X3_endless; rw [if_pos c_1], ht⟩) (fun _ h => by cases h) dX3_endless_14
def fn_X3_size (v0 : Int32) (v1 : Int64) : Int64 :=
  if v0 = (2 : Int32) then
    v1 &&& (2147483647 : Int64)
  else
    v1 &&& (9223372036854775807 : Int64)
set_option maxHeartbeats 4000000 in
set_option maxRecDepth 100000 in
theorem ct_X3_size (l : Launch) (v0 : Int32) (v1 : Int64) : Met l yX3_size wsX3_size ({ frames := 0, cells := 0, slots := 0, locals := 0 } : Room) (va_Pc [.int v0, .long v1] (fun _ => True)) (vp_Sl (fun r => r = fn_X3_size v0 v1)) 0 0 (fun _ => False) := by
  refine Met.ofW (cc := cX3_size) (maxL := 3) (ret := (some .long)) (by decide) rfl ?_
  intro p e s m args below meth c s₁ B hml hv
  obtain ⟨rfl, hW⟩ := hv
  have hx := B.exec
  have hb := B.bytes
  have hr := B.returns
  have hlocks := B.notSynchronized
  have hts := atoms_spec (ws := wsX3_size) B.pre
  have hown : s.vm.findClass RX3 = some m.cls := findClass_of_methodNamed B.named
  have hS : va_S (fun _ => False) s.heap s.heap [] := va_S.rf
  have hl := lv_entry ([.int v0, .long v1]) (n := 3) (Nat.le_of_ble_eq_true rfl)
  rw [lg_entry_eq]
  generalize (lg_sl ([.int v0, .long v1]) ++ List.replicate (3 - (lg_sl ([.int v0, .long v1])).length) Slot.unset).toArray = ls at hl ⊢
  have hl : lv_has ls 3 [(0, .int v0), (1, .long v1)] := hl
  refine lv_iload_n hx hb dX3_size_0 rfl (lv_at hl 0 rfl) ?_
  refine lv_iconst (v := (2 : Int32)) hx hb dX3_size_1 (by decide) ?_
  refine lv_icmp_ne (tgt := 13) hx hb dX3_size_2 (by decide) (fun c_1 => ?_) (fun c_1 => ?_)
  · refine lv_lload_n hx hb dX3_size_13 rfl (lv_at hl 1 rfl) ?_
    refine lv_ldc2 (v := (9223372036854775807 : Int64)) hx hb hown (hts (.constantLong RX3 27 (9223372036854775807)) (by decide +kernel)) dX3_size_14 ?_
    refine lv_land hx hb dX3_size_17 ?_
    exact W.lret (v := v1 &&& (9223372036854775807 : Int64)) hx hb hr (fun t ht _ => ⟨_, rfl, by unfold fn_X3_size; rw [if_neg c_1], ht⟩) (fun _ h => by cases h) dX3_size_18
  · refine lv_lload_n hx hb dX3_size_5 rfl (lv_at hl 1 rfl) ?_
    refine lv_ldc2 (v := (2147483647 : Int64)) hx hb hown (hts (.constantLong RX3 25 (2147483647)) (by decide +kernel)) dX3_size_6 ?_
    refine lv_land hx hb dX3_size_9 ?_
    refine lv_goto (tgt := 18) hx hb dX3_size_10 (by decide) ?_
    exact W.lret (v := v1 &&& (2147483647 : Int64)) hx hb hr (fun t ht _ => ⟨_, rfl, by unfold fn_X3_size; rw [if_pos c_1], ht⟩) (fun _ h => by cases h) dX3_size_18
def fn_X3_signed (v0 : Int32) (v1 : Int64) (v3 : Int32) : Int64 :=
  if v0 = (2 : Int32) then
    if v3 = 0 then
      v1
    else
      Int32.toInt64 (Int64.toInt32 (v1 ||| (2147483648 : Int64)))
  else
    if v3 = 0 then
      v1
    else
      v1 ||| (-9223372036854775808 : Int64)
set_option maxHeartbeats 4000000 in
set_option maxRecDepth 100000 in
theorem ct_X3_signed (l : Launch) (v0 : Int32) (v1 : Int64) (v3 : Int32) : Met l yX3_signed wsX3_signed ({ frames := 0, cells := 0, slots := 0, locals := 0 } : Room) (va_Pc [.int v0, .long v1, .int v3] (fun _ => True)) (vp_Sl (fun r => r = fn_X3_signed v0 v1 v3)) 0 0 (fun _ => False) := by
  refine Met.ofW (cc := cX3_signed) (maxL := 4) (ret := (some .long)) (by decide) rfl ?_
  intro p e s m args below meth c s₁ B hml hv
  obtain ⟨rfl, hW⟩ := hv
  have hx := B.exec
  have hb := B.bytes
  have hr := B.returns
  have hlocks := B.notSynchronized
  have hts := atoms_spec (ws := wsX3_signed) B.pre
  have hown : s.vm.findClass RX3 = some m.cls := findClass_of_methodNamed B.named
  have hS : va_S (fun _ => False) s.heap s.heap [] := va_S.rf
  have hl := lv_entry ([.int v0, .long v1, .int v3]) (n := 4) (Nat.le_of_ble_eq_true rfl)
  rw [lg_entry_eq]
  generalize (lg_sl ([.int v0, .long v1, .int v3]) ++ List.replicate (4 - (lg_sl ([.int v0, .long v1, .int v3])).length) Slot.unset).toArray = ls at hl ⊢
  have hl : lv_has ls 4 [(0, .int v0), (1, .long v1), (3, .int v3)] := hl
  refine lv_iload_n hx hb dX3_signed_0 rfl (lv_at hl 0 rfl) ?_
  refine lv_iconst (v := (2 : Int32)) hx hb dX3_signed_1 (by decide) ?_
  refine lv_icmp_ne (tgt := 21) hx hb dX3_signed_2 (by decide) (fun c_1 => ?_) (fun c_1 => ?_)
  · refine lv_iload_n hx hb dX3_signed_21 rfl (lv_at hl 2 rfl) ?_
    refine lv_if_eq (tgt := 33) hx hb dX3_signed_22 (by decide) (fun c_2 => ?_) (fun c_2 => ?_)
    · refine lv_lload_n hx hb dX3_signed_33 rfl (lv_at hl 1 rfl) ?_
      exact W.lret (v := v1) hx hb hr (fun t ht _ => ⟨_, rfl, by unfold fn_X3_signed; rw [if_neg c_1, if_pos c_2], ht⟩) (fun _ h => by cases h) dX3_signed_34
    · refine lv_lload_n hx hb dX3_signed_25 rfl (lv_at hl 1 rfl) ?_
      refine lv_ldc2 (v := (-9223372036854775808 : Int64)) hx hb hown (hts (.constantLong RX3 31 (-9223372036854775808)) (by decide +kernel)) dX3_signed_26 ?_
      refine lv_lor hx hb dX3_signed_29 ?_
      refine lv_goto (tgt := 34) hx hb dX3_signed_30 (by decide) ?_
      exact W.lret (v := v1 ||| (-9223372036854775808 : Int64)) hx hb hr (fun t ht _ => ⟨_, rfl, by unfold fn_X3_signed; rw [if_neg c_1, if_neg c_2], ht⟩) (fun _ h => by cases h) dX3_signed_34
  · refine lv_iload_n hx hb dX3_signed_5 rfl (lv_at hl 2 rfl) ?_
    refine lv_if_eq (tgt := 19) hx hb dX3_signed_6 (by decide) (fun c_3 => ?_) (fun c_3 => ?_)
    · refine lv_lload_n hx hb dX3_signed_19 rfl (lv_at hl 1 rfl) ?_
      exact W.lret (v := v1) hx hb hr (fun t ht _ => ⟨_, rfl, by unfold fn_X3_signed; rw [if_pos c_1, if_pos c_3], ht⟩) (fun _ h => by cases h) dX3_signed_20
    · refine lv_lload_n hx hb dX3_signed_9 rfl (lv_at hl 1 rfl) ?_
      refine lv_ldc2 (v := (2147483648 : Int64)) hx hb hown (hts (.constantLong RX3 29 (2147483648)) (by decide +kernel)) dX3_signed_10 ?_
      refine lv_lor hx hb dX3_signed_13 ?_
      refine lv_l2i hx hb dX3_signed_14 rfl ?_
      refine lv_i2l hx hb dX3_signed_15 rfl ?_
      refine lv_goto (tgt := 20) hx hb dX3_signed_16 (by decide) ?_
      exact W.lret (v := Int32.toInt64 (Int64.toInt32 (v1 ||| (2147483648 : Int64)))) hx hb hr (fun t ht _ => ⟨_, rfl, by unfold fn_X3_signed; rw [if_pos c_1, if_neg c_3], ht⟩) (fun _ h => by cases h) dX3_signed_20
def fn_X3_one (v0 : Int32) : Int64 :=
  if v0 = (2 : Int32) then
    (1065353216 : Int64)
  else
    (4607182418800017408 : Int64)
set_option maxHeartbeats 4000000 in
set_option maxRecDepth 100000 in
theorem ct_X3_one (l : Launch) (v0 : Int32) : Met l yX3_one wsX3_one ({ frames := 0, cells := 0, slots := 0, locals := 0 } : Room) (va_Pc [.int v0] (fun _ => True)) (vp_Sl (fun r => r = fn_X3_one v0)) 0 0 (fun _ => False) := by
  refine Met.ofW (cc := cX3_one) (maxL := 1) (ret := (some .long)) (by decide) rfl ?_
  intro p e s m args below meth c s₁ B hml hv
  obtain ⟨rfl, hW⟩ := hv
  have hx := B.exec
  have hb := B.bytes
  have hr := B.returns
  have hlocks := B.notSynchronized
  have hts := atoms_spec (ws := wsX3_one) B.pre
  have hown : s.vm.findClass RX3 = some m.cls := findClass_of_methodNamed B.named
  have hS : va_S (fun _ => False) s.heap s.heap [] := va_S.rf
  have hl := lv_entry ([.int v0]) (n := 1) (Nat.le_of_ble_eq_true rfl)
  rw [lg_entry_eq]
  generalize (lg_sl ([.int v0]) ++ List.replicate (1 - (lg_sl ([.int v0])).length) Slot.unset).toArray = ls at hl ⊢
  have hl : lv_has ls 1 [(0, .int v0)] := hl
  refine lv_iload_n hx hb dX3_one_0 rfl (lv_at hl 0 rfl) ?_
  refine lv_iconst (v := (2 : Int32)) hx hb dX3_one_1 (by decide) ?_
  refine lv_icmp_ne (tgt := 11) hx hb dX3_one_2 (by decide) (fun c_1 => ?_) (fun c_1 => ?_)
  · refine lv_ldc2 (v := (4607182418800017408 : Int64)) hx hb hown (hts (.constantLong RX3 35 (4607182418800017408)) (by decide +kernel)) dX3_one_11 ?_
    exact W.lret (v := (4607182418800017408 : Int64)) hx hb hr (fun t ht _ => ⟨_, rfl, by unfold fn_X3_one; rw [if_neg c_1], ht⟩) (fun _ h => by cases h) dX3_one_14
  · refine lv_ldc2 (v := (1065353216 : Int64)) hx hb hown (hts (.constantLong RX3 33 (1065353216)) (by decide +kernel)) dX3_one_5 ?_
    refine lv_goto (tgt := 14) hx hb dX3_one_8 (by decide) ?_
    exact W.lret (v := (1065353216 : Int64)) hx hb hr (fun t ht _ => ⟨_, rfl, by unfold fn_X3_one; rw [if_pos c_1], ht⟩) (fun _ h => by cases h) dX3_one_14
def fn_X3_rank (v0 : Int32) (v1 : Int64) : Int64 :=
  if (fn_X3_isFloating v0) = 0 then
    v1
  else
    if (0 : Int64) ≤ v1 then
      v1
    else
      (-1 : Int64) - (fn_X3_size v0 v1)
set_option maxHeartbeats 4000000 in
set_option maxRecDepth 100000 in
theorem ct_X3_rank (l : Launch) (v0 : Int32) (v1 : Int64) : Met l yX3_rank wsX3_rank ({ frames := 1, cells := 0, slots := 0, locals := 22 } : Room) (va_Pc [.int v0, .long v1] (fun _ => True)) (vp_Sl (fun r => r = fn_X3_rank v0 v1)) 0 0 (fun _ => False) := by
  refine Met.ofW (cc := cX3_rank) (maxL := 3) (ret := (some .long)) (by decide) rfl ?_
  intro p e s m args below meth c s₁ B hml hv
  obtain ⟨rfl, hW⟩ := hv
  have hx := B.exec
  have hb := B.bytes
  have hr := B.returns
  have hlocks := B.notSynchronized
  have hts := atoms_spec (ws := wsX3_rank) B.pre
  have hown : s.vm.findClass RX3 = some m.cls := findClass_of_methodNamed B.named
  have hS : va_S (fun _ => False) s.heap s.heap [] := va_S.rf
  have hl := lv_entry ([.int v0, .long v1]) (n := 3) (Nat.le_of_ble_eq_true rfl)
  rw [lg_entry_eq]
  generalize (lg_sl ([.int v0, .long v1]) ++ List.replicate (3 - (lg_sl ([.int v0, .long v1])).length) Slot.unset).toArray = ls at hl ⊢
  have hl : lv_has ls 3 [(0, .int v0), (1, .long v1)] := hl
  refine lv_iload_n hx hb dX3_rank_0 rfl (lv_at hl 0 rfl) ?_
  refine vp_callSi (W.runS (As := [.int v0]) (rest := []) ⟨hx, hb, hml, hown, hts⟩ (ct_X3_isFloating l v0) (va_cwS 1 hts gX3_rank_X3_isFloating rfl rfl rfl (by decide +kernel) ⟨Nat.le_of_ble_eq_true rfl, Nat.le_of_ble_eq_true rfl⟩) ⟨(fun a U g mk q => ⟨q.1, trivial⟩), fun U hU hW9 => ⟨rfl, trivial⟩⟩ rfl rfl hl.1 rfl (lv_room (Nat.le_of_ble_eq_true rfl)) dX3_rank_1 ⟨Nat.zero_le _, Nat.zero_le _⟩) (fun r er => ?_)
  subst er
  refine lv_if_eq (tgt := 25) hx hb dX3_rank_4 (by decide) (fun c_1 => ?_) (fun c_1 => ?_)
  · refine lv_lload_n hx hb dX3_rank_25 rfl (lv_at hl 1 rfl) ?_
    exact W.lret (v := v1) hx hb hr (fun t ht _ => ⟨_, rfl, by unfold fn_X3_rank; rw [if_pos c_1], ht⟩) (fun _ h => by cases h) dX3_rank_26
  · refine lv_lload_n hx hb dX3_rank_7 rfl (lv_at hl 1 rfl) ?_
    refine lv_lconst (v := (0 : Int64)) hx hb dX3_rank_8 (by decide) ?_
    refine zl_ge (tgt := 25) hx hb dX3_rank_9 dX3_rank_10 (by decide) (fun c_2 => ?_) (fun c_2 => ?_)
    · refine lv_lload_n hx hb dX3_rank_25 rfl (lv_at hl 1 rfl) ?_
      exact W.lret (v := v1) hx hb hr (fun t ht _ => ⟨_, rfl, by unfold fn_X3_rank; rw [if_neg c_1, if_pos c_2], ht⟩) (fun _ h => by cases h) dX3_rank_26
    · refine lv_ldc2 (v := (-1 : Int64)) hx hb hown (hts (.constantLong RX3 41 (-1)) (by decide +kernel)) dX3_rank_13 ?_
      refine lv_iload_n hx hb dX3_rank_16 rfl (lv_at hl 0 rfl) ?_
      refine lv_lload_n hx hb dX3_rank_17 rfl (lv_at hl 1 rfl) ?_
      refine vp_callSl (W.runS (As := [.int v0, .long v1]) (rest := [.long (-1 : Int64)]) ⟨hx, hb, hml, hown, hts⟩ (ct_X3_size l v0 v1) (va_cwS 2 hts gX3_rank_X3_size rfl rfl rfl (by decide +kernel) ⟨Nat.le_of_ble_eq_true rfl, Nat.le_of_ble_eq_true rfl⟩) ⟨(fun a U g mk q => ⟨q.1, trivial⟩), fun U hU hW9 => ⟨rfl, trivial⟩⟩ rfl rfl hl.1 rfl (lv_room (Nat.le_of_ble_eq_true rfl)) dX3_rank_18 ⟨Nat.zero_le _, Nat.zero_le _⟩) (fun r er => ?_)
      subst er
      refine lv_lsub hx hb dX3_rank_21 ?_
      refine lv_goto (tgt := 26) hx hb dX3_rank_22 (by decide) ?_
      exact W.lret (v := (-1 : Int64) - (fn_X3_size v0 v1)) hx hb hr (fun t ht _ => ⟨_, rfl, by unfold fn_X3_rank; rw [if_neg c_1, if_neg c_2], ht⟩) (fun _ h => by cases h) dX3_rank_26
def fn_X3_isLess (v0 : Int32) (v1 : Int64) (v3 : Int64) : Int32 :=
  if (fn_X3_rank v0 v3) ≤ (fn_X3_rank v0 v1) then
    (0 : Int32)
  else
    (1 : Int32)
set_option maxHeartbeats 4000000 in
set_option maxRecDepth 100000 in
theorem ct_X3_isLess (l : Launch) (v0 : Int32) (v1 : Int64) (v3 : Int64) : Met l yX3_isLess wsX3_isLess ({ frames := 2, cells := 0, slots := 0, locals := 44 } : Room) (va_Pc [.int v0, .long v1, .long v3] (fun _ => True)) (vp_Si (fun r => r = fn_X3_isLess v0 v1 v3)) 0 0 (fun _ => False) := by
  refine Met.ofW (cc := cX3_isLess) (maxL := 5) (ret := (some .boolean)) (by decide) rfl ?_
  intro p e s m args below meth c s₁ B hml hv
  obtain ⟨rfl, hW⟩ := hv
  have hx := B.exec
  have hb := B.bytes
  have hr := B.returns
  have hlocks := B.notSynchronized
  have hts := atoms_spec (ws := wsX3_isLess) B.pre
  have hown : s.vm.findClass RX3 = some m.cls := findClass_of_methodNamed B.named
  have hS : va_S (fun _ => False) s.heap s.heap [] := va_S.rf
  have hl := lv_entry ([.int v0, .long v1, .long v3]) (n := 5) (Nat.le_of_ble_eq_true rfl)
  rw [lg_entry_eq]
  generalize (lg_sl ([.int v0, .long v1, .long v3]) ++ List.replicate (5 - (lg_sl ([.int v0, .long v1, .long v3])).length) Slot.unset).toArray = ls at hl ⊢
  have hl : lv_has ls 5 [(0, .int v0), (1, .long v1), (3, .long v3)] := hl
  refine lv_iload_n hx hb dX3_isLess_0 rfl (lv_at hl 0 rfl) ?_
  refine lv_lload_n hx hb dX3_isLess_1 rfl (lv_at hl 1 rfl) ?_
  refine vp_callSl (W.runS (As := [.int v0, .long v1]) (rest := []) ⟨hx, hb, hml, hown, hts⟩ (ct_X3_rank l v0 v1) (va_cwS 2 hts gX3_isLess_X3_rank rfl rfl rfl (by decide +kernel) ⟨Nat.le_of_ble_eq_true rfl, Nat.le_of_ble_eq_true rfl⟩) ⟨(fun a U g mk q => ⟨q.1, trivial⟩), fun U hU hW9 => ⟨rfl, trivial⟩⟩ rfl rfl hl.1 rfl (lv_room (Nat.le_of_ble_eq_true rfl)) dX3_isLess_2 ⟨Nat.zero_le _, Nat.zero_le _⟩) (fun r er => ?_)
  subst er
  refine lv_iload_n hx hb dX3_isLess_5 rfl (lv_at hl 0 rfl) ?_
  refine lv_lload_n hx hb dX3_isLess_6 rfl (lv_at hl 2 rfl) ?_
  refine vp_callSl (W.runS (As := [.int v0, .long v3]) (rest := [.long (fn_X3_rank v0 v1)]) ⟨hx, hb, hml, hown, hts⟩ (ct_X3_rank l v0 v3) (va_cwS 2 hts gX3_isLess_X3_rank rfl rfl rfl (by decide +kernel) ⟨Nat.le_of_ble_eq_true rfl, Nat.le_of_ble_eq_true rfl⟩) ⟨(fun a U g mk q => ⟨q.1, trivial⟩), fun U hU hW9 => ⟨rfl, trivial⟩⟩ rfl rfl hl.1 rfl (lv_room (Nat.le_of_ble_eq_true rfl)) dX3_isLess_7 ⟨Nat.zero_le _, Nat.zero_le _⟩) (fun r er => ?_)
  subst er
  refine zl_ge (tgt := 18) hx hb dX3_isLess_10 dX3_isLess_11 (by decide) (fun c_1 => ?_) (fun c_1 => ?_)
  · refine lv_iconst (v := (0 : Int32)) hx hb dX3_isLess_18 (by decide) ?_
    exact W.zret (v := (0 : Int32)) (ty := .boolean) hx hb hr (by decide) (fun t ht _ => ⟨_, rfl, by unfold fn_X3_isLess; rw [if_pos c_1], ht⟩) (fun _ h => by cases h) dX3_isLess_19
  · refine lv_iconst (v := (1 : Int32)) hx hb dX3_isLess_14 (by decide) ?_
    refine lv_goto (tgt := 19) hx hb dX3_isLess_15 (by decide) ?_
    exact W.zret (v := (1 : Int32)) (ty := .boolean) hx hb hr (by decide) (fun t ht _ => ⟨_, rfl, by unfold fn_X3_isLess; rw [if_neg c_1], ht⟩) (fun _ h => by cases h) dX3_isLess_19
def fn_X3_lesser (v0 : Int32) (v1 : Int64) (v3 : Int64) : Int64 :=
  if (fn_X3_isLess v0 v3 v1) = 0 then
    v1
  else
    v3
set_option maxHeartbeats 4000000 in
set_option maxRecDepth 100000 in
theorem ct_X3_lesser (l : Launch) (v0 : Int32) (v1 : Int64) (v3 : Int64) : Met l yX3_lesser wsX3_lesser ({ frames := 3, cells := 0, slots := 0, locals := 68 } : Room) (va_Pc [.int v0, .long v1, .long v3] (fun _ => True)) (vp_Sl (fun r => r = fn_X3_lesser v0 v1 v3)) 0 0 (fun _ => False) := by
  refine Met.ofW (cc := cX3_lesser) (maxL := 5) (ret := (some .long)) (by decide) rfl ?_
  intro p e s m args below meth c s₁ B hml hv
  obtain ⟨rfl, hW⟩ := hv
  have hx := B.exec
  have hb := B.bytes
  have hr := B.returns
  have hlocks := B.notSynchronized
  have hts := atoms_spec (ws := wsX3_lesser) B.pre
  have hown : s.vm.findClass RX3 = some m.cls := findClass_of_methodNamed B.named
  have hS : va_S (fun _ => False) s.heap s.heap [] := va_S.rf
  have hl := lv_entry ([.int v0, .long v1, .long v3]) (n := 5) (Nat.le_of_ble_eq_true rfl)
  rw [lg_entry_eq]
  generalize (lg_sl ([.int v0, .long v1, .long v3]) ++ List.replicate (5 - (lg_sl ([.int v0, .long v1, .long v3])).length) Slot.unset).toArray = ls at hl ⊢
  have hl : lv_has ls 5 [(0, .int v0), (1, .long v1), (3, .long v3)] := hl
  refine lv_iload_n hx hb dX3_lesser_0 rfl (lv_at hl 0 rfl) ?_
  refine lv_lload_n hx hb dX3_lesser_1 rfl (lv_at hl 2 rfl) ?_
  refine lv_lload_n hx hb dX3_lesser_2 rfl (lv_at hl 1 rfl) ?_
  refine vp_callSi (W.runS (As := [.int v0, .long v3, .long v1]) (rest := []) ⟨hx, hb, hml, hown, hts⟩ (ct_X3_isLess l v0 v3 v1) (va_cwS 3 hts gX3_lesser_X3_isLess rfl rfl rfl (by decide +kernel) ⟨Nat.le_of_ble_eq_true rfl, Nat.le_of_ble_eq_true rfl⟩) ⟨(fun a U g mk q => ⟨q.1, trivial⟩), fun U hU hW9 => ⟨rfl, trivial⟩⟩ rfl rfl hl.1 rfl (lv_room (Nat.le_of_ble_eq_true rfl)) dX3_lesser_3 ⟨Nat.zero_le _, Nat.zero_le _⟩) (fun r er => ?_)
  subst er
  refine lv_if_eq (tgt := 13) hx hb dX3_lesser_6 (by decide) (fun c_1 => ?_) (fun c_1 => ?_)
  · refine lv_lload_n hx hb dX3_lesser_13 rfl (lv_at hl 1 rfl) ?_
    exact W.lret (v := v1) hx hb hr (fun t ht _ => ⟨_, rfl, by unfold fn_X3_lesser; rw [if_pos c_1], ht⟩) (fun _ h => by cases h) dX3_lesser_14
  · refine lv_lload_n hx hb dX3_lesser_9 rfl (lv_at hl 2 rfl) ?_
    refine lv_goto (tgt := 14) hx hb dX3_lesser_10 (by decide) ?_
    exact W.lret (v := v3) hx hb hr (fun t ht _ => ⟨_, rfl, by unfold fn_X3_lesser; rw [if_neg c_1], ht⟩) (fun _ h => by cases h) dX3_lesser_14
def fn_X3_greater (v0 : Int32) (v1 : Int64) (v3 : Int64) : Int64 :=
  if (fn_X3_isLess v0 v1 v3) = 0 then
    v1
  else
    v3
set_option maxHeartbeats 4000000 in
set_option maxRecDepth 100000 in
theorem ct_X3_greater (l : Launch) (v0 : Int32) (v1 : Int64) (v3 : Int64) : Met l yX3_greater wsX3_greater ({ frames := 3, cells := 0, slots := 0, locals := 68 } : Room) (va_Pc [.int v0, .long v1, .long v3] (fun _ => True)) (vp_Sl (fun r => r = fn_X3_greater v0 v1 v3)) 0 0 (fun _ => False) := by
  refine Met.ofW (cc := cX3_greater) (maxL := 5) (ret := (some .long)) (by decide) rfl ?_
  intro p e s m args below meth c s₁ B hml hv
  obtain ⟨rfl, hW⟩ := hv
  have hx := B.exec
  have hb := B.bytes
  have hr := B.returns
  have hlocks := B.notSynchronized
  have hts := atoms_spec (ws := wsX3_greater) B.pre
  have hown : s.vm.findClass RX3 = some m.cls := findClass_of_methodNamed B.named
  have hS : va_S (fun _ => False) s.heap s.heap [] := va_S.rf
  have hl := lv_entry ([.int v0, .long v1, .long v3]) (n := 5) (Nat.le_of_ble_eq_true rfl)
  rw [lg_entry_eq]
  generalize (lg_sl ([.int v0, .long v1, .long v3]) ++ List.replicate (5 - (lg_sl ([.int v0, .long v1, .long v3])).length) Slot.unset).toArray = ls at hl ⊢
  have hl : lv_has ls 5 [(0, .int v0), (1, .long v1), (3, .long v3)] := hl
  refine lv_iload_n hx hb dX3_greater_0 rfl (lv_at hl 0 rfl) ?_
  refine lv_lload_n hx hb dX3_greater_1 rfl (lv_at hl 1 rfl) ?_
  refine lv_lload_n hx hb dX3_greater_2 rfl (lv_at hl 2 rfl) ?_
  refine vp_callSi (W.runS (As := [.int v0, .long v1, .long v3]) (rest := []) ⟨hx, hb, hml, hown, hts⟩ (ct_X3_isLess l v0 v1 v3) (va_cwS 3 hts gX3_greater_X3_isLess rfl rfl rfl (by decide +kernel) ⟨Nat.le_of_ble_eq_true rfl, Nat.le_of_ble_eq_true rfl⟩) ⟨(fun a U g mk q => ⟨q.1, trivial⟩), fun U hU hW9 => ⟨rfl, trivial⟩⟩ rfl rfl hl.1 rfl (lv_room (Nat.le_of_ble_eq_true rfl)) dX3_greater_3 ⟨Nat.zero_le _, Nat.zero_le _⟩) (fun r er => ?_)
  subst er
  refine lv_if_eq (tgt := 13) hx hb dX3_greater_6 (by decide) (fun c_1 => ?_) (fun c_1 => ?_)
  · refine lv_lload_n hx hb dX3_greater_13 rfl (lv_at hl 1 rfl) ?_
    exact W.lret (v := v1) hx hb hr (fun t ht _ => ⟨_, rfl, by unfold fn_X3_greater; rw [if_pos c_1], ht⟩) (fun _ h => by cases h) dX3_greater_14
  · refine lv_lload_n hx hb dX3_greater_9 rfl (lv_at hl 2 rfl) ?_
    refine lv_goto (tgt := 14) hx hb dX3_greater_10 (by decide) ?_
    exact W.lret (v := v3) hx hb hr (fun t ht _ => ⟨_, rfl, by unfold fn_X3_greater; rw [if_neg c_1], ht⟩) (fun _ h => by cases h) dX3_greater_14
def fn_X3_sized (v0 : Int32) (v1 : Int64) : Int64 :=
  if (fn_X3_isFloating v0) = 0 then
    if v1 < (0 : Int64) then
      if v0 = 0 then
        Int32.toInt64 (Int64.toInt32 (-v1))
      else
        -v1
    else
      v1
  else
    fn_X3_size v0 v1
set_option maxHeartbeats 4000000 in
set_option maxRecDepth 100000 in
theorem ct_X3_sized (l : Launch) (v0 : Int32) (v1 : Int64) : Met l yX3_sized wsX3_sized ({ frames := 1, cells := 0, slots := 0, locals := 22 } : Room) (va_Pc [.int v0, .long v1] (fun _ => True)) (vp_Sl (fun r => r = fn_X3_sized v0 v1)) 0 0 (fun _ => False) := by
  refine Met.ofW (cc := cX3_sized) (maxL := 3) (ret := (some .long)) (by decide) rfl ?_
  intro p e s m args below meth c s₁ B hml hv
  obtain ⟨rfl, hW⟩ := hv
  have hx := B.exec
  have hb := B.bytes
  have hr := B.returns
  have hlocks := B.notSynchronized
  have hts := atoms_spec (ws := wsX3_sized) B.pre
  have hown : s.vm.findClass RX3 = some m.cls := findClass_of_methodNamed B.named
  have hS : va_S (fun _ => False) s.heap s.heap [] := va_S.rf
  have hl := lv_entry ([.int v0, .long v1]) (n := 3) (Nat.le_of_ble_eq_true rfl)
  rw [lg_entry_eq]
  generalize (lg_sl ([.int v0, .long v1]) ++ List.replicate (3 - (lg_sl ([.int v0, .long v1])).length) Slot.unset).toArray = ls at hl ⊢
  have hl : lv_has ls 3 [(0, .int v0), (1, .long v1)] := hl
  refine lv_iload_n hx hb dX3_sized_0 rfl (lv_at hl 0 rfl) ?_
  refine vp_callSi (W.runS (As := [.int v0]) (rest := []) ⟨hx, hb, hml, hown, hts⟩ (ct_X3_isFloating l v0) (va_cwS 1 hts gX3_sized_X3_isFloating rfl rfl rfl (by decide +kernel) ⟨Nat.le_of_ble_eq_true rfl, Nat.le_of_ble_eq_true rfl⟩) ⟨(fun a U g mk q => ⟨q.1, trivial⟩), fun U hU hW9 => ⟨rfl, trivial⟩⟩ rfl rfl hl.1 rfl (lv_room (Nat.le_of_ble_eq_true rfl)) dX3_sized_1 ⟨Nat.zero_le _, Nat.zero_le _⟩) (fun r er => ?_)
  subst er
  refine lv_if_eq (tgt := 13) hx hb dX3_sized_4 (by decide) (fun c_1 => ?_) (fun c_1 => ?_)
  · refine lv_lload_n hx hb dX3_sized_13 rfl (lv_at hl 1 rfl) ?_
    refine lv_lconst (v := (0 : Int64)) hx hb dX3_sized_14 (by decide) ?_
    refine zl_lt (tgt := 23) hx hb dX3_sized_15 dX3_sized_16 (by decide) (fun c_2 => ?_) (fun c_2 => ?_)
    · refine lv_iload_n hx hb dX3_sized_23 rfl (lv_at hl 0 rfl) ?_
      refine lv_if_ne (tgt := 34) hx hb dX3_sized_24 (by decide) (fun c_3 => ?_) (fun c_3 => ?_)
      · refine lv_lload_n hx hb dX3_sized_34 rfl (lv_at hl 1 rfl) ?_
        refine lv_lneg hx hb dX3_sized_35 ?_
        exact W.lret (v := -v1) hx hb hr (fun t ht _ => ⟨_, rfl, by unfold fn_X3_sized; rw [if_pos c_1, if_pos c_2, if_neg c_3], ht⟩) (fun _ h => by cases h) dX3_sized_36
      · refine lv_lload_n hx hb dX3_sized_27 rfl (lv_at hl 1 rfl) ?_
        refine lv_lneg hx hb dX3_sized_28 ?_
        refine lv_l2i hx hb dX3_sized_29 rfl ?_
        refine lv_i2l hx hb dX3_sized_30 rfl ?_
        refine lv_goto (tgt := 36) hx hb dX3_sized_31 (by decide) ?_
        exact W.lret (v := Int32.toInt64 (Int64.toInt32 (-v1))) hx hb hr (fun t ht _ => ⟨_, rfl, by unfold fn_X3_sized; rw [if_pos c_1, if_pos c_2, if_pos c_3], ht⟩) (fun _ h => by cases h) dX3_sized_36
    · refine lv_lload_n hx hb dX3_sized_19 rfl (lv_at hl 1 rfl) ?_
      refine lv_goto (tgt := 36) hx hb dX3_sized_20 (by decide) ?_
      exact W.lret (v := v1) hx hb hr (fun t ht _ => ⟨_, rfl, by unfold fn_X3_sized; rw [if_pos c_1, if_neg c_2], ht⟩) (fun _ h => by cases h) dX3_sized_36
  · refine lv_iload_n hx hb dX3_sized_7 rfl (lv_at hl 0 rfl) ?_
    refine lv_lload_n hx hb dX3_sized_8 rfl (lv_at hl 1 rfl) ?_
    refine vp_callSl (W.runS (As := [.int v0, .long v1]) (rest := []) ⟨hx, hb, hml, hown, hts⟩ (ct_X3_size l v0 v1) (va_cwS 2 hts gX3_sized_X3_size rfl rfl rfl (by decide +kernel) ⟨Nat.le_of_ble_eq_true rfl, Nat.le_of_ble_eq_true rfl⟩) ⟨(fun a U g mk q => ⟨q.1, trivial⟩), fun U hU hW9 => ⟨rfl, trivial⟩⟩ rfl rfl hl.1 rfl (lv_room (Nat.le_of_ble_eq_true rfl)) dX3_sized_9 ⟨Nat.zero_le _, Nat.zero_le _⟩) (fun r er => ?_)
    subst er
    exact W.lret (v := fn_X3_size v0 v1) hx hb hr (fun t ht _ => ⟨_, rfl, by unfold fn_X3_sized; rw [if_neg c_1], ht⟩) (fun _ h => by cases h) dX3_sized_12
def fn_X3_wayOf (v0 : Int32) (v1 : Int64) : Int64 :=
  if (fn_X3_isFloating v0) = 0 then
    if v1 ≤ (0 : Int64) then
      if (0 : Int64) ≤ v1 then
        (0 : Int64)
      else
        (-1 : Int64)
    else
      (1 : Int64)
  else
    if (fn_X3_size v0 v1) = (0 : Int64) then
      v1
    else
      if (0 : Int64) ≤ v1 then
        fn_X3_signed v0 (fn_X3_one v0) (0 : Int32)
      else
        fn_X3_signed v0 (fn_X3_one v0) (1 : Int32)
set_option maxHeartbeats 4000000 in
set_option maxRecDepth 100000 in
theorem ct_X3_wayOf (l : Launch) (v0 : Int32) (v1 : Int64) : Met l yX3_wayOf wsX3_wayOf ({ frames := 1, cells := 0, slots := 0, locals := 23 } : Room) (va_Pc [.int v0, .long v1] (fun _ => True)) (vp_Sl (fun r => r = fn_X3_wayOf v0 v1)) 0 0 (fun _ => False) := by
  refine Met.ofW (cc := cX3_wayOf) (maxL := 3) (ret := (some .long)) (by decide) rfl ?_
  intro p e s m args below meth c s₁ B hml hv
  obtain ⟨rfl, hW⟩ := hv
  have hx := B.exec
  have hb := B.bytes
  have hr := B.returns
  have hlocks := B.notSynchronized
  have hts := atoms_spec (ws := wsX3_wayOf) B.pre
  have hown : s.vm.findClass RX3 = some m.cls := findClass_of_methodNamed B.named
  have hS : va_S (fun _ => False) s.heap s.heap [] := va_S.rf
  have hl := lv_entry ([.int v0, .long v1]) (n := 3) (Nat.le_of_ble_eq_true rfl)
  rw [lg_entry_eq]
  generalize (lg_sl ([.int v0, .long v1]) ++ List.replicate (3 - (lg_sl ([.int v0, .long v1])).length) Slot.unset).toArray = ls at hl ⊢
  have hl : lv_has ls 3 [(0, .int v0), (1, .long v1)] := hl
  refine lv_iload_n hx hb dX3_wayOf_0 rfl (lv_at hl 0 rfl) ?_
  refine vp_callSi (W.runS (As := [.int v0]) (rest := []) ⟨hx, hb, hml, hown, hts⟩ (ct_X3_isFloating l v0) (va_cwS 1 hts gX3_wayOf_X3_isFloating rfl rfl rfl (by decide +kernel) ⟨Nat.le_of_ble_eq_true rfl, Nat.le_of_ble_eq_true rfl⟩) ⟨(fun a U g mk q => ⟨q.1, trivial⟩), fun U hU hW9 => ⟨rfl, trivial⟩⟩ rfl rfl hl.1 rfl (lv_room (Nat.le_of_ble_eq_true rfl)) dX3_wayOf_1 ⟨Nat.zero_le _, Nat.zero_le _⟩) (fun r er => ?_)
  subst er
  refine lv_if_ne (tgt := 31) hx hb dX3_wayOf_4 (by decide) (fun c_1 => ?_) (fun c_1 => ?_)
  · refine lv_iload_n hx hb dX3_wayOf_31 rfl (lv_at hl 0 rfl) ?_
    refine lv_lload_n hx hb dX3_wayOf_32 rfl (lv_at hl 1 rfl) ?_
    refine vp_callSl (W.runS (As := [.int v0, .long v1]) (rest := []) ⟨hx, hb, hml, hown, hts⟩ (ct_X3_size l v0 v1) (va_cwS 2 hts gX3_wayOf_X3_size rfl rfl rfl (by decide +kernel) ⟨Nat.le_of_ble_eq_true rfl, Nat.le_of_ble_eq_true rfl⟩) ⟨(fun a U g mk q => ⟨q.1, trivial⟩), fun U hU hW9 => ⟨rfl, trivial⟩⟩ rfl rfl hl.1 rfl (lv_room (Nat.le_of_ble_eq_true rfl)) dX3_wayOf_33 ⟨Nat.zero_le _, Nat.zero_le _⟩) (fun r er => ?_)
    subst er
    refine lv_lconst (v := (0 : Int64)) hx hb dX3_wayOf_36 (by decide) ?_
    refine zl_ne (tgt := 45) hx hb dX3_wayOf_37 dX3_wayOf_38 (by decide) (fun c_2 => ?_) (fun c_2 => ?_)
    · refine lv_iload_n hx hb dX3_wayOf_45 rfl (lv_at hl 0 rfl) ?_
      refine lv_iload_n hx hb dX3_wayOf_46 rfl (lv_at hl 0 rfl) ?_
      refine vp_callSl (W.runS (As := [.int v0]) (rest := [.int v0]) ⟨hx, hb, hml, hown, hts⟩ (ct_X3_one l v0) (va_cwS 1 hts gX3_wayOf_X3_one rfl rfl rfl (by decide +kernel) ⟨Nat.le_of_ble_eq_true rfl, Nat.le_of_ble_eq_true rfl⟩) ⟨(fun a U g mk q => ⟨q.1, trivial⟩), fun U hU hW9 => ⟨rfl, trivial⟩⟩ rfl rfl hl.1 rfl (lv_room (Nat.le_of_ble_eq_true rfl)) dX3_wayOf_47 ⟨Nat.zero_le _, Nat.zero_le _⟩) (fun r er => ?_)
      subst er
      refine lv_lload_n hx hb dX3_wayOf_50 rfl (lv_at hl 1 rfl) ?_
      refine lv_lconst (v := (0 : Int64)) hx hb dX3_wayOf_51 (by decide) ?_
      refine zl_ge (tgt := 60) hx hb dX3_wayOf_52 dX3_wayOf_53 (by decide) (fun c_3 => ?_) (fun c_3 => ?_)
      · refine lv_iconst (v := (0 : Int32)) hx hb dX3_wayOf_60 (by decide) ?_
        refine vp_callSl (W.runS (As := [.int v0, .long (fn_X3_one v0), .int (0 : Int32)]) (rest := []) ⟨hx, hb, hml, hown, hts⟩ (ct_X3_signed l v0 (fn_X3_one v0) (0 : Int32)) (va_cwS 3 hts gX3_wayOf_X3_signed rfl rfl rfl (by decide +kernel) ⟨Nat.le_of_ble_eq_true rfl, Nat.le_of_ble_eq_true rfl⟩) ⟨(fun a U g mk q => ⟨q.1, trivial⟩), fun U hU hW9 => ⟨rfl, trivial⟩⟩ rfl rfl hl.1 rfl (lv_room (Nat.le_of_ble_eq_true rfl)) dX3_wayOf_61 ⟨Nat.zero_le _, Nat.zero_le _⟩) (fun r er => ?_)
        subst er
        exact W.lret (v := fn_X3_signed v0 (fn_X3_one v0) (0 : Int32)) hx hb hr (fun t ht _ => ⟨_, rfl, by unfold fn_X3_wayOf; rw [if_neg c_1, if_neg c_2, if_pos c_3], ht⟩) (fun _ h => by cases h) dX3_wayOf_64
      · refine lv_iconst (v := (1 : Int32)) hx hb dX3_wayOf_56 (by decide) ?_
        refine lv_goto (tgt := 61) hx hb dX3_wayOf_57 (by decide) ?_
        refine vp_callSl (W.runS (As := [.int v0, .long (fn_X3_one v0), .int (1 : Int32)]) (rest := []) ⟨hx, hb, hml, hown, hts⟩ (ct_X3_signed l v0 (fn_X3_one v0) (1 : Int32)) (va_cwS 3 hts gX3_wayOf_X3_signed rfl rfl rfl (by decide +kernel) ⟨Nat.le_of_ble_eq_true rfl, Nat.le_of_ble_eq_true rfl⟩) ⟨(fun a U g mk q => ⟨q.1, trivial⟩), fun U hU hW9 => ⟨rfl, trivial⟩⟩ rfl rfl hl.1 rfl (lv_room (Nat.le_of_ble_eq_true rfl)) dX3_wayOf_61 ⟨Nat.zero_le _, Nat.zero_le _⟩) (fun r er => ?_)
        subst er
        exact W.lret (v := fn_X3_signed v0 (fn_X3_one v0) (1 : Int32)) hx hb hr (fun t ht _ => ⟨_, rfl, by unfold fn_X3_wayOf; rw [if_neg c_1, if_neg c_2, if_neg c_3], ht⟩) (fun _ h => by cases h) dX3_wayOf_64
    · refine lv_lload_n hx hb dX3_wayOf_41 rfl (lv_at hl 1 rfl) ?_
      refine lv_goto (tgt := 64) hx hb dX3_wayOf_42 (by decide) ?_
      exact W.lret (v := v1) hx hb hr (fun t ht _ => ⟨_, rfl, by unfold fn_X3_wayOf; rw [if_neg c_1, if_pos c_2], ht⟩) (fun _ h => by cases h) dX3_wayOf_64
  · refine lv_lload_n hx hb dX3_wayOf_7 rfl (lv_at hl 1 rfl) ?_
    refine lv_lconst (v := (0 : Int64)) hx hb dX3_wayOf_8 (by decide) ?_
    refine zl_le (tgt := 17) hx hb dX3_wayOf_9 dX3_wayOf_10 (by decide) (fun c_4 => ?_) (fun c_4 => ?_)
    · refine lv_lload_n hx hb dX3_wayOf_17 rfl (lv_at hl 1 rfl) ?_
      refine lv_lconst (v := (0 : Int64)) hx hb dX3_wayOf_18 (by decide) ?_
      refine zl_ge (tgt := 29) hx hb dX3_wayOf_19 dX3_wayOf_20 (by decide) (fun c_5 => ?_) (fun c_5 => ?_)
      · refine lv_lconst (v := (0 : Int64)) hx hb dX3_wayOf_29 (by decide) ?_
        exact W.lret (v := (0 : Int64)) hx hb hr (fun t ht _ => ⟨_, rfl, by unfold fn_X3_wayOf; rw [if_pos c_1, if_pos c_4, if_pos c_5], ht⟩) (fun _ h => by cases h) dX3_wayOf_30
      · refine lv_ldc2 (v := (-1 : Int64)) hx hb hown (hts (.constantLong RX3 41 (-1)) (by decide +kernel)) dX3_wayOf_23 ?_
        refine lv_goto (tgt := 30) hx hb dX3_wayOf_26 (by decide) ?_
        exact W.lret (v := (-1 : Int64)) hx hb hr (fun t ht _ => ⟨_, rfl, by unfold fn_X3_wayOf; rw [if_pos c_1, if_pos c_4, if_neg c_5], ht⟩) (fun _ h => by cases h) dX3_wayOf_30
    · refine lv_lconst (v := (1 : Int64)) hx hb dX3_wayOf_13 (by decide) ?_
      refine lv_goto (tgt := 30) hx hb dX3_wayOf_14 (by decide) ?_
      exact W.lret (v := (1 : Int64)) hx hb hr (fun t ht _ => ⟨_, rfl, by unfold fn_X3_wayOf; rw [if_pos c_1, if_neg c_4], ht⟩) (fun _ h => by cases h) dX3_wayOf_30
def fn_X3_turned (v0 : Int32) (v1 : Int64) (v3 : Int64) : Int64 :=
  if (fn_X3_isFloating v0) = 0 then
    if v3 < (0 : Int64) then
      if v0 = 0 then
        Int32.toInt64 (Int64.toInt32 (-(fn_X3_sized v0 v1)))
      else
        -(fn_X3_sized v0 v1)
    else
      fn_X3_sized v0 v1
  else
    if (0 : Int64) ≤ v3 then
      fn_X3_signed v0 (fn_X3_size v0 v1) (0 : Int32)
    else
      fn_X3_signed v0 (fn_X3_size v0 v1) (1 : Int32)
set_option maxHeartbeats 4000000 in
set_option maxRecDepth 100000 in
theorem ct_X3_turned (l : Launch) (v0 : Int32) (v1 : Int64) (v3 : Int64) : Met l yX3_turned wsX3_turned ({ frames := 2, cells := 0, slots := 0, locals := 44 } : Room) (va_Pc [.int v0, .long v1, .long v3] (fun _ => True)) (vp_Sl (fun r => r = fn_X3_turned v0 v1 v3)) 0 0 (fun _ => False) := by
  refine Met.ofW (cc := cX3_turned) (maxL := 7) (ret := (some .long)) (by decide) rfl ?_
  intro p e s m args below meth c s₁ B hml hv
  obtain ⟨rfl, hW⟩ := hv
  have hx := B.exec
  have hb := B.bytes
  have hr := B.returns
  have hlocks := B.notSynchronized
  have hts := atoms_spec (ws := wsX3_turned) B.pre
  have hown : s.vm.findClass RX3 = some m.cls := findClass_of_methodNamed B.named
  have hS : va_S (fun _ => False) s.heap s.heap [] := va_S.rf
  have hl := lv_entry ([.int v0, .long v1, .long v3]) (n := 7) (Nat.le_of_ble_eq_true rfl)
  rw [lg_entry_eq]
  generalize (lg_sl ([.int v0, .long v1, .long v3]) ++ List.replicate (7 - (lg_sl ([.int v0, .long v1, .long v3])).length) Slot.unset).toArray = ls at hl ⊢
  have hl : lv_has ls 7 [(0, .int v0), (1, .long v1), (3, .long v3)] := hl
  refine lv_iload_n hx hb dX3_turned_0 rfl (lv_at hl 0 rfl) ?_
  refine vp_callSi (W.runS (As := [.int v0]) (rest := []) ⟨hx, hb, hml, hown, hts⟩ (ct_X3_isFloating l v0) (va_cwS 1 hts gX3_turned_X3_isFloating rfl rfl rfl (by decide +kernel) ⟨Nat.le_of_ble_eq_true rfl, Nat.le_of_ble_eq_true rfl⟩) ⟨(fun a U g mk q => ⟨q.1, trivial⟩), fun U hU hW9 => ⟨rfl, trivial⟩⟩ rfl rfl hl.1 rfl (lv_room (Nat.le_of_ble_eq_true rfl)) dX3_turned_1 ⟨Nat.zero_le _, Nat.zero_le _⟩) (fun r er => ?_)
  subst er
  refine lv_if_eq (tgt := 28) hx hb dX3_turned_4 (by decide) (fun c_1 => ?_) (fun c_1 => ?_)
  · refine lv_iload_n hx hb dX3_turned_28 rfl (lv_at hl 0 rfl) ?_
    refine lv_lload_n hx hb dX3_turned_29 rfl (lv_at hl 1 rfl) ?_
    refine vp_callSl (W.runS (As := [.int v0, .long v1]) (rest := []) ⟨hx, hb, hml, hown, hts⟩ (ct_X3_sized l v0 v1) (va_cwS 2 hts gX3_turned_X3_sized rfl rfl rfl (by decide +kernel) ⟨Nat.le_of_ble_eq_true rfl, Nat.le_of_ble_eq_true rfl⟩) ⟨(fun a U g mk q => ⟨q.1, trivial⟩), fun U hU hW9 => ⟨rfl, trivial⟩⟩ rfl rfl hl.1 rfl (lv_room (Nat.le_of_ble_eq_true rfl)) dX3_turned_30 ⟨Nat.zero_le _, Nat.zero_le _⟩) (fun r er => ?_)
    subst er
    refine lv_lstore (lv' := [(5, .long (fn_X3_sized v0 v1)), (0, .int v0), (1, .long v1), (3, .long v3)]) hx hb dX3_turned_33 hl (by decide) rfl (fun ls hl => ?_)
    refine lv_lload_n hx hb dX3_turned_35 rfl (lv_at hl 3 rfl) ?_
    refine lv_lconst (v := (0 : Int64)) hx hb dX3_turned_36 (by decide) ?_
    refine zl_lt (tgt := 46) hx hb dX3_turned_37 dX3_turned_38 (by decide) (fun c_2 => ?_) (fun c_2 => ?_)
    · refine lv_iload_n hx hb dX3_turned_46 rfl (lv_at hl 1 rfl) ?_
      refine lv_if_ne (tgt := 58) hx hb dX3_turned_47 (by decide) (fun c_3 => ?_) (fun c_3 => ?_)
      · refine lv_lload hx hb dX3_turned_58 (lv_at hl 0 rfl) ?_
        refine lv_lneg hx hb dX3_turned_60 ?_
        exact W.lret (v := -(fn_X3_sized v0 v1)) hx hb hr (fun t ht _ => ⟨_, rfl, by unfold fn_X3_turned; rw [if_pos c_1, if_pos c_2, if_neg c_3], ht⟩) (fun _ h => by cases h) dX3_turned_61
      · refine lv_lload hx hb dX3_turned_50 (lv_at hl 0 rfl) ?_
        refine lv_lneg hx hb dX3_turned_52 ?_
        refine lv_l2i hx hb dX3_turned_53 rfl ?_
        refine lv_i2l hx hb dX3_turned_54 rfl ?_
        refine lv_goto (tgt := 61) hx hb dX3_turned_55 (by decide) ?_
        exact W.lret (v := Int32.toInt64 (Int64.toInt32 (-(fn_X3_sized v0 v1)))) hx hb hr (fun t ht _ => ⟨_, rfl, by unfold fn_X3_turned; rw [if_pos c_1, if_pos c_2, if_pos c_3], ht⟩) (fun _ h => by cases h) dX3_turned_61
    · refine lv_lload hx hb dX3_turned_41 (lv_at hl 0 rfl) ?_
      refine lv_goto (tgt := 61) hx hb dX3_turned_43 (by decide) ?_
      exact W.lret (v := fn_X3_sized v0 v1) hx hb hr (fun t ht _ => ⟨_, rfl, by unfold fn_X3_turned; rw [if_pos c_1, if_neg c_2], ht⟩) (fun _ h => by cases h) dX3_turned_61
  · refine lv_iload_n hx hb dX3_turned_7 rfl (lv_at hl 0 rfl) ?_
    refine lv_iload_n hx hb dX3_turned_8 rfl (lv_at hl 0 rfl) ?_
    refine lv_lload_n hx hb dX3_turned_9 rfl (lv_at hl 1 rfl) ?_
    refine vp_callSl (W.runS (As := [.int v0, .long v1]) (rest := [.int v0]) ⟨hx, hb, hml, hown, hts⟩ (ct_X3_size l v0 v1) (va_cwS 2 hts gX3_turned_X3_size rfl rfl rfl (by decide +kernel) ⟨Nat.le_of_ble_eq_true rfl, Nat.le_of_ble_eq_true rfl⟩) ⟨(fun a U g mk q => ⟨q.1, trivial⟩), fun U hU hW9 => ⟨rfl, trivial⟩⟩ rfl rfl hl.1 rfl (lv_room (Nat.le_of_ble_eq_true rfl)) dX3_turned_10 ⟨Nat.zero_le _, Nat.zero_le _⟩) (fun r er => ?_)
    subst er
    refine lv_lload_n hx hb dX3_turned_13 rfl (lv_at hl 2 rfl) ?_
    refine lv_lconst (v := (0 : Int64)) hx hb dX3_turned_14 (by decide) ?_
    refine zl_ge (tgt := 23) hx hb dX3_turned_15 dX3_turned_16 (by decide) (fun c_4 => ?_) (fun c_4 => ?_)
    · refine lv_iconst (v := (0 : Int32)) hx hb dX3_turned_23 (by decide) ?_
      refine vp_callSl (W.runS (As := [.int v0, .long (fn_X3_size v0 v1), .int (0 : Int32)]) (rest := []) ⟨hx, hb, hml, hown, hts⟩ (ct_X3_signed l v0 (fn_X3_size v0 v1) (0 : Int32)) (va_cwS 3 hts gX3_turned_X3_signed rfl rfl rfl (by decide +kernel) ⟨Nat.le_of_ble_eq_true rfl, Nat.le_of_ble_eq_true rfl⟩) ⟨(fun a U g mk q => ⟨q.1, trivial⟩), fun U hU hW9 => ⟨rfl, trivial⟩⟩ rfl rfl hl.1 rfl (lv_room (Nat.le_of_ble_eq_true rfl)) dX3_turned_24 ⟨Nat.zero_le _, Nat.zero_le _⟩) (fun r er => ?_)
      subst er
      exact W.lret (v := fn_X3_signed v0 (fn_X3_size v0 v1) (0 : Int32)) hx hb hr (fun t ht _ => ⟨_, rfl, by unfold fn_X3_turned; rw [if_neg c_1, if_pos c_4], ht⟩) (fun _ h => by cases h) dX3_turned_27
    · refine lv_iconst (v := (1 : Int32)) hx hb dX3_turned_19 (by decide) ?_
      refine lv_goto (tgt := 24) hx hb dX3_turned_20 (by decide) ?_
      refine vp_callSl (W.runS (As := [.int v0, .long (fn_X3_size v0 v1), .int (1 : Int32)]) (rest := []) ⟨hx, hb, hml, hown, hts⟩ (ct_X3_signed l v0 (fn_X3_size v0 v1) (1 : Int32)) (va_cwS 3 hts gX3_turned_X3_signed rfl rfl rfl (by decide +kernel) ⟨Nat.le_of_ble_eq_true rfl, Nat.le_of_ble_eq_true rfl⟩) ⟨(fun a U g mk q => ⟨q.1, trivial⟩), fun U hU hW9 => ⟨rfl, trivial⟩⟩ rfl rfl hl.1 rfl (lv_room (Nat.le_of_ble_eq_true rfl)) dX3_turned_24 ⟨Nat.zero_le _, Nat.zero_le _⟩) (fun r er => ?_)
      subst er
      exact W.lret (v := fn_X3_signed v0 (fn_X3_size v0 v1) (1 : Int32)) hx hb hr (fun t ht _ => ⟨_, rfl, by unfold fn_X3_turned; rw [if_neg c_1, if_neg c_4], ht⟩) (fun _ h => by cases h) dX3_turned_27
end
section
def fn_X3_cut_144 (x2 : Int64) (x12 : Int64) : Int64 :=
  if (0 : Int64) ≤ x2 then
    x12
  else
    -x12
set_option maxHeartbeats 4000000 in
set_option maxRecDepth 100000 in
theorem sg_X3_cut_144 {p : Program} {l : Launch} {e : Env} {s : State} {m : MethodId} {args : Array Value} {below : List Frame} {meth : Method} {c : Code} {ls : Array Slot} {g : Int64} (hx : p.tables.exec = Jvm.exec) (hb : c.code = cX3_cut) (hr : meth.sig.returnType = (some .long)) (hml : c.maxLocals = 14) (hts : ∀ w ∈ wsX3_cut, w.before args s = true) (hown : s.vm.findClass RX3 = some m.cls) (hlocks : meth.locks = false) (x2 : Int64) (x12 : Int64) (hg : g = fn_X3_cut_144 x2 x12) (hl : lv_has ls 14 [(2, .long x2), (12, .long x12)]) : W p l e ({ frames := 1, cells := 0, slots := 0, locals := 22 } : Room) s m args below meth c s.heap [] 0 0 (MQ below (vp_Sl (fun r => r = g)) args s 0 0 (fun _ => False)) (F0 m 144 ls []) := by
  have hS : va_S (fun _ => False) s.heap s.heap [] := va_S.rf
  refine lv_lload_n hx hb dX3_cut_144 rfl (lv_at hl 0 rfl) ?_
  refine lv_lconst (v := (0 : Int64)) hx hb dX3_cut_145 (by decide) ?_
  refine zl_ge (tgt := 156) hx hb dX3_cut_146 dX3_cut_147 (by decide) (fun c_1 => ?_) (fun c_1 => ?_)
  · refine lv_lload hx hb dX3_cut_156 (lv_at hl 1 rfl) ?_
    exact W.lret (v := x12) hx hb hr (fun t ht _ => ⟨_, rfl, by rw [hg]; unfold fn_X3_cut_144; rw [if_pos c_1], ht⟩) (fun _ h => by cases h) dX3_cut_158
  · refine lv_lload hx hb dX3_cut_150 (lv_at hl 1 rfl) ?_
    refine lv_lneg hx hb dX3_cut_152 ?_
    refine lv_goto (tgt := 158) hx hb dX3_cut_153 (by decide) ?_
    exact W.lret (v := -x12) hx hb hr (fun t ht _ => ⟨_, rfl, by rw [hg]; unfold fn_X3_cut_144; rw [if_neg c_1], ht⟩) (fun _ h => by cases h) dX3_cut_158
def fn_X3_cut_59 (x0 : Int32) (x2 : Int64) (x4 : Int32) (x6 : Int64) (x8 : Int32) (x9 : Int32) : Int64 :=
  if x8 < x9 then
    if x8 < x4 then
      fn_X3_cut_144 x2 ((Int64.toUInt64 ((x6 &&& (((1 : Int64) <<< (Int32.toInt64 x4 &&& 63)) - (1 : Int64))) ||| ((1 : Int64) <<< (Int32.toInt64 x4 &&& 63))) >>> (Int64.toUInt64 (Int32.toInt64 (x4 - x8)) &&& Int64.toUInt64 63)).toInt64)
    else
      fn_X3_cut_144 x2 (((x6 &&& (((1 : Int64) <<< (Int32.toInt64 x4 &&& 63)) - (1 : Int64))) ||| ((1 : Int64) <<< (Int32.toInt64 x4 &&& 63))) <<< (Int32.toInt64 (x8 - x4) &&& 63))
  else
    if (0 : Int64) ≤ x2 then
      if x0 = 0 then
        (2147483647 : Int64)
      else
        (9223372036854775807 : Int64)
    else
      if x0 = 0 then
        (-2147483648 : Int64)
      else
        (-9223372036854775808 : Int64)
set_option maxHeartbeats 4000000 in
set_option maxRecDepth 100000 in
theorem sg_X3_cut_59 {p : Program} {l : Launch} {e : Env} {s : State} {m : MethodId} {args : Array Value} {below : List Frame} {meth : Method} {c : Code} {ls : Array Slot} {g : Int64} (hx : p.tables.exec = Jvm.exec) (hb : c.code = cX3_cut) (hr : meth.sig.returnType = (some .long)) (hml : c.maxLocals = 14) (hts : ∀ w ∈ wsX3_cut, w.before args s = true) (hown : s.vm.findClass RX3 = some m.cls) (hlocks : meth.locks = false) (x0 : Int32) (x2 : Int64) (x4 : Int32) (x6 : Int64) (x8 : Int32) (x9 : Int32) (hg : g = fn_X3_cut_59 x0 x2 x4 x6 x8 x9) (hl : lv_has ls 14 [(0, .int x0), (2, .long x2), (4, .int x4), (6, .long x6), (8, .int x8), (9, .int x9)]) : W p l e ({ frames := 1, cells := 0, slots := 0, locals := 22 } : Room) s m args below meth c s.heap [] 0 0 (MQ below (vp_Sl (fun r => r = g)) args s 0 0 (fun _ => False)) (F0 m 59 ls []) := by
  have hS : va_S (fun _ => False) s.heap s.heap [] := va_S.rf
  refine lv_iload hx hb dX3_cut_59 (lv_at hl 4 rfl) ?_
  refine lv_iload hx hb dX3_cut_61 (lv_at hl 5 rfl) ?_
  refine lv_icmp_lt (tgt := 100) hx hb dX3_cut_63 (by decide) (fun c_1 => ?_) (fun c_1 => ?_)
  · refine lv_lload hx hb dX3_cut_100 (lv_at hl 3 rfl) ?_
    refine lv_lconst (v := (1 : Int64)) hx hb dX3_cut_102 (by decide) ?_
    refine lv_iload hx hb dX3_cut_103 (lv_at hl 2 rfl) ?_
    refine lv_lshl hx hb dX3_cut_105 rfl ?_
    refine lv_lconst (v := (1 : Int64)) hx hb dX3_cut_106 (by decide) ?_
    refine lv_lsub hx hb dX3_cut_107 ?_
    refine lv_land hx hb dX3_cut_108 ?_
    refine lv_lconst (v := (1 : Int64)) hx hb dX3_cut_109 (by decide) ?_
    refine lv_iload hx hb dX3_cut_110 (lv_at hl 2 rfl) ?_
    refine lv_lshl hx hb dX3_cut_112 rfl ?_
    refine lv_lor hx hb dX3_cut_113 ?_
    refine lv_lstore (lv' := [(10, .long ((x6 &&& (((1 : Int64) <<< (Int32.toInt64 x4 &&& 63)) - (1 : Int64))) ||| ((1 : Int64) <<< (Int32.toInt64 x4 &&& 63)))), (0, .int x0), (2, .long x2), (4, .int x4), (6, .long x6), (8, .int x8), (9, .int x9)]) hx hb dX3_cut_114 hl (by decide) rfl (fun ls hl => ?_)
    refine lv_iload hx hb dX3_cut_116 (lv_at hl 5 rfl) ?_
    refine lv_iload hx hb dX3_cut_118 (lv_at hl 3 rfl) ?_
    refine lv_icmp_lt (tgt := 134) hx hb dX3_cut_120 (by decide) (fun c_2 => ?_) (fun c_2 => ?_)
    · refine lv_lload hx hb dX3_cut_134 (lv_at hl 0 rfl) ?_
      refine lv_iload hx hb dX3_cut_136 (lv_at hl 3 rfl) ?_
      refine lv_iload hx hb dX3_cut_138 (lv_at hl 5 rfl) ?_
      refine lv_isub hx hb dX3_cut_140 ?_
      refine lv_lushr hx hb dX3_cut_141 rfl ?_
      refine lv_lstore (lv' := [(12, .long ((Int64.toUInt64 ((x6 &&& (((1 : Int64) <<< (Int32.toInt64 x4 &&& 63)) - (1 : Int64))) ||| ((1 : Int64) <<< (Int32.toInt64 x4 &&& 63))) >>> (Int64.toUInt64 (Int32.toInt64 (x4 - x8)) &&& Int64.toUInt64 63)).toInt64)), (10, .long ((x6 &&& (((1 : Int64) <<< (Int32.toInt64 x4 &&& 63)) - (1 : Int64))) ||| ((1 : Int64) <<< (Int32.toInt64 x4 &&& 63)))), (0, .int x0), (2, .long x2), (4, .int x4), (6, .long x6), (8, .int x8), (9, .int x9)]) hx hb dX3_cut_142 hl (by decide) rfl (fun ls hl => ?_)
      exact sg_X3_cut_144 hx hb hr hml hts hown hlocks x2 ((Int64.toUInt64 ((x6 &&& (((1 : Int64) <<< (Int32.toInt64 x4 &&& 63)) - (1 : Int64))) ||| ((1 : Int64) <<< (Int32.toInt64 x4 &&& 63))) >>> (Int64.toUInt64 (Int32.toInt64 (x4 - x8)) &&& Int64.toUInt64 63)).toInt64) (by rw [hg]; unfold fn_X3_cut_59; rw [if_pos c_1, if_pos c_2])  (lv_sub hl [3, 0] rfl)
    · refine lv_lload hx hb dX3_cut_123 (lv_at hl 0 rfl) ?_
      refine lv_iload hx hb dX3_cut_125 (lv_at hl 5 rfl) ?_
      refine lv_iload hx hb dX3_cut_127 (lv_at hl 3 rfl) ?_
      refine lv_isub hx hb dX3_cut_129 ?_
      refine lv_lshl hx hb dX3_cut_130 rfl ?_
      refine lv_goto (tgt := 142) hx hb dX3_cut_131 (by decide) ?_
      refine lv_lstore (lv' := [(12, .long (((x6 &&& (((1 : Int64) <<< (Int32.toInt64 x4 &&& 63)) - (1 : Int64))) ||| ((1 : Int64) <<< (Int32.toInt64 x4 &&& 63))) <<< (Int32.toInt64 (x8 - x4) &&& 63))), (10, .long ((x6 &&& (((1 : Int64) <<< (Int32.toInt64 x4 &&& 63)) - (1 : Int64))) ||| ((1 : Int64) <<< (Int32.toInt64 x4 &&& 63)))), (0, .int x0), (2, .long x2), (4, .int x4), (6, .long x6), (8, .int x8), (9, .int x9)]) hx hb dX3_cut_142 hl (by decide) rfl (fun ls hl => ?_)
      exact sg_X3_cut_144 hx hb hr hml hts hown hlocks x2 (((x6 &&& (((1 : Int64) <<< (Int32.toInt64 x4 &&& 63)) - (1 : Int64))) ||| ((1 : Int64) <<< (Int32.toInt64 x4 &&& 63))) <<< (Int32.toInt64 (x8 - x4) &&& 63)) (by rw [hg]; unfold fn_X3_cut_59; rw [if_pos c_1, if_neg c_2])  (lv_sub hl [3, 0] rfl)
  · refine lv_lload_n hx hb dX3_cut_66 rfl (lv_at hl 1 rfl) ?_
    refine lv_lconst (v := (0 : Int64)) hx hb dX3_cut_67 (by decide) ?_
    refine zl_ge (tgt := 86) hx hb dX3_cut_68 dX3_cut_69 (by decide) (fun c_3 => ?_) (fun c_3 => ?_)
    · refine lv_iload_n hx hb dX3_cut_86 rfl (lv_at hl 0 rfl) ?_
      refine lv_if_ne (tgt := 96) hx hb dX3_cut_87 (by decide) (fun c_4 => ?_) (fun c_4 => ?_)
      · refine lv_ldc2 (v := (9223372036854775807 : Int64)) hx hb hown (hts (.constantLong RX3 27 (9223372036854775807)) (by decide +kernel)) dX3_cut_96 ?_
        exact W.lret (v := (9223372036854775807 : Int64)) hx hb hr (fun t ht _ => ⟨_, rfl, by rw [hg]; unfold fn_X3_cut_59; rw [if_neg c_1, if_pos c_3, if_neg c_4], ht⟩) (fun _ h => by cases h) dX3_cut_99
      · refine lv_ldc2 (v := (2147483647 : Int64)) hx hb hown (hts (.constantLong RX3 25 (2147483647)) (by decide +kernel)) dX3_cut_90 ?_
        refine lv_goto (tgt := 99) hx hb dX3_cut_93 (by decide) ?_
        exact W.lret (v := (2147483647 : Int64)) hx hb hr (fun t ht _ => ⟨_, rfl, by rw [hg]; unfold fn_X3_cut_59; rw [if_neg c_1, if_pos c_3, if_pos c_4], ht⟩) (fun _ h => by cases h) dX3_cut_99
    · refine lv_iload_n hx hb dX3_cut_72 rfl (lv_at hl 0 rfl) ?_
      refine lv_if_ne (tgt := 82) hx hb dX3_cut_73 (by decide) (fun c_5 => ?_) (fun c_5 => ?_)
      · refine lv_ldc2 (v := (-9223372036854775808 : Int64)) hx hb hown (hts (.constantLong RX3 31 (-9223372036854775808)) (by decide +kernel)) dX3_cut_82 ?_
        exact W.lret (v := (-9223372036854775808 : Int64)) hx hb hr (fun t ht _ => ⟨_, rfl, by rw [hg]; unfold fn_X3_cut_59; rw [if_neg c_1, if_neg c_3, if_neg c_5], ht⟩) (fun _ h => by cases h) dX3_cut_85
      · refine lv_ldc2 (v := (-2147483648 : Int64)) hx hb hown (hts (.constantLong RX3 71 (-2147483648)) (by decide +kernel)) dX3_cut_76 ?_
        refine lv_goto (tgt := 85) hx hb dX3_cut_79 (by decide) ?_
        exact W.lret (v := (-2147483648 : Int64)) hx hb hr (fun t ht _ => ⟨_, rfl, by rw [hg]; unfold fn_X3_cut_59; rw [if_neg c_1, if_neg c_3, if_pos c_5], ht⟩) (fun _ h => by cases h) dX3_cut_85
def fn_X3_cut_39 (x0 : Int32) (x2 : Int64) (x4 : Int32) (x6 : Int64) (x8 : Int32) : Int64 :=
  if 0 ≤ x8 then
    if x0 = 0 then
      fn_X3_cut_59 x0 x2 x4 x6 x8 (31 : Int32)
    else
      fn_X3_cut_59 x0 x2 x4 x6 x8 (63 : Int32)
  else
    (0 : Int64)
set_option maxHeartbeats 4000000 in
set_option maxRecDepth 100000 in
theorem sg_X3_cut_39 {p : Program} {l : Launch} {e : Env} {s : State} {m : MethodId} {args : Array Value} {below : List Frame} {meth : Method} {c : Code} {ls : Array Slot} {g : Int64} (hx : p.tables.exec = Jvm.exec) (hb : c.code = cX3_cut) (hr : meth.sig.returnType = (some .long)) (hml : c.maxLocals = 14) (hts : ∀ w ∈ wsX3_cut, w.before args s = true) (hown : s.vm.findClass RX3 = some m.cls) (hlocks : meth.locks = false) (x0 : Int32) (x2 : Int64) (x4 : Int32) (x6 : Int64) (x8 : Int32) (hg : g = fn_X3_cut_39 x0 x2 x4 x6 x8) (hl : lv_has ls 14 [(0, .int x0), (2, .long x2), (4, .int x4), (6, .long x6), (8, .int x8)]) : W p l e ({ frames := 1, cells := 0, slots := 0, locals := 22 } : Room) s m args below meth c s.heap [] 0 0 (MQ below (vp_Sl (fun r => r = g)) args s 0 0 (fun _ => False)) (F0 m 39 ls []) := by
  have hS : va_S (fun _ => False) s.heap s.heap [] := va_S.rf
  refine lv_iload hx hb dX3_cut_39 (lv_at hl 4 rfl) ?_
  refine lv_if_ge (tgt := 46) hx hb dX3_cut_41 (by decide) (fun c_1 => ?_) (fun c_1 => ?_)
  · refine lv_iload_n hx hb dX3_cut_46 rfl (lv_at hl 0 rfl) ?_
    refine lv_if_ne (tgt := 55) hx hb dX3_cut_47 (by decide) (fun c_2 => ?_) (fun c_2 => ?_)
    · refine lv_bipush (v := (63 : Int32)) hx hb dX3_cut_55 (by decide) ?_
      refine lv_istore (lv' := [(9, .int (63 : Int32)), (0, .int x0), (2, .long x2), (4, .int x4), (6, .long x6), (8, .int x8)]) hx hb dX3_cut_57 hl (by decide) rfl (fun ls hl => ?_)
      exact sg_X3_cut_59 hx hb hr hml hts hown hlocks x0 x2 x4 x6 x8 (63 : Int32) (by rw [hg]; unfold fn_X3_cut_39; rw [if_pos c_1, if_neg c_2])  (lv_sub hl [1, 2, 3, 4, 5, 0] rfl)
    · refine lv_bipush (v := (31 : Int32)) hx hb dX3_cut_50 (by decide) ?_
      refine lv_goto (tgt := 57) hx hb dX3_cut_52 (by decide) ?_
      refine lv_istore (lv' := [(9, .int (31 : Int32)), (0, .int x0), (2, .long x2), (4, .int x4), (6, .long x6), (8, .int x8)]) hx hb dX3_cut_57 hl (by decide) rfl (fun ls hl => ?_)
      exact sg_X3_cut_59 hx hb hr hml hts hown hlocks x0 x2 x4 x6 x8 (31 : Int32) (by rw [hg]; unfold fn_X3_cut_39; rw [if_pos c_1, if_pos c_2])  (lv_sub hl [1, 2, 3, 4, 5, 0] rfl)
  · refine lv_lconst (v := (0 : Int64)) hx hb dX3_cut_44 (by decide) ?_
    exact W.lret (v := (0 : Int64)) hx hb hr (fun t ht _ => ⟨_, rfl, by rw [hg]; unfold fn_X3_cut_39; rw [if_neg c_1], ht⟩) (fun _ h => by cases h) dX3_cut_45
def fn_X3_cut_21 (x0 : Int32) (x1 : Int32) (x2 : Int64) (x4 : Int32) (x5 : Int32) : Int64 :=
  fn_X3_cut_39 x0 x2 x4 (fn_X3_size x1 x2) ((Int64.toInt32 ((Int64.toUInt64 (fn_X3_size x1 x2) >>> (Int64.toUInt64 (Int32.toInt64 x4) &&& Int64.toUInt64 63)).toInt64)) - x5)
set_option maxHeartbeats 4000000 in
set_option maxRecDepth 100000 in
theorem sg_X3_cut_21 {p : Program} {l : Launch} {e : Env} {s : State} {m : MethodId} {args : Array Value} {below : List Frame} {meth : Method} {c : Code} {ls : Array Slot} {g : Int64} (hx : p.tables.exec = Jvm.exec) (hb : c.code = cX3_cut) (hr : meth.sig.returnType = (some .long)) (hml : c.maxLocals = 14) (hts : ∀ w ∈ wsX3_cut, w.before args s = true) (hown : s.vm.findClass RX3 = some m.cls) (hlocks : meth.locks = false) (x0 : Int32) (x1 : Int32) (x2 : Int64) (x4 : Int32) (x5 : Int32) (hg : g = fn_X3_cut_21 x0 x1 x2 x4 x5) (hl : lv_has ls 14 [(0, .int x0), (1, .int x1), (2, .long x2), (4, .int x4), (5, .int x5)]) : W p l e ({ frames := 1, cells := 0, slots := 0, locals := 22 } : Room) s m args below meth c s.heap [] 0 0 (MQ below (vp_Sl (fun r => r = g)) args s 0 0 (fun _ => False)) (F0 m 21 ls []) := by
  have hS : va_S (fun _ => False) s.heap s.heap [] := va_S.rf
  refine lv_iload_n hx hb dX3_cut_21 rfl (lv_at hl 1 rfl) ?_
  refine lv_lload_n hx hb dX3_cut_22 rfl (lv_at hl 2 rfl) ?_
  refine vp_callSl (W.runS (As := [.int x1, .long x2]) (rest := []) ⟨hx, hb, hml, hown, hts⟩ (ct_X3_size l x1 x2) (va_cwS 2 hts gX3_cut_X3_size rfl rfl rfl (by decide +kernel) ⟨Nat.le_of_ble_eq_true rfl, Nat.le_of_ble_eq_true rfl⟩) ⟨(fun a U g mk q => ⟨q.1, trivial⟩), fun U hU hW9 => ⟨rfl, trivial⟩⟩ rfl rfl hl.1 rfl (lv_room (Nat.le_of_ble_eq_true rfl)) dX3_cut_23 ⟨Nat.zero_le _, Nat.zero_le _⟩) (fun r er => ?_)
  subst er
  refine lv_lstore (lv' := [(6, .long (fn_X3_size x1 x2)), (0, .int x0), (1, .int x1), (2, .long x2), (4, .int x4), (5, .int x5)]) hx hb dX3_cut_26 hl (by decide) rfl (fun ls hl => ?_)
  refine lv_lload hx hb dX3_cut_28 (lv_at hl 0 rfl) ?_
  refine lv_iload hx hb dX3_cut_30 (lv_at hl 4 rfl) ?_
  refine lv_lushr hx hb dX3_cut_32 rfl ?_
  refine lv_l2i hx hb dX3_cut_33 rfl ?_
  refine lv_iload hx hb dX3_cut_34 (lv_at hl 5 rfl) ?_
  refine lv_isub hx hb dX3_cut_36 ?_
  refine lv_istore (lv' := [(8, .int ((Int64.toInt32 ((Int64.toUInt64 (fn_X3_size x1 x2) >>> (Int64.toUInt64 (Int32.toInt64 x4) &&& Int64.toUInt64 63)).toInt64)) - x5)), (6, .long (fn_X3_size x1 x2)), (0, .int x0), (1, .int x1), (2, .long x2), (4, .int x4), (5, .int x5)]) hx hb dX3_cut_37 hl (by decide) rfl (fun ls hl => ?_)
  exact sg_X3_cut_39 hx hb hr hml hts hown hlocks x0 x2 x4 (fn_X3_size x1 x2) ((Int64.toInt32 ((Int64.toUInt64 (fn_X3_size x1 x2) >>> (Int64.toUInt64 (Int32.toInt64 x4) &&& Int64.toUInt64 63)).toInt64)) - x5) (by rw [hg]; rfl)  (lv_sub hl [2, 4, 5, 1, 0] rfl)
def fn_X3_cut (v0 : Int32) (v1 : Int32) (v2 : Int64) : Int64 :=
  if v1 = (2 : Int32) then
    fn_X3_cut_21 v0 v1 v2 (fn_X3_fractionOf v1) (127 : Int32)
  else
    fn_X3_cut_21 v0 v1 v2 (fn_X3_fractionOf v1) (1023 : Int32)
set_option maxHeartbeats 4000000 in
set_option maxRecDepth 100000 in
theorem ct_X3_cut (l : Launch) (v0 : Int32) (v1 : Int32) (v2 : Int64) : Met l yX3_cut wsX3_cut ({ frames := 1, cells := 0, slots := 0, locals := 22 } : Room) (va_Pc [.int v0, .int v1, .long v2] (fun _ => True)) (vp_Sl (fun r => r = fn_X3_cut v0 v1 v2)) 0 0 (fun _ => False) := by
  refine Met.ofW (cc := cX3_cut) (maxL := 14) (ret := (some .long)) (by decide) rfl ?_
  intro p e s m args below meth c s₁ B hml hv
  obtain ⟨rfl, hW⟩ := hv
  have hx := B.exec
  have hb := B.bytes
  have hr := B.returns
  have hlocks := B.notSynchronized
  have hts := atoms_spec (ws := wsX3_cut) B.pre
  have hown : s.vm.findClass RX3 = some m.cls := findClass_of_methodNamed B.named
  have hS : va_S (fun _ => False) s.heap s.heap [] := va_S.rf
  have hl := lv_entry ([.int v0, .int v1, .long v2]) (n := 14) (Nat.le_of_ble_eq_true rfl)
  rw [lg_entry_eq]
  generalize (lg_sl ([.int v0, .int v1, .long v2]) ++ List.replicate (14 - (lg_sl ([.int v0, .int v1, .long v2])).length) Slot.unset).toArray = ls at hl ⊢
  have hl : lv_has ls 14 [(0, .int v0), (1, .int v1), (2, .long v2)] := hl
  refine lv_iload_n hx hb dX3_cut_0 rfl (lv_at hl 1 rfl) ?_
  refine vp_callSi (W.runS (As := [.int v1]) (rest := []) ⟨hx, hb, hml, hown, hts⟩ (ct_X3_fractionOf l v1) (va_cwS 1 hts gX3_cut_X3_fractionOf rfl rfl rfl (by decide +kernel) ⟨Nat.le_of_ble_eq_true rfl, Nat.le_of_ble_eq_true rfl⟩) ⟨(fun a U g mk q => ⟨q.1, trivial⟩), fun U hU hW9 => ⟨rfl, trivial⟩⟩ rfl rfl hl.1 rfl (lv_room (Nat.le_of_ble_eq_true rfl)) dX3_cut_1 ⟨Nat.zero_le _, Nat.zero_le _⟩) (fun r er => ?_)
  subst er
  refine lv_istore (lv' := [(4, .int (fn_X3_fractionOf v1)), (0, .int v0), (1, .int v1), (2, .long v2)]) hx hb dX3_cut_4 hl (by decide) rfl (fun ls hl => ?_)
  refine lv_iload_n hx hb dX3_cut_6 rfl (lv_at hl 2 rfl) ?_
  refine lv_iconst (v := (2 : Int32)) hx hb dX3_cut_7 (by decide) ?_
  refine lv_icmp_ne (tgt := 16) hx hb dX3_cut_8 (by decide) (fun c_1 => ?_) (fun c_1 => ?_)
  · refine lv_sipush (v := (1023 : Int32)) hx hb dX3_cut_16 (by decide) ?_
    refine lv_istore (lv' := [(5, .int (1023 : Int32)), (4, .int (fn_X3_fractionOf v1)), (0, .int v0), (1, .int v1), (2, .long v2)]) hx hb dX3_cut_19 hl (by decide) rfl (fun ls hl => ?_)
    exact sg_X3_cut_21 hx hb hr hml hts hown hlocks v0 v1 v2 (fn_X3_fractionOf v1) (1023 : Int32) (by unfold fn_X3_cut; rw [if_neg c_1])  (lv_sub hl [2, 3, 4, 1, 0] rfl)
  · refine lv_bipush (v := (127 : Int32)) hx hb dX3_cut_11 (by decide) ?_
    refine lv_goto (tgt := 19) hx hb dX3_cut_13 (by decide) ?_
    refine lv_istore (lv' := [(5, .int (127 : Int32)), (4, .int (fn_X3_fractionOf v1)), (0, .int v0), (1, .int v1), (2, .long v2)]) hx hb dX3_cut_19 hl (by decide) rfl (fun ls hl => ?_)
    exact sg_X3_cut_21 hx hb hr hml hts hown hlocks v0 v1 v2 (fn_X3_fractionOf v1) (127 : Int32) (by unfold fn_X3_cut; rw [if_pos c_1])  (lv_sub hl [2, 3, 4, 1, 0] rfl)
def fn_X3_stepped_241 (x0 : Int32) (x1 : Int64) (x9 : Int32) (x10 : Int64) (x14 : Int64) : Int64 :=
  if x9 = 0 then
    if (0 : Int64) ≤ x1 then
      fn_X3_signed x0 x14 (0 : Int32)
    else
      fn_X3_signed x0 x14 (1 : Int32)
  else
    if (0 : Int64) ≤ x1 then
      fn_X3_signed x0 (x14 + x10) (0 : Int32)
    else
      fn_X3_signed x0 (x14 + x10) (1 : Int32)
set_option maxHeartbeats 4000000 in
set_option maxRecDepth 100000 in
theorem sg_X3_stepped_241 {p : Program} {l : Launch} {e : Env} {s : State} {m : MethodId} {args : Array Value} {below : List Frame} {meth : Method} {c : Code} {ls : Array Slot} {g : Int64} (hx : p.tables.exec = Jvm.exec) (hb : c.code = cX3_stepped) (hr : meth.sig.returnType = (some .long)) (hml : c.maxLocals = 18) (hts : ∀ w ∈ wsX3_stepped, w.before args s = true) (hown : s.vm.findClass RX3 = some m.cls) (hlocks : meth.locks = false) (x0 : Int32) (x1 : Int64) (x9 : Int32) (x10 : Int64) (x14 : Int64) (hg : g = fn_X3_stepped_241 x0 x1 x9 x10 x14) (hl : lv_has ls 18 [(0, .int x0), (1, .long x1), (9, .int x9), (10, .long x10), (14, .long x14)]) : W p l e ({ frames := 1, cells := 0, slots := 0, locals := 23 } : Room) s m args below meth c s.heap [] 0 0 (MQ below (vp_Sl (fun r => r = g)) args s 0 0 (fun _ => False)) (F0 m 241 ls []) := by
  have hS : va_S (fun _ => False) s.heap s.heap [] := va_S.rf
  refine lv_iload_n hx hb dX3_stepped_241 rfl (lv_at hl 0 rfl) ?_
  refine lv_iload hx hb dX3_stepped_242 (lv_at hl 2 rfl) ?_
  refine lv_if_eq (tgt := 255) hx hb dX3_stepped_244 (by decide) (fun c_1 => ?_) (fun c_1 => ?_)
  · refine lv_lload hx hb dX3_stepped_255 (lv_at hl 4 rfl) ?_
    refine lv_lload_n hx hb dX3_stepped_257 rfl (lv_at hl 1 rfl) ?_
    refine lv_lconst (v := (0 : Int64)) hx hb dX3_stepped_258 (by decide) ?_
    refine zl_ge (tgt := 267) hx hb dX3_stepped_259 dX3_stepped_260 (by decide) (fun c_2 => ?_) (fun c_2 => ?_)
    · refine lv_iconst (v := (0 : Int32)) hx hb dX3_stepped_267 (by decide) ?_
      refine vp_callSl (W.runS (As := [.int x0, .long x14, .int (0 : Int32)]) (rest := []) ⟨hx, hb, hml, hown, hts⟩ (ct_X3_signed l x0 x14 (0 : Int32)) (va_cwS 3 hts gX3_stepped_X3_signed rfl rfl rfl (by decide +kernel) ⟨Nat.le_of_ble_eq_true rfl, Nat.le_of_ble_eq_true rfl⟩) ⟨(fun a U g mk q => ⟨q.1, trivial⟩), fun U hU hW9 => ⟨rfl, trivial⟩⟩ rfl rfl hl.1 rfl (lv_room (Nat.le_of_ble_eq_true rfl)) dX3_stepped_268 ⟨Nat.zero_le _, Nat.zero_le _⟩) (fun r er => ?_)
      subst er
      exact W.lret (v := fn_X3_signed x0 x14 (0 : Int32)) hx hb hr (fun t ht _ => ⟨_, rfl, by rw [hg]; unfold fn_X3_stepped_241; rw [if_pos c_1, if_pos c_2], ht⟩) (fun _ h => by cases h) dX3_stepped_271
    · refine lv_iconst (v := (1 : Int32)) hx hb dX3_stepped_263 (by decide) ?_
      refine lv_goto (tgt := 268) hx hb dX3_stepped_264 (by decide) ?_
      refine vp_callSl (W.runS (As := [.int x0, .long x14, .int (1 : Int32)]) (rest := []) ⟨hx, hb, hml, hown, hts⟩ (ct_X3_signed l x0 x14 (1 : Int32)) (va_cwS 3 hts gX3_stepped_X3_signed rfl rfl rfl (by decide +kernel) ⟨Nat.le_of_ble_eq_true rfl, Nat.le_of_ble_eq_true rfl⟩) ⟨(fun a U g mk q => ⟨q.1, trivial⟩), fun U hU hW9 => ⟨rfl, trivial⟩⟩ rfl rfl hl.1 rfl (lv_room (Nat.le_of_ble_eq_true rfl)) dX3_stepped_268 ⟨Nat.zero_le _, Nat.zero_le _⟩) (fun r er => ?_)
      subst er
      exact W.lret (v := fn_X3_signed x0 x14 (1 : Int32)) hx hb hr (fun t ht _ => ⟨_, rfl, by rw [hg]; unfold fn_X3_stepped_241; rw [if_pos c_1, if_neg c_2], ht⟩) (fun _ h => by cases h) dX3_stepped_271
  · refine lv_lload hx hb dX3_stepped_247 (lv_at hl 4 rfl) ?_
    refine lv_lload hx hb dX3_stepped_249 (lv_at hl 3 rfl) ?_
    refine lv_ladd hx hb dX3_stepped_251 ?_
    refine lv_goto (tgt := 257) hx hb dX3_stepped_252 (by decide) ?_
    refine lv_lload_n hx hb dX3_stepped_257 rfl (lv_at hl 1 rfl) ?_
    refine lv_lconst (v := (0 : Int64)) hx hb dX3_stepped_258 (by decide) ?_
    refine zl_ge (tgt := 267) hx hb dX3_stepped_259 dX3_stepped_260 (by decide) (fun c_3 => ?_) (fun c_3 => ?_)
    · refine lv_iconst (v := (0 : Int32)) hx hb dX3_stepped_267 (by decide) ?_
      refine vp_callSl (W.runS (As := [.int x0, .long (x14 + x10), .int (0 : Int32)]) (rest := []) ⟨hx, hb, hml, hown, hts⟩ (ct_X3_signed l x0 (x14 + x10) (0 : Int32)) (va_cwS 3 hts gX3_stepped_X3_signed rfl rfl rfl (by decide +kernel) ⟨Nat.le_of_ble_eq_true rfl, Nat.le_of_ble_eq_true rfl⟩) ⟨(fun a U g mk q => ⟨q.1, trivial⟩), fun U hU hW9 => ⟨rfl, trivial⟩⟩ rfl rfl hl.1 rfl (lv_room (Nat.le_of_ble_eq_true rfl)) dX3_stepped_268 ⟨Nat.zero_le _, Nat.zero_le _⟩) (fun r er => ?_)
      subst er
      exact W.lret (v := fn_X3_signed x0 (x14 + x10) (0 : Int32)) hx hb hr (fun t ht _ => ⟨_, rfl, by rw [hg]; unfold fn_X3_stepped_241; rw [if_neg c_1, if_pos c_3], ht⟩) (fun _ h => by cases h) dX3_stepped_271
    · refine lv_iconst (v := (1 : Int32)) hx hb dX3_stepped_263 (by decide) ?_
      refine lv_goto (tgt := 268) hx hb dX3_stepped_264 (by decide) ?_
      refine vp_callSl (W.runS (As := [.int x0, .long (x14 + x10), .int (1 : Int32)]) (rest := []) ⟨hx, hb, hml, hown, hts⟩ (ct_X3_signed l x0 (x14 + x10) (1 : Int32)) (va_cwS 3 hts gX3_stepped_X3_signed rfl rfl rfl (by decide +kernel) ⟨Nat.le_of_ble_eq_true rfl, Nat.le_of_ble_eq_true rfl⟩) ⟨(fun a U g mk q => ⟨q.1, trivial⟩), fun U hU hW9 => ⟨rfl, trivial⟩⟩ rfl rfl hl.1 rfl (lv_room (Nat.le_of_ble_eq_true rfl)) dX3_stepped_268 ⟨Nat.zero_le _, Nat.zero_le _⟩) (fun r er => ?_)
      subst er
      exact W.lret (v := fn_X3_signed x0 (x14 + x10) (1 : Int32)) hx hb hr (fun t ht _ => ⟨_, rfl, by rw [hg]; unfold fn_X3_stepped_241; rw [if_neg c_1, if_neg c_3], ht⟩) (fun _ h => by cases h) dX3_stepped_271
def fn_X3_stepped_195 (x0 : Int32) (x1 : Int64) (x3 : Int32) (x9 : Int32) (x10 : Int64) (x12 : Int64) (x14 : Int64) : Int64 :=
  if x3 = (2 : Int32) then
    if x10 < ((2 : Int64) * x12) then
      fn_X3_stepped_241 x0 x1 (1 : Int32) x10 x14
    else
      if ((2 : Int64) * x12) = x10 then
        if (x14 &&& x10) = (0 : Int64) then
          fn_X3_stepped_241 x0 x1 (0 : Int32) x10 x14
        else
          fn_X3_stepped_241 x0 x1 (1 : Int32) x10 x14
      else
        fn_X3_stepped_241 x0 x1 (0 : Int32) x10 x14
  else
    fn_X3_stepped_241 x0 x1 x9 x10 x14
set_option maxHeartbeats 4000000 in
set_option maxRecDepth 100000 in
theorem sg_X3_stepped_195 {p : Program} {l : Launch} {e : Env} {s : State} {m : MethodId} {args : Array Value} {below : List Frame} {meth : Method} {c : Code} {ls : Array Slot} {g : Int64} (hx : p.tables.exec = Jvm.exec) (hb : c.code = cX3_stepped) (hr : meth.sig.returnType = (some .long)) (hml : c.maxLocals = 18) (hts : ∀ w ∈ wsX3_stepped, w.before args s = true) (hown : s.vm.findClass RX3 = some m.cls) (hlocks : meth.locks = false) (x0 : Int32) (x1 : Int64) (x3 : Int32) (x9 : Int32) (x10 : Int64) (x12 : Int64) (x14 : Int64) (hg : g = fn_X3_stepped_195 x0 x1 x3 x9 x10 x12 x14) (hl : lv_has ls 18 [(0, .int x0), (1, .long x1), (3, .int x3), (9, .int x9), (10, .long x10), (12, .long x12), (14, .long x14)]) : W p l e ({ frames := 1, cells := 0, slots := 0, locals := 23 } : Room) s m args below meth c s.heap [] 0 0 (MQ below (vp_Sl (fun r => r = g)) args s 0 0 (fun _ => False)) (F0 m 195 ls []) := by
  have hS : va_S (fun _ => False) s.heap s.heap [] := va_S.rf
  refine lv_iload_n hx hb dX3_stepped_195 rfl (lv_at hl 2 rfl) ?_
  refine lv_iconst (v := (2 : Int32)) hx hb dX3_stepped_196 (by decide) ?_
  refine lv_icmp_ne (tgt := 241) hx hb dX3_stepped_197 (by decide) (fun c_1 => ?_) (fun c_1 => ?_)
  · exact sg_X3_stepped_241 hx hb hr hml hts hown hlocks x0 x1 x9 x10 x14 (by rw [hg]; unfold fn_X3_stepped_195; rw [if_neg c_1])  (lv_sub hl [0, 1, 3, 4, 6] rfl)
  · refine lv_ldc2 (v := (2 : Int64)) hx hb hown (hts (.constantLong RX3 66 (2)) (by decide +kernel)) dX3_stepped_200 ?_
    refine lv_lload hx hb dX3_stepped_203 (lv_at hl 5 rfl) ?_
    refine lv_lmul hx hb dX3_stepped_205 ?_
    refine lv_lstore (lv' := [(16, .long ((2 : Int64) * x12)), (0, .int x0), (1, .long x1), (3, .int x3), (9, .int x9), (10, .long x10), (12, .long x12), (14, .long x14)]) hx hb dX3_stepped_206 hl (by decide) rfl (fun ls hl => ?_)
    refine lv_lload hx hb dX3_stepped_208 (lv_at hl 0 rfl) ?_
    refine lv_lload hx hb dX3_stepped_210 (lv_at hl 5 rfl) ?_
    refine zl_gt (tgt := 234) hx hb dX3_stepped_212 dX3_stepped_213 (by decide) (fun c_2 => ?_) (fun c_2 => ?_)
    · refine lv_iconst (v := (1 : Int32)) hx hb dX3_stepped_234 (by decide) ?_
      refine lv_goto (tgt := 239) hx hb dX3_stepped_235 (by decide) ?_
      refine lv_istore (lv' := [(9, .int (1 : Int32)), (16, .long ((2 : Int64) * x12)), (0, .int x0), (1, .long x1), (3, .int x3), (10, .long x10), (12, .long x12), (14, .long x14)]) hx hb dX3_stepped_239 hl (by decide) rfl (fun ls hl => ?_)
      exact sg_X3_stepped_241 hx hb hr hml hts hown hlocks x0 x1 (1 : Int32) x10 x14 (by rw [hg]; unfold fn_X3_stepped_195; rw [if_pos c_1, if_pos c_2])  (lv_sub hl [2, 3, 0, 5, 7] rfl)
    · refine lv_lload hx hb dX3_stepped_216 (lv_at hl 0 rfl) ?_
      refine lv_lload hx hb dX3_stepped_218 (lv_at hl 5 rfl) ?_
      refine zl_ne (tgt := 238) hx hb dX3_stepped_220 dX3_stepped_221 (by decide) (fun c_3 => ?_) (fun c_3 => ?_)
      · refine lv_iconst (v := (0 : Int32)) hx hb dX3_stepped_238 (by decide) ?_
        refine lv_istore (lv' := [(9, .int (0 : Int32)), (16, .long ((2 : Int64) * x12)), (0, .int x0), (1, .long x1), (3, .int x3), (10, .long x10), (12, .long x12), (14, .long x14)]) hx hb dX3_stepped_239 hl (by decide) rfl (fun ls hl => ?_)
        exact sg_X3_stepped_241 hx hb hr hml hts hown hlocks x0 x1 (0 : Int32) x10 x14 (by rw [hg]; unfold fn_X3_stepped_195; rw [if_pos c_1, if_neg c_2, if_neg c_3])  (lv_sub hl [2, 3, 0, 5, 7] rfl)
      · refine lv_lload hx hb dX3_stepped_224 (lv_at hl 7 rfl) ?_
        refine lv_lload hx hb dX3_stepped_226 (lv_at hl 5 rfl) ?_
        refine lv_land hx hb dX3_stepped_228 ?_
        refine lv_lconst (v := (0 : Int64)) hx hb dX3_stepped_229 (by decide) ?_
        refine zl_eq (tgt := 238) hx hb dX3_stepped_230 dX3_stepped_231 (by decide) (fun c_4 => ?_) (fun c_4 => ?_)
        · refine lv_iconst (v := (0 : Int32)) hx hb dX3_stepped_238 (by decide) ?_
          refine lv_istore (lv' := [(9, .int (0 : Int32)), (16, .long ((2 : Int64) * x12)), (0, .int x0), (1, .long x1), (3, .int x3), (10, .long x10), (12, .long x12), (14, .long x14)]) hx hb dX3_stepped_239 hl (by decide) rfl (fun ls hl => ?_)
          exact sg_X3_stepped_241 hx hb hr hml hts hown hlocks x0 x1 (0 : Int32) x10 x14 (by rw [hg]; unfold fn_X3_stepped_195; rw [if_pos c_1, if_neg c_2, if_pos c_3, if_pos c_4])  (lv_sub hl [2, 3, 0, 5, 7] rfl)
        · refine lv_iconst (v := (1 : Int32)) hx hb dX3_stepped_234 (by decide) ?_
          refine lv_goto (tgt := 239) hx hb dX3_stepped_235 (by decide) ?_
          refine lv_istore (lv' := [(9, .int (1 : Int32)), (16, .long ((2 : Int64) * x12)), (0, .int x0), (1, .long x1), (3, .int x3), (10, .long x10), (12, .long x12), (14, .long x14)]) hx hb dX3_stepped_239 hl (by decide) rfl (fun ls hl => ?_)
          exact sg_X3_stepped_241 hx hb hr hml hts hown hlocks x0 x1 (1 : Int32) x10 x14 (by rw [hg]; unfold fn_X3_stepped_195; rw [if_pos c_1, if_neg c_2, if_pos c_3, if_neg c_4])  (lv_sub hl [2, 3, 0, 5, 7] rfl)
def fn_X3_stepped_179 (x0 : Int32) (x1 : Int64) (x3 : Int32) (x6 : Int64) (x9 : Int32) (x10 : Int64) (x12 : Int64) : Int64 :=
  if x12 = (0 : Int64) then
    x1
  else
    fn_X3_stepped_195 x0 x1 x3 x9 x10 x12 (x6 - x12)
set_option maxHeartbeats 4000000 in
set_option maxRecDepth 100000 in
theorem sg_X3_stepped_179 {p : Program} {l : Launch} {e : Env} {s : State} {m : MethodId} {args : Array Value} {below : List Frame} {meth : Method} {c : Code} {ls : Array Slot} {g : Int64} (hx : p.tables.exec = Jvm.exec) (hb : c.code = cX3_stepped) (hr : meth.sig.returnType = (some .long)) (hml : c.maxLocals = 18) (hts : ∀ w ∈ wsX3_stepped, w.before args s = true) (hown : s.vm.findClass RX3 = some m.cls) (hlocks : meth.locks = false) (x0 : Int32) (x1 : Int64) (x3 : Int32) (x6 : Int64) (x9 : Int32) (x10 : Int64) (x12 : Int64) (hg : g = fn_X3_stepped_179 x0 x1 x3 x6 x9 x10 x12) (hl : lv_has ls 18 [(0, .int x0), (1, .long x1), (3, .int x3), (6, .long x6), (9, .int x9), (10, .long x10), (12, .long x12)]) : W p l e ({ frames := 1, cells := 0, slots := 0, locals := 23 } : Room) s m args below meth c s.heap [] 0 0 (MQ below (vp_Sl (fun r => r = g)) args s 0 0 (fun _ => False)) (F0 m 179 ls []) := by
  have hS : va_S (fun _ => False) s.heap s.heap [] := va_S.rf
  refine lv_lload hx hb dX3_stepped_179 (lv_at hl 6 rfl) ?_
  refine lv_lconst (v := (0 : Int64)) hx hb dX3_stepped_181 (by decide) ?_
  refine zl_ne (tgt := 188) hx hb dX3_stepped_182 dX3_stepped_183 (by decide) (fun c_1 => ?_) (fun c_1 => ?_)
  · refine lv_lload hx hb dX3_stepped_188 (lv_at hl 3 rfl) ?_
    refine lv_lload hx hb dX3_stepped_190 (lv_at hl 6 rfl) ?_
    refine lv_lsub hx hb dX3_stepped_192 ?_
    refine lv_lstore (lv' := [(14, .long (x6 - x12)), (0, .int x0), (1, .long x1), (3, .int x3), (6, .long x6), (9, .int x9), (10, .long x10), (12, .long x12)]) hx hb dX3_stepped_193 hl (by decide) rfl (fun ls hl => ?_)
    exact sg_X3_stepped_195 hx hb hr hml hts hown hlocks x0 x1 x3 x9 x10 x12 (x6 - x12) (by rw [hg]; unfold fn_X3_stepped_179; rw [if_neg c_1])  (lv_sub hl [1, 2, 3, 5, 6, 7, 0] rfl)
  · refine lv_lload_n hx hb dX3_stepped_186 rfl (lv_at hl 1 rfl) ?_
    exact W.lret (v := x1) hx hb hr (fun t ht _ => ⟨_, rfl, by rw [hg]; unfold fn_X3_stepped_179; rw [if_pos c_1], ht⟩) (fun _ h => by cases h) dX3_stepped_187
def fn_X3_stepped_161 (x0 : Int32) (x1 : Int64) (x3 : Int32) (x4 : Int32) (x6 : Int64) (x8 : Int32) (x9 : Int32) : Int64 :=
  fn_X3_stepped_179 x0 x1 x3 x6 x9 ((1 : Int64) <<< (Int32.toInt64 (x4 - x8) &&& 63)) (x6 &&& (((1 : Int64) <<< (Int32.toInt64 (x4 - x8) &&& 63)) - (1 : Int64)))
set_option maxHeartbeats 4000000 in
set_option maxRecDepth 100000 in
theorem sg_X3_stepped_161 {p : Program} {l : Launch} {e : Env} {s : State} {m : MethodId} {args : Array Value} {below : List Frame} {meth : Method} {c : Code} {ls : Array Slot} {g : Int64} (hx : p.tables.exec = Jvm.exec) (hb : c.code = cX3_stepped) (hr : meth.sig.returnType = (some .long)) (hml : c.maxLocals = 18) (hts : ∀ w ∈ wsX3_stepped, w.before args s = true) (hown : s.vm.findClass RX3 = some m.cls) (hlocks : meth.locks = false) (x0 : Int32) (x1 : Int64) (x3 : Int32) (x4 : Int32) (x6 : Int64) (x8 : Int32) (x9 : Int32) (hg : g = fn_X3_stepped_161 x0 x1 x3 x4 x6 x8 x9) (hl : lv_has ls 18 [(0, .int x0), (1, .long x1), (3, .int x3), (4, .int x4), (6, .long x6), (8, .int x8), (9, .int x9)]) : W p l e ({ frames := 1, cells := 0, slots := 0, locals := 23 } : Room) s m args below meth c s.heap [] 0 0 (MQ below (vp_Sl (fun r => r = g)) args s 0 0 (fun _ => False)) (F0 m 161 ls []) := by
  have hS : va_S (fun _ => False) s.heap s.heap [] := va_S.rf
  refine lv_lconst (v := (1 : Int64)) hx hb dX3_stepped_161 (by decide) ?_
  refine lv_iload hx hb dX3_stepped_162 (lv_at hl 3 rfl) ?_
  refine lv_iload hx hb dX3_stepped_164 (lv_at hl 5 rfl) ?_
  refine lv_isub hx hb dX3_stepped_166 ?_
  refine lv_lshl hx hb dX3_stepped_167 rfl ?_
  refine lv_lstore (lv' := [(10, .long ((1 : Int64) <<< (Int32.toInt64 (x4 - x8) &&& 63))), (0, .int x0), (1, .long x1), (3, .int x3), (4, .int x4), (6, .long x6), (8, .int x8), (9, .int x9)]) hx hb dX3_stepped_168 hl (by decide) rfl (fun ls hl => ?_)
  refine lv_lload hx hb dX3_stepped_170 (lv_at hl 5 rfl) ?_
  refine lv_lload hx hb dX3_stepped_172 (lv_at hl 0 rfl) ?_
  refine lv_lconst (v := (1 : Int64)) hx hb dX3_stepped_174 (by decide) ?_
  refine lv_lsub hx hb dX3_stepped_175 ?_
  refine lv_land hx hb dX3_stepped_176 ?_
  refine lv_lstore (lv' := [(12, .long (x6 &&& (((1 : Int64) <<< (Int32.toInt64 (x4 - x8) &&& 63)) - (1 : Int64)))), (10, .long ((1 : Int64) <<< (Int32.toInt64 (x4 - x8) &&& 63))), (0, .int x0), (1, .long x1), (3, .int x3), (4, .int x4), (6, .long x6), (8, .int x8), (9, .int x9)]) hx hb dX3_stepped_177 hl (by decide) rfl (fun ls hl => ?_)
  exact sg_X3_stepped_179 hx hb hr hml hts hown hlocks x0 x1 x3 x6 x9 ((1 : Int64) <<< (Int32.toInt64 (x4 - x8) &&& 63)) (x6 &&& (((1 : Int64) <<< (Int32.toInt64 (x4 - x8) &&& 63)) - (1 : Int64))) (by rw [hg]; rfl)  (lv_sub hl [2, 3, 4, 6, 8, 1, 0] rfl)
def fn_X3_stepped_132 (x0 : Int32) (x1 : Int64) (x9 : Int32) : Int64 :=
  if x9 = 0 then
    if (0 : Int64) ≤ x1 then
      fn_X3_signed x0 (0 : Int64) (0 : Int32)
    else
      fn_X3_signed x0 (0 : Int64) (1 : Int32)
  else
    if (0 : Int64) ≤ x1 then
      fn_X3_signed x0 (fn_X3_one x0) (0 : Int32)
    else
      fn_X3_signed x0 (fn_X3_one x0) (1 : Int32)
set_option maxHeartbeats 4000000 in
set_option maxRecDepth 100000 in
theorem sg_X3_stepped_132 {p : Program} {l : Launch} {e : Env} {s : State} {m : MethodId} {args : Array Value} {below : List Frame} {meth : Method} {c : Code} {ls : Array Slot} {g : Int64} (hx : p.tables.exec = Jvm.exec) (hb : c.code = cX3_stepped) (hr : meth.sig.returnType = (some .long)) (hml : c.maxLocals = 18) (hts : ∀ w ∈ wsX3_stepped, w.before args s = true) (hown : s.vm.findClass RX3 = some m.cls) (hlocks : meth.locks = false) (x0 : Int32) (x1 : Int64) (x9 : Int32) (hg : g = fn_X3_stepped_132 x0 x1 x9) (hl : lv_has ls 18 [(0, .int x0), (1, .long x1), (9, .int x9)]) : W p l e ({ frames := 1, cells := 0, slots := 0, locals := 23 } : Room) s m args below meth c s.heap [] 0 0 (MQ below (vp_Sl (fun r => r = g)) args s 0 0 (fun _ => False)) (F0 m 132 ls []) := by
  have hS : va_S (fun _ => False) s.heap s.heap [] := va_S.rf
  refine lv_iload_n hx hb dX3_stepped_132 rfl (lv_at hl 0 rfl) ?_
  refine lv_iload hx hb dX3_stepped_133 (lv_at hl 2 rfl) ?_
  refine lv_if_eq (tgt := 145) hx hb dX3_stepped_135 (by decide) (fun c_1 => ?_) (fun c_1 => ?_)
  · refine lv_lconst (v := (0 : Int64)) hx hb dX3_stepped_145 (by decide) ?_
    refine lv_lload_n hx hb dX3_stepped_146 rfl (lv_at hl 1 rfl) ?_
    refine lv_lconst (v := (0 : Int64)) hx hb dX3_stepped_147 (by decide) ?_
    refine zl_ge (tgt := 156) hx hb dX3_stepped_148 dX3_stepped_149 (by decide) (fun c_2 => ?_) (fun c_2 => ?_)
    · refine lv_iconst (v := (0 : Int32)) hx hb dX3_stepped_156 (by decide) ?_
      refine vp_callSl (W.runS (As := [.int x0, .long (0 : Int64), .int (0 : Int32)]) (rest := []) ⟨hx, hb, hml, hown, hts⟩ (ct_X3_signed l x0 (0 : Int64) (0 : Int32)) (va_cwS 3 hts gX3_stepped_X3_signed rfl rfl rfl (by decide +kernel) ⟨Nat.le_of_ble_eq_true rfl, Nat.le_of_ble_eq_true rfl⟩) ⟨(fun a U g mk q => ⟨q.1, trivial⟩), fun U hU hW9 => ⟨rfl, trivial⟩⟩ rfl rfl hl.1 rfl (lv_room (Nat.le_of_ble_eq_true rfl)) dX3_stepped_157 ⟨Nat.zero_le _, Nat.zero_le _⟩) (fun r er => ?_)
      subst er
      exact W.lret (v := fn_X3_signed x0 (0 : Int64) (0 : Int32)) hx hb hr (fun t ht _ => ⟨_, rfl, by rw [hg]; unfold fn_X3_stepped_132; rw [if_pos c_1, if_pos c_2], ht⟩) (fun _ h => by cases h) dX3_stepped_160
    · refine lv_iconst (v := (1 : Int32)) hx hb dX3_stepped_152 (by decide) ?_
      refine lv_goto (tgt := 157) hx hb dX3_stepped_153 (by decide) ?_
      refine vp_callSl (W.runS (As := [.int x0, .long (0 : Int64), .int (1 : Int32)]) (rest := []) ⟨hx, hb, hml, hown, hts⟩ (ct_X3_signed l x0 (0 : Int64) (1 : Int32)) (va_cwS 3 hts gX3_stepped_X3_signed rfl rfl rfl (by decide +kernel) ⟨Nat.le_of_ble_eq_true rfl, Nat.le_of_ble_eq_true rfl⟩) ⟨(fun a U g mk q => ⟨q.1, trivial⟩), fun U hU hW9 => ⟨rfl, trivial⟩⟩ rfl rfl hl.1 rfl (lv_room (Nat.le_of_ble_eq_true rfl)) dX3_stepped_157 ⟨Nat.zero_le _, Nat.zero_le _⟩) (fun r er => ?_)
      subst er
      exact W.lret (v := fn_X3_signed x0 (0 : Int64) (1 : Int32)) hx hb hr (fun t ht _ => ⟨_, rfl, by rw [hg]; unfold fn_X3_stepped_132; rw [if_pos c_1, if_neg c_2], ht⟩) (fun _ h => by cases h) dX3_stepped_160
  · refine lv_iload_n hx hb dX3_stepped_138 rfl (lv_at hl 0 rfl) ?_
    refine vp_callSl (W.runS (As := [.int x0]) (rest := [.int x0]) ⟨hx, hb, hml, hown, hts⟩ (ct_X3_one l x0) (va_cwS 1 hts gX3_stepped_X3_one rfl rfl rfl (by decide +kernel) ⟨Nat.le_of_ble_eq_true rfl, Nat.le_of_ble_eq_true rfl⟩) ⟨(fun a U g mk q => ⟨q.1, trivial⟩), fun U hU hW9 => ⟨rfl, trivial⟩⟩ rfl rfl hl.1 rfl (lv_room (Nat.le_of_ble_eq_true rfl)) dX3_stepped_139 ⟨Nat.zero_le _, Nat.zero_le _⟩) (fun r er => ?_)
    subst er
    refine lv_goto (tgt := 146) hx hb dX3_stepped_142 (by decide) ?_
    refine lv_lload_n hx hb dX3_stepped_146 rfl (lv_at hl 1 rfl) ?_
    refine lv_lconst (v := (0 : Int64)) hx hb dX3_stepped_147 (by decide) ?_
    refine zl_ge (tgt := 156) hx hb dX3_stepped_148 dX3_stepped_149 (by decide) (fun c_3 => ?_) (fun c_3 => ?_)
    · refine lv_iconst (v := (0 : Int32)) hx hb dX3_stepped_156 (by decide) ?_
      refine vp_callSl (W.runS (As := [.int x0, .long (fn_X3_one x0), .int (0 : Int32)]) (rest := []) ⟨hx, hb, hml, hown, hts⟩ (ct_X3_signed l x0 (fn_X3_one x0) (0 : Int32)) (va_cwS 3 hts gX3_stepped_X3_signed rfl rfl rfl (by decide +kernel) ⟨Nat.le_of_ble_eq_true rfl, Nat.le_of_ble_eq_true rfl⟩) ⟨(fun a U g mk q => ⟨q.1, trivial⟩), fun U hU hW9 => ⟨rfl, trivial⟩⟩ rfl rfl hl.1 rfl (lv_room (Nat.le_of_ble_eq_true rfl)) dX3_stepped_157 ⟨Nat.zero_le _, Nat.zero_le _⟩) (fun r er => ?_)
      subst er
      exact W.lret (v := fn_X3_signed x0 (fn_X3_one x0) (0 : Int32)) hx hb hr (fun t ht _ => ⟨_, rfl, by rw [hg]; unfold fn_X3_stepped_132; rw [if_neg c_1, if_pos c_3], ht⟩) (fun _ h => by cases h) dX3_stepped_160
    · refine lv_iconst (v := (1 : Int32)) hx hb dX3_stepped_152 (by decide) ?_
      refine lv_goto (tgt := 157) hx hb dX3_stepped_153 (by decide) ?_
      refine vp_callSl (W.runS (As := [.int x0, .long (fn_X3_one x0), .int (1 : Int32)]) (rest := []) ⟨hx, hb, hml, hown, hts⟩ (ct_X3_signed l x0 (fn_X3_one x0) (1 : Int32)) (va_cwS 3 hts gX3_stepped_X3_signed rfl rfl rfl (by decide +kernel) ⟨Nat.le_of_ble_eq_true rfl, Nat.le_of_ble_eq_true rfl⟩) ⟨(fun a U g mk q => ⟨q.1, trivial⟩), fun U hU hW9 => ⟨rfl, trivial⟩⟩ rfl rfl hl.1 rfl (lv_room (Nat.le_of_ble_eq_true rfl)) dX3_stepped_157 ⟨Nat.zero_le _, Nat.zero_le _⟩) (fun r er => ?_)
      subst er
      exact W.lret (v := fn_X3_signed x0 (fn_X3_one x0) (1 : Int32)) hx hb hr (fun t ht _ => ⟨_, rfl, by rw [hg]; unfold fn_X3_stepped_132; rw [if_neg c_1, if_neg c_3], ht⟩) (fun _ h => by cases h) dX3_stepped_160
def fn_X3_stepped_95 (x0 : Int32) (x1 : Int64) (x3 : Int32) (x4 : Int32) (x5 : Int32) (x6 : Int64) (x8 : Int32) (x9 : Int32) : Int64 :=
  if 0 ≤ x8 then
    fn_X3_stepped_161 x0 x1 x3 x4 x6 x8 x9
  else
    if x3 = (2 : Int32) then
      if x8 = (-1 : Int32) then
        if x6 ≤ ((Int32.toInt64 (x5 - (1 : Int32))) <<< (Int32.toInt64 x4 &&& 63)) then
          fn_X3_stepped_132 x0 x1 (0 : Int32)
        else
          fn_X3_stepped_132 x0 x1 (1 : Int32)
      else
        fn_X3_stepped_132 x0 x1 (0 : Int32)
    else
      fn_X3_stepped_132 x0 x1 x9
set_option maxHeartbeats 4000000 in
set_option maxRecDepth 100000 in
theorem sg_X3_stepped_95 {p : Program} {l : Launch} {e : Env} {s : State} {m : MethodId} {args : Array Value} {below : List Frame} {meth : Method} {c : Code} {ls : Array Slot} {g : Int64} (hx : p.tables.exec = Jvm.exec) (hb : c.code = cX3_stepped) (hr : meth.sig.returnType = (some .long)) (hml : c.maxLocals = 18) (hts : ∀ w ∈ wsX3_stepped, w.before args s = true) (hown : s.vm.findClass RX3 = some m.cls) (hlocks : meth.locks = false) (x0 : Int32) (x1 : Int64) (x3 : Int32) (x4 : Int32) (x5 : Int32) (x6 : Int64) (x8 : Int32) (x9 : Int32) (hg : g = fn_X3_stepped_95 x0 x1 x3 x4 x5 x6 x8 x9) (hl : lv_has ls 18 [(0, .int x0), (1, .long x1), (3, .int x3), (4, .int x4), (5, .int x5), (6, .long x6), (8, .int x8), (9, .int x9)]) : W p l e ({ frames := 1, cells := 0, slots := 0, locals := 23 } : Room) s m args below meth c s.heap [] 0 0 (MQ below (vp_Sl (fun r => r = g)) args s 0 0 (fun _ => False)) (F0 m 95 ls []) := by
  have hS : va_S (fun _ => False) s.heap s.heap [] := va_S.rf
  refine lv_iload hx hb dX3_stepped_95 (lv_at hl 6 rfl) ?_
  refine lv_if_ge (tgt := 161) hx hb dX3_stepped_97 (by decide) (fun c_1 => ?_) (fun c_1 => ?_)
  · exact sg_X3_stepped_161 hx hb hr hml hts hown hlocks x0 x1 x3 x4 x6 x8 x9 (by rw [hg]; unfold fn_X3_stepped_95; rw [if_pos c_1])  (lv_sub hl [0, 1, 2, 3, 5, 6, 7] rfl)
  · refine lv_iload_n hx hb dX3_stepped_100 rfl (lv_at hl 2 rfl) ?_
    refine lv_iconst (v := (2 : Int32)) hx hb dX3_stepped_101 (by decide) ?_
    refine lv_icmp_ne (tgt := 132) hx hb dX3_stepped_102 (by decide) (fun c_2 => ?_) (fun c_2 => ?_)
    · exact sg_X3_stepped_132 hx hb hr hml hts hown hlocks x0 x1 x9 (by rw [hg]; unfold fn_X3_stepped_95; rw [if_neg c_1, if_neg c_2])  (lv_sub hl [0, 1, 7] rfl)
    · refine lv_iload hx hb dX3_stepped_105 (lv_at hl 6 rfl) ?_
      refine lv_iconst (v := (-1 : Int32)) hx hb dX3_stepped_107 (by decide) ?_
      refine lv_icmp_ne (tgt := 129) hx hb dX3_stepped_108 (by decide) (fun c_3 => ?_) (fun c_3 => ?_)
      · refine lv_iconst (v := (0 : Int32)) hx hb dX3_stepped_129 (by decide) ?_
        refine lv_istore (lv' := [(9, .int (0 : Int32)), (0, .int x0), (1, .long x1), (3, .int x3), (4, .int x4), (5, .int x5), (6, .long x6), (8, .int x8)]) hx hb dX3_stepped_130 hl (by decide) rfl (fun ls hl => ?_)
        exact sg_X3_stepped_132 hx hb hr hml hts hown hlocks x0 x1 (0 : Int32) (by rw [hg]; unfold fn_X3_stepped_95; rw [if_neg c_1, if_pos c_2, if_neg c_3])  (lv_sub hl [1, 2, 0] rfl)
      · refine lv_lload hx hb dX3_stepped_111 (lv_at hl 5 rfl) ?_
        refine lv_iload hx hb dX3_stepped_113 (lv_at hl 4 rfl) ?_
        refine lv_iconst (v := (1 : Int32)) hx hb dX3_stepped_115 (by decide) ?_
        refine lv_isub hx hb dX3_stepped_116 ?_
        refine lv_i2l hx hb dX3_stepped_117 rfl ?_
        refine lv_iload hx hb dX3_stepped_118 (lv_at hl 3 rfl) ?_
        refine lv_lshl hx hb dX3_stepped_120 rfl ?_
        refine zl_le (tgt := 129) hx hb dX3_stepped_121 dX3_stepped_122 (by decide) (fun c_4 => ?_) (fun c_4 => ?_)
        · refine lv_iconst (v := (0 : Int32)) hx hb dX3_stepped_129 (by decide) ?_
          refine lv_istore (lv' := [(9, .int (0 : Int32)), (0, .int x0), (1, .long x1), (3, .int x3), (4, .int x4), (5, .int x5), (6, .long x6), (8, .int x8)]) hx hb dX3_stepped_130 hl (by decide) rfl (fun ls hl => ?_)
          exact sg_X3_stepped_132 hx hb hr hml hts hown hlocks x0 x1 (0 : Int32) (by rw [hg]; unfold fn_X3_stepped_95; rw [if_neg c_1, if_pos c_2, if_pos c_3, if_pos c_4])  (lv_sub hl [1, 2, 0] rfl)
        · refine lv_iconst (v := (1 : Int32)) hx hb dX3_stepped_125 (by decide) ?_
          refine lv_goto (tgt := 130) hx hb dX3_stepped_126 (by decide) ?_
          refine lv_istore (lv' := [(9, .int (1 : Int32)), (0, .int x0), (1, .long x1), (3, .int x3), (4, .int x4), (5, .int x5), (6, .long x6), (8, .int x8)]) hx hb dX3_stepped_130 hl (by decide) rfl (fun ls hl => ?_)
          exact sg_X3_stepped_132 hx hb hr hml hts hown hlocks x0 x1 (1 : Int32) (by rw [hg]; unfold fn_X3_stepped_95; rw [if_neg c_1, if_pos c_2, if_pos c_3, if_neg c_4])  (lv_sub hl [1, 2, 0] rfl)
def fn_X3_stepped_48 (x0 : Int32) (x1 : Int64) (x3 : Int32) (x4 : Int32) (x5 : Int32) (x6 : Int64) (x8 : Int32) : Int64 :=
  if x6 = (0 : Int64) then
    x1
  else
    if x8 < x4 then
      if x3 = 0 then
        if (0 : Int64) ≤ x1 then
          fn_X3_stepped_95 x0 x1 x3 x4 x5 x6 x8 (0 : Int32)
        else
          fn_X3_stepped_95 x0 x1 x3 x4 x5 x6 x8 (1 : Int32)
      else
        if x1 < (0 : Int64) then
          fn_X3_stepped_95 x0 x1 x3 x4 x5 x6 x8 (0 : Int32)
        else
          fn_X3_stepped_95 x0 x1 x3 x4 x5 x6 x8 (1 : Int32)
    else
      x1
set_option maxHeartbeats 4000000 in
set_option maxRecDepth 100000 in
theorem sg_X3_stepped_48 {p : Program} {l : Launch} {e : Env} {s : State} {m : MethodId} {args : Array Value} {below : List Frame} {meth : Method} {c : Code} {ls : Array Slot} {g : Int64} (hx : p.tables.exec = Jvm.exec) (hb : c.code = cX3_stepped) (hr : meth.sig.returnType = (some .long)) (hml : c.maxLocals = 18) (hts : ∀ w ∈ wsX3_stepped, w.before args s = true) (hown : s.vm.findClass RX3 = some m.cls) (hlocks : meth.locks = false) (x0 : Int32) (x1 : Int64) (x3 : Int32) (x4 : Int32) (x5 : Int32) (x6 : Int64) (x8 : Int32) (hg : g = fn_X3_stepped_48 x0 x1 x3 x4 x5 x6 x8) (hl : lv_has ls 18 [(0, .int x0), (1, .long x1), (3, .int x3), (4, .int x4), (5, .int x5), (6, .long x6), (8, .int x8)]) : W p l e ({ frames := 1, cells := 0, slots := 0, locals := 23 } : Room) s m args below meth c s.heap [] 0 0 (MQ below (vp_Sl (fun r => r = g)) args s 0 0 (fun _ => False)) (F0 m 48 ls []) := by
  have hS : va_S (fun _ => False) s.heap s.heap [] := va_S.rf
  refine lv_lload hx hb dX3_stepped_48 (lv_at hl 5 rfl) ?_
  refine lv_lconst (v := (0 : Int64)) hx hb dX3_stepped_50 (by decide) ?_
  refine zl_eq (tgt := 62) hx hb dX3_stepped_51 dX3_stepped_52 (by decide) (fun c_1 => ?_) (fun c_1 => ?_)
  · refine lv_lload_n hx hb dX3_stepped_62 rfl (lv_at hl 1 rfl) ?_
    exact W.lret (v := x1) hx hb hr (fun t ht _ => ⟨_, rfl, by rw [hg]; unfold fn_X3_stepped_48; rw [if_pos c_1], ht⟩) (fun _ h => by cases h) dX3_stepped_63
  · refine lv_iload hx hb dX3_stepped_55 (lv_at hl 6 rfl) ?_
    refine lv_iload hx hb dX3_stepped_57 (lv_at hl 3 rfl) ?_
    refine lv_icmp_lt (tgt := 64) hx hb dX3_stepped_59 (by decide) (fun c_2 => ?_) (fun c_2 => ?_)
    · refine lv_iload_n hx hb dX3_stepped_64 rfl (lv_at hl 2 rfl) ?_
      refine lv_if_ne (tgt := 82) hx hb dX3_stepped_65 (by decide) (fun c_3 => ?_) (fun c_3 => ?_)
      · refine lv_lload_n hx hb dX3_stepped_82 rfl (lv_at hl 1 rfl) ?_
        refine lv_lconst (v := (0 : Int64)) hx hb dX3_stepped_83 (by decide) ?_
        refine zl_lt (tgt := 92) hx hb dX3_stepped_84 dX3_stepped_85 (by decide) (fun c_4 => ?_) (fun c_4 => ?_)
        · refine lv_iconst (v := (0 : Int32)) hx hb dX3_stepped_92 (by decide) ?_
          refine lv_istore (lv' := [(9, .int (0 : Int32)), (0, .int x0), (1, .long x1), (3, .int x3), (4, .int x4), (5, .int x5), (6, .long x6), (8, .int x8)]) hx hb dX3_stepped_93 hl (by decide) rfl (fun ls hl => ?_)
          exact sg_X3_stepped_95 hx hb hr hml hts hown hlocks x0 x1 x3 x4 x5 x6 x8 (0 : Int32) (by rw [hg]; unfold fn_X3_stepped_48; rw [if_neg c_1, if_pos c_2, if_neg c_3, if_pos c_4])  (lv_sub hl [1, 2, 3, 4, 5, 6, 7, 0] rfl)
        · refine lv_iconst (v := (1 : Int32)) hx hb dX3_stepped_88 (by decide) ?_
          refine lv_goto (tgt := 93) hx hb dX3_stepped_89 (by decide) ?_
          refine lv_istore (lv' := [(9, .int (1 : Int32)), (0, .int x0), (1, .long x1), (3, .int x3), (4, .int x4), (5, .int x5), (6, .long x6), (8, .int x8)]) hx hb dX3_stepped_93 hl (by decide) rfl (fun ls hl => ?_)
          exact sg_X3_stepped_95 hx hb hr hml hts hown hlocks x0 x1 x3 x4 x5 x6 x8 (1 : Int32) (by rw [hg]; unfold fn_X3_stepped_48; rw [if_neg c_1, if_pos c_2, if_neg c_3, if_neg c_4])  (lv_sub hl [1, 2, 3, 4, 5, 6, 7, 0] rfl)
      · refine lv_lload_n hx hb dX3_stepped_68 rfl (lv_at hl 1 rfl) ?_
        refine lv_lconst (v := (0 : Int64)) hx hb dX3_stepped_69 (by decide) ?_
        refine zl_ge (tgt := 78) hx hb dX3_stepped_70 dX3_stepped_71 (by decide) (fun c_5 => ?_) (fun c_5 => ?_)
        · refine lv_iconst (v := (0 : Int32)) hx hb dX3_stepped_78 (by decide) ?_
          refine lv_goto (tgt := 93) hx hb dX3_stepped_79 (by decide) ?_
          refine lv_istore (lv' := [(9, .int (0 : Int32)), (0, .int x0), (1, .long x1), (3, .int x3), (4, .int x4), (5, .int x5), (6, .long x6), (8, .int x8)]) hx hb dX3_stepped_93 hl (by decide) rfl (fun ls hl => ?_)
          exact sg_X3_stepped_95 hx hb hr hml hts hown hlocks x0 x1 x3 x4 x5 x6 x8 (0 : Int32) (by rw [hg]; unfold fn_X3_stepped_48; rw [if_neg c_1, if_pos c_2, if_pos c_3, if_pos c_5])  (lv_sub hl [1, 2, 3, 4, 5, 6, 7, 0] rfl)
        · refine lv_iconst (v := (1 : Int32)) hx hb dX3_stepped_74 (by decide) ?_
          refine lv_goto (tgt := 93) hx hb dX3_stepped_75 (by decide) ?_
          refine lv_istore (lv' := [(9, .int (1 : Int32)), (0, .int x0), (1, .long x1), (3, .int x3), (4, .int x4), (5, .int x5), (6, .long x6), (8, .int x8)]) hx hb dX3_stepped_93 hl (by decide) rfl (fun ls hl => ?_)
          exact sg_X3_stepped_95 hx hb hr hml hts hown hlocks x0 x1 x3 x4 x5 x6 x8 (1 : Int32) (by rw [hg]; unfold fn_X3_stepped_48; rw [if_neg c_1, if_pos c_2, if_pos c_3, if_neg c_5])  (lv_sub hl [1, 2, 3, 4, 5, 6, 7, 0] rfl)
    · refine lv_lload_n hx hb dX3_stepped_62 rfl (lv_at hl 1 rfl) ?_
      exact W.lret (v := x1) hx hb hr (fun t ht _ => ⟨_, rfl, by rw [hg]; unfold fn_X3_stepped_48; rw [if_neg c_1, if_neg c_2], ht⟩) (fun _ h => by cases h) dX3_stepped_63
def fn_X3_stepped_30 (x0 : Int32) (x1 : Int64) (x3 : Int32) (x4 : Int32) (x5 : Int32) : Int64 :=
  fn_X3_stepped_48 x0 x1 x3 x4 x5 (fn_X3_size x0 x1) ((Int64.toInt32 ((Int64.toUInt64 (fn_X3_size x0 x1) >>> (Int64.toUInt64 (Int32.toInt64 x4) &&& Int64.toUInt64 63)).toInt64)) - x5)
set_option maxHeartbeats 4000000 in
set_option maxRecDepth 100000 in
theorem sg_X3_stepped_30 {p : Program} {l : Launch} {e : Env} {s : State} {m : MethodId} {args : Array Value} {below : List Frame} {meth : Method} {c : Code} {ls : Array Slot} {g : Int64} (hx : p.tables.exec = Jvm.exec) (hb : c.code = cX3_stepped) (hr : meth.sig.returnType = (some .long)) (hml : c.maxLocals = 18) (hts : ∀ w ∈ wsX3_stepped, w.before args s = true) (hown : s.vm.findClass RX3 = some m.cls) (hlocks : meth.locks = false) (x0 : Int32) (x1 : Int64) (x3 : Int32) (x4 : Int32) (x5 : Int32) (hg : g = fn_X3_stepped_30 x0 x1 x3 x4 x5) (hl : lv_has ls 18 [(0, .int x0), (1, .long x1), (3, .int x3), (4, .int x4), (5, .int x5)]) : W p l e ({ frames := 1, cells := 0, slots := 0, locals := 23 } : Room) s m args below meth c s.heap [] 0 0 (MQ below (vp_Sl (fun r => r = g)) args s 0 0 (fun _ => False)) (F0 m 30 ls []) := by
  have hS : va_S (fun _ => False) s.heap s.heap [] := va_S.rf
  refine lv_iload_n hx hb dX3_stepped_30 rfl (lv_at hl 0 rfl) ?_
  refine lv_lload_n hx hb dX3_stepped_31 rfl (lv_at hl 1 rfl) ?_
  refine vp_callSl (W.runS (As := [.int x0, .long x1]) (rest := []) ⟨hx, hb, hml, hown, hts⟩ (ct_X3_size l x0 x1) (va_cwS 2 hts gX3_stepped_X3_size rfl rfl rfl (by decide +kernel) ⟨Nat.le_of_ble_eq_true rfl, Nat.le_of_ble_eq_true rfl⟩) ⟨(fun a U g mk q => ⟨q.1, trivial⟩), fun U hU hW9 => ⟨rfl, trivial⟩⟩ rfl rfl hl.1 rfl (lv_room (Nat.le_of_ble_eq_true rfl)) dX3_stepped_32 ⟨Nat.zero_le _, Nat.zero_le _⟩) (fun r er => ?_)
  subst er
  refine lv_lstore (lv' := [(6, .long (fn_X3_size x0 x1)), (0, .int x0), (1, .long x1), (3, .int x3), (4, .int x4), (5, .int x5)]) hx hb dX3_stepped_35 hl (by decide) rfl (fun ls hl => ?_)
  refine lv_lload hx hb dX3_stepped_37 (lv_at hl 0 rfl) ?_
  refine lv_iload hx hb dX3_stepped_39 (lv_at hl 4 rfl) ?_
  refine lv_lushr hx hb dX3_stepped_41 rfl ?_
  refine lv_l2i hx hb dX3_stepped_42 rfl ?_
  refine lv_iload hx hb dX3_stepped_43 (lv_at hl 5 rfl) ?_
  refine lv_isub hx hb dX3_stepped_45 ?_
  refine lv_istore (lv' := [(8, .int ((Int64.toInt32 ((Int64.toUInt64 (fn_X3_size x0 x1) >>> (Int64.toUInt64 (Int32.toInt64 x4) &&& Int64.toUInt64 63)).toInt64)) - x5)), (6, .long (fn_X3_size x0 x1)), (0, .int x0), (1, .long x1), (3, .int x3), (4, .int x4), (5, .int x5)]) hx hb dX3_stepped_46 hl (by decide) rfl (fun ls hl => ?_)
  exact sg_X3_stepped_48 hx hb hr hml hts hown hlocks x0 x1 x3 x4 x5 (fn_X3_size x0 x1) ((Int64.toInt32 ((Int64.toUInt64 (fn_X3_size x0 x1) >>> (Int64.toUInt64 (Int32.toInt64 x4) &&& Int64.toUInt64 63)).toInt64)) - x5) (by rw [hg]; rfl)  (lv_sub hl [2, 3, 4, 5, 6, 1, 0] rfl)
def fn_X3_stepped (v0 : Int32) (v1 : Int64) (v3 : Int32) : Int64 :=
  if (fn_X3_isFloating v0) = 0 then
    v1
  else
    if v0 = (2 : Int32) then
      fn_X3_stepped_30 v0 v1 v3 (fn_X3_fractionOf v0) (127 : Int32)
    else
      fn_X3_stepped_30 v0 v1 v3 (fn_X3_fractionOf v0) (1023 : Int32)
set_option maxHeartbeats 4000000 in
set_option maxRecDepth 100000 in
theorem ct_X3_stepped (l : Launch) (v0 : Int32) (v1 : Int64) (v3 : Int32) : Met l yX3_stepped wsX3_stepped ({ frames := 1, cells := 0, slots := 0, locals := 23 } : Room) (va_Pc [.int v0, .long v1, .int v3] (fun _ => True)) (vp_Sl (fun r => r = fn_X3_stepped v0 v1 v3)) 0 0 (fun _ => False) := by
  refine Met.ofW (cc := cX3_stepped) (maxL := 18) (ret := (some .long)) (by decide) rfl ?_
  intro p e s m args below meth c s₁ B hml hv
  obtain ⟨rfl, hW⟩ := hv
  have hx := B.exec
  have hb := B.bytes
  have hr := B.returns
  have hlocks := B.notSynchronized
  have hts := atoms_spec (ws := wsX3_stepped) B.pre
  have hown : s.vm.findClass RX3 = some m.cls := findClass_of_methodNamed B.named
  have hS : va_S (fun _ => False) s.heap s.heap [] := va_S.rf
  have hl := lv_entry ([.int v0, .long v1, .int v3]) (n := 18) (Nat.le_of_ble_eq_true rfl)
  rw [lg_entry_eq]
  generalize (lg_sl ([.int v0, .long v1, .int v3]) ++ List.replicate (18 - (lg_sl ([.int v0, .long v1, .int v3])).length) Slot.unset).toArray = ls at hl ⊢
  have hl : lv_has ls 18 [(0, .int v0), (1, .long v1), (3, .int v3)] := hl
  refine lv_iload_n hx hb dX3_stepped_0 rfl (lv_at hl 0 rfl) ?_
  refine vp_callSi (W.runS (As := [.int v0]) (rest := []) ⟨hx, hb, hml, hown, hts⟩ (ct_X3_isFloating l v0) (va_cwS 1 hts gX3_stepped_X3_isFloating rfl rfl rfl (by decide +kernel) ⟨Nat.le_of_ble_eq_true rfl, Nat.le_of_ble_eq_true rfl⟩) ⟨(fun a U g mk q => ⟨q.1, trivial⟩), fun U hU hW9 => ⟨rfl, trivial⟩⟩ rfl rfl hl.1 rfl (lv_room (Nat.le_of_ble_eq_true rfl)) dX3_stepped_1 ⟨Nat.zero_le _, Nat.zero_le _⟩) (fun r er => ?_)
  subst er
  refine lv_if_ne (tgt := 9) hx hb dX3_stepped_4 (by decide) (fun c_1 => ?_) (fun c_1 => ?_)
  · refine lv_iload_n hx hb dX3_stepped_9 rfl (lv_at hl 0 rfl) ?_
    refine vp_callSi (W.runS (As := [.int v0]) (rest := []) ⟨hx, hb, hml, hown, hts⟩ (ct_X3_fractionOf l v0) (va_cwS 1 hts gX3_stepped_X3_fractionOf rfl rfl rfl (by decide +kernel) ⟨Nat.le_of_ble_eq_true rfl, Nat.le_of_ble_eq_true rfl⟩) ⟨(fun a U g mk q => ⟨q.1, trivial⟩), fun U hU hW9 => ⟨rfl, trivial⟩⟩ rfl rfl hl.1 rfl (lv_room (Nat.le_of_ble_eq_true rfl)) dX3_stepped_10 ⟨Nat.zero_le _, Nat.zero_le _⟩) (fun r er => ?_)
    subst er
    refine lv_istore (lv' := [(4, .int (fn_X3_fractionOf v0)), (0, .int v0), (1, .long v1), (3, .int v3)]) hx hb dX3_stepped_13 hl (by decide) rfl (fun ls hl => ?_)
    refine lv_iload_n hx hb dX3_stepped_15 rfl (lv_at hl 1 rfl) ?_
    refine lv_iconst (v := (2 : Int32)) hx hb dX3_stepped_16 (by decide) ?_
    refine lv_icmp_ne (tgt := 25) hx hb dX3_stepped_17 (by decide) (fun c_2 => ?_) (fun c_2 => ?_)
    · refine lv_sipush (v := (1023 : Int32)) hx hb dX3_stepped_25 (by decide) ?_
      refine lv_istore (lv' := [(5, .int (1023 : Int32)), (4, .int (fn_X3_fractionOf v0)), (0, .int v0), (1, .long v1), (3, .int v3)]) hx hb dX3_stepped_28 hl (by decide) rfl (fun ls hl => ?_)
      exact sg_X3_stepped_30 hx hb hr hml hts hown hlocks v0 v1 v3 (fn_X3_fractionOf v0) (1023 : Int32) (by unfold fn_X3_stepped; rw [if_neg c_1, if_neg c_2])  (lv_sub hl [2, 3, 4, 1, 0] rfl)
    · refine lv_bipush (v := (127 : Int32)) hx hb dX3_stepped_20 (by decide) ?_
      refine lv_goto (tgt := 28) hx hb dX3_stepped_22 (by decide) ?_
      refine lv_istore (lv' := [(5, .int (127 : Int32)), (4, .int (fn_X3_fractionOf v0)), (0, .int v0), (1, .long v1), (3, .int v3)]) hx hb dX3_stepped_28 hl (by decide) rfl (fun ls hl => ?_)
      exact sg_X3_stepped_30 hx hb hr hml hts hown hlocks v0 v1 v3 (fn_X3_fractionOf v0) (127 : Int32) (by unfold fn_X3_stepped; rw [if_neg c_1, if_pos c_2])  (lv_sub hl [2, 3, 4, 1, 0] rfl)
  · refine lv_lload_n hx hb dX3_stepped_7 rfl (lv_at hl 1 rfl) ?_
    exact W.lret (v := v1) hx hb hr (fun t ht _ => ⟨_, rfl, by unfold fn_X3_stepped; rw [if_pos c_1], ht⟩) (fun _ h => by cases h) dX3_stepped_8
end
section
def fn_X3_nearest_240 (x0 : Int32) (x1 : Int32) (x13 : Int64) : Int64 :=
  fn_X3_signed x0 x13 x1
set_option maxHeartbeats 4000000 in
set_option maxRecDepth 100000 in
theorem sg_X3_nearest_240 {p : Program} {l : Launch} {e : Env} {s : State} {m : MethodId} {args : Array Value} {below : List Frame} {meth : Method} {c : Code} {ls : Array Slot} {g : Int64} (hx : p.tables.exec = Jvm.exec) (hb : c.code = cX3_nearest) (hr : meth.sig.returnType = (some .long)) (hml : c.maxLocals = 16) (hts : ∀ w ∈ wsX3_nearest, w.before args s = true) (hown : s.vm.findClass RX3 = some m.cls) (hlocks : meth.locks = false) (x0 : Int32) (x1 : Int32) (x13 : Int64) (hg : g = fn_X3_nearest_240 x0 x1 x13) (hl : lv_has ls 16 [(0, .int x0), (1, .int x1), (13, .long x13)]) : W p l e ({ frames := 1, cells := 0, slots := 0, locals := 23 } : Room) s m args below meth c s.heap [] 0 0 (MQ below (vp_Sl (fun r => r = g)) args s 0 0 (fun _ => False)) (F0 m 240 ls []) := by
  have hS : va_S (fun _ => False) s.heap s.heap [] := va_S.rf
  refine lv_iload_n hx hb dX3_nearest_240 rfl (lv_at hl 0 rfl) ?_
  refine lv_lload hx hb dX3_nearest_241 (lv_at hl 2 rfl) ?_
  refine lv_iload_n hx hb dX3_nearest_243 rfl (lv_at hl 1 rfl) ?_
  refine vp_callSl (W.runS (As := [.int x0, .long x13, .int x1]) (rest := []) ⟨hx, hb, hml, hown, hts⟩ (ct_X3_signed l x0 x13 x1) (va_cwS 3 hts gX3_nearest_X3_signed rfl rfl rfl (by decide +kernel) ⟨Nat.le_of_ble_eq_true rfl, Nat.le_of_ble_eq_true rfl⟩) ⟨(fun a U g mk q => ⟨q.1, trivial⟩), fun U hU hW9 => ⟨rfl, trivial⟩⟩ rfl rfl hl.1 rfl (lv_room (Nat.le_of_ble_eq_true rfl)) dX3_nearest_244 ⟨Nat.zero_le _, Nat.zero_le _⟩) (fun r er => ?_)
  subst er
  exact W.lret (v := fn_X3_signed x0 x13 x1) hx hb hr (fun t ht _ => ⟨_, rfl, by rw [hg]; rfl, ht⟩) (fun _ h => by cases h) dX3_nearest_247
def fn_X3_nearest_224 (x0 : Int32) (x1 : Int32) (x13 : Int64) : Int64 :=
  if x13 ≤ (fn_X3_endless x0) then
    fn_X3_nearest_240 x0 x1 x13
  else
    fn_X3_nearest_240 x0 x1 (fn_X3_endless x0)
set_option maxHeartbeats 4000000 in
set_option maxRecDepth 100000 in
theorem sg_X3_nearest_224 {p : Program} {l : Launch} {e : Env} {s : State} {m : MethodId} {args : Array Value} {below : List Frame} {meth : Method} {c : Code} {ls : Array Slot} {g : Int64} (hx : p.tables.exec = Jvm.exec) (hb : c.code = cX3_nearest) (hr : meth.sig.returnType = (some .long)) (hml : c.maxLocals = 16) (hts : ∀ w ∈ wsX3_nearest, w.before args s = true) (hown : s.vm.findClass RX3 = some m.cls) (hlocks : meth.locks = false) (x0 : Int32) (x1 : Int32) (x13 : Int64) (hg : g = fn_X3_nearest_224 x0 x1 x13) (hl : lv_has ls 16 [(0, .int x0), (1, .int x1), (13, .long x13)]) : W p l e ({ frames := 1, cells := 0, slots := 0, locals := 23 } : Room) s m args below meth c s.heap [] 0 0 (MQ below (vp_Sl (fun r => r = g)) args s 0 0 (fun _ => False)) (F0 m 224 ls []) := by
  have hS : va_S (fun _ => False) s.heap s.heap [] := va_S.rf
  refine lv_lload hx hb dX3_nearest_224 (lv_at hl 2 rfl) ?_
  refine lv_iload_n hx hb dX3_nearest_226 rfl (lv_at hl 0 rfl) ?_
  refine vp_callSl (W.runS (As := [.int x0]) (rest := [.long x13]) ⟨hx, hb, hml, hown, hts⟩ (ct_X3_endless l x0) (va_cwS 1 hts gX3_nearest_X3_endless rfl rfl rfl (by decide +kernel) ⟨Nat.le_of_ble_eq_true rfl, Nat.le_of_ble_eq_true rfl⟩) ⟨(fun a U g mk q => ⟨q.1, trivial⟩), fun U hU hW9 => ⟨rfl, trivial⟩⟩ rfl rfl hl.1 rfl (lv_room (Nat.le_of_ble_eq_true rfl)) dX3_nearest_227 ⟨Nat.zero_le _, Nat.zero_le _⟩) (fun r er => ?_)
  subst er
  refine zl_le (tgt := 240) hx hb dX3_nearest_230 dX3_nearest_231 (by decide) (fun c_1 => ?_) (fun c_1 => ?_)
  · exact sg_X3_nearest_240 hx hb hr hml hts hown hlocks x0 x1 x13 (by rw [hg]; unfold fn_X3_nearest_224; rw [if_pos c_1])  (lv_sub hl [0, 1, 2] rfl)
  · refine lv_iload_n hx hb dX3_nearest_234 rfl (lv_at hl 0 rfl) ?_
    refine vp_callSl (W.runS (As := [.int x0]) (rest := []) ⟨hx, hb, hml, hown, hts⟩ (ct_X3_endless l x0) (va_cwS 1 hts gX3_nearest_X3_endless rfl rfl rfl (by decide +kernel) ⟨Nat.le_of_ble_eq_true rfl, Nat.le_of_ble_eq_true rfl⟩) ⟨(fun a U g mk q => ⟨q.1, trivial⟩), fun U hU hW9 => ⟨rfl, trivial⟩⟩ rfl rfl hl.1 rfl (lv_room (Nat.le_of_ble_eq_true rfl)) dX3_nearest_235 ⟨Nat.zero_le _, Nat.zero_le _⟩) (fun r er => ?_)
    subst er
    refine lv_lstore (lv' := [(13, .long (fn_X3_endless x0)), (0, .int x0), (1, .int x1)]) hx hb dX3_nearest_238 hl (by decide) rfl (fun ls hl => ?_)
    exact sg_X3_nearest_240 hx hb hr hml hts hown hlocks x0 x1 (fn_X3_endless x0) (by rw [hg]; unfold fn_X3_nearest_224; rw [if_neg c_1])  (lv_sub hl [1, 2, 0] rfl)
def fn_X3_nearest_185 (x0 : Int32) (x1 : Int32) (x5 : Int32) (x6 : Int32) (x8 : Int32) (x9 : Int64) : Int64 :=
  if ((1 : Int64) <<< (Int32.toInt64 x5 &&& 63)) ≤ x9 then
    fn_X3_nearest_224 x0 x1 (((Int32.toInt64 ((x8 + x5) + x6)) <<< (Int32.toInt64 x5 &&& 63)) + (x9 - ((1 : Int64) <<< (Int32.toInt64 x5 &&& 63))))
  else
    fn_X3_nearest_224 x0 x1 x9
set_option maxHeartbeats 4000000 in
set_option maxRecDepth 100000 in
theorem sg_X3_nearest_185 {p : Program} {l : Launch} {e : Env} {s : State} {m : MethodId} {args : Array Value} {below : List Frame} {meth : Method} {c : Code} {ls : Array Slot} {g : Int64} (hx : p.tables.exec = Jvm.exec) (hb : c.code = cX3_nearest) (hr : meth.sig.returnType = (some .long)) (hml : c.maxLocals = 16) (hts : ∀ w ∈ wsX3_nearest, w.before args s = true) (hown : s.vm.findClass RX3 = some m.cls) (hlocks : meth.locks = false) (x0 : Int32) (x1 : Int32) (x5 : Int32) (x6 : Int32) (x8 : Int32) (x9 : Int64) (hg : g = fn_X3_nearest_185 x0 x1 x5 x6 x8 x9) (hl : lv_has ls 16 [(0, .int x0), (1, .int x1), (5, .int x5), (6, .int x6), (8, .int x8), (9, .long x9)]) : W p l e ({ frames := 1, cells := 0, slots := 0, locals := 23 } : Room) s m args below meth c s.heap [] 0 0 (MQ below (vp_Sl (fun r => r = g)) args s 0 0 (fun _ => False)) (F0 m 185 ls []) := by
  have hS : va_S (fun _ => False) s.heap s.heap [] := va_S.rf
  refine lv_lconst (v := (1 : Int64)) hx hb dX3_nearest_185 (by decide) ?_
  refine lv_iload hx hb dX3_nearest_186 (lv_at hl 2 rfl) ?_
  refine lv_lshl hx hb dX3_nearest_188 rfl ?_
  refine lv_lstore (lv' := [(11, .long ((1 : Int64) <<< (Int32.toInt64 x5 &&& 63))), (0, .int x0), (1, .int x1), (5, .int x5), (6, .int x6), (8, .int x8), (9, .long x9)]) hx hb dX3_nearest_189 hl (by decide) rfl (fun ls hl => ?_)
  refine lv_lload hx hb dX3_nearest_191 (lv_at hl 6 rfl) ?_
  refine lv_lload hx hb dX3_nearest_193 (lv_at hl 0 rfl) ?_
  refine zl_ge (tgt := 204) hx hb dX3_nearest_195 dX3_nearest_196 (by decide) (fun c_1 => ?_) (fun c_1 => ?_)
  · refine lv_iload hx hb dX3_nearest_204 (lv_at hl 5 rfl) ?_
    refine lv_iload hx hb dX3_nearest_206 (lv_at hl 3 rfl) ?_
    refine lv_iadd hx hb dX3_nearest_208 ?_
    refine lv_iload hx hb dX3_nearest_209 (lv_at hl 4 rfl) ?_
    refine lv_iadd hx hb dX3_nearest_211 ?_
    refine lv_i2l hx hb dX3_nearest_212 rfl ?_
    refine lv_iload hx hb dX3_nearest_213 (lv_at hl 3 rfl) ?_
    refine lv_lshl hx hb dX3_nearest_215 rfl ?_
    refine lv_lload hx hb dX3_nearest_216 (lv_at hl 6 rfl) ?_
    refine lv_lload hx hb dX3_nearest_218 (lv_at hl 0 rfl) ?_
    refine lv_lsub hx hb dX3_nearest_220 ?_
    refine lv_ladd hx hb dX3_nearest_221 ?_
    refine lv_lstore (lv' := [(13, .long (((Int32.toInt64 ((x8 + x5) + x6)) <<< (Int32.toInt64 x5 &&& 63)) + (x9 - ((1 : Int64) <<< (Int32.toInt64 x5 &&& 63))))), (11, .long ((1 : Int64) <<< (Int32.toInt64 x5 &&& 63))), (0, .int x0), (1, .int x1), (5, .int x5), (6, .int x6), (8, .int x8), (9, .long x9)]) hx hb dX3_nearest_222 hl (by decide) rfl (fun ls hl => ?_)
    exact sg_X3_nearest_224 hx hb hr hml hts hown hlocks x0 x1 (((Int32.toInt64 ((x8 + x5) + x6)) <<< (Int32.toInt64 x5 &&& 63)) + (x9 - ((1 : Int64) <<< (Int32.toInt64 x5 &&& 63)))) (by rw [hg]; unfold fn_X3_nearest_185; rw [if_pos c_1])  (lv_sub hl [2, 3, 0] rfl)
  · refine lv_lload hx hb dX3_nearest_199 (lv_at hl 6 rfl) ?_
    refine lv_goto (tgt := 222) hx hb dX3_nearest_201 (by decide) ?_
    refine lv_lstore (lv' := [(13, .long x9), (11, .long ((1 : Int64) <<< (Int32.toInt64 x5 &&& 63))), (0, .int x0), (1, .int x1), (5, .int x5), (6, .int x6), (8, .int x8), (9, .long x9)]) hx hb dX3_nearest_222 hl (by decide) rfl (fun ls hl => ?_)
    exact sg_X3_nearest_224 hx hb hr hml hts hown hlocks x0 x1 x9 (by rw [hg]; unfold fn_X3_nearest_185; rw [if_neg c_1])  (lv_sub hl [2, 3, 0] rfl)
def fn_X3_nearest_154 (x0 : Int32) (x1 : Int32) (x5 : Int32) (x6 : Int32) (x8 : Int32) (x9 : Int64) (x12 : Int64) (x14 : Int64) : Int64 :=
  if x14 < x12 then
    fn_X3_nearest_185 x0 x1 x5 x6 x8 (x9 + (1 : Int64))
  else
    if x12 = x14 then
      if (x9 &&& (1 : Int64)) = (1 : Int64) then
        fn_X3_nearest_185 x0 x1 x5 x6 x8 (x9 + (1 : Int64))
      else
        fn_X3_nearest_185 x0 x1 x5 x6 x8 x9
    else
      fn_X3_nearest_185 x0 x1 x5 x6 x8 x9
set_option maxHeartbeats 4000000 in
set_option maxRecDepth 100000 in
theorem sg_X3_nearest_154 {p : Program} {l : Launch} {e : Env} {s : State} {m : MethodId} {args : Array Value} {below : List Frame} {meth : Method} {c : Code} {ls : Array Slot} {g : Int64} (hx : p.tables.exec = Jvm.exec) (hb : c.code = cX3_nearest) (hr : meth.sig.returnType = (some .long)) (hml : c.maxLocals = 16) (hts : ∀ w ∈ wsX3_nearest, w.before args s = true) (hown : s.vm.findClass RX3 = some m.cls) (hlocks : meth.locks = false) (x0 : Int32) (x1 : Int32) (x5 : Int32) (x6 : Int32) (x8 : Int32) (x9 : Int64) (x12 : Int64) (x14 : Int64) (hg : g = fn_X3_nearest_154 x0 x1 x5 x6 x8 x9 x12 x14) (hl : lv_has ls 16 [(0, .int x0), (1, .int x1), (5, .int x5), (6, .int x6), (8, .int x8), (9, .long x9), (12, .long x12), (14, .long x14)]) : W p l e ({ frames := 1, cells := 0, slots := 0, locals := 23 } : Room) s m args below meth c s.heap [] 0 0 (MQ below (vp_Sl (fun r => r = g)) args s 0 0 (fun _ => False)) (F0 m 154 ls []) := by
  have hS : va_S (fun _ => False) s.heap s.heap [] := va_S.rf
  refine lv_lload hx hb dX3_nearest_154 (lv_at hl 6 rfl) ?_
  refine lv_lload hx hb dX3_nearest_156 (lv_at hl 7 rfl) ?_
  refine zl_gt (tgt := 179) hx hb dX3_nearest_158 dX3_nearest_159 (by decide) (fun c_1 => ?_) (fun c_1 => ?_)
  · refine lv_lload hx hb dX3_nearest_179 (lv_at hl 5 rfl) ?_
    refine lv_lconst (v := (1 : Int64)) hx hb dX3_nearest_181 (by decide) ?_
    refine lv_ladd hx hb dX3_nearest_182 ?_
    refine lv_lstore (lv' := [(9, .long (x9 + (1 : Int64))), (0, .int x0), (1, .int x1), (5, .int x5), (6, .int x6), (8, .int x8), (12, .long x12), (14, .long x14)]) hx hb dX3_nearest_183 hl (by decide) rfl (fun ls hl => ?_)
    exact sg_X3_nearest_185 hx hb hr hml hts hown hlocks x0 x1 x5 x6 x8 (x9 + (1 : Int64)) (by rw [hg]; unfold fn_X3_nearest_154; rw [if_pos c_1])  (lv_sub hl [1, 2, 3, 4, 5, 0] rfl)
  · refine lv_lload hx hb dX3_nearest_162 (lv_at hl 6 rfl) ?_
    refine lv_lload hx hb dX3_nearest_164 (lv_at hl 7 rfl) ?_
    refine zl_ne (tgt := 185) hx hb dX3_nearest_166 dX3_nearest_167 (by decide) (fun c_2 => ?_) (fun c_2 => ?_)
    · exact sg_X3_nearest_185 hx hb hr hml hts hown hlocks x0 x1 x5 x6 x8 x9 (by rw [hg]; unfold fn_X3_nearest_154; rw [if_neg c_1, if_neg c_2])  (lv_sub hl [0, 1, 2, 3, 4, 5] rfl)
    · refine lv_lload hx hb dX3_nearest_170 (lv_at hl 5 rfl) ?_
      refine lv_lconst (v := (1 : Int64)) hx hb dX3_nearest_172 (by decide) ?_
      refine lv_land hx hb dX3_nearest_173 ?_
      refine lv_lconst (v := (1 : Int64)) hx hb dX3_nearest_174 (by decide) ?_
      refine zl_ne (tgt := 185) hx hb dX3_nearest_175 dX3_nearest_176 (by decide) (fun c_3 => ?_) (fun c_3 => ?_)
      · exact sg_X3_nearest_185 hx hb hr hml hts hown hlocks x0 x1 x5 x6 x8 x9 (by rw [hg]; unfold fn_X3_nearest_154; rw [if_neg c_1, if_pos c_2, if_neg c_3])  (lv_sub hl [0, 1, 2, 3, 4, 5] rfl)
      · refine lv_lload hx hb dX3_nearest_179 (lv_at hl 5 rfl) ?_
        refine lv_lconst (v := (1 : Int64)) hx hb dX3_nearest_181 (by decide) ?_
        refine lv_ladd hx hb dX3_nearest_182 ?_
        refine lv_lstore (lv' := [(9, .long (x9 + (1 : Int64))), (0, .int x0), (1, .int x1), (5, .int x5), (6, .int x6), (8, .int x8), (12, .long x12), (14, .long x14)]) hx hb dX3_nearest_183 hl (by decide) rfl (fun ls hl => ?_)
        exact sg_X3_nearest_185 hx hb hr hml hts hown hlocks x0 x1 x5 x6 x8 (x9 + (1 : Int64)) (by rw [hg]; unfold fn_X3_nearest_154; rw [if_neg c_1, if_pos c_2, if_pos c_3])  (lv_sub hl [1, 2, 3, 4, 5, 0] rfl)
def fn_X3_nearest_137 (x0 : Int32) (x1 : Int32) (x2 : Int64) (x5 : Int32) (x6 : Int32) (x8 : Int32) (x9 : Int64) (x11 : Int32) : Int64 :=
  fn_X3_nearest_154 x0 x1 x5 x6 x8 x9 (x2 - (x9 <<< (Int32.toInt64 x11 &&& 63))) ((1 : Int64) <<< (Int32.toInt64 (x11 - (1 : Int32)) &&& 63))
set_option maxHeartbeats 4000000 in
set_option maxRecDepth 100000 in
theorem sg_X3_nearest_137 {p : Program} {l : Launch} {e : Env} {s : State} {m : MethodId} {args : Array Value} {below : List Frame} {meth : Method} {c : Code} {ls : Array Slot} {g : Int64} (hx : p.tables.exec = Jvm.exec) (hb : c.code = cX3_nearest) (hr : meth.sig.returnType = (some .long)) (hml : c.maxLocals = 16) (hts : ∀ w ∈ wsX3_nearest, w.before args s = true) (hown : s.vm.findClass RX3 = some m.cls) (hlocks : meth.locks = false) (x0 : Int32) (x1 : Int32) (x2 : Int64) (x5 : Int32) (x6 : Int32) (x8 : Int32) (x9 : Int64) (x11 : Int32) (hg : g = fn_X3_nearest_137 x0 x1 x2 x5 x6 x8 x9 x11) (hl : lv_has ls 16 [(0, .int x0), (1, .int x1), (2, .long x2), (5, .int x5), (6, .int x6), (8, .int x8), (9, .long x9), (11, .int x11)]) : W p l e ({ frames := 1, cells := 0, slots := 0, locals := 23 } : Room) s m args below meth c s.heap [] 0 0 (MQ below (vp_Sl (fun r => r = g)) args s 0 0 (fun _ => False)) (F0 m 137 ls []) := by
  have hS : va_S (fun _ => False) s.heap s.heap [] := va_S.rf
  refine lv_lload_n hx hb dX3_nearest_137 rfl (lv_at hl 2 rfl) ?_
  refine lv_lload hx hb dX3_nearest_138 (lv_at hl 6 rfl) ?_
  refine lv_iload hx hb dX3_nearest_140 (lv_at hl 7 rfl) ?_
  refine lv_lshl hx hb dX3_nearest_142 rfl ?_
  refine lv_lsub hx hb dX3_nearest_143 ?_
  refine lv_lstore (lv' := [(12, .long (x2 - (x9 <<< (Int32.toInt64 x11 &&& 63)))), (0, .int x0), (1, .int x1), (2, .long x2), (5, .int x5), (6, .int x6), (8, .int x8), (9, .long x9), (11, .int x11)]) hx hb dX3_nearest_144 hl (by decide) rfl (fun ls hl => ?_)
  refine lv_lconst (v := (1 : Int64)) hx hb dX3_nearest_146 (by decide) ?_
  refine lv_iload hx hb dX3_nearest_147 (lv_at hl 8 rfl) ?_
  refine lv_iconst (v := (1 : Int32)) hx hb dX3_nearest_149 (by decide) ?_
  refine lv_isub hx hb dX3_nearest_150 ?_
  refine lv_lshl hx hb dX3_nearest_151 rfl ?_
  refine lv_lstore (lv' := [(14, .long ((1 : Int64) <<< (Int32.toInt64 (x11 - (1 : Int32)) &&& 63))), (12, .long (x2 - (x9 <<< (Int32.toInt64 x11 &&& 63)))), (0, .int x0), (1, .int x1), (2, .long x2), (5, .int x5), (6, .int x6), (8, .int x8), (9, .long x9), (11, .int x11)]) hx hb dX3_nearest_152 hl (by decide) rfl (fun ls hl => ?_)
  exact sg_X3_nearest_154 hx hb hr hml hts hown hlocks x0 x1 x5 x6 x8 x9 (x2 - (x9 <<< (Int32.toInt64 x11 &&& 63))) ((1 : Int64) <<< (Int32.toInt64 (x11 - (1 : Int32)) &&& 63)) (by rw [hg]; rfl)  (lv_sub hl [2, 3, 5, 6, 7, 8, 1, 0] rfl)
def fn_X3_nearest_131 (x0 : Int32) (x1 : Int32) (x2 : Int64) (x5 : Int32) (x6 : Int32) (x8 : Int32) (x11 : Int32) : Int64 :=
  fn_X3_nearest_137 x0 x1 x2 x5 x6 x8 ((Int64.toUInt64 x2 >>> (Int64.toUInt64 (Int32.toInt64 x11) &&& Int64.toUInt64 63)).toInt64) x11
set_option maxHeartbeats 4000000 in
set_option maxRecDepth 100000 in
theorem sg_X3_nearest_131 {p : Program} {l : Launch} {e : Env} {s : State} {m : MethodId} {args : Array Value} {below : List Frame} {meth : Method} {c : Code} {ls : Array Slot} {g : Int64} (hx : p.tables.exec = Jvm.exec) (hb : c.code = cX3_nearest) (hr : meth.sig.returnType = (some .long)) (hml : c.maxLocals = 16) (hts : ∀ w ∈ wsX3_nearest, w.before args s = true) (hown : s.vm.findClass RX3 = some m.cls) (hlocks : meth.locks = false) (x0 : Int32) (x1 : Int32) (x2 : Int64) (x5 : Int32) (x6 : Int32) (x8 : Int32) (x11 : Int32) (hg : g = fn_X3_nearest_131 x0 x1 x2 x5 x6 x8 x11) (hl : lv_has ls 16 [(0, .int x0), (1, .int x1), (2, .long x2), (5, .int x5), (6, .int x6), (8, .int x8), (11, .int x11)]) : W p l e ({ frames := 1, cells := 0, slots := 0, locals := 23 } : Room) s m args below meth c s.heap [] 0 0 (MQ below (vp_Sl (fun r => r = g)) args s 0 0 (fun _ => False)) (F0 m 131 ls []) := by
  have hS : va_S (fun _ => False) s.heap s.heap [] := va_S.rf
  refine lv_lload_n hx hb dX3_nearest_131 rfl (lv_at hl 2 rfl) ?_
  refine lv_iload hx hb dX3_nearest_132 (lv_at hl 6 rfl) ?_
  refine lv_lushr hx hb dX3_nearest_134 rfl ?_
  refine lv_lstore (lv' := [(9, .long ((Int64.toUInt64 x2 >>> (Int64.toUInt64 (Int32.toInt64 x11) &&& Int64.toUInt64 63)).toInt64)), (0, .int x0), (1, .int x1), (2, .long x2), (5, .int x5), (6, .int x6), (8, .int x8), (11, .int x11)]) hx hb dX3_nearest_135 hl (by decide) rfl (fun ls hl => ?_)
  exact sg_X3_nearest_137 hx hb hr hml hts hown hlocks x0 x1 x2 x5 x6 x8 ((Int64.toUInt64 x2 >>> (Int64.toUInt64 (Int32.toInt64 x11) &&& Int64.toUInt64 63)).toInt64) x11 (by rw [hg]; rfl)  (lv_sub hl [1, 2, 3, 4, 5, 6, 0, 7] rfl)
def fn_X3_nearest_124 (x0 : Int32) (x1 : Int32) (x2 : Int64) (x4 : Int32) (x5 : Int32) (x6 : Int32) (x8 : Int32) : Int64 :=
  fn_X3_nearest_131 x0 x1 x2 x5 x6 x8 (x8 - x4)
set_option maxHeartbeats 4000000 in
set_option maxRecDepth 100000 in
theorem sg_X3_nearest_124 {p : Program} {l : Launch} {e : Env} {s : State} {m : MethodId} {args : Array Value} {below : List Frame} {meth : Method} {c : Code} {ls : Array Slot} {g : Int64} (hx : p.tables.exec = Jvm.exec) (hb : c.code = cX3_nearest) (hr : meth.sig.returnType = (some .long)) (hml : c.maxLocals = 16) (hts : ∀ w ∈ wsX3_nearest, w.before args s = true) (hown : s.vm.findClass RX3 = some m.cls) (hlocks : meth.locks = false) (x0 : Int32) (x1 : Int32) (x2 : Int64) (x4 : Int32) (x5 : Int32) (x6 : Int32) (x8 : Int32) (hg : g = fn_X3_nearest_124 x0 x1 x2 x4 x5 x6 x8) (hl : lv_has ls 16 [(0, .int x0), (1, .int x1), (2, .long x2), (4, .int x4), (5, .int x5), (6, .int x6), (8, .int x8)]) : W p l e ({ frames := 1, cells := 0, slots := 0, locals := 23 } : Room) s m args below meth c s.heap [] 0 0 (MQ below (vp_Sl (fun r => r = g)) args s 0 0 (fun _ => False)) (F0 m 124 ls []) := by
  have hS : va_S (fun _ => False) s.heap s.heap [] := va_S.rf
  refine lv_iload hx hb dX3_nearest_124 (lv_at hl 6 rfl) ?_
  refine lv_iload hx hb dX3_nearest_126 (lv_at hl 3 rfl) ?_
  refine lv_isub hx hb dX3_nearest_128 ?_
  refine lv_istore (lv' := [(11, .int (x8 - x4)), (0, .int x0), (1, .int x1), (2, .long x2), (4, .int x4), (5, .int x5), (6, .int x6), (8, .int x8)]) hx hb dX3_nearest_129 hl (by decide) rfl (fun ls hl => ?_)
  exact sg_X3_nearest_131 hx hb hr hml hts hown hlocks x0 x1 x2 x5 x6 x8 (x8 - x4) (by rw [hg]; rfl)  (lv_sub hl [1, 2, 3, 5, 6, 7, 0] rfl)
def fn_X3_nearest_86 (x0 : Int32) (x1 : Int32) (x2 : Int64) (x4 : Int32) (x5 : Int32) (x6 : Int32) (x8 : Int32) : Int64 :=
  if x4 < x8 then
    if (x8 - x4) ≤ (63 : Int32) then
      fn_X3_nearest_124 x0 x1 x2 x4 x5 x6 x8
    else
      fn_X3_nearest_185 x0 x1 x5 x6 x8 (0 : Int64)
  else
    fn_X3_nearest_185 x0 x1 x5 x6 x8 (x2 <<< (Int32.toInt64 (x4 - x8) &&& 63))
set_option maxHeartbeats 4000000 in
set_option maxRecDepth 100000 in
theorem sg_X3_nearest_86 {p : Program} {l : Launch} {e : Env} {s : State} {m : MethodId} {args : Array Value} {below : List Frame} {meth : Method} {c : Code} {ls : Array Slot} {g : Int64} (hx : p.tables.exec = Jvm.exec) (hb : c.code = cX3_nearest) (hr : meth.sig.returnType = (some .long)) (hml : c.maxLocals = 16) (hts : ∀ w ∈ wsX3_nearest, w.before args s = true) (hown : s.vm.findClass RX3 = some m.cls) (hlocks : meth.locks = false) (x0 : Int32) (x1 : Int32) (x2 : Int64) (x4 : Int32) (x5 : Int32) (x6 : Int32) (x8 : Int32) (hg : g = fn_X3_nearest_86 x0 x1 x2 x4 x5 x6 x8) (hl : lv_has ls 16 [(0, .int x0), (1, .int x1), (2, .long x2), (4, .int x4), (5, .int x5), (6, .int x6), (8, .int x8)]) : W p l e ({ frames := 1, cells := 0, slots := 0, locals := 23 } : Room) s m args below meth c s.heap [] 0 0 (MQ below (vp_Sl (fun r => r = g)) args s 0 0 (fun _ => False)) (F0 m 86 ls []) := by
  have hS : va_S (fun _ => False) s.heap s.heap [] := va_S.rf
  refine lv_lload_n hx hb dX3_nearest_86 rfl (lv_at hl 2 rfl) ?_
  refine lv_lstore (lv' := [(9, .long x2), (0, .int x0), (1, .int x1), (2, .long x2), (4, .int x4), (5, .int x5), (6, .int x6), (8, .int x8)]) hx hb dX3_nearest_87 hl (by decide) rfl (fun ls hl => ?_)
  refine lv_iload hx hb dX3_nearest_89 (lv_at hl 4 rfl) ?_
  refine lv_iload hx hb dX3_nearest_91 (lv_at hl 7 rfl) ?_
  refine lv_icmp_lt (tgt := 108) hx hb dX3_nearest_93 (by decide) (fun c_1 => ?_) (fun c_1 => ?_)
  · refine lv_iload hx hb dX3_nearest_108 (lv_at hl 7 rfl) ?_
    refine lv_iload hx hb dX3_nearest_110 (lv_at hl 4 rfl) ?_
    refine lv_isub hx hb dX3_nearest_112 ?_
    refine lv_bipush (v := (63 : Int32)) hx hb dX3_nearest_113 (by decide) ?_
    refine lv_icmp_le (tgt := 124) hx hb dX3_nearest_115 (by decide) (fun c_2 => ?_) (fun c_2 => ?_)
    · exact sg_X3_nearest_124 hx hb hr hml hts hown hlocks x0 x1 x2 x4 x5 x6 x8 (by rw [hg]; unfold fn_X3_nearest_86; rw [if_pos c_1, if_pos c_2])  (lv_sub hl [1, 2, 3, 4, 5, 6, 7] rfl)
    · refine lv_lconst (v := (0 : Int64)) hx hb dX3_nearest_118 (by decide) ?_
      refine lv_lstore (lv' := [(9, .long (0 : Int64)), (0, .int x0), (1, .int x1), (2, .long x2), (4, .int x4), (5, .int x5), (6, .int x6), (8, .int x8)]) hx hb dX3_nearest_119 hl (by decide) rfl (fun ls hl => ?_)
      refine lv_goto (tgt := 185) hx hb dX3_nearest_121 (by decide) ?_
      exact sg_X3_nearest_185 hx hb hr hml hts hown hlocks x0 x1 x5 x6 x8 (0 : Int64) (by rw [hg]; unfold fn_X3_nearest_86; rw [if_pos c_1, if_neg c_2])  (lv_sub hl [1, 2, 5, 6, 7, 0] rfl)
  · refine lv_lload_n hx hb dX3_nearest_96 rfl (lv_at hl 3 rfl) ?_
    refine lv_iload hx hb dX3_nearest_97 (lv_at hl 4 rfl) ?_
    refine lv_iload hx hb dX3_nearest_99 (lv_at hl 7 rfl) ?_
    refine lv_isub hx hb dX3_nearest_101 ?_
    refine lv_lshl hx hb dX3_nearest_102 rfl ?_
    refine lv_lstore (lv' := [(9, .long (x2 <<< (Int32.toInt64 (x4 - x8) &&& 63))), (0, .int x0), (1, .int x1), (2, .long x2), (4, .int x4), (5, .int x5), (6, .int x6), (8, .int x8)]) hx hb dX3_nearest_103 hl (by decide) rfl (fun ls hl => ?_)
    refine lv_goto (tgt := 185) hx hb dX3_nearest_105 (by decide) ?_
    exact sg_X3_nearest_185 hx hb hr hml hts hown hlocks x0 x1 x5 x6 x8 (x2 <<< (Int32.toInt64 (x4 - x8) &&& 63)) (by rw [hg]; unfold fn_X3_nearest_86; rw [if_neg c_1])  (lv_sub hl [1, 2, 5, 6, 7, 0] rfl)
def fn_X3_nearest_65 (x0 : Int32) (x1 : Int32) (x2 : Int64) (x4 : Int32) (x5 : Int32) (x6 : Int32) (x8 : Int32) : Int64 :=
  if (((1 : Int32) - x6) - x5) ≤ x8 then
    fn_X3_nearest_86 x0 x1 x2 x4 x5 x6 x8
  else
    fn_X3_nearest_86 x0 x1 x2 x4 x5 x6 (((1 : Int32) - x6) - x5)
set_option maxHeartbeats 4000000 in
set_option maxRecDepth 100000 in
theorem sg_X3_nearest_65 {p : Program} {l : Launch} {e : Env} {s : State} {m : MethodId} {args : Array Value} {below : List Frame} {meth : Method} {c : Code} {ls : Array Slot} {g : Int64} (hx : p.tables.exec = Jvm.exec) (hb : c.code = cX3_nearest) (hr : meth.sig.returnType = (some .long)) (hml : c.maxLocals = 16) (hts : ∀ w ∈ wsX3_nearest, w.before args s = true) (hown : s.vm.findClass RX3 = some m.cls) (hlocks : meth.locks = false) (x0 : Int32) (x1 : Int32) (x2 : Int64) (x4 : Int32) (x5 : Int32) (x6 : Int32) (x8 : Int32) (hg : g = fn_X3_nearest_65 x0 x1 x2 x4 x5 x6 x8) (hl : lv_has ls 16 [(0, .int x0), (1, .int x1), (2, .long x2), (4, .int x4), (5, .int x5), (6, .int x6), (8, .int x8)]) : W p l e ({ frames := 1, cells := 0, slots := 0, locals := 23 } : Room) s m args below meth c s.heap [] 0 0 (MQ below (vp_Sl (fun r => r = g)) args s 0 0 (fun _ => False)) (F0 m 65 ls []) := by
  have hS : va_S (fun _ => False) s.heap s.heap [] := va_S.rf
  refine lv_iload hx hb dX3_nearest_65 (lv_at hl 6 rfl) ?_
  refine lv_iconst (v := (1 : Int32)) hx hb dX3_nearest_67 (by decide) ?_
  refine lv_iload hx hb dX3_nearest_68 (lv_at hl 5 rfl) ?_
  refine lv_isub hx hb dX3_nearest_70 ?_
  refine lv_iload hx hb dX3_nearest_71 (lv_at hl 4 rfl) ?_
  refine lv_isub hx hb dX3_nearest_73 ?_
  refine lv_icmp_ge (tgt := 86) hx hb dX3_nearest_74 (by decide) (fun c_1 => ?_) (fun c_1 => ?_)
  · exact sg_X3_nearest_86 hx hb hr hml hts hown hlocks x0 x1 x2 x4 x5 x6 x8 (by rw [hg]; unfold fn_X3_nearest_65; rw [if_pos c_1])  (lv_sub hl [0, 1, 2, 3, 4, 5, 6] rfl)
  · refine lv_iconst (v := (1 : Int32)) hx hb dX3_nearest_77 (by decide) ?_
    refine lv_iload hx hb dX3_nearest_78 (lv_at hl 5 rfl) ?_
    refine lv_isub hx hb dX3_nearest_80 ?_
    refine lv_iload hx hb dX3_nearest_81 (lv_at hl 4 rfl) ?_
    refine lv_isub hx hb dX3_nearest_83 ?_
    refine lv_istore (lv' := [(8, .int (((1 : Int32) - x6) - x5)), (0, .int x0), (1, .int x1), (2, .long x2), (4, .int x4), (5, .int x5), (6, .int x6)]) hx hb dX3_nearest_84 hl (by decide) rfl (fun ls hl => ?_)
    exact sg_X3_nearest_86 hx hb hr hml hts hown hlocks x0 x1 x2 x4 x5 x6 (((1 : Int32) - x6) - x5) (by rw [hg]; unfold fn_X3_nearest_65; rw [if_neg c_1])  (lv_sub hl [1, 2, 3, 4, 5, 6, 0] rfl)
def fn_X3_nearest_55 (x0 : Int32) (x1 : Int32) (x2 : Int64) (x4 : Int32) (x5 : Int32) (x6 : Int32) (x7 : Int32) : Int64 :=
  fn_X3_nearest_65 x0 x1 x2 x4 x5 x6 ((x7 + x4) - x5)
set_option maxHeartbeats 4000000 in
set_option maxRecDepth 100000 in
theorem sg_X3_nearest_55 {p : Program} {l : Launch} {e : Env} {s : State} {m : MethodId} {args : Array Value} {below : List Frame} {meth : Method} {c : Code} {ls : Array Slot} {g : Int64} (hx : p.tables.exec = Jvm.exec) (hb : c.code = cX3_nearest) (hr : meth.sig.returnType = (some .long)) (hml : c.maxLocals = 16) (hts : ∀ w ∈ wsX3_nearest, w.before args s = true) (hown : s.vm.findClass RX3 = some m.cls) (hlocks : meth.locks = false) (x0 : Int32) (x1 : Int32) (x2 : Int64) (x4 : Int32) (x5 : Int32) (x6 : Int32) (x7 : Int32) (hg : g = fn_X3_nearest_55 x0 x1 x2 x4 x5 x6 x7) (hl : lv_has ls 16 [(0, .int x0), (1, .int x1), (2, .long x2), (4, .int x4), (5, .int x5), (6, .int x6), (7, .int x7)]) : W p l e ({ frames := 1, cells := 0, slots := 0, locals := 23 } : Room) s m args below meth c s.heap [] 0 0 (MQ below (vp_Sl (fun r => r = g)) args s 0 0 (fun _ => False)) (F0 m 55 ls []) := by
  have hS : va_S (fun _ => False) s.heap s.heap [] := va_S.rf
  refine lv_iload hx hb dX3_nearest_55 (lv_at hl 6 rfl) ?_
  refine lv_iload hx hb dX3_nearest_57 (lv_at hl 3 rfl) ?_
  refine lv_iadd hx hb dX3_nearest_59 ?_
  refine lv_iload hx hb dX3_nearest_60 (lv_at hl 4 rfl) ?_
  refine lv_isub hx hb dX3_nearest_62 ?_
  refine lv_istore (lv' := [(8, .int ((x7 + x4) - x5)), (0, .int x0), (1, .int x1), (2, .long x2), (4, .int x4), (5, .int x5), (6, .int x6), (7, .int x7)]) hx hb dX3_nearest_63 hl (by decide) rfl (fun ls hl => ?_)
  exact sg_X3_nearest_65 hx hb hr hml hts hown hlocks x0 x1 x2 x4 x5 x6 ((x7 + x4) - x5) (by rw [hg]; rfl)  (lv_sub hl [1, 2, 3, 4, 5, 6, 0] rfl)
def fn_X3_nearest_38 (x0 : Int32) (x1 : Int32) (x2 : Int64) (x4 : Int32) (x5 : Int32) (x6 : Int32) (_ : Int32) : Int64 := fn_X3_nearest_55 x0 x1 x2 x4 x5 x6 (nI (tb x2))
set_option maxHeartbeats 4000000 in
set_option maxRecDepth 100000 in
theorem sl_X3_nearest_38 {p : Program} {l : Launch} {e : Env} {s : State} {m : MethodId} {args : Array Value} {below : List Frame} {meth : Method} {c : Code} {g : Int64} (hx : p.tables.exec = Jvm.exec) (hb : c.code = cX3_nearest) (hr : meth.sig.returnType = (some .long)) (hml : c.maxLocals = 16) (hts : ∀ w ∈ wsX3_nearest, w.before args s = true) (hown : s.vm.findClass RX3 = some m.cls) (hlocks : meth.locks = false) (x0 : Int32) (x1 : Int32) (x2 : Int64) (x4 : Int32) (x5 : Int32) (x6 : Int32) (hg : g = fn_X3_nearest_55 x0 x1 x2 x4 x5 x6 (nI (tb x2))) (h0 : ¬ x2 = 0) : ∀ n : Nat, tb x2 ≤ n → n < 64 → ∀ ls : Array Slot, lv_has ls 16 [(0, .int x0), (1, .int x1), (2, .long x2), (4, .int x4), (5, .int x5), (6, .int x6), (7, .int (nI n))] → W p l e ({ frames := 1, cells := 0, slots := 0, locals := 23 } : Room) s m args below meth c s.heap [] 0 0 (MQ below (vp_Sl (fun r => r = g)) args s 0 0 (fun _ => False)) (F0 m 38 ls []) := by
  intro n
  induction n with
  | zero =>
    intro ht hn ls hl
    refine lv_lload_n hx hb dX3_nearest_38 rfl (lv_at hl 2 rfl) ?_
    refine lv_iload hx hb dX3_nearest_39 (lv_at hl 6 rfl) ?_
    refine lv_lushr hx hb dX3_nearest_41 rfl ?_
    refine lv_lconst (v := (1 : Int64)) hx hb dX3_nearest_42 (by decide) ?_
    refine lv_land hx hb dX3_nearest_43 ?_
    refine lv_lconst (v := (0 : Int64)) hx hb dX3_nearest_44 (by decide) ?_
    refine zl_ne (tgt := 55) hx hb dX3_nearest_45 dX3_nearest_46 (by decide) (fun c_1 => ?_) (fun c_1 => ?_)
    · have e9 : 0 = tb x2 := Decidable.byContradiction (fun q => c_1 ((tb_bit h0 hn ht).mpr q))
      have e8 : nI (0) = nI (tb x2) := congrArg nI e9
      rw [e8] at hl
      exact sg_X3_nearest_55 hx hb hr hml hts hown hlocks x0 x1 x2 x4 x5 x6 (nI (tb x2)) hg (lv_sub hl [0, 1, 2, 3, 4, 5, 6] rfl)
    · exact absurd (by omega) ((tb_bit h0 hn ht).mp c_1)
  | succ n ih =>
    intro ht hn ls hl
    refine lv_lload_n hx hb dX3_nearest_38 rfl (lv_at hl 2 rfl) ?_
    refine lv_iload hx hb dX3_nearest_39 (lv_at hl 6 rfl) ?_
    refine lv_lushr hx hb dX3_nearest_41 rfl ?_
    refine lv_lconst (v := (1 : Int64)) hx hb dX3_nearest_42 (by decide) ?_
    refine lv_land hx hb dX3_nearest_43 ?_
    refine lv_lconst (v := (0 : Int64)) hx hb dX3_nearest_44 (by decide) ?_
    refine zl_ne (tgt := 55) hx hb dX3_nearest_45 dX3_nearest_46 (by decide) (fun c_1 => ?_) (fun c_1 => ?_)
    · have e9 : n + 1 = tb x2 := Decidable.byContradiction (fun q => c_1 ((tb_bit h0 hn ht).mpr q))
      have e8 : nI (n + 1) = nI (tb x2) := congrArg nI e9
      rw [e8] at hl
      exact sg_X3_nearest_55 hx hb hr hml hts hown hlocks x0 x1 x2 x4 x5 x6 (nI (tb x2)) hg (lv_sub hl [0, 1, 2, 3, 4, 5, 6] rfl)
    · have q := (tb_bit h0 hn ht).mp c_1
      refine lv_iinc (v := nI n) (lv' := [(7, .int (nI n)), (0, .int x0), (1, .int x1), (2, .long x2), (4, .int x4), (5, .int x5), (6, .int x6)]) hx hb dX3_nearest_49 hl (k := 6) rfl (by rw [← pk_m1 n]; rfl) (by decide) rfl (fun ls hl => ?_)
      refine lv_goto (tgt := 38) hx hb dX3_nearest_52 (by decide) ?_
      exact ih (by omega) (by omega) ls (lv_sub hl [1, 2, 3, 4, 5, 6, 0] rfl)
theorem sg_X3_nearest_38 {p : Program} {l : Launch} {e : Env} {s : State} {m : MethodId} {args : Array Value} {below : List Frame} {meth : Method} {c : Code} {g : Int64} (hx : p.tables.exec = Jvm.exec) (hb : c.code = cX3_nearest) (hr : meth.sig.returnType = (some .long)) (hml : c.maxLocals = 16) (hts : ∀ w ∈ wsX3_nearest, w.before args s = true) (hown : s.vm.findClass RX3 = some m.cls) (hlocks : meth.locks = false) (x0 : Int32) (x1 : Int32) (x2 : Int64) (x4 : Int32) (x5 : Int32) (x6 : Int32) (x7 : Int32) {ls : Array Slot} (hg : g = fn_X3_nearest_38 x0 x1 x2 x4 x5 x6 x7) (h0 : ¬ x2 = 0) (h7 : x7 = 63) (hl : lv_has ls 16 [(0, .int x0), (1, .int x1), (2, .long x2), (4, .int x4), (5, .int x5), (6, .int x6), (7, .int x7)]) : W p l e ({ frames := 1, cells := 0, slots := 0, locals := 23 } : Room) s m args below meth c s.heap [] 0 0 (MQ below (vp_Sl (fun r => r = g)) args s 0 0 (fun _ => False)) (F0 m 38 ls []) := by
  subst h7
  exact sl_X3_nearest_38 hx hb hr hml hts hown hlocks x0 x1 x2 x4 x5 x6 hg h0 63 (by have := tb_lt h0; omega) (by decide) ls hl

def fn_X3_nearest (v0 : Int32) (v1 : Int32) (v2 : Int64) (v4 : Int32) : Int64 :=
  if v2 = (0 : Int64) then
    fn_X3_signed v0 (0 : Int64) v1
  else
    if v0 = (2 : Int32) then
      fn_X3_nearest_38 v0 v1 v2 v4 (fn_X3_fractionOf v0) (127 : Int32) (63 : Int32)
    else
      fn_X3_nearest_38 v0 v1 v2 v4 (fn_X3_fractionOf v0) (1023 : Int32) (63 : Int32)
set_option maxHeartbeats 4000000 in
set_option maxRecDepth 100000 in
theorem ct_X3_nearest (l : Launch) (v0 : Int32) (v1 : Int32) (v2 : Int64) (v4 : Int32) : Met l yX3_nearest wsX3_nearest ({ frames := 1, cells := 0, slots := 0, locals := 23 } : Room) (va_Pc [.int v0, .int v1, .long v2, .int v4] (fun _ => True)) (vp_Sl (fun r => r = fn_X3_nearest v0 v1 v2 v4)) 0 0 (fun _ => False) := by
  refine Met.ofW (cc := cX3_nearest) (maxL := 16) (ret := (some .long)) (by decide) rfl ?_
  intro p e s m args below meth c s₁ B hml hv
  obtain ⟨rfl, hW⟩ := hv
  have hx := B.exec
  have hb := B.bytes
  have hr := B.returns
  have hlocks := B.notSynchronized
  have hts := atoms_spec (ws := wsX3_nearest) B.pre
  have hown : s.vm.findClass RX3 = some m.cls := findClass_of_methodNamed B.named
  have hS : va_S (fun _ => False) s.heap s.heap [] := va_S.rf
  have hl := lv_entry ([.int v0, .int v1, .long v2, .int v4]) (n := 16) (Nat.le_of_ble_eq_true rfl)
  rw [lg_entry_eq]
  generalize (lg_sl ([.int v0, .int v1, .long v2, .int v4]) ++ List.replicate (16 - (lg_sl ([.int v0, .int v1, .long v2, .int v4])).length) Slot.unset).toArray = ls at hl ⊢
  have hl : lv_has ls 16 [(0, .int v0), (1, .int v1), (2, .long v2), (4, .int v4)] := hl
  refine lv_lload_n hx hb dX3_nearest_0 rfl (lv_at hl 2 rfl) ?_
  refine lv_lconst (v := (0 : Int64)) hx hb dX3_nearest_1 (by decide) ?_
  refine zl_ne (tgt := 13) hx hb dX3_nearest_2 dX3_nearest_3 (by decide) (fun c_1 => ?_) (fun c_1 => ?_)
  · refine lv_iload_n hx hb dX3_nearest_13 rfl (lv_at hl 0 rfl) ?_
    refine vp_callSi (W.runS (As := [.int v0]) (rest := []) ⟨hx, hb, hml, hown, hts⟩ (ct_X3_fractionOf l v0) (va_cwS 1 hts gX3_nearest_X3_fractionOf rfl rfl rfl (by decide +kernel) ⟨Nat.le_of_ble_eq_true rfl, Nat.le_of_ble_eq_true rfl⟩) ⟨(fun a U g mk q => ⟨q.1, trivial⟩), fun U hU hW9 => ⟨rfl, trivial⟩⟩ rfl rfl hl.1 rfl (lv_room (Nat.le_of_ble_eq_true rfl)) dX3_nearest_14 ⟨Nat.zero_le _, Nat.zero_le _⟩) (fun r er => ?_)
    subst er
    refine lv_istore (lv' := [(5, .int (fn_X3_fractionOf v0)), (0, .int v0), (1, .int v1), (2, .long v2), (4, .int v4)]) hx hb dX3_nearest_17 hl (by decide) rfl (fun ls hl => ?_)
    refine lv_iload_n hx hb dX3_nearest_19 rfl (lv_at hl 1 rfl) ?_
    refine lv_iconst (v := (2 : Int32)) hx hb dX3_nearest_20 (by decide) ?_
    refine lv_icmp_ne (tgt := 29) hx hb dX3_nearest_21 (by decide) (fun c_2 => ?_) (fun c_2 => ?_)
    · refine lv_sipush (v := (1023 : Int32)) hx hb dX3_nearest_29 (by decide) ?_
      refine lv_istore (lv' := [(6, .int (1023 : Int32)), (5, .int (fn_X3_fractionOf v0)), (0, .int v0), (1, .int v1), (2, .long v2), (4, .int v4)]) hx hb dX3_nearest_32 hl (by decide) rfl (fun ls hl => ?_)
      refine lv_bipush (v := (63 : Int32)) hx hb dX3_nearest_34 (by decide) ?_
      refine lv_istore (lv' := [(7, .int (63 : Int32)), (6, .int (1023 : Int32)), (5, .int (fn_X3_fractionOf v0)), (0, .int v0), (1, .int v1), (2, .long v2), (4, .int v4)]) hx hb dX3_nearest_36 hl (by decide) rfl (fun ls hl => ?_)
      exact sg_X3_nearest_38 hx hb hr hml hts hown hlocks v0 v1 v2 v4 (fn_X3_fractionOf v0) (1023 : Int32) (63 : Int32) (by unfold fn_X3_nearest; rw [if_neg c_1, if_neg c_2]) c_1 rfl (lv_sub hl [3, 4, 5, 6, 2, 1, 0] rfl)
    · refine lv_bipush (v := (127 : Int32)) hx hb dX3_nearest_24 (by decide) ?_
      refine lv_goto (tgt := 32) hx hb dX3_nearest_26 (by decide) ?_
      refine lv_istore (lv' := [(6, .int (127 : Int32)), (5, .int (fn_X3_fractionOf v0)), (0, .int v0), (1, .int v1), (2, .long v2), (4, .int v4)]) hx hb dX3_nearest_32 hl (by decide) rfl (fun ls hl => ?_)
      refine lv_bipush (v := (63 : Int32)) hx hb dX3_nearest_34 (by decide) ?_
      refine lv_istore (lv' := [(7, .int (63 : Int32)), (6, .int (127 : Int32)), (5, .int (fn_X3_fractionOf v0)), (0, .int v0), (1, .int v1), (2, .long v2), (4, .int v4)]) hx hb dX3_nearest_36 hl (by decide) rfl (fun ls hl => ?_)
      exact sg_X3_nearest_38 hx hb hr hml hts hown hlocks v0 v1 v2 v4 (fn_X3_fractionOf v0) (127 : Int32) (63 : Int32) (by unfold fn_X3_nearest; rw [if_neg c_1, if_pos c_2]) c_1 rfl (lv_sub hl [3, 4, 5, 6, 2, 1, 0] rfl)
  · refine lv_iload_n hx hb dX3_nearest_6 rfl (lv_at hl 0 rfl) ?_
    refine lv_lconst (v := (0 : Int64)) hx hb dX3_nearest_7 (by decide) ?_
    refine lv_iload_n hx hb dX3_nearest_8 rfl (lv_at hl 1 rfl) ?_
    refine vp_callSl (W.runS (As := [.int v0, .long (0 : Int64), .int v1]) (rest := []) ⟨hx, hb, hml, hown, hts⟩ (ct_X3_signed l v0 (0 : Int64) v1) (va_cwS 3 hts gX3_nearest_X3_signed rfl rfl rfl (by decide +kernel) ⟨Nat.le_of_ble_eq_true rfl, Nat.le_of_ble_eq_true rfl⟩) ⟨(fun a U g mk q => ⟨q.1, trivial⟩), fun U hU hW9 => ⟨rfl, trivial⟩⟩ rfl rfl hl.1 rfl (lv_room (Nat.le_of_ble_eq_true rfl)) dX3_nearest_9 ⟨Nat.zero_le _, Nat.zero_le _⟩) (fun r er => ?_)
    subst er
    exact W.lret (v := fn_X3_signed v0 (0 : Int64) v1) hx hb hr (fun t ht _ => ⟨_, rfl, by unfold fn_X3_nearest; rw [if_pos c_1], ht⟩) (fun _ h => by cases h) dX3_nearest_12
def fn_X3_turnedInto_149 (x0 : Int32) (x2 : Int64) (x6 : Int32) (x7 : Int32) (x8 : Int32) (x9 : Int64) : Int64 :=
  if x8 = 0 then
    if (0 : Int64) ≤ x2 then
      fn_X3_nearest x0 (0 : Int32) x9 (((1 : Int32) - x7) - x6)
    else
      fn_X3_nearest x0 (1 : Int32) x9 (((1 : Int32) - x7) - x6)
  else
    if (0 : Int64) ≤ x2 then
      fn_X3_nearest x0 (0 : Int32) (x9 ||| ((1 : Int64) <<< (Int32.toInt64 x6 &&& 63))) ((x8 - x7) - x6)
    else
      fn_X3_nearest x0 (1 : Int32) (x9 ||| ((1 : Int64) <<< (Int32.toInt64 x6 &&& 63))) ((x8 - x7) - x6)
set_option maxHeartbeats 4000000 in
set_option maxRecDepth 100000 in
theorem sg_X3_turnedInto_149 {p : Program} {l : Launch} {e : Env} {s : State} {m : MethodId} {args : Array Value} {below : List Frame} {meth : Method} {c : Code} {ls : Array Slot} {g : Int64} (hx : p.tables.exec = Jvm.exec) (hb : c.code = cX3_turnedInto) (hr : meth.sig.returnType = (some .long)) (hml : c.maxLocals = 11) (hts : ∀ w ∈ wsX3_turnedInto, w.before args s = true) (hown : s.vm.findClass RX3 = some m.cls) (hlocks : meth.locks = false) (x0 : Int32) (x2 : Int64) (x6 : Int32) (x7 : Int32) (x8 : Int32) (x9 : Int64) (hg : g = fn_X3_turnedInto_149 x0 x2 x6 x7 x8 x9) (hl : lv_has ls 11 [(0, .int x0), (2, .long x2), (6, .int x6), (7, .int x7), (8, .int x8), (9, .long x9)]) : W p l e ({ frames := 2, cells := 0, slots := 0, locals := 58 } : Room) s m args below meth c s.heap [] 0 0 (MQ below (vp_Sl (fun r => r = g)) args s 0 0 (fun _ => False)) (F0 m 149 ls []) := by
  have hS : va_S (fun _ => False) s.heap s.heap [] := va_S.rf
  refine lv_iload hx hb dX3_turnedInto_149 (lv_at hl 4 rfl) ?_
  refine lv_if_ne (tgt := 181) hx hb dX3_turnedInto_151 (by decide) (fun c_1 => ?_) (fun c_1 => ?_)
  · refine lv_iload_n hx hb dX3_turnedInto_181 rfl (lv_at hl 0 rfl) ?_
    refine lv_lload_n hx hb dX3_turnedInto_182 rfl (lv_at hl 1 rfl) ?_
    refine lv_lconst (v := (0 : Int64)) hx hb dX3_turnedInto_183 (by decide) ?_
    refine zl_ge (tgt := 192) hx hb dX3_turnedInto_184 dX3_turnedInto_185 (by decide) (fun c_2 => ?_) (fun c_2 => ?_)
    · refine lv_iconst (v := (0 : Int32)) hx hb dX3_turnedInto_192 (by decide) ?_
      refine lv_lload hx hb dX3_turnedInto_193 (lv_at hl 5 rfl) ?_
      refine lv_lconst (v := (1 : Int64)) hx hb dX3_turnedInto_195 (by decide) ?_
      refine lv_iload hx hb dX3_turnedInto_196 (lv_at hl 2 rfl) ?_
      refine lv_lshl hx hb dX3_turnedInto_198 rfl ?_
      refine lv_lor hx hb dX3_turnedInto_199 ?_
      refine lv_iload hx hb dX3_turnedInto_200 (lv_at hl 4 rfl) ?_
      refine lv_iload hx hb dX3_turnedInto_202 (lv_at hl 3 rfl) ?_
      refine lv_isub hx hb dX3_turnedInto_204 ?_
      refine lv_iload hx hb dX3_turnedInto_205 (lv_at hl 2 rfl) ?_
      refine lv_isub hx hb dX3_turnedInto_207 ?_
      refine vp_callSl (W.runS (As := [.int x0, .int (0 : Int32), .long (x9 ||| ((1 : Int64) <<< (Int32.toInt64 x6 &&& 63))), .int ((x8 - x7) - x6)]) (rest := []) ⟨hx, hb, hml, hown, hts⟩ (ct_X3_nearest l x0 (0 : Int32) (x9 ||| ((1 : Int64) <<< (Int32.toInt64 x6 &&& 63))) ((x8 - x7) - x6)) (va_cwS 4 hts gX3_turnedInto_X3_nearest rfl rfl rfl (by decide +kernel) ⟨Nat.le_of_ble_eq_true rfl, Nat.le_of_ble_eq_true rfl⟩) ⟨(fun a U g mk q => ⟨q.1, trivial⟩), fun U hU hW9 => ⟨rfl, trivial⟩⟩ rfl rfl hl.1 rfl (lv_room (Nat.le_of_ble_eq_true rfl)) dX3_turnedInto_208 ⟨Nat.zero_le _, Nat.zero_le _⟩) (fun r er => ?_)
      subst er
      exact W.lret (v := fn_X3_nearest x0 (0 : Int32) (x9 ||| ((1 : Int64) <<< (Int32.toInt64 x6 &&& 63))) ((x8 - x7) - x6)) hx hb hr (fun t ht _ => ⟨_, rfl, by rw [hg]; unfold fn_X3_turnedInto_149; rw [if_neg c_1, if_pos c_2], ht⟩) (fun _ h => by cases h) dX3_turnedInto_211
    · refine lv_iconst (v := (1 : Int32)) hx hb dX3_turnedInto_188 (by decide) ?_
      refine lv_goto (tgt := 193) hx hb dX3_turnedInto_189 (by decide) ?_
      refine lv_lload hx hb dX3_turnedInto_193 (lv_at hl 5 rfl) ?_
      refine lv_lconst (v := (1 : Int64)) hx hb dX3_turnedInto_195 (by decide) ?_
      refine lv_iload hx hb dX3_turnedInto_196 (lv_at hl 2 rfl) ?_
      refine lv_lshl hx hb dX3_turnedInto_198 rfl ?_
      refine lv_lor hx hb dX3_turnedInto_199 ?_
      refine lv_iload hx hb dX3_turnedInto_200 (lv_at hl 4 rfl) ?_
      refine lv_iload hx hb dX3_turnedInto_202 (lv_at hl 3 rfl) ?_
      refine lv_isub hx hb dX3_turnedInto_204 ?_
      refine lv_iload hx hb dX3_turnedInto_205 (lv_at hl 2 rfl) ?_
      refine lv_isub hx hb dX3_turnedInto_207 ?_
      refine vp_callSl (W.runS (As := [.int x0, .int (1 : Int32), .long (x9 ||| ((1 : Int64) <<< (Int32.toInt64 x6 &&& 63))), .int ((x8 - x7) - x6)]) (rest := []) ⟨hx, hb, hml, hown, hts⟩ (ct_X3_nearest l x0 (1 : Int32) (x9 ||| ((1 : Int64) <<< (Int32.toInt64 x6 &&& 63))) ((x8 - x7) - x6)) (va_cwS 4 hts gX3_turnedInto_X3_nearest rfl rfl rfl (by decide +kernel) ⟨Nat.le_of_ble_eq_true rfl, Nat.le_of_ble_eq_true rfl⟩) ⟨(fun a U g mk q => ⟨q.1, trivial⟩), fun U hU hW9 => ⟨rfl, trivial⟩⟩ rfl rfl hl.1 rfl (lv_room (Nat.le_of_ble_eq_true rfl)) dX3_turnedInto_208 ⟨Nat.zero_le _, Nat.zero_le _⟩) (fun r er => ?_)
      subst er
      exact W.lret (v := fn_X3_nearest x0 (1 : Int32) (x9 ||| ((1 : Int64) <<< (Int32.toInt64 x6 &&& 63))) ((x8 - x7) - x6)) hx hb hr (fun t ht _ => ⟨_, rfl, by rw [hg]; unfold fn_X3_turnedInto_149; rw [if_neg c_1, if_neg c_2], ht⟩) (fun _ h => by cases h) dX3_turnedInto_211
  · refine lv_iload_n hx hb dX3_turnedInto_154 rfl (lv_at hl 0 rfl) ?_
    refine lv_lload_n hx hb dX3_turnedInto_155 rfl (lv_at hl 1 rfl) ?_
    refine lv_lconst (v := (0 : Int64)) hx hb dX3_turnedInto_156 (by decide) ?_
    refine zl_ge (tgt := 165) hx hb dX3_turnedInto_157 dX3_turnedInto_158 (by decide) (fun c_3 => ?_) (fun c_3 => ?_)
    · refine lv_iconst (v := (0 : Int32)) hx hb dX3_turnedInto_165 (by decide) ?_
      refine lv_lload hx hb dX3_turnedInto_166 (lv_at hl 5 rfl) ?_
      refine lv_iconst (v := (1 : Int32)) hx hb dX3_turnedInto_168 (by decide) ?_
      refine lv_iload hx hb dX3_turnedInto_169 (lv_at hl 3 rfl) ?_
      refine lv_isub hx hb dX3_turnedInto_171 ?_
      refine lv_iload hx hb dX3_turnedInto_172 (lv_at hl 2 rfl) ?_
      refine lv_isub hx hb dX3_turnedInto_174 ?_
      refine vp_callSl (W.runS (As := [.int x0, .int (0 : Int32), .long x9, .int (((1 : Int32) - x7) - x6)]) (rest := []) ⟨hx, hb, hml, hown, hts⟩ (ct_X3_nearest l x0 (0 : Int32) x9 (((1 : Int32) - x7) - x6)) (va_cwS 4 hts gX3_turnedInto_X3_nearest rfl rfl rfl (by decide +kernel) ⟨Nat.le_of_ble_eq_true rfl, Nat.le_of_ble_eq_true rfl⟩) ⟨(fun a U g mk q => ⟨q.1, trivial⟩), fun U hU hW9 => ⟨rfl, trivial⟩⟩ rfl rfl hl.1 rfl (lv_room (Nat.le_of_ble_eq_true rfl)) dX3_turnedInto_175 ⟨Nat.zero_le _, Nat.zero_le _⟩) (fun r er => ?_)
      subst er
      refine lv_goto (tgt := 211) hx hb dX3_turnedInto_178 (by decide) ?_
      exact W.lret (v := fn_X3_nearest x0 (0 : Int32) x9 (((1 : Int32) - x7) - x6)) hx hb hr (fun t ht _ => ⟨_, rfl, by rw [hg]; unfold fn_X3_turnedInto_149; rw [if_pos c_1, if_pos c_3], ht⟩) (fun _ h => by cases h) dX3_turnedInto_211
    · refine lv_iconst (v := (1 : Int32)) hx hb dX3_turnedInto_161 (by decide) ?_
      refine lv_goto (tgt := 166) hx hb dX3_turnedInto_162 (by decide) ?_
      refine lv_lload hx hb dX3_turnedInto_166 (lv_at hl 5 rfl) ?_
      refine lv_iconst (v := (1 : Int32)) hx hb dX3_turnedInto_168 (by decide) ?_
      refine lv_iload hx hb dX3_turnedInto_169 (lv_at hl 3 rfl) ?_
      refine lv_isub hx hb dX3_turnedInto_171 ?_
      refine lv_iload hx hb dX3_turnedInto_172 (lv_at hl 2 rfl) ?_
      refine lv_isub hx hb dX3_turnedInto_174 ?_
      refine vp_callSl (W.runS (As := [.int x0, .int (1 : Int32), .long x9, .int (((1 : Int32) - x7) - x6)]) (rest := []) ⟨hx, hb, hml, hown, hts⟩ (ct_X3_nearest l x0 (1 : Int32) x9 (((1 : Int32) - x7) - x6)) (va_cwS 4 hts gX3_turnedInto_X3_nearest rfl rfl rfl (by decide +kernel) ⟨Nat.le_of_ble_eq_true rfl, Nat.le_of_ble_eq_true rfl⟩) ⟨(fun a U g mk q => ⟨q.1, trivial⟩), fun U hU hW9 => ⟨rfl, trivial⟩⟩ rfl rfl hl.1 rfl (lv_room (Nat.le_of_ble_eq_true rfl)) dX3_turnedInto_175 ⟨Nat.zero_le _, Nat.zero_le _⟩) (fun r er => ?_)
      subst er
      refine lv_goto (tgt := 211) hx hb dX3_turnedInto_178 (by decide) ?_
      exact W.lret (v := fn_X3_nearest x0 (1 : Int32) x9 (((1 : Int32) - x7) - x6)) hx hb hr (fun t ht _ => ⟨_, rfl, by rw [hg]; unfold fn_X3_turnedInto_149; rw [if_pos c_1, if_neg c_3], ht⟩) (fun _ h => by cases h) dX3_turnedInto_211
def fn_X3_turnedInto_130 (x0 : Int32) (x2 : Int64) (x4 : Int64) (x6 : Int32) (x7 : Int32) : Int64 :=
  fn_X3_turnedInto_149 x0 x2 x6 x7 (Int64.toInt32 ((Int64.toUInt64 x4 >>> (Int64.toUInt64 (Int32.toInt64 x6) &&& Int64.toUInt64 63)).toInt64)) (x4 &&& (((1 : Int64) <<< (Int32.toInt64 x6 &&& 63)) - (1 : Int64)))
set_option maxHeartbeats 4000000 in
set_option maxRecDepth 100000 in
theorem sg_X3_turnedInto_130 {p : Program} {l : Launch} {e : Env} {s : State} {m : MethodId} {args : Array Value} {below : List Frame} {meth : Method} {c : Code} {ls : Array Slot} {g : Int64} (hx : p.tables.exec = Jvm.exec) (hb : c.code = cX3_turnedInto) (hr : meth.sig.returnType = (some .long)) (hml : c.maxLocals = 11) (hts : ∀ w ∈ wsX3_turnedInto, w.before args s = true) (hown : s.vm.findClass RX3 = some m.cls) (hlocks : meth.locks = false) (x0 : Int32) (x2 : Int64) (x4 : Int64) (x6 : Int32) (x7 : Int32) (hg : g = fn_X3_turnedInto_130 x0 x2 x4 x6 x7) (hl : lv_has ls 11 [(0, .int x0), (2, .long x2), (4, .long x4), (6, .int x6), (7, .int x7)]) : W p l e ({ frames := 2, cells := 0, slots := 0, locals := 58 } : Room) s m args below meth c s.heap [] 0 0 (MQ below (vp_Sl (fun r => r = g)) args s 0 0 (fun _ => False)) (F0 m 130 ls []) := by
  have hS : va_S (fun _ => False) s.heap s.heap [] := va_S.rf
  refine lv_lload hx hb dX3_turnedInto_130 (lv_at hl 2 rfl) ?_
  refine lv_iload hx hb dX3_turnedInto_132 (lv_at hl 3 rfl) ?_
  refine lv_lushr hx hb dX3_turnedInto_134 rfl ?_
  refine lv_l2i hx hb dX3_turnedInto_135 rfl ?_
  refine lv_istore (lv' := [(8, .int (Int64.toInt32 ((Int64.toUInt64 x4 >>> (Int64.toUInt64 (Int32.toInt64 x6) &&& Int64.toUInt64 63)).toInt64))), (0, .int x0), (2, .long x2), (4, .long x4), (6, .int x6), (7, .int x7)]) hx hb dX3_turnedInto_136 hl (by decide) rfl (fun ls hl => ?_)
  refine lv_lload hx hb dX3_turnedInto_138 (lv_at hl 3 rfl) ?_
  refine lv_lconst (v := (1 : Int64)) hx hb dX3_turnedInto_140 (by decide) ?_
  refine lv_iload hx hb dX3_turnedInto_141 (lv_at hl 4 rfl) ?_
  refine lv_lshl hx hb dX3_turnedInto_143 rfl ?_
  refine lv_lconst (v := (1 : Int64)) hx hb dX3_turnedInto_144 (by decide) ?_
  refine lv_lsub hx hb dX3_turnedInto_145 ?_
  refine lv_land hx hb dX3_turnedInto_146 ?_
  refine lv_lstore (lv' := [(9, .long (x4 &&& (((1 : Int64) <<< (Int32.toInt64 x6 &&& 63)) - (1 : Int64)))), (8, .int (Int64.toInt32 ((Int64.toUInt64 x4 >>> (Int64.toUInt64 (Int32.toInt64 x6) &&& Int64.toUInt64 63)).toInt64))), (0, .int x0), (2, .long x2), (4, .long x4), (6, .int x6), (7, .int x7)]) hx hb dX3_turnedInto_147 hl (by decide) rfl (fun ls hl => ?_)
  exact sg_X3_turnedInto_149 hx hb hr hml hts hown hlocks x0 x2 x6 x7 (Int64.toInt32 ((Int64.toUInt64 x4 >>> (Int64.toUInt64 (Int32.toInt64 x6) &&& Int64.toUInt64 63)).toInt64)) (x4 &&& (((1 : Int64) <<< (Int32.toInt64 x6 &&& 63)) - (1 : Int64))) (by rw [hg]; rfl)  (lv_sub hl [2, 3, 5, 6, 1, 0] rfl)
def fn_X3_turnedInto (v0 : Int32) (v1 : Int32) (v2 : Int64) : Int64 :=
  if v0 = v1 then
    v2
  else
    if (fn_X3_isFloating v1) = 0 then
      if v0 = (1 : Int32) then
        v2
      else
        if v0 = 0 then
          Int32.toInt64 (Int64.toInt32 v2)
        else
          if (0 : Int64) ≤ v2 then
            fn_X3_nearest v0 (0 : Int32) v2 (0 : Int32)
          else
            fn_X3_nearest v0 (1 : Int32) (-v2) (0 : Int32)
    else
      if (fn_X3_isFloating v0) = 0 then
        fn_X3_cut v0 v1 v2
      else
        if (fn_X3_size v1 v2) = (fn_X3_endless v1) then
          if (0 : Int64) ≤ v2 then
            fn_X3_signed v0 (fn_X3_endless v0) (0 : Int32)
          else
            fn_X3_signed v0 (fn_X3_endless v0) (1 : Int32)
        else
          if v1 = (2 : Int32) then
            fn_X3_turnedInto_130 v0 v2 (fn_X3_size v1 v2) (fn_X3_fractionOf v1) (127 : Int32)
          else
            fn_X3_turnedInto_130 v0 v2 (fn_X3_size v1 v2) (fn_X3_fractionOf v1) (1023 : Int32)
set_option maxHeartbeats 4000000 in
set_option maxRecDepth 100000 in
theorem ct_X3_turnedInto (l : Launch) (v0 : Int32) (v1 : Int32) (v2 : Int64) : Met l yX3_turnedInto wsX3_turnedInto ({ frames := 2, cells := 0, slots := 0, locals := 58 } : Room) (va_Pc [.int v0, .int v1, .long v2] (fun _ => True)) (vp_Sl (fun r => r = fn_X3_turnedInto v0 v1 v2)) 0 0 (fun _ => False) := by
  refine Met.ofW (cc := cX3_turnedInto) (maxL := 11) (ret := (some .long)) (by decide) rfl ?_
  intro p e s m args below meth c s₁ B hml hv
  obtain ⟨rfl, hW⟩ := hv
  have hx := B.exec
  have hb := B.bytes
  have hr := B.returns
  have hlocks := B.notSynchronized
  have hts := atoms_spec (ws := wsX3_turnedInto) B.pre
  have hown : s.vm.findClass RX3 = some m.cls := findClass_of_methodNamed B.named
  have hS : va_S (fun _ => False) s.heap s.heap [] := va_S.rf
  have hl := lv_entry ([.int v0, .int v1, .long v2]) (n := 11) (Nat.le_of_ble_eq_true rfl)
  rw [lg_entry_eq]
  generalize (lg_sl ([.int v0, .int v1, .long v2]) ++ List.replicate (11 - (lg_sl ([.int v0, .int v1, .long v2])).length) Slot.unset).toArray = ls at hl ⊢
  have hl : lv_has ls 11 [(0, .int v0), (1, .int v1), (2, .long v2)] := hl
  refine lv_iload_n hx hb dX3_turnedInto_0 rfl (lv_at hl 0 rfl) ?_
  refine lv_iload_n hx hb dX3_turnedInto_1 rfl (lv_at hl 1 rfl) ?_
  refine lv_icmp_ne (tgt := 7) hx hb dX3_turnedInto_2 (by decide) (fun c_1 => ?_) (fun c_1 => ?_)
  · refine lv_iload_n hx hb dX3_turnedInto_7 rfl (lv_at hl 1 rfl) ?_
    refine vp_callSi (W.runS (As := [.int v1]) (rest := []) ⟨hx, hb, hml, hown, hts⟩ (ct_X3_isFloating l v1) (va_cwS 1 hts gX3_turnedInto_X3_isFloating rfl rfl rfl (by decide +kernel) ⟨Nat.le_of_ble_eq_true rfl, Nat.le_of_ble_eq_true rfl⟩) ⟨(fun a U g mk q => ⟨q.1, trivial⟩), fun U hU hW9 => ⟨rfl, trivial⟩⟩ rfl rfl hl.1 rfl (lv_room (Nat.le_of_ble_eq_true rfl)) dX3_turnedInto_8 ⟨Nat.zero_le _, Nat.zero_le _⟩) (fun r er => ?_)
    subst er
    refine lv_if_ne (tgt := 58) hx hb dX3_turnedInto_11 (by decide) (fun c_2 => ?_) (fun c_2 => ?_)
    · refine lv_iload_n hx hb dX3_turnedInto_58 rfl (lv_at hl 0 rfl) ?_
      refine vp_callSi (W.runS (As := [.int v0]) (rest := []) ⟨hx, hb, hml, hown, hts⟩ (ct_X3_isFloating l v0) (va_cwS 1 hts gX3_turnedInto_X3_isFloating rfl rfl rfl (by decide +kernel) ⟨Nat.le_of_ble_eq_true rfl, Nat.le_of_ble_eq_true rfl⟩) ⟨(fun a U g mk q => ⟨q.1, trivial⟩), fun U hU hW9 => ⟨rfl, trivial⟩⟩ rfl rfl hl.1 rfl (lv_room (Nat.le_of_ble_eq_true rfl)) dX3_turnedInto_59 ⟨Nat.zero_le _, Nat.zero_le _⟩) (fun r er => ?_)
      subst er
      refine lv_if_ne (tgt := 72) hx hb dX3_turnedInto_62 (by decide) (fun c_3 => ?_) (fun c_3 => ?_)
      · refine lv_iload_n hx hb dX3_turnedInto_72 rfl (lv_at hl 1 rfl) ?_
        refine lv_lload_n hx hb dX3_turnedInto_73 rfl (lv_at hl 2 rfl) ?_
        refine vp_callSl (W.runS (As := [.int v1, .long v2]) (rest := []) ⟨hx, hb, hml, hown, hts⟩ (ct_X3_size l v1 v2) (va_cwS 2 hts gX3_turnedInto_X3_size rfl rfl rfl (by decide +kernel) ⟨Nat.le_of_ble_eq_true rfl, Nat.le_of_ble_eq_true rfl⟩) ⟨(fun a U g mk q => ⟨q.1, trivial⟩), fun U hU hW9 => ⟨rfl, trivial⟩⟩ rfl rfl hl.1 rfl (lv_room (Nat.le_of_ble_eq_true rfl)) dX3_turnedInto_74 ⟨Nat.zero_le _, Nat.zero_le _⟩) (fun r er => ?_)
        subst er
        refine lv_lstore (lv' := [(4, .long (fn_X3_size v1 v2)), (0, .int v0), (1, .int v1), (2, .long v2)]) hx hb dX3_turnedInto_77 hl (by decide) rfl (fun ls hl => ?_)
        refine lv_lload hx hb dX3_turnedInto_79 (lv_at hl 0 rfl) ?_
        refine lv_iload_n hx hb dX3_turnedInto_81 rfl (lv_at hl 2 rfl) ?_
        refine vp_callSl (W.runS (As := [.int v1]) (rest := [.long (fn_X3_size v1 v2)]) ⟨hx, hb, hml, hown, hts⟩ (ct_X3_endless l v1) (va_cwS 1 hts gX3_turnedInto_X3_endless rfl rfl rfl (by decide +kernel) ⟨Nat.le_of_ble_eq_true rfl, Nat.le_of_ble_eq_true rfl⟩) ⟨(fun a U g mk q => ⟨q.1, trivial⟩), fun U hU hW9 => ⟨rfl, trivial⟩⟩ rfl rfl hl.1 rfl (lv_room (Nat.le_of_ble_eq_true rfl)) dX3_turnedInto_82 ⟨Nat.zero_le _, Nat.zero_le _⟩) (fun r er => ?_)
        subst er
        refine zl_ne (tgt := 109) hx hb dX3_turnedInto_85 dX3_turnedInto_86 (by decide) (fun c_4 => ?_) (fun c_4 => ?_)
        · refine lv_iload_n hx hb dX3_turnedInto_109 rfl (lv_at hl 2 rfl) ?_
          refine vp_callSi (W.runS (As := [.int v1]) (rest := []) ⟨hx, hb, hml, hown, hts⟩ (ct_X3_fractionOf l v1) (va_cwS 1 hts gX3_turnedInto_X3_fractionOf rfl rfl rfl (by decide +kernel) ⟨Nat.le_of_ble_eq_true rfl, Nat.le_of_ble_eq_true rfl⟩) ⟨(fun a U g mk q => ⟨q.1, trivial⟩), fun U hU hW9 => ⟨rfl, trivial⟩⟩ rfl rfl hl.1 rfl (lv_room (Nat.le_of_ble_eq_true rfl)) dX3_turnedInto_110 ⟨Nat.zero_le _, Nat.zero_le _⟩) (fun r er => ?_)
          subst er
          refine lv_istore (lv' := [(6, .int (fn_X3_fractionOf v1)), (4, .long (fn_X3_size v1 v2)), (0, .int v0), (1, .int v1), (2, .long v2)]) hx hb dX3_turnedInto_113 hl (by decide) rfl (fun ls hl => ?_)
          refine lv_iload_n hx hb dX3_turnedInto_115 rfl (lv_at hl 3 rfl) ?_
          refine lv_iconst (v := (2 : Int32)) hx hb dX3_turnedInto_116 (by decide) ?_
          refine lv_icmp_ne (tgt := 125) hx hb dX3_turnedInto_117 (by decide) (fun c_5 => ?_) (fun c_5 => ?_)
          · refine lv_sipush (v := (1023 : Int32)) hx hb dX3_turnedInto_125 (by decide) ?_
            refine lv_istore (lv' := [(7, .int (1023 : Int32)), (6, .int (fn_X3_fractionOf v1)), (4, .long (fn_X3_size v1 v2)), (0, .int v0), (1, .int v1), (2, .long v2)]) hx hb dX3_turnedInto_128 hl (by decide) rfl (fun ls hl => ?_)
            exact sg_X3_turnedInto_130 hx hb hr hml hts hown hlocks v0 v2 (fn_X3_size v1 v2) (fn_X3_fractionOf v1) (1023 : Int32) (by unfold fn_X3_turnedInto; rw [if_neg c_1, if_neg c_2, if_neg c_3, if_neg c_4, if_neg c_5])  (lv_sub hl [3, 5, 2, 1, 0] rfl)
          · refine lv_bipush (v := (127 : Int32)) hx hb dX3_turnedInto_120 (by decide) ?_
            refine lv_goto (tgt := 128) hx hb dX3_turnedInto_122 (by decide) ?_
            refine lv_istore (lv' := [(7, .int (127 : Int32)), (6, .int (fn_X3_fractionOf v1)), (4, .long (fn_X3_size v1 v2)), (0, .int v0), (1, .int v1), (2, .long v2)]) hx hb dX3_turnedInto_128 hl (by decide) rfl (fun ls hl => ?_)
            exact sg_X3_turnedInto_130 hx hb hr hml hts hown hlocks v0 v2 (fn_X3_size v1 v2) (fn_X3_fractionOf v1) (127 : Int32) (by unfold fn_X3_turnedInto; rw [if_neg c_1, if_neg c_2, if_neg c_3, if_neg c_4, if_pos c_5])  (lv_sub hl [3, 5, 2, 1, 0] rfl)
        · refine lv_iload_n hx hb dX3_turnedInto_89 rfl (lv_at hl 1 rfl) ?_
          refine lv_iload_n hx hb dX3_turnedInto_90 rfl (lv_at hl 1 rfl) ?_
          refine vp_callSl (W.runS (As := [.int v0]) (rest := [.int v0]) ⟨hx, hb, hml, hown, hts⟩ (ct_X3_endless l v0) (va_cwS 1 hts gX3_turnedInto_X3_endless rfl rfl rfl (by decide +kernel) ⟨Nat.le_of_ble_eq_true rfl, Nat.le_of_ble_eq_true rfl⟩) ⟨(fun a U g mk q => ⟨q.1, trivial⟩), fun U hU hW9 => ⟨rfl, trivial⟩⟩ rfl rfl hl.1 rfl (lv_room (Nat.le_of_ble_eq_true rfl)) dX3_turnedInto_91 ⟨Nat.zero_le _, Nat.zero_le _⟩) (fun r er => ?_)
          subst er
          refine lv_lload_n hx hb dX3_turnedInto_94 rfl (lv_at hl 3 rfl) ?_
          refine lv_lconst (v := (0 : Int64)) hx hb dX3_turnedInto_95 (by decide) ?_
          refine zl_ge (tgt := 104) hx hb dX3_turnedInto_96 dX3_turnedInto_97 (by decide) (fun c_6 => ?_) (fun c_6 => ?_)
          · refine lv_iconst (v := (0 : Int32)) hx hb dX3_turnedInto_104 (by decide) ?_
            refine vp_callSl (W.runS (As := [.int v0, .long (fn_X3_endless v0), .int (0 : Int32)]) (rest := []) ⟨hx, hb, hml, hown, hts⟩ (ct_X3_signed l v0 (fn_X3_endless v0) (0 : Int32)) (va_cwS 3 hts gX3_turnedInto_X3_signed rfl rfl rfl (by decide +kernel) ⟨Nat.le_of_ble_eq_true rfl, Nat.le_of_ble_eq_true rfl⟩) ⟨(fun a U g mk q => ⟨q.1, trivial⟩), fun U hU hW9 => ⟨rfl, trivial⟩⟩ rfl rfl hl.1 rfl (lv_room (Nat.le_of_ble_eq_true rfl)) dX3_turnedInto_105 ⟨Nat.zero_le _, Nat.zero_le _⟩) (fun r er => ?_)
            subst er
            exact W.lret (v := fn_X3_signed v0 (fn_X3_endless v0) (0 : Int32)) hx hb hr (fun t ht _ => ⟨_, rfl, by unfold fn_X3_turnedInto; rw [if_neg c_1, if_neg c_2, if_neg c_3, if_pos c_4, if_pos c_6], ht⟩) (fun _ h => by cases h) dX3_turnedInto_108
          · refine lv_iconst (v := (1 : Int32)) hx hb dX3_turnedInto_100 (by decide) ?_
            refine lv_goto (tgt := 105) hx hb dX3_turnedInto_101 (by decide) ?_
            refine vp_callSl (W.runS (As := [.int v0, .long (fn_X3_endless v0), .int (1 : Int32)]) (rest := []) ⟨hx, hb, hml, hown, hts⟩ (ct_X3_signed l v0 (fn_X3_endless v0) (1 : Int32)) (va_cwS 3 hts gX3_turnedInto_X3_signed rfl rfl rfl (by decide +kernel) ⟨Nat.le_of_ble_eq_true rfl, Nat.le_of_ble_eq_true rfl⟩) ⟨(fun a U g mk q => ⟨q.1, trivial⟩), fun U hU hW9 => ⟨rfl, trivial⟩⟩ rfl rfl hl.1 rfl (lv_room (Nat.le_of_ble_eq_true rfl)) dX3_turnedInto_105 ⟨Nat.zero_le _, Nat.zero_le _⟩) (fun r er => ?_)
            subst er
            exact W.lret (v := fn_X3_signed v0 (fn_X3_endless v0) (1 : Int32)) hx hb hr (fun t ht _ => ⟨_, rfl, by unfold fn_X3_turnedInto; rw [if_neg c_1, if_neg c_2, if_neg c_3, if_pos c_4, if_neg c_6], ht⟩) (fun _ h => by cases h) dX3_turnedInto_108
      · refine lv_iload_n hx hb dX3_turnedInto_65 rfl (lv_at hl 0 rfl) ?_
        refine lv_iload_n hx hb dX3_turnedInto_66 rfl (lv_at hl 1 rfl) ?_
        refine lv_lload_n hx hb dX3_turnedInto_67 rfl (lv_at hl 2 rfl) ?_
        refine vp_callSl (W.runS (As := [.int v0, .int v1, .long v2]) (rest := []) ⟨hx, hb, hml, hown, hts⟩ (ct_X3_cut l v0 v1 v2) (va_cwS 3 hts gX3_turnedInto_X3_cut rfl rfl rfl (by decide +kernel) ⟨Nat.le_of_ble_eq_true rfl, Nat.le_of_ble_eq_true rfl⟩) ⟨(fun a U g mk q => ⟨q.1, trivial⟩), fun U hU hW9 => ⟨rfl, trivial⟩⟩ rfl rfl hl.1 rfl (lv_room (Nat.le_of_ble_eq_true rfl)) dX3_turnedInto_68 ⟨Nat.zero_le _, Nat.zero_le _⟩) (fun r er => ?_)
        subst er
        exact W.lret (v := fn_X3_cut v0 v1 v2) hx hb hr (fun t ht _ => ⟨_, rfl, by unfold fn_X3_turnedInto; rw [if_neg c_1, if_neg c_2, if_pos c_3], ht⟩) (fun _ h => by cases h) dX3_turnedInto_71
    · refine lv_iload_n hx hb dX3_turnedInto_14 rfl (lv_at hl 0 rfl) ?_
      refine lv_iconst (v := (1 : Int32)) hx hb dX3_turnedInto_15 (by decide) ?_
      refine lv_icmp_ne (tgt := 21) hx hb dX3_turnedInto_16 (by decide) (fun c_7 => ?_) (fun c_7 => ?_)
      · refine lv_iload_n hx hb dX3_turnedInto_21 rfl (lv_at hl 0 rfl) ?_
        refine lv_if_ne (tgt := 29) hx hb dX3_turnedInto_22 (by decide) (fun c_8 => ?_) (fun c_8 => ?_)
        · refine lv_iload_n hx hb dX3_turnedInto_29 rfl (lv_at hl 0 rfl) ?_
          refine lv_lload_n hx hb dX3_turnedInto_30 rfl (lv_at hl 2 rfl) ?_
          refine lv_lconst (v := (0 : Int64)) hx hb dX3_turnedInto_31 (by decide) ?_
          refine zl_ge (tgt := 40) hx hb dX3_turnedInto_32 dX3_turnedInto_33 (by decide) (fun c_9 => ?_) (fun c_9 => ?_)
          · refine lv_iconst (v := (0 : Int32)) hx hb dX3_turnedInto_40 (by decide) ?_
            refine lv_lload_n hx hb dX3_turnedInto_41 rfl (lv_at hl 2 rfl) ?_
            refine lv_lconst (v := (0 : Int64)) hx hb dX3_turnedInto_42 (by decide) ?_
            refine zl_ge (tgt := 52) hx hb dX3_turnedInto_43 dX3_turnedInto_44 (by decide) (fun c_10 => ?_) (fun c_10 => ?_)
            · refine lv_lload_n hx hb dX3_turnedInto_52 rfl (lv_at hl 2 rfl) ?_
              refine lv_iconst (v := (0 : Int32)) hx hb dX3_turnedInto_53 (by decide) ?_
              refine vp_callSl (W.runS (As := [.int v0, .int (0 : Int32), .long v2, .int (0 : Int32)]) (rest := []) ⟨hx, hb, hml, hown, hts⟩ (ct_X3_nearest l v0 (0 : Int32) v2 (0 : Int32)) (va_cwS 4 hts gX3_turnedInto_X3_nearest rfl rfl rfl (by decide +kernel) ⟨Nat.le_of_ble_eq_true rfl, Nat.le_of_ble_eq_true rfl⟩) ⟨(fun a U g mk q => ⟨q.1, trivial⟩), fun U hU hW9 => ⟨rfl, trivial⟩⟩ rfl rfl hl.1 rfl (lv_room (Nat.le_of_ble_eq_true rfl)) dX3_turnedInto_54 ⟨Nat.zero_le _, Nat.zero_le _⟩) (fun r er => ?_)
              subst er
              exact W.lret (v := fn_X3_nearest v0 (0 : Int32) v2 (0 : Int32)) hx hb hr (fun t ht _ => ⟨_, rfl, by unfold fn_X3_turnedInto; rw [if_neg c_1, if_pos c_2, if_neg c_7, if_neg c_8, if_pos c_9], ht⟩) (fun _ h => by cases h) dX3_turnedInto_57
            · exact absurd c_9 c_10
          · refine lv_iconst (v := (1 : Int32)) hx hb dX3_turnedInto_36 (by decide) ?_
            refine lv_goto (tgt := 41) hx hb dX3_turnedInto_37 (by decide) ?_
            refine lv_lload_n hx hb dX3_turnedInto_41 rfl (lv_at hl 2 rfl) ?_
            refine lv_lconst (v := (0 : Int64)) hx hb dX3_turnedInto_42 (by decide) ?_
            refine zl_ge (tgt := 52) hx hb dX3_turnedInto_43 dX3_turnedInto_44 (by decide) (fun c_11 => ?_) (fun c_11 => ?_)
            · exact absurd c_11 c_9
            · refine lv_lload_n hx hb dX3_turnedInto_47 rfl (lv_at hl 2 rfl) ?_
              refine lv_lneg hx hb dX3_turnedInto_48 ?_
              refine lv_goto (tgt := 53) hx hb dX3_turnedInto_49 (by decide) ?_
              refine lv_iconst (v := (0 : Int32)) hx hb dX3_turnedInto_53 (by decide) ?_
              refine vp_callSl (W.runS (As := [.int v0, .int (1 : Int32), .long (-v2), .int (0 : Int32)]) (rest := []) ⟨hx, hb, hml, hown, hts⟩ (ct_X3_nearest l v0 (1 : Int32) (-v2) (0 : Int32)) (va_cwS 4 hts gX3_turnedInto_X3_nearest rfl rfl rfl (by decide +kernel) ⟨Nat.le_of_ble_eq_true rfl, Nat.le_of_ble_eq_true rfl⟩) ⟨(fun a U g mk q => ⟨q.1, trivial⟩), fun U hU hW9 => ⟨rfl, trivial⟩⟩ rfl rfl hl.1 rfl (lv_room (Nat.le_of_ble_eq_true rfl)) dX3_turnedInto_54 ⟨Nat.zero_le _, Nat.zero_le _⟩) (fun r er => ?_)
              subst er
              exact W.lret (v := fn_X3_nearest v0 (1 : Int32) (-v2) (0 : Int32)) hx hb hr (fun t ht _ => ⟨_, rfl, by unfold fn_X3_turnedInto; rw [if_neg c_1, if_pos c_2, if_neg c_7, if_neg c_8, if_neg c_9], ht⟩) (fun _ h => by cases h) dX3_turnedInto_57
        · refine lv_lload_n hx hb dX3_turnedInto_25 rfl (lv_at hl 2 rfl) ?_
          refine lv_l2i hx hb dX3_turnedInto_26 rfl ?_
          refine lv_i2l hx hb dX3_turnedInto_27 rfl ?_
          exact W.lret (v := Int32.toInt64 (Int64.toInt32 v2)) hx hb hr (fun t ht _ => ⟨_, rfl, by unfold fn_X3_turnedInto; rw [if_neg c_1, if_pos c_2, if_neg c_7, if_pos c_8], ht⟩) (fun _ h => by cases h) dX3_turnedInto_28
      · refine lv_lload_n hx hb dX3_turnedInto_19 rfl (lv_at hl 2 rfl) ?_
        exact W.lret (v := v2) hx hb hr (fun t ht _ => ⟨_, rfl, by unfold fn_X3_turnedInto; rw [if_neg c_1, if_pos c_2, if_pos c_7], ht⟩) (fun _ h => by cases h) dX3_turnedInto_20
  · refine lv_lload_n hx hb dX3_turnedInto_5 rfl (lv_at hl 2 rfl) ?_
    exact W.lret (v := v2) hx hb hr (fun t ht _ => ⟨_, rfl, by unfold fn_X3_turnedInto; rw [if_pos c_1], ht⟩) (fun _ h => by cases h) dX3_turnedInto_6
end
section
/-! The words of private members of nest mates: they are no words of a list, and go with the world. -/
def nsL : List Cond := [.methodLinkNest RX2 23 yX0_init "ServoDesk", .methodLinkNest RX0 17 yX1_least "ServoDesk", .methodLinkNest RX0 26 yX1_greatest "ServoDesk", .methodLinkNest RX2 30 yX0_put "ServoDesk", .methodLinkNest RX0 38 yX1_fitted "ServoDesk", .methodLinkNest RX0 42 yX1_isNumber "ServoDesk", .methodLinkNest RX2 34 yX0_number "ServoDesk", .methodLinkNest RX2 46 yX0_obey "ServoDesk", .methodLinkNest RX0 50 yX1_lesser "ServoDesk", .methodLinkNest RX0 54 yX1_greater "ServoDesk", .methodLinkNest RX0 57 yX1_sized "ServoDesk", .methodLinkNest RX0 60 yX1_wholeBelow "ServoDesk", .methodLinkNest RX0 63 yX1_wholeAbove "ServoDesk", .methodLinkNest RX0 66 yX1_wholeNearest "ServoDesk", .methodLinkNest RX0 87 yX1_one "ServoDesk", .methodLinkNest RX0 72 yX1_turned "ServoDesk", .methodLinkNest RX0 90 yX1_zeroBeside "ServoDesk", .methodLinkNest RX2 50 yX0_moveTo "ServoDesk", .methodLinkNest RX0 46 yX1_made "ServoDesk", .methodLinkNest RX2 62 yX1_compared "ServoDesk", .fieldLinkNest RX2 54 "ServoDesk$Axis" "kind" "LServoDesk$Kind;" "ServoDesk", .fieldLinkNest RX2 58 "ServoDesk$Axis" "place" "J" "ServoDesk"]
def nW (U : State) : Prop := ∀ w ∈ nsL, va_Nw w U
theorem nW_X2_23 {U : State} (h : nW U) : va_Nw (.methodLinkNest RX2 23 yX0_init "ServoDesk") U := h _ (List.mem_of_getElem? (i := 0) rfl)
theorem nW_X0_17 {U : State} (h : nW U) : va_Nw (.methodLinkNest RX0 17 yX1_least "ServoDesk") U := h _ (List.mem_of_getElem? (i := 1) rfl)
theorem nW_X0_26 {U : State} (h : nW U) : va_Nw (.methodLinkNest RX0 26 yX1_greatest "ServoDesk") U := h _ (List.mem_of_getElem? (i := 2) rfl)
theorem nW_X2_30 {U : State} (h : nW U) : va_Nw (.methodLinkNest RX2 30 yX0_put "ServoDesk") U := h _ (List.mem_of_getElem? (i := 3) rfl)
theorem nW_X0_38 {U : State} (h : nW U) : va_Nw (.methodLinkNest RX0 38 yX1_fitted "ServoDesk") U := h _ (List.mem_of_getElem? (i := 4) rfl)
theorem nW_X0_42 {U : State} (h : nW U) : va_Nw (.methodLinkNest RX0 42 yX1_isNumber "ServoDesk") U := h _ (List.mem_of_getElem? (i := 5) rfl)
theorem nW_X2_34 {U : State} (h : nW U) : va_Nw (.methodLinkNest RX2 34 yX0_number "ServoDesk") U := h _ (List.mem_of_getElem? (i := 6) rfl)
theorem nW_X2_46 {U : State} (h : nW U) : va_Nw (.methodLinkNest RX2 46 yX0_obey "ServoDesk") U := h _ (List.mem_of_getElem? (i := 7) rfl)
theorem nW_X0_50 {U : State} (h : nW U) : va_Nw (.methodLinkNest RX0 50 yX1_lesser "ServoDesk") U := h _ (List.mem_of_getElem? (i := 8) rfl)
theorem nW_X0_54 {U : State} (h : nW U) : va_Nw (.methodLinkNest RX0 54 yX1_greater "ServoDesk") U := h _ (List.mem_of_getElem? (i := 9) rfl)
theorem nW_X0_57 {U : State} (h : nW U) : va_Nw (.methodLinkNest RX0 57 yX1_sized "ServoDesk") U := h _ (List.mem_of_getElem? (i := 10) rfl)
theorem nW_X0_60 {U : State} (h : nW U) : va_Nw (.methodLinkNest RX0 60 yX1_wholeBelow "ServoDesk") U := h _ (List.mem_of_getElem? (i := 11) rfl)
theorem nW_X0_63 {U : State} (h : nW U) : va_Nw (.methodLinkNest RX0 63 yX1_wholeAbove "ServoDesk") U := h _ (List.mem_of_getElem? (i := 12) rfl)
theorem nW_X0_66 {U : State} (h : nW U) : va_Nw (.methodLinkNest RX0 66 yX1_wholeNearest "ServoDesk") U := h _ (List.mem_of_getElem? (i := 13) rfl)
theorem nW_X0_87 {U : State} (h : nW U) : va_Nw (.methodLinkNest RX0 87 yX1_one "ServoDesk") U := h _ (List.mem_of_getElem? (i := 14) rfl)
theorem nW_X0_72 {U : State} (h : nW U) : va_Nw (.methodLinkNest RX0 72 yX1_turned "ServoDesk") U := h _ (List.mem_of_getElem? (i := 15) rfl)
theorem nW_X0_90 {U : State} (h : nW U) : va_Nw (.methodLinkNest RX0 90 yX1_zeroBeside "ServoDesk") U := h _ (List.mem_of_getElem? (i := 16) rfl)
theorem nW_X2_50 {U : State} (h : nW U) : va_Nw (.methodLinkNest RX2 50 yX0_moveTo "ServoDesk") U := h _ (List.mem_of_getElem? (i := 17) rfl)
theorem nW_X0_46 {U : State} (h : nW U) : va_Nw (.methodLinkNest RX0 46 yX1_made "ServoDesk") U := h _ (List.mem_of_getElem? (i := 18) rfl)
theorem nW_X2_62 {U : State} (h : nW U) : va_Nw (.methodLinkNest RX2 62 yX1_compared "ServoDesk") U := h _ (List.mem_of_getElem? (i := 19) rfl)
theorem nW_X2_54 {U : State} (h : nW U) : va_Nw (.fieldLinkNest RX2 54 "ServoDesk$Axis" "kind" "LServoDesk$Kind;" "ServoDesk") U := h _ (List.mem_of_getElem? (i := 20) rfl)
theorem nW_X2_58 {U : State} (h : nW U) : va_Nw (.fieldLinkNest RX2 58 "ServoDesk$Axis" "place" "J" "ServoDesk") U := h _ (List.mem_of_getElem? (i := 21) rfl)
theorem nW_warm {s U : State} (hW : s.WarmedH U.vm) (h : nW s) : nW U := List.forall_mem_cons.mpr ⟨va_Nw.warmM hW (nW_X2_23 h), List.forall_mem_cons.mpr ⟨va_Nw.warmM hW (nW_X0_17 h), List.forall_mem_cons.mpr ⟨va_Nw.warmM hW (nW_X0_26 h), List.forall_mem_cons.mpr ⟨va_Nw.warmM hW (nW_X2_30 h), List.forall_mem_cons.mpr ⟨va_Nw.warmM hW (nW_X0_38 h), List.forall_mem_cons.mpr ⟨va_Nw.warmM hW (nW_X0_42 h), List.forall_mem_cons.mpr ⟨va_Nw.warmM hW (nW_X2_34 h), List.forall_mem_cons.mpr ⟨va_Nw.warmM hW (nW_X2_46 h), List.forall_mem_cons.mpr ⟨va_Nw.warmM hW (nW_X0_50 h), List.forall_mem_cons.mpr ⟨va_Nw.warmM hW (nW_X0_54 h), List.forall_mem_cons.mpr ⟨va_Nw.warmM hW (nW_X0_57 h), List.forall_mem_cons.mpr ⟨va_Nw.warmM hW (nW_X0_60 h), List.forall_mem_cons.mpr ⟨va_Nw.warmM hW (nW_X0_63 h), List.forall_mem_cons.mpr ⟨va_Nw.warmM hW (nW_X0_66 h), List.forall_mem_cons.mpr ⟨va_Nw.warmM hW (nW_X0_87 h), List.forall_mem_cons.mpr ⟨va_Nw.warmM hW (nW_X0_72 h), List.forall_mem_cons.mpr ⟨va_Nw.warmM hW (nW_X0_90 h), List.forall_mem_cons.mpr ⟨va_Nw.warmM hW (nW_X2_50 h), List.forall_mem_cons.mpr ⟨va_Nw.warmM hW (nW_X0_46 h), List.forall_mem_cons.mpr ⟨va_Nw.warmM hW (nW_X2_62 h), List.forall_mem_cons.mpr ⟨va_Nw.warmF hW (nW_X2_54 h), List.forall_mem_cons.mpr ⟨va_Nw.warmF hW (nW_X2_58 h), fun _ h => absurd h List.not_mem_nil⟩⟩⟩⟩⟩⟩⟩⟩⟩⟩⟩⟩⟩⟩⟩⟩⟩⟩⟩⟩⟩⟩
theorem nW_same {s U : State} (hv : s.vm = U.vm) (h : nW s) : nW U := List.forall_mem_cons.mpr ⟨va_Nw.same rfl hv (nW_X2_23 h), List.forall_mem_cons.mpr ⟨va_Nw.same rfl hv (nW_X0_17 h), List.forall_mem_cons.mpr ⟨va_Nw.same rfl hv (nW_X0_26 h), List.forall_mem_cons.mpr ⟨va_Nw.same rfl hv (nW_X2_30 h), List.forall_mem_cons.mpr ⟨va_Nw.same rfl hv (nW_X0_38 h), List.forall_mem_cons.mpr ⟨va_Nw.same rfl hv (nW_X0_42 h), List.forall_mem_cons.mpr ⟨va_Nw.same rfl hv (nW_X2_34 h), List.forall_mem_cons.mpr ⟨va_Nw.same rfl hv (nW_X2_46 h), List.forall_mem_cons.mpr ⟨va_Nw.same rfl hv (nW_X0_50 h), List.forall_mem_cons.mpr ⟨va_Nw.same rfl hv (nW_X0_54 h), List.forall_mem_cons.mpr ⟨va_Nw.same rfl hv (nW_X0_57 h), List.forall_mem_cons.mpr ⟨va_Nw.same rfl hv (nW_X0_60 h), List.forall_mem_cons.mpr ⟨va_Nw.same rfl hv (nW_X0_63 h), List.forall_mem_cons.mpr ⟨va_Nw.same rfl hv (nW_X0_66 h), List.forall_mem_cons.mpr ⟨va_Nw.same rfl hv (nW_X0_87 h), List.forall_mem_cons.mpr ⟨va_Nw.same rfl hv (nW_X0_72 h), List.forall_mem_cons.mpr ⟨va_Nw.same rfl hv (nW_X0_90 h), List.forall_mem_cons.mpr ⟨va_Nw.same rfl hv (nW_X2_50 h), List.forall_mem_cons.mpr ⟨va_Nw.same rfl hv (nW_X0_46 h), List.forall_mem_cons.mpr ⟨va_Nw.same rfl hv (nW_X2_62 h), List.forall_mem_cons.mpr ⟨va_Nw.same rfl hv (nW_X2_54 h), List.forall_mem_cons.mpr ⟨va_Nw.same rfl hv (nW_X2_58 h), fun _ h => absurd h List.not_mem_nil⟩⟩⟩⟩⟩⟩⟩⟩⟩⟩⟩⟩⟩⟩⟩⟩⟩⟩⟩⟩⟩⟩
theorem nW_of {A : Array Value} {U : State} (h : ∀ w ∈ nsL, w.before A U = true) : nW U := List.forall_mem_cons.mpr ⟨va_Nw.of rfl (h _ (List.mem_of_getElem? (i := 0) rfl)), List.forall_mem_cons.mpr ⟨va_Nw.of rfl (h _ (List.mem_of_getElem? (i := 1) rfl)), List.forall_mem_cons.mpr ⟨va_Nw.of rfl (h _ (List.mem_of_getElem? (i := 2) rfl)), List.forall_mem_cons.mpr ⟨va_Nw.of rfl (h _ (List.mem_of_getElem? (i := 3) rfl)), List.forall_mem_cons.mpr ⟨va_Nw.of rfl (h _ (List.mem_of_getElem? (i := 4) rfl)), List.forall_mem_cons.mpr ⟨va_Nw.of rfl (h _ (List.mem_of_getElem? (i := 5) rfl)), List.forall_mem_cons.mpr ⟨va_Nw.of rfl (h _ (List.mem_of_getElem? (i := 6) rfl)), List.forall_mem_cons.mpr ⟨va_Nw.of rfl (h _ (List.mem_of_getElem? (i := 7) rfl)), List.forall_mem_cons.mpr ⟨va_Nw.of rfl (h _ (List.mem_of_getElem? (i := 8) rfl)), List.forall_mem_cons.mpr ⟨va_Nw.of rfl (h _ (List.mem_of_getElem? (i := 9) rfl)), List.forall_mem_cons.mpr ⟨va_Nw.of rfl (h _ (List.mem_of_getElem? (i := 10) rfl)), List.forall_mem_cons.mpr ⟨va_Nw.of rfl (h _ (List.mem_of_getElem? (i := 11) rfl)), List.forall_mem_cons.mpr ⟨va_Nw.of rfl (h _ (List.mem_of_getElem? (i := 12) rfl)), List.forall_mem_cons.mpr ⟨va_Nw.of rfl (h _ (List.mem_of_getElem? (i := 13) rfl)), List.forall_mem_cons.mpr ⟨va_Nw.of rfl (h _ (List.mem_of_getElem? (i := 14) rfl)), List.forall_mem_cons.mpr ⟨va_Nw.of rfl (h _ (List.mem_of_getElem? (i := 15) rfl)), List.forall_mem_cons.mpr ⟨va_Nw.of rfl (h _ (List.mem_of_getElem? (i := 16) rfl)), List.forall_mem_cons.mpr ⟨va_Nw.of rfl (h _ (List.mem_of_getElem? (i := 17) rfl)), List.forall_mem_cons.mpr ⟨va_Nw.of rfl (h _ (List.mem_of_getElem? (i := 18) rfl)), List.forall_mem_cons.mpr ⟨va_Nw.of rfl (h _ (List.mem_of_getElem? (i := 19) rfl)), List.forall_mem_cons.mpr ⟨va_Nw.of rfl (h _ (List.mem_of_getElem? (i := 20) rfl)), List.forall_mem_cons.mpr ⟨va_Nw.of rfl (h _ (List.mem_of_getElem? (i := 21) rfl)), fun _ h => absurd h List.not_mem_nil⟩⟩⟩⟩⟩⟩⟩⟩⟩⟩⟩⟩⟩⟩⟩⟩⟩⟩⟩⟩⟩⟩
theorem kw_callA {ad : Nat → Nat} {A B : Nat → Prop} {s U : State} {H : Heap} {locs : List Loc} (h : kw ad A s s.heap) (hS : va_S A s.heap H locs) (hB : ∀ q, B q → A q) (hU : U.heap = H) (hW : s.WarmedH U.vm) : kw ad B U U.heap := by
  rw [hU]
  exact kw_moved hW.alike (kw_narrow (kw_kept h hS.2.1) hB)
/-- an axis' five numbers: PLACE, LOW, HIGH, BAND, WAY -/
abbrev Ax5 : Type := Int64 × Int64 × Int64 × Int64 × Int64
abbrev axE (ad : Nat → Nat) (k : Nat) (u : Ax5) : va_E := .inr (0, [.ref (ad k), .long u.1, .long u.2.1, .long u.2.2.1, .long u.2.2.2.1, .long u.2.2.2.2])
/-- one cell of a world, put into a world of its own -/
theorem va_P1 {D : va_G} {cl : List vw_C} {ws : va_W} {H : Heap} {k : Nat} {q : Nat × va_E} (h : va_P D cl ws H) (hk : ws[k]? = some q) : va_P D cl [q] H := h.by (fun _ => k) (fun j x hj => by
  have hz : j < 1 := (List.getElem?_eq_some_iff.mp hj).1
  rw [show j = 0 by omega] at hj
  cases hj
  exact hk)
theorem va_D1 {A : Nat → Prop} {ws : va_W} {k : Nat} {q : Nat × va_E} (h : va_D A ws) (hk : ws[k]? = some q) : va_D A [q] := ⟨fun i j x y hi hj _ => by
  have h1 : i < 1 := (List.getElem?_eq_some_iff.mp hi).1
  have h2 : j < 1 := (List.getElem?_eq_some_iff.mp hj).1
  omega, fun j x hj => by
  have hz : j < 1 := (List.getElem?_eq_some_iff.mp hj).1
  rw [show j = 0 by omega] at hj
  cases hj
  exact h.2 k _ hk⟩
theorem va_F1 {A : Nat → Prop} {ws : va_W} {H0 H : Heap} {locs : List Loc} {k : Nat} {q : Nat × va_E} (hD : va_D A ws) (hS : va_S A H0 H locs) (hA : ∀ x, H0.size ≤ x → A x) (hk : ws[k]? = some q) : ∀ x, va_A [q] H.size x → A x := by
  intro x h
  rcases h with ⟨j, e, h⟩ | h
  · have hz : j < 1 := (List.getElem?_eq_some_iff.mp h).1
    rw [show j = 0 by omega] at h
    have e1 : q = (x, e) := Option.some.inj h
    have e2 := hD.2 k _ hk
    rw [e1] at e2
    exact e2
  · exact hA x (Nat.le_trans hS.1 h)
/-- behind a call that was given one cell -/
theorem va_J1 {A0 : Nat → Prop} {D : va_G} {cl : List vw_C} {ws : va_W} {H H1 : Heap} {k a : Nat} {e0 e : va_E} (hP : va_P D cl ws H) (hD : va_D A0 ws) (hk : ws[k]? = some (a, e0)) (hq : ∀ q : Nat, q < H.size → ¬ va_A [(a, e0)] H.size q → H1[q]? = H[q]?) (hP1 : va_P D cl [(a, e)] H1) : va_P D cl (ws.set k (a, e)) H1 ∧ va_D A0 (ws.set k (a, e)) := by
  refine ⟨fun j x hj => ?_, hD.set hk⟩
  have hl : k < ws.length := (List.getElem?_eq_some_iff.mp hk).1
  by_cases hjk : j = k
  · subst hjk
    rw [List.getElem?_set_self hl] at hj
    cases hj
    exact hP1 0 _ rfl
  · rw [List.getElem?_set_ne (fun h => hjk h.symm)] at hj
    have hlt := (hP j x hj).lt
    refine (hP j x hj).kept (hq x.1 hlt ?_)
    intro h
    rcases h with ⟨i, e1, h⟩ | h
    · have hz : i < 1 := (List.getElem?_eq_some_iff.mp h).1
      rw [show i = 0 by omega] at h
      have e2 : (a, e0) = (x.1, e1) := Option.some.inj h
      have e3 : x.1 = a := (congrArg Prod.fst e2).symm
      exact hjk (hD.1 j k x (a, e0) hj hk e3)
    · omega
/-- one cell's world set anew at the same place -/
theorem va_Dset {A : Nat → Prop} {a : Nat} {e e1 : va_E} (h : va_D A [(a, e)]) : va_D A [(a, e1)] := h.set (p := 0) rfl
/-- an axis' world: its one cell, the constants, the nest's words -/
def axw (dC : Nat → ClassId) (dI : Nat → Nat → Nat) (ad : Nat → Nat) (h0 sz k : Nat) (u : Ax5) (U : State) : Prop := U.heap.size = sz ∧ va_P (dC, dI) vwCl [(h0, axE ad k u)] U.heap ∧ va_K (dC, dI) vwCl [] U ∧ va_D (fun _ => True) [(h0, axE ad k u)] ∧ kw ad (va_A [(h0, axE ad k u)] sz) U U.heap ∧ nW U
theorem axw_cl {dC : Nat → ClassId} {dI : Nat → Nat → Nat} {ad : Nat → Nat} {h0 sz k : Nat} {u : Ax5} {U : State} {g : JFrame} {mk : MethodId} {a : Array Value} (h : axw dC dI ad h0 sz k u U) : axw dC dI ad h0 sz k u (U.calling g mk a) :=
  ⟨h.1, h.2.1, va_K.moved (u := U) (U := U.calling g mk a) (Vm.Alike.refl U.vm) h.2.2.1, h.2.2.2.1, kw_blind h.2.2.2.2.1, nW_same (s := U) (U := U.calling g mk a) rfl h.2.2.2.2.2⟩
theorem axw_blind {dC : Nat → ClassId} {dI : Nat → Nat → Nat} {ad : Nat → Nat} {h0 sz k : Nat} {u : Ax5} {av : List Value} : FrameBlind (va_Pc av (fun U => axw dC dI ad h0 sz k u U)) := fun _ _ _ _ q => ⟨q.1, axw_cl q.2⟩
theorem axw_call {dC : Nat → ClassId} {dI : Nat → Nat → Nat} {ad : Nat → Nat} {h0 k : Nat} {u : Ax5} {s U : State} {A : Nat → Prop} {H : Heap} {locs : List Loc} {tys : List (ClassId × FieldType)} {av : List Value} (hK : va_K (dC, dI) vwCl tys s) (hP : va_P (dC, dI) vwCl [(h0, axE ad k u)] H) (hD : va_D A [(h0, axE ad k u)]) (hW : kw ad A s s.heap) (hN : nW s) (hS : va_S A s.heap H locs) (hF : ∀ q, va_A [(h0, axE ad k u)] H.size q → A q) (hU : U.heap = H) (hW9 : s.WarmedH U.vm) : va_Pc av (fun U => axw dC dI ad h0 H.size k u U) av.toArray U :=
  ⟨rfl, by rw [hU], by rw [hU]; exact hP, va_K.moved hW9.alike (hK.sub (tys' := []) [] rfl), hD.weaken (fun _ _ _ _ => trivial), kw_callA hW hS hF hU hW9, nW_warm hW9 hN⟩
end
section
def fn_X0_number (k : Nat) (v1 : Int32) (pl lo hi ba wy : Int64) : Int64 :=
  if v1 = (0 : Int32) then
    pl
  else
    if v1 = (1 : Int32) then
      lo
    else
      if v1 = (2 : Int32) then
        hi
      else
        if v1 = (3 : Int32) then
          ba
        else
          if v1 = (4 : Int32) then
            wy
          else
            (0 : Int64)
set_option maxHeartbeats 4000000 in
set_option maxRecDepth 100000 in
theorem ct_X0_number (l : Launch) (dC : Nat → ClassId) (dI : Nat → Nat → Nat) (ad : Nat → Nat) (h0 sz k : Nat) (hk_k : k < 4) (v1 : Int32) (pl lo hi ba wy : Int64) : Met l yX0_number wsX0_number ({ frames := 0, cells := 0, slots := 0, locals := 0 } : Room) (va_Pc [.ref h0, .int v1] (fun U => axw dC dI ad h0 sz k (pl, lo, hi, ba, wy) U)) (vp_Sl (fun r => r = fn_X0_number k v1 pl lo hi ba wy)) 0 0 (fun _ => False) := by
  refine Met.ofW (cc := cX0_number) (maxL := 2) (ret := (some .long)) (by decide) rfl ?_
  intro p e s m args below meth c s₁ B hml hv
  obtain ⟨rfl, hsz, hP, hK, hD0, hW, hN⟩ := hv
  have hx := B.exec
  have hb := B.bytes
  have hr := B.returns
  have hlocks := B.notSynchronized
  have hts := atoms_spec (ws := wsX0_number) B.pre
  have hown : s.vm.findClass RX0 = some m.cls := findClass_of_methodNamed B.named
  have hin : ∀ w ∈ u_ws RX0 TX0 6, w ∈ wsX0_number := fun _ h => List.mem_cons_of_mem _ (List.mem_append_right _ h)
  subst hsz
  have hD := hD0.self (sz := s.heap.size)
  generalize hAe : va_A [(h0, axE ad k (pl, lo, hi, ba, wy))] s.heap.size = A at hD hW ⊢
  have hA : ∀ q : Nat, s.heap.size ≤ q → A q := fun q h => by rw [← hAe]; exact Or.inr h
  have hS : va_S A s.heap s.heap [] := va_S.rf
  have hP : va_P (dC, dI) vwCl [(h0, .inr (0, [.ref (ad k), .long pl, .long lo, .long hi, .long ba, .long wy]))] s.heap := hP
  have hD : va_D A [(h0, .inr (0, [.ref (ad k), .long pl, .long lo, .long hi, .long ba, .long wy]))] := hD
  have hl := lv_entry ([.ref h0, .int v1]) (n := 2) (Nat.le_of_ble_eq_true rfl)
  rw [lg_entry_eq]
  generalize (lg_sl ([.ref h0, .int v1]) ++ List.replicate (2 - (lg_sl ([.ref h0, .int v1])).length) Slot.unset).toArray = ls at hl ⊢
  have hl : lv_has ls 2 [(0, .ref h0), (1, .int v1)] := hl
  refine lv_iload_n hx hb dX0_number_0 rfl (lv_at hl 1 rfl) ?_
  by_cases q_0 : v1 = (0 : Int32)
  · refine lv_tableIn (off := 35) (tgt := 36) hx hb dX0_number_1 (by rw [q_0]; decide) (by rw [q_0]; decide) (by rw [q_0]; rfl) (by decide) ?_
    refine lv_aload_n hx hb dX0_number_36 rfl (lv_at hl 0 rfl) ?_
    refine va_get (D := (dC, dI)) (ci := 0) (v := .long pl) (C := RX0) (T := TX0) (N := 6) hx hb hts hin hown hK hP 0 rfl rfl 1 (by decide) (hts (.fieldLink RX0 13 "ServoDesk$Axis" "place" "J") (by decide +kernel)) (fun _ h9 => h9) rfl dX0_number_37 ?_
    have e9 : fn_X0_number k v1 pl lo hi ba wy = pl := by unfold fn_X0_number; rw [if_pos q_0]
    exact W.lret (v := pl) hx hb hr (fun t ht hW9 => ⟨_, rfl, by rw [e9], ht⟩) (fun _ h => by cases h) dX0_number_40
  by_cases q_1 : v1 = (1 : Int32)
  · refine lv_tableIn (off := 40) (tgt := 41) hx hb dX0_number_1 (by rw [q_1]; decide) (by rw [q_1]; decide) (by rw [q_1]; rfl) (by decide) ?_
    refine lv_aload_n hx hb dX0_number_41 rfl (lv_at hl 0 rfl) ?_
    refine va_get (D := (dC, dI)) (ci := 0) (v := .long lo) (C := RX0) (T := TX0) (N := 6) hx hb hts hin hown hK hP 0 rfl rfl 2 (by decide) (hts (.fieldLink RX0 23 "ServoDesk$Axis" "low" "J") (by decide +kernel)) (fun _ h9 => h9) rfl dX0_number_42 ?_
    have e9 : fn_X0_number k v1 pl lo hi ba wy = lo := by unfold fn_X0_number; rw [if_neg q_0, if_pos q_1]
    exact W.lret (v := lo) hx hb hr (fun t ht hW9 => ⟨_, rfl, by rw [e9], ht⟩) (fun _ h => by cases h) dX0_number_45
  by_cases q_2 : v1 = (2 : Int32)
  · refine lv_tableIn (off := 45) (tgt := 46) hx hb dX0_number_1 (by rw [q_2]; decide) (by rw [q_2]; decide) (by rw [q_2]; rfl) (by decide) ?_
    refine lv_aload_n hx hb dX0_number_46 rfl (lv_at hl 0 rfl) ?_
    refine va_get (D := (dC, dI)) (ci := 0) (v := .long hi) (C := RX0) (T := TX0) (N := 6) hx hb hts hin hown hK hP 0 rfl rfl 3 (by decide) (hts (.fieldLink RX0 29 "ServoDesk$Axis" "high" "J") (by decide +kernel)) (fun _ h9 => h9) rfl dX0_number_47 ?_
    have e9 : fn_X0_number k v1 pl lo hi ba wy = hi := by unfold fn_X0_number; rw [if_neg q_0, if_neg q_1, if_pos q_2]
    exact W.lret (v := hi) hx hb hr (fun t ht hW9 => ⟨_, rfl, by rw [e9], ht⟩) (fun _ h => by cases h) dX0_number_50
  by_cases q_3 : v1 = (3 : Int32)
  · refine lv_tableIn (off := 50) (tgt := 51) hx hb dX0_number_1 (by rw [q_3]; decide) (by rw [q_3]; decide) (by rw [q_3]; rfl) (by decide) ?_
    refine lv_aload_n hx hb dX0_number_51 rfl (lv_at hl 0 rfl) ?_
    refine va_get (D := (dC, dI)) (ci := 0) (v := .long ba) (C := RX0) (T := TX0) (N := 6) hx hb hts hin hown hK hP 0 rfl rfl 4 (by decide) (hts (.fieldLink RX0 32 "ServoDesk$Axis" "band" "J") (by decide +kernel)) (fun _ h9 => h9) rfl dX0_number_52 ?_
    have e9 : fn_X0_number k v1 pl lo hi ba wy = ba := by unfold fn_X0_number; rw [if_neg q_0, if_neg q_1, if_neg q_2, if_pos q_3]
    exact W.lret (v := ba) hx hb hr (fun t ht hW9 => ⟨_, rfl, by rw [e9], ht⟩) (fun _ h => by cases h) dX0_number_55
  by_cases q_4 : v1 = (4 : Int32)
  · refine lv_tableIn (off := 55) (tgt := 56) hx hb dX0_number_1 (by rw [q_4]; decide) (by rw [q_4]; decide) (by rw [q_4]; rfl) (by decide) ?_
    refine lv_aload_n hx hb dX0_number_56 rfl (lv_at hl 0 rfl) ?_
    refine va_get (D := (dC, dI)) (ci := 0) (v := .long wy) (C := RX0) (T := TX0) (N := 6) hx hb hts hin hown hK hP 0 rfl rfl 5 (by decide) (hts (.fieldLink RX0 35 "ServoDesk$Axis" "way" "J") (by decide +kernel)) (fun _ h9 => h9) rfl dX0_number_57 ?_
    have e9 : fn_X0_number k v1 pl lo hi ba wy = wy := by unfold fn_X0_number; rw [if_neg q_0, if_neg q_1, if_neg q_2, if_neg q_3, if_pos q_4]
    exact W.lret (v := wy) hx hb hr (fun t ht hW9 => ⟨_, rfl, by rw [e9], ht⟩) (fun _ h => by cases h) dX0_number_60
  refine lv_tableOut (tgt := 61) hx hb dX0_number_1 (by have z0 := lv_neT q_0 (a := 0) (by decide); have z1 := lv_neT q_1 (a := 1) (by decide); have z2 := lv_neT q_2 (a := 2) (by decide); have z3 := lv_neT q_3 (a := 3) (by decide); have z4 := lv_neT q_4 (a := 4) (by decide); omega) (by decide) ?_
  refine lv_lconst (v := (0 : Int64)) hx hb dX0_number_61 (by decide) ?_
  have e9 : fn_X0_number k v1 pl lo hi ba wy = (0 : Int64) := by unfold fn_X0_number; rw [if_neg q_0, if_neg q_1, if_neg q_2, if_neg q_3, if_neg q_4]
  exact W.lret (v := (0 : Int64)) hx hb hr (fun t ht hW9 => ⟨_, rfl, by rw [e9], ht⟩) (fun _ h => by cases h) dX0_number_62
def fn_X0_put (k : Nat) (v1 : Int32) (v2 : Int64) (pl lo hi ba wy : Int64) : Int32 × Ax5 :=
  if (fn_X1_isNumber k (fn_X1_fitted k v2)) = 0 then
    ((0 : Int32), (pl, lo, hi, ba, wy))
  else
    if v1 = (0 : Int32) then
      ((1 : Int32), (fn_X1_fitted k v2, lo, hi, ba, wy))
    else
      if v1 = (1 : Int32) then
        ((1 : Int32), (pl, fn_X1_fitted k v2, hi, ba, wy))
      else
        if v1 = (2 : Int32) then
          ((1 : Int32), (pl, lo, fn_X1_fitted k v2, ba, wy))
        else
          if v1 = (3 : Int32) then
            ((1 : Int32), (pl, lo, hi, fn_X1_fitted k v2, wy))
          else
            if v1 = (4 : Int32) then
              ((1 : Int32), (pl, lo, hi, ba, fn_X1_fitted k v2))
            else
              ((0 : Int32), (pl, lo, hi, ba, wy))
set_option maxHeartbeats 4000000 in
set_option maxRecDepth 100000 in
theorem ct_X0_put (l : Launch) (dC : Nat → ClassId) (dI : Nat → Nat → Nat) (ad : Nat → Nat) (h0 sz k : Nat) (hk_k : k < 4) (v1 : Int32) (v2 : Int64) (pl lo hi ba wy : Int64) : Met l yX0_put wsX0_put ({ frames := 3, cells := 0, slots := 0, locals := 67 } : Room) (va_Pc [.ref h0, .int v1, .long v2] (fun U => axw dC dI ad h0 sz k (pl, lo, hi, ba, wy) U)) (va_Qi (fun r (_ : Unit) => r = (fn_X0_put k v1 v2 pl lo hi ba wy).1) (fun _ t => va_P (dC, dI) vwCl [(h0, axE ad k (fn_X0_put k v1 v2 pl lo hi ba wy).2)] t.heap ∧ va_D (va_A [(h0, axE ad k (pl, lo, hi, ba, wy))] sz) [(h0, axE ad k (fn_X0_put k v1 v2 pl lo hi ba wy).2)]) (va_A [(h0, axE ad k (pl, lo, hi, ba, wy))] sz)) 0 0 (va_A [(h0, axE ad k (pl, lo, hi, ba, wy))] sz) := by
  refine Met.ofW (cc := cX0_put) (maxL := 6) (ret := (some .boolean)) (by decide) rfl ?_
  intro p e s m args below meth c s₁ B hml hv
  obtain ⟨rfl, hsz, hP, hK, hD0, hW, hN⟩ := hv
  have hx := B.exec
  have hb := B.bytes
  have hr := B.returns
  have hlocks := B.notSynchronized
  have hts := atoms_spec (ws := wsX0_put) B.pre
  have hown : s.vm.findClass RX0 = some m.cls := findClass_of_methodNamed B.named
  have hin : ∀ w ∈ u_ws RX0 TX0 6, w ∈ wsX0_put := fun _ h => List.mem_cons_of_mem _ (List.mem_append_right _ h)
  subst hsz
  have hD := hD0.self (sz := s.heap.size)
  generalize hAe : va_A [(h0, axE ad k (pl, lo, hi, ba, wy))] s.heap.size = A at hD hW ⊢
  have hA : ∀ q : Nat, s.heap.size ≤ q → A q := fun q h => by rw [← hAe]; exact Or.inr h
  have hS : va_S A s.heap s.heap [] := va_S.rf
  have hP : va_P (dC, dI) vwCl [(h0, .inr (0, [.ref (ad k), .long pl, .long lo, .long hi, .long ba, .long wy]))] s.heap := hP
  have hD : va_D A [(h0, .inr (0, [.ref (ad k), .long pl, .long lo, .long hi, .long ba, .long wy]))] := hD
  have hl := lv_entry ([.ref h0, .int v1, .long v2]) (n := 6) (Nat.le_of_ble_eq_true rfl)
  rw [lg_entry_eq]
  generalize (lg_sl ([.ref h0, .int v1, .long v2]) ++ List.replicate (6 - (lg_sl ([.ref h0, .int v1, .long v2])).length) Slot.unset).toArray = ls at hl ⊢
  have hl : lv_has ls 6 [(0, .ref h0), (1, .int v1), (2, .long v2)] := hl
  refine lv_aload_n hx hb dX0_put_0 rfl (lv_at hl 0 rfl) ?_
  refine va_get (D := (dC, dI)) (ci := 0) (v := .ref (ad k)) (C := RX0) (T := TX0) (N := 6) hx hb hts hin hown hK hP 0 rfl rfl 0 (by decide) (hts (.fieldLink RX0 7 "ServoDesk$Axis" "kind" "LServoDesk$Kind;") (by decide +kernel)) (fun _ h9 => h9) rfl dX0_put_1 ?_
  refine lv_lload_n hx hb dX0_put_4 rfl (lv_at hl 2 rfl) ?_
  refine vp_callSl (va_Run.run (va_runVN (As := [.long v2]) (rest := []) ⟨hx, hb, hml, hown, hts⟩ (ct_X1_fitted l ad k hk_k v2) ⟨va_cnB 1 hts gX0_put_X1_fitted_n38 rfl rfl rfl (nW_X0_38 hN) (hts (.initialized RX1) (by decide +kernel)) (by decide +kernel) ⟨Nat.le_of_ble_eq_true rfl, Nat.le_of_ble_eq_true rfl⟩, hts (.instanceMethod yX1_fitted) (by decide +kernel), hts (.selects RX1 yX1_fitted yX1_fitted) (by decide +kernel)⟩ ⟨(fun a U g mk q => ⟨q.1, kw_blind q.2⟩), kw_recv hW hS hk_k, fun U hU hW9 => ⟨rfl, kw_call hW hS hU hW9⟩⟩ rfl rfl hl.1 rfl (lv_room (Nat.le_of_ble_eq_true rfl)) dX0_put_5 ⟨Nat.zero_le _, Nat.zero_le _⟩)) (fun r er => ?_)
  subst er
  refine lv_lstore (lv' := [(4, .long (fn_X1_fitted k v2)), (0, .ref h0), (1, .int v1), (2, .long v2)]) hx hb dX0_put_8 hl (by decide) rfl (fun ls hl => ?_)
  refine lv_aload_n hx hb dX0_put_10 rfl (lv_at hl 1 rfl) ?_
  refine va_get (D := (dC, dI)) (ci := 0) (v := .ref (ad k)) (C := RX0) (T := TX0) (N := 6) hx hb hts hin hown hK hP 0 rfl rfl 0 (by decide) (hts (.fieldLink RX0 7 "ServoDesk$Axis" "kind" "LServoDesk$Kind;") (by decide +kernel)) (fun _ h9 => h9) rfl dX0_put_11 ?_
  refine lv_lload hx hb dX0_put_14 (lv_at hl 0 rfl) ?_
  refine vp_callSi (va_Run.run (va_runVN (As := [.long (fn_X1_fitted k v2)]) (rest := []) ⟨hx, hb, hml, hown, hts⟩ (ct_X1_isNumber l ad k hk_k (fn_X1_fitted k v2)) ⟨va_cnB 1 hts gX0_put_X1_isNumber_n42 rfl rfl rfl (nW_X0_42 hN) (hts (.initialized RX1) (by decide +kernel)) (by decide +kernel) ⟨Nat.le_of_ble_eq_true rfl, Nat.le_of_ble_eq_true rfl⟩, hts (.instanceMethod yX1_isNumber) (by decide +kernel), hts (.selects RX1 yX1_isNumber yX1_isNumber) (by decide +kernel)⟩ ⟨(fun a U g mk q => ⟨q.1, kw_blind q.2⟩), kw_recv hW hS hk_k, fun U hU hW9 => ⟨rfl, kw_call hW hS hU hW9⟩⟩ rfl rfl hl.1 rfl (lv_room (Nat.le_of_ble_eq_true rfl)) dX0_put_16 ⟨Nat.zero_le _, Nat.zero_le _⟩)) (fun r er => ?_)
  subst er
  refine lv_if_ne (tgt := 24) hx hb dX0_put_19 (by decide) (fun c_1 => ?_) (fun c_1 => ?_)
  · refine lv_iload_n hx hb dX0_put_24 rfl (lv_at hl 2 rfl) ?_
    by_cases q_0 : v1 = (0 : Int32)
    · refine lv_tableIn (off := 35) (tgt := 60) hx hb dX0_put_25 (by rw [q_0]; decide) (by rw [q_0]; decide) (by rw [q_0]; rfl) (by decide) ?_
      refine lv_aload_n hx hb dX0_put_60 rfl (lv_at hl 1 rfl) ?_
      refine lv_lload hx hb dX0_put_61 (lv_at hl 0 rfl) ?_
      refine va_put (D := (dC, dI)) (ci := 0) (v := .long (fn_X1_fitted k v2)) (ty := .long) (C := RX0) (T := TX0) (N := 6) hx hb hts hin tyX0 tyX0_ok nmX0 hown hK hP hD hS 0 rfl rfl 1 (by decide) (hts (.fieldLink RX0 13 "ServoDesk$Axis" "place" "J") (by decide +kernel)) (fun _ h9 => h9) rfl (by decide +kernel) rfl rfl (Nat.le_of_ble_eq_true rfl) dX0_put_63 (fun H locs hP hD hS => ?_)
      have hP : va_P (dC, dI) vwCl [(h0, .inr (0, [.ref (ad k), .long (fn_X1_fitted k v2), .long lo, .long hi, .long ba, .long wy]))] H := hP
      have hD : va_D A [(h0, .inr (0, [.ref (ad k), .long (fn_X1_fitted k v2), .long lo, .long hi, .long ba, .long wy]))] := hD
      refine lv_iconst (v := (1 : Int32)) hx hb dX0_put_66 (by decide) ?_
      have e9 : fn_X0_put k v1 v2 pl lo hi ba wy = ((1 : Int32), (fn_X1_fitted k v2, lo, hi, ba, wy)) := by unfold fn_X0_put; rw [if_neg c_1, if_pos q_0]
      exact W.zret (v := (1 : Int32)) (ty := .boolean) hx hb hr (by decide) (fun t ht hW9 => ⟨⟨_, (), rfl, by rw [e9], by rw [ht, e9]; exact hP, by rw [e9]; exact hD⟩, hS.F ht⟩) hS.2.2 dX0_put_67
    by_cases q_1 : v1 = (1 : Int32)
    · refine lv_tableIn (off := 43) (tgt := 68) hx hb dX0_put_25 (by rw [q_1]; decide) (by rw [q_1]; decide) (by rw [q_1]; rfl) (by decide) ?_
      refine lv_aload_n hx hb dX0_put_68 rfl (lv_at hl 1 rfl) ?_
      refine lv_lload hx hb dX0_put_69 (lv_at hl 0 rfl) ?_
      refine va_put (D := (dC, dI)) (ci := 0) (v := .long (fn_X1_fitted k v2)) (ty := .long) (C := RX0) (T := TX0) (N := 6) hx hb hts hin tyX0 tyX0_ok nmX0 hown hK hP hD hS 0 rfl rfl 2 (by decide) (hts (.fieldLink RX0 23 "ServoDesk$Axis" "low" "J") (by decide +kernel)) (fun _ h9 => h9) rfl (by decide +kernel) rfl rfl (Nat.le_of_ble_eq_true rfl) dX0_put_71 (fun H locs hP hD hS => ?_)
      have hP : va_P (dC, dI) vwCl [(h0, .inr (0, [.ref (ad k), .long pl, .long (fn_X1_fitted k v2), .long hi, .long ba, .long wy]))] H := hP
      have hD : va_D A [(h0, .inr (0, [.ref (ad k), .long pl, .long (fn_X1_fitted k v2), .long hi, .long ba, .long wy]))] := hD
      refine lv_iconst (v := (1 : Int32)) hx hb dX0_put_74 (by decide) ?_
      have e9 : fn_X0_put k v1 v2 pl lo hi ba wy = ((1 : Int32), (pl, fn_X1_fitted k v2, hi, ba, wy)) := by unfold fn_X0_put; rw [if_neg c_1, if_neg q_0, if_pos q_1]
      exact W.zret (v := (1 : Int32)) (ty := .boolean) hx hb hr (by decide) (fun t ht hW9 => ⟨⟨_, (), rfl, by rw [e9], by rw [ht, e9]; exact hP, by rw [e9]; exact hD⟩, hS.F ht⟩) hS.2.2 dX0_put_75
    by_cases q_2 : v1 = (2 : Int32)
    · refine lv_tableIn (off := 51) (tgt := 76) hx hb dX0_put_25 (by rw [q_2]; decide) (by rw [q_2]; decide) (by rw [q_2]; rfl) (by decide) ?_
      refine lv_aload_n hx hb dX0_put_76 rfl (lv_at hl 1 rfl) ?_
      refine lv_lload hx hb dX0_put_77 (lv_at hl 0 rfl) ?_
      refine va_put (D := (dC, dI)) (ci := 0) (v := .long (fn_X1_fitted k v2)) (ty := .long) (C := RX0) (T := TX0) (N := 6) hx hb hts hin tyX0 tyX0_ok nmX0 hown hK hP hD hS 0 rfl rfl 3 (by decide) (hts (.fieldLink RX0 29 "ServoDesk$Axis" "high" "J") (by decide +kernel)) (fun _ h9 => h9) rfl (by decide +kernel) rfl rfl (Nat.le_of_ble_eq_true rfl) dX0_put_79 (fun H locs hP hD hS => ?_)
      have hP : va_P (dC, dI) vwCl [(h0, .inr (0, [.ref (ad k), .long pl, .long lo, .long (fn_X1_fitted k v2), .long ba, .long wy]))] H := hP
      have hD : va_D A [(h0, .inr (0, [.ref (ad k), .long pl, .long lo, .long (fn_X1_fitted k v2), .long ba, .long wy]))] := hD
      refine lv_iconst (v := (1 : Int32)) hx hb dX0_put_82 (by decide) ?_
      have e9 : fn_X0_put k v1 v2 pl lo hi ba wy = ((1 : Int32), (pl, lo, fn_X1_fitted k v2, ba, wy)) := by unfold fn_X0_put; rw [if_neg c_1, if_neg q_0, if_neg q_1, if_pos q_2]
      exact W.zret (v := (1 : Int32)) (ty := .boolean) hx hb hr (by decide) (fun t ht hW9 => ⟨⟨_, (), rfl, by rw [e9], by rw [ht, e9]; exact hP, by rw [e9]; exact hD⟩, hS.F ht⟩) hS.2.2 dX0_put_83
    by_cases q_3 : v1 = (3 : Int32)
    · refine lv_tableIn (off := 59) (tgt := 84) hx hb dX0_put_25 (by rw [q_3]; decide) (by rw [q_3]; decide) (by rw [q_3]; rfl) (by decide) ?_
      refine lv_aload_n hx hb dX0_put_84 rfl (lv_at hl 1 rfl) ?_
      refine lv_lload hx hb dX0_put_85 (lv_at hl 0 rfl) ?_
      refine va_put (D := (dC, dI)) (ci := 0) (v := .long (fn_X1_fitted k v2)) (ty := .long) (C := RX0) (T := TX0) (N := 6) hx hb hts hin tyX0 tyX0_ok nmX0 hown hK hP hD hS 0 rfl rfl 4 (by decide) (hts (.fieldLink RX0 32 "ServoDesk$Axis" "band" "J") (by decide +kernel)) (fun _ h9 => h9) rfl (by decide +kernel) rfl rfl (Nat.le_of_ble_eq_true rfl) dX0_put_87 (fun H locs hP hD hS => ?_)
      have hP : va_P (dC, dI) vwCl [(h0, .inr (0, [.ref (ad k), .long pl, .long lo, .long hi, .long (fn_X1_fitted k v2), .long wy]))] H := hP
      have hD : va_D A [(h0, .inr (0, [.ref (ad k), .long pl, .long lo, .long hi, .long (fn_X1_fitted k v2), .long wy]))] := hD
      refine lv_iconst (v := (1 : Int32)) hx hb dX0_put_90 (by decide) ?_
      have e9 : fn_X0_put k v1 v2 pl lo hi ba wy = ((1 : Int32), (pl, lo, hi, fn_X1_fitted k v2, wy)) := by unfold fn_X0_put; rw [if_neg c_1, if_neg q_0, if_neg q_1, if_neg q_2, if_pos q_3]
      exact W.zret (v := (1 : Int32)) (ty := .boolean) hx hb hr (by decide) (fun t ht hW9 => ⟨⟨_, (), rfl, by rw [e9], by rw [ht, e9]; exact hP, by rw [e9]; exact hD⟩, hS.F ht⟩) hS.2.2 dX0_put_91
    by_cases q_4 : v1 = (4 : Int32)
    · refine lv_tableIn (off := 67) (tgt := 92) hx hb dX0_put_25 (by rw [q_4]; decide) (by rw [q_4]; decide) (by rw [q_4]; rfl) (by decide) ?_
      refine lv_aload_n hx hb dX0_put_92 rfl (lv_at hl 1 rfl) ?_
      refine lv_lload hx hb dX0_put_93 (lv_at hl 0 rfl) ?_
      refine va_put (D := (dC, dI)) (ci := 0) (v := .long (fn_X1_fitted k v2)) (ty := .long) (C := RX0) (T := TX0) (N := 6) hx hb hts hin tyX0 tyX0_ok nmX0 hown hK hP hD hS 0 rfl rfl 5 (by decide) (hts (.fieldLink RX0 35 "ServoDesk$Axis" "way" "J") (by decide +kernel)) (fun _ h9 => h9) rfl (by decide +kernel) rfl rfl (Nat.le_of_ble_eq_true rfl) dX0_put_95 (fun H locs hP hD hS => ?_)
      have hP : va_P (dC, dI) vwCl [(h0, .inr (0, [.ref (ad k), .long pl, .long lo, .long hi, .long ba, .long (fn_X1_fitted k v2)]))] H := hP
      have hD : va_D A [(h0, .inr (0, [.ref (ad k), .long pl, .long lo, .long hi, .long ba, .long (fn_X1_fitted k v2)]))] := hD
      refine lv_iconst (v := (1 : Int32)) hx hb dX0_put_98 (by decide) ?_
      have e9 : fn_X0_put k v1 v2 pl lo hi ba wy = ((1 : Int32), (pl, lo, hi, ba, fn_X1_fitted k v2)) := by unfold fn_X0_put; rw [if_neg c_1, if_neg q_0, if_neg q_1, if_neg q_2, if_neg q_3, if_pos q_4]
      exact W.zret (v := (1 : Int32)) (ty := .boolean) hx hb hr (by decide) (fun t ht hW9 => ⟨⟨_, (), rfl, by rw [e9], by rw [ht, e9]; exact hP, by rw [e9]; exact hD⟩, hS.F ht⟩) hS.2.2 dX0_put_99
    refine lv_tableOut (tgt := 100) hx hb dX0_put_25 (by have z0 := lv_neT q_0 (a := 0) (by decide); have z1 := lv_neT q_1 (a := 1) (by decide); have z2 := lv_neT q_2 (a := 2) (by decide); have z3 := lv_neT q_3 (a := 3) (by decide); have z4 := lv_neT q_4 (a := 4) (by decide); omega) (by decide) ?_
    refine lv_iconst (v := (0 : Int32)) hx hb dX0_put_100 (by decide) ?_
    have e9 : fn_X0_put k v1 v2 pl lo hi ba wy = ((0 : Int32), (pl, lo, hi, ba, wy)) := by unfold fn_X0_put; rw [if_neg c_1, if_neg q_0, if_neg q_1, if_neg q_2, if_neg q_3, if_neg q_4]
    exact W.zret (v := (0 : Int32)) (ty := .boolean) hx hb hr (by decide) (fun t ht hW9 => ⟨⟨_, (), rfl, by rw [e9], by rw [ht, e9]; exact hP, by rw [e9]; exact hD⟩, hS.F ht⟩) hS.2.2 dX0_put_101
  · refine lv_iconst (v := (0 : Int32)) hx hb dX0_put_22 (by decide) ?_
    have e9 : fn_X0_put k v1 v2 pl lo hi ba wy = ((0 : Int32), (pl, lo, hi, ba, wy)) := by unfold fn_X0_put; rw [if_pos c_1]
    exact W.zret (v := (0 : Int32)) (ty := .boolean) hx hb hr (by decide) (fun t ht hW9 => ⟨⟨_, (), rfl, by rw [e9], by rw [ht, e9]; exact hP, by rw [e9]; exact hD⟩, hS.F ht⟩) hS.2.2 dX0_put_23
def fn_X0_moveTo (k : Nat) (j : Nat) (gl0 : Int64) (pl lo hi ba wy : Int64) : Ax5 :=
  (fn_X1_made k j gl0, lo, hi, ba, wy)
set_option maxHeartbeats 4000000 in
set_option maxRecDepth 100000 in
theorem ct_X0_moveTo (l : Launch) (dC : Nat → ClassId) (dI : Nat → Nat → Nat) (ad : Nat → Nat) (h0 h1 sz k : Nat) (hk_k : k < 4) (j : Nat) (hk_j : j < 4) (gl0 gl1 gl2 gl3 gl4 : Int64) (pl lo hi ba wy : Int64) : Met l yX0_moveTo wsX0_moveTo ({ frames := 4, cells := 0, slots := 0, locals := 105 } : Room) (va_Pc [.ref h0, .ref h1] (fun U => axw dC dI ad h0 sz k (pl, lo, hi, ba, wy) U ∧ va_P (dC, dI) vwCl [(h1, axE ad j (gl0, gl1, gl2, gl3, gl4))] U.heap)) (va_Qv (fun _ : Unit => True) (fun _ t => va_P (dC, dI) vwCl [(h0, axE ad k (fn_X0_moveTo k j gl0 pl lo hi ba wy))] t.heap ∧ va_D (va_A [(h0, axE ad k (pl, lo, hi, ba, wy))] sz) [(h0, axE ad k (fn_X0_moveTo k j gl0 pl lo hi ba wy))]) (va_A [(h0, axE ad k (pl, lo, hi, ba, wy))] sz)) 0 0 (va_A [(h0, axE ad k (pl, lo, hi, ba, wy))] sz) := by
  refine Met.ofW (cc := cX0_moveTo) (maxL := 2) (ret := none) (by decide) rfl ?_
  intro p e s m args below meth c s₁ B hml hv
  obtain ⟨rfl, ⟨hsz, hP, hK, hD0, hW, hN⟩, hPb⟩ := hv
  have hx := B.exec
  have hb := B.bytes
  have hr := B.returns
  have hlocks := B.notSynchronized
  have hts := atoms_spec (ws := wsX0_moveTo) B.pre
  have hown : s.vm.findClass RX0 = some m.cls := findClass_of_methodNamed B.named
  have hin : ∀ w ∈ u_ws RX0 TX0 6, w ∈ wsX0_moveTo := fun _ h => List.mem_cons_of_mem _ (List.mem_append_right _ h)
  subst hsz
  have hD := hD0.self (sz := s.heap.size)
  generalize hAe : va_A [(h0, axE ad k (pl, lo, hi, ba, wy))] s.heap.size = A at hD hW ⊢
  have hA : ∀ q : Nat, s.heap.size ≤ q → A q := fun q h => by rw [← hAe]; exact Or.inr h
  have hS : va_S A s.heap s.heap [] := va_S.rf
  have hP : va_P (dC, dI) vwCl [(h0, .inr (0, [.ref (ad k), .long pl, .long lo, .long hi, .long ba, .long wy]))] s.heap := hP
  have hD : va_D A [(h0, .inr (0, [.ref (ad k), .long pl, .long lo, .long hi, .long ba, .long wy]))] := hD
  have hPb : va_P (dC, dI) vwCl [(h1, .inr (0, [.ref (ad j), .long gl0, .long gl1, .long gl2, .long gl3, .long gl4]))] s.heap := hPb
  have hl := lv_entry ([.ref h0, .ref h1]) (n := 2) (Nat.le_of_ble_eq_true rfl)
  rw [lg_entry_eq]
  generalize (lg_sl ([.ref h0, .ref h1]) ++ List.replicate (2 - (lg_sl ([.ref h0, .ref h1])).length) Slot.unset).toArray = ls at hl ⊢
  have hl : lv_has ls 2 [(0, .ref h0), (1, .ref h1)] := hl
  refine lv_aload_n hx hb dX0_moveTo_0 rfl (lv_at hl 0 rfl) ?_
  refine lv_aload_n hx hb dX0_moveTo_1 rfl (lv_at hl 0 rfl) ?_
  refine va_get (D := (dC, dI)) (ci := 0) (v := .ref (ad k)) (C := RX0) (T := TX0) (N := 6) hx hb hts hin hown hK hP 0 rfl rfl 0 (by decide) (hts (.fieldLink RX0 7 "ServoDesk$Axis" "kind" "LServoDesk$Kind;") (by decide +kernel)) (fun _ h9 => h9) rfl dX0_moveTo_2 ?_
  refine lv_aload_n hx hb dX0_moveTo_5 rfl (lv_at hl 1 rfl) ?_
  refine va_get (D := (dC, dI)) (ci := 0) (v := .ref (ad j)) (C := RX0) (T := TX0) (N := 6) hx hb hts hin hown hK hPb 0 rfl rfl 0 (by decide) (hts (.fieldLink RX0 7 "ServoDesk$Axis" "kind" "LServoDesk$Kind;") (by decide +kernel)) (fun _ h9 => h9) rfl dX0_moveTo_6 ?_
  refine lv_aload_n hx hb dX0_moveTo_9 rfl (lv_at hl 1 rfl) ?_
  refine va_get (D := (dC, dI)) (ci := 0) (v := .long gl0) (C := RX0) (T := TX0) (N := 6) hx hb hts hin hown hK hPb 0 rfl rfl 1 (by decide) (hts (.fieldLink RX0 13 "ServoDesk$Axis" "place" "J") (by decide +kernel)) (fun _ h9 => h9) rfl dX0_moveTo_10 ?_
  refine vp_callSl (va_Run.run (va_runVN (As := [.ref (ad j), .long gl0]) (rest := [.ref h0]) ⟨hx, hb, hml, hown, hts⟩ (ct_X1_made l ad k hk_k j hk_j gl0) ⟨va_cnB 2 hts gX0_moveTo_X1_made_n46 rfl rfl rfl (nW_X0_46 hN) (hts (.initialized RX1) (by decide +kernel)) (by decide +kernel) ⟨Nat.le_of_ble_eq_true rfl, Nat.le_of_ble_eq_true rfl⟩, hts (.instanceMethod yX1_made) (by decide +kernel), hts (.selects RX1 yX1_made yX1_made) (by decide +kernel)⟩ ⟨(fun a U g mk q => ⟨q.1, kw_blind q.2⟩), kw_recv hW hS hk_k, fun U hU hW9 => ⟨rfl, kw_call hW hS hU hW9⟩⟩ rfl rfl hl.1 rfl (lv_room (Nat.le_of_ble_eq_true rfl)) dX0_moveTo_13 ⟨Nat.zero_le _, Nat.zero_le _⟩)) (fun r er => ?_)
  subst er
  refine va_put (D := (dC, dI)) (ci := 0) (v := .long (fn_X1_made k j gl0)) (ty := .long) (C := RX0) (T := TX0) (N := 6) hx hb hts hin tyX0 tyX0_ok nmX0 hown hK hP hD hS 0 rfl rfl 1 (by decide) (hts (.fieldLink RX0 13 "ServoDesk$Axis" "place" "J") (by decide +kernel)) (fun _ h9 => h9) rfl (by decide +kernel) rfl rfl (Nat.le_of_ble_eq_true rfl) dX0_moveTo_16 (fun H locs hP hD hS => ?_)
  have hP : va_P (dC, dI) vwCl [(h0, .inr (0, [.ref (ad k), .long (fn_X1_made k j gl0), .long lo, .long hi, .long ba, .long wy]))] H := hP
  have hD : va_D A [(h0, .inr (0, [.ref (ad k), .long (fn_X1_made k j gl0), .long lo, .long hi, .long ba, .long wy]))] := hD
  have e9 : fn_X0_moveTo k j gl0 pl lo hi ba wy = (fn_X1_made k j gl0, lo, hi, ba, wy) := by unfold fn_X0_moveTo; rfl
  exact W.vret hx hb hr (fun t ht hW9 => ⟨⟨(), rfl, trivial, by rw [ht, e9]; exact hP, by rw [e9]; exact hD⟩, hS.F ht⟩) hS.2.2 dX0_moveTo_19
def fn_X0_look (k : Nat) (pl lo hi ba wy : Int64) : Ax5 :=
  if (fn_X1_sized k pl) = (0 : Int64) then
    (pl, lo, hi, ba, pl)
  else
    (pl, lo, hi, ba, fn_X1_turned k (fn_X1_one k) pl)
set_option maxHeartbeats 4000000 in
set_option maxRecDepth 100000 in
theorem ct_X0_look (l : Launch) (dC : Nat → ClassId) (dI : Nat → Nat → Nat) (ad : Nat → Nat) (h0 sz k : Nat) (hk_k : k < 4) (pl lo hi ba wy : Int64) : Met l yX0_look wsX0_look ({ frames := 3, cells := 0, slots := 0, locals := 71 } : Room) (va_Pc [.ref h0] (fun U => axw dC dI ad h0 sz k (pl, lo, hi, ba, wy) U)) (va_Qv (fun _ : Unit => True) (fun _ t => va_P (dC, dI) vwCl [(h0, axE ad k (fn_X0_look k pl lo hi ba wy))] t.heap ∧ va_D (va_A [(h0, axE ad k (pl, lo, hi, ba, wy))] sz) [(h0, axE ad k (fn_X0_look k pl lo hi ba wy))]) (va_A [(h0, axE ad k (pl, lo, hi, ba, wy))] sz)) 0 0 (va_A [(h0, axE ad k (pl, lo, hi, ba, wy))] sz) := by
  refine Met.ofW (cc := cX0_look) (maxL := 1) (ret := none) (by decide) rfl ?_
  intro p e s m args below meth c s₁ B hml hv
  obtain ⟨rfl, hsz, hP, hK, hD0, hW, hN⟩ := hv
  have hx := B.exec
  have hb := B.bytes
  have hr := B.returns
  have hlocks := B.notSynchronized
  have hts := atoms_spec (ws := wsX0_look) B.pre
  have hown : s.vm.findClass RX0 = some m.cls := findClass_of_methodNamed B.named
  have hin : ∀ w ∈ u_ws RX0 TX0 6, w ∈ wsX0_look := fun _ h => List.mem_cons_of_mem _ (List.mem_append_right _ h)
  subst hsz
  have hD := hD0.self (sz := s.heap.size)
  generalize hAe : va_A [(h0, axE ad k (pl, lo, hi, ba, wy))] s.heap.size = A at hD hW ⊢
  have hA : ∀ q : Nat, s.heap.size ≤ q → A q := fun q h => by rw [← hAe]; exact Or.inr h
  have hS : va_S A s.heap s.heap [] := va_S.rf
  have hP : va_P (dC, dI) vwCl [(h0, .inr (0, [.ref (ad k), .long pl, .long lo, .long hi, .long ba, .long wy]))] s.heap := hP
  have hD : va_D A [(h0, .inr (0, [.ref (ad k), .long pl, .long lo, .long hi, .long ba, .long wy]))] := hD
  have hl := lv_entry ([.ref h0]) (n := 1) (Nat.le_of_ble_eq_true rfl)
  rw [lg_entry_eq]
  generalize (lg_sl ([.ref h0]) ++ List.replicate (1 - (lg_sl ([.ref h0])).length) Slot.unset).toArray = ls at hl ⊢
  have hl : lv_has ls 1 [(0, .ref h0)] := hl
  refine lv_aload_n hx hb dX0_look_0 rfl (lv_at hl 0 rfl) ?_
  refine lv_aload_n hx hb dX0_look_1 rfl (lv_at hl 0 rfl) ?_
  refine va_get (D := (dC, dI)) (ci := 0) (v := .ref (ad k)) (C := RX0) (T := TX0) (N := 6) hx hb hts hin hown hK hP 0 rfl rfl 0 (by decide) (hts (.fieldLink RX0 7 "ServoDesk$Axis" "kind" "LServoDesk$Kind;") (by decide +kernel)) (fun _ h9 => h9) rfl dX0_look_2 ?_
  refine lv_aload_n hx hb dX0_look_5 rfl (lv_at hl 0 rfl) ?_
  refine va_get (D := (dC, dI)) (ci := 0) (v := .long pl) (C := RX0) (T := TX0) (N := 6) hx hb hts hin hown hK hP 0 rfl rfl 1 (by decide) (hts (.fieldLink RX0 13 "ServoDesk$Axis" "place" "J") (by decide +kernel)) (fun _ h9 => h9) rfl dX0_look_6 ?_
  refine vp_callSl (va_Run.run (va_runVN (As := [.long pl]) (rest := [.ref h0]) ⟨hx, hb, hml, hown, hts⟩ (ct_X1_sized l ad k hk_k pl) ⟨va_cnB 1 hts gX0_look_X1_sized_n57 rfl rfl rfl (nW_X0_57 hN) (hts (.initialized RX1) (by decide +kernel)) (by decide +kernel) ⟨Nat.le_of_ble_eq_true rfl, Nat.le_of_ble_eq_true rfl⟩, hts (.instanceMethod yX1_sized) (by decide +kernel), hts (.selects RX1 yX1_sized yX1_sized) (by decide +kernel)⟩ ⟨(fun a U g mk q => ⟨q.1, kw_blind q.2⟩), kw_recv hW hS hk_k, fun U hU hW9 => ⟨rfl, kw_call hW hS hU hW9⟩⟩ rfl rfl hl.1 rfl (lv_room (Nat.le_of_ble_eq_true rfl)) dX0_look_9 ⟨Nat.zero_le _, Nat.zero_le _⟩)) (fun r er => ?_)
  subst er
  refine lv_lconst (v := (0 : Int64)) hx hb dX0_look_12 (by decide) ?_
  refine zl_ne (tgt := 24) hx hb dX0_look_13 dX0_look_14 (by decide) (fun c_1 => ?_) (fun c_1 => ?_)
  · refine lv_aload_n hx hb dX0_look_24 rfl (lv_at hl 0 rfl) ?_
    refine va_get (D := (dC, dI)) (ci := 0) (v := .ref (ad k)) (C := RX0) (T := TX0) (N := 6) hx hb hts hin hown hK hP 0 rfl rfl 0 (by decide) (hts (.fieldLink RX0 7 "ServoDesk$Axis" "kind" "LServoDesk$Kind;") (by decide +kernel)) (fun _ h9 => h9) rfl dX0_look_25 ?_
    refine lv_aload_n hx hb dX0_look_28 rfl (lv_at hl 0 rfl) ?_
    refine va_get (D := (dC, dI)) (ci := 0) (v := .ref (ad k)) (C := RX0) (T := TX0) (N := 6) hx hb hts hin hown hK hP 0 rfl rfl 0 (by decide) (hts (.fieldLink RX0 7 "ServoDesk$Axis" "kind" "LServoDesk$Kind;") (by decide +kernel)) (fun _ h9 => h9) rfl dX0_look_29 ?_
    refine vp_callSl (va_Run.run (va_runVN (As := []) (rest := [.ref (ad k), .ref h0]) ⟨hx, hb, hml, hown, hts⟩ (ct_X1_one l ad k hk_k) ⟨va_cnB 0 hts gX0_look_X1_one_n87 rfl rfl rfl (nW_X0_87 hN) (hts (.initialized RX1) (by decide +kernel)) (by decide +kernel) ⟨Nat.le_of_ble_eq_true rfl, Nat.le_of_ble_eq_true rfl⟩, hts (.instanceMethod yX1_one) (by decide +kernel), hts (.selects RX1 yX1_one yX1_one) (by decide +kernel)⟩ ⟨(fun a U g mk q => ⟨q.1, kw_blind q.2⟩), kw_recv hW hS hk_k, fun U hU hW9 => ⟨rfl, kw_call hW hS hU hW9⟩⟩ rfl rfl hl.1 rfl (lv_room (Nat.le_of_ble_eq_true rfl)) dX0_look_32 ⟨Nat.zero_le _, Nat.zero_le _⟩)) (fun r er => ?_)
    subst er
    refine lv_aload_n hx hb dX0_look_35 rfl (lv_at hl 0 rfl) ?_
    refine va_get (D := (dC, dI)) (ci := 0) (v := .long pl) (C := RX0) (T := TX0) (N := 6) hx hb hts hin hown hK hP 0 rfl rfl 1 (by decide) (hts (.fieldLink RX0 13 "ServoDesk$Axis" "place" "J") (by decide +kernel)) (fun _ h9 => h9) rfl dX0_look_36 ?_
    refine vp_callSl (va_Run.run (va_runVN (As := [.long (fn_X1_one k), .long pl]) (rest := [.ref h0]) ⟨hx, hb, hml, hown, hts⟩ (ct_X1_turned l ad k hk_k (fn_X1_one k) pl) ⟨va_cnB 2 hts gX0_look_X1_turned_n72 rfl rfl rfl (nW_X0_72 hN) (hts (.initialized RX1) (by decide +kernel)) (by decide +kernel) ⟨Nat.le_of_ble_eq_true rfl, Nat.le_of_ble_eq_true rfl⟩, hts (.instanceMethod yX1_turned) (by decide +kernel), hts (.selects RX1 yX1_turned yX1_turned) (by decide +kernel)⟩ ⟨(fun a U g mk q => ⟨q.1, kw_blind q.2⟩), kw_recv hW hS hk_k, fun U hU hW9 => ⟨rfl, kw_call hW hS hU hW9⟩⟩ rfl rfl hl.1 rfl (lv_room (Nat.le_of_ble_eq_true rfl)) dX0_look_39 ⟨Nat.zero_le _, Nat.zero_le _⟩)) (fun r er => ?_)
    subst er
    refine va_put (D := (dC, dI)) (ci := 0) (v := .long (fn_X1_turned k (fn_X1_one k) pl)) (ty := .long) (C := RX0) (T := TX0) (N := 6) hx hb hts hin tyX0 tyX0_ok nmX0 hown hK hP hD hS 0 rfl rfl 5 (by decide) (hts (.fieldLink RX0 35 "ServoDesk$Axis" "way" "J") (by decide +kernel)) (fun _ h9 => h9) rfl (by decide +kernel) rfl rfl (Nat.le_of_ble_eq_true rfl) dX0_look_42 (fun H locs hP hD hS => ?_)
    have hP : va_P (dC, dI) vwCl [(h0, .inr (0, [.ref (ad k), .long pl, .long lo, .long hi, .long ba, .long (fn_X1_turned k (fn_X1_one k) pl)]))] H := hP
    have hD : va_D A [(h0, .inr (0, [.ref (ad k), .long pl, .long lo, .long hi, .long ba, .long (fn_X1_turned k (fn_X1_one k) pl)]))] := hD
    have e9 : fn_X0_look k pl lo hi ba wy = (pl, lo, hi, ba, fn_X1_turned k (fn_X1_one k) pl) := by unfold fn_X0_look; rw [if_neg c_1]
    exact W.vret hx hb hr (fun t ht hW9 => ⟨⟨(), rfl, trivial, by rw [ht, e9]; exact hP, by rw [e9]; exact hD⟩, hS.F ht⟩) hS.2.2 dX0_look_45
  · refine lv_aload_n hx hb dX0_look_17 rfl (lv_at hl 0 rfl) ?_
    refine va_get (D := (dC, dI)) (ci := 0) (v := .long pl) (C := RX0) (T := TX0) (N := 6) hx hb hts hin hown hK hP 0 rfl rfl 1 (by decide) (hts (.fieldLink RX0 13 "ServoDesk$Axis" "place" "J") (by decide +kernel)) (fun _ h9 => h9) rfl dX0_look_18 ?_
    refine lv_goto (tgt := 42) hx hb dX0_look_21 (by decide) ?_
    refine va_put (D := (dC, dI)) (ci := 0) (v := .long pl) (ty := .long) (C := RX0) (T := TX0) (N := 6) hx hb hts hin tyX0 tyX0_ok nmX0 hown hK hP hD hS 0 rfl rfl 5 (by decide) (hts (.fieldLink RX0 35 "ServoDesk$Axis" "way" "J") (by decide +kernel)) (fun _ h9 => h9) rfl (by decide +kernel) rfl rfl (Nat.le_of_ble_eq_true rfl) dX0_look_42 (fun H locs hP hD hS => ?_)
    have hP : va_P (dC, dI) vwCl [(h0, .inr (0, [.ref (ad k), .long pl, .long lo, .long hi, .long ba, .long pl]))] H := hP
    have hD : va_D A [(h0, .inr (0, [.ref (ad k), .long pl, .long lo, .long hi, .long ba, .long pl]))] := hD
    have e9 : fn_X0_look k pl lo hi ba wy = (pl, lo, hi, ba, pl) := by unfold fn_X0_look; rw [if_pos c_1]
    exact W.vret hx hb hr (fun t ht hW9 => ⟨⟨(), rfl, trivial, by rw [ht, e9]; exact hP, by rw [e9]; exact hD⟩, hS.F ht⟩) hS.2.2 dX0_look_45
def fn_X0_widen (k : Nat) (pl lo hi ba wy : Int64) : Ax5 :=
  (pl, fn_X1_lesser k lo pl, fn_X1_greater k hi pl, ba, wy)
set_option maxHeartbeats 4000000 in
set_option maxRecDepth 100000 in
theorem ct_X0_widen (l : Launch) (dC : Nat → ClassId) (dI : Nat → Nat → Nat) (ad : Nat → Nat) (h0 sz k : Nat) (hk_k : k < 4) (pl lo hi ba wy : Int64) : Met l yX0_widen wsX0_widen ({ frames := 3, cells := 0, slots := 0, locals := 71 } : Room) (va_Pc [.ref h0] (fun U => axw dC dI ad h0 sz k (pl, lo, hi, ba, wy) U)) (va_Qv (fun _ : Unit => True) (fun _ t => va_P (dC, dI) vwCl [(h0, axE ad k (fn_X0_widen k pl lo hi ba wy))] t.heap ∧ va_D (va_A [(h0, axE ad k (pl, lo, hi, ba, wy))] sz) [(h0, axE ad k (fn_X0_widen k pl lo hi ba wy))]) (va_A [(h0, axE ad k (pl, lo, hi, ba, wy))] sz)) 0 0 (va_A [(h0, axE ad k (pl, lo, hi, ba, wy))] sz) := by
  refine Met.ofW (cc := cX0_widen) (maxL := 1) (ret := none) (by decide) rfl ?_
  intro p e s m args below meth c s₁ B hml hv
  obtain ⟨rfl, hsz, hP, hK, hD0, hW, hN⟩ := hv
  have hx := B.exec
  have hb := B.bytes
  have hr := B.returns
  have hlocks := B.notSynchronized
  have hts := atoms_spec (ws := wsX0_widen) B.pre
  have hown : s.vm.findClass RX0 = some m.cls := findClass_of_methodNamed B.named
  have hin : ∀ w ∈ u_ws RX0 TX0 6, w ∈ wsX0_widen := fun _ h => List.mem_cons_of_mem _ (List.mem_append_right _ h)
  subst hsz
  have hD := hD0.self (sz := s.heap.size)
  generalize hAe : va_A [(h0, axE ad k (pl, lo, hi, ba, wy))] s.heap.size = A at hD hW ⊢
  have hA : ∀ q : Nat, s.heap.size ≤ q → A q := fun q h => by rw [← hAe]; exact Or.inr h
  have hS : va_S A s.heap s.heap [] := va_S.rf
  have hP : va_P (dC, dI) vwCl [(h0, .inr (0, [.ref (ad k), .long pl, .long lo, .long hi, .long ba, .long wy]))] s.heap := hP
  have hD : va_D A [(h0, .inr (0, [.ref (ad k), .long pl, .long lo, .long hi, .long ba, .long wy]))] := hD
  have hl := lv_entry ([.ref h0]) (n := 1) (Nat.le_of_ble_eq_true rfl)
  rw [lg_entry_eq]
  generalize (lg_sl ([.ref h0]) ++ List.replicate (1 - (lg_sl ([.ref h0])).length) Slot.unset).toArray = ls at hl ⊢
  have hl : lv_has ls 1 [(0, .ref h0)] := hl
  refine lv_aload_n hx hb dX0_widen_0 rfl (lv_at hl 0 rfl) ?_
  refine lv_aload_n hx hb dX0_widen_1 rfl (lv_at hl 0 rfl) ?_
  refine va_get (D := (dC, dI)) (ci := 0) (v := .ref (ad k)) (C := RX0) (T := TX0) (N := 6) hx hb hts hin hown hK hP 0 rfl rfl 0 (by decide) (hts (.fieldLink RX0 7 "ServoDesk$Axis" "kind" "LServoDesk$Kind;") (by decide +kernel)) (fun _ h9 => h9) rfl dX0_widen_2 ?_
  refine lv_aload_n hx hb dX0_widen_5 rfl (lv_at hl 0 rfl) ?_
  refine va_get (D := (dC, dI)) (ci := 0) (v := .long hi) (C := RX0) (T := TX0) (N := 6) hx hb hts hin hown hK hP 0 rfl rfl 3 (by decide) (hts (.fieldLink RX0 29 "ServoDesk$Axis" "high" "J") (by decide +kernel)) (fun _ h9 => h9) rfl dX0_widen_6 ?_
  refine lv_aload_n hx hb dX0_widen_9 rfl (lv_at hl 0 rfl) ?_
  refine va_get (D := (dC, dI)) (ci := 0) (v := .long pl) (C := RX0) (T := TX0) (N := 6) hx hb hts hin hown hK hP 0 rfl rfl 1 (by decide) (hts (.fieldLink RX0 13 "ServoDesk$Axis" "place" "J") (by decide +kernel)) (fun _ h9 => h9) rfl dX0_widen_10 ?_
  refine vp_callSl (va_Run.run (va_runVN (As := [.long hi, .long pl]) (rest := [.ref h0]) ⟨hx, hb, hml, hown, hts⟩ (ct_X1_greater l ad k hk_k hi pl) ⟨va_cnB 2 hts gX0_widen_X1_greater_n54 rfl rfl rfl (nW_X0_54 hN) (hts (.initialized RX1) (by decide +kernel)) (by decide +kernel) ⟨Nat.le_of_ble_eq_true rfl, Nat.le_of_ble_eq_true rfl⟩, hts (.instanceMethod yX1_greater) (by decide +kernel), hts (.selects RX1 yX1_greater yX1_greater) (by decide +kernel)⟩ ⟨(fun a U g mk q => ⟨q.1, kw_blind q.2⟩), kw_recv hW hS hk_k, fun U hU hW9 => ⟨rfl, kw_call hW hS hU hW9⟩⟩ rfl rfl hl.1 rfl (lv_room (Nat.le_of_ble_eq_true rfl)) dX0_widen_13 ⟨Nat.zero_le _, Nat.zero_le _⟩)) (fun r er => ?_)
  subst er
  refine va_put (D := (dC, dI)) (ci := 0) (v := .long (fn_X1_greater k hi pl)) (ty := .long) (C := RX0) (T := TX0) (N := 6) hx hb hts hin tyX0 tyX0_ok nmX0 hown hK hP hD hS 0 rfl rfl 3 (by decide) (hts (.fieldLink RX0 29 "ServoDesk$Axis" "high" "J") (by decide +kernel)) (fun _ h9 => h9) rfl (by decide +kernel) rfl rfl (Nat.le_of_ble_eq_true rfl) dX0_widen_16 (fun H locs hP hD hS => ?_)
  have hP : va_P (dC, dI) vwCl [(h0, .inr (0, [.ref (ad k), .long pl, .long lo, .long (fn_X1_greater k hi pl), .long ba, .long wy]))] H := hP
  have hD : va_D A [(h0, .inr (0, [.ref (ad k), .long pl, .long lo, .long (fn_X1_greater k hi pl), .long ba, .long wy]))] := hD
  refine lv_aload_n hx hb dX0_widen_19 rfl (lv_at hl 0 rfl) ?_
  refine lv_aload_n hx hb dX0_widen_20 rfl (lv_at hl 0 rfl) ?_
  refine va_get (D := (dC, dI)) (ci := 0) (v := .ref (ad k)) (C := RX0) (T := TX0) (N := 6) hx hb hts hin hown hK hP 0 rfl rfl 0 (by decide) (hts (.fieldLink RX0 7 "ServoDesk$Axis" "kind" "LServoDesk$Kind;") (by decide +kernel)) (fun _ h9 => h9) rfl dX0_widen_21 ?_
  refine lv_aload_n hx hb dX0_widen_24 rfl (lv_at hl 0 rfl) ?_
  refine va_get (D := (dC, dI)) (ci := 0) (v := .long lo) (C := RX0) (T := TX0) (N := 6) hx hb hts hin hown hK hP 0 rfl rfl 2 (by decide) (hts (.fieldLink RX0 23 "ServoDesk$Axis" "low" "J") (by decide +kernel)) (fun _ h9 => h9) rfl dX0_widen_25 ?_
  refine lv_aload_n hx hb dX0_widen_28 rfl (lv_at hl 0 rfl) ?_
  refine va_get (D := (dC, dI)) (ci := 0) (v := .long pl) (C := RX0) (T := TX0) (N := 6) hx hb hts hin hown hK hP 0 rfl rfl 1 (by decide) (hts (.fieldLink RX0 13 "ServoDesk$Axis" "place" "J") (by decide +kernel)) (fun _ h9 => h9) rfl dX0_widen_29 ?_
  refine vp_callSl (va_Run.run (va_runVN (As := [.long lo, .long pl]) (rest := [.ref h0]) ⟨hx, hb, hml, hown, hts⟩ (ct_X1_lesser l ad k hk_k lo pl) ⟨va_cnB 2 hts gX0_widen_X1_lesser_n50 rfl rfl rfl (nW_X0_50 hN) (hts (.initialized RX1) (by decide +kernel)) (by decide +kernel) ⟨Nat.le_of_ble_eq_true rfl, Nat.le_of_ble_eq_true rfl⟩, hts (.instanceMethod yX1_lesser) (by decide +kernel), hts (.selects RX1 yX1_lesser yX1_lesser) (by decide +kernel)⟩ ⟨(fun a U g mk q => ⟨q.1, kw_blind q.2⟩), kw_recv hW hS hk_k, fun U hU hW9 => ⟨rfl, kw_call hW hS hU hW9⟩⟩ rfl rfl hl.1 rfl (lv_room (Nat.le_of_ble_eq_true rfl)) dX0_widen_32 ⟨Nat.zero_le _, Nat.zero_le _⟩)) (fun r er => ?_)
  subst er
  refine va_put (D := (dC, dI)) (ci := 0) (v := .long (fn_X1_lesser k lo pl)) (ty := .long) (C := RX0) (T := TX0) (N := 6) hx hb hts hin tyX0 tyX0_ok nmX0 hown hK hP hD hS 0 rfl rfl 2 (by decide) (hts (.fieldLink RX0 23 "ServoDesk$Axis" "low" "J") (by decide +kernel)) (fun _ h9 => h9) rfl (by decide +kernel) rfl rfl (Nat.le_of_ble_eq_true rfl) dX0_widen_35 (fun H locs hP hD hS => ?_)
  have hP : va_P (dC, dI) vwCl [(h0, .inr (0, [.ref (ad k), .long pl, .long (fn_X1_lesser k lo pl), .long (fn_X1_greater k hi pl), .long ba, .long wy]))] H := hP
  have hD : va_D A [(h0, .inr (0, [.ref (ad k), .long pl, .long (fn_X1_lesser k lo pl), .long (fn_X1_greater k hi pl), .long ba, .long wy]))] := hD
  have e9 : fn_X0_widen k pl lo hi ba wy = (pl, fn_X1_lesser k lo pl, fn_X1_greater k hi pl, ba, wy) := by unfold fn_X0_widen; rfl
  exact W.vret hx hb hr (fun t ht hW9 => ⟨⟨(), rfl, trivial, by rw [ht, e9]; exact hP, by rw [e9]; exact hD⟩, hS.F ht⟩) hS.2.2 dX0_widen_38
def fn_X0_rest (k : Nat) (pl lo hi ba wy : Int64) : Ax5 :=
  if (fn_X1_sized k ba) < (fn_X1_sized k pl) then
    (pl, lo, hi, ba, wy)
  else
    (fn_X1_zeroBeside k pl, lo, hi, ba, wy)
set_option maxHeartbeats 4000000 in
set_option maxRecDepth 100000 in
theorem ct_X0_rest (l : Launch) (dC : Nat → ClassId) (dI : Nat → Nat → Nat) (ad : Nat → Nat) (h0 sz k : Nat) (hk_k : k < 4) (pl lo hi ba wy : Int64) : Met l yX0_rest wsX0_rest ({ frames := 4, cells := 0, slots := 0, locals := 93 } : Room) (va_Pc [.ref h0] (fun U => axw dC dI ad h0 sz k (pl, lo, hi, ba, wy) U)) (va_Qv (fun _ : Unit => True) (fun _ t => va_P (dC, dI) vwCl [(h0, axE ad k (fn_X0_rest k pl lo hi ba wy))] t.heap ∧ va_D (va_A [(h0, axE ad k (pl, lo, hi, ba, wy))] sz) [(h0, axE ad k (fn_X0_rest k pl lo hi ba wy))]) (va_A [(h0, axE ad k (pl, lo, hi, ba, wy))] sz)) 0 0 (va_A [(h0, axE ad k (pl, lo, hi, ba, wy))] sz) := by
  refine Met.ofW (cc := cX0_rest) (maxL := 1) (ret := none) (by decide) rfl ?_
  intro p e s m args below meth c s₁ B hml hv
  obtain ⟨rfl, hsz, hP, hK, hD0, hW, hN⟩ := hv
  have hx := B.exec
  have hb := B.bytes
  have hr := B.returns
  have hlocks := B.notSynchronized
  have hts := atoms_spec (ws := wsX0_rest) B.pre
  have hown : s.vm.findClass RX0 = some m.cls := findClass_of_methodNamed B.named
  have hin : ∀ w ∈ u_ws RX0 TX0 6, w ∈ wsX0_rest := fun _ h => List.mem_cons_of_mem _ (List.mem_append_right _ h)
  subst hsz
  have hD := hD0.self (sz := s.heap.size)
  generalize hAe : va_A [(h0, axE ad k (pl, lo, hi, ba, wy))] s.heap.size = A at hD hW ⊢
  have hA : ∀ q : Nat, s.heap.size ≤ q → A q := fun q h => by rw [← hAe]; exact Or.inr h
  have hS : va_S A s.heap s.heap [] := va_S.rf
  have hP : va_P (dC, dI) vwCl [(h0, .inr (0, [.ref (ad k), .long pl, .long lo, .long hi, .long ba, .long wy]))] s.heap := hP
  have hD : va_D A [(h0, .inr (0, [.ref (ad k), .long pl, .long lo, .long hi, .long ba, .long wy]))] := hD
  have hl := lv_entry ([.ref h0]) (n := 1) (Nat.le_of_ble_eq_true rfl)
  rw [lg_entry_eq]
  generalize (lg_sl ([.ref h0]) ++ List.replicate (1 - (lg_sl ([.ref h0])).length) Slot.unset).toArray = ls at hl ⊢
  have hl : lv_has ls 1 [(0, .ref h0)] := hl
  refine lv_aload_n hx hb dX0_rest_0 rfl (lv_at hl 0 rfl) ?_
  refine va_get (D := (dC, dI)) (ci := 0) (v := .ref (ad k)) (C := RX0) (T := TX0) (N := 6) hx hb hts hin hown hK hP 0 rfl rfl 0 (by decide) (hts (.fieldLink RX0 7 "ServoDesk$Axis" "kind" "LServoDesk$Kind;") (by decide +kernel)) (fun _ h9 => h9) rfl dX0_rest_1 ?_
  refine lv_aload_n hx hb dX0_rest_4 rfl (lv_at hl 0 rfl) ?_
  refine va_get (D := (dC, dI)) (ci := 0) (v := .long pl) (C := RX0) (T := TX0) (N := 6) hx hb hts hin hown hK hP 0 rfl rfl 1 (by decide) (hts (.fieldLink RX0 13 "ServoDesk$Axis" "place" "J") (by decide +kernel)) (fun _ h9 => h9) rfl dX0_rest_5 ?_
  refine vp_callSl (va_Run.run (va_runVN (As := [.long pl]) (rest := []) ⟨hx, hb, hml, hown, hts⟩ (ct_X1_sized l ad k hk_k pl) ⟨va_cnB 1 hts gX0_rest_X1_sized_n57 rfl rfl rfl (nW_X0_57 hN) (hts (.initialized RX1) (by decide +kernel)) (by decide +kernel) ⟨Nat.le_of_ble_eq_true rfl, Nat.le_of_ble_eq_true rfl⟩, hts (.instanceMethod yX1_sized) (by decide +kernel), hts (.selects RX1 yX1_sized yX1_sized) (by decide +kernel)⟩ ⟨(fun a U g mk q => ⟨q.1, kw_blind q.2⟩), kw_recv hW hS hk_k, fun U hU hW9 => ⟨rfl, kw_call hW hS hU hW9⟩⟩ rfl rfl hl.1 rfl (lv_room (Nat.le_of_ble_eq_true rfl)) dX0_rest_8 ⟨Nat.zero_le _, Nat.zero_le _⟩)) (fun r er => ?_)
  subst er
  refine lv_aload_n hx hb dX0_rest_11 rfl (lv_at hl 0 rfl) ?_
  refine va_get (D := (dC, dI)) (ci := 0) (v := .ref (ad k)) (C := RX0) (T := TX0) (N := 6) hx hb hts hin hown hK hP 0 rfl rfl 0 (by decide) (hts (.fieldLink RX0 7 "ServoDesk$Axis" "kind" "LServoDesk$Kind;") (by decide +kernel)) (fun _ h9 => h9) rfl dX0_rest_12 ?_
  refine lv_aload_n hx hb dX0_rest_15 rfl (lv_at hl 0 rfl) ?_
  refine va_get (D := (dC, dI)) (ci := 0) (v := .long ba) (C := RX0) (T := TX0) (N := 6) hx hb hts hin hown hK hP 0 rfl rfl 4 (by decide) (hts (.fieldLink RX0 32 "ServoDesk$Axis" "band" "J") (by decide +kernel)) (fun _ h9 => h9) rfl dX0_rest_16 ?_
  refine vp_callSl (va_Run.run (va_runVN (As := [.long ba]) (rest := [.long (fn_X1_sized k pl)]) ⟨hx, hb, hml, hown, hts⟩ (ct_X1_sized l ad k hk_k ba) ⟨va_cnB 1 hts gX0_rest_X1_sized_n57 rfl rfl rfl (nW_X0_57 hN) (hts (.initialized RX1) (by decide +kernel)) (by decide +kernel) ⟨Nat.le_of_ble_eq_true rfl, Nat.le_of_ble_eq_true rfl⟩, hts (.instanceMethod yX1_sized) (by decide +kernel), hts (.selects RX1 yX1_sized yX1_sized) (by decide +kernel)⟩ ⟨(fun a U g mk q => ⟨q.1, kw_blind q.2⟩), kw_recv hW hS hk_k, fun U hU hW9 => ⟨rfl, kw_call hW hS hU hW9⟩⟩ rfl rfl hl.1 rfl (lv_room (Nat.le_of_ble_eq_true rfl)) dX0_rest_19 ⟨Nat.zero_le _, Nat.zero_le _⟩)) (fun r er => ?_)
  subst er
  refine zl_gt (tgt := 41) hx hb dX0_rest_22 dX0_rest_23 (by decide) (fun c_1 => ?_) (fun c_1 => ?_)
  · have e9 : fn_X0_rest k pl lo hi ba wy = (pl, lo, hi, ba, wy) := by unfold fn_X0_rest; rw [if_pos c_1]
    exact W.vret hx hb hr (fun t ht hW9 => ⟨⟨(), rfl, trivial, by rw [ht, e9]; exact hP, by rw [e9]; exact hD⟩, hS.F ht⟩) hS.2.2 dX0_rest_41
  · refine lv_aload_n hx hb dX0_rest_26 rfl (lv_at hl 0 rfl) ?_
    refine lv_aload_n hx hb dX0_rest_27 rfl (lv_at hl 0 rfl) ?_
    refine va_get (D := (dC, dI)) (ci := 0) (v := .ref (ad k)) (C := RX0) (T := TX0) (N := 6) hx hb hts hin hown hK hP 0 rfl rfl 0 (by decide) (hts (.fieldLink RX0 7 "ServoDesk$Axis" "kind" "LServoDesk$Kind;") (by decide +kernel)) (fun _ h9 => h9) rfl dX0_rest_28 ?_
    refine lv_aload_n hx hb dX0_rest_31 rfl (lv_at hl 0 rfl) ?_
    refine va_get (D := (dC, dI)) (ci := 0) (v := .long pl) (C := RX0) (T := TX0) (N := 6) hx hb hts hin hown hK hP 0 rfl rfl 1 (by decide) (hts (.fieldLink RX0 13 "ServoDesk$Axis" "place" "J") (by decide +kernel)) (fun _ h9 => h9) rfl dX0_rest_32 ?_
    refine vp_callSl (va_Run.run (va_runVN (As := [.long pl]) (rest := [.ref h0]) ⟨hx, hb, hml, hown, hts⟩ (ct_X1_zeroBeside l ad k hk_k pl) ⟨va_cnB 1 hts gX0_rest_X1_zeroBeside_n90 rfl rfl rfl (nW_X0_90 hN) (hts (.initialized RX1) (by decide +kernel)) (by decide +kernel) ⟨Nat.le_of_ble_eq_true rfl, Nat.le_of_ble_eq_true rfl⟩, hts (.instanceMethod yX1_zeroBeside) (by decide +kernel), hts (.selects RX1 yX1_zeroBeside yX1_zeroBeside) (by decide +kernel)⟩ ⟨(fun a U g mk q => ⟨q.1, kw_blind q.2⟩), kw_recv hW hS hk_k, fun U hU hW9 => ⟨rfl, kw_call hW hS hU hW9⟩⟩ rfl rfl hl.1 rfl (lv_room (Nat.le_of_ble_eq_true rfl)) dX0_rest_35 ⟨Nat.zero_le _, Nat.zero_le _⟩)) (fun r er => ?_)
    subst er
    refine va_put (D := (dC, dI)) (ci := 0) (v := .long (fn_X1_zeroBeside k pl)) (ty := .long) (C := RX0) (T := TX0) (N := 6) hx hb hts hin tyX0 tyX0_ok nmX0 hown hK hP hD hS 0 rfl rfl 1 (by decide) (hts (.fieldLink RX0 13 "ServoDesk$Axis" "place" "J") (by decide +kernel)) (fun _ h9 => h9) rfl (by decide +kernel) rfl rfl (Nat.le_of_ble_eq_true rfl) dX0_rest_38 (fun H locs hP hD hS => ?_)
    have hP : va_P (dC, dI) vwCl [(h0, .inr (0, [.ref (ad k), .long (fn_X1_zeroBeside k pl), .long lo, .long hi, .long ba, .long wy]))] H := hP
    have hD : va_D A [(h0, .inr (0, [.ref (ad k), .long (fn_X1_zeroBeside k pl), .long lo, .long hi, .long ba, .long wy]))] := hD
    have e9 : fn_X0_rest k pl lo hi ba wy = (fn_X1_zeroBeside k pl, lo, hi, ba, wy) := by unfold fn_X0_rest; rw [if_neg c_1]
    exact W.vret hx hb hr (fun t ht hW9 => ⟨⟨(), rfl, trivial, by rw [ht, e9]; exact hP, by rw [e9]; exact hD⟩, hS.F ht⟩) hS.2.2 dX0_rest_41
def fn_X0_grid (k : Nat) (pl lo hi ba wy : Int64) : Ax5 :=
  (pl, fn_X1_wholeBelow k pl, fn_X1_wholeAbove k pl, ba, wy)
set_option maxHeartbeats 4000000 in
set_option maxRecDepth 100000 in
theorem ct_X0_grid (l : Launch) (dC : Nat → ClassId) (dI : Nat → Nat → Nat) (ad : Nat → Nat) (h0 sz k : Nat) (hk_k : k < 4) (pl lo hi ba wy : Int64) : Met l yX0_grid wsX0_grid ({ frames := 4, cells := 0, slots := 0, locals := 95 } : Room) (va_Pc [.ref h0] (fun U => axw dC dI ad h0 sz k (pl, lo, hi, ba, wy) U)) (va_Qv (fun _ : Unit => True) (fun _ t => va_P (dC, dI) vwCl [(h0, axE ad k (fn_X0_grid k pl lo hi ba wy))] t.heap ∧ va_D (va_A [(h0, axE ad k (pl, lo, hi, ba, wy))] sz) [(h0, axE ad k (fn_X0_grid k pl lo hi ba wy))]) (va_A [(h0, axE ad k (pl, lo, hi, ba, wy))] sz)) 0 0 (va_A [(h0, axE ad k (pl, lo, hi, ba, wy))] sz) := by
  refine Met.ofW (cc := cX0_grid) (maxL := 1) (ret := none) (by decide) rfl ?_
  intro p e s m args below meth c s₁ B hml hv
  obtain ⟨rfl, hsz, hP, hK, hD0, hW, hN⟩ := hv
  have hx := B.exec
  have hb := B.bytes
  have hr := B.returns
  have hlocks := B.notSynchronized
  have hts := atoms_spec (ws := wsX0_grid) B.pre
  have hown : s.vm.findClass RX0 = some m.cls := findClass_of_methodNamed B.named
  have hin : ∀ w ∈ u_ws RX0 TX0 6, w ∈ wsX0_grid := fun _ h => List.mem_cons_of_mem _ (List.mem_append_right _ h)
  subst hsz
  have hD := hD0.self (sz := s.heap.size)
  generalize hAe : va_A [(h0, axE ad k (pl, lo, hi, ba, wy))] s.heap.size = A at hD hW ⊢
  have hA : ∀ q : Nat, s.heap.size ≤ q → A q := fun q h => by rw [← hAe]; exact Or.inr h
  have hS : va_S A s.heap s.heap [] := va_S.rf
  have hP : va_P (dC, dI) vwCl [(h0, .inr (0, [.ref (ad k), .long pl, .long lo, .long hi, .long ba, .long wy]))] s.heap := hP
  have hD : va_D A [(h0, .inr (0, [.ref (ad k), .long pl, .long lo, .long hi, .long ba, .long wy]))] := hD
  have hl := lv_entry ([.ref h0]) (n := 1) (Nat.le_of_ble_eq_true rfl)
  rw [lg_entry_eq]
  generalize (lg_sl ([.ref h0]) ++ List.replicate (1 - (lg_sl ([.ref h0])).length) Slot.unset).toArray = ls at hl ⊢
  have hl : lv_has ls 1 [(0, .ref h0)] := hl
  refine lv_aload_n hx hb dX0_grid_0 rfl (lv_at hl 0 rfl) ?_
  refine lv_aload_n hx hb dX0_grid_1 rfl (lv_at hl 0 rfl) ?_
  refine va_get (D := (dC, dI)) (ci := 0) (v := .ref (ad k)) (C := RX0) (T := TX0) (N := 6) hx hb hts hin hown hK hP 0 rfl rfl 0 (by decide) (hts (.fieldLink RX0 7 "ServoDesk$Axis" "kind" "LServoDesk$Kind;") (by decide +kernel)) (fun _ h9 => h9) rfl dX0_grid_2 ?_
  refine lv_aload_n hx hb dX0_grid_5 rfl (lv_at hl 0 rfl) ?_
  refine va_get (D := (dC, dI)) (ci := 0) (v := .long pl) (C := RX0) (T := TX0) (N := 6) hx hb hts hin hown hK hP 0 rfl rfl 1 (by decide) (hts (.fieldLink RX0 13 "ServoDesk$Axis" "place" "J") (by decide +kernel)) (fun _ h9 => h9) rfl dX0_grid_6 ?_
  refine vp_callSl (va_Run.run (va_runVN (As := [.long pl]) (rest := [.ref h0]) ⟨hx, hb, hml, hown, hts⟩ (ct_X1_wholeBelow l ad k hk_k pl) ⟨va_cnB 1 hts gX0_grid_X1_wholeBelow_n60 rfl rfl rfl (nW_X0_60 hN) (hts (.initialized RX1) (by decide +kernel)) (by decide +kernel) ⟨Nat.le_of_ble_eq_true rfl, Nat.le_of_ble_eq_true rfl⟩, hts (.instanceMethod yX1_wholeBelow) (by decide +kernel), hts (.selects RX1 yX1_wholeBelow yX1_wholeBelow) (by decide +kernel)⟩ ⟨(fun a U g mk q => ⟨q.1, kw_blind q.2⟩), kw_recv hW hS hk_k, fun U hU hW9 => ⟨rfl, kw_call hW hS hU hW9⟩⟩ rfl rfl hl.1 rfl (lv_room (Nat.le_of_ble_eq_true rfl)) dX0_grid_9 ⟨Nat.zero_le _, Nat.zero_le _⟩)) (fun r er => ?_)
  subst er
  refine va_put (D := (dC, dI)) (ci := 0) (v := .long (fn_X1_wholeBelow k pl)) (ty := .long) (C := RX0) (T := TX0) (N := 6) hx hb hts hin tyX0 tyX0_ok nmX0 hown hK hP hD hS 0 rfl rfl 2 (by decide) (hts (.fieldLink RX0 23 "ServoDesk$Axis" "low" "J") (by decide +kernel)) (fun _ h9 => h9) rfl (by decide +kernel) rfl rfl (Nat.le_of_ble_eq_true rfl) dX0_grid_12 (fun H locs hP hD hS => ?_)
  have hP : va_P (dC, dI) vwCl [(h0, .inr (0, [.ref (ad k), .long pl, .long (fn_X1_wholeBelow k pl), .long hi, .long ba, .long wy]))] H := hP
  have hD : va_D A [(h0, .inr (0, [.ref (ad k), .long pl, .long (fn_X1_wholeBelow k pl), .long hi, .long ba, .long wy]))] := hD
  refine lv_aload_n hx hb dX0_grid_15 rfl (lv_at hl 0 rfl) ?_
  refine lv_aload_n hx hb dX0_grid_16 rfl (lv_at hl 0 rfl) ?_
  refine va_get (D := (dC, dI)) (ci := 0) (v := .ref (ad k)) (C := RX0) (T := TX0) (N := 6) hx hb hts hin hown hK hP 0 rfl rfl 0 (by decide) (hts (.fieldLink RX0 7 "ServoDesk$Axis" "kind" "LServoDesk$Kind;") (by decide +kernel)) (fun _ h9 => h9) rfl dX0_grid_17 ?_
  refine lv_aload_n hx hb dX0_grid_20 rfl (lv_at hl 0 rfl) ?_
  refine va_get (D := (dC, dI)) (ci := 0) (v := .long pl) (C := RX0) (T := TX0) (N := 6) hx hb hts hin hown hK hP 0 rfl rfl 1 (by decide) (hts (.fieldLink RX0 13 "ServoDesk$Axis" "place" "J") (by decide +kernel)) (fun _ h9 => h9) rfl dX0_grid_21 ?_
  refine vp_callSl (va_Run.run (va_runVN (As := [.long pl]) (rest := [.ref h0]) ⟨hx, hb, hml, hown, hts⟩ (ct_X1_wholeAbove l ad k hk_k pl) ⟨va_cnB 1 hts gX0_grid_X1_wholeAbove_n63 rfl rfl rfl (nW_X0_63 hN) (hts (.initialized RX1) (by decide +kernel)) (by decide +kernel) ⟨Nat.le_of_ble_eq_true rfl, Nat.le_of_ble_eq_true rfl⟩, hts (.instanceMethod yX1_wholeAbove) (by decide +kernel), hts (.selects RX1 yX1_wholeAbove yX1_wholeAbove) (by decide +kernel)⟩ ⟨(fun a U g mk q => ⟨q.1, kw_blind q.2⟩), kw_recv hW hS hk_k, fun U hU hW9 => ⟨rfl, kw_call hW hS hU hW9⟩⟩ rfl rfl hl.1 rfl (lv_room (Nat.le_of_ble_eq_true rfl)) dX0_grid_24 ⟨Nat.zero_le _, Nat.zero_le _⟩)) (fun r er => ?_)
  subst er
  refine va_put (D := (dC, dI)) (ci := 0) (v := .long (fn_X1_wholeAbove k pl)) (ty := .long) (C := RX0) (T := TX0) (N := 6) hx hb hts hin tyX0 tyX0_ok nmX0 hown hK hP hD hS 0 rfl rfl 3 (by decide) (hts (.fieldLink RX0 29 "ServoDesk$Axis" "high" "J") (by decide +kernel)) (fun _ h9 => h9) rfl (by decide +kernel) rfl rfl (Nat.le_of_ble_eq_true rfl) dX0_grid_27 (fun H locs hP hD hS => ?_)
  have hP : va_P (dC, dI) vwCl [(h0, .inr (0, [.ref (ad k), .long pl, .long (fn_X1_wholeBelow k pl), .long (fn_X1_wholeAbove k pl), .long ba, .long wy]))] H := hP
  have hD : va_D A [(h0, .inr (0, [.ref (ad k), .long pl, .long (fn_X1_wholeBelow k pl), .long (fn_X1_wholeAbove k pl), .long ba, .long wy]))] := hD
  have e9 : fn_X0_grid k pl lo hi ba wy = (pl, fn_X1_wholeBelow k pl, fn_X1_wholeAbove k pl, ba, wy) := by unfold fn_X0_grid; rfl
  exact W.vret hx hb hr (fun t ht hW9 => ⟨⟨(), rfl, trivial, by rw [ht, e9]; exact hP, by rw [e9]; exact hD⟩, hS.F ht⟩) hS.2.2 dX0_grid_30
def fn_X0_swap (k : Nat) (pl lo hi ba wy : Int64) : Ax5 :=
  (pl, hi, lo, ba, wy)
set_option maxHeartbeats 4000000 in
set_option maxRecDepth 100000 in
theorem ct_X0_swap (l : Launch) (dC : Nat → ClassId) (dI : Nat → Nat → Nat) (ad : Nat → Nat) (h0 sz k : Nat) (hk_k : k < 4) (pl lo hi ba wy : Int64) : Met l yX0_swap wsX0_swap ({ frames := 0, cells := 0, slots := 0, locals := 0 } : Room) (va_Pc [.ref h0] (fun U => axw dC dI ad h0 sz k (pl, lo, hi, ba, wy) U)) (va_Qv (fun _ : Unit => True) (fun _ t => va_P (dC, dI) vwCl [(h0, axE ad k (fn_X0_swap k pl lo hi ba wy))] t.heap ∧ va_D (va_A [(h0, axE ad k (pl, lo, hi, ba, wy))] sz) [(h0, axE ad k (fn_X0_swap k pl lo hi ba wy))]) (va_A [(h0, axE ad k (pl, lo, hi, ba, wy))] sz)) 0 0 (va_A [(h0, axE ad k (pl, lo, hi, ba, wy))] sz) := by
  refine Met.ofW (cc := cX0_swap) (maxL := 3) (ret := none) (by decide) rfl ?_
  intro p e s m args below meth c s₁ B hml hv
  obtain ⟨rfl, hsz, hP, hK, hD0, hW, hN⟩ := hv
  have hx := B.exec
  have hb := B.bytes
  have hr := B.returns
  have hlocks := B.notSynchronized
  have hts := atoms_spec (ws := wsX0_swap) B.pre
  have hown : s.vm.findClass RX0 = some m.cls := findClass_of_methodNamed B.named
  have hin : ∀ w ∈ u_ws RX0 TX0 6, w ∈ wsX0_swap := fun _ h => List.mem_cons_of_mem _ (List.mem_append_right _ h)
  subst hsz
  have hD := hD0.self (sz := s.heap.size)
  generalize hAe : va_A [(h0, axE ad k (pl, lo, hi, ba, wy))] s.heap.size = A at hD hW ⊢
  have hA : ∀ q : Nat, s.heap.size ≤ q → A q := fun q h => by rw [← hAe]; exact Or.inr h
  have hS : va_S A s.heap s.heap [] := va_S.rf
  have hP : va_P (dC, dI) vwCl [(h0, .inr (0, [.ref (ad k), .long pl, .long lo, .long hi, .long ba, .long wy]))] s.heap := hP
  have hD : va_D A [(h0, .inr (0, [.ref (ad k), .long pl, .long lo, .long hi, .long ba, .long wy]))] := hD
  have hl := lv_entry ([.ref h0]) (n := 3) (Nat.le_of_ble_eq_true rfl)
  rw [lg_entry_eq]
  generalize (lg_sl ([.ref h0]) ++ List.replicate (3 - (lg_sl ([.ref h0])).length) Slot.unset).toArray = ls at hl ⊢
  have hl : lv_has ls 3 [(0, .ref h0)] := hl
  refine lv_aload_n hx hb dX0_swap_0 rfl (lv_at hl 0 rfl) ?_
  refine va_get (D := (dC, dI)) (ci := 0) (v := .long lo) (C := RX0) (T := TX0) (N := 6) hx hb hts hin hown hK hP 0 rfl rfl 2 (by decide) (hts (.fieldLink RX0 23 "ServoDesk$Axis" "low" "J") (by decide +kernel)) (fun _ h9 => h9) rfl dX0_swap_1 ?_
  refine lv_lstore_n (lv' := [(1, .long lo), (0, .ref h0)]) hx hb dX0_swap_4 rfl hl (by decide) rfl (fun ls hl => ?_)
  refine lv_aload_n hx hb dX0_swap_5 rfl (lv_at hl 1 rfl) ?_
  refine lv_aload_n hx hb dX0_swap_6 rfl (lv_at hl 1 rfl) ?_
  refine va_get (D := (dC, dI)) (ci := 0) (v := .long hi) (C := RX0) (T := TX0) (N := 6) hx hb hts hin hown hK hP 0 rfl rfl 3 (by decide) (hts (.fieldLink RX0 29 "ServoDesk$Axis" "high" "J") (by decide +kernel)) (fun _ h9 => h9) rfl dX0_swap_7 ?_
  refine va_put (D := (dC, dI)) (ci := 0) (v := .long hi) (ty := .long) (C := RX0) (T := TX0) (N := 6) hx hb hts hin tyX0 tyX0_ok nmX0 hown hK hP hD hS 0 rfl rfl 2 (by decide) (hts (.fieldLink RX0 23 "ServoDesk$Axis" "low" "J") (by decide +kernel)) (fun _ h9 => h9) rfl (by decide +kernel) rfl rfl (Nat.le_of_ble_eq_true rfl) dX0_swap_10 (fun H locs hP hD hS => ?_)
  have hP : va_P (dC, dI) vwCl [(h0, .inr (0, [.ref (ad k), .long pl, .long hi, .long hi, .long ba, .long wy]))] H := hP
  have hD : va_D A [(h0, .inr (0, [.ref (ad k), .long pl, .long hi, .long hi, .long ba, .long wy]))] := hD
  refine lv_aload_n hx hb dX0_swap_13 rfl (lv_at hl 1 rfl) ?_
  refine lv_lload_n hx hb dX0_swap_14 rfl (lv_at hl 0 rfl) ?_
  refine va_put (D := (dC, dI)) (ci := 0) (v := .long lo) (ty := .long) (C := RX0) (T := TX0) (N := 6) hx hb hts hin tyX0 tyX0_ok nmX0 hown hK hP hD hS 0 rfl rfl 3 (by decide) (hts (.fieldLink RX0 29 "ServoDesk$Axis" "high" "J") (by decide +kernel)) (fun _ h9 => h9) rfl (by decide +kernel) rfl rfl (Nat.le_of_ble_eq_true rfl) dX0_swap_15 (fun H locs hP hD hS => ?_)
  have hP : va_P (dC, dI) vwCl [(h0, .inr (0, [.ref (ad k), .long pl, .long hi, .long lo, .long ba, .long wy]))] H := hP
  have hD : va_D A [(h0, .inr (0, [.ref (ad k), .long pl, .long hi, .long lo, .long ba, .long wy]))] := hD
  have e9 : fn_X0_swap k pl lo hi ba wy = (pl, hi, lo, ba, wy) := by unfold fn_X0_swap; rfl
  exact W.vret hx hb hr (fun t ht hW9 => ⟨⟨(), rfl, trivial, by rw [ht, e9]; exact hP, by rw [e9]; exact hD⟩, hS.F ht⟩) hS.2.2 dX0_swap_18
def fn_X0_obey (k : Nat) (v1 : Int32) (pl lo hi ba wy : Int64) : Ax5 :=
  if v1 = (1 : Int32) then
    (fn_X1_greater k lo (fn_X1_lesser k hi pl), lo, hi, ba, wy)
  else
    if v1 = (2 : Int32) then
      (fn_X1_sized k pl, lo, hi, ba, wy)
    else
      if v1 = (3 : Int32) then
        (fn_X1_wholeBelow k pl, lo, hi, ba, wy)
      else
        if v1 = (4 : Int32) then
          (fn_X1_wholeAbove k pl, lo, hi, ba, wy)
        else
          if v1 = (5 : Int32) then
            (fn_X1_wholeNearest k pl, lo, hi, ba, wy)
          else
            if v1 = (6 : Int32) then
              fn_X0_look k pl lo hi ba wy
            else
              if v1 = (7 : Int32) then
                (fn_X1_turned k pl wy, lo, hi, ba, wy)
              else
                if v1 = (8 : Int32) then
                  fn_X0_widen k pl lo hi ba wy
                else
                  if v1 = (9 : Int32) then
                    fn_X0_rest k pl lo hi ba wy
                  else
                    if v1 = (10 : Int32) then
                      fn_X0_grid k pl lo hi ba wy
                    else
                      if v1 = (11 : Int32) then
                        fn_X0_swap k pl lo hi ba wy
                      else
                        if v1 = (12 : Int32) then
                          (lo, lo, hi, ba, wy)
                        else
                          if v1 = (13 : Int32) then
                            (hi, lo, hi, ba, wy)
                          else
                            (pl, lo, hi, ba, wy)
set_option maxHeartbeats 4000000 in
set_option maxRecDepth 100000 in
theorem ct_X0_obey (l : Launch) (dC : Nat → ClassId) (dI : Nat → Nat → Nat) (ad : Nat → Nat) (h0 sz k : Nat) (hk_k : k < 4) (v1 : Int32) (pl lo hi ba wy : Int64) : Met l yX0_obey wsX0_obey ({ frames := 5, cells := 0, slots := 0, locals := 115 } : Room) (va_Pc [.ref h0, .int v1] (fun U => axw dC dI ad h0 sz k (pl, lo, hi, ba, wy) U)) (va_Qv (fun _ : Unit => True) (fun _ t => va_P (dC, dI) vwCl [(h0, axE ad k (fn_X0_obey k v1 pl lo hi ba wy))] t.heap ∧ va_D (va_A [(h0, axE ad k (pl, lo, hi, ba, wy))] sz) [(h0, axE ad k (fn_X0_obey k v1 pl lo hi ba wy))]) (va_A [(h0, axE ad k (pl, lo, hi, ba, wy))] sz)) 0 0 (va_A [(h0, axE ad k (pl, lo, hi, ba, wy))] sz) := by
  refine Met.ofW (cc := cX0_obey) (maxL := 2) (ret := none) (by decide) rfl ?_
  intro p e s m args below meth c s₁ B hml hv
  obtain ⟨rfl, hsz, hP, hK, hD0, hW, hN⟩ := hv
  have hx := B.exec
  have hb := B.bytes
  have hr := B.returns
  have hlocks := B.notSynchronized
  have hts := atoms_spec (ws := wsX0_obey) B.pre
  have hown : s.vm.findClass RX0 = some m.cls := findClass_of_methodNamed B.named
  have hin : ∀ w ∈ u_ws RX0 TX0 6, w ∈ wsX0_obey := fun _ h => List.mem_cons_of_mem _ (List.mem_append_right _ h)
  subst hsz
  have hD := hD0.self (sz := s.heap.size)
  generalize hAe : va_A [(h0, axE ad k (pl, lo, hi, ba, wy))] s.heap.size = A at hD hW ⊢
  have hA : ∀ q : Nat, s.heap.size ≤ q → A q := fun q h => by rw [← hAe]; exact Or.inr h
  have hS : va_S A s.heap s.heap [] := va_S.rf
  have hP : va_P (dC, dI) vwCl [(h0, .inr (0, [.ref (ad k), .long pl, .long lo, .long hi, .long ba, .long wy]))] s.heap := hP
  have hD : va_D A [(h0, .inr (0, [.ref (ad k), .long pl, .long lo, .long hi, .long ba, .long wy]))] := hD
  have hl := lv_entry ([.ref h0, .int v1]) (n := 2) (Nat.le_of_ble_eq_true rfl)
  rw [lg_entry_eq]
  generalize (lg_sl ([.ref h0, .int v1]) ++ List.replicate (2 - (lg_sl ([.ref h0, .int v1])).length) Slot.unset).toArray = ls at hl ⊢
  have hl : lv_has ls 2 [(0, .ref h0), (1, .int v1)] := hl
  refine lv_iload_n hx hb dX0_obey_0 rfl (lv_at hl 1 rfl) ?_
  by_cases q_1 : v1 = (1 : Int32)
  · refine lv_tableIn (off := 67) (tgt := 68) hx hb dX0_obey_1 (by rw [q_1]; decide) (by rw [q_1]; decide) (by rw [q_1]; rfl) (by decide) ?_
    refine lv_aload_n hx hb dX0_obey_68 rfl (lv_at hl 0 rfl) ?_
    refine lv_aload_n hx hb dX0_obey_69 rfl (lv_at hl 0 rfl) ?_
    refine va_get (D := (dC, dI)) (ci := 0) (v := .ref (ad k)) (C := RX0) (T := TX0) (N := 6) hx hb hts hin hown hK hP 0 rfl rfl 0 (by decide) (hts (.fieldLink RX0 7 "ServoDesk$Axis" "kind" "LServoDesk$Kind;") (by decide +kernel)) (fun _ h9 => h9) rfl dX0_obey_70 ?_
    refine lv_aload_n hx hb dX0_obey_73 rfl (lv_at hl 0 rfl) ?_
    refine va_get (D := (dC, dI)) (ci := 0) (v := .long lo) (C := RX0) (T := TX0) (N := 6) hx hb hts hin hown hK hP 0 rfl rfl 2 (by decide) (hts (.fieldLink RX0 23 "ServoDesk$Axis" "low" "J") (by decide +kernel)) (fun _ h9 => h9) rfl dX0_obey_74 ?_
    refine lv_aload_n hx hb dX0_obey_77 rfl (lv_at hl 0 rfl) ?_
    refine va_get (D := (dC, dI)) (ci := 0) (v := .ref (ad k)) (C := RX0) (T := TX0) (N := 6) hx hb hts hin hown hK hP 0 rfl rfl 0 (by decide) (hts (.fieldLink RX0 7 "ServoDesk$Axis" "kind" "LServoDesk$Kind;") (by decide +kernel)) (fun _ h9 => h9) rfl dX0_obey_78 ?_
    refine lv_aload_n hx hb dX0_obey_81 rfl (lv_at hl 0 rfl) ?_
    refine va_get (D := (dC, dI)) (ci := 0) (v := .long hi) (C := RX0) (T := TX0) (N := 6) hx hb hts hin hown hK hP 0 rfl rfl 3 (by decide) (hts (.fieldLink RX0 29 "ServoDesk$Axis" "high" "J") (by decide +kernel)) (fun _ h9 => h9) rfl dX0_obey_82 ?_
    refine lv_aload_n hx hb dX0_obey_85 rfl (lv_at hl 0 rfl) ?_
    refine va_get (D := (dC, dI)) (ci := 0) (v := .long pl) (C := RX0) (T := TX0) (N := 6) hx hb hts hin hown hK hP 0 rfl rfl 1 (by decide) (hts (.fieldLink RX0 13 "ServoDesk$Axis" "place" "J") (by decide +kernel)) (fun _ h9 => h9) rfl dX0_obey_86 ?_
    refine vp_callSl (va_Run.run (va_runVN (As := [.long hi, .long pl]) (rest := [.long lo, .ref (ad k), .ref h0]) ⟨hx, hb, hml, hown, hts⟩ (ct_X1_lesser l ad k hk_k hi pl) ⟨va_cnB 2 hts gX0_obey_X1_lesser_n50 rfl rfl rfl (nW_X0_50 hN) (hts (.initialized RX1) (by decide +kernel)) (by decide +kernel) ⟨Nat.le_of_ble_eq_true rfl, Nat.le_of_ble_eq_true rfl⟩, hts (.instanceMethod yX1_lesser) (by decide +kernel), hts (.selects RX1 yX1_lesser yX1_lesser) (by decide +kernel)⟩ ⟨(fun a U g mk q => ⟨q.1, kw_blind q.2⟩), kw_recv hW hS hk_k, fun U hU hW9 => ⟨rfl, kw_call hW hS hU hW9⟩⟩ rfl rfl hl.1 rfl (lv_room (Nat.le_of_ble_eq_true rfl)) dX0_obey_89 ⟨Nat.zero_le _, Nat.zero_le _⟩)) (fun r er => ?_)
    subst er
    refine vp_callSl (va_Run.run (va_runVN (As := [.long lo, .long (fn_X1_lesser k hi pl)]) (rest := [.ref h0]) ⟨hx, hb, hml, hown, hts⟩ (ct_X1_greater l ad k hk_k lo (fn_X1_lesser k hi pl)) ⟨va_cnB 2 hts gX0_obey_X1_greater_n54 rfl rfl rfl (nW_X0_54 hN) (hts (.initialized RX1) (by decide +kernel)) (by decide +kernel) ⟨Nat.le_of_ble_eq_true rfl, Nat.le_of_ble_eq_true rfl⟩, hts (.instanceMethod yX1_greater) (by decide +kernel), hts (.selects RX1 yX1_greater yX1_greater) (by decide +kernel)⟩ ⟨(fun a U g mk q => ⟨q.1, kw_blind q.2⟩), kw_recv hW hS hk_k, fun U hU hW9 => ⟨rfl, kw_call hW hS hU hW9⟩⟩ rfl rfl hl.1 rfl (lv_room (Nat.le_of_ble_eq_true rfl)) dX0_obey_92 ⟨Nat.zero_le _, Nat.zero_le _⟩)) (fun r er => ?_)
    subst er
    refine va_put (D := (dC, dI)) (ci := 0) (v := .long (fn_X1_greater k lo (fn_X1_lesser k hi pl))) (ty := .long) (C := RX0) (T := TX0) (N := 6) hx hb hts hin tyX0 tyX0_ok nmX0 hown hK hP hD hS 0 rfl rfl 1 (by decide) (hts (.fieldLink RX0 13 "ServoDesk$Axis" "place" "J") (by decide +kernel)) (fun _ h9 => h9) rfl (by decide +kernel) rfl rfl (Nat.le_of_ble_eq_true rfl) dX0_obey_95 (fun H locs hP hD hS => ?_)
    have hP : va_P (dC, dI) vwCl [(h0, .inr (0, [.ref (ad k), .long (fn_X1_greater k lo (fn_X1_lesser k hi pl)), .long lo, .long hi, .long ba, .long wy]))] H := hP
    have hD : va_D A [(h0, .inr (0, [.ref (ad k), .long (fn_X1_greater k lo (fn_X1_lesser k hi pl)), .long lo, .long hi, .long ba, .long wy]))] := hD
    refine lv_goto (tgt := 252) hx hb dX0_obey_98 (by decide) ?_
    have e9 : fn_X0_obey k v1 pl lo hi ba wy = (fn_X1_greater k lo (fn_X1_lesser k hi pl), lo, hi, ba, wy) := by unfold fn_X0_obey; rw [if_pos q_1]
    exact W.vret hx hb hr (fun t ht hW9 => ⟨⟨(), rfl, trivial, by rw [ht, e9]; exact hP, by rw [e9]; exact hD⟩, hS.F ht⟩) hS.2.2 dX0_obey_252
  by_cases q_2 : v1 = (2 : Int32)
  · refine lv_tableIn (off := 100) (tgt := 101) hx hb dX0_obey_1 (by rw [q_2]; decide) (by rw [q_2]; decide) (by rw [q_2]; rfl) (by decide) ?_
    refine lv_aload_n hx hb dX0_obey_101 rfl (lv_at hl 0 rfl) ?_
    refine lv_aload_n hx hb dX0_obey_102 rfl (lv_at hl 0 rfl) ?_
    refine va_get (D := (dC, dI)) (ci := 0) (v := .ref (ad k)) (C := RX0) (T := TX0) (N := 6) hx hb hts hin hown hK hP 0 rfl rfl 0 (by decide) (hts (.fieldLink RX0 7 "ServoDesk$Axis" "kind" "LServoDesk$Kind;") (by decide +kernel)) (fun _ h9 => h9) rfl dX0_obey_103 ?_
    refine lv_aload_n hx hb dX0_obey_106 rfl (lv_at hl 0 rfl) ?_
    refine va_get (D := (dC, dI)) (ci := 0) (v := .long pl) (C := RX0) (T := TX0) (N := 6) hx hb hts hin hown hK hP 0 rfl rfl 1 (by decide) (hts (.fieldLink RX0 13 "ServoDesk$Axis" "place" "J") (by decide +kernel)) (fun _ h9 => h9) rfl dX0_obey_107 ?_
    refine vp_callSl (va_Run.run (va_runVN (As := [.long pl]) (rest := [.ref h0]) ⟨hx, hb, hml, hown, hts⟩ (ct_X1_sized l ad k hk_k pl) ⟨va_cnB 1 hts gX0_obey_X1_sized_n57 rfl rfl rfl (nW_X0_57 hN) (hts (.initialized RX1) (by decide +kernel)) (by decide +kernel) ⟨Nat.le_of_ble_eq_true rfl, Nat.le_of_ble_eq_true rfl⟩, hts (.instanceMethod yX1_sized) (by decide +kernel), hts (.selects RX1 yX1_sized yX1_sized) (by decide +kernel)⟩ ⟨(fun a U g mk q => ⟨q.1, kw_blind q.2⟩), kw_recv hW hS hk_k, fun U hU hW9 => ⟨rfl, kw_call hW hS hU hW9⟩⟩ rfl rfl hl.1 rfl (lv_room (Nat.le_of_ble_eq_true rfl)) dX0_obey_110 ⟨Nat.zero_le _, Nat.zero_le _⟩)) (fun r er => ?_)
    subst er
    refine va_put (D := (dC, dI)) (ci := 0) (v := .long (fn_X1_sized k pl)) (ty := .long) (C := RX0) (T := TX0) (N := 6) hx hb hts hin tyX0 tyX0_ok nmX0 hown hK hP hD hS 0 rfl rfl 1 (by decide) (hts (.fieldLink RX0 13 "ServoDesk$Axis" "place" "J") (by decide +kernel)) (fun _ h9 => h9) rfl (by decide +kernel) rfl rfl (Nat.le_of_ble_eq_true rfl) dX0_obey_113 (fun H locs hP hD hS => ?_)
    have hP : va_P (dC, dI) vwCl [(h0, .inr (0, [.ref (ad k), .long (fn_X1_sized k pl), .long lo, .long hi, .long ba, .long wy]))] H := hP
    have hD : va_D A [(h0, .inr (0, [.ref (ad k), .long (fn_X1_sized k pl), .long lo, .long hi, .long ba, .long wy]))] := hD
    refine lv_goto (tgt := 252) hx hb dX0_obey_116 (by decide) ?_
    have e9 : fn_X0_obey k v1 pl lo hi ba wy = (fn_X1_sized k pl, lo, hi, ba, wy) := by unfold fn_X0_obey; rw [if_neg q_1, if_pos q_2]
    exact W.vret hx hb hr (fun t ht hW9 => ⟨⟨(), rfl, trivial, by rw [ht, e9]; exact hP, by rw [e9]; exact hD⟩, hS.F ht⟩) hS.2.2 dX0_obey_252
  by_cases q_3 : v1 = (3 : Int32)
  · refine lv_tableIn (off := 118) (tgt := 119) hx hb dX0_obey_1 (by rw [q_3]; decide) (by rw [q_3]; decide) (by rw [q_3]; rfl) (by decide) ?_
    refine lv_aload_n hx hb dX0_obey_119 rfl (lv_at hl 0 rfl) ?_
    refine lv_aload_n hx hb dX0_obey_120 rfl (lv_at hl 0 rfl) ?_
    refine va_get (D := (dC, dI)) (ci := 0) (v := .ref (ad k)) (C := RX0) (T := TX0) (N := 6) hx hb hts hin hown hK hP 0 rfl rfl 0 (by decide) (hts (.fieldLink RX0 7 "ServoDesk$Axis" "kind" "LServoDesk$Kind;") (by decide +kernel)) (fun _ h9 => h9) rfl dX0_obey_121 ?_
    refine lv_aload_n hx hb dX0_obey_124 rfl (lv_at hl 0 rfl) ?_
    refine va_get (D := (dC, dI)) (ci := 0) (v := .long pl) (C := RX0) (T := TX0) (N := 6) hx hb hts hin hown hK hP 0 rfl rfl 1 (by decide) (hts (.fieldLink RX0 13 "ServoDesk$Axis" "place" "J") (by decide +kernel)) (fun _ h9 => h9) rfl dX0_obey_125 ?_
    refine vp_callSl (va_Run.run (va_runVN (As := [.long pl]) (rest := [.ref h0]) ⟨hx, hb, hml, hown, hts⟩ (ct_X1_wholeBelow l ad k hk_k pl) ⟨va_cnB 1 hts gX0_obey_X1_wholeBelow_n60 rfl rfl rfl (nW_X0_60 hN) (hts (.initialized RX1) (by decide +kernel)) (by decide +kernel) ⟨Nat.le_of_ble_eq_true rfl, Nat.le_of_ble_eq_true rfl⟩, hts (.instanceMethod yX1_wholeBelow) (by decide +kernel), hts (.selects RX1 yX1_wholeBelow yX1_wholeBelow) (by decide +kernel)⟩ ⟨(fun a U g mk q => ⟨q.1, kw_blind q.2⟩), kw_recv hW hS hk_k, fun U hU hW9 => ⟨rfl, kw_call hW hS hU hW9⟩⟩ rfl rfl hl.1 rfl (lv_room (Nat.le_of_ble_eq_true rfl)) dX0_obey_128 ⟨Nat.zero_le _, Nat.zero_le _⟩)) (fun r er => ?_)
    subst er
    refine va_put (D := (dC, dI)) (ci := 0) (v := .long (fn_X1_wholeBelow k pl)) (ty := .long) (C := RX0) (T := TX0) (N := 6) hx hb hts hin tyX0 tyX0_ok nmX0 hown hK hP hD hS 0 rfl rfl 1 (by decide) (hts (.fieldLink RX0 13 "ServoDesk$Axis" "place" "J") (by decide +kernel)) (fun _ h9 => h9) rfl (by decide +kernel) rfl rfl (Nat.le_of_ble_eq_true rfl) dX0_obey_131 (fun H locs hP hD hS => ?_)
    have hP : va_P (dC, dI) vwCl [(h0, .inr (0, [.ref (ad k), .long (fn_X1_wholeBelow k pl), .long lo, .long hi, .long ba, .long wy]))] H := hP
    have hD : va_D A [(h0, .inr (0, [.ref (ad k), .long (fn_X1_wholeBelow k pl), .long lo, .long hi, .long ba, .long wy]))] := hD
    refine lv_goto (tgt := 252) hx hb dX0_obey_134 (by decide) ?_
    have e9 : fn_X0_obey k v1 pl lo hi ba wy = (fn_X1_wholeBelow k pl, lo, hi, ba, wy) := by unfold fn_X0_obey; rw [if_neg q_1, if_neg q_2, if_pos q_3]
    exact W.vret hx hb hr (fun t ht hW9 => ⟨⟨(), rfl, trivial, by rw [ht, e9]; exact hP, by rw [e9]; exact hD⟩, hS.F ht⟩) hS.2.2 dX0_obey_252
  by_cases q_4 : v1 = (4 : Int32)
  · refine lv_tableIn (off := 136) (tgt := 137) hx hb dX0_obey_1 (by rw [q_4]; decide) (by rw [q_4]; decide) (by rw [q_4]; rfl) (by decide) ?_
    refine lv_aload_n hx hb dX0_obey_137 rfl (lv_at hl 0 rfl) ?_
    refine lv_aload_n hx hb dX0_obey_138 rfl (lv_at hl 0 rfl) ?_
    refine va_get (D := (dC, dI)) (ci := 0) (v := .ref (ad k)) (C := RX0) (T := TX0) (N := 6) hx hb hts hin hown hK hP 0 rfl rfl 0 (by decide) (hts (.fieldLink RX0 7 "ServoDesk$Axis" "kind" "LServoDesk$Kind;") (by decide +kernel)) (fun _ h9 => h9) rfl dX0_obey_139 ?_
    refine lv_aload_n hx hb dX0_obey_142 rfl (lv_at hl 0 rfl) ?_
    refine va_get (D := (dC, dI)) (ci := 0) (v := .long pl) (C := RX0) (T := TX0) (N := 6) hx hb hts hin hown hK hP 0 rfl rfl 1 (by decide) (hts (.fieldLink RX0 13 "ServoDesk$Axis" "place" "J") (by decide +kernel)) (fun _ h9 => h9) rfl dX0_obey_143 ?_
    refine vp_callSl (va_Run.run (va_runVN (As := [.long pl]) (rest := [.ref h0]) ⟨hx, hb, hml, hown, hts⟩ (ct_X1_wholeAbove l ad k hk_k pl) ⟨va_cnB 1 hts gX0_obey_X1_wholeAbove_n63 rfl rfl rfl (nW_X0_63 hN) (hts (.initialized RX1) (by decide +kernel)) (by decide +kernel) ⟨Nat.le_of_ble_eq_true rfl, Nat.le_of_ble_eq_true rfl⟩, hts (.instanceMethod yX1_wholeAbove) (by decide +kernel), hts (.selects RX1 yX1_wholeAbove yX1_wholeAbove) (by decide +kernel)⟩ ⟨(fun a U g mk q => ⟨q.1, kw_blind q.2⟩), kw_recv hW hS hk_k, fun U hU hW9 => ⟨rfl, kw_call hW hS hU hW9⟩⟩ rfl rfl hl.1 rfl (lv_room (Nat.le_of_ble_eq_true rfl)) dX0_obey_146 ⟨Nat.zero_le _, Nat.zero_le _⟩)) (fun r er => ?_)
    subst er
    refine va_put (D := (dC, dI)) (ci := 0) (v := .long (fn_X1_wholeAbove k pl)) (ty := .long) (C := RX0) (T := TX0) (N := 6) hx hb hts hin tyX0 tyX0_ok nmX0 hown hK hP hD hS 0 rfl rfl 1 (by decide) (hts (.fieldLink RX0 13 "ServoDesk$Axis" "place" "J") (by decide +kernel)) (fun _ h9 => h9) rfl (by decide +kernel) rfl rfl (Nat.le_of_ble_eq_true rfl) dX0_obey_149 (fun H locs hP hD hS => ?_)
    have hP : va_P (dC, dI) vwCl [(h0, .inr (0, [.ref (ad k), .long (fn_X1_wholeAbove k pl), .long lo, .long hi, .long ba, .long wy]))] H := hP
    have hD : va_D A [(h0, .inr (0, [.ref (ad k), .long (fn_X1_wholeAbove k pl), .long lo, .long hi, .long ba, .long wy]))] := hD
    refine lv_goto (tgt := 252) hx hb dX0_obey_152 (by decide) ?_
    have e9 : fn_X0_obey k v1 pl lo hi ba wy = (fn_X1_wholeAbove k pl, lo, hi, ba, wy) := by unfold fn_X0_obey; rw [if_neg q_1, if_neg q_2, if_neg q_3, if_pos q_4]
    exact W.vret hx hb hr (fun t ht hW9 => ⟨⟨(), rfl, trivial, by rw [ht, e9]; exact hP, by rw [e9]; exact hD⟩, hS.F ht⟩) hS.2.2 dX0_obey_252
  by_cases q_5 : v1 = (5 : Int32)
  · refine lv_tableIn (off := 154) (tgt := 155) hx hb dX0_obey_1 (by rw [q_5]; decide) (by rw [q_5]; decide) (by rw [q_5]; rfl) (by decide) ?_
    refine lv_aload_n hx hb dX0_obey_155 rfl (lv_at hl 0 rfl) ?_
    refine lv_aload_n hx hb dX0_obey_156 rfl (lv_at hl 0 rfl) ?_
    refine va_get (D := (dC, dI)) (ci := 0) (v := .ref (ad k)) (C := RX0) (T := TX0) (N := 6) hx hb hts hin hown hK hP 0 rfl rfl 0 (by decide) (hts (.fieldLink RX0 7 "ServoDesk$Axis" "kind" "LServoDesk$Kind;") (by decide +kernel)) (fun _ h9 => h9) rfl dX0_obey_157 ?_
    refine lv_aload_n hx hb dX0_obey_160 rfl (lv_at hl 0 rfl) ?_
    refine va_get (D := (dC, dI)) (ci := 0) (v := .long pl) (C := RX0) (T := TX0) (N := 6) hx hb hts hin hown hK hP 0 rfl rfl 1 (by decide) (hts (.fieldLink RX0 13 "ServoDesk$Axis" "place" "J") (by decide +kernel)) (fun _ h9 => h9) rfl dX0_obey_161 ?_
    refine vp_callSl (va_Run.run (va_runVN (As := [.long pl]) (rest := [.ref h0]) ⟨hx, hb, hml, hown, hts⟩ (ct_X1_wholeNearest l ad k hk_k pl) ⟨va_cnB 1 hts gX0_obey_X1_wholeNearest_n66 rfl rfl rfl (nW_X0_66 hN) (hts (.initialized RX1) (by decide +kernel)) (by decide +kernel) ⟨Nat.le_of_ble_eq_true rfl, Nat.le_of_ble_eq_true rfl⟩, hts (.instanceMethod yX1_wholeNearest) (by decide +kernel), hts (.selects RX1 yX1_wholeNearest yX1_wholeNearest) (by decide +kernel)⟩ ⟨(fun a U g mk q => ⟨q.1, kw_blind q.2⟩), kw_recv hW hS hk_k, fun U hU hW9 => ⟨rfl, kw_call hW hS hU hW9⟩⟩ rfl rfl hl.1 rfl (lv_room (Nat.le_of_ble_eq_true rfl)) dX0_obey_164 ⟨Nat.zero_le _, Nat.zero_le _⟩)) (fun r er => ?_)
    subst er
    refine va_put (D := (dC, dI)) (ci := 0) (v := .long (fn_X1_wholeNearest k pl)) (ty := .long) (C := RX0) (T := TX0) (N := 6) hx hb hts hin tyX0 tyX0_ok nmX0 hown hK hP hD hS 0 rfl rfl 1 (by decide) (hts (.fieldLink RX0 13 "ServoDesk$Axis" "place" "J") (by decide +kernel)) (fun _ h9 => h9) rfl (by decide +kernel) rfl rfl (Nat.le_of_ble_eq_true rfl) dX0_obey_167 (fun H locs hP hD hS => ?_)
    have hP : va_P (dC, dI) vwCl [(h0, .inr (0, [.ref (ad k), .long (fn_X1_wholeNearest k pl), .long lo, .long hi, .long ba, .long wy]))] H := hP
    have hD : va_D A [(h0, .inr (0, [.ref (ad k), .long (fn_X1_wholeNearest k pl), .long lo, .long hi, .long ba, .long wy]))] := hD
    refine lv_goto (tgt := 252) hx hb dX0_obey_170 (by decide) ?_
    have e9 : fn_X0_obey k v1 pl lo hi ba wy = (fn_X1_wholeNearest k pl, lo, hi, ba, wy) := by unfold fn_X0_obey; rw [if_neg q_1, if_neg q_2, if_neg q_3, if_neg q_4, if_pos q_5]
    exact W.vret hx hb hr (fun t ht hW9 => ⟨⟨(), rfl, trivial, by rw [ht, e9]; exact hP, by rw [e9]; exact hD⟩, hS.F ht⟩) hS.2.2 dX0_obey_252
  by_cases q_6 : v1 = (6 : Int32)
  · refine lv_tableIn (off := 172) (tgt := 173) hx hb dX0_obey_1 (by rw [q_6]; decide) (by rw [q_6]; decide) (by rw [q_6]; rfl) (by decide) ?_
    refine lv_aload_n hx hb dX0_obey_173 rfl (lv_at hl 0 rfl) ?_
    have hFc := va_F1 hD hS hA (k := 0) rfl
    refine va_callv (va_runV (As := []) (rest := []) ⟨hx, hb, hml, hown, hts⟩ (ct_X0_look l dC dI ad h0 s.heap.size k hk_k pl lo hi ba wy) (cwV 0 hts gX0_obey_X0_look rfl rfl rfl (by decide +kernel) ⟨Nat.le_of_ble_eq_true rfl, Nat.le_of_ble_eq_true rfl⟩) ⟨axw_blind, va_recv hK hP (ci := 0) (q0 := 0) rfl rfl, fun U hU hW9 => axw_call hK hP hD hW hN hS hFc hU hW9⟩ rfl rfl hl.1 rfl (lv_room (Nat.le_of_ble_eq_true rfl)) dX0_obey_174 ⟨Nat.zero_le _, Nat.zero_le _⟩) hS (fun q _ h => hFc q h) hFc (fun _ t H1 locs ht hvm hw hB hz1 hk1 hS => ?_)
    obtain ⟨hP1, -⟩ := hB
    rw [ht] at hP1
    obtain ⟨hP, hD⟩ := va_J1 hP hD (k := 0) rfl hk1 hP1
    have hP : va_P (dC, dI) vwCl [(h0, axE ad k (fn_X0_look k pl lo hi ba wy))] H1 := hP
    have hD : va_D A [(h0, axE ad k (fn_X0_look k pl lo hi ba wy))] := hD
    generalize H1 = H at hP hS ⊢
    refine lv_goto (tgt := 252) hx hb dX0_obey_177 (by decide) ?_
    have e9 : fn_X0_obey k v1 pl lo hi ba wy = fn_X0_look k pl lo hi ba wy := by unfold fn_X0_obey; rw [if_neg q_1, if_neg q_2, if_neg q_3, if_neg q_4, if_neg q_5, if_pos q_6]
    exact W.vret hx hb hr (fun t ht hW9 => ⟨⟨(), rfl, trivial, by rw [ht, e9]; exact hP, by rw [e9]; exact hD⟩, hS.F ht⟩) hS.2.2 dX0_obey_252
  by_cases q_7 : v1 = (7 : Int32)
  · refine lv_tableIn (off := 179) (tgt := 180) hx hb dX0_obey_1 (by rw [q_7]; decide) (by rw [q_7]; decide) (by rw [q_7]; rfl) (by decide) ?_
    refine lv_aload_n hx hb dX0_obey_180 rfl (lv_at hl 0 rfl) ?_
    refine lv_aload_n hx hb dX0_obey_181 rfl (lv_at hl 0 rfl) ?_
    refine va_get (D := (dC, dI)) (ci := 0) (v := .ref (ad k)) (C := RX0) (T := TX0) (N := 6) hx hb hts hin hown hK hP 0 rfl rfl 0 (by decide) (hts (.fieldLink RX0 7 "ServoDesk$Axis" "kind" "LServoDesk$Kind;") (by decide +kernel)) (fun _ h9 => h9) rfl dX0_obey_182 ?_
    refine lv_aload_n hx hb dX0_obey_185 rfl (lv_at hl 0 rfl) ?_
    refine va_get (D := (dC, dI)) (ci := 0) (v := .long pl) (C := RX0) (T := TX0) (N := 6) hx hb hts hin hown hK hP 0 rfl rfl 1 (by decide) (hts (.fieldLink RX0 13 "ServoDesk$Axis" "place" "J") (by decide +kernel)) (fun _ h9 => h9) rfl dX0_obey_186 ?_
    refine lv_aload_n hx hb dX0_obey_189 rfl (lv_at hl 0 rfl) ?_
    refine va_get (D := (dC, dI)) (ci := 0) (v := .long wy) (C := RX0) (T := TX0) (N := 6) hx hb hts hin hown hK hP 0 rfl rfl 5 (by decide) (hts (.fieldLink RX0 35 "ServoDesk$Axis" "way" "J") (by decide +kernel)) (fun _ h9 => h9) rfl dX0_obey_190 ?_
    refine vp_callSl (va_Run.run (va_runVN (As := [.long pl, .long wy]) (rest := [.ref h0]) ⟨hx, hb, hml, hown, hts⟩ (ct_X1_turned l ad k hk_k pl wy) ⟨va_cnB 2 hts gX0_obey_X1_turned_n72 rfl rfl rfl (nW_X0_72 hN) (hts (.initialized RX1) (by decide +kernel)) (by decide +kernel) ⟨Nat.le_of_ble_eq_true rfl, Nat.le_of_ble_eq_true rfl⟩, hts (.instanceMethod yX1_turned) (by decide +kernel), hts (.selects RX1 yX1_turned yX1_turned) (by decide +kernel)⟩ ⟨(fun a U g mk q => ⟨q.1, kw_blind q.2⟩), kw_recv hW hS hk_k, fun U hU hW9 => ⟨rfl, kw_call hW hS hU hW9⟩⟩ rfl rfl hl.1 rfl (lv_room (Nat.le_of_ble_eq_true rfl)) dX0_obey_193 ⟨Nat.zero_le _, Nat.zero_le _⟩)) (fun r er => ?_)
    subst er
    refine va_put (D := (dC, dI)) (ci := 0) (v := .long (fn_X1_turned k pl wy)) (ty := .long) (C := RX0) (T := TX0) (N := 6) hx hb hts hin tyX0 tyX0_ok nmX0 hown hK hP hD hS 0 rfl rfl 1 (by decide) (hts (.fieldLink RX0 13 "ServoDesk$Axis" "place" "J") (by decide +kernel)) (fun _ h9 => h9) rfl (by decide +kernel) rfl rfl (Nat.le_of_ble_eq_true rfl) dX0_obey_196 (fun H locs hP hD hS => ?_)
    have hP : va_P (dC, dI) vwCl [(h0, .inr (0, [.ref (ad k), .long (fn_X1_turned k pl wy), .long lo, .long hi, .long ba, .long wy]))] H := hP
    have hD : va_D A [(h0, .inr (0, [.ref (ad k), .long (fn_X1_turned k pl wy), .long lo, .long hi, .long ba, .long wy]))] := hD
    refine lv_goto (tgt := 252) hx hb dX0_obey_199 (by decide) ?_
    have e9 : fn_X0_obey k v1 pl lo hi ba wy = (fn_X1_turned k pl wy, lo, hi, ba, wy) := by unfold fn_X0_obey; rw [if_neg q_1, if_neg q_2, if_neg q_3, if_neg q_4, if_neg q_5, if_neg q_6, if_pos q_7]
    exact W.vret hx hb hr (fun t ht hW9 => ⟨⟨(), rfl, trivial, by rw [ht, e9]; exact hP, by rw [e9]; exact hD⟩, hS.F ht⟩) hS.2.2 dX0_obey_252
  by_cases q_8 : v1 = (8 : Int32)
  · refine lv_tableIn (off := 201) (tgt := 202) hx hb dX0_obey_1 (by rw [q_8]; decide) (by rw [q_8]; decide) (by rw [q_8]; rfl) (by decide) ?_
    refine lv_aload_n hx hb dX0_obey_202 rfl (lv_at hl 0 rfl) ?_
    have hFc := va_F1 hD hS hA (k := 0) rfl
    refine va_callv (va_runV (As := []) (rest := []) ⟨hx, hb, hml, hown, hts⟩ (ct_X0_widen l dC dI ad h0 s.heap.size k hk_k pl lo hi ba wy) (cwV 0 hts gX0_obey_X0_widen rfl rfl rfl (by decide +kernel) ⟨Nat.le_of_ble_eq_true rfl, Nat.le_of_ble_eq_true rfl⟩) ⟨axw_blind, va_recv hK hP (ci := 0) (q0 := 0) rfl rfl, fun U hU hW9 => axw_call hK hP hD hW hN hS hFc hU hW9⟩ rfl rfl hl.1 rfl (lv_room (Nat.le_of_ble_eq_true rfl)) dX0_obey_203 ⟨Nat.zero_le _, Nat.zero_le _⟩) hS (fun q _ h => hFc q h) hFc (fun _ t H1 locs ht hvm hw hB hz1 hk1 hS => ?_)
    obtain ⟨hP1, -⟩ := hB
    rw [ht] at hP1
    obtain ⟨hP, hD⟩ := va_J1 hP hD (k := 0) rfl hk1 hP1
    have hP : va_P (dC, dI) vwCl [(h0, axE ad k (fn_X0_widen k pl lo hi ba wy))] H1 := hP
    have hD : va_D A [(h0, axE ad k (fn_X0_widen k pl lo hi ba wy))] := hD
    generalize H1 = H at hP hS ⊢
    refine lv_goto (tgt := 252) hx hb dX0_obey_206 (by decide) ?_
    have e9 : fn_X0_obey k v1 pl lo hi ba wy = fn_X0_widen k pl lo hi ba wy := by unfold fn_X0_obey; rw [if_neg q_1, if_neg q_2, if_neg q_3, if_neg q_4, if_neg q_5, if_neg q_6, if_neg q_7, if_pos q_8]
    exact W.vret hx hb hr (fun t ht hW9 => ⟨⟨(), rfl, trivial, by rw [ht, e9]; exact hP, by rw [e9]; exact hD⟩, hS.F ht⟩) hS.2.2 dX0_obey_252
  by_cases q_9 : v1 = (9 : Int32)
  · refine lv_tableIn (off := 208) (tgt := 209) hx hb dX0_obey_1 (by rw [q_9]; decide) (by rw [q_9]; decide) (by rw [q_9]; rfl) (by decide) ?_
    refine lv_aload_n hx hb dX0_obey_209 rfl (lv_at hl 0 rfl) ?_
    have hFc := va_F1 hD hS hA (k := 0) rfl
    refine va_callv (va_runV (As := []) (rest := []) ⟨hx, hb, hml, hown, hts⟩ (ct_X0_rest l dC dI ad h0 s.heap.size k hk_k pl lo hi ba wy) (cwV 0 hts gX0_obey_X0_rest rfl rfl rfl (by decide +kernel) ⟨Nat.le_of_ble_eq_true rfl, Nat.le_of_ble_eq_true rfl⟩) ⟨axw_blind, va_recv hK hP (ci := 0) (q0 := 0) rfl rfl, fun U hU hW9 => axw_call hK hP hD hW hN hS hFc hU hW9⟩ rfl rfl hl.1 rfl (lv_room (Nat.le_of_ble_eq_true rfl)) dX0_obey_210 ⟨Nat.zero_le _, Nat.zero_le _⟩) hS (fun q _ h => hFc q h) hFc (fun _ t H1 locs ht hvm hw hB hz1 hk1 hS => ?_)
    obtain ⟨hP1, -⟩ := hB
    rw [ht] at hP1
    obtain ⟨hP, hD⟩ := va_J1 hP hD (k := 0) rfl hk1 hP1
    have hP : va_P (dC, dI) vwCl [(h0, axE ad k (fn_X0_rest k pl lo hi ba wy))] H1 := hP
    have hD : va_D A [(h0, axE ad k (fn_X0_rest k pl lo hi ba wy))] := hD
    generalize H1 = H at hP hS ⊢
    refine lv_goto (tgt := 252) hx hb dX0_obey_213 (by decide) ?_
    have e9 : fn_X0_obey k v1 pl lo hi ba wy = fn_X0_rest k pl lo hi ba wy := by unfold fn_X0_obey; rw [if_neg q_1, if_neg q_2, if_neg q_3, if_neg q_4, if_neg q_5, if_neg q_6, if_neg q_7, if_neg q_8, if_pos q_9]
    exact W.vret hx hb hr (fun t ht hW9 => ⟨⟨(), rfl, trivial, by rw [ht, e9]; exact hP, by rw [e9]; exact hD⟩, hS.F ht⟩) hS.2.2 dX0_obey_252
  by_cases q_10 : v1 = (10 : Int32)
  · refine lv_tableIn (off := 215) (tgt := 216) hx hb dX0_obey_1 (by rw [q_10]; decide) (by rw [q_10]; decide) (by rw [q_10]; rfl) (by decide) ?_
    refine lv_aload_n hx hb dX0_obey_216 rfl (lv_at hl 0 rfl) ?_
    have hFc := va_F1 hD hS hA (k := 0) rfl
    refine va_callv (va_runV (As := []) (rest := []) ⟨hx, hb, hml, hown, hts⟩ (ct_X0_grid l dC dI ad h0 s.heap.size k hk_k pl lo hi ba wy) (cwV 0 hts gX0_obey_X0_grid rfl rfl rfl (by decide +kernel) ⟨Nat.le_of_ble_eq_true rfl, Nat.le_of_ble_eq_true rfl⟩) ⟨axw_blind, va_recv hK hP (ci := 0) (q0 := 0) rfl rfl, fun U hU hW9 => axw_call hK hP hD hW hN hS hFc hU hW9⟩ rfl rfl hl.1 rfl (lv_room (Nat.le_of_ble_eq_true rfl)) dX0_obey_217 ⟨Nat.zero_le _, Nat.zero_le _⟩) hS (fun q _ h => hFc q h) hFc (fun _ t H1 locs ht hvm hw hB hz1 hk1 hS => ?_)
    obtain ⟨hP1, -⟩ := hB
    rw [ht] at hP1
    obtain ⟨hP, hD⟩ := va_J1 hP hD (k := 0) rfl hk1 hP1
    have hP : va_P (dC, dI) vwCl [(h0, axE ad k (fn_X0_grid k pl lo hi ba wy))] H1 := hP
    have hD : va_D A [(h0, axE ad k (fn_X0_grid k pl lo hi ba wy))] := hD
    generalize H1 = H at hP hS ⊢
    refine lv_goto (tgt := 252) hx hb dX0_obey_220 (by decide) ?_
    have e9 : fn_X0_obey k v1 pl lo hi ba wy = fn_X0_grid k pl lo hi ba wy := by unfold fn_X0_obey; rw [if_neg q_1, if_neg q_2, if_neg q_3, if_neg q_4, if_neg q_5, if_neg q_6, if_neg q_7, if_neg q_8, if_neg q_9, if_pos q_10]
    exact W.vret hx hb hr (fun t ht hW9 => ⟨⟨(), rfl, trivial, by rw [ht, e9]; exact hP, by rw [e9]; exact hD⟩, hS.F ht⟩) hS.2.2 dX0_obey_252
  by_cases q_11 : v1 = (11 : Int32)
  · refine lv_tableIn (off := 222) (tgt := 223) hx hb dX0_obey_1 (by rw [q_11]; decide) (by rw [q_11]; decide) (by rw [q_11]; rfl) (by decide) ?_
    refine lv_aload_n hx hb dX0_obey_223 rfl (lv_at hl 0 rfl) ?_
    have hFc := va_F1 hD hS hA (k := 0) rfl
    refine va_callv (va_runV (As := []) (rest := []) ⟨hx, hb, hml, hown, hts⟩ (ct_X0_swap l dC dI ad h0 s.heap.size k hk_k pl lo hi ba wy) (cwV 0 hts gX0_obey_X0_swap rfl rfl rfl (by decide +kernel) ⟨Nat.le_of_ble_eq_true rfl, Nat.le_of_ble_eq_true rfl⟩) ⟨axw_blind, va_recv hK hP (ci := 0) (q0 := 0) rfl rfl, fun U hU hW9 => axw_call hK hP hD hW hN hS hFc hU hW9⟩ rfl rfl hl.1 rfl (lv_room (Nat.le_of_ble_eq_true rfl)) dX0_obey_224 ⟨Nat.zero_le _, Nat.zero_le _⟩) hS (fun q _ h => hFc q h) hFc (fun _ t H1 locs ht hvm hw hB hz1 hk1 hS => ?_)
    obtain ⟨hP1, -⟩ := hB
    rw [ht] at hP1
    obtain ⟨hP, hD⟩ := va_J1 hP hD (k := 0) rfl hk1 hP1
    have hP : va_P (dC, dI) vwCl [(h0, axE ad k (fn_X0_swap k pl lo hi ba wy))] H1 := hP
    have hD : va_D A [(h0, axE ad k (fn_X0_swap k pl lo hi ba wy))] := hD
    generalize H1 = H at hP hS ⊢
    refine lv_goto (tgt := 252) hx hb dX0_obey_227 (by decide) ?_
    have e9 : fn_X0_obey k v1 pl lo hi ba wy = fn_X0_swap k pl lo hi ba wy := by unfold fn_X0_obey; rw [if_neg q_1, if_neg q_2, if_neg q_3, if_neg q_4, if_neg q_5, if_neg q_6, if_neg q_7, if_neg q_8, if_neg q_9, if_neg q_10, if_pos q_11]
    exact W.vret hx hb hr (fun t ht hW9 => ⟨⟨(), rfl, trivial, by rw [ht, e9]; exact hP, by rw [e9]; exact hD⟩, hS.F ht⟩) hS.2.2 dX0_obey_252
  by_cases q_12 : v1 = (12 : Int32)
  · refine lv_tableIn (off := 229) (tgt := 230) hx hb dX0_obey_1 (by rw [q_12]; decide) (by rw [q_12]; decide) (by rw [q_12]; rfl) (by decide) ?_
    refine lv_aload_n hx hb dX0_obey_230 rfl (lv_at hl 0 rfl) ?_
    refine lv_aload_n hx hb dX0_obey_231 rfl (lv_at hl 0 rfl) ?_
    refine va_get (D := (dC, dI)) (ci := 0) (v := .long lo) (C := RX0) (T := TX0) (N := 6) hx hb hts hin hown hK hP 0 rfl rfl 2 (by decide) (hts (.fieldLink RX0 23 "ServoDesk$Axis" "low" "J") (by decide +kernel)) (fun _ h9 => h9) rfl dX0_obey_232 ?_
    refine va_put (D := (dC, dI)) (ci := 0) (v := .long lo) (ty := .long) (C := RX0) (T := TX0) (N := 6) hx hb hts hin tyX0 tyX0_ok nmX0 hown hK hP hD hS 0 rfl rfl 1 (by decide) (hts (.fieldLink RX0 13 "ServoDesk$Axis" "place" "J") (by decide +kernel)) (fun _ h9 => h9) rfl (by decide +kernel) rfl rfl (Nat.le_of_ble_eq_true rfl) dX0_obey_235 (fun H locs hP hD hS => ?_)
    have hP : va_P (dC, dI) vwCl [(h0, .inr (0, [.ref (ad k), .long lo, .long lo, .long hi, .long ba, .long wy]))] H := hP
    have hD : va_D A [(h0, .inr (0, [.ref (ad k), .long lo, .long lo, .long hi, .long ba, .long wy]))] := hD
    refine lv_goto (tgt := 252) hx hb dX0_obey_238 (by decide) ?_
    have e9 : fn_X0_obey k v1 pl lo hi ba wy = (lo, lo, hi, ba, wy) := by unfold fn_X0_obey; rw [if_neg q_1, if_neg q_2, if_neg q_3, if_neg q_4, if_neg q_5, if_neg q_6, if_neg q_7, if_neg q_8, if_neg q_9, if_neg q_10, if_neg q_11, if_pos q_12]
    exact W.vret hx hb hr (fun t ht hW9 => ⟨⟨(), rfl, trivial, by rw [ht, e9]; exact hP, by rw [e9]; exact hD⟩, hS.F ht⟩) hS.2.2 dX0_obey_252
  by_cases q_13 : v1 = (13 : Int32)
  · refine lv_tableIn (off := 240) (tgt := 241) hx hb dX0_obey_1 (by rw [q_13]; decide) (by rw [q_13]; decide) (by rw [q_13]; rfl) (by decide) ?_
    refine lv_aload_n hx hb dX0_obey_241 rfl (lv_at hl 0 rfl) ?_
    refine lv_aload_n hx hb dX0_obey_242 rfl (lv_at hl 0 rfl) ?_
    refine va_get (D := (dC, dI)) (ci := 0) (v := .long hi) (C := RX0) (T := TX0) (N := 6) hx hb hts hin hown hK hP 0 rfl rfl 3 (by decide) (hts (.fieldLink RX0 29 "ServoDesk$Axis" "high" "J") (by decide +kernel)) (fun _ h9 => h9) rfl dX0_obey_243 ?_
    refine va_put (D := (dC, dI)) (ci := 0) (v := .long hi) (ty := .long) (C := RX0) (T := TX0) (N := 6) hx hb hts hin tyX0 tyX0_ok nmX0 hown hK hP hD hS 0 rfl rfl 1 (by decide) (hts (.fieldLink RX0 13 "ServoDesk$Axis" "place" "J") (by decide +kernel)) (fun _ h9 => h9) rfl (by decide +kernel) rfl rfl (Nat.le_of_ble_eq_true rfl) dX0_obey_246 (fun H locs hP hD hS => ?_)
    have hP : va_P (dC, dI) vwCl [(h0, .inr (0, [.ref (ad k), .long hi, .long lo, .long hi, .long ba, .long wy]))] H := hP
    have hD : va_D A [(h0, .inr (0, [.ref (ad k), .long hi, .long lo, .long hi, .long ba, .long wy]))] := hD
    refine lv_goto (tgt := 252) hx hb dX0_obey_249 (by decide) ?_
    have e9 : fn_X0_obey k v1 pl lo hi ba wy = (hi, lo, hi, ba, wy) := by unfold fn_X0_obey; rw [if_neg q_1, if_neg q_2, if_neg q_3, if_neg q_4, if_neg q_5, if_neg q_6, if_neg q_7, if_neg q_8, if_neg q_9, if_neg q_10, if_neg q_11, if_neg q_12, if_pos q_13]
    exact W.vret hx hb hr (fun t ht hW9 => ⟨⟨(), rfl, trivial, by rw [ht, e9]; exact hP, by rw [e9]; exact hD⟩, hS.F ht⟩) hS.2.2 dX0_obey_252
  refine lv_tableOut (tgt := 252) hx hb dX0_obey_1 (by have z1 := lv_neT q_1 (a := 1) (by decide); have z2 := lv_neT q_2 (a := 2) (by decide); have z3 := lv_neT q_3 (a := 3) (by decide); have z4 := lv_neT q_4 (a := 4) (by decide); have z5 := lv_neT q_5 (a := 5) (by decide); have z6 := lv_neT q_6 (a := 6) (by decide); have z7 := lv_neT q_7 (a := 7) (by decide); have z8 := lv_neT q_8 (a := 8) (by decide); have z9 := lv_neT q_9 (a := 9) (by decide); have z10 := lv_neT q_10 (a := 10) (by decide); have z11 := lv_neT q_11 (a := 11) (by decide); have z12 := lv_neT q_12 (a := 12) (by decide); have z13 := lv_neT q_13 (a := 13) (by decide); omega) (by decide) ?_
  have e9 : fn_X0_obey k v1 pl lo hi ba wy = (pl, lo, hi, ba, wy) := by unfold fn_X0_obey; rw [if_neg q_1, if_neg q_2, if_neg q_3, if_neg q_4, if_neg q_5, if_neg q_6, if_neg q_7, if_neg q_8, if_neg q_9, if_neg q_10, if_neg q_11, if_neg q_12, if_neg q_13]
  exact W.vret hx hb hr (fun t ht hW9 => ⟨⟨(), rfl, trivial, by rw [ht, e9]; exact hP, by rw [e9]; exact hD⟩, hS.F ht⟩) hS.2.2 dX0_obey_252
end
section
/-! Rows over arrays whose index is a natural number. -/
section ZM
variable {p : Program} {l : Launch} {e : Env} {R : Room} {s : State} {m : MethodId} {args : Array Value} {below : List Frame} {meth : Method} {c : Code} {H : Heap} {locs : List Loc} {cells slots : Nat} {Q : State → Prop}
variable {cc : ByteArray} {pc : Nat} {ls : Array Slot} {rest : List Value} {D : va_G} {cl : List vw_C} {A : Nat → Prop} {a : Nat} {tys : List (ClassId × FieldType)} {ws : va_W} {H0 : Heap}
theorem zn_top {x : Int32} {n : Nat} (h : x = nI n) (k : W p l e R s m args below meth c H locs cells slots Q (F0 m pc ls (.int (nI n) :: rest))) : W p l e R s m args below meth c H locs cells slots Q (F0 m pc ls (.int x :: rest)) := by
  rw [h]
  exact k
theorem zm_iald (hx : p.tables.exec = Jvm.exec) (hb : c.code = cc) (hK : va_K D cl tys s) (hP : va_P D cl ws H) (q0 t0 : Nat) {cA : ClassId} {n : Nat} {f : Nat → Int32} (ha : ws[q0]? = some (a, .inl (cA, n, .inl f))) (ht : tys[t0]? = some (cA, .int)) {i : Nat} (hi : i < n) (hn : n < 2 ^ 31) (hdg : decode cc pc = .ok (.iaload, 1)) (kk : W p l e R s m args below meth c H locs cells slots Q (F0 m (pc + 1) ls (.int (f i) :: rest))) : W p l e R s m args below meth c H locs cells slots Q (F0 m pc ls (.int (nI i) :: .ref a :: rest)) := va_iald hx hb hK hP q0 t0 ha ht (vp_in_nI hi hn) hdg (by rw [nI_clamp (Nat.lt_trans hi hn)]; exact kk)
theorem zm_lald (hx : p.tables.exec = Jvm.exec) (hb : c.code = cc) (hK : va_K D cl tys s) (hP : va_P D cl ws H) (q0 t0 : Nat) {cA : ClassId} {n : Nat} {f : Nat → Int64} (ha : ws[q0]? = some (a, .inl (cA, n, .inr (.inl f)))) (ht : tys[t0]? = some (cA, .long)) {i : Nat} (hi : i < n) (hn : n < 2 ^ 31) (hdg : decode cc pc = .ok (.laload, 1)) (kk : W p l e R s m args below meth c H locs cells slots Q (F0 m (pc + 1) ls (.long (f i) :: rest))) : W p l e R s m args below meth c H locs cells slots Q (F0 m pc ls (.int (nI i) :: .ref a :: rest)) := va_lald hx hb hK hP q0 t0 ha ht (vp_in_nI hi hn) hdg (by rw [nI_clamp (Nat.lt_trans hi hn)]; exact kk)
theorem zm_iast (hx : p.tables.exec = Jvm.exec) (hb : c.code = cc) (hK : va_K D cl tys s) (hP : va_P D cl ws H) (hD : va_D A ws) (hS : va_S A H0 H locs) (q0 t0 : Nat) {cA : ClassId} {n : Nat} {f : Nat → Int32} (ha : ws[q0]? = some (a, .inl (cA, n, .inl f))) (ht : tys[t0]? = some (cA, .int)) {i : Nat} {x : Int32} (hi : i < n) (hn : n < 2 ^ 31) (hdg : decode cc pc = .ok (.iastore, 1)) (kk : ∀ (H1 : Heap) (locs1 : List Loc), va_P D cl (ws.set q0 (a, .inl (cA, n, .inl (upd f i x)))) H1 → va_D A (ws.set q0 (a, .inl (cA, n, .inl (upd f i x)))) → va_S A H0 H1 locs1 → W p l e R s m args below meth c H1 locs1 cells slots Q (F0 m (pc + 1) ls rest)) : W p l e R s m args below meth c H locs cells slots Q (F0 m pc ls (.int x :: .int (nI i) :: .ref a :: rest)) := va_iast hx hb hK hP hD hS q0 t0 ha ht (vp_in_nI hi hn) hdg (by rw [nI_clamp (Nat.lt_trans hi hn)]; exact kk)
theorem zm_last (hx : p.tables.exec = Jvm.exec) (hb : c.code = cc) (hK : va_K D cl tys s) (hP : va_P D cl ws H) (hD : va_D A ws) (hS : va_S A H0 H locs) (q0 t0 : Nat) {cA : ClassId} {n : Nat} {f : Nat → Int64} (ha : ws[q0]? = some (a, .inl (cA, n, .inr (.inl f)))) (ht : tys[t0]? = some (cA, .long)) {i : Nat} {x : Int64} (hi : i < n) (hn : n < 2 ^ 31) (hdg : decode cc pc = .ok (.lastore, 1)) (kk : ∀ (H1 : Heap) (locs1 : List Loc), va_P D cl (ws.set q0 (a, .inl (cA, n, .inr (.inl (vp_updL f i x))))) H1 → va_D A (ws.set q0 (a, .inl (cA, n, .inr (.inl (vp_updL f i x))))) → va_S A H0 H1 locs1 → W p l e R s m args below meth c H1 locs1 cells slots Q (F0 m (pc + 1) ls rest)) : W p l e R s m args below meth c H locs cells slots Q (F0 m pc ls (.long x :: .int (nI i) :: .ref a :: rest)) := va_last hx hb hK hP hD hS q0 t0 ha ht (vp_in_nI hi hn) hdg (by rw [nI_clamp (Nat.lt_trans hi hn)]; exact kk)
end ZM
/-- the reference's three cells -/
abbrev mdW (m0 ka na : Nat) (cI cJ : ClassId) (n : Nat) (kf : Nat → Int32) (nf : Nat → Int64) : va_W := [(m0, .inr (3, [.ref ka, .ref na, .int (nI n)])), (ka, .inl (cI, 8, .inl kf)), (na, .inl (cJ, 40, .inr (.inl nf)))]
def mw (dC : Nat → ClassId) (dI : Nat → Nat → Nat) (m0 ka na : Nat) (cI cJ : ClassId) (sz n : Nat) (kf : Nat → Int32) (nf : Nat → Int64) (U : State) : Prop := U.heap.size = sz ∧ va_P (dC, dI) vwCl (mdW m0 ka na cI cJ n kf nf) U.heap ∧ va_K (dC, dI) vwCl [(cI, .int), (cJ, .long)] U ∧ va_D (fun _ => True) (mdW m0 ka na cI cJ n kf nf)
theorem mw_blind {dC : Nat → ClassId} {dI : Nat → Nat → Nat} {m0 ka na : Nat} {cI cJ : ClassId} {sz n : Nat} {kf : Nat → Int32} {nf : Nat → Int64} {av : List Value} : FrameBlind (va_Pc av (fun U => mw dC dI m0 ka na cI cJ sz n kf nf U)) := fun a U g mk q => ⟨q.1, q.2.1, q.2.2.1, va_K.moved (u := U) (U := U.calling g mk a) (Vm.Alike.refl U.vm) q.2.2.2.1, q.2.2.2.2⟩
theorem mw_call {dC : Nat → ClassId} {dI : Nat → Nat → Nat} {m0 ka na : Nat} {cI cJ : ClassId} {n : Nat} {kf : Nat → Int32} {nf : Nat → Int64} {s U : State} {A : Nat → Prop} {H : Heap} {av : List Value} (hK : va_K (dC, dI) vwCl [(cI, .int), (cJ, .long)] s) (hP : va_P (dC, dI) vwCl (mdW m0 ka na cI cJ n kf nf) H) (hD : va_D A (mdW m0 ka na cI cJ n kf nf)) (hU : U.heap = H) (hW9 : s.WarmedH U.vm) : va_Pc av (fun U => mw dC dI m0 ka na cI cJ H.size n kf nf U) av.toArray U :=
  ⟨rfl, by rw [hU], by rw [hU]; exact hP, va_K.moved hW9.alike hK, hD.weaken (fun _ _ _ _ => trivial)⟩
/-- an int that is no axis, or the number of one -/
def fn_X3_isAxis (n : Nat) (v1 : Int32) : Int32 := if v1 < 0 then (0 : Int32) else if nI n ≤ v1 then (0 : Int32) else (1 : Int32)
theorem isax {n : Nat} {v1 : Int32} (hn : n ≤ 8) (h : ¬ fn_X3_isAxis n v1 = 0) : ∃ a : Nat, a < n ∧ v1 = nI a := by
  unfold fn_X3_isAxis at h
  by_cases h1 : v1 < 0
  · rw [if_pos h1] at h
    exact absurd rfl h
  · rw [if_neg h1] at h
    by_cases h2 : nI n ≤ v1
    · rw [if_pos h2] at h
      exact absurd rfl h
    · obtain ⟨j, hj, rfl⟩ := nI_of h1
      refine ⟨j, ?_, rfl⟩
      rcases Nat.lt_or_ge j n with q | q
      · exact q
      · exact absurd (nI_le q hj) h2
theorem isax_in {n a : Nat} (hn : n ≤ 8) (h : a < n) : fn_X3_isAxis n (nI a) = 1 := by
  unfold fn_X3_isAxis
  rw [if_neg (nI_pos (by omega)), if_neg (nI_ge h (by omega))]
theorem what_of {v : Int32} (h1 : ¬ v < 0) (h2 : ¬ 4 < v) : ∃ w : Nat, w < 5 ∧ v = nI w := by
  obtain ⟨j, hj, rfl⟩ := nI_of h1
  refine ⟨j, ?_, rfl⟩
  rcases Nat.lt_or_ge j 5 with q | q
  · exact q
  · exact absurd (nI_lt (a := 4) (b := j) (by omega) hj) h2
end
section
set_option maxHeartbeats 4000000 in
set_option maxRecDepth 100000 in
theorem ct_X3_isAxis (l : Launch) (dC : Nat → ClassId) (dI : Nat → Nat → Nat) (m0 ka na : Nat) (cI cJ : ClassId) (sz n : Nat) (kf : Nat → Int32) (nf : Nat → Int64) (v1 : Int32) : Met l yX3_isAxis wsX3_isAxis ({ frames := 0, cells := 0, slots := 0, locals := 0 } : Room) (va_Pc [.ref m0, .int v1] (fun U => mw dC dI m0 ka na cI cJ sz n kf nf U)) (vp_Si (fun r => r = fn_X3_isAxis n v1)) 0 0 (fun _ => False) := by
  refine Met.ofW (cc := cX3_isAxis) (maxL := 2) (ret := (some .boolean)) (by decide) rfl ?_
  intro p e s m args below meth c s₁ B hml hv
  obtain ⟨rfl, hsz, hP, hK, hD0⟩ := hv
  have hx := B.exec
  have hb := B.bytes
  have hr := B.returns
  have hlocks := B.notSynchronized
  have hts := atoms_spec (ws := wsX3_isAxis) B.pre
  have hown : s.vm.findClass RX3 = some m.cls := findClass_of_methodNamed B.named
  have hin : ∀ w ∈ u_ws RX3 TX3 3, w ∈ wsX3_isAxis := fun _ h => List.mem_cons_of_mem _ (List.mem_append_right _ h)
  subst hsz
  have hD := hD0.self (sz := s.heap.size)
  generalize hAe : va_A (mdW m0 ka na cI cJ n kf nf) s.heap.size = A at hD ⊢
  have hA : ∀ q : Nat, s.heap.size ≤ q → A q := fun q h => by rw [← hAe]; exact Or.inr h
  have hS : va_S A s.heap s.heap [] := va_S.rf
  have hP : va_P (dC, dI) vwCl [(m0, .inr (3, [.ref ka, .ref na, .int (nI n)])), (ka, .inl (cI, 8, .inl kf)), (na, .inl (cJ, 40, .inr (.inl nf)))] s.heap := hP
  have hD : va_D A [(m0, .inr (3, [.ref ka, .ref na, .int (nI n)])), (ka, .inl (cI, 8, .inl kf)), (na, .inl (cJ, 40, .inr (.inl nf)))] := hD
  have hl := lv_entry ([.ref m0, .int v1]) (n := 2) (Nat.le_of_ble_eq_true rfl)
  rw [lg_entry_eq]
  generalize (lg_sl ([.ref m0, .int v1]) ++ List.replicate (2 - (lg_sl ([.ref m0, .int v1])).length) Slot.unset).toArray = ls at hl ⊢
  have hl : lv_has ls 2 [(0, .ref m0), (1, .int v1)] := hl
  refine lv_iload_n hx hb dX3_isAxis_0 rfl (lv_at hl 1 rfl) ?_
  refine lv_if_lt (tgt := 16) hx hb dX3_isAxis_1 (by decide) (fun c_1 => ?_) (fun c_1 => ?_)
  · refine lv_iconst (v := (0 : Int32)) hx hb dX3_isAxis_16 (by decide) ?_
    have e9 : fn_X3_isAxis n v1 = (0 : Int32) := by unfold fn_X3_isAxis; rw [if_pos c_1]
    exact W.zret (v := (0 : Int32)) (ty := .boolean) hx hb hr (by decide) (fun t ht hW9 => ⟨_, rfl, by rw [e9], ht⟩) (fun _ h => by cases h) dX3_isAxis_17
  · refine lv_iload_n hx hb dX3_isAxis_4 rfl (lv_at hl 1 rfl) ?_
    refine lv_aload_n hx hb dX3_isAxis_5 rfl (lv_at hl 0 rfl) ?_
    refine va_get (D := (dC, dI)) (ci := 3) (v := .int (nI n)) (C := RX3) (T := TX3) (N := 3) hx hb hts hin hown hK hP 0 rfl rfl 2 (by decide) (hts (.fieldLink RX3 17 "ServoDeskModel" "many" "I") (by decide +kernel)) (fun _ h9 => h9) rfl dX3_isAxis_6 ?_
    refine lv_icmp_ge (tgt := 16) hx hb dX3_isAxis_9 (by decide) (fun c_2 => ?_) (fun c_2 => ?_)
    · refine lv_iconst (v := (0 : Int32)) hx hb dX3_isAxis_16 (by decide) ?_
      have e9 : fn_X3_isAxis n v1 = (0 : Int32) := by unfold fn_X3_isAxis; rw [if_neg c_1, if_pos c_2]
      exact W.zret (v := (0 : Int32)) (ty := .boolean) hx hb hr (by decide) (fun t ht hW9 => ⟨_, rfl, by rw [e9], ht⟩) (fun _ h => by cases h) dX3_isAxis_17
    · refine lv_iconst (v := (1 : Int32)) hx hb dX3_isAxis_12 (by decide) ?_
      refine lv_goto (tgt := 17) hx hb dX3_isAxis_13 (by decide) ?_
      have e9 : fn_X3_isAxis n v1 = (1 : Int32) := by unfold fn_X3_isAxis; rw [if_neg c_1, if_neg c_2]
      exact W.zret (v := (1 : Int32)) (ty := .boolean) hx hb hr (by decide) (fun t ht hW9 => ⟨_, rfl, by rw [e9], ht⟩) (fun _ h => by cases h) dX3_isAxis_17
def fn_X3_does (v1 : Int32) (a : Nat) (v3 : Int32) (nf : Nat → Int64) : Nat → Int64 :=
  if v3 = (1 : Int32) then
    vp_updL nf ((5 * a) + 0) (fn_X3_greater v1 (nf ((5 * a) + 1)) (fn_X3_lesser v1 (nf ((5 * a) + 2)) (nf ((5 * a) + 0))))
  else
    if v3 = (2 : Int32) then
      vp_updL nf ((5 * a) + 0) (fn_X3_sized v1 (nf ((5 * a) + 0)))
    else
      if v3 = (3 : Int32) then
        vp_updL nf ((5 * a) + 0) (fn_X3_stepped v1 (nf ((5 * a) + 0)) (0 : Int32))
      else
        if v3 = (4 : Int32) then
          vp_updL nf ((5 * a) + 0) (fn_X3_stepped v1 (nf ((5 * a) + 0)) (1 : Int32))
        else
          if v3 = (5 : Int32) then
            vp_updL nf ((5 * a) + 0) (fn_X3_stepped v1 (nf ((5 * a) + 0)) (2 : Int32))
          else
            if v3 = (6 : Int32) then
              vp_updL nf ((5 * a) + 4) (fn_X3_wayOf v1 (nf ((5 * a) + 0)))
            else
              if v3 = (7 : Int32) then
                vp_updL nf ((5 * a) + 0) (fn_X3_turned v1 (nf ((5 * a) + 0)) (nf ((5 * a) + 4)))
              else
                if v3 = (8 : Int32) then
                  vp_updL (vp_updL nf ((5 * a) + 2) (fn_X3_greater v1 (nf ((5 * a) + 2)) (nf ((5 * a) + 0)))) ((5 * a) + 1) (fn_X3_lesser v1 (nf ((5 * a) + 1)) (nf ((5 * a) + 0)))
                else
                  if v3 = (9 : Int32) then
                    if (fn_X3_sized v1 (nf ((5 * a) + 3))) < (fn_X3_sized v1 (nf ((5 * a) + 0))) then
                      nf
                    else
                      if (fn_X3_isFloating v1) = 0 then
                        vp_updL nf ((5 * a) + 0) (0 : Int64)
                      else
                        if (0 : Int64) ≤ (nf ((5 * a) + 0)) then
                          vp_updL nf ((5 * a) + 0) (fn_X3_signed v1 (0 : Int64) (0 : Int32))
                        else
                          vp_updL nf ((5 * a) + 0) (fn_X3_signed v1 (0 : Int64) (1 : Int32))
                  else
                    if v3 = (10 : Int32) then
                      vp_updL (vp_updL nf ((5 * a) + 1) (fn_X3_stepped v1 (nf ((5 * a) + 0)) (0 : Int32))) ((5 * a) + 2) (fn_X3_stepped v1 (nf ((5 * a) + 0)) (1 : Int32))
                    else
                      if v3 = (11 : Int32) then
                        vp_updL (vp_updL nf ((5 * a) + 1) (nf ((5 * a) + 2))) ((5 * a) + 2) (nf ((5 * a) + 1))
                      else
                        if v3 = (12 : Int32) then
                          vp_updL nf ((5 * a) + 0) (nf ((5 * a) + 1))
                        else
                          vp_updL nf ((5 * a) + 0) (nf ((5 * a) + 2))
set_option maxHeartbeats 4000000 in
set_option maxRecDepth 100000 in
theorem ct_X3_does (l : Launch) (dC : Nat → ClassId) (dI : Nat → Nat → Nat) (m0 ka na : Nat) (cI cJ : ClassId) (sz n : Nat) (kf : Nat → Int32) (nf : Nat → Int64) (v1 : Int32) (a : Nat) (v3 : Int32) (ha : a < 8) : Met l yX3_does wsX3_does ({ frames := 4, cells := 0, slots := 0, locals := 92 } : Room) (va_Pc [.ref m0, .int v1, .int (nI (5 * a)), .int v3] (fun U => mw dC dI m0 ka na cI cJ sz n kf nf U)) (va_Qv (fun _ : Unit => True) (fun _ t => va_P (dC, dI) vwCl (mdW m0 ka na cI cJ n kf (fn_X3_does v1 a v3 nf)) t.heap ∧ va_D (va_A (mdW m0 ka na cI cJ n kf nf) sz) (mdW m0 ka na cI cJ n kf (fn_X3_does v1 a v3 nf))) (va_A (mdW m0 ka na cI cJ n kf nf) sz)) 0 0 (va_A (mdW m0 ka na cI cJ n kf nf) sz) := by
  refine Met.ofW (cc := cX3_does) (maxL := 10) (ret := none) (by decide) rfl ?_
  intro p e s m args below meth c s₁ B hml hv
  obtain ⟨rfl, hsz, hP, hK, hD0⟩ := hv
  have hx := B.exec
  have hb := B.bytes
  have hr := B.returns
  have hlocks := B.notSynchronized
  have hts := atoms_spec (ws := wsX3_does) B.pre
  have hown : s.vm.findClass RX3 = some m.cls := findClass_of_methodNamed B.named
  have hin : ∀ w ∈ u_ws RX3 TX3 3, w ∈ wsX3_does := fun _ h => List.mem_cons_of_mem _ (List.mem_append_right _ h)
  subst hsz
  have hD := hD0.self (sz := s.heap.size)
  generalize hAe : va_A (mdW m0 ka na cI cJ n kf nf) s.heap.size = A at hD ⊢
  have hA : ∀ q : Nat, s.heap.size ≤ q → A q := fun q h => by rw [← hAe]; exact Or.inr h
  have hS : va_S A s.heap s.heap [] := va_S.rf
  have hP : va_P (dC, dI) vwCl [(m0, .inr (3, [.ref ka, .ref na, .int (nI n)])), (ka, .inl (cI, 8, .inl kf)), (na, .inl (cJ, 40, .inr (.inl nf)))] s.heap := hP
  have hD : va_D A [(m0, .inr (3, [.ref ka, .ref na, .int (nI n)])), (ka, .inl (cI, 8, .inl kf)), (na, .inl (cJ, 40, .inr (.inl nf)))] := hD
  have hl := lv_entry ([.ref m0, .int v1, .int (nI (5 * a)), .int v3]) (n := 10) (Nat.le_of_ble_eq_true rfl)
  rw [lg_entry_eq]
  generalize (lg_sl ([.ref m0, .int v1, .int (nI (5 * a)), .int v3]) ++ List.replicate (10 - (lg_sl ([.ref m0, .int v1, .int (nI (5 * a)), .int v3])).length) Slot.unset).toArray = ls at hl ⊢
  have hl : lv_has ls 10 [(0, .ref m0), (1, .int v1), (2, .int (nI (5 * a))), (3, .int v3)] := hl
  refine lv_aload_n hx hb dX3_does_0 rfl (lv_at hl 0 rfl) ?_
  refine va_get (D := (dC, dI)) (ci := 3) (v := .ref na) (C := RX3) (T := TX3) (N := 3) hx hb hts hin hown hK hP 0 rfl rfl 1 (by decide) (hts (.fieldLink RX3 13 "ServoDeskModel" "number" "[J") (by decide +kernel)) (fun _ h9 => h9) rfl dX3_does_1 ?_
  refine lv_iload_n hx hb dX3_does_4 rfl (lv_at hl 2 rfl) ?_
  refine lv_iconst (v := (0 : Int32)) hx hb dX3_does_5 (by decide) ?_
  refine lv_iadd hx hb dX3_does_6 ?_
  refine zn_top (n := (5 * a) + 0) (nI_add (5 * a) 0) ?_
  refine zm_lald hx hb hK hP 2 1 rfl rfl (i := (5 * a) + 0) (by omega) (by decide) dX3_does_7 ?_
  refine lv_lstore (lv' := [(4, .long (nf ((5 * a) + 0))), (0, .ref m0), (1, .int v1), (2, .int (nI (5 * a))), (3, .int v3)]) hx hb dX3_does_8 hl (by decide) rfl (fun ls hl => ?_)
  refine lv_aload_n hx hb dX3_does_10 rfl (lv_at hl 1 rfl) ?_
  refine va_get (D := (dC, dI)) (ci := 3) (v := .ref na) (C := RX3) (T := TX3) (N := 3) hx hb hts hin hown hK hP 0 rfl rfl 1 (by decide) (hts (.fieldLink RX3 13 "ServoDeskModel" "number" "[J") (by decide +kernel)) (fun _ h9 => h9) rfl dX3_does_11 ?_
  refine lv_iload_n hx hb dX3_does_14 rfl (lv_at hl 3 rfl) ?_
  refine lv_iconst (v := (1 : Int32)) hx hb dX3_does_15 (by decide) ?_
  refine lv_iadd hx hb dX3_does_16 ?_
  refine zn_top (n := (5 * a) + 1) (nI_add (5 * a) 1) ?_
  refine zm_lald hx hb hK hP 2 1 rfl rfl (i := (5 * a) + 1) (by omega) (by decide) dX3_does_17 ?_
  refine lv_lstore (lv' := [(6, .long (nf ((5 * a) + 1))), (4, .long (nf ((5 * a) + 0))), (0, .ref m0), (1, .int v1), (2, .int (nI (5 * a))), (3, .int v3)]) hx hb dX3_does_18 hl (by decide) rfl (fun ls hl => ?_)
  refine lv_aload_n hx hb dX3_does_20 rfl (lv_at hl 2 rfl) ?_
  refine va_get (D := (dC, dI)) (ci := 3) (v := .ref na) (C := RX3) (T := TX3) (N := 3) hx hb hts hin hown hK hP 0 rfl rfl 1 (by decide) (hts (.fieldLink RX3 13 "ServoDeskModel" "number" "[J") (by decide +kernel)) (fun _ h9 => h9) rfl dX3_does_21 ?_
  refine lv_iload_n hx hb dX3_does_24 rfl (lv_at hl 4 rfl) ?_
  refine lv_iconst (v := (2 : Int32)) hx hb dX3_does_25 (by decide) ?_
  refine lv_iadd hx hb dX3_does_26 ?_
  refine zn_top (n := (5 * a) + 2) (nI_add (5 * a) 2) ?_
  refine zm_lald hx hb hK hP 2 1 rfl rfl (i := (5 * a) + 2) (by omega) (by decide) dX3_does_27 ?_
  refine lv_lstore (lv' := [(8, .long (nf ((5 * a) + 2))), (6, .long (nf ((5 * a) + 1))), (4, .long (nf ((5 * a) + 0))), (0, .ref m0), (1, .int v1), (2, .int (nI (5 * a))), (3, .int v3)]) hx hb dX3_does_28 hl (by decide) rfl (fun ls hl => ?_)
  refine lv_iload_n hx hb dX3_does_30 rfl (lv_at hl 6 rfl) ?_
  by_cases q_1 : v3 = (1 : Int32)
  · refine lv_tableIn (off := 61) (tgt := 92) hx hb dX3_does_31 (by rw [q_1]; decide) (by rw [q_1]; decide) (by rw [q_1]; rfl) (by decide) ?_
    refine lv_aload_n hx hb dX3_does_92 rfl (lv_at hl 3 rfl) ?_
    refine va_get (D := (dC, dI)) (ci := 3) (v := .ref na) (C := RX3) (T := TX3) (N := 3) hx hb hts hin hown hK hP 0 rfl rfl 1 (by decide) (hts (.fieldLink RX3 13 "ServoDeskModel" "number" "[J") (by decide +kernel)) (fun _ h9 => h9) rfl dX3_does_93 ?_
    refine lv_iload_n hx hb dX3_does_96 rfl (lv_at hl 5 rfl) ?_
    refine lv_iconst (v := (0 : Int32)) hx hb dX3_does_97 (by decide) ?_
    refine lv_iadd hx hb dX3_does_98 ?_
    refine zn_top (n := (5 * a) + 0) (nI_add (5 * a) 0) ?_
    refine lv_iload_n hx hb dX3_does_99 rfl (lv_at hl 4 rfl) ?_
    refine lv_lload hx hb dX3_does_100 (lv_at hl 1 rfl) ?_
    refine lv_iload_n hx hb dX3_does_102 rfl (lv_at hl 4 rfl) ?_
    refine lv_lload hx hb dX3_does_103 (lv_at hl 0 rfl) ?_
    refine lv_lload hx hb dX3_does_105 (lv_at hl 2 rfl) ?_
    refine vp_callSl (W.runS (As := [.int v1, .long (nf ((5 * a) + 2)), .long (nf ((5 * a) + 0))]) (rest := [.long (nf ((5 * a) + 1)), .int v1, .int (nI ((5 * a) + 0)), .ref na]) ⟨hx, hb, hml, hown, hts⟩ (ct_X3_lesser l v1 (nf ((5 * a) + 2)) (nf ((5 * a) + 0))) (va_cwS 3 hts gX3_does_X3_lesser rfl rfl rfl (by decide +kernel) ⟨Nat.le_of_ble_eq_true rfl, Nat.le_of_ble_eq_true rfl⟩) ⟨(fun a U g mk q => ⟨q.1, trivial⟩), fun U hU hW9 => ⟨rfl, trivial⟩⟩ rfl rfl hl.1 rfl (lv_room (Nat.le_of_ble_eq_true rfl)) dX3_does_107 ⟨Nat.zero_le _, Nat.zero_le _⟩) (fun r er => ?_)
    subst er
    refine vp_callSl (W.runS (As := [.int v1, .long (nf ((5 * a) + 1)), .long (fn_X3_lesser v1 (nf ((5 * a) + 2)) (nf ((5 * a) + 0)))]) (rest := [.int (nI ((5 * a) + 0)), .ref na]) ⟨hx, hb, hml, hown, hts⟩ (ct_X3_greater l v1 (nf ((5 * a) + 1)) (fn_X3_lesser v1 (nf ((5 * a) + 2)) (nf ((5 * a) + 0)))) (va_cwS 3 hts gX3_does_X3_greater rfl rfl rfl (by decide +kernel) ⟨Nat.le_of_ble_eq_true rfl, Nat.le_of_ble_eq_true rfl⟩) ⟨(fun a U g mk q => ⟨q.1, trivial⟩), fun U hU hW9 => ⟨rfl, trivial⟩⟩ rfl rfl hl.1 rfl (lv_room (Nat.le_of_ble_eq_true rfl)) dX3_does_110 ⟨Nat.zero_le _, Nat.zero_le _⟩) (fun r er => ?_)
    subst er
    refine zm_last hx hb hK hP hD hS 2 1 rfl rfl (i := (5 * a) + 0) (x := fn_X3_greater v1 (nf ((5 * a) + 1)) (fn_X3_lesser v1 (nf ((5 * a) + 2)) (nf ((5 * a) + 0)))) (by omega) (by decide) dX3_does_113 (fun H locs hP hD hS => ?_)
    have hP : va_P (dC, dI) vwCl [(m0, .inr (3, [.ref ka, .ref na, .int (nI n)])), (ka, .inl (cI, 8, .inl kf)), (na, .inl (cJ, 40, .inr (.inl (vp_updL nf ((5 * a) + 0) (fn_X3_greater v1 (nf ((5 * a) + 1)) (fn_X3_lesser v1 (nf ((5 * a) + 2)) (nf ((5 * a) + 0))))))))] H := hP
    have hD : va_D A [(m0, .inr (3, [.ref ka, .ref na, .int (nI n)])), (ka, .inl (cI, 8, .inl kf)), (na, .inl (cJ, 40, .inr (.inl (vp_updL nf ((5 * a) + 0) (fn_X3_greater v1 (nf ((5 * a) + 1)) (fn_X3_lesser v1 (nf ((5 * a) + 2)) (nf ((5 * a) + 0))))))))] := hD
    refine lv_goto (tgt := 405) hx hb dX3_does_114 (by decide) ?_
    have e9 : fn_X3_does v1 a v3 nf = vp_updL nf ((5 * a) + 0) (fn_X3_greater v1 (nf ((5 * a) + 1)) (fn_X3_lesser v1 (nf ((5 * a) + 2)) (nf ((5 * a) + 0)))) := by unfold fn_X3_does; rw [if_pos q_1]
    exact W.vret hx hb hr (fun t ht hW9 => ⟨⟨(), rfl, trivial, by rw [ht, e9]; exact hP, by rw [e9]; exact hD⟩, hS.F ht⟩) hS.2.2 dX3_does_405
  by_cases q_2 : v3 = (2 : Int32)
  · refine lv_tableIn (off := 86) (tgt := 117) hx hb dX3_does_31 (by rw [q_2]; decide) (by rw [q_2]; decide) (by rw [q_2]; rfl) (by decide) ?_
    refine lv_aload_n hx hb dX3_does_117 rfl (lv_at hl 3 rfl) ?_
    refine va_get (D := (dC, dI)) (ci := 3) (v := .ref na) (C := RX3) (T := TX3) (N := 3) hx hb hts hin hown hK hP 0 rfl rfl 1 (by decide) (hts (.fieldLink RX3 13 "ServoDeskModel" "number" "[J") (by decide +kernel)) (fun _ h9 => h9) rfl dX3_does_118 ?_
    refine lv_iload_n hx hb dX3_does_121 rfl (lv_at hl 5 rfl) ?_
    refine lv_iconst (v := (0 : Int32)) hx hb dX3_does_122 (by decide) ?_
    refine lv_iadd hx hb dX3_does_123 ?_
    refine zn_top (n := (5 * a) + 0) (nI_add (5 * a) 0) ?_
    refine lv_iload_n hx hb dX3_does_124 rfl (lv_at hl 4 rfl) ?_
    refine lv_lload hx hb dX3_does_125 (lv_at hl 2 rfl) ?_
    refine vp_callSl (W.runS (As := [.int v1, .long (nf ((5 * a) + 0))]) (rest := [.int (nI ((5 * a) + 0)), .ref na]) ⟨hx, hb, hml, hown, hts⟩ (ct_X3_sized l v1 (nf ((5 * a) + 0))) (va_cwS 2 hts gX3_does_X3_sized rfl rfl rfl (by decide +kernel) ⟨Nat.le_of_ble_eq_true rfl, Nat.le_of_ble_eq_true rfl⟩) ⟨(fun a U g mk q => ⟨q.1, trivial⟩), fun U hU hW9 => ⟨rfl, trivial⟩⟩ rfl rfl hl.1 rfl (lv_room (Nat.le_of_ble_eq_true rfl)) dX3_does_127 ⟨Nat.zero_le _, Nat.zero_le _⟩) (fun r er => ?_)
    subst er
    refine zm_last hx hb hK hP hD hS 2 1 rfl rfl (i := (5 * a) + 0) (x := fn_X3_sized v1 (nf ((5 * a) + 0))) (by omega) (by decide) dX3_does_130 (fun H locs hP hD hS => ?_)
    have hP : va_P (dC, dI) vwCl [(m0, .inr (3, [.ref ka, .ref na, .int (nI n)])), (ka, .inl (cI, 8, .inl kf)), (na, .inl (cJ, 40, .inr (.inl (vp_updL nf ((5 * a) + 0) (fn_X3_sized v1 (nf ((5 * a) + 0)))))))] H := hP
    have hD : va_D A [(m0, .inr (3, [.ref ka, .ref na, .int (nI n)])), (ka, .inl (cI, 8, .inl kf)), (na, .inl (cJ, 40, .inr (.inl (vp_updL nf ((5 * a) + 0) (fn_X3_sized v1 (nf ((5 * a) + 0)))))))] := hD
    refine lv_goto (tgt := 405) hx hb dX3_does_131 (by decide) ?_
    have e9 : fn_X3_does v1 a v3 nf = vp_updL nf ((5 * a) + 0) (fn_X3_sized v1 (nf ((5 * a) + 0))) := by unfold fn_X3_does; rw [if_neg q_1, if_pos q_2]
    exact W.vret hx hb hr (fun t ht hW9 => ⟨⟨(), rfl, trivial, by rw [ht, e9]; exact hP, by rw [e9]; exact hD⟩, hS.F ht⟩) hS.2.2 dX3_does_405
  by_cases q_3 : v3 = (3 : Int32)
  · refine lv_tableIn (off := 103) (tgt := 134) hx hb dX3_does_31 (by rw [q_3]; decide) (by rw [q_3]; decide) (by rw [q_3]; rfl) (by decide) ?_
    refine lv_aload_n hx hb dX3_does_134 rfl (lv_at hl 3 rfl) ?_
    refine va_get (D := (dC, dI)) (ci := 3) (v := .ref na) (C := RX3) (T := TX3) (N := 3) hx hb hts hin hown hK hP 0 rfl rfl 1 (by decide) (hts (.fieldLink RX3 13 "ServoDeskModel" "number" "[J") (by decide +kernel)) (fun _ h9 => h9) rfl dX3_does_135 ?_
    refine lv_iload_n hx hb dX3_does_138 rfl (lv_at hl 5 rfl) ?_
    refine lv_iconst (v := (0 : Int32)) hx hb dX3_does_139 (by decide) ?_
    refine lv_iadd hx hb dX3_does_140 ?_
    refine zn_top (n := (5 * a) + 0) (nI_add (5 * a) 0) ?_
    refine lv_iload_n hx hb dX3_does_141 rfl (lv_at hl 4 rfl) ?_
    refine lv_lload hx hb dX3_does_142 (lv_at hl 2 rfl) ?_
    refine lv_iconst (v := (0 : Int32)) hx hb dX3_does_144 (by decide) ?_
    refine vp_callSl (W.runS (As := [.int v1, .long (nf ((5 * a) + 0)), .int (0 : Int32)]) (rest := [.int (nI ((5 * a) + 0)), .ref na]) ⟨hx, hb, hml, hown, hts⟩ (ct_X3_stepped l v1 (nf ((5 * a) + 0)) (0 : Int32)) (va_cwS 3 hts gX3_does_X3_stepped rfl rfl rfl (by decide +kernel) ⟨Nat.le_of_ble_eq_true rfl, Nat.le_of_ble_eq_true rfl⟩) ⟨(fun a U g mk q => ⟨q.1, trivial⟩), fun U hU hW9 => ⟨rfl, trivial⟩⟩ rfl rfl hl.1 rfl (lv_room (Nat.le_of_ble_eq_true rfl)) dX3_does_145 ⟨Nat.zero_le _, Nat.zero_le _⟩) (fun r er => ?_)
    subst er
    refine zm_last hx hb hK hP hD hS 2 1 rfl rfl (i := (5 * a) + 0) (x := fn_X3_stepped v1 (nf ((5 * a) + 0)) (0 : Int32)) (by omega) (by decide) dX3_does_148 (fun H locs hP hD hS => ?_)
    have hP : va_P (dC, dI) vwCl [(m0, .inr (3, [.ref ka, .ref na, .int (nI n)])), (ka, .inl (cI, 8, .inl kf)), (na, .inl (cJ, 40, .inr (.inl (vp_updL nf ((5 * a) + 0) (fn_X3_stepped v1 (nf ((5 * a) + 0)) (0 : Int32))))))] H := hP
    have hD : va_D A [(m0, .inr (3, [.ref ka, .ref na, .int (nI n)])), (ka, .inl (cI, 8, .inl kf)), (na, .inl (cJ, 40, .inr (.inl (vp_updL nf ((5 * a) + 0) (fn_X3_stepped v1 (nf ((5 * a) + 0)) (0 : Int32))))))] := hD
    refine lv_goto (tgt := 405) hx hb dX3_does_149 (by decide) ?_
    have e9 : fn_X3_does v1 a v3 nf = vp_updL nf ((5 * a) + 0) (fn_X3_stepped v1 (nf ((5 * a) + 0)) (0 : Int32)) := by unfold fn_X3_does; rw [if_neg q_1, if_neg q_2, if_pos q_3]
    exact W.vret hx hb hr (fun t ht hW9 => ⟨⟨(), rfl, trivial, by rw [ht, e9]; exact hP, by rw [e9]; exact hD⟩, hS.F ht⟩) hS.2.2 dX3_does_405
  by_cases q_4 : v3 = (4 : Int32)
  · refine lv_tableIn (off := 121) (tgt := 152) hx hb dX3_does_31 (by rw [q_4]; decide) (by rw [q_4]; decide) (by rw [q_4]; rfl) (by decide) ?_
    refine lv_aload_n hx hb dX3_does_152 rfl (lv_at hl 3 rfl) ?_
    refine va_get (D := (dC, dI)) (ci := 3) (v := .ref na) (C := RX3) (T := TX3) (N := 3) hx hb hts hin hown hK hP 0 rfl rfl 1 (by decide) (hts (.fieldLink RX3 13 "ServoDeskModel" "number" "[J") (by decide +kernel)) (fun _ h9 => h9) rfl dX3_does_153 ?_
    refine lv_iload_n hx hb dX3_does_156 rfl (lv_at hl 5 rfl) ?_
    refine lv_iconst (v := (0 : Int32)) hx hb dX3_does_157 (by decide) ?_
    refine lv_iadd hx hb dX3_does_158 ?_
    refine zn_top (n := (5 * a) + 0) (nI_add (5 * a) 0) ?_
    refine lv_iload_n hx hb dX3_does_159 rfl (lv_at hl 4 rfl) ?_
    refine lv_lload hx hb dX3_does_160 (lv_at hl 2 rfl) ?_
    refine lv_iconst (v := (1 : Int32)) hx hb dX3_does_162 (by decide) ?_
    refine vp_callSl (W.runS (As := [.int v1, .long (nf ((5 * a) + 0)), .int (1 : Int32)]) (rest := [.int (nI ((5 * a) + 0)), .ref na]) ⟨hx, hb, hml, hown, hts⟩ (ct_X3_stepped l v1 (nf ((5 * a) + 0)) (1 : Int32)) (va_cwS 3 hts gX3_does_X3_stepped rfl rfl rfl (by decide +kernel) ⟨Nat.le_of_ble_eq_true rfl, Nat.le_of_ble_eq_true rfl⟩) ⟨(fun a U g mk q => ⟨q.1, trivial⟩), fun U hU hW9 => ⟨rfl, trivial⟩⟩ rfl rfl hl.1 rfl (lv_room (Nat.le_of_ble_eq_true rfl)) dX3_does_163 ⟨Nat.zero_le _, Nat.zero_le _⟩) (fun r er => ?_)
    subst er
    refine zm_last hx hb hK hP hD hS 2 1 rfl rfl (i := (5 * a) + 0) (x := fn_X3_stepped v1 (nf ((5 * a) + 0)) (1 : Int32)) (by omega) (by decide) dX3_does_166 (fun H locs hP hD hS => ?_)
    have hP : va_P (dC, dI) vwCl [(m0, .inr (3, [.ref ka, .ref na, .int (nI n)])), (ka, .inl (cI, 8, .inl kf)), (na, .inl (cJ, 40, .inr (.inl (vp_updL nf ((5 * a) + 0) (fn_X3_stepped v1 (nf ((5 * a) + 0)) (1 : Int32))))))] H := hP
    have hD : va_D A [(m0, .inr (3, [.ref ka, .ref na, .int (nI n)])), (ka, .inl (cI, 8, .inl kf)), (na, .inl (cJ, 40, .inr (.inl (vp_updL nf ((5 * a) + 0) (fn_X3_stepped v1 (nf ((5 * a) + 0)) (1 : Int32))))))] := hD
    refine lv_goto (tgt := 405) hx hb dX3_does_167 (by decide) ?_
    have e9 : fn_X3_does v1 a v3 nf = vp_updL nf ((5 * a) + 0) (fn_X3_stepped v1 (nf ((5 * a) + 0)) (1 : Int32)) := by unfold fn_X3_does; rw [if_neg q_1, if_neg q_2, if_neg q_3, if_pos q_4]
    exact W.vret hx hb hr (fun t ht hW9 => ⟨⟨(), rfl, trivial, by rw [ht, e9]; exact hP, by rw [e9]; exact hD⟩, hS.F ht⟩) hS.2.2 dX3_does_405
  by_cases q_5 : v3 = (5 : Int32)
  · refine lv_tableIn (off := 139) (tgt := 170) hx hb dX3_does_31 (by rw [q_5]; decide) (by rw [q_5]; decide) (by rw [q_5]; rfl) (by decide) ?_
    refine lv_aload_n hx hb dX3_does_170 rfl (lv_at hl 3 rfl) ?_
    refine va_get (D := (dC, dI)) (ci := 3) (v := .ref na) (C := RX3) (T := TX3) (N := 3) hx hb hts hin hown hK hP 0 rfl rfl 1 (by decide) (hts (.fieldLink RX3 13 "ServoDeskModel" "number" "[J") (by decide +kernel)) (fun _ h9 => h9) rfl dX3_does_171 ?_
    refine lv_iload_n hx hb dX3_does_174 rfl (lv_at hl 5 rfl) ?_
    refine lv_iconst (v := (0 : Int32)) hx hb dX3_does_175 (by decide) ?_
    refine lv_iadd hx hb dX3_does_176 ?_
    refine zn_top (n := (5 * a) + 0) (nI_add (5 * a) 0) ?_
    refine lv_iload_n hx hb dX3_does_177 rfl (lv_at hl 4 rfl) ?_
    refine lv_lload hx hb dX3_does_178 (lv_at hl 2 rfl) ?_
    refine lv_iconst (v := (2 : Int32)) hx hb dX3_does_180 (by decide) ?_
    refine vp_callSl (W.runS (As := [.int v1, .long (nf ((5 * a) + 0)), .int (2 : Int32)]) (rest := [.int (nI ((5 * a) + 0)), .ref na]) ⟨hx, hb, hml, hown, hts⟩ (ct_X3_stepped l v1 (nf ((5 * a) + 0)) (2 : Int32)) (va_cwS 3 hts gX3_does_X3_stepped rfl rfl rfl (by decide +kernel) ⟨Nat.le_of_ble_eq_true rfl, Nat.le_of_ble_eq_true rfl⟩) ⟨(fun a U g mk q => ⟨q.1, trivial⟩), fun U hU hW9 => ⟨rfl, trivial⟩⟩ rfl rfl hl.1 rfl (lv_room (Nat.le_of_ble_eq_true rfl)) dX3_does_181 ⟨Nat.zero_le _, Nat.zero_le _⟩) (fun r er => ?_)
    subst er
    refine zm_last hx hb hK hP hD hS 2 1 rfl rfl (i := (5 * a) + 0) (x := fn_X3_stepped v1 (nf ((5 * a) + 0)) (2 : Int32)) (by omega) (by decide) dX3_does_184 (fun H locs hP hD hS => ?_)
    have hP : va_P (dC, dI) vwCl [(m0, .inr (3, [.ref ka, .ref na, .int (nI n)])), (ka, .inl (cI, 8, .inl kf)), (na, .inl (cJ, 40, .inr (.inl (vp_updL nf ((5 * a) + 0) (fn_X3_stepped v1 (nf ((5 * a) + 0)) (2 : Int32))))))] H := hP
    have hD : va_D A [(m0, .inr (3, [.ref ka, .ref na, .int (nI n)])), (ka, .inl (cI, 8, .inl kf)), (na, .inl (cJ, 40, .inr (.inl (vp_updL nf ((5 * a) + 0) (fn_X3_stepped v1 (nf ((5 * a) + 0)) (2 : Int32))))))] := hD
    refine lv_goto (tgt := 405) hx hb dX3_does_185 (by decide) ?_
    have e9 : fn_X3_does v1 a v3 nf = vp_updL nf ((5 * a) + 0) (fn_X3_stepped v1 (nf ((5 * a) + 0)) (2 : Int32)) := by unfold fn_X3_does; rw [if_neg q_1, if_neg q_2, if_neg q_3, if_neg q_4, if_pos q_5]
    exact W.vret hx hb hr (fun t ht hW9 => ⟨⟨(), rfl, trivial, by rw [ht, e9]; exact hP, by rw [e9]; exact hD⟩, hS.F ht⟩) hS.2.2 dX3_does_405
  by_cases q_6 : v3 = (6 : Int32)
  · refine lv_tableIn (off := 157) (tgt := 188) hx hb dX3_does_31 (by rw [q_6]; decide) (by rw [q_6]; decide) (by rw [q_6]; rfl) (by decide) ?_
    refine lv_aload_n hx hb dX3_does_188 rfl (lv_at hl 3 rfl) ?_
    refine va_get (D := (dC, dI)) (ci := 3) (v := .ref na) (C := RX3) (T := TX3) (N := 3) hx hb hts hin hown hK hP 0 rfl rfl 1 (by decide) (hts (.fieldLink RX3 13 "ServoDeskModel" "number" "[J") (by decide +kernel)) (fun _ h9 => h9) rfl dX3_does_189 ?_
    refine lv_iload_n hx hb dX3_does_192 rfl (lv_at hl 5 rfl) ?_
    refine lv_iconst (v := (4 : Int32)) hx hb dX3_does_193 (by decide) ?_
    refine lv_iadd hx hb dX3_does_194 ?_
    refine zn_top (n := (5 * a) + 4) (nI_add (5 * a) 4) ?_
    refine lv_iload_n hx hb dX3_does_195 rfl (lv_at hl 4 rfl) ?_
    refine lv_lload hx hb dX3_does_196 (lv_at hl 2 rfl) ?_
    refine vp_callSl (W.runS (As := [.int v1, .long (nf ((5 * a) + 0))]) (rest := [.int (nI ((5 * a) + 4)), .ref na]) ⟨hx, hb, hml, hown, hts⟩ (ct_X3_wayOf l v1 (nf ((5 * a) + 0))) (va_cwS 2 hts gX3_does_X3_wayOf rfl rfl rfl (by decide +kernel) ⟨Nat.le_of_ble_eq_true rfl, Nat.le_of_ble_eq_true rfl⟩) ⟨(fun a U g mk q => ⟨q.1, trivial⟩), fun U hU hW9 => ⟨rfl, trivial⟩⟩ rfl rfl hl.1 rfl (lv_room (Nat.le_of_ble_eq_true rfl)) dX3_does_198 ⟨Nat.zero_le _, Nat.zero_le _⟩) (fun r er => ?_)
    subst er
    refine zm_last hx hb hK hP hD hS 2 1 rfl rfl (i := (5 * a) + 4) (x := fn_X3_wayOf v1 (nf ((5 * a) + 0))) (by omega) (by decide) dX3_does_201 (fun H locs hP hD hS => ?_)
    have hP : va_P (dC, dI) vwCl [(m0, .inr (3, [.ref ka, .ref na, .int (nI n)])), (ka, .inl (cI, 8, .inl kf)), (na, .inl (cJ, 40, .inr (.inl (vp_updL nf ((5 * a) + 4) (fn_X3_wayOf v1 (nf ((5 * a) + 0)))))))] H := hP
    have hD : va_D A [(m0, .inr (3, [.ref ka, .ref na, .int (nI n)])), (ka, .inl (cI, 8, .inl kf)), (na, .inl (cJ, 40, .inr (.inl (vp_updL nf ((5 * a) + 4) (fn_X3_wayOf v1 (nf ((5 * a) + 0)))))))] := hD
    refine lv_goto (tgt := 405) hx hb dX3_does_202 (by decide) ?_
    have e9 : fn_X3_does v1 a v3 nf = vp_updL nf ((5 * a) + 4) (fn_X3_wayOf v1 (nf ((5 * a) + 0))) := by unfold fn_X3_does; rw [if_neg q_1, if_neg q_2, if_neg q_3, if_neg q_4, if_neg q_5, if_pos q_6]
    exact W.vret hx hb hr (fun t ht hW9 => ⟨⟨(), rfl, trivial, by rw [ht, e9]; exact hP, by rw [e9]; exact hD⟩, hS.F ht⟩) hS.2.2 dX3_does_405
  by_cases q_7 : v3 = (7 : Int32)
  · refine lv_tableIn (off := 174) (tgt := 205) hx hb dX3_does_31 (by rw [q_7]; decide) (by rw [q_7]; decide) (by rw [q_7]; rfl) (by decide) ?_
    refine lv_aload_n hx hb dX3_does_205 rfl (lv_at hl 3 rfl) ?_
    refine va_get (D := (dC, dI)) (ci := 3) (v := .ref na) (C := RX3) (T := TX3) (N := 3) hx hb hts hin hown hK hP 0 rfl rfl 1 (by decide) (hts (.fieldLink RX3 13 "ServoDeskModel" "number" "[J") (by decide +kernel)) (fun _ h9 => h9) rfl dX3_does_206 ?_
    refine lv_iload_n hx hb dX3_does_209 rfl (lv_at hl 5 rfl) ?_
    refine lv_iconst (v := (0 : Int32)) hx hb dX3_does_210 (by decide) ?_
    refine lv_iadd hx hb dX3_does_211 ?_
    refine zn_top (n := (5 * a) + 0) (nI_add (5 * a) 0) ?_
    refine lv_iload_n hx hb dX3_does_212 rfl (lv_at hl 4 rfl) ?_
    refine lv_lload hx hb dX3_does_213 (lv_at hl 2 rfl) ?_
    refine lv_aload_n hx hb dX3_does_215 rfl (lv_at hl 3 rfl) ?_
    refine va_get (D := (dC, dI)) (ci := 3) (v := .ref na) (C := RX3) (T := TX3) (N := 3) hx hb hts hin hown hK hP 0 rfl rfl 1 (by decide) (hts (.fieldLink RX3 13 "ServoDeskModel" "number" "[J") (by decide +kernel)) (fun _ h9 => h9) rfl dX3_does_216 ?_
    refine lv_iload_n hx hb dX3_does_219 rfl (lv_at hl 5 rfl) ?_
    refine lv_iconst (v := (4 : Int32)) hx hb dX3_does_220 (by decide) ?_
    refine lv_iadd hx hb dX3_does_221 ?_
    refine zn_top (n := (5 * a) + 4) (nI_add (5 * a) 4) ?_
    refine zm_lald hx hb hK hP 2 1 rfl rfl (i := (5 * a) + 4) (by omega) (by decide) dX3_does_222 ?_
    refine vp_callSl (W.runS (As := [.int v1, .long (nf ((5 * a) + 0)), .long (nf ((5 * a) + 4))]) (rest := [.int (nI ((5 * a) + 0)), .ref na]) ⟨hx, hb, hml, hown, hts⟩ (ct_X3_turned l v1 (nf ((5 * a) + 0)) (nf ((5 * a) + 4))) (va_cwS 3 hts gX3_does_X3_turned rfl rfl rfl (by decide +kernel) ⟨Nat.le_of_ble_eq_true rfl, Nat.le_of_ble_eq_true rfl⟩) ⟨(fun a U g mk q => ⟨q.1, trivial⟩), fun U hU hW9 => ⟨rfl, trivial⟩⟩ rfl rfl hl.1 rfl (lv_room (Nat.le_of_ble_eq_true rfl)) dX3_does_223 ⟨Nat.zero_le _, Nat.zero_le _⟩) (fun r er => ?_)
    subst er
    refine zm_last hx hb hK hP hD hS 2 1 rfl rfl (i := (5 * a) + 0) (x := fn_X3_turned v1 (nf ((5 * a) + 0)) (nf ((5 * a) + 4))) (by omega) (by decide) dX3_does_226 (fun H locs hP hD hS => ?_)
    have hP : va_P (dC, dI) vwCl [(m0, .inr (3, [.ref ka, .ref na, .int (nI n)])), (ka, .inl (cI, 8, .inl kf)), (na, .inl (cJ, 40, .inr (.inl (vp_updL nf ((5 * a) + 0) (fn_X3_turned v1 (nf ((5 * a) + 0)) (nf ((5 * a) + 4)))))))] H := hP
    have hD : va_D A [(m0, .inr (3, [.ref ka, .ref na, .int (nI n)])), (ka, .inl (cI, 8, .inl kf)), (na, .inl (cJ, 40, .inr (.inl (vp_updL nf ((5 * a) + 0) (fn_X3_turned v1 (nf ((5 * a) + 0)) (nf ((5 * a) + 4)))))))] := hD
    refine lv_goto (tgt := 405) hx hb dX3_does_227 (by decide) ?_
    have e9 : fn_X3_does v1 a v3 nf = vp_updL nf ((5 * a) + 0) (fn_X3_turned v1 (nf ((5 * a) + 0)) (nf ((5 * a) + 4))) := by unfold fn_X3_does; rw [if_neg q_1, if_neg q_2, if_neg q_3, if_neg q_4, if_neg q_5, if_neg q_6, if_pos q_7]
    exact W.vret hx hb hr (fun t ht hW9 => ⟨⟨(), rfl, trivial, by rw [ht, e9]; exact hP, by rw [e9]; exact hD⟩, hS.F ht⟩) hS.2.2 dX3_does_405
  by_cases q_8 : v3 = (8 : Int32)
  · refine lv_tableIn (off := 199) (tgt := 230) hx hb dX3_does_31 (by rw [q_8]; decide) (by rw [q_8]; decide) (by rw [q_8]; rfl) (by decide) ?_
    refine lv_aload_n hx hb dX3_does_230 rfl (lv_at hl 3 rfl) ?_
    refine va_get (D := (dC, dI)) (ci := 3) (v := .ref na) (C := RX3) (T := TX3) (N := 3) hx hb hts hin hown hK hP 0 rfl rfl 1 (by decide) (hts (.fieldLink RX3 13 "ServoDeskModel" "number" "[J") (by decide +kernel)) (fun _ h9 => h9) rfl dX3_does_231 ?_
    refine lv_iload_n hx hb dX3_does_234 rfl (lv_at hl 5 rfl) ?_
    refine lv_iconst (v := (2 : Int32)) hx hb dX3_does_235 (by decide) ?_
    refine lv_iadd hx hb dX3_does_236 ?_
    refine zn_top (n := (5 * a) + 2) (nI_add (5 * a) 2) ?_
    refine lv_iload_n hx hb dX3_does_237 rfl (lv_at hl 4 rfl) ?_
    refine lv_lload hx hb dX3_does_238 (lv_at hl 0 rfl) ?_
    refine lv_lload hx hb dX3_does_240 (lv_at hl 2 rfl) ?_
    refine vp_callSl (W.runS (As := [.int v1, .long (nf ((5 * a) + 2)), .long (nf ((5 * a) + 0))]) (rest := [.int (nI ((5 * a) + 2)), .ref na]) ⟨hx, hb, hml, hown, hts⟩ (ct_X3_greater l v1 (nf ((5 * a) + 2)) (nf ((5 * a) + 0))) (va_cwS 3 hts gX3_does_X3_greater rfl rfl rfl (by decide +kernel) ⟨Nat.le_of_ble_eq_true rfl, Nat.le_of_ble_eq_true rfl⟩) ⟨(fun a U g mk q => ⟨q.1, trivial⟩), fun U hU hW9 => ⟨rfl, trivial⟩⟩ rfl rfl hl.1 rfl (lv_room (Nat.le_of_ble_eq_true rfl)) dX3_does_242 ⟨Nat.zero_le _, Nat.zero_le _⟩) (fun r er => ?_)
    subst er
    refine zm_last hx hb hK hP hD hS 2 1 rfl rfl (i := (5 * a) + 2) (x := fn_X3_greater v1 (nf ((5 * a) + 2)) (nf ((5 * a) + 0))) (by omega) (by decide) dX3_does_245 (fun H locs hP hD hS => ?_)
    have hP : va_P (dC, dI) vwCl [(m0, .inr (3, [.ref ka, .ref na, .int (nI n)])), (ka, .inl (cI, 8, .inl kf)), (na, .inl (cJ, 40, .inr (.inl (vp_updL nf ((5 * a) + 2) (fn_X3_greater v1 (nf ((5 * a) + 2)) (nf ((5 * a) + 0)))))))] H := hP
    have hD : va_D A [(m0, .inr (3, [.ref ka, .ref na, .int (nI n)])), (ka, .inl (cI, 8, .inl kf)), (na, .inl (cJ, 40, .inr (.inl (vp_updL nf ((5 * a) + 2) (fn_X3_greater v1 (nf ((5 * a) + 2)) (nf ((5 * a) + 0)))))))] := hD
    refine lv_aload_n hx hb dX3_does_246 rfl (lv_at hl 3 rfl) ?_
    refine va_get (D := (dC, dI)) (ci := 3) (v := .ref na) (C := RX3) (T := TX3) (N := 3) hx hb hts hin hown hK hP 0 rfl rfl 1 (by decide) (hts (.fieldLink RX3 13 "ServoDeskModel" "number" "[J") (by decide +kernel)) (fun _ h9 => h9) rfl dX3_does_247 ?_
    refine lv_iload_n hx hb dX3_does_250 rfl (lv_at hl 5 rfl) ?_
    refine lv_iconst (v := (1 : Int32)) hx hb dX3_does_251 (by decide) ?_
    refine lv_iadd hx hb dX3_does_252 ?_
    refine zn_top (n := (5 * a) + 1) (nI_add (5 * a) 1) ?_
    refine lv_iload_n hx hb dX3_does_253 rfl (lv_at hl 4 rfl) ?_
    refine lv_lload hx hb dX3_does_254 (lv_at hl 1 rfl) ?_
    refine lv_lload hx hb dX3_does_256 (lv_at hl 2 rfl) ?_
    refine vp_callSl (W.runS (As := [.int v1, .long (nf ((5 * a) + 1)), .long (nf ((5 * a) + 0))]) (rest := [.int (nI ((5 * a) + 1)), .ref na]) ⟨hx, hb, hml, hown, hts⟩ (ct_X3_lesser l v1 (nf ((5 * a) + 1)) (nf ((5 * a) + 0))) (va_cwS 3 hts gX3_does_X3_lesser rfl rfl rfl (by decide +kernel) ⟨Nat.le_of_ble_eq_true rfl, Nat.le_of_ble_eq_true rfl⟩) ⟨(fun a U g mk q => ⟨q.1, trivial⟩), fun U hU hW9 => ⟨rfl, trivial⟩⟩ rfl rfl hl.1 rfl (lv_room (Nat.le_of_ble_eq_true rfl)) dX3_does_258 ⟨Nat.zero_le _, Nat.zero_le _⟩) (fun r er => ?_)
    subst er
    refine zm_last hx hb hK hP hD hS 2 1 rfl rfl (i := (5 * a) + 1) (x := fn_X3_lesser v1 (nf ((5 * a) + 1)) (nf ((5 * a) + 0))) (by omega) (by decide) dX3_does_261 (fun H locs hP hD hS => ?_)
    have hP : va_P (dC, dI) vwCl [(m0, .inr (3, [.ref ka, .ref na, .int (nI n)])), (ka, .inl (cI, 8, .inl kf)), (na, .inl (cJ, 40, .inr (.inl (vp_updL (vp_updL nf ((5 * a) + 2) (fn_X3_greater v1 (nf ((5 * a) + 2)) (nf ((5 * a) + 0)))) ((5 * a) + 1) (fn_X3_lesser v1 (nf ((5 * a) + 1)) (nf ((5 * a) + 0)))))))] H := hP
    have hD : va_D A [(m0, .inr (3, [.ref ka, .ref na, .int (nI n)])), (ka, .inl (cI, 8, .inl kf)), (na, .inl (cJ, 40, .inr (.inl (vp_updL (vp_updL nf ((5 * a) + 2) (fn_X3_greater v1 (nf ((5 * a) + 2)) (nf ((5 * a) + 0)))) ((5 * a) + 1) (fn_X3_lesser v1 (nf ((5 * a) + 1)) (nf ((5 * a) + 0)))))))] := hD
    refine lv_goto (tgt := 405) hx hb dX3_does_262 (by decide) ?_
    have e9 : fn_X3_does v1 a v3 nf = vp_updL (vp_updL nf ((5 * a) + 2) (fn_X3_greater v1 (nf ((5 * a) + 2)) (nf ((5 * a) + 0)))) ((5 * a) + 1) (fn_X3_lesser v1 (nf ((5 * a) + 1)) (nf ((5 * a) + 0))) := by unfold fn_X3_does; rw [if_neg q_1, if_neg q_2, if_neg q_3, if_neg q_4, if_neg q_5, if_neg q_6, if_neg q_7, if_pos q_8]
    exact W.vret hx hb hr (fun t ht hW9 => ⟨⟨(), rfl, trivial, by rw [ht, e9]; exact hP, by rw [e9]; exact hD⟩, hS.F ht⟩) hS.2.2 dX3_does_405
  by_cases q_9 : v3 = (9 : Int32)
  · refine lv_tableIn (off := 234) (tgt := 265) hx hb dX3_does_31 (by rw [q_9]; decide) (by rw [q_9]; decide) (by rw [q_9]; rfl) (by decide) ?_
    refine lv_iload_n hx hb dX3_does_265 rfl (lv_at hl 4 rfl) ?_
    refine lv_lload hx hb dX3_does_266 (lv_at hl 2 rfl) ?_
    refine vp_callSl (W.runS (As := [.int v1, .long (nf ((5 * a) + 0))]) (rest := []) ⟨hx, hb, hml, hown, hts⟩ (ct_X3_sized l v1 (nf ((5 * a) + 0))) (va_cwS 2 hts gX3_does_X3_sized rfl rfl rfl (by decide +kernel) ⟨Nat.le_of_ble_eq_true rfl, Nat.le_of_ble_eq_true rfl⟩) ⟨(fun a U g mk q => ⟨q.1, trivial⟩), fun U hU hW9 => ⟨rfl, trivial⟩⟩ rfl rfl hl.1 rfl (lv_room (Nat.le_of_ble_eq_true rfl)) dX3_does_268 ⟨Nat.zero_le _, Nat.zero_le _⟩) (fun r er => ?_)
    subst er
    refine lv_iload_n hx hb dX3_does_271 rfl (lv_at hl 4 rfl) ?_
    refine lv_aload_n hx hb dX3_does_272 rfl (lv_at hl 3 rfl) ?_
    refine va_get (D := (dC, dI)) (ci := 3) (v := .ref na) (C := RX3) (T := TX3) (N := 3) hx hb hts hin hown hK hP 0 rfl rfl 1 (by decide) (hts (.fieldLink RX3 13 "ServoDeskModel" "number" "[J") (by decide +kernel)) (fun _ h9 => h9) rfl dX3_does_273 ?_
    refine lv_iload_n hx hb dX3_does_276 rfl (lv_at hl 5 rfl) ?_
    refine lv_iconst (v := (3 : Int32)) hx hb dX3_does_277 (by decide) ?_
    refine lv_iadd hx hb dX3_does_278 ?_
    refine zn_top (n := (5 * a) + 3) (nI_add (5 * a) 3) ?_
    refine zm_lald hx hb hK hP 2 1 rfl rfl (i := (5 * a) + 3) (by omega) (by decide) dX3_does_279 ?_
    refine vp_callSl (W.runS (As := [.int v1, .long (nf ((5 * a) + 3))]) (rest := [.long (fn_X3_sized v1 (nf ((5 * a) + 0)))]) ⟨hx, hb, hml, hown, hts⟩ (ct_X3_sized l v1 (nf ((5 * a) + 3))) (va_cwS 2 hts gX3_does_X3_sized rfl rfl rfl (by decide +kernel) ⟨Nat.le_of_ble_eq_true rfl, Nat.le_of_ble_eq_true rfl⟩) ⟨(fun a U g mk q => ⟨q.1, trivial⟩), fun U hU hW9 => ⟨rfl, trivial⟩⟩ rfl rfl hl.1 rfl (lv_room (Nat.le_of_ble_eq_true rfl)) dX3_does_280 ⟨Nat.zero_le _, Nat.zero_le _⟩) (fun r er => ?_)
    subst er
    refine zl_gt (tgt := 405) hx hb dX3_does_283 dX3_does_284 (by decide) (fun c_1 => ?_) (fun c_1 => ?_)
    · have e9 : fn_X3_does v1 a v3 nf = nf := by unfold fn_X3_does; rw [if_neg q_1, if_neg q_2, if_neg q_3, if_neg q_4, if_neg q_5, if_neg q_6, if_neg q_7, if_neg q_8, if_pos q_9, if_pos c_1]
      exact W.vret hx hb hr (fun t ht hW9 => ⟨⟨(), rfl, trivial, by rw [ht, e9]; exact hP, by rw [e9]; exact hD⟩, hS.F ht⟩) hS.2.2 dX3_does_405
    · refine lv_aload_n hx hb dX3_does_287 rfl (lv_at hl 3 rfl) ?_
      refine va_get (D := (dC, dI)) (ci := 3) (v := .ref na) (C := RX3) (T := TX3) (N := 3) hx hb hts hin hown hK hP 0 rfl rfl 1 (by decide) (hts (.fieldLink RX3 13 "ServoDeskModel" "number" "[J") (by decide +kernel)) (fun _ h9 => h9) rfl dX3_does_288 ?_
      refine lv_iload_n hx hb dX3_does_291 rfl (lv_at hl 5 rfl) ?_
      refine lv_iconst (v := (0 : Int32)) hx hb dX3_does_292 (by decide) ?_
      refine lv_iadd hx hb dX3_does_293 ?_
      refine zn_top (n := (5 * a) + 0) (nI_add (5 * a) 0) ?_
      refine lv_iload_n hx hb dX3_does_294 rfl (lv_at hl 4 rfl) ?_
      refine vp_callSi (W.runS (As := [.int v1]) (rest := [.int (nI ((5 * a) + 0)), .ref na]) ⟨hx, hb, hml, hown, hts⟩ (ct_X3_isFloating l v1) (va_cwS 1 hts gX3_does_X3_isFloating rfl rfl rfl (by decide +kernel) ⟨Nat.le_of_ble_eq_true rfl, Nat.le_of_ble_eq_true rfl⟩) ⟨(fun a U g mk q => ⟨q.1, trivial⟩), fun U hU hW9 => ⟨rfl, trivial⟩⟩ rfl rfl hl.1 rfl (lv_room (Nat.le_of_ble_eq_true rfl)) dX3_does_295 ⟨Nat.zero_le _, Nat.zero_le _⟩) (fun r er => ?_)
      subst er
      refine lv_if_eq (tgt := 321) hx hb dX3_does_298 (by decide) (fun c_2 => ?_) (fun c_2 => ?_)
      · refine lv_lconst (v := (0 : Int64)) hx hb dX3_does_321 (by decide) ?_
        refine zm_last hx hb hK hP hD hS 2 1 rfl rfl (i := (5 * a) + 0) (x := (0 : Int64)) (by omega) (by decide) dX3_does_322 (fun H locs hP hD hS => ?_)
        have hP : va_P (dC, dI) vwCl [(m0, .inr (3, [.ref ka, .ref na, .int (nI n)])), (ka, .inl (cI, 8, .inl kf)), (na, .inl (cJ, 40, .inr (.inl (vp_updL nf ((5 * a) + 0) (0 : Int64)))))] H := hP
        have hD : va_D A [(m0, .inr (3, [.ref ka, .ref na, .int (nI n)])), (ka, .inl (cI, 8, .inl kf)), (na, .inl (cJ, 40, .inr (.inl (vp_updL nf ((5 * a) + 0) (0 : Int64)))))] := hD
        refine lv_goto (tgt := 405) hx hb dX3_does_323 (by decide) ?_
        have e9 : fn_X3_does v1 a v3 nf = vp_updL nf ((5 * a) + 0) (0 : Int64) := by unfold fn_X3_does; rw [if_neg q_1, if_neg q_2, if_neg q_3, if_neg q_4, if_neg q_5, if_neg q_6, if_neg q_7, if_neg q_8, if_pos q_9, if_neg c_1, if_pos c_2]
        exact W.vret hx hb hr (fun t ht hW9 => ⟨⟨(), rfl, trivial, by rw [ht, e9]; exact hP, by rw [e9]; exact hD⟩, hS.F ht⟩) hS.2.2 dX3_does_405
      · refine lv_iload_n hx hb dX3_does_301 rfl (lv_at hl 4 rfl) ?_
        refine lv_lconst (v := (0 : Int64)) hx hb dX3_does_302 (by decide) ?_
        refine lv_lload hx hb dX3_does_303 (lv_at hl 2 rfl) ?_
        refine lv_lconst (v := (0 : Int64)) hx hb dX3_does_305 (by decide) ?_
        refine zl_ge (tgt := 314) hx hb dX3_does_306 dX3_does_307 (by decide) (fun c_3 => ?_) (fun c_3 => ?_)
        · refine lv_iconst (v := (0 : Int32)) hx hb dX3_does_314 (by decide) ?_
          refine vp_callSl (W.runS (As := [.int v1, .long (0 : Int64), .int (0 : Int32)]) (rest := [.int (nI ((5 * a) + 0)), .ref na]) ⟨hx, hb, hml, hown, hts⟩ (ct_X3_signed l v1 (0 : Int64) (0 : Int32)) (va_cwS 3 hts gX3_does_X3_signed rfl rfl rfl (by decide +kernel) ⟨Nat.le_of_ble_eq_true rfl, Nat.le_of_ble_eq_true rfl⟩) ⟨(fun a U g mk q => ⟨q.1, trivial⟩), fun U hU hW9 => ⟨rfl, trivial⟩⟩ rfl rfl hl.1 rfl (lv_room (Nat.le_of_ble_eq_true rfl)) dX3_does_315 ⟨Nat.zero_le _, Nat.zero_le _⟩) (fun r er => ?_)
          subst er
          refine lv_goto (tgt := 322) hx hb dX3_does_318 (by decide) ?_
          refine zm_last hx hb hK hP hD hS 2 1 rfl rfl (i := (5 * a) + 0) (x := fn_X3_signed v1 (0 : Int64) (0 : Int32)) (by omega) (by decide) dX3_does_322 (fun H locs hP hD hS => ?_)
          have hP : va_P (dC, dI) vwCl [(m0, .inr (3, [.ref ka, .ref na, .int (nI n)])), (ka, .inl (cI, 8, .inl kf)), (na, .inl (cJ, 40, .inr (.inl (vp_updL nf ((5 * a) + 0) (fn_X3_signed v1 (0 : Int64) (0 : Int32))))))] H := hP
          have hD : va_D A [(m0, .inr (3, [.ref ka, .ref na, .int (nI n)])), (ka, .inl (cI, 8, .inl kf)), (na, .inl (cJ, 40, .inr (.inl (vp_updL nf ((5 * a) + 0) (fn_X3_signed v1 (0 : Int64) (0 : Int32))))))] := hD
          refine lv_goto (tgt := 405) hx hb dX3_does_323 (by decide) ?_
          have e9 : fn_X3_does v1 a v3 nf = vp_updL nf ((5 * a) + 0) (fn_X3_signed v1 (0 : Int64) (0 : Int32)) := by unfold fn_X3_does; rw [if_neg q_1, if_neg q_2, if_neg q_3, if_neg q_4, if_neg q_5, if_neg q_6, if_neg q_7, if_neg q_8, if_pos q_9, if_neg c_1, if_neg c_2, if_pos c_3]
          exact W.vret hx hb hr (fun t ht hW9 => ⟨⟨(), rfl, trivial, by rw [ht, e9]; exact hP, by rw [e9]; exact hD⟩, hS.F ht⟩) hS.2.2 dX3_does_405
        · refine lv_iconst (v := (1 : Int32)) hx hb dX3_does_310 (by decide) ?_
          refine lv_goto (tgt := 315) hx hb dX3_does_311 (by decide) ?_
          refine vp_callSl (W.runS (As := [.int v1, .long (0 : Int64), .int (1 : Int32)]) (rest := [.int (nI ((5 * a) + 0)), .ref na]) ⟨hx, hb, hml, hown, hts⟩ (ct_X3_signed l v1 (0 : Int64) (1 : Int32)) (va_cwS 3 hts gX3_does_X3_signed rfl rfl rfl (by decide +kernel) ⟨Nat.le_of_ble_eq_true rfl, Nat.le_of_ble_eq_true rfl⟩) ⟨(fun a U g mk q => ⟨q.1, trivial⟩), fun U hU hW9 => ⟨rfl, trivial⟩⟩ rfl rfl hl.1 rfl (lv_room (Nat.le_of_ble_eq_true rfl)) dX3_does_315 ⟨Nat.zero_le _, Nat.zero_le _⟩) (fun r er => ?_)
          subst er
          refine lv_goto (tgt := 322) hx hb dX3_does_318 (by decide) ?_
          refine zm_last hx hb hK hP hD hS 2 1 rfl rfl (i := (5 * a) + 0) (x := fn_X3_signed v1 (0 : Int64) (1 : Int32)) (by omega) (by decide) dX3_does_322 (fun H locs hP hD hS => ?_)
          have hP : va_P (dC, dI) vwCl [(m0, .inr (3, [.ref ka, .ref na, .int (nI n)])), (ka, .inl (cI, 8, .inl kf)), (na, .inl (cJ, 40, .inr (.inl (vp_updL nf ((5 * a) + 0) (fn_X3_signed v1 (0 : Int64) (1 : Int32))))))] H := hP
          have hD : va_D A [(m0, .inr (3, [.ref ka, .ref na, .int (nI n)])), (ka, .inl (cI, 8, .inl kf)), (na, .inl (cJ, 40, .inr (.inl (vp_updL nf ((5 * a) + 0) (fn_X3_signed v1 (0 : Int64) (1 : Int32))))))] := hD
          refine lv_goto (tgt := 405) hx hb dX3_does_323 (by decide) ?_
          have e9 : fn_X3_does v1 a v3 nf = vp_updL nf ((5 * a) + 0) (fn_X3_signed v1 (0 : Int64) (1 : Int32)) := by unfold fn_X3_does; rw [if_neg q_1, if_neg q_2, if_neg q_3, if_neg q_4, if_neg q_5, if_neg q_6, if_neg q_7, if_neg q_8, if_pos q_9, if_neg c_1, if_neg c_2, if_neg c_3]
          exact W.vret hx hb hr (fun t ht hW9 => ⟨⟨(), rfl, trivial, by rw [ht, e9]; exact hP, by rw [e9]; exact hD⟩, hS.F ht⟩) hS.2.2 dX3_does_405
  by_cases q_10 : v3 = (10 : Int32)
  · refine lv_tableIn (off := 295) (tgt := 326) hx hb dX3_does_31 (by rw [q_10]; decide) (by rw [q_10]; decide) (by rw [q_10]; rfl) (by decide) ?_
    refine lv_aload_n hx hb dX3_does_326 rfl (lv_at hl 3 rfl) ?_
    refine va_get (D := (dC, dI)) (ci := 3) (v := .ref na) (C := RX3) (T := TX3) (N := 3) hx hb hts hin hown hK hP 0 rfl rfl 1 (by decide) (hts (.fieldLink RX3 13 "ServoDeskModel" "number" "[J") (by decide +kernel)) (fun _ h9 => h9) rfl dX3_does_327 ?_
    refine lv_iload_n hx hb dX3_does_330 rfl (lv_at hl 5 rfl) ?_
    refine lv_iconst (v := (1 : Int32)) hx hb dX3_does_331 (by decide) ?_
    refine lv_iadd hx hb dX3_does_332 ?_
    refine zn_top (n := (5 * a) + 1) (nI_add (5 * a) 1) ?_
    refine lv_iload_n hx hb dX3_does_333 rfl (lv_at hl 4 rfl) ?_
    refine lv_lload hx hb dX3_does_334 (lv_at hl 2 rfl) ?_
    refine lv_iconst (v := (0 : Int32)) hx hb dX3_does_336 (by decide) ?_
    refine vp_callSl (W.runS (As := [.int v1, .long (nf ((5 * a) + 0)), .int (0 : Int32)]) (rest := [.int (nI ((5 * a) + 1)), .ref na]) ⟨hx, hb, hml, hown, hts⟩ (ct_X3_stepped l v1 (nf ((5 * a) + 0)) (0 : Int32)) (va_cwS 3 hts gX3_does_X3_stepped rfl rfl rfl (by decide +kernel) ⟨Nat.le_of_ble_eq_true rfl, Nat.le_of_ble_eq_true rfl⟩) ⟨(fun a U g mk q => ⟨q.1, trivial⟩), fun U hU hW9 => ⟨rfl, trivial⟩⟩ rfl rfl hl.1 rfl (lv_room (Nat.le_of_ble_eq_true rfl)) dX3_does_337 ⟨Nat.zero_le _, Nat.zero_le _⟩) (fun r er => ?_)
    subst er
    refine zm_last hx hb hK hP hD hS 2 1 rfl rfl (i := (5 * a) + 1) (x := fn_X3_stepped v1 (nf ((5 * a) + 0)) (0 : Int32)) (by omega) (by decide) dX3_does_340 (fun H locs hP hD hS => ?_)
    have hP : va_P (dC, dI) vwCl [(m0, .inr (3, [.ref ka, .ref na, .int (nI n)])), (ka, .inl (cI, 8, .inl kf)), (na, .inl (cJ, 40, .inr (.inl (vp_updL nf ((5 * a) + 1) (fn_X3_stepped v1 (nf ((5 * a) + 0)) (0 : Int32))))))] H := hP
    have hD : va_D A [(m0, .inr (3, [.ref ka, .ref na, .int (nI n)])), (ka, .inl (cI, 8, .inl kf)), (na, .inl (cJ, 40, .inr (.inl (vp_updL nf ((5 * a) + 1) (fn_X3_stepped v1 (nf ((5 * a) + 0)) (0 : Int32))))))] := hD
    refine lv_aload_n hx hb dX3_does_341 rfl (lv_at hl 3 rfl) ?_
    refine va_get (D := (dC, dI)) (ci := 3) (v := .ref na) (C := RX3) (T := TX3) (N := 3) hx hb hts hin hown hK hP 0 rfl rfl 1 (by decide) (hts (.fieldLink RX3 13 "ServoDeskModel" "number" "[J") (by decide +kernel)) (fun _ h9 => h9) rfl dX3_does_342 ?_
    refine lv_iload_n hx hb dX3_does_345 rfl (lv_at hl 5 rfl) ?_
    refine lv_iconst (v := (2 : Int32)) hx hb dX3_does_346 (by decide) ?_
    refine lv_iadd hx hb dX3_does_347 ?_
    refine zn_top (n := (5 * a) + 2) (nI_add (5 * a) 2) ?_
    refine lv_iload_n hx hb dX3_does_348 rfl (lv_at hl 4 rfl) ?_
    refine lv_lload hx hb dX3_does_349 (lv_at hl 2 rfl) ?_
    refine lv_iconst (v := (1 : Int32)) hx hb dX3_does_351 (by decide) ?_
    refine vp_callSl (W.runS (As := [.int v1, .long (nf ((5 * a) + 0)), .int (1 : Int32)]) (rest := [.int (nI ((5 * a) + 2)), .ref na]) ⟨hx, hb, hml, hown, hts⟩ (ct_X3_stepped l v1 (nf ((5 * a) + 0)) (1 : Int32)) (va_cwS 3 hts gX3_does_X3_stepped rfl rfl rfl (by decide +kernel) ⟨Nat.le_of_ble_eq_true rfl, Nat.le_of_ble_eq_true rfl⟩) ⟨(fun a U g mk q => ⟨q.1, trivial⟩), fun U hU hW9 => ⟨rfl, trivial⟩⟩ rfl rfl hl.1 rfl (lv_room (Nat.le_of_ble_eq_true rfl)) dX3_does_352 ⟨Nat.zero_le _, Nat.zero_le _⟩) (fun r er => ?_)
    subst er
    refine zm_last hx hb hK hP hD hS 2 1 rfl rfl (i := (5 * a) + 2) (x := fn_X3_stepped v1 (nf ((5 * a) + 0)) (1 : Int32)) (by omega) (by decide) dX3_does_355 (fun H locs hP hD hS => ?_)
    have hP : va_P (dC, dI) vwCl [(m0, .inr (3, [.ref ka, .ref na, .int (nI n)])), (ka, .inl (cI, 8, .inl kf)), (na, .inl (cJ, 40, .inr (.inl (vp_updL (vp_updL nf ((5 * a) + 1) (fn_X3_stepped v1 (nf ((5 * a) + 0)) (0 : Int32))) ((5 * a) + 2) (fn_X3_stepped v1 (nf ((5 * a) + 0)) (1 : Int32))))))] H := hP
    have hD : va_D A [(m0, .inr (3, [.ref ka, .ref na, .int (nI n)])), (ka, .inl (cI, 8, .inl kf)), (na, .inl (cJ, 40, .inr (.inl (vp_updL (vp_updL nf ((5 * a) + 1) (fn_X3_stepped v1 (nf ((5 * a) + 0)) (0 : Int32))) ((5 * a) + 2) (fn_X3_stepped v1 (nf ((5 * a) + 0)) (1 : Int32))))))] := hD
    refine lv_goto (tgt := 405) hx hb dX3_does_356 (by decide) ?_
    have e9 : fn_X3_does v1 a v3 nf = vp_updL (vp_updL nf ((5 * a) + 1) (fn_X3_stepped v1 (nf ((5 * a) + 0)) (0 : Int32))) ((5 * a) + 2) (fn_X3_stepped v1 (nf ((5 * a) + 0)) (1 : Int32)) := by unfold fn_X3_does; rw [if_neg q_1, if_neg q_2, if_neg q_3, if_neg q_4, if_neg q_5, if_neg q_6, if_neg q_7, if_neg q_8, if_neg q_9, if_pos q_10]
    exact W.vret hx hb hr (fun t ht hW9 => ⟨⟨(), rfl, trivial, by rw [ht, e9]; exact hP, by rw [e9]; exact hD⟩, hS.F ht⟩) hS.2.2 dX3_does_405
  by_cases q_11 : v3 = (11 : Int32)
  · refine lv_tableIn (off := 328) (tgt := 359) hx hb dX3_does_31 (by rw [q_11]; decide) (by rw [q_11]; decide) (by rw [q_11]; rfl) (by decide) ?_
    refine lv_aload_n hx hb dX3_does_359 rfl (lv_at hl 3 rfl) ?_
    refine va_get (D := (dC, dI)) (ci := 3) (v := .ref na) (C := RX3) (T := TX3) (N := 3) hx hb hts hin hown hK hP 0 rfl rfl 1 (by decide) (hts (.fieldLink RX3 13 "ServoDeskModel" "number" "[J") (by decide +kernel)) (fun _ h9 => h9) rfl dX3_does_360 ?_
    refine lv_iload_n hx hb dX3_does_363 rfl (lv_at hl 5 rfl) ?_
    refine lv_iconst (v := (1 : Int32)) hx hb dX3_does_364 (by decide) ?_
    refine lv_iadd hx hb dX3_does_365 ?_
    refine zn_top (n := (5 * a) + 1) (nI_add (5 * a) 1) ?_
    refine lv_lload hx hb dX3_does_366 (lv_at hl 0 rfl) ?_
    refine zm_last hx hb hK hP hD hS 2 1 rfl rfl (i := (5 * a) + 1) (x := nf ((5 * a) + 2)) (by omega) (by decide) dX3_does_368 (fun H locs hP hD hS => ?_)
    have hP : va_P (dC, dI) vwCl [(m0, .inr (3, [.ref ka, .ref na, .int (nI n)])), (ka, .inl (cI, 8, .inl kf)), (na, .inl (cJ, 40, .inr (.inl (vp_updL nf ((5 * a) + 1) (nf ((5 * a) + 2))))))] H := hP
    have hD : va_D A [(m0, .inr (3, [.ref ka, .ref na, .int (nI n)])), (ka, .inl (cI, 8, .inl kf)), (na, .inl (cJ, 40, .inr (.inl (vp_updL nf ((5 * a) + 1) (nf ((5 * a) + 2))))))] := hD
    refine lv_aload_n hx hb dX3_does_369 rfl (lv_at hl 3 rfl) ?_
    refine va_get (D := (dC, dI)) (ci := 3) (v := .ref na) (C := RX3) (T := TX3) (N := 3) hx hb hts hin hown hK hP 0 rfl rfl 1 (by decide) (hts (.fieldLink RX3 13 "ServoDeskModel" "number" "[J") (by decide +kernel)) (fun _ h9 => h9) rfl dX3_does_370 ?_
    refine lv_iload_n hx hb dX3_does_373 rfl (lv_at hl 5 rfl) ?_
    refine lv_iconst (v := (2 : Int32)) hx hb dX3_does_374 (by decide) ?_
    refine lv_iadd hx hb dX3_does_375 ?_
    refine zn_top (n := (5 * a) + 2) (nI_add (5 * a) 2) ?_
    refine lv_lload hx hb dX3_does_376 (lv_at hl 1 rfl) ?_
    refine zm_last hx hb hK hP hD hS 2 1 rfl rfl (i := (5 * a) + 2) (x := nf ((5 * a) + 1)) (by omega) (by decide) dX3_does_378 (fun H locs hP hD hS => ?_)
    have hP : va_P (dC, dI) vwCl [(m0, .inr (3, [.ref ka, .ref na, .int (nI n)])), (ka, .inl (cI, 8, .inl kf)), (na, .inl (cJ, 40, .inr (.inl (vp_updL (vp_updL nf ((5 * a) + 1) (nf ((5 * a) + 2))) ((5 * a) + 2) (nf ((5 * a) + 1))))))] H := hP
    have hD : va_D A [(m0, .inr (3, [.ref ka, .ref na, .int (nI n)])), (ka, .inl (cI, 8, .inl kf)), (na, .inl (cJ, 40, .inr (.inl (vp_updL (vp_updL nf ((5 * a) + 1) (nf ((5 * a) + 2))) ((5 * a) + 2) (nf ((5 * a) + 1))))))] := hD
    refine lv_goto (tgt := 405) hx hb dX3_does_379 (by decide) ?_
    have e9 : fn_X3_does v1 a v3 nf = vp_updL (vp_updL nf ((5 * a) + 1) (nf ((5 * a) + 2))) ((5 * a) + 2) (nf ((5 * a) + 1)) := by unfold fn_X3_does; rw [if_neg q_1, if_neg q_2, if_neg q_3, if_neg q_4, if_neg q_5, if_neg q_6, if_neg q_7, if_neg q_8, if_neg q_9, if_neg q_10, if_pos q_11]
    exact W.vret hx hb hr (fun t ht hW9 => ⟨⟨(), rfl, trivial, by rw [ht, e9]; exact hP, by rw [e9]; exact hD⟩, hS.F ht⟩) hS.2.2 dX3_does_405
  by_cases q_12 : v3 = (12 : Int32)
  · refine lv_tableIn (off := 351) (tgt := 382) hx hb dX3_does_31 (by rw [q_12]; decide) (by rw [q_12]; decide) (by rw [q_12]; rfl) (by decide) ?_
    refine lv_aload_n hx hb dX3_does_382 rfl (lv_at hl 3 rfl) ?_
    refine va_get (D := (dC, dI)) (ci := 3) (v := .ref na) (C := RX3) (T := TX3) (N := 3) hx hb hts hin hown hK hP 0 rfl rfl 1 (by decide) (hts (.fieldLink RX3 13 "ServoDeskModel" "number" "[J") (by decide +kernel)) (fun _ h9 => h9) rfl dX3_does_383 ?_
    refine lv_iload_n hx hb dX3_does_386 rfl (lv_at hl 5 rfl) ?_
    refine lv_iconst (v := (0 : Int32)) hx hb dX3_does_387 (by decide) ?_
    refine lv_iadd hx hb dX3_does_388 ?_
    refine zn_top (n := (5 * a) + 0) (nI_add (5 * a) 0) ?_
    refine lv_lload hx hb dX3_does_389 (lv_at hl 1 rfl) ?_
    refine zm_last hx hb hK hP hD hS 2 1 rfl rfl (i := (5 * a) + 0) (x := nf ((5 * a) + 1)) (by omega) (by decide) dX3_does_391 (fun H locs hP hD hS => ?_)
    have hP : va_P (dC, dI) vwCl [(m0, .inr (3, [.ref ka, .ref na, .int (nI n)])), (ka, .inl (cI, 8, .inl kf)), (na, .inl (cJ, 40, .inr (.inl (vp_updL nf ((5 * a) + 0) (nf ((5 * a) + 1))))))] H := hP
    have hD : va_D A [(m0, .inr (3, [.ref ka, .ref na, .int (nI n)])), (ka, .inl (cI, 8, .inl kf)), (na, .inl (cJ, 40, .inr (.inl (vp_updL nf ((5 * a) + 0) (nf ((5 * a) + 1))))))] := hD
    refine lv_goto (tgt := 405) hx hb dX3_does_392 (by decide) ?_
    have e9 : fn_X3_does v1 a v3 nf = vp_updL nf ((5 * a) + 0) (nf ((5 * a) + 1)) := by unfold fn_X3_does; rw [if_neg q_1, if_neg q_2, if_neg q_3, if_neg q_4, if_neg q_5, if_neg q_6, if_neg q_7, if_neg q_8, if_neg q_9, if_neg q_10, if_neg q_11, if_pos q_12]
    exact W.vret hx hb hr (fun t ht hW9 => ⟨⟨(), rfl, trivial, by rw [ht, e9]; exact hP, by rw [e9]; exact hD⟩, hS.F ht⟩) hS.2.2 dX3_does_405
  refine lv_tableOut (tgt := 395) hx hb dX3_does_31 (by have z1 := lv_neT q_1 (a := 1) (by decide); have z2 := lv_neT q_2 (a := 2) (by decide); have z3 := lv_neT q_3 (a := 3) (by decide); have z4 := lv_neT q_4 (a := 4) (by decide); have z5 := lv_neT q_5 (a := 5) (by decide); have z6 := lv_neT q_6 (a := 6) (by decide); have z7 := lv_neT q_7 (a := 7) (by decide); have z8 := lv_neT q_8 (a := 8) (by decide); have z9 := lv_neT q_9 (a := 9) (by decide); have z10 := lv_neT q_10 (a := 10) (by decide); have z11 := lv_neT q_11 (a := 11) (by decide); have z12 := lv_neT q_12 (a := 12) (by decide); omega) (by decide) ?_
  refine lv_aload_n hx hb dX3_does_395 rfl (lv_at hl 3 rfl) ?_
  refine va_get (D := (dC, dI)) (ci := 3) (v := .ref na) (C := RX3) (T := TX3) (N := 3) hx hb hts hin hown hK hP 0 rfl rfl 1 (by decide) (hts (.fieldLink RX3 13 "ServoDeskModel" "number" "[J") (by decide +kernel)) (fun _ h9 => h9) rfl dX3_does_396 ?_
  refine lv_iload_n hx hb dX3_does_399 rfl (lv_at hl 5 rfl) ?_
  refine lv_iconst (v := (0 : Int32)) hx hb dX3_does_400 (by decide) ?_
  refine lv_iadd hx hb dX3_does_401 ?_
  refine zn_top (n := (5 * a) + 0) (nI_add (5 * a) 0) ?_
  refine lv_lload hx hb dX3_does_402 (lv_at hl 0 rfl) ?_
  refine zm_last hx hb hK hP hD hS 2 1 rfl rfl (i := (5 * a) + 0) (x := nf ((5 * a) + 2)) (by omega) (by decide) dX3_does_404 (fun H locs hP hD hS => ?_)
  have hP : va_P (dC, dI) vwCl [(m0, .inr (3, [.ref ka, .ref na, .int (nI n)])), (ka, .inl (cI, 8, .inl kf)), (na, .inl (cJ, 40, .inr (.inl (vp_updL nf ((5 * a) + 0) (nf ((5 * a) + 2))))))] H := hP
  have hD : va_D A [(m0, .inr (3, [.ref ka, .ref na, .int (nI n)])), (ka, .inl (cI, 8, .inl kf)), (na, .inl (cJ, 40, .inr (.inl (vp_updL nf ((5 * a) + 0) (nf ((5 * a) + 2))))))] := hD
  have e9 : fn_X3_does v1 a v3 nf = vp_updL nf ((5 * a) + 0) (nf ((5 * a) + 2)) := by unfold fn_X3_does; rw [if_neg q_1, if_neg q_2, if_neg q_3, if_neg q_4, if_neg q_5, if_neg q_6, if_neg q_7, if_neg q_8, if_neg q_9, if_neg q_10, if_neg q_11, if_neg q_12]
  exact W.vret hx hb hr (fun t ht hW9 => ⟨⟨(), rfl, trivial, by rw [ht, e9]; exact hP, by rw [e9]; exact hD⟩, hS.F ht⟩) hS.2.2 dX3_does_405
end
