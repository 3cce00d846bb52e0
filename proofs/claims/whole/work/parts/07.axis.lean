def fn_X0_number (k : Nat) (v1 : Int32) (pl lo hi ba wy : Int64) : Int64 :=
  if v1 = (0 : Int32) then
    pl
  else
    if v1 = (1 : Int32) then
      lo
    else
      if v1 = (2 : Int32) then
        hi
      else
        if v1 = (3 : Int32) then
          ba
        else
          if v1 = (4 : Int32) then
            wy
          else
            (0 : Int64)
set_option maxHeartbeats 4000000 in
set_option maxRecDepth 100000 in
theorem ct_X0_number (l : Launch) (dC : Nat → ClassId) (dI : Nat → Nat → Nat) (ad : Nat → Nat) (h0 sz k : Nat) (hk_k : k < 4) (v1 : Int32) (pl lo hi ba wy : Int64) : Met l yX0_number wsX0_number ({ frames := 0, cells := 0, slots := 0, locals := 0 } : Room) (va_Pc [.ref h0, .int v1] (fun U => axw dC dI ad h0 sz k (pl, lo, hi, ba, wy) U)) (vp_Sl (fun r => r = fn_X0_number k v1 pl lo hi ba wy)) 0 0 (fun _ => False) := by
  refine Met.ofW (cc := cX0_number) (maxL := 2) (ret := (some .long)) (by decide) rfl ?_
  intro p e s m args below meth c s₁ B hml hv
  obtain ⟨rfl, hsz, hP, hK, hD0, hW, hN⟩ := hv
  have hx := B.exec
  have hb := B.bytes
  have hr := B.returns
  have hlocks := B.notSynchronized
  have hts := atoms_spec (ws := wsX0_number) B.pre
  have hown : s.vm.findClass RX0 = some m.cls := findClass_of_methodNamed B.named
  have hin : ∀ w ∈ u_ws RX0 TX0 6, w ∈ wsX0_number := fun _ h => List.mem_cons_of_mem _ (List.mem_append_right _ h)
  subst hsz
  have hD := hD0.self (sz := s.heap.size)
  generalize hAe : va_A [(h0, axE ad k (pl, lo, hi, ba, wy))] s.heap.size = A at hD hW ⊢
  have hA : ∀ q : Nat, s.heap.size ≤ q → A q := fun q h => by rw [← hAe]; exact Or.inr h
  have hS : va_S A s.heap s.heap [] := va_S.rf
  have hP : va_P (dC, dI) vwCl [(h0, .inr (0, [.ref (ad k), .long pl, .long lo, .long hi, .long ba, .long wy]))] s.heap := hP
  have hD : va_D A [(h0, .inr (0, [.ref (ad k), .long pl, .long lo, .long hi, .long ba, .long wy]))] := hD
  have hl := lv_entry ([.ref h0, .int v1]) (n := 2) (Nat.le_of_ble_eq_true rfl)
  rw [lg_entry_eq]
  generalize (lg_sl ([.ref h0, .int v1]) ++ List.replicate (2 - (lg_sl ([.ref h0, .int v1])).length) Slot.unset).toArray = ls at hl ⊢
  have hl : lv_has ls 2 [(0, .ref h0), (1, .int v1)] := hl
  refine lv_iload_n hx hb dX0_number_0 rfl (lv_at hl 1 rfl) ?_
  by_cases q_0 : v1 = (0 : Int32)
  · refine lv_tableIn (off := 35) (tgt := 36) hx hb dX0_number_1 (by rw [q_0]; decide) (by rw [q_0]; decide) (by rw [q_0]; rfl) (by decide) ?_
    refine lv_aload_n hx hb dX0_number_36 rfl (lv_at hl 0 rfl) ?_
    refine va_get (D := (dC, dI)) (ci := 0) (v := .long pl) (C := RX0) (T := TX0) (N := 6) hx hb hts hin hown hK hP 0 rfl rfl 1 (by decide) (hts (.fieldLink RX0 13 "ServoDesk$Axis" "place" "J") (by decide +kernel)) (fun _ h9 => h9) rfl dX0_number_37 ?_
    have e9 : fn_X0_number k v1 pl lo hi ba wy = pl := by unfold fn_X0_number; rw [if_pos q_0]
    exact W.lret (v := pl) hx hb hr (fun t ht hW9 => ⟨_, rfl, by rw [e9], ht⟩) (fun _ h => by cases h) dX0_number_40
  by_cases q_1 : v1 = (1 : Int32)
  · refine lv_tableIn (off := 40) (tgt := 41) hx hb dX0_number_1 (by rw [q_1]; decide) (by rw [q_1]; decide) (by rw [q_1]; rfl) (by decide) ?_
    refine lv_aload_n hx hb dX0_number_41 rfl (lv_at hl 0 rfl) ?_
    refine va_get (D := (dC, dI)) (ci := 0) (v := .long lo) (C := RX0) (T := TX0) (N := 6) hx hb hts hin hown hK hP 0 rfl rfl 2 (by decide) (hts (.fieldLink RX0 23 "ServoDesk$Axis" "low" "J") (by decide +kernel)) (fun _ h9 => h9) rfl dX0_number_42 ?_
    have e9 : fn_X0_number k v1 pl lo hi ba wy = lo := by unfold fn_X0_number; rw [if_neg q_0, if_pos q_1]
    exact W.lret (v := lo) hx hb hr (fun t ht hW9 => ⟨_, rfl, by rw [e9], ht⟩) (fun _ h => by cases h) dX0_number_45
  by_cases q_2 : v1 = (2 : Int32)
  · refine lv_tableIn (off := 45) (tgt := 46) hx hb dX0_number_1 (by rw [q_2]; decide) (by rw [q_2]; decide) (by rw [q_2]; rfl) (by decide) ?_
    refine lv_aload_n hx hb dX0_number_46 rfl (lv_at hl 0 rfl) ?_
    refine va_get (D := (dC, dI)) (ci := 0) (v := .long hi) (C := RX0) (T := TX0) (N := 6) hx hb hts hin hown hK hP 0 rfl rfl 3 (by decide) (hts (.fieldLink RX0 29 "ServoDesk$Axis" "high" "J") (by decide +kernel)) (fun _ h9 => h9) rfl dX0_number_47 ?_
    have e9 : fn_X0_number k v1 pl lo hi ba wy = hi := by unfold fn_X0_number; rw [if_neg q_0, if_neg q_1, if_pos q_2]
    exact W.lret (v := hi) hx hb hr (fun t ht hW9 => ⟨_, rfl, by rw [e9], ht⟩) (fun _ h => by cases h) dX0_number_50
  by_cases q_3 : v1 = (3 : Int32)
  · refine lv_tableIn (off := 50) (tgt := 51) hx hb dX0_number_1 (by rw [q_3]; decide) (by rw [q_3]; decide) (by rw [q_3]; rfl) (by decide) ?_
    refine lv_aload_n hx hb dX0_number_51 rfl (lv_at hl 0 rfl) ?_
    refine va_get (D := (dC, dI)) (ci := 0) (v := .long ba) (C := RX0) (T := TX0) (N := 6) hx hb hts hin hown hK hP 0 rfl rfl 4 (by decide) (hts (.fieldLink RX0 32 "ServoDesk$Axis" "band" "J") (by decide +kernel)) (fun _ h9 => h9) rfl dX0_number_52 ?_
    have e9 : fn_X0_number k v1 pl lo hi ba wy = ba := by unfold fn_X0_number; rw [if_neg q_0, if_neg q_1, if_neg q_2, if_pos q_3]
    exact W.lret (v := ba) hx hb hr (fun t ht hW9 => ⟨_, rfl, by rw [e9], ht⟩) (fun _ h => by cases h) dX0_number_55
  by_cases q_4 : v1 = (4 : Int32)
  · refine lv_tableIn (off := 55) (tgt := 56) hx hb dX0_number_1 (by rw [q_4]; decide) (by rw [q_4]; decide) (by rw [q_4]; rfl) (by decide) ?_
    refine lv_aload_n hx hb dX0_number_56 rfl (lv_at hl 0 rfl) ?_
    refine va_get (D := (dC, dI)) (ci := 0) (v := .long wy) (C := RX0) (T := TX0) (N := 6) hx hb hts hin hown hK hP 0 rfl rfl 5 (by decide) (hts (.fieldLink RX0 35 "ServoDesk$Axis" "way" "J") (by decide +kernel)) (fun _ h9 => h9) rfl dX0_number_57 ?_
    have e9 : fn_X0_number k v1 pl lo hi ba wy = wy := by unfold fn_X0_number; rw [if_neg q_0, if_neg q_1, if_neg q_2, if_neg q_3, if_pos q_4]
    exact W.lret (v := wy) hx hb hr (fun t ht hW9 => ⟨_, rfl, by rw [e9], ht⟩) (fun _ h => by cases h) dX0_number_60
  refine lv_tableOut (tgt := 61) hx hb dX0_number_1 (by have z0 := lv_neT q_0 (a := 0) (by decide); have z1 := lv_neT q_1 (a := 1) (by decide); have z2 := lv_neT q_2 (a := 2) (by decide); have z3 := lv_neT q_3 (a := 3) (by decide); have z4 := lv_neT q_4 (a := 4) (by decide); omega) (by decide) ?_
  refine lv_lconst (v := (0 : Int64)) hx hb dX0_number_61 (by decide) ?_
  have e9 : fn_X0_number k v1 pl lo hi ba wy = (0 : Int64) := by unfold fn_X0_number; rw [if_neg q_0, if_neg q_1, if_neg q_2, if_neg q_3, if_neg q_4]
  exact W.lret (v := (0 : Int64)) hx hb hr (fun t ht hW9 => ⟨_, rfl, by rw [e9], ht⟩) (fun _ h => by cases h) dX0_number_62
def fn_X0_put (k : Nat) (v1 : Int32) (v2 : Int64) (pl lo hi ba wy : Int64) : Int32 × Ax5 :=
  if (fn_X1_isNumber k (fn_X1_fitted k v2)) = 0 then
    ((0 : Int32), (pl, lo, hi, ba, wy))
  else
    if v1 = (0 : Int32) then
      ((1 : Int32), (fn_X1_fitted k v2, lo, hi, ba, wy))
    else
      if v1 = (1 : Int32) then
        ((1 : Int32), (pl, fn_X1_fitted k v2, hi, ba, wy))
      else
        if v1 = (2 : Int32) then
          ((1 : Int32), (pl, lo, fn_X1_fitted k v2, ba, wy))
        else
          if v1 = (3 : Int32) then
            ((1 : Int32), (pl, lo, hi, fn_X1_fitted k v2, wy))
          else
            if v1 = (4 : Int32) then
              ((1 : Int32), (pl, lo, hi, ba, fn_X1_fitted k v2))
            else
              ((0 : Int32), (pl, lo, hi, ba, wy))
set_option maxHeartbeats 4000000 in
set_option maxRecDepth 100000 in
theorem ct_X0_put (l : Launch) (dC : Nat → ClassId) (dI : Nat → Nat → Nat) (ad : Nat → Nat) (h0 sz k : Nat) (hk_k : k < 4) (v1 : Int32) (v2 : Int64) (pl lo hi ba wy : Int64) : Met l yX0_put wsX0_put ({ frames := 3, cells := 0, slots := 0, locals := 67 } : Room) (va_Pc [.ref h0, .int v1, .long v2] (fun U => axw dC dI ad h0 sz k (pl, lo, hi, ba, wy) U)) (va_Qi (fun r (_ : Unit) => r = (fn_X0_put k v1 v2 pl lo hi ba wy).1) (fun _ t => va_P (dC, dI) vwCl [(h0, axE ad k (fn_X0_put k v1 v2 pl lo hi ba wy).2)] t.heap ∧ va_D (va_A [(h0, axE ad k (pl, lo, hi, ba, wy))] sz) [(h0, axE ad k (fn_X0_put k v1 v2 pl lo hi ba wy).2)]) (va_A [(h0, axE ad k (pl, lo, hi, ba, wy))] sz)) 0 0 (va_A [(h0, axE ad k (pl, lo, hi, ba, wy))] sz) := by
  refine Met.ofW (cc := cX0_put) (maxL := 6) (ret := (some .boolean)) (by decide) rfl ?_
  intro p e s m args below meth c s₁ B hml hv
  obtain ⟨rfl, hsz, hP, hK, hD0, hW, hN⟩ := hv
  have hx := B.exec
  have hb := B.bytes
  have hr := B.returns
  have hlocks := B.notSynchronized
  have hts := atoms_spec (ws := wsX0_put) B.pre
  have hown : s.vm.findClass RX0 = some m.cls := findClass_of_methodNamed B.named
  have hin : ∀ w ∈ u_ws RX0 TX0 6, w ∈ wsX0_put := fun _ h => List.mem_cons_of_mem _ (List.mem_append_right _ h)
  subst hsz
  have hD := hD0.self (sz := s.heap.size)
  generalize hAe : va_A [(h0, axE ad k (pl, lo, hi, ba, wy))] s.heap.size = A at hD hW ⊢
  have hA : ∀ q : Nat, s.heap.size ≤ q → A q := fun q h => by rw [← hAe]; exact Or.inr h
  have hS : va_S A s.heap s.heap [] := va_S.rf
  have hP : va_P (dC, dI) vwCl [(h0, .inr (0, [.ref (ad k), .long pl, .long lo, .long hi, .long ba, .long wy]))] s.heap := hP
  have hD : va_D A [(h0, .inr (0, [.ref (ad k), .long pl, .long lo, .long hi, .long ba, .long wy]))] := hD
  have hl := lv_entry ([.ref h0, .int v1, .long v2]) (n := 6) (Nat.le_of_ble_eq_true rfl)
  rw [lg_entry_eq]
  generalize (lg_sl ([.ref h0, .int v1, .long v2]) ++ List.replicate (6 - (lg_sl ([.ref h0, .int v1, .long v2])).length) Slot.unset).toArray = ls at hl ⊢
  have hl : lv_has ls 6 [(0, .ref h0), (1, .int v1), (2, .long v2)] := hl
  refine lv_aload_n hx hb dX0_put_0 rfl (lv_at hl 0 rfl) ?_
  refine va_get (D := (dC, dI)) (ci := 0) (v := .ref (ad k)) (C := RX0) (T := TX0) (N := 6) hx hb hts hin hown hK hP 0 rfl rfl 0 (by decide) (hts (.fieldLink RX0 7 "ServoDesk$Axis" "kind" "LServoDesk$Kind;") (by decide +kernel)) (fun _ h9 => h9) rfl dX0_put_1 ?_
  refine lv_lload_n hx hb dX0_put_4 rfl (lv_at hl 2 rfl) ?_
  refine vp_callSl (va_Run.run (va_runVN (As := [.long v2]) (rest := []) ⟨hx, hb, hml, hown, hts⟩ (ct_X1_fitted l ad k hk_k v2) ⟨va_cnB 1 hts gX0_put_X1_fitted_n38 rfl rfl rfl (nW_X0_38 hN) (hts (.initialized RX1) (by decide +kernel)) (by decide +kernel) ⟨Nat.le_of_ble_eq_true rfl, Nat.le_of_ble_eq_true rfl⟩, hts (.instanceMethod yX1_fitted) (by decide +kernel), hts (.selects RX1 yX1_fitted yX1_fitted) (by decide +kernel)⟩ ⟨(fun a U g mk q => ⟨q.1, kw_blind q.2⟩), kw_recv hW hS hk_k, fun U hU hW9 => ⟨rfl, kw_call hW hS hU hW9⟩⟩ rfl rfl hl.1 rfl (lv_room (Nat.le_of_ble_eq_true rfl)) dX0_put_5 ⟨Nat.zero_le _, Nat.zero_le _⟩)) (fun r er => ?_)
  subst er
  refine lv_lstore (lv' := [(4, .long (fn_X1_fitted k v2)), (0, .ref h0), (1, .int v1), (2, .long v2)]) hx hb dX0_put_8 hl (by decide) rfl (fun ls hl => ?_)
  refine lv_aload_n hx hb dX0_put_10 rfl (lv_at hl 1 rfl) ?_
  refine va_get (D := (dC, dI)) (ci := 0) (v := .ref (ad k)) (C := RX0) (T := TX0) (N := 6) hx hb hts hin hown hK hP 0 rfl rfl 0 (by decide) (hts (.fieldLink RX0 7 "ServoDesk$Axis" "kind" "LServoDesk$Kind;") (by decide +kernel)) (fun _ h9 => h9) rfl dX0_put_11 ?_
  refine lv_lload hx hb dX0_put_14 (lv_at hl 0 rfl) ?_
  refine vp_callSi (va_Run.run (va_runVN (As := [.long (fn_X1_fitted k v2)]) (rest := []) ⟨hx, hb, hml, hown, hts⟩ (ct_X1_isNumber l ad k hk_k (fn_X1_fitted k v2)) ⟨va_cnB 1 hts gX0_put_X1_isNumber_n42 rfl rfl rfl (nW_X0_42 hN) (hts (.initialized RX1) (by decide +kernel)) (by decide +kernel) ⟨Nat.le_of_ble_eq_true rfl, Nat.le_of_ble_eq_true rfl⟩, hts (.instanceMethod yX1_isNumber) (by decide +kernel), hts (.selects RX1 yX1_isNumber yX1_isNumber) (by decide +kernel)⟩ ⟨(fun a U g mk q => ⟨q.1, kw_blind q.2⟩), kw_recv hW hS hk_k, fun U hU hW9 => ⟨rfl, kw_call hW hS hU hW9⟩⟩ rfl rfl hl.1 rfl (lv_room (Nat.le_of_ble_eq_true rfl)) dX0_put_16 ⟨Nat.zero_le _, Nat.zero_le _⟩)) (fun r er => ?_)
  subst er
  refine lv_if_ne (tgt := 24) hx hb dX0_put_19 (by decide) (fun c_1 => ?_) (fun c_1 => ?_)
  · refine lv_iload_n hx hb dX0_put_24 rfl (lv_at hl 2 rfl) ?_
    by_cases q_0 : v1 = (0 : Int32)
    · refine lv_tableIn (off := 35) (tgt := 60) hx hb dX0_put_25 (by rw [q_0]; decide) (by rw [q_0]; decide) (by rw [q_0]; rfl) (by decide) ?_
      refine lv_aload_n hx hb dX0_put_60 rfl (lv_at hl 1 rfl) ?_
      refine lv_lload hx hb dX0_put_61 (lv_at hl 0 rfl) ?_
      refine va_put (D := (dC, dI)) (ci := 0) (v := .long (fn_X1_fitted k v2)) (ty := .long) (C := RX0) (T := TX0) (N := 6) hx hb hts hin tyX0 tyX0_ok nmX0 hown hK hP hD hS 0 rfl rfl 1 (by decide) (hts (.fieldLink RX0 13 "ServoDesk$Axis" "place" "J") (by decide +kernel)) (fun _ h9 => h9) rfl (by decide +kernel) rfl rfl (Nat.le_of_ble_eq_true rfl) dX0_put_63 (fun H locs hP hD hS => ?_)
      have hP : va_P (dC, dI) vwCl [(h0, .inr (0, [.ref (ad k), .long (fn_X1_fitted k v2), .long lo, .long hi, .long ba, .long wy]))] H := hP
      have hD : va_D A [(h0, .inr (0, [.ref (ad k), .long (fn_X1_fitted k v2), .long lo, .long hi, .long ba, .long wy]))] := hD
      refine lv_iconst (v := (1 : Int32)) hx hb dX0_put_66 (by decide) ?_
      have e9 : fn_X0_put k v1 v2 pl lo hi ba wy = ((1 : Int32), (fn_X1_fitted k v2, lo, hi, ba, wy)) := by unfold fn_X0_put; rw [if_neg c_1, if_pos q_0]
      exact W.zret (v := (1 : Int32)) (ty := .boolean) hx hb hr (by decide) (fun t ht hW9 => ⟨⟨_, (), rfl, by rw [e9], by rw [ht, e9]; exact hP, by rw [e9]; exact hD⟩, hS.F ht⟩) hS.2.2 dX0_put_67
    by_cases q_1 : v1 = (1 : Int32)
    · refine lv_tableIn (off := 43) (tgt := 68) hx hb dX0_put_25 (by rw [q_1]; decide) (by rw [q_1]; decide) (by rw [q_1]; rfl) (by decide) ?_
      refine lv_aload_n hx hb dX0_put_68 rfl (lv_at hl 1 rfl) ?_
      refine lv_lload hx hb dX0_put_69 (lv_at hl 0 rfl) ?_
      refine va_put (D := (dC, dI)) (ci := 0) (v := .long (fn_X1_fitted k v2)) (ty := .long) (C := RX0) (T := TX0) (N := 6) hx hb hts hin tyX0 tyX0_ok nmX0 hown hK hP hD hS 0 rfl rfl 2 (by decide) (hts (.fieldLink RX0 23 "ServoDesk$Axis" "low" "J") (by decide +kernel)) (fun _ h9 => h9) rfl (by decide +kernel) rfl rfl (Nat.le_of_ble_eq_true rfl) dX0_put_71 (fun H locs hP hD hS => ?_)
      have hP : va_P (dC, dI) vwCl [(h0, .inr (0, [.ref (ad k), .long pl, .long (fn_X1_fitted k v2), .long hi, .long ba, .long wy]))] H := hP
      have hD : va_D A [(h0, .inr (0, [.ref (ad k), .long pl, .long (fn_X1_fitted k v2), .long hi, .long ba, .long wy]))] := hD
      refine lv_iconst (v := (1 : Int32)) hx hb dX0_put_74 (by decide) ?_
      have e9 : fn_X0_put k v1 v2 pl lo hi ba wy = ((1 : Int32), (pl, fn_X1_fitted k v2, hi, ba, wy)) := by unfold fn_X0_put; rw [if_neg c_1, if_neg q_0, if_pos q_1]
      exact W.zret (v := (1 : Int32)) (ty := .boolean) hx hb hr (by decide) (fun t ht hW9 => ⟨⟨_, (), rfl, by rw [e9], by rw [ht, e9]; exact hP, by rw [e9]; exact hD⟩, hS.F ht⟩) hS.2.2 dX0_put_75
    by_cases q_2 : v1 = (2 : Int32)
    · refine lv_tableIn (off := 51) (tgt := 76) hx hb dX0_put_25 (by rw [q_2]; decide) (by rw [q_2]; decide) (by rw [q_2]; rfl) (by decide) ?_
      refine lv_aload_n hx hb dX0_put_76 rfl (lv_at hl 1 rfl) ?_
      refine lv_lload hx hb dX0_put_77 (lv_at hl 0 rfl) ?_
      refine va_put (D := (dC, dI)) (ci := 0) (v := .long (fn_X1_fitted k v2)) (ty := .long) (C := RX0) (T := TX0) (N := 6) hx hb hts hin tyX0 tyX0_ok nmX0 hown hK hP hD hS 0 rfl rfl 3 (by decide) (hts (.fieldLink RX0 29 "ServoDesk$Axis" "high" "J") (by decide +kernel)) (fun _ h9 => h9) rfl (by decide +kernel) rfl rfl (Nat.le_of_ble_eq_true rfl) dX0_put_79 (fun H locs hP hD hS => ?_)
      have hP : va_P (dC, dI) vwCl [(h0, .inr (0, [.ref (ad k), .long pl, .long lo, .long (fn_X1_fitted k v2), .long ba, .long wy]))] H := hP
      have hD : va_D A [(h0, .inr (0, [.ref (ad k), .long pl, .long lo, .long (fn_X1_fitted k v2), .long ba, .long wy]))] := hD
      refine lv_iconst (v := (1 : Int32)) hx hb dX0_put_82 (by decide) ?_
      have e9 : fn_X0_put k v1 v2 pl lo hi ba wy = ((1 : Int32), (pl, lo, fn_X1_fitted k v2, ba, wy)) := by unfold fn_X0_put; rw [if_neg c_1, if_neg q_0, if_neg q_1, if_pos q_2]
      exact W.zret (v := (1 : Int32)) (ty := .boolean) hx hb hr (by decide) (fun t ht hW9 => ⟨⟨_, (), rfl, by rw [e9], by rw [ht, e9]; exact hP, by rw [e9]; exact hD⟩, hS.F ht⟩) hS.2.2 dX0_put_83
    by_cases q_3 : v1 = (3 : Int32)
    · refine lv_tableIn (off := 59) (tgt := 84) hx hb dX0_put_25 (by rw [q_3]; decide) (by rw [q_3]; decide) (by rw [q_3]; rfl) (by decide) ?_
      refine lv_aload_n hx hb dX0_put_84 rfl (lv_at hl 1 rfl) ?_
      refine lv_lload hx hb dX0_put_85 (lv_at hl 0 rfl) ?_
      refine va_put (D := (dC, dI)) (ci := 0) (v := .long (fn_X1_fitted k v2)) (ty := .long) (C := RX0) (T := TX0) (N := 6) hx hb hts hin tyX0 tyX0_ok nmX0 hown hK hP hD hS 0 rfl rfl 4 (by decide) (hts (.fieldLink RX0 32 "ServoDesk$Axis" "band" "J") (by decide +kernel)) (fun _ h9 => h9) rfl (by decide +kernel) rfl rfl (Nat.le_of_ble_eq_true rfl) dX0_put_87 (fun H locs hP hD hS => ?_)
      have hP : va_P (dC, dI) vwCl [(h0, .inr (0, [.ref (ad k), .long pl, .long lo, .long hi, .long (fn_X1_fitted k v2), .long wy]))] H := hP
      have hD : va_D A [(h0, .inr (0, [.ref (ad k), .long pl, .long lo, .long hi, .long (fn_X1_fitted k v2), .long wy]))] := hD
      refine lv_iconst (v := (1 : Int32)) hx hb dX0_put_90 (by decide) ?_
      have e9 : fn_X0_put k v1 v2 pl lo hi ba wy = ((1 : Int32), (pl, lo, hi, fn_X1_fitted k v2, wy)) := by unfold fn_X0_put; rw [if_neg c_1, if_neg q_0, if_neg q_1, if_neg q_2, if_pos q_3]
      exact W.zret (v := (1 : Int32)) (ty := .boolean) hx hb hr (by decide) (fun t ht hW9 => ⟨⟨_, (), rfl, by rw [e9], by rw [ht, e9]; exact hP, by rw [e9]; exact hD⟩, hS.F ht⟩) hS.2.2 dX0_put_91
    by_cases q_4 : v1 = (4 : Int32)
    · refine lv_tableIn (off := 67) (tgt := 92) hx hb dX0_put_25 (by rw [q_4]; decide) (by rw [q_4]; decide) (by rw [q_4]; rfl) (by decide) ?_
      refine lv_aload_n hx hb dX0_put_92 rfl (lv_at hl 1 rfl) ?_
      refine lv_lload hx hb dX0_put_93 (lv_at hl 0 rfl) ?_
      refine va_put (D := (dC, dI)) (ci := 0) (v := .long (fn_X1_fitted k v2)) (ty := .long) (C := RX0) (T := TX0) (N := 6) hx hb hts hin tyX0 tyX0_ok nmX0 hown hK hP hD hS 0 rfl rfl 5 (by decide) (hts (.fieldLink RX0 35 "ServoDesk$Axis" "way" "J") (by decide +kernel)) (fun _ h9 => h9) rfl (by decide +kernel) rfl rfl (Nat.le_of_ble_eq_true rfl) dX0_put_95 (fun H locs hP hD hS => ?_)
      have hP : va_P (dC, dI) vwCl [(h0, .inr (0, [.ref (ad k), .long pl, .long lo, .long hi, .long ba, .long (fn_X1_fitted k v2)]))] H := hP
      have hD : va_D A [(h0, .inr (0, [.ref (ad k), .long pl, .long lo, .long hi, .long ba, .long (fn_X1_fitted k v2)]))] := hD
      refine lv_iconst (v := (1 : Int32)) hx hb dX0_put_98 (by decide) ?_
      have e9 : fn_X0_put k v1 v2 pl lo hi ba wy = ((1 : Int32), (pl, lo, hi, ba, fn_X1_fitted k v2)) := by unfold fn_X0_put; rw [if_neg c_1, if_neg q_0, if_neg q_1, if_neg q_2, if_neg q_3, if_pos q_4]
      exact W.zret (v := (1 : Int32)) (ty := .boolean) hx hb hr (by decide) (fun t ht hW9 => ⟨⟨_, (), rfl, by rw [e9], by rw [ht, e9]; exact hP, by rw [e9]; exact hD⟩, hS.F ht⟩) hS.2.2 dX0_put_99
    refine lv_tableOut (tgt := 100) hx hb dX0_put_25 (by have z0 := lv_neT q_0 (a := 0) (by decide); have z1 := lv_neT q_1 (a := 1) (by decide); have z2 := lv_neT q_2 (a := 2) (by decide); have z3 := lv_neT q_3 (a := 3) (by decide); have z4 := lv_neT q_4 (a := 4) (by decide); omega) (by decide) ?_
    refine lv_iconst (v := (0 : Int32)) hx hb dX0_put_100 (by decide) ?_
    have e9 : fn_X0_put k v1 v2 pl lo hi ba wy = ((0 : Int32), (pl, lo, hi, ba, wy)) := by unfold fn_X0_put; rw [if_neg c_1, if_neg q_0, if_neg q_1, if_neg q_2, if_neg q_3, if_neg q_4]
    exact W.zret (v := (0 : Int32)) (ty := .boolean) hx hb hr (by decide) (fun t ht hW9 => ⟨⟨_, (), rfl, by rw [e9], by rw [ht, e9]; exact hP, by rw [e9]; exact hD⟩, hS.F ht⟩) hS.2.2 dX0_put_101
  · refine lv_iconst (v := (0 : Int32)) hx hb dX0_put_22 (by decide) ?_
    have e9 : fn_X0_put k v1 v2 pl lo hi ba wy = ((0 : Int32), (pl, lo, hi, ba, wy)) := by unfold fn_X0_put; rw [if_pos c_1]
    exact W.zret (v := (0 : Int32)) (ty := .boolean) hx hb hr (by decide) (fun t ht hW9 => ⟨⟨_, (), rfl, by rw [e9], by rw [ht, e9]; exact hP, by rw [e9]; exact hD⟩, hS.F ht⟩) hS.2.2 dX0_put_23
def fn_X0_moveTo (k : Nat) (j : Nat) (gl0 : Int64) (pl lo hi ba wy : Int64) : Ax5 :=
  (fn_X1_made k j gl0, lo, hi, ba, wy)
set_option maxHeartbeats 4000000 in
set_option maxRecDepth 100000 in
theorem ct_X0_moveTo (l : Launch) (dC : Nat → ClassId) (dI : Nat → Nat → Nat) (ad : Nat → Nat) (h0 h1 sz k : Nat) (hk_k : k < 4) (j : Nat) (hk_j : j < 4) (gl0 gl1 gl2 gl3 gl4 : Int64) (pl lo hi ba wy : Int64) : Met l yX0_moveTo wsX0_moveTo ({ frames := 4, cells := 0, slots := 0, locals := 105 } : Room) (va_Pc [.ref h0, .ref h1] (fun U => axw dC dI ad h0 sz k (pl, lo, hi, ba, wy) U ∧ va_P (dC, dI) vwCl [(h1, axE ad j (gl0, gl1, gl2, gl3, gl4))] U.heap)) (va_Qv (fun _ : Unit => True) (fun _ t => va_P (dC, dI) vwCl [(h0, axE ad k (fn_X0_moveTo k j gl0 pl lo hi ba wy))] t.heap ∧ va_D (va_A [(h0, axE ad k (pl, lo, hi, ba, wy))] sz) [(h0, axE ad k (fn_X0_moveTo k j gl0 pl lo hi ba wy))]) (va_A [(h0, axE ad k (pl, lo, hi, ba, wy))] sz)) 0 0 (va_A [(h0, axE ad k (pl, lo, hi, ba, wy))] sz) := by
  refine Met.ofW (cc := cX0_moveTo) (maxL := 2) (ret := none) (by decide) rfl ?_
  intro p e s m args below meth c s₁ B hml hv
  obtain ⟨rfl, ⟨hsz, hP, hK, hD0, hW, hN⟩, hPb⟩ := hv
  have hx := B.exec
  have hb := B.bytes
  have hr := B.returns
  have hlocks := B.notSynchronized
  have hts := atoms_spec (ws := wsX0_moveTo) B.pre
  have hown : s.vm.findClass RX0 = some m.cls := findClass_of_methodNamed B.named
  have hin : ∀ w ∈ u_ws RX0 TX0 6, w ∈ wsX0_moveTo := fun _ h => List.mem_cons_of_mem _ (List.mem_append_right _ h)
  subst hsz
  have hD := hD0.self (sz := s.heap.size)
  generalize hAe : va_A [(h0, axE ad k (pl, lo, hi, ba, wy))] s.heap.size = A at hD hW ⊢
  have hA : ∀ q : Nat, s.heap.size ≤ q → A q := fun q h => by rw [← hAe]; exact Or.inr h
  have hS : va_S A s.heap s.heap [] := va_S.rf
  have hP : va_P (dC, dI) vwCl [(h0, .inr (0, [.ref (ad k), .long pl, .long lo, .long hi, .long ba, .long wy]))] s.heap := hP
  have hD : va_D A [(h0, .inr (0, [.ref (ad k), .long pl, .long lo, .long hi, .long ba, .long wy]))] := hD
  have hPb : va_P (dC, dI) vwCl [(h1, .inr (0, [.ref (ad j), .long gl0, .long gl1, .long gl2, .long gl3, .long gl4]))] s.heap := hPb
  have hl := lv_entry ([.ref h0, .ref h1]) (n := 2) (Nat.le_of_ble_eq_true rfl)
  rw [lg_entry_eq]
  generalize (lg_sl ([.ref h0, .ref h1]) ++ List.replicate (2 - (lg_sl ([.ref h0, .ref h1])).length) Slot.unset).toArray = ls at hl ⊢
  have hl : lv_has ls 2 [(0, .ref h0), (1, .ref h1)] := hl
  refine lv_aload_n hx hb dX0_moveTo_0 rfl (lv_at hl 0 rfl) ?_
  refine lv_aload_n hx hb dX0_moveTo_1 rfl (lv_at hl 0 rfl) ?_
  refine va_get (D := (dC, dI)) (ci := 0) (v := .ref (ad k)) (C := RX0) (T := TX0) (N := 6) hx hb hts hin hown hK hP 0 rfl rfl 0 (by decide) (hts (.fieldLink RX0 7 "ServoDesk$Axis" "kind" "LServoDesk$Kind;") (by decide +kernel)) (fun _ h9 => h9) rfl dX0_moveTo_2 ?_
  refine lv_aload_n hx hb dX0_moveTo_5 rfl (lv_at hl 1 rfl) ?_
  refine va_get (D := (dC, dI)) (ci := 0) (v := .ref (ad j)) (C := RX0) (T := TX0) (N := 6) hx hb hts hin hown hK hPb 0 rfl rfl 0 (by decide) (hts (.fieldLink RX0 7 "ServoDesk$Axis" "kind" "LServoDesk$Kind;") (by decide +kernel)) (fun _ h9 => h9) rfl dX0_moveTo_6 ?_
  refine lv_aload_n hx hb dX0_moveTo_9 rfl (lv_at hl 1 rfl) ?_
  refine va_get (D := (dC, dI)) (ci := 0) (v := .long gl0) (C := RX0) (T := TX0) (N := 6) hx hb hts hin hown hK hPb 0 rfl rfl 1 (by decide) (hts (.fieldLink RX0 13 "ServoDesk$Axis" "place" "J") (by decide +kernel)) (fun _ h9 => h9) rfl dX0_moveTo_10 ?_
  refine vp_callSl (va_Run.run (va_runVN (As := [.ref (ad j), .long gl0]) (rest := [.ref h0]) ⟨hx, hb, hml, hown, hts⟩ (ct_X1_made l ad k hk_k j hk_j gl0) ⟨va_cnB 2 hts gX0_moveTo_X1_made_n46 rfl rfl rfl (nW_X0_46 hN) (hts (.initialized RX1) (by decide +kernel)) (by decide +kernel) ⟨Nat.le_of_ble_eq_true rfl, Nat.le_of_ble_eq_true rfl⟩, hts (.instanceMethod yX1_made) (by decide +kernel), hts (.selects RX1 yX1_made yX1_made) (by decide +kernel)⟩ ⟨(fun a U g mk q => ⟨q.1, kw_blind q.2⟩), kw_recv hW hS hk_k, fun U hU hW9 => ⟨rfl, kw_call hW hS hU hW9⟩⟩ rfl rfl hl.1 rfl (lv_room (Nat.le_of_ble_eq_true rfl)) dX0_moveTo_13 ⟨Nat.zero_le _, Nat.zero_le _⟩)) (fun r er => ?_)
  subst er
  refine va_put (D := (dC, dI)) (ci := 0) (v := .long (fn_X1_made k j gl0)) (ty := .long) (C := RX0) (T := TX0) (N := 6) hx hb hts hin tyX0 tyX0_ok nmX0 hown hK hP hD hS 0 rfl rfl 1 (by decide) (hts (.fieldLink RX0 13 "ServoDesk$Axis" "place" "J") (by decide +kernel)) (fun _ h9 => h9) rfl (by decide +kernel) rfl rfl (Nat.le_of_ble_eq_true rfl) dX0_moveTo_16 (fun H locs hP hD hS => ?_)
  have hP : va_P (dC, dI) vwCl [(h0, .inr (0, [.ref (ad k), .long (fn_X1_made k j gl0), .long lo, .long hi, .long ba, .long wy]))] H := hP
  have hD : va_D A [(h0, .inr (0, [.ref (ad k), .long (fn_X1_made k j gl0), .long lo, .long hi, .long ba, .long wy]))] := hD
  have e9 : fn_X0_moveTo k j gl0 pl lo hi ba wy = (fn_X1_made k j gl0, lo, hi, ba, wy) := by unfold fn_X0_moveTo; rfl
  exact W.vret hx hb hr (fun t ht hW9 => ⟨⟨(), rfl, trivial, by rw [ht, e9]; exact hP, by rw [e9]; exact hD⟩, hS.F ht⟩) hS.2.2 dX0_moveTo_19
def fn_X0_look (k : Nat) (pl lo hi ba wy : Int64) : Ax5 :=
  if (fn_X1_sized k pl) = (0 : Int64) then
    (pl, lo, hi, ba, pl)
  else
    (pl, lo, hi, ba, fn_X1_turned k (fn_X1_one k) pl)
set_option maxHeartbeats 4000000 in
set_option maxRecDepth 100000 in
theorem ct_X0_look (l : Launch) (dC : Nat → ClassId) (dI : Nat → Nat → Nat) (ad : Nat → Nat) (h0 sz k : Nat) (hk_k : k < 4) (pl lo hi ba wy : Int64) : Met l yX0_look wsX0_look ({ frames := 3, cells := 0, slots := 0, locals := 71 } : Room) (va_Pc [.ref h0] (fun U => axw dC dI ad h0 sz k (pl, lo, hi, ba, wy) U)) (va_Qv (fun _ : Unit => True) (fun _ t => va_P (dC, dI) vwCl [(h0, axE ad k (fn_X0_look k pl lo hi ba wy))] t.heap ∧ va_D (va_A [(h0, axE ad k (pl, lo, hi, ba, wy))] sz) [(h0, axE ad k (fn_X0_look k pl lo hi ba wy))]) (va_A [(h0, axE ad k (pl, lo, hi, ba, wy))] sz)) 0 0 (va_A [(h0, axE ad k (pl, lo, hi, ba, wy))] sz) := by
  refine Met.ofW (cc := cX0_look) (maxL := 1) (ret := none) (by decide) rfl ?_
  intro p e s m args below meth c s₁ B hml hv
  obtain ⟨rfl, hsz, hP, hK, hD0, hW, hN⟩ := hv
  have hx := B.exec
  have hb := B.bytes
  have hr := B.returns
  have hlocks := B.notSynchronized
  have hts := atoms_spec (ws := wsX0_look) B.pre
  have hown : s.vm.findClass RX0 = some m.cls := findClass_of_methodNamed B.named
  have hin : ∀ w ∈ u_ws RX0 TX0 6, w ∈ wsX0_look := fun _ h => List.mem_cons_of_mem _ (List.mem_append_right _ h)
  subst hsz
  have hD := hD0.self (sz := s.heap.size)
  generalize hAe : va_A [(h0, axE ad k (pl, lo, hi, ba, wy))] s.heap.size = A at hD hW ⊢
  have hA : ∀ q : Nat, s.heap.size ≤ q → A q := fun q h => by rw [← hAe]; exact Or.inr h
  have hS : va_S A s.heap s.heap [] := va_S.rf
  have hP : va_P (dC, dI) vwCl [(h0, .inr (0, [.ref (ad k), .long pl, .long lo, .long hi, .long ba, .long wy]))] s.heap := hP
  have hD : va_D A [(h0, .inr (0, [.ref (ad k), .long pl, .long lo, .long hi, .long ba, .long wy]))] := hD
  have hl := lv_entry ([.ref h0]) (n := 1) (Nat.le_of_ble_eq_true rfl)
  rw [lg_entry_eq]
  generalize (lg_sl ([.ref h0]) ++ List.replicate (1 - (lg_sl ([.ref h0])).length) Slot.unset).toArray = ls at hl ⊢
  have hl : lv_has ls 1 [(0, .ref h0)] := hl
  refine lv_aload_n hx hb dX0_look_0 rfl (lv_at hl 0 rfl) ?_
  refine lv_aload_n hx hb dX0_look_1 rfl (lv_at hl 0 rfl) ?_
  refine va_get (D := (dC, dI)) (ci := 0) (v := .ref (ad k)) (C := RX0) (T := TX0) (N := 6) hx hb hts hin hown hK hP 0 rfl rfl 0 (by decide) (hts (.fieldLink RX0 7 "ServoDesk$Axis" "kind" "LServoDesk$Kind;") (by decide +kernel)) (fun _ h9 => h9) rfl dX0_look_2 ?_
  refine lv_aload_n hx hb dX0_look_5 rfl (lv_at hl 0 rfl) ?_
  refine va_get (D := (dC, dI)) (ci := 0) (v := .long pl) (C := RX0) (T := TX0) (N := 6) hx hb hts hin hown hK hP 0 rfl rfl 1 (by decide) (hts (.fieldLink RX0 13 "ServoDesk$Axis" "place" "J") (by decide +kernel)) (fun _ h9 => h9) rfl dX0_look_6 ?_
  refine vp_callSl (va_Run.run (va_runVN (As := [.long pl]) (rest := [.ref h0]) ⟨hx, hb, hml, hown, hts⟩ (ct_X1_sized l ad k hk_k pl) ⟨va_cnB 1 hts gX0_look_X1_sized_n57 rfl rfl rfl (nW_X0_57 hN) (hts (.initialized RX1) (by decide +kernel)) (by decide +kernel) ⟨Nat.le_of_ble_eq_true rfl, Nat.le_of_ble_eq_true rfl⟩, hts (.instanceMethod yX1_sized) (by decide +kernel), hts (.selects RX1 yX1_sized yX1_sized) (by decide +kernel)⟩ ⟨(fun a U g mk q => ⟨q.1, kw_blind q.2⟩), kw_recv hW hS hk_k, fun U hU hW9 => ⟨rfl, kw_call hW hS hU hW9⟩⟩ rfl rfl hl.1 rfl (lv_room (Nat.le_of_ble_eq_true rfl)) dX0_look_9 ⟨Nat.zero_le _, Nat.zero_le _⟩)) (fun r er => ?_)
  subst er
  refine lv_lconst (v := (0 : Int64)) hx hb dX0_look_12 (by decide) ?_
  refine zl_ne (tgt := 24) hx hb dX0_look_13 dX0_look_14 (by decide) (fun c_1 => ?_) (fun c_1 => ?_)
  · refine lv_aload_n hx hb dX0_look_24 rfl (lv_at hl 0 rfl) ?_
    refine va_get (D := (dC, dI)) (ci := 0) (v := .ref (ad k)) (C := RX0) (T := TX0) (N := 6) hx hb hts hin hown hK hP 0 rfl rfl 0 (by decide) (hts (.fieldLink RX0 7 "ServoDesk$Axis" "kind" "LServoDesk$Kind;") (by decide +kernel)) (fun _ h9 => h9) rfl dX0_look_25 ?_
    refine lv_aload_n hx hb dX0_look_28 rfl (lv_at hl 0 rfl) ?_
    refine va_get (D := (dC, dI)) (ci := 0) (v := .ref (ad k)) (C := RX0) (T := TX0) (N := 6) hx hb hts hin hown hK hP 0 rfl rfl 0 (by decide) (hts (.fieldLink RX0 7 "ServoDesk$Axis" "kind" "LServoDesk$Kind;") (by decide +kernel)) (fun _ h9 => h9) rfl dX0_look_29 ?_
    refine vp_callSl (va_Run.run (va_runVN (As := []) (rest := [.ref (ad k), .ref h0]) ⟨hx, hb, hml, hown, hts⟩ (ct_X1_one l ad k hk_k) ⟨va_cnB 0 hts gX0_look_X1_one_n87 rfl rfl rfl (nW_X0_87 hN) (hts (.initialized RX1) (by decide +kernel)) (by decide +kernel) ⟨Nat.le_of_ble_eq_true rfl, Nat.le_of_ble_eq_true rfl⟩, hts (.instanceMethod yX1_one) (by decide +kernel), hts (.selects RX1 yX1_one yX1_one) (by decide +kernel)⟩ ⟨(fun a U g mk q => ⟨q.1, kw_blind q.2⟩), kw_recv hW hS hk_k, fun U hU hW9 => ⟨rfl, kw_call hW hS hU hW9⟩⟩ rfl rfl hl.1 rfl (lv_room (Nat.le_of_ble_eq_true rfl)) dX0_look_32 ⟨Nat.zero_le _, Nat.zero_le _⟩)) (fun r er => ?_)
    subst er
    refine lv_aload_n hx hb dX0_look_35 rfl (lv_at hl 0 rfl) ?_
    refine va_get (D := (dC, dI)) (ci := 0) (v := .long pl) (C := RX0) (T := TX0) (N := 6) hx hb hts hin hown hK hP 0 rfl rfl 1 (by decide) (hts (.fieldLink RX0 13 "ServoDesk$Axis" "place" "J") (by decide +kernel)) (fun _ h9 => h9) rfl dX0_look_36 ?_
    refine vp_callSl (va_Run.run (va_runVN (As := [.long (fn_X1_one k), .long pl]) (rest := [.ref h0]) ⟨hx, hb, hml, hown, hts⟩ (ct_X1_turned l ad k hk_k (fn_X1_one k) pl) ⟨va_cnB 2 hts gX0_look_X1_turned_n72 rfl rfl rfl (nW_X0_72 hN) (hts (.initialized RX1) (by decide +kernel)) (by decide +kernel) ⟨Nat.le_of_ble_eq_true rfl, Nat.le_of_ble_eq_true rfl⟩, hts (.instanceMethod yX1_turned) (by decide +kernel), hts (.selects RX1 yX1_turned yX1_turned) (by decide +kernel)⟩ ⟨(fun a U g mk q => ⟨q.1, kw_blind q.2⟩), kw_recv hW hS hk_k, fun U hU hW9 => ⟨rfl, kw_call hW hS hU hW9⟩⟩ rfl rfl hl.1 rfl (lv_room (Nat.le_of_ble_eq_true rfl)) dX0_look_39 ⟨Nat.zero_le _, Nat.zero_le _⟩)) (fun r er => ?_)
    subst er
    refine va_put (D := (dC, dI)) (ci := 0) (v := .long (fn_X1_turned k (fn_X1_one k) pl)) (ty := .long) (C := RX0) (T := TX0) (N := 6) hx hb hts hin tyX0 tyX0_ok nmX0 hown hK hP hD hS 0 rfl rfl 5 (by decide) (hts (.fieldLink RX0 35 "ServoDesk$Axis" "way" "J") (by decide +kernel)) (fun _ h9 => h9) rfl (by decide +kernel) rfl rfl (Nat.le_of_ble_eq_true rfl) dX0_look_42 (fun H locs hP hD hS => ?_)
    have hP : va_P (dC, dI) vwCl [(h0, .inr (0, [.ref (ad k), .long pl, .long lo, .long hi, .long ba, .long (fn_X1_turned k (fn_X1_one k) pl)]))] H := hP
    have hD : va_D A [(h0, .inr (0, [.ref (ad k), .long pl, .long lo, .long hi, .long ba, .long (fn_X1_turned k (fn_X1_one k) pl)]))] := hD
    have e9 : fn_X0_look k pl lo hi ba wy = (pl, lo, hi, ba, fn_X1_turned k (fn_X1_one k) pl) := by unfold fn_X0_look; rw [if_neg c_1]
    exact W.vret hx hb hr (fun t ht hW9 => ⟨⟨(), rfl, trivial, by rw [ht, e9]; exact hP, by rw [e9]; exact hD⟩, hS.F ht⟩) hS.2.2 dX0_look_45
  · refine lv_aload_n hx hb dX0_look_17 rfl (lv_at hl 0 rfl) ?_
    refine va_get (D := (dC, dI)) (ci := 0) (v := .long pl) (C := RX0) (T := TX0) (N := 6) hx hb hts hin hown hK hP 0 rfl rfl 1 (by decide) (hts (.fieldLink RX0 13 "ServoDesk$Axis" "place" "J") (by decide +kernel)) (fun _ h9 => h9) rfl dX0_look_18 ?_
    refine lv_goto (tgt := 42) hx hb dX0_look_21 (by decide) ?_
    refine va_put (D := (dC, dI)) (ci := 0) (v := .long pl) (ty := .long) (C := RX0) (T := TX0) (N := 6) hx hb hts hin tyX0 tyX0_ok nmX0 hown hK hP hD hS 0 rfl rfl 5 (by decide) (hts (.fieldLink RX0 35 "ServoDesk$Axis" "way" "J") (by decide +kernel)) (fun _ h9 => h9) rfl (by decide +kernel) rfl rfl (Nat.le_of_ble_eq_true rfl) dX0_look_42 (fun H locs hP hD hS => ?_)
    have hP : va_P (dC, dI) vwCl [(h0, .inr (0, [.ref (ad k), .long pl, .long lo, .long hi, .long ba, .long pl]))] H := hP
    have hD : va_D A [(h0, .inr (0, [.ref (ad k), .long pl, .long lo, .long hi, .long ba, .long pl]))] := hD
    have e9 : fn_X0_look k pl lo hi ba wy = (pl, lo, hi, ba, pl) := by unfold fn_X0_look; rw [if_pos c_1]
    exact W.vret hx hb hr (fun t ht hW9 => ⟨⟨(), rfl, trivial, by rw [ht, e9]; exact hP, by rw [e9]; exact hD⟩, hS.F ht⟩) hS.2.2 dX0_look_45
def fn_X0_widen (k : Nat) (pl lo hi ba wy : Int64) : Ax5 :=
  (pl, fn_X1_lesser k lo pl, fn_X1_greater k hi pl, ba, wy)
set_option maxHeartbeats 4000000 in
set_option maxRecDepth 100000 in
theorem ct_X0_widen (l : Launch) (dC : Nat → ClassId) (dI : Nat → Nat → Nat) (ad : Nat → Nat) (h0 sz k : Nat) (hk_k : k < 4) (pl lo hi ba wy : Int64) : Met l yX0_widen wsX0_widen ({ frames := 3, cells := 0, slots := 0, locals := 71 } : Room) (va_Pc [.ref h0] (fun U => axw dC dI ad h0 sz k (pl, lo, hi, ba, wy) U)) (va_Qv (fun _ : Unit => True) (fun _ t => va_P (dC, dI) vwCl [(h0, axE ad k (fn_X0_widen k pl lo hi ba wy))] t.heap ∧ va_D (va_A [(h0, axE ad k (pl, lo, hi, ba, wy))] sz) [(h0, axE ad k (fn_X0_widen k pl lo hi ba wy))]) (va_A [(h0, axE ad k (pl, lo, hi, ba, wy))] sz)) 0 0 (va_A [(h0, axE ad k (pl, lo, hi, ba, wy))] sz) := by
  refine Met.ofW (cc := cX0_widen) (maxL := 1) (ret := none) (by decide) rfl ?_
  intro p e s m args below meth c s₁ B hml hv
  obtain ⟨rfl, hsz, hP, hK, hD0, hW, hN⟩ := hv
  have hx := B.exec
  have hb := B.bytes
  have hr := B.returns
  have hlocks := B.notSynchronized
  have hts := atoms_spec (ws := wsX0_widen) B.pre
  have hown : s.vm.findClass RX0 = some m.cls := findClass_of_methodNamed B.named
  have hin : ∀ w ∈ u_ws RX0 TX0 6, w ∈ wsX0_widen := fun _ h => List.mem_cons_of_mem _ (List.mem_append_right _ h)
  subst hsz
  have hD := hD0.self (sz := s.heap.size)
  generalize hAe : va_A [(h0, axE ad k (pl, lo, hi, ba, wy))] s.heap.size = A at hD hW ⊢
  have hA : ∀ q : Nat, s.heap.size ≤ q → A q := fun q h => by rw [← hAe]; exact Or.inr h
  have hS : va_S A s.heap s.heap [] := va_S.rf
  have hP : va_P (dC, dI) vwCl [(h0, .inr (0, [.ref (ad k), .long pl, .long lo, .long hi, .long ba, .long wy]))] s.heap := hP
  have hD : va_D A [(h0, .inr (0, [.ref (ad k), .long pl, .long lo, .long hi, .long ba, .long wy]))] := hD
  have hl := lv_entry ([.ref h0]) (n := 1) (Nat.le_of_ble_eq_true rfl)
  rw [lg_entry_eq]
  generalize (lg_sl ([.ref h0]) ++ List.replicate (1 - (lg_sl ([.ref h0])).length) Slot.unset).toArray = ls at hl ⊢
  have hl : lv_has ls 1 [(0, .ref h0)] := hl
  refine lv_aload_n hx hb dX0_widen_0 rfl (lv_at hl 0 rfl) ?_
  refine lv_aload_n hx hb dX0_widen_1 rfl (lv_at hl 0 rfl) ?_
  refine va_get (D := (dC, dI)) (ci := 0) (v := .ref (ad k)) (C := RX0) (T := TX0) (N := 6) hx hb hts hin hown hK hP 0 rfl rfl 0 (by decide) (hts (.fieldLink RX0 7 "ServoDesk$Axis" "kind" "LServoDesk$Kind;") (by decide +kernel)) (fun _ h9 => h9) rfl dX0_widen_2 ?_
  refine lv_aload_n hx hb dX0_widen_5 rfl (lv_at hl 0 rfl) ?_
  refine va_get (D := (dC, dI)) (ci := 0) (v := .long hi) (C := RX0) (T := TX0) (N := 6) hx hb hts hin hown hK hP 0 rfl rfl 3 (by decide) (hts (.fieldLink RX0 29 "ServoDesk$Axis" "high" "J") (by decide +kernel)) (fun _ h9 => h9) rfl dX0_widen_6 ?_
  refine lv_aload_n hx hb dX0_widen_9 rfl (lv_at hl 0 rfl) ?_
  refine va_get (D := (dC, dI)) (ci := 0) (v := .long pl) (C := RX0) (T := TX0) (N := 6) hx hb hts hin hown hK hP 0 rfl rfl 1 (by decide) (hts (.fieldLink RX0 13 "ServoDesk$Axis" "place" "J") (by decide +kernel)) (fun _ h9 => h9) rfl dX0_widen_10 ?_
  refine vp_callSl (va_Run.run (va_runVN (As := [.long hi, .long pl]) (rest := [.ref h0]) ⟨hx, hb, hml, hown, hts⟩ (ct_X1_greater l ad k hk_k hi pl) ⟨va_cnB 2 hts gX0_widen_X1_greater_n54 rfl rfl rfl (nW_X0_54 hN) (hts (.initialized RX1) (by decide +kernel)) (by decide +kernel) ⟨Nat.le_of_ble_eq_true rfl, Nat.le_of_ble_eq_true rfl⟩, hts (.instanceMethod yX1_greater) (by decide +kernel), hts (.selects RX1 yX1_greater yX1_greater) (by decide +kernel)⟩ ⟨(fun a U g mk q => ⟨q.1, kw_blind q.2⟩), kw_recv hW hS hk_k, fun U hU hW9 => ⟨rfl, kw_call hW hS hU hW9⟩⟩ rfl rfl hl.1 rfl (lv_room (Nat.le_of_ble_eq_true rfl)) dX0_widen_13 ⟨Nat.zero_le _, Nat.zero_le _⟩)) (fun r er => ?_)
  subst er
  refine va_put (D := (dC, dI)) (ci := 0) (v := .long (fn_X1_greater k hi pl)) (ty := .long) (C := RX0) (T := TX0) (N := 6) hx hb hts hin tyX0 tyX0_ok nmX0 hown hK hP hD hS 0 rfl rfl 3 (by decide) (hts (.fieldLink RX0 29 "ServoDesk$Axis" "high" "J") (by decide +kernel)) (fun _ h9 => h9) rfl (by decide +kernel) rfl rfl (Nat.le_of_ble_eq_true rfl) dX0_widen_16 (fun H locs hP hD hS => ?_)
  have hP : va_P (dC, dI) vwCl [(h0, .inr (0, [.ref (ad k), .long pl, .long lo, .long (fn_X1_greater k hi pl), .long ba, .long wy]))] H := hP
  have hD : va_D A [(h0, .inr (0, [.ref (ad k), .long pl, .long lo, .long (fn_X1_greater k hi pl), .long ba, .long wy]))] := hD
  refine lv_aload_n hx hb dX0_widen_19 rfl (lv_at hl 0 rfl) ?_
  refine lv_aload_n hx hb dX0_widen_20 rfl (lv_at hl 0 rfl) ?_
  refine va_get (D := (dC, dI)) (ci := 0) (v := .ref (ad k)) (C := RX0) (T := TX0) (N := 6) hx hb hts hin hown hK hP 0 rfl rfl 0 (by decide) (hts (.fieldLink RX0 7 "ServoDesk$Axis" "kind" "LServoDesk$Kind;") (by decide +kernel)) (fun _ h9 => h9) rfl dX0_widen_21 ?_
  refine lv_aload_n hx hb dX0_widen_24 rfl (lv_at hl 0 rfl) ?_
  refine va_get (D := (dC, dI)) (ci := 0) (v := .long lo) (C := RX0) (T := TX0) (N := 6) hx hb hts hin hown hK hP 0 rfl rfl 2 (by decide) (hts (.fieldLink RX0 23 "ServoDesk$Axis" "low" "J") (by decide +kernel)) (fun _ h9 => h9) rfl dX0_widen_25 ?_
  refine lv_aload_n hx hb dX0_widen_28 rfl (lv_at hl 0 rfl) ?_
  refine va_get (D := (dC, dI)) (ci := 0) (v := .long pl) (C := RX0) (T := TX0) (N := 6) hx hb hts hin hown hK hP 0 rfl rfl 1 (by decide) (hts (.fieldLink RX0 13 "ServoDesk$Axis" "place" "J") (by decide +kernel)) (fun _ h9 => h9) rfl dX0_widen_29 ?_
  refine vp_callSl (va_Run.run (va_runVN (As := [.long lo, .long pl]) (rest := [.ref h0]) ⟨hx, hb, hml, hown, hts⟩ (ct_X1_lesser l ad k hk_k lo pl) ⟨va_cnB 2 hts gX0_widen_X1_lesser_n50 rfl rfl rfl (nW_X0_50 hN) (hts (.initialized RX1) (by decide +kernel)) (by decide +kernel) ⟨Nat.le_of_ble_eq_true rfl, Nat.le_of_ble_eq_true rfl⟩, hts (.instanceMethod yX1_lesser) (by decide +kernel), hts (.selects RX1 yX1_lesser yX1_lesser) (by decide +kernel)⟩ ⟨(fun a U g mk q => ⟨q.1, kw_blind q.2⟩), kw_recv hW hS hk_k, fun U hU hW9 => ⟨rfl, kw_call hW hS hU hW9⟩⟩ rfl rfl hl.1 rfl (lv_room (Nat.le_of_ble_eq_true rfl)) dX0_widen_32 ⟨Nat.zero_le _, Nat.zero_le _⟩)) (fun r er => ?_)
  subst er
  refine va_put (D := (dC, dI)) (ci := 0) (v := .long (fn_X1_lesser k lo pl)) (ty := .long) (C := RX0) (T := TX0) (N := 6) hx hb hts hin tyX0 tyX0_ok nmX0 hown hK hP hD hS 0 rfl rfl 2 (by decide) (hts (.fieldLink RX0 23 "ServoDesk$Axis" "low" "J") (by decide +kernel)) (fun _ h9 => h9) rfl (by decide +kernel) rfl rfl (Nat.le_of_ble_eq_true rfl) dX0_widen_35 (fun H locs hP hD hS => ?_)
  have hP : va_P (dC, dI) vwCl [(h0, .inr (0, [.ref (ad k), .long pl, .long (fn_X1_lesser k lo pl), .long (fn_X1_greater k hi pl), .long ba, .long wy]))] H := hP
  have hD : va_D A [(h0, .inr (0, [.ref (ad k), .long pl, .long (fn_X1_lesser k lo pl), .long (fn_X1_greater k hi pl), .long ba, .long wy]))] := hD
  have e9 : fn_X0_widen k pl lo hi ba wy = (pl, fn_X1_lesser k lo pl, fn_X1_greater k hi pl, ba, wy) := by unfold fn_X0_widen; rfl
  exact W.vret hx hb hr (fun t ht hW9 => ⟨⟨(), rfl, trivial, by rw [ht, e9]; exact hP, by rw [e9]; exact hD⟩, hS.F ht⟩) hS.2.2 dX0_widen_38
def fn_X0_rest (k : Nat) (pl lo hi ba wy : Int64) : Ax5 :=
  if (fn_X1_sized k ba) < (fn_X1_sized k pl) then
    (pl, lo, hi, ba, wy)
  else
    (fn_X1_zeroBeside k pl, lo, hi, ba, wy)
set_option maxHeartbeats 4000000 in
set_option maxRecDepth 100000 in
theorem ct_X0_rest (l : Launch) (dC : Nat → ClassId) (dI : Nat → Nat → Nat) (ad : Nat → Nat) (h0 sz k : Nat) (hk_k : k < 4) (pl lo hi ba wy : Int64) : Met l yX0_rest wsX0_rest ({ frames := 4, cells := 0, slots := 0, locals := 93 } : Room) (va_Pc [.ref h0] (fun U => axw dC dI ad h0 sz k (pl, lo, hi, ba, wy) U)) (va_Qv (fun _ : Unit => True) (fun _ t => va_P (dC, dI) vwCl [(h0, axE ad k (fn_X0_rest k pl lo hi ba wy))] t.heap ∧ va_D (va_A [(h0, axE ad k (pl, lo, hi, ba, wy))] sz) [(h0, axE ad k (fn_X0_rest k pl lo hi ba wy))]) (va_A [(h0, axE ad k (pl, lo, hi, ba, wy))] sz)) 0 0 (va_A [(h0, axE ad k (pl, lo, hi, ba, wy))] sz) := by
  refine Met.ofW (cc := cX0_rest) (maxL := 1) (ret := none) (by decide) rfl ?_
  intro p e s m args below meth c s₁ B hml hv
  obtain ⟨rfl, hsz, hP, hK, hD0, hW, hN⟩ := hv
  have hx := B.exec
  have hb := B.bytes
  have hr := B.returns
  have hlocks := B.notSynchronized
  have hts := atoms_spec (ws := wsX0_rest) B.pre
  have hown : s.vm.findClass RX0 = some m.cls := findClass_of_methodNamed B.named
  have hin : ∀ w ∈ u_ws RX0 TX0 6, w ∈ wsX0_rest := fun _ h => List.mem_cons_of_mem _ (List.mem_append_right _ h)
  subst hsz
  have hD := hD0.self (sz := s.heap.size)
  generalize hAe : va_A [(h0, axE ad k (pl, lo, hi, ba, wy))] s.heap.size = A at hD hW ⊢
  have hA : ∀ q : Nat, s.heap.size ≤ q → A q := fun q h => by rw [← hAe]; exact Or.inr h
  have hS : va_S A s.heap s.heap [] := va_S.rf
  have hP : va_P (dC, dI) vwCl [(h0, .inr (0, [.ref (ad k), .long pl, .long lo, .long hi, .long ba, .long wy]))] s.heap := hP
  have hD : va_D A [(h0, .inr (0, [.ref (ad k), .long pl, .long lo, .long hi, .long ba, .long wy]))] := hD
  have hl := lv_entry ([.ref h0]) (n := 1) (Nat.le_of_ble_eq_true rfl)
  rw [lg_entry_eq]
  generalize (lg_sl ([.ref h0]) ++ List.replicate (1 - (lg_sl ([.ref h0])).length) Slot.unset).toArray = ls at hl ⊢
  have hl : lv_has ls 1 [(0, .ref h0)] := hl
  refine lv_aload_n hx hb dX0_rest_0 rfl (lv_at hl 0 rfl) ?_
  refine va_get (D := (dC, dI)) (ci := 0) (v := .ref (ad k)) (C := RX0) (T := TX0) (N := 6) hx hb hts hin hown hK hP 0 rfl rfl 0 (by decide) (hts (.fieldLink RX0 7 "ServoDesk$Axis" "kind" "LServoDesk$Kind;") (by decide +kernel)) (fun _ h9 => h9) rfl dX0_rest_1 ?_
  refine lv_aload_n hx hb dX0_rest_4 rfl (lv_at hl 0 rfl) ?_
  refine va_get (D := (dC, dI)) (ci := 0) (v := .long pl) (C := RX0) (T := TX0) (N := 6) hx hb hts hin hown hK hP 0 rfl rfl 1 (by decide) (hts (.fieldLink RX0 13 "ServoDesk$Axis" "place" "J") (by decide +kernel)) (fun _ h9 => h9) rfl dX0_rest_5 ?_
  refine vp_callSl (va_Run.run (va_runVN (As := [.long pl]) (rest := []) ⟨hx, hb, hml, hown, hts⟩ (ct_X1_sized l ad k hk_k pl) ⟨va_cnB 1 hts gX0_rest_X1_sized_n57 rfl rfl rfl (nW_X0_57 hN) (hts (.initialized RX1) (by decide +kernel)) (by decide +kernel) ⟨Nat.le_of_ble_eq_true rfl, Nat.le_of_ble_eq_true rfl⟩, hts (.instanceMethod yX1_sized) (by decide +kernel), hts (.selects RX1 yX1_sized yX1_sized) (by decide +kernel)⟩ ⟨(fun a U g mk q => ⟨q.1, kw_blind q.2⟩), kw_recv hW hS hk_k, fun U hU hW9 => ⟨rfl, kw_call hW hS hU hW9⟩⟩ rfl rfl hl.1 rfl (lv_room (Nat.le_of_ble_eq_true rfl)) dX0_rest_8 ⟨Nat.zero_le _, Nat.zero_le _⟩)) (fun r er => ?_)
  subst er
  refine lv_aload_n hx hb dX0_rest_11 rfl (lv_at hl 0 rfl) ?_
  refine va_get (D := (dC, dI)) (ci := 0) (v := .ref (ad k)) (C := RX0) (T := TX0) (N := 6) hx hb hts hin hown hK hP 0 rfl rfl 0 (by decide) (hts (.fieldLink RX0 7 "ServoDesk$Axis" "kind" "LServoDesk$Kind;") (by decide +kernel)) (fun _ h9 => h9) rfl dX0_rest_12 ?_
  refine lv_aload_n hx hb dX0_rest_15 rfl (lv_at hl 0 rfl) ?_
  refine va_get (D := (dC, dI)) (ci := 0) (v := .long ba) (C := RX0) (T := TX0) (N := 6) hx hb hts hin hown hK hP 0 rfl rfl 4 (by decide) (hts (.fieldLink RX0 32 "ServoDesk$Axis" "band" "J") (by decide +kernel)) (fun _ h9 => h9) rfl dX0_rest_16 ?_
  refine vp_callSl (va_Run.run (va_runVN (As := [.long ba]) (rest := [.long (fn_X1_sized k pl)]) ⟨hx, hb, hml, hown, hts⟩ (ct_X1_sized l ad k hk_k ba) ⟨va_cnB 1 hts gX0_rest_X1_sized_n57 rfl rfl rfl (nW_X0_57 hN) (hts (.initialized RX1) (by decide +kernel)) (by decide +kernel) ⟨Nat.le_of_ble_eq_true rfl, Nat.le_of_ble_eq_true rfl⟩, hts (.instanceMethod yX1_sized) (by decide +kernel), hts (.selects RX1 yX1_sized yX1_sized) (by decide +kernel)⟩ ⟨(fun a U g mk q => ⟨q.1, kw_blind q.2⟩), kw_recv hW hS hk_k, fun U hU hW9 => ⟨rfl, kw_call hW hS hU hW9⟩⟩ rfl rfl hl.1 rfl (lv_room (Nat.le_of_ble_eq_true rfl)) dX0_rest_19 ⟨Nat.zero_le _, Nat.zero_le _⟩)) (fun r er => ?_)
  subst er
  refine zl_gt (tgt := 41) hx hb dX0_rest_22 dX0_rest_23 (by decide) (fun c_1 => ?_) (fun c_1 => ?_)
  · have e9 : fn_X0_rest k pl lo hi ba wy = (pl, lo, hi, ba, wy) := by unfold fn_X0_rest; rw [if_pos c_1]
    exact W.vret hx hb hr (fun t ht hW9 => ⟨⟨(), rfl, trivial, by rw [ht, e9]; exact hP, by rw [e9]; exact hD⟩, hS.F ht⟩) hS.2.2 dX0_rest_41
  · refine lv_aload_n hx hb dX0_rest_26 rfl (lv_at hl 0 rfl) ?_
    refine lv_aload_n hx hb dX0_rest_27 rfl (lv_at hl 0 rfl) ?_
    refine va_get (D := (dC, dI)) (ci := 0) (v := .ref (ad k)) (C := RX0) (T := TX0) (N := 6) hx hb hts hin hown hK hP 0 rfl rfl 0 (by decide) (hts (.fieldLink RX0 7 "ServoDesk$Axis" "kind" "LServoDesk$Kind;") (by decide +kernel)) (fun _ h9 => h9) rfl dX0_rest_28 ?_
    refine lv_aload_n hx hb dX0_rest_31 rfl (lv_at hl 0 rfl) ?_
    refine va_get (D := (dC, dI)) (ci := 0) (v := .long pl) (C := RX0) (T := TX0) (N := 6) hx hb hts hin hown hK hP 0 rfl rfl 1 (by decide) (hts (.fieldLink RX0 13 "ServoDesk$Axis" "place" "J") (by decide +kernel)) (fun _ h9 => h9) rfl dX0_rest_32 ?_
    refine vp_callSl (va_Run.run (va_runVN (As := [.long pl]) (rest := [.ref h0]) ⟨hx, hb, hml, hown, hts⟩ (ct_X1_zeroBeside l ad k hk_k pl) ⟨va_cnB 1 hts gX0_rest_X1_zeroBeside_n90 rfl rfl rfl (nW_X0_90 hN) (hts (.initialized RX1) (by decide +kernel)) (by decide +kernel) ⟨Nat.le_of_ble_eq_true rfl, Nat.le_of_ble_eq_true rfl⟩, hts (.instanceMethod yX1_zeroBeside) (by decide +kernel), hts (.selects RX1 yX1_zeroBeside yX1_zeroBeside) (by decide +kernel)⟩ ⟨(fun a U g mk q => ⟨q.1, kw_blind q.2⟩), kw_recv hW hS hk_k, fun U hU hW9 => ⟨rfl, kw_call hW hS hU hW9⟩⟩ rfl rfl hl.1 rfl (lv_room (Nat.le_of_ble_eq_true rfl)) dX0_rest_35 ⟨Nat.zero_le _, Nat.zero_le _⟩)) (fun r er => ?_)
    subst er
    refine va_put (D := (dC, dI)) (ci := 0) (v := .long (fn_X1_zeroBeside k pl)) (ty := .long) (C := RX0) (T := TX0) (N := 6) hx hb hts hin tyX0 tyX0_ok nmX0 hown hK hP hD hS 0 rfl rfl 1 (by decide) (hts (.fieldLink RX0 13 "ServoDesk$Axis" "place" "J") (by decide +kernel)) (fun _ h9 => h9) rfl (by decide +kernel) rfl rfl (Nat.le_of_ble_eq_true rfl) dX0_rest_38 (fun H locs hP hD hS => ?_)
    have hP : va_P (dC, dI) vwCl [(h0, .inr (0, [.ref (ad k), .long (fn_X1_zeroBeside k pl), .long lo, .long hi, .long ba, .long wy]))] H := hP
    have hD : va_D A [(h0, .inr (0, [.ref (ad k), .long (fn_X1_zeroBeside k pl), .long lo, .long hi, .long ba, .long wy]))] := hD
    have e9 : fn_X0_rest k pl lo hi ba wy = (fn_X1_zeroBeside k pl, lo, hi, ba, wy) := by unfold fn_X0_rest; rw [if_neg c_1]
    exact W.vret hx hb hr (fun t ht hW9 => ⟨⟨(), rfl, trivial, by rw [ht, e9]; exact hP, by rw [e9]; exact hD⟩, hS.F ht⟩) hS.2.2 dX0_rest_41
def fn_X0_grid (k : Nat) (pl lo hi ba wy : Int64) : Ax5 :=
  (pl, fn_X1_wholeBelow k pl, fn_X1_wholeAbove k pl, ba, wy)
set_option maxHeartbeats 4000000 in
set_option maxRecDepth 100000 in
theorem ct_X0_grid (l : Launch) (dC : Nat → ClassId) (dI : Nat → Nat → Nat) (ad : Nat → Nat) (h0 sz k : Nat) (hk_k : k < 4) (pl lo hi ba wy : Int64) : Met l yX0_grid wsX0_grid ({ frames := 4, cells := 0, slots := 0, locals := 95 } : Room) (va_Pc [.ref h0] (fun U => axw dC dI ad h0 sz k (pl, lo, hi, ba, wy) U)) (va_Qv (fun _ : Unit => True) (fun _ t => va_P (dC, dI) vwCl [(h0, axE ad k (fn_X0_grid k pl lo hi ba wy))] t.heap ∧ va_D (va_A [(h0, axE ad k (pl, lo, hi, ba, wy))] sz) [(h0, axE ad k (fn_X0_grid k pl lo hi ba wy))]) (va_A [(h0, axE ad k (pl, lo, hi, ba, wy))] sz)) 0 0 (va_A [(h0, axE ad k (pl, lo, hi, ba, wy))] sz) := by
  refine Met.ofW (cc := cX0_grid) (maxL := 1) (ret := none) (by decide) rfl ?_
  intro p e s m args below meth c s₁ B hml hv
  obtain ⟨rfl, hsz, hP, hK, hD0, hW, hN⟩ := hv
  have hx := B.exec
  have hb := B.bytes
  have hr := B.returns
  have hlocks := B.notSynchronized
  have hts := atoms_spec (ws := wsX0_grid) B.pre
  have hown : s.vm.findClass RX0 = some m.cls := findClass_of_methodNamed B.named
  have hin : ∀ w ∈ u_ws RX0 TX0 6, w ∈ wsX0_grid := fun _ h => List.mem_cons_of_mem _ (List.mem_append_right _ h)
  subst hsz
  have hD := hD0.self (sz := s.heap.size)
  generalize hAe : va_A [(h0, axE ad k (pl, lo, hi, ba, wy))] s.heap.size = A at hD hW ⊢
  have hA : ∀ q : Nat, s.heap.size ≤ q → A q := fun q h => by rw [← hAe]; exact Or.inr h
  have hS : va_S A s.heap s.heap [] := va_S.rf
  have hP : va_P (dC, dI) vwCl [(h0, .inr (0, [.ref (ad k), .long pl, .long lo, .long hi, .long ba, .long wy]))] s.heap := hP
  have hD : va_D A [(h0, .inr (0, [.ref (ad k), .long pl, .long lo, .long hi, .long ba, .long wy]))] := hD
  have hl := lv_entry ([.ref h0]) (n := 1) (Nat.le_of_ble_eq_true rfl)
  rw [lg_entry_eq]
  generalize (lg_sl ([.ref h0]) ++ List.replicate (1 - (lg_sl ([.ref h0])).length) Slot.unset).toArray = ls at hl ⊢
  have hl : lv_has ls 1 [(0, .ref h0)] := hl
  refine lv_aload_n hx hb dX0_grid_0 rfl (lv_at hl 0 rfl) ?_
  refine lv_aload_n hx hb dX0_grid_1 rfl (lv_at hl 0 rfl) ?_
  refine va_get (D := (dC, dI)) (ci := 0) (v := .ref (ad k)) (C := RX0) (T := TX0) (N := 6) hx hb hts hin hown hK hP 0 rfl rfl 0 (by decide) (hts (.fieldLink RX0 7 "ServoDesk$Axis" "kind" "LServoDesk$Kind;") (by decide +kernel)) (fun _ h9 => h9) rfl dX0_grid_2 ?_
  refine lv_aload_n hx hb dX0_grid_5 rfl (lv_at hl 0 rfl) ?_
  refine va_get (D := (dC, dI)) (ci := 0) (v := .long pl) (C := RX0) (T := TX0) (N := 6) hx hb hts hin hown hK hP 0 rfl rfl 1 (by decide) (hts (.fieldLink RX0 13 "ServoDesk$Axis" "place" "J") (by decide +kernel)) (fun _ h9 => h9) rfl dX0_grid_6 ?_
  refine vp_callSl (va_Run.run (va_runVN (As := [.long pl]) (rest := [.ref h0]) ⟨hx, hb, hml, hown, hts⟩ (ct_X1_wholeBelow l ad k hk_k pl) ⟨va_cnB 1 hts gX0_grid_X1_wholeBelow_n60 rfl rfl rfl (nW_X0_60 hN) (hts (.initialized RX1) (by decide +kernel)) (by decide +kernel) ⟨Nat.le_of_ble_eq_true rfl, Nat.le_of_ble_eq_true rfl⟩, hts (.instanceMethod yX1_wholeBelow) (by decide +kernel), hts (.selects RX1 yX1_wholeBelow yX1_wholeBelow) (by decide +kernel)⟩ ⟨(fun a U g mk q => ⟨q.1, kw_blind q.2⟩), kw_recv hW hS hk_k, fun U hU hW9 => ⟨rfl, kw_call hW hS hU hW9⟩⟩ rfl rfl hl.1 rfl (lv_room (Nat.le_of_ble_eq_true rfl)) dX0_grid_9 ⟨Nat.zero_le _, Nat.zero_le _⟩)) (fun r er => ?_)
  subst er
  refine va_put (D := (dC, dI)) (ci := 0) (v := .long (fn_X1_wholeBelow k pl)) (ty := .long) (C := RX0) (T := TX0) (N := 6) hx hb hts hin tyX0 tyX0_ok nmX0 hown hK hP hD hS 0 rfl rfl 2 (by decide) (hts (.fieldLink RX0 23 "ServoDesk$Axis" "low" "J") (by decide +kernel)) (fun _ h9 => h9) rfl (by decide +kernel) rfl rfl (Nat.le_of_ble_eq_true rfl) dX0_grid_12 (fun H locs hP hD hS => ?_)
  have hP : va_P (dC, dI) vwCl [(h0, .inr (0, [.ref (ad k), .long pl, .long (fn_X1_wholeBelow k pl), .long hi, .long ba, .long wy]))] H := hP
  have hD : va_D A [(h0, .inr (0, [.ref (ad k), .long pl, .long (fn_X1_wholeBelow k pl), .long hi, .long ba, .long wy]))] := hD
  refine lv_aload_n hx hb dX0_grid_15 rfl (lv_at hl 0 rfl) ?_
  refine lv_aload_n hx hb dX0_grid_16 rfl (lv_at hl 0 rfl) ?_
  refine va_get (D := (dC, dI)) (ci := 0) (v := .ref (ad k)) (C := RX0) (T := TX0) (N := 6) hx hb hts hin hown hK hP 0 rfl rfl 0 (by decide) (hts (.fieldLink RX0 7 "ServoDesk$Axis" "kind" "LServoDesk$Kind;") (by decide +kernel)) (fun _ h9 => h9) rfl dX0_grid_17 ?_
  refine lv_aload_n hx hb dX0_grid_20 rfl (lv_at hl 0 rfl) ?_
  refine va_get (D := (dC, dI)) (ci := 0) (v := .long pl) (C := RX0) (T := TX0) (N := 6) hx hb hts hin hown hK hP 0 rfl rfl 1 (by decide) (hts (.fieldLink RX0 13 "ServoDesk$Axis" "place" "J") (by decide +kernel)) (fun _ h9 => h9) rfl dX0_grid_21 ?_
  refine vp_callSl (va_Run.run (va_runVN (As := [.long pl]) (rest := [.ref h0]) ⟨hx, hb, hml, hown, hts⟩ (ct_X1_wholeAbove l ad k hk_k pl) ⟨va_cnB 1 hts gX0_grid_X1_wholeAbove_n63 rfl rfl rfl (nW_X0_63 hN) (hts (.initialized RX1) (by decide +kernel)) (by decide +kernel) ⟨Nat.le_of_ble_eq_true rfl, Nat.le_of_ble_eq_true rfl⟩, hts (.instanceMethod yX1_wholeAbove) (by decide +kernel), hts (.selects RX1 yX1_wholeAbove yX1_wholeAbove) (by decide +kernel)⟩ ⟨(fun a U g mk q => ⟨q.1, kw_blind q.2⟩), kw_recv hW hS hk_k, fun U hU hW9 => ⟨rfl, kw_call hW hS hU hW9⟩⟩ rfl rfl hl.1 rfl (lv_room (Nat.le_of_ble_eq_true rfl)) dX0_grid_24 ⟨Nat.zero_le _, Nat.zero_le _⟩)) (fun r er => ?_)
  subst er
  refine va_put (D := (dC, dI)) (ci := 0) (v := .long (fn_X1_wholeAbove k pl)) (ty := .long) (C := RX0) (T := TX0) (N := 6) hx hb hts hin tyX0 tyX0_ok nmX0 hown hK hP hD hS 0 rfl rfl 3 (by decide) (hts (.fieldLink RX0 29 "ServoDesk$Axis" "high" "J") (by decide +kernel)) (fun _ h9 => h9) rfl (by decide +kernel) rfl rfl (Nat.le_of_ble_eq_true rfl) dX0_grid_27 (fun H locs hP hD hS => ?_)
  have hP : va_P (dC, dI) vwCl [(h0, .inr (0, [.ref (ad k), .long pl, .long (fn_X1_wholeBelow k pl), .long (fn_X1_wholeAbove k pl), .long ba, .long wy]))] H := hP
  have hD : va_D A [(h0, .inr (0, [.ref (ad k), .long pl, .long (fn_X1_wholeBelow k pl), .long (fn_X1_wholeAbove k pl), .long ba, .long wy]))] := hD
  have e9 : fn_X0_grid k pl lo hi ba wy = (pl, fn_X1_wholeBelow k pl, fn_X1_wholeAbove k pl, ba, wy) := by unfold fn_X0_grid; rfl
  exact W.vret hx hb hr (fun t ht hW9 => ⟨⟨(), rfl, trivial, by rw [ht, e9]; exact hP, by rw [e9]; exact hD⟩, hS.F ht⟩) hS.2.2 dX0_grid_30
def fn_X0_swap (k : Nat) (pl lo hi ba wy : Int64) : Ax5 :=
  (pl, hi, lo, ba, wy)
set_option maxHeartbeats 4000000 in
set_option maxRecDepth 100000 in
theorem ct_X0_swap (l : Launch) (dC : Nat → ClassId) (dI : Nat → Nat → Nat) (ad : Nat → Nat) (h0 sz k : Nat) (hk_k : k < 4) (pl lo hi ba wy : Int64) : Met l yX0_swap wsX0_swap ({ frames := 0, cells := 0, slots := 0, locals := 0 } : Room) (va_Pc [.ref h0] (fun U => axw dC dI ad h0 sz k (pl, lo, hi, ba, wy) U)) (va_Qv (fun _ : Unit => True) (fun _ t => va_P (dC, dI) vwCl [(h0, axE ad k (fn_X0_swap k pl lo hi ba wy))] t.heap ∧ va_D (va_A [(h0, axE ad k (pl, lo, hi, ba, wy))] sz) [(h0, axE ad k (fn_X0_swap k pl lo hi ba wy))]) (va_A [(h0, axE ad k (pl, lo, hi, ba, wy))] sz)) 0 0 (va_A [(h0, axE ad k (pl, lo, hi, ba, wy))] sz) := by
  refine Met.ofW (cc := cX0_swap) (maxL := 3) (ret := none) (by decide) rfl ?_
  intro p e s m args below meth c s₁ B hml hv
  obtain ⟨rfl, hsz, hP, hK, hD0, hW, hN⟩ := hv
  have hx := B.exec
  have hb := B.bytes
  have hr := B.returns
  have hlocks := B.notSynchronized
  have hts := atoms_spec (ws := wsX0_swap) B.pre
  have hown : s.vm.findClass RX0 = some m.cls := findClass_of_methodNamed B.named
  have hin : ∀ w ∈ u_ws RX0 TX0 6, w ∈ wsX0_swap := fun _ h => List.mem_cons_of_mem _ (List.mem_append_right _ h)
  subst hsz
  have hD := hD0.self (sz := s.heap.size)
  generalize hAe : va_A [(h0, axE ad k (pl, lo, hi, ba, wy))] s.heap.size = A at hD hW ⊢
  have hA : ∀ q : Nat, s.heap.size ≤ q → A q := fun q h => by rw [← hAe]; exact Or.inr h
  have hS : va_S A s.heap s.heap [] := va_S.rf
  have hP : va_P (dC, dI) vwCl [(h0, .inr (0, [.ref (ad k), .long pl, .long lo, .long hi, .long ba, .long wy]))] s.heap := hP
  have hD : va_D A [(h0, .inr (0, [.ref (ad k), .long pl, .long lo, .long hi, .long ba, .long wy]))] := hD
  have hl := lv_entry ([.ref h0]) (n := 3) (Nat.le_of_ble_eq_true rfl)
  rw [lg_entry_eq]
  generalize (lg_sl ([.ref h0]) ++ List.replicate (3 - (lg_sl ([.ref h0])).length) Slot.unset).toArray = ls at hl ⊢
  have hl : lv_has ls 3 [(0, .ref h0)] := hl
  refine lv_aload_n hx hb dX0_swap_0 rfl (lv_at hl 0 rfl) ?_
  refine va_get (D := (dC, dI)) (ci := 0) (v := .long lo) (C := RX0) (T := TX0) (N := 6) hx hb hts hin hown hK hP 0 rfl rfl 2 (by decide) (hts (.fieldLink RX0 23 "ServoDesk$Axis" "low" "J") (by decide +kernel)) (fun _ h9 => h9) rfl dX0_swap_1 ?_
  refine lv_lstore_n (lv' := [(1, .long lo), (0, .ref h0)]) hx hb dX0_swap_4 rfl hl (by decide) rfl (fun ls hl => ?_)
  refine lv_aload_n hx hb dX0_swap_5 rfl (lv_at hl 1 rfl) ?_
  refine lv_aload_n hx hb dX0_swap_6 rfl (lv_at hl 1 rfl) ?_
  refine va_get (D := (dC, dI)) (ci := 0) (v := .long hi) (C := RX0) (T := TX0) (N := 6) hx hb hts hin hown hK hP 0 rfl rfl 3 (by decide) (hts (.fieldLink RX0 29 "ServoDesk$Axis" "high" "J") (by decide +kernel)) (fun _ h9 => h9) rfl dX0_swap_7 ?_
  refine va_put (D := (dC, dI)) (ci := 0) (v := .long hi) (ty := .long) (C := RX0) (T := TX0) (N := 6) hx hb hts hin tyX0 tyX0_ok nmX0 hown hK hP hD hS 0 rfl rfl 2 (by decide) (hts (.fieldLink RX0 23 "ServoDesk$Axis" "low" "J") (by decide +kernel)) (fun _ h9 => h9) rfl (by decide +kernel) rfl rfl (Nat.le_of_ble_eq_true rfl) dX0_swap_10 (fun H locs hP hD hS => ?_)
  have hP : va_P (dC, dI) vwCl [(h0, .inr (0, [.ref (ad k), .long pl, .long hi, .long hi, .long ba, .long wy]))] H := hP
  have hD : va_D A [(h0, .inr (0, [.ref (ad k), .long pl, .long hi, .long hi, .long ba, .long wy]))] := hD
  refine lv_aload_n hx hb dX0_swap_13 rfl (lv_at hl 1 rfl) ?_
  refine lv_lload_n hx hb dX0_swap_14 rfl (lv_at hl 0 rfl) ?_
  refine va_put (D := (dC, dI)) (ci := 0) (v := .long lo) (ty := .long) (C := RX0) (T := TX0) (N := 6) hx hb hts hin tyX0 tyX0_ok nmX0 hown hK hP hD hS 0 rfl rfl 3 (by decide) (hts (.fieldLink RX0 29 "ServoDesk$Axis" "high" "J") (by decide +kernel)) (fun _ h9 => h9) rfl (by decide +kernel) rfl rfl (Nat.le_of_ble_eq_true rfl) dX0_swap_15 (fun H locs hP hD hS => ?_)
  have hP : va_P (dC, dI) vwCl [(h0, .inr (0, [.ref (ad k), .long pl, .long hi, .long lo, .long ba, .long wy]))] H := hP
  have hD : va_D A [(h0, .inr (0, [.ref (ad k), .long pl, .long hi, .long lo, .long ba, .long wy]))] := hD
  have e9 : fn_X0_swap k pl lo hi ba wy = (pl, hi, lo, ba, wy) := by unfold fn_X0_swap; rfl
  exact W.vret hx hb hr (fun t ht hW9 => ⟨⟨(), rfl, trivial, by rw [ht, e9]; exact hP, by rw [e9]; exact hD⟩, hS.F ht⟩) hS.2.2 dX0_swap_18
def fn_X0_obey (k : Nat) (v1 : Int32) (pl lo hi ba wy : Int64) : Ax5 :=
  if v1 = (1 : Int32) then
    (fn_X1_greater k lo (fn_X1_lesser k hi pl), lo, hi, ba, wy)
  else
    if v1 = (2 : Int32) then
      (fn_X1_sized k pl, lo, hi, ba, wy)
    else
      if v1 = (3 : Int32) then
        (fn_X1_wholeBelow k pl, lo, hi, ba, wy)
      else
        if v1 = (4 : Int32) then
          (fn_X1_wholeAbove k pl, lo, hi, ba, wy)
        else
          if v1 = (5 : Int32) then
            (fn_X1_wholeNearest k pl, lo, hi, ba, wy)
          else
            if v1 = (6 : Int32) then
              fn_X0_look k pl lo hi ba wy
            else
              if v1 = (7 : Int32) then
                (fn_X1_turned k pl wy, lo, hi, ba, wy)
              else
                if v1 = (8 : Int32) then
                  fn_X0_widen k pl lo hi ba wy
                else
                  if v1 = (9 : Int32) then
                    fn_X0_rest k pl lo hi ba wy
                  else
                    if v1 = (10 : Int32) then
                      fn_X0_grid k pl lo hi ba wy
                    else
                      if v1 = (11 : Int32) then
                        fn_X0_swap k pl lo hi ba wy
                      else
                        if v1 = (12 : Int32) then
                          (lo, lo, hi, ba, wy)
                        else
                          if v1 = (13 : Int32) then
                            (hi, lo, hi, ba, wy)
                          else
                            (pl, lo, hi, ba, wy)
set_option maxHeartbeats 4000000 in
set_option maxRecDepth 100000 in
theorem ct_X0_obey (l : Launch) (dC : Nat → ClassId) (dI : Nat → Nat → Nat) (ad : Nat → Nat) (h0 sz k : Nat) (hk_k : k < 4) (v1 : Int32) (pl lo hi ba wy : Int64) : Met l yX0_obey wsX0_obey ({ frames := 5, cells := 0, slots := 0, locals := 115 } : Room) (va_Pc [.ref h0, .int v1] (fun U => axw dC dI ad h0 sz k (pl, lo, hi, ba, wy) U)) (va_Qv (fun _ : Unit => True) (fun _ t => va_P (dC, dI) vwCl [(h0, axE ad k (fn_X0_obey k v1 pl lo hi ba wy))] t.heap ∧ va_D (va_A [(h0, axE ad k (pl, lo, hi, ba, wy))] sz) [(h0, axE ad k (fn_X0_obey k v1 pl lo hi ba wy))]) (va_A [(h0, axE ad k (pl, lo, hi, ba, wy))] sz)) 0 0 (va_A [(h0, axE ad k (pl, lo, hi, ba, wy))] sz) := by
  refine Met.ofW (cc := cX0_obey) (maxL := 2) (ret := none) (by decide) rfl ?_
  intro p e s m args below meth c s₁ B hml hv
  obtain ⟨rfl, hsz, hP, hK, hD0, hW, hN⟩ := hv
  have hx := B.exec
  have hb := B.bytes
  have hr := B.returns
  have hlocks := B.notSynchronized
  have hts := atoms_spec (ws := wsX0_obey) B.pre
  have hown : s.vm.findClass RX0 = some m.cls := findClass_of_methodNamed B.named
  have hin : ∀ w ∈ u_ws RX0 TX0 6, w ∈ wsX0_obey := fun _ h => List.mem_cons_of_mem _ (List.mem_append_right _ h)
  subst hsz
  have hD := hD0.self (sz := s.heap.size)
  generalize hAe : va_A [(h0, axE ad k (pl, lo, hi, ba, wy))] s.heap.size = A at hD hW ⊢
  have hA : ∀ q : Nat, s.heap.size ≤ q → A q := fun q h => by rw [← hAe]; exact Or.inr h
  have hS : va_S A s.heap s.heap [] := va_S.rf
  have hP : va_P (dC, dI) vwCl [(h0, .inr (0, [.ref (ad k), .long pl, .long lo, .long hi, .long ba, .long wy]))] s.heap := hP
  have hD : va_D A [(h0, .inr (0, [.ref (ad k), .long pl, .long lo, .long hi, .long ba, .long wy]))] := hD
  have hl := lv_entry ([.ref h0, .int v1]) (n := 2) (Nat.le_of_ble_eq_true rfl)
  rw [lg_entry_eq]
  generalize (lg_sl ([.ref h0, .int v1]) ++ List.replicate (2 - (lg_sl ([.ref h0, .int v1])).length) Slot.unset).toArray = ls at hl ⊢
  have hl : lv_has ls 2 [(0, .ref h0), (1, .int v1)] := hl
  refine lv_iload_n hx hb dX0_obey_0 rfl (lv_at hl 1 rfl) ?_
  by_cases q_1 : v1 = (1 : Int32)
  · refine lv_tableIn (off := 67) (tgt := 68) hx hb dX0_obey_1 (by rw [q_1]; decide) (by rw [q_1]; decide) (by rw [q_1]; rfl) (by decide) ?_
    refine lv_aload_n hx hb dX0_obey_68 rfl (lv_at hl 0 rfl) ?_
    refine lv_aload_n hx hb dX0_obey_69 rfl (lv_at hl 0 rfl) ?_
    refine va_get (D := (dC, dI)) (ci := 0) (v := .ref (ad k)) (C := RX0) (T := TX0) (N := 6) hx hb hts hin hown hK hP 0 rfl rfl 0 (by decide) (hts (.fieldLink RX0 7 "ServoDesk$Axis" "kind" "LServoDesk$Kind;") (by decide +kernel)) (fun _ h9 => h9) rfl dX0_obey_70 ?_
    refine lv_aload_n hx hb dX0_obey_73 rfl (lv_at hl 0 rfl) ?_
    refine va_get (D := (dC, dI)) (ci := 0) (v := .long lo) (C := RX0) (T := TX0) (N := 6) hx hb hts hin hown hK hP 0 rfl rfl 2 (by decide) (hts (.fieldLink RX0 23 "ServoDesk$Axis" "low" "J") (by decide +kernel)) (fun _ h9 => h9) rfl dX0_obey_74 ?_
    refine lv_aload_n hx hb dX0_obey_77 rfl (lv_at hl 0 rfl) ?_
    refine va_get (D := (dC, dI)) (ci := 0) (v := .ref (ad k)) (C := RX0) (T := TX0) (N := 6) hx hb hts hin hown hK hP 0 rfl rfl 0 (by decide) (hts (.fieldLink RX0 7 "ServoDesk$Axis" "kind" "LServoDesk$Kind;") (by decide +kernel)) (fun _ h9 => h9) rfl dX0_obey_78 ?_
    refine lv_aload_n hx hb dX0_obey_81 rfl (lv_at hl 0 rfl) ?_
    refine va_get (D := (dC, dI)) (ci := 0) (v := .long hi) (C := RX0) (T := TX0) (N := 6) hx hb hts hin hown hK hP 0 rfl rfl 3 (by decide) (hts (.fieldLink RX0 29 "ServoDesk$Axis" "high" "J") (by decide +kernel)) (fun _ h9 => h9) rfl dX0_obey_82 ?_
    refine lv_aload_n hx hb dX0_obey_85 rfl (lv_at hl 0 rfl) ?_
    refine va_get (D := (dC, dI)) (ci := 0) (v := .long pl) (C := RX0) (T := TX0) (N := 6) hx hb hts hin hown hK hP 0 rfl rfl 1 (by decide) (hts (.fieldLink RX0 13 "ServoDesk$Axis" "place" "J") (by decide +kernel)) (fun _ h9 => h9) rfl dX0_obey_86 ?_
    refine vp_callSl (va_Run.run (va_runVN (As := [.long hi, .long pl]) (rest := [.long lo, .ref (ad k), .ref h0]) ⟨hx, hb, hml, hown, hts⟩ (ct_X1_lesser l ad k hk_k hi pl) ⟨va_cnB 2 hts gX0_obey_X1_lesser_n50 rfl rfl rfl (nW_X0_50 hN) (hts (.initialized RX1) (by decide +kernel)) (by decide +kernel) ⟨Nat.le_of_ble_eq_true rfl, Nat.le_of_ble_eq_true rfl⟩, hts (.instanceMethod yX1_lesser) (by decide +kernel), hts (.selects RX1 yX1_lesser yX1_lesser) (by decide +kernel)⟩ ⟨(fun a U g mk q => ⟨q.1, kw_blind q.2⟩), kw_recv hW hS hk_k, fun U hU hW9 => ⟨rfl, kw_call hW hS hU hW9⟩⟩ rfl rfl hl.1 rfl (lv_room (Nat.le_of_ble_eq_true rfl)) dX0_obey_89 ⟨Nat.zero_le _, Nat.zero_le _⟩)) (fun r er => ?_)
    subst er
    refine vp_callSl (va_Run.run (va_runVN (As := [.long lo, .long (fn_X1_lesser k hi pl)]) (rest := [.ref h0]) ⟨hx, hb, hml, hown, hts⟩ (ct_X1_greater l ad k hk_k lo (fn_X1_lesser k hi pl)) ⟨va_cnB 2 hts gX0_obey_X1_greater_n54 rfl rfl rfl (nW_X0_54 hN) (hts (.initialized RX1) (by decide +kernel)) (by decide +kernel) ⟨Nat.le_of_ble_eq_true rfl, Nat.le_of_ble_eq_true rfl⟩, hts (.instanceMethod yX1_greater) (by decide +kernel), hts (.selects RX1 yX1_greater yX1_greater) (by decide +kernel)⟩ ⟨(fun a U g mk q => ⟨q.1, kw_blind q.2⟩), kw_recv hW hS hk_k, fun U hU hW9 => ⟨rfl, kw_call hW hS hU hW9⟩⟩ rfl rfl hl.1 rfl (lv_room (Nat.le_of_ble_eq_true rfl)) dX0_obey_92 ⟨Nat.zero_le _, Nat.zero_le _⟩)) (fun r er => ?_)
    subst er
    refine va_put (D := (dC, dI)) (ci := 0) (v := .long (fn_X1_greater k lo (fn_X1_lesser k hi pl))) (ty := .long) (C := RX0) (T := TX0) (N := 6) hx hb hts hin tyX0 tyX0_ok nmX0 hown hK hP hD hS 0 rfl rfl 1 (by decide) (hts (.fieldLink RX0 13 "ServoDesk$Axis" "place" "J") (by decide +kernel)) (fun _ h9 => h9) rfl (by decide +kernel) rfl rfl (Nat.le_of_ble_eq_true rfl) dX0_obey_95 (fun H locs hP hD hS => ?_)
    have hP : va_P (dC, dI) vwCl [(h0, .inr (0, [.ref (ad k), .long (fn_X1_greater k lo (fn_X1_lesser k hi pl)), .long lo, .long hi, .long ba, .long wy]))] H := hP
    have hD : va_D A [(h0, .inr (0, [.ref (ad k), .long (fn_X1_greater k lo (fn_X1_lesser k hi pl)), .long lo, .long hi, .long ba, .long wy]))] := hD
    refine lv_goto (tgt := 252) hx hb dX0_obey_98 (by decide) ?_
    have e9 : fn_X0_obey k v1 pl lo hi ba wy = (fn_X1_greater k lo (fn_X1_lesser k hi pl), lo, hi, ba, wy) := by unfold fn_X0_obey; rw [if_pos q_1]
    exact W.vret hx hb hr (fun t ht hW9 => ⟨⟨(), rfl, trivial, by rw [ht, e9]; exact hP, by rw [e9]; exact hD⟩, hS.F ht⟩) hS.2.2 dX0_obey_252
  by_cases q_2 : v1 = (2 : Int32)
  · refine lv_tableIn (off := 100) (tgt := 101) hx hb dX0_obey_1 (by rw [q_2]; decide) (by rw [q_2]; decide) (by rw [q_2]; rfl) (by decide) ?_
    refine lv_aload_n hx hb dX0_obey_101 rfl (lv_at hl 0 rfl) ?_
    refine lv_aload_n hx hb dX0_obey_102 rfl (lv_at hl 0 rfl) ?_
    refine va_get (D := (dC, dI)) (ci := 0) (v := .ref (ad k)) (C := RX0) (T := TX0) (N := 6) hx hb hts hin hown hK hP 0 rfl rfl 0 (by decide) (hts (.fieldLink RX0 7 "ServoDesk$Axis" "kind" "LServoDesk$Kind;") (by decide +kernel)) (fun _ h9 => h9) rfl dX0_obey_103 ?_
    refine lv_aload_n hx hb dX0_obey_106 rfl (lv_at hl 0 rfl) ?_
    refine va_get (D := (dC, dI)) (ci := 0) (v := .long pl) (C := RX0) (T := TX0) (N := 6) hx hb hts hin hown hK hP 0 rfl rfl 1 (by decide) (hts (.fieldLink RX0 13 "ServoDesk$Axis" "place" "J") (by decide +kernel)) (fun _ h9 => h9) rfl dX0_obey_107 ?_
    refine vp_callSl (va_Run.run (va_runVN (As := [.long pl]) (rest := [.ref h0]) ⟨hx, hb, hml, hown, hts⟩ (ct_X1_sized l ad k hk_k pl) ⟨va_cnB 1 hts gX0_obey_X1_sized_n57 rfl rfl rfl (nW_X0_57 hN) (hts (.initialized RX1) (by decide +kernel)) (by decide +kernel) ⟨Nat.le_of_ble_eq_true rfl, Nat.le_of_ble_eq_true rfl⟩, hts (.instanceMethod yX1_sized) (by decide +kernel), hts (.selects RX1 yX1_sized yX1_sized) (by decide +kernel)⟩ ⟨(fun a U g mk q => ⟨q.1, kw_blind q.2⟩), kw_recv hW hS hk_k, fun U hU hW9 => ⟨rfl, kw_call hW hS hU hW9⟩⟩ rfl rfl hl.1 rfl (lv_room (Nat.le_of_ble_eq_true rfl)) dX0_obey_110 ⟨Nat.zero_le _, Nat.zero_le _⟩)) (fun r er => ?_)
    subst er
    refine va_put (D := (dC, dI)) (ci := 0) (v := .long (fn_X1_sized k pl)) (ty := .long) (C := RX0) (T := TX0) (N := 6) hx hb hts hin tyX0 tyX0_ok nmX0 hown hK hP hD hS 0 rfl rfl 1 (by decide) (hts (.fieldLink RX0 13 "ServoDesk$Axis" "place" "J") (by decide +kernel)) (fun _ h9 => h9) rfl (by decide +kernel) rfl rfl (Nat.le_of_ble_eq_true rfl) dX0_obey_113 (fun H locs hP hD hS => ?_)
    have hP : va_P (dC, dI) vwCl [(h0, .inr (0, [.ref (ad k), .long (fn_X1_sized k pl), .long lo, .long hi, .long ba, .long wy]))] H := hP
    have hD : va_D A [(h0, .inr (0, [.ref (ad k), .long (fn_X1_sized k pl), .long lo, .long hi, .long ba, .long wy]))] := hD
    refine lv_goto (tgt := 252) hx hb dX0_obey_116 (by decide) ?_
    have e9 : fn_X0_obey k v1 pl lo hi ba wy = (fn_X1_sized k pl, lo, hi, ba, wy) := by unfold fn_X0_obey; rw [if_neg q_1, if_pos q_2]
    exact W.vret hx hb hr (fun t ht hW9 => ⟨⟨(), rfl, trivial, by rw [ht, e9]; exact hP, by rw [e9]; exact hD⟩, hS.F ht⟩) hS.2.2 dX0_obey_252
  by_cases q_3 : v1 = (3 : Int32)
  · refine lv_tableIn (off := 118) (tgt := 119) hx hb dX0_obey_1 (by rw [q_3]; decide) (by rw [q_3]; decide) (by rw [q_3]; rfl) (by decide) ?_
    refine lv_aload_n hx hb dX0_obey_119 rfl (lv_at hl 0 rfl) ?_
    refine lv_aload_n hx hb dX0_obey_120 rfl (lv_at hl 0 rfl) ?_
    refine va_get (D := (dC, dI)) (ci := 0) (v := .ref (ad k)) (C := RX0) (T := TX0) (N := 6) hx hb hts hin hown hK hP 0 rfl rfl 0 (by decide) (hts (.fieldLink RX0 7 "ServoDesk$Axis" "kind" "LServoDesk$Kind;") (by decide +kernel)) (fun _ h9 => h9) rfl dX0_obey_121 ?_
    refine lv_aload_n hx hb dX0_obey_124 rfl (lv_at hl 0 rfl) ?_
    refine va_get (D := (dC, dI)) (ci := 0) (v := .long pl) (C := RX0) (T := TX0) (N := 6) hx hb hts hin hown hK hP 0 rfl rfl 1 (by decide) (hts (.fieldLink RX0 13 "ServoDesk$Axis" "place" "J") (by decide +kernel)) (fun _ h9 => h9) rfl dX0_obey_125 ?_
    refine vp_callSl (va_Run.run (va_runVN (As := [.long pl]) (rest := [.ref h0]) ⟨hx, hb, hml, hown, hts⟩ (ct_X1_wholeBelow l ad k hk_k pl) ⟨va_cnB 1 hts gX0_obey_X1_wholeBelow_n60 rfl rfl rfl (nW_X0_60 hN) (hts (.initialized RX1) (by decide +kernel)) (by decide +kernel) ⟨Nat.le_of_ble_eq_true rfl, Nat.le_of_ble_eq_true rfl⟩, hts (.instanceMethod yX1_wholeBelow) (by decide +kernel), hts (.selects RX1 yX1_wholeBelow yX1_wholeBelow) (by decide +kernel)⟩ ⟨(fun a U g mk q => ⟨q.1, kw_blind q.2⟩), kw_recv hW hS hk_k, fun U hU hW9 => ⟨rfl, kw_call hW hS hU hW9⟩⟩ rfl rfl hl.1 rfl (lv_room (Nat.le_of_ble_eq_true rfl)) dX0_obey_128 ⟨Nat.zero_le _, Nat.zero_le _⟩)) (fun r er => ?_)
    subst er
    refine va_put (D := (dC, dI)) (ci := 0) (v := .long (fn_X1_wholeBelow k pl)) (ty := .long) (C := RX0) (T := TX0) (N := 6) hx hb hts hin tyX0 tyX0_ok nmX0 hown hK hP hD hS 0 rfl rfl 1 (by decide) (hts (.fieldLink RX0 13 "ServoDesk$Axis" "place" "J") (by decide +kernel)) (fun _ h9 => h9) rfl (by decide +kernel) rfl rfl (Nat.le_of_ble_eq_true rfl) dX0_obey_131 (fun H locs hP hD hS => ?_)
    have hP : va_P (dC, dI) vwCl [(h0, .inr (0, [.ref (ad k), .long (fn_X1_wholeBelow k pl), .long lo, .long hi, .long ba, .long wy]))] H := hP
    have hD : va_D A [(h0, .inr (0, [.ref (ad k), .long (fn_X1_wholeBelow k pl), .long lo, .long hi, .long ba, .long wy]))] := hD
    refine lv_goto (tgt := 252) hx hb dX0_obey_134 (by decide) ?_
    have e9 : fn_X0_obey k v1 pl lo hi ba wy = (fn_X1_wholeBelow k pl, lo, hi, ba, wy) := by unfold fn_X0_obey; rw [if_neg q_1, if_neg q_2, if_pos q_3]
    exact W.vret hx hb hr (fun t ht hW9 => ⟨⟨(), rfl, trivial, by rw [ht, e9]; exact hP, by rw [e9]; exact hD⟩, hS.F ht⟩) hS.2.2 dX0_obey_252
  by_cases q_4 : v1 = (4 : Int32)
  · refine lv_tableIn (off := 136) (tgt := 137) hx hb dX0_obey_1 (by rw [q_4]; decide) (by rw [q_4]; decide) (by rw [q_4]; rfl) (by decide) ?_
    refine lv_aload_n hx hb dX0_obey_137 rfl (lv_at hl 0 rfl) ?_
    refine lv_aload_n hx hb dX0_obey_138 rfl (lv_at hl 0 rfl) ?_
    refine va_get (D := (dC, dI)) (ci := 0) (v := .ref (ad k)) (C := RX0) (T := TX0) (N := 6) hx hb hts hin hown hK hP 0 rfl rfl 0 (by decide) (hts (.fieldLink RX0 7 "ServoDesk$Axis" "kind" "LServoDesk$Kind;") (by decide +kernel)) (fun _ h9 => h9) rfl dX0_obey_139 ?_
    refine lv_aload_n hx hb dX0_obey_142 rfl (lv_at hl 0 rfl) ?_
    refine va_get (D := (dC, dI)) (ci := 0) (v := .long pl) (C := RX0) (T := TX0) (N := 6) hx hb hts hin hown hK hP 0 rfl rfl 1 (by decide) (hts (.fieldLink RX0 13 "ServoDesk$Axis" "place" "J") (by decide +kernel)) (fun _ h9 => h9) rfl dX0_obey_143 ?_
    refine vp_callSl (va_Run.run (va_runVN (As := [.long pl]) (rest := [.ref h0]) ⟨hx, hb, hml, hown, hts⟩ (ct_X1_wholeAbove l ad k hk_k pl) ⟨va_cnB 1 hts gX0_obey_X1_wholeAbove_n63 rfl rfl rfl (nW_X0_63 hN) (hts (.initialized RX1) (by decide +kernel)) (by decide +kernel) ⟨Nat.le_of_ble_eq_true rfl, Nat.le_of_ble_eq_true rfl⟩, hts (.instanceMethod yX1_wholeAbove) (by decide +kernel), hts (.selects RX1 yX1_wholeAbove yX1_wholeAbove) (by decide +kernel)⟩ ⟨(fun a U g mk q => ⟨q.1, kw_blind q.2⟩), kw_recv hW hS hk_k, fun U hU hW9 => ⟨rfl, kw_call hW hS hU hW9⟩⟩ rfl rfl hl.1 rfl (lv_room (Nat.le_of_ble_eq_true rfl)) dX0_obey_146 ⟨Nat.zero_le _, Nat.zero_le _⟩)) (fun r er => ?_)
    subst er
    refine va_put (D := (dC, dI)) (ci := 0) (v := .long (fn_X1_wholeAbove k pl)) (ty := .long) (C := RX0) (T := TX0) (N := 6) hx hb hts hin tyX0 tyX0_ok nmX0 hown hK hP hD hS 0 rfl rfl 1 (by decide) (hts (.fieldLink RX0 13 "ServoDesk$Axis" "place" "J") (by decide +kernel)) (fun _ h9 => h9) rfl (by decide +kernel) rfl rfl (Nat.le_of_ble_eq_true rfl) dX0_obey_149 (fun H locs hP hD hS => ?_)
    have hP : va_P (dC, dI) vwCl [(h0, .inr (0, [.ref (ad k), .long (fn_X1_wholeAbove k pl), .long lo, .long hi, .long ba, .long wy]))] H := hP
    have hD : va_D A [(h0, .inr (0, [.ref (ad k), .long (fn_X1_wholeAbove k pl), .long lo, .long hi, .long ba, .long wy]))] := hD
    refine lv_goto (tgt := 252) hx hb dX0_obey_152 (by decide) ?_
    have e9 : fn_X0_obey k v1 pl lo hi ba wy = (fn_X1_wholeAbove k pl, lo, hi, ba, wy) := by unfold fn_X0_obey; rw [if_neg q_1, if_neg q_2, if_neg q_3, if_pos q_4]
    exact W.vret hx hb hr (fun t ht hW9 => ⟨⟨(), rfl, trivial, by rw [ht, e9]; exact hP, by rw [e9]; exact hD⟩, hS.F ht⟩) hS.2.2 dX0_obey_252
  by_cases q_5 : v1 = (5 : Int32)
  · refine lv_tableIn (off := 154) (tgt := 155) hx hb dX0_obey_1 (by rw [q_5]; decide) (by rw [q_5]; decide) (by rw [q_5]; rfl) (by decide) ?_
    refine lv_aload_n hx hb dX0_obey_155 rfl (lv_at hl 0 rfl) ?_
    refine lv_aload_n hx hb dX0_obey_156 rfl (lv_at hl 0 rfl) ?_
    refine va_get (D := (dC, dI)) (ci := 0) (v := .ref (ad k)) (C := RX0) (T := TX0) (N := 6) hx hb hts hin hown hK hP 0 rfl rfl 0 (by decide) (hts (.fieldLink RX0 7 "ServoDesk$Axis" "kind" "LServoDesk$Kind;") (by decide +kernel)) (fun _ h9 => h9) rfl dX0_obey_157 ?_
    refine lv_aload_n hx hb dX0_obey_160 rfl (lv_at hl 0 rfl) ?_
    refine va_get (D := (dC, dI)) (ci := 0) (v := .long pl) (C := RX0) (T := TX0) (N := 6) hx hb hts hin hown hK hP 0 rfl rfl 1 (by decide) (hts (.fieldLink RX0 13 "ServoDesk$Axis" "place" "J") (by decide +kernel)) (fun _ h9 => h9) rfl dX0_obey_161 ?_
    refine vp_callSl (va_Run.run (va_runVN (As := [.long pl]) (rest := [.ref h0]) ⟨hx, hb, hml, hown, hts⟩ (ct_X1_wholeNearest l ad k hk_k pl) ⟨va_cnB 1 hts gX0_obey_X1_wholeNearest_n66 rfl rfl rfl (nW_X0_66 hN) (hts (.initialized RX1) (by decide +kernel)) (by decide +kernel) ⟨Nat.le_of_ble_eq_true rfl, Nat.le_of_ble_eq_true rfl⟩, hts (.instanceMethod yX1_wholeNearest) (by decide +kernel), hts (.selects RX1 yX1_wholeNearest yX1_wholeNearest) (by decide +kernel)⟩ ⟨(fun a U g mk q => ⟨q.1, kw_blind q.2⟩), kw_recv hW hS hk_k, fun U hU hW9 => ⟨rfl, kw_call hW hS hU hW9⟩⟩ rfl rfl hl.1 rfl (lv_room (Nat.le_of_ble_eq_true rfl)) dX0_obey_164 ⟨Nat.zero_le _, Nat.zero_le _⟩)) (fun r er => ?_)
    subst er
    refine va_put (D := (dC, dI)) (ci := 0) (v := .long (fn_X1_wholeNearest k pl)) (ty := .long) (C := RX0) (T := TX0) (N := 6) hx hb hts hin tyX0 tyX0_ok nmX0 hown hK hP hD hS 0 rfl rfl 1 (by decide) (hts (.fieldLink RX0 13 "ServoDesk$Axis" "place" "J") (by decide +kernel)) (fun _ h9 => h9) rfl (by decide +kernel) rfl rfl (Nat.le_of_ble_eq_true rfl) dX0_obey_167 (fun H locs hP hD hS => ?_)
    have hP : va_P (dC, dI) vwCl [(h0, .inr (0, [.ref (ad k), .long (fn_X1_wholeNearest k pl), .long lo, .long hi, .long ba, .long wy]))] H := hP
    have hD : va_D A [(h0, .inr (0, [.ref (ad k), .long (fn_X1_wholeNearest k pl), .long lo, .long hi, .long ba, .long wy]))] := hD
    refine lv_goto (tgt := 252) hx hb dX0_obey_170 (by decide) ?_
    have e9 : fn_X0_obey k v1 pl lo hi ba wy = (fn_X1_wholeNearest k pl, lo, hi, ba, wy) := by unfold fn_X0_obey; rw [if_neg q_1, if_neg q_2, if_neg q_3, if_neg q_4, if_pos q_5]
    exact W.vret hx hb hr (fun t ht hW9 => ⟨⟨(), rfl, trivial, by rw [ht, e9]; exact hP, by rw [e9]; exact hD⟩, hS.F ht⟩) hS.2.2 dX0_obey_252
  by_cases q_6 : v1 = (6 : Int32)
  · refine lv_tableIn (off := 172) (tgt := 173) hx hb dX0_obey_1 (by rw [q_6]; decide) (by rw [q_6]; decide) (by rw [q_6]; rfl) (by decide) ?_
    refine lv_aload_n hx hb dX0_obey_173 rfl (lv_at hl 0 rfl) ?_
    have hFc := va_F1 hD hS hA (k := 0) rfl
    refine va_callv (va_runV (As := []) (rest := []) ⟨hx, hb, hml, hown, hts⟩ (ct_X0_look l dC dI ad h0 s.heap.size k hk_k pl lo hi ba wy) (cwV 0 hts gX0_obey_X0_look rfl rfl rfl (by decide +kernel) ⟨Nat.le_of_ble_eq_true rfl, Nat.le_of_ble_eq_true rfl⟩) ⟨axw_blind, va_recv hK hP (ci := 0) (q0 := 0) rfl rfl, fun U hU hW9 => axw_call hK hP hD hW hN hS hFc hU hW9⟩ rfl rfl hl.1 rfl (lv_room (Nat.le_of_ble_eq_true rfl)) dX0_obey_174 ⟨Nat.zero_le _, Nat.zero_le _⟩) hS (fun q _ h => hFc q h) hFc (fun _ t H1 locs ht hvm hw hB hz1 hk1 hS => ?_)
    obtain ⟨hP1, -⟩ := hB
    rw [ht] at hP1
    obtain ⟨hP, hD⟩ := va_J1 hP hD (k := 0) rfl hk1 hP1
    have hP : va_P (dC, dI) vwCl [(h0, axE ad k (fn_X0_look k pl lo hi ba wy))] H1 := hP
    have hD : va_D A [(h0, axE ad k (fn_X0_look k pl lo hi ba wy))] := hD
    generalize H1 = H at hP hS ⊢
    refine lv_goto (tgt := 252) hx hb dX0_obey_177 (by decide) ?_
    have e9 : fn_X0_obey k v1 pl lo hi ba wy = fn_X0_look k pl lo hi ba wy := by unfold fn_X0_obey; rw [if_neg q_1, if_neg q_2, if_neg q_3, if_neg q_4, if_neg q_5, if_pos q_6]
    exact W.vret hx hb hr (fun t ht hW9 => ⟨⟨(), rfl, trivial, by rw [ht, e9]; exact hP, by rw [e9]; exact hD⟩, hS.F ht⟩) hS.2.2 dX0_obey_252
  by_cases q_7 : v1 = (7 : Int32)
  · refine lv_tableIn (off := 179) (tgt := 180) hx hb dX0_obey_1 (by rw [q_7]; decide) (by rw [q_7]; decide) (by rw [q_7]; rfl) (by decide) ?_
    refine lv_aload_n hx hb dX0_obey_180 rfl (lv_at hl 0 rfl) ?_
    refine lv_aload_n hx hb dX0_obey_181 rfl (lv_at hl 0 rfl) ?_
    refine va_get (D := (dC, dI)) (ci := 0) (v := .ref (ad k)) (C := RX0) (T := TX0) (N := 6) hx hb hts hin hown hK hP 0 rfl rfl 0 (by decide) (hts (.fieldLink RX0 7 "ServoDesk$Axis" "kind" "LServoDesk$Kind;") (by decide +kernel)) (fun _ h9 => h9) rfl dX0_obey_182 ?_
    refine lv_aload_n hx hb dX0_obey_185 rfl (lv_at hl 0 rfl) ?_
    refine va_get (D := (dC, dI)) (ci := 0) (v := .long pl) (C := RX0) (T := TX0) (N := 6) hx hb hts hin hown hK hP 0 rfl rfl 1 (by decide) (hts (.fieldLink RX0 13 "ServoDesk$Axis" "place" "J") (by decide +kernel)) (fun _ h9 => h9) rfl dX0_obey_186 ?_
    refine lv_aload_n hx hb dX0_obey_189 rfl (lv_at hl 0 rfl) ?_
    refine va_get (D := (dC, dI)) (ci := 0) (v := .long wy) (C := RX0) (T := TX0) (N := 6) hx hb hts hin hown hK hP 0 rfl rfl 5 (by decide) (hts (.fieldLink RX0 35 "ServoDesk$Axis" "way" "J") (by decide +kernel)) (fun _ h9 => h9) rfl dX0_obey_190 ?_
    refine vp_callSl (va_Run.run (va_runVN (As := [.long pl, .long wy]) (rest := [.ref h0]) ⟨hx, hb, hml, hown, hts⟩ (ct_X1_turned l ad k hk_k pl wy) ⟨va_cnB 2 hts gX0_obey_X1_turned_n72 rfl rfl rfl (nW_X0_72 hN) (hts (.initialized RX1) (by decide +kernel)) (by decide +kernel) ⟨Nat.le_of_ble_eq_true rfl, Nat.le_of_ble_eq_true rfl⟩, hts (.instanceMethod yX1_turned) (by decide +kernel), hts (.selects RX1 yX1_turned yX1_turned) (by decide +kernel)⟩ ⟨(fun a U g mk q => ⟨q.1, kw_blind q.2⟩), kw_recv hW hS hk_k, fun U hU hW9 => ⟨rfl, kw_call hW hS hU hW9⟩⟩ rfl rfl hl.1 rfl (lv_room (Nat.le_of_ble_eq_true rfl)) dX0_obey_193 ⟨Nat.zero_le _, Nat.zero_le _⟩)) (fun r er => ?_)
    subst er
    refine va_put (D := (dC, dI)) (ci := 0) (v := .long (fn_X1_turned k pl wy)) (ty := .long) (C := RX0) (T := TX0) (N := 6) hx hb hts hin tyX0 tyX0_ok nmX0 hown hK hP hD hS 0 rfl rfl 1 (by decide) (hts (.fieldLink RX0 13 "ServoDesk$Axis" "place" "J") (by decide +kernel)) (fun _ h9 => h9) rfl (by decide +kernel) rfl rfl (Nat.le_of_ble_eq_true rfl) dX0_obey_196 (fun H locs hP hD hS => ?_)
    have hP : va_P (dC, dI) vwCl [(h0, .inr (0, [.ref (ad k), .long (fn_X1_turned k pl wy), .long lo, .long hi, .long ba, .long wy]))] H := hP
    have hD : va_D A [(h0, .inr (0, [.ref (ad k), .long (fn_X1_turned k pl wy), .long lo, .long hi, .long ba, .long wy]))] := hD
    refine lv_goto (tgt := 252) hx hb dX0_obey_199 (by decide) ?_
    have e9 : fn_X0_obey k v1 pl lo hi ba wy = (fn_X1_turned k pl wy, lo, hi, ba, wy) := by unfold fn_X0_obey; rw [if_neg q_1, if_neg q_2, if_neg q_3, if_neg q_4, if_neg q_5, if_neg q_6, if_pos q_7]
    exact W.vret hx hb hr (fun t ht hW9 => ⟨⟨(), rfl, trivial, by rw [ht, e9]; exact hP, by rw [e9]; exact hD⟩, hS.F ht⟩) hS.2.2 dX0_obey_252
  by_cases q_8 : v1 = (8 : Int32)
  · refine lv_tableIn (off := 201) (tgt := 202) hx hb dX0_obey_1 (by rw [q_8]; decide) (by rw [q_8]; decide) (by rw [q_8]; rfl) (by decide) ?_
    refine lv_aload_n hx hb dX0_obey_202 rfl (lv_at hl 0 rfl) ?_
    have hFc := va_F1 hD hS hA (k := 0) rfl
    refine va_callv (va_runV (As := []) (rest := []) ⟨hx, hb, hml, hown, hts⟩ (ct_X0_widen l dC dI ad h0 s.heap.size k hk_k pl lo hi ba wy) (cwV 0 hts gX0_obey_X0_widen rfl rfl rfl (by decide +kernel) ⟨Nat.le_of_ble_eq_true rfl, Nat.le_of_ble_eq_true rfl⟩) ⟨axw_blind, va_recv hK hP (ci := 0) (q0 := 0) rfl rfl, fun U hU hW9 => axw_call hK hP hD hW hN hS hFc hU hW9⟩ rfl rfl hl.1 rfl (lv_room (Nat.le_of_ble_eq_true rfl)) dX0_obey_203 ⟨Nat.zero_le _, Nat.zero_le _⟩) hS (fun q _ h => hFc q h) hFc (fun _ t H1 locs ht hvm hw hB hz1 hk1 hS => ?_)
    obtain ⟨hP1, -⟩ := hB
    rw [ht] at hP1
    obtain ⟨hP, hD⟩ := va_J1 hP hD (k := 0) rfl hk1 hP1
    have hP : va_P (dC, dI) vwCl [(h0, axE ad k (fn_X0_widen k pl lo hi ba wy))] H1 := hP
    have hD : va_D A [(h0, axE ad k (fn_X0_widen k pl lo hi ba wy))] := hD
    generalize H1 = H at hP hS ⊢
    refine lv_goto (tgt := 252) hx hb dX0_obey_206 (by decide) ?_
    have e9 : fn_X0_obey k v1 pl lo hi ba wy = fn_X0_widen k pl lo hi ba wy := by unfold fn_X0_obey; rw [if_neg q_1, if_neg q_2, if_neg q_3, if_neg q_4, if_neg q_5, if_neg q_6, if_neg q_7, if_pos q_8]
    exact W.vret hx hb hr (fun t ht hW9 => ⟨⟨(), rfl, trivial, by rw [ht, e9]; exact hP, by rw [e9]; exact hD⟩, hS.F ht⟩) hS.2.2 dX0_obey_252
  by_cases q_9 : v1 = (9 : Int32)
  · refine lv_tableIn (off := 208) (tgt := 209) hx hb dX0_obey_1 (by rw [q_9]; decide) (by rw [q_9]; decide) (by rw [q_9]; rfl) (by decide) ?_
    refine lv_aload_n hx hb dX0_obey_209 rfl (lv_at hl 0 rfl) ?_
    have hFc := va_F1 hD hS hA (k := 0) rfl
    refine va_callv (va_runV (As := []) (rest := []) ⟨hx, hb, hml, hown, hts⟩ (ct_X0_rest l dC dI ad h0 s.heap.size k hk_k pl lo hi ba wy) (cwV 0 hts gX0_obey_X0_rest rfl rfl rfl (by decide +kernel) ⟨Nat.le_of_ble_eq_true rfl, Nat.le_of_ble_eq_true rfl⟩) ⟨axw_blind, va_recv hK hP (ci := 0) (q0 := 0) rfl rfl, fun U hU hW9 => axw_call hK hP hD hW hN hS hFc hU hW9⟩ rfl rfl hl.1 rfl (lv_room (Nat.le_of_ble_eq_true rfl)) dX0_obey_210 ⟨Nat.zero_le _, Nat.zero_le _⟩) hS (fun q _ h => hFc q h) hFc (fun _ t H1 locs ht hvm hw hB hz1 hk1 hS => ?_)
    obtain ⟨hP1, -⟩ := hB
    rw [ht] at hP1
    obtain ⟨hP, hD⟩ := va_J1 hP hD (k := 0) rfl hk1 hP1
    have hP : va_P (dC, dI) vwCl [(h0, axE ad k (fn_X0_rest k pl lo hi ba wy))] H1 := hP
    have hD : va_D A [(h0, axE ad k (fn_X0_rest k pl lo hi ba wy))] := hD
    generalize H1 = H at hP hS ⊢
    refine lv_goto (tgt := 252) hx hb dX0_obey_213 (by decide) ?_
    have e9 : fn_X0_obey k v1 pl lo hi ba wy = fn_X0_rest k pl lo hi ba wy := by unfold fn_X0_obey; rw [if_neg q_1, if_neg q_2, if_neg q_3, if_neg q_4, if_neg q_5, if_neg q_6, if_neg q_7, if_neg q_8, if_pos q_9]
    exact W.vret hx hb hr (fun t ht hW9 => ⟨⟨(), rfl, trivial, by rw [ht, e9]; exact hP, by rw [e9]; exact hD⟩, hS.F ht⟩) hS.2.2 dX0_obey_252
  by_cases q_10 : v1 = (10 : Int32)
  · refine lv_tableIn (off := 215) (tgt := 216) hx hb dX0_obey_1 (by rw [q_10]; decide) (by rw [q_10]; decide) (by rw [q_10]; rfl) (by decide) ?_
    refine lv_aload_n hx hb dX0_obey_216 rfl (lv_at hl 0 rfl) ?_
    have hFc := va_F1 hD hS hA (k := 0) rfl
    refine va_callv (va_runV (As := []) (rest := []) ⟨hx, hb, hml, hown, hts⟩ (ct_X0_grid l dC dI ad h0 s.heap.size k hk_k pl lo hi ba wy) (cwV 0 hts gX0_obey_X0_grid rfl rfl rfl (by decide +kernel) ⟨Nat.le_of_ble_eq_true rfl, Nat.le_of_ble_eq_true rfl⟩) ⟨axw_blind, va_recv hK hP (ci := 0) (q0 := 0) rfl rfl, fun U hU hW9 => axw_call hK hP hD hW hN hS hFc hU hW9⟩ rfl rfl hl.1 rfl (lv_room (Nat.le_of_ble_eq_true rfl)) dX0_obey_217 ⟨Nat.zero_le _, Nat.zero_le _⟩) hS (fun q _ h => hFc q h) hFc (fun _ t H1 locs ht hvm hw hB hz1 hk1 hS => ?_)
    obtain ⟨hP1, -⟩ := hB
    rw [ht] at hP1
    obtain ⟨hP, hD⟩ := va_J1 hP hD (k := 0) rfl hk1 hP1
    have hP : va_P (dC, dI) vwCl [(h0, axE ad k (fn_X0_grid k pl lo hi ba wy))] H1 := hP
    have hD : va_D A [(h0, axE ad k (fn_X0_grid k pl lo hi ba wy))] := hD
    generalize H1 = H at hP hS ⊢
    refine lv_goto (tgt := 252) hx hb dX0_obey_220 (by decide) ?_
    have e9 : fn_X0_obey k v1 pl lo hi ba wy = fn_X0_grid k pl lo hi ba wy := by unfold fn_X0_obey; rw [if_neg q_1, if_neg q_2, if_neg q_3, if_neg q_4, if_neg q_5, if_neg q_6, if_neg q_7, if_neg q_8, if_neg q_9, if_pos q_10]
    exact W.vret hx hb hr (fun t ht hW9 => ⟨⟨(), rfl, trivial, by rw [ht, e9]; exact hP, by rw [e9]; exact hD⟩, hS.F ht⟩) hS.2.2 dX0_obey_252
  by_cases q_11 : v1 = (11 : Int32)
  · refine lv_tableIn (off := 222) (tgt := 223) hx hb dX0_obey_1 (by rw [q_11]; decide) (by rw [q_11]; decide) (by rw [q_11]; rfl) (by decide) ?_
    refine lv_aload_n hx hb dX0_obey_223 rfl (lv_at hl 0 rfl) ?_
    have hFc := va_F1 hD hS hA (k := 0) rfl
    refine va_callv (va_runV (As := []) (rest := []) ⟨hx, hb, hml, hown, hts⟩ (ct_X0_swap l dC dI ad h0 s.heap.size k hk_k pl lo hi ba wy) (cwV 0 hts gX0_obey_X0_swap rfl rfl rfl (by decide +kernel) ⟨Nat.le_of_ble_eq_true rfl, Nat.le_of_ble_eq_true rfl⟩) ⟨axw_blind, va_recv hK hP (ci := 0) (q0 := 0) rfl rfl, fun U hU hW9 => axw_call hK hP hD hW hN hS hFc hU hW9⟩ rfl rfl hl.1 rfl (lv_room (Nat.le_of_ble_eq_true rfl)) dX0_obey_224 ⟨Nat.zero_le _, Nat.zero_le _⟩) hS (fun q _ h => hFc q h) hFc (fun _ t H1 locs ht hvm hw hB hz1 hk1 hS => ?_)
    obtain ⟨hP1, -⟩ := hB
    rw [ht] at hP1
    obtain ⟨hP, hD⟩ := va_J1 hP hD (k := 0) rfl hk1 hP1
    have hP : va_P (dC, dI) vwCl [(h0, axE ad k (fn_X0_swap k pl lo hi ba wy))] H1 := hP
    have hD : va_D A [(h0, axE ad k (fn_X0_swap k pl lo hi ba wy))] := hD
    generalize H1 = H at hP hS ⊢
    refine lv_goto (tgt := 252) hx hb dX0_obey_227 (by decide) ?_
    have e9 : fn_X0_obey k v1 pl lo hi ba wy = fn_X0_swap k pl lo hi ba wy := by unfold fn_X0_obey; rw [if_neg q_1, if_neg q_2, if_neg q_3, if_neg q_4, if_neg q_5, if_neg q_6, if_neg q_7, if_neg q_8, if_neg q_9, if_neg q_10, if_pos q_11]
    exact W.vret hx hb hr (fun t ht hW9 => ⟨⟨(), rfl, trivial, by rw [ht, e9]; exact hP, by rw [e9]; exact hD⟩, hS.F ht⟩) hS.2.2 dX0_obey_252
  by_cases q_12 : v1 = (12 : Int32)
  · refine lv_tableIn (off := 229) (tgt := 230) hx hb dX0_obey_1 (by rw [q_12]; decide) (by rw [q_12]; decide) (by rw [q_12]; rfl) (by decide) ?_
    refine lv_aload_n hx hb dX0_obey_230 rfl (lv_at hl 0 rfl) ?_
    refine lv_aload_n hx hb dX0_obey_231 rfl (lv_at hl 0 rfl) ?_
    refine va_get (D := (dC, dI)) (ci := 0) (v := .long lo) (C := RX0) (T := TX0) (N := 6) hx hb hts hin hown hK hP 0 rfl rfl 2 (by decide) (hts (.fieldLink RX0 23 "ServoDesk$Axis" "low" "J") (by decide +kernel)) (fun _ h9 => h9) rfl dX0_obey_232 ?_
    refine va_put (D := (dC, dI)) (ci := 0) (v := .long lo) (ty := .long) (C := RX0) (T := TX0) (N := 6) hx hb hts hin tyX0 tyX0_ok nmX0 hown hK hP hD hS 0 rfl rfl 1 (by decide) (hts (.fieldLink RX0 13 "ServoDesk$Axis" "place" "J") (by decide +kernel)) (fun _ h9 => h9) rfl (by decide +kernel) rfl rfl (Nat.le_of_ble_eq_true rfl) dX0_obey_235 (fun H locs hP hD hS => ?_)
    have hP : va_P (dC, dI) vwCl [(h0, .inr (0, [.ref (ad k), .long lo, .long lo, .long hi, .long ba, .long wy]))] H := hP
    have hD : va_D A [(h0, .inr (0, [.ref (ad k), .long lo, .long lo, .long hi, .long ba, .long wy]))] := hD
    refine lv_goto (tgt := 252) hx hb dX0_obey_238 (by decide) ?_
    have e9 : fn_X0_obey k v1 pl lo hi ba wy = (lo, lo, hi, ba, wy) := by unfold fn_X0_obey; rw [if_neg q_1, if_neg q_2, if_neg q_3, if_neg q_4, if_neg q_5, if_neg q_6, if_neg q_7, if_neg q_8, if_neg q_9, if_neg q_10, if_neg q_11, if_pos q_12]
    exact W.vret hx hb hr (fun t ht hW9 => ⟨⟨(), rfl, trivial, by rw [ht, e9]; exact hP, by rw [e9]; exact hD⟩, hS.F ht⟩) hS.2.2 dX0_obey_252
  by_cases q_13 : v1 = (13 : Int32)
  · refine lv_tableIn (off := 240) (tgt := 241) hx hb dX0_obey_1 (by rw [q_13]; decide) (by rw [q_13]; decide) (by rw [q_13]; rfl) (by decide) ?_
    refine lv_aload_n hx hb dX0_obey_241 rfl (lv_at hl 0 rfl) ?_
    refine lv_aload_n hx hb dX0_obey_242 rfl (lv_at hl 0 rfl) ?_
    refine va_get (D := (dC, dI)) (ci := 0) (v := .long hi) (C := RX0) (T := TX0) (N := 6) hx hb hts hin hown hK hP 0 rfl rfl 3 (by decide) (hts (.fieldLink RX0 29 "ServoDesk$Axis" "high" "J") (by decide +kernel)) (fun _ h9 => h9) rfl dX0_obey_243 ?_
    refine va_put (D := (dC, dI)) (ci := 0) (v := .long hi) (ty := .long) (C := RX0) (T := TX0) (N := 6) hx hb hts hin tyX0 tyX0_ok nmX0 hown hK hP hD hS 0 rfl rfl 1 (by decide) (hts (.fieldLink RX0 13 "ServoDesk$Axis" "place" "J") (by decide +kernel)) (fun _ h9 => h9) rfl (by decide +kernel) rfl rfl (Nat.le_of_ble_eq_true rfl) dX0_obey_246 (fun H locs hP hD hS => ?_)
    have hP : va_P (dC, dI) vwCl [(h0, .inr (0, [.ref (ad k), .long hi, .long lo, .long hi, .long ba, .long wy]))] H := hP
    have hD : va_D A [(h0, .inr (0, [.ref (ad k), .long hi, .long lo, .long hi, .long ba, .long wy]))] := hD
    refine lv_goto (tgt := 252) hx hb dX0_obey_249 (by decide) ?_
    have e9 : fn_X0_obey k v1 pl lo hi ba wy = (hi, lo, hi, ba, wy) := by unfold fn_X0_obey; rw [if_neg q_1, if_neg q_2, if_neg q_3, if_neg q_4, if_neg q_5, if_neg q_6, if_neg q_7, if_neg q_8, if_neg q_9, if_neg q_10, if_neg q_11, if_neg q_12, if_pos q_13]
    exact W.vret hx hb hr (fun t ht hW9 => ⟨⟨(), rfl, trivial, by rw [ht, e9]; exact hP, by rw [e9]; exact hD⟩, hS.F ht⟩) hS.2.2 dX0_obey_252
  refine lv_tableOut (tgt := 252) hx hb dX0_obey_1 (by have z1 := lv_neT q_1 (a := 1) (by decide); have z2 := lv_neT q_2 (a := 2) (by decide); have z3 := lv_neT q_3 (a := 3) (by decide); have z4 := lv_neT q_4 (a := 4) (by decide); have z5 := lv_neT q_5 (a := 5) (by decide); have z6 := lv_neT q_6 (a := 6) (by decide); have z7 := lv_neT q_7 (a := 7) (by decide); have z8 := lv_neT q_8 (a := 8) (by decide); have z9 := lv_neT q_9 (a := 9) (by decide); have z10 := lv_neT q_10 (a := 10) (by decide); have z11 := lv_neT q_11 (a := 11) (by decide); have z12 := lv_neT q_12 (a := 12) (by decide); have z13 := lv_neT q_13 (a := 13) (by decide); omega) (by decide) ?_
  have e9 : fn_X0_obey k v1 pl lo hi ba wy = (pl, lo, hi, ba, wy) := by unfold fn_X0_obey; rw [if_neg q_1, if_neg q_2, if_neg q_3, if_neg q_4, if_neg q_5, if_neg q_6, if_neg q_7, if_neg q_8, if_neg q_9, if_neg q_10, if_neg q_11, if_neg q_12, if_neg q_13]
  exact W.vret hx hb hr (fun t ht hW9 => ⟨⟨(), rfl, trivial, by rw [ht, e9]; exact hP, by rw [e9]; exact hD⟩, hS.F ht⟩) hS.2.2 dX0_obey_252
