set_option maxHeartbeats 4000000 in
set_option maxRecDepth 100000 in
theorem ct_X3_isAxis (l : Launch) (dC : Nat → ClassId) (dI : Nat → Nat → Nat) (m0 ka na : Nat) (cI cJ : ClassId) (sz n : Nat) (kf : Nat → Int32) (nf : Nat → Int64) (v1 : Int32) : Met l yX3_isAxis wsX3_isAxis ({ frames := 0, cells := 0, slots := 0, locals := 0 } : Room) (va_Pc [.ref m0, .int v1] (fun U => mw dC dI m0 ka na cI cJ sz n kf nf U)) (vp_Si (fun r => r = fn_X3_isAxis n v1)) 0 0 (fun _ => False) := by
  refine Met.ofW (cc := cX3_isAxis) (maxL := 2) (ret := (some .boolean)) (by decide) rfl ?_
  intro p e s m args below meth c s₁ B hml hv
  obtain ⟨rfl, hsz, hP, hK, hD0⟩ := hv
  have hx := B.exec
  have hb := B.bytes
  have hr := B.returns
  have hlocks := B.notSynchronized
  have hts := atoms_spec (ws := wsX3_isAxis) B.pre
  have hown : s.vm.findClass RX3 = some m.cls := findClass_of_methodNamed B.named
  have hin : ∀ w ∈ u_ws RX3 TX3 3, w ∈ wsX3_isAxis := fun _ h => List.mem_cons_of_mem _ (List.mem_append_right _ h)
  subst hsz
  have hD := hD0.self (sz := s.heap.size)
  generalize hAe : va_A (mdW m0 ka na cI cJ n kf nf) s.heap.size = A at hD ⊢
  have hA : ∀ q : Nat, s.heap.size ≤ q → A q := fun q h => by rw [← hAe]; exact Or.inr h
  have hS : va_S A s.heap s.heap [] := va_S.rf
  have hP : va_P (dC, dI) vwCl [(m0, .inr (3, [.ref ka, .ref na, .int (nI n)])), (ka, .inl (cI, 8, .inl kf)), (na, .inl (cJ, 40, .inr (.inl nf)))] s.heap := hP
  have hD : va_D A [(m0, .inr (3, [.ref ka, .ref na, .int (nI n)])), (ka, .inl (cI, 8, .inl kf)), (na, .inl (cJ, 40, .inr (.inl nf)))] := hD
  have hl := lv_entry ([.ref m0, .int v1]) (n := 2) (Nat.le_of_ble_eq_true rfl)
  rw [lg_entry_eq]
  generalize (lg_sl ([.ref m0, .int v1]) ++ List.replicate (2 - (lg_sl ([.ref m0, .int v1])).length) Slot.unset).toArray = ls at hl ⊢
  have hl : lv_has ls 2 [(0, .ref m0), (1, .int v1)] := hl
  refine lv_iload_n hx hb dX3_isAxis_0 rfl (lv_at hl 1 rfl) ?_
  refine lv_if_lt (tgt := 16) hx hb dX3_isAxis_1 (by decide) (fun c_1 => ?_) (fun c_1 => ?_)
  · refine lv_iconst (v := (0 : Int32)) hx hb dX3_isAxis_16 (by decide) ?_
    have e9 : fn_X3_isAxis n v1 = (0 : Int32) := by unfold fn_X3_isAxis; rw [if_pos c_1]
    exact W.zret (v := (0 : Int32)) (ty := .boolean) hx hb hr (by decide) (fun t ht hW9 => ⟨_, rfl, by rw [e9], ht⟩) (fun _ h => by cases h) dX3_isAxis_17
  · refine lv_iload_n hx hb dX3_isAxis_4 rfl (lv_at hl 1 rfl) ?_
    refine lv_aload_n hx hb dX3_isAxis_5 rfl (lv_at hl 0 rfl) ?_
    refine va_get (D := (dC, dI)) (ci := 3) (v := .int (nI n)) (C := RX3) (T := TX3) (N := 3) hx hb hts hin hown hK hP 0 rfl rfl 2 (by decide) (hts (.fieldLink RX3 17 "ServoDeskModel" "many" "I") (by decide +kernel)) (fun _ h9 => h9) rfl dX3_isAxis_6 ?_
    refine lv_icmp_ge (tgt := 16) hx hb dX3_isAxis_9 (by decide) (fun c_2 => ?_) (fun c_2 => ?_)
    · refine lv_iconst (v := (0 : Int32)) hx hb dX3_isAxis_16 (by decide) ?_
      have e9 : fn_X3_isAxis n v1 = (0 : Int32) := by unfold fn_X3_isAxis; rw [if_neg c_1, if_pos c_2]
      exact W.zret (v := (0 : Int32)) (ty := .boolean) hx hb hr (by decide) (fun t ht hW9 => ⟨_, rfl, by rw [e9], ht⟩) (fun _ h => by cases h) dX3_isAxis_17
    · refine lv_iconst (v := (1 : Int32)) hx hb dX3_isAxis_12 (by decide) ?_
      refine lv_goto (tgt := 17) hx hb dX3_isAxis_13 (by decide) ?_
      have e9 : fn_X3_isAxis n v1 = (1 : Int32) := by unfold fn_X3_isAxis; rw [if_neg c_1, if_neg c_2]
      exact W.zret (v := (1 : Int32)) (ty := .boolean) hx hb hr (by decide) (fun t ht hW9 => ⟨_, rfl, by rw [e9], ht⟩) (fun _ h => by cases h) dX3_isAxis_17
def fn_X3_does (v1 : Int32) (a : Nat) (v3 : Int32) (nf : Nat → Int64) : Nat → Int64 :=
  if v3 = (1 : Int32) then
    vp_updL nf ((5 * a) + 0) (fn_X3_greater v1 (nf ((5 * a) + 1)) (fn_X3_lesser v1 (nf ((5 * a) + 2)) (nf ((5 * a) + 0))))
  else
    if v3 = (2 : Int32) then
      vp_updL nf ((5 * a) + 0) (fn_X3_sized v1 (nf ((5 * a) + 0)))
    else
      if v3 = (3 : Int32) then
        vp_updL nf ((5 * a) + 0) (fn_X3_stepped v1 (nf ((5 * a) + 0)) (0 : Int32))
      else
        if v3 = (4 : Int32) then
          vp_updL nf ((5 * a) + 0) (fn_X3_stepped v1 (nf ((5 * a) + 0)) (1 : Int32))
        else
          if v3 = (5 : Int32) then
            vp_updL nf ((5 * a) + 0) (fn_X3_stepped v1 (nf ((5 * a) + 0)) (2 : Int32))
          else
            if v3 = (6 : Int32) then
              vp_updL nf ((5 * a) + 4) (fn_X3_wayOf v1 (nf ((5 * a) + 0)))
            else
              if v3 = (7 : Int32) then
                vp_updL nf ((5 * a) + 0) (fn_X3_turned v1 (nf ((5 * a) + 0)) (nf ((5 * a) + 4)))
              else
                if v3 = (8 : Int32) then
                  vp_updL (vp_updL nf ((5 * a) + 2) (fn_X3_greater v1 (nf ((5 * a) + 2)) (nf ((5 * a) + 0)))) ((5 * a) + 1) (fn_X3_lesser v1 (nf ((5 * a) + 1)) (nf ((5 * a) + 0)))
                else
                  if v3 = (9 : Int32) then
                    if (fn_X3_sized v1 (nf ((5 * a) + 3))) < (fn_X3_sized v1 (nf ((5 * a) + 0))) then
                      nf
                    else
                      if (fn_X3_isFloating v1) = 0 then
                        vp_updL nf ((5 * a) + 0) (0 : Int64)
                      else
                        if (0 : Int64) ≤ (nf ((5 * a) + 0)) then
                          vp_updL nf ((5 * a) + 0) (fn_X3_signed v1 (0 : Int64) (0 : Int32))
                        else
                          vp_updL nf ((5 * a) + 0) (fn_X3_signed v1 (0 : Int64) (1 : Int32))
                  else
                    if v3 = (10 : Int32) then
                      vp_updL (vp_updL nf ((5 * a) + 1) (fn_X3_stepped v1 (nf ((5 * a) + 0)) (0 : Int32))) ((5 * a) + 2) (fn_X3_stepped v1 (nf ((5 * a) + 0)) (1 : Int32))
                    else
                      if v3 = (11 : Int32) then
                        vp_updL (vp_updL nf ((5 * a) + 1) (nf ((5 * a) + 2))) ((5 * a) + 2) (nf ((5 * a) + 1))
                      else
                        if v3 = (12 : Int32) then
                          vp_updL nf ((5 * a) + 0) (nf ((5 * a) + 1))
                        else
                          vp_updL nf ((5 * a) + 0) (nf ((5 * a) + 2))
set_option maxHeartbeats 4000000 in
set_option maxRecDepth 100000 in
theorem ct_X3_does (l : Launch) (dC : Nat → ClassId) (dI : Nat → Nat → Nat) (m0 ka na : Nat) (cI cJ : ClassId) (sz n : Nat) (kf : Nat → Int32) (nf : Nat → Int64) (v1 : Int32) (a : Nat) (v3 : Int32) (ha : a < 8) : Met l yX3_does wsX3_does ({ frames := 4, cells := 0, slots := 0, locals := 92 } : Room) (va_Pc [.ref m0, .int v1, .int (nI (5 * a)), .int v3] (fun U => mw dC dI m0 ka na cI cJ sz n kf nf U)) (va_Qv (fun _ : Unit => True) (fun _ t => va_P (dC, dI) vwCl (mdW m0 ka na cI cJ n kf (fn_X3_does v1 a v3 nf)) t.heap ∧ va_D (va_A (mdW m0 ka na cI cJ n kf nf) sz) (mdW m0 ka na cI cJ n kf (fn_X3_does v1 a v3 nf))) (va_A (mdW m0 ka na cI cJ n kf nf) sz)) 0 0 (va_A (mdW m0 ka na cI cJ n kf nf) sz) := by
  refine Met.ofW (cc := cX3_does) (maxL := 10) (ret := none) (by decide) rfl ?_
  intro p e s m args below meth c s₁ B hml hv
  obtain ⟨rfl, hsz, hP, hK, hD0⟩ := hv
  have hx := B.exec
  have hb := B.bytes
  have hr := B.returns
  have hlocks := B.notSynchronized
  have hts := atoms_spec (ws := wsX3_does) B.pre
  have hown : s.vm.findClass RX3 = some m.cls := findClass_of_methodNamed B.named
  have hin : ∀ w ∈ u_ws RX3 TX3 3, w ∈ wsX3_does := fun _ h => List.mem_cons_of_mem _ (List.mem_append_right _ h)
  subst hsz
  have hD := hD0.self (sz := s.heap.size)
  generalize hAe : va_A (mdW m0 ka na cI cJ n kf nf) s.heap.size = A at hD ⊢
  have hA : ∀ q : Nat, s.heap.size ≤ q → A q := fun q h => by rw [← hAe]; exact Or.inr h
  have hS : va_S A s.heap s.heap [] := va_S.rf
  have hP : va_P (dC, dI) vwCl [(m0, .inr (3, [.ref ka, .ref na, .int (nI n)])), (ka, .inl (cI, 8, .inl kf)), (na, .inl (cJ, 40, .inr (.inl nf)))] s.heap := hP
  have hD : va_D A [(m0, .inr (3, [.ref ka, .ref na, .int (nI n)])), (ka, .inl (cI, 8, .inl kf)), (na, .inl (cJ, 40, .inr (.inl nf)))] := hD
  have hl := lv_entry ([.ref m0, .int v1, .int (nI (5 * a)), .int v3]) (n := 10) (Nat.le_of_ble_eq_true rfl)
  rw [lg_entry_eq]
  generalize (lg_sl ([.ref m0, .int v1, .int (nI (5 * a)), .int v3]) ++ List.replicate (10 - (lg_sl ([.ref m0, .int v1, .int (nI (5 * a)), .int v3])).length) Slot.unset).toArray = ls at hl ⊢
  have hl : lv_has ls 10 [(0, .ref m0), (1, .int v1), (2, .int (nI (5 * a))), (3, .int v3)] := hl
  refine lv_aload_n hx hb dX3_does_0 rfl (lv_at hl 0 rfl) ?_
  refine va_get (D := (dC, dI)) (ci := 3) (v := .ref na) (C := RX3) (T := TX3) (N := 3) hx hb hts hin hown hK hP 0 rfl rfl 1 (by decide) (hts (.fieldLink RX3 13 "ServoDeskModel" "number" "[J") (by decide +kernel)) (fun _ h9 => h9) rfl dX3_does_1 ?_
  refine lv_iload_n hx hb dX3_does_4 rfl (lv_at hl 2 rfl) ?_
  refine lv_iconst (v := (0 : Int32)) hx hb dX3_does_5 (by decide) ?_
  refine lv_iadd hx hb dX3_does_6 ?_
  refine zn_top (n := (5 * a) + 0) (nI_add (5 * a) 0) ?_
  refine zm_lald hx hb hK hP 2 1 rfl rfl (i := (5 * a) + 0) (by omega) (by decide) dX3_does_7 ?_
  refine lv_lstore (lv' := [(4, .long (nf ((5 * a) + 0))), (0, .ref m0), (1, .int v1), (2, .int (nI (5 * a))), (3, .int v3)]) hx hb dX3_does_8 hl (by decide) rfl (fun ls hl => ?_)
  refine lv_aload_n hx hb dX3_does_10 rfl (lv_at hl 1 rfl) ?_
  refine va_get (D := (dC, dI)) (ci := 3) (v := .ref na) (C := RX3) (T := TX3) (N := 3) hx hb hts hin hown hK hP 0 rfl rfl 1 (by decide) (hts (.fieldLink RX3 13 "ServoDeskModel" "number" "[J") (by decide +kernel)) (fun _ h9 => h9) rfl dX3_does_11 ?_
  refine lv_iload_n hx hb dX3_does_14 rfl (lv_at hl 3 rfl) ?_
  refine lv_iconst (v := (1 : Int32)) hx hb dX3_does_15 (by decide) ?_
  refine lv_iadd hx hb dX3_does_16 ?_
  refine zn_top (n := (5 * a) + 1) (nI_add (5 * a) 1) ?_
  refine zm_lald hx hb hK hP 2 1 rfl rfl (i := (5 * a) + 1) (by omega) (by decide) dX3_does_17 ?_
  refine lv_lstore (lv' := [(6, .long (nf ((5 * a) + 1))), (4, .long (nf ((5 * a) + 0))), (0, .ref m0), (1, .int v1), (2, .int (nI (5 * a))), (3, .int v3)]) hx hb dX3_does_18 hl (by decide) rfl (fun ls hl => ?_)
  refine lv_aload_n hx hb dX3_does_20 rfl (lv_at hl 2 rfl) ?_
  refine va_get (D := (dC, dI)) (ci := 3) (v := .ref na) (C := RX3) (T := TX3) (N := 3) hx hb hts hin hown hK hP 0 rfl rfl 1 (by decide) (hts (.fieldLink RX3 13 "ServoDeskModel" "number" "[J") (by decide +kernel)) (fun _ h9 => h9) rfl dX3_does_21 ?_
  refine lv_iload_n hx hb dX3_does_24 rfl (lv_at hl 4 rfl) ?_
  refine lv_iconst (v := (2 : Int32)) hx hb dX3_does_25 (by decide) ?_
  refine lv_iadd hx hb dX3_does_26 ?_
  refine zn_top (n := (5 * a) + 2) (nI_add (5 * a) 2) ?_
  refine zm_lald hx hb hK hP 2 1 rfl rfl (i := (5 * a) + 2) (by omega) (by decide) dX3_does_27 ?_
  refine lv_lstore (lv' := [(8, .long (nf ((5 * a) + 2))), (6, .long (nf ((5 * a) + 1))), (4, .long (nf ((5 * a) + 0))), (0, .ref m0), (1, .int v1), (2, .int (nI (5 * a))), (3, .int v3)]) hx hb dX3_does_28 hl (by decide) rfl (fun ls hl => ?_)
  refine lv_iload_n hx hb dX3_does_30 rfl (lv_at hl 6 rfl) ?_
  by_cases q_1 : v3 = (1 : Int32)
  · refine lv_tableIn (off := 61) (tgt := 92) hx hb dX3_does_31 (by rw [q_1]; decide) (by rw [q_1]; decide) (by rw [q_1]; rfl) (by decide) ?_
    refine lv_aload_n hx hb dX3_does_92 rfl (lv_at hl 3 rfl) ?_
    refine va_get (D := (dC, dI)) (ci := 3) (v := .ref na) (C := RX3) (T := TX3) (N := 3) hx hb hts hin hown hK hP 0 rfl rfl 1 (by decide) (hts (.fieldLink RX3 13 "ServoDeskModel" "number" "[J") (by decide +kernel)) (fun _ h9 => h9) rfl dX3_does_93 ?_
    refine lv_iload_n hx hb dX3_does_96 rfl (lv_at hl 5 rfl) ?_
    refine lv_iconst (v := (0 : Int32)) hx hb dX3_does_97 (by decide) ?_
    refine lv_iadd hx hb dX3_does_98 ?_
    refine zn_top (n := (5 * a) + 0) (nI_add (5 * a) 0) ?_
    refine lv_iload_n hx hb dX3_does_99 rfl (lv_at hl 4 rfl) ?_
    refine lv_lload hx hb dX3_does_100 (lv_at hl 1 rfl) ?_
    refine lv_iload_n hx hb dX3_does_102 rfl (lv_at hl 4 rfl) ?_
    refine lv_lload hx hb dX3_does_103 (lv_at hl 0 rfl) ?_
    refine lv_lload hx hb dX3_does_105 (lv_at hl 2 rfl) ?_
    refine vp_callSl (W.runS (As := [.int v1, .long (nf ((5 * a) + 2)), .long (nf ((5 * a) + 0))]) (rest := [.long (nf ((5 * a) + 1)), .int v1, .int (nI ((5 * a) + 0)), .ref na]) ⟨hx, hb, hml, hown, hts⟩ (ct_X3_lesser l v1 (nf ((5 * a) + 2)) (nf ((5 * a) + 0))) (va_cwS 3 hts gX3_does_X3_lesser rfl rfl rfl (by decide +kernel) ⟨Nat.le_of_ble_eq_true rfl, Nat.le_of_ble_eq_true rfl⟩) ⟨(fun a U g mk q => ⟨q.1, trivial⟩), fun U hU hW9 => ⟨rfl, trivial⟩⟩ rfl rfl hl.1 rfl (lv_room (Nat.le_of_ble_eq_true rfl)) dX3_does_107 ⟨Nat.zero_le _, Nat.zero_le _⟩) (fun r er => ?_)
    subst er
    refine vp_callSl (W.runS (As := [.int v1, .long (nf ((5 * a) + 1)), .long (fn_X3_lesser v1 (nf ((5 * a) + 2)) (nf ((5 * a) + 0)))]) (rest := [.int (nI ((5 * a) + 0)), .ref na]) ⟨hx, hb, hml, hown, hts⟩ (ct_X3_greater l v1 (nf ((5 * a) + 1)) (fn_X3_lesser v1 (nf ((5 * a) + 2)) (nf ((5 * a) + 0)))) (va_cwS 3 hts gX3_does_X3_greater rfl rfl rfl (by decide +kernel) ⟨Nat.le_of_ble_eq_true rfl, Nat.le_of_ble_eq_true rfl⟩) ⟨(fun a U g mk q => ⟨q.1, trivial⟩), fun U hU hW9 => ⟨rfl, trivial⟩⟩ rfl rfl hl.1 rfl (lv_room (Nat.le_of_ble_eq_true rfl)) dX3_does_110 ⟨Nat.zero_le _, Nat.zero_le _⟩) (fun r er => ?_)
    subst er
    refine zm_last hx hb hK hP hD hS 2 1 rfl rfl (i := (5 * a) + 0) (x := fn_X3_greater v1 (nf ((5 * a) + 1)) (fn_X3_lesser v1 (nf ((5 * a) + 2)) (nf ((5 * a) + 0)))) (by omega) (by decide) dX3_does_113 (fun H locs hP hD hS => ?_)
    have hP : va_P (dC, dI) vwCl [(m0, .inr (3, [.ref ka, .ref na, .int (nI n)])), (ka, .inl (cI, 8, .inl kf)), (na, .inl (cJ, 40, .inr (.inl (vp_updL nf ((5 * a) + 0) (fn_X3_greater v1 (nf ((5 * a) + 1)) (fn_X3_lesser v1 (nf ((5 * a) + 2)) (nf ((5 * a) + 0))))))))] H := hP
    have hD : va_D A [(m0, .inr (3, [.ref ka, .ref na, .int (nI n)])), (ka, .inl (cI, 8, .inl kf)), (na, .inl (cJ, 40, .inr (.inl (vp_updL nf ((5 * a) + 0) (fn_X3_greater v1 (nf ((5 * a) + 1)) (fn_X3_lesser v1 (nf ((5 * a) + 2)) (nf ((5 * a) + 0))))))))] := hD
    refine lv_goto (tgt := 405) hx hb dX3_does_114 (by decide) ?_
    have e9 : fn_X3_does v1 a v3 nf = vp_updL nf ((5 * a) + 0) (fn_X3_greater v1 (nf ((5 * a) + 1)) (fn_X3_lesser v1 (nf ((5 * a) + 2)) (nf ((5 * a) + 0)))) := by unfold fn_X3_does; rw [if_pos q_1]
    exact W.vret hx hb hr (fun t ht hW9 => ⟨⟨(), rfl, trivial, by rw [ht, e9]; exact hP, by rw [e9]; exact hD⟩, hS.F ht⟩) hS.2.2 dX3_does_405
  by_cases q_2 : v3 = (2 : Int32)
  · refine lv_tableIn (off := 86) (tgt := 117) hx hb dX3_does_31 (by rw [q_2]; decide) (by rw [q_2]; decide) (by rw [q_2]; rfl) (by decide) ?_
    refine lv_aload_n hx hb dX3_does_117 rfl (lv_at hl 3 rfl) ?_
    refine va_get (D := (dC, dI)) (ci := 3) (v := .ref na) (C := RX3) (T := TX3) (N := 3) hx hb hts hin hown hK hP 0 rfl rfl 1 (by decide) (hts (.fieldLink RX3 13 "ServoDeskModel" "number" "[J") (by decide +kernel)) (fun _ h9 => h9) rfl dX3_does_118 ?_
    refine lv_iload_n hx hb dX3_does_121 rfl (lv_at hl 5 rfl) ?_
    refine lv_iconst (v := (0 : Int32)) hx hb dX3_does_122 (by decide) ?_
    refine lv_iadd hx hb dX3_does_123 ?_
    refine zn_top (n := (5 * a) + 0) (nI_add (5 * a) 0) ?_
    refine lv_iload_n hx hb dX3_does_124 rfl (lv_at hl 4 rfl) ?_
    refine lv_lload hx hb dX3_does_125 (lv_at hl 2 rfl) ?_
    refine vp_callSl (W.runS (As := [.int v1, .long (nf ((5 * a) + 0))]) (rest := [.int (nI ((5 * a) + 0)), .ref na]) ⟨hx, hb, hml, hown, hts⟩ (ct_X3_sized l v1 (nf ((5 * a) + 0))) (va_cwS 2 hts gX3_does_X3_sized rfl rfl rfl (by decide +kernel) ⟨Nat.le_of_ble_eq_true rfl, Nat.le_of_ble_eq_true rfl⟩) ⟨(fun a U g mk q => ⟨q.1, trivial⟩), fun U hU hW9 => ⟨rfl, trivial⟩⟩ rfl rfl hl.1 rfl (lv_room (Nat.le_of_ble_eq_true rfl)) dX3_does_127 ⟨Nat.zero_le _, Nat.zero_le _⟩) (fun r er => ?_)
    subst er
    refine zm_last hx hb hK hP hD hS 2 1 rfl rfl (i := (5 * a) + 0) (x := fn_X3_sized v1 (nf ((5 * a) + 0))) (by omega) (by decide) dX3_does_130 (fun H locs hP hD hS => ?_)
    have hP : va_P (dC, dI) vwCl [(m0, .inr (3, [.ref ka, .ref na, .int (nI n)])), (ka, .inl (cI, 8, .inl kf)), (na, .inl (cJ, 40, .inr (.inl (vp_updL nf ((5 * a) + 0) (fn_X3_sized v1 (nf ((5 * a) + 0)))))))] H := hP
    have hD : va_D A [(m0, .inr (3, [.ref ka, .ref na, .int (nI n)])), (ka, .inl (cI, 8, .inl kf)), (na, .inl (cJ, 40, .inr (.inl (vp_updL nf ((5 * a) + 0) (fn_X3_sized v1 (nf ((5 * a) + 0)))))))] := hD
    refine lv_goto (tgt := 405) hx hb dX3_does_131 (by decide) ?_
    have e9 : fn_X3_does v1 a v3 nf = vp_updL nf ((5 * a) + 0) (fn_X3_sized v1 (nf ((5 * a) + 0))) := by unfold fn_X3_does; rw [if_neg q_1, if_pos q_2]
    exact W.vret hx hb hr (fun t ht hW9 => ⟨⟨(), rfl, trivial, by rw [ht, e9]; exact hP, by rw [e9]; exact hD⟩, hS.F ht⟩) hS.2.2 dX3_does_405
  by_cases q_3 : v3 = (3 : Int32)
  · refine lv_tableIn (off := 103) (tgt := 134) hx hb dX3_does_31 (by rw [q_3]; decide) (by rw [q_3]; decide) (by rw [q_3]; rfl) (by decide) ?_
    refine lv_aload_n hx hb dX3_does_134 rfl (lv_at hl 3 rfl) ?_
    refine va_get (D := (dC, dI)) (ci := 3) (v := .ref na) (C := RX3) (T := TX3) (N := 3) hx hb hts hin hown hK hP 0 rfl rfl 1 (by decide) (hts (.fieldLink RX3 13 "ServoDeskModel" "number" "[J") (by decide +kernel)) (fun _ h9 => h9) rfl dX3_does_135 ?_
    refine lv_iload_n hx hb dX3_does_138 rfl (lv_at hl 5 rfl) ?_
    refine lv_iconst (v := (0 : Int32)) hx hb dX3_does_139 (by decide) ?_
    refine lv_iadd hx hb dX3_does_140 ?_
    refine zn_top (n := (5 * a) + 0) (nI_add (5 * a) 0) ?_
    refine lv_iload_n hx hb dX3_does_141 rfl (lv_at hl 4 rfl) ?_
    refine lv_lload hx hb dX3_does_142 (lv_at hl 2 rfl) ?_
    refine lv_iconst (v := (0 : Int32)) hx hb dX3_does_144 (by decide) ?_
    refine vp_callSl (W.runS (As := [.int v1, .long (nf ((5 * a) + 0)), .int (0 : Int32)]) (rest := [.int (nI ((5 * a) + 0)), .ref na]) ⟨hx, hb, hml, hown, hts⟩ (ct_X3_stepped l v1 (nf ((5 * a) + 0)) (0 : Int32)) (va_cwS 3 hts gX3_does_X3_stepped rfl rfl rfl (by decide +kernel) ⟨Nat.le_of_ble_eq_true rfl, Nat.le_of_ble_eq_true rfl⟩) ⟨(fun a U g mk q => ⟨q.1, trivial⟩), fun U hU hW9 => ⟨rfl, trivial⟩⟩ rfl rfl hl.1 rfl (lv_room (Nat.le_of_ble_eq_true rfl)) dX3_does_145 ⟨Nat.zero_le _, Nat.zero_le _⟩) (fun r er => ?_)
    subst er
    refine zm_last hx hb hK hP hD hS 2 1 rfl rfl (i := (5 * a) + 0) (x := fn_X3_stepped v1 (nf ((5 * a) + 0)) (0 : Int32)) (by omega) (by decide) dX3_does_148 (fun H locs hP hD hS => ?_)
    have hP : va_P (dC, dI) vwCl [(m0, .inr (3, [.ref ka, .ref na, .int (nI n)])), (ka, .inl (cI, 8, .inl kf)), (na, .inl (cJ, 40, .inr (.inl (vp_updL nf ((5 * a) + 0) (fn_X3_stepped v1 (nf ((5 * a) + 0)) (0 : Int32))))))] H := hP
    have hD : va_D A [(m0, .inr (3, [.ref ka, .ref na, .int (nI n)])), (ka, .inl (cI, 8, .inl kf)), (na, .inl (cJ, 40, .inr (.inl (vp_updL nf ((5 * a) + 0) (fn_X3_stepped v1 (nf ((5 * a) + 0)) (0 : Int32))))))] := hD
    refine lv_goto (tgt := 405) hx hb dX3_does_149 (by decide) ?_
    have e9 : fn_X3_does v1 a v3 nf = vp_updL nf ((5 * a) + 0) (fn_X3_stepped v1 (nf ((5 * a) + 0)) (0 : Int32)) := by unfold fn_X3_does; rw [if_neg q_1, if_neg q_2, if_pos q_3]
    exact W.vret hx hb hr (fun t ht hW9 => ⟨⟨(), rfl, trivial, by rw [ht, e9]; exact hP, by rw [e9]; exact hD⟩, hS.F ht⟩) hS.2.2 dX3_does_405
  by_cases q_4 : v3 = (4 : Int32)
  · refine lv_tableIn (off := 121) (tgt := 152) hx hb dX3_does_31 (by rw [q_4]; decide) (by rw [q_4]; decide) (by rw [q_4]; rfl) (by decide) ?_
    refine lv_aload_n hx hb dX3_does_152 rfl (lv_at hl 3 rfl) ?_
    refine va_get (D := (dC, dI)) (ci := 3) (v := .ref na) (C := RX3) (T := TX3) (N := 3) hx hb hts hin hown hK hP 0 rfl rfl 1 (by decide) (hts (.fieldLink RX3 13 "ServoDeskModel" "number" "[J") (by decide +kernel)) (fun _ h9 => h9) rfl dX3_does_153 ?_
    refine lv_iload_n hx hb dX3_does_156 rfl (lv_at hl 5 rfl) ?_
    refine lv_iconst (v := (0 : Int32)) hx hb dX3_does_157 (by decide) ?_
    refine lv_iadd hx hb dX3_does_158 ?_
    refine zn_top (n := (5 * a) + 0) (nI_add (5 * a) 0) ?_
    refine lv_iload_n hx hb dX3_does_159 rfl (lv_at hl 4 rfl) ?_
    refine lv_lload hx hb dX3_does_160 (lv_at hl 2 rfl) ?_
    refine lv_iconst (v := (1 : Int32)) hx hb dX3_does_162 (by decide) ?_
    refine vp_callSl (W.runS (As := [.int v1, .long (nf ((5 * a) + 0)), .int (1 : Int32)]) (rest := [.int (nI ((5 * a) + 0)), .ref na]) ⟨hx, hb, hml, hown, hts⟩ (ct_X3_stepped l v1 (nf ((5 * a) + 0)) (1 : Int32)) (va_cwS 3 hts gX3_does_X3_stepped rfl rfl rfl (by decide +kernel) ⟨Nat.le_of_ble_eq_true rfl, Nat.le_of_ble_eq_true rfl⟩) ⟨(fun a U g mk q => ⟨q.1, trivial⟩), fun U hU hW9 => ⟨rfl, trivial⟩⟩ rfl rfl hl.1 rfl (lv_room (Nat.le_of_ble_eq_true rfl)) dX3_does_163 ⟨Nat.zero_le _, Nat.zero_le _⟩) (fun r er => ?_)
    subst er
    refine zm_last hx hb hK hP hD hS 2 1 rfl rfl (i := (5 * a) + 0) (x := fn_X3_stepped v1 (nf ((5 * a) + 0)) (1 : Int32)) (by omega) (by decide) dX3_does_166 (fun H locs hP hD hS => ?_)
    have hP : va_P (dC, dI) vwCl [(m0, .inr (3, [.ref ka, .ref na, .int (nI n)])), (ka, .inl (cI, 8, .inl kf)), (na, .inl (cJ, 40, .inr (.inl (vp_updL nf ((5 * a) + 0) (fn_X3_stepped v1 (nf ((5 * a) + 0)) (1 : Int32))))))] H := hP
    have hD : va_D A [(m0, .inr (3, [.ref ka, .ref na, .int (nI n)])), (ka, .inl (cI, 8, .inl kf)), (na, .inl (cJ, 40, .inr (.inl (vp_updL nf ((5 * a) + 0) (fn_X3_stepped v1 (nf ((5 * a) + 0)) (1 : Int32))))))] := hD
    refine lv_goto (tgt := 405) hx hb dX3_does_167 (by decide) ?_
    have e9 : fn_X3_does v1 a v3 nf = vp_updL nf ((5 * a) + 0) (fn_X3_stepped v1 (nf ((5 * a) + 0)) (1 : Int32)) := by unfold fn_X3_does; rw [if_neg q_1, if_neg q_2, if_neg q_3, if_pos q_4]
    exact W.vret hx hb hr (fun t ht hW9 => ⟨⟨(), rfl, trivial, by rw [ht, e9]; exact hP, by rw [e9]; exact hD⟩, hS.F ht⟩) hS.2.2 dX3_does_405
  by_cases q_5 : v3 = (5 : Int32)
  · refine lv_tableIn (off := 139) (tgt := 170) hx hb dX3_does_31 (by rw [q_5]; decide) (by rw [q_5]; decide) (by rw [q_5]; rfl) (by decide) ?_
    refine lv_aload_n hx hb dX3_does_170 rfl (lv_at hl 3 rfl) ?_
    refine va_get (D := (dC, dI)) (ci := 3) (v := .ref na) (C := RX3) (T := TX3) (N := 3) hx hb hts hin hown hK hP 0 rfl rfl 1 (by decide) (hts (.fieldLink RX3 13 "ServoDeskModel" "number" "[J") (by decide +kernel)) (fun _ h9 => h9) rfl dX3_does_171 ?_
    refine lv_iload_n hx hb dX3_does_174 rfl (lv_at hl 5 rfl) ?_
    refine lv_iconst (v := (0 : Int32)) hx hb dX3_does_175 (by decide) ?_
    refine lv_iadd hx hb dX3_does_176 ?_
    refine zn_top (n := (5 * a) + 0) (nI_add (5 * a) 0) ?_
    refine lv_iload_n hx hb dX3_does_177 rfl (lv_at hl 4 rfl) ?_
    refine lv_lload hx hb dX3_does_178 (lv_at hl 2 rfl) ?_
    refine lv_iconst (v := (2 : Int32)) hx hb dX3_does_180 (by decide) ?_
    refine vp_callSl (W.runS (As := [.int v1, .long (nf ((5 * a) + 0)), .int (2 : Int32)]) (rest := [.int (nI ((5 * a) + 0)), .ref na]) ⟨hx, hb, hml, hown, hts⟩ (ct_X3_stepped l v1 (nf ((5 * a) + 0)) (2 : Int32)) (va_cwS 3 hts gX3_does_X3_stepped rfl rfl rfl (by decide +kernel) ⟨Nat.le_of_ble_eq_true rfl, Nat.le_of_ble_eq_true rfl⟩) ⟨(fun a U g mk q => ⟨q.1, trivial⟩), fun U hU hW9 => ⟨rfl, trivial⟩⟩ rfl rfl hl.1 rfl (lv_room (Nat.le_of_ble_eq_true rfl)) dX3_does_181 ⟨Nat.zero_le _, Nat.zero_le _⟩) (fun r er => ?_)
    subst er
    refine zm_last hx hb hK hP hD hS 2 1 rfl rfl (i := (5 * a) + 0) (x := fn_X3_stepped v1 (nf ((5 * a) + 0)) (2 : Int32)) (by omega) (by decide) dX3_does_184 (fun H locs hP hD hS => ?_)
    have hP : va_P (dC, dI) vwCl [(m0, .inr (3, [.ref ka, .ref na, .int (nI n)])), (ka, .inl (cI, 8, .inl kf)), (na, .inl (cJ, 40, .inr (.inl (vp_updL nf ((5 * a) + 0) (fn_X3_stepped v1 (nf ((5 * a) + 0)) (2 : Int32))))))] H := hP
    have hD : va_D A [(m0, .inr (3, [.ref ka, .ref na, .int (nI n)])), (ka, .inl (cI, 8, .inl kf)), (na, .inl (cJ, 40, .inr (.inl (vp_updL nf ((5 * a) + 0) (fn_X3_stepped v1 (nf ((5 * a) + 0)) (2 : Int32))))))] := hD
    refine lv_goto (tgt := 405) hx hb dX3_does_185 (by decide) ?_
    have e9 : fn_X3_does v1 a v3 nf = vp_updL nf ((5 * a) + 0) (fn_X3_stepped v1 (nf ((5 * a) + 0)) (2 : Int32)) := by unfold fn_X3_does; rw [if_neg q_1, if_neg q_2, if_neg q_3, if_neg q_4, if_pos q_5]
    exact W.vret hx hb hr (fun t ht hW9 => ⟨⟨(), rfl, trivial, by rw [ht, e9]; exact hP, by rw [e9]; exact hD⟩, hS.F ht⟩) hS.2.2 dX3_does_405
  by_cases q_6 : v3 = (6 : Int32)
  · refine lv_tableIn (off := 157) (tgt := 188) hx hb dX3_does_31 (by rw [q_6]; decide) (by rw [q_6]; decide) (by rw [q_6]; rfl) (by decide) ?_
    refine lv_aload_n hx hb dX3_does_188 rfl (lv_at hl 3 rfl) ?_
    refine va_get (D := (dC, dI)) (ci := 3) (v := .ref na) (C := RX3) (T := TX3) (N := 3) hx hb hts hin hown hK hP 0 rfl rfl 1 (by decide) (hts (.fieldLink RX3 13 "ServoDeskModel" "number" "[J") (by decide +kernel)) (fun _ h9 => h9) rfl dX3_does_189 ?_
    refine lv_iload_n hx hb dX3_does_192 rfl (lv_at hl 5 rfl) ?_
    refine lv_iconst (v := (4 : Int32)) hx hb dX3_does_193 (by decide) ?_
    refine lv_iadd hx hb dX3_does_194 ?_
    refine zn_top (n := (5 * a) + 4) (nI_add (5 * a) 4) ?_
    refine lv_iload_n hx hb dX3_does_195 rfl (lv_at hl 4 rfl) ?_
    refine lv_lload hx hb dX3_does_196 (lv_at hl 2 rfl) ?_
    refine vp_callSl (W.runS (As := [.int v1, .long (nf ((5 * a) + 0))]) (rest := [.int (nI ((5 * a) + 4)), .ref na]) ⟨hx, hb, hml, hown, hts⟩ (ct_X3_wayOf l v1 (nf ((5 * a) + 0))) (va_cwS 2 hts gX3_does_X3_wayOf rfl rfl rfl (by decide +kernel) ⟨Nat.le_of_ble_eq_true rfl, Nat.le_of_ble_eq_true rfl⟩) ⟨(fun a U g mk q => ⟨q.1, trivial⟩), fun U hU hW9 => ⟨rfl, trivial⟩⟩ rfl rfl hl.1 rfl (lv_room (Nat.le_of_ble_eq_true rfl)) dX3_does_198 ⟨Nat.zero_le _, Nat.zero_le _⟩) (fun r er => ?_)
    subst er
    refine zm_last hx hb hK hP hD hS 2 1 rfl rfl (i := (5 * a) + 4) (x := fn_X3_wayOf v1 (nf ((5 * a) + 0))) (by omega) (by decide) dX3_does_201 (fun H locs hP hD hS => ?_)
    have hP : va_P (dC, dI) vwCl [(m0, .inr (3, [.ref ka, .ref na, .int (nI n)])), (ka, .inl (cI, 8, .inl kf)), (na, .inl (cJ, 40, .inr (.inl (vp_updL nf ((5 * a) + 4) (fn_X3_wayOf v1 (nf ((5 * a) + 0)))))))] H := hP
    have hD : va_D A [(m0, .inr (3, [.ref ka, .ref na, .int (nI n)])), (ka, .inl (cI, 8, .inl kf)), (na, .inl (cJ, 40, .inr (.inl (vp_updL nf ((5 * a) + 4) (fn_X3_wayOf v1 (nf ((5 * a) + 0)))))))] := hD
    refine lv_goto (tgt := 405) hx hb dX3_does_202 (by decide) ?_
    have e9 : fn_X3_does v1 a v3 nf = vp_updL nf ((5 * a) + 4) (fn_X3_wayOf v1 (nf ((5 * a) + 0))) := by unfold fn_X3_does; rw [if_neg q_1, if_neg q_2, if_neg q_3, if_neg q_4, if_neg q_5, if_pos q_6]
    exact W.vret hx hb hr (fun t ht hW9 => ⟨⟨(), rfl, trivial, by rw [ht, e9]; exact hP, by rw [e9]; exact hD⟩, hS.F ht⟩) hS.2.2 dX3_does_405
  by_cases q_7 : v3 = (7 : Int32)
  · refine lv_tableIn (off := 174) (tgt := 205) hx hb dX3_does_31 (by rw [q_7]; decide) (by rw [q_7]; decide) (by rw [q_7]; rfl) (by decide) ?_
    refine lv_aload_n hx hb dX3_does_205 rfl (lv_at hl 3 rfl) ?_
    refine va_get (D := (dC, dI)) (ci := 3) (v := .ref na) (C := RX3) (T := TX3) (N := 3) hx hb hts hin hown hK hP 0 rfl rfl 1 (by decide) (hts (.fieldLink RX3 13 "ServoDeskModel" "number" "[J") (by decide +kernel)) (fun _ h9 => h9) rfl dX3_does_206 ?_
    refine lv_iload_n hx hb dX3_does_209 rfl (lv_at hl 5 rfl) ?_
    refine lv_iconst (v := (0 : Int32)) hx hb dX3_does_210 (by decide) ?_
    refine lv_iadd hx hb dX3_does_211 ?_
    refine zn_top (n := (5 * a) + 0) (nI_add (5 * a) 0) ?_
    refine lv_iload_n hx hb dX3_does_212 rfl (lv_at hl 4 rfl) ?_
    refine lv_lload hx hb dX3_does_213 (lv_at hl 2 rfl) ?_
    refine lv_aload_n hx hb dX3_does_215 rfl (lv_at hl 3 rfl) ?_
    refine va_get (D := (dC, dI)) (ci := 3) (v := .ref na) (C := RX3) (T := TX3) (N := 3) hx hb hts hin hown hK hP 0 rfl rfl 1 (by decide) (hts (.fieldLink RX3 13 "ServoDeskModel" "number" "[J") (by decide +kernel)) (fun _ h9 => h9) rfl dX3_does_216 ?_
    refine lv_iload_n hx hb dX3_does_219 rfl (lv_at hl 5 rfl) ?_
    refine lv_iconst (v := (4 : Int32)) hx hb dX3_does_220 (by decide) ?_
    refine lv_iadd hx hb dX3_does_221 ?_
    refine zn_top (n := (5 * a) + 4) (nI_add (5 * a) 4) ?_
    refine zm_lald hx hb hK hP 2 1 rfl rfl (i := (5 * a) + 4) (by omega) (by decide) dX3_does_222 ?_
    refine vp_callSl (W.runS (As := [.int v1, .long (nf ((5 * a) + 0)), .long (nf ((5 * a) + 4))]) (rest := [.int (nI ((5 * a) + 0)), .ref na]) ⟨hx, hb, hml, hown, hts⟩ (ct_X3_turned l v1 (nf ((5 * a) + 0)) (nf ((5 * a) + 4))) (va_cwS 3 hts gX3_does_X3_turned rfl rfl rfl (by decide +kernel) ⟨Nat.le_of_ble_eq_true rfl, Nat.le_of_ble_eq_true rfl⟩) ⟨(fun a U g mk q => ⟨q.1, trivial⟩), fun U hU hW9 => ⟨rfl, trivial⟩⟩ rfl rfl hl.1 rfl (lv_room (Nat.le_of_ble_eq_true rfl)) dX3_does_223 ⟨Nat.zero_le _, Nat.zero_le _⟩) (fun r er => ?_)
    subst er
    refine zm_last hx hb hK hP hD hS 2 1 rfl rfl (i := (5 * a) + 0) (x := fn_X3_turned v1 (nf ((5 * a) + 0)) (nf ((5 * a) + 4))) (by omega) (by decide) dX3_does_226 (fun H locs hP hD hS => ?_)
    have hP : va_P (dC, dI) vwCl [(m0, .inr (3, [.ref ka, .ref na, .int (nI n)])), (ka, .inl (cI, 8, .inl kf)), (na, .inl (cJ, 40, .inr (.inl (vp_updL nf ((5 * a) + 0) (fn_X3_turned v1 (nf ((5 * a) + 0)) (nf ((5 * a) + 4)))))))] H := hP
    have hD : va_D A [(m0, .inr (3, [.ref ka, .ref na, .int (nI n)])), (ka, .inl (cI, 8, .inl kf)), (na, .inl (cJ, 40, .inr (.inl (vp_updL nf ((5 * a) + 0) (fn_X3_turned v1 (nf ((5 * a) + 0)) (nf ((5 * a) + 4)))))))] := hD
    refine lv_goto (tgt := 405) hx hb dX3_does_227 (by decide) ?_
    have e9 : fn_X3_does v1 a v3 nf = vp_updL nf ((5 * a) + 0) (fn_X3_turned v1 (nf ((5 * a) + 0)) (nf ((5 * a) + 4))) := by unfold fn_X3_does; rw [if_neg q_1, if_neg q_2, if_neg q_3, if_neg q_4, if_neg q_5, if_neg q_6, if_pos q_7]
    exact W.vret hx hb hr (fun t ht hW9 => ⟨⟨(), rfl, trivial, by rw [ht, e9]; exact hP, by rw [e9]; exact hD⟩, hS.F ht⟩) hS.2.2 dX3_does_405
  by_cases q_8 : v3 = (8 : Int32)
  · refine lv_tableIn (off := 199) (tgt := 230) hx hb dX3_does_31 (by rw [q_8]; decide) (by rw [q_8]; decide) (by rw [q_8]; rfl) (by decide) ?_
    refine lv_aload_n hx hb dX3_does_230 rfl (lv_at hl 3 rfl) ?_
    refine va_get (D := (dC, dI)) (ci := 3) (v := .ref na) (C := RX3) (T := TX3) (N := 3) hx hb hts hin hown hK hP 0 rfl rfl 1 (by decide) (hts (.fieldLink RX3 13 "ServoDeskModel" "number" "[J") (by decide +kernel)) (fun _ h9 => h9) rfl dX3_does_231 ?_
    refine lv_iload_n hx hb dX3_does_234 rfl (lv_at hl 5 rfl) ?_
    refine lv_iconst (v := (2 : Int32)) hx hb dX3_does_235 (by decide) ?_
    refine lv_iadd hx hb dX3_does_236 ?_
    refine zn_top (n := (5 * a) + 2) (nI_add (5 * a) 2) ?_
    refine lv_iload_n hx hb dX3_does_237 rfl (lv_at hl 4 rfl) ?_
    refine lv_lload hx hb dX3_does_238 (lv_at hl 0 rfl) ?_
    refine lv_lload hx hb dX3_does_240 (lv_at hl 2 rfl) ?_
    refine vp_callSl (W.runS (As := [.int v1, .long (nf ((5 * a) + 2)), .long (nf ((5 * a) + 0))]) (rest := [.int (nI ((5 * a) + 2)), .ref na]) ⟨hx, hb, hml, hown, hts⟩ (ct_X3_greater l v1 (nf ((5 * a) + 2)) (nf ((5 * a) + 0))) (va_cwS 3 hts gX3_does_X3_greater rfl rfl rfl (by decide +kernel) ⟨Nat.le_of_ble_eq_true rfl, Nat.le_of_ble_eq_true rfl⟩) ⟨(fun a U g mk q => ⟨q.1, trivial⟩), fun U hU hW9 => ⟨rfl, trivial⟩⟩ rfl rfl hl.1 rfl (lv_room (Nat.le_of_ble_eq_true rfl)) dX3_does_242 ⟨Nat.zero_le _, Nat.zero_le _⟩) (fun r er => ?_)
    subst er
    refine zm_last hx hb hK hP hD hS 2 1 rfl rfl (i := (5 * a) + 2) (x := fn_X3_greater v1 (nf ((5 * a) + 2)) (nf ((5 * a) + 0))) (by omega) (by decide) dX3_does_245 (fun H locs hP hD hS => ?_)
    have hP : va_P (dC, dI) vwCl [(m0, .inr (3, [.ref ka, .ref na, .int (nI n)])), (ka, .inl (cI, 8, .inl kf)), (na, .inl (cJ, 40, .inr (.inl (vp_updL nf ((5 * a) + 2) (fn_X3_greater v1 (nf ((5 * a) + 2)) (nf ((5 * a) + 0)))))))] H := hP
    have hD : va_D A [(m0, .inr (3, [.ref ka, .ref na, .int (nI n)])), (ka, .inl (cI, 8, .inl kf)), (na, .inl (cJ, 40, .inr (.inl (vp_updL nf ((5 * a) + 2) (fn_X3_greater v1 (nf ((5 * a) + 2)) (nf ((5 * a) + 0)))))))] := hD
    refine lv_aload_n hx hb dX3_does_246 rfl (lv_at hl 3 rfl) ?_
    refine va_get (D := (dC, dI)) (ci := 3) (v := .ref na) (C := RX3) (T := TX3) (N := 3) hx hb hts hin hown hK hP 0 rfl rfl 1 (by decide) (hts (.fieldLink RX3 13 "ServoDeskModel" "number" "[J") (by decide +kernel)) (fun _ h9 => h9) rfl dX3_does_247 ?_
    refine lv_iload_n hx hb dX3_does_250 rfl (lv_at hl 5 rfl) ?_
    refine lv_iconst (v := (1 : Int32)) hx hb dX3_does_251 (by decide) ?_
    refine lv_iadd hx hb dX3_does_252 ?_
    refine zn_top (n := (5 * a) + 1) (nI_add (5 * a) 1) ?_
    refine lv_iload_n hx hb dX3_does_253 rfl (lv_at hl 4 rfl) ?_
    refine lv_lload hx hb dX3_does_254 (lv_at hl 1 rfl) ?_
    refine lv_lload hx hb dX3_does_256 (lv_at hl 2 rfl) ?_
    refine vp_callSl (W.runS (As := [.int v1, .long (nf ((5 * a) + 1)), .long (nf ((5 * a) + 0))]) (rest := [.int (nI ((5 * a) + 1)), .ref na]) ⟨hx, hb, hml, hown, hts⟩ (ct_X3_lesser l v1 (nf ((5 * a) + 1)) (nf ((5 * a) + 0))) (va_cwS 3 hts gX3_does_X3_lesser rfl rfl rfl (by decide +kernel) ⟨Nat.le_of_ble_eq_true rfl, Nat.le_of_ble_eq_true rfl⟩) ⟨(fun a U g mk q => ⟨q.1, trivial⟩), fun U hU hW9 => ⟨rfl, trivial⟩⟩ rfl rfl hl.1 rfl (lv_room (Nat.le_of_ble_eq_true rfl)) dX3_does_258 ⟨Nat.zero_le _, Nat.zero_le _⟩) (fun r er => ?_)
    subst er
    refine zm_last hx hb hK hP hD hS 2 1 rfl rfl (i := (5 * a) + 1) (x := fn_X3_lesser v1 (nf ((5 * a) + 1)) (nf ((5 * a) + 0))) (by omega) (by decide) dX3_does_261 (fun H locs hP hD hS => ?_)
    have hP : va_P (dC, dI) vwCl [(m0, .inr (3, [.ref ka, .ref na, .int (nI n)])), (ka, .inl (cI, 8, .inl kf)), (na, .inl (cJ, 40, .inr (.inl (vp_updL (vp_updL nf ((5 * a) + 2) (fn_X3_greater v1 (nf ((5 * a) + 2)) (nf ((5 * a) + 0)))) ((5 * a) + 1) (fn_X3_lesser v1 (nf ((5 * a) + 1)) (nf ((5 * a) + 0)))))))] H := hP
    have hD : va_D A [(m0, .inr (3, [.ref ka, .ref na, .int (nI n)])), (ka, .inl (cI, 8, .inl kf)), (na, .inl (cJ, 40, .inr (.inl (vp_updL (vp_updL nf ((5 * a) + 2) (fn_X3_greater v1 (nf ((5 * a) + 2)) (nf ((5 * a) + 0)))) ((5 * a) + 1) (fn_X3_lesser v1 (nf ((5 * a) + 1)) (nf ((5 * a) + 0)))))))] := hD
    refine lv_goto (tgt := 405) hx hb dX3_does_262 (by decide) ?_
    have e9 : fn_X3_does v1 a v3 nf = vp_updL (vp_updL nf ((5 * a) + 2) (fn_X3_greater v1 (nf ((5 * a) + 2)) (nf ((5 * a) + 0)))) ((5 * a) + 1) (fn_X3_lesser v1 (nf ((5 * a) + 1)) (nf ((5 * a) + 0))) := by unfold fn_X3_does; rw [if_neg q_1, if_neg q_2, if_neg q_3, if_neg q_4, if_neg q_5, if_neg q_6, if_neg q_7, if_pos q_8]
    exact W.vret hx hb hr (fun t ht hW9 => ⟨⟨(), rfl, trivial, by rw [ht, e9]; exact hP, by rw [e9]; exact hD⟩, hS.F ht⟩) hS.2.2 dX3_does_405
  by_cases q_9 : v3 = (9 : Int32)
  · refine lv_tableIn (off := 234) (tgt := 265) hx hb dX3_does_31 (by rw [q_9]; decide) (by rw [q_9]; decide) (by rw [q_9]; rfl) (by decide) ?_
    refine lv_iload_n hx hb dX3_does_265 rfl (lv_at hl 4 rfl) ?_
    refine lv_lload hx hb dX3_does_266 (lv_at hl 2 rfl) ?_
    refine vp_callSl (W.runS (As := [.int v1, .long (nf ((5 * a) + 0))]) (rest := []) ⟨hx, hb, hml, hown, hts⟩ (ct_X3_sized l v1 (nf ((5 * a) + 0))) (va_cwS 2 hts gX3_does_X3_sized rfl rfl rfl (by decide +kernel) ⟨Nat.le_of_ble_eq_true rfl, Nat.le_of_ble_eq_true rfl⟩) ⟨(fun a U g mk q => ⟨q.1, trivial⟩), fun U hU hW9 => ⟨rfl, trivial⟩⟩ rfl rfl hl.1 rfl (lv_room (Nat.le_of_ble_eq_true rfl)) dX3_does_268 ⟨Nat.zero_le _, Nat.zero_le _⟩) (fun r er => ?_)
    subst er
    refine lv_iload_n hx hb dX3_does_271 rfl (lv_at hl 4 rfl) ?_
    refine lv_aload_n hx hb dX3_does_272 rfl (lv_at hl 3 rfl) ?_
    refine va_get (D := (dC, dI)) (ci := 3) (v := .ref na) (C := RX3) (T := TX3) (N := 3) hx hb hts hin hown hK hP 0 rfl rfl 1 (by decide) (hts (.fieldLink RX3 13 "ServoDeskModel" "number" "[J") (by decide +kernel)) (fun _ h9 => h9) rfl dX3_does_273 ?_
    refine lv_iload_n hx hb dX3_does_276 rfl (lv_at hl 5 rfl) ?_
    refine lv_iconst (v := (3 : Int32)) hx hb dX3_does_277 (by decide) ?_
    refine lv_iadd hx hb dX3_does_278 ?_
    refine zn_top (n := (5 * a) + 3) (nI_add (5 * a) 3) ?_
    refine zm_lald hx hb hK hP 2 1 rfl rfl (i := (5 * a) + 3) (by omega) (by decide) dX3_does_279 ?_
    refine vp_callSl (W.runS (As := [.int v1, .long (nf ((5 * a) + 3))]) (rest := [.long (fn_X3_sized v1 (nf ((5 * a) + 0)))]) ⟨hx, hb, hml, hown, hts⟩ (ct_X3_sized l v1 (nf ((5 * a) + 3))) (va_cwS 2 hts gX3_does_X3_sized rfl rfl rfl (by decide +kernel) ⟨Nat.le_of_ble_eq_true rfl, Nat.le_of_ble_eq_true rfl⟩) ⟨(fun a U g mk q => ⟨q.1, trivial⟩), fun U hU hW9 => ⟨rfl, trivial⟩⟩ rfl rfl hl.1 rfl (lv_room (Nat.le_of_ble_eq_true rfl)) dX3_does_280 ⟨Nat.zero_le _, Nat.zero_le _⟩) (fun r er => ?_)
    subst er
    refine zl_gt (tgt := 405) hx hb dX3_does_283 dX3_does_284 (by decide) (fun c_1 => ?_) (fun c_1 => ?_)
    · have e9 : fn_X3_does v1 a v3 nf = nf := by unfold fn_X3_does; rw [if_neg q_1, if_neg q_2, if_neg q_3, if_neg q_4, if_neg q_5, if_neg q_6, if_neg q_7, if_neg q_8, if_pos q_9, if_pos c_1]
      exact W.vret hx hb hr (fun t ht hW9 => ⟨⟨(), rfl, trivial, by rw [ht, e9]; exact hP, by rw [e9]; exact hD⟩, hS.F ht⟩) hS.2.2 dX3_does_405
    · refine lv_aload_n hx hb dX3_does_287 rfl (lv_at hl 3 rfl) ?_
      refine va_get (D := (dC, dI)) (ci := 3) (v := .ref na) (C := RX3) (T := TX3) (N := 3) hx hb hts hin hown hK hP 0 rfl rfl 1 (by decide) (hts (.fieldLink RX3 13 "ServoDeskModel" "number" "[J") (by decide +kernel)) (fun _ h9 => h9) rfl dX3_does_288 ?_
      refine lv_iload_n hx hb dX3_does_291 rfl (lv_at hl 5 rfl) ?_
      refine lv_iconst (v := (0 : Int32)) hx hb dX3_does_292 (by decide) ?_
      refine lv_iadd hx hb dX3_does_293 ?_
      refine zn_top (n := (5 * a) + 0) (nI_add (5 * a) 0) ?_
      refine lv_iload_n hx hb dX3_does_294 rfl (lv_at hl 4 rfl) ?_
      refine vp_callSi (W.runS (As := [.int v1]) (rest := [.int (nI ((5 * a) + 0)), .ref na]) ⟨hx, hb, hml, hown, hts⟩ (ct_X3_isFloating l v1) (va_cwS 1 hts gX3_does_X3_isFloating rfl rfl rfl (by decide +kernel) ⟨Nat.le_of_ble_eq_true rfl, Nat.le_of_ble_eq_true rfl⟩) ⟨(fun a U g mk q => ⟨q.1, trivial⟩), fun U hU hW9 => ⟨rfl, trivial⟩⟩ rfl rfl hl.1 rfl (lv_room (Nat.le_of_ble_eq_true rfl)) dX3_does_295 ⟨Nat.zero_le _, Nat.zero_le _⟩) (fun r er => ?_)
      subst er
      refine lv_if_eq (tgt := 321) hx hb dX3_does_298 (by decide) (fun c_2 => ?_) (fun c_2 => ?_)
      · refine lv_lconst (v := (0 : Int64)) hx hb dX3_does_321 (by decide) ?_
        refine zm_last hx hb hK hP hD hS 2 1 rfl rfl (i := (5 * a) + 0) (x := (0 : Int64)) (by omega) (by decide) dX3_does_322 (fun H locs hP hD hS => ?_)
        have hP : va_P (dC, dI) vwCl [(m0, .inr (3, [.ref ka, .ref na, .int (nI n)])), (ka, .inl (cI, 8, .inl kf)), (na, .inl (cJ, 40, .inr (.inl (vp_updL nf ((5 * a) + 0) (0 : Int64)))))] H := hP
        have hD : va_D A [(m0, .inr (3, [.ref ka, .ref na, .int (nI n)])), (ka, .inl (cI, 8, .inl kf)), (na, .inl (cJ, 40, .inr (.inl (vp_updL nf ((5 * a) + 0) (0 : Int64)))))] := hD
        refine lv_goto (tgt := 405) hx hb dX3_does_323 (by decide) ?_
        have e9 : fn_X3_does v1 a v3 nf = vp_updL nf ((5 * a) + 0) (0 : Int64) := by unfold fn_X3_does; rw [if_neg q_1, if_neg q_2, if_neg q_3, if_neg q_4, if_neg q_5, if_neg q_6, if_neg q_7, if_neg q_8, if_pos q_9, if_neg c_1, if_pos c_2]
        exact W.vret hx hb hr (fun t ht hW9 => ⟨⟨(), rfl, trivial, by rw [ht, e9]; exact hP, by rw [e9]; exact hD⟩, hS.F ht⟩) hS.2.2 dX3_does_405
      · refine lv_iload_n hx hb dX3_does_301 rfl (lv_at hl 4 rfl) ?_
        refine lv_lconst (v := (0 : Int64)) hx hb dX3_does_302 (by decide) ?_
        refine lv_lload hx hb dX3_does_303 (lv_at hl 2 rfl) ?_
        refine lv_lconst (v := (0 : Int64)) hx hb dX3_does_305 (by decide) ?_
        refine zl_ge (tgt := 314) hx hb dX3_does_306 dX3_does_307 (by decide) (fun c_3 => ?_) (fun c_3 => ?_)
        · refine lv_iconst (v := (0 : Int32)) hx hb dX3_does_314 (by decide) ?_
          refine vp_callSl (W.runS (As := [.int v1, .long (0 : Int64), .int (0 : Int32)]) (rest := [.int (nI ((5 * a) + 0)), .ref na]) ⟨hx, hb, hml, hown, hts⟩ (ct_X3_signed l v1 (0 : Int64) (0 : Int32)) (va_cwS 3 hts gX3_does_X3_signed rfl rfl rfl (by decide +kernel) ⟨Nat.le_of_ble_eq_true rfl, Nat.le_of_ble_eq_true rfl⟩) ⟨(fun a U g mk q => ⟨q.1, trivial⟩), fun U hU hW9 => ⟨rfl, trivial⟩⟩ rfl rfl hl.1 rfl (lv_room (Nat.le_of_ble_eq_true rfl)) dX3_does_315 ⟨Nat.zero_le _, Nat.zero_le _⟩) (fun r er => ?_)
          subst er
          refine lv_goto (tgt := 322) hx hb dX3_does_318 (by decide) ?_
          refine zm_last hx hb hK hP hD hS 2 1 rfl rfl (i := (5 * a) + 0) (x := fn_X3_signed v1 (0 : Int64) (0 : Int32)) (by omega) (by decide) dX3_does_322 (fun H locs hP hD hS => ?_)
          have hP : va_P (dC, dI) vwCl [(m0, .inr (3, [.ref ka, .ref na, .int (nI n)])), (ka, .inl (cI, 8, .inl kf)), (na, .inl (cJ, 40, .inr (.inl (vp_updL nf ((5 * a) + 0) (fn_X3_signed v1 (0 : Int64) (0 : Int32))))))] H := hP
          have hD : va_D A [(m0, .inr (3, [.ref ka, .ref na, .int (nI n)])), (ka, .inl (cI, 8, .inl kf)), (na, .inl (cJ, 40, .inr (.inl (vp_updL nf ((5 * a) + 0) (fn_X3_signed v1 (0 : Int64) (0 : Int32))))))] := hD
          refine lv_goto (tgt := 405) hx hb dX3_does_323 (by decide) ?_
          have e9 : fn_X3_does v1 a v3 nf = vp_updL nf ((5 * a) + 0) (fn_X3_signed v1 (0 : Int64) (0 : Int32)) := by unfold fn_X3_does; rw [if_neg q_1, if_neg q_2, if_neg q_3, if_neg q_4, if_neg q_5, if_neg q_6, if_neg q_7, if_neg q_8, if_pos q_9, if_neg c_1, if_neg c_2, if_pos c_3]
          exact W.vret hx hb hr (fun t ht hW9 => ⟨⟨(), rfl, trivial, by rw [ht, e9]; exact hP, by rw [e9]; exact hD⟩, hS.F ht⟩) hS.2.2 dX3_does_405
        · refine lv_iconst (v := (1 : Int32)) hx hb dX3_does_310 (by decide) ?_
          refine lv_goto (tgt := 315) hx hb dX3_does_311 (by decide) ?_
          refine vp_callSl (W.runS (As := [.int v1, .long (0 : Int64), .int (1 : Int32)]) (rest := [.int (nI ((5 * a) + 0)), .ref na]) ⟨hx, hb, hml, hown, hts⟩ (ct_X3_signed l v1 (0 : Int64) (1 : Int32)) (va_cwS 3 hts gX3_does_X3_signed rfl rfl rfl (by decide +kernel) ⟨Nat.le_of_ble_eq_true rfl, Nat.le_of_ble_eq_true rfl⟩) ⟨(fun a U g mk q => ⟨q.1, trivial⟩), fun U hU hW9 => ⟨rfl, trivial⟩⟩ rfl rfl hl.1 rfl (lv_room (Nat.le_of_ble_eq_true rfl)) dX3_does_315 ⟨Nat.zero_le _, Nat.zero_le _⟩) (fun r er => ?_)
          subst er
          refine lv_goto (tgt := 322) hx hb dX3_does_318 (by decide) ?_
          refine zm_last hx hb hK hP hD hS 2 1 rfl rfl (i := (5 * a) + 0) (x := fn_X3_signed v1 (0 : Int64) (1 : Int32)) (by omega) (by decide) dX3_does_322 (fun H locs hP hD hS => ?_)
          have hP : va_P (dC, dI) vwCl [(m0, .inr (3, [.ref ka, .ref na, .int (nI n)])), (ka, .inl (cI, 8, .inl kf)), (na, .inl (cJ, 40, .inr (.inl (vp_updL nf ((5 * a) + 0) (fn_X3_signed v1 (0 : Int64) (1 : Int32))))))] H := hP
          have hD : va_D A [(m0, .inr (3, [.ref ka, .ref na, .int (nI n)])), (ka, .inl (cI, 8, .inl kf)), (na, .inl (cJ, 40, .inr (.inl (vp_updL nf ((5 * a) + 0) (fn_X3_signed v1 (0 : Int64) (1 : Int32))))))] := hD
          refine lv_goto (tgt := 405) hx hb dX3_does_323 (by decide) ?_
          have e9 : fn_X3_does v1 a v3 nf = vp_updL nf ((5 * a) + 0) (fn_X3_signed v1 (0 : Int64) (1 : Int32)) := by unfold fn_X3_does; rw [if_neg q_1, if_neg q_2, if_neg q_3, if_neg q_4, if_neg q_5, if_neg q_6, if_neg q_7, if_neg q_8, if_pos q_9, if_neg c_1, if_neg c_2, if_neg c_3]
          exact W.vret hx hb hr (fun t ht hW9 => ⟨⟨(), rfl, trivial, by rw [ht, e9]; exact hP, by rw [e9]; exact hD⟩, hS.F ht⟩) hS.2.2 dX3_does_405
  by_cases q_10 : v3 = (10 : Int32)
  · refine lv_tableIn (off := 295) (tgt := 326) hx hb dX3_does_31 (by rw [q_10]; decide) (by rw [q_10]; decide) (by rw [q_10]; rfl) (by decide) ?_
    refine lv_aload_n hx hb dX3_does_326 rfl (lv_at hl 3 rfl) ?_
    refine va_get (D := (dC, dI)) (ci := 3) (v := .ref na) (C := RX3) (T := TX3) (N := 3) hx hb hts hin hown hK hP 0 rfl rfl 1 (by decide) (hts (.fieldLink RX3 13 "ServoDeskModel" "number" "[J") (by decide +kernel)) (fun _ h9 => h9) rfl dX3_does_327 ?_
    refine lv_iload_n hx hb dX3_does_330 rfl (lv_at hl 5 rfl) ?_
    refine lv_iconst (v := (1 : Int32)) hx hb dX3_does_331 (by decide) ?_
    refine lv_iadd hx hb dX3_does_332 ?_
    refine zn_top (n := (5 * a) + 1) (nI_add (5 * a) 1) ?_
    refine lv_iload_n hx hb dX3_does_333 rfl (lv_at hl 4 rfl) ?_
    refine lv_lload hx hb dX3_does_334 (lv_at hl 2 rfl) ?_
    refine lv_iconst (v := (0 : Int32)) hx hb dX3_does_336 (by decide) ?_
    refine vp_callSl (W.runS (As := [.int v1, .long (nf ((5 * a) + 0)), .int (0 : Int32)]) (rest := [.int (nI ((5 * a) + 1)), .ref na]) ⟨hx, hb, hml, hown, hts⟩ (ct_X3_stepped l v1 (nf ((5 * a) + 0)) (0 : Int32)) (va_cwS 3 hts gX3_does_X3_stepped rfl rfl rfl (by decide +kernel) ⟨Nat.le_of_ble_eq_true rfl, Nat.le_of_ble_eq_true rfl⟩) ⟨(fun a U g mk q => ⟨q.1, trivial⟩), fun U hU hW9 => ⟨rfl, trivial⟩⟩ rfl rfl hl.1 rfl (lv_room (Nat.le_of_ble_eq_true rfl)) dX3_does_337 ⟨Nat.zero_le _, Nat.zero_le _⟩) (fun r er => ?_)
    subst er
    refine zm_last hx hb hK hP hD hS 2 1 rfl rfl (i := (5 * a) + 1) (x := fn_X3_stepped v1 (nf ((5 * a) + 0)) (0 : Int32)) (by omega) (by decide) dX3_does_340 (fun H locs hP hD hS => ?_)
    have hP : va_P (dC, dI) vwCl [(m0, .inr (3, [.ref ka, .ref na, .int (nI n)])), (ka, .inl (cI, 8, .inl kf)), (na, .inl (cJ, 40, .inr (.inl (vp_updL nf ((5 * a) + 1) (fn_X3_stepped v1 (nf ((5 * a) + 0)) (0 : Int32))))))] H := hP
    have hD : va_D A [(m0, .inr (3, [.ref ka, .ref na, .int (nI n)])), (ka, .inl (cI, 8, .inl kf)), (na, .inl (cJ, 40, .inr (.inl (vp_updL nf ((5 * a) + 1) (fn_X3_stepped v1 (nf ((5 * a) + 0)) (0 : Int32))))))] := hD
    refine lv_aload_n hx hb dX3_does_341 rfl (lv_at hl 3 rfl) ?_
    refine va_get (D := (dC, dI)) (ci := 3) (v := .ref na) (C := RX3) (T := TX3) (N := 3) hx hb hts hin hown hK hP 0 rfl rfl 1 (by decide) (hts (.fieldLink RX3 13 "ServoDeskModel" "number" "[J") (by decide +kernel)) (fun _ h9 => h9) rfl dX3_does_342 ?_
    refine lv_iload_n hx hb dX3_does_345 rfl (lv_at hl 5 rfl) ?_
    refine lv_iconst (v := (2 : Int32)) hx hb dX3_does_346 (by decide) ?_
    refine lv_iadd hx hb dX3_does_347 ?_
    refine zn_top (n := (5 * a) + 2) (nI_add (5 * a) 2) ?_
    refine lv_iload_n hx hb dX3_does_348 rfl (lv_at hl 4 rfl) ?_
    refine lv_lload hx hb dX3_does_349 (lv_at hl 2 rfl) ?_
    refine lv_iconst (v := (1 : Int32)) hx hb dX3_does_351 (by decide) ?_
    refine vp_callSl (W.runS (As := [.int v1, .long (nf ((5 * a) + 0)), .int (1 : Int32)]) (rest := [.int (nI ((5 * a) + 2)), .ref na]) ⟨hx, hb, hml, hown, hts⟩ (ct_X3_stepped l v1 (nf ((5 * a) + 0)) (1 : Int32)) (va_cwS 3 hts gX3_does_X3_stepped rfl rfl rfl (by decide +kernel) ⟨Nat.le_of_ble_eq_true rfl, Nat.le_of_ble_eq_true rfl⟩) ⟨(fun a U g mk q => ⟨q.1, trivial⟩), fun U hU hW9 => ⟨rfl, trivial⟩⟩ rfl rfl hl.1 rfl (lv_room (Nat.le_of_ble_eq_true rfl)) dX3_does_352 ⟨Nat.zero_le _, Nat.zero_le _⟩) (fun r er => ?_)
    subst er
    refine zm_last hx hb hK hP hD hS 2 1 rfl rfl (i := (5 * a) + 2) (x := fn_X3_stepped v1 (nf ((5 * a) + 0)) (1 : Int32)) (by omega) (by decide) dX3_does_355 (fun H locs hP hD hS => ?_)
    have hP : va_P (dC, dI) vwCl [(m0, .inr (3, [.ref ka, .ref na, .int (nI n)])), (ka, .inl (cI, 8, .inl kf)), (na, .inl (cJ, 40, .inr (.inl (vp_updL (vp_updL nf ((5 * a) + 1) (fn_X3_stepped v1 (nf ((5 * a) + 0)) (0 : Int32))) ((5 * a) + 2) (fn_X3_stepped v1 (nf ((5 * a) + 0)) (1 : Int32))))))] H := hP
    have hD : va_D A [(m0, .inr (3, [.ref ka, .ref na, .int (nI n)])), (ka, .inl (cI, 8, .inl kf)), (na, .inl (cJ, 40, .inr (.inl (vp_updL (vp_updL nf ((5 * a) + 1) (fn_X3_stepped v1 (nf ((5 * a) + 0)) (0 : Int32))) ((5 * a) + 2) (fn_X3_stepped v1 (nf ((5 * a) + 0)) (1 : Int32))))))] := hD
    refine lv_goto (tgt := 405) hx hb dX3_does_356 (by decide) ?_
    have e9 : fn_X3_does v1 a v3 nf = vp_updL (vp_updL nf ((5 * a) + 1) (fn_X3_stepped v1 (nf ((5 * a) + 0)) (0 : Int32))) ((5 * a) + 2) (fn_X3_stepped v1 (nf ((5 * a) + 0)) (1 : Int32)) := by unfold fn_X3_does; rw [if_neg q_1, if_neg q_2, if_neg q_3, if_neg q_4, if_neg q_5, if_neg q_6, if_neg q_7, if_neg q_8, if_neg q_9, if_pos q_10]
    exact W.vret hx hb hr (fun t ht hW9 => ⟨⟨(), rfl, trivial, by rw [ht, e9]; exact hP, by rw [e9]; exact hD⟩, hS.F ht⟩) hS.2.2 dX3_does_405
  by_cases q_11 : v3 = (11 : Int32)
  · refine lv_tableIn (off := 328) (tgt := 359) hx hb dX3_does_31 (by rw [q_11]; decide) (by rw [q_11]; decide) (by rw [q_11]; rfl) (by decide) ?_
    refine lv_aload_n hx hb dX3_does_359 rfl (lv_at hl 3 rfl) ?_
    refine va_get (D := (dC, dI)) (ci := 3) (v := .ref na) (C := RX3) (T := TX3) (N := 3) hx hb hts hin hown hK hP 0 rfl rfl 1 (by decide) (hts (.fieldLink RX3 13 "ServoDeskModel" "number" "[J") (by decide +kernel)) (fun _ h9 => h9) rfl dX3_does_360 ?_
    refine lv_iload_n hx hb dX3_does_363 rfl (lv_at hl 5 rfl) ?_
    refine lv_iconst (v := (1 : Int32)) hx hb dX3_does_364 (by decide) ?_
    refine lv_iadd hx hb dX3_does_365 ?_
    refine zn_top (n := (5 * a) + 1) (nI_add (5 * a) 1) ?_
    refine lv_lload hx hb dX3_does_366 (lv_at hl 0 rfl) ?_
    refine zm_last hx hb hK hP hD hS 2 1 rfl rfl (i := (5 * a) + 1) (x := nf ((5 * a) + 2)) (by omega) (by decide) dX3_does_368 (fun H locs hP hD hS => ?_)
    have hP : va_P (dC, dI) vwCl [(m0, .inr (3, [.ref ka, .ref na, .int (nI n)])), (ka, .inl (cI, 8, .inl kf)), (na, .inl (cJ, 40, .inr (.inl (vp_updL nf ((5 * a) + 1) (nf ((5 * a) + 2))))))] H := hP
    have hD : va_D A [(m0, .inr (3, [.ref ka, .ref na, .int (nI n)])), (ka, .inl (cI, 8, .inl kf)), (na, .inl (cJ, 40, .inr (.inl (vp_updL nf ((5 * a) + 1) (nf ((5 * a) + 2))))))] := hD
    refine lv_aload_n hx hb dX3_does_369 rfl (lv_at hl 3 rfl) ?_
    refine va_get (D := (dC, dI)) (ci := 3) (v := .ref na) (C := RX3) (T := TX3) (N := 3) hx hb hts hin hown hK hP 0 rfl rfl 1 (by decide) (hts (.fieldLink RX3 13 "ServoDeskModel" "number" "[J") (by decide +kernel)) (fun _ h9 => h9) rfl dX3_does_370 ?_
    refine lv_iload_n hx hb dX3_does_373 rfl (lv_at hl 5 rfl) ?_
    refine lv_iconst (v := (2 : Int32)) hx hb dX3_does_374 (by decide) ?_
    refine lv_iadd hx hb dX3_does_375 ?_
    refine zn_top (n := (5 * a) + 2) (nI_add (5 * a) 2) ?_
    refine lv_lload hx hb dX3_does_376 (lv_at hl 1 rfl) ?_
    refine zm_last hx hb hK hP hD hS 2 1 rfl rfl (i := (5 * a) + 2) (x := nf ((5 * a) + 1)) (by omega) (by decide) dX3_does_378 (fun H locs hP hD hS => ?_)
    have hP : va_P (dC, dI) vwCl [(m0, .inr (3, [.ref ka, .ref na, .int (nI n)])), (ka, .inl (cI, 8, .inl kf)), (na, .inl (cJ, 40, .inr (.inl (vp_updL (vp_updL nf ((5 * a) + 1) (nf ((5 * a) + 2))) ((5 * a) + 2) (nf ((5 * a) + 1))))))] H := hP
    have hD : va_D A [(m0, .inr (3, [.ref ka, .ref na, .int (nI n)])), (ka, .inl (cI, 8, .inl kf)), (na, .inl (cJ, 40, .inr (.inl (vp_updL (vp_updL nf ((5 * a) + 1) (nf ((5 * a) + 2))) ((5 * a) + 2) (nf ((5 * a) + 1))))))] := hD
    refine lv_goto (tgt := 405) hx hb dX3_does_379 (by decide) ?_
    have e9 : fn_X3_does v1 a v3 nf = vp_updL (vp_updL nf ((5 * a) + 1) (nf ((5 * a) + 2))) ((5 * a) + 2) (nf ((5 * a) + 1)) := by unfold fn_X3_does; rw [if_neg q_1, if_neg q_2, if_neg q_3, if_neg q_4, if_neg q_5, if_neg q_6, if_neg q_7, if_neg q_8, if_neg q_9, if_neg q_10, if_pos q_11]
    exact W.vret hx hb hr (fun t ht hW9 => ⟨⟨(), rfl, trivial, by rw [ht, e9]; exact hP, by rw [e9]; exact hD⟩, hS.F ht⟩) hS.2.2 dX3_does_405
  by_cases q_12 : v3 = (12 : Int32)
  · refine lv_tableIn (off := 351) (tgt := 382) hx hb dX3_does_31 (by rw [q_12]; decide) (by rw [q_12]; decide) (by rw [q_12]; rfl) (by decide) ?_
    refine lv_aload_n hx hb dX3_does_382 rfl (lv_at hl 3 rfl) ?_
    refine va_get (D := (dC, dI)) (ci := 3) (v := .ref na) (C := RX3) (T := TX3) (N := 3) hx hb hts hin hown hK hP 0 rfl rfl 1 (by decide) (hts (.fieldLink RX3 13 "ServoDeskModel" "number" "[J") (by decide +kernel)) (fun _ h9 => h9) rfl dX3_does_383 ?_
    refine lv_iload_n hx hb dX3_does_386 rfl (lv_at hl 5 rfl) ?_
    refine lv_iconst (v := (0 : Int32)) hx hb dX3_does_387 (by decide) ?_
    refine lv_iadd hx hb dX3_does_388 ?_
    refine zn_top (n := (5 * a) + 0) (nI_add (5 * a) 0) ?_
    refine lv_lload hx hb dX3_does_389 (lv_at hl 1 rfl) ?_
    refine zm_last hx hb hK hP hD hS 2 1 rfl rfl (i := (5 * a) + 0) (x := nf ((5 * a) + 1)) (by omega) (by decide) dX3_does_391 (fun H locs hP hD hS => ?_)
    have hP : va_P (dC, dI) vwCl [(m0, .inr (3, [.ref ka, .ref na, .int (nI n)])), (ka, .inl (cI, 8, .inl kf)), (na, .inl (cJ, 40, .inr (.inl (vp_updL nf ((5 * a) + 0) (nf ((5 * a) + 1))))))] H := hP
    have hD : va_D A [(m0, .inr (3, [.ref ka, .ref na, .int (nI n)])), (ka, .inl (cI, 8, .inl kf)), (na, .inl (cJ, 40, .inr (.inl (vp_updL nf ((5 * a) + 0) (nf ((5 * a) + 1))))))] := hD
    refine lv_goto (tgt := 405) hx hb dX3_does_392 (by decide) ?_
    have e9 : fn_X3_does v1 a v3 nf = vp_updL nf ((5 * a) + 0) (nf ((5 * a) + 1)) := by unfold fn_X3_does; rw [if_neg q_1, if_neg q_2, if_neg q_3, if_neg q_4, if_neg q_5, if_neg q_6, if_neg q_7, if_neg q_8, if_neg q_9, if_neg q_10, if_neg q_11, if_pos q_12]
    exact W.vret hx hb hr (fun t ht hW9 => ⟨⟨(), rfl, trivial, by rw [ht, e9]; exact hP, by rw [e9]; exact hD⟩, hS.F ht⟩) hS.2.2 dX3_does_405
  refine lv_tableOut (tgt := 395) hx hb dX3_does_31 (by have z1 := lv_neT q_1 (a := 1) (by decide); have z2 := lv_neT q_2 (a := 2) (by decide); have z3 := lv_neT q_3 (a := 3) (by decide); have z4 := lv_neT q_4 (a := 4) (by decide); have z5 := lv_neT q_5 (a := 5) (by decide); have z6 := lv_neT q_6 (a := 6) (by decide); have z7 := lv_neT q_7 (a := 7) (by decide); have z8 := lv_neT q_8 (a := 8) (by decide); have z9 := lv_neT q_9 (a := 9) (by decide); have z10 := lv_neT q_10 (a := 10) (by decide); have z11 := lv_neT q_11 (a := 11) (by decide); have z12 := lv_neT q_12 (a := 12) (by decide); omega) (by decide) ?_
  refine lv_aload_n hx hb dX3_does_395 rfl (lv_at hl 3 rfl) ?_
  refine va_get (D := (dC, dI)) (ci := 3) (v := .ref na) (C := RX3) (T := TX3) (N := 3) hx hb hts hin hown hK hP 0 rfl rfl 1 (by decide) (hts (.fieldLink RX3 13 "ServoDeskModel" "number" "[J") (by decide +kernel)) (fun _ h9 => h9) rfl dX3_does_396 ?_
  refine lv_iload_n hx hb dX3_does_399 rfl (lv_at hl 5 rfl) ?_
  refine lv_iconst (v := (0 : Int32)) hx hb dX3_does_400 (by decide) ?_
  refine lv_iadd hx hb dX3_does_401 ?_
  refine zn_top (n := (5 * a) + 0) (nI_add (5 * a) 0) ?_
  refine lv_lload hx hb dX3_does_402 (lv_at hl 0 rfl) ?_
  refine zm_last hx hb hK hP hD hS 2 1 rfl rfl (i := (5 * a) + 0) (x := nf ((5 * a) + 2)) (by omega) (by decide) dX3_does_404 (fun H locs hP hD hS => ?_)
  have hP : va_P (dC, dI) vwCl [(m0, .inr (3, [.ref ka, .ref na, .int (nI n)])), (ka, .inl (cI, 8, .inl kf)), (na, .inl (cJ, 40, .inr (.inl (vp_updL nf ((5 * a) + 0) (nf ((5 * a) + 2))))))] H := hP
  have hD : va_D A [(m0, .inr (3, [.ref ka, .ref na, .int (nI n)])), (ka, .inl (cI, 8, .inl kf)), (na, .inl (cJ, 40, .inr (.inl (vp_updL nf ((5 * a) + 0) (nf ((5 * a) + 2))))))] := hD
  have e9 : fn_X3_does v1 a v3 nf = vp_updL nf ((5 * a) + 0) (nf ((5 * a) + 2)) := by unfold fn_X3_does; rw [if_neg q_1, if_neg q_2, if_neg q_3, if_neg q_4, if_neg q_5, if_neg q_6, if_neg q_7, if_neg q_8, if_neg q_9, if_neg q_10, if_neg q_11, if_neg q_12]
  exact W.vret hx hb hr (fun t ht hW9 => ⟨⟨(), rfl, trivial, by rw [ht, e9]; exact hP, by rw [e9]; exact hD⟩, hS.F ht⟩) hS.2.2 dX3_does_405
