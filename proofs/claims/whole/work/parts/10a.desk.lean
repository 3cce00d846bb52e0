def fn_X2_orderAt (v0 : Int32) (v1 : Int32) : Int32 :=
  ((Int32.toUInt32 v0 >>> (Int32.toUInt32 (v1 * (4 : Int32)) &&& Int32.toUInt32 31)).toInt32) &&& (15 : Int32)
set_option maxHeartbeats 4000000 in
set_option maxRecDepth 100000 in
theorem ct_X2_orderAt (l : Launch) (v0 : Int32) (v1 : Int32) : Met l yX2_orderAt wsX2_orderAt ({ frames := 0, cells := 0, slots := 0, locals := 0 } : Room) (va_Pc [.int v0, .int v1] (fun _ => True)) (vp_Si (fun r => r = fn_X2_orderAt v0 v1)) 0 0 (fun _ => False) := by
  refine Met.ofW (cc := cX2_orderAt) (maxL := 2) (ret := (some .int)) (by decide) rfl ?_
  intro p e s m args below meth c s₁ B hml hv
  obtain ⟨rfl, hW⟩ := hv
  have hx := B.exec
  have hb := B.bytes
  have hr := B.returns
  have hlocks := B.notSynchronized
  have hts := atoms_spec (ws := wsX2_orderAt) B.pre
  have hown : s.vm.findClass RX2 = some m.cls := findClass_of_methodNamed B.named
  have hS : va_S (fun _ => False) s.heap s.heap [] := va_S.rf
  have hl := lv_entry ([.int v0, .int v1]) (n := 2) (Nat.le_of_ble_eq_true rfl)
  rw [lg_entry_eq]
  generalize (lg_sl ([.int v0, .int v1]) ++ List.replicate (2 - (lg_sl ([.int v0, .int v1])).length) Slot.unset).toArray = ls at hl ⊢
  have hl : lv_has ls 2 [(0, .int v0), (1, .int v1)] := hl
  refine lv_iload_n hx hb dX2_orderAt_0 rfl (lv_at hl 0 rfl) ?_
  refine lv_iload_n hx hb dX2_orderAt_1 rfl (lv_at hl 1 rfl) ?_
  refine lv_iconst (v := (4 : Int32)) hx hb dX2_orderAt_2 (by decide) ?_
  refine lv_imul hx hb dX2_orderAt_3 ?_
  refine lv_iushr hx hb dX2_orderAt_4 rfl ?_
  refine lv_bipush (v := (15 : Int32)) hx hb dX2_orderAt_5 (by decide) ?_
  refine lv_iand hx hb dX2_orderAt_7 ?_
  exact W.iret (v := ((Int32.toUInt32 v0 >>> (Int32.toUInt32 (v1 * (4 : Int32)) &&& Int32.toUInt32 31)).toInt32) &&& (15 : Int32)) hx hb hr (fun t ht _ => ⟨_, rfl, rfl, ht⟩) (fun _ h => by cases h) dX2_orderAt_8
/-! The desk's world: the desk, its row of axes, the axes. -/
abbrev dkE (ad : Nat → Nat) (K : Nat → Nat) (u : Nat → Ax5) : Nat → va_E := fun a => axE ad (K a) (u a)
abbrev dkX (d0 ar : Nat) (cA : ClassId) (L : List Nat) : va_W := [(d0, .inr (2, [.ref ar, .int (nI L.length)])), (ar, .inl (cA, 8, .inr (.inr (.inr (.inr (fun i => L[i]?))))))]
abbrev dkW (ad : Nat → Nat) (d0 ar : Nat) (cA : ClassId) (L : List Nat) (K : Nat → Nat) (u : Nat → Ax5) : va_W := dkX d0 ar cA L ++ va_pl L (dkE ad K u)
def dw (dC : Nat → ClassId) (dI : Nat → Nat → Nat) (ad : Nat → Nat) (d0 ar : Nat) (cA : ClassId) (sz : Nat) (L : List Nat) (K : Nat → Nat) (u : Nat → Ax5) (U : State) : Prop := U.heap.size = sz ∧ va_P (dC, dI) vwCl (dkW ad d0 ar cA L K u) U.heap ∧ va_K (dC, dI) vwCl [(cA, .object RX0)] U ∧ va_D (fun _ => True) (dkW ad d0 ar cA L K u) ∧ kw ad (va_A (dkW ad d0 ar cA L K u) sz) U U.heap ∧ nW U
theorem dw_cl {dC : Nat → ClassId} {dI : Nat → Nat → Nat} {ad : Nat → Nat} {d0 ar : Nat} {cA : ClassId} {sz : Nat} {L : List Nat} {K : Nat → Nat} {u : Nat → Ax5} {U : State} {g : JFrame} {mk : MethodId} {a : Array Value} (h : dw dC dI ad d0 ar cA sz L K u U) : dw dC dI ad d0 ar cA sz L K u (U.calling g mk a) :=
  ⟨h.1, h.2.1, va_K.moved (u := U) (U := U.calling g mk a) (Vm.Alike.refl U.vm) h.2.2.1, h.2.2.2.1, kw_blind h.2.2.2.2.1, nW_same (s := U) (U := U.calling g mk a) rfl h.2.2.2.2.2⟩
theorem dw_blind {dC : Nat → ClassId} {dI : Nat → Nat → Nat} {ad : Nat → Nat} {d0 ar : Nat} {cA : ClassId} {sz : Nat} {L : List Nat} {K : Nat → Nat} {u : Nat → Ax5} {av : List Value} : FrameBlind (va_Pc av (fun U => dw dC dI ad d0 ar cA sz L K u U)) := fun _ _ _ _ q => ⟨q.1, dw_cl q.2⟩
theorem dw_call {dC : Nat → ClassId} {dI : Nat → Nat → Nat} {ad : Nat → Nat} {d0 ar : Nat} {cA : ClassId} {L : List Nat} {K : Nat → Nat} {u : Nat → Ax5} {s U : State} {A : Nat → Prop} {H : Heap} {locs : List Loc} {av : List Value} (hK : va_K (dC, dI) vwCl [(cA, .object RX0)] s) (hP : va_P (dC, dI) vwCl (dkW ad d0 ar cA L K u) H) (hD : va_D A (dkW ad d0 ar cA L K u)) (hW : kw ad A s s.heap) (hN : nW s) (hS : va_S A s.heap H locs) (hA : ∀ q, s.heap.size ≤ q → A q) (hU : U.heap = H) (hW9 : s.WarmedH U.vm) : va_Pc av (fun U => dw dC dI ad d0 ar cA H.size L K u U) av.toArray U := by
  refine ⟨rfl, by rw [hU], by rw [hU]; exact hP, va_K.moved hW9.alike hK, hD.weaken (fun _ _ _ _ => trivial), kw_callA hW hS ?_ hU hW9, nW_warm hW9 hN⟩
  intro q h
  rcases h with ⟨k, e, h⟩ | h
  · exact hD.2 k _ h
  · exact hA q (Nat.le_trans hS.1 h)
theorem dk_at {D : va_G} {ad : Nat → Nat} {d0 ar : Nat} {cA : ClassId} {L : List Nat} {K : Nat → Nat} {u : Nat → Ax5} {A : Nat → Prop} {H0 H : Heap} {locs : List Loc} {a : Nat} (hP : va_P D vwCl (dkW ad d0 ar cA L K u) H) (hD : va_D A (dkW ad d0 ar cA L K u)) (hS : va_S A H0 H locs) (hA : ∀ q, H0.size ≤ q → A q) (ha : a ∈ L) : va_P D vwCl [(a, axE ad (K a) (u a))] H ∧ va_D A [(a, axE ad (K a) (u a))] ∧ ∀ q, va_A [(a, axE ad (K a) (u a))] H.size q → A q := by
  obtain ⟨k, hk⟩ := va_pl_get (X := dkX d0 ar cA L) (f := dkE ad K u) ha
  exact ⟨va_P1 hP hk, va_D1 hD hk, va_F1 hD hS hA hk⟩
theorem dk_join {D : va_G} {ad : Nat → Nat} {d0 ar : Nat} {cA : ClassId} {L : List Nat} {K : Nat → Nat} {u : Nat → Ax5} {A : Nat → Prop} {H H1 : Heap} {a : Nat} {x : Ax5} (hP : va_P D vwCl (dkW ad d0 ar cA L K u) H) (hD : va_D A (dkW ad d0 ar cA L K u)) (ha : a ∈ L) (hq : ∀ q : Nat, q < H.size → ¬ va_A [(a, axE ad (K a) (u a))] H.size q → H1[q]? = H[q]?) (hP1 : va_P D vwCl [(a, axE ad (K a) x)] H1) : va_P D vwCl (dkW ad d0 ar cA L K (va_up u a x)) H1 ∧ va_D A (dkW ad d0 ar cA L K (va_up u a x)) := by
  obtain ⟨k, hk⟩ := va_pl_get (X := dkX d0 ar cA L) (f := dkE ad K u) ha
  have h := va_J1 hP hD hk hq hP1
  rw [va_pl_set hD ha hk] at h
  have e : va_pl L (va_up (dkE ad K u) a (axE ad (K a) x)) = va_pl L (dkE ad K (va_up u a x)) := va_pl_congr (fun b => by
    by_cases hb : b = a
    · subst hb
      rw [va_up_self]
      show axE ad (K b) x = axE ad (K b) (va_up u b x b)
      rw [va_up_self]
    · rw [va_up_ne _ _ hb]
      show axE ad (K b) (u b) = axE ad (K b) (va_up u a x b)
      rw [va_up_ne _ _ hb])
  rw [e] at h
  exact h
theorem oAt_eq (row : Int32) (i : Nat) : fn_X2_orderAt row (nI i) = mAt row i := by
  unfold fn_X2_orderAt mAt
  rw [show nI i * (4 : Int32) = nI (4 * i) from by rw [Nat.mul_comm]; exact pk_mul i 4]
section ZD
variable {p : Program} {l : Launch} {e : Env} {R : Room} {s : State} {m : MethodId} {args : Array Value} {below : List Frame} {meth : Method} {c : Code} {H : Heap} {locs : List Loc} {cells slots : Nat} {Q : State → Prop}
variable {cc : ByteArray} {pc : Nat} {ls : Array Slot} {rest : List Value} {D : va_G} {cl : List vw_C} {A : Nat → Prop} {a : Nat} {tys : List (ClassId × FieldType)} {ws : va_W} {H0 : Heap}
theorem zm_aldq (hx : p.tables.exec = Jvm.exec) (hb : c.code = cc) (hK : va_K D cl tys s) (hP : va_P D cl ws H) (q0 t0 : Nat) {cA : ClassId} {C : String} {n : Nat} {f : Nat → Option Nat} (ha : ws[q0]? = some (a, .inl (cA, n, .inr (.inr (.inr (.inr f)))))) (ht : tys[t0]? = some (cA, .object C)) {i v : Nat} (hi : i < n) (hn : n < 2 ^ 31) (hv : f i = some v) (hdg : decode cc pc = .ok (.aaload, 1)) (kk : W p l e R s m args below meth c H locs cells slots Q (F0 m (pc + 1) ls (.ref v :: rest))) : W p l e R s m args below meth c H locs cells slots Q (F0 m pc ls (.int (nI i) :: .ref a :: rest)) := va_aldq hx hb hK hP q0 t0 ha ht (vp_in_nI hi hn) hdg (by rw [nI_clamp (Nat.lt_trans hi hn), hv]; exact kk)
end ZD
set_option maxHeartbeats 4000000 in
set_option maxRecDepth 100000 in
theorem ct_X2_find_no (l : Launch) (dC : Nat → ClassId) (dI : Nat → Nat → Nat) (ad : Nat → Nat) (d0 ar : Nat) (cA : ClassId) (sz : Nat) (L : List Nat) (K : Nat → Nat) (u : Nat → Ax5) (v1 : Int32) (h1 : fn_X3_isAxis L.length v1 = 0) : Met l yX2_find wsX2_find ({ frames := 0, cells := 0, slots := 0, locals := 0 } : Room) (va_Pc [.ref d0, .int v1] (fun U => dw dC dI ad d0 ar cA sz L K u U)) (va_Sq (fun r => r = none)) 0 0 (fun _ => False) := by
  refine Met.ofW (cc := cX2_find) (maxL := 2) (ret := (some (.object "ServoDesk$Axis"))) (by decide) rfl ?_
  intro p e s m args below meth c s₁ B hml hv
  obtain ⟨rfl, hsz, hP, hK, hD0, hW, hN⟩ := hv
  have hx := B.exec
  have hb := B.bytes
  have hr := B.returns
  have hlocks := B.notSynchronized
  have hts := atoms_spec (ws := wsX2_find) B.pre
  have hown : s.vm.findClass RX2 = some m.cls := findClass_of_methodNamed B.named
  have hin2 : ∀ w ∈ u_ws RX2 TX2 2, w ∈ wsX2_find := fun _ h => List.mem_cons_of_mem _ (List.mem_append_right _ h)
  subst hsz
  have hD := hD0.self (sz := s.heap.size)
  generalize hAe : va_A (dkW ad d0 ar cA L K u) s.heap.size = A at hW hD ⊢
  have hA : ∀ q : Nat, s.heap.size ≤ q → A q := fun q h => by rw [← hAe]; exact Or.inr h
  have hS : va_S A s.heap s.heap [] := va_S.rf
  have hl := lv_entry ([.ref d0, .int v1]) (n := 2) (Nat.le_of_ble_eq_true rfl)
  rw [lg_entry_eq]
  generalize (lg_sl ([.ref d0, .int v1]) ++ List.replicate (2 - (lg_sl ([.ref d0, .int v1])).length) Slot.unset).toArray = ls at hl ⊢
  have hl : lv_has ls 2 [(0, .ref d0), (1, .int v1)] := hl
  refine lv_iload_n hx hb dX2_find_0 rfl (lv_at hl 1 rfl) ?_
  refine lv_if_lt (tgt := 30) hx hb dX2_find_1 (by decide) (fun c_1 => ?_) (fun c_1 => ?_)
  · refine lv_null hx hb dX2_find_30 ?_
    exact W.aret (rt := .object "ServoDesk$Axis") hx hb hr (Or.inl ⟨_, rfl⟩) (Or.inl rfl) (fun t ht _ => ⟨none, rfl, rfl, ht⟩) (fun _ h => by cases h) dX2_find_31
  · refine lv_iload_n hx hb dX2_find_4 rfl (lv_at hl 1 rfl) ?_
    refine lv_aload_n hx hb dX2_find_5 rfl (lv_at hl 0 rfl) ?_
    refine va_get (D := (dC, dI)) (ci := 2) (v := .int (nI L.length)) (C := RX2) (T := TX2) (N := 2) hx hb hts hin2 hown hK hP 0 rfl rfl 1 (by decide) (hts (.fieldLink RX2 15 "ServoDesk" "count" "I") (by decide +kernel)) (fun _ h9 => h9) rfl dX2_find_6 ?_
    refine lv_icmp_ge (tgt := 30) hx hb dX2_find_9 (by decide) (fun c_2 => ?_) (fun c_2 => ?_)
    · refine lv_null hx hb dX2_find_30 ?_
      exact W.aret (rt := .object "ServoDesk$Axis") hx hb hr (Or.inl ⟨_, rfl⟩) (Or.inl rfl) (fun t ht _ => ⟨none, rfl, rfl, ht⟩) (fun _ h => by cases h) dX2_find_31
    · exact absurd h1 (by unfold fn_X3_isAxis; rw [if_neg c_1, if_neg c_2]; decide)
set_option maxHeartbeats 4000000 in
set_option maxRecDepth 100000 in
theorem ct_X2_find_at (l : Launch) (dC : Nat → ClassId) (dI : Nat → Nat → Nat) (ad : Nat → Nat) (d0 ar : Nat) (cA : ClassId) (sz : Nat) (L : List Nat) (K : Nat → Nat) (u : Nat → Ax5) (hL8 : L.length ≤ 8) (i a : Nat) (hi : L[i]? = some a) : Met l yX2_find wsX2_find ({ frames := 0, cells := 0, slots := 0, locals := 0 } : Room) (va_Pc [.ref d0, .int (nI i)] (fun U => dw dC dI ad d0 ar cA sz L K u U)) (va_Sq (fun r => r = some a)) 0 0 (fun _ => False) := by
  refine Met.ofW (cc := cX2_find) (maxL := 2) (ret := (some (.object "ServoDesk$Axis"))) (by decide) rfl ?_
  intro p e s m args below meth c s₁ B hml hv
  obtain ⟨rfl, hsz, hP, hK, hD0, hW, hN⟩ := hv
  have hx := B.exec
  have hb := B.bytes
  have hr := B.returns
  have hlocks := B.notSynchronized
  have hts := atoms_spec (ws := wsX2_find) B.pre
  have hown : s.vm.findClass RX2 = some m.cls := findClass_of_methodNamed B.named
  have hin2 : ∀ w ∈ u_ws RX2 TX2 2, w ∈ wsX2_find := fun _ h => List.mem_cons_of_mem _ (List.mem_append_right _ h)
  subst hsz
  have hD := hD0.self (sz := s.heap.size)
  generalize hAe : va_A (dkW ad d0 ar cA L K u) s.heap.size = A at hW hD ⊢
  have hA : ∀ q : Nat, s.heap.size ≤ q → A q := fun q h => by rw [← hAe]; exact Or.inr h
  have hS : va_S A s.heap s.heap [] := va_S.rf
  have hl := lv_entry ([.ref d0, .int (nI i)]) (n := 2) (Nat.le_of_ble_eq_true rfl)
  rw [lg_entry_eq]
  generalize (lg_sl ([.ref d0, .int (nI i)]) ++ List.replicate (2 - (lg_sl ([.ref d0, .int (nI i)])).length) Slot.unset).toArray = ls at hl ⊢
  have hl : lv_has ls 2 [(0, .ref d0), (1, .int (nI i))] := hl
  refine lv_iload_n hx hb dX2_find_0 rfl (lv_at hl 1 rfl) ?_
  refine lv_if_lt (tgt := 30) hx hb dX2_find_1 (by decide) (fun c_1 => ?_) (fun c_1 => ?_)
  · exact absurd c_1 (nI_pos (n := i) (by have := (List.getElem?_eq_some_iff.mp hi).1; omega))
  · refine lv_iload_n hx hb dX2_find_4 rfl (lv_at hl 1 rfl) ?_
    refine lv_aload_n hx hb dX2_find_5 rfl (lv_at hl 0 rfl) ?_
    refine va_get (D := (dC, dI)) (ci := 2) (v := .int (nI L.length)) (C := RX2) (T := TX2) (N := 2) hx hb hts hin2 hown hK hP 0 rfl rfl 1 (by decide) (hts (.fieldLink RX2 15 "ServoDesk" "count" "I") (by decide +kernel)) (fun _ h9 => h9) rfl dX2_find_6 ?_
    refine lv_icmp_ge (tgt := 30) hx hb dX2_find_9 (by decide) (fun c_2 => ?_) (fun c_2 => ?_)
    · exact absurd c_2 (nI_ge (a := i) (b := L.length) (List.getElem?_eq_some_iff.mp hi).1 (by omega))
    · refine lv_iload_n hx hb dX2_find_12 rfl (lv_at hl 1 rfl) ?_
      refine lv_aload_n hx hb dX2_find_13 rfl (lv_at hl 0 rfl) ?_
      refine va_get (D := (dC, dI)) (ci := 2) (v := .ref ar) (C := RX2) (T := TX2) (N := 2) hx hb hts hin2 hown hK hP 0 rfl rfl 0 (by decide) (hts (.fieldLink RX2 11 "ServoDesk" "axes" "[LServoDesk$Axis;") (by decide +kernel)) (fun _ h9 => h9) rfl dX2_find_14 ?_
      refine va_alen (v := nI 8) hx hb hK hP 1 0 rfl rfl rfl dX2_find_17 ?_
      refine lv_icmp_ge (tgt := 30) hx hb dX2_find_18 (by decide) (fun c_3 => ?_) (fun c_3 => ?_)
      · exact absurd c_3 (nI_ge (a := i) (b := 8) (by have := (List.getElem?_eq_some_iff.mp hi).1; omega) (by decide))
      · refine lv_aload_n hx hb dX2_find_21 rfl (lv_at hl 0 rfl) ?_
        refine va_get (D := (dC, dI)) (ci := 2) (v := .ref ar) (C := RX2) (T := TX2) (N := 2) hx hb hts hin2 hown hK hP 0 rfl rfl 0 (by decide) (hts (.fieldLink RX2 11 "ServoDesk" "axes" "[LServoDesk$Axis;") (by decide +kernel)) (fun _ h9 => h9) rfl dX2_find_22 ?_
        refine lv_iload_n hx hb dX2_find_25 rfl (lv_at hl 1 rfl) ?_
        refine zm_aldq (v := a) hx hb hK hP 1 0 rfl rfl (i := i) (by have := (List.getElem?_eq_some_iff.mp hi).1; omega) (by decide) hi dX2_find_26 ?_
        refine lv_goto (tgt := 31) hx hb dX2_find_27 (by decide) ?_
        exact W.aret (rt := .object "ServoDesk$Axis") hx hb hr (Or.inl ⟨_, rfl⟩) (Or.inr ⟨_, rfl⟩) (fun t ht _ => ⟨some a, rfl, rfl, ht⟩) (fun _ h => by cases h) dX2_find_31
