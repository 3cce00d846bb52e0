set_option maxHeartbeats 8000000 in
set_option maxRecDepth 100000 in
theorem law_loop {p : Program} {e : Env} {s : State} {m : MethodId} {below : List Frame} {meth : Method} {c : Code} (l : Launch) {b Ln : Nat} {xs : Nat → Int32} (hL : Ln ≤ 2560) (hx : p.tables.exec = Jvm.exec) (hb : c.code = cL_law) (hr : meth.sig.returnType = ret) (hml : c.maxLocals = 4) (hown : s.vm.findClass RL = some m.cls) (hts : ∀ w ∈ wsL_law, w.before #[Value.ref b] s = true) (hX : va_X b Ln xs s s.heap) (hbl : b < s.heap.size) (hlocks : meth.locks = false) {A : Nat → Prop} (hA : ∀ q : Nat, s.heap.size ≤ q → A q) (hbA : ¬ A b) (hAf : ∀ q : Nat, A q → s.heap.size ≤ q) {dC : Nat → ClassId} {dI : Nat → Nat → Nat} {ad : Nat → Nat} {tk d0 ar m0 ka na : Nat} {cA cI cJ : ClassId} (hKm : va_K (dC, dI) vwCl [(cI, .int), (cJ, .long)] s) (hKd : va_K (dC, dI) vwCl [(cA, .object RX0)] s) (hW : kw ad A s s.heap) (hZ : kz ad tk A s s.heap) (hN : nW s) : ∀ (f i : Nat), Ln < i + 5 * (f + 1) → i ≤ 2560 → ∀ (L : List Nat) (K : Nat → Nat) (u : Nat → Ax5) (kf : Nat → Int32) (nf : Nat → Int64) (H : Heap) (locs : List Loc) (ls : Array Slot), Rl L K u kf nf → va_P (dC, dI) vwCl (mdW m0 ka na cI cJ L.length kf nf ++ dkW ad d0 ar cA L K u) H → va_D A (mdW m0 ka na cI cJ L.length kf nf ++ dkW ad d0 ar cA L K u) → va_S A s.heap H locs → lv_has ls 4 [(0, .ref b), (1, .ref d0), (2, .ref m0), (3, .int (nI i))] → W p l e room_1 s m #[Value.ref b] below meth c H locs (5 + L.length) (61 + 6 * L.length) (lw_Z below #[Value.ref b] s) (F0 m 18 ls []) := by
  intro f
  induction f with
  | zero =>
    intro i hf hi L K u kf nf H locs ls hR hP hD hS hl
    have hL8 := hR.1
    refine lv_iload_n hx hb dL_law_18 rfl (lv_at hl 3 rfl) ?_
    refine lv_aload_n hx hb dL_law_19 rfl (lv_at hl 0 rfl) ?_
    refine va_slen hx hb hX hbl hbA hS dL_law_20 ?_
    refine lv_iconst (v := (5 : Int32)) hx hb dL_law_21 (by decide) ?_
    refine lv_isub hx hb dL_law_22 ?_
    refine lv_topi (fun y ey => ?_)
    have ey : y = iI ((Ln : Int) - 5) := by rw [ey]; show nI Ln - iI 5 = _; rw [iI_nat, iI_sub]
    refine lv_icmp_gt (tgt := 307) hx hb dL_law_23 (by decide) (fun c_1 => ?_) (fun c_1 => ?_)
    · refine lv_iconst (v := (1 : Int32)) hx hb dL_law_307 (by decide) ?_
      refine va_forget (fun q hq => hAf _ (hS.2.2 q hq)) ?_
      refine W.widen (k := 600000) (n := 7302250) (by omega) (by omega) ?_
      exact lw_ret hx hb hr hlocks dL_law_308
    · exact absurd (show y < nI i from by rw [ey, iI_nat]; exact (iI_lt (by omega) (by omega)).mpr (by omega)) c_1
  | succ f ih =>
    intro i hf hi L K u kf nf H locs ls hR hP hD hS hl
    have hL8 := hR.1
    refine lv_iload_n hx hb dL_law_18 rfl (lv_at hl 3 rfl) ?_
    refine lv_aload_n hx hb dL_law_19 rfl (lv_at hl 0 rfl) ?_
    refine va_slen hx hb hX hbl hbA hS dL_law_20 ?_
    refine lv_iconst (v := (5 : Int32)) hx hb dL_law_21 (by decide) ?_
    refine lv_isub hx hb dL_law_22 ?_
    refine lv_topi (fun y ey => ?_)
    have ey : y = iI ((Ln : Int) - 5) := by rw [ey]; show nI Ln - iI 5 = _; rw [iI_nat, iI_sub]
    refine lv_icmp_gt (tgt := 307) hx hb dL_law_23 (by decide) (fun c_1 => ?_) (fun c_1 => ?_)
    · refine lv_iconst (v := (1 : Int32)) hx hb dL_law_307 (by decide) ?_
      refine va_forget (fun q hq => hAf _ (hS.2.2 q hq)) ?_
      refine W.widen (k := 600000) (n := 7302250) (by omega) (by omega) ?_
      exact lw_ret hx hb hr hlocks dL_law_308
    · have hi5 : i + 5 ≤ Ln := by
        rcases Nat.lt_or_ge Ln (i + 5) with q | q
        · exact absurd (show y < nI i from by rw [ey, iI_nat]; exact (iI_lt (by omega) (by omega)).mpr (by omega)) c_1
        · exact q
      have nx : ∀ (L : List Nat) (K : Nat → Nat) (u : Nat → Ax5) (kf : Nat → Int32) (nf : Nat → Int64) (H : Heap) (locs : List Loc) (ls : Array Slot), Rl L K u kf nf → va_P (dC, dI) vwCl (mdW m0 ka na cI cJ L.length kf nf ++ dkW ad d0 ar cA L K u) H → va_D A (mdW m0 ka na cI cJ L.length kf nf ++ dkW ad d0 ar cA L K u) → va_S A s.heap H locs → lv_has ls 4 [(0, .ref b), (1, .ref d0), (2, .ref m0), (3, .int (nI i))] → W p l e room_1 s m #[Value.ref b] below meth c H locs (5 + L.length) (61 + 6 * L.length) (lw_Z below #[Value.ref b] s) (F0 m 301 ls []) := by
        intro L K u kf nf H locs ls hR hP hD hS hl
        refine lv_iinc (v := nI (i + 5)) (lv' := [(3, .int (nI (i + 5))), (0, .ref b), (1, .ref d0), (2, .ref m0)]) hx hb dL_law_301 hl (k := 3) rfl (nI_add i 5) (by decide) rfl (fun ls hl => ?_)
        refine lv_goto (tgt := 18) hx hb dL_law_304 (by decide) ?_
        exact ih (i + 5) (by omega) (by omega) L K u kf nf H locs ls hR hP hD hS (lv_sub hl [1, 2, 3, 0] rfl)
      have hnd := dk_nd (wr_D hD)
      refine lv_aload_n hx hb dL_law_26 rfl (lv_at hl 0 rfl) ?_
      refine lv_iload_n hx hb dL_law_27 rfl (lv_at hl 3 rfl) ?_
      refine zs_ld hx hb hX hbl hbA hS (i := i) (by omega) (by omega) dL_law_28 ?_
      refine lv_bipush (v := (7 : Int32)) hx hb dL_law_29 (by decide) ?_
      refine lv_iand hx hb dL_law_31 ?_
      refine lv_topi (fun sw esw => ?_)
      by_cases q_0 : sw = (0 : Int32)
      · refine lv_tableIn (off := 40) (tgt := 72) hx hb dL_law_32 (by rw [q_0]; decide) (by rw [q_0]; decide) (by rw [q_0]; rfl) (by decide) ?_
        by_cases h1 : xs (i + 1) < 0
        · refine lv_aload_n hx hb dL_law_72 rfl (lv_at hl 1 rfl) ?_
          refine lv_aload_n hx hb dL_law_73 rfl (lv_at hl 0 rfl) ?_
          refine lv_iload_n hx hb dL_law_74 rfl (lv_at hl 3 rfl) ?_
          refine lv_iconst (v := (1 : Int32)) hx hb dL_law_75 (by decide) ?_
          refine lv_iadd hx hb dL_law_76 ?_
          refine zn_top (n := i + 1) (nI_add i 1) ?_
          refine zs_ld hx hb hX hbl hbA hS (i := i + 1) (by omega) (by omega) dL_law_77 ?_
          have hPd := wr_P hP
          have hDd := wr_D hD
          have hFd := w_free hDd hS hA
          refine va_calli (va_runV (As := [.int (xs (i + 1))]) (rest := []) ⟨hx, hb, hml, hown, hts⟩ (ct_X2_axis_lo l dC dI ad d0 ar cA H.size L K u tk (xs (i + 1)) h1) (cwV 1 hts gL_law_X2_axis rfl rfl rfl (by decide +kernel) ⟨Nat.le_of_ble_eq_true rfl, Nat.le_of_ble_eq_true rfl⟩) ⟨(fun a U g mk q => ⟨q.1, dw_cl q.2.1, kz_moved (u := U) (U := U.calling g mk a) (Vm.Alike.refl U.vm) q.2.2⟩), va_recv hKd hPd (ci := 2) (q0 := 0) rfl rfl, fun U hU hW9 => ⟨rfl, (dw_call (av := []) hKd hPd hDd hW hN hS hA hU hW9).2, kz_callA hZ hS hFd hU hW9⟩⟩ rfl rfl hl.1 rfl (lv_room (Nat.le_of_ble_eq_true rfl)) dL_law_78 ⟨by show 5 + L.length + 0 ≤ 600000; omega, by show 61 + 6 * L.length + 0 ≤ 7302250; omega⟩) hS (fun q _ h => hFd q h) hFd (fun r1 _ t H1 locs ht hvm er1 hB hz1 hk1 hS => ?_)
          obtain ⟨hP1, hD1⟩ := hB
          rw [ht] at hP1
          obtain ⟨hP, hD⟩ := w_jr hP hD hk1 hFd hP1 hD1
          generalize H1 = H at hP hS ⊢
          refine lv_aload_n hx hb dL_law_81 rfl (lv_at hl 2 rfl) ?_
          refine lv_aload_n hx hb dL_law_82 rfl (lv_at hl 0 rfl) ?_
          refine lv_iload_n hx hb dL_law_83 rfl (lv_at hl 3 rfl) ?_
          refine lv_iconst (v := (1 : Int32)) hx hb dL_law_84 (by decide) ?_
          refine lv_iadd hx hb dL_law_85 ?_
          refine zn_top (n := i + 1) (nI_add i 1) ?_
          refine zs_ld hx hb hX hbl hbA hS (i := i + 1) (by omega) (by omega) dL_law_86 ?_
          have hPm := wl_P hP
          have hDm := wl_D hD
          have hFm := w_free hDm hS hA
          refine va_calli (va_runV (As := [.int (xs (i + 1))]) (rest := [.int r1]) ⟨hx, hb, hml, hown, hts⟩ (ct_X3_axis_lo l dC dI m0 ka na cI cJ H.size L.length kf nf (xs (i + 1)) h1) (cwV 1 hts gL_law_X3_axis rfl rfl rfl (by decide +kernel) ⟨Nat.le_of_ble_eq_true rfl, Nat.le_of_ble_eq_true rfl⟩) ⟨mw_blind, va_recv hKm hPm (ci := 3) (q0 := 0) rfl rfl, fun U hU hW9 => mw_call hKm hPm hDm hU hW9⟩ rfl rfl hl.1 rfl (lv_room (Nat.le_of_ble_eq_true rfl)) dL_law_87 ⟨by show 5 + L.length + 0 ≤ 600000; omega, by show 61 + 6 * L.length + 0 ≤ 7302250; omega⟩) hS (fun q _ h => hFm q h) hFm (fun r2 _ t H1 locs ht hvm er2 hB hz1 hk1 hS => ?_)
          obtain ⟨hP1, hD1⟩ := hB
          rw [ht] at hP1
          obtain ⟨hP, hD⟩ := w_jl hP hD hk1 hFm hP1 hD1
          generalize H1 = H at hP hS ⊢
          have he : r1 = r2 := er1.trans er2.symm
          have hP : va_P (dC, dI) vwCl (mdW m0 ka na cI cJ L.length kf nf ++ dkW ad d0 ar cA L K u) H := hP
          have hD : va_D A (mdW m0 ka na cI cJ L.length kf nf ++ dkW ad d0 ar cA L K u) := hD
          refine lv_icmp_eq (tgt := 301) hx hb dL_law_90 (by decide) (fun _ => ?_) (fun c9 => absurd he c9)
          exact nx L K u kf nf H locs ls hR hP hD hS hl
        by_cases h2 : 4 ≤ xs (i + 1)
        · refine lv_aload_n hx hb dL_law_72 rfl (lv_at hl 1 rfl) ?_
          refine lv_aload_n hx hb dL_law_73 rfl (lv_at hl 0 rfl) ?_
          refine lv_iload_n hx hb dL_law_74 rfl (lv_at hl 3 rfl) ?_
          refine lv_iconst (v := (1 : Int32)) hx hb dL_law_75 (by decide) ?_
          refine lv_iadd hx hb dL_law_76 ?_
          refine zn_top (n := i + 1) (nI_add i 1) ?_
          refine zs_ld hx hb hX hbl hbA hS (i := i + 1) (by omega) (by omega) dL_law_77 ?_
          have hPd := wr_P hP
          have hDd := wr_D hD
          have hFd := w_free hDd hS hA
          refine va_calli (va_runV (As := [.int (xs (i + 1))]) (rest := []) ⟨hx, hb, hml, hown, hts⟩ (ct_X2_axis_hi l dC dI ad d0 ar cA H.size L K u tk (xs (i + 1)) h1 h2) (cwV 1 hts gL_law_X2_axis rfl rfl rfl (by decide +kernel) ⟨Nat.le_of_ble_eq_true rfl, Nat.le_of_ble_eq_true rfl⟩) ⟨(fun a U g mk q => ⟨q.1, dw_cl q.2.1, kz_moved (u := U) (U := U.calling g mk a) (Vm.Alike.refl U.vm) q.2.2⟩), va_recv hKd hPd (ci := 2) (q0 := 0) rfl rfl, fun U hU hW9 => ⟨rfl, (dw_call (av := []) hKd hPd hDd hW hN hS hA hU hW9).2, kz_callA hZ hS hFd hU hW9⟩⟩ rfl rfl hl.1 rfl (lv_room (Nat.le_of_ble_eq_true rfl)) dL_law_78 ⟨by show 5 + L.length + 0 ≤ 600000; omega, by show 61 + 6 * L.length + 0 ≤ 7302250; omega⟩) hS (fun q _ h => hFd q h) hFd (fun r1 _ t H1 locs ht hvm er1 hB hz1 hk1 hS => ?_)
          obtain ⟨hP1, hD1⟩ := hB
          rw [ht] at hP1
          obtain ⟨hP, hD⟩ := w_jr hP hD hk1 hFd hP1 hD1
          generalize H1 = H at hP hS ⊢
          refine lv_aload_n hx hb dL_law_81 rfl (lv_at hl 2 rfl) ?_
          refine lv_aload_n hx hb dL_law_82 rfl (lv_at hl 0 rfl) ?_
          refine lv_iload_n hx hb dL_law_83 rfl (lv_at hl 3 rfl) ?_
          refine lv_iconst (v := (1 : Int32)) hx hb dL_law_84 (by decide) ?_
          refine lv_iadd hx hb dL_law_85 ?_
          refine zn_top (n := i + 1) (nI_add i 1) ?_
          refine zs_ld hx hb hX hbl hbA hS (i := i + 1) (by omega) (by omega) dL_law_86 ?_
          have hPm := wl_P hP
          have hDm := wl_D hD
          have hFm := w_free hDm hS hA
          refine va_calli (va_runV (As := [.int (xs (i + 1))]) (rest := [.int r1]) ⟨hx, hb, hml, hown, hts⟩ (ct_X3_axis_hi l dC dI m0 ka na cI cJ H.size L.length kf nf (xs (i + 1)) h1 (gt3 h2)) (cwV 1 hts gL_law_X3_axis rfl rfl rfl (by decide +kernel) ⟨Nat.le_of_ble_eq_true rfl, Nat.le_of_ble_eq_true rfl⟩) ⟨mw_blind, va_recv hKm hPm (ci := 3) (q0 := 0) rfl rfl, fun U hU hW9 => mw_call hKm hPm hDm hU hW9⟩ rfl rfl hl.1 rfl (lv_room (Nat.le_of_ble_eq_true rfl)) dL_law_87 ⟨by show 5 + L.length + 0 ≤ 600000; omega, by show 61 + 6 * L.length + 0 ≤ 7302250; omega⟩) hS (fun q _ h => hFm q h) hFm (fun r2 _ t H1 locs ht hvm er2 hB hz1 hk1 hS => ?_)
          obtain ⟨hP1, hD1⟩ := hB
          rw [ht] at hP1
          obtain ⟨hP, hD⟩ := w_jl hP hD hk1 hFm hP1 hD1
          generalize H1 = H at hP hS ⊢
          have he : r1 = r2 := er1.trans er2.symm
          have hP : va_P (dC, dI) vwCl (mdW m0 ka na cI cJ L.length kf nf ++ dkW ad d0 ar cA L K u) H := hP
          have hD : va_D A (mdW m0 ka na cI cJ L.length kf nf ++ dkW ad d0 ar cA L K u) := hD
          refine lv_icmp_eq (tgt := 301) hx hb dL_law_90 (by decide) (fun _ => ?_) (fun c9 => absurd he c9)
          exact nx L K u kf nf H locs ls hR hP hD hS hl
        obtain ⟨k, hk, hx1⟩ := k4 h1 h2
        by_cases h8 : L.length = 8
        · refine lv_aload_n hx hb dL_law_72 rfl (lv_at hl 1 rfl) ?_
          refine lv_aload_n hx hb dL_law_73 rfl (lv_at hl 0 rfl) ?_
          refine lv_iload_n hx hb dL_law_74 rfl (lv_at hl 3 rfl) ?_
          refine lv_iconst (v := (1 : Int32)) hx hb dL_law_75 (by decide) ?_
          refine lv_iadd hx hb dL_law_76 ?_
          refine zn_top (n := i + 1) (nI_add i 1) ?_
          refine zs_ld hx hb hX hbl hbA hS (i := i + 1) (by omega) (by omega) dL_law_77 ?_
          refine zn_top (n := k) hx1 ?_
          have hPd := wr_P hP
          have hDd := wr_D hD
          have hFd := w_free hDd hS hA
          refine va_calli (va_runV (As := [.int (nI k)]) (rest := []) ⟨hx, hb, hml, hown, hts⟩ (ct_X2_axis_full l dC dI ad d0 ar cA H.size L K u tk k hk h8) (cwV 1 hts gL_law_X2_axis rfl rfl rfl (by decide +kernel) ⟨Nat.le_of_ble_eq_true rfl, Nat.le_of_ble_eq_true rfl⟩) ⟨(fun a U g mk q => ⟨q.1, dw_cl q.2.1, kz_moved (u := U) (U := U.calling g mk a) (Vm.Alike.refl U.vm) q.2.2⟩), va_recv hKd hPd (ci := 2) (q0 := 0) rfl rfl, fun U hU hW9 => ⟨rfl, (dw_call (av := []) hKd hPd hDd hW hN hS hA hU hW9).2, kz_callA hZ hS hFd hU hW9⟩⟩ rfl rfl hl.1 rfl (lv_room (Nat.le_of_ble_eq_true rfl)) dL_law_78 ⟨by show 5 + L.length + 0 ≤ 600000; omega, by show 61 + 6 * L.length + 0 ≤ 7302250; omega⟩) hS (fun q _ h => hFd q h) hFd (fun r1 _ t H1 locs ht hvm er1 hB hz1 hk1 hS => ?_)
          obtain ⟨hP1, hD1⟩ := hB
          rw [ht] at hP1
          obtain ⟨hP, hD⟩ := w_jr hP hD hk1 hFd hP1 hD1
          generalize H1 = H at hP hS ⊢
          refine lv_aload_n hx hb dL_law_81 rfl (lv_at hl 2 rfl) ?_
          refine lv_aload_n hx hb dL_law_82 rfl (lv_at hl 0 rfl) ?_
          refine lv_iload_n hx hb dL_law_83 rfl (lv_at hl 3 rfl) ?_
          refine lv_iconst (v := (1 : Int32)) hx hb dL_law_84 (by decide) ?_
          refine lv_iadd hx hb dL_law_85 ?_
          refine zn_top (n := i + 1) (nI_add i 1) ?_
          refine zs_ld hx hb hX hbl hbA hS (i := i + 1) (by omega) (by omega) dL_law_86 ?_
          refine zn_top (n := k) hx1 ?_
          have hPm := wl_P hP
          have hDm := wl_D hD
          have hFm := w_free hDm hS hA
          refine va_calli (va_runV (As := [.int (nI k)]) (rest := [.int r1]) ⟨hx, hb, hml, hown, hts⟩ (ct_X3_axis_full l dC dI m0 ka na cI cJ H.size L.length kf nf k hk h8) (cwV 1 hts gL_law_X3_axis rfl rfl rfl (by decide +kernel) ⟨Nat.le_of_ble_eq_true rfl, Nat.le_of_ble_eq_true rfl⟩) ⟨mw_blind, va_recv hKm hPm (ci := 3) (q0 := 0) rfl rfl, fun U hU hW9 => mw_call hKm hPm hDm hU hW9⟩ rfl rfl hl.1 rfl (lv_room (Nat.le_of_ble_eq_true rfl)) dL_law_87 ⟨by show 5 + L.length + 0 ≤ 600000; omega, by show 61 + 6 * L.length + 0 ≤ 7302250; omega⟩) hS (fun q _ h => hFm q h) hFm (fun r2 _ t H1 locs ht hvm er2 hB hz1 hk1 hS => ?_)
          obtain ⟨hP1, hD1⟩ := hB
          rw [ht] at hP1
          obtain ⟨hP, hD⟩ := w_jl hP hD hk1 hFm hP1 hD1
          generalize H1 = H at hP hS ⊢
          have he : r1 = r2 := er1.trans er2.symm
          have hP : va_P (dC, dI) vwCl (mdW m0 ka na cI cJ L.length kf nf ++ dkW ad d0 ar cA L K u) H := hP
          have hD : va_D A (mdW m0 ka na cI cJ L.length kf nf ++ dkW ad d0 ar cA L K u) := hD
          refine lv_icmp_eq (tgt := 301) hx hb dL_law_90 (by decide) (fun _ => ?_) (fun c9 => absurd he c9)
          exact nx L K u kf nf H locs ls hR hP hD hS hl
        have hn8 : L.length < 8 := by omega
        refine lv_aload_n hx hb dL_law_72 rfl (lv_at hl 1 rfl) ?_
        refine lv_aload_n hx hb dL_law_73 rfl (lv_at hl 0 rfl) ?_
        refine lv_iload_n hx hb dL_law_74 rfl (lv_at hl 3 rfl) ?_
        refine lv_iconst (v := (1 : Int32)) hx hb dL_law_75 (by decide) ?_
        refine lv_iadd hx hb dL_law_76 ?_
        refine zn_top (n := i + 1) (nI_add i 1) ?_
        refine zs_ld hx hb hX hbl hbA hS (i := i + 1) (by omega) (by omega) dL_law_77 ?_
        refine zn_top (n := k) hx1 ?_
        have hPd := wr_P hP
        have hDd := wr_D hD
        have hFd := w_free hDd hS hA
        refine va_calli (va_runV (As := [.int (nI k)]) (rest := []) ⟨hx, hb, hml, hown, hts⟩ (ct_X2_axis_at l dC dI ad d0 ar cA H.size L K u tk k hk hn8) (cwV 1 hts gL_law_X2_axis rfl rfl rfl (by decide +kernel) ⟨Nat.le_of_ble_eq_true rfl, Nat.le_of_ble_eq_true rfl⟩) ⟨(fun a U g mk q => ⟨q.1, dw_cl q.2.1, kz_moved (u := U) (U := U.calling g mk a) (Vm.Alike.refl U.vm) q.2.2⟩), va_recv hKd hPd (ci := 2) (q0 := 0) rfl rfl, fun U hU hW9 => ⟨rfl, (dw_call (av := []) hKd hPd hDd hW hN hS hA hU hW9).2, kz_callA hZ hS hFd hU hW9⟩⟩ rfl rfl hl.1 rfl (lv_room (Nat.le_of_ble_eq_true rfl)) dL_law_78 ⟨by show 5 + L.length + 1 ≤ 600000; omega, by show 61 + 6 * L.length + 6 ≤ 7302250; omega⟩) hS (fun q _ h => hFd q h) hFd (fun r1 q t H1 locs ht hvm er1 hB hz1 hk1 hS => ?_)
        obtain ⟨hP1, hD1⟩ := hB
        rw [ht] at hP1
        obtain ⟨hP, hD⟩ := w_jr hP hD hk1 hFd hP1 hD1
        generalize H1 = H at hP hS ⊢
        refine lv_aload_n hx hb dL_law_81 rfl (lv_at hl 2 rfl) ?_
        refine lv_aload_n hx hb dL_law_82 rfl (lv_at hl 0 rfl) ?_
        refine lv_iload_n hx hb dL_law_83 rfl (lv_at hl 3 rfl) ?_
        refine lv_iconst (v := (1 : Int32)) hx hb dL_law_84 (by decide) ?_
        refine lv_iadd hx hb dL_law_85 ?_
        refine zn_top (n := i + 1) (nI_add i 1) ?_
        refine zs_ld hx hb hX hbl hbA hS (i := i + 1) (by omega) (by omega) dL_law_86 ?_
        refine zn_top (n := k) hx1 ?_
        have hPm := wl_P hP
        have hDm := wl_D hD
        have hFm := w_free hDm hS hA
        refine va_calli (va_runV (As := [.int (nI k)]) (rest := [.int r1]) ⟨hx, hb, hml, hown, hts⟩ (ct_X3_axis_at l dC dI m0 ka na cI cJ H.size L.length kf nf k hk hn8) (cwV 1 hts gL_law_X3_axis rfl rfl rfl (by decide +kernel) ⟨Nat.le_of_ble_eq_true rfl, Nat.le_of_ble_eq_true rfl⟩) ⟨mw_blind, va_recv hKm hPm (ci := 3) (q0 := 0) rfl rfl, fun U hU hW9 => mw_call hKm hPm hDm hU hW9⟩ rfl rfl hl.1 rfl (lv_room (Nat.le_of_ble_eq_true rfl)) dL_law_87 ⟨by show 5 + L.length + 1 + 0 ≤ 600000; omega, by show 61 + 6 * L.length + 6 + 0 ≤ 7302250; omega⟩) hS (fun q _ h => hFm q h) hFm (fun r2 _ t H1 locs ht hvm er2 hB hz1 hk1 hS => ?_)
        obtain ⟨hP1, hD1⟩ := hB
        rw [ht] at hP1
        rw [ax_at _ _ _ hk] at er2 hP1 hD1
        obtain ⟨hP, hD⟩ := w_jl hP hD hk1 hFm hP1 hD1
        generalize H1 = H at hP hS ⊢
        have he : r1 = r2 := er1.trans er2.symm
        refine lv_icmp_eq (tgt := 301) hx hb dL_law_90 (by decide) (fun _ => ?_) (fun c9 => absurd he c9)
        have el : (L ++ [q]).length = L.length + 1 := by rw [List.length_append]; rfl
        have hP : va_P (dC, dI) vwCl (mdW m0 ka na cI cJ (L ++ [q]).length (upd kf L.length (nI k)) (vp_updL (vp_updL (vp_updL (vp_updL (vp_updL nf (5 * L.length + 0) 0) (5 * L.length + 3) 0) (5 * L.length + 4) 0) (5 * L.length + 1) (fn_X1_least k)) (5 * L.length + 2) (fn_X1_greatest k)) ++ dkW ad d0 ar cA (L ++ [q]) (va_up K q k) (va_up u q (axI k))) H := by rw [el]; exact hP
        have hD : va_D A (mdW m0 ka na cI cJ (L ++ [q]).length (upd kf L.length (nI k)) (vp_updL (vp_updL (vp_updL (vp_updL (vp_updL nf (5 * L.length + 0) 0) (5 * L.length + 3) 0) (5 * L.length + 4) 0) (5 * L.length + 1) (fn_X1_least k)) (5 * L.length + 2) (fn_X1_greatest k)) ++ dkW ad d0 ar cA (L ++ [q]) (va_up K q k) (va_up u q (axI k))) := by rw [el]; exact hD
        refine W.widen (k := 5 + (L ++ [q]).length) (n := 61 + 6 * (L ++ [q]).length) (by rw [el]; omega) (by rw [el]; omega) ?_
        exact nx (L ++ [q]) (va_up K q k) (va_up u q (axI k)) _ _ H locs ls (Rl_axis hR hn8 hk (dk_nd (wr_D hD))) hP hD hS hl
      by_cases q_1 : sw = (1 : Int32)
      · refine lv_tableIn (off := 63) (tgt := 95) hx hb dL_law_32 (by rw [q_1]; decide) (by rw [q_1]; decide) (by rw [q_1]; rfl) (by decide) ?_
        by_cases h1 : fn_X3_isAxis L.length (xs (i + 1)) = 0
        · refine lv_aload_n hx hb dL_law_95 rfl (lv_at hl 1 rfl) ?_
          refine lv_aload_n hx hb dL_law_96 rfl (lv_at hl 0 rfl) ?_
          refine lv_iload_n hx hb dL_law_97 rfl (lv_at hl 3 rfl) ?_
          refine lv_iconst (v := (1 : Int32)) hx hb dL_law_98 (by decide) ?_
          refine lv_iadd hx hb dL_law_99 ?_
          refine zn_top (n := i + 1) (nI_add i 1) ?_
          refine zs_ld hx hb hX hbl hbA hS (i := i + 1) (by omega) (by omega) dL_law_100 ?_
          refine lv_aload_n hx hb dL_law_101 rfl (lv_at hl 0 rfl) ?_
          refine lv_iload_n hx hb dL_law_102 rfl (lv_at hl 3 rfl) ?_
          refine lv_iconst (v := (2 : Int32)) hx hb dL_law_103 (by decide) ?_
          refine lv_iadd hx hb dL_law_104 ?_
          refine zn_top (n := i + 2) (nI_add i 2) ?_
          refine zs_ld hx hb hX hbl hbA hS (i := i + 2) (by omega) (by omega) dL_law_105 ?_
          refine lv_aload_n hx hb dL_law_106 rfl (lv_at hl 0 rfl) ?_
          refine lv_iload_n hx hb dL_law_107 rfl (lv_at hl 3 rfl) ?_
          refine lv_iconst (v := (3 : Int32)) hx hb dL_law_108 (by decide) ?_
          refine lv_iadd hx hb dL_law_109 ?_
          refine zn_top (n := i + 3) (nI_add i 3) ?_
          refine zs_ld hx hb hX hbl hbA hS (i := i + 3) (by omega) (by omega) dL_law_110 ?_
          refine lv_i2l hx hb dL_law_111 rfl ?_
          refine lv_bipush (v := (32 : Int32)) hx hb dL_law_112 (by decide) ?_
          refine lv_lshl hx hb dL_law_114 rfl ?_
          refine lv_aload_n hx hb dL_law_115 rfl (lv_at hl 0 rfl) ?_
          refine lv_iload_n hx hb dL_law_116 rfl (lv_at hl 3 rfl) ?_
          refine lv_iconst (v := (4 : Int32)) hx hb dL_law_117 (by decide) ?_
          refine lv_iadd hx hb dL_law_118 ?_
          refine zn_top (n := i + 4) (nI_add i 4) ?_
          refine zs_ld hx hb hX hbl hbA hS (i := i + 4) (by omega) (by omega) dL_law_119 ?_
          refine lv_i2l hx hb dL_law_120 rfl ?_
          refine lv_ldc2 (v := (4294967295 : Int64)) hx hb hown (hts (.constantLong RL 18 (4294967295)) (by decide +kernel)) dL_law_121 ?_
          refine lv_land hx hb dL_law_124 ?_
          refine lv_lor hx hb dL_law_125 ?_
          have hPd := wr_P hP
          have hDd := wr_D hD
          have hFd := w_free hDd hS hA
          refine va_calli (va_runV (As := [.int (xs (i + 1)), .int (xs (i + 2)), .long (((Int32.toInt64 (xs (i + 3))) <<< (Int32.toInt64 (32 : Int32) &&& 63)) ||| ((Int32.toInt64 (xs (i + 4))) &&& (4294967295 : Int64)))]) (rest := []) ⟨hx, hb, hml, hown, hts⟩ (ct_X2_set_no l dC dI ad d0 ar cA H.size L K u hL8 hR.2.1 (xs (i + 1)) (xs (i + 2)) (((Int32.toInt64 (xs (i + 3))) <<< (Int32.toInt64 (32 : Int32) &&& 63)) ||| ((Int32.toInt64 (xs (i + 4))) &&& (4294967295 : Int64))) h1) (cwV 3 hts gL_law_X2_set rfl rfl rfl (by decide +kernel) ⟨Nat.le_of_ble_eq_true rfl, Nat.le_of_ble_eq_true rfl⟩) ⟨dw_blind, va_recv hKd hPd (ci := 2) (q0 := 0) rfl rfl, fun U hU hW9 => dw_call hKd hPd hDd hW hN hS hA hU hW9⟩ rfl rfl hl.1 rfl (lv_room (Nat.le_of_ble_eq_true rfl)) dL_law_126 ⟨by show 5 + L.length + 0 ≤ 600000; omega, by show 61 + 6 * L.length + 0 ≤ 7302250; omega⟩) hS (fun q _ h => hFd q h) hFd (fun r1 _ t H1 locs ht hvm er1 hB hz1 hk1 hS => ?_)
          obtain ⟨hP1, hD1⟩ := hB
          rw [ht] at hP1
          obtain ⟨hP, hD⟩ := w_jr hP hD hk1 hFd hP1 hD1
          generalize H1 = H at hP hS ⊢
          refine lv_aload_n hx hb dL_law_129 rfl (lv_at hl 2 rfl) ?_
          refine lv_aload_n hx hb dL_law_130 rfl (lv_at hl 0 rfl) ?_
          refine lv_iload_n hx hb dL_law_131 rfl (lv_at hl 3 rfl) ?_
          refine lv_iconst (v := (1 : Int32)) hx hb dL_law_132 (by decide) ?_
          refine lv_iadd hx hb dL_law_133 ?_
          refine zn_top (n := i + 1) (nI_add i 1) ?_
          refine zs_ld hx hb hX hbl hbA hS (i := i + 1) (by omega) (by omega) dL_law_134 ?_
          refine lv_aload_n hx hb dL_law_135 rfl (lv_at hl 0 rfl) ?_
          refine lv_iload_n hx hb dL_law_136 rfl (lv_at hl 3 rfl) ?_
          refine lv_iconst (v := (2 : Int32)) hx hb dL_law_137 (by decide) ?_
          refine lv_iadd hx hb dL_law_138 ?_
          refine zn_top (n := i + 2) (nI_add i 2) ?_
          refine zs_ld hx hb hX hbl hbA hS (i := i + 2) (by omega) (by omega) dL_law_139 ?_
          refine lv_aload_n hx hb dL_law_140 rfl (lv_at hl 0 rfl) ?_
          refine lv_iload_n hx hb dL_law_141 rfl (lv_at hl 3 rfl) ?_
          refine lv_iconst (v := (3 : Int32)) hx hb dL_law_142 (by decide) ?_
          refine lv_iadd hx hb dL_law_143 ?_
          refine zn_top (n := i + 3) (nI_add i 3) ?_
          refine zs_ld hx hb hX hbl hbA hS (i := i + 3) (by omega) (by omega) dL_law_144 ?_
          refine lv_i2l hx hb dL_law_145 rfl ?_
          refine lv_bipush (v := (32 : Int32)) hx hb dL_law_146 (by decide) ?_
          refine lv_lshl hx hb dL_law_148 rfl ?_
          refine lv_aload_n hx hb dL_law_149 rfl (lv_at hl 0 rfl) ?_
          refine lv_iload_n hx hb dL_law_150 rfl (lv_at hl 3 rfl) ?_
          refine lv_iconst (v := (4 : Int32)) hx hb dL_law_151 (by decide) ?_
          refine lv_iadd hx hb dL_law_152 ?_
          refine zn_top (n := i + 4) (nI_add i 4) ?_
          refine zs_ld hx hb hX hbl hbA hS (i := i + 4) (by omega) (by omega) dL_law_153 ?_
          refine lv_i2l hx hb dL_law_154 rfl ?_
          refine lv_ldc2 (v := (4294967295 : Int64)) hx hb hown (hts (.constantLong RL 18 (4294967295)) (by decide +kernel)) dL_law_155 ?_
          refine lv_land hx hb dL_law_158 ?_
          refine lv_lor hx hb dL_law_159 ?_
          have hPm := wl_P hP
          have hDm := wl_D hD
          have hFm := w_free hDm hS hA
          refine va_calli (va_runV (As := [.int (xs (i + 1)), .int (xs (i + 2)), .long (((Int32.toInt64 (xs (i + 3))) <<< (Int32.toInt64 (32 : Int32) &&& 63)) ||| ((Int32.toInt64 (xs (i + 4))) &&& (4294967295 : Int64)))]) (rest := [.int r1]) ⟨hx, hb, hml, hown, hts⟩ (ct_X3_set_no l dC dI m0 ka na cI cJ H.size L.length kf nf (xs (i + 1)) (xs (i + 2)) (((Int32.toInt64 (xs (i + 3))) <<< (Int32.toInt64 (32 : Int32) &&& 63)) ||| ((Int32.toInt64 (xs (i + 4))) &&& (4294967295 : Int64))) h1) (cwV 3 hts gL_law_X3_set rfl rfl rfl (by decide +kernel) ⟨Nat.le_of_ble_eq_true rfl, Nat.le_of_ble_eq_true rfl⟩) ⟨mw_blind, va_recv hKm hPm (ci := 3) (q0 := 0) rfl rfl, fun U hU hW9 => mw_call hKm hPm hDm hU hW9⟩ rfl rfl hl.1 rfl (lv_room (Nat.le_of_ble_eq_true rfl)) dL_law_160 ⟨by show 5 + L.length + 0 ≤ 600000; omega, by show 61 + 6 * L.length + 0 ≤ 7302250; omega⟩) hS (fun q _ h => hFm q h) hFm (fun r2 _ t H1 locs ht hvm er2 hB hz1 hk1 hS => ?_)
          obtain ⟨hP1, hD1⟩ := hB
          rw [ht] at hP1
          obtain ⟨hP, hD⟩ := w_jl hP hD hk1 hFm hP1 hD1
          generalize H1 = H at hP hS ⊢
          have he : r1 = r2 := er1.trans er2.symm
          have hP : va_P (dC, dI) vwCl (mdW m0 ka na cI cJ L.length kf nf ++ dkW ad d0 ar cA L K u) H := hP
          have hD : va_D A (mdW m0 ka na cI cJ L.length kf nf ++ dkW ad d0 ar cA L K u) := hD
          refine lv_icmp_eq (tgt := 301) hx hb dL_law_163 (by decide) (fun _ => ?_) (fun c9 => absurd he c9)
          exact nx L K u kf nf H locs ls hR hP hD hS hl
        obtain ⟨ia, a, hia, hx1, ha, ham⟩ := ax_ex hL8 h1
        obtain ⟨t1, t2, t3⟩ := hR.2.2 ia a ha
        have hka := hR.2.1 a ham
        by_cases h2 : xs (i + 2) < 0
        · refine lv_aload_n hx hb dL_law_95 rfl (lv_at hl 1 rfl) ?_
          refine lv_aload_n hx hb dL_law_96 rfl (lv_at hl 0 rfl) ?_
          refine lv_iload_n hx hb dL_law_97 rfl (lv_at hl 3 rfl) ?_
          refine lv_iconst (v := (1 : Int32)) hx hb dL_law_98 (by decide) ?_
          refine lv_iadd hx hb dL_law_99 ?_
          refine zn_top (n := i + 1) (nI_add i 1) ?_
          refine zs_ld hx hb hX hbl hbA hS (i := i + 1) (by omega) (by omega) dL_law_100 ?_
          refine zn_top (n := ia) hx1 ?_
          refine lv_aload_n hx hb dL_law_101 rfl (lv_at hl 0 rfl) ?_
          refine lv_iload_n hx hb dL_law_102 rfl (lv_at hl 3 rfl) ?_
          refine lv_iconst (v := (2 : Int32)) hx hb dL_law_103 (by decide) ?_
          refine lv_iadd hx hb dL_law_104 ?_
          refine zn_top (n := i + 2) (nI_add i 2) ?_
          refine zs_ld hx hb hX hbl hbA hS (i := i + 2) (by omega) (by omega) dL_law_105 ?_
          refine lv_aload_n hx hb dL_law_106 rfl (lv_at hl 0 rfl) ?_
          refine lv_iload_n hx hb dL_law_107 rfl (lv_at hl 3 rfl) ?_
          refine lv_iconst (v := (3 : Int32)) hx hb dL_law_108 (by decide) ?_
          refine lv_iadd hx hb dL_law_109 ?_
          refine zn_top (n := i + 3) (nI_add i 3) ?_
          refine zs_ld hx hb hX hbl hbA hS (i := i + 3) (by omega) (by omega) dL_law_110 ?_
          refine lv_i2l hx hb dL_law_111 rfl ?_
          refine lv_bipush (v := (32 : Int32)) hx hb dL_law_112 (by decide) ?_
          refine lv_lshl hx hb dL_law_114 rfl ?_
          refine lv_aload_n hx hb dL_law_115 rfl (lv_at hl 0 rfl) ?_
          refine lv_iload_n hx hb dL_law_116 rfl (lv_at hl 3 rfl) ?_
          refine lv_iconst (v := (4 : Int32)) hx hb dL_law_117 (by decide) ?_
          refine lv_iadd hx hb dL_law_118 ?_
          refine zn_top (n := i + 4) (nI_add i 4) ?_
          refine zs_ld hx hb hX hbl hbA hS (i := i + 4) (by omega) (by omega) dL_law_119 ?_
          refine lv_i2l hx hb dL_law_120 rfl ?_
          refine lv_ldc2 (v := (4294967295 : Int64)) hx hb hown (hts (.constantLong RL 18 (4294967295)) (by decide +kernel)) dL_law_121 ?_
          refine lv_land hx hb dL_law_124 ?_
          refine lv_lor hx hb dL_law_125 ?_
          have hPd := wr_P hP
          have hDd := wr_D hD
          have hFd := w_free hDd hS hA
          refine va_calli (va_runV (As := [.int (nI ia), .int (xs (i + 2)), .long (((Int32.toInt64 (xs (i + 3))) <<< (Int32.toInt64 (32 : Int32) &&& 63)) ||| ((Int32.toInt64 (xs (i + 4))) &&& (4294967295 : Int64)))]) (rest := []) ⟨hx, hb, hml, hown, hts⟩ (ct_X2_set_at l dC dI ad d0 ar cA H.size L K u hL8 hR.2.1 ia a ham ha (xs (i + 2)) (((Int32.toInt64 (xs (i + 3))) <<< (Int32.toInt64 (32 : Int32) &&& 63)) ||| ((Int32.toInt64 (xs (i + 4))) &&& (4294967295 : Int64)))) (cwV 3 hts gL_law_X2_set rfl rfl rfl (by decide +kernel) ⟨Nat.le_of_ble_eq_true rfl, Nat.le_of_ble_eq_true rfl⟩) ⟨dw_blind, va_recv hKd hPd (ci := 2) (q0 := 0) rfl rfl, fun U hU hW9 => dw_call hKd hPd hDd hW hN hS hA hU hW9⟩ rfl rfl hl.1 rfl (lv_room (Nat.le_of_ble_eq_true rfl)) dL_law_126 ⟨by show 5 + L.length + 0 ≤ 600000; omega, by show 61 + 6 * L.length + 0 ≤ 7302250; omega⟩) hS (fun q _ h => hFd q h) hFd (fun r1 _ t H1 locs ht hvm er1 hB hz1 hk1 hS => ?_)
          obtain ⟨hP1, hD1⟩ := hB
          rw [ht] at hP1
          obtain ⟨hP, hD⟩ := w_jr hP hD hk1 hFd hP1 hD1
          generalize H1 = H at hP hS ⊢
          refine lv_aload_n hx hb dL_law_129 rfl (lv_at hl 2 rfl) ?_
          refine lv_aload_n hx hb dL_law_130 rfl (lv_at hl 0 rfl) ?_
          refine lv_iload_n hx hb dL_law_131 rfl (lv_at hl 3 rfl) ?_
          refine lv_iconst (v := (1 : Int32)) hx hb dL_law_132 (by decide) ?_
          refine lv_iadd hx hb dL_law_133 ?_
          refine zn_top (n := i + 1) (nI_add i 1) ?_
          refine zs_ld hx hb hX hbl hbA hS (i := i + 1) (by omega) (by omega) dL_law_134 ?_
          refine zn_top (n := ia) hx1 ?_
          refine lv_aload_n hx hb dL_law_135 rfl (lv_at hl 0 rfl) ?_
          refine lv_iload_n hx hb dL_law_136 rfl (lv_at hl 3 rfl) ?_
          refine lv_iconst (v := (2 : Int32)) hx hb dL_law_137 (by decide) ?_
          refine lv_iadd hx hb dL_law_138 ?_
          refine zn_top (n := i + 2) (nI_add i 2) ?_
          refine zs_ld hx hb hX hbl hbA hS (i := i + 2) (by omega) (by omega) dL_law_139 ?_
          refine lv_aload_n hx hb dL_law_140 rfl (lv_at hl 0 rfl) ?_
          refine lv_iload_n hx hb dL_law_141 rfl (lv_at hl 3 rfl) ?_
          refine lv_iconst (v := (3 : Int32)) hx hb dL_law_142 (by decide) ?_
          refine lv_iadd hx hb dL_law_143 ?_
          refine zn_top (n := i + 3) (nI_add i 3) ?_
          refine zs_ld hx hb hX hbl hbA hS (i := i + 3) (by omega) (by omega) dL_law_144 ?_
          refine lv_i2l hx hb dL_law_145 rfl ?_
          refine lv_bipush (v := (32 : Int32)) hx hb dL_law_146 (by decide) ?_
          refine lv_lshl hx hb dL_law_148 rfl ?_
          refine lv_aload_n hx hb dL_law_149 rfl (lv_at hl 0 rfl) ?_
          refine lv_iload_n hx hb dL_law_150 rfl (lv_at hl 3 rfl) ?_
          refine lv_iconst (v := (4 : Int32)) hx hb dL_law_151 (by decide) ?_
          refine lv_iadd hx hb dL_law_152 ?_
          refine zn_top (n := i + 4) (nI_add i 4) ?_
          refine zs_ld hx hb hX hbl hbA hS (i := i + 4) (by omega) (by omega) dL_law_153 ?_
          refine lv_i2l hx hb dL_law_154 rfl ?_
          refine lv_ldc2 (v := (4294967295 : Int64)) hx hb hown (hts (.constantLong RL 18 (4294967295)) (by decide +kernel)) dL_law_155 ?_
          refine lv_land hx hb dL_law_158 ?_
          refine lv_lor hx hb dL_law_159 ?_
          have hPm := wl_P hP
          have hDm := wl_D hD
          have hFm := w_free hDm hS hA
          refine va_calli (va_runV (As := [.int (nI ia), .int (xs (i + 2)), .long (((Int32.toInt64 (xs (i + 3))) <<< (Int32.toInt64 (32 : Int32) &&& 63)) ||| ((Int32.toInt64 (xs (i + 4))) &&& (4294967295 : Int64)))]) (rest := [.int r1]) ⟨hx, hb, hml, hown, hts⟩ (ct_X3_set_lo l dC dI m0 ka na cI cJ H.size L.length kf nf ia (xs (i + 2)) (((Int32.toInt64 (xs (i + 3))) <<< (Int32.toInt64 (32 : Int32) &&& 63)) ||| ((Int32.toInt64 (xs (i + 4))) &&& (4294967295 : Int64))) hL8 hia h2) (cwV 3 hts gL_law_X3_set rfl rfl rfl (by decide +kernel) ⟨Nat.le_of_ble_eq_true rfl, Nat.le_of_ble_eq_true rfl⟩) ⟨mw_blind, va_recv hKm hPm (ci := 3) (q0 := 0) rfl rfl, fun U hU hW9 => mw_call hKm hPm hDm hU hW9⟩ rfl rfl hl.1 rfl (lv_room (Nat.le_of_ble_eq_true rfl)) dL_law_160 ⟨by show 5 + L.length + 0 ≤ 600000; omega, by show 61 + 6 * L.length + 0 ≤ 7302250; omega⟩) hS (fun q _ h => hFm q h) hFm (fun r2 _ t H1 locs ht hvm er2 hB hz1 hk1 hS => ?_)
          obtain ⟨hP1, hD1⟩ := hB
          rw [ht] at hP1
          obtain ⟨hP, hD⟩ := w_jl hP hD hk1 hFm hP1 hD1
          generalize H1 = H at hP hS ⊢
          have epb := put_bad (k := K a) (v := xs (i + 2)) (Or.inl h2) (((Int32.toInt64 (xs (i + 3))) <<< (Int32.toInt64 (32 : Int32) &&& 63)) ||| ((Int32.toInt64 (xs (i + 4))) &&& (4294967295 : Int64))) (u a)
          have epb : fn_X0_put (K a) (xs (i + 2)) (((Int32.toInt64 (xs (i + 3))) <<< (Int32.toInt64 (32 : Int32) &&& 63)) ||| ((Int32.toInt64 (xs (i + 4))) &&& (4294967295 : Int64))) (u a).1 (u a).2.1 (u a).2.2.1 (u a).2.2.2.1 (u a).2.2.2.2 = (0, u a) := epb
          rw [epb] at er1 hP hD
          have he : r1 = r2 := by rw [er1, er2]; rfl
          rw [va_up_id] at hP hD
          have hP : va_P (dC, dI) vwCl (mdW m0 ka na cI cJ L.length kf nf ++ dkW ad d0 ar cA L K u) H := hP
          have hD : va_D A (mdW m0 ka na cI cJ L.length kf nf ++ dkW ad d0 ar cA L K u) := hD
          refine lv_icmp_eq (tgt := 301) hx hb dL_law_163 (by decide) (fun _ => ?_) (fun c9 => absurd he c9)
          exact nx L K u kf nf H locs ls hR hP hD hS hl
        by_cases h3 : 4 < xs (i + 2)
        · refine lv_aload_n hx hb dL_law_95 rfl (lv_at hl 1 rfl) ?_
          refine lv_aload_n hx hb dL_law_96 rfl (lv_at hl 0 rfl) ?_
          refine lv_iload_n hx hb dL_law_97 rfl (lv_at hl 3 rfl) ?_
          refine lv_iconst (v := (1 : Int32)) hx hb dL_law_98 (by decide) ?_
          refine lv_iadd hx hb dL_law_99 ?_
          refine zn_top (n := i + 1) (nI_add i 1) ?_
          refine zs_ld hx hb hX hbl hbA hS (i := i + 1) (by omega) (by omega) dL_law_100 ?_
          refine zn_top (n := ia) hx1 ?_
          refine lv_aload_n hx hb dL_law_101 rfl (lv_at hl 0 rfl) ?_
          refine lv_iload_n hx hb dL_law_102 rfl (lv_at hl 3 rfl) ?_
          refine lv_iconst (v := (2 : Int32)) hx hb dL_law_103 (by decide) ?_
          refine lv_iadd hx hb dL_law_104 ?_
          refine zn_top (n := i + 2) (nI_add i 2) ?_
          refine zs_ld hx hb hX hbl hbA hS (i := i + 2) (by omega) (by omega) dL_law_105 ?_
          refine lv_aload_n hx hb dL_law_106 rfl (lv_at hl 0 rfl) ?_
          refine lv_iload_n hx hb dL_law_107 rfl (lv_at hl 3 rfl) ?_
          refine lv_iconst (v := (3 : Int32)) hx hb dL_law_108 (by decide) ?_
          refine lv_iadd hx hb dL_law_109 ?_
          refine zn_top (n := i + 3) (nI_add i 3) ?_
          refine zs_ld hx hb hX hbl hbA hS (i := i + 3) (by omega) (by omega) dL_law_110 ?_
          refine lv_i2l hx hb dL_law_111 rfl ?_
          refine lv_bipush (v := (32 : Int32)) hx hb dL_law_112 (by decide) ?_
          refine lv_lshl hx hb dL_law_114 rfl ?_
          refine lv_aload_n hx hb dL_law_115 rfl (lv_at hl 0 rfl) ?_
          refine lv_iload_n hx hb dL_law_116 rfl (lv_at hl 3 rfl) ?_
          refine lv_iconst (v := (4 : Int32)) hx hb dL_law_117 (by decide) ?_
          refine lv_iadd hx hb dL_law_118 ?_
          refine zn_top (n := i + 4) (nI_add i 4) ?_
          refine zs_ld hx hb hX hbl hbA hS (i := i + 4) (by omega) (by omega) dL_law_119 ?_
          refine lv_i2l hx hb dL_law_120 rfl ?_
          refine lv_ldc2 (v := (4294967295 : Int64)) hx hb hown (hts (.constantLong RL 18 (4294967295)) (by decide +kernel)) dL_law_121 ?_
          refine lv_land hx hb dL_law_124 ?_
          refine lv_lor hx hb dL_law_125 ?_
          have hPd := wr_P hP
          have hDd := wr_D hD
          have hFd := w_free hDd hS hA
          refine va_calli (va_runV (As := [.int (nI ia), .int (xs (i + 2)), .long (((Int32.toInt64 (xs (i + 3))) <<< (Int32.toInt64 (32 : Int32) &&& 63)) ||| ((Int32.toInt64 (xs (i + 4))) &&& (4294967295 : Int64)))]) (rest := []) ⟨hx, hb, hml, hown, hts⟩ (ct_X2_set_at l dC dI ad d0 ar cA H.size L K u hL8 hR.2.1 ia a ham ha (xs (i + 2)) (((Int32.toInt64 (xs (i + 3))) <<< (Int32.toInt64 (32 : Int32) &&& 63)) ||| ((Int32.toInt64 (xs (i + 4))) &&& (4294967295 : Int64)))) (cwV 3 hts gL_law_X2_set rfl rfl rfl (by decide +kernel) ⟨Nat.le_of_ble_eq_true rfl, Nat.le_of_ble_eq_true rfl⟩) ⟨dw_blind, va_recv hKd hPd (ci := 2) (q0 := 0) rfl rfl, fun U hU hW9 => dw_call hKd hPd hDd hW hN hS hA hU hW9⟩ rfl rfl hl.1 rfl (lv_room (Nat.le_of_ble_eq_true rfl)) dL_law_126 ⟨by show 5 + L.length + 0 ≤ 600000; omega, by show 61 + 6 * L.length + 0 ≤ 7302250; omega⟩) hS (fun q _ h => hFd q h) hFd (fun r1 _ t H1 locs ht hvm er1 hB hz1 hk1 hS => ?_)
          obtain ⟨hP1, hD1⟩ := hB
          rw [ht] at hP1
          obtain ⟨hP, hD⟩ := w_jr hP hD hk1 hFd hP1 hD1
          generalize H1 = H at hP hS ⊢
          refine lv_aload_n hx hb dL_law_129 rfl (lv_at hl 2 rfl) ?_
          refine lv_aload_n hx hb dL_law_130 rfl (lv_at hl 0 rfl) ?_
          refine lv_iload_n hx hb dL_law_131 rfl (lv_at hl 3 rfl) ?_
          refine lv_iconst (v := (1 : Int32)) hx hb dL_law_132 (by decide) ?_
          refine lv_iadd hx hb dL_law_133 ?_
          refine zn_top (n := i + 1) (nI_add i 1) ?_
          refine zs_ld hx hb hX hbl hbA hS (i := i + 1) (by omega) (by omega) dL_law_134 ?_
          refine zn_top (n := ia) hx1 ?_
          refine lv_aload_n hx hb dL_law_135 rfl (lv_at hl 0 rfl) ?_
          refine lv_iload_n hx hb dL_law_136 rfl (lv_at hl 3 rfl) ?_
          refine lv_iconst (v := (2 : Int32)) hx hb dL_law_137 (by decide) ?_
          refine lv_iadd hx hb dL_law_138 ?_
          refine zn_top (n := i + 2) (nI_add i 2) ?_
          refine zs_ld hx hb hX hbl hbA hS (i := i + 2) (by omega) (by omega) dL_law_139 ?_
          refine lv_aload_n hx hb dL_law_140 rfl (lv_at hl 0 rfl) ?_
          refine lv_iload_n hx hb dL_law_141 rfl (lv_at hl 3 rfl) ?_
          refine lv_iconst (v := (3 : Int32)) hx hb dL_law_142 (by decide) ?_
          refine lv_iadd hx hb dL_law_143 ?_
          refine zn_top (n := i + 3) (nI_add i 3) ?_
          refine zs_ld hx hb hX hbl hbA hS (i := i + 3) (by omega) (by omega) dL_law_144 ?_
          refine lv_i2l hx hb dL_law_145 rfl ?_
          refine lv_bipush (v := (32 : Int32)) hx hb dL_law_146 (by decide) ?_
          refine lv_lshl hx hb dL_law_148 rfl ?_
          refine lv_aload_n hx hb dL_law_149 rfl (lv_at hl 0 rfl) ?_
          refine lv_iload_n hx hb dL_law_150 rfl (lv_at hl 3 rfl) ?_
          refine lv_iconst (v := (4 : Int32)) hx hb dL_law_151 (by decide) ?_
          refine lv_iadd hx hb dL_law_152 ?_
          refine zn_top (n := i + 4) (nI_add i 4) ?_
          refine zs_ld hx hb hX hbl hbA hS (i := i + 4) (by omega) (by omega) dL_law_153 ?_
          refine lv_i2l hx hb dL_law_154 rfl ?_
          refine lv_ldc2 (v := (4294967295 : Int64)) hx hb hown (hts (.constantLong RL 18 (4294967295)) (by decide +kernel)) dL_law_155 ?_
          refine lv_land hx hb dL_law_158 ?_
          refine lv_lor hx hb dL_law_159 ?_
          have hPm := wl_P hP
          have hDm := wl_D hD
          have hFm := w_free hDm hS hA
          refine va_calli (va_runV (As := [.int (nI ia), .int (xs (i + 2)), .long (((Int32.toInt64 (xs (i + 3))) <<< (Int32.toInt64 (32 : Int32) &&& 63)) ||| ((Int32.toInt64 (xs (i + 4))) &&& (4294967295 : Int64)))]) (rest := [.int r1]) ⟨hx, hb, hml, hown, hts⟩ (ct_X3_set_hi l dC dI m0 ka na cI cJ H.size L.length kf nf ia (xs (i + 2)) (((Int32.toInt64 (xs (i + 3))) <<< (Int32.toInt64 (32 : Int32) &&& 63)) ||| ((Int32.toInt64 (xs (i + 4))) &&& (4294967295 : Int64))) hL8 hia h2 h3 (nle4 h3)) (cwV 3 hts gL_law_X3_set rfl rfl rfl (by decide +kernel) ⟨Nat.le_of_ble_eq_true rfl, Nat.le_of_ble_eq_true rfl⟩) ⟨mw_blind, va_recv hKm hPm (ci := 3) (q0 := 0) rfl rfl, fun U hU hW9 => mw_call hKm hPm hDm hU hW9⟩ rfl rfl hl.1 rfl (lv_room (Nat.le_of_ble_eq_true rfl)) dL_law_160 ⟨by show 5 + L.length + 0 ≤ 600000; omega, by show 61 + 6 * L.length + 0 ≤ 7302250; omega⟩) hS (fun q _ h => hFm q h) hFm (fun r2 _ t H1 locs ht hvm er2 hB hz1 hk1 hS => ?_)
          obtain ⟨hP1, hD1⟩ := hB
          rw [ht] at hP1
          obtain ⟨hP, hD⟩ := w_jl hP hD hk1 hFm hP1 hD1
          generalize H1 = H at hP hS ⊢
          have epb := put_bad (k := K a) (v := xs (i + 2)) (Or.inr h3) (((Int32.toInt64 (xs (i + 3))) <<< (Int32.toInt64 (32 : Int32) &&& 63)) ||| ((Int32.toInt64 (xs (i + 4))) &&& (4294967295 : Int64))) (u a)
          have epb : fn_X0_put (K a) (xs (i + 2)) (((Int32.toInt64 (xs (i + 3))) <<< (Int32.toInt64 (32 : Int32) &&& 63)) ||| ((Int32.toInt64 (xs (i + 4))) &&& (4294967295 : Int64))) (u a).1 (u a).2.1 (u a).2.2.1 (u a).2.2.2.1 (u a).2.2.2.2 = (0, u a) := epb
          rw [epb] at er1 hP hD
          have he : r1 = r2 := by rw [er1, er2]; rfl
          rw [va_up_id] at hP hD
          have hP : va_P (dC, dI) vwCl (mdW m0 ka na cI cJ L.length kf nf ++ dkW ad d0 ar cA L K u) H := hP
          have hD : va_D A (mdW m0 ka na cI cJ L.length kf nf ++ dkW ad d0 ar cA L K u) := hD
          refine lv_icmp_eq (tgt := 301) hx hb dL_law_163 (by decide) (fun _ => ?_) (fun c9 => absurd he c9)
          exact nx L K u kf nf H locs ls hR hP hD hS hl
        obtain ⟨w, hw, hx2⟩ := w5 h2 h3
        rcases put_cases hka (((Int32.toInt64 (xs (i + 3))) <<< (Int32.toInt64 (32 : Int32) &&& 63)) ||| ((Int32.toInt64 (xs (i + 4))) &&& (4294967295 : Int64))) with ⟨pn, pm9⟩ | ⟨pn, pok, pm9⟩
        · refine lv_aload_n hx hb dL_law_95 rfl (lv_at hl 1 rfl) ?_
          refine lv_aload_n hx hb dL_law_96 rfl (lv_at hl 0 rfl) ?_
          refine lv_iload_n hx hb dL_law_97 rfl (lv_at hl 3 rfl) ?_
          refine lv_iconst (v := (1 : Int32)) hx hb dL_law_98 (by decide) ?_
          refine lv_iadd hx hb dL_law_99 ?_
          refine zn_top (n := i + 1) (nI_add i 1) ?_
          refine zs_ld hx hb hX hbl hbA hS (i := i + 1) (by omega) (by omega) dL_law_100 ?_
          refine zn_top (n := ia) hx1 ?_
          refine lv_aload_n hx hb dL_law_101 rfl (lv_at hl 0 rfl) ?_
          refine lv_iload_n hx hb dL_law_102 rfl (lv_at hl 3 rfl) ?_
          refine lv_iconst (v := (2 : Int32)) hx hb dL_law_103 (by decide) ?_
          refine lv_iadd hx hb dL_law_104 ?_
          refine zn_top (n := i + 2) (nI_add i 2) ?_
          refine zs_ld hx hb hX hbl hbA hS (i := i + 2) (by omega) (by omega) dL_law_105 ?_
          refine zn_top (n := w) hx2 ?_
          refine lv_aload_n hx hb dL_law_106 rfl (lv_at hl 0 rfl) ?_
          refine lv_iload_n hx hb dL_law_107 rfl (lv_at hl 3 rfl) ?_
          refine lv_iconst (v := (3 : Int32)) hx hb dL_law_108 (by decide) ?_
          refine lv_iadd hx hb dL_law_109 ?_
          refine zn_top (n := i + 3) (nI_add i 3) ?_
          refine zs_ld hx hb hX hbl hbA hS (i := i + 3) (by omega) (by omega) dL_law_110 ?_
          refine lv_i2l hx hb dL_law_111 rfl ?_
          refine lv_bipush (v := (32 : Int32)) hx hb dL_law_112 (by decide) ?_
          refine lv_lshl hx hb dL_law_114 rfl ?_
          refine lv_aload_n hx hb dL_law_115 rfl (lv_at hl 0 rfl) ?_
          refine lv_iload_n hx hb dL_law_116 rfl (lv_at hl 3 rfl) ?_
          refine lv_iconst (v := (4 : Int32)) hx hb dL_law_117 (by decide) ?_
          refine lv_iadd hx hb dL_law_118 ?_
          refine zn_top (n := i + 4) (nI_add i 4) ?_
          refine zs_ld hx hb hX hbl hbA hS (i := i + 4) (by omega) (by omega) dL_law_119 ?_
          refine lv_i2l hx hb dL_law_120 rfl ?_
          refine lv_ldc2 (v := (4294967295 : Int64)) hx hb hown (hts (.constantLong RL 18 (4294967295)) (by decide +kernel)) dL_law_121 ?_
          refine lv_land hx hb dL_law_124 ?_
          refine lv_lor hx hb dL_law_125 ?_
          have hPd := wr_P hP
          have hDd := wr_D hD
          have hFd := w_free hDd hS hA
          refine va_calli (va_runV (As := [.int (nI ia), .int (nI w), .long (((Int32.toInt64 (xs (i + 3))) <<< (Int32.toInt64 (32 : Int32) &&& 63)) ||| ((Int32.toInt64 (xs (i + 4))) &&& (4294967295 : Int64)))]) (rest := []) ⟨hx, hb, hml, hown, hts⟩ (ct_X2_set_at l dC dI ad d0 ar cA H.size L K u hL8 hR.2.1 ia a ham ha (nI w) (((Int32.toInt64 (xs (i + 3))) <<< (Int32.toInt64 (32 : Int32) &&& 63)) ||| ((Int32.toInt64 (xs (i + 4))) &&& (4294967295 : Int64)))) (cwV 3 hts gL_law_X2_set rfl rfl rfl (by decide +kernel) ⟨Nat.le_of_ble_eq_true rfl, Nat.le_of_ble_eq_true rfl⟩) ⟨dw_blind, va_recv hKd hPd (ci := 2) (q0 := 0) rfl rfl, fun U hU hW9 => dw_call hKd hPd hDd hW hN hS hA hU hW9⟩ rfl rfl hl.1 rfl (lv_room (Nat.le_of_ble_eq_true rfl)) dL_law_126 ⟨by show 5 + L.length + 0 ≤ 600000; omega, by show 61 + 6 * L.length + 0 ≤ 7302250; omega⟩) hS (fun q _ h => hFd q h) hFd (fun r1 _ t H1 locs ht hvm er1 hB hz1 hk1 hS => ?_)
          obtain ⟨hP1, hD1⟩ := hB
          rw [ht] at hP1
          obtain ⟨hP, hD⟩ := w_jr hP hD hk1 hFd hP1 hD1
          generalize H1 = H at hP hS ⊢
          refine lv_aload_n hx hb dL_law_129 rfl (lv_at hl 2 rfl) ?_
          refine lv_aload_n hx hb dL_law_130 rfl (lv_at hl 0 rfl) ?_
          refine lv_iload_n hx hb dL_law_131 rfl (lv_at hl 3 rfl) ?_
          refine lv_iconst (v := (1 : Int32)) hx hb dL_law_132 (by decide) ?_
          refine lv_iadd hx hb dL_law_133 ?_
          refine zn_top (n := i + 1) (nI_add i 1) ?_
          refine zs_ld hx hb hX hbl hbA hS (i := i + 1) (by omega) (by omega) dL_law_134 ?_
          refine zn_top (n := ia) hx1 ?_
          refine lv_aload_n hx hb dL_law_135 rfl (lv_at hl 0 rfl) ?_
          refine lv_iload_n hx hb dL_law_136 rfl (lv_at hl 3 rfl) ?_
          refine lv_iconst (v := (2 : Int32)) hx hb dL_law_137 (by decide) ?_
          refine lv_iadd hx hb dL_law_138 ?_
          refine zn_top (n := i + 2) (nI_add i 2) ?_
          refine zs_ld hx hb hX hbl hbA hS (i := i + 2) (by omega) (by omega) dL_law_139 ?_
          refine zn_top (n := w) hx2 ?_
          refine lv_aload_n hx hb dL_law_140 rfl (lv_at hl 0 rfl) ?_
          refine lv_iload_n hx hb dL_law_141 rfl (lv_at hl 3 rfl) ?_
          refine lv_iconst (v := (3 : Int32)) hx hb dL_law_142 (by decide) ?_
          refine lv_iadd hx hb dL_law_143 ?_
          refine zn_top (n := i + 3) (nI_add i 3) ?_
          refine zs_ld hx hb hX hbl hbA hS (i := i + 3) (by omega) (by omega) dL_law_144 ?_
          refine lv_i2l hx hb dL_law_145 rfl ?_
          refine lv_bipush (v := (32 : Int32)) hx hb dL_law_146 (by decide) ?_
          refine lv_lshl hx hb dL_law_148 rfl ?_
          refine lv_aload_n hx hb dL_law_149 rfl (lv_at hl 0 rfl) ?_
          refine lv_iload_n hx hb dL_law_150 rfl (lv_at hl 3 rfl) ?_
          refine lv_iconst (v := (4 : Int32)) hx hb dL_law_151 (by decide) ?_
          refine lv_iadd hx hb dL_law_152 ?_
          refine zn_top (n := i + 4) (nI_add i 4) ?_
          refine zs_ld hx hb hX hbl hbA hS (i := i + 4) (by omega) (by omega) dL_law_153 ?_
          refine lv_i2l hx hb dL_law_154 rfl ?_
          refine lv_ldc2 (v := (4294967295 : Int64)) hx hb hown (hts (.constantLong RL 18 (4294967295)) (by decide +kernel)) dL_law_155 ?_
          refine lv_land hx hb dL_law_158 ?_
          refine lv_lor hx hb dL_law_159 ?_
          have hPm := wl_P hP
          have hDm := wl_D hD
          have hFm := w_free hDm hS hA
          refine va_calli (va_runV (As := [.int (nI ia), .int (nI w), .long (((Int32.toInt64 (xs (i + 3))) <<< (Int32.toInt64 (32 : Int32) &&& 63)) ||| ((Int32.toInt64 (xs (i + 4))) &&& (4294967295 : Int64)))]) (rest := [.int r1]) ⟨hx, hb, hml, hown, hts⟩ (ct_X3_set_at l dC dI m0 ka na cI cJ H.size L.length kf nf ia w (((Int32.toInt64 (xs (i + 3))) <<< (Int32.toInt64 (32 : Int32) &&& 63)) ||| ((Int32.toInt64 (xs (i + 4))) &&& (4294967295 : Int64))) hL8 hia hw) (cwV 3 hts gL_law_X3_set rfl rfl rfl (by decide +kernel) ⟨Nat.le_of_ble_eq_true rfl, Nat.le_of_ble_eq_true rfl⟩) ⟨mw_blind, va_recv hKm hPm (ci := 3) (q0 := 0) rfl rfl, fun U hU hW9 => mw_call hKm hPm hDm hU hW9⟩ rfl rfl hl.1 rfl (lv_room (Nat.le_of_ble_eq_true rfl)) dL_law_160 ⟨by show 5 + L.length + 0 ≤ 600000; omega, by show 61 + 6 * L.length + 0 ≤ 7302250; omega⟩) hS (fun q _ h => hFm q h) hFm (fun r2 _ t H1 locs ht hvm er2 hB hz1 hk1 hS => ?_)
          obtain ⟨hP1, hD1⟩ := hB
          rw [ht] at hP1
          obtain ⟨hP, hD⟩ := w_jl hP hD hk1 hFm hP1 hD1
          generalize H1 = H at hP hS ⊢
          have epb : fn_X0_put (K a) (nI w) (((Int32.toInt64 (xs (i + 3))) <<< (Int32.toInt64 (32 : Int32) &&& 63)) ||| ((Int32.toInt64 (xs (i + 4))) &&& (4294967295 : Int64))) (u a).1 (u a).2.1 (u a).2.2.1 (u a).2.2.2.1 (u a).2.2.2.2 = (0, u a) := put_no pn (u a)
          rw [epb] at er1 hP hD
          have epm := pm9 L.length kf nf ia w t1
          rw [epm] at er2 hP hD
          have he : r1 = r2 := by rw [er1, er2]; rfl
          rw [va_up_id] at hP hD
          have hP : va_P (dC, dI) vwCl (mdW m0 ka na cI cJ L.length kf nf ++ dkW ad d0 ar cA L K u) H := hP
          have hD : va_D A (mdW m0 ka na cI cJ L.length kf nf ++ dkW ad d0 ar cA L K u) := hD
          refine lv_icmp_eq (tgt := 301) hx hb dL_law_163 (by decide) (fun _ => ?_) (fun c9 => absurd he c9)
          exact nx L K u kf nf H locs ls hR hP hD hS hl
        · refine lv_aload_n hx hb dL_law_95 rfl (lv_at hl 1 rfl) ?_
          refine lv_aload_n hx hb dL_law_96 rfl (lv_at hl 0 rfl) ?_
          refine lv_iload_n hx hb dL_law_97 rfl (lv_at hl 3 rfl) ?_
          refine lv_iconst (v := (1 : Int32)) hx hb dL_law_98 (by decide) ?_
          refine lv_iadd hx hb dL_law_99 ?_
          refine zn_top (n := i + 1) (nI_add i 1) ?_
          refine zs_ld hx hb hX hbl hbA hS (i := i + 1) (by omega) (by omega) dL_law_100 ?_
          refine zn_top (n := ia) hx1 ?_
          refine lv_aload_n hx hb dL_law_101 rfl (lv_at hl 0 rfl) ?_
          refine lv_iload_n hx hb dL_law_102 rfl (lv_at hl 3 rfl) ?_
          refine lv_iconst (v := (2 : Int32)) hx hb dL_law_103 (by decide) ?_
          refine lv_iadd hx hb dL_law_104 ?_
          refine zn_top (n := i + 2) (nI_add i 2) ?_
          refine zs_ld hx hb hX hbl hbA hS (i := i + 2) (by omega) (by omega) dL_law_105 ?_
          refine zn_top (n := w) hx2 ?_
          refine lv_aload_n hx hb dL_law_106 rfl (lv_at hl 0 rfl) ?_
          refine lv_iload_n hx hb dL_law_107 rfl (lv_at hl 3 rfl) ?_
          refine lv_iconst (v := (3 : Int32)) hx hb dL_law_108 (by decide) ?_
          refine lv_iadd hx hb dL_law_109 ?_
          refine zn_top (n := i + 3) (nI_add i 3) ?_
          refine zs_ld hx hb hX hbl hbA hS (i := i + 3) (by omega) (by omega) dL_law_110 ?_
          refine lv_i2l hx hb dL_law_111 rfl ?_
          refine lv_bipush (v := (32 : Int32)) hx hb dL_law_112 (by decide) ?_
          refine lv_lshl hx hb dL_law_114 rfl ?_
          refine lv_aload_n hx hb dL_law_115 rfl (lv_at hl 0 rfl) ?_
          refine lv_iload_n hx hb dL_law_116 rfl (lv_at hl 3 rfl) ?_
          refine lv_iconst (v := (4 : Int32)) hx hb dL_law_117 (by decide) ?_
          refine lv_iadd hx hb dL_law_118 ?_
          refine zn_top (n := i + 4) (nI_add i 4) ?_
          refine zs_ld hx hb hX hbl hbA hS (i := i + 4) (by omega) (by omega) dL_law_119 ?_
          refine lv_i2l hx hb dL_law_120 rfl ?_
          refine lv_ldc2 (v := (4294967295 : Int64)) hx hb hown (hts (.constantLong RL 18 (4294967295)) (by decide +kernel)) dL_law_121 ?_
          refine lv_land hx hb dL_law_124 ?_
          refine lv_lor hx hb dL_law_125 ?_
          have hPd := wr_P hP
          have hDd := wr_D hD
          have hFd := w_free hDd hS hA
          refine va_calli (va_runV (As := [.int (nI ia), .int (nI w), .long (((Int32.toInt64 (xs (i + 3))) <<< (Int32.toInt64 (32 : Int32) &&& 63)) ||| ((Int32.toInt64 (xs (i + 4))) &&& (4294967295 : Int64)))]) (rest := []) ⟨hx, hb, hml, hown, hts⟩ (ct_X2_set_at l dC dI ad d0 ar cA H.size L K u hL8 hR.2.1 ia a ham ha (nI w) (((Int32.toInt64 (xs (i + 3))) <<< (Int32.toInt64 (32 : Int32) &&& 63)) ||| ((Int32.toInt64 (xs (i + 4))) &&& (4294967295 : Int64)))) (cwV 3 hts gL_law_X2_set rfl rfl rfl (by decide +kernel) ⟨Nat.le_of_ble_eq_true rfl, Nat.le_of_ble_eq_true rfl⟩) ⟨dw_blind, va_recv hKd hPd (ci := 2) (q0 := 0) rfl rfl, fun U hU hW9 => dw_call hKd hPd hDd hW hN hS hA hU hW9⟩ rfl rfl hl.1 rfl (lv_room (Nat.le_of_ble_eq_true rfl)) dL_law_126 ⟨by show 5 + L.length + 0 ≤ 600000; omega, by show 61 + 6 * L.length + 0 ≤ 7302250; omega⟩) hS (fun q _ h => hFd q h) hFd (fun r1 _ t H1 locs ht hvm er1 hB hz1 hk1 hS => ?_)
          obtain ⟨hP1, hD1⟩ := hB
          rw [ht] at hP1
          obtain ⟨hP, hD⟩ := w_jr hP hD hk1 hFd hP1 hD1
          generalize H1 = H at hP hS ⊢
          refine lv_aload_n hx hb dL_law_129 rfl (lv_at hl 2 rfl) ?_
          refine lv_aload_n hx hb dL_law_130 rfl (lv_at hl 0 rfl) ?_
          refine lv_iload_n hx hb dL_law_131 rfl (lv_at hl 3 rfl) ?_
          refine lv_iconst (v := (1 : Int32)) hx hb dL_law_132 (by decide) ?_
          refine lv_iadd hx hb dL_law_133 ?_
          refine zn_top (n := i + 1) (nI_add i 1) ?_
          refine zs_ld hx hb hX hbl hbA hS (i := i + 1) (by omega) (by omega) dL_law_134 ?_
          refine zn_top (n := ia) hx1 ?_
          refine lv_aload_n hx hb dL_law_135 rfl (lv_at hl 0 rfl) ?_
          refine lv_iload_n hx hb dL_law_136 rfl (lv_at hl 3 rfl) ?_
          refine lv_iconst (v := (2 : Int32)) hx hb dL_law_137 (by decide) ?_
          refine lv_iadd hx hb dL_law_138 ?_
          refine zn_top (n := i + 2) (nI_add i 2) ?_
          refine zs_ld hx hb hX hbl hbA hS (i := i + 2) (by omega) (by omega) dL_law_139 ?_
          refine zn_top (n := w) hx2 ?_
          refine lv_aload_n hx hb dL_law_140 rfl (lv_at hl 0 rfl) ?_
          refine lv_iload_n hx hb dL_law_141 rfl (lv_at hl 3 rfl) ?_
          refine lv_iconst (v := (3 : Int32)) hx hb dL_law_142 (by decide) ?_
          refine lv_iadd hx hb dL_law_143 ?_
          refine zn_top (n := i + 3) (nI_add i 3) ?_
          refine zs_ld hx hb hX hbl hbA hS (i := i + 3) (by omega) (by omega) dL_law_144 ?_
          refine lv_i2l hx hb dL_law_145 rfl ?_
          refine lv_bipush (v := (32 : Int32)) hx hb dL_law_146 (by decide) ?_
          refine lv_lshl hx hb dL_law_148 rfl ?_
          refine lv_aload_n hx hb dL_law_149 rfl (lv_at hl 0 rfl) ?_
          refine lv_iload_n hx hb dL_law_150 rfl (lv_at hl 3 rfl) ?_
          refine lv_iconst (v := (4 : Int32)) hx hb dL_law_151 (by decide) ?_
          refine lv_iadd hx hb dL_law_152 ?_
          refine zn_top (n := i + 4) (nI_add i 4) ?_
          refine zs_ld hx hb hX hbl hbA hS (i := i + 4) (by omega) (by omega) dL_law_153 ?_
          refine lv_i2l hx hb dL_law_154 rfl ?_
          refine lv_ldc2 (v := (4294967295 : Int64)) hx hb hown (hts (.constantLong RL 18 (4294967295)) (by decide +kernel)) dL_law_155 ?_
          refine lv_land hx hb dL_law_158 ?_
          refine lv_lor hx hb dL_law_159 ?_
          have hPm := wl_P hP
          have hDm := wl_D hD
          have hFm := w_free hDm hS hA
          refine va_calli (va_runV (As := [.int (nI ia), .int (nI w), .long (((Int32.toInt64 (xs (i + 3))) <<< (Int32.toInt64 (32 : Int32) &&& 63)) ||| ((Int32.toInt64 (xs (i + 4))) &&& (4294967295 : Int64)))]) (rest := [.int r1]) ⟨hx, hb, hml, hown, hts⟩ (ct_X3_set_at l dC dI m0 ka na cI cJ H.size L.length kf nf ia w (((Int32.toInt64 (xs (i + 3))) <<< (Int32.toInt64 (32 : Int32) &&& 63)) ||| ((Int32.toInt64 (xs (i + 4))) &&& (4294967295 : Int64))) hL8 hia hw) (cwV 3 hts gL_law_X3_set rfl rfl rfl (by decide +kernel) ⟨Nat.le_of_ble_eq_true rfl, Nat.le_of_ble_eq_true rfl⟩) ⟨mw_blind, va_recv hKm hPm (ci := 3) (q0 := 0) rfl rfl, fun U hU hW9 => mw_call hKm hPm hDm hU hW9⟩ rfl rfl hl.1 rfl (lv_room (Nat.le_of_ble_eq_true rfl)) dL_law_160 ⟨by show 5 + L.length + 0 ≤ 600000; omega, by show 61 + 6 * L.length + 0 ≤ 7302250; omega⟩) hS (fun q _ h => hFm q h) hFm (fun r2 _ t H1 locs ht hvm er2 hB hz1 hk1 hS => ?_)
          obtain ⟨hP1, hD1⟩ := hB
          rw [ht] at hP1
          obtain ⟨hP, hD⟩ := w_jl hP hD hk1 hFm hP1 hD1
          generalize H1 = H at hP hS ⊢
          obtain ⟨x2, epb, ea2, eo2⟩ := put_w t2 t3 pn pok hw
          have epb : fn_X0_put (K a) (nI w) (((Int32.toInt64 (xs (i + 3))) <<< (Int32.toInt64 (32 : Int32) &&& 63)) ||| ((Int32.toInt64 (xs (i + 4))) &&& (4294967295 : Int64))) (u a).1 (u a).2.1 (u a).2.2.1 (u a).2.2.2.1 (u a).2.2.2.2 = (1, x2) := epb
          rw [epb] at er1 hP hD
          have epm := pm9 L.length kf nf ia w t1
          rw [epm] at er2 hP hD
          have he : r1 = r2 := by rw [er1, er2]; rfl
          have hP : va_P (dC, dI) vwCl (mdW m0 ka na cI cJ L.length kf (vp_updL nf (5 * ia + w) (fn_X1_fitted (K a) (((Int32.toInt64 (xs (i + 3))) <<< (Int32.toInt64 (32 : Int32) &&& 63)) ||| ((Int32.toInt64 (xs (i + 4))) &&& (4294967295 : Int64))))) ++ dkW ad d0 ar cA L K (va_up u a x2)) H := hP
          have hD : va_D A (mdW m0 ka na cI cJ L.length kf (vp_updL nf (5 * ia + w) (fn_X1_fitted (K a) (((Int32.toInt64 (xs (i + 3))) <<< (Int32.toInt64 (32 : Int32) &&& 63)) ||| ((Int32.toInt64 (xs (i + 4))) &&& (4294967295 : Int64))))) ++ dkW ad d0 ar cA L K (va_up u a x2)) := hD
          refine lv_icmp_eq (tgt := 301) hx hb dL_law_163 (by decide) (fun _ => ?_) (fun c9 => absurd he c9)
          exact nx L K (va_up u a x2) kf _ H locs ls (Rl_up hR hnd ha ea2 eo2 (off5_u (off5_rf nf ia) hw _)) hP hD hS hl
      by_cases q_2 : sw = (2 : Int32)
      · refine lv_tableIn (off := 136) (tgt := 168) hx hb dL_law_32 (by rw [q_2]; decide) (by rw [q_2]; decide) (by rw [q_2]; rfl) (by decide) ?_
        by_cases h1 : fn_X3_isAxis L.length (xs (i + 1)) = 0
        · refine lv_aload_n hx hb dL_law_168 rfl (lv_at hl 1 rfl) ?_
          refine lv_aload_n hx hb dL_law_169 rfl (lv_at hl 0 rfl) ?_
          refine lv_iload_n hx hb dL_law_170 rfl (lv_at hl 3 rfl) ?_
          refine lv_iconst (v := (1 : Int32)) hx hb dL_law_171 (by decide) ?_
          refine lv_iadd hx hb dL_law_172 ?_
          refine zn_top (n := i + 1) (nI_add i 1) ?_
          refine zs_ld hx hb hX hbl hbA hS (i := i + 1) (by omega) (by omega) dL_law_173 ?_
          refine lv_aload_n hx hb dL_law_174 rfl (lv_at hl 0 rfl) ?_
          refine lv_iload_n hx hb dL_law_175 rfl (lv_at hl 3 rfl) ?_
          refine lv_iconst (v := (2 : Int32)) hx hb dL_law_176 (by decide) ?_
          refine lv_iadd hx hb dL_law_177 ?_
          refine zn_top (n := i + 2) (nI_add i 2) ?_
          refine zs_ld hx hb hX hbl hbA hS (i := i + 2) (by omega) (by omega) dL_law_178 ?_
          have hPd := wr_P hP
          have hDd := wr_D hD
          have hFd := w_free hDd hS hA
          refine vp_callSl (W.runV (As := [.int (xs (i + 1)), .int (xs (i + 2))]) (rest := []) ⟨hx, hb, hml, hown, hts⟩ (ct_X2_bits_no l dC dI ad d0 ar cA H.size L K u hL8 hR.2.1 (xs (i + 1)) (xs (i + 2)) h1) (cwV 2 hts gL_law_X2_bits rfl rfl rfl (by decide +kernel) ⟨Nat.le_of_ble_eq_true rfl, Nat.le_of_ble_eq_true rfl⟩) ⟨dw_blind, va_recv hKd hPd (ci := 2) (q0 := 0) rfl rfl, fun U hU hW9 => dw_call hKd hPd hDd hW hN hS hA hU hW9⟩ rfl rfl hl.1 rfl (lv_room (Nat.le_of_ble_eq_true rfl)) dL_law_179 ⟨by show 5 + L.length + 0 ≤ 600000; omega, by show 61 + 6 * L.length + 0 ≤ 7302250; omega⟩) (fun r1 er1 => ?_)
          refine lv_aload_n hx hb dL_law_182 rfl (lv_at hl 2 rfl) ?_
          refine lv_aload_n hx hb dL_law_183 rfl (lv_at hl 0 rfl) ?_
          refine lv_iload_n hx hb dL_law_184 rfl (lv_at hl 3 rfl) ?_
          refine lv_iconst (v := (1 : Int32)) hx hb dL_law_185 (by decide) ?_
          refine lv_iadd hx hb dL_law_186 ?_
          refine zn_top (n := i + 1) (nI_add i 1) ?_
          refine zs_ld hx hb hX hbl hbA hS (i := i + 1) (by omega) (by omega) dL_law_187 ?_
          refine lv_aload_n hx hb dL_law_188 rfl (lv_at hl 0 rfl) ?_
          refine lv_iload_n hx hb dL_law_189 rfl (lv_at hl 3 rfl) ?_
          refine lv_iconst (v := (2 : Int32)) hx hb dL_law_190 (by decide) ?_
          refine lv_iadd hx hb dL_law_191 ?_
          refine zn_top (n := i + 2) (nI_add i 2) ?_
          refine zs_ld hx hb hX hbl hbA hS (i := i + 2) (by omega) (by omega) dL_law_192 ?_
          have hPm := wl_P hP
          have hDm := wl_D hD
          have hFm := w_free hDm hS hA
          refine vp_callSl (W.runV (As := [.int (xs (i + 1)), .int (xs (i + 2))]) (rest := [.long r1]) ⟨hx, hb, hml, hown, hts⟩ (ct_X3_bits_no l dC dI m0 ka na cI cJ H.size L.length kf nf (xs (i + 1)) (xs (i + 2)) h1) (cwV 2 hts gL_law_X3_bits rfl rfl rfl (by decide +kernel) ⟨Nat.le_of_ble_eq_true rfl, Nat.le_of_ble_eq_true rfl⟩) ⟨mw_blind, va_recv hKm hPm (ci := 3) (q0 := 0) rfl rfl, fun U hU hW9 => mw_call hKm hPm hDm hU hW9⟩ rfl rfl hl.1 rfl (lv_room (Nat.le_of_ble_eq_true rfl)) dL_law_193 ⟨by show 5 + L.length + 0 ≤ 600000; omega, by show 61 + 6 * L.length + 0 ≤ 7302250; omega⟩) (fun r2 er2 => ?_)
          have he : r1 = r2 := er1.trans er2.symm
          refine zl_eq (tgt := 301) hx hb dL_law_196 dL_law_197 (by decide) (fun _ => ?_) (fun c9 => absurd he c9)
          exact nx L K u kf nf H locs ls hR hP hD hS hl
        obtain ⟨ia, a, hia, hx1, ha, ham⟩ := ax_ex hL8 h1
        obtain ⟨t1, t2, t3⟩ := hR.2.2 ia a ha
        by_cases h2 : xs (i + 2) < 0
        · refine lv_aload_n hx hb dL_law_168 rfl (lv_at hl 1 rfl) ?_
          refine lv_aload_n hx hb dL_law_169 rfl (lv_at hl 0 rfl) ?_
          refine lv_iload_n hx hb dL_law_170 rfl (lv_at hl 3 rfl) ?_
          refine lv_iconst (v := (1 : Int32)) hx hb dL_law_171 (by decide) ?_
          refine lv_iadd hx hb dL_law_172 ?_
          refine zn_top (n := i + 1) (nI_add i 1) ?_
          refine zs_ld hx hb hX hbl hbA hS (i := i + 1) (by omega) (by omega) dL_law_173 ?_
          refine zn_top (n := ia) hx1 ?_
          refine lv_aload_n hx hb dL_law_174 rfl (lv_at hl 0 rfl) ?_
          refine lv_iload_n hx hb dL_law_175 rfl (lv_at hl 3 rfl) ?_
          refine lv_iconst (v := (2 : Int32)) hx hb dL_law_176 (by decide) ?_
          refine lv_iadd hx hb dL_law_177 ?_
          refine zn_top (n := i + 2) (nI_add i 2) ?_
          refine zs_ld hx hb hX hbl hbA hS (i := i + 2) (by omega) (by omega) dL_law_178 ?_
          have hPd := wr_P hP
          have hDd := wr_D hD
          have hFd := w_free hDd hS hA
          refine vp_callSl (W.runV (As := [.int (nI ia), .int (xs (i + 2))]) (rest := []) ⟨hx, hb, hml, hown, hts⟩ (ct_X2_bits_at l dC dI ad d0 ar cA H.size L K u hL8 hR.2.1 ia a ham ha (xs (i + 2))) (cwV 2 hts gL_law_X2_bits rfl rfl rfl (by decide +kernel) ⟨Nat.le_of_ble_eq_true rfl, Nat.le_of_ble_eq_true rfl⟩) ⟨dw_blind, va_recv hKd hPd (ci := 2) (q0 := 0) rfl rfl, fun U hU hW9 => dw_call hKd hPd hDd hW hN hS hA hU hW9⟩ rfl rfl hl.1 rfl (lv_room (Nat.le_of_ble_eq_true rfl)) dL_law_179 ⟨by show 5 + L.length + 0 ≤ 600000; omega, by show 61 + 6 * L.length + 0 ≤ 7302250; omega⟩) (fun r1 er1 => ?_)
          refine lv_aload_n hx hb dL_law_182 rfl (lv_at hl 2 rfl) ?_
          refine lv_aload_n hx hb dL_law_183 rfl (lv_at hl 0 rfl) ?_
          refine lv_iload_n hx hb dL_law_184 rfl (lv_at hl 3 rfl) ?_
          refine lv_iconst (v := (1 : Int32)) hx hb dL_law_185 (by decide) ?_
          refine lv_iadd hx hb dL_law_186 ?_
          refine zn_top (n := i + 1) (nI_add i 1) ?_
          refine zs_ld hx hb hX hbl hbA hS (i := i + 1) (by omega) (by omega) dL_law_187 ?_
          refine zn_top (n := ia) hx1 ?_
          refine lv_aload_n hx hb dL_law_188 rfl (lv_at hl 0 rfl) ?_
          refine lv_iload_n hx hb dL_law_189 rfl (lv_at hl 3 rfl) ?_
          refine lv_iconst (v := (2 : Int32)) hx hb dL_law_190 (by decide) ?_
          refine lv_iadd hx hb dL_law_191 ?_
          refine zn_top (n := i + 2) (nI_add i 2) ?_
          refine zs_ld hx hb hX hbl hbA hS (i := i + 2) (by omega) (by omega) dL_law_192 ?_
          have hPm := wl_P hP
          have hDm := wl_D hD
          have hFm := w_free hDm hS hA
          refine vp_callSl (W.runV (As := [.int (nI ia), .int (xs (i + 2))]) (rest := [.long r1]) ⟨hx, hb, hml, hown, hts⟩ (ct_X3_bits_lo l dC dI m0 ka na cI cJ H.size L.length kf nf ia (xs (i + 2)) hL8 hia h2) (cwV 2 hts gL_law_X3_bits rfl rfl rfl (by decide +kernel) ⟨Nat.le_of_ble_eq_true rfl, Nat.le_of_ble_eq_true rfl⟩) ⟨mw_blind, va_recv hKm hPm (ci := 3) (q0 := 0) rfl rfl, fun U hU hW9 => mw_call hKm hPm hDm hU hW9⟩ rfl rfl hl.1 rfl (lv_room (Nat.le_of_ble_eq_true rfl)) dL_law_193 ⟨by show 5 + L.length + 0 ≤ 600000; omega, by show 61 + 6 * L.length + 0 ≤ 7302250; omega⟩) (fun r2 er2 => ?_)
          have he : r1 = r2 := by rw [er1, er2]; exact num_bad (Or.inl h2) _ _ _ _ _
          refine zl_eq (tgt := 301) hx hb dL_law_196 dL_law_197 (by decide) (fun _ => ?_) (fun c9 => absurd he c9)
          exact nx L K u kf nf H locs ls hR hP hD hS hl
        by_cases h3 : 4 < xs (i + 2)
        · refine lv_aload_n hx hb dL_law_168 rfl (lv_at hl 1 rfl) ?_
          refine lv_aload_n hx hb dL_law_169 rfl (lv_at hl 0 rfl) ?_
          refine lv_iload_n hx hb dL_law_170 rfl (lv_at hl 3 rfl) ?_
          refine lv_iconst (v := (1 : Int32)) hx hb dL_law_171 (by decide) ?_
          refine lv_iadd hx hb dL_law_172 ?_
          refine zn_top (n := i + 1) (nI_add i 1) ?_
          refine zs_ld hx hb hX hbl hbA hS (i := i + 1) (by omega) (by omega) dL_law_173 ?_
          refine zn_top (n := ia) hx1 ?_
          refine lv_aload_n hx hb dL_law_174 rfl (lv_at hl 0 rfl) ?_
          refine lv_iload_n hx hb dL_law_175 rfl (lv_at hl 3 rfl) ?_
          refine lv_iconst (v := (2 : Int32)) hx hb dL_law_176 (by decide) ?_
          refine lv_iadd hx hb dL_law_177 ?_
          refine zn_top (n := i + 2) (nI_add i 2) ?_
          refine zs_ld hx hb hX hbl hbA hS (i := i + 2) (by omega) (by omega) dL_law_178 ?_
          have hPd := wr_P hP
          have hDd := wr_D hD
          have hFd := w_free hDd hS hA
          refine vp_callSl (W.runV (As := [.int (nI ia), .int (xs (i + 2))]) (rest := []) ⟨hx, hb, hml, hown, hts⟩ (ct_X2_bits_at l dC dI ad d0 ar cA H.size L K u hL8 hR.2.1 ia a ham ha (xs (i + 2))) (cwV 2 hts gL_law_X2_bits rfl rfl rfl (by decide +kernel) ⟨Nat.le_of_ble_eq_true rfl, Nat.le_of_ble_eq_true rfl⟩) ⟨dw_blind, va_recv hKd hPd (ci := 2) (q0 := 0) rfl rfl, fun U hU hW9 => dw_call hKd hPd hDd hW hN hS hA hU hW9⟩ rfl rfl hl.1 rfl (lv_room (Nat.le_of_ble_eq_true rfl)) dL_law_179 ⟨by show 5 + L.length + 0 ≤ 600000; omega, by show 61 + 6 * L.length + 0 ≤ 7302250; omega⟩) (fun r1 er1 => ?_)
          refine lv_aload_n hx hb dL_law_182 rfl (lv_at hl 2 rfl) ?_
          refine lv_aload_n hx hb dL_law_183 rfl (lv_at hl 0 rfl) ?_
          refine lv_iload_n hx hb dL_law_184 rfl (lv_at hl 3 rfl) ?_
          refine lv_iconst (v := (1 : Int32)) hx hb dL_law_185 (by decide) ?_
          refine lv_iadd hx hb dL_law_186 ?_
          refine zn_top (n := i + 1) (nI_add i 1) ?_
          refine zs_ld hx hb hX hbl hbA hS (i := i + 1) (by omega) (by omega) dL_law_187 ?_
          refine zn_top (n := ia) hx1 ?_
          refine lv_aload_n hx hb dL_law_188 rfl (lv_at hl 0 rfl) ?_
          refine lv_iload_n hx hb dL_law_189 rfl (lv_at hl 3 rfl) ?_
          refine lv_iconst (v := (2 : Int32)) hx hb dL_law_190 (by decide) ?_
          refine lv_iadd hx hb dL_law_191 ?_
          refine zn_top (n := i + 2) (nI_add i 2) ?_
          refine zs_ld hx hb hX hbl hbA hS (i := i + 2) (by omega) (by omega) dL_law_192 ?_
          have hPm := wl_P hP
          have hDm := wl_D hD
          have hFm := w_free hDm hS hA
          refine vp_callSl (W.runV (As := [.int (nI ia), .int (xs (i + 2))]) (rest := [.long r1]) ⟨hx, hb, hml, hown, hts⟩ (ct_X3_bits_hi l dC dI m0 ka na cI cJ H.size L.length kf nf ia (xs (i + 2)) hL8 hia h2 h3) (cwV 2 hts gL_law_X3_bits rfl rfl rfl (by decide +kernel) ⟨Nat.le_of_ble_eq_true rfl, Nat.le_of_ble_eq_true rfl⟩) ⟨mw_blind, va_recv hKm hPm (ci := 3) (q0 := 0) rfl rfl, fun U hU hW9 => mw_call hKm hPm hDm hU hW9⟩ rfl rfl hl.1 rfl (lv_room (Nat.le_of_ble_eq_true rfl)) dL_law_193 ⟨by show 5 + L.length + 0 ≤ 600000; omega, by show 61 + 6 * L.length + 0 ≤ 7302250; omega⟩) (fun r2 er2 => ?_)
          have he : r1 = r2 := by rw [er1, er2]; exact num_bad (Or.inr h3) _ _ _ _ _
          refine zl_eq (tgt := 301) hx hb dL_law_196 dL_law_197 (by decide) (fun _ => ?_) (fun c9 => absurd he c9)
          exact nx L K u kf nf H locs ls hR hP hD hS hl
        obtain ⟨w, hw, hx2⟩ := w5 h2 h3
        refine lv_aload_n hx hb dL_law_168 rfl (lv_at hl 1 rfl) ?_
        refine lv_aload_n hx hb dL_law_169 rfl (lv_at hl 0 rfl) ?_
        refine lv_iload_n hx hb dL_law_170 rfl (lv_at hl 3 rfl) ?_
        refine lv_iconst (v := (1 : Int32)) hx hb dL_law_171 (by decide) ?_
        refine lv_iadd hx hb dL_law_172 ?_
        refine zn_top (n := i + 1) (nI_add i 1) ?_
        refine zs_ld hx hb hX hbl hbA hS (i := i + 1) (by omega) (by omega) dL_law_173 ?_
        refine zn_top (n := ia) hx1 ?_
        refine lv_aload_n hx hb dL_law_174 rfl (lv_at hl 0 rfl) ?_
        refine lv_iload_n hx hb dL_law_175 rfl (lv_at hl 3 rfl) ?_
        refine lv_iconst (v := (2 : Int32)) hx hb dL_law_176 (by decide) ?_
        refine lv_iadd hx hb dL_law_177 ?_
        refine zn_top (n := i + 2) (nI_add i 2) ?_
        refine zs_ld hx hb hX hbl hbA hS (i := i + 2) (by omega) (by omega) dL_law_178 ?_
        refine zn_top (n := w) hx2 ?_
        have hPd := wr_P hP
        have hDd := wr_D hD
        have hFd := w_free hDd hS hA
        refine vp_callSl (W.runV (As := [.int (nI ia), .int (nI w)]) (rest := []) ⟨hx, hb, hml, hown, hts⟩ (ct_X2_bits_at l dC dI ad d0 ar cA H.size L K u hL8 hR.2.1 ia a ham ha (nI w)) (cwV 2 hts gL_law_X2_bits rfl rfl rfl (by decide +kernel) ⟨Nat.le_of_ble_eq_true rfl, Nat.le_of_ble_eq_true rfl⟩) ⟨dw_blind, va_recv hKd hPd (ci := 2) (q0 := 0) rfl rfl, fun U hU hW9 => dw_call hKd hPd hDd hW hN hS hA hU hW9⟩ rfl rfl hl.1 rfl (lv_room (Nat.le_of_ble_eq_true rfl)) dL_law_179 ⟨by show 5 + L.length + 0 ≤ 600000; omega, by show 61 + 6 * L.length + 0 ≤ 7302250; omega⟩) (fun r1 er1 => ?_)
        refine lv_aload_n hx hb dL_law_182 rfl (lv_at hl 2 rfl) ?_
        refine lv_aload_n hx hb dL_law_183 rfl (lv_at hl 0 rfl) ?_
        refine lv_iload_n hx hb dL_law_184 rfl (lv_at hl 3 rfl) ?_
        refine lv_iconst (v := (1 : Int32)) hx hb dL_law_185 (by decide) ?_
        refine lv_iadd hx hb dL_law_186 ?_
        refine zn_top (n := i + 1) (nI_add i 1) ?_
        refine zs_ld hx hb hX hbl hbA hS (i := i + 1) (by omega) (by omega) dL_law_187 ?_
        refine zn_top (n := ia) hx1 ?_
        refine lv_aload_n hx hb dL_law_188 rfl (lv_at hl 0 rfl) ?_
        refine lv_iload_n hx hb dL_law_189 rfl (lv_at hl 3 rfl) ?_
        refine lv_iconst (v := (2 : Int32)) hx hb dL_law_190 (by decide) ?_
        refine lv_iadd hx hb dL_law_191 ?_
        refine zn_top (n := i + 2) (nI_add i 2) ?_
        refine zs_ld hx hb hX hbl hbA hS (i := i + 2) (by omega) (by omega) dL_law_192 ?_
        refine zn_top (n := w) hx2 ?_
        have hPm := wl_P hP
        have hDm := wl_D hD
        have hFm := w_free hDm hS hA
        refine vp_callSl (W.runV (As := [.int (nI ia), .int (nI w)]) (rest := [.long r1]) ⟨hx, hb, hml, hown, hts⟩ (ct_X3_bits_at l dC dI m0 ka na cI cJ H.size L.length kf nf ia w hL8 hia hw) (cwV 2 hts gL_law_X3_bits rfl rfl rfl (by decide +kernel) ⟨Nat.le_of_ble_eq_true rfl, Nat.le_of_ble_eq_true rfl⟩) ⟨mw_blind, va_recv hKm hPm (ci := 3) (q0 := 0) rfl rfl, fun U hU hW9 => mw_call hKm hPm hDm hU hW9⟩ rfl rfl hl.1 rfl (lv_room (Nat.le_of_ble_eq_true rfl)) dL_law_193 ⟨by show 5 + L.length + 0 ≤ 600000; omega, by show 61 + 6 * L.length + 0 ≤ 7302250; omega⟩) (fun r2 er2 => ?_)
        have he : r1 = r2 := by rw [er1, er2]; exact num_w t2 hw
        refine zl_eq (tgt := 301) hx hb dL_law_196 dL_law_197 (by decide) (fun _ => ?_) (fun c9 => absurd he c9)
        exact nx L K u kf nf H locs ls hR hP hD hS hl
      by_cases q_3 : sw = (3 : Int32)
      · refine lv_tableIn (off := 170) (tgt := 202) hx hb dL_law_32 (by rw [q_3]; decide) (by rw [q_3]; decide) (by rw [q_3]; rfl) (by decide) ?_
        by_cases h1 : fn_X3_isAxis L.length (xs (i + 1)) = 0
        · refine lv_aload_n hx hb dL_law_202 rfl (lv_at hl 1 rfl) ?_
          refine lv_aload_n hx hb dL_law_203 rfl (lv_at hl 0 rfl) ?_
          refine lv_iload_n hx hb dL_law_204 rfl (lv_at hl 3 rfl) ?_
          refine lv_iconst (v := (1 : Int32)) hx hb dL_law_205 (by decide) ?_
          refine lv_iadd hx hb dL_law_206 ?_
          refine zn_top (n := i + 1) (nI_add i 1) ?_
          refine zs_ld hx hb hX hbl hbA hS (i := i + 1) (by omega) (by omega) dL_law_207 ?_
          refine lv_aload_n hx hb dL_law_208 rfl (lv_at hl 0 rfl) ?_
          refine lv_iload_n hx hb dL_law_209 rfl (lv_at hl 3 rfl) ?_
          refine lv_iconst (v := (2 : Int32)) hx hb dL_law_210 (by decide) ?_
          refine lv_iadd hx hb dL_law_211 ?_
          refine zn_top (n := i + 2) (nI_add i 2) ?_
          refine zs_ld hx hb hX hbl hbA hS (i := i + 2) (by omega) (by omega) dL_law_212 ?_
          have hPd := wr_P hP
          have hDd := wr_D hD
          have hFd := w_free hDd hS hA
          refine va_calli (va_runV (As := [.int (xs (i + 1)), .int (xs (i + 2))]) (rest := []) ⟨hx, hb, hml, hown, hts⟩ (ct_X2_orders_no l dC dI ad d0 ar cA H.size L K u hL8 hR.2.1 (xs (i + 1)) (xs (i + 2)) h1) (cwV 2 hts gL_law_X2_orders rfl rfl rfl (by decide +kernel) ⟨Nat.le_of_ble_eq_true rfl, Nat.le_of_ble_eq_true rfl⟩) ⟨dw_blind, va_recv hKd hPd (ci := 2) (q0 := 0) rfl rfl, fun U hU hW9 => dw_call hKd hPd hDd hW hN hS hA hU hW9⟩ rfl rfl hl.1 rfl (lv_room (Nat.le_of_ble_eq_true rfl)) dL_law_213 ⟨by show 5 + L.length + 0 ≤ 600000; omega, by show 61 + 6 * L.length + 0 ≤ 7302250; omega⟩) hS (fun q _ h => hFd q h) hFd (fun r1 _ t H1 locs ht hvm er1 hB hz1 hk1 hS => ?_)
          obtain ⟨hP1, hD1⟩ := hB
          rw [ht] at hP1
          obtain ⟨hP, hD⟩ := w_jr hP hD hk1 hFd hP1 hD1
          generalize H1 = H at hP hS ⊢
          refine lv_aload_n hx hb dL_law_216 rfl (lv_at hl 2 rfl) ?_
          refine lv_aload_n hx hb dL_law_217 rfl (lv_at hl 0 rfl) ?_
          refine lv_iload_n hx hb dL_law_218 rfl (lv_at hl 3 rfl) ?_
          refine lv_iconst (v := (1 : Int32)) hx hb dL_law_219 (by decide) ?_
          refine lv_iadd hx hb dL_law_220 ?_
          refine zn_top (n := i + 1) (nI_add i 1) ?_
          refine zs_ld hx hb hX hbl hbA hS (i := i + 1) (by omega) (by omega) dL_law_221 ?_
          refine lv_aload_n hx hb dL_law_222 rfl (lv_at hl 0 rfl) ?_
          refine lv_iload_n hx hb dL_law_223 rfl (lv_at hl 3 rfl) ?_
          refine lv_iconst (v := (2 : Int32)) hx hb dL_law_224 (by decide) ?_
          refine lv_iadd hx hb dL_law_225 ?_
          refine zn_top (n := i + 2) (nI_add i 2) ?_
          refine zs_ld hx hb hX hbl hbA hS (i := i + 2) (by omega) (by omega) dL_law_226 ?_
          have hPm := wl_P hP
          have hDm := wl_D hD
          have hFm := w_free hDm hS hA
          refine va_calli (va_runV (As := [.int (xs (i + 1)), .int (xs (i + 2))]) (rest := [.int r1]) ⟨hx, hb, hml, hown, hts⟩ (ct_X3_orders_no l dC dI m0 ka na cI cJ H.size L.length kf nf (xs (i + 1)) (xs (i + 2)) h1) (cwV 2 hts gL_law_X3_orders rfl rfl rfl (by decide +kernel) ⟨Nat.le_of_ble_eq_true rfl, Nat.le_of_ble_eq_true rfl⟩) ⟨mw_blind, va_recv hKm hPm (ci := 3) (q0 := 0) rfl rfl, fun U hU hW9 => mw_call hKm hPm hDm hU hW9⟩ rfl rfl hl.1 rfl (lv_room (Nat.le_of_ble_eq_true rfl)) dL_law_227 ⟨by show 5 + L.length + 0 ≤ 600000; omega, by show 61 + 6 * L.length + 0 ≤ 7302250; omega⟩) hS (fun q _ h => hFm q h) hFm (fun r2 _ t H1 locs ht hvm er2 hB hz1 hk1 hS => ?_)
          obtain ⟨hP1, hD1⟩ := hB
          rw [ht] at hP1
          obtain ⟨hP, hD⟩ := w_jl hP hD hk1 hFm hP1 hD1
          generalize H1 = H at hP hS ⊢
          have he : r1 = r2 := er1.trans er2.symm
          have hP : va_P (dC, dI) vwCl (mdW m0 ka na cI cJ L.length kf nf ++ dkW ad d0 ar cA L K u) H := hP
          have hD : va_D A (mdW m0 ka na cI cJ L.length kf nf ++ dkW ad d0 ar cA L K u) := hD
          refine lv_icmp_eq (tgt := 301) hx hb dL_law_230 (by decide) (fun _ => ?_) (fun c9 => absurd he c9)
          exact nx L K u kf nf H locs ls hR hP hD hS hl
        obtain ⟨ia, a, hia, hx1, ha, ham⟩ := ax_ex hL8 h1
        cases hlen : lenO (mAt (xs (i + 2))) 8 0 with
        | none =>
          refine lv_aload_n hx hb dL_law_202 rfl (lv_at hl 1 rfl) ?_
          refine lv_aload_n hx hb dL_law_203 rfl (lv_at hl 0 rfl) ?_
          refine lv_iload_n hx hb dL_law_204 rfl (lv_at hl 3 rfl) ?_
          refine lv_iconst (v := (1 : Int32)) hx hb dL_law_205 (by decide) ?_
          refine lv_iadd hx hb dL_law_206 ?_
          refine zn_top (n := i + 1) (nI_add i 1) ?_
          refine zs_ld hx hb hX hbl hbA hS (i := i + 1) (by omega) (by omega) dL_law_207 ?_
          refine zn_top (n := ia) hx1 ?_
          refine lv_aload_n hx hb dL_law_208 rfl (lv_at hl 0 rfl) ?_
          refine lv_iload_n hx hb dL_law_209 rfl (lv_at hl 3 rfl) ?_
          refine lv_iconst (v := (2 : Int32)) hx hb dL_law_210 (by decide) ?_
          refine lv_iadd hx hb dL_law_211 ?_
          refine zn_top (n := i + 2) (nI_add i 2) ?_
          refine zs_ld hx hb hX hbl hbA hS (i := i + 2) (by omega) (by omega) dL_law_212 ?_
          have hPd := wr_P hP
          have hDd := wr_D hD
          have hFd := w_free hDd hS hA
          refine va_calli (va_runV (As := [.int (nI ia), .int (xs (i + 2))]) (rest := []) ⟨hx, hb, hml, hown, hts⟩ (ct_X2_orders_bad l dC dI ad d0 ar cA H.size L K u hL8 hR.2.1 ia a ham ha (xs (i + 2)) hlen) (cwV 2 hts gL_law_X2_orders rfl rfl rfl (by decide +kernel) ⟨Nat.le_of_ble_eq_true rfl, Nat.le_of_ble_eq_true rfl⟩) ⟨dw_blind, va_recv hKd hPd (ci := 2) (q0 := 0) rfl rfl, fun U hU hW9 => dw_call hKd hPd hDd hW hN hS hA hU hW9⟩ rfl rfl hl.1 rfl (lv_room (Nat.le_of_ble_eq_true rfl)) dL_law_213 ⟨by show 5 + L.length + 0 ≤ 600000; omega, by show 61 + 6 * L.length + 0 ≤ 7302250; omega⟩) hS (fun q _ h => hFd q h) hFd (fun r1 _ t H1 locs ht hvm er1 hB hz1 hk1 hS => ?_)
          obtain ⟨hP1, hD1⟩ := hB
          rw [ht] at hP1
          obtain ⟨hP, hD⟩ := w_jr hP hD hk1 hFd hP1 hD1
          generalize H1 = H at hP hS ⊢
          refine lv_aload_n hx hb dL_law_216 rfl (lv_at hl 2 rfl) ?_
          refine lv_aload_n hx hb dL_law_217 rfl (lv_at hl 0 rfl) ?_
          refine lv_iload_n hx hb dL_law_218 rfl (lv_at hl 3 rfl) ?_
          refine lv_iconst (v := (1 : Int32)) hx hb dL_law_219 (by decide) ?_
          refine lv_iadd hx hb dL_law_220 ?_
          refine zn_top (n := i + 1) (nI_add i 1) ?_
          refine zs_ld hx hb hX hbl hbA hS (i := i + 1) (by omega) (by omega) dL_law_221 ?_
          refine zn_top (n := ia) hx1 ?_
          refine lv_aload_n hx hb dL_law_222 rfl (lv_at hl 0 rfl) ?_
          refine lv_iload_n hx hb dL_law_223 rfl (lv_at hl 3 rfl) ?_
          refine lv_iconst (v := (2 : Int32)) hx hb dL_law_224 (by decide) ?_
          refine lv_iadd hx hb dL_law_225 ?_
          refine zn_top (n := i + 2) (nI_add i 2) ?_
          refine zs_ld hx hb hX hbl hbA hS (i := i + 2) (by omega) (by omega) dL_law_226 ?_
          have hPm := wl_P hP
          have hDm := wl_D hD
          have hFm := w_free hDm hS hA
          refine va_calli (va_runV (As := [.int (nI ia), .int (xs (i + 2))]) (rest := [.int r1]) ⟨hx, hb, hml, hown, hts⟩ (ct_X3_orders_bad l dC dI m0 ka na cI cJ H.size L.length kf nf ia (xs (i + 2)) hL8 hia hlen) (cwV 2 hts gL_law_X3_orders rfl rfl rfl (by decide +kernel) ⟨Nat.le_of_ble_eq_true rfl, Nat.le_of_ble_eq_true rfl⟩) ⟨mw_blind, va_recv hKm hPm (ci := 3) (q0 := 0) rfl rfl, fun U hU hW9 => mw_call hKm hPm hDm hU hW9⟩ rfl rfl hl.1 rfl (lv_room (Nat.le_of_ble_eq_true rfl)) dL_law_227 ⟨by show 5 + L.length + 0 ≤ 600000; omega, by show 61 + 6 * L.length + 0 ≤ 7302250; omega⟩) hS (fun q _ h => hFm q h) hFm (fun r2 _ t H1 locs ht hvm er2 hB hz1 hk1 hS => ?_)
          obtain ⟨hP1, hD1⟩ := hB
          rw [ht] at hP1
          obtain ⟨hP, hD⟩ := w_jl hP hD hk1 hFm hP1 hD1
          generalize H1 = H at hP hS ⊢
          have he : r1 = r2 := er1.trans er2.symm
          have hP : va_P (dC, dI) vwCl (mdW m0 ka na cI cJ L.length kf nf ++ dkW ad d0 ar cA L K u) H := hP
          have hD : va_D A (mdW m0 ka na cI cJ L.length kf nf ++ dkW ad d0 ar cA L K u) := hD
          refine lv_icmp_eq (tgt := 301) hx hb dL_law_230 (by decide) (fun _ => ?_) (fun c9 => absurd he c9)
          exact nx L K u kf nf H locs ls hR hP hD hS hl
        | some cn =>
          refine lv_aload_n hx hb dL_law_202 rfl (lv_at hl 1 rfl) ?_
          refine lv_aload_n hx hb dL_law_203 rfl (lv_at hl 0 rfl) ?_
          refine lv_iload_n hx hb dL_law_204 rfl (lv_at hl 3 rfl) ?_
          refine lv_iconst (v := (1 : Int32)) hx hb dL_law_205 (by decide) ?_
          refine lv_iadd hx hb dL_law_206 ?_
          refine zn_top (n := i + 1) (nI_add i 1) ?_
          refine zs_ld hx hb hX hbl hbA hS (i := i + 1) (by omega) (by omega) dL_law_207 ?_
          refine zn_top (n := ia) hx1 ?_
          refine lv_aload_n hx hb dL_law_208 rfl (lv_at hl 0 rfl) ?_
          refine lv_iload_n hx hb dL_law_209 rfl (lv_at hl 3 rfl) ?_
          refine lv_iconst (v := (2 : Int32)) hx hb dL_law_210 (by decide) ?_
          refine lv_iadd hx hb dL_law_211 ?_
          refine zn_top (n := i + 2) (nI_add i 2) ?_
          refine zs_ld hx hb hX hbl hbA hS (i := i + 2) (by omega) (by omega) dL_law_212 ?_
          have hPd := wr_P hP
          have hDd := wr_D hD
          have hFd := w_free hDd hS hA
          refine va_calli (va_runV (As := [.int (nI ia), .int (xs (i + 2))]) (rest := []) ⟨hx, hb, hml, hown, hts⟩ (ct_X2_orders_ok l dC dI ad d0 ar cA H.size L K u hL8 hR.2.1 ia a ham ha (xs (i + 2)) cn hlen) (cwV 2 hts gL_law_X2_orders rfl rfl rfl (by decide +kernel) ⟨Nat.le_of_ble_eq_true rfl, Nat.le_of_ble_eq_true rfl⟩) ⟨dw_blind, va_recv hKd hPd (ci := 2) (q0 := 0) rfl rfl, fun U hU hW9 => dw_call hKd hPd hDd hW hN hS hA hU hW9⟩ rfl rfl hl.1 rfl (lv_room (Nat.le_of_ble_eq_true rfl)) dL_law_213 ⟨by show 5 + L.length + 0 ≤ 600000; omega, by show 61 + 6 * L.length + 0 ≤ 7302250; omega⟩) hS (fun q _ h => hFd q h) hFd (fun r1 _ t H1 locs ht hvm er1 hB hz1 hk1 hS => ?_)
          obtain ⟨hP1, hD1⟩ := hB
          rw [ht] at hP1
          obtain ⟨hP, hD⟩ := w_jr hP hD hk1 hFd hP1 hD1
          generalize H1 = H at hP hS ⊢
          refine lv_aload_n hx hb dL_law_216 rfl (lv_at hl 2 rfl) ?_
          refine lv_aload_n hx hb dL_law_217 rfl (lv_at hl 0 rfl) ?_
          refine lv_iload_n hx hb dL_law_218 rfl (lv_at hl 3 rfl) ?_
          refine lv_iconst (v := (1 : Int32)) hx hb dL_law_219 (by decide) ?_
          refine lv_iadd hx hb dL_law_220 ?_
          refine zn_top (n := i + 1) (nI_add i 1) ?_
          refine zs_ld hx hb hX hbl hbA hS (i := i + 1) (by omega) (by omega) dL_law_221 ?_
          refine zn_top (n := ia) hx1 ?_
          refine lv_aload_n hx hb dL_law_222 rfl (lv_at hl 0 rfl) ?_
          refine lv_iload_n hx hb dL_law_223 rfl (lv_at hl 3 rfl) ?_
          refine lv_iconst (v := (2 : Int32)) hx hb dL_law_224 (by decide) ?_
          refine lv_iadd hx hb dL_law_225 ?_
          refine zn_top (n := i + 2) (nI_add i 2) ?_
          refine zs_ld hx hb hX hbl hbA hS (i := i + 2) (by omega) (by omega) dL_law_226 ?_
          have hPm := wl_P hP
          have hDm := wl_D hD
          have hFm := w_free hDm hS hA
          refine va_calli (va_runV (As := [.int (nI ia), .int (xs (i + 2))]) (rest := [.int r1]) ⟨hx, hb, hml, hown, hts⟩ (ct_X3_orders_ok l dC dI m0 ka na cI cJ H.size L.length kf nf ia (xs (i + 2)) cn hL8 hia hlen) (cwV 2 hts gL_law_X3_orders rfl rfl rfl (by decide +kernel) ⟨Nat.le_of_ble_eq_true rfl, Nat.le_of_ble_eq_true rfl⟩) ⟨mw_blind, va_recv hKm hPm (ci := 3) (q0 := 0) rfl rfl, fun U hU hW9 => mw_call hKm hPm hDm hU hW9⟩ rfl rfl hl.1 rfl (lv_room (Nat.le_of_ble_eq_true rfl)) dL_law_227 ⟨by show 5 + L.length + 0 ≤ 600000; omega, by show 61 + 6 * L.length + 0 ≤ 7302250; omega⟩) hS (fun q _ h => hFm q h) hFm (fun r2 _ t H1 locs ht hvm er2 hB hz1 hk1 hS => ?_)
          obtain ⟨hP1, hD1⟩ := hB
          rw [ht] at hP1
          obtain ⟨hP, hD⟩ := w_jl hP hD hk1 hFm hP1 hD1
          generalize H1 = H at hP hS ⊢
          have he : r1 = r2 := er1.trans er2.symm
          have hP : va_P (dC, dI) vwCl (mdW m0 ka na cI cJ L.length kf (doesN (kf ia) ia (xs (i + 2)) nf cn) ++ dkW ad d0 ar cA L K (va_up u a (obeyN (K a) (xs (i + 2)) (u a) cn))) H := hP
          have hD : va_D A (mdW m0 ka na cI cJ L.length kf (doesN (kf ia) ia (xs (i + 2)) nf cn) ++ dkW ad d0 ar cA L K (va_up u a (obeyN (K a) (xs (i + 2)) (u a) cn))) := hD
          refine lv_icmp_eq (tgt := 301) hx hb dL_law_230 (by decide) (fun _ => ?_) (fun c9 => absurd he c9)
          exact nx L K (va_up u a (obeyN (K a) (xs (i + 2)) (u a) cn)) kf (doesN (kf ia) ia (xs (i + 2)) nf cn) H locs ls (Rl_orders hR hnd ha hlen) hP hD hS hl
      by_cases q_4 : sw = (4 : Int32)
      · refine lv_tableIn (off := 203) (tgt := 235) hx hb dL_law_32 (by rw [q_4]; decide) (by rw [q_4]; decide) (by rw [q_4]; rfl) (by decide) ?_
        by_cases h1 : fn_X3_isAxis L.length (xs (i + 1)) = 0
        · by_cases h2 : fn_X3_isAxis L.length (xs (i + 2)) = 0
          · refine lv_aload_n hx hb dL_law_235 rfl (lv_at hl 1 rfl) ?_
            refine lv_aload_n hx hb dL_law_236 rfl (lv_at hl 0 rfl) ?_
            refine lv_iload_n hx hb dL_law_237 rfl (lv_at hl 3 rfl) ?_
            refine lv_iconst (v := (1 : Int32)) hx hb dL_law_238 (by decide) ?_
            refine lv_iadd hx hb dL_law_239 ?_
            refine zn_top (n := i + 1) (nI_add i 1) ?_
            refine zs_ld hx hb hX hbl hbA hS (i := i + 1) (by omega) (by omega) dL_law_240 ?_
            refine lv_aload_n hx hb dL_law_241 rfl (lv_at hl 0 rfl) ?_
            refine lv_iload_n hx hb dL_law_242 rfl (lv_at hl 3 rfl) ?_
            refine lv_iconst (v := (2 : Int32)) hx hb dL_law_243 (by decide) ?_
            refine lv_iadd hx hb dL_law_244 ?_
            refine zn_top (n := i + 2) (nI_add i 2) ?_
            refine zs_ld hx hb hX hbl hbA hS (i := i + 2) (by omega) (by omega) dL_law_245 ?_
            have hPd := wr_P hP
            have hDd := wr_D hD
            have hFd := w_free hDd hS hA
            refine va_calli (va_runV (As := [.int (xs (i + 1)), .int (xs (i + 2))]) (rest := []) ⟨hx, hb, hml, hown, hts⟩ (ct_X2_follow_no l dC dI ad d0 ar cA H.size L K u hL8 hR.2.1 (xs (i + 1)) (xs (i + 2)) h1 h2) (cwV 2 hts gL_law_X2_follow rfl rfl rfl (by decide +kernel) ⟨Nat.le_of_ble_eq_true rfl, Nat.le_of_ble_eq_true rfl⟩) ⟨dw_blind, va_recv hKd hPd (ci := 2) (q0 := 0) rfl rfl, fun U hU hW9 => dw_call hKd hPd hDd hW hN hS hA hU hW9⟩ rfl rfl hl.1 rfl (lv_room (Nat.le_of_ble_eq_true rfl)) dL_law_246 ⟨by show 5 + L.length + 0 ≤ 600000; omega, by show 61 + 6 * L.length + 0 ≤ 7302250; omega⟩) hS (fun q _ h => hFd q h) hFd (fun r1 _ t H1 locs ht hvm er1 hB hz1 hk1 hS => ?_)
            obtain ⟨hP1, hD1⟩ := hB
            rw [ht] at hP1
            obtain ⟨hP, hD⟩ := w_jr hP hD hk1 hFd hP1 hD1
            generalize H1 = H at hP hS ⊢
            refine lv_aload_n hx hb dL_law_249 rfl (lv_at hl 2 rfl) ?_
            refine lv_aload_n hx hb dL_law_250 rfl (lv_at hl 0 rfl) ?_
            refine lv_iload_n hx hb dL_law_251 rfl (lv_at hl 3 rfl) ?_
            refine lv_iconst (v := (1 : Int32)) hx hb dL_law_252 (by decide) ?_
            refine lv_iadd hx hb dL_law_253 ?_
            refine zn_top (n := i + 1) (nI_add i 1) ?_
            refine zs_ld hx hb hX hbl hbA hS (i := i + 1) (by omega) (by omega) dL_law_254 ?_
            refine lv_aload_n hx hb dL_law_255 rfl (lv_at hl 0 rfl) ?_
            refine lv_iload_n hx hb dL_law_256 rfl (lv_at hl 3 rfl) ?_
            refine lv_iconst (v := (2 : Int32)) hx hb dL_law_257 (by decide) ?_
            refine lv_iadd hx hb dL_law_258 ?_
            refine zn_top (n := i + 2) (nI_add i 2) ?_
            refine zs_ld hx hb hX hbl hbA hS (i := i + 2) (by omega) (by omega) dL_law_259 ?_
            have hPm := wl_P hP
            have hDm := wl_D hD
            have hFm := w_free hDm hS hA
            refine va_calli (va_runV (As := [.int (xs (i + 1)), .int (xs (i + 2))]) (rest := [.int r1]) ⟨hx, hb, hml, hown, hts⟩ (ct_X3_follow_no l dC dI m0 ka na cI cJ H.size L.length kf nf (xs (i + 1)) (xs (i + 2)) h1) (cwV 2 hts gL_law_X3_follow rfl rfl rfl (by decide +kernel) ⟨Nat.le_of_ble_eq_true rfl, Nat.le_of_ble_eq_true rfl⟩) ⟨mw_blind, va_recv hKm hPm (ci := 3) (q0 := 0) rfl rfl, fun U hU hW9 => mw_call hKm hPm hDm hU hW9⟩ rfl rfl hl.1 rfl (lv_room (Nat.le_of_ble_eq_true rfl)) dL_law_260 ⟨by show 5 + L.length + 0 ≤ 600000; omega, by show 61 + 6 * L.length + 0 ≤ 7302250; omega⟩) hS (fun q _ h => hFm q h) hFm (fun r2 _ t H1 locs ht hvm er2 hB hz1 hk1 hS => ?_)
            obtain ⟨hP1, hD1⟩ := hB
            rw [ht] at hP1
            obtain ⟨hP, hD⟩ := w_jl hP hD hk1 hFm hP1 hD1
            generalize H1 = H at hP hS ⊢
            have he : r1 = r2 := er1.trans er2.symm
            have hP : va_P (dC, dI) vwCl (mdW m0 ka na cI cJ L.length kf nf ++ dkW ad d0 ar cA L K u) H := hP
            have hD : va_D A (mdW m0 ka na cI cJ L.length kf nf ++ dkW ad d0 ar cA L K u) := hD
            refine lv_icmp_eq (tgt := 301) hx hb dL_law_263 (by decide) (fun _ => ?_) (fun c9 => absurd he c9)
            exact nx L K u kf nf H locs ls hR hP hD hS hl
          obtain ⟨ib, b2, hib, hx2, hb2, hbm⟩ := ax_ex hL8 h2
          refine lv_aload_n hx hb dL_law_235 rfl (lv_at hl 1 rfl) ?_
          refine lv_aload_n hx hb dL_law_236 rfl (lv_at hl 0 rfl) ?_
          refine lv_iload_n hx hb dL_law_237 rfl (lv_at hl 3 rfl) ?_
          refine lv_iconst (v := (1 : Int32)) hx hb dL_law_238 (by decide) ?_
          refine lv_iadd hx hb dL_law_239 ?_
          refine zn_top (n := i + 1) (nI_add i 1) ?_
          refine zs_ld hx hb hX hbl hbA hS (i := i + 1) (by omega) (by omega) dL_law_240 ?_
          refine lv_aload_n hx hb dL_law_241 rfl (lv_at hl 0 rfl) ?_
          refine lv_iload_n hx hb dL_law_242 rfl (lv_at hl 3 rfl) ?_
          refine lv_iconst (v := (2 : Int32)) hx hb dL_law_243 (by decide) ?_
          refine lv_iadd hx hb dL_law_244 ?_
          refine zn_top (n := i + 2) (nI_add i 2) ?_
          refine zs_ld hx hb hX hbl hbA hS (i := i + 2) (by omega) (by omega) dL_law_245 ?_
          refine zn_top (n := ib) hx2 ?_
          have hPd := wr_P hP
          have hDd := wr_D hD
          have hFd := w_free hDd hS hA
          refine va_calli (va_runV (As := [.int (xs (i + 1)), .int (nI ib)]) (rest := []) ⟨hx, hb, hml, hown, hts⟩ (ct_X2_follow_na l dC dI ad d0 ar cA H.size L K u hL8 hR.2.1 (xs (i + 1)) h1 ib b2 hbm hb2) (cwV 2 hts gL_law_X2_follow rfl rfl rfl (by decide +kernel) ⟨Nat.le_of_ble_eq_true rfl, Nat.le_of_ble_eq_true rfl⟩) ⟨dw_blind, va_recv hKd hPd (ci := 2) (q0 := 0) rfl rfl, fun U hU hW9 => dw_call hKd hPd hDd hW hN hS hA hU hW9⟩ rfl rfl hl.1 rfl (lv_room (Nat.le_of_ble_eq_true rfl)) dL_law_246 ⟨by show 5 + L.length + 0 ≤ 600000; omega, by show 61 + 6 * L.length + 0 ≤ 7302250; omega⟩) hS (fun q _ h => hFd q h) hFd (fun r1 _ t H1 locs ht hvm er1 hB hz1 hk1 hS => ?_)
          obtain ⟨hP1, hD1⟩ := hB
          rw [ht] at hP1
          obtain ⟨hP, hD⟩ := w_jr hP hD hk1 hFd hP1 hD1
          generalize H1 = H at hP hS ⊢
          refine lv_aload_n hx hb dL_law_249 rfl (lv_at hl 2 rfl) ?_
          refine lv_aload_n hx hb dL_law_250 rfl (lv_at hl 0 rfl) ?_
          refine lv_iload_n hx hb dL_law_251 rfl (lv_at hl 3 rfl) ?_
          refine lv_iconst (v := (1 : Int32)) hx hb dL_law_252 (by decide) ?_
          refine lv_iadd hx hb dL_law_253 ?_
          refine zn_top (n := i + 1) (nI_add i 1) ?_
          refine zs_ld hx hb hX hbl hbA hS (i := i + 1) (by omega) (by omega) dL_law_254 ?_
          refine lv_aload_n hx hb dL_law_255 rfl (lv_at hl 0 rfl) ?_
          refine lv_iload_n hx hb dL_law_256 rfl (lv_at hl 3 rfl) ?_
          refine lv_iconst (v := (2 : Int32)) hx hb dL_law_257 (by decide) ?_
          refine lv_iadd hx hb dL_law_258 ?_
          refine zn_top (n := i + 2) (nI_add i 2) ?_
          refine zs_ld hx hb hX hbl hbA hS (i := i + 2) (by omega) (by omega) dL_law_259 ?_
          refine zn_top (n := ib) hx2 ?_
          have hPm := wl_P hP
          have hDm := wl_D hD
          have hFm := w_free hDm hS hA
          refine va_calli (va_runV (As := [.int (xs (i + 1)), .int (nI ib)]) (rest := [.int r1]) ⟨hx, hb, hml, hown, hts⟩ (ct_X3_follow_no l dC dI m0 ka na cI cJ H.size L.length kf nf (xs (i + 1)) (nI ib) h1) (cwV 2 hts gL_law_X3_follow rfl rfl rfl (by decide +kernel) ⟨Nat.le_of_ble_eq_true rfl, Nat.le_of_ble_eq_true rfl⟩) ⟨mw_blind, va_recv hKm hPm (ci := 3) (q0 := 0) rfl rfl, fun U hU hW9 => mw_call hKm hPm hDm hU hW9⟩ rfl rfl hl.1 rfl (lv_room (Nat.le_of_ble_eq_true rfl)) dL_law_260 ⟨by show 5 + L.length + 0 ≤ 600000; omega, by show 61 + 6 * L.length + 0 ≤ 7302250; omega⟩) hS (fun q _ h => hFm q h) hFm (fun r2 _ t H1 locs ht hvm er2 hB hz1 hk1 hS => ?_)
          obtain ⟨hP1, hD1⟩ := hB
          rw [ht] at hP1
          obtain ⟨hP, hD⟩ := w_jl hP hD hk1 hFm hP1 hD1
          generalize H1 = H at hP hS ⊢
          have he : r1 = r2 := er1.trans er2.symm
          have hP : va_P (dC, dI) vwCl (mdW m0 ka na cI cJ L.length kf nf ++ dkW ad d0 ar cA L K u) H := hP
          have hD : va_D A (mdW m0 ka na cI cJ L.length kf nf ++ dkW ad d0 ar cA L K u) := hD
          refine lv_icmp_eq (tgt := 301) hx hb dL_law_263 (by decide) (fun _ => ?_) (fun c9 => absurd he c9)
          exact nx L K u kf nf H locs ls hR hP hD hS hl
        obtain ⟨ia, a, hia, hx1, ha, ham⟩ := ax_ex hL8 h1
        by_cases h2 : fn_X3_isAxis L.length (xs (i + 2)) = 0
        · refine lv_aload_n hx hb dL_law_235 rfl (lv_at hl 1 rfl) ?_
          refine lv_aload_n hx hb dL_law_236 rfl (lv_at hl 0 rfl) ?_
          refine lv_iload_n hx hb dL_law_237 rfl (lv_at hl 3 rfl) ?_
          refine lv_iconst (v := (1 : Int32)) hx hb dL_law_238 (by decide) ?_
          refine lv_iadd hx hb dL_law_239 ?_
          refine zn_top (n := i + 1) (nI_add i 1) ?_
          refine zs_ld hx hb hX hbl hbA hS (i := i + 1) (by omega) (by omega) dL_law_240 ?_
          refine zn_top (n := ia) hx1 ?_
          refine lv_aload_n hx hb dL_law_241 rfl (lv_at hl 0 rfl) ?_
          refine lv_iload_n hx hb dL_law_242 rfl (lv_at hl 3 rfl) ?_
          refine lv_iconst (v := (2 : Int32)) hx hb dL_law_243 (by decide) ?_
          refine lv_iadd hx hb dL_law_244 ?_
          refine zn_top (n := i + 2) (nI_add i 2) ?_
          refine zs_ld hx hb hX hbl hbA hS (i := i + 2) (by omega) (by omega) dL_law_245 ?_
          have hPd := wr_P hP
          have hDd := wr_D hD
          have hFd := w_free hDd hS hA
          refine va_calli (va_runV (As := [.int (nI ia), .int (xs (i + 2))]) (rest := []) ⟨hx, hb, hml, hown, hts⟩ (ct_X2_follow_nb l dC dI ad d0 ar cA H.size L K u hL8 hR.2.1 ia a ham ha (xs (i + 2)) h2) (cwV 2 hts gL_law_X2_follow rfl rfl rfl (by decide +kernel) ⟨Nat.le_of_ble_eq_true rfl, Nat.le_of_ble_eq_true rfl⟩) ⟨dw_blind, va_recv hKd hPd (ci := 2) (q0 := 0) rfl rfl, fun U hU hW9 => dw_call hKd hPd hDd hW hN hS hA hU hW9⟩ rfl rfl hl.1 rfl (lv_room (Nat.le_of_ble_eq_true rfl)) dL_law_246 ⟨by show 5 + L.length + 0 ≤ 600000; omega, by show 61 + 6 * L.length + 0 ≤ 7302250; omega⟩) hS (fun q _ h => hFd q h) hFd (fun r1 _ t H1 locs ht hvm er1 hB hz1 hk1 hS => ?_)
          obtain ⟨hP1, hD1⟩ := hB
          rw [ht] at hP1
          obtain ⟨hP, hD⟩ := w_jr hP hD hk1 hFd hP1 hD1
          generalize H1 = H at hP hS ⊢
          refine lv_aload_n hx hb dL_law_249 rfl (lv_at hl 2 rfl) ?_
          refine lv_aload_n hx hb dL_law_250 rfl (lv_at hl 0 rfl) ?_
          refine lv_iload_n hx hb dL_law_251 rfl (lv_at hl 3 rfl) ?_
          refine lv_iconst (v := (1 : Int32)) hx hb dL_law_252 (by decide) ?_
          refine lv_iadd hx hb dL_law_253 ?_
          refine zn_top (n := i + 1) (nI_add i 1) ?_
          refine zs_ld hx hb hX hbl hbA hS (i := i + 1) (by omega) (by omega) dL_law_254 ?_
          refine zn_top (n := ia) hx1 ?_
          refine lv_aload_n hx hb dL_law_255 rfl (lv_at hl 0 rfl) ?_
          refine lv_iload_n hx hb dL_law_256 rfl (lv_at hl 3 rfl) ?_
          refine lv_iconst (v := (2 : Int32)) hx hb dL_law_257 (by decide) ?_
          refine lv_iadd hx hb dL_law_258 ?_
          refine zn_top (n := i + 2) (nI_add i 2) ?_
          refine zs_ld hx hb hX hbl hbA hS (i := i + 2) (by omega) (by omega) dL_law_259 ?_
          have hPm := wl_P hP
          have hDm := wl_D hD
          have hFm := w_free hDm hS hA
          refine va_calli (va_runV (As := [.int (nI ia), .int (xs (i + 2))]) (rest := [.int r1]) ⟨hx, hb, hml, hown, hts⟩ (ct_X3_follow_nb l dC dI m0 ka na cI cJ H.size L.length kf nf ia (xs (i + 2)) hL8 hia h2) (cwV 2 hts gL_law_X3_follow rfl rfl rfl (by decide +kernel) ⟨Nat.le_of_ble_eq_true rfl, Nat.le_of_ble_eq_true rfl⟩) ⟨mw_blind, va_recv hKm hPm (ci := 3) (q0 := 0) rfl rfl, fun U hU hW9 => mw_call hKm hPm hDm hU hW9⟩ rfl rfl hl.1 rfl (lv_room (Nat.le_of_ble_eq_true rfl)) dL_law_260 ⟨by show 5 + L.length + 0 ≤ 600000; omega, by show 61 + 6 * L.length + 0 ≤ 7302250; omega⟩) hS (fun q _ h => hFm q h) hFm (fun r2 _ t H1 locs ht hvm er2 hB hz1 hk1 hS => ?_)
          obtain ⟨hP1, hD1⟩ := hB
          rw [ht] at hP1
          obtain ⟨hP, hD⟩ := w_jl hP hD hk1 hFm hP1 hD1
          generalize H1 = H at hP hS ⊢
          have he : r1 = r2 := er1.trans er2.symm
          have hP : va_P (dC, dI) vwCl (mdW m0 ka na cI cJ L.length kf nf ++ dkW ad d0 ar cA L K u) H := hP
          have hD : va_D A (mdW m0 ka na cI cJ L.length kf nf ++ dkW ad d0 ar cA L K u) := hD
          refine lv_icmp_eq (tgt := 301) hx hb dL_law_263 (by decide) (fun _ => ?_) (fun c9 => absurd he c9)
          exact nx L K u kf nf H locs ls hR hP hD hS hl
        obtain ⟨ib, b2, hib, hx2, hb2, hbm⟩ := ax_ex hL8 h2
        refine lv_aload_n hx hb dL_law_235 rfl (lv_at hl 1 rfl) ?_
        refine lv_aload_n hx hb dL_law_236 rfl (lv_at hl 0 rfl) ?_
        refine lv_iload_n hx hb dL_law_237 rfl (lv_at hl 3 rfl) ?_
        refine lv_iconst (v := (1 : Int32)) hx hb dL_law_238 (by decide) ?_
        refine lv_iadd hx hb dL_law_239 ?_
        refine zn_top (n := i + 1) (nI_add i 1) ?_
        refine zs_ld hx hb hX hbl hbA hS (i := i + 1) (by omega) (by omega) dL_law_240 ?_
        refine zn_top (n := ia) hx1 ?_
        refine lv_aload_n hx hb dL_law_241 rfl (lv_at hl 0 rfl) ?_
        refine lv_iload_n hx hb dL_law_242 rfl (lv_at hl 3 rfl) ?_
        refine lv_iconst (v := (2 : Int32)) hx hb dL_law_243 (by decide) ?_
        refine lv_iadd hx hb dL_law_244 ?_
        refine zn_top (n := i + 2) (nI_add i 2) ?_
        refine zs_ld hx hb hX hbl hbA hS (i := i + 2) (by omega) (by omega) dL_law_245 ?_
        refine zn_top (n := ib) hx2 ?_
        have hPd := wr_P hP
        have hDd := wr_D hD
        have hFd := w_free hDd hS hA
        refine va_calli (va_runV (As := [.int (nI ia), .int (nI ib)]) (rest := []) ⟨hx, hb, hml, hown, hts⟩ (ct_X2_follow_at l dC dI ad d0 ar cA H.size L K u hL8 hR.2.1 ia a ham ha ib b2 hbm hb2) (cwV 2 hts gL_law_X2_follow rfl rfl rfl (by decide +kernel) ⟨Nat.le_of_ble_eq_true rfl, Nat.le_of_ble_eq_true rfl⟩) ⟨dw_blind, va_recv hKd hPd (ci := 2) (q0 := 0) rfl rfl, fun U hU hW9 => dw_call hKd hPd hDd hW hN hS hA hU hW9⟩ rfl rfl hl.1 rfl (lv_room (Nat.le_of_ble_eq_true rfl)) dL_law_246 ⟨by show 5 + L.length + 0 ≤ 600000; omega, by show 61 + 6 * L.length + 0 ≤ 7302250; omega⟩) hS (fun q _ h => hFd q h) hFd (fun r1 _ t H1 locs ht hvm er1 hB hz1 hk1 hS => ?_)
        obtain ⟨hP1, hD1⟩ := hB
        rw [ht] at hP1
        obtain ⟨hP, hD⟩ := w_jr hP hD hk1 hFd hP1 hD1
        generalize H1 = H at hP hS ⊢
        refine lv_aload_n hx hb dL_law_249 rfl (lv_at hl 2 rfl) ?_
        refine lv_aload_n hx hb dL_law_250 rfl (lv_at hl 0 rfl) ?_
        refine lv_iload_n hx hb dL_law_251 rfl (lv_at hl 3 rfl) ?_
        refine lv_iconst (v := (1 : Int32)) hx hb dL_law_252 (by decide) ?_
        refine lv_iadd hx hb dL_law_253 ?_
        refine zn_top (n := i + 1) (nI_add i 1) ?_
        refine zs_ld hx hb hX hbl hbA hS (i := i + 1) (by omega) (by omega) dL_law_254 ?_
        refine zn_top (n := ia) hx1 ?_
        refine lv_aload_n hx hb dL_law_255 rfl (lv_at hl 0 rfl) ?_
        refine lv_iload_n hx hb dL_law_256 rfl (lv_at hl 3 rfl) ?_
        refine lv_iconst (v := (2 : Int32)) hx hb dL_law_257 (by decide) ?_
        refine lv_iadd hx hb dL_law_258 ?_
        refine zn_top (n := i + 2) (nI_add i 2) ?_
        refine zs_ld hx hb hX hbl hbA hS (i := i + 2) (by omega) (by omega) dL_law_259 ?_
        refine zn_top (n := ib) hx2 ?_
        have hPm := wl_P hP
        have hDm := wl_D hD
        have hFm := w_free hDm hS hA
        refine va_calli (va_runV (As := [.int (nI ia), .int (nI ib)]) (rest := [.int r1]) ⟨hx, hb, hml, hown, hts⟩ (ct_X3_follow_at l dC dI m0 ka na cI cJ H.size L.length kf nf ia ib hL8 hia hib) (cwV 2 hts gL_law_X3_follow rfl rfl rfl (by decide +kernel) ⟨Nat.le_of_ble_eq_true rfl, Nat.le_of_ble_eq_true rfl⟩) ⟨mw_blind, va_recv hKm hPm (ci := 3) (q0 := 0) rfl rfl, fun U hU hW9 => mw_call hKm hPm hDm hU hW9⟩ rfl rfl hl.1 rfl (lv_room (Nat.le_of_ble_eq_true rfl)) dL_law_260 ⟨by show 5 + L.length + 0 ≤ 600000; omega, by show 61 + 6 * L.length + 0 ≤ 7302250; omega⟩) hS (fun q _ h => hFm q h) hFm (fun r2 _ t H1 locs ht hvm er2 hB hz1 hk1 hS => ?_)
        obtain ⟨hP1, hD1⟩ := hB
        rw [ht] at hP1
        obtain ⟨hP, hD⟩ := w_jl hP hD hk1 hFm hP1 hD1
        generalize H1 = H at hP hS ⊢
        have he : r1 = r2 := er1.trans er2.symm
        have hP : va_P (dC, dI) vwCl (mdW m0 ka na cI cJ L.length kf (vp_updL nf (5 * ia + 0) (fn_X3_turnedInto (kf ia) (kf ib) (nf (5 * ib + 0)))) ++ dkW ad d0 ar cA L K (va_up u a (fn_X0_moveTo (K a) (K b2) (u b2).1 (u a).1 (u a).2.1 (u a).2.2.1 (u a).2.2.2.1 (u a).2.2.2.2))) H := hP
        have hD : va_D A (mdW m0 ka na cI cJ L.length kf (vp_updL nf (5 * ia + 0) (fn_X3_turnedInto (kf ia) (kf ib) (nf (5 * ib + 0)))) ++ dkW ad d0 ar cA L K (va_up u a (fn_X0_moveTo (K a) (K b2) (u b2).1 (u a).1 (u a).2.1 (u a).2.2.1 (u a).2.2.2.1 (u a).2.2.2.2))) := hD
        refine lv_icmp_eq (tgt := 301) hx hb dL_law_263 (by decide) (fun _ => ?_) (fun c9 => absurd he c9)
        exact nx L K (va_up u a (fn_X0_moveTo (K a) (K b2) (u b2).1 (u a).1 (u a).2.1 (u a).2.2.1 (u a).2.2.2.1 (u a).2.2.2.2)) kf (vp_updL nf (5 * ia + 0) (fn_X3_turnedInto (kf ia) (kf ib) (nf (5 * ib + 0)))) H locs ls (Rl_follow hR hnd ha hb2) hP hD hS hl
      by_cases q_5 : sw = (5 : Int32)
      · refine lv_tableIn (off := 236) (tgt := 268) hx hb dL_law_32 (by rw [q_5]; decide) (by rw [q_5]; decide) (by rw [q_5]; rfl) (by decide) ?_
        by_cases h1 : fn_X3_isAxis L.length (xs (i + 1)) = 0
        · by_cases h2 : fn_X3_isAxis L.length (xs (i + 2)) = 0
          · refine lv_aload_n hx hb dL_law_268 rfl (lv_at hl 1 rfl) ?_
            refine lv_aload_n hx hb dL_law_269 rfl (lv_at hl 0 rfl) ?_
            refine lv_iload_n hx hb dL_law_270 rfl (lv_at hl 3 rfl) ?_
            refine lv_iconst (v := (1 : Int32)) hx hb dL_law_271 (by decide) ?_
            refine lv_iadd hx hb dL_law_272 ?_
            refine zn_top (n := i + 1) (nI_add i 1) ?_
            refine zs_ld hx hb hX hbl hbA hS (i := i + 1) (by omega) (by omega) dL_law_273 ?_
            refine lv_aload_n hx hb dL_law_274 rfl (lv_at hl 0 rfl) ?_
            refine lv_iload_n hx hb dL_law_275 rfl (lv_at hl 3 rfl) ?_
            refine lv_iconst (v := (2 : Int32)) hx hb dL_law_276 (by decide) ?_
            refine lv_iadd hx hb dL_law_277 ?_
            refine zn_top (n := i + 2) (nI_add i 2) ?_
            refine zs_ld hx hb hX hbl hbA hS (i := i + 2) (by omega) (by omega) dL_law_278 ?_
            have hPd := wr_P hP
            have hDd := wr_D hD
            have hFd := w_free hDd hS hA
            refine vp_callSi (W.runV (As := [.int (xs (i + 1)), .int (xs (i + 2))]) (rest := []) ⟨hx, hb, hml, hown, hts⟩ (ct_X2_order_no l dC dI ad d0 ar cA H.size L K u hL8 hR.2.1 (xs (i + 1)) (xs (i + 2)) h1 h2) (cwV 2 hts gL_law_X2_order rfl rfl rfl (by decide +kernel) ⟨Nat.le_of_ble_eq_true rfl, Nat.le_of_ble_eq_true rfl⟩) ⟨dw_blind, va_recv hKd hPd (ci := 2) (q0 := 0) rfl rfl, fun U hU hW9 => dw_call hKd hPd hDd hW hN hS hA hU hW9⟩ rfl rfl hl.1 rfl (lv_room (Nat.le_of_ble_eq_true rfl)) dL_law_279 ⟨by show 5 + L.length + 0 ≤ 600000; omega, by show 61 + 6 * L.length + 0 ≤ 7302250; omega⟩) (fun r1 er1 => ?_)
            refine lv_aload_n hx hb dL_law_282 rfl (lv_at hl 2 rfl) ?_
            refine lv_aload_n hx hb dL_law_283 rfl (lv_at hl 0 rfl) ?_
            refine lv_iload_n hx hb dL_law_284 rfl (lv_at hl 3 rfl) ?_
            refine lv_iconst (v := (1 : Int32)) hx hb dL_law_285 (by decide) ?_
            refine lv_iadd hx hb dL_law_286 ?_
            refine zn_top (n := i + 1) (nI_add i 1) ?_
            refine zs_ld hx hb hX hbl hbA hS (i := i + 1) (by omega) (by omega) dL_law_287 ?_
            refine lv_aload_n hx hb dL_law_288 rfl (lv_at hl 0 rfl) ?_
            refine lv_iload_n hx hb dL_law_289 rfl (lv_at hl 3 rfl) ?_
            refine lv_iconst (v := (2 : Int32)) hx hb dL_law_290 (by decide) ?_
            refine lv_iadd hx hb dL_law_291 ?_
            refine zn_top (n := i + 2) (nI_add i 2) ?_
            refine zs_ld hx hb hX hbl hbA hS (i := i + 2) (by omega) (by omega) dL_law_292 ?_
            have hPm := wl_P hP
            have hDm := wl_D hD
            have hFm := w_free hDm hS hA
            refine vp_callSi (W.runV (As := [.int (xs (i + 1)), .int (xs (i + 2))]) (rest := [.int r1]) ⟨hx, hb, hml, hown, hts⟩ (ct_X3_order_no l dC dI m0 ka na cI cJ H.size L.length kf nf (xs (i + 1)) (xs (i + 2)) h1) (cwV 2 hts gL_law_X3_order rfl rfl rfl (by decide +kernel) ⟨Nat.le_of_ble_eq_true rfl, Nat.le_of_ble_eq_true rfl⟩) ⟨mw_blind, va_recv hKm hPm (ci := 3) (q0 := 0) rfl rfl, fun U hU hW9 => mw_call hKm hPm hDm hU hW9⟩ rfl rfl hl.1 rfl (lv_room (Nat.le_of_ble_eq_true rfl)) dL_law_293 ⟨by show 5 + L.length + 0 ≤ 600000; omega, by show 61 + 6 * L.length + 0 ≤ 7302250; omega⟩) (fun r2 er2 => ?_)
            have he : r1 = r2 := er1.trans er2.symm
            refine lv_icmp_eq (tgt := 301) hx hb dL_law_296 (by decide) (fun _ => ?_) (fun c9 => absurd he c9)
            exact nx L K u kf nf H locs ls hR hP hD hS hl
          obtain ⟨ib, b2, hib, hx2, hb2, hbm⟩ := ax_ex hL8 h2
          refine lv_aload_n hx hb dL_law_268 rfl (lv_at hl 1 rfl) ?_
          refine lv_aload_n hx hb dL_law_269 rfl (lv_at hl 0 rfl) ?_
          refine lv_iload_n hx hb dL_law_270 rfl (lv_at hl 3 rfl) ?_
          refine lv_iconst (v := (1 : Int32)) hx hb dL_law_271 (by decide) ?_
          refine lv_iadd hx hb dL_law_272 ?_
          refine zn_top (n := i + 1) (nI_add i 1) ?_
          refine zs_ld hx hb hX hbl hbA hS (i := i + 1) (by omega) (by omega) dL_law_273 ?_
          refine lv_aload_n hx hb dL_law_274 rfl (lv_at hl 0 rfl) ?_
          refine lv_iload_n hx hb dL_law_275 rfl (lv_at hl 3 rfl) ?_
          refine lv_iconst (v := (2 : Int32)) hx hb dL_law_276 (by decide) ?_
          refine lv_iadd hx hb dL_law_277 ?_
          refine zn_top (n := i + 2) (nI_add i 2) ?_
          refine zs_ld hx hb hX hbl hbA hS (i := i + 2) (by omega) (by omega) dL_law_278 ?_
          refine zn_top (n := ib) hx2 ?_
          have hPd := wr_P hP
          have hDd := wr_D hD
          have hFd := w_free hDd hS hA
          refine vp_callSi (W.runV (As := [.int (xs (i + 1)), .int (nI ib)]) (rest := []) ⟨hx, hb, hml, hown, hts⟩ (ct_X2_order_na l dC dI ad d0 ar cA H.size L K u hL8 hR.2.1 (xs (i + 1)) h1 ib b2 hbm hb2) (cwV 2 hts gL_law_X2_order rfl rfl rfl (by decide +kernel) ⟨Nat.le_of_ble_eq_true rfl, Nat.le_of_ble_eq_true rfl⟩) ⟨dw_blind, va_recv hKd hPd (ci := 2) (q0 := 0) rfl rfl, fun U hU hW9 => dw_call hKd hPd hDd hW hN hS hA hU hW9⟩ rfl rfl hl.1 rfl (lv_room (Nat.le_of_ble_eq_true rfl)) dL_law_279 ⟨by show 5 + L.length + 0 ≤ 600000; omega, by show 61 + 6 * L.length + 0 ≤ 7302250; omega⟩) (fun r1 er1 => ?_)
          refine lv_aload_n hx hb dL_law_282 rfl (lv_at hl 2 rfl) ?_
          refine lv_aload_n hx hb dL_law_283 rfl (lv_at hl 0 rfl) ?_
          refine lv_iload_n hx hb dL_law_284 rfl (lv_at hl 3 rfl) ?_
          refine lv_iconst (v := (1 : Int32)) hx hb dL_law_285 (by decide) ?_
          refine lv_iadd hx hb dL_law_286 ?_
          refine zn_top (n := i + 1) (nI_add i 1) ?_
          refine zs_ld hx hb hX hbl hbA hS (i := i + 1) (by omega) (by omega) dL_law_287 ?_
          refine lv_aload_n hx hb dL_law_288 rfl (lv_at hl 0 rfl) ?_
          refine lv_iload_n hx hb dL_law_289 rfl (lv_at hl 3 rfl) ?_
          refine lv_iconst (v := (2 : Int32)) hx hb dL_law_290 (by decide) ?_
          refine lv_iadd hx hb dL_law_291 ?_
          refine zn_top (n := i + 2) (nI_add i 2) ?_
          refine zs_ld hx hb hX hbl hbA hS (i := i + 2) (by omega) (by omega) dL_law_292 ?_
          refine zn_top (n := ib) hx2 ?_
          have hPm := wl_P hP
          have hDm := wl_D hD
          have hFm := w_free hDm hS hA
          refine vp_callSi (W.runV (As := [.int (xs (i + 1)), .int (nI ib)]) (rest := [.int r1]) ⟨hx, hb, hml, hown, hts⟩ (ct_X3_order_no l dC dI m0 ka na cI cJ H.size L.length kf nf (xs (i + 1)) (nI ib) h1) (cwV 2 hts gL_law_X3_order rfl rfl rfl (by decide +kernel) ⟨Nat.le_of_ble_eq_true rfl, Nat.le_of_ble_eq_true rfl⟩) ⟨mw_blind, va_recv hKm hPm (ci := 3) (q0 := 0) rfl rfl, fun U hU hW9 => mw_call hKm hPm hDm hU hW9⟩ rfl rfl hl.1 rfl (lv_room (Nat.le_of_ble_eq_true rfl)) dL_law_293 ⟨by show 5 + L.length + 0 ≤ 600000; omega, by show 61 + 6 * L.length + 0 ≤ 7302250; omega⟩) (fun r2 er2 => ?_)
          have he : r1 = r2 := er1.trans er2.symm
          refine lv_icmp_eq (tgt := 301) hx hb dL_law_296 (by decide) (fun _ => ?_) (fun c9 => absurd he c9)
          exact nx L K u kf nf H locs ls hR hP hD hS hl
        obtain ⟨ia, a, hia, hx1, ha, ham⟩ := ax_ex hL8 h1
        by_cases h2 : fn_X3_isAxis L.length (xs (i + 2)) = 0
        · refine lv_aload_n hx hb dL_law_268 rfl (lv_at hl 1 rfl) ?_
          refine lv_aload_n hx hb dL_law_269 rfl (lv_at hl 0 rfl) ?_
          refine lv_iload_n hx hb dL_law_270 rfl (lv_at hl 3 rfl) ?_
          refine lv_iconst (v := (1 : Int32)) hx hb dL_law_271 (by decide) ?_
          refine lv_iadd hx hb dL_law_272 ?_
          refine zn_top (n := i + 1) (nI_add i 1) ?_
          refine zs_ld hx hb hX hbl hbA hS (i := i + 1) (by omega) (by omega) dL_law_273 ?_
          refine zn_top (n := ia) hx1 ?_
          refine lv_aload_n hx hb dL_law_274 rfl (lv_at hl 0 rfl) ?_
          refine lv_iload_n hx hb dL_law_275 rfl (lv_at hl 3 rfl) ?_
          refine lv_iconst (v := (2 : Int32)) hx hb dL_law_276 (by decide) ?_
          refine lv_iadd hx hb dL_law_277 ?_
          refine zn_top (n := i + 2) (nI_add i 2) ?_
          refine zs_ld hx hb hX hbl hbA hS (i := i + 2) (by omega) (by omega) dL_law_278 ?_
          have hPd := wr_P hP
          have hDd := wr_D hD
          have hFd := w_free hDd hS hA
          refine vp_callSi (W.runV (As := [.int (nI ia), .int (xs (i + 2))]) (rest := []) ⟨hx, hb, hml, hown, hts⟩ (ct_X2_order_nb l dC dI ad d0 ar cA H.size L K u hL8 hR.2.1 ia a ham ha (xs (i + 2)) h2) (cwV 2 hts gL_law_X2_order rfl rfl rfl (by decide +kernel) ⟨Nat.le_of_ble_eq_true rfl, Nat.le_of_ble_eq_true rfl⟩) ⟨dw_blind, va_recv hKd hPd (ci := 2) (q0 := 0) rfl rfl, fun U hU hW9 => dw_call hKd hPd hDd hW hN hS hA hU hW9⟩ rfl rfl hl.1 rfl (lv_room (Nat.le_of_ble_eq_true rfl)) dL_law_279 ⟨by show 5 + L.length + 0 ≤ 600000; omega, by show 61 + 6 * L.length + 0 ≤ 7302250; omega⟩) (fun r1 er1 => ?_)
          refine lv_aload_n hx hb dL_law_282 rfl (lv_at hl 2 rfl) ?_
          refine lv_aload_n hx hb dL_law_283 rfl (lv_at hl 0 rfl) ?_
          refine lv_iload_n hx hb dL_law_284 rfl (lv_at hl 3 rfl) ?_
          refine lv_iconst (v := (1 : Int32)) hx hb dL_law_285 (by decide) ?_
          refine lv_iadd hx hb dL_law_286 ?_
          refine zn_top (n := i + 1) (nI_add i 1) ?_
          refine zs_ld hx hb hX hbl hbA hS (i := i + 1) (by omega) (by omega) dL_law_287 ?_
          refine zn_top (n := ia) hx1 ?_
          refine lv_aload_n hx hb dL_law_288 rfl (lv_at hl 0 rfl) ?_
          refine lv_iload_n hx hb dL_law_289 rfl (lv_at hl 3 rfl) ?_
          refine lv_iconst (v := (2 : Int32)) hx hb dL_law_290 (by decide) ?_
          refine lv_iadd hx hb dL_law_291 ?_
          refine zn_top (n := i + 2) (nI_add i 2) ?_
          refine zs_ld hx hb hX hbl hbA hS (i := i + 2) (by omega) (by omega) dL_law_292 ?_
          have hPm := wl_P hP
          have hDm := wl_D hD
          have hFm := w_free hDm hS hA
          refine vp_callSi (W.runV (As := [.int (nI ia), .int (xs (i + 2))]) (rest := [.int r1]) ⟨hx, hb, hml, hown, hts⟩ (ct_X3_order_nb l dC dI m0 ka na cI cJ H.size L.length kf nf ia (xs (i + 2)) hL8 hia h2) (cwV 2 hts gL_law_X3_order rfl rfl rfl (by decide +kernel) ⟨Nat.le_of_ble_eq_true rfl, Nat.le_of_ble_eq_true rfl⟩) ⟨mw_blind, va_recv hKm hPm (ci := 3) (q0 := 0) rfl rfl, fun U hU hW9 => mw_call hKm hPm hDm hU hW9⟩ rfl rfl hl.1 rfl (lv_room (Nat.le_of_ble_eq_true rfl)) dL_law_293 ⟨by show 5 + L.length + 0 ≤ 600000; omega, by show 61 + 6 * L.length + 0 ≤ 7302250; omega⟩) (fun r2 er2 => ?_)
          have he : r1 = r2 := er1.trans er2.symm
          refine lv_icmp_eq (tgt := 301) hx hb dL_law_296 (by decide) (fun _ => ?_) (fun c9 => absurd he c9)
          exact nx L K u kf nf H locs ls hR hP hD hS hl
        obtain ⟨ib, b2, hib, hx2, hb2, hbm⟩ := ax_ex hL8 h2
        have ero := Rl_order hR ha hb2
        by_cases hkk : K a = K b2
        · refine lv_aload_n hx hb dL_law_268 rfl (lv_at hl 1 rfl) ?_
          refine lv_aload_n hx hb dL_law_269 rfl (lv_at hl 0 rfl) ?_
          refine lv_iload_n hx hb dL_law_270 rfl (lv_at hl 3 rfl) ?_
          refine lv_iconst (v := (1 : Int32)) hx hb dL_law_271 (by decide) ?_
          refine lv_iadd hx hb dL_law_272 ?_
          refine zn_top (n := i + 1) (nI_add i 1) ?_
          refine zs_ld hx hb hX hbl hbA hS (i := i + 1) (by omega) (by omega) dL_law_273 ?_
          refine zn_top (n := ia) hx1 ?_
          refine lv_aload_n hx hb dL_law_274 rfl (lv_at hl 0 rfl) ?_
          refine lv_iload_n hx hb dL_law_275 rfl (lv_at hl 3 rfl) ?_
          refine lv_iconst (v := (2 : Int32)) hx hb dL_law_276 (by decide) ?_
          refine lv_iadd hx hb dL_law_277 ?_
          refine zn_top (n := i + 2) (nI_add i 2) ?_
          refine zs_ld hx hb hX hbl hbA hS (i := i + 2) (by omega) (by omega) dL_law_278 ?_
          refine zn_top (n := ib) hx2 ?_
          have hPd := wr_P hP
          have hDd := wr_D hD
          have hFd := w_free hDd hS hA
          refine vp_callSi (W.runV (As := [.int (nI ia), .int (nI ib)]) (rest := []) ⟨hx, hb, hml, hown, hts⟩ (ct_X2_order_at l dC dI ad d0 ar cA H.size L K u hL8 hR.2.1 ia a ham ha ib b2 hbm hb2 hkk) (cwV 2 hts gL_law_X2_order rfl rfl rfl (by decide +kernel) ⟨Nat.le_of_ble_eq_true rfl, Nat.le_of_ble_eq_true rfl⟩) ⟨dw_blind, va_recv hKd hPd (ci := 2) (q0 := 0) rfl rfl, fun U hU hW9 => dw_call hKd hPd hDd hW hN hS hA hU hW9⟩ rfl rfl hl.1 rfl (lv_room (Nat.le_of_ble_eq_true rfl)) dL_law_279 ⟨by show 5 + L.length + 0 ≤ 600000; omega, by show 61 + 6 * L.length + 0 ≤ 7302250; omega⟩) (fun r1 er1 => ?_)
          refine lv_aload_n hx hb dL_law_282 rfl (lv_at hl 2 rfl) ?_
          refine lv_aload_n hx hb dL_law_283 rfl (lv_at hl 0 rfl) ?_
          refine lv_iload_n hx hb dL_law_284 rfl (lv_at hl 3 rfl) ?_
          refine lv_iconst (v := (1 : Int32)) hx hb dL_law_285 (by decide) ?_
          refine lv_iadd hx hb dL_law_286 ?_
          refine zn_top (n := i + 1) (nI_add i 1) ?_
          refine zs_ld hx hb hX hbl hbA hS (i := i + 1) (by omega) (by omega) dL_law_287 ?_
          refine zn_top (n := ia) hx1 ?_
          refine lv_aload_n hx hb dL_law_288 rfl (lv_at hl 0 rfl) ?_
          refine lv_iload_n hx hb dL_law_289 rfl (lv_at hl 3 rfl) ?_
          refine lv_iconst (v := (2 : Int32)) hx hb dL_law_290 (by decide) ?_
          refine lv_iadd hx hb dL_law_291 ?_
          refine zn_top (n := i + 2) (nI_add i 2) ?_
          refine zs_ld hx hb hX hbl hbA hS (i := i + 2) (by omega) (by omega) dL_law_292 ?_
          refine zn_top (n := ib) hx2 ?_
          have hPm := wl_P hP
          have hDm := wl_D hD
          have hFm := w_free hDm hS hA
          refine vp_callSi (W.runV (As := [.int (nI ia), .int (nI ib)]) (rest := [.int r1]) ⟨hx, hb, hml, hown, hts⟩ (ct_X3_order_at l dC dI m0 ka na cI cJ H.size L.length kf nf ia ib hL8 hia hib) (cwV 2 hts gL_law_X3_order rfl rfl rfl (by decide +kernel) ⟨Nat.le_of_ble_eq_true rfl, Nat.le_of_ble_eq_true rfl⟩) ⟨mw_blind, va_recv hKm hPm (ci := 3) (q0 := 0) rfl rfl, fun U hU hW9 => mw_call hKm hPm hDm hU hW9⟩ rfl rfl hl.1 rfl (lv_room (Nat.le_of_ble_eq_true rfl)) dL_law_293 ⟨by show 5 + L.length + 0 ≤ 600000; omega, by show 61 + 6 * L.length + 0 ≤ 7302250; omega⟩) (fun r2 er2 => ?_)
          have he : r1 = r2 := by rw [er1, er2, ero, if_pos hkk]
          refine lv_icmp_eq (tgt := 301) hx hb dL_law_296 (by decide) (fun _ => ?_) (fun c9 => absurd he c9)
          exact nx L K u kf nf H locs ls hR hP hD hS hl
        refine lv_aload_n hx hb dL_law_268 rfl (lv_at hl 1 rfl) ?_
        refine lv_aload_n hx hb dL_law_269 rfl (lv_at hl 0 rfl) ?_
        refine lv_iload_n hx hb dL_law_270 rfl (lv_at hl 3 rfl) ?_
        refine lv_iconst (v := (1 : Int32)) hx hb dL_law_271 (by decide) ?_
        refine lv_iadd hx hb dL_law_272 ?_
        refine zn_top (n := i + 1) (nI_add i 1) ?_
        refine zs_ld hx hb hX hbl hbA hS (i := i + 1) (by omega) (by omega) dL_law_273 ?_
        refine zn_top (n := ia) hx1 ?_
        refine lv_aload_n hx hb dL_law_274 rfl (lv_at hl 0 rfl) ?_
        refine lv_iload_n hx hb dL_law_275 rfl (lv_at hl 3 rfl) ?_
        refine lv_iconst (v := (2 : Int32)) hx hb dL_law_276 (by decide) ?_
        refine lv_iadd hx hb dL_law_277 ?_
        refine zn_top (n := i + 2) (nI_add i 2) ?_
        refine zs_ld hx hb hX hbl hbA hS (i := i + 2) (by omega) (by omega) dL_law_278 ?_
        refine zn_top (n := ib) hx2 ?_
        have hPd := wr_P hP
        have hDd := wr_D hD
        have hFd := w_free hDd hS hA
        refine vp_callSi (W.runV (As := [.int (nI ia), .int (nI ib)]) (rest := []) ⟨hx, hb, hml, hown, hts⟩ (ct_X2_order_ne l dC dI ad d0 ar cA H.size L K u hL8 hR.2.1 ia a ham ha ib b2 hbm hb2 hkk) (cwV 2 hts gL_law_X2_order rfl rfl rfl (by decide +kernel) ⟨Nat.le_of_ble_eq_true rfl, Nat.le_of_ble_eq_true rfl⟩) ⟨dw_blind, va_recv hKd hPd (ci := 2) (q0 := 0) rfl rfl, fun U hU hW9 => dw_call hKd hPd hDd hW hN hS hA hU hW9⟩ rfl rfl hl.1 rfl (lv_room (Nat.le_of_ble_eq_true rfl)) dL_law_279 ⟨by show 5 + L.length + 0 ≤ 600000; omega, by show 61 + 6 * L.length + 0 ≤ 7302250; omega⟩) (fun r1 er1 => ?_)
        refine lv_aload_n hx hb dL_law_282 rfl (lv_at hl 2 rfl) ?_
        refine lv_aload_n hx hb dL_law_283 rfl (lv_at hl 0 rfl) ?_
        refine lv_iload_n hx hb dL_law_284 rfl (lv_at hl 3 rfl) ?_
        refine lv_iconst (v := (1 : Int32)) hx hb dL_law_285 (by decide) ?_
        refine lv_iadd hx hb dL_law_286 ?_
        refine zn_top (n := i + 1) (nI_add i 1) ?_
        refine zs_ld hx hb hX hbl hbA hS (i := i + 1) (by omega) (by omega) dL_law_287 ?_
        refine zn_top (n := ia) hx1 ?_
        refine lv_aload_n hx hb dL_law_288 rfl (lv_at hl 0 rfl) ?_
        refine lv_iload_n hx hb dL_law_289 rfl (lv_at hl 3 rfl) ?_
        refine lv_iconst (v := (2 : Int32)) hx hb dL_law_290 (by decide) ?_
        refine lv_iadd hx hb dL_law_291 ?_
        refine zn_top (n := i + 2) (nI_add i 2) ?_
        refine zs_ld hx hb hX hbl hbA hS (i := i + 2) (by omega) (by omega) dL_law_292 ?_
        refine zn_top (n := ib) hx2 ?_
        have hPm := wl_P hP
        have hDm := wl_D hD
        have hFm := w_free hDm hS hA
        refine vp_callSi (W.runV (As := [.int (nI ia), .int (nI ib)]) (rest := [.int r1]) ⟨hx, hb, hml, hown, hts⟩ (ct_X3_order_at l dC dI m0 ka na cI cJ H.size L.length kf nf ia ib hL8 hia hib) (cwV 2 hts gL_law_X3_order rfl rfl rfl (by decide +kernel) ⟨Nat.le_of_ble_eq_true rfl, Nat.le_of_ble_eq_true rfl⟩) ⟨mw_blind, va_recv hKm hPm (ci := 3) (q0 := 0) rfl rfl, fun U hU hW9 => mw_call hKm hPm hDm hU hW9⟩ rfl rfl hl.1 rfl (lv_room (Nat.le_of_ble_eq_true rfl)) dL_law_293 ⟨by show 5 + L.length + 0 ≤ 600000; omega, by show 61 + 6 * L.length + 0 ≤ 7302250; omega⟩) (fun r2 er2 => ?_)
        have he : r1 = r2 := by rw [er1, er2, ero, if_neg hkk]
        refine lv_icmp_eq (tgt := 301) hx hb dL_law_296 (by decide) (fun _ => ?_) (fun c9 => absurd he c9)
        exact nx L K u kf nf H locs ls hR hP hD hS hl
      refine lv_tableOut (tgt := 301) hx hb dL_law_32 (by have z0 := lv_neT q_0 (a := 0) (by decide); have z1 := lv_neT q_1 (a := 1) (by decide); have z2 := lv_neT q_2 (a := 2) (by decide); have z3 := lv_neT q_3 (a := 3) (by decide); have z4 := lv_neT q_4 (a := 4) (by decide); have z5 := lv_neT q_5 (a := 5) (by decide); omega) (by decide) ?_
      exact nx L K u kf nf H locs ls hR hP hD hS hl
