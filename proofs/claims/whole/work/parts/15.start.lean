theorem emp_fn : (fun _ : Nat => (none : Option Nat)) = fun i => ([] : List Nat)[i]? := funext (fun i => by simp)
set_option maxHeartbeats 8000000 in
set_option maxRecDepth 100000 in
theorem whole_start {p : Program} {e : Env} {s : State} {m : MethodId} {below : List Frame} {meth : Method} {c : Code} (l : Launch) {b L : Nat} {xs : Nat → Int32} (hL : L ≤ 2560) (C0 : lw_At p s m meth c b L xs) : W p l e room_1 s m #[Value.ref b] below meth c s.heap [] 0 0 (lw_Z below #[Value.ref b] s) (entryFrame m ([Value.ref b] : List Value).toArray 4) := by
  obtain ⟨hx, hb, hr, hml, hown, htt, hX, hbl, hlocks, hgv⟩ := id C0
  have hown : s.vm.findClass RL = some m.cls := hown
  have hb : c.code = cL_law := hb
  have hts : ∀ w ∈ wsL_law, w.before #[Value.ref b] s = true := fun w h => htt w (wsL_law_in w h)
  have hA : ∀ q : Nat, s.heap.size ≤ q → (fun q : Nat => s.heap.size ≤ q) q := fun _ h => h
  have hAf : ∀ q : Nat, (fun q : Nat => s.heap.size ≤ q) q → s.heap.size ≤ q := fun _ h => h
  have hbA : ¬ (fun q : Nat => s.heap.size ≤ q) b := Nat.not_le.mpr hbl
  have hA9 : ∀ a : Nat, a < s.heap.size → ¬ (fun q : Nat => s.heap.size ≤ q) a := fun a h => Nat.not_le.mpr h
  have in2 : ∀ w ∈ u_ws RX2 TX2 2, w ∈ wsL_law := fun _ h => List.mem_append_left _ (List.mem_append_left _ (List.mem_append_left _ (List.mem_append_right _ h)))
  have in3 : ∀ w ∈ u_ws RX3 TX3 3, w ∈ wsL_law := fun _ h => List.mem_append_left _ (List.mem_append_left _ (List.mem_append_right _ h))
  have in0 : ∀ w ∈ u_ws RX0 TX0 6, w ∈ wsL_law := fun _ h => List.mem_append_left _ (List.mem_append_right _ h)
  have in1 : ∀ w ∈ u_ws RX1 TX1 0, w ∈ wsL_law := fun _ h => absurd h List.not_mem_nil
  obtain ⟨c0, iS0, hKn0⟩ := u_known (C := RX0) (T := TX0) (N := 6) (n := 6) hts in0 (htt (.instantiable RX0 6) (by decide +kernel))
  obtain ⟨c1, iS1, hKn1⟩ := u_known (C := RX1) (T := TX1) (N := 0) (n := 8) hts in1 (htt (.instantiable RX1 8) (by decide +kernel))
  obtain ⟨c2, iS2, hKn2⟩ := u_known (C := RX2) (T := TX2) (N := 2) (n := 2) hts in2 (htt (.instantiable RX2 2) (by decide +kernel))
  obtain ⟨c3, iS3, hKn3⟩ := u_known (C := RX3) (T := TX3) (N := 3) (n := 3) hts in3 (htt (.instantiable RX3 3) (by decide +kernel))
  obtain ⟨dC, dI, hKc⟩ : ∃ (dC : Nat → ClassId) (dI : Nat → Nat → Nat), ∀ (k : Nat) (q : vw_C), vwCl[k]? = some q → u_Kn s q.1 q.2.1 q.2.2 (dC k) (dI k) := by
    refine ⟨fun k => if k = 0 then c0 else if k = 1 then c1 else if k = 2 then c2 else c3, fun k => if k = 0 then iS0 else if k = 1 then iS1 else if k = 2 then iS2 else iS3, ?_⟩
    intro k q hq
    match k, hq with
    | 0, hq => cases hq; exact hKn0
    | 1, hq => cases hq; exact hKn1
    | 2, hq => cases hq; exact hKn2
    | 3, hq => cases hq; exact hKn3
    | k + 4, hq => simp at hq
  obtain ⟨ad, tk, hW, hZ⟩ := kinds_start htt hgv (A := (fun q : Nat => s.heap.size ≤ q)) hA9
  have hN : nW s := nW_of (fun w h => htt w (nsL_in w h))
  have hO : va_AO RX0 s := va_AO.of (htt (.arrayOver (.object RX0)) (by decide +kernel))
  have hS : va_S (fun q : Nat => s.heap.size ≤ q) s.heap s.heap [] := va_S.rf
  have hK : va_K (dC, dI) vwCl [] s := ⟨hKc, fun k q h => by simp at h⟩
  have hP : va_P (dC, dI) vwCl [] s.heap := fun k q h => by simp at h
  have hD : va_D (fun q : Nat => s.heap.size ≤ q) [] := ⟨fun i j p q h => by simp at h, fun k q h => by simp at h⟩
  have hl := lv_entry ([.ref b]) (n := 4) (Nat.le_of_ble_eq_true rfl)
  rw [lg_entry_eq]
  generalize (lg_sl ([.ref b]) ++ List.replicate (4 - (lg_sl ([.ref b])).length) Slot.unset).toArray = ls at hl ⊢
  have hl : lv_has ls 4 [(0, .ref b)] := hl
  refine va_new (ci := 2) (fs := [.null, .int 0]) (C := RX2) (T := TX2) (N := 2) hx hb hts in2 tyX2 tyX2_ok hown (htt (.classLink RL 7 RX2) (by decide +kernel)) (htt (.instantiable RX2 2) (by decide +kernel)) (htt (.initialized RX2) (by decide +kernel)) hK hP hD hS hA rfl (fun j hj => by rcases (show j = 0 ∨ j = 1 by omega) with rfl | rfl <;> rfl) (Nat.le_of_ble_eq_true rfl) (Nat.le_of_ble_eq_true rfl) dL_law_0 (fun d0 H hP hD hS => ?_)
  have hP : va_P (dC, dI) vwCl ([(d0, .inr (2, [.null, .int 0]))]) H := hP
  have hD : va_D (fun q : Nat => s.heap.size ≤ q) ([(d0, .inr (2, [.null, .int 0]))]) := hD
  refine W.widen (k := 1) (n := 2) (by omega) (by omega) ?_
  refine lv_dup hx hb dL_law_3 rfl ?_
  have hFc := w_free hD hS hA
  refine va_callv (va_runI (As := []) (rest := [.ref d0]) ⟨hx, hb, hml, hown, hts⟩ (ct_X2_init l dC dI d0 H.size) (cwI 0 hts gL_law_X2_init rfl rfl rfl (htt (.initialized RX2) (by decide +kernel)) (htt (.methodLink RL 9 yX2_init) (by decide +kernel)) (htt (.instanceMethod yX2_init) (by decide +kernel)) rfl (by decide +kernel) ⟨Nat.le_of_ble_eq_true rfl, Nat.le_of_ble_eq_true rfl⟩) ⟨fun a U g mk q => by obtain ⟨q0, q1, qP, qK, qD, qO⟩ := q; exact ⟨q0, q1, qP, va_K.moved (u := U) (U := U.calling g mk a) (Vm.Alike.refl U.vm) qK, qD, va_AO.moved (u := U) (U := U.calling g mk a) (Vm.Alike.refl U.vm) qO⟩, fun U hU hW9 => ⟨rfl, by rw [hU], by rw [hU]; exact hP, va_K.moved hW9.alike hK, hD.weaken (fun _ _ _ _ => trivial), va_AO.moved hW9.alike hO⟩⟩ rfl rfl hl.1 rfl (lv_room (Nat.le_of_ble_eq_true rfl)) dL_law_4 ⟨Nat.le_of_ble_eq_true rfl, Nat.le_of_ble_eq_true rfl⟩) hS (fun q _ h => hFc q h) hFc (fun u t H1 locs ht hvm hw hB hz1 hk1 hS => ?_)
  obtain ⟨ar, cA⟩ := u
  obtain ⟨hP1, hK1, hD1⟩ := hB
  rw [ht] at hP1
  have hKd : va_K (dC, dI) vwCl [(cA, .object RX0)] s := va_K.moved hvm.symm hK1
  obtain ⟨hP, hD⟩ := w_jr (w1 := []) hP hD hk1 hFc hP1 hD1
  generalize H1 = H at hP hS ⊢
  have hP : va_P (dC, dI) vwCl ([(d0, .inr (2, [.ref ar, .int 0])), (ar, .inl (cA, 8, .inr (.inr (.inr (.inr (fun _ => none))))))]) H := hP
  have hD : va_D (fun q : Nat => s.heap.size ≤ q) ([(d0, .inr (2, [.ref ar, .int 0])), (ar, .inl (cA, 8, .inr (.inr (.inr (.inr (fun _ => none))))))]) := hD
  refine W.widen (k := 2) (n := 10) (by omega) (by omega) ?_
  refine lv_astore_n (lv' := [(1, .ref d0), (0, .ref b)]) hx hb dL_law_7 rfl hl (by decide) rfl (fun ls hl => ?_)
  refine va_new (ci := 3) (fs := [.null, .null, .int 0]) (C := RX3) (T := TX3) (N := 3) hx hb hts in3 tyX3 tyX3_ok hown (htt (.classLink RL 10 RX3) (by decide +kernel)) (htt (.instantiable RX3 3) (by decide +kernel)) (htt (.initialized RX3) (by decide +kernel)) hK hP hD hS hA rfl (fun j hj => by rcases (show j = 0 ∨ j = 1 ∨ j = 2 by omega) with rfl | rfl | rfl <;> rfl) (Nat.le_of_ble_eq_true rfl) (Nat.le_of_ble_eq_true rfl) dL_law_8 (fun m0 H hP hD hS => ?_)
  have hP2 := wl_P hP
  have hD2 := wl_D hD
  have hPm := wr_P hP
  have hDm := wr_D hD
  have hP : va_P (dC, dI) vwCl ([(d0, .inr (2, [.ref ar, .int 0])), (ar, .inl (cA, 8, .inr (.inr (.inr (.inr (fun _ => none))))))] ++ [(m0, .inr (3, [.null, .null, .int 0]))]) H := hP
  have hD : va_D (fun q : Nat => s.heap.size ≤ q) ([(d0, .inr (2, [.ref ar, .int 0])), (ar, .inl (cA, 8, .inr (.inr (.inr (.inr (fun _ => none))))))] ++ [(m0, .inr (3, [.null, .null, .int 0]))]) := hD
  refine W.widen (k := 3) (n := 13) (by omega) (by omega) ?_
  refine lv_dup hx hb dL_law_11 rfl ?_
  have hFm := w_free hDm hS hA
  refine va_callv (va_runI (As := []) (rest := [.ref m0]) ⟨hx, hb, hml, hown, hts⟩ (ct_X3_init l dC dI m0 H.size) (cwI 0 hts gL_law_X3_init rfl rfl rfl (htt (.initialized RX3) (by decide +kernel)) (htt (.methodLink RL 12 yX3_init) (by decide +kernel)) (htt (.instanceMethod yX3_init) (by decide +kernel)) rfl (by decide +kernel) ⟨Nat.le_of_ble_eq_true rfl, Nat.le_of_ble_eq_true rfl⟩) ⟨fun a U g mk q => by obtain ⟨q0, q1, qP, qK, qD⟩ := q; exact ⟨q0, q1, qP, va_K.moved (u := U) (U := U.calling g mk a) (Vm.Alike.refl U.vm) qK, qD⟩, fun U hU hW9 => ⟨rfl, by rw [hU], by rw [hU]; exact hPm, va_K.moved hW9.alike hK, hDm.weaken (fun _ _ _ _ => trivial)⟩⟩ rfl rfl hl.1 rfl (lv_room (Nat.le_of_ble_eq_true rfl)) dL_law_12 ⟨Nat.le_of_ble_eq_true rfl, Nat.le_of_ble_eq_true rfl⟩) hS (fun q _ h => hFm q h) hFm (fun u t H1 locs ht hvm hw hB hz1 hk1 hS => ?_)
  obtain ⟨ka, na, cI, cJ⟩ := u
  obtain ⟨hP1, hK1, hD1⟩ := hB
  rw [ht] at hP1
  have hKm : va_K (dC, dI) vwCl [(cI, .int), (cJ, .long)] s := va_K.moved hvm.symm hK1
  obtain ⟨hP, hD⟩ := w_jr hP hD hk1 hFm hP1 hD1
  generalize H1 = H at hP hS ⊢
  have hP : va_P (dC, dI) vwCl ([(d0, .inr (2, [.ref ar, .int 0])), (ar, .inl (cA, 8, .inr (.inr (.inr (.inr (fun _ => none))))))] ++ mdW m0 ka na cI cJ 0 (fun _ => 0) (fun _ => 0)) H := hP
  have hD : va_D (fun q : Nat => s.heap.size ≤ q) ([(d0, .inr (2, [.ref ar, .int 0])), (ar, .inl (cA, 8, .inr (.inr (.inr (.inr (fun _ => none))))))] ++ mdW m0 ka na cI cJ 0 (fun _ => 0) (fun _ => 0)) := hD
  have hP : va_P (dC, dI) vwCl (mdW m0 ka na cI cJ ([] : List Nat).length (fun _ => 0) (fun _ => 0) ++ dkW ad d0 ar cA [] (fun _ => 0) (fun _ => axI 0)) H := by
    have h := hP.sub (ws' := mdW m0 ka na cI cJ 0 (fun _ => 0) (fun _ => 0) ++ [(d0, .inr (2, [.ref ar, .int 0])), (ar, .inl (cA, 8, .inr (.inr (.inr (.inr (fun _ => none))))))]) [2, 3, 4, 0, 1] rfl
    rw [emp_fn] at h
    exact h
  have hD : va_D (fun q : Nat => s.heap.size ≤ q) (mdW m0 ka na cI cJ ([] : List Nat).length (fun _ => 0) (fun _ => 0) ++ dkW ad d0 ar cA [] (fun _ => 0) (fun _ => axI 0)) := by
    have h := hD.sub (ws' := mdW m0 ka na cI cJ 0 (fun _ => 0) (fun _ => 0) ++ [(d0, .inr (2, [.ref ar, .int 0])), (ar, .inl (cA, 8, .inr (.inr (.inr (.inr (fun _ => none))))))]) [2, 3, 4, 0, 1] (by decide) rfl
    rw [emp_fn] at h
    exact h
  refine W.widen (k := 5 + ([] : List Nat).length) (n := 61 + 6 * ([] : List Nat).length) (by decide) (by decide) ?_
  refine lv_astore_n (lv' := [(2, .ref m0), (1, .ref d0), (0, .ref b)]) hx hb dL_law_15 rfl hl (by decide) rfl (fun ls hl => ?_)
  refine lv_iconst (v := 0) hx hb dL_law_16 (by decide) ?_
  refine lv_istore_n (lv' := [(3, .int 0), (2, .ref m0), (1, .ref d0), (0, .ref b)]) hx hb dL_law_17 rfl hl (by decide) rfl (fun ls hl => ?_)
  exact law_loop l hL hx hb hr hml hown hts hX hbl hlocks hA hbA hAf hKm hKd hW hZ hN L 0 (by omega) (by omega) [] (fun _ => 0) (fun _ => axI 0) (fun _ => 0) (fun _ => 0) H locs ls ⟨by decide, fun a h => absurd h List.not_mem_nil, fun i a h => by simp at h⟩ hP hD hS (lv_sub hl [3, 2, 1, 0] rfl)
