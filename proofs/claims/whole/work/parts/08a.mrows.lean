/-! Rows over arrays whose index is a natural number. -/
section ZM
variable {p : Program} {l : Launch} {e : Env} {R : Room} {s : State} {m : MethodId} {args : Array Value} {below : List Frame} {meth : Method} {c : Code} {H : Heap} {locs : List Loc} {cells slots : Nat} {Q : State → Prop}
variable {cc : ByteArray} {pc : Nat} {ls : Array Slot} {rest : List Value} {D : va_G} {cl : List vw_C} {A : Nat → Prop} {a : Nat} {tys : List (ClassId × FieldType)} {ws : va_W} {H0 : Heap}
theorem zn_top {x : Int32} {n : Nat} (h : x = nI n) (k : W p l e R s m args below meth c H locs cells slots Q (F0 m pc ls (.int (nI n) :: rest))) : W p l e R s m args below meth c H locs cells slots Q (F0 m pc ls (.int x :: rest)) := by
  rw [h]
  exact k
theorem zm_iald (hx : p.tables.exec = Jvm.exec) (hb : c.code = cc) (hK : va_K D cl tys s) (hP : va_P D cl ws H) (q0 t0 : Nat) {cA : ClassId} {n : Nat} {f : Nat → Int32} (ha : ws[q0]? = some (a, .inl (cA, n, .inl f))) (ht : tys[t0]? = some (cA, .int)) {i : Nat} (hi : i < n) (hn : n < 2 ^ 31) (hdg : decode cc pc = .ok (.iaload, 1)) (kk : W p l e R s m args below meth c H locs cells slots Q (F0 m (pc + 1) ls (.int (f i) :: rest))) : W p l e R s m args below meth c H locs cells slots Q (F0 m pc ls (.int (nI i) :: .ref a :: rest)) := va_iald hx hb hK hP q0 t0 ha ht (vp_in_nI hi hn) hdg (by rw [nI_clamp (Nat.lt_trans hi hn)]; exact kk)
theorem zm_lald (hx : p.tables.exec = Jvm.exec) (hb : c.code = cc) (hK : va_K D cl tys s) (hP : va_P D cl ws H) (q0 t0 : Nat) {cA : ClassId} {n : Nat} {f : Nat → Int64} (ha : ws[q0]? = some (a, .inl (cA, n, .inr (.inl f)))) (ht : tys[t0]? = some (cA, .long)) {i : Nat} (hi : i < n) (hn : n < 2 ^ 31) (hdg : decode cc pc = .ok (.laload, 1)) (kk : W p l e R s m args below meth c H locs cells slots Q (F0 m (pc + 1) ls (.long (f i) :: rest))) : W p l e R s m args below meth c H locs cells slots Q (F0 m pc ls (.int (nI i) :: .ref a :: rest)) := va_lald hx hb hK hP q0 t0 ha ht (vp_in_nI hi hn) hdg (by rw [nI_clamp (Nat.lt_trans hi hn)]; exact kk)
theorem zm_iast (hx : p.tables.exec = Jvm.exec) (hb : c.code = cc) (hK : va_K D cl tys s) (hP : va_P D cl ws H) (hD : va_D A ws) (hS : va_S A H0 H locs) (q0 t0 : Nat) {cA : ClassId} {n : Nat} {f : Nat → Int32} (ha : ws[q0]? = some (a, .inl (cA, n, .inl f))) (ht : tys[t0]? = some (cA, .int)) {i : Nat} {x : Int32} (hi : i < n) (hn : n < 2 ^ 31) (hdg : decode cc pc = .ok (.iastore, 1)) (kk : ∀ (H1 : Heap) (locs1 : List Loc), va_P D cl (ws.set q0 (a, .inl (cA, n, .inl (upd f i x)))) H1 → va_D A (ws.set q0 (a, .inl (cA, n, .inl (upd f i x)))) → va_S A H0 H1 locs1 → W p l e R s m args below meth c H1 locs1 cells slots Q (F0 m (pc + 1) ls rest)) : W p l e R s m args below meth c H locs cells slots Q (F0 m pc ls (.int x :: .int (nI i) :: .ref a :: rest)) := va_iast hx hb hK hP hD hS q0 t0 ha ht (vp_in_nI hi hn) hdg (by rw [nI_clamp (Nat.lt_trans hi hn)]; exact kk)
theorem zm_last (hx : p.tables.exec = Jvm.exec) (hb : c.code = cc) (hK : va_K D cl tys s) (hP : va_P D cl ws H) (hD : va_D A ws) (hS : va_S A H0 H locs) (q0 t0 : Nat) {cA : ClassId} {n : Nat} {f : Nat → Int64} (ha : ws[q0]? = some (a, .inl (cA, n, .inr (.inl f)))) (ht : tys[t0]? = some (cA, .long)) {i : Nat} {x : Int64} (hi : i < n) (hn : n < 2 ^ 31) (hdg : decode cc pc = .ok (.lastore, 1)) (kk : ∀ (H1 : Heap) (locs1 : List Loc), va_P D cl (ws.set q0 (a, .inl (cA, n, .inr (.inl (vp_updL f i x))))) H1 → va_D A (ws.set q0 (a, .inl (cA, n, .inr (.inl (vp_updL f i x))))) → va_S A H0 H1 locs1 → W p l e R s m args below meth c H1 locs1 cells slots Q (F0 m (pc + 1) ls rest)) : W p l e R s m args below meth c H locs cells slots Q (F0 m pc ls (.long x :: .int (nI i) :: .ref a :: rest)) := va_last hx hb hK hP hD hS q0 t0 ha ht (vp_in_nI hi hn) hdg (by rw [nI_clamp (Nat.lt_trans hi hn)]; exact kk)
end ZM
/-- the reference's three cells -/
abbrev mdW (m0 ka na : Nat) (cI cJ : ClassId) (n : Nat) (kf : Nat → Int32) (nf : Nat → Int64) : va_W := [(m0, .inr (3, [.ref ka, .ref na, .int (nI n)])), (ka, .inl (cI, 8, .inl kf)), (na, .inl (cJ, 40, .inr (.inl nf)))]
def mw (dC : Nat → ClassId) (dI : Nat → Nat → Nat) (m0 ka na : Nat) (cI cJ : ClassId) (sz n : Nat) (kf : Nat → Int32) (nf : Nat → Int64) (U : State) : Prop := U.heap.size = sz ∧ va_P (dC, dI) vwCl (mdW m0 ka na cI cJ n kf nf) U.heap ∧ va_K (dC, dI) vwCl [(cI, .int), (cJ, .long)] U ∧ va_D (fun _ => True) (mdW m0 ka na cI cJ n kf nf)
theorem mw_blind {dC : Nat → ClassId} {dI : Nat → Nat → Nat} {m0 ka na : Nat} {cI cJ : ClassId} {sz n : Nat} {kf : Nat → Int32} {nf : Nat → Int64} {av : List Value} : FrameBlind (va_Pc av (fun U => mw dC dI m0 ka na cI cJ sz n kf nf U)) := fun a U g mk q => ⟨q.1, q.2.1, q.2.2.1, va_K.moved (u := U) (U := U.calling g mk a) (Vm.Alike.refl U.vm) q.2.2.2.1, q.2.2.2.2⟩
theorem mw_call {dC : Nat → ClassId} {dI : Nat → Nat → Nat} {m0 ka na : Nat} {cI cJ : ClassId} {n : Nat} {kf : Nat → Int32} {nf : Nat → Int64} {s U : State} {A : Nat → Prop} {H : Heap} {av : List Value} (hK : va_K (dC, dI) vwCl [(cI, .int), (cJ, .long)] s) (hP : va_P (dC, dI) vwCl (mdW m0 ka na cI cJ n kf nf) H) (hD : va_D A (mdW m0 ka na cI cJ n kf nf)) (hU : U.heap = H) (hW9 : s.WarmedH U.vm) : va_Pc av (fun U => mw dC dI m0 ka na cI cJ H.size n kf nf U) av.toArray U :=
  ⟨rfl, by rw [hU], by rw [hU]; exact hP, va_K.moved hW9.alike hK, hD.weaken (fun _ _ _ _ => trivial)⟩
/-- an int that is no axis, or the number of one -/
def fn_X3_isAxis (n : Nat) (v1 : Int32) : Int32 := if v1 < 0 then (0 : Int32) else if nI n ≤ v1 then (0 : Int32) else (1 : Int32)
theorem isax {n : Nat} {v1 : Int32} (hn : n ≤ 8) (h : ¬ fn_X3_isAxis n v1 = 0) : ∃ a : Nat, a < n ∧ v1 = nI a := by
  unfold fn_X3_isAxis at h
  by_cases h1 : v1 < 0
  · rw [if_pos h1] at h
    exact absurd rfl h
  · rw [if_neg h1] at h
    by_cases h2 : nI n ≤ v1
    · rw [if_pos h2] at h
      exact absurd rfl h
    · obtain ⟨j, hj, rfl⟩ := nI_of h1
      refine ⟨j, ?_, rfl⟩
      rcases Nat.lt_or_ge j n with q | q
      · exact q
      · exact absurd (nI_le q hj) h2
theorem isax_in {n a : Nat} (hn : n ≤ 8) (h : a < n) : fn_X3_isAxis n (nI a) = 1 := by
  unfold fn_X3_isAxis
  rw [if_neg (nI_pos (by omega)), if_neg (nI_ge h (by omega))]
theorem what_of {v : Int32} (h1 : ¬ v < 0) (h2 : ¬ 4 < v) : ∃ w : Nat, w < 5 ∧ v = nI w := by
  obtain ⟨j, hj, rfl⟩ := nI_of h1
  refine ⟨j, ?_, rfl⟩
  rcases Nat.lt_or_ge j 5 with q | q
  · exact q
  · exact absurd (nI_lt (a := 4) (b := j) (by omega) hj) h2
