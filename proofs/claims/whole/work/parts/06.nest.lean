/-! The words of private members of nest mates: they are no words of a list, and go with the world. -/
def nsL : List Cond := [.methodLinkNest RX2 23 yX0_init "ServoDesk", .methodLinkNest RX0 17 yX1_least "ServoDesk", .methodLinkNest RX0 26 yX1_greatest "ServoDesk", .methodLinkNest RX2 30 yX0_put "ServoDesk", .methodLinkNest RX0 38 yX1_fitted "ServoDesk", .methodLinkNest RX0 42 yX1_isNumber "ServoDesk", .methodLinkNest RX2 34 yX0_number "ServoDesk", .methodLinkNest RX2 46 yX0_obey "ServoDesk", .methodLinkNest RX0 50 yX1_lesser "ServoDesk", .methodLinkNest RX0 54 yX1_greater "ServoDesk", .methodLinkNest RX0 57 yX1_sized "ServoDesk", .methodLinkNest RX0 60 yX1_wholeBelow "ServoDesk", .methodLinkNest RX0 63 yX1_wholeAbove "ServoDesk", .methodLinkNest RX0 66 yX1_wholeNearest "ServoDesk", .methodLinkNest RX0 87 yX1_one "ServoDesk", .methodLinkNest RX0 72 yX1_turned "ServoDesk", .methodLinkNest RX0 90 yX1_zeroBeside "ServoDesk", .methodLinkNest RX2 50 yX0_moveTo "ServoDesk", .methodLinkNest RX0 46 yX1_made "ServoDesk", .methodLinkNest RX2 62 yX1_compared "ServoDesk", .fieldLinkNest RX2 54 "ServoDesk$Axis" "kind" "LServoDesk$Kind;" "ServoDesk", .fieldLinkNest RX2 58 "ServoDesk$Axis" "place" "J" "ServoDesk"]
def nW (U : State) : Prop := ∀ w ∈ nsL, va_Nw w U
theorem nW_X2_23 {U : State} (h : nW U) : va_Nw (.methodLinkNest RX2 23 yX0_init "ServoDesk") U := h _ (List.mem_of_getElem? (i := 0) rfl)
theorem nW_X0_17 {U : State} (h : nW U) : va_Nw (.methodLinkNest RX0 17 yX1_least "ServoDesk") U := h _ (List.mem_of_getElem? (i := 1) rfl)
theorem nW_X0_26 {U : State} (h : nW U) : va_Nw (.methodLinkNest RX0 26 yX1_greatest "ServoDesk") U := h _ (List.mem_of_getElem? (i := 2) rfl)
theorem nW_X2_30 {U : State} (h : nW U) : va_Nw (.methodLinkNest RX2 30 yX0_put "ServoDesk") U := h _ (List.mem_of_getElem? (i := 3) rfl)
theorem nW_X0_38 {U : State} (h : nW U) : va_Nw (.methodLinkNest RX0 38 yX1_fitted "ServoDesk") U := h _ (List.mem_of_getElem? (i := 4) rfl)
theorem nW_X0_42 {U : State} (h : nW U) : va_Nw (.methodLinkNest RX0 42 yX1_isNumber "ServoDesk") U := h _ (List.mem_of_getElem? (i := 5) rfl)
theorem nW_X2_34 {U : State} (h : nW U) : va_Nw (.methodLinkNest RX2 34 yX0_number "ServoDesk") U := h _ (List.mem_of_getElem? (i := 6) rfl)
theorem nW_X2_46 {U : State} (h : nW U) : va_Nw (.methodLinkNest RX2 46 yX0_obey "ServoDesk") U := h _ (List.mem_of_getElem? (i := 7) rfl)
theorem nW_X0_50 {U : State} (h : nW U) : va_Nw (.methodLinkNest RX0 50 yX1_lesser "ServoDesk") U := h _ (List.mem_of_getElem? (i := 8) rfl)
theorem nW_X0_54 {U : State} (h : nW U) : va_Nw (.methodLinkNest RX0 54 yX1_greater "ServoDesk") U := h _ (List.mem_of_getElem? (i := 9) rfl)
theorem nW_X0_57 {U : State} (h : nW U) : va_Nw (.methodLinkNest RX0 57 yX1_sized "ServoDesk") U := h _ (List.mem_of_getElem? (i := 10) rfl)
theorem nW_X0_60 {U : State} (h : nW U) : va_Nw (.methodLinkNest RX0 60 yX1_wholeBelow "ServoDesk") U := h _ (List.mem_of_getElem? (i := 11) rfl)
theorem nW_X0_63 {U : State} (h : nW U) : va_Nw (.methodLinkNest RX0 63 yX1_wholeAbove "ServoDesk") U := h _ (List.mem_of_getElem? (i := 12) rfl)
theorem nW_X0_66 {U : State} (h : nW U) : va_Nw (.methodLinkNest RX0 66 yX1_wholeNearest "ServoDesk") U := h _ (List.mem_of_getElem? (i := 13) rfl)
theorem nW_X0_87 {U : State} (h : nW U) : va_Nw (.methodLinkNest RX0 87 yX1_one "ServoDesk") U := h _ (List.mem_of_getElem? (i := 14) rfl)
theorem nW_X0_72 {U : State} (h : nW U) : va_Nw (.methodLinkNest RX0 72 yX1_turned "ServoDesk") U := h _ (List.mem_of_getElem? (i := 15) rfl)
theorem nW_X0_90 {U : State} (h : nW U) : va_Nw (.methodLinkNest RX0 90 yX1_zeroBeside "ServoDesk") U := h _ (List.mem_of_getElem? (i := 16) rfl)
theorem nW_X2_50 {U : State} (h : nW U) : va_Nw (.methodLinkNest RX2 50 yX0_moveTo "ServoDesk") U := h _ (List.mem_of_getElem? (i := 17) rfl)
theorem nW_X0_46 {U : State} (h : nW U) : va_Nw (.methodLinkNest RX0 46 yX1_made "ServoDesk") U := h _ (List.mem_of_getElem? (i := 18) rfl)
theorem nW_X2_62 {U : State} (h : nW U) : va_Nw (.methodLinkNest RX2 62 yX1_compared "ServoDesk") U := h _ (List.mem_of_getElem? (i := 19) rfl)
theorem nW_X2_54 {U : State} (h : nW U) : va_Nw (.fieldLinkNest RX2 54 "ServoDesk$Axis" "kind" "LServoDesk$Kind;" "ServoDesk") U := h _ (List.mem_of_getElem? (i := 20) rfl)
theorem nW_X2_58 {U : State} (h : nW U) : va_Nw (.fieldLinkNest RX2 58 "ServoDesk$Axis" "place" "J" "ServoDesk") U := h _ (List.mem_of_getElem? (i := 21) rfl)
theorem nW_warm {s U : State} (hW : s.WarmedH U.vm) (h : nW s) : nW U := List.forall_mem_cons.mpr ⟨va_Nw.warmM hW (nW_X2_23 h), List.forall_mem_cons.mpr ⟨va_Nw.warmM hW (nW_X0_17 h), List.forall_mem_cons.mpr ⟨va_Nw.warmM hW (nW_X0_26 h), List.forall_mem_cons.mpr ⟨va_Nw.warmM hW (nW_X2_30 h), List.forall_mem_cons.mpr ⟨va_Nw.warmM hW (nW_X0_38 h), List.forall_mem_cons.mpr ⟨va_Nw.warmM hW (nW_X0_42 h), List.forall_mem_cons.mpr ⟨va_Nw.warmM hW (nW_X2_34 h), List.forall_mem_cons.mpr ⟨va_Nw.warmM hW (nW_X2_46 h), List.forall_mem_cons.mpr ⟨va_Nw.warmM hW (nW_X0_50 h), List.forall_mem_cons.mpr ⟨va_Nw.warmM hW (nW_X0_54 h), List.forall_mem_cons.mpr ⟨va_Nw.warmM hW (nW_X0_57 h), List.forall_mem_cons.mpr ⟨va_Nw.warmM hW (nW_X0_60 h), List.forall_mem_cons.mpr ⟨va_Nw.warmM hW (nW_X0_63 h), List.forall_mem_cons.mpr ⟨va_Nw.warmM hW (nW_X0_66 h), List.forall_mem_cons.mpr ⟨va_Nw.warmM hW (nW_X0_87 h), List.forall_mem_cons.mpr ⟨va_Nw.warmM hW (nW_X0_72 h), List.forall_mem_cons.mpr ⟨va_Nw.warmM hW (nW_X0_90 h), List.forall_mem_cons.mpr ⟨va_Nw.warmM hW (nW_X2_50 h), List.forall_mem_cons.mpr ⟨va_Nw.warmM hW (nW_X0_46 h), List.forall_mem_cons.mpr ⟨va_Nw.warmM hW (nW_X2_62 h), List.forall_mem_cons.mpr ⟨va_Nw.warmF hW (nW_X2_54 h), List.forall_mem_cons.mpr ⟨va_Nw.warmF hW (nW_X2_58 h), fun _ h => absurd h List.not_mem_nil⟩⟩⟩⟩⟩⟩⟩⟩⟩⟩⟩⟩⟩⟩⟩⟩⟩⟩⟩⟩⟩⟩
theorem nW_same {s U : State} (hv : s.vm = U.vm) (h : nW s) : nW U := List.forall_mem_cons.mpr ⟨va_Nw.same rfl hv (nW_X2_23 h), List.forall_mem_cons.mpr ⟨va_Nw.same rfl hv (nW_X0_17 h), List.forall_mem_cons.mpr ⟨va_Nw.same rfl hv (nW_X0_26 h), List.forall_mem_cons.mpr ⟨va_Nw.same rfl hv (nW_X2_30 h), List.forall_mem_cons.mpr ⟨va_Nw.same rfl hv (nW_X0_38 h), List.forall_mem_cons.mpr ⟨va_Nw.same rfl hv (nW_X0_42 h), List.forall_mem_cons.mpr ⟨va_Nw.same rfl hv (nW_X2_34 h), List.forall_mem_cons.mpr ⟨va_Nw.same rfl hv (nW_X2_46 h), List.forall_mem_cons.mpr ⟨va_Nw.same rfl hv (nW_X0_50 h), List.forall_mem_cons.mpr ⟨va_Nw.same rfl hv (nW_X0_54 h), List.forall_mem_cons.mpr ⟨va_Nw.same rfl hv (nW_X0_57 h), List.forall_mem_cons.mpr ⟨va_Nw.same rfl hv (nW_X0_60 h), List.forall_mem_cons.mpr ⟨va_Nw.same rfl hv (nW_X0_63 h), List.forall_mem_cons.mpr ⟨va_Nw.same rfl hv (nW_X0_66 h), List.forall_mem_cons.mpr ⟨va_Nw.same rfl hv (nW_X0_87 h), List.forall_mem_cons.mpr ⟨va_Nw.same rfl hv (nW_X0_72 h), List.forall_mem_cons.mpr ⟨va_Nw.same rfl hv (nW_X0_90 h), List.forall_mem_cons.mpr ⟨va_Nw.same rfl hv (nW_X2_50 h), List.forall_mem_cons.mpr ⟨va_Nw.same rfl hv (nW_X0_46 h), List.forall_mem_cons.mpr ⟨va_Nw.same rfl hv (nW_X2_62 h), List.forall_mem_cons.mpr ⟨va_Nw.same rfl hv (nW_X2_54 h), List.forall_mem_cons.mpr ⟨va_Nw.same rfl hv (nW_X2_58 h), fun _ h => absurd h List.not_mem_nil⟩⟩⟩⟩⟩⟩⟩⟩⟩⟩⟩⟩⟩⟩⟩⟩⟩⟩⟩⟩⟩⟩
theorem nW_of {A : Array Value} {U : State} (h : ∀ w ∈ nsL, w.before A U = true) : nW U := List.forall_mem_cons.mpr ⟨va_Nw.of rfl (h _ (List.mem_of_getElem? (i := 0) rfl)), List.forall_mem_cons.mpr ⟨va_Nw.of rfl (h _ (List.mem_of_getElem? (i := 1) rfl)), List.forall_mem_cons.mpr ⟨va_Nw.of rfl (h _ (List.mem_of_getElem? (i := 2) rfl)), List.forall_mem_cons.mpr ⟨va_Nw.of rfl (h _ (List.mem_of_getElem? (i := 3) rfl)), List.forall_mem_cons.mpr ⟨va_Nw.of rfl (h _ (List.mem_of_getElem? (i := 4) rfl)), List.forall_mem_cons.mpr ⟨va_Nw.of rfl (h _ (List.mem_of_getElem? (i := 5) rfl)), List.forall_mem_cons.mpr ⟨va_Nw.of rfl (h _ (List.mem_of_getElem? (i := 6) rfl)), List.forall_mem_cons.mpr ⟨va_Nw.of rfl (h _ (List.mem_of_getElem? (i := 7) rfl)), List.forall_mem_cons.mpr ⟨va_Nw.of rfl (h _ (List.mem_of_getElem? (i := 8) rfl)), List.forall_mem_cons.mpr ⟨va_Nw.of rfl (h _ (List.mem_of_getElem? (i := 9) rfl)), List.forall_mem_cons.mpr ⟨va_Nw.of rfl (h _ (List.mem_of_getElem? (i := 10) rfl)), List.forall_mem_cons.mpr ⟨va_Nw.of rfl (h _ (List.mem_of_getElem? (i := 11) rfl)), List.forall_mem_cons.mpr ⟨va_Nw.of rfl (h _ (List.mem_of_getElem? (i := 12) rfl)), List.forall_mem_cons.mpr ⟨va_Nw.of rfl (h _ (List.mem_of_getElem? (i := 13) rfl)), List.forall_mem_cons.mpr ⟨va_Nw.of rfl (h _ (List.mem_of_getElem? (i := 14) rfl)), List.forall_mem_cons.mpr ⟨va_Nw.of rfl (h _ (List.mem_of_getElem? (i := 15) rfl)), List.forall_mem_cons.mpr ⟨va_Nw.of rfl (h _ (List.mem_of_getElem? (i := 16) rfl)), List.forall_mem_cons.mpr ⟨va_Nw.of rfl (h _ (List.mem_of_getElem? (i := 17) rfl)), List.forall_mem_cons.mpr ⟨va_Nw.of rfl (h _ (List.mem_of_getElem? (i := 18) rfl)), List.forall_mem_cons.mpr ⟨va_Nw.of rfl (h _ (List.mem_of_getElem? (i := 19) rfl)), List.forall_mem_cons.mpr ⟨va_Nw.of rfl (h _ (List.mem_of_getElem? (i := 20) rfl)), List.forall_mem_cons.mpr ⟨va_Nw.of rfl (h _ (List.mem_of_getElem? (i := 21) rfl)), fun _ h => absurd h List.not_mem_nil⟩⟩⟩⟩⟩⟩⟩⟩⟩⟩⟩⟩⟩⟩⟩⟩⟩⟩⟩⟩⟩⟩
theorem kw_callA {ad : Nat → Nat} {A B : Nat → Prop} {s U : State} {H : Heap} {locs : List Loc} (h : kw ad A s s.heap) (hS : va_S A s.heap H locs) (hB : ∀ q, B q → A q) (hU : U.heap = H) (hW : s.WarmedH U.vm) : kw ad B U U.heap := by
  rw [hU]
  exact kw_moved hW.alike (kw_narrow (kw_kept h hS.2.1) hB)
/-- an axis' five numbers: PLACE, LOW, HIGH, BAND, WAY -/
abbrev Ax5 : Type := Int64 × Int64 × Int64 × Int64 × Int64
abbrev axE (ad : Nat → Nat) (k : Nat) (u : Ax5) : va_E := .inr (0, [.ref (ad k), .long u.1, .long u.2.1, .long u.2.2.1, .long u.2.2.2.1, .long u.2.2.2.2])
/-- one cell of a world, put into a world of its own -/
theorem va_P1 {D : va_G} {cl : List vw_C} {ws : va_W} {H : Heap} {k : Nat} {q : Nat × va_E} (h : va_P D cl ws H) (hk : ws[k]? = some q) : va_P D cl [q] H := h.by (fun _ => k) (fun j x hj => by
  have hz : j < 1 := (List.getElem?_eq_some_iff.mp hj).1
  rw [show j = 0 by omega] at hj
  cases hj
  exact hk)
theorem va_D1 {A : Nat → Prop} {ws : va_W} {k : Nat} {q : Nat × va_E} (h : va_D A ws) (hk : ws[k]? = some q) : va_D A [q] := ⟨fun i j x y hi hj _ => by
  have h1 : i < 1 := (List.getElem?_eq_some_iff.mp hi).1
  have h2 : j < 1 := (List.getElem?_eq_some_iff.mp hj).1
  omega, fun j x hj => by
  have hz : j < 1 := (List.getElem?_eq_some_iff.mp hj).1
  rw [show j = 0 by omega] at hj
  cases hj
  exact h.2 k _ hk⟩
theorem va_F1 {A : Nat → Prop} {ws : va_W} {H0 H : Heap} {locs : List Loc} {k : Nat} {q : Nat × va_E} (hD : va_D A ws) (hS : va_S A H0 H locs) (hA : ∀ x, H0.size ≤ x → A x) (hk : ws[k]? = some q) : ∀ x, va_A [q] H.size x → A x := by
  intro x h
  rcases h with ⟨j, e, h⟩ | h
  · have hz : j < 1 := (List.getElem?_eq_some_iff.mp h).1
    rw [show j = 0 by omega] at h
    have e1 : q = (x, e) := Option.some.inj h
    have e2 := hD.2 k _ hk
    rw [e1] at e2
    exact e2
  · exact hA x (Nat.le_trans hS.1 h)
/-- behind a call that was given one cell -/
theorem va_J1 {A0 : Nat → Prop} {D : va_G} {cl : List vw_C} {ws : va_W} {H H1 : Heap} {k a : Nat} {e0 e : va_E} (hP : va_P D cl ws H) (hD : va_D A0 ws) (hk : ws[k]? = some (a, e0)) (hq : ∀ q : Nat, q < H.size → ¬ va_A [(a, e0)] H.size q → H1[q]? = H[q]?) (hP1 : va_P D cl [(a, e)] H1) : va_P D cl (ws.set k (a, e)) H1 ∧ va_D A0 (ws.set k (a, e)) := by
  refine ⟨fun j x hj => ?_, hD.set hk⟩
  have hl : k < ws.length := (List.getElem?_eq_some_iff.mp hk).1
  by_cases hjk : j = k
  · subst hjk
    rw [List.getElem?_set_self hl] at hj
    cases hj
    exact hP1 0 _ rfl
  · rw [List.getElem?_set_ne (fun h => hjk h.symm)] at hj
    have hlt := (hP j x hj).lt
    refine (hP j x hj).kept (hq x.1 hlt ?_)
    intro h
    rcases h with ⟨i, e1, h⟩ | h
    · have hz : i < 1 := (List.getElem?_eq_some_iff.mp h).1
      rw [show i = 0 by omega] at h
      have e2 : (a, e0) = (x.1, e1) := Option.some.inj h
      have e3 : x.1 = a := (congrArg Prod.fst e2).symm
      exact hjk (hD.1 j k x (a, e0) hj hk e3)
    · omega
/-- one cell's world set anew at the same place -/
theorem va_Dset {A : Nat → Prop} {a : Nat} {e e1 : va_E} (h : va_D A [(a, e)]) : va_D A [(a, e1)] := h.set (p := 0) rfl
/-- an axis' world: its one cell, the constants, the nest's words -/
def axw (dC : Nat → ClassId) (dI : Nat → Nat → Nat) (ad : Nat → Nat) (h0 sz k : Nat) (u : Ax5) (U : State) : Prop := U.heap.size = sz ∧ va_P (dC, dI) vwCl [(h0, axE ad k u)] U.heap ∧ va_K (dC, dI) vwCl [] U ∧ va_D (fun _ => True) [(h0, axE ad k u)] ∧ kw ad (va_A [(h0, axE ad k u)] sz) U U.heap ∧ nW U
theorem axw_cl {dC : Nat → ClassId} {dI : Nat → Nat → Nat} {ad : Nat → Nat} {h0 sz k : Nat} {u : Ax5} {U : State} {g : JFrame} {mk : MethodId} {a : Array Value} (h : axw dC dI ad h0 sz k u U) : axw dC dI ad h0 sz k u (U.calling g mk a) :=
  ⟨h.1, h.2.1, va_K.moved (u := U) (U := U.calling g mk a) (Vm.Alike.refl U.vm) h.2.2.1, h.2.2.2.1, kw_blind h.2.2.2.2.1, nW_same (s := U) (U := U.calling g mk a) rfl h.2.2.2.2.2⟩
theorem axw_blind {dC : Nat → ClassId} {dI : Nat → Nat → Nat} {ad : Nat → Nat} {h0 sz k : Nat} {u : Ax5} {av : List Value} : FrameBlind (va_Pc av (fun U => axw dC dI ad h0 sz k u U)) := fun _ _ _ _ q => ⟨q.1, axw_cl q.2⟩
theorem axw_call {dC : Nat → ClassId} {dI : Nat → Nat → Nat} {ad : Nat → Nat} {h0 k : Nat} {u : Ax5} {s U : State} {A : Nat → Prop} {H : Heap} {locs : List Loc} {tys : List (ClassId × FieldType)} {av : List Value} (hK : va_K (dC, dI) vwCl tys s) (hP : va_P (dC, dI) vwCl [(h0, axE ad k u)] H) (hD : va_D A [(h0, axE ad k u)]) (hW : kw ad A s s.heap) (hN : nW s) (hS : va_S A s.heap H locs) (hF : ∀ q, va_A [(h0, axE ad k u)] H.size q → A q) (hU : U.heap = H) (hW9 : s.WarmedH U.vm) : va_Pc av (fun U => axw dC dI ad h0 H.size k u U) av.toArray U :=
  ⟨rfl, by rw [hU], by rw [hU]; exact hP, va_K.moved hW9.alike (hK.sub (tys' := []) [] rfl), hD.weaken (fun _ _ _ _ => trivial), kw_callA hW hS hF hU hW9, nW_warm hW9 hN⟩
