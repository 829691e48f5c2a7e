/-! part 28d: the law's start: the class, the reference, the rows of answers are made -/
section START
variable {p : Program} {l : Launch} {e : Env} {R : Room} {s : State} {m : MethodId} {args : Array Value} {below : List Frame} {meth : Method} {c : Code} {H H0 : Heap} {locs : List Loc} {cells slots : Nat} {Q : State → Prop}
variable {cc : ByteArray} {pc nL : Nat} {ls : Array Slot} {rest st0 : List Value} {own : String} {D : va_G} {A : Nat → Prop} {EV : State → Prop} {base n n1 : Nat} {f f1 : Nat → va_E} {tys : List (ClassId × FieldType)}
/-- a new object, and what it leaves alone -/
theorem l_newE (K0 : CallFix p m c cc nL s args GW own) (hK : va_K D vwCl tys s) (hA : ∀ q, H.size ≤ q → A q) (hZ : LW D base n f A H) {C : String} {T : u_T} {N ci index : Nat} (hin : ∀ w ∈ u_ws C T N, w ∈ GW) (ty : Nat → FieldType) (hty : ∀ k, k < N → parseFieldDescriptor (T k).2.2.1 = some (ty k)) (hcl : Cond.classLink own index C ∈ GW) (hinst : Cond.instantiable C N ∈ GW) (hini : Cond.initialized C ∈ GW)
    (hc : vwCl[ci]? = some (C, T, N)) {fs : List Value} (hfs : ∀ j, j < N → defaultValue (ty j) = vp_V fs j) (hcells : cells + 1 ≤ R.cells) (hslots : slots + N ≤ R.slots) (hdg : decode cc pc = .ok (.new index, 3))
    (kk : ∀ (H1 : Heap), LW D base (n + 1) (va_up f n (.inr (ci, fs))) A H1 → (∀ q, q < H.size → H1[q]? = H[q]?) → W p l e R s m args below meth c H1 locs (cells + 1) (slots + N) Q (F0 m (pc + 3) ls (.ref (base + n) :: rest))) : W p l e R s m args below meth c H locs cells slots Q (F0 m pc ls rest) := by
  obtain ⟨hsz, hP, hD⟩ := hZ
  have hKn := hK.1 ci _ hc
  refine W.newcK K0.1 K0.2.1 K0.2.2.2.1 (K0.2.2.2.2 _ hcl) (K0.2.2.2.2 _ hinst) (K0.2.2.2.2 _ hini) rfl hdg hcells hslots hKn.2.1 hsz fun H1 kC hkC e1 z1 o1 => ?_
  refine kk H1 ⟨z1, ?_, ?_⟩ (fun q hq => o1 q (by rw [← hsz]; exact hq))
  · rw [← iwL_push]
    refine (hP.kept (fun k x hx => o1 x.1 (by rw [← hsz]; exact (hP k x hx).lt))).app (fun k x hx => ?_)
    have hz : k < 1 := (List.getElem?_eq_some_iff.mp hx).1
    rw [show k = 0 by omega] at hx
    cases hx
    exact ⟨_, hc, (u_born ty K0.2.2.2.2 hin hKn hkC e1 hty).to hfs⟩
  · rw [← iwL_push]
    exact hD.push hP hsz.symm (hA _ (by rw [← hsz]; exact Nat.le_refl _))
/-- its constructor -/
theorem l_callE (K0 : CallFix p m c cc nL s args GW own) (hok : ∀ U : State, U.heap = H → s.WarmedH U.vm → EV U) (hbl : ∀ (U : State) (hU : EV U) g mk a, EV (U.calling g mk a)) (hA : ∀ q, H.size ≤ q → A q) {a : Addr} {As : List Value} {y : MethodName} {b : ByteArray} {mx fr lo index nc ns : Nat}
    (hcall : CL l y b mx fr lo D base EV A (.ref a :: As) nc ns n f n1 f1) (g1 : Cond.methodLink own index y ∈ GW) (g2 : Cond.instanceMethod y ∈ GW) (g4 : Cond.initialized y.cls ∈ GW) (g5 : Cond.code y b mx none ∈ GW) (hy1 : y.name = "<init>")
    (yd : y.cls ≠ "java/lang/invoke/MethodHandle" ∧ y.cls ≠ "java/lang/invoke/VarHandle" ∧ (parseMethodDescriptor y.desc).map (fun d => d.parameters.length) = some As.length) (hR : fr + 1 ≤ R.frames ∧ 8 + (mx + 11) + lo ≤ R.locals) (hroom : cells + nc ≤ R.cells ∧ slots + ns ≤ R.slots)
    (hW : LW D base n f A H) (hls : ls.size = nL) (hst : st0 = As.reverse ++ .ref a :: rest) (hcat : (rest.map fun v => v.category).sum ≤ 8) (hdg : decode cc pc = .ok (.invokespecial index, 3))
    (kk : ∀ (H1 : Heap) (locs' : List Loc), LW D base n1 f1 A H1 → (∀ q, q < H.size → ¬ A q → H1[q]? = H[q]?) → H.size ≤ H1.size → (∀ q ∈ locs', A q.base) → W p l e R s m args below meth c H1 (locs ++ locs') (cells + nc) (slots + ns) Q (F0 m (pc + 3) ls rest)) : W p l e R s m args below meth c H locs cells slots Q (F0 m pc ls st0) := by
  intro T hT X
  have hrun : va_Run p l e R s m args below meth c H locs cells slots nc ns (F0 m pc ls st0) rest (QL D base n1 f1 A (Value.ref a :: As).toArray) A := va_runI (As := As) (rest := rest) K0 (hcall (fun q hq => hA q (by rw [hW.1]; exact hq))) (cwI As.length K0.2.2.2.2 (gw_code g5) rfl rfl rfl (K0.2.2.2.2 _ g4) (K0.2.2.2.2 _ g1) (K0.2.2.2.2 _ g2) hy1 yd hR) ⟨fun a U g mk q => ⟨q.1, q.2.1, hbl _ q.2.2 g mk a⟩, fun U hU hW2 => ⟨rfl, by rw [hU]; exact hW, hok U hU hW2⟩⟩ rfl rfl hls hst (lv_room hcat) hdg hroom
  obtain ⟨v, st₀, t, T', L, h0, X', hL, e1, e2, ⟨hv, hp, hz, hk2⟩, st⟩ := hrun T hT X
  have hv' : v = none := Outcome.returned.inj hv
  subst hv'
  rw [h0] at hz hk2
  obtain ⟨t2, a1, b1⟩ := kk T'.heap L (by rw [e1]; exact hp) (fun q g1 g2 => by rw [e1]; exact hk2 q g1 g2) (by rw [e1]; exact hz) hL T' rfl X'
  exact ⟨t2, st t2 a1, b1⟩
theorem LW.nil {h : Nat} (hh : H.size = h) : LW D h 0 f A H := ⟨by omega, fun k q hq => by simp [iw] at hq, ⟨fun i j p q hi => by simp [iw] at hi, fun k q hq => by simp [iw] at hq⟩⟩
end START
theorem yd_X5_init : yX5_init.cls ≠ "java/lang/invoke/MethodHandle" ∧ yX5_init.cls ≠ "java/lang/invoke/VarHandle" ∧ (parseMethodDescriptor yX5_init.desc).map (fun d => d.parameters.length) = some 0 := by decide +kernel
theorem yd_X6_init : yX6_init.cls ≠ "java/lang/invoke/MethodHandle" ∧ yX6_init.cls ≠ "java/lang/invoke/VarHandle" ∧ (parseMethodDescriptor yX6_init.desc).map (fun d => d.parameters.length) = some 0 := by decide +kernel
theorem adr_madeM (w : Wm) (base h z n : Nat) {k : Nat} (hk : k < 14) : adrM (wMadeM w base) (sMadeM base h z n) k = base + k := by
  have e : iw 14 (adrL base) (celL (celM (wMadeM w base) (sMadeM base h z n))) (nS 0 0 0) = iw 14 (adrM (wMadeM w base)) (celM (wMadeM w base)) (sMadeM base h z n) := rfl
  have h1 := congrArg (fun l => l[k]?) e
  rw [iw_get hk, iw_get hk] at h1
  exact (congrArg Prod.fst (Option.some.inj h1)).symm
set_option maxHeartbeats 8000000 in
set_option maxRecDepth 100000 in
theorem law_start {p : Program} {l : Launch} {e : Env} {s : State} {m : MethodId} {args : Array Value} {below : List Frame} {meth : Method} {c : Code} {Q : State → Prop} {ls : Array Slot} {D : va_G} {w : Wc} {wm : Wm} {aS : Nat → Nat} {sk sv b : Nat}
    (K0 : CallFix p m c cL_law 9 s args GW RL) (hEV : ENVK D w aS sk sv (fun q => s.heap.size ≤ q) s) (hEVM : ENVM D wm s) (hl : lv_has ls 9 [(0, .ref b)])
    (kk : ∀ (c1 c2 : ClassId) (H : Heap) (ls : Array Slot), ArrOfT s c1 .long → ArrOfT s c2 .double → LQ D (wMade w s.heap.size) (wMadeM wm (s.heap.size + 187)) (s.heap.size + 201) (s.heap.size + 202) c1 c2 s.heap (sMade s.heap.size (s.heap.size + 187) 0 0) (sMadeM (s.heap.size + 187) (s.heap.size + 201) 0 0) (.long 0) (.double 0) H [] 203 3074 →
      lv_has ls 9 (lawL (wMade w s.heap.size) (wMadeM wm (s.heap.size + 187)) (s.heap.size + 201) (s.heap.size + 202) b 0) → W p l e room_1 s m args below meth c H [] 203 3074 Q (F0 m 28 ls [])) :
    W p l e room_1 s m args below meth c s.heap [] 0 0 Q (F0 m 0 ls []) := by
  have hx := K0.1
  have hb := K0.2.1
  have hK := hEV.1.1
  have hok0 : EVok (ENVK D w aS sk sv (fun q => s.heap.size ≤ q)) (fun q => s.heap.size ≤ q) := ENVK.ok
  have hS0 : va_S (fun q => s.heap.size ≤ q) s.heap s.heap [] := va_S.rf
  refine l_newE K0 hK (A := fun q => s.heap.size ≤ q) (fun q hq => hq) (LW.nil (D := D) (f := fun _ => LNz) rfl) (C := RX5) (T := TX5) (N := 2) (ci := 7) iX5 tyX5 tyX5_ok q64 q65 q40 rfl (fs := [.null, .null]) (fun j hj => by rcases j with _ | _ | j <;> first | rfl | omega) (by decide) (by decide) dL_law_0 (fun H1 hW1 hk1 => ?_)
  have z1 := hW1.1
  refine lv_dup hx hb dL_law_3 rfl ?_
  refine l_callE (As := []) (rest := [.ref (s.heap.size + 0)]) K0 (EV := ENVK D w aS sk sv (fun q => s.heap.size ≤ q)) (fun U hU hW => hok0 s H1 [] U hEV ⟨by omega, fun q h1 h2 => hk1 q h1, fun q hq => by cases hq⟩ hU hW) (fun U hU g mk a => hok0.blind hU g mk a) (fun q hq => by show s.heap.size ≤ q; omega) (c_X5_init l D w aS sk sv _ s.heap.size 1 0 _ (by omega) up_eq) q66 q67 q40 q68 rfl yd_X5_init ⟨by decide, by decide⟩ ⟨by decide, by decide⟩ hW1 hl.1 rfl (by simp [vc_r]) dL_law_4 (fun H2 locs2 hW2 hk2 hz2 hf2 => ?_)
  refine va_forget (fun q hq => hf2 q (by simpa using hq)) ?_
  refine W.eq (g2 := F0 m 7 ls [.ref (s.heap.size + 0)]) rfl ?_
  have hPC := made_PC (z := 0) (n := 0) hW2
  have z2 := hW2.1
  refine lv_astore_n (lv' := [(1, .ref (s.heap.size + 0)), (0, .ref b)]) (i := 1) hx hb dL_law_7 rfl hl (by decide) rfl (fun ls hl => ?_)
  refine l_newE K0 hEVM (A := fun q => s.heap.size + 187 ≤ q) (fun q hq => by show s.heap.size + 187 ≤ q; omega) (LW.nil (D := D) (f := fun _ => LNz) (h := s.heap.size + 187) (by omega)) (C := RX6) (T := TX6) (N := 20) (ci := 8) iX6 tyX6 tyX6_ok q1064 q1065 q46 rfl (fs := [.null, .null, .null, .null, .null, .int 0, .int 0, .null, .null, .null, .null, .int 0, .null, .null, .int 0, .null, .null, .int 0, .long 0, .int 0]) (fun j hj => by rcases j with _ | _ | _ | _ | _ | _ | _ | _ | _ | _ | _ | _ | _ | _ | _ | _ | _ | _ | _ | _ | j <;> first | rfl | omega) (by decide) (by decide) dL_law_8 (fun H3 hW3 hk3 => ?_)
  have z3 := hW3.1
  refine lv_dup hx hb dL_law_11 rfl ?_
  refine l_callE (As := []) (rest := [.ref (s.heap.size + 187 + 0)]) K0 (EV := ENVM D wm) (fun U hU hW => va_K.moved hW.alike hEVM) (fun U hU g mk a => (ENVM.ok (A := fun _ => True)).blind hU g mk a) (fun q hq => by show s.heap.size + 187 ≤ q; omega) (c_X6_init l D wm _ (s.heap.size + 187) (s.heap.size + 201) 0 0 _ up_eq) q1066 q1067 q46 q1068 rfl yd_X6_init ⟨by decide, by decide⟩ ⟨by decide, by decide⟩ hW3 hl.1 rfl (by simp [vc_r]) dL_law_12 (fun H4 locs4 hW4 hk4 hz4 hf4 => ?_)
  refine va_forget (fun q hq => Nat.le_trans (Nat.le_add_right _ _) (hf4 q (by simpa using hq))) ?_
  refine W.eq (g2 := F0 m 15 ls [.ref (s.heap.size + 187 + 0)]) rfl ?_
  have hPM := made_PMo (z := 0) (n := 0) hW4
  have z4 := hW4.1
  refine lv_astore_n (lv' := [(2, .ref (s.heap.size + 187 + 0)), (1, .ref (s.heap.size + 0)), (0, .ref b)]) (i := 2) hx hb dL_law_15 rfl hl (by decide) rfl (fun ls hl => ?_)
  refine lv_iconst (v := (1)) hx hb dL_law_16 (by decide +kernel) ?_
  refine va_newaK (atype := .long) (N := 1) (h := s.heap.size + 201) hx hb (K0.2.2.2.2 _ q1372) rfl dL_law_17 rfl (by decide) (by decide) (by decide) (by decide) (by decide) (by omega) (fun H5 c1 e5 z5 k5 ar5 nm5 => ?_)
  refine W.eq (g2 := F0 m 19 ls [.ref (s.heap.size + 201)]) rfl ?_
  refine lv_astore_n (lv' := [(3, .ref (s.heap.size + 201)), (2, .ref (s.heap.size + 187 + 0)), (1, .ref (s.heap.size + 0)), (0, .ref b)]) (i := 3) hx hb dL_law_19 rfl hl (by decide) rfl (fun ls hl => ?_)
  refine lv_iconst (v := (1)) hx hb dL_law_20 (by decide +kernel) ?_
  refine va_newaK (atype := .double) (N := 1) (h := s.heap.size + 202) hx hb (K0.2.2.2.2 _ q1373) rfl dL_law_21 rfl (by decide) (by decide) (by decide) (by decide) (by decide) (by omega) (fun H6 c2 e6 z6 k6 ar6 nm6 => ?_)
  refine W.eq (g2 := F0 m 23 ls [.ref (s.heap.size + 202)]) rfl ?_
  refine lv_astore (lv' := [(4, .ref (s.heap.size + 202)), (3, .ref (s.heap.size + 201)), (2, .ref (s.heap.size + 187 + 0)), (1, .ref (s.heap.size + 0)), (0, .ref b)]) hx hb dL_law_23 hl (by decide) rfl (fun ls hl => ?_)
  refine lv_iconst (v := nI 0) hx hb dL_law_25 (by decide +kernel) ?_
  refine lv_istore (lv' := [(5, .int (nI 0)), (4, .ref (s.heap.size + 202)), (3, .ref (s.heap.size + 201)), (2, .ref (s.heap.size + 187 + 0)), (1, .ref (s.heap.size + 0)), (0, .ref b)]) hx hb dL_law_26 hl (by decide) rfl (fun ls hl => ?_)
  have hPQ2 : PQ D (wMade w s.heap.size) (sMade s.heap.size (s.heap.size + 187) 0 0) H2 := PQ.of hPC
  have hlt : ∀ q, ownC (wMade w s.heap.size) (sMade s.heap.size (s.heap.size + 187) 0 0) q → s.heap.size ≤ q ∧ q < s.heap.size + 187 := fun q hq => by
    obtain ⟨k, hk, rfl⟩ := hq
    rw [adr_made w _ _ _ _ hk]
    exact ⟨Nat.le_add_right _ _, Nat.add_lt_add_left (pmC_lt k hk) _⟩
  have hltM : ∀ q, ownM (wMadeM wm (s.heap.size + 187)) (sMadeM (s.heap.size + 187) (s.heap.size + 201) 0 0) q → s.heap.size + 187 ≤ q ∧ q < s.heap.size + 201 := fun q hq => by
    obtain ⟨k, hk, rfl⟩ := hq
    rw [adr_madeM wm _ _ _ _ hk]
    omega
  have hkeep : ∀ q, q < s.heap.size + 187 → H6[q]? = H2[q]? := fun q hq => by
    rw [k6 q (by omega), k5 q (by omega), hk4 q (by omega) (by show ¬ (s.heap.size + 187 ≤ q); omega), hk3 q (by omega)]
  have hPQm4 : PQm D (wMadeM wm (s.heap.size + 187)) (sMadeM (s.heap.size + 187) (s.heap.size + 201) 0 0) H4 := PQm.of hPM
  refine kk c1 c2 H6 ls ar5 ar6 ⟨⟨hPQ2.kept (fun q hq => hkeep q (hlt q hq).2), hPQm4.kept (fun q hq => by rw [k6 q (by have := (hltM q hq).2; omega), k5 q (hltM q hq).2]), fun q h1 h2 => by have := (hlt q h1).2; have := (hltM q h2).1; omega⟩,
    ⟨fun h => by have := (hlt _ h).2; omega, fun h => by have := (hlt _ h).2; omega, fun h => by have := (hltM _ h).2; omega, fun h => by have := (hltM _ h).2; omega, by omega⟩,
    ⟨by rw [k6 _ (by omega)]; exact e5, e6⟩, ⟨fun q hq => (hlt q hq).1, fun q hq => Nat.le_trans (Nat.le_add_right _ _) (hltM q hq).1, by omega, by omega⟩, ⟨by omega, fun q h1 h2 => ?_, fun q hq => by cases hq⟩, rfl, rfl⟩ hl
  rw [hkeep q (by omega), hk2 q (by omega) h2, hk1 q h1]
