/-! part 20: the constructors of the class's parts, over a world that is being made -/
def QL (D : va_G) (base n1 : Nat) (f1 : Nat → va_E) (A : Nat → Prop) : Array Value → State → Outcome → State → Prop := fun _ st oc t => oc = .returned none ∧ LW D base n1 f1 A t.heap ∧ va_F A st t
def CL (l : Launch) (y : MethodName) (b : ByteArray) (mx fr lo : Nat) (D : va_G) (base : Nat) (EV : State → Prop) (A : Nat → Prop) (As : List Value) (nc ns n0 : Nat) (f0 : Nat → va_E) (n1 : Nat) (f1 : Nat → va_E) : Prop :=
  (∀ q, base + n0 ≤ q → A q) → Met l y (Cond.code y b mx none :: GW) ({ frames := fr, cells := nc, slots := ns, locals := lo }) (va_Pc As (fun U => LW D base n0 f0 A U.heap ∧ EV U)) (QL D base n1 f1 A) nc ns A
theorem CL.ofW {l : Launch} {y : MethodName} {b : ByteArray} {mx fr lo : Nat} {D : va_G} {base : Nat} {EV : State → Prop} {A : Nat → Prop} {As : List Value} {nc ns n0 : Nat} {f0 : Nat → va_E} {n1 : Nat} {f1 : Nat → va_E}
    (hy : plainName y.cls = true) (hy1 : y.name = "<init>") (L0 : List (Nat × Value)) (hL : lv_args 0 As = L0) (hn : (lg_sl As).length ≤ mx)
    (body : ∀ (R : Room) (p : Program) (e : Env) (s : State) (m : MethodId) (args : Array Value) (below : List Frame) (meth : Method) (c : Code) (ls : Array Slot), R.frames = fr → R.locals = lo → R.cells = nc → R.slots = ns →
      CallFix p m c b mx s args GW y.cls → meth.name = "<init>" → meth.sig.returnType = none → meth.locks = false → EV s → (∀ q, s.heap.size ≤ q → A q) → LZ D base A s.heap n0 f0 s.heap [] → lv_has ls mx L0 →
      W p l e R s m args below meth c s.heap [] 0 0 (MQ below (QL D base n1 f1 A) args s nc ns A) (F0 m 0 ls [])) :
    CL l y b mx fr lo D base EV A As nc ns n0 f0 n1 f1 := by
  intro hA
  refine Met.ofW (cc := b) (maxL := mx) (ret := none) hy rfl ?_
  intro p e s m args below meth c s₁ B hml hv
  obtain ⟨rfl, hPI, hEV⟩ := hv
  have hts := atoms_spec (ws := Cond.code y b mx none :: GW) B.pre
  have hown : s.vm.findClass y.cls = some m.cls := findClass_of_methodNamed B.named
  have hl := lv_entry As hn
  rw [lg_entry_eq]
  rw [hL] at hl
  exact body _ p e s m _ below meth c _ rfl rfl rfl rfl ⟨B.exec, B.bytes, hml, hown, gw_tail hts⟩ ((name_of_methodNamed B.named B.method).1.trans hy1) B.returns B.notSynchronized hEV (fun q hq => hA q (by rw [← hPI.1]; exact hq)) ⟨hPI, va_S.rf⟩ hl
section CTROWS
variable {p : Program} {l : Launch} {e : Env} {R : Room} {s : State} {m : MethodId} {args : Array Value} {below : List Frame} {meth : Method} {c : Code} {H : Heap} {locs : List Loc} {cells slots : Nat} {Q : State → Prop}
variable {cc : ByteArray} {pc nL : Nat} {ls : Array Slot} {rest st0 : List Value} {own : String} {D : va_G} {A : Nat → Prop} {EV : State → Prop} {base n n1 : Nat} {f f1 : Nat → va_E}
theorem l_end (K0 : CallFix p m c cc nL s args GW own) (hr : meth.sig.returnType = none) (hlocks : meth.locks = false) (hZ : LZ D base A s.heap n1 f1 H locs) (hdg : decode cc pc = .ok (.return_, 1)) :
    W p l e R s m args below meth c H locs cells slots (MQ below (QL D base n1 f1 A) args s cells slots A) (F0 m pc ls []) :=
  W.vret K0.1 K0.2.1 hr (fun t ht _ => ⟨rfl, by rw [ht]; exact hZ.1, hZ.2.F ht⟩) hZ.2.2.2 hdg hlocks
theorem l_obj (K0 : CallFix p m c cc nL s args GW own) {index : Nat} {a : Addr} (hlink : Cond.methodLink own index Lib.objectInit ∈ GW) (hls : ls.size = nL) (hcat : (rest.map fun v => v.category).sum ≤ 8) (hR : 1 ≤ R.frames ∧ 20 ≤ R.locals) (hdg : decode cc pc = .ok (.invokespecial index, 3))
    (kk : W p l e R s m args below meth c H locs cells slots Q (F0 m (pc + 3) ls rest)) : W p l e R s m args below meth c H locs cells slots Q (F0 m pc ls (.ref a :: rest)) := by
  have h8 := lv_room (m := m) (pc := pc) (ls := ls) (rest := .ref a :: rest) hcat
  exact W.objInit K0.1 K0.2.1 K0.2.2.2.1 (K0.2.2.2.2 _ hlink) (K0.2.2.2.2 _ q70) (K0.2.2.2.2 _ q71) rfl (hls.trans K0.2.2.1.symm) rfl hdg hR.1 (by have := hR.2; omega) kk
theorem l_aload (hexec : p.tables.exec = Jvm.exec) (hb : c.code = cc) {k : Fin 4} {i : Nat} {tr : Value} (htr : tr = .null ∨ ∃ a, tr = .ref a) (hdg : decode cc pc = .ok (.aload_n k, 1)) (hi : (k : Nat) = i) (hl : ls[i]? = some (.val tr))
    (kk : W p l e R s m args below meth c H locs cells slots Q (F0 m (pc + 1) ls (tr :: rest))) : W p l e R s m args below meth c H locs cells slots Q (F0 m pc ls rest) := by
  rcases htr with rfl | ⟨a, rfl⟩
  · exact lv_aload_nN hexec hb hdg hi hl kk
  · exact lv_aload_n hexec hb hdg hi hl kk
/-- a private constructor of a nest mate -/
theorem l_callN (K0 : CallFix p m c cc nL s args GW own) (hok : EVok EV A) (hEV : EV s) (hA : ∀ q, s.heap.size ≤ q → A q) {a : Addr} {As : List Value} {y : MethodName} {b : ByteArray} {mx fr lo index nc ns : Nat} {host : String}
    (hcall : CL l y b mx fr lo D base EV A (.ref a :: As) nc ns n f n1 f1) (g1 : va_Nw (.methodLinkNest own index y host) s) (g2 : Cond.instanceMethod y ∈ GW) (g4 : Cond.initialized y.cls ∈ GW) (g5 : Cond.code y b mx none ∈ GW) (hy1 : y.name = "<init>")
    (yd : y.cls ≠ "java/lang/invoke/MethodHandle" ∧ y.cls ≠ "java/lang/invoke/VarHandle" ∧ (parseMethodDescriptor y.desc).map (fun d => d.parameters.length) = some As.length) (hR : fr + 1 ≤ R.frames ∧ 8 + (mx + 11) + lo ≤ R.locals) (hroom : cells + nc ≤ R.cells ∧ slots + ns ≤ R.slots)
    (hZ : LZ D base A s.heap n f H locs) (hls : ls.size = nL) (hst : st0 = As.reverse ++ .ref a :: rest) (hcat : (rest.map fun v => v.category).sum ≤ 8) (hdg : decode cc pc = .ok (.invokespecial index, 3))
    (kk : ∀ (H' : Heap) (locs' : List Loc), LZ D base A s.heap n1 f1 H' locs' → W p l e R s m args below meth c H' locs' (cells + nc) (slots + ns) Q (F0 m (pc + 3) ls rest)) : W p l e R s m args below meth c H locs cells slots Q (F0 m pc ls st0) := by
  obtain ⟨hW, hS⟩ := hZ
  intro T hT X
  have hrun : va_Run p l e R s m args below meth c H locs cells slots nc ns (F0 m pc ls st0) rest (QL D base n1 f1 A (Value.ref a :: As).toArray) A := va_runIN (As := As) (rest := rest) K0 (hcall (fun q hq => hA q (Nat.le_trans hS.1 (by rw [hW.1]; exact hq)))) ⟨va_cnB As.length K0.2.2.2.2 (gw_code g5) rfl rfl rfl g1 (K0.2.2.2.2 _ g4) yd hR, hy1, K0.2.2.2.2 _ g2⟩ ⟨fun a U g mk q => ⟨q.1, q.2.1, hok.blind q.2.2 g mk a⟩, fun U hU hW2 => ⟨rfl, by rw [hU]; exact hW, hok s H locs U hEV hS hU hW2⟩⟩ rfl rfl hls hst (lv_room hcat) hdg hroom
  obtain ⟨v, st₀, t, T', L, h0, X', hL, e1, e2, ⟨hv, hp, hz, hk2⟩, st⟩ := hrun T hT X
  have hv' : v = none := Outcome.returned.inj hv
  subst hv'
  rw [h0] at hz hk2
  obtain ⟨t2, a1, b1⟩ := kk T'.heap (locs ++ L) ⟨by rw [e1]; exact hp, ⟨Nat.le_trans hS.1 (by rw [e1]; exact hz), fun q g1 g2 => by rw [e1, hk2 q (Nat.lt_of_lt_of_le g1 hS.1) g2]; exact hS.2.1 q g1 g2, fun q hq => (List.mem_append.mp hq).elim (hS.2.2 q) (fun h => hL q h)⟩⟩ T' rfl X'
  exact ⟨t2, st t2 a1, b1⟩
/-- a constructor that is not private -/
theorem l_callI (K0 : CallFix p m c cc nL s args GW own) (hok : EVok EV A) (hEV : EV s) (hA : ∀ q, s.heap.size ≤ q → A q) {a : Addr} {As : List Value} {y : MethodName} {b : ByteArray} {mx fr lo index nc ns : Nat}
    (hcall : CL l y b mx fr lo D base EV A (.ref a :: As) nc ns n f n1 f1) (g1 : Cond.methodLink own index y ∈ GW) (g2 : Cond.instanceMethod y ∈ GW) (g4 : Cond.initialized y.cls ∈ GW) (g5 : Cond.code y b mx none ∈ GW) (hy1 : y.name = "<init>")
    (yd : y.cls ≠ "java/lang/invoke/MethodHandle" ∧ y.cls ≠ "java/lang/invoke/VarHandle" ∧ (parseMethodDescriptor y.desc).map (fun d => d.parameters.length) = some As.length) (hR : fr + 1 ≤ R.frames ∧ 8 + (mx + 11) + lo ≤ R.locals) (hroom : cells + nc ≤ R.cells ∧ slots + ns ≤ R.slots)
    (hZ : LZ D base A s.heap n f H locs) (hls : ls.size = nL) (hst : st0 = As.reverse ++ .ref a :: rest) (hcat : (rest.map fun v => v.category).sum ≤ 8) (hdg : decode cc pc = .ok (.invokespecial index, 3))
    (kk : ∀ (H' : Heap) (locs' : List Loc), LZ D base A s.heap n1 f1 H' locs' → W p l e R s m args below meth c H' locs' (cells + nc) (slots + ns) Q (F0 m (pc + 3) ls rest)) : W p l e R s m args below meth c H locs cells slots Q (F0 m pc ls st0) := by
  obtain ⟨hW, hS⟩ := hZ
  intro T hT X
  have hrun : va_Run p l e R s m args below meth c H locs cells slots nc ns (F0 m pc ls st0) rest (QL D base n1 f1 A (Value.ref a :: As).toArray) A := va_runI (As := As) (rest := rest) K0 (hcall (fun q hq => hA q (Nat.le_trans hS.1 (by rw [hW.1]; exact hq)))) (cwI As.length K0.2.2.2.2 (gw_code g5) rfl rfl rfl (K0.2.2.2.2 _ g4) (K0.2.2.2.2 _ g1) (K0.2.2.2.2 _ g2) hy1 yd hR) ⟨fun a U g mk q => ⟨q.1, q.2.1, hok.blind q.2.2 g mk a⟩, fun U hU hW2 => ⟨rfl, by rw [hU]; exact hW, hok s H locs U hEV hS hU hW2⟩⟩ rfl rfl hls hst (lv_room hcat) hdg hroom
  obtain ⟨v, st₀, t, T', L, h0, X', hL, e1, e2, ⟨hv, hp, hz, hk2⟩, st⟩ := hrun T hT X
  have hv' : v = none := Outcome.returned.inj hv
  subst hv'
  rw [h0] at hz hk2
  obtain ⟨t2, a1, b1⟩ := kk T'.heap (locs ++ L) ⟨by rw [e1]; exact hp, ⟨Nat.le_trans hS.1 (by rw [e1]; exact hz), fun q g1 g2 => by rw [e1, hk2 q (Nat.lt_of_lt_of_le g1 hS.1) g2]; exact hS.2.1 q g1 g2, fun q hq => (List.mem_append.mp hq).elim (hS.2.2 q) (fun h => hL q h)⟩⟩ T' rfl X'
  exact ⟨t2, st t2 a1, b1⟩
end CTROWS
theorem up_ne {f : Nat → va_E} {k j : Nat} {e : va_E} (h : j ≠ k) : va_up f k e j = f j := if_neg h
theorem up_eq {f : Nat → va_E} {k : Nat} {e : va_E} : va_up f k e k = e := if_pos rfl
theorem up_up {f : Nat → va_E} {k : Nat} {e e1 : va_E} : va_up (va_up f k e) k e1 = va_up f k e1 := by
  funext j
  by_cases h : j = k
  · subst h; rw [up_eq, up_eq]
  · rw [up_ne h, up_ne h, up_ne h]
set_option maxHeartbeats 4000000 in
set_option maxRecDepth 100000 in
/-- Row() -/
theorem c_X2_init (l : Launch) (D : va_G) (w : Wc) (aS : Nat → Nat) (sk sv : Nat) (A : Nat → Prop) (base n k : Nat) (f : Nat → va_E) (hk : k < n) (hf : f k = .inr (4, [.null, .int 0])) :
    CL l yX2_init cX2_init 1 1 20 D base (ENVC D w aS sk sv A) A [.ref (base + k)] 1 30 n f (n + 1) (va_up (va_up f n (.inl (w.1, 30, .inl (fun _ => 0)))) k (.inr (4, [.ref (base + n), .int 0]))) := by
  refine CL.ofW (by decide) rfl [(0, .ref (base + k))] (by simp [lv_args, vr_cat, vc_i, vc_j, vc_f, vc_d, vc_r, vc_n]) (by simp [lg_sl, vr_cat, vc_i, vc_j, vc_f, vc_d, vc_r, vc_n]) ?_
  intro R p e s m args below meth c ls hRf hRl hRc hRs K0 hname hr hlocks hEV hA hZ hl
  have K0 : CallFix p m c cX2_init 1 s args GW RX2 := K0
  have hx := K0.1
  have hb := K0.2.1
  have hK := hEV.1
  have hkn : k ≠ n := Nat.ne_of_lt hk
  refine lv_aload_n hx hb dX2_init_0 rfl (lv_at hl 0 rfl) ?_
  refine l_obj K0 q87 hl.1 (by simp) ⟨by omega, by omega⟩ dX2_init_1 ?_
  refine lv_aload_n hx hb dX2_init_4 rfl (lv_at hl 0 rfl) ?_
  refine lv_bipush (v := (30)) hx hb dX2_init_5 (by decide +kernel) ?_
  refine l_newI K0 hK q97 hA hZ (t0 := 0) rfl (N := 30) (by decide) (by decide) (by decide) (by omega) (by omega) dX2_init_7 (fun H hZ => ?_)
  refine l_putF K0 hK hZ (q0 := k) (by omega) rfl (ci := 4) (fs := [.null, .int 0]) ((up_ne hkn).trans hf) (C := RX2) (T := TX2) (N := 2) rfl iX2 tyX2 tyX2_ok nmX2 0 (by decide) q88 rfl hname rfl (v := .ref (base + n)) rfl rfl (Nat.le_of_ble_eq_true rfl) dX2_init_9 (fun H locs hZ => ?_)
  rw [← hRc, ← hRs]
  rw [hRc, hRs]
  exact l_end K0 hr hlocks hZ dX2_init_12
set_option maxHeartbeats 4000000 in
set_option maxRecDepth 100000 in
/-- Station() -/
theorem c_X3_init (l : Launch) (D : va_G) (w : Wc) (aS : Nat → Nat) (sk sv : Nat) (A : Nat → Prop) (base n k : Nat) (f : Nat → va_E) (hk : k < n) (hf : f k = .inr (5, [.int 0, .int 0, .int 0, .int 0, .int 0, .int 0, .int 0, .long 0])) :
    CL l yX3_init cX3_init 1 1 20 D base (ENVC D w aS sk sv A) A [.ref (base + k)] 0 0 n f n (va_up f k (.inr (5, [.int 0, .int (-1), .int 0, .int 0, .int 0, .int (-1), .int 0, .long 0]))) := by
  refine CL.ofW (by decide) rfl [(0, .ref (base + k))] (by simp [lv_args, vr_cat, vc_i, vc_j, vc_f, vc_d, vc_r, vc_n]) (by simp [lg_sl, vr_cat, vc_i, vc_j, vc_f, vc_d, vc_r, vc_n]) ?_
  intro R p e s m args below meth c ls hRf hRl hRc hRs K0 hname hr hlocks hEV hA hZ hl
  have K0 : CallFix p m c cX3_init 1 s args GW RX3 := K0
  have hx := K0.1
  have hb := K0.2.1
  have hK := hEV.1
  refine lv_aload_n hx hb dX3_init_0 rfl (lv_at hl 0 rfl) ?_
  refine l_obj K0 q102 hl.1 (by simp) ⟨by omega, by omega⟩ dX3_init_1 ?_
  refine lv_aload_n hx hb dX3_init_4 rfl (lv_at hl 0 rfl) ?_
  refine lv_iconst (v := (-1)) hx hb dX3_init_5 (by decide +kernel) ?_
  refine l_put K0 hK hZ (q0 := k) hk rfl (ci := 5) (fs := [.int 0, .int 0, .int 0, .int 0, .int 0, .int 0, .int 0, .long 0]) hf (C := RX3) (T := TX3) (N := 8) rfl iX3 tyX3 tyX3_ok nmX3 1 (by decide) q105 rfl (v := .int (-1)) rfl rfl (Nat.le_of_ble_eq_true rfl) dX3_init_6 (fun H locs hZ => ?_)
  refine lv_aload_n hx hb dX3_init_9 rfl (lv_at hl 0 rfl) ?_
  refine lv_iconst (v := (-1)) hx hb dX3_init_10 (by decide +kernel) ?_
  refine l_put K0 hK hZ (q0 := k) hk rfl (ci := 5) up_eq (C := RX3) (T := TX3) (N := 8) rfl iX3 tyX3 tyX3_ok nmX3 5 (by decide) q114 rfl (v := .int (-1)) rfl rfl (Nat.le_of_ble_eq_true rfl) dX3_init_11 (fun H locs hZ => ?_)
  rw [up_up] at hZ
  exact l_end K0 hr hlocks hZ dX3_init_14
set_option maxHeartbeats 4000000 in
set_option maxRecDepth 100000 in
/-- Trace() -/
theorem c_X4_init (l : Launch) (D : va_G) (w : Wc) (aS : Nat → Nat) (sk sv : Nat) (A : Nat → Prop) (base n k : Nat) (f : Nat → va_E) (hk : k < n) (hf : f k = .inr (6, [.null, .int 0, .null])) :
    CL l yX4_init cX4_init 1 1 20 D base (ENVC D w aS sk sv A) A [.ref (base + k)] 2 37 n f (n + 2) (va_up (va_up (va_up f n (.inl (w.2.1, 32, .inl (fun _ => 0)))) (n + 1) (.inl (w.1, 5, .inl (fun _ => 0)))) k (.inr (6, [.ref (base + n), .int 0, .ref (base + (n + 1))]))) := by
  refine CL.ofW (by decide) rfl [(0, .ref (base + k))] (by simp [lv_args, vr_cat, vc_i, vc_j, vc_f, vc_d, vc_r, vc_n]) (by simp [lg_sl, vr_cat, vc_i, vc_j, vc_f, vc_d, vc_r, vc_n]) ?_
  intro R p e s m args below meth c ls hRf hRl hRc hRs K0 hname hr hlocks hEV hA hZ hl
  have K0 : CallFix p m c cX4_init 1 s args GW RX4 := K0
  have hx := K0.1
  have hb := K0.2.1
  have hK := hEV.1
  have hkn : k ≠ n := Nat.ne_of_lt hk
  have hkn1 : k ≠ n + 1 := by omega
  refine lv_aload_n hx hb dX4_init_0 rfl (lv_at hl 0 rfl) ?_
  refine l_obj K0 q144 hl.1 (by simp) ⟨by omega, by omega⟩ dX4_init_1 ?_
  refine lv_aload_n hx hb dX4_init_4 rfl (lv_at hl 0 rfl) ?_
  refine lv_bipush (v := (32)) hx hb dX4_init_5 (by decide +kernel) ?_
  refine l_newC K0 hK q156 hA hZ (t0 := 1) rfl (N := 32) (by decide) (by decide) (by decide) (by omega) (by omega) dX4_init_7 (fun H hZ => ?_)
  refine l_put K0 hK hZ (q0 := k) (by omega) rfl (ci := 6) (fs := [.null, .int 0, .null]) ((up_ne hkn).trans hf) (C := RX4) (T := TX4) (N := 3) rfl iX4 tyX4 tyX4_ok nmX4 0 (by decide) q145 rfl (v := .ref (base + n)) rfl rfl (Nat.le_of_ble_eq_true rfl) dX4_init_9 (fun H locs hZ => ?_)
  refine lv_aload_n hx hb dX4_init_12 rfl (lv_at hl 0 rfl) ?_
  refine lv_iconst (v := (5)) hx hb dX4_init_13 (by decide +kernel) ?_
  refine l_newI K0 hK q97 hA hZ (t0 := 0) rfl (N := 5) (by decide) (by decide) (by decide) (by omega) (by omega) dX4_init_14 (fun H hZ => ?_)
  refine l_putF K0 hK hZ (q0 := k) (by omega) rfl (ci := 6) ((up_ne hkn1).trans up_eq) (C := RX4) (T := TX4) (N := 3) rfl iX4 tyX4 tyX4_ok nmX4 2 (by decide) q148 rfl hname rfl (v := .ref (base + (n + 1))) rfl rfl (Nat.le_of_ble_eq_true rfl) dX4_init_16 (fun H locs hZ => ?_)
  have he : va_up (va_up (va_up (va_up f n (.inl (w.2.1, 32, .inl (fun _ => 0)))) k (.inr (6, [.ref (base + n), .int 0, .null]))) (n + 1) (.inl (w.1, 5, .inl (fun _ => 0)))) k (.inr (6, [.ref (base + n), .int 0, .ref (base + (n + 1))])) = va_up (va_up (va_up f n (.inl (w.2.1, 32, .inl (fun _ => 0)))) (n + 1) (.inl (w.1, 5, .inl (fun _ => 0)))) k (.inr (6, [.ref (base + n), .int 0, .ref (base + (n + 1))])) := by
    funext j
    by_cases h : j = k
    · subst h; rw [up_eq, up_eq]
    · rw [up_ne h, up_ne h]
      by_cases h1 : j = n + 1
      · subst h1; rw [up_eq, up_eq]
      · rw [up_ne h1, up_ne h1, up_ne h]
  exact l_end K0 hr hlocks (he ▸ hZ) dX4_init_19
set_option maxHeartbeats 4000000 in
set_option maxRecDepth 100000 in
/-- Car(int, Trace) -/
theorem c_X0_init (l : Launch) (D : va_G) (w : Wc) (aS : Nat → Nat) (sk sv : Nat) (A : Nat → Prop) (base n k : Nat) (f : Nat → va_E) (i : Int32) (tr : Value) (htr : tr = .null ∨ ∃ a, tr = .ref a) (hk : k < n) (hf : f k = .inr (2, [.int 0, .null, .int 0, .int 0, .int 0, .int 0, .int 0, .int 0, .int 0, .int 0, .int 0])) :
    CL l yX0_init cX0_init 3 1 20 D base (ENVC D w aS sk sv A) A [.ref (base + k), .int i, tr] 0 0 n f n (va_up f k (.inr (2, [.int i, tr, .int 0, .int 119, .int (-1), .int 0, .int 0, .int 0, .int 0, .int 0, .int 0]))) := by
  have htc : tr.category = 1 := by rcases htr with rfl | ⟨a, rfl⟩ <;> rfl
  refine CL.ofW (by decide) rfl [(0, .ref (base + k)), (1, .int i), (2, tr)] (by rcases htr with rfl | ⟨a, rfl⟩ <;> simp [lv_args, vr_cat, vc_i, vc_j, vc_f, vc_d, vc_r, vc_n]) (by rcases htr with rfl | ⟨a, rfl⟩ <;> simp [lg_sl, vr_cat, vc_i, vc_j, vc_f, vc_d, vc_r, vc_n]) ?_
  intro R p e s m args below meth c ls hRf hRl hRc hRs K0 hname hr hlocks hEV hA hZ hl
  have K0 : CallFix p m c cX0_init 3 s args GW RX0 := K0
  have hx := K0.1
  have hb := K0.2.1
  have hK := hEV.1
  refine lv_aload_n hx hb dX0_init_0 rfl (lv_at hl 0 rfl) ?_
  refine l_obj K0 q160 hl.1 (by simp) ⟨by omega, by omega⟩ dX0_init_1 ?_
  refine lv_aload_n hx hb dX0_init_4 rfl (lv_at hl 0 rfl) ?_
  refine lv_bipush (v := (119)) hx hb dX0_init_5 (by decide +kernel) ?_
  refine l_put K0 hK hZ (q0 := k) hk rfl (ci := 2) hf (C := RX0) (T := TX0) (N := 11) rfl iX0 tyX0 tyX0_ok nmX0 3 (by decide) q168 rfl (v := .int 119) (by decide +kernel) rfl (Nat.le_of_ble_eq_true rfl) dX0_init_7 (fun H locs hZ => ?_)
  refine lv_aload_n hx hb dX0_init_10 rfl (lv_at hl 0 rfl) ?_
  refine lv_iconst (v := (-1)) hx hb dX0_init_11 (by decide +kernel) ?_
  refine l_put K0 hK hZ (q0 := k) hk rfl (ci := 2) up_eq (C := RX0) (T := TX0) (N := 11) rfl iX0 tyX0 tyX0_ok nmX0 4 (by decide) q171 rfl (v := .int (-1)) rfl rfl (Nat.le_of_ble_eq_true rfl) dX0_init_12 (fun H locs hZ => ?_)
  refine lv_aload_n hx hb dX0_init_15 rfl (lv_at hl 0 rfl) ?_
  refine lv_iload_n hx hb dX0_init_16 rfl (lv_at hl 1 rfl) ?_
  refine l_putF K0 hK hZ (q0 := k) hk rfl (ci := 2) up_eq (C := RX0) (T := TX0) (N := 11) rfl iX0 tyX0 tyX0_ok nmX0 0 (by decide) q161 rfl hname rfl (v := .int i) rfl rfl (Nat.le_of_ble_eq_true rfl) dX0_init_17 (fun H locs hZ => ?_)
  refine lv_aload_n hx hb dX0_init_20 rfl (lv_at hl 0 rfl) ?_
  refine l_aload hx hb htr dX0_init_21 rfl (lv_at hl 2 rfl) ?_
  refine l_putF K0 hK hZ (q0 := k) hk rfl (ci := 2) up_eq (C := RX0) (T := TX0) (N := 11) rfl iX0 tyX0 tyX0_ok nmX0 1 (by decide) q163 rfl hname rfl (v := tr) (by rcases htr with rfl | ⟨a, rfl⟩ <;> rfl) (by rcases htr with rfl | ⟨a, rfl⟩ <;> rfl) (Nat.le_of_ble_eq_true rfl) dX0_init_22 (fun H locs hZ => ?_)
  rw [up_up, up_up, up_up] at hZ
  exact l_end K0 hr hlocks hZ dX0_init_25
