/-! part 05: contracts by programs, and their calls -/
def EVok (EV : State → Prop) (A : Nat → Prop) : Prop := ∀ (s : State) (H : Heap) (locs : List Loc) (U : State), EV s → va_S A s.heap H locs → U.heap = H → s.WarmedH U.vm → EV U
theorem EVok.blind {EV : State → Prop} {A : Nat → Prop} (h : EVok EV A) {U : State} (hU : EV U) (g : JFrame) (mk : MethodId) (a : Array Value) : EV (U.calling g mk a) := h U U.heap [] (U.calling g mk a) hU va_S.rf rfl (State.WarmedH.refl U)
def CT {ρ : Type} (l : Launch) (y : MethodName) (b : ByteArray) (n : Nat) (rt : Option FieldType) (fr lo : Nat) (PI : St → Heap → Prop) (EV : State → Prop) (A : Nat → Prop) (As : List Value) (f : PM ρ) (val : ρ → Option Value) : Prop :=
  ∀ (S : St) (E : ρ × St), f.1 S = some E → (∀ q, gN S 2 0 ≤ q → A q) → Met l y (Cond.code y b n rt :: GW) ({ frames := fr, cells := gN E.2 7 0 - gN S 7 0, slots := gN E.2 3 0 - gN S 3 0, locals := lo }) (va_Pc As (fun U => PI S U.heap ∧ EV U)) (fun _ st oc t => oc = .returned (val E.1) ∧ PI E.2 t.heap ∧ va_F A st t) (gN E.2 7 0 - gN S 7 0) (gN E.2 3 0 - gN S 3 0) A
section CALLS
variable {p : Program} {l : Launch} {e : Env} {R : Room} {s : State} {m : MethodId} {args : Array Value} {below : List Frame} {meth : Method} {c : Code} {H : Heap} {locs : List Loc} {cells slots : Nat} {Q : State → Prop}
variable {cc : ByteArray} {pc nL : Nat} {ls : Array Slot} {rest st0 : List Value} {own : String} {ρ ρ1 : Type} {E0 : ρ × St} {S S0 : St} {D : va_G} {nW : Nat} {adr : St → Nat → Nat} {cel : St → Nat → va_E} {A : Nat → Prop} {tys : List (ClassId × FieldType)} {EV : State → Prop}
variable {f : PM ρ1} {k : ρ1 → PM ρ} {val : ρ1 → Option Value}
theorem call_run (hE : (bnd f k).1 S = some E0) (hZ : ZZ D nW adr cel A S0 s.heap S H locs cells slots) (hRc : R.cells = gN E0.2 7 0 - gN S0 7 0 ∧ R.slots = gN E0.2 3 0 - gN S0 3 0)
    (hrun : ∀ E : ρ1 × St, f.1 S = some E → cells + (gN E.2 7 0 - gN S 7 0) ≤ R.cells ∧ slots + (gN E.2 3 0 - gN S 3 0) ≤ R.slots → va_Run p l e R s m args below meth c H locs cells slots (gN E.2 7 0 - gN S 7 0) (gN E.2 3 0 - gN S 3 0) (F0 m pc ls st0) rest (fun st oc t => oc = .returned (val E.1) ∧ PW D nW adr cel A E.2 t.heap ∧ va_F A st t) A)
    (kk : ∀ (r : ρ1) (S' : St) (H' : Heap) (locs' : List Loc) (cells' slots' : Nat), (k r).1 S' = some E0 → ZZ D nW adr cel A S0 s.heap S' H' locs' cells' slots' → W p l e R s m args below meth c H' locs' cells' slots' Q (F0 m (pc + 3) ls ((val r).toList ++ rest))) : W p l e R s m args below meth c H locs cells slots Q (F0 m pc ls st0) := by
  obtain ⟨a, S', hf, hk⟩ := bnd_inv hE
  have h1 := f.2 S _ hf
  have h2 := (k a).2 S' _ hk
  dsimp only at h1
  obtain ⟨hW, hS, h7, h3⟩ := hZ
  intro T hT X
  obtain ⟨v, st₀, t, T', L, h0, X', hL, e1, e2, ⟨hv, hp, hz, hk2⟩, st⟩ := hrun _ hf ⟨by dsimp only; omega, by dsimp only; omega⟩ T hT X
  have hv' : v = val a := Outcome.returned.inj hv
  subst hv'
  rw [h0] at hz hk2
  obtain ⟨t2, a1, b1⟩ := kk a S' T'.heap (locs ++ L) _ _ hk ⟨by rw [e1]; exact hp, ⟨Nat.le_trans hS.1 (by rw [e1]; exact hz), fun q g1 g2 => by rw [e1, hk2 q (Nat.lt_of_lt_of_le g1 hS.1) g2]; exact hS.2.1 q g1 g2, fun q hq => (List.mem_append.mp hq).elim (hS.2.2 q) (fun h => hL q h)⟩, by show cells + (gN S' 7 0 - gN S 7 0) + gN S0 7 0 = gN S' 7 0; omega, by show slots + (gN S' 3 0 - gN S 3 0) + gN S0 3 0 = gN S' 3 0; omega⟩ T' rfl X'
  exact ⟨t2, st t2 a1, b1⟩
theorem call_hA {A : Nat → Prop} (hA : ∀ q, s.heap.size ≤ q → A q) (hZ : ZZ D nW adr cel A S0 s.heap S H locs cells slots) : ∀ q, gN S 2 0 ≤ q → A q := fun q hq => hA q (Nat.le_trans hZ.2.1.1 (by rw [hZ.1.1]; exact hq))
theorem call_pre (hok : EVok EV A) (hEV : EV s) (hZ : ZZ D nW adr cel A S0 s.heap S H locs cells slots) {U : State} (hU : U.heap = H) (hW : s.WarmedH U.vm) : PW D nW adr cel A S U.heap ∧ EV U := ⟨by rw [hU]; exact hZ.1, hok s H locs U hEV hZ.2.1 hU hW⟩
theorem call_blind (hok : EVok EV A) {As : List Value} {PI : St → Heap → Prop} : FrameBlind (va_Pc As (fun U => PI S U.heap ∧ EV U)) := fun a U g mk q => ⟨q.1, q.2.1, hok.blind q.2.2 g mk a⟩
/-- an instance method, called on the x-th object of a kind -/
theorem call_V (K0 : CallFix p m c cc nL s args GW own) (hK : va_K D vwCl tys s) (hok : EVok EV A) (hEV : EV s) (hA : ∀ q, s.heap.size ≤ q → A q) {ad : Nat → Nat} {off nn x : Nat} {As : List Value} {y : MethodName} {b : ByteArray} {n fr lo index : Nat} {rt : Option FieldType}
    (hcall : CT l y b n rt fr lo (PW D nW adr cel A) EV A (vr ad off nn x :: As) f val) {C : String} (g1 : Cond.methodLink own index y ∈ GW) (g2 : Cond.instanceMethod y ∈ GW) (g3 : Cond.selects C y y ∈ GW) (g4 : Cond.initialized C ∈ GW) (g5 : Cond.code y b n rt ∈ GW)
    (yd : y.cls = C ∧ y.cls ≠ "java/lang/invoke/MethodHandle" ∧ y.cls ≠ "java/lang/invoke/VarHandle" ∧ (parseMethodDescriptor y.desc).map (fun d => d.parameters.length) = some As.length) (hR : fr + 1 ≤ R.frames ∧ 8 + (n + 11) + lo ≤ R.locals) (hRc : R.cells = gN E0.2 7 0 - gN S0 7 0 ∧ R.slots = gN E0.2 3 0 - gN S0 3 0)
    {ci : Nat} {q : vw_C} (hc : vwCl[ci]? = some q) (hq1 : q.1 = C) (hcel : x < nn → off + x < nW ∧ adr S (off + x) = ad (off + x) ∧ ∃ fs, cel S (off + x) = .inr (ci, fs))
    (hE : (if x < nn then bnd f k else fail).1 S = some E0) (hZ : ZZ D nW adr cel A S0 s.heap S H locs cells slots) (hls : ls.size = nL) (hst : st0 = As.reverse ++ vr ad off nn x :: rest) (hcat : (rest.map fun v => v.category).sum ≤ 8) (hdg : decode cc pc = .ok (.invokevirtual index, 3))
    (kk : ∀ (r : ρ1) (S' : St) (H' : Heap) (locs' : List Loc) (cells' slots' : Nat), (k r).1 S' = some E0 → ZZ D nW adr cel A S0 s.heap S' H' locs' cells' slots' → W p l e R s m args below meth c H' locs' cells' slots' Q (F0 m (pc + 3) ls ((val r).toList ++ rest))) : W p l e R s m args below meth c H locs cells slots Q (F0 m pc ls st0) := by
  obtain ⟨hx, hE⟩ := if_ok hE
  rw [vr_ref hx] at hst hcall
  obtain ⟨hq, had, fs, hcel⟩ := hcel hx
  refine call_run hE hZ hRc (fun E hf hroom => ?_) kk
  have hgv := gw_V g1 g2 g3 g4 g5
  subst hq1
  exact va_runV (As := As) (rest := rest) K0 (hcall S E hf (call_hA hA hZ)) (cwV As.length K0.2.2.2.2 hgv rfl rfl rfl yd hR) ⟨call_blind hok, va_recv hK hZ.1.2.1 (ci := ci) (q0 := off + x) hc (by rw [iw_get hq, hcel, had]), fun U hU hW => ⟨rfl, call_pre hok hEV hZ hU hW⟩⟩ rfl rfl hls hst (lv_room hcat) hdg hroom
theorem gw_vS {own : String} {idx : Nat} {y : MethodName} {cw : Cond} (h1 : Cond.methodLink own idx y ∈ GW) (h2 : Cond.static y ∈ GW) (h4 : Cond.initialized y.cls ∈ GW) (h5 : cw ∈ GW) : GoodIn GW (va_wsS own idx y (cw :: GW)) := by
  intro w hw
  unfold va_wsS at hw
  rcases List.mem_append.mp hw with h | h
  · simp only [List.mem_cons, List.not_mem_nil, or_false] at h
    rcases h with rfl | rfl | rfl
    · exact gw_good _ h1
    · exact gw_good _ h2
    · exact gw_good _ h4
  · exact gw_code h5 w h
/-- a static method -/
theorem call_S (K0 : CallFix p m c cc nL s args GW own) (hok : EVok EV A) (hEV : EV s) (hA : ∀ q, s.heap.size ≤ q → A q) {C : String} {As : List Value} {y : MethodName} {b : ByteArray} {n fr lo index : Nat} {rt : Option FieldType}
    (hcall : CT l y b n rt fr lo (PW D nW adr cel A) EV A As f val) (g1 : Cond.methodLink own index y ∈ GW) (g2 : Cond.static y ∈ GW) (g4 : Cond.initialized y.cls ∈ GW) (g5 : Cond.code y b n rt ∈ GW)
    (yd : y.cls = C ∧ y.cls ≠ "java/lang/invoke/MethodHandle" ∧ y.cls ≠ "java/lang/invoke/VarHandle" ∧ (parseMethodDescriptor y.desc).map (fun d => d.parameters.length) = some As.length) (hR : fr + 1 ≤ R.frames ∧ 8 + (n + 11) + lo ≤ R.locals) (hRc : R.cells = gN E0.2 7 0 - gN S0 7 0 ∧ R.slots = gN E0.2 3 0 - gN S0 3 0)
    (hE : (bnd f k).1 S = some E0) (hZ : ZZ D nW adr cel A S0 s.heap S H locs cells slots) (hls : ls.size = nL) (hst : st0 = As.reverse ++ rest) (hcat : (rest.map fun v => v.category).sum ≤ 8) (hdg : decode cc pc = .ok (.invokestatic index, 3))
    (kk : ∀ (r : ρ1) (S' : St) (H' : Heap) (locs' : List Loc) (cells' slots' : Nat), (k r).1 S' = some E0 → ZZ D nW adr cel A S0 s.heap S' H' locs' cells' slots' → W p l e R s m args below meth c H' locs' cells' slots' Q (F0 m (pc + 3) ls ((val r).toList ++ rest))) : W p l e R s m args below meth c H locs cells slots Q (F0 m pc ls st0) := by
  refine call_run hE hZ hRc (fun E hf hroom => ?_) kk
  exact va_runS (As := As) (rest := rest) K0 (hcall S E hf (call_hA hA hZ)) (va_cwS As.length K0.2.2.2.2 (gw_vS g1 g2 g4 g5) rfl rfl rfl yd.2 hR) ⟨call_blind hok, fun U hU hW => ⟨rfl, call_pre hok hEV hZ hU hW⟩⟩ rfl rfl hls hst (lv_room hcat) hdg hroom
/-- a method's end -/
theorem end_E {Qv : ρ → Option Value} {PI : St → Heap → Prop} {v : Option Value} {r : ρ} (hE : (rtn r).1 S = some E0) (hv : v = Qv r) (hPI : PI = PW D nW adr cel A) (hZ : ZZ D nW adr cel A S0 s.heap S H locs cells slots) :
    E0 = (r, S) ∧ cells = gN E0.2 7 0 - gN S0 7 0 ∧ slots = gN E0.2 3 0 - gN S0 3 0 ∧ ∀ t : State, t.heap = H → (Outcome.returned v = .returned (Qv E0.1) ∧ PI E0.2 t.heap ∧ va_F A s t) := by
  have h : (r, S) = E0 := Option.some.inj hE
  subst h
  refine ⟨rfl, by have := hZ.2.2.1; dsimp only; omega, by have := hZ.2.2.2; dsimp only; omega, fun t ht => ⟨by rw [hv], by rw [hPI, ht]; exact hZ.1, hZ.2.1.F ht⟩⟩
end CALLS
