/-! part 26: the law's own methods that call the class and catch what it throws -/
def OQ {ρ : Type} (E : (ρ ⊕ String) × St) (D : va_G) (w : Wc) (A : Nat → Prop) (o : Nat) (cJ : ClassId) (conv : ρ → Value) (code : String → Int32) : Array Value → State → Outcome → State → Prop := fun _ st oc t =>
  ∃ (k : Int32) (v : Value), oc = .returned (some (.int k)) ∧ t.heap[o]? = some (arrV cJ 1 (fun _ => v)) ∧ va_F (fun q => A q ∨ q = o) st t ∧ (match E.1 with | .inl r => k = 0 ∧ v = conv r ∧ PC D w A E.2 t.heap | .inr X => k = code X ∧ PCx D w A E.2 t.heap)
def OP (D : va_G) (w : Wc) (A : Nat → Prop) (o : Nat) (cJ : ClassId) (S : St) (H : Heap) : Prop := PC D w A S H ∧ ∃ v : Value, H[o]? = some (arrV cJ 1 (fun _ => v))
def CO {ρ : Type} (l : Launch) (y : MethodName) (b : ByteArray) (mx : Nat) (hh : List (Nat × Nat × Nat × Nat)) (fr lo : Nat) (D : va_G) (w : Wc) (EV : State → Prop) (A : Nat → Prop) (o : Nat) (cJ : ClassId) (As : List Value) (f : PM (ρ ⊕ String)) (conv : ρ → Value) (code : String → Int32) (ex : List String) : Prop :=
  ∀ (S : St) (E : (ρ ⊕ String) × St), f.1 S = some E → (∀ X, E.1 = .inr X → X ∈ ex) → (∀ q, gN S 2 0 ≤ q → A q) → ¬ A o → Met l y (Cond.codeWith y b mx (some .int) hh :: GW) ({ frames := fr, cells := gN E.2 7 0 - gN S 7 0, slots := gN E.2 3 0 - gN S 3 0, locals := lo }) (va_Pc As (fun U => OP D w A o cJ S U.heap ∧ EV U)) (OQ E D w A o cJ conv code) (gN E.2 7 0 - gN S 7 0) (gN E.2 3 0 - gN S 3 0) (fun q => A q ∨ q = o)
def exPairs : List (String × String) := [("java/lang/IllegalArgumentException", "java/util/NoSuchElementException"), ("java/lang/IllegalStateException", "java/util/NoSuchElementException"), ("java/lang/IllegalStateException", "java/lang/IllegalArgumentException"), ("java/lang/UnsupportedOperationException", "java/util/NoSuchElementException"), ("java/lang/UnsupportedOperationException", "java/lang/IllegalStateException"), ("java/lang/IndexOutOfBoundsException", "java/util/NoSuchElementException")]
/-- what stays, in the law's own methods: what stays in the class's, and that no exception passes for another one; long[] or double[] -/
def ENVO (D : va_G) (w : Wc) (aS : Nat → Nat) (sk sv : Nat) (A : Nat → Prop) (cJ : ClassId) (ty : FieldType) (U : State) : Prop := ENVC D w aS sk sv A U ∧ (∀ q ∈ exPairs, va_Nc q.1 q.2 U) ∧ ArrOfT U cJ ty
theorem ENVO.ok {D : va_G} {w : Wc} {aS : Nat → Nat} {sk sv : Nat} {A : Nat → Prop} {cJ : ClassId} {ty : FieldType} : EVok (ENVO D w aS sk sv A cJ ty) A := fun s H locs U h hS hU hW => ⟨ENVC.ok s H locs U h.1 hS hU hW, fun q hq => (h.2.1 q hq).moved hW.alike, arrOfT_moved hW.alike h.2.2⟩
theorem CO.ofW {ρ : Type} {l : Launch} {y : MethodName} {b : ByteArray} {mx : Nat} {hh : List (Nat × Nat × Nat × Nat)} {fr lo : Nat} {D : va_G} {w : Wc} {EV : State → Prop} {A : Nat → Prop} {o : Nat} {cJ : ClassId} {As : List Value} {f : PM (ρ ⊕ String)} {conv : ρ → Value} {code : String → Int32} {ex : List String}
    (hy : plainName y.cls = true) (L0 : List (Nat × Value)) (hL : lv_args 0 As = L0) (hn : (lg_sl As).length ≤ mx)
    (body : ∀ (S0 : St) (E0 : (ρ ⊕ String) × St) (R : Room) (p : Program) (e : Env) (s : State) (m : MethodId) (args : Array Value) (below : List Frame) (meth : Method) (c : Code) (ls : Array Slot), f.1 S0 = some E0 → (∀ X, E0.1 = .inr X → X ∈ ex) → R.frames = fr → R.locals = lo → (R.cells = gN E0.2 7 0 - gN S0 7 0 ∧ R.slots = gN E0.2 3 0 - gN S0 3 0) →
      CallFix p m c b mx s args GW y.cls → c.exceptionTable.toList = tableOf hh → meth.sig.returnType = some .int → meth.locks = false → EV s → (∀ q, s.heap.size ≤ q → A q) → ¬ A o → OP D w A o cJ S0 s.heap → lv_has ls mx L0 →
      W p l e R s m args below meth c s.heap [] 0 0 (MQ below (OQ E0 D w A o cJ conv code) args s (gN E0.2 7 0 - gN S0 7 0) (gN E0.2 3 0 - gN S0 3 0) (fun q => A q ∨ q = o)) (F0 m 0 ls [])) :
    CO l y b mx hh fr lo D w EV A o cJ As f conv code ex := by
  intro S E hf hex hA hAo
  refine va_MetW (cc := b) (maxL := mx) (ret := some .int) (hh := hh) hy rfl ?_
  intro p e s m args below meth c s₁ B hml hv
  obtain ⟨rfl, hPI, hEV⟩ := hv
  have hts := atoms_spec (ws := Cond.codeWith y b mx (some .int) hh :: GW) B.pre
  have hown : s.vm.findClass y.cls = some m.cls := findClass_of_methodNamed B.named
  have hl := lv_entry As hn
  rw [lg_entry_eq]
  rw [hL] at hl
  exact body S E _ p e s m _ below meth c _ hf hex rfl rfl ⟨rfl, rfl⟩ ⟨B.exec, B.bytes, hml, hown, gw_tail hts⟩ (vx_table (x := y) B (hts _ List.mem_cons_self)) B.returns B.notSynchronized hEV (fun q hq => hA q (by rw [← hPI.1.1]; exact hq)) hAo hPI hl
section WRAP
variable {p : Program} {l : Launch} {e : Env} {R : Room} {s : State} {m : MethodId} {args : Array Value} {below : List Frame} {meth : Method} {c : Code} {H : Heap} {locs : List Loc} {cells slots : Nat} {Q : State → Prop}
variable {cc : ByteArray} {pc nL : Nat} {ls : Array Slot} {rest st0 : List Value} {own : String} {S : St} {D : va_G} {w : Wc} {A : Nat → Prop} {ρ : Type} {EV EV1 : State → Prop} {o : Nat} {cJ : ClassId}
/-- the one call of the class in such a method -/
theorem wr_call (K0 : CallFix p m c cc nL s args GW own) (hK : va_K D vwCl (tysC w) s) (hok : EVok EV A) (hEV : EV s) (hA : ∀ q, s.heap.size ≤ q → A q) {As : List Value} {y : MethodName} {b : ByteArray} {n fr lo index : Nat} {rt : Option FieldType} {f : PM (ρ ⊕ String)} {val1 : ρ → Option Value} {E : (ρ ⊕ String) × St}
    (hcall : CX l y b n rt fr lo D w EV A (vr w.2.2.2.2 0 1 0 :: As) f val1) (hf : f.1 S = some E) (g1 : Cond.methodLink own index y ∈ GW) (g2 : Cond.instanceMethod y ∈ GW) (g3 : Cond.selects RX5 y y ∈ GW) (g4 : Cond.initialized RX5 ∈ GW) (g5 : Cond.code y b n rt ∈ GW)
    (yd : y.cls = RX5 ∧ y.cls ≠ "java/lang/invoke/MethodHandle" ∧ y.cls ≠ "java/lang/invoke/VarHandle" ∧ (parseMethodDescriptor y.desc).map (fun d => d.parameters.length) = some As.length) (hR : fr + 1 ≤ R.frames ∧ 8 + (n + 11) + lo ≤ R.locals) (hRc : R.cells = gN E.2 7 0 - gN S 7 0 ∧ R.slots = gN E.2 3 0 - gN S 3 0)
    (hPC : PC D w A S s.heap) (hls : ls.size = nL) (hst : st0 = As.reverse ++ vr w.2.2.2.2 0 1 0 :: rest) (hcat : (rest.map fun v => v.category).sum ≤ 8) (hdg : decode cc pc = .ok (.invokevirtual index, 3))
    (k1 : ∀ (r : ρ) (H' : Heap) (locs' : List Loc), E.1 = .inl r → PC D w A E.2 H' → va_S A s.heap H' locs' → W p l e R s m args below meth c H' locs' (gN E.2 7 0 - gN S 7 0) (gN E.2 3 0 - gN S 3 0) Q (F0 m (pc + 3) ls ((val1 r).toList ++ rest)))
    (k2 : ∀ (X : String) (H' : Heap) (locs' : List Loc) (q : Addr) (ce : Cell), E.1 = .inr X → PCx D w A E.2 H' → va_S A s.heap H' locs' → H'[q]? = some ce → ce.vm = .none → s.vm.findClass X = some ce.cls → vx_W p l e R s m args below meth c H' locs' (gN E.2 7 0 - gN S 7 0) (gN E.2 3 0 - gN S 3 0) Q (F0 m pc ls rest) q) :
    W p l e R s m args below meth c s.heap [] 0 0 Q (F0 m pc ls st0) := by
  intro T hT X
  rw [vr_ref (by omega)] at hst hcall
  have hrun : vx_Run p l e R s m args below meth c s.heap [] 0 0 (gN E.2 7 0 - gN S 7 0) (gN E.2 3 0 - gN S 3 0) (F0 m pc ls st0) rest (QX E val1 D w A (Value.ref (w.2.2.2.2 (0 + 0)) :: As).toArray) (XX E D w A) A :=
    vx_runV (As := As) (rest := rest) K0 (hcall S E hf (fun q hq => hA q (by rw [hPC.1]; exact hq))) (cwV As.length K0.2.2.2.2 (gw_V g1 g2 g3 g4 g5) rfl rfl rfl yd hR) ⟨call_blind hok, va_recv hK hPC.2.1 (ci := 7) (q0 := 0) rfl (by rw [iw_get (by omega)]; rfl), fun U hU hW => ⟨rfl, by rw [hU]; exact hPC, hok s s.heap [] U hEV va_S.rf hU hW⟩⟩ rfl rfl hls hst (lv_room hcat) hdg ⟨by omega, by omega⟩
  rcases hrun T hT X with ⟨v, st₀, t, T', L, h0, X', hL, e1, e2, ⟨r, hr, hv, hp, hz, hk2⟩, st⟩ | ⟨q, st₀, t, T', L, En, ce, h0, X', hL, e1, e2, ⟨hr, hp, hz, hk2⟩, hce, hcv, hcl, st⟩
  · have hv' : v = val1 r := Outcome.returned.inj hv
    subst hv'
    rw [h0] at hz hk2
    rw [Nat.zero_add, Nat.zero_add] at X'
    obtain ⟨t2, a1, b1⟩ := k1 r T'.heap ([] ++ L) hr (by rw [e1]; exact hp) ⟨by rw [e1]; exact hz, fun q g1 g2 => by rw [e1]; exact hk2 q g1 g2, fun q hq => hL q hq⟩ T' rfl X'
    exact ⟨t2, st t2 a1, b1⟩
  · rw [h0] at hz hk2
    rw [Nat.zero_add, Nat.zero_add] at X'
    obtain ⟨t2, a1, b1⟩ := k2 En T'.heap ([] ++ L) q ce hr (by rw [e1]; exact hp) ⟨by rw [e1]; exact hz, fun q g1 g2 => by rw [e1]; exact hk2 q g1 g2, fun q hq => hL q hq⟩ (by rw [e1]; exact hce) hcv hcl T' rfl X'
    exact ⟨t2, st.trans a1, b1⟩
end WRAP
