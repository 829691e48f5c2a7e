/-! part 12: the text of the signs, as the library's own methods read it -/
def sgB (i : Int32) : PM Int32 := if ¬ (i < 0 ∨ 5 ≤ i.toNatClampNeg) then rtn (([43, 45, 46, 76, 120] : List Int32).getD i.toNatClampNeg 0) else fail
def rtnB (v : Int32) : PM Int32 := if v.toInt8.toInt32 = v then rtn v else fail
theorem st_S {D : va_G} {w : Wc} {aS : Nat → Nat} {sk sv : Nat} {A : Nat → Prop} {s : State} (hEV : ENVC D w aS sk sv A s) : va_O "java/lang/String" sk A s s.heap ∧ va_OF "java/lang/String" "coder" "B" (.int 0) sk A s s.heap ∧ va_OF "java/lang/String" "value" "[B" (.ref sv) sk A s s.heap ∧ va_T .byte sv 5 (fun j => .int (([43, 45, 46, 76, 120] : List Int32).getD j 0)) A s s.heap := hEV.2.2.2.2.2.2.2.1.1 0 (by decide)
section TEXT
variable {p : Program} {l : Launch} {e : Env} {R : Room} {s : State} {m : MethodId} {args : Array Value} {below : List Frame} {meth : Method} {c : Code} {H : Heap} {locs : List Loc} {cells slots : Nat} {Q : State → Prop}
variable {cc : ByteArray} {pc nL : Nat} {ls : Array Slot} {rest st0 : List Value} {own : String} {ρ ρ1 : Type} {E0 : ρ × St} {S S0 : St} {D : va_G} {nW : Nat} {adr : St → Nat → Nat} {cel : St → Nat → va_E} {A : Nat → Prop} {EV : State → Prop} {w : Wc} {aS : Nat → Nat} {sk sv : Nat}
theorem row_sgB (hx : p.tables.exec = Jvm.exec) (hb : c.code = cc) (hEV : ENVC D w aS sk sv A s) {i : Int32} {k : Int32 → PM ρ} (hE : (bnd (sgB i) k).1 S = some E0) (hS : va_S A s.heap H locs) (hdg : decode cc pc = .ok (.baload, 1)) (kk : ∀ v : Int32, (k v).1 S = some E0 → W p l e R s m args below meth c H locs cells slots Q (F0 m (pc + 1) ls (.int v :: rest))) : W p l e R s m args below meth c H locs cells slots Q (F0 m pc ls (.int i :: .ref sv :: rest)) := by
  obtain ⟨v, S1, h1, h2⟩ := bnd_inv hE
  obtain ⟨hi, h1⟩ := if_ok h1
  cases h1
  exact va_tb hx hb (st_S hEV).2.2.2 hS hi rfl hdg (kk _ h2)
theorem end_b (K0 : CallFix p m c cc nL s args GW own) (hr : meth.sig.returnType = some .byte) (hlocks : meth.locks = false) {E0 : Int32 × St} {v : Int32} (hE : (rtnB v).1 S = some E0) (hZ : ZZ D nW adr cel A S0 s.heap S H locs cells slots) (hdg : decode cc pc = .ok (.ireturn, 1)) :
    W p l e R s m args below meth c H locs cells slots (MQ below (QE E0 vI (PW D nW adr cel A) A) args s (gN E0.2 7 0 - gN S0 7 0) (gN E0.2 3 0 - gN S0 3 0) A) (F0 m pc ls [.int v]) := by
  obtain ⟨hv, hE⟩ := if_ok hE
  obtain ⟨e1, e2, e3, e4⟩ := end_E (Qv := vI) hE (v := some (.int v)) rfl rfl hZ
  rw [← e2, ← e3]
  exact W.zret K0.1 K0.2.1 hr (by rw [← hv]; exact pk_nb v) (fun t ht _ => e4 t ht) hZ.2.1.2.2 hdg hlocks
variable {f : PM ρ1} {k : ρ1 → PM ρ} {val : ρ1 → Option Value}
/-- an instance method, called on an object that is no cell of the world -/
theorem call_VS (K0 : CallFix p m c cc nL s args GW own) (hok : EVok EV A) (hEV : EV s) (hA : ∀ q, s.heap.size ≤ q → A q) {b0 : Nat} {As : List Value} {y : MethodName} {b : ByteArray} {n fr lo index : Nat} {rt : Option FieldType}
    (hcall : CT l y b n rt fr lo (PW D nW adr cel A) EV A (.ref b0 :: As) f val) {C : String} (g1 : Cond.methodLink own index y ∈ GW) (g2 : Cond.instanceMethod y ∈ GW) (g3 : Cond.selects C y y ∈ GW) (g4 : Cond.initialized C ∈ GW) (g5 : Cond.code y b n rt ∈ GW)
    (yd : y.cls = C ∧ y.cls ≠ "java/lang/invoke/MethodHandle" ∧ y.cls ≠ "java/lang/invoke/VarHandle" ∧ (parseMethodDescriptor y.desc).map (fun d => d.parameters.length) = some As.length) (hR : fr + 1 ≤ R.frames ∧ 8 + (n + 11) + lo ≤ R.locals) (hRc : R.cells = gN E0.2 7 0 - gN S0 7 0 ∧ R.slots = gN E0.2 3 0 - gN S0 3 0)
    (hrec : ∃ cell : Cell, H[b0]? = some cell ∧ cell.vm.isStatics = false ∧ s.vm.findClass C = some cell.cls)
    (hE : (bnd f k).1 S = some E0) (hZ : ZZ D nW adr cel A S0 s.heap S H locs cells slots) (hls : ls.size = nL) (hst : st0 = As.reverse ++ .ref b0 :: rest) (hcat : (rest.map fun v => v.category).sum ≤ 8) (hdg : decode cc pc = .ok (.invokevirtual index, 3))
    (kk : ∀ (r : ρ1) (S' : St) (H' : Heap) (locs' : List Loc) (cells' slots' : Nat), (k r).1 S' = some E0 → ZZ D nW adr cel A S0 s.heap S' H' locs' cells' slots' → W p l e R s m args below meth c H' locs' cells' slots' Q (F0 m (pc + 3) ls ((val r).toList ++ rest))) : W p l e R s m args below meth c H locs cells slots Q (F0 m pc ls st0) := by
  refine call_run hE hZ hRc (fun E hf hroom => ?_) kk
  exact va_runV (As := As) (rest := rest) K0 (hcall S E hf (call_hA hA hZ)) (cwV As.length K0.2.2.2.2 (gw_V g1 g2 g3 g4 g5) rfl rfl rfl yd hR) ⟨call_blind hok, hrec, fun U hU hW => ⟨rfl, call_pre hok hEV hZ hU hW⟩⟩ rfl rfl hls hst (lv_room hcat) hdg hroom
end TEXT
