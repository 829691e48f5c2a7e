/-! part 06: a contract's start and its ends -/
def QE {ρ : Type} (E0 : ρ × St) (val : ρ → Option Value) (PI : St → Heap → Prop) (A : Nat → Prop) : Array Value → State → Outcome → State → Prop := fun _ st oc t => oc = .returned (val E0.1) ∧ PI E0.2 t.heap ∧ va_F A st t
theorem CT.ofW {ρ : Type} {l : Launch} {y : MethodName} {b : ByteArray} {n : Nat} {rt : Option FieldType} {fr lo : Nat} {D : va_G} {nW : Nat} {adr : St → Nat → Nat} {cel : St → Nat → va_E} {EV : State → Prop} {A : Nat → Prop} {As : List Value} {f : PM ρ} {val : ρ → Option Value}
    (hy : plainName y.cls = true) (L0 : List (Nat × Value)) (hL : lv_args 0 As = L0) (hn : (lg_sl As).length ≤ n)
    (body : ∀ (S0 : St) (E0 : ρ × St) (R : Room) (p : Program) (e : Env) (s : State) (m : MethodId) (args : Array Value) (below : List Frame) (meth : Method) (c : Code) (ls : Array Slot), f.1 S0 = some E0 → R.frames = fr → R.locals = lo → (R.cells = gN E0.2 7 0 - gN S0 7 0 ∧ R.slots = gN E0.2 3 0 - gN S0 3 0) →
      CallFix p m c b n s args GW y.cls → meth.sig.returnType = rt → meth.locks = false → EV s → (∀ q, s.heap.size ≤ q → A q) → ZZ D nW adr cel A S0 s.heap S0 s.heap [] 0 0 → lv_has ls n L0 →
      W p l e R s m args below meth c s.heap [] 0 0 (MQ below (QE E0 val (PW D nW adr cel A) A) args s (gN E0.2 7 0 - gN S0 7 0) (gN E0.2 3 0 - gN S0 3 0) A) (F0 m 0 ls [])) :
    CT l y b n rt fr lo (PW D nW adr cel A) EV A As f val := by
  intro S E hf hA
  refine Met.ofW (cc := b) (maxL := n) (ret := rt) hy rfl ?_
  intro p e s m args below meth c s₁ B hml hv
  obtain ⟨rfl, hPI, hEV⟩ := hv
  have hts := atoms_spec (ws := Cond.code y b n rt :: GW) B.pre
  have hown : s.vm.findClass y.cls = some m.cls := findClass_of_methodNamed B.named
  have hl := lv_entry As hn
  rw [lg_entry_eq]
  rw [hL] at hl
  exact body S E _ p e s m _ below meth c _ hf rfl rfl ⟨rfl, rfl⟩ ⟨B.exec, B.bytes, hml, hown, gw_tail hts⟩ B.returns B.notSynchronized hEV (fun q hq => hA q (by rw [← hPI.1]; exact hq)) ⟨hPI, va_S.rf, by omega, by omega⟩ hl
section ENDS
variable {p : Program} {l : Launch} {e : Env} {R : Room} {s : State} {m : MethodId} {args : Array Value} {below : List Frame} {meth : Method} {c : Code} {H : Heap} {locs : List Loc} {cells slots : Nat}
variable {cc : ByteArray} {pc nL : Nat} {ls : Array Slot} {own : String} {S S0 : St} {D : va_G} {nW : Nat} {adr : St → Nat → Nat} {cel : St → Nat → va_E} {A : Nat → Prop}
def rtnZ (v : Int32) : PM Int32 := if v = 0 ∨ v = 1 then rtn v else fail
def rtnC (v : Int32) : PM Int32 := if (v.toUInt32 % 65536).toInt32 = v then rtn v else fail
abbrev vI : Int32 → Option Value := fun r => some (.int r)
abbrev vJ : Int64 → Option Value := fun r => some (.long r)
abbrev vU : Unit → Option Value := fun _ => none
abbrev vQ (ad : Nat → Nat) (off n : Nat) : Nat → Option Value := fun r => some (vr ad off n r)
theorem end_i (K0 : CallFix p m c cc nL s args GW own) (hr : meth.sig.returnType = some .int) (hlocks : meth.locks = false) {E0 : Int32 × St} {v : Int32} (hE : (rtn v).1 S = some E0) (hZ : ZZ D nW adr cel A S0 s.heap S H locs cells slots) (hdg : decode cc pc = .ok (.ireturn, 1)) :
    W p l e R s m args below meth c H locs cells slots (MQ below (QE E0 vI (PW D nW adr cel A) A) args s (gN E0.2 7 0 - gN S0 7 0) (gN E0.2 3 0 - gN S0 3 0) A) (F0 m pc ls [.int v]) := by
  obtain ⟨e1, e2, e3, e4⟩ := end_E (Qv := vI) hE (v := some (.int v)) rfl rfl hZ
  rw [← e2, ← e3]
  exact W.iret K0.1 K0.2.1 hr (fun t ht _ => e4 t ht) hZ.2.1.2.2 hdg hlocks
theorem end_z (K0 : CallFix p m c cc nL s args GW own) (hr : meth.sig.returnType = some .boolean) (hlocks : meth.locks = false) {E0 : Int32 × St} {v : Int32} (hE : (rtnZ v).1 S = some E0) (hZ : ZZ D nW adr cel A S0 s.heap S H locs cells slots) (hdg : decode cc pc = .ok (.ireturn, 1)) :
    W p l e R s m args below meth c H locs cells slots (MQ below (QE E0 vI (PW D nW adr cel A) A) args s (gN E0.2 7 0 - gN S0 7 0) (gN E0.2 3 0 - gN S0 3 0) A) (F0 m pc ls [.int v]) := by
  obtain ⟨hv, hE⟩ := if_ok hE
  obtain ⟨e1, e2, e3, e4⟩ := end_E (Qv := vI) hE (v := some (.int v)) rfl rfl hZ
  rw [← e2, ← e3]
  exact W.zret K0.1 K0.2.1 hr (by rcases hv with rfl | rfl <;> decide +kernel) (fun t ht _ => e4 t ht) hZ.2.1.2.2 hdg hlocks
theorem end_c (K0 : CallFix p m c cc nL s args GW own) (hr : meth.sig.returnType = some .char) (hlocks : meth.locks = false) {E0 : Int32 × St} {v : Int32} (hE : (rtnC v).1 S = some E0) (hZ : ZZ D nW adr cel A S0 s.heap S H locs cells slots) (hdg : decode cc pc = .ok (.ireturn, 1)) :
    W p l e R s m args below meth c H locs cells slots (MQ below (QE E0 vI (PW D nW adr cel A) A) args s (gN E0.2 7 0 - gN S0 7 0) (gN E0.2 3 0 - gN S0 3 0) A) (F0 m pc ls [.int v]) := by
  obtain ⟨hv, hE⟩ := if_ok hE
  obtain ⟨e1, e2, e3, e4⟩ := end_E (Qv := vI) hE (v := some (.int v)) rfl rfl hZ
  rw [← e2, ← e3]
  exact W.zret K0.1 K0.2.1 hr (by rw [← hv]; exact pk_nc v) (fun t ht _ => e4 t ht) hZ.2.1.2.2 hdg hlocks
theorem end_l (K0 : CallFix p m c cc nL s args GW own) (hr : meth.sig.returnType = some .long) (hlocks : meth.locks = false) {E0 : Int64 × St} {v : Int64} (hE : (rtn v).1 S = some E0) (hZ : ZZ D nW adr cel A S0 s.heap S H locs cells slots) (hdg : decode cc pc = .ok (.lreturn, 1)) :
    W p l e R s m args below meth c H locs cells slots (MQ below (QE E0 vJ (PW D nW adr cel A) A) args s (gN E0.2 7 0 - gN S0 7 0) (gN E0.2 3 0 - gN S0 3 0) A) (F0 m pc ls [.long v]) := by
  obtain ⟨e1, e2, e3, e4⟩ := end_E (Qv := vJ) hE (v := some (.long v)) rfl rfl hZ
  rw [← e2, ← e3]
  exact W.lret K0.1 K0.2.1 hr (fun t ht _ => e4 t ht) hZ.2.1.2.2 hdg hlocks
theorem end_v (K0 : CallFix p m c cc nL s args GW own) (hr : meth.sig.returnType = none) (hlocks : meth.locks = false) {E0 : Unit × St} (hE : (rtn ()).1 S = some E0) (hZ : ZZ D nW adr cel A S0 s.heap S H locs cells slots) (hdg : decode cc pc = .ok (.return_, 1)) :
    W p l e R s m args below meth c H locs cells slots (MQ below (QE E0 vU (PW D nW adr cel A) A) args s (gN E0.2 7 0 - gN S0 7 0) (gN E0.2 3 0 - gN S0 3 0) A) (F0 m pc ls []) := by
  obtain ⟨e1, e2, e3, e4⟩ := end_E (Qv := vU) hE (v := none) rfl rfl hZ
  rw [← e2, ← e3]
  exact W.vret K0.1 K0.2.1 hr (fun t ht _ => e4 t ht) hZ.2.1.2.2 hdg hlocks
theorem end_r (K0 : CallFix p m c cc nL s args GW own) {C : String} (hr : meth.sig.returnType = some (.object C)) (hlocks : meth.locks = false) {E0 : Nat × St} {ad : Nat → Nat} {off nn v : Nat} (hE : (rtn v).1 S = some E0) (hZ : ZZ D nW adr cel A S0 s.heap S H locs cells slots) (hdg : decode cc pc = .ok (.areturn, 1)) :
    W p l e R s m args below meth c H locs cells slots (MQ below (QE E0 (vQ ad off nn) (PW D nW adr cel A) A) args s (gN E0.2 7 0 - gN S0 7 0) (gN E0.2 3 0 - gN S0 3 0) A) (F0 m pc ls [vr ad off nn v]) := by
  obtain ⟨e1, e2, e3, e4⟩ := end_E (Qv := vQ ad off nn) hE (v := some (vr ad off nn v)) rfl rfl hZ
  rw [← e2, ← e3]
  exact W.aret K0.1 K0.2.1 hr (Or.inl ⟨_, rfl⟩) (by unfold vr; split; exact Or.inr ⟨_, rfl⟩; exact Or.inl rfl) (fun t ht _ => e4 t ht) hZ.2.1.2.2 hdg hlocks
end ENDS
