/-! part 15: contracts of methods that return or throw; their calls -/
def thrS (S : St) : St := pN (pN S 7 0 (gN S 7 0 + 1)) 3 0 (gN S 3 0 + 6)
def thr {σ : Type} (X : String) : PM (σ ⊕ String) := ⟨fun S => some (.inr X, thrS S), fun S E h => by
  cases h
  simp only [thrS, gN_pN]
  exact ⟨by simp, by simp⟩⟩
def bndX {α β : Type} (x : PM (α ⊕ String)) (k : α → PM (β ⊕ String)) : PM (β ⊕ String) := bnd x (fun r => match r with | .inl a => k a | .inr X => rtn (.inr X))
def rtX {σ : Type} (v : σ) : PM (σ ⊕ String) := rtn (.inl v)
def rtZX (v : Int32) : PM (Int32 ⊕ String) := if v = 0 ∨ v = 1 then rtn (.inl v) else fail
def rtCX (v : Int32) : PM (Int32 ⊕ String) := if (v.toUInt32 % 65536).toInt32 = v then rtn (.inl v) else fail
def PCx (D : va_G) (w : Wc) (A : Nat → Prop) (S : St) (H : Heap) : Prop := ∃ h : Nat, PC D w A (pN S 2 0 h) H
def QX {ρ : Type} (E0 : (ρ ⊕ String) × St) (val : ρ → Option Value) (D : va_G) (w : Wc) (A : Nat → Prop) : Array Value → State → Outcome → State → Prop := fun _ st oc t => ∃ r : ρ, E0.1 = .inl r ∧ oc = .returned (val r) ∧ PC D w A E0.2 t.heap ∧ va_F A st t
def XX {ρ : Type} (E0 : (ρ ⊕ String) × St) (D : va_G) (w : Wc) (A : Nat → Prop) : String → State → State → Prop := fun X st t => E0.1 = .inr X ∧ PCx D w A E0.2 t.heap ∧ va_F A st t
def CX {ρ : Type} (l : Launch) (y : MethodName) (b : ByteArray) (n : Nat) (rt : Option FieldType) (fr lo : Nat) (D : va_G) (w : Wc) (EV : State → Prop) (A : Nat → Prop) (As : List Value) (f : PM (ρ ⊕ String)) (val : ρ → Option Value) : Prop :=
  ∀ (S : St) (E : (ρ ⊕ String) × St), f.1 S = some E → (∀ q, gN S 2 0 ≤ q → A q) → vx_Met l y (Cond.code y b n rt :: GW) ({ frames := fr, cells := gN E.2 7 0 - gN S 7 0, slots := gN E.2 3 0 - gN S 3 0, locals := lo }) (va_Pc As (fun U => PC D w A S U.heap ∧ EV U)) (QX E val D w A) (XX E D w A) (gN E.2 7 0 - gN S 7 0) (gN E.2 3 0 - gN S 3 0) A
theorem CX.ofW {ρ : Type} {l : Launch} {y : MethodName} {b : ByteArray} {n : Nat} {rt : Option FieldType} {fr lo : Nat} {D : va_G} {w : Wc} {EV : State → Prop} {A : Nat → Prop} {As : List Value} {f : PM (ρ ⊕ String)} {val : ρ → Option Value}
    (hy : plainName y.cls = true) (L0 : List (Nat × Value)) (hL : lv_args 0 As = L0) (hn : (lg_sl As).length ≤ n)
    (body : ∀ (S0 : St) (E0 : (ρ ⊕ String) × St) (R : Room) (p : Program) (e : Env) (s : State) (m : MethodId) (args : Array Value) (below : List Frame) (meth : Method) (c : Code) (ls : Array Slot), f.1 S0 = some E0 → R.frames = fr → R.locals = lo → (R.cells = gN E0.2 7 0 - gN S0 7 0 ∧ R.slots = gN E0.2 3 0 - gN S0 3 0) →
      CallFix p m c b n s args GW y.cls → meth.sig.returnType = rt → meth.locks = false → (∀ x ∈ c.exceptionTable.toList, False) → EV s → (∀ q, s.heap.size ≤ q → A q) → ZZ D 187 (adrC w) (celC w) A S0 s.heap S0 s.heap [] 0 0 → lv_has ls n L0 →
      W p l e R s m args below meth c s.heap [] 0 0 (vx_MQ below (QX E0 val D w A) (XX E0 D w A) args s (gN E0.2 7 0 - gN S0 7 0) (gN E0.2 3 0 - gN S0 3 0) A) (F0 m 0 ls [])) :
    CX l y b n rt fr lo D w EV A As f val := by
  intro S E hf hA
  refine vx_ofW (cc := b) (maxL := n) (ret := rt) hy rfl ?_
  intro p e s m args below meth c s₁ B hml hxt hv
  obtain ⟨rfl, hPI, hEV⟩ := hv
  have hts := atoms_spec (ws := Cond.code y b n rt :: GW) B.pre
  have hown : s.vm.findClass y.cls = some m.cls := findClass_of_methodNamed B.named
  have hl := lv_entry As hn
  rw [lg_entry_eq]
  rw [hL] at hl
  exact body S E _ p e s m _ below meth c _ hf rfl rfl ⟨rfl, rfl⟩ ⟨B.exec, B.bytes, hml, hown, gw_tail hts⟩ B.returns B.notSynchronized hxt hEV (fun q hq => hA q (by rw [← hPI.1]; exact hq)) ⟨hPI, va_S.rf, by omega, by omega⟩ hl
theorem PM.property_le {ρ : Type} {x : PM ρ} {S : St} {E : ρ × St} (h : x.1 S = some E) : gN S 7 0 ≤ gN E.2 7 0 ∧ gN S 3 0 ≤ gN E.2 3 0 := x.2 S E h
section XENDS
variable {p : Program} {l : Launch} {e : Env} {R : Room} {s : State} {m : MethodId} {args : Array Value} {below : List Frame} {meth : Method} {c : Code} {H : Heap} {locs : List Loc} {cells slots : Nat}
variable {cc : ByteArray} {pc nL : Nat} {ls : Array Slot} {rest st0 : List Value} {own : String} {S S0 : St} {D : va_G} {w : Wc} {A : Nat → Prop} {ρ : Type} {XC : String → State → State → Prop} {EV : State → Prop}
theorem endX {E0 : (ρ ⊕ String) × St} {val : ρ → Option Value} {r : ρ} (hE : (rtX r).1 S = some E0) (hZ : ZZ D 187 (adrC w) (celC w) A S0 s.heap S H locs cells slots) :
    cells = gN E0.2 7 0 - gN S0 7 0 ∧ slots = gN E0.2 3 0 - gN S0 3 0 ∧ ∀ t : State, t.heap = H → QX E0 val D w A args s (.returned (val r)) t := by
  have h : (Sum.inl r, S) = E0 := Option.some.inj hE
  subst h
  refine ⟨by have := hZ.2.2.1; dsimp only; omega, by have := hZ.2.2.2; dsimp only; omega, fun t ht => ⟨r, rfl, rfl, by rw [ht]; exact hZ.1, hZ.2.1.F ht⟩⟩
theorem endX_i (K0 : CallFix p m c cc nL s args GW own) (hr : meth.sig.returnType = some .int) (hlocks : meth.locks = false) {E0 : (Int32 ⊕ String) × St} {v : Int32} (hE : (rtX v).1 S = some E0) (hZ : ZZ D 187 (adrC w) (celC w) A S0 s.heap S H locs cells slots) (hdg : decode cc pc = .ok (.ireturn, 1)) :
    W p l e R s m args below meth c H locs cells slots (vx_MQ below (QX E0 vI D w A) XC args s (gN E0.2 7 0 - gN S0 7 0) (gN E0.2 3 0 - gN S0 3 0) A) (F0 m pc ls [.int v]) := by
  obtain ⟨e2, e3, e4⟩ := endX (args := args) (val := vI) hE hZ
  rw [← e2, ← e3]
  exact vx_ret (W.iret K0.1 K0.2.1 hr (fun t ht _ => e4 t ht) hZ.2.1.2.2 hdg hlocks)
theorem endX_z (K0 : CallFix p m c cc nL s args GW own) (hr : meth.sig.returnType = some .boolean) (hlocks : meth.locks = false) {E0 : (Int32 ⊕ String) × St} {v : Int32} (hE : (rtZX v).1 S = some E0) (hZ : ZZ D 187 (adrC w) (celC w) A S0 s.heap S H locs cells slots) (hdg : decode cc pc = .ok (.ireturn, 1)) :
    W p l e R s m args below meth c H locs cells slots (vx_MQ below (QX E0 vI D w A) XC args s (gN E0.2 7 0 - gN S0 7 0) (gN E0.2 3 0 - gN S0 3 0) A) (F0 m pc ls [.int v]) := by
  obtain ⟨hv, hE⟩ := if_ok hE
  obtain ⟨e2, e3, e4⟩ := endX (args := args) (val := vI) hE hZ
  rw [← e2, ← e3]
  exact vx_ret (W.zret K0.1 K0.2.1 hr (by rcases hv with rfl | rfl <;> decide +kernel) (fun t ht _ => e4 t ht) hZ.2.1.2.2 hdg hlocks)
theorem endX_c (K0 : CallFix p m c cc nL s args GW own) (hr : meth.sig.returnType = some .char) (hlocks : meth.locks = false) {E0 : (Int32 ⊕ String) × St} {v : Int32} (hE : (rtCX v).1 S = some E0) (hZ : ZZ D 187 (adrC w) (celC w) A S0 s.heap S H locs cells slots) (hdg : decode cc pc = .ok (.ireturn, 1)) :
    W p l e R s m args below meth c H locs cells slots (vx_MQ below (QX E0 vI D w A) XC args s (gN E0.2 7 0 - gN S0 7 0) (gN E0.2 3 0 - gN S0 3 0) A) (F0 m pc ls [.int v]) := by
  obtain ⟨hv, hE⟩ := if_ok hE
  obtain ⟨e2, e3, e4⟩ := endX (args := args) (val := vI) hE hZ
  rw [← e2, ← e3]
  exact vx_ret (W.zret K0.1 K0.2.1 hr (by rw [← hv]; exact pk_nc v) (fun t ht _ => e4 t ht) hZ.2.1.2.2 hdg hlocks)
theorem endX_v (K0 : CallFix p m c cc nL s args GW own) (hr : meth.sig.returnType = none) (hlocks : meth.locks = false) {E0 : (Unit ⊕ String) × St} (hE : (rtX ()).1 S = some E0) (hZ : ZZ D 187 (adrC w) (celC w) A S0 s.heap S H locs cells slots) (hdg : decode cc pc = .ok (.return_, 1)) :
    W p l e R s m args below meth c H locs cells slots (vx_MQ below (QX E0 vU D w A) XC args s (gN E0.2 7 0 - gN S0 7 0) (gN E0.2 3 0 - gN S0 3 0) A) (F0 m pc ls []) := by
  obtain ⟨e2, e3, e4⟩ := endX (args := args) (val := vU) hE hZ
  rw [← e2, ← e3]
  exact vx_ret (W.vret K0.1 K0.2.1 hr (fun t ht _ => e4 t ht) hZ.2.1.2.2 hdg hlocks)
theorem endX_r (K0 : CallFix p m c cc nL s args GW own) {C : String} (hr : meth.sig.returnType = some (.object C)) (hlocks : meth.locks = false) {ad : Nat → Nat} {off nn v : Nat} {E0 : (Nat ⊕ String) × St} (hE : (rtX v).1 S = some E0) (hZ : ZZ D 187 (adrC w) (celC w) A S0 s.heap S H locs cells slots) (hdg : decode cc pc = .ok (.areturn, 1)) :
    W p l e R s m args below meth c H locs cells slots (vx_MQ below (QX E0 (vQ ad off nn) D w A) XC args s (gN E0.2 7 0 - gN S0 7 0) (gN E0.2 3 0 - gN S0 3 0) A) (F0 m pc ls [vr ad off nn v]) := by
  obtain ⟨e2, e3, e4⟩ := endX (args := args) (val := vQ ad off nn) hE hZ
  rw [← e2, ← e3]
  exact vx_ret (W.aret K0.1 K0.2.1 hr (Or.inl ⟨_, rfl⟩) (by unfold vr; split; exact Or.inr ⟨_, rfl⟩; exact Or.inl rfl) (fun t ht _ => e4 t ht) hZ.2.1.2.2 hdg hlocks)
theorem PCx_thr {E0 : (ρ ⊕ String) × St} {X : String} {t : State} (hE : (thr X : PM (ρ ⊕ String)).1 S = some E0) (hZ : ZZ D 187 (adrC w) (celC w) A S0 s.heap S H locs cells slots) (h1 : H.size ≤ t.heap.size) (h2 : ∀ q : Nat, q < H.size → t.heap[q]? = H[q]?) : XX E0 D w A X s t := by
  have h : (Sum.inr X, thrS S) = E0 := Option.some.inj hE
  subst h
  obtain ⟨⟨hsz, hP, hD⟩, hS, -, -⟩ := hZ
  have hw : iw 187 (adrC w) (celC w) (pN (thrS S) 2 0 t.heap.size) = iw 187 (adrC w) (celC w) S := by
    unfold iw
    apply List.map_congr_left
    intro k _
    rw [celC_congr w (S := S) (S1 := pN (thrS S) 2 0 t.heap.size) (fun f hf i j => rfl) (fun i => rfl) (fun i => by simp [thrS, gN_pN]) (fun i => by simp [thrS, gN_pN]), adrC_congr w (S := S) (S1 := pN (thrS S) 2 0 t.heap.size) (fun i => by simp [thrS, gN_pN])]
  refine ⟨rfl, ⟨t.heap.size, by simp [gN_pN], ?_, ?_⟩, ⟨Nat.le_trans hS.1 h1, fun q g1 g2 => (h2 q (Nat.lt_of_lt_of_le g1 hS.1)).trans (hS.2.1 q g1 g2)⟩⟩
  · rw [hw]; exact hP.kept (fun k x hx => h2 x.1 ((hP k x hx).lt))
  · rw [hw]; exact hD
theorem thr_S (K0 : CallFix p m c cc nL s args GW own) (hfl : l.stackTraces = false) {aS : Nat → Nat} {sk sv : Nat} (hEV : ENVC D w aS sk sv A s) {cls text : String} {names : List String} {ik is ic i : Nat} (hcls : Bundle.fit cls = true) (hnames : ∀ n ∈ names, Bundle.fit n = true) (hk : Cond.classLink own ik cls ∈ GW) (hini : Cond.initialized cls ∈ GW) (hstr : SLl[i]? = some (own, is, text))
    (hat : ∀ w ∈ vx_atS own ic cls names, w.before args s = true) (hgood : ∀ w ∈ Cond.classLink own ik cls :: Cond.initialized cls :: vx_atS own ic cls names, vx_ot w = true)
    {E0 : (ρ ⊕ String) × St} {val : ρ → Option Value} (hE : (thr cls : PM (ρ ⊕ String)).1 S = some E0) (hZ : ZZ D 187 (adrC w) (celC w) A S0 s.heap S H locs cells slots) (hRc : R.cells = gN E0.2 7 0 - gN S0 7 0 ∧ R.slots = gN E0.2 3 0 - gN S0 3 0) (hls : ls.size = nL)
    (d0 : decode cc pc = .ok (.new ik, 3)) (d3 : decode cc (pc + 3) = .ok (.dup, 1)) (d4 : decode cc (pc + 4) = .ok (.ldc is, 2)) (d6 : decode cc (pc + 6) = .ok (.invokespecial ic, 3)) (d9 : decode cc (pc + 9) = .ok (.athrow, 1))
    (hout : ∀ x ∈ c.exceptionTable.toList, False) (hRf : names.length + 3 < R.frames) (hRl : (rest.map fun v => v.category).sum + (13 * (names.length + 1) + 43) ≤ R.locals) (hlocks : meth.locks = false) :
    W p l e R s m args below meth c H locs cells slots (vx_MQ below (QX E0 val D w A) (XX E0 D w A) args s (gN E0.2 7 0 - gN S0 7 0) (gN E0.2 3 0 - gN S0 3 0) A) (F0 m pc ls rest) := by
  have h9 : (Sum.inr cls, thrS S) = E0 := Option.some.inj hE
  have g7 : gN E0.2 7 0 = gN S 7 0 + 1 := by rw [← h9]; simp [thrS, gN_pN]
  have g3 : gN E0.2 3 0 = gN S 3 0 + 6 := by rw [← h9]; simp [thrS, gN_pN]
  have c7 := hZ.2.2.1
  have c3 := hZ.2.2.2
  exact vx_throwS K0.1 K0.2.1 hfl K0.2.2.2.1 hcls hnames (K0.2.2.2.2 _ hk) (K0.2.2.2.2 _ hini) (hEV.2.2.2.2.1 i _ hstr) hat hgood hEV.2.2.1 hEV.2.2.2.1 hZ.2.1 (hls.trans K0.2.2.1.symm) d0 d3 d4 d6 d9 (fun x hx => (hout x hx).elim) hRf hRl (by have := hRc.1; omega) (by have := hRc.2; omega) hlocks (fun t _ h1 h2 => PCx_thr hE hZ h1 h2) hZ.2.1.2.2 (by omega) (by omega)
theorem thr_SW (K0 : CallFix p m c cc nL s args GW own) (hfl : l.stackTraces = false) {aS : Nat → Nat} {sk sv : Nat} (hEV : ENVC D w aS sk sv A s) {cls text : String} {names : List String} {ik is ic i : Nat} (hcls : Bundle.fit cls = true) (hnames : ∀ n ∈ names, Bundle.fit n = true) (hk : Cond.classLink own ik cls ∈ GW) (hini : Cond.initialized cls ∈ GW) (hstr : SLl[i]? = some (own, is, text))
    (hat : ∀ w ∈ vx_atS own ic cls names, w.before args s = true) (hgood : ∀ w ∈ Cond.classLink own ik cls :: Cond.initialized cls :: vx_atS own ic cls names, vx_ot w = true)
    {E0 : (ρ ⊕ String) × St} {val : ρ → Option Value} (hE : (thr cls : PM (ρ ⊕ String)).1 S = some E0) (hZ : ZZ D 187 (adrC w) (celC w) A S0 s.heap S H locs cells slots) (hRc : R.cells = gN E0.2 7 0 - gN S0 7 0 ∧ R.slots = gN E0.2 3 0 - gN S0 3 0) (hls : ls.size = nL)
    (d0 : decode cc pc = .ok (.new ik, 3)) (d3 : decode cc (pc + 3) = .ok (.dup, 1)) (d4 : decode cc (pc + 4) = .ok (.ldc_w is, 3)) (d7 : decode cc (pc + 7) = .ok (.invokespecial ic, 3)) (d10 : decode cc (pc + 10) = .ok (.athrow, 1))
    (hout : ∀ x ∈ c.exceptionTable.toList, False) (hRf : names.length + 3 < R.frames) (hRl : (rest.map fun v => v.category).sum + (13 * (names.length + 1) + 43) ≤ R.locals) (hlocks : meth.locks = false) :
    W p l e R s m args below meth c H locs cells slots (vx_MQ below (QX E0 val D w A) (XX E0 D w A) args s (gN E0.2 7 0 - gN S0 7 0) (gN E0.2 3 0 - gN S0 3 0) A) (F0 m pc ls rest) := by
  have h9 : (Sum.inr cls, thrS S) = E0 := Option.some.inj hE
  have g7 : gN E0.2 7 0 = gN S 7 0 + 1 := by rw [← h9]; simp [thrS, gN_pN]
  have g3 : gN E0.2 3 0 = gN S 3 0 + 6 := by rw [← h9]; simp [thrS, gN_pN]
  have c7 := hZ.2.2.1
  have c3 := hZ.2.2.2
  exact vx_throwSW K0.1 K0.2.1 hfl K0.2.2.2.1 hcls hnames (K0.2.2.2.2 _ hk) (K0.2.2.2.2 _ hini) (hEV.2.2.2.2.1 i _ hstr) hat hgood hEV.2.2.1 hEV.2.2.2.1 hZ.2.1 (hls.trans K0.2.2.1.symm) d0 d3 d4 d7 d10 (fun x hx => (hout x hx).elim) hRf hRl (by have := hRc.1; omega) (by have := hRc.2; omega) hlocks (fun t _ h1 h2 => PCx_thr hE hZ h1 h2) hZ.2.1.2.2 (by omega) (by omega)
theorem thr_N (K0 : CallFix p m c cc nL s args GW own) (hfl : l.stackTraces = false) {aS : Nat → Nat} {sk sv : Nat} (hEV : ENVC D w aS sk sv A s) {text : String} {ik is ic i : Nat} (hk : Cond.classLink own ik nxC ∈ GW) (hini : Cond.initialized nxC ∈ GW) (hstr : SLl[i]? = some (own, is, text))
    (hat : ∀ w ∈ (nx_at own ic).filter vx_no, w.before args s = true) (hgood : ∀ w ∈ Cond.classLink own ik nxC :: Cond.initialized nxC :: (nx_at own ic).filter vx_no, vx_ot w = true)
    {E0 : (ρ ⊕ String) × St} {val : ρ → Option Value} (hE : (thr nxC : PM (ρ ⊕ String)).1 S = some E0) (hZ : ZZ D 187 (adrC w) (celC w) A S0 s.heap S H locs cells slots) (hRc : R.cells = gN E0.2 7 0 - gN S0 7 0 ∧ R.slots = gN E0.2 3 0 - gN S0 3 0) (hls : ls.size = nL)
    (d0 : decode cc pc = .ok (.new ik, 3)) (d3 : decode cc (pc + 3) = .ok (.dup, 1)) (d4 : decode cc (pc + 4) = .ok (.ldc is, 2)) (d6 : decode cc (pc + 6) = .ok (.invokespecial ic, 3)) (d9 : decode cc (pc + 9) = .ok (.athrow, 1))
    (hout : ∀ x ∈ c.exceptionTable.toList, False) (hRf : 2 + 3 < R.frames) (hRl : (rest.map fun v => v.category).sum + (13 * (2 + 1) + 43) ≤ R.locals) (hlocks : meth.locks = false) :
    W p l e R s m args below meth c H locs cells slots (vx_MQ below (QX E0 val D w A) (XX E0 D w A) args s (gN E0.2 7 0 - gN S0 7 0) (gN E0.2 3 0 - gN S0 3 0) A) (F0 m pc ls rest) := by
  have h9 : (Sum.inr nxC, thrS S) = E0 := Option.some.inj hE
  have g7 : gN E0.2 7 0 = gN S 7 0 + 1 := by rw [← h9]; simp [thrS, gN_pN]
  have g3 : gN E0.2 3 0 = gN S 3 0 + 6 := by rw [← h9]; simp [thrS, gN_pN]
  have c7 := hZ.2.2.1
  have c3 := hZ.2.2.2
  exact nx_throw K0.1 K0.2.1 hfl K0.2.2.2.1 (K0.2.2.2.2 _ hk) (K0.2.2.2.2 _ hini) (hEV.2.2.2.2.1 i _ hstr) hat hgood hEV.2.2.1 hEV.2.2.2.1 hZ.2.1 (hls.trans K0.2.2.1.symm) d0 d3 d4 d6 d9 (fun x hx => (hout x hx).elim) hRf hRl (by have := hRc.1; omega) (by have := hRc.2; omega) hlocks (fun t _ h1 h2 => PCx_thr hE hZ h1 h2) hZ.2.1.2.2 (by omega) (by omega)
theorem thr_NW (K0 : CallFix p m c cc nL s args GW own) (hfl : l.stackTraces = false) {aS : Nat → Nat} {sk sv : Nat} (hEV : ENVC D w aS sk sv A s) {text : String} {ik is ic i : Nat} (hk : Cond.classLink own ik nxC ∈ GW) (hini : Cond.initialized nxC ∈ GW) (hstr : SLl[i]? = some (own, is, text))
    (hat : ∀ w ∈ (nx_at own ic).filter vx_no, w.before args s = true) (hgood : ∀ w ∈ Cond.classLink own ik nxC :: Cond.initialized nxC :: (nx_at own ic).filter vx_no, vx_ot w = true)
    {E0 : (ρ ⊕ String) × St} {val : ρ → Option Value} (hE : (thr nxC : PM (ρ ⊕ String)).1 S = some E0) (hZ : ZZ D 187 (adrC w) (celC w) A S0 s.heap S H locs cells slots) (hRc : R.cells = gN E0.2 7 0 - gN S0 7 0 ∧ R.slots = gN E0.2 3 0 - gN S0 3 0) (hls : ls.size = nL)
    (d0 : decode cc pc = .ok (.new ik, 3)) (d3 : decode cc (pc + 3) = .ok (.dup, 1)) (d4 : decode cc (pc + 4) = .ok (.ldc_w is, 3)) (d7 : decode cc (pc + 7) = .ok (.invokespecial ic, 3)) (d10 : decode cc (pc + 10) = .ok (.athrow, 1))
    (hout : ∀ x ∈ c.exceptionTable.toList, False) (hRf : 2 + 3 < R.frames) (hRl : (rest.map fun v => v.category).sum + (13 * (2 + 1) + 43) ≤ R.locals) (hlocks : meth.locks = false) :
    W p l e R s m args below meth c H locs cells slots (vx_MQ below (QX E0 val D w A) (XX E0 D w A) args s (gN E0.2 7 0 - gN S0 7 0) (gN E0.2 3 0 - gN S0 3 0) A) (F0 m pc ls rest) := by
  have h9 : (Sum.inr nxC, thrS S) = E0 := Option.some.inj hE
  have g7 : gN E0.2 7 0 = gN S 7 0 + 1 := by rw [← h9]; simp [thrS, gN_pN]
  have g3 : gN E0.2 3 0 = gN S 3 0 + 6 := by rw [← h9]; simp [thrS, gN_pN]
  have c7 := hZ.2.2.1
  have c3 := hZ.2.2.2
  exact nx_throwW K0.1 K0.2.1 hfl K0.2.2.2.1 (K0.2.2.2.2 _ hk) (K0.2.2.2.2 _ hini) (hEV.2.2.2.2.1 i _ hstr) hat hgood hEV.2.2.1 hEV.2.2.2.1 hZ.2.1 (hls.trans K0.2.2.1.symm) d0 d3 d4 d7 d10 (fun x hx => (hout x hx).elim) hRf hRl (by have := hRc.1; omega) (by have := hRc.2; omega) hlocks (fun t _ h1 h2 => PCx_thr hE hZ h1 h2) hZ.2.1.2.2 (by omega) (by omega)
variable {ρ1 : Type} {f : PM (ρ1 ⊕ String)} {k : ρ1 → PM (ρ ⊕ String)} {val1 : ρ1 → Option Value} {E0 : (ρ ⊕ String) × St} {val : ρ → Option Value}
theorem call_runX (hE : (bndX f k).1 S = some E0) (hZ : ZZ D 187 (adrC w) (celC w) A S0 s.heap S H locs cells slots) (hRc : R.cells = gN E0.2 7 0 - gN S0 7 0 ∧ R.slots = gN E0.2 3 0 - gN S0 3 0) (hout : ∀ x ∈ c.exceptionTable.toList, False) (hlocks : meth.locks = false)
    (hrun : ∀ E : (ρ1 ⊕ String) × St, f.1 S = some E → cells + (gN E.2 7 0 - gN S 7 0) ≤ R.cells ∧ slots + (gN E.2 3 0 - gN S 3 0) ≤ R.slots → vx_Run p l e R s m args below meth c H locs cells slots (gN E.2 7 0 - gN S 7 0) (gN E.2 3 0 - gN S 3 0) (F0 m pc ls st0) rest (fun st oc t => ∃ r : ρ1, E.1 = .inl r ∧ oc = .returned (val1 r) ∧ PC D w A E.2 t.heap ∧ va_F A st t) (XX E D w A) A)
    (kk : ∀ (r : ρ1) (S' : St) (H' : Heap) (locs' : List Loc) (cells' slots' : Nat), (k r).1 S' = some E0 → ZZ D 187 (adrC w) (celC w) A S0 s.heap S' H' locs' cells' slots' → W p l e R s m args below meth c H' locs' cells' slots' (vx_MQ below (QX E0 val D w A) (XX E0 D w A) args s (gN E0.2 7 0 - gN S0 7 0) (gN E0.2 3 0 - gN S0 3 0) A) (F0 m (pc + 3) ls ((val1 r).toList ++ rest))) :
    W p l e R s m args below meth c H locs cells slots (vx_MQ below (QX E0 val D w A) (XX E0 D w A) args s (gN E0.2 7 0 - gN S0 7 0) (gN E0.2 3 0 - gN S0 3 0) A) (F0 m pc ls st0) := by
  obtain ⟨a, S', hf, hk⟩ := bnd_inv hE
  have h1 := f.2 S _ hf
  have h2 := PM.property_le hk
  dsimp only at h1
  obtain ⟨hW, hS, h7, h3⟩ := hZ
  intro T hT X
  rcases hrun _ hf ⟨by dsimp only; omega, by dsimp only; omega⟩ T hT X with ⟨v, st₀, t, T', L, h0, X', hL, e1, e2, ⟨r, hr, hv, hp, hz, hk2⟩, st⟩ | ⟨q, st₀, t, T', L, En, ce, h0, X', hL, e1, e2, ⟨hr, hp, hz, hk2⟩, hce, hcv, hcl, st⟩
  · dsimp only at hr
    subst hr
    have hv' : v = val1 r := Outcome.returned.inj hv
    subst hv'
    rw [h0] at hz hk2
    obtain ⟨t2, a1, b1⟩ := kk r S' T'.heap (locs ++ L) _ _ hk ⟨by rw [e1]; exact hp, ⟨Nat.le_trans hS.1 (by rw [e1]; exact hz), fun q g1 g2 => by rw [e1, hk2 q (Nat.lt_of_lt_of_le g1 hS.1) g2]; exact hS.2.1 q g1 g2, fun q hq => (List.mem_append.mp hq).elim (hS.2.2 q) (fun h => hL q h)⟩, by show cells + (gN S' 7 0 - gN S 7 0) + gN S0 7 0 = gN S' 7 0; omega, by show slots + (gN S' 3 0 - gN S 3 0) + gN S0 3 0 = gN S' 3 0; omega⟩ T' rfl X'
    exact ⟨t2, st t2 a1, b1⟩
  · dsimp only at hr
    subst hr
    have h9 : (Sum.inr En, S') = E0 := Option.some.inj hk
    subst h9
    rw [h0] at hz hk2
    obtain ⟨t2, a1, b1⟩ := vx_out (pc := pc) (ls := ls) (rest := rest) (Qc := QX ((Sum.inr En, S') : (ρ ⊕ String) × St) val D w A) (XC := XX ((Sum.inr En, S') : (ρ ⊕ String) × St) D w A) (args := args) (mc := gN S' 7 0 - gN S0 7 0) (ms := gN S' 3 0 - gN S0 3 0) (free := A) (fun x hx => (hout x hx).elim) hlocks (by rw [e1]; exact hce) hcv hcl (fun t9 ht9 _ => ⟨rfl, by rw [ht9, e1]; exact hp, ⟨by rw [ht9, e1]; exact Nat.le_trans hS.1 hz, fun q g1 g2 => by rw [ht9, e1, hk2 q (Nat.lt_of_lt_of_le g1 hS.1) g2]; exact hS.2.1 q g1 g2⟩⟩) (fun z hz9 => (List.mem_append.mp hz9).elim (hS.2.2 z) (fun h => hL z h)) (by show cells + (gN S' 7 0 - gN S 7 0) ≤ gN S' 7 0 - gN S0 7 0; omega) (by show slots + (gN S' 3 0 - gN S 3 0) ≤ gN S' 3 0 - gN S0 3 0; omega) T' rfl X'
    exact ⟨t2, st.trans a1, b1⟩
theorem call_VX (K0 : CallFix p m c cc nL s args GW own) (hK : va_K D vwCl (tysC w) s) (hok : EVok EV A) (hEV : EV s) (hA : ∀ q, s.heap.size ≤ q → A q) {ad : Nat → Nat} {off nn x : Nat} {As : List Value} {y : MethodName} {b : ByteArray} {n fr lo index : Nat} {rt : Option FieldType}
    (hcall : CX l y b n rt fr lo D w EV A (vr ad off nn x :: As) f val1) {C : String} (g1 : Cond.methodLink own index y ∈ GW) (g2 : Cond.instanceMethod y ∈ GW) (g3 : Cond.selects C y y ∈ GW) (g4 : Cond.initialized C ∈ GW) (g5 : Cond.code y b n rt ∈ GW)
    (yd : y.cls = C ∧ y.cls ≠ "java/lang/invoke/MethodHandle" ∧ y.cls ≠ "java/lang/invoke/VarHandle" ∧ (parseMethodDescriptor y.desc).map (fun d => d.parameters.length) = some As.length) (hR : fr + 1 ≤ R.frames ∧ 8 + (n + 11) + lo ≤ R.locals) (hRc : R.cells = gN E0.2 7 0 - gN S0 7 0 ∧ R.slots = gN E0.2 3 0 - gN S0 3 0) (hout : ∀ x ∈ c.exceptionTable.toList, False) (hlocks : meth.locks = false)
    {ci : Nat} {q : vw_C} (hc : vwCl[ci]? = some q) (hq1 : q.1 = C) (hcel : x < nn → off + x < 187 ∧ adrC w S (off + x) = ad (off + x) ∧ ∃ fs, celC w S (off + x) = .inr (ci, fs))
    (hE : (if x < nn then bndX f k else fail).1 S = some E0) (hZ : ZZ D 187 (adrC w) (celC w) A S0 s.heap S H locs cells slots) (hls : ls.size = nL) (hst : st0 = As.reverse ++ vr ad off nn x :: rest) (hcat : (rest.map fun v => v.category).sum ≤ 8) (hdg : decode cc pc = .ok (.invokevirtual index, 3))
    (kk : ∀ (r : ρ1) (S' : St) (H' : Heap) (locs' : List Loc) (cells' slots' : Nat), (k r).1 S' = some E0 → ZZ D 187 (adrC w) (celC w) A S0 s.heap S' H' locs' cells' slots' → W p l e R s m args below meth c H' locs' cells' slots' (vx_MQ below (QX E0 val D w A) (XX E0 D w A) args s (gN E0.2 7 0 - gN S0 7 0) (gN E0.2 3 0 - gN S0 3 0) A) (F0 m (pc + 3) ls ((val1 r).toList ++ rest))) :
    W p l e R s m args below meth c H locs cells slots (vx_MQ below (QX E0 val D w A) (XX E0 D w A) args s (gN E0.2 7 0 - gN S0 7 0) (gN E0.2 3 0 - gN S0 3 0) A) (F0 m pc ls st0) := by
  obtain ⟨hx, hE⟩ := if_ok hE
  rw [vr_ref hx] at hst hcall
  obtain ⟨hq, had, fs, hcel⟩ := hcel hx
  refine call_runX hE hZ hRc hout hlocks (fun E hf hroom => ?_) kk
  have hgv := gw_V g1 g2 g3 g4 g5
  subst hq1
  exact vx_runV (As := As) (rest := rest) K0 (hcall S E hf (call_hA hA hZ)) (cwV As.length K0.2.2.2.2 hgv rfl rfl rfl yd hR) ⟨call_blind hok, va_recv hK hZ.1.2.1 (ci := ci) (q0 := off + x) hc (by rw [iw_get hq, hcel, had]), fun U hU hW => ⟨rfl, call_pre hok hEV hZ hU hW⟩⟩ rfl rfl hls hst (lv_room hcat) hdg hroom
theorem call_SX (K0 : CallFix p m c cc nL s args GW own) (hok : EVok EV A) (hEV : EV s) (hA : ∀ q, s.heap.size ≤ q → A q) {C : String} {As : List Value} {y : MethodName} {b : ByteArray} {n fr lo index : Nat} {rt : Option FieldType}
    (hcall : CX l y b n rt fr lo D w EV A As f val1) (g1 : Cond.methodLink own index y ∈ GW) (g2 : Cond.static y ∈ GW) (g4 : Cond.initialized y.cls ∈ GW) (g5 : Cond.code y b n rt ∈ GW)
    (yd : y.cls = C ∧ y.cls ≠ "java/lang/invoke/MethodHandle" ∧ y.cls ≠ "java/lang/invoke/VarHandle" ∧ (parseMethodDescriptor y.desc).map (fun d => d.parameters.length) = some As.length) (hR : fr + 1 ≤ R.frames ∧ 8 + (n + 11) + lo ≤ R.locals) (hRc : R.cells = gN E0.2 7 0 - gN S0 7 0 ∧ R.slots = gN E0.2 3 0 - gN S0 3 0) (hout : ∀ x ∈ c.exceptionTable.toList, False) (hlocks : meth.locks = false)
    (hE : (bndX f k).1 S = some E0) (hZ : ZZ D 187 (adrC w) (celC w) A S0 s.heap S H locs cells slots) (hls : ls.size = nL) (hst : st0 = As.reverse ++ rest) (hcat : (rest.map fun v => v.category).sum ≤ 8) (hdg : decode cc pc = .ok (.invokestatic index, 3))
    (kk : ∀ (r : ρ1) (S' : St) (H' : Heap) (locs' : List Loc) (cells' slots' : Nat), (k r).1 S' = some E0 → ZZ D 187 (adrC w) (celC w) A S0 s.heap S' H' locs' cells' slots' → W p l e R s m args below meth c H' locs' cells' slots' (vx_MQ below (QX E0 val D w A) (XX E0 D w A) args s (gN E0.2 7 0 - gN S0 7 0) (gN E0.2 3 0 - gN S0 3 0) A) (F0 m (pc + 3) ls ((val1 r).toList ++ rest))) :
    W p l e R s m args below meth c H locs cells slots (vx_MQ below (QX E0 val D w A) (XX E0 D w A) args s (gN E0.2 7 0 - gN S0 7 0) (gN E0.2 3 0 - gN S0 3 0) A) (F0 m pc ls st0) := by
  refine call_runX hE hZ hRc hout hlocks (fun E hf hroom => ?_) kk
  exact vx_runS (As := As) (rest := rest) K0 (hcall S E hf (call_hA hA hZ)) (va_cwS As.length K0.2.2.2.2 (gw_vS g1 g2 g4 g5) rfl rfl rfl yd.2 hR) ⟨call_blind hok, fun U hU hW => ⟨rfl, call_pre hok hEV hZ hU hW⟩⟩ rfl rfl hls hst (lv_room hcat) hdg hroom
end XENDS
theorem atl_IllegalArgumentException : ∀ w ∈ (vx_atS RX5 29 "java/lang/IllegalArgumentException" ["java/lang/RuntimeException", "java/lang/Exception"]), w ∈ lw_tbl := by decide +kernel
theorem atn_IllegalArgumentException : ∀ w ∈ (vx_atS RX5 29 "java/lang/IllegalArgumentException" ["java/lang/RuntimeException", "java/lang/Exception"]).filter (fun w => !goodWord w), w ∈ NWl := by decide +kernel
theorem atg_IllegalArgumentException : ∀ w ∈ Cond.classLink RX5 25 "java/lang/IllegalArgumentException" :: Cond.initialized "java/lang/IllegalArgumentException" :: (vx_atS RX5 29 "java/lang/IllegalArgumentException" ["java/lang/RuntimeException", "java/lang/Exception"]), vx_ot w = true := by decide +kernel
theorem at_IllegalArgumentException {D : va_G} {w : Wc} {aS : Nat → Nat} {sk sv : Nat} {A : Nat → Prop} {s : State} {args : Array Value} (hEV : ENVC D w aS sk sv A s) (hg : ∀ w ∈ GW, w.before args s = true) : ∀ w ∈ (vx_atS RX5 29 "java/lang/IllegalArgumentException" ["java/lang/RuntimeException", "java/lang/Exception"]), w.before args s = true := vx_hat (B := NWl) (fun w hw => hg w (List.mem_filter.mpr ⟨atl_IllegalArgumentException w (List.mem_filter.mp hw).1, (List.mem_filter.mp hw).2⟩)) atn_IllegalArgumentException (fun w hw => va_Nw.use (NWl_ok w hw).1 (hEV.2.1 w hw))
theorem atl_IllegalStateException : ∀ w ∈ (vx_atS RX5 45 "java/lang/IllegalStateException" ["java/lang/RuntimeException", "java/lang/Exception"]), w ∈ lw_tbl := by decide +kernel
theorem atn_IllegalStateException : ∀ w ∈ (vx_atS RX5 45 "java/lang/IllegalStateException" ["java/lang/RuntimeException", "java/lang/Exception"]).filter (fun w => !goodWord w), w ∈ NWl := by decide +kernel
theorem atg_IllegalStateException : ∀ w ∈ Cond.classLink RX5 41 "java/lang/IllegalStateException" :: Cond.initialized "java/lang/IllegalStateException" :: (vx_atS RX5 45 "java/lang/IllegalStateException" ["java/lang/RuntimeException", "java/lang/Exception"]), vx_ot w = true := by decide +kernel
theorem at_IllegalStateException {D : va_G} {w : Wc} {aS : Nat → Nat} {sk sv : Nat} {A : Nat → Prop} {s : State} {args : Array Value} (hEV : ENVC D w aS sk sv A s) (hg : ∀ w ∈ GW, w.before args s = true) : ∀ w ∈ (vx_atS RX5 45 "java/lang/IllegalStateException" ["java/lang/RuntimeException", "java/lang/Exception"]), w.before args s = true := vx_hat (B := NWl) (fun w hw => hg w (List.mem_filter.mpr ⟨atl_IllegalStateException w (List.mem_filter.mp hw).1, (List.mem_filter.mp hw).2⟩)) atn_IllegalStateException (fun w hw => va_Nw.use (NWl_ok w hw).1 (hEV.2.1 w hw))
theorem atl_NoSuchElementException : ∀ w ∈ ((nx_at RX5 217).filter vx_no), w ∈ lw_tbl := by decide +kernel
theorem atn_NoSuchElementException : ∀ w ∈ ((nx_at RX5 217).filter vx_no).filter (fun w => !goodWord w), w ∈ NWl := by decide +kernel
theorem atg_NoSuchElementException : ∀ w ∈ Cond.classLink RX5 213 nxC :: Cond.initialized nxC :: ((nx_at RX5 217).filter vx_no), vx_ot w = true := by decide +kernel
theorem at_NoSuchElementException {D : va_G} {w : Wc} {aS : Nat → Nat} {sk sv : Nat} {A : Nat → Prop} {s : State} {args : Array Value} (hEV : ENVC D w aS sk sv A s) (hg : ∀ w ∈ GW, w.before args s = true) : ∀ w ∈ ((nx_at RX5 217).filter vx_no), w.before args s = true := vx_hat (B := NWl) (fun w hw => hg w (List.mem_filter.mpr ⟨atl_NoSuchElementException w (List.mem_filter.mp hw).1, (List.mem_filter.mp hw).2⟩)) atn_NoSuchElementException (fun w hw => va_Nw.use (NWl_ok w hw).1 (hEV.2.1 w hw))
theorem atl_UnsupportedOperationException : ∀ w ∈ (vx_atS RX5 127 "java/lang/UnsupportedOperationException" ["java/lang/RuntimeException", "java/lang/Exception"]), w ∈ lw_tbl := by decide +kernel
theorem atn_UnsupportedOperationException : ∀ w ∈ (vx_atS RX5 127 "java/lang/UnsupportedOperationException" ["java/lang/RuntimeException", "java/lang/Exception"]).filter (fun w => !goodWord w), w ∈ NWl := by decide +kernel
theorem atg_UnsupportedOperationException : ∀ w ∈ Cond.classLink RX5 123 "java/lang/UnsupportedOperationException" :: Cond.initialized "java/lang/UnsupportedOperationException" :: (vx_atS RX5 127 "java/lang/UnsupportedOperationException" ["java/lang/RuntimeException", "java/lang/Exception"]), vx_ot w = true := by decide +kernel
theorem at_UnsupportedOperationException {D : va_G} {w : Wc} {aS : Nat → Nat} {sk sv : Nat} {A : Nat → Prop} {s : State} {args : Array Value} (hEV : ENVC D w aS sk sv A s) (hg : ∀ w ∈ GW, w.before args s = true) : ∀ w ∈ (vx_atS RX5 127 "java/lang/UnsupportedOperationException" ["java/lang/RuntimeException", "java/lang/Exception"]), w.before args s = true := vx_hat (B := NWl) (fun w hw => hg w (List.mem_filter.mpr ⟨atl_UnsupportedOperationException w (List.mem_filter.mp hw).1, (List.mem_filter.mp hw).2⟩)) atn_UnsupportedOperationException (fun w hw => va_Nw.use (NWl_ok w hw).1 (hEV.2.1 w hw))
theorem atl_IndexOutOfBoundsException : ∀ w ∈ (vx_atS RX5 234 "java/lang/IndexOutOfBoundsException" ["java/lang/RuntimeException", "java/lang/Exception"]), w ∈ lw_tbl := by decide +kernel
theorem atn_IndexOutOfBoundsException : ∀ w ∈ (vx_atS RX5 234 "java/lang/IndexOutOfBoundsException" ["java/lang/RuntimeException", "java/lang/Exception"]).filter (fun w => !goodWord w), w ∈ NWl := by decide +kernel
theorem atg_IndexOutOfBoundsException : ∀ w ∈ Cond.classLink RX5 230 "java/lang/IndexOutOfBoundsException" :: Cond.initialized "java/lang/IndexOutOfBoundsException" :: (vx_atS RX5 234 "java/lang/IndexOutOfBoundsException" ["java/lang/RuntimeException", "java/lang/Exception"]), vx_ot w = true := by decide +kernel
theorem at_IndexOutOfBoundsException {D : va_G} {w : Wc} {aS : Nat → Nat} {sk sv : Nat} {A : Nat → Prop} {s : State} {args : Array Value} (hEV : ENVC D w aS sk sv A s) (hg : ∀ w ∈ GW, w.before args s = true) : ∀ w ∈ (vx_atS RX5 234 "java/lang/IndexOutOfBoundsException" ["java/lang/RuntimeException", "java/lang/Exception"]), w.before args s = true := vx_hat (B := NWl) (fun w hw => hg w (List.mem_filter.mpr ⟨atl_IndexOutOfBoundsException w (List.mem_filter.mp hw).1, (List.mem_filter.mp hw).2⟩)) atn_IndexOutOfBoundsException (fun w hw => va_Nw.use (NWl_ok w hw).1 (hEV.2.1 w hw))
theorem atl_ArithmeticException : ∀ w ∈ (vx_atS RX5 260 "java/lang/ArithmeticException" ["java/lang/RuntimeException", "java/lang/Exception"]), w ∈ lw_tbl := by decide +kernel
theorem atn_ArithmeticException : ∀ w ∈ (vx_atS RX5 260 "java/lang/ArithmeticException" ["java/lang/RuntimeException", "java/lang/Exception"]).filter (fun w => !goodWord w), w ∈ NWl := by decide +kernel
theorem atg_ArithmeticException : ∀ w ∈ Cond.classLink RX5 256 "java/lang/ArithmeticException" :: Cond.initialized "java/lang/ArithmeticException" :: (vx_atS RX5 260 "java/lang/ArithmeticException" ["java/lang/RuntimeException", "java/lang/Exception"]), vx_ot w = true := by decide +kernel
theorem at_ArithmeticException {D : va_G} {w : Wc} {aS : Nat → Nat} {sk sv : Nat} {A : Nat → Prop} {s : State} {args : Array Value} (hEV : ENVC D w aS sk sv A s) (hg : ∀ w ∈ GW, w.before args s = true) : ∀ w ∈ (vx_atS RX5 260 "java/lang/ArithmeticException" ["java/lang/RuntimeException", "java/lang/Exception"]), w.before args s = true := vx_hat (B := NWl) (fun w hw => hg w (List.mem_filter.mpr ⟨atl_ArithmeticException w (List.mem_filter.mp hw).1, (List.mem_filter.mp hw).2⟩)) atn_ArithmeticException (fun w hw => va_Nw.use (NWl_ok w hw).1 (hEV.2.1 w hw))
