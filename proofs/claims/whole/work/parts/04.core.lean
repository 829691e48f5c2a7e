/-! part 04: what a side of the law holds, as one value; programs over it; worlds told by an index; the rows of a walk that carries its program along -/
abbrev St : Type := (Nat → Nat → Nat → Int32) × (Nat → Int64) × (Nat → Nat → Nat)
def gI (S : St) (f i j : Nat) : Int32 := S.1 f i j
def gL (S : St) (i : Nat) : Int64 := S.2.1 i
def gN (S : St) (f i : Nat) : Nat := S.2.2 f i
def pI (S : St) (f i j : Nat) (v : Int32) : St := (fun a b c => if a = f ∧ b = i ∧ c = j then v else S.1 a b c, S.2)
def pL (S : St) (i : Nat) (v : Int64) : St := (S.1, fun a => if a = i then v else S.2.1 a, S.2.2)
def pN (S : St) (f i : Nat) (v : Nat) : St := (S.1, S.2.1, fun a b => if a = f ∧ b = i then v else S.2.2 a b)
theorem gI_pI (S : St) (f i j : Nat) (v : Int32) (a b c : Nat) : gI (pI S f i j v) a b c = if a = f ∧ b = i ∧ c = j then v else gI S a b c := rfl
theorem gL_pI (S : St) (f i j : Nat) (v : Int32) (a : Nat) : gL (pI S f i j v) a = gL S a := rfl
theorem gN_pI (S : St) (f i j : Nat) (v : Int32) (a b : Nat) : gN (pI S f i j v) a b = gN S a b := rfl
theorem gI_pL (S : St) (i : Nat) (v : Int64) (a b c : Nat) : gI (pL S i v) a b c = gI S a b c := rfl
theorem gL_pL (S : St) (i : Nat) (v : Int64) (a : Nat) : gL (pL S i v) a = if a = i then v else gL S a := rfl
theorem gN_pL (S : St) (i : Nat) (v : Int64) (a b : Nat) : gN (pL S i v) a b = gN S a b := rfl
theorem gI_pN (S : St) (f i v a b c : Nat) : gI (pN S f i v) a b c = gI S a b c := rfl
theorem gL_pN (S : St) (f i v a : Nat) : gL (pN S f i v) a = gL S a := rfl
theorem gN_pN (S : St) (f i v a b : Nat) : gN (pN S f i v) a b = if a = f ∧ b = i then v else gN S a b := rfl
/-- a program: it may fail; the counts of what was made (7: cells, 3: slots) never fall -/
def okP {α : Type} (f : St → Option (α × St)) : Prop := ∀ (S : St) (E : α × St), f S = some E → gN S 7 0 ≤ gN E.2 7 0 ∧ gN S 3 0 ≤ gN E.2 3 0
abbrev PM (α : Type) : Type := { f : St → Option (α × St) // okP f }
def rtn {α : Type} (a : α) : PM α := ⟨fun S => some (a, S), fun S E h => by cases h; exact ⟨Nat.le_refl _, Nat.le_refl _⟩⟩
def fail {α : Type} : PM α := ⟨fun _ => none, fun S E h => by cases h⟩
def bnd {α β : Type} (x : PM α) (k : α → PM β) : PM β := ⟨fun S => (x.1 S).bind (fun E => (k E.1).1 E.2), fun S E h => by
  obtain ⟨a, h1, h2⟩ := Option.bind_eq_some_iff.mp h
  have h3 := x.2 S a h1
  have h4 := (k a.1).2 a.2 E h2
  exact ⟨Nat.le_trans h3.1 h4.1, Nat.le_trans h3.2 h4.2⟩⟩
def rdI (f i j : Nat) : PM Int32 := ⟨fun S => some (gI S f i j, S), fun S E h => by cases h; exact ⟨Nat.le_refl _, Nat.le_refl _⟩⟩
def rdL (i : Nat) : PM Int64 := ⟨fun S => some (gL S i, S), fun S E h => by cases h; exact ⟨Nat.le_refl _, Nat.le_refl _⟩⟩
def rdN (f i : Nat) : PM Nat := ⟨fun S => some (gN S f i, S), fun S E h => by cases h; exact ⟨Nat.le_refl _, Nat.le_refl _⟩⟩
def wrI (f i j : Nat) (v : Int32) : PM Unit := ⟨fun S => some ((), pI S f i j v), fun S E h => by cases h; exact ⟨Nat.le_refl _, Nat.le_refl _⟩⟩
def wrL (i : Nat) (v : Int64) : PM Unit := ⟨fun S => some ((), pL S i v), fun S E h => by cases h; exact ⟨Nat.le_refl _, Nat.le_refl _⟩⟩
/-- an object's field, a row's element; x: which object of its kind; n: how many there are -/
def rdc (n x f : Nat) : PM Int32 := if x < n then rdI f x 0 else fail
def rdcL (n x : Nat) : PM Int64 := if x < n then rdL x else fail
def wrc (n x f : Nat) (v : Int32) : PM Unit := if x < n then wrI f x 0 v else fail
def wrcC (n x f : Nat) (v : Int32) : PM Unit := if x < n ∧ (v.toUInt32 % 65536).toInt32 = v then wrI f x 0 v else fail
def wrcZ (n x f : Nat) (v : Int32) : PM Unit := if x < n ∧ (v = 0 ∨ v = 1) then wrI f x 0 v else fail
def wrcL (n x : Nat) (v : Int64) : PM Unit := if x < n then wrL x v else fail
def rfc (n x r : Nat) : PM Nat := if x < n then rtn r else fail
def rdk (n x : Nat) (v : Int32) : PM Int32 := if x < n then rtn v else fail
def ald (n x f len : Nat) (i : Int32) : PM Int32 := if x < n ∧ ¬ (i < 0 ∨ len ≤ i.toNatClampNeg) then rdI f x i.toNatClampNeg else fail
def ast (n x f len : Nat) (i v : Int32) : PM Unit := if x < n ∧ ¬ (i < 0 ∨ len ≤ i.toNatClampNeg) then wrI f x i.toNatClampNeg v else fail
def arf (n x len : Nat) (i : Int32) (r : Nat → Nat) : PM Nat := if x < n ∧ ¬ (i < 0 ∨ len ≤ i.toNatClampNeg) then rtn (r i.toNatClampNeg) else fail
theorem bnd_inv {α β : Type} {x : PM α} {k : α → PM β} {S : St} {E : β × St} (h : (bnd x k).1 S = some E) : ∃ (a : α) (S' : St), x.1 S = some (a, S') ∧ (k a).1 S' = some E := by
  obtain ⟨a, h1, h2⟩ := Option.bind_eq_some_iff.mp h
  exact ⟨a.1, a.2, h1, h2⟩
theorem run_if {α : Type} {c : Prop} [Decidable c] {a b : PM α} {S : St} : (if c then a else b).1 S = if c then a.1 S else b.1 S := by split <;> rfl
theorem if_t {α : Type} {c : Prop} [Decidable c] {a b : PM α} {S : St} {E : α × St} (h : (if c then a else b).1 S = some E) (hc : c) : a.1 S = some E := by rwa [if_pos hc] at h
theorem if_f {α : Type} {c : Prop} [Decidable c] {a b : PM α} {S : St} {E : α × St} (h : (if c then a else b).1 S = some E) (hc : ¬ c) : b.1 S = some E := by rwa [if_neg hc] at h
theorem if_ok {α : Type} {c : Prop} [Decidable c] {a : PM α} {S : St} {E : α × St} (h : (if c then a else fail).1 S = some E) : c ∧ a.1 S = some E := by
  by_cases hc : c
  · rw [if_pos hc] at h; exact ⟨hc, h⟩
  · rw [if_neg hc] at h; cases h
/-- a world told by an index -/
def iw (n : Nat) (adr : St → Nat → Nat) (cel : St → Nat → va_E) (S : St) : va_W := (List.range n).map (fun k => (adr S k, cel S k))
theorem iw_get {n : Nat} {adr : St → Nat → Nat} {cel : St → Nat → va_E} {S : St} {k : Nat} (h : k < n) : (iw n adr cel S)[k]? = some (adr S k, cel S k) := by
  unfold iw
  rw [List.getElem?_map, List.getElem?_range h]
  rfl
theorem iw_set {n : Nat} {adr : St → Nat → Nat} {cel : St → Nat → va_E} {S S' : St} {k : Nat} {e : va_E} (h : k < n) (he : cel S' k = e) (ha : ∀ j, j < n → adr S' j = adr S j) (hc : ∀ j, j < n → j ≠ k → cel S' j = cel S j) : (iw n adr cel S).set k (adr S k, e) = iw n adr cel S' := by
  apply List.ext_getElem?
  intro j
  by_cases hj : j < n
  · rw [iw_get hj, List.getElem?_set]
    have hl : (iw n adr cel S).length = n := by unfold iw; rw [List.length_map, List.length_range]
    by_cases hk : k = j
    · subst hk
      rw [if_pos rfl, if_pos (by rw [hl]; exact hj), he, ha k hj]
    · rw [if_neg hk, iw_get hj, ha j hj, hc j hj (fun q => hk q.symm)]
  · have hl : (iw n adr cel S).length = n := by unfold iw; rw [List.length_map, List.length_range]
    have hl' : (iw n adr cel S').length = n := by unfold iw; rw [List.length_map, List.length_range]
    rw [List.getElem?_eq_none (by rw [List.length_set, hl]; omega), List.getElem?_eq_none (by rw [hl']; omega)]
def PW (D : va_G) (n : Nat) (adr : St → Nat → Nat) (cel : St → Nat → va_E) (A : Nat → Prop) (S : St) (H : Heap) : Prop := H.size = gN S 2 0 ∧ va_P D vwCl (iw n adr cel S) H ∧ va_D A (iw n adr cel S)
/-- a reference that may be null -/
def vr (ad : Nat → Nat) (off n x : Nat) : Value := if x < n then .ref (ad (off + x)) else .null
theorem vr_ref {ad : Nat → Nat} {off n x : Nat} (h : x < n) : vr ad off n x = .ref (ad (off + x)) := if_pos h
theorem vr_null {ad : Nat → Nat} {off n x : Nat} (h : ¬ x < n) : vr ad off n x = .null := if_neg h
theorem vr_cat {ad : Nat → Nat} {off n x : Nat} : (vr ad off n x).category = 1 := by unfold vr; split <;> rfl
/-- the walk's own state: the world, the frame, the counts since the method's start -/
def ZZ (D : va_G) (n : Nat) (adr : St → Nat → Nat) (cel : St → Nat → va_E) (A : Nat → Prop) (S0 : St) (H0 : Heap) (S : St) (H : Heap) (locs : List Loc) (cells slots : Nat) : Prop :=
  PW D n adr cel A S H ∧ va_S A H0 H locs ∧ cells + gN S0 7 0 = gN S 7 0 ∧ slots + gN S0 3 0 = gN S 3 0
section ROWS
variable {p : Program} {l : Launch} {e : Env} {R : Room} {s : State} {m : MethodId} {args : Array Value} {below : List Frame} {meth : Method} {c : Code} {H H0 : Heap} {locs : List Loc} {cells slots : Nat} {Q : State → Prop}
variable {cc : ByteArray} {pc nL : Nat} {ls : Array Slot} {rest : List Value} {own : String} {ρ : Type} {E0 : ρ × St} {S S0 : St} {D : va_G} {nW : Nat} {adr : St → Nat → Nat} {cel : St → Nat → va_E} {A : Nat → Prop} {tys : List (ClassId × FieldType)}
theorem row_get (K0 : CallFix p m c cc nL s args GW own) (hK : va_K D vwCl tys s) (hZ : ZZ D nW adr cel A S0 H0 S H locs cells slots) {q0 ci a : Nat} {fs : List Value} (hq : q0 < nW) (ha : adr S q0 = a) (hcel : cel S q0 = .inr (ci, fs)) {C : String} {T : u_T} {N : Nat} (hc : vwCl[ci]? = some (C, T, N)) (hin : ∀ w ∈ u_ws C T N, w ∈ GW) (i : Nat) (hi : i < N) {index : Nat}
    (hlink : Cond.fieldLink own index (T i).1 (T i).2.1 (T i).2.2.1 ∈ GW) {v : Value} (hv : fs[i]? = some v) (hdg : decode cc pc = .ok (.getfield index, 3)) (kk : W p l e R s m args below meth c H locs cells slots Q (F0 m (pc + 3) ls (v :: rest))) : W p l e R s m args below meth c H locs cells slots Q (F0 m pc ls (.ref a :: rest)) := by
  subst ha
  exact va_get K0.1 K0.2.1 (K0.2.2.2.2) hin K0.2.2.2.1 hK hZ.1.2.1 q0 (by rw [iw_get hq, hcel]) hc i hi (K0.2.2.2.2 _ hlink) (fun _ h => h) hv hdg kk
theorem row_getN (K0 : CallFix p m c cc nL s args GW own) (hK : va_K D vwCl tys s) (hZ : ZZ D nW adr cel A S0 H0 S H locs cells slots) {q0 ci a : Nat} {fs : List Value} (hq : q0 < nW) (ha : adr S q0 = a) (hcel : cel S q0 = .inr (ci, fs)) {C : String} {T : u_T} {N : Nat} (hc : vwCl[ci]? = some (C, T, N)) (hin : ∀ w ∈ u_ws C T N, w ∈ GW) (i : Nat) (hi : i < N) {index : Nat} {host : String}
    (hlink : va_Nw (.fieldLinkNest own index (T i).1 (T i).2.1 (T i).2.2.1 host) s) {v : Value} (hv : fs[i]? = some v) (hdg : decode cc pc = .ok (.getfield index, 3)) (kk : W p l e R s m args below meth c H locs cells slots Q (F0 m (pc + 3) ls (v :: rest))) : W p l e R s m args below meth c H locs cells slots Q (F0 m pc ls (.ref a :: rest)) := by
  subst ha
  exact va_getN K0.1 K0.2.1 (K0.2.2.2.2) hin K0.2.2.2.1 hK hZ.1.2.1 q0 (by rw [iw_get hq, hcel]) hc i hi (va_Nw.use rfl hlink) (fun _ h => h) hv hdg kk
theorem row_put (K0 : CallFix p m c cc nL s args GW own) (hK : va_K D vwCl tys s) (hZ : ZZ D nW adr cel A S0 H0 S H locs cells slots) {q0 ci a : Nat} {fs : List Value} (hq : q0 < nW) (ha : adr S q0 = a) (hcel : cel S q0 = .inr (ci, fs)) {C : String} {T : u_T} {N : Nat} (hc : vwCl[ci]? = some (C, T, N)) (hin : ∀ w ∈ u_ws C T N, w ∈ GW)
    (ty0 : Nat → FieldType) (hty : ∀ k, k < N → parseFieldDescriptor (T k).2.2.1 = some (ty0 k)) (hnm : ∀ a, a < N → ∀ b, b < N → a ≠ b → (T a).2.1 ≠ (T b).2.1) (i : Nat) (hi : i < N) {index : Nat} 
    (hlink : Cond.fieldLink own index (T i).1 (T i).2.1 (T i).2.2.1 ∈ GW) (hfin : (T i).2.2.2 = false) {v : Value} (hn : narrow (ty0 i) v = v) (hfit : fits (ty0 i) v = true) (hl : i < fs.length) {S' : St} (hself : cel S' q0 = .inr (ci, fs.set i v)) (hadr : ∀ j, j < nW → adr S' j = adr S j) (hoth : ∀ j, j < nW → j ≠ q0 → cel S' j = cel S j) (hN : ∀ f i, gN S' f i = gN S f i)
    (hdg : decode cc pc = .ok (.putfield index, 3)) (kk : ∀ (H' : Heap) (locs' : List Loc), ZZ D nW adr cel A S0 H0 S' H' locs' cells slots → W p l e R s m args below meth c H' locs' cells slots Q (F0 m (pc + 3) ls rest)) : W p l e R s m args below meth c H locs cells slots Q (F0 m pc ls (v :: .ref a :: rest)) := by
  subst ha
  obtain ⟨⟨hsz, hP, hD⟩, hS, h7, h3⟩ := hZ
  have hts := K0.2.2.2.2
  have he : (iw nW adr cel S)[q0]? = some (adr S q0, .inr (ci, fs)) := by rw [iw_get hq, hcel]
  have hd := hty i hi
  have hap := va_apart (own := own) hts hin ty0 hty hnm hK hc
  obtain ⟨r, h1, cell, q1, q2, q3, q4⟩ := hP q0 _ he
  have hr : r = (C, T, N) := Option.some.inj (h1.symm.trans hc)
  subst hr
  obtain ⟨hSl, hfc, kC, hkC, hkind⟩ := hK.1 ci _ hc
  obtain ⟨cf, kf, fi, f, hfi, hsl⟩ := hSl i hi
  have hlay := hts _ (hin _ (u_in_lay hi))
  unfold u_lay at hlay
  rw [if_neg (by rw [hfin]; decide)] at hlay
  have hst := (u_facts hfc hkC (u_lays hts hin hi) hfi).1
  have h6 := u_store hfc hkC hkind hlay hfi hd hn hfit
  refine W.putK K0.1 K0.2.1 (f := f) ⟨K0.2.2.2.1, hts _ hlink, ⟨_, _, _, hfi⟩, hst⟩ (by rw [q2]; exact h6) q1 q3 (by rw [hsl]; exact k2_hasslot (q4 i hi)) rfl rfl hdg fun H' e1 e2 e3 => ?_
  rw [hsl] at e1 ⊢
  have hP' := hP.set hD he (e := .inr (ci, fs.set i v)) ⟨_, hc, t_OB.to (V := updV (vp_V fs) i v) ⟨_, e1, q2, q3, t_set q4 hap hi v⟩ (fun j _ => vp_updV_set hl v j)⟩ e3
  have hD' := hD.set (e := .inr (ci, fs.set i v)) he
  rw [iw_set hq hself hadr hoth] at hP' hD'
  exact kk H' _ ⟨⟨by rw [e2, hsz, hN], hP', hD'⟩, hS.put e2 e3 (hD.2 q0 _ he), by rw [hN]; exact h7, by rw [hN]; exact h3⟩
theorem row_putN (K0 : CallFix p m c cc nL s args GW own) (hK : va_K D vwCl tys s) (hZ : ZZ D nW adr cel A S0 H0 S H locs cells slots) {q0 ci a : Nat} {fs : List Value} (hq : q0 < nW) (ha : adr S q0 = a) (hcel : cel S q0 = .inr (ci, fs)) {C : String} {T : u_T} {N : Nat} (hc : vwCl[ci]? = some (C, T, N)) (hin : ∀ w ∈ u_ws C T N, w ∈ GW)
    (ty0 : Nat → FieldType) (hty : ∀ k, k < N → parseFieldDescriptor (T k).2.2.1 = some (ty0 k)) (hnm : ∀ a, a < N → ∀ b, b < N → a ≠ b → (T a).2.1 ≠ (T b).2.1) (i : Nat) (hi : i < N) {index : Nat} {host : String}
    (hlink : va_Nw (.fieldLinkNest own index (T i).1 (T i).2.1 (T i).2.2.1 host) s) (hfin : (T i).2.2.2 = false) {v : Value} (hn : narrow (ty0 i) v = v) (hfit : fits (ty0 i) v = true) (hl : i < fs.length) {S' : St} (hself : cel S' q0 = .inr (ci, fs.set i v)) (hadr : ∀ j, j < nW → adr S' j = adr S j) (hoth : ∀ j, j < nW → j ≠ q0 → cel S' j = cel S j) (hN : ∀ f i, gN S' f i = gN S f i)
    (hdg : decode cc pc = .ok (.putfield index, 3)) (kk : ∀ (H' : Heap) (locs' : List Loc), ZZ D nW adr cel A S0 H0 S' H' locs' cells slots → W p l e R s m args below meth c H' locs' cells slots Q (F0 m (pc + 3) ls rest)) : W p l e R s m args below meth c H locs cells slots Q (F0 m pc ls (v :: .ref a :: rest)) := by
  subst ha
  obtain ⟨⟨hsz, hP, hD⟩, hS, h7, h3⟩ := hZ
  have hts := K0.2.2.2.2
  have he : (iw nW adr cel S)[q0]? = some (adr S q0, .inr (ci, fs)) := by rw [iw_get hq, hcel]
  have hd := hty i hi
  have hap := va_apart (own := own) hts hin ty0 hty hnm hK hc
  obtain ⟨r, h1, cell, q1, q2, q3, q4⟩ := hP q0 _ he
  have hr : r = (C, T, N) := Option.some.inj (h1.symm.trans hc)
  subst hr
  obtain ⟨hSl, hfc, kC, hkC, hkind⟩ := hK.1 ci _ hc
  obtain ⟨cf, kf, fi, f, hfi, hsl⟩ := hSl i hi
  have hlay := hts _ (hin _ (u_in_lay hi))
  unfold u_lay at hlay
  rw [if_neg (by rw [hfin]; decide)] at hlay
  have hst := (u_facts hfc hkC (u_lays hts hin hi) hfi).1
  have h6 := u_store hfc hkC hkind hlay hfi hd hn hfit
  refine va_WputK K0.1 K0.2.1 (f := f) K0.2.2.2.1 (va_Nw.use rfl hlink) hfi hst (by rw [q2]; exact h6) q1 q3 (by rw [hsl]; exact k2_hasslot (q4 i hi)) rfl rfl hdg fun H' e1 e2 e3 => ?_
  rw [hsl] at e1 ⊢
  have hP' := hP.set hD he (e := .inr (ci, fs.set i v)) ⟨_, hc, t_OB.to (V := updV (vp_V fs) i v) ⟨_, e1, q2, q3, t_set q4 hap hi v⟩ (fun j _ => vp_updV_set hl v j)⟩ e3
  have hD' := hD.set (e := .inr (ci, fs.set i v)) he
  rw [iw_set hq hself hadr hoth] at hP' hD'
  exact kk H' _ ⟨⟨by rw [e2, hsz, hN], hP', hD'⟩, hS.put e2 e3 (hD.2 q0 _ he), by rw [hN]; exact h7, by rw [hN]; exact h3⟩
theorem row_iast (K0 : CallFix p m c cc nL s args GW own) (hK : va_K D vwCl tys s) (hZ : ZZ D nW adr cel A S0 H0 S H locs cells slots) {q0 t0 a n : Nat} {f : Nat → Int32} {cA : ClassId} (hq : q0 < nW) (ha : adr S q0 = a) (hcel : cel S q0 = .inl (cA, n, .inl f)) (ht : tys[t0]? = some (cA, .int)) {i x : Int32} (hin : ¬ (i < 0 ∨ n ≤ i.toNatClampNeg))
    {S' : St} (hself : cel S' q0 = .inl (cA, n, .inl (upd f i.toNatClampNeg (x)))) (hadr : ∀ j, j < nW → adr S' j = adr S j) (hoth : ∀ j, j < nW → j ≠ q0 → cel S' j = cel S j) (hN : ∀ f i, gN S' f i = gN S f i)
    (hdg : decode cc pc = .ok (.iastore, 1)) (kk : ∀ (H' : Heap) (locs' : List Loc), ZZ D nW adr cel A S0 H0 S' H' locs' cells slots → W p l e R s m args below meth c H' locs' cells slots Q (F0 m (pc + 1) ls rest)) : W p l e R s m args below meth c H locs cells slots Q (F0 m pc ls (.int x :: .int i :: .ref a :: rest)) := by
  subst ha
  obtain ⟨⟨hsz, hP, hD⟩, hS, h7, h3⟩ := hZ
  have he : (iw nW adr cel S)[q0]? = some (adr S q0, .inl (cA, n, .inl f)) := by rw [iw_get hq, hcel]
  refine W.iast K0.1 K0.2.1 (hP q0 _ he) ((hK.2 t0 _ ht).1 n (fun j => .int (f j))) (fun q => by cases q) (by show ¬ (i < 0 ∨ (arrV _ _ _).slots.size ≤ _); rw [arrV_size]; exact hin) rfl rfl hdg fun H1 e z oq => ?_
  have hc1 : H1[adr S q0]? = some (vp_cell cA (n, .inl (upd f i.toNatClampNeg (x)))) := by
    rw [e]
    rw [vp_cell_i, vp_cell_i, arrV_store]
    congr 2
    funext q
    by_cases hq : q = i.toNatClampNeg
    · subst hq
      simp [updV, upd]
    · simp [updV, upd, hq]
  have hP' := hP.set hD he (e := .inl (cA, n, .inl (upd f i.toNatClampNeg (x)))) hc1 oq
  have hD' := hD.set (e := .inl (cA, n, .inl (upd f i.toNatClampNeg (x)))) he
  rw [iw_set hq hself hadr hoth] at hP' hD'
  exact kk H1 _ ⟨⟨by rw [z, hsz, hN], hP', hD'⟩, hS.put z oq (hD.2 q0 _ he), by rw [hN]; exact h7, by rw [hN]; exact h3⟩
theorem row_cast (K0 : CallFix p m c cc nL s args GW own) (hK : va_K D vwCl tys s) (hZ : ZZ D nW adr cel A S0 H0 S H locs cells slots) {q0 t0 a n : Nat} {f : Nat → Int32} {cA : ClassId} (hq : q0 < nW) (ha : adr S q0 = a) (hcel : cel S q0 = .inl (cA, n, .inl f)) (ht : tys[t0]? = some (cA, .char)) {i x : Int32} (hin : ¬ (i < 0 ∨ n ≤ i.toNatClampNeg))
    {S' : St} (hself : cel S' q0 = .inl (cA, n, .inl (upd f i.toNatClampNeg (vp_nar .char x)))) (hadr : ∀ j, j < nW → adr S' j = adr S j) (hoth : ∀ j, j < nW → j ≠ q0 → cel S' j = cel S j) (hN : ∀ f i, gN S' f i = gN S f i)
    (hdg : decode cc pc = .ok (.castore, 1)) (kk : ∀ (H' : Heap) (locs' : List Loc), ZZ D nW adr cel A S0 H0 S' H' locs' cells slots → W p l e R s m args below meth c H' locs' cells slots Q (F0 m (pc + 1) ls rest)) : W p l e R s m args below meth c H locs cells slots Q (F0 m pc ls (.int x :: .int i :: .ref a :: rest)) := by
  subst ha
  obtain ⟨⟨hsz, hP, hD⟩, hS, h7, h3⟩ := hZ
  have he : (iw nW adr cel S)[q0]? = some (adr S q0, .inl (cA, n, .inl f)) := by rw [iw_get hq, hcel]
  refine W.cast K0.1 K0.2.1 (hP q0 _ he) ((hK.2 t0 _ ht).1 n (fun j => .int (f j))) (fun q => by cases q) (by show ¬ (i < 0 ∨ (arrV _ _ _).slots.size ≤ _); rw [arrV_size]; exact hin) rfl rfl hdg fun H1 e z oq => ?_
  have hc1 : H1[adr S q0]? = some (vp_cell cA (n, .inl (upd f i.toNatClampNeg (vp_nar .char x)))) := by
    rw [e]
    rw [vp_cell_i, vp_cell_i, arrV_store]
    congr 2
    funext q
    by_cases hq : q = i.toNatClampNeg
    · subst hq
      simp [updV, upd, vp_nar]
      try rfl
    · simp [updV, upd, hq]
  have hP' := hP.set hD he (e := .inl (cA, n, .inl (upd f i.toNatClampNeg (vp_nar .char x)))) hc1 oq
  have hD' := hD.set (e := .inl (cA, n, .inl (upd f i.toNatClampNeg (vp_nar .char x)))) he
  rw [iw_set hq hself hadr hoth] at hP' hD'
  exact kk H1 _ ⟨⟨by rw [z, hsz, hN], hP', hD'⟩, hS.put z oq (hD.2 q0 _ he), by rw [hN]; exact h7, by rw [hN]; exact h3⟩
theorem row_iald (K0 : CallFix p m c cc nL s args GW own) (hK : va_K D vwCl tys s) (hZ : ZZ D nW adr cel A S0 H0 S H locs cells slots) {q0 t0 a n : Nat} {f : Nat → Int32} {cA : ClassId} (hq : q0 < nW) (ha : adr S q0 = a) (hcel : cel S q0 = .inl (cA, n, .inl f)) (ht : tys[t0]? = some (cA, .int)) {i : Int32} (hin : ¬ (i < 0 ∨ n ≤ i.toNatClampNeg))
    (hdg : decode cc pc = .ok (.iaload, 1)) (kk : W p l e R s m args below meth c H locs cells slots Q (F0 m (pc + 1) ls (.int (f i.toNatClampNeg) :: rest))) : W p l e R s m args below meth c H locs cells slots Q (F0 m pc ls (.int i :: .ref a :: rest)) := by
  subst ha
  exact va_iald K0.1 K0.2.1 hK hZ.1.2.1 q0 t0 (by rw [iw_get hq, hcel]) ht hin hdg kk
theorem row_cald (K0 : CallFix p m c cc nL s args GW own) (hK : va_K D vwCl tys s) (hZ : ZZ D nW adr cel A S0 H0 S H locs cells slots) {q0 t0 a n : Nat} {f : Nat → Int32} {cA : ClassId} (hq : q0 < nW) (ha : adr S q0 = a) (hcel : cel S q0 = .inl (cA, n, .inl f)) (ht : tys[t0]? = some (cA, .char)) {i : Int32} (hin : ¬ (i < 0 ∨ n ≤ i.toNatClampNeg))
    (hdg : decode cc pc = .ok (.caload, 1)) (kk : W p l e R s m args below meth c H locs cells slots Q (F0 m (pc + 1) ls (.int (f i.toNatClampNeg) :: rest))) : W p l e R s m args below meth c H locs cells slots Q (F0 m pc ls (.int i :: .ref a :: rest)) := by
  subst ha
  exact va_cald K0.1 K0.2.1 hK hZ.1.2.1 q0 t0 (by rw [iw_get hq, hcel]) ht hin hdg kk
theorem row_aald (K0 : CallFix p m c cc nL s args GW own) (hK : va_K D vwCl tys s) (hZ : ZZ D nW adr cel A S0 H0 S H locs cells slots) {q0 t0 a n : Nat} {f : Nat → Option Nat} {cA : ClassId} {C : String} (hq : q0 < nW) (ha : adr S q0 = a) (hcel : cel S q0 = .inl (cA, n, .inr (.inr (.inr (.inr f))))) (ht : tys[t0]? = some (cA, .object C)) {i : Int32} (hin : ¬ (i < 0 ∨ n ≤ i.toNatClampNeg))
    (hdg : decode cc pc = .ok (.aaload, 1)) (kk : W p l e R s m args below meth c H locs cells slots Q (F0 m (pc + 1) ls (va_rf (f i.toNatClampNeg) :: rest))) : W p l e R s m args below meth c H locs cells slots Q (F0 m pc ls (.int i :: .ref a :: rest)) := by
  subst ha
  exact va_aldq K0.1 K0.2.1 hK hZ.1.2.1 q0 t0 (by rw [iw_get hq, hcel]) ht hin hdg kk
theorem row_alen (K0 : CallFix p m c cc nL s args GW own) (hK : va_K D vwCl tys s) (hZ : ZZ D nW adr cel A S0 H0 S H locs cells slots) {q0 t0 a : Nat} {x : vp_A} {cA : ClassId} {ty : FieldType} (hq : q0 < nW) (ha : adr S q0 = a) (hcel : cel S q0 = .inl (cA, x)) (ht : tys[t0]? = some (cA, ty)) {v : Int32} (hv : Int32.ofNat x.1 = v)
    (hdg : decode cc pc = .ok (.arraylength, 1)) (kk : W p l e R s m args below meth c H locs cells slots Q (F0 m (pc + 1) ls (.int v :: rest))) : W p l e R s m args below meth c H locs cells slots Q (F0 m pc ls (.ref a :: rest)) := by
  subst ha
  exact va_alen K0.1 K0.2.1 hK hZ.1.2.1 q0 t0 (by rw [iw_get hq, hcel]) ht hv hdg kk
end ROWS
