/-! part 19: worlds that are being made: cells one behind the other, by the order of their making -/
section CTR
variable {p : Program} {l : Launch} {e : Env} {R : Room} {s : State} {m : MethodId} {args : Array Value} {below : List Frame} {meth : Method} {c : Code} {H H0 : Heap} {locs : List Loc} {cells slots : Nat} {Q : State → Prop}
variable {cc : ByteArray} {pc nL : Nat} {ls : Array Slot} {rest : List Value} {own : String} {ρ : Type} {E0 : ρ × St} {S S0 : St} {D : va_G} {nW : Nat} {adr : St → Nat → Nat} {cel : St → Nat → va_E} {A : Nat → Prop} {tys : List (ClassId × FieldType)}
theorem row_putFR (K0 : CallFix p m c cc nL s args GW own) (hK : va_K D vwCl tys s) (hZ : ZZ D nW adr cel A S0 H0 S H locs cells slots) {q0 ci a : Nat} {fs : List Value} (hq : q0 < nW) (ha : adr S q0 = a) (hcel : cel S q0 = .inr (ci, fs)) {C : String} {T : u_T} {N : Nat} (hc : vwCl[ci]? = some (C, T, N)) (hin : ∀ w ∈ u_ws C T N, w ∈ GW)
    (ty0 : Nat → FieldType) (hty : ∀ k, k < N → parseFieldDescriptor (T k).2.2.1 = some (ty0 k)) (hnm : ∀ a, a < N → ∀ b, b < N → a ≠ b → (T a).2.1 ≠ (T b).2.1) (i : Nat) (hi : i < N) {index : Nat} 
    (hlink : Cond.fieldLink own index (T i).1 (T i).2.1 (T i).2.2.1 ∈ GW) (hfin : (T i).2.2.2 = true) (hin2 : meth.name = "<init>") (hdecl : (T i).1 = own) {v : Value} (hn : narrow (ty0 i) v = v) (hfit : fits (ty0 i) v = true) (hl : i < fs.length) (hdg : decode cc pc = .ok (.putfield index, 3)) (kk : ∀ (H' : Heap) (locs' : List Loc), H'.size = H.size → va_P D vwCl ((iw nW adr cel S).set q0 (a, .inr (ci, fs.set i v))) H' → va_D A ((iw nW adr cel S).set q0 (a, .inr (ci, fs.set i v))) → va_S A H0 H' locs' → W p l e R s m args below meth c H' locs' cells slots Q (F0 m (pc + 3) ls rest)) : W p l e R s m args below meth c H locs cells slots Q (F0 m pc ls (v :: .ref a :: rest)) := by
  subst ha
  obtain ⟨⟨hsz, hP, hD⟩, hS, h7, h3⟩ := hZ
  have hts := K0.2.2.2.2
  have he : (iw nW adr cel S)[q0]? = some (adr S q0, .inr (ci, fs)) := by rw [iw_get hq, hcel]
  have hd := hty i hi
  have hap := va_apart (own := own) hts hin ty0 hty hnm hK hc
  obtain ⟨r, h1, cell, q1, q2, q3, q4⟩ := hP q0 _ he
  have hr : r = (C, T, N) := Option.some.inj (h1.symm.trans hc)
  subst hr
  obtain ⟨hSl, hfc, kC, hkC, hkind⟩ := hK.1 ci _ hc
  obtain ⟨cf, kf, fi, f, hfi, hsl⟩ := hSl i hi
  have hlay := hts _ (hin _ (u_in_lay hi))
  unfold u_lay at hlay
  rw [if_pos hfin] at hlay
  have hst := (u_facts hfc hkC (u_lays hts hin hi) hfi).1
  have hcf : m.cls = cf := by
    obtain ⟨_, _, c9, _, _, _, -, -, hf9, -, -, -, hown2, -⟩ := Cond.laysFinal_spec hlay
    have e1 : c9 = cf := by have := hfi.symm.trans hf9; simp at this; exact this.1.symm
    rw [hdecl] at hown2
    rw [← e1]; exact Option.some.inj (K0.2.2.2.1.symm.trans hown2)
  have h6 := u_fits hfc hkC hkind (Or.inr hlay) hfi hd hn hfit
  refine W.putFinK K0.1 K0.2.1 K0.2.2.2.1 (hts _ hlink) hfi hst hcf hin2 (by rw [q2]; exact h6) q1 q3 (by rw [hsl]; exact k2_hasslot (q4 i hi)) rfl rfl hdg fun H' e1 e2 e3 => ?_
  rw [hsl] at e1 ⊢
  have hP' := hP.set hD he (e := .inr (ci, fs.set i v)) ⟨_, hc, t_OB.to (V := updV (vp_V fs) i v) ⟨_, e1, q2, q3, t_set q4 hap hi v⟩ (fun j _ => vp_updV_set hl v j)⟩ e3
  have hD' := hD.set (e := .inr (ci, fs.set i v)) he
  exact kk H' _ e2 hP' hD' (hS.put e2 e3 (hD.2 q0 _ he))
end CTR
abbrev adrL (base : Nat) : St → Nat → Nat := fun _ k => base + k
abbrev celL (f : Nat → va_E) : St → Nat → va_E := fun _ k => f k
def nS (h k n : Nat) : St := (fun _ _ _ => 0, fun _ => 0, fun a b => if a = 2 ∧ b = 0 then h else if a = 7 ∧ b = 0 then k else if a = 3 ∧ b = 0 then n else 0)
theorem nS2 (h k n : Nat) : gN (nS h k n) 2 0 = h := rfl
theorem nS7 (h k n : Nat) : gN (nS h k n) 7 0 = k := rfl
theorem nS3 (h k n : Nat) : gN (nS h k n) 3 0 = n := rfl
/-- n cells from base on, f their contents -/
def LW (D : va_G) (base n : Nat) (f : Nat → va_E) (A : Nat → Prop) (H : Heap) : Prop := H.size = base + n ∧ va_P D vwCl (iw n (adrL base) (celL f) (nS 0 0 0)) H ∧ va_D A (iw n (adrL base) (celL f) (nS 0 0 0))
theorem iwL (n base : Nat) (f : Nat → va_E) (S S1 : St) : iw n (adrL base) (celL f) S = iw n (adrL base) (celL f) S1 := rfl
theorem iwL_set {n base k : Nat} {f : Nat → va_E} {S : St} {e : va_E} (h : k < n) : (iw n (adrL base) (celL f) S).set k (base + k, e) = iw n (adrL base) (celL (va_up f k e)) S := by
  apply List.ext_getElem?
  intro j
  have hl : (iw n (adrL base) (celL f) S).length = n := by unfold iw; rw [List.length_map, List.length_range]
  by_cases hj : j < n
  · rw [iw_get hj, List.getElem?_set]
    by_cases hk : k = j
    · subst hk
      rw [if_pos rfl, if_pos (by rw [hl]; exact hj)]
      simp [celL, va_up]
    · rw [if_neg hk, iw_get hj]
      have hk2 : ¬ j = k := fun q => hk q.symm
      simp [celL, va_up, hk2]
  · have hl2 : (iw n (adrL base) (celL (va_up f k e)) S).length = n := by unfold iw; rw [List.length_map, List.length_range]
    rw [List.getElem?_eq_none (by rw [List.length_set, hl]; omega), List.getElem?_eq_none (by rw [hl2]; omega)]
theorem iwL_push {n base : Nat} {f : Nat → va_E} {S : St} {e : va_E} : iw n (adrL base) (celL f) S ++ [(base + n, e)] = iw (n + 1) (adrL base) (celL (va_up f n e)) S := by
  unfold iw
  rw [List.range_succ, List.map_append]
  refine congr (congrArg HAppend.hAppend ?_) ?_
  · apply List.map_congr_left
    intro j hj
    have hj := List.mem_range.mp hj
    have hk : ¬ j = n := by omega
    simp [celL, va_up, hk]
  · simp [celL, va_up]
def LZ (D : va_G) (base : Nat) (A : Nat → Prop) (H0 : Heap) (n : Nat) (f : Nat → va_E) (H : Heap) (locs : List Loc) : Prop := LW D base n f A H ∧ va_S A H0 H locs
theorem LZ.zz {D : va_G} {base n : Nat} {A : Nat → Prop} {H0 H : Heap} {f : Nat → va_E} {locs : List Loc} (h : LZ D base A H0 n f H locs) (cells slots : Nat) : ZZ D n (adrL base) (celL f) A (nS 0 0 0) H0 (nS (base + n) cells slots) H locs cells slots := ⟨⟨h.1.1, h.1.2.1, h.1.2.2⟩, h.2, rfl, rfl⟩
section LROWS
variable {p : Program} {l : Launch} {e : Env} {R : Room} {s : State} {m : MethodId} {args : Array Value} {below : List Frame} {meth : Method} {c : Code} {H H0 : Heap} {locs : List Loc} {cells slots : Nat} {Q : State → Prop}
variable {cc : ByteArray} {pc nL : Nat} {ls : Array Slot} {rest : List Value} {own : String} {D : va_G} {A : Nat → Prop} {tys : List (ClassId × FieldType)} {base n : Nat} {f : Nat → va_E}
theorem l_get (K0 : CallFix p m c cc nL s args GW own) (hK : va_K D vwCl tys s) (hZ : LZ D base A H0 n f H locs) {q0 ci a : Nat} {fs : List Value} (hq : q0 < n) (ha : base + q0 = a) (hcel : f q0 = .inr (ci, fs)) {C : String} {T : u_T} {N : Nat} (hc : vwCl[ci]? = some (C, T, N)) (hin : ∀ w ∈ u_ws C T N, w ∈ GW) (i : Nat) (hi : i < N) {index : Nat}
    (hlink : Cond.fieldLink own index (T i).1 (T i).2.1 (T i).2.2.1 ∈ GW) {v : Value} (hv : fs[i]? = some v) (hdg : decode cc pc = .ok (.getfield index, 3)) (kk : W p l e R s m args below meth c H locs cells slots Q (F0 m (pc + 3) ls (v :: rest))) : W p l e R s m args below meth c H locs cells slots Q (F0 m pc ls (.ref a :: rest)) :=
  row_get K0 hK (hZ.zz cells slots) hq ha hcel hc hin i hi hlink hv hdg kk
theorem l_alen (K0 : CallFix p m c cc nL s args GW own) (hK : va_K D vwCl tys s) (hZ : LZ D base A H0 n f H locs) {q0 t0 a : Nat} {x : vp_A} {cA : ClassId} {ty : FieldType} (hq : q0 < n) (ha : base + q0 = a) (hcel : f q0 = .inl (cA, x)) (ht : tys[t0]? = some (cA, ty)) {v : Int32} (hv : Int32.ofNat x.1 = v)
    (hdg : decode cc pc = .ok (.arraylength, 1)) (kk : W p l e R s m args below meth c H locs cells slots Q (F0 m (pc + 1) ls (.int v :: rest))) : W p l e R s m args below meth c H locs cells slots Q (F0 m pc ls (.ref a :: rest)) :=
  row_alen K0 hK (hZ.zz cells slots) hq ha hcel ht hv hdg kk
theorem l_put (K0 : CallFix p m c cc nL s args GW own) (hK : va_K D vwCl tys s) (hZ : LZ D base A H0 n f H locs) {q0 ci a : Nat} {fs : List Value} (hq : q0 < n) (ha : base + q0 = a) (hcel : f q0 = .inr (ci, fs)) {C : String} {T : u_T} {N : Nat} (hc : vwCl[ci]? = some (C, T, N)) (hin : ∀ w ∈ u_ws C T N, w ∈ GW)
    (ty0 : Nat → FieldType) (hty : ∀ k, k < N → parseFieldDescriptor (T k).2.2.1 = some (ty0 k)) (hnm : ∀ a, a < N → ∀ b, b < N → a ≠ b → (T a).2.1 ≠ (T b).2.1) (i : Nat) (hi : i < N) {index : Nat} (hlink : Cond.fieldLink own index (T i).1 (T i).2.1 (T i).2.2.1 ∈ GW) (hfin : (T i).2.2.2 = false) {v : Value} (hn : narrow (ty0 i) v = v) (hfit : fits (ty0 i) v = true) (hl : i < fs.length)
    (hdg : decode cc pc = .ok (.putfield index, 3)) (kk : ∀ (H : Heap) (locs : List Loc), LZ D base A H0 n (va_up f q0 (.inr (ci, fs.set i v))) H locs → W p l e R s m args below meth c H locs cells slots Q (F0 m (pc + 3) ls rest)) : W p l e R s m args below meth c H locs cells slots Q (F0 m pc ls (v :: .ref a :: rest)) := by
  subst ha
  refine row_putR K0 hK (hZ.zz cells slots) (S := nS (base + n) cells slots) hq rfl hcel hc hin ty0 hty hnm i hi hlink hfin hn hfit hl hdg (fun H1 locs1 hsz hP hD hS => kk H1 locs1 ⟨⟨hsz.trans hZ.1.1, ?_, ?_⟩, hS⟩)
  · rw [show adrL base (nS (base + n) cells slots) q0 = base + q0 from rfl] at hP; rw [iwL_set hq] at hP; exact hP
  · rw [show adrL base (nS (base + n) cells slots) q0 = base + q0 from rfl] at hD; rw [iwL_set hq] at hD; exact hD
theorem l_putF (K0 : CallFix p m c cc nL s args GW own) (hK : va_K D vwCl tys s) (hZ : LZ D base A H0 n f H locs) {q0 ci a : Nat} {fs : List Value} (hq : q0 < n) (ha : base + q0 = a) (hcel : f q0 = .inr (ci, fs)) {C : String} {T : u_T} {N : Nat} (hc : vwCl[ci]? = some (C, T, N)) (hin : ∀ w ∈ u_ws C T N, w ∈ GW)
    (ty0 : Nat → FieldType) (hty : ∀ k, k < N → parseFieldDescriptor (T k).2.2.1 = some (ty0 k)) (hnm : ∀ a, a < N → ∀ b, b < N → a ≠ b → (T a).2.1 ≠ (T b).2.1) (i : Nat) (hi : i < N) {index : Nat} (hlink : Cond.fieldLink own index (T i).1 (T i).2.1 (T i).2.2.1 ∈ GW) (hfin : (T i).2.2.2 = true) (hin2 : meth.name = "<init>") (hdecl : (T i).1 = own) {v : Value} (hn : narrow (ty0 i) v = v) (hfit : fits (ty0 i) v = true) (hl : i < fs.length)
    (hdg : decode cc pc = .ok (.putfield index, 3)) (kk : ∀ (H : Heap) (locs : List Loc), LZ D base A H0 n (va_up f q0 (.inr (ci, fs.set i v))) H locs → W p l e R s m args below meth c H locs cells slots Q (F0 m (pc + 3) ls rest)) : W p l e R s m args below meth c H locs cells slots Q (F0 m pc ls (v :: .ref a :: rest)) := by
  subst ha
  refine row_putFR K0 hK (hZ.zz cells slots) (S := nS (base + n) cells slots) hq rfl hcel hc hin ty0 hty hnm i hi hlink hfin hin2 hdecl hn hfit hl hdg (fun H1 locs1 hsz hP hD hS => kk H1 locs1 ⟨⟨hsz.trans hZ.1.1, ?_, ?_⟩, hS⟩)
  · rw [show adrL base (nS (base + n) cells slots) q0 = base + q0 from rfl] at hP; rw [iwL_set hq] at hP; exact hP
  · rw [show adrL base (nS (base + n) cells slots) q0 = base + q0 from rfl] at hD; rw [iwL_set hq] at hD; exact hD
theorem l_new (K0 : CallFix p m c cc nL s args GW own) (hK : va_K D vwCl tys s) (hA : ∀ q, H0.size ≤ q → A q) (hZ : LZ D base A H0 n f H locs) {C : String} {T : u_T} {N ci index : Nat} (hin : ∀ w ∈ u_ws C T N, w ∈ GW) (ty : Nat → FieldType) (hty : ∀ k, k < N → parseFieldDescriptor (T k).2.2.1 = some (ty k)) (hcl : Cond.classLink own index C ∈ GW) (hinst : Cond.instantiable C N ∈ GW) (hini : Cond.initialized C ∈ GW)
    (hc : vwCl[ci]? = some (C, T, N)) {fs : List Value} (hfs : ∀ j, j < N → defaultValue (ty j) = vp_V fs j) (hcells : cells + 1 ≤ R.cells) (hslots : slots + N ≤ R.slots) (hdg : decode cc pc = .ok (.new index, 3))
    (kk : ∀ (H : Heap), LZ D base A H0 (n + 1) (va_up f n (.inr (ci, fs))) H locs → W p l e R s m args below meth c H locs (cells + 1) (slots + N) Q (F0 m (pc + 3) ls (.ref (base + n) :: rest))) : W p l e R s m args below meth c H locs cells slots Q (F0 m pc ls rest) := by
  obtain ⟨⟨hsz, hP, hD⟩, hS⟩ := hZ
  have hKn := hK.1 ci _ hc
  refine W.newcK K0.1 K0.2.1 K0.2.2.2.1 (K0.2.2.2.2 _ hcl) (K0.2.2.2.2 _ hinst) (K0.2.2.2.2 _ hini) rfl hdg hcells hslots hKn.2.1 hsz fun H1 kC hkC e1 z1 o1 => ?_
  refine kk H1 ⟨⟨z1, ?_, ?_⟩, ⟨Nat.le_trans hS.1 (by omega), fun x h1 h2 => (o1 x (Nat.lt_of_lt_of_le h1 (by rw [← hsz]; exact hS.1))).trans (hS.2.1 x h1 h2), hS.2.2⟩⟩
  · rw [← iwL_push]
    refine (hP.kept (fun k x hx => o1 x.1 (by rw [← hsz]; exact (hP k x hx).lt))).app (fun k x hx => ?_)
    have hz : k < 1 := (List.getElem?_eq_some_iff.mp hx).1
    rw [show k = 0 by omega] at hx
    cases hx
    exact ⟨_, hc, (u_born ty K0.2.2.2.2 hin hKn hkC e1 hty).to hfs⟩
  · rw [← iwL_push]
    exact hD.push hP hsz.symm (hA _ (by rw [← hsz]; exact hS.1))
theorem l_newI (K0 : CallFix p m c cc nL s args GW own) (hK : va_K D vwCl tys s) (harr : Cond.arrayClass .int ∈ GW) (hA : ∀ q, H0.size ≤ q → A q) (hZ : LZ D base A H0 n f H locs) {t0 : Nat} {cI : ClassId} (ht : tys[t0]? = some (cI, .int)) {v : Int32} {N : Nat} (hv : ¬ v < 0) (hN : v.toNatClampNeg = N) (hby : N * 4 ≤ 536870912) (hcells : cells + 1 ≤ R.cells) (hslots : slots + N ≤ R.slots) (hdg : decode cc pc = .ok (.newarray .int, 2))
    (kk : ∀ (H : Heap), LZ D base A H0 (n + 1) (va_up f n (.inl (cI, N, .inl (fun _ => 0)))) H locs → W p l e R s m args below meth c H locs (cells + 1) (slots + N) Q (F0 m (pc + 2) ls (.ref (base + n) :: rest))) : W p l e R s m args below meth c H locs cells slots Q (F0 m pc ls (.int v :: rest)) := by
  obtain ⟨⟨hsz, hP, hD⟩, hS⟩ := hZ
  refine va_newaK (atype := .int) K0.1 K0.2.1 (K0.2.2.2.2 _ harr) rfl hdg rfl hv hN hby hcells hslots hsz fun H1 cA e1 z1 o1 hAr hNm => ?_
  have hcA : cA = cI := by
    have h9 : s.vm.findClass ("[" ++ FieldType.int.toString) = some cI := (hK.2 t0 (cI, .int) ht).2
    exact Option.some.inj (hNm.symm.trans h9)
  subst hcA
  refine kk H1 ⟨⟨z1, ?_, ?_⟩, ⟨Nat.le_trans hS.1 (by omega), fun x h1 h2 => (o1 x (Nat.lt_of_lt_of_le h1 (by rw [← hsz]; exact hS.1))).trans (hS.2.1 x h1 h2), hS.2.2⟩⟩
  · rw [← iwL_push]
    refine (hP.kept (fun k x hx => o1 x.1 (by rw [← hsz]; exact (hP k x hx).lt))).app (fun k x hx => ?_)
    have hz : k < 1 := (List.getElem?_eq_some_iff.mp hx).1
    rw [show k = 0 by omega] at hx
    cases hx
    exact e1
  · rw [← iwL_push]
    exact hD.push hP hsz.symm (hA _ (by rw [← hsz]; exact hS.1))
theorem l_newC (K0 : CallFix p m c cc nL s args GW own) (hK : va_K D vwCl tys s) (harr : Cond.arrayClass .char ∈ GW) (hA : ∀ q, H0.size ≤ q → A q) (hZ : LZ D base A H0 n f H locs) {t0 : Nat} {cI : ClassId} (ht : tys[t0]? = some (cI, .char)) {v : Int32} {N : Nat} (hv : ¬ v < 0) (hN : v.toNatClampNeg = N) (hby : N * 2 ≤ 536870912) (hcells : cells + 1 ≤ R.cells) (hslots : slots + N ≤ R.slots) (hdg : decode cc pc = .ok (.newarray .char, 2))
    (kk : ∀ (H : Heap), LZ D base A H0 (n + 1) (va_up f n (.inl (cI, N, .inl (fun _ => 0)))) H locs → W p l e R s m args below meth c H locs (cells + 1) (slots + N) Q (F0 m (pc + 2) ls (.ref (base + n) :: rest))) : W p l e R s m args below meth c H locs cells slots Q (F0 m pc ls (.int v :: rest)) := by
  obtain ⟨⟨hsz, hP, hD⟩, hS⟩ := hZ
  refine va_newaK (atype := .char) K0.1 K0.2.1 (K0.2.2.2.2 _ harr) rfl hdg rfl hv hN hby hcells hslots hsz fun H1 cA e1 z1 o1 hAr hNm => ?_
  have hcA : cA = cI := by
    have h9 : s.vm.findClass ("[" ++ FieldType.char.toString) = some cI := (hK.2 t0 (cI, .char) ht).2
    exact Option.some.inj (hNm.symm.trans h9)
  subst hcA
  refine kk H1 ⟨⟨z1, ?_, ?_⟩, ⟨Nat.le_trans hS.1 (by omega), fun x h1 h2 => (o1 x (Nat.lt_of_lt_of_le h1 (by rw [← hsz]; exact hS.1))).trans (hS.2.1 x h1 h2), hS.2.2⟩⟩
  · rw [← iwL_push]
    refine (hP.kept (fun k x hx => o1 x.1 (by rw [← hsz]; exact (hP k x hx).lt))).app (fun k x hx => ?_)
    have hz : k < 1 := (List.getElem?_eq_some_iff.mp hx).1
    rw [show k = 0 by omega] at hx
    cases hx
    exact e1
  · rw [← iwL_push]
    exact hD.push hP hsz.symm (hA _ (by rw [← hsz]; exact hS.1))
theorem l_newQ (K0 : CallFix p m c cc nL s args GW own) (hK : va_K D vwCl tys s) (hA : ∀ q, H0.size ≤ q → A q) (hZ : LZ D base A H0 n f H locs) {C : String} {index t0 : Nat} {cQ : ClassId} (hcl : Cond.classLink own index C ∈ GW) (hover : va_AO C s) (ht : tys[t0]? = some (cQ, .object C)) {v : Int32} {N : Nat} (hv : ¬ v < 0) (hN : v.toNatClampNeg = N) (hby : N * 4 ≤ 536870912) (hcells : cells + 1 ≤ R.cells) (hslots : slots + N ≤ R.slots) (hdg : decode cc pc = .ok (.anewarray index, 3))
    (kk : ∀ (H : Heap), LZ D base A H0 (n + 1) (va_up f n (.inl (cQ, N, .inr (.inr (.inr (.inr (fun _ => none))))))) H locs → W p l e R s m args below meth c H locs (cells + 1) (slots + N) Q (F0 m (pc + 3) ls (.ref (base + n) :: rest))) : W p l e R s m args below meth c H locs cells slots Q (F0 m pc ls (.int v :: rest)) := by
  obtain ⟨⟨hsz, hP, hD⟩, hS⟩ := hZ
  subst hN
  rw [← hsz] at kk
  refine W.anew K0.1 K0.2.1 K0.2.2.2.1 (K0.2.2.2.2 _ hcl) (va_AO.use hover) rfl hdg rfl hv hby hcells hslots fun cA kA comp f1 f2 f3 f4 => ?_
  have hcA : cA = cQ := by
    obtain ⟨_, _, -, -, -, h9⟩ := (hK.2 t0 (cQ, .object C) ht).2
    exact Option.some.inj (f1.symm.trans h9)
  subst hcA
  generalize hH1 : H.push ({ cls := cA, slots := Array.replicate v.toNatClampNeg .null, vm := .none } : Cell) = H1
  have z1 : H1.size = H.size + 1 := by rw [← hH1, Array.size_push]
  have e1 : H1[H.size]? = some (arrV cA v.toNatClampNeg (fun _ => .null)) := by rw [← hH1, Array.getElem?_push_size, ← arrV_new]
  have o1 : ∀ q : Nat, q < H.size → H1[q]? = H[q]? := fun q hq => by rw [← hH1, Array.getElem?_push, if_neg (Nat.ne_of_lt hq)]
  refine kk H1 ⟨⟨by rw [z1, hsz]; rfl, ?_, ?_⟩, ⟨Nat.le_trans hS.1 (by omega), fun x h1 h2 => (o1 x (Nat.lt_of_lt_of_le h1 hS.1)).trans (hS.2.1 x h1 h2), hS.2.2⟩⟩
  · rw [← iwL_push, ← hsz]
    refine (hP.kept (fun k x hx => o1 x.1 ((hP k x hx).lt))).app (fun k x hx => ?_)
    have hz : k < 1 := (List.getElem?_eq_some_iff.mp hx).1
    rw [show k = 0 by omega] at hx
    cases hx
    exact e1
  · rw [← iwL_push, ← hsz]
    exact hD.push hP rfl (hA _ hS.1)
end LROWS
