/-! part 13: a trace that grows: a row more in the world for a while -/
section GROWR
variable {p : Program} {l : Launch} {e : Env} {R : Room} {s : State} {m : MethodId} {args : Array Value} {below : List Frame} {meth : Method} {c : Code} {H H0 : Heap} {locs : List Loc} {cells slots : Nat} {Q : State → Prop}
variable {cc : ByteArray} {pc nL : Nat} {ls : Array Slot} {rest : List Value} {own : String} {ρ : Type} {E0 : ρ × St} {S S0 : St} {D : va_G} {nW : Nat} {adr : St → Nat → Nat} {cel : St → Nat → va_E} {A : Nat → Prop} {tys : List (ClassId × FieldType)}
theorem row_putR (K0 : CallFix p m c cc nL s args GW own) (hK : va_K D vwCl tys s) (hZ : ZZ D nW adr cel A S0 H0 S H locs cells slots) {q0 ci a : Nat} {fs : List Value} (hq : q0 < nW) (ha : adr S q0 = a) (hcel : cel S q0 = .inr (ci, fs)) {C : String} {T : u_T} {N : Nat} (hc : vwCl[ci]? = some (C, T, N)) (hin : ∀ w ∈ u_ws C T N, w ∈ GW)
    (ty0 : Nat → FieldType) (hty : ∀ k, k < N → parseFieldDescriptor (T k).2.2.1 = some (ty0 k)) (hnm : ∀ a, a < N → ∀ b, b < N → a ≠ b → (T a).2.1 ≠ (T b).2.1) (i : Nat) (hi : i < N) {index : Nat} 
    (hlink : Cond.fieldLink own index (T i).1 (T i).2.1 (T i).2.2.1 ∈ GW) (hfin : (T i).2.2.2 = false) {v : Value} (hn : narrow (ty0 i) v = v) (hfit : fits (ty0 i) v = true) (hl : i < fs.length) (hdg : decode cc pc = .ok (.putfield index, 3)) (kk : ∀ (H' : Heap) (locs' : List Loc), H'.size = H.size → va_P D vwCl ((iw nW adr cel S).set q0 (a, .inr (ci, fs.set i v))) H' → va_D A ((iw nW adr cel S).set q0 (a, .inr (ci, fs.set i v))) → va_S A H0 H' locs' → W p l e R s m args below meth c H' locs' cells slots Q (F0 m (pc + 3) ls rest)) : W p l e R s m args below meth c H locs cells slots Q (F0 m pc ls (v :: .ref a :: rest)) := by
  subst ha
  obtain ⟨⟨hsz, hP, hD⟩, hS, h7, h3⟩ := hZ
  have hts := K0.2.2.2.2
  have he : (iw nW adr cel S)[q0]? = some (adr S q0, .inr (ci, fs)) := by rw [iw_get hq, hcel]
  have hd := hty i hi
  have hap := va_apart (own := own) hts hin ty0 hty hnm hK hc
  obtain ⟨r, h1, cell, q1, q2, q3, q4⟩ := hP q0 _ he
  have hr : r = (C, T, N) := Option.some.inj (h1.symm.trans hc)
  subst hr
  obtain ⟨hSl, hfc, kC, hkC, hkind⟩ := hK.1 ci _ hc
  obtain ⟨cf, kf, fi, f, hfi, hsl⟩ := hSl i hi
  have hlay := hts _ (hin _ (u_in_lay hi))
  unfold u_lay at hlay
  rw [if_neg (by rw [hfin]; decide)] at hlay
  have hst := (u_facts hfc hkC (u_lays hts hin hi) hfi).1
  have h6 := u_store hfc hkC hkind hlay hfi hd hn hfit
  refine W.putK K0.1 K0.2.1 (f := f) ⟨K0.2.2.2.1, hts _ hlink, ⟨_, _, _, hfi⟩, hst⟩ (by rw [q2]; exact h6) q1 q3 (by rw [hsl]; exact k2_hasslot (q4 i hi)) rfl rfl hdg fun H' e1 e2 e3 => ?_
  rw [hsl] at e1 ⊢
  have hP' := hP.set hD he (e := .inr (ci, fs.set i v)) ⟨_, hc, t_OB.to (V := updV (vp_V fs) i v) ⟨_, e1, q2, q3, t_set q4 hap hi v⟩ (fun j _ => vp_updV_set hl v j)⟩ e3
  have hD' := hD.set (e := .inr (ci, fs.set i v)) he
  exact kk H' _ e2 hP' hD' (hS.put e2 e3 (hD.2 q0 _ he))
end GROWR
def zI (S : St) (f i : Nat) : St := (fun a b c => if a = f ∧ b = i then 0 else S.1 a b c, S.2)
theorem gI_zI (S : St) (f i a b c : Nat) : gI (zI S f i) a b c = if a = f ∧ b = i then 0 else gI S a b c := rfl
theorem gL_zI (S : St) (f i a : Nat) : gL (zI S f i) a = gL S a := rfl
theorem gN_zI (S : St) (f i a b : Nat) : gN (zI S f i) a b = gN S a b := rfl
def newT (n : Nat) (S : St) : St := pN (pN (pN (pN (pN (zI S 26 0) 5 0 (gN S 2 0)) 6 0 n) 2 0 (gN S 2 0 + 1)) 7 0 (gN S 7 0 + 1)) 3 0 (gN S 3 0 + n)
def swapS (x : Nat) (S : St) : St := (fun a b c => if a = 25 ∧ b = x then S.1 26 0 c else S.1 a b c, S.2.1, fun a b => if a = 1 ∧ b = x then S.2.2 5 0 else if a = 0 ∧ b = x then S.2.2 6 0 else S.2.2 a b)
theorem gI_swapS (x : Nat) (S : St) (a b c : Nat) : gI (swapS x S) a b c = if a = 25 ∧ b = x then gI S 26 0 c else gI S a b c := rfl
theorem gL_swapS (x : Nat) (S : St) (a : Nat) : gL (swapS x S) a = gL S a := rfl
theorem gN_swapS (x : Nat) (S : St) (a b : Nat) : gN (swapS x S) a b = if a = 1 ∧ b = x then gN S 5 0 else if a = 0 ∧ b = x then gN S 6 0 else gN S a b := rfl
def newTmp (n : Int32) : PM Nat := ⟨fun S => if ¬ n < 0 ∧ n.toNatClampNeg ≤ 65536 then some (gN S 2 0, newT n.toNatClampNeg S) else none, fun S E h => by
  dsimp only at h
  by_cases hc : ¬ n < 0 ∧ n.toNatClampNeg ≤ 65536
  · rw [if_pos hc] at h; cases h
    simp only [newT, gN_pN, gN_zI]
    exact ⟨by simp, by simp⟩
  · rw [if_neg hc] at h; cases h⟩
def swapT (x v : Nat) : PM Unit := ⟨fun S => if x < 30 ∧ gN S 5 0 = v then some ((), swapS x S) else none, fun S E h => by
  dsimp only at h
  by_cases hc : x < 30 ∧ gN S 5 0 = v
  · rw [if_pos hc] at h; cases h
    exact ⟨by simp [gN_swapS], by simp [gN_swapS]⟩
  · rw [if_neg hc] at h; cases h⟩
def tmpN (v : Nat) : PM Int32 := bnd (rdN 5 0) (fun a => if a = v then bnd (rdN 6 0) (fun n => rtn (nI n)) else fail)
def tmpS (v : Nat) (i u : Int32) : PM Unit := bnd (rdN 5 0) (fun a => bnd (rdN 6 0) (fun n => if a = v ∧ ¬ (i < 0 ∨ n ≤ i.toNatClampNeg) then wrI 26 0 i.toNatClampNeg (u.toUInt32 % 65536).toInt32 else fail))
def adrX (w : Wc) (S : St) (k : Nat) : Nat := if k < 187 then adrC w S k else gN S 5 0
def celX (w : Wc) (S : St) (k : Nat) : va_E := if k < 187 then celC w S k else .inl (w.2.1, gN S 6 0, .inl (fun j => gI S 26 0 j))
theorem adrX_lo (w : Wc) (S : St) {k : Nat} (h : k < 187) : adrX w S k = adrC w S k := if_pos h
theorem celX_lo (w : Wc) (S : St) {k : Nat} (h : k < 187) : celX w S k = celC w S k := if_pos h
theorem celC_congr (w : Wc) {S S1 : St} (h : ∀ f, f < 26 → ∀ i j, gI S1 f i j = gI S f i j) (hL : ∀ i, gL S1 i = gL S i) (h0 : ∀ i, gN S1 0 i = gN S 0 i) (h1 : ∀ i, gN S1 1 i = gN S 1 i) (k : Nat) : celC w S1 k = celC w S k := by
  simp only [celC, eLN, eSO, eRO, eME, eST, eCA, eTR, eTO, eSG, hL, h0, h1, h 0 (by decide), h 1 (by decide), h 2 (by decide), h 3 (by decide), h 4 (by decide), h 5 (by decide), h 6 (by decide), h 7 (by decide), h 8 (by decide), h 9 (by decide), h 10 (by decide), h 11 (by decide), h 12 (by decide), h 13 (by decide), h 14 (by decide), h 15 (by decide), h 16 (by decide), h 17 (by decide), h 18 (by decide), h 19 (by decide), h 20 (by decide), h 21 (by decide), h 22 (by decide), h 23 (by decide), h 24 (by decide), h 25 (by decide)]
theorem adrC_congr (w : Wc) {S S1 : St} (h1 : ∀ i, gN S1 1 i = gN S 1 i) (k : Nat) : adrC w S1 k = adrC w S k := by
  simp only [adrC, h1]
section GROW
variable {p : Program} {l : Launch} {e : Env} {R : Room} {s : State} {m : MethodId} {args : Array Value} {below : List Frame} {meth : Method} {c : Code} {H H0 : Heap} {locs : List Loc} {cells slots : Nat} {Q : State → Prop}
variable {cc : ByteArray} {pc nL : Nat} {ls : Array Slot} {rest : List Value} {own : String} {ρ : Type} {E0 : ρ × St} {S S0 : St} {D : va_G} {A : Nat → Prop} {w : Wc}
theorem iw_newT (w : Wc) (S : St) (n : Nat) : iw 188 (adrX w) (celX w) (newT n S) = iw 187 (adrC w) (celC w) S ++ [(gN S 2 0, .inl (w.2.1, n, .inl (fun _ => 0)))] := by
  unfold iw
  rw [show (188 : Nat) = 187 + 1 from rfl, List.range_succ, List.map_append]
  refine congr (congrArg HAppend.hAppend ?_) ?_
  · apply List.map_congr_left
    intro k hk
    have hk := List.mem_range.mp hk
    rw [adrX_lo w _ hk, celX_lo w _ hk, celC_congr w (S := S) (S1 := newT n S) (fun f hf i j => by simp [newT, gI_pN, gI_zI, Nat.ne_of_lt hf]) (fun i => rfl) (fun i => by simp [newT, gN_pN, gN_zI]) (fun i => by simp [newT, gN_pN, gN_zI]), adrC_congr w (S := S) (S1 := newT n S) (fun i => by simp [newT, gN_pN, gN_zI])]
  · simp [adrX, celX, newT, gN_pN, gN_zI, gI_pN, gI_zI]
theorem x_new (K0 : CallFix p m c cc nL s args GW own) (harr : Cond.arrayClass .char ∈ GW) (hK : va_K D vwCl (tysC w) s) (hA : ∀ q, s.heap.size ≤ q → A q) {n : Int32} {k : Nat → PM ρ} (hE : (bnd (newTmp n) k).1 S = some E0) (hZ : ZZ D 187 (adrC w) (celC w) A S0 s.heap S H locs cells slots) (hRc : R.cells = gN E0.2 7 0 - gN S0 7 0 ∧ R.slots = gN E0.2 3 0 - gN S0 3 0) (hdg : decode cc pc = .ok (.newarray .char, 2))
    (kk : ∀ (v : Nat) (S : St) (H : Heap) (cells slots : Nat), (k v).1 S = some E0 → ZZ D 188 (adrX w) (celX w) A S0 s.heap S H locs cells slots → W p l e R s m args below meth c H locs cells slots Q (F0 m (pc + 2) ls (.ref v :: rest))) : W p l e R s m args below meth c H locs cells slots Q (F0 m pc ls (.int n :: rest)) := by
  obtain ⟨v, S1, h1, h2⟩ := bnd_inv hE
  have h1' : (if ¬ n < 0 ∧ n.toNatClampNeg ≤ 65536 then some (gN S 2 0, newT n.toNatClampNeg S) else none) = some (v, S1) := h1
  have hc : ¬ n < 0 ∧ n.toNatClampNeg ≤ 65536 := by
    by_cases hc : ¬ n < 0 ∧ n.toNatClampNeg ≤ 65536
    · exact hc
    · rw [if_neg hc] at h1'; cases h1'
  rw [if_pos hc] at h1'
  cases h1'
  have hm := (k (gN S 2 0)).2 _ _ h2
  have g7 : gN (newT n.toNatClampNeg S) 7 0 = gN S 7 0 + 1 := by simp [newT, gN_pN]
  have g3 : gN (newT n.toNatClampNeg S) 3 0 = gN S 3 0 + n.toNatClampNeg := by simp [newT, gN_pN]
  have g2 : gN (newT n.toNatClampNeg S) 2 0 = gN S 2 0 + 1 := by simp [newT, gN_pN]
  rw [g7, g3] at hm
  obtain ⟨⟨hsz, hP, hD⟩, hS, c7, c3⟩ := hZ
  refine va_newaK (atype := .char) K0.1 K0.2.1 (K0.2.2.2.2 _ harr) rfl hdg rfl hc.1 rfl (by have := hc.2; show n.toNatClampNeg * 2 ≤ 536870912; omega) (by have := hRc.1; omega) (by have := hRc.2; omega) rfl fun H1 cA e1 z1 o1 hAr hNm => ?_
  have hcA : cA = w.2.1 := by
    have h9 : s.vm.findClass ("[" ++ FieldType.char.toString) = some w.2.1 := (hK.2 1 (w.2.1, .char) rfl).2
    exact Option.some.inj (hNm.symm.trans h9)
  subst hcA
  have hPP : va_P D vwCl (iw 188 (adrX w) (celX w) (newT n.toNatClampNeg S)) H1 := by
    rw [iw_newT, ← hsz]
    refine (hP.kept (fun k x hx => o1 x.1 ((hP k x hx).lt))).app (fun k x hx => ?_)
    have hz : k < 1 := (List.getElem?_eq_some_iff.mp hx).1
    rw [show k = 0 by omega] at hx
    cases hx
    exact e1
  have hDD : va_D A (iw 188 (adrX w) (celX w) (newT n.toNatClampNeg S)) := by
    rw [iw_newT, ← hsz]
    exact hD.push hP rfl (hA _ hS.1)
  have z := kk (gN S 2 0) _ H1 (cells + 1) (slots + n.toNatClampNeg) h2 ⟨⟨by rw [g2, z1, hsz], hPP, hDD⟩, ⟨Nat.le_trans hS.1 (by omega), fun x a1 a2 => (o1 x (Nat.lt_of_lt_of_le a1 hS.1)).trans (hS.2.1 x a1 a2), hS.2.2⟩, by omega, by omega⟩
  rw [← hsz] at z
  exact z
theorem xg_TR_0 (K0 : CallFix p m c cc nL s args GW own) (hK : va_K D vwCl (tysC w) s) {x : Nat} {k : Nat → PM ρ} (hE : (bnd (if x < 30 then rdN 1 x else fail) k).1 S = some E0) (hZ : ZZ D 188 (adrX w) (celX w) A S0 H0 S H locs cells slots) {index : Nat} (hlink : Cond.fieldLink own index (TX4 0).1 (TX4 0).2.1 (TX4 0).2.2.1 ∈ GW) (hdg : decode cc pc = .ok (.getfield index, 3)) (kk : ∀ v : Nat, (k v).1 S = some E0 → W p l e R s m args below meth c H locs cells slots Q (F0 m (pc + 3) ls (.ref v :: rest))) : W p l e R s m args below meth c H locs cells slots Q (F0 m pc ls (vr w.2.2.2.2 97 30 x :: rest)) := by
  obtain ⟨v, S1, h1, h2⟩ := bnd_inv hE
  obtain ⟨hx, h1⟩ := if_ok h1
  cases h1
  rw [vr_ref hx]
  refine row_get K0 hK hZ (q0 := 97 + x) (by omega) ((adrX_lo w S (by omega)).trans (adrC_lo w S (by omega))) ((celX_lo w S (by omega)).trans (celC_TR w S hx)) (C := RX4) (T := TX4) (N := 3) rfl iX4 0 (by decide) hlink rfl hdg ?_
  exact kk _ h2
theorem xn_SG (K0 : CallFix p m c cc nL s args GW own) (hK : va_K D vwCl (tysC w) s) {x v : Nat} {k : Int32 → PM ρ} (hE : (bnd (sgN x v) k).1 S = some E0) (hZ : ZZ D 188 (adrX w) (celX w) A S0 H0 S H locs cells slots) (hdg : decode cc pc = .ok (.arraylength, 1)) (kk : ∀ v : Int32, (k v).1 S = some E0 → W p l e R s m args below meth c H locs cells slots Q (F0 m (pc + 1) ls (.int v :: rest))) : W p l e R s m args below meth c H locs cells slots Q (F0 m pc ls (.ref v :: rest)) := by
  obtain ⟨r, S1, h1, h2⟩ := bnd_inv hE
  obtain ⟨a, S2, h3, h1⟩ := bnd_inv h1
  cases h3
  obtain ⟨⟨hx, ha⟩, h1⟩ := if_ok h1
  cases h1
  exact row_alen K0 hK hZ (q0 := 157 + x) (t0 := 1) (by omega) ((adrX_lo w S (by omega)).trans ((adrC_hi w S).trans ha)) ((celX_lo w S (by omega)).trans (celC_SG w S hx)) rfl rfl hdg (kk _ h2)
theorem xa_SG (K0 : CallFix p m c cc nL s args GW own) (hK : va_K D vwCl (tysC w) s) {x v : Nat} {i : Int32} {k : Int32 → PM ρ} (hE : (bnd (sgL x v i) k).1 S = some E0) (hZ : ZZ D 188 (adrX w) (celX w) A S0 H0 S H locs cells slots) (hdg : decode cc pc = .ok (.caload, 1)) (kk : ∀ v : Int32, (k v).1 S = some E0 → W p l e R s m args below meth c H locs cells slots Q (F0 m (pc + 1) ls (.int v :: rest))) : W p l e R s m args below meth c H locs cells slots Q (F0 m pc ls (.int i :: .ref v :: rest)) := by
  obtain ⟨r, S1, h1, h2⟩ := bnd_inv hE
  obtain ⟨a, S2, h3, h1⟩ := bnd_inv h1
  cases h3
  obtain ⟨n, S2, h3, h1⟩ := bnd_inv h1
  cases h3
  obtain ⟨⟨⟨hx, ha⟩, hi⟩, h1⟩ := if_ok h1
  cases h1
  exact row_cald K0 hK hZ (q0 := 157 + x) (t0 := 1) (by omega) ((adrX_lo w S (by omega)).trans ((adrC_hi w S).trans ha)) ((celX_lo w S (by omega)).trans (celC_SG w S hx)) rfl hi hdg (kk _ h2)
theorem xn_TM (K0 : CallFix p m c cc nL s args GW own) (hK : va_K D vwCl (tysC w) s) {v : Nat} {k : Int32 → PM ρ} (hE : (bnd (tmpN v) k).1 S = some E0) (hZ : ZZ D 188 (adrX w) (celX w) A S0 H0 S H locs cells slots) (hdg : decode cc pc = .ok (.arraylength, 1)) (kk : ∀ v : Int32, (k v).1 S = some E0 → W p l e R s m args below meth c H locs cells slots Q (F0 m (pc + 1) ls (.int v :: rest))) : W p l e R s m args below meth c H locs cells slots Q (F0 m pc ls (.ref v :: rest)) := by
  obtain ⟨r, S1, h1, h2⟩ := bnd_inv hE
  obtain ⟨a, S2, h3, h1⟩ := bnd_inv h1
  cases h3
  obtain ⟨ha, h1⟩ := if_ok h1
  cases h1
  exact row_alen K0 hK hZ (q0 := 187) (t0 := 1) (by omega) ha (x := (gN S 6 0, .inl (fun j => gI S 26 0 j))) rfl rfl rfl hdg (kk _ h2)
theorem xs_TM (K0 : CallFix p m c cc nL s args GW own) (hK : va_K D vwCl (tysC w) s) {v : Nat} {i u : Int32} {k : Unit → PM ρ} (hE : (bnd (tmpS v i u) k).1 S = some E0) (hZ : ZZ D 188 (adrX w) (celX w) A S0 H0 S H locs cells slots) (hdg : decode cc pc = .ok (.castore, 1)) (kk : ∀ (S1 : St) (H : Heap) (locs : List Loc), (k ()).1 S1 = some E0 → ZZ D 188 (adrX w) (celX w) A S0 H0 S1 H locs cells slots → W p l e R s m args below meth c H locs cells slots Q (F0 m (pc + 1) ls rest)) : W p l e R s m args below meth c H locs cells slots Q (F0 m pc ls (.int u :: .int i :: .ref v :: rest)) := by
  obtain ⟨r, S1, h1, h2⟩ := bnd_inv hE
  obtain ⟨a, S2, h3, h1⟩ := bnd_inv h1
  cases h3
  obtain ⟨n, S2, h3, h1⟩ := bnd_inv h1
  cases h3
  obtain ⟨⟨ha, hi⟩, h1⟩ := if_ok h1
  cases h1
  refine row_cast K0 hK hZ (q0 := 187) (t0 := 1) (n := gN S 6 0) (f := fun j => gI S 26 0 j) (by omega) ha rfl rfl hi (S' := pI S 26 0 i.toNatClampNeg (u.toUInt32 % 65536).toInt32) ?_ (fun j _ => rfl) (fun j hj hne => ?_) (fun _ _ => rfl) hdg (fun H locs hZ => kk _ H locs h2 hZ)
  · show Sum.inl (w.2.1, gN S 6 0, Sum.inl (fun j => gI (pI S 26 0 i.toNatClampNeg _) 26 0 j)) = _
    rw [vp_nar_char]
    simp only [gI_pI]
    congr 4
    funext j
    simp [upd]
  · rw [celX_lo w _ (by omega), celX_lo w _ (by omega)]
    exact celC_congr w (fun f hf i j => by simp [gI_pI, Nat.ne_of_lt hf]) (fun i => rfl) (fun i => rfl) (fun i => rfl) j
theorem x_swap (K0 : CallFix p m c cc nL s args GW own) (hK : va_K D vwCl (tysC w) s) {x v : Nat} {k : Unit → PM ρ} (hE : (bnd (swapT x v) k).1 S = some E0) (hZ : ZZ D 188 (adrX w) (celX w) A S0 H0 S H locs cells slots) {index : Nat} (hlink : Cond.fieldLink own index (TX4 0).1 (TX4 0).2.1 (TX4 0).2.2.1 ∈ GW) (hdg : decode cc pc = .ok (.putfield index, 3)) (kk : ∀ (S1 : St) (H : Heap) (locs : List Loc), (k ()).1 S1 = some E0 → ZZ D 187 (adrC w) (celC w) A S0 H0 S1 H locs cells slots → W p l e R s m args below meth c H locs cells slots Q (F0 m (pc + 3) ls rest)) : W p l e R s m args below meth c H locs cells slots Q (F0 m pc ls (.ref v :: vr w.2.2.2.2 97 30 x :: rest)) := by
  obtain ⟨u, S1, h1, h2⟩ := bnd_inv hE
  have h1' : (if x < 30 ∧ gN S 5 0 = v then some ((), swapS x S) else none) = some (u, S1) := h1
  have hc : x < 30 ∧ gN S 5 0 = v := by
    by_cases hc : x < 30 ∧ gN S 5 0 = v
    · exact hc
    · rw [if_neg hc] at h1'; cases h1'
  rw [if_pos hc] at h1'
  cases h1'
  obtain ⟨hx, hv⟩ := hc
  rw [vr_ref hx]
  refine row_putR K0 hK hZ (q0 := 97 + x) (by omega) ((adrX_lo w S (by omega)).trans (adrC_lo w S (by omega))) ((celX_lo w S (by omega)).trans (celC_TR w S hx)) (C := RX4) (T := TX4) (N := 3) rfl iX4 tyX4 tyX4_ok nmX4 0 (by decide) hlink rfl rfl rfl (Nat.le_of_ble_eq_true rfl) hdg (fun H1 locs1 hsz hP hD hS => kk _ H1 locs1 h2 ?_)
  obtain ⟨⟨hsz0, -, -⟩, -, c7, c3⟩ := hZ
  have key : ∀ (j : Nat) (q : Nat × va_E), (iw 187 (adrC w) (celC w) (swapS x S))[j]? = some q → ((iw 188 (adrX w) (celX w) S).set (97 + x) (w.2.2.2.2 (97 + x), .inr (6, ([.ref (gN S 1 x), .int (gI S 23 x 0), .ref (w.2.2.2.2 (127 + x))] : List Value).set 0 (.ref v))))[if j = 157 + x then 187 else j]? = some q := by
    intro j q hq
    have hj : j < 187 := by
      have h9 := (List.getElem?_eq_some_iff.mp hq).1
      simpa [iw] using h9
    rw [iw_get hj] at hq
    have hq := Option.some.inj hq
    subst hq
    by_cases h5 : j = 157 + x
    · rw [if_pos h5, List.getElem?_set_ne (by omega), iw_get (by omega)]
      subst h5
      rw [adrC_hi, celC_SG w _ hx]
      simp [adrX, celX, eSG, gN_swapS, gI_swapS]
    · rw [if_neg h5]
      by_cases h6 : j = 97 + x
      · subst h6
        rw [List.getElem?_set_self (by simp [iw]; omega), adrC_lo w _ (by omega), celC_TR w _ hx]
        simp [eTR, gN_swapS, gI_swapS, hv]
      · rw [List.getElem?_set_ne (by omega), iw_get (by omega), adrX_lo w S hj, celX_lo w S hj]
        have e1 : adrC w (swapS x S) j = adrC w S j := by
          unfold adrC
          refine ite_cg (fun _ => rfl) (fun h7 => ?_)
          have h8 : ¬ j - 157 = x := by omega
          simp [gN_swapS, h8]
        have e2 : celC w (swapS x S) j = celC w S j := by
          unfold celC
          refine ite_cg (fun _ => rfl) (fun _ => ite_cg (fun _ => ?_) (fun _ => ite_cg (fun _ => rfl) (fun _ => ite_cg (fun _ => rfl) (fun _ => ite_cg (fun _ => ?_) (fun _ => ite_cg (fun _ => ?_) (fun _ => ite_cg (fun _ => ?_) (fun _ => ite_cg (fun _ => ?_) (fun _ => ite_cg (fun _ => ?_) (fun _ => ite_cg (fun _ => ?_) (fun _ => ite_cg (fun _ => ?_) (fun _ => ?_)))))))))))
          · simp [eLN, gI_swapS]
          · simp [eSO, gI_swapS]
          · simp [eRO, gI_swapS]
          · simp [eME, gI_swapS]
          · simp [eST, gI_swapS, gL_swapS]
          · simp [eCA, gI_swapS]
          · have h8 : ¬ j - 97 = x := by omega
            simp [eTR, gI_swapS, gN_swapS, h8]
          · simp [eTO, gI_swapS]
          · have h8 : ¬ j - 157 = x := by omega
            simp [eSG, gI_swapS, gN_swapS, h8]
        rw [e1, e2]
  refine ⟨⟨?_, hP.by _ key, hD.by _ key (fun i j hi hj hg => ?_)⟩, hS, ?_, ?_⟩
  · rw [hsz, hsz0]; simp [gN_swapS]
  · have hi : i < 187 := by simpa [iw] using hi
    have hj : j < 187 := by simpa [iw] using hj
    by_cases h5 : i = 157 + x <;> by_cases h6 : j = 157 + x <;> simp only [h5, h6, if_true, if_false] at hg <;> omega
  · rw [c7]; simp [gN_swapS]
  · rw [c3]; simp [gN_swapS]
end GROW
