/-! part 17b: the reference's trace grows -/
theorem rc_MO {D : va_G} {w : Wm} {A : Nat → Prop} {S0 S : St} {H0 H : Heap} {locs : List Loc} {cells slots nW : Nat} {s : State} (hK : va_K D vwCl (tysM w) s) (h0 : 0 < nW) (hZ : ZZ D nW (adrM w) (celM w) A S0 H0 S H locs cells slots) : ∃ cell : Cell, H[w.2.2 0]? = some cell ∧ cell.vm.isStatics = false ∧ s.vm.findClass RX6 = some cell.cls :=
  va_recv hK hZ.1.2.1 (ci := 8) (q := (RX6, TX6, 20)) (q0 := 0) (a := w.2.2 0) rfl (by rw [iw_get h0]; exact rfl)
def newM (k n : Nat) (S : St) : St := pN (pN (pN (pN (pN (zI S (30 + k) 0) 5 k (gN S 2 0)) 6 k n) 2 0 (gN S 2 0 + 1)) 7 0 (gN S 7 0 + 1)) 3 0 (gN S 3 0 + n)
def mNew (k : Nat) (n : Int32) : PM Nat := ⟨fun S => if ¬ n < 0 ∧ n.toNatClampNeg ≤ 2097152 then some (gN S 2 0, newM k n.toNatClampNeg S) else none, fun S E h => by
  dsimp only at h
  by_cases hc : ¬ n < 0 ∧ n.toNatClampNeg ≤ 2097152
  · rw [if_pos hc] at h; cases h
    simp only [newM, gN_pN, gN_zI]
    exact ⟨by simp, by simp⟩
  · rw [if_neg hc] at h; cases h⟩
/-- a growing trace's row takes its field's place: the old one goes where it was -/
def exS (k : Nat) (S : St) : St := (fun a b c => if a = 22 + k ∧ b = 0 then S.1 (30 + k) 0 c else if a = 30 + k ∧ b = 0 then S.1 (22 + k) 0 c else S.1 a b c, S.2.1, fun a b => if a = 1 ∧ b = k then S.2.2 5 k else if a = 5 ∧ b = k then S.2.2 1 k else if a = 0 ∧ b = k then S.2.2 6 k else if a = 6 ∧ b = k then S.2.2 0 k else S.2.2 a b)
theorem gI_exS (k : Nat) (S : St) (a b c : Nat) : gI (exS k S) a b c = if a = 22 + k ∧ b = 0 then gI S (30 + k) 0 c else if a = 30 + k ∧ b = 0 then gI S (22 + k) 0 c else gI S a b c := rfl
theorem gL_exS (k : Nat) (S : St) (a : Nat) : gL (exS k S) a = gL S a := rfl
theorem gN_exS (k : Nat) (S : St) (a b : Nat) : gN (exS k S) a b = if a = 1 ∧ b = k then gN S 5 k else if a = 5 ∧ b = k then gN S 1 k else if a = 0 ∧ b = k then gN S 6 k else if a = 6 ∧ b = k then gN S 0 k else gN S a b := rfl
def mSwap (k v : Nat) : PM Unit := ⟨fun S => if gN S 5 k = v then some ((), exS k S) else none, fun S E h => by
  dsimp only at h
  by_cases hc : gN S 5 k = v
  · rw [if_pos hc] at h; cases h
    exact ⟨by simp [gN_exS], by simp [gN_exS]⟩
  · rw [if_neg hc] at h; cases h⟩
theorem celM_new0 (w : Wm) (S : St) (n : Nat) : ∀ j, j < 14 → celM w (newM 0 n S) j = celM w S j := by
  intro j hj
  unfold celM
  refine ite_cg (fun h9 => ?_) (fun _ => ?_)
  · simp [eMO, newM, gI_pN, gL_pN, gN_pN, gI_zI, gL_zI, gN_zI]
  refine ite_cg (fun h9 => ?_) (fun _ => ?_)
  · simp [eMO, newM, gI_pN, gL_pN, gN_pN, gI_zI, gL_zI, gN_zI]
  refine ite_cg (fun h9 => ?_) (fun _ => ?_)
  · simp [eMO, newM, gI_pN, gL_pN, gN_pN, gI_zI, gL_zI, gN_zI]
  refine ite_cg (fun h9 => ?_) (fun _ => ?_)
  · simp [eMO, newM, gI_pN, gL_pN, gN_pN, gI_zI, gL_zI, gN_zI]
  refine ite_cg (fun h9 => ?_) (fun _ => ?_)
  · simp [eMO, newM, gI_pN, gL_pN, gN_pN, gI_zI, gL_zI, gN_zI]
  refine ite_cg (fun h9 => ?_) (fun _ => ?_)
  · simp [eMO, newM, gI_pN, gL_pN, gN_pN, gI_zI, gL_zI, gN_zI]
  refine ite_cg (fun h9 => ?_) (fun _ => ?_)
  · simp [eMO, newM, gI_pN, gL_pN, gN_pN, gI_zI, gL_zI, gN_zI]
  refine ite_cg (fun h9 => ?_) (fun _ => ?_)
  · simp [eMO, newM, gI_pN, gL_pN, gN_pN, gI_zI, gL_zI, gN_zI]
  refine ite_cg (fun h9 => ?_) (fun _ => ?_)
  · simp [eMO, newM, gI_pN, gL_pN, gN_pN, gI_zI, gL_zI, gN_zI]
  refine ite_cg (fun h9 => ?_) (fun _ => ?_)
  · simp [eMO, newM, gI_pN, gL_pN, gN_pN, gI_zI, gL_zI, gN_zI]
  refine ite_cg (fun h9 => ?_) (fun _ => ?_)
  · simp [eMO, newM, gI_pN, gL_pN, gN_pN, gI_zI, gL_zI, gN_zI]
  refine ite_cg (fun h9 => ?_) (fun _ => ?_)
  · simp [eMO, newM, gI_pN, gL_pN, gN_pN, gI_zI, gL_zI, gN_zI]
  refine ite_cg (fun h9 => ?_) (fun _ => ?_)
  · simp [eMO, newM, gI_pN, gL_pN, gN_pN, gI_zI, gL_zI, gN_zI]
  refine ite_cg (fun h9 => ?_) (fun _ => ?_)
  · simp [eMO, newM, gI_pN, gL_pN, gN_pN, gI_zI, gL_zI, gN_zI]
  refine ite_cg (fun h9 => ?_) (fun _ => ?_)
  · omega
  omega
theorem adrM_new0 (w : Wm) (S : St) (n : Nat) : ∀ j, j < 14 → adrM w (newM 0 n S) j = adrM w S j := by
  intro j hj
  unfold adrM
  refine ite_cg (fun h9 => rfl) (fun h9 => ?_)
  refine ite_cg (fun h9 => ?_) (fun _ => ?_)
  · simp [newM, gN_pN, gN_zI]
  refine ite_cg (fun h9 => ?_) (fun _ => ?_)
  · simp [newM, gN_pN, gN_zI]
  omega
theorem iw_newM0 (w : Wm) (S : St) (n : Nat) : iw 15 (adrM w) (celM w) (newM 0 n S) = iw 14 (adrM w) (celM w) S ++ [(gN S 2 0, .inl (w.2.1, n, .inl (fun _ => 0)))] := by
  unfold iw
  rw [show (15 : Nat) = 14 + 1 from rfl, List.range_succ, List.map_append]
  refine congr (congrArg HAppend.hAppend ?_) ?_
  · apply List.map_congr_left
    intro j hj
    have hj := List.mem_range.mp hj
    rw [celM_new0 w S n j hj, adrM_new0 w S n j hj]
  · simp [adrM, celM, newM, gN_pN, gN_zI, gI_pN, gI_zI]
theorem celM_new1 (w : Wm) (S : St) (n : Nat) : ∀ j, j < 15 → celM w (newM 1 n S) j = celM w S j := by
  intro j hj
  unfold celM
  refine ite_cg (fun h9 => ?_) (fun _ => ?_)
  · simp [eMO, newM, gI_pN, gL_pN, gN_pN, gI_zI, gL_zI, gN_zI]
  refine ite_cg (fun h9 => ?_) (fun _ => ?_)
  · simp [eMO, newM, gI_pN, gL_pN, gN_pN, gI_zI, gL_zI, gN_zI]
  refine ite_cg (fun h9 => ?_) (fun _ => ?_)
  · simp [eMO, newM, gI_pN, gL_pN, gN_pN, gI_zI, gL_zI, gN_zI]
  refine ite_cg (fun h9 => ?_) (fun _ => ?_)
  · simp [eMO, newM, gI_pN, gL_pN, gN_pN, gI_zI, gL_zI, gN_zI]
  refine ite_cg (fun h9 => ?_) (fun _ => ?_)
  · simp [eMO, newM, gI_pN, gL_pN, gN_pN, gI_zI, gL_zI, gN_zI]
  refine ite_cg (fun h9 => ?_) (fun _ => ?_)
  · simp [eMO, newM, gI_pN, gL_pN, gN_pN, gI_zI, gL_zI, gN_zI]
  refine ite_cg (fun h9 => ?_) (fun _ => ?_)
  · simp [eMO, newM, gI_pN, gL_pN, gN_pN, gI_zI, gL_zI, gN_zI]
  refine ite_cg (fun h9 => ?_) (fun _ => ?_)
  · simp [eMO, newM, gI_pN, gL_pN, gN_pN, gI_zI, gL_zI, gN_zI]
  refine ite_cg (fun h9 => ?_) (fun _ => ?_)
  · simp [eMO, newM, gI_pN, gL_pN, gN_pN, gI_zI, gL_zI, gN_zI]
  refine ite_cg (fun h9 => ?_) (fun _ => ?_)
  · simp [eMO, newM, gI_pN, gL_pN, gN_pN, gI_zI, gL_zI, gN_zI]
  refine ite_cg (fun h9 => ?_) (fun _ => ?_)
  · simp [eMO, newM, gI_pN, gL_pN, gN_pN, gI_zI, gL_zI, gN_zI]
  refine ite_cg (fun h9 => ?_) (fun _ => ?_)
  · simp [eMO, newM, gI_pN, gL_pN, gN_pN, gI_zI, gL_zI, gN_zI]
  refine ite_cg (fun h9 => ?_) (fun _ => ?_)
  · simp [eMO, newM, gI_pN, gL_pN, gN_pN, gI_zI, gL_zI, gN_zI]
  refine ite_cg (fun h9 => ?_) (fun _ => ?_)
  · simp [eMO, newM, gI_pN, gL_pN, gN_pN, gI_zI, gL_zI, gN_zI]
  refine ite_cg (fun h9 => ?_) (fun _ => ?_)
  · simp [eMO, newM, gI_pN, gL_pN, gN_pN, gI_zI, gL_zI, gN_zI]
  omega
theorem adrM_new1 (w : Wm) (S : St) (n : Nat) : ∀ j, j < 15 → adrM w (newM 1 n S) j = adrM w S j := by
  intro j hj
  unfold adrM
  refine ite_cg (fun h9 => rfl) (fun h9 => ?_)
  refine ite_cg (fun h9 => ?_) (fun _ => ?_)
  · simp [newM, gN_pN, gN_zI]
  refine ite_cg (fun h9 => ?_) (fun _ => ?_)
  · simp [newM, gN_pN, gN_zI]
  refine ite_cg (fun h9 => ?_) (fun _ => ?_)
  · simp [newM, gN_pN, gN_zI]
  omega
theorem iw_newM1 (w : Wm) (S : St) (n : Nat) : iw 16 (adrM w) (celM w) (newM 1 n S) = iw 15 (adrM w) (celM w) S ++ [(gN S 2 0, .inl (w.1, n, .inl (fun _ => 0)))] := by
  unfold iw
  rw [show (16 : Nat) = 15 + 1 from rfl, List.range_succ, List.map_append]
  refine congr (congrArg HAppend.hAppend ?_) ?_
  · apply List.map_congr_left
    intro j hj
    have hj := List.mem_range.mp hj
    rw [celM_new1 w S n j hj, adrM_new1 w S n j hj]
  · simp [adrM, celM, newM, gN_pN, gN_zI, gI_pN, gI_zI]
section MGROW
variable {p : Program} {l : Launch} {e : Env} {R : Room} {s : State} {m : MethodId} {args : Array Value} {below : List Frame} {meth : Method} {c : Code} {H H0 : Heap} {locs : List Loc} {cells slots : Nat} {Q : State → Prop}
variable {cc : ByteArray} {pc nL : Nat} {ls : Array Slot} {rest : List Value} {own : String} {ρ : Type} {E0 : ρ × St} {S S0 : St} {D : va_G} {A : Nat → Prop} {w : Wm}
theorem m_new0 (K0 : CallFix p m c cc nL s args GW own) (harr : Cond.arrayClass .char ∈ GW) (hK : va_K D vwCl (tysM w) s) (hA : ∀ q, s.heap.size ≤ q → A q) {n : Int32} {k : Nat → PM ρ} (hE : (bnd (mNew 0 n) k).1 S = some E0) (hZ : ZZ D 14 (adrM w) (celM w) A S0 s.heap S H locs cells slots) (hRc : R.cells = gN E0.2 7 0 - gN S0 7 0 ∧ R.slots = gN E0.2 3 0 - gN S0 3 0) (hdg : decode cc pc = .ok (.newarray .char, 2))
    (kk : ∀ (v : Nat) (S : St) (H : Heap) (cells slots : Nat), (k v).1 S = some E0 → ZZ D 15 (adrM w) (celM w) A S0 s.heap S H locs cells slots → W p l e R s m args below meth c H locs cells slots Q (F0 m (pc + 2) ls (.ref v :: rest))) : W p l e R s m args below meth c H locs cells slots Q (F0 m pc ls (.int n :: rest)) := by
  obtain ⟨v, S1, h1, h2⟩ := bnd_inv hE
  have h1' : (if ¬ n < 0 ∧ n.toNatClampNeg ≤ 2097152 then some (gN S 2 0, newM 0 n.toNatClampNeg S) else none) = some (v, S1) := h1
  have hc : ¬ n < 0 ∧ n.toNatClampNeg ≤ 2097152 := by
    by_cases hc : ¬ n < 0 ∧ n.toNatClampNeg ≤ 2097152
    · exact hc
    · rw [if_neg hc] at h1'; cases h1'
  rw [if_pos hc] at h1'
  cases h1'
  have hm := (k (gN S 2 0)).2 _ _ h2
  have g7 : gN (newM 0 n.toNatClampNeg S) 7 0 = gN S 7 0 + 1 := by simp [newM, gN_pN]
  have g3 : gN (newM 0 n.toNatClampNeg S) 3 0 = gN S 3 0 + n.toNatClampNeg := by simp [newM, gN_pN]
  have g2 : gN (newM 0 n.toNatClampNeg S) 2 0 = gN S 2 0 + 1 := by simp [newM, gN_pN]
  rw [g7, g3] at hm
  obtain ⟨⟨hsz, hP, hD⟩, hS, c7, c3⟩ := hZ
  refine va_newaK (atype := .char) K0.1 K0.2.1 (K0.2.2.2.2 _ harr) rfl hdg rfl hc.1 rfl (by have := hc.2; show n.toNatClampNeg * 2 ≤ 536870912; omega) (by have := hRc.1; omega) (by have := hRc.2; omega) rfl fun H1 cA e1 z1 o1 hAr hNm => ?_
  have hcA : cA = w.2.1 := by
    have h9 : s.vm.findClass ("[" ++ FieldType.char.toString) = some w.2.1 := (hK.2 1 (w.2.1, .char) rfl).2
    exact Option.some.inj (hNm.symm.trans h9)
  subst hcA
  have hPP : va_P D vwCl (iw 15 (adrM w) (celM w) (newM 0 n.toNatClampNeg S)) H1 := by
    rw [iw_newM0, ← hsz]
    refine (hP.kept (fun k x hx => o1 x.1 ((hP k x hx).lt))).app (fun k x hx => ?_)
    have hz : k < 1 := (List.getElem?_eq_some_iff.mp hx).1
    rw [show k = 0 by omega] at hx
    cases hx
    exact e1
  have hDD : va_D A (iw 15 (adrM w) (celM w) (newM 0 n.toNatClampNeg S)) := by
    rw [iw_newM0, ← hsz]
    exact hD.push hP rfl (hA _ hS.1)
  have z := kk (gN S 2 0) _ H1 (cells + 1) (slots + n.toNatClampNeg) h2 ⟨⟨by rw [g2, z1, hsz], hPP, hDD⟩, ⟨Nat.le_trans hS.1 (by omega), fun x a1 a2 => (o1 x (Nat.lt_of_lt_of_le a1 hS.1)).trans (hS.2.1 x a1 a2), hS.2.2⟩, by omega, by omega⟩
  rw [← hsz] at z
  exact z
theorem m_new1 (K0 : CallFix p m c cc nL s args GW own) (harr : Cond.arrayClass .int ∈ GW) (hK : va_K D vwCl (tysM w) s) (hA : ∀ q, s.heap.size ≤ q → A q) {n : Int32} {k : Nat → PM ρ} (hE : (bnd (mNew 1 n) k).1 S = some E0) (hZ : ZZ D 15 (adrM w) (celM w) A S0 s.heap S H locs cells slots) (hRc : R.cells = gN E0.2 7 0 - gN S0 7 0 ∧ R.slots = gN E0.2 3 0 - gN S0 3 0) (hdg : decode cc pc = .ok (.newarray .int, 2))
    (kk : ∀ (v : Nat) (S : St) (H : Heap) (cells slots : Nat), (k v).1 S = some E0 → ZZ D 16 (adrM w) (celM w) A S0 s.heap S H locs cells slots → W p l e R s m args below meth c H locs cells slots Q (F0 m (pc + 2) ls (.ref v :: rest))) : W p l e R s m args below meth c H locs cells slots Q (F0 m pc ls (.int n :: rest)) := by
  obtain ⟨v, S1, h1, h2⟩ := bnd_inv hE
  have h1' : (if ¬ n < 0 ∧ n.toNatClampNeg ≤ 2097152 then some (gN S 2 0, newM 1 n.toNatClampNeg S) else none) = some (v, S1) := h1
  have hc : ¬ n < 0 ∧ n.toNatClampNeg ≤ 2097152 := by
    by_cases hc : ¬ n < 0 ∧ n.toNatClampNeg ≤ 2097152
    · exact hc
    · rw [if_neg hc] at h1'; cases h1'
  rw [if_pos hc] at h1'
  cases h1'
  have hm := (k (gN S 2 0)).2 _ _ h2
  have g7 : gN (newM 1 n.toNatClampNeg S) 7 0 = gN S 7 0 + 1 := by simp [newM, gN_pN]
  have g3 : gN (newM 1 n.toNatClampNeg S) 3 0 = gN S 3 0 + n.toNatClampNeg := by simp [newM, gN_pN]
  have g2 : gN (newM 1 n.toNatClampNeg S) 2 0 = gN S 2 0 + 1 := by simp [newM, gN_pN]
  rw [g7, g3] at hm
  obtain ⟨⟨hsz, hP, hD⟩, hS, c7, c3⟩ := hZ
  refine va_newaK (atype := .int) K0.1 K0.2.1 (K0.2.2.2.2 _ harr) rfl hdg rfl hc.1 rfl (by have := hc.2; show n.toNatClampNeg * 4 ≤ 536870912; omega) (by have := hRc.1; omega) (by have := hRc.2; omega) rfl fun H1 cA e1 z1 o1 hAr hNm => ?_
  have hcA : cA = w.1 := by
    have h9 : s.vm.findClass ("[" ++ FieldType.int.toString) = some w.1 := (hK.2 0 (w.1, .int) rfl).2
    exact Option.some.inj (hNm.symm.trans h9)
  subst hcA
  have hPP : va_P D vwCl (iw 16 (adrM w) (celM w) (newM 1 n.toNatClampNeg S)) H1 := by
    rw [iw_newM1, ← hsz]
    refine (hP.kept (fun k x hx => o1 x.1 ((hP k x hx).lt))).app (fun k x hx => ?_)
    have hz : k < 1 := (List.getElem?_eq_some_iff.mp hx).1
    rw [show k = 0 by omega] at hx
    cases hx
    exact e1
  have hDD : va_D A (iw 16 (adrM w) (celM w) (newM 1 n.toNatClampNeg S)) := by
    rw [iw_newM1, ← hsz]
    exact hD.push hP rfl (hA _ hS.1)
  have z := kk (gN S 2 0) _ H1 (cells + 1) (slots + n.toNatClampNeg) h2 ⟨⟨by rw [g2, z1, hsz], hPP, hDD⟩, ⟨Nat.le_trans hS.1 (by omega), fun x a1 a2 => (o1 x (Nat.lt_of_lt_of_le a1 hS.1)).trans (hS.2.1 x a1 a2), hS.2.2⟩, by omega, by omega⟩
  rw [← hsz] at z
  exact z
theorem m_swap0 (K0 : CallFix p m c cc nL s args GW own) (hK : va_K D vwCl (tysM w) s) {v : Nat} {k : Unit → PM ρ} (hE : (bnd (mSwap 0 v) k).1 S = some E0) (hZ : ZZ D 16 (adrM w) (celM w) A S0 H0 S H locs cells slots) {index : Nat} (hlink : Cond.fieldLink own index (TX6 15).1 (TX6 15).2.1 (TX6 15).2.2.1 ∈ GW) (hdg : decode cc pc = .ok (.putfield index, 3)) (kk : ∀ (S1 : St) (H : Heap) (locs : List Loc), (k ()).1 S1 = some E0 → ZZ D 16 (adrM w) (celM w) A S0 H0 S1 H locs cells slots → W p l e R s m args below meth c H locs cells slots Q (F0 m (pc + 3) ls rest)) : W p l e R s m args below meth c H locs cells slots Q (F0 m pc ls (.ref v :: .ref (w.2.2 0) :: rest)) := by
  obtain ⟨u, S1, h1, h2⟩ := bnd_inv hE
  have h1' : (if gN S 5 0 = v then some ((), exS 0 S) else none) = some (u, S1) := h1
  have hv : gN S 5 0 = v := by
    by_cases hc : gN S 5 0 = v
    · exact hc
    · rw [if_neg hc] at h1'; cases h1'
  rw [if_pos hv] at h1'
  cases h1'
  refine row_putR K0 hK hZ (q0 := 0) (by omega) rfl (show celM w S 0 = eMO w S from rfl) (C := RX6) (T := TX6) (N := 20) rfl iX6 tyX6 tyX6_ok nmX6 15 (by decide) hlink rfl rfl rfl (Nat.le_of_ble_eq_true rfl) hdg (fun H1 locs1 hsz hP hD hS => kk _ H1 locs1 h2 ?_)
  obtain ⟨⟨hsz0, -, -⟩, -, c7, c3⟩ := hZ
  have key : ∀ (j : Nat) (q : Nat × va_E), (iw 16 (adrM w) (celM w) (exS 0 S))[j]? = some q → ((iw 16 (adrM w) (celM w) S).set 0 (w.2.2 0, .inr (8, ([.ref (w.2.2 1), .ref (w.2.2 2), .ref (w.2.2 3), .ref (w.2.2 4), .ref (w.2.2 5), .int (gI S 0 0 0), .int (gI S 1 0 0), .ref (w.2.2 6), .ref (w.2.2 7), .ref (w.2.2 8), .ref (w.2.2 9), .int (gI S 2 0 0), .ref (w.2.2 10), .ref (w.2.2 11), .int (gI S 3 0 0), .ref (gN S 1 0), .ref (gN S 1 1), .int (gI S 4 0 0), .long (gL S 0), .int (gI S 5 0 0)] : List Value).set 15 (.ref v))))[if j = 12 then 14 else if j = 14 then 12 else j]? = some q := by
    intro j q hq
    have hj : j < 16 := by
      have h9 := (List.getElem?_eq_some_iff.mp hq).1
      simpa [iw] using h9
    rw [iw_get hj] at hq
    have hq := Option.some.inj hq
    subst hq
    rcases (show j = 0 ∨ j = 1 ∨ j = 2 ∨ j = 3 ∨ j = 4 ∨ j = 5 ∨ j = 6 ∨ j = 7 ∨ j = 8 ∨ j = 9 ∨ j = 10 ∨ j = 11 ∨ j = 12 ∨ j = 13 ∨ j = 14 ∨ j = 15 by omega) with rfl | rfl | rfl | rfl | rfl | rfl | rfl | rfl | rfl | rfl | rfl | rfl | rfl | rfl | rfl | rfl
    · rw [if_neg (by decide), if_neg (by decide), List.getElem?_set_self (by simp [iw])]
      simp [adrM, celM, eMO, gI_exS, gL_exS, gN_exS, hv]
    · rw [show (if 1 = 12 then 14 else if 1 = 14 then 12 else 1) = 1 from rfl, List.getElem?_set_ne (by decide), iw_get (by decide)]
      simp [adrM, celM, gI_exS, gN_exS]
    · rw [show (if 2 = 12 then 14 else if 2 = 14 then 12 else 2) = 2 from rfl, List.getElem?_set_ne (by decide), iw_get (by decide)]
      simp [adrM, celM, gI_exS, gN_exS]
    · rw [show (if 3 = 12 then 14 else if 3 = 14 then 12 else 3) = 3 from rfl, List.getElem?_set_ne (by decide), iw_get (by decide)]
      simp [adrM, celM, gI_exS, gN_exS]
    · rw [show (if 4 = 12 then 14 else if 4 = 14 then 12 else 4) = 4 from rfl, List.getElem?_set_ne (by decide), iw_get (by decide)]
      simp [adrM, celM, gI_exS, gN_exS]
    · rw [show (if 5 = 12 then 14 else if 5 = 14 then 12 else 5) = 5 from rfl, List.getElem?_set_ne (by decide), iw_get (by decide)]
      simp [adrM, celM, gI_exS, gN_exS]
    · rw [show (if 6 = 12 then 14 else if 6 = 14 then 12 else 6) = 6 from rfl, List.getElem?_set_ne (by decide), iw_get (by decide)]
      simp [adrM, celM, gI_exS, gN_exS]
    · rw [show (if 7 = 12 then 14 else if 7 = 14 then 12 else 7) = 7 from rfl, List.getElem?_set_ne (by decide), iw_get (by decide)]
      simp [adrM, celM, gI_exS, gN_exS]
    · rw [show (if 8 = 12 then 14 else if 8 = 14 then 12 else 8) = 8 from rfl, List.getElem?_set_ne (by decide), iw_get (by decide)]
      simp [adrM, celM, gI_exS, gN_exS]
    · rw [show (if 9 = 12 then 14 else if 9 = 14 then 12 else 9) = 9 from rfl, List.getElem?_set_ne (by decide), iw_get (by decide)]
      simp [adrM, celM, gI_exS, gN_exS]
    · rw [show (if 10 = 12 then 14 else if 10 = 14 then 12 else 10) = 10 from rfl, List.getElem?_set_ne (by decide), iw_get (by decide)]
      simp [adrM, celM, gI_exS, gN_exS]
    · rw [show (if 11 = 12 then 14 else if 11 = 14 then 12 else 11) = 11 from rfl, List.getElem?_set_ne (by decide), iw_get (by decide)]
      simp [adrM, celM, gI_exS, gN_exS]
    · rw [show (if 12 = 12 then 14 else if 12 = 14 then 12 else 12) = 14 from rfl, List.getElem?_set_ne (by decide), iw_get (by decide)]
      simp [adrM, celM, gI_exS, gN_exS]
    · rw [show (if 13 = 12 then 14 else if 13 = 14 then 12 else 13) = 13 from rfl, List.getElem?_set_ne (by decide), iw_get (by decide)]
      simp [adrM, celM, gI_exS, gN_exS]
    · rw [show (if 14 = 12 then 14 else if 14 = 14 then 12 else 14) = 12 from rfl, List.getElem?_set_ne (by decide), iw_get (by decide)]
      simp [adrM, celM, gI_exS, gN_exS]
    · rw [show (if 15 = 12 then 14 else if 15 = 14 then 12 else 15) = 15 from rfl, List.getElem?_set_ne (by decide), iw_get (by decide)]
      simp [adrM, celM, gI_exS, gN_exS]
  refine ⟨⟨?_, hP.by _ key, hD.by _ key (fun i j hi hj hg => ?_)⟩, hS, ?_, ?_⟩
  · rw [hsz, hsz0]; simp [gN_exS]
  · have hi : i < 16 := by simpa [iw] using hi
    have hj : j < 16 := by simpa [iw] using hj
    split at hg <;> split at hg <;> (try split at hg) <;> (try split at hg) <;> omega
  · rw [c7]; simp [gN_exS]
  · rw [c3]; simp [gN_exS]
theorem m_swap1 (K0 : CallFix p m c cc nL s args GW own) (hK : va_K D vwCl (tysM w) s) {v : Nat} {k : Unit → PM ρ} (hE : (bnd (mSwap 1 v) k).1 S = some E0) (hZ : ZZ D 16 (adrM w) (celM w) A S0 H0 S H locs cells slots) {index : Nat} (hlink : Cond.fieldLink own index (TX6 16).1 (TX6 16).2.1 (TX6 16).2.2.1 ∈ GW) (hdg : decode cc pc = .ok (.putfield index, 3)) (kk : ∀ (S1 : St) (H : Heap) (locs : List Loc), (k ()).1 S1 = some E0 → ZZ D 14 (adrM w) (celM w) A S0 H0 S1 H locs cells slots → W p l e R s m args below meth c H locs cells slots Q (F0 m (pc + 3) ls rest)) : W p l e R s m args below meth c H locs cells slots Q (F0 m pc ls (.ref v :: .ref (w.2.2 0) :: rest)) := by
  obtain ⟨u, S1, h1, h2⟩ := bnd_inv hE
  have h1' : (if gN S 5 1 = v then some ((), exS 1 S) else none) = some (u, S1) := h1
  have hv : gN S 5 1 = v := by
    by_cases hc : gN S 5 1 = v
    · exact hc
    · rw [if_neg hc] at h1'; cases h1'
  rw [if_pos hv] at h1'
  cases h1'
  refine row_putR K0 hK hZ (q0 := 0) (by omega) rfl (show celM w S 0 = eMO w S from rfl) (C := RX6) (T := TX6) (N := 20) rfl iX6 tyX6 tyX6_ok nmX6 16 (by decide) hlink rfl rfl rfl (Nat.le_of_ble_eq_true rfl) hdg (fun H1 locs1 hsz hP hD hS => kk _ H1 locs1 h2 ?_)
  obtain ⟨⟨hsz0, -, -⟩, -, c7, c3⟩ := hZ
  have key : ∀ (j : Nat) (q : Nat × va_E), (iw 14 (adrM w) (celM w) (exS 1 S))[j]? = some q → ((iw 16 (adrM w) (celM w) S).set 0 (w.2.2 0, .inr (8, ([.ref (w.2.2 1), .ref (w.2.2 2), .ref (w.2.2 3), .ref (w.2.2 4), .ref (w.2.2 5), .int (gI S 0 0 0), .int (gI S 1 0 0), .ref (w.2.2 6), .ref (w.2.2 7), .ref (w.2.2 8), .ref (w.2.2 9), .int (gI S 2 0 0), .ref (w.2.2 10), .ref (w.2.2 11), .int (gI S 3 0 0), .ref (gN S 1 0), .ref (gN S 1 1), .int (gI S 4 0 0), .long (gL S 0), .int (gI S 5 0 0)] : List Value).set 16 (.ref v))))[if j = 13 then 15 else if j = 15 then 13 else j]? = some q := by
    intro j q hq
    have hj : j < 14 := by
      have h9 := (List.getElem?_eq_some_iff.mp hq).1
      simpa [iw] using h9
    rw [iw_get hj] at hq
    have hq := Option.some.inj hq
    subst hq
    rcases (show j = 0 ∨ j = 1 ∨ j = 2 ∨ j = 3 ∨ j = 4 ∨ j = 5 ∨ j = 6 ∨ j = 7 ∨ j = 8 ∨ j = 9 ∨ j = 10 ∨ j = 11 ∨ j = 12 ∨ j = 13 by omega) with rfl | rfl | rfl | rfl | rfl | rfl | rfl | rfl | rfl | rfl | rfl | rfl | rfl | rfl
    · rw [if_neg (by decide), if_neg (by decide), List.getElem?_set_self (by simp [iw])]
      simp [adrM, celM, eMO, gI_exS, gL_exS, gN_exS, hv]
    · rw [show (if 1 = 13 then 15 else if 1 = 15 then 13 else 1) = 1 from rfl, List.getElem?_set_ne (by decide), iw_get (by decide)]
      simp [adrM, celM, gI_exS, gN_exS]
    · rw [show (if 2 = 13 then 15 else if 2 = 15 then 13 else 2) = 2 from rfl, List.getElem?_set_ne (by decide), iw_get (by decide)]
      simp [adrM, celM, gI_exS, gN_exS]
    · rw [show (if 3 = 13 then 15 else if 3 = 15 then 13 else 3) = 3 from rfl, List.getElem?_set_ne (by decide), iw_get (by decide)]
      simp [adrM, celM, gI_exS, gN_exS]
    · rw [show (if 4 = 13 then 15 else if 4 = 15 then 13 else 4) = 4 from rfl, List.getElem?_set_ne (by decide), iw_get (by decide)]
      simp [adrM, celM, gI_exS, gN_exS]
    · rw [show (if 5 = 13 then 15 else if 5 = 15 then 13 else 5) = 5 from rfl, List.getElem?_set_ne (by decide), iw_get (by decide)]
      simp [adrM, celM, gI_exS, gN_exS]
    · rw [show (if 6 = 13 then 15 else if 6 = 15 then 13 else 6) = 6 from rfl, List.getElem?_set_ne (by decide), iw_get (by decide)]
      simp [adrM, celM, gI_exS, gN_exS]
    · rw [show (if 7 = 13 then 15 else if 7 = 15 then 13 else 7) = 7 from rfl, List.getElem?_set_ne (by decide), iw_get (by decide)]
      simp [adrM, celM, gI_exS, gN_exS]
    · rw [show (if 8 = 13 then 15 else if 8 = 15 then 13 else 8) = 8 from rfl, List.getElem?_set_ne (by decide), iw_get (by decide)]
      simp [adrM, celM, gI_exS, gN_exS]
    · rw [show (if 9 = 13 then 15 else if 9 = 15 then 13 else 9) = 9 from rfl, List.getElem?_set_ne (by decide), iw_get (by decide)]
      simp [adrM, celM, gI_exS, gN_exS]
    · rw [show (if 10 = 13 then 15 else if 10 = 15 then 13 else 10) = 10 from rfl, List.getElem?_set_ne (by decide), iw_get (by decide)]
      simp [adrM, celM, gI_exS, gN_exS]
    · rw [show (if 11 = 13 then 15 else if 11 = 15 then 13 else 11) = 11 from rfl, List.getElem?_set_ne (by decide), iw_get (by decide)]
      simp [adrM, celM, gI_exS, gN_exS]
    · rw [show (if 12 = 13 then 15 else if 12 = 15 then 13 else 12) = 12 from rfl, List.getElem?_set_ne (by decide), iw_get (by decide)]
      simp [adrM, celM, gI_exS, gN_exS]
    · rw [show (if 13 = 13 then 15 else if 13 = 15 then 13 else 13) = 15 from rfl, List.getElem?_set_ne (by decide), iw_get (by decide)]
      simp [adrM, celM, gI_exS, gN_exS]
  refine ⟨⟨?_, hP.by _ key, hD.by _ key (fun i j hi hj hg => ?_)⟩, hS, ?_, ?_⟩
  · rw [hsz, hsz0]; simp [gN_exS]
  · have hi : i < 14 := by simpa [iw] using hi
    have hj : j < 14 := by simpa [iw] using hj
    split at hg <;> split at hg <;> (try split at hg) <;> (try split at hg) <;> omega
  · rw [c7]; simp [gN_exS]
  · rw [c3]; simp [gN_exS]
end MGROW
