/-! part 28: the law's own walk: what holds between two calls, and its kinds of calls -/
def LQ (D : va_G) (w : Wc) (wm : Wm) (o1 o2 : Nat) (c1 c2 : ClassId) (H0 : Heap) (S Sm : St) (v1 v2 : Value) (H : Heap) (locs : List Loc) (cells slots : Nat) : Prop :=
  (PQ D w S H ∧ PQm D wm Sm H ∧ (∀ q, ownC w S q → ¬ ownM wm Sm q)) ∧ (¬ ownC w S o1 ∧ ¬ ownC w S o2 ∧ ¬ ownM wm Sm o1 ∧ ¬ ownM wm Sm o2 ∧ o1 ≠ o2) ∧ (H[o1]? = some (arrV c1 1 (fun _ => v1)) ∧ H[o2]? = some (arrV c2 1 (fun _ => v2))) ∧ ((∀ q, ownC w S q → H0.size ≤ q) ∧ (∀ q, ownM wm Sm q → H0.size ≤ q) ∧ H0.size ≤ o1 ∧ H0.size ≤ o2) ∧ va_S (fun q => H0.size ≤ q) H0 H locs ∧ cells = 203 + (gN S 7 0 + gN Sm 7 0) ∧ slots = 3074 + (gN S 3 0 + gN Sm 3 0)
theorem LQ.swap {D : va_G} {w : Wc} {wm : Wm} {o1 o2 : Nat} {c1 c2 : ClassId} {H0 : Heap} {S Sm : St} {v1 v2 : Value} {H : Heap} {locs : List Loc} {cells slots : Nat} (h : LQ D w wm o1 o2 c1 c2 H0 S Sm v1 v2 H locs cells slots) : LQ D w wm o2 o1 c2 c1 H0 S Sm v2 v1 H locs cells slots := by
  obtain ⟨h1, ⟨a1, a2, a3, a4, a5⟩, ⟨b1, b2⟩, ⟨d1, d2, d3, d4⟩, h5⟩ := h
  exact ⟨h1, ⟨a2, a1, a4, a3, fun q => a5 q.symm⟩, ⟨b2, b1⟩, ⟨d1, d2, d4, d3⟩, h5⟩
section LAW
variable {p : Program} {l : Launch} {e : Env} {R : Room} {s : State} {m : MethodId} {args : Array Value} {below : List Frame} {meth : Method} {c : Code} {H : Heap} {locs : List Loc} {cells slots : Nat} {Q : State → Prop}
variable {cc : ByteArray} {pc nL : Nat} {ls : Array Slot} {rest st0 : List Value} {own : String} {S Sm : St} {D : va_G} {w : Wc} {wm : Wm} {o1 o2 : Nat} {c1 c2 : ClassId} {v1 v2 : Value} {ρ : Type} {aS : Nat → Nat} {sk sv : Nat}
theorem gN_sz7 {S : St} {z : Nat} : gN (pN S 2 0 z) 7 0 = gN S 7 0 := by simp [gN_pN]
theorem gN_sz3 {S : St} {z : Nat} : gN (pN S 2 0 z) 3 0 = gN S 3 0 := by simp [gN_pN]
/-- the law calls one of its own methods, which calls the class -/
theorem lw_W (K0 : CallFix p m c cc nL s args GW own) {EO : (Nat → Prop) → State → Prop} (hEV : EO (fun q => s.heap.size ≤ q) s) (hok : ∀ A, EVok (EO A) A) (hnar : ∀ (A B : Nat → Prop) (U : State), EO A U → (∀ q, B q → A q) → EO B U)
    {As : List Value} {y : MethodName} {b : ByteArray} {mx : Nat} {hh : List (Nat × Nat × Nat × Nat)} {fr lo index : Nat} {f : PM (ρ ⊕ String)} {conv : ρ → Value} {code : String → Int32} {ex : List String} {E : (ρ ⊕ String) × St}
    (hcall : ∀ A, CO l y b mx hh fr lo D w (EO A) A o1 c1 As f conv code ex) (hf : f.1 (pN S 2 0 H.size) = some E) (hex : ∀ X, E.1 = .inr X → X ∈ ex)
    (g1 : Cond.methodLink own index y ∈ GW) (g2 : Cond.static y ∈ GW) (g4 : Cond.initialized y.cls ∈ GW) (g5 : Cond.codeWith y b mx (some .int) hh ∈ GW)
    (yd : y.cls ≠ "java/lang/invoke/MethodHandle" ∧ y.cls ≠ "java/lang/invoke/VarHandle" ∧ (parseMethodDescriptor y.desc).map (fun d => d.parameters.length) = some As.length) (hR : fr + 1 ≤ R.frames ∧ 8 + (mx + 11) + lo ≤ R.locals) (hroom : 203 + (gN E.2 7 0 + gN Sm 7 0) ≤ R.cells ∧ 3074 + (gN E.2 3 0 + gN Sm 3 0) ≤ R.slots)
    (hZ : LQ D w wm o1 o2 c1 c2 s.heap S Sm v1 v2 H locs cells slots) (hls : ls.size = nL) (hst : st0 = As.reverse ++ rest) (hcat : (rest.map fun v => v.category).sum ≤ 8) (hdg : decode cc pc = .ok (.invokestatic index, 3))
    (kk : ∀ (k : Int32) (v : Value) (H' : Heap) (locs' : List Loc) (cells' slots' : Nat), (match E.1 with | .inl r => k = 0 ∧ v = conv r | .inr X => k = code X) → LQ D w wm o1 o2 c1 c2 s.heap E.2 Sm v v2 H' locs' cells' slots' → W p l e R s m args below meth c H' locs' cells' slots' Q (F0 m (pc + 3) ls (.int k :: rest))) : W p l e R s m args below meth c H locs cells slots Q (F0 m pc ls st0) := by
  obtain ⟨⟨hP, hPm, hap⟩, ⟨n1, n2, n3, n4, n5⟩, ⟨ho1, ho2⟩, ⟨t1, t2, t3, t4⟩, hS, hcl, hsl⟩ := hZ
  have l1 : o1 < H.size := (Array.getElem?_eq_some_iff.mp ho1).1
  have l2 : o2 < H.size := (Array.getElem?_eq_some_iff.mp ho2).1
  have hA : ∀ q, freeC w S H.size q → s.heap.size ≤ q := fun q h => h.elim (t1 q) (fun h9 => Nat.le_trans hS.1 h9)
  have no : ∀ q, q < H.size → ¬ ownC w S q → ¬ freeC w S H.size q := fun q h9 h8 h => h.elim h8 (fun h7 => absurd h9 (Nat.not_lt.mpr h7))
  have hPC := hP.to
  have mono := f.2 _ E hf
  rw [gN_sz7, gN_sz3] at mono
  have hM := hcall (freeC w S H.size) _ E hf hex freeC_new (no o1 l1 n1)
  rw [gN_sz7, gN_sz3] at hM
  have hok0 := hok (fun q => s.heap.size ≤ q)
  intro T hT X
  have hrun := vx_runSW (e := e) (below := below) (meth := meth) (As := As) (rest := rest) K0 hM (vx_cwSW (R := R) (args := args) As.length K0.2.2.2.2 (gw_vS g1 g2 g4 g5) rfl rfl rfl yd hR) ⟨fun a U g mk q => ⟨q.1, q.2.1, (hok (freeC w S H.size)).blind q.2.2 g mk a⟩, fun U hU hW => ⟨rfl, ⟨by rw [hU]; exact hPC, v1, by rw [hU]; exact ho1⟩, hnar _ _ U (hok0 s H locs U hEV hS hU hW) hA⟩⟩ (H := H) (locs := locs) (cells := cells) (slots := slots) (g := F0 m pc ls st0) rfl rfl hls hst (lv_room hcat) hdg ⟨by omega, by omega⟩
  obtain ⟨v, st₀, t, T', L, h0, X', hL, e1, e2, ⟨k, v', hv, ho', ⟨hz, hk2⟩, hm⟩, st⟩ := hrun T hT X
  have hv' : v = some (.int k) := Outcome.returned.inj hv
  subst hv'
  rw [h0] at hz hk2
  have hown : ∀ q, ownC w E.2 q → freeC w S H.size q := by
    cases h : E.1 with
    | inl r => rw [h] at hm; exact ownC_in hm.2.2
    | inr X => rw [h] at hm; exact ownC_inx hm.2
  have hP1 : PQ D w E.2 t.heap := by
    cases h : E.1 with
    | inl r => rw [h] at hm; exact PQ.of hm.2.2
    | inr X => rw [h] at hm; exact PQ.ofx hm.2
  have hk9 : (match E.1 with | .inl r => k = 0 ∧ v' = conv r | .inr X => k = code X) := by
    cases h : E.1 with
    | inl r => rw [h] at hm; exact ⟨hm.1, hm.2.1⟩
    | inr X => rw [h] at hm; exact hm.1
  have hz0 : H.size ≤ t.heap.size := hz
  obtain ⟨t9, a1, b1⟩ := kk k v' T'.heap (locs ++ L) _ _ hk9 ⟨⟨by rw [e1]; exact hP1, by rw [e1]; exact hPm.past (fun q hq h => hap q h hq) n3 hk2, apart_c hPm hap hown⟩, ⟨other_c n1 l1 hown, other_c n2 l2 hown, n3, n4, n5⟩, ⟨by rw [e1]; exact ho', by rw [e1]; rw [hk2 o2 l2 (fun h => h.elim (no o2 l2 n2) (fun h9 => n5 h9.symm))]; exact ho2⟩, ⟨fun q hq => hA q (hown q hq), t2, t3, t4⟩, ⟨Nat.le_trans hS.1 (by rw [e1]; exact hz), fun q g1 g2 => by rw [e1, hk2 q (Nat.lt_of_lt_of_le g1 hS.1) (fun h => g2 (h.elim (hA q) (fun h9 => h9 ▸ t3)))]; exact hS.2.1 q g1 g2, fun q hq => (List.mem_append.mp hq).elim (hS.2.2 q) (fun h => (hL q h).elim (hA _) (fun h9 => by rw [h9]; exact t3))⟩, rfl, rfl⟩ T' rfl (by
      have ec : cells + (gN E.2 7 0 - gN S 7 0) = 203 + (gN E.2 7 0 + gN Sm 7 0) := by omega
      have es : slots + (gN E.2 3 0 - gN S 3 0) = 3074 + (gN E.2 3 0 + gN Sm 3 0) := by omega
      rw [← ec, ← es]; exact X')
  exact ⟨t9, st t9 a1, b1⟩
/-- the law calls the class itself -/
theorem lw_X (K0 : CallFix p m c cc nL s args GW own) (hEV : ENVC D w aS sk sv (fun q => s.heap.size ≤ q) s)
    {y : MethodName} {b : ByteArray} {n : Nat} {fr lo index : Nat} {rt : Option FieldType} {f : PM ρ} {val : ρ → Option Value} {E : ρ × St}
    (hcall : ∀ A, CT l y b n rt fr lo (PC D w A) (ENVC D w aS sk sv A) A [vr w.2.2.2.2 0 1 0] f val) (hf : f.1 (pN S 2 0 H.size) = some E)
    (g1 : Cond.methodLink own index y ∈ GW) (g2 : Cond.instanceMethod y ∈ GW) (g3 : Cond.selects RX5 y y ∈ GW) (g4 : Cond.initialized RX5 ∈ GW) (g5 : Cond.code y b n rt ∈ GW)
    (yd : y.cls = RX5 ∧ y.cls ≠ "java/lang/invoke/MethodHandle" ∧ y.cls ≠ "java/lang/invoke/VarHandle" ∧ (parseMethodDescriptor y.desc).map (fun d => d.parameters.length) = some 0) (hR : fr + 1 ≤ R.frames ∧ 8 + (n + 11) + lo ≤ R.locals) (hroom : 203 + (gN E.2 7 0 + gN Sm 7 0) ≤ R.cells ∧ 3074 + (gN E.2 3 0 + gN Sm 3 0) ≤ R.slots)
    (hZ : LQ D w wm o1 o2 c1 c2 s.heap S Sm v1 v2 H locs cells slots) (hls : ls.size = nL) (hst : st0 = .ref (w.2.2.2.2 0) :: rest) (hcat : (rest.map fun v => v.category).sum ≤ 8) (hdg : decode cc pc = .ok (.invokevirtual index, 3))
    (kk : ∀ (H' : Heap) (locs' : List Loc) (cells' slots' : Nat), LQ D w wm o1 o2 c1 c2 s.heap E.2 Sm v1 v2 H' locs' cells' slots' → W p l e R s m args below meth c H' locs' cells' slots' Q (F0 m (pc + 3) ls ((val E.1).toList ++ rest))) : W p l e R s m args below meth c H locs cells slots Q (F0 m pc ls st0) := by
  obtain ⟨⟨hP, hPm, hap⟩, ⟨n1, n2, n3, n4, n5⟩, ⟨ho1, ho2⟩, ⟨t1, t2, t3, t4⟩, hS, hcl, hsl⟩ := hZ
  have l1 : o1 < H.size := (Array.getElem?_eq_some_iff.mp ho1).1
  have l2 : o2 < H.size := (Array.getElem?_eq_some_iff.mp ho2).1
  have hA : ∀ q, freeC w S H.size q → s.heap.size ≤ q := fun q h => h.elim (t1 q) (fun h9 => Nat.le_trans hS.1 h9)
  have no : ∀ q, q < H.size → ¬ ownC w S q → ¬ freeC w S H.size q := fun q h9 h8 h => h.elim h8 (fun h7 => absurd h9 (Nat.not_lt.mpr h7))
  have hPC := hP.to
  have mono := f.2 _ E hf
  rw [gN_sz7, gN_sz3] at mono
  have hM := hcall (freeC w S H.size) _ E hf freeC_new
  rw [gN_sz7, gN_sz3, vr_ref (by omega)] at hM
  have hok0 : EVok (ENVC D w aS sk sv (fun q => s.heap.size ≤ q)) (fun q => s.heap.size ≤ q) := ENVC.ok
  intro T hT X
  have hrun := va_runV (e := e) (below := below) (meth := meth) (As := []) (rest := rest) K0 hM (cwV (R := R) (args := args) 0 K0.2.2.2.2 (gw_V g1 g2 g3 g4 g5) rfl rfl rfl yd hR) ⟨fun a U g mk q => ⟨q.1, q.2.1, (ENVC.ok (A := freeC w S H.size)).blind q.2.2 g mk a⟩, va_recv hEV.1 hPC.2.1 (ci := 7) (q0 := 0) rfl (by rw [iw_get (by omega)]; rfl), fun U hU hW => ⟨rfl, by rw [hU]; exact hPC, (hok0 s H locs U hEV hS hU hW).narrow hA⟩⟩ (H := H) (locs := locs) (cells := cells) (slots := slots) (g := F0 m pc ls st0) rfl rfl hls hst (lv_room hcat) hdg ⟨by omega, by omega⟩
  obtain ⟨v, st₀, t, T', L, h0, X', hL, e1, e2, ⟨hv, hp, hz, hk2⟩, st⟩ := hrun T hT X
  have hv' : v = val E.1 := Outcome.returned.inj hv
  subst hv'
  rw [h0] at hz hk2
  have hown : ∀ q, ownC w E.2 q → freeC w S H.size q := ownC_in hp
  have hP1 : PQ D w E.2 t.heap := PQ.of hp
  obtain ⟨t9, a1, b1⟩ := kk T'.heap (locs ++ L) _ _ ⟨⟨by rw [e1]; exact hP1, by rw [e1]; exact hPm.past (o := o1) (fun q hq h => hap q h hq) n3 (fun q h1 h2 => hk2 q h1 (fun h3 => h2 (Or.inl h3))), apart_c hPm hap hown⟩, ⟨other_c n1 l1 hown, other_c n2 l2 hown, n3, n4, n5⟩, ⟨by rw [e1]; rw [hk2 o1 l1 (no o1 l1 n1)]; exact ho1, by rw [e1]; rw [hk2 o2 l2 (no o2 l2 n2)]; exact ho2⟩, ⟨fun q hq => hA q (hown q hq), t2, t3, t4⟩, ⟨Nat.le_trans hS.1 (by rw [e1]; exact hz), fun q g1 g2 => by rw [e1, hk2 q (Nat.lt_of_lt_of_le g1 hS.1) (fun h => g2 (hA q h))]; exact hS.2.1 q g1 g2, fun q hq => (List.mem_append.mp hq).elim (hS.2.2 q) (fun h => hA _ (hL q h))⟩, rfl, rfl⟩ T' rfl (by
      have ec : cells + (gN E.2 7 0 - gN S 7 0) = 203 + (gN E.2 7 0 + gN Sm 7 0) := by omega
      have es : slots + (gN E.2 3 0 - gN S 3 0) = 3074 + (gN E.2 3 0 + gN Sm 3 0) := by omega
      rw [← ec, ← es]; exact X')
  exact ⟨t9, st t9 a1, b1⟩
/-- the law calls the reference -/
theorem lw_M (K0 : CallFix p m c cc nL s args GW own) (hEV : ENVM D wm s)
    {As : List Value} {y : MethodName} {b : ByteArray} {n : Nat} {fr lo index : Nat} {rt : Option FieldType} {f : PM ρ} {val : ρ → Option Value} {E : ρ × St}
    (hcall : ∀ A, CT l y b n rt fr lo (PMo D wm A) (ENVM D wm) A (.ref (wm.2.2 0) :: As) f val) (hf : f.1 (pN Sm 2 0 H.size) = some E)
    (g1 : Cond.methodLink own index y ∈ GW) (g2 : Cond.instanceMethod y ∈ GW) (g3 : Cond.selects RX6 y y ∈ GW) (g4 : Cond.initialized RX6 ∈ GW) (g5 : Cond.code y b n rt ∈ GW)
    (yd : y.cls = RX6 ∧ y.cls ≠ "java/lang/invoke/MethodHandle" ∧ y.cls ≠ "java/lang/invoke/VarHandle" ∧ (parseMethodDescriptor y.desc).map (fun d => d.parameters.length) = some As.length) (hR : fr + 1 ≤ R.frames ∧ 8 + (n + 11) + lo ≤ R.locals) (hroom : 203 + (gN S 7 0 + gN E.2 7 0) ≤ R.cells ∧ 3074 + (gN S 3 0 + gN E.2 3 0) ≤ R.slots)
    (hZ : LQ D w wm o1 o2 c1 c2 s.heap S Sm v1 v2 H locs cells slots) (hls : ls.size = nL) (hst : st0 = As.reverse ++ .ref (wm.2.2 0) :: rest) (hcat : (rest.map fun v => v.category).sum ≤ 8) (hdg : decode cc pc = .ok (.invokevirtual index, 3))
    (kk : ∀ (H' : Heap) (locs' : List Loc) (cells' slots' : Nat), LQ D w wm o1 o2 c1 c2 s.heap S E.2 v1 v2 H' locs' cells' slots' → W p l e R s m args below meth c H' locs' cells' slots' Q (F0 m (pc + 3) ls ((val E.1).toList ++ rest))) : W p l e R s m args below meth c H locs cells slots Q (F0 m pc ls st0) := by
  obtain ⟨⟨hP, hPm, hap⟩, ⟨n1, n2, n3, n4, n5⟩, ⟨ho1, ho2⟩, ⟨t1, t2, t3, t4⟩, hS, hcl, hsl⟩ := hZ
  have l1 : o1 < H.size := (Array.getElem?_eq_some_iff.mp ho1).1
  have l2 : o2 < H.size := (Array.getElem?_eq_some_iff.mp ho2).1
  have hA : ∀ q, freeM wm Sm H.size q → s.heap.size ≤ q := fun q h => h.elim (t2 q) (fun h9 => Nat.le_trans hS.1 h9)
  have no : ∀ q, q < H.size → ¬ ownM wm Sm q → ¬ freeM wm Sm H.size q := fun q h9 h8 h => h.elim h8 (fun h7 => absurd h9 (Nat.not_lt.mpr h7))
  have hPC := hPm.to
  have mono := f.2 _ E hf
  rw [gN_sz7, gN_sz3] at mono
  have hM := hcall (freeM wm Sm H.size) _ E hf freeM_new
  rw [gN_sz7, gN_sz3] at hM
  intro T hT X
  have hrun := va_runV (e := e) (below := below) (meth := meth) (As := As) (rest := rest) K0 hM (cwV (R := R) (args := args) As.length K0.2.2.2.2 (gw_V g1 g2 g3 g4 g5) rfl rfl rfl yd hR) ⟨fun a U g mk q => ⟨q.1, q.2.1, (ENVM.ok (A := freeM wm Sm H.size)).blind q.2.2 g mk a⟩, va_recv hEV hPC.2.1 (ci := 8) (q0 := 0) rfl (by rw [iw_get (by omega)]; rfl), fun U hU hW => ⟨rfl, by rw [hU]; exact hPC, va_K.moved hW.alike hEV⟩⟩ (H := H) (locs := locs) (cells := cells) (slots := slots) (g := F0 m pc ls st0) rfl rfl hls hst (lv_room hcat) hdg ⟨by omega, by omega⟩
  obtain ⟨v, st₀, t, T', L, h0, X', hL, e1, e2, ⟨hv, hp, hz, hk2⟩, st⟩ := hrun T hT X
  have hv' : v = val E.1 := Outcome.returned.inj hv
  subst hv'
  rw [h0] at hz hk2
  have hown : ∀ q, ownM wm E.2 q → freeM wm Sm H.size q := ownM_in hp
  have hP1 : PQm D wm E.2 t.heap := PQm.of hp
  obtain ⟨t9, a1, b1⟩ := kk T'.heap (locs ++ L) _ _ ⟨⟨by rw [e1]; exact hP.past hap hk2, by rw [e1]; exact hP1, apart_m hP hap hown⟩, ⟨n1, n2, other_m n3 l1 hown, other_m n4 l2 hown, n5⟩, ⟨by rw [e1]; rw [hk2 o1 l1 (no o1 l1 n3)]; exact ho1, by rw [e1]; rw [hk2 o2 l2 (no o2 l2 n4)]; exact ho2⟩, ⟨t1, fun q hq => hA q (hown q hq), t3, t4⟩, ⟨Nat.le_trans hS.1 (by rw [e1]; exact hz), fun q g1 g2 => by rw [e1, hk2 q (Nat.lt_of_lt_of_le g1 hS.1) (fun h => g2 (hA q h))]; exact hS.2.1 q g1 g2, fun q hq => (List.mem_append.mp hq).elim (hS.2.2 q) (fun h => hA _ (hL q h))⟩, rfl, rfl⟩ T' rfl (by
      have ec : cells + (gN E.2 7 0 - gN Sm 7 0) = 203 + (gN S 7 0 + gN E.2 7 0) := by omega
      have es : slots + (gN E.2 3 0 - gN Sm 3 0) = 3074 + (gN S 3 0 + gN E.2 3 0) := by omega
      rw [← ec, ← es]; exact X')
  exact ⟨t9, st t9 a1, b1⟩
/-- what the law reads back of its row of answers -/
theorem lw_lald (K0 : CallFix p m c cc nL s args GW own) (harr : ArrOfT s c1 .long) (hZ : LQ D w wm o1 o2 c1 c2 s.heap S Sm v1 v2 H locs cells slots) (hdg : decode cc pc = .ok (.laload, 1))
    (kk : W p l e R s m args below meth c H locs cells slots Q (F0 m (pc + 1) ls (v1 :: rest))) : W p l e R s m args below meth c H locs cells slots Q (F0 m pc ls (.int 0 :: .ref o1 :: rest)) :=
  W.lald K0.1 K0.2.1 hZ.2.2.1.1 (harr 1 _) (fun q => by cases q) (by rw [arrV_size]; decide) (by rfl) rfl rfl hdg kk
theorem lw_dald (K0 : CallFix p m c cc nL s args GW own) (harr : ArrOfT s c2 .double) (hZ : LQ D w wm o1 o2 c1 c2 s.heap S Sm v1 v2 H locs cells slots) (hdg : decode cc pc = .ok (.daload, 1))
    (kk : W p l e R s m args below meth c H locs cells slots Q (F0 m (pc + 1) ls (v2 :: rest))) : W p l e R s m args below meth c H locs cells slots Q (F0 m pc ls (.int 0 :: .ref o2 :: rest)) :=
  W.dald K0.1 K0.2.1 hZ.2.2.1.2 (harr 1 _) (fun q => by cases q) (by rw [arrV_size]; decide) (by rfl) rfl rfl hdg kk
end LAW
