/-! part 28b: the law's cases -/
def agW {ρ σ : Type} (INV : Nat → St → St → Prop) (i : Nat) (f : PM (ρ ⊕ String)) (g : PM σ) (code : String → Int32) (ex : List String) (same : ρ → σ → Prop) : Prop :=
  ∀ S Sm, INV i S Sm → ∃ (E : (ρ ⊕ String) × St) (Em : σ × St), f.1 S = some E ∧ g.1 Sm = some Em ∧ (∀ X, E.1 = .inr X → X ∈ ex) ∧ (match E.1 with | .inl r => gI Em.2 5 0 0 = 0 ∧ same r Em.1 | .inr X => gI Em.2 5 0 0 = code X) ∧ (203 + (gN E.2 7 0 + gN Em.2 7 0) ≤ 603072 ∧ 3074 + (gN E.2 3 0 + gN Em.2 3 0) ≤ 7219306) ∧ INV (i + 5) E.2 Em.2
def agP {ρ : Type} (INV : Nat → St → St → Prop) (i : Nat) (f : PM ρ) (g : PM ρ) : Prop :=
  ∀ S Sm, INV i S Sm → ∃ (E Em : ρ × St), f.1 S = some E ∧ g.1 Sm = some Em ∧ E.1 = Em.1 ∧ (203 + (gN E.2 7 0 + gN Em.2 7 0) ≤ 603072 ∧ 3074 + (gN E.2 3 0 + gN Em.2 3 0) ≤ 7219306) ∧ INV (i + 5) E.2 Em.2
/-- the invariant says nothing of the heap's size -/
def INVz (INV : Nat → St → St → Prop) : Prop := ∀ (n : Nat) (S Sm : St) (z1 z2 : Nat), INV n S Sm → INV n (pN S 2 0 z1) (pN Sm 2 0 z2)
theorem pN_pN {S : St} {z : Nat} : pN S 2 0 z = pN (pN S 2 0 (gN S 2 0)) 2 0 z := by
  unfold pN
  refine Prod.ext rfl (Prod.ext rfl ?_)
  funext a b
  show (if a = 2 ∧ b = 0 then z else S.2.2 a b) = (if a = 2 ∧ b = 0 then z else (if a = 2 ∧ b = 0 then gN S 2 0 else S.2.2 a b))
  by_cases h : a = 2 ∧ b = 0
  · rw [if_pos h, if_pos h]
  · rw [if_neg h, if_neg h, if_neg h]
theorem pN_self {S : St} : pN S 2 0 (gN S 2 0) = S := by
  unfold pN
  refine Prod.ext rfl (Prod.ext rfl ?_)
  funext a b
  show (if a = 2 ∧ b = 0 then gN S 2 0 else S.2.2 a b) = S.2.2 a b
  by_cases h : a = 2 ∧ b = 0
  · rw [if_pos h, h.1, h.2]; rfl
  · rw [if_neg h]
theorem INVz.c {INV : Nat → St → St → Prop} (h : INVz INV) {n : Nat} {S Sm : St} (z : Nat) (hI : INV n S Sm) : INV n (pN S 2 0 z) Sm := by
  have h1 := h n S Sm z (gN Sm 2 0) hI
  rwa [pN_self] at h1
theorem INVz.m {INV : Nat → St → St → Prop} (h : INVz INV) {n : Nat} {S Sm : St} (z : Nat) (hI : INV n S Sm) : INV n S (pN Sm 2 0 z) := by
  have h1 := h n S Sm (gN S 2 0) z hI
  rwa [pN_self] at h1
theorem agW.use {ρ σ : Type} {INV : Nat → St → St → Prop} {i : Nat} {f : PM (ρ ⊕ String)} {g : PM σ} {code : String → Int32} {ex : List String} {same : ρ → σ → Prop} (h : agW INV i f g code ex same) (hz : INVz INV) {S Sm : St} (hI : INV i S Sm) (z : Nat) :
    ∃ E : (ρ ⊕ String) × St, f.1 (pN S 2 0 z) = some E ∧ (∀ X, E.1 = .inr X → X ∈ ex) ∧ (203 + (gN E.2 7 0 + gN Sm 7 0) ≤ 603072 ∧ 3074 + (gN E.2 3 0 + gN Sm 3 0) ≤ 7219306) ∧ ∀ z2 : Nat, ∃ Em : σ × St, g.1 (pN Sm 2 0 z2) = some Em ∧ (match E.1 with | .inl r => gI Em.2 5 0 0 = 0 ∧ same r Em.1 | .inr X => gI Em.2 5 0 0 = code X) ∧ (203 + (gN E.2 7 0 + gN Em.2 7 0) ≤ 603072 ∧ 3074 + (gN E.2 3 0 + gN Em.2 3 0) ≤ 7219306) ∧ INV (i + 5) E.2 Em.2 := by
  obtain ⟨E, Em, h1, h2, h3, h4, h5, h6⟩ := h _ _ (hz.c z hI)
  have mono := g.2 _ _ h2
  refine ⟨E, h1, h3, ⟨by omega, by omega⟩, fun z2 => ?_⟩
  obtain ⟨E', Em', k1, k2, k3, k4, k5, k6⟩ := h _ _ (hz.m z2 (hz.c z hI))
  have he : E' = E := Option.some.inj (k1.symm.trans h1)
  subst he
  exact ⟨Em', k2, k4, k5, k6⟩
theorem agP.use {ρ : Type} {INV : Nat → St → St → Prop} {i : Nat} {f : PM ρ} {g : PM ρ} (h : agP INV i f g) (hz : INVz INV) {S Sm : St} (hI : INV i S Sm) (z : Nat) :
    ∃ E : ρ × St, f.1 (pN S 2 0 z) = some E ∧ (203 + (gN E.2 7 0 + gN Sm 7 0) ≤ 603072 ∧ 3074 + (gN E.2 3 0 + gN Sm 3 0) ≤ 7219306) ∧ ∀ z2 : Nat, ∃ Em : ρ × St, g.1 (pN Sm 2 0 z2) = some Em ∧ E.1 = Em.1 ∧ (203 + (gN E.2 7 0 + gN Em.2 7 0) ≤ 603072 ∧ 3074 + (gN E.2 3 0 + gN Em.2 3 0) ≤ 7219306) ∧ INV (i + 5) E.2 Em.2 := by
  obtain ⟨E, Em, h1, h2, h4, h5, h6⟩ := h _ _ (hz.c z hI)
  have mono := g.2 _ _ h2
  refine ⟨E, h1, ⟨by omega, by omega⟩, fun z2 => ?_⟩
  obtain ⟨E', Em', k1, k2, k4, k5, k6⟩ := h _ _ (hz.m z2 (hz.c z hI))
  have he : E' = E := Option.some.inj (k1.symm.trans h1)
  subst he
  exact ⟨Em', k2, k4, k5, k6⟩
/-- the two sides threw alike, and answered alike where neither threw -/
theorem agW.tail {ρ σ : Type} {E : (ρ ⊕ String) × St} {Em1 : σ} {th k : Int32} {v : Value} {conv : ρ → Value} {code : String → Int32} {ex : List String} {same : ρ → σ → Prop} (hcode : ∀ X ∈ ex, code X ≠ 0) (hex : ∀ X, E.1 = .inr X → X ∈ ex) (hk : match E.1 with | .inl r => k = 0 ∧ v = conv r | .inr X => k = code X) (hm : match E.1 with | .inl r => th = 0 ∧ same r Em1 | .inr X => th = code X) :
    th = k ∧ (k = 0 → ∃ r : ρ, v = conv r ∧ same r Em1) := by
  cases h : E.1 with
  | inl r => rw [h] at hk hm; exact ⟨hm.1.trans hk.1.symm, fun _ => ⟨r, hk.2, hm.2⟩⟩
  | inr X => rw [h] at hk hm; exact ⟨hm.trans hk.symm, fun h9 => absurd (hk.symm.trans h9) (hcode X (hex X h))⟩
def LC (p : Program) (s : State) (m : MethodId) (args : Array Value) (c : Code) (b L : Nat) (xs : Nat → Int32) (D : va_G) (w : Wc) (wm : Wm) (aS : Nat → Nat) (sk sv : Nat) (c1 c2 : ClassId) : Prop :=
  CallFix p m c cL_law 9 s args GW RL ∧ ENVO D w aS sk sv (fun q => s.heap.size ≤ q) c1 .long s ∧ ENVO D w aS sk sv (fun q => s.heap.size ≤ q) c2 .double s ∧ ENVM D wm s ∧ va_X b L xs s s.heap ∧ b < s.heap.size ∧ L ≤ 2560
abbrev lawL (w : Wc) (wm : Wm) (o1 o2 b i : Nat) : List (Nat × Value) := [(5, .int (nI i)), (4, .ref o2), (3, .ref o1), (2, .ref (wm.2.2 0)), (1, .ref (w.2.2.2.2 0)), (0, .ref b)]
theorem ld_nI {i j : Nat} : nI i + Int32.ofNat j = nI (i + j) := by
  show Int32.ofNat i + Int32.ofNat j = Int32.ofNat (i + j)
  rw [Int32.ofNat_add]
section CASES
variable {p : Program} {l : Launch} {e : Env} {s : State} {m : MethodId} {args : Array Value} {below : List Frame} {meth : Method} {c : Code} {H : Heap} {locs : List Loc} {cells slots : Nat} {Q : State → Prop}
variable {pc : Nat} {ls : Array Slot} {rest : List Value} {S Sm : St} {D : va_G} {w : Wc} {wm : Wm} {o1 o2 b L i : Nat} {xs : Nat → Int32} {c1 c2 : ClassId} {v1 v2 : Value} {aS : Nat → Nat} {sk sv : Nat} {INV : Nat → St → St → Prop}
/-- the round's end -/
def LN (p : Program) (l : Launch) (e : Env) (s : State) (m : MethodId) (args : Array Value) (below : List Frame) (meth : Method) (c : Code) (D : va_G) (w : Wc) (wm : Wm) (o1 o2 : Nat) (c1 c2 : ClassId) (b : Nat) (INV : Nat → St → St → Prop) (Q : State → Prop) (i : Nat) : Prop :=
  ∀ (S Sm : St) (v1 v2 : Value) (H : Heap) (locs : List Loc) (cells slots : Nat) (ls : Array Slot), INV (i + 5) S Sm → LQ D w wm o1 o2 c1 c2 s.heap S Sm v1 v2 H locs cells slots → lv_has ls 9 (lawL w wm o1 o2 b i) → W p l e room_1 s m args below meth c H locs cells slots Q (F0 m 2116 ls [])
/-- one of the script's ints -/
theorem lw_arg (C : LC p s m args c b L xs D w wm aS sk sv c1 c2) (hZ : LQ D w wm o1 o2 c1 c2 s.heap S Sm v1 v2 H locs cells slots) {j : Int} {jn : Nat} (hj : Int32.ofInt j = Int32.ofNat jn) (hi : i + jn < L) (hl0 : ls[0]? = some (.val (.ref b))) (hl5 : ls[5]? = some (.val (.int (nI i))))
    (d1 : decode cL_law pc = .ok (.aload_n 0, 1)) (d2 : decode cL_law (pc + 1) = .ok (.iload 5, 2)) (d3 : decode cL_law (pc + 3) = .ok (.iconst j, 1)) (d4 : decode cL_law (pc + 4) = .ok (.iadd, 1)) (d5 : decode cL_law (pc + 5) = .ok (.iaload, 1))
    (kk : W p l e room_1 s m args below meth c H locs cells slots Q (F0 m (pc + 6) ls (.int (xs (i + jn)) :: rest))) : W p l e room_1 s m args below meth c H locs cells slots Q (F0 m pc ls rest) := by
  obtain ⟨K0, hO1, hO2, hM, hX, hbl, hL⟩ := C
  have hx := K0.1
  have hb := K0.2.1
  have hn : i + jn < 2 ^ 31 := by have : i + jn < 2560 := Nat.lt_of_lt_of_le hi hL; omega
  have hc : (nI (i + jn)).toNatClampNeg = i + jn := nI_clamp hn
  refine lv_aload_n hx hb d1 rfl hl0 ?_
  refine lv_iload hx hb d2 hl5 ?_
  refine lv_iconst hx hb d3 hj ?_
  refine lv_iadd hx hb d4 ?_
  rw [ld_nI]
  refine va_sld hx hb hX hbl (Nat.not_le.mpr hbl) hZ.2.2.2.2.1 (nI_in hi (by omega)) d5 ?_
  rw [hc]
  exact kk
theorem lg_cmp_self {z : Int64} : lg_cmp z z = 0 := by simp [lg_cmp]
/-- what was thrown is asked of the reference, and held against the class's -/
theorem lw_thrown (C : LC p s m args c b L xs D w wm aS sk sv c1 c2) {kc : Int32} (hroom : 203 + (gN S 7 0 + gN Sm 7 0) ≤ 603072 ∧ 3074 + (gN S 3 0 + gN Sm 3 0) ≤ 7219306) (hZ : LQ D w wm o1 o2 c1 c2 s.heap S Sm v1 v2 H locs cells slots) (hls : ls.size = 9) (hth : gI Sm 5 0 0 = kc) (hl2 : ls[2]? = some (.val (.ref (wm.2.2 0)))) (hl6 : ls[6]? = some (.val (.int kc)))
    (d0 : decode cL_law pc = .ok (.aload_n 2, 1)) (d1 : decode cL_law (pc + 1) = .ok (.invokevirtual 132, 3)) (d2 : decode cL_law (pc + 4) = .ok (.iload 6, 2)) (d3 : decode cL_law (pc + 6) = .ok (.if_icmp .eq 5, 3)) (d4 : decode cL_law (pc + 11) = .ok (.iload 6, 2)) {off : Int} {tgt : Nat} (d5 : decode cL_law (pc + 13) = .ok (.ifCond .ne off, 3)) (ht : ((pc + 13 : Nat) : Int) + off = (tgt : Int))
    (k1 : ∀ (z : Nat) (H : Heap) (locs : List Loc) (cells slots : Nat), kc ≠ 0 → LQ D w wm o1 o2 c1 c2 s.heap S (pN Sm 2 0 z) v1 v2 H locs cells slots → W p l e room_1 s m args below meth c H locs cells slots Q (F0 m tgt ls []))
    (k2 : ∀ (z : Nat) (H : Heap) (locs : List Loc) (cells slots : Nat), kc = 0 → LQ D w wm o1 o2 c1 c2 s.heap S (pN Sm 2 0 z) v1 v2 H locs cells slots → W p l e room_1 s m args below meth c H locs cells slots Q (F0 m (pc + 16) ls [])) :
    W p l e room_1 s m args below meth c H locs cells slots Q (F0 m pc ls []) := by
  obtain ⟨K0, hO1, hO2, hM, hX, hbl, hL⟩ := C
  have hx := K0.1
  have hb := K0.2.1
  refine lv_aload_n hx hb d0 rfl hl2 ?_
  refine lw_M (As := []) (rest := []) (E := (gI (pN Sm 2 0 H.size) 5 0 0, pN Sm 2 0 H.size)) K0 hM (fun A => c_X6_thrown l D wm A) rfl q1131 q1132 q1133 q46 q1134 yd_X6_thrown ⟨by decide, by decide⟩ (by dsimp only; rw [gN_sz7, gN_sz3]; exact hroom) hZ hls rfl (by simp) d1 (fun H1 locs1 cells1 slots1 hZ1 => ?_)
  have e1 : gI (pN Sm 2 0 H.size) 5 0 0 = kc := hth
  refine W.eq (g2 := F0 m (pc + 4) ls [.int kc]) (by rw [← e1]; rfl) ?_
  refine lv_iload hx hb d2 hl6 ?_
  refine lv_icmp_eq (tgt := pc + 11) hx hb d3 (by omega) (fun _ => ?_) (fun h => absurd rfl h)
  refine lv_iload hx hb d4 hl6 ?_
  exact lv_if_ne (tgt := tgt) hx hb d5 ht (fun h => k1 _ _ _ _ _ h hZ1) (fun h => k2 _ _ _ _ _ h hZ1)
theorem lw_tailI (C : LC p s m args c b L xs D w wm aS sk sv c1 c2) {kc b1 : Int32} (hIN : INV (i + 5) S Sm) (hzz : INVz INV) (hn : LN p l e s m args below meth c D w wm o1 o2 c1 c2 b INV Q i) (hroom : 203 + (gN S 7 0 + gN Sm 7 0) ≤ 603072 ∧ 3074 + (gN S 3 0 + gN Sm 3 0) ≤ 7219306) (hZ : LQ D w wm o1 o2 c1 c2 s.heap S Sm v1 v2 H locs cells slots) (hth : gI Sm 5 0 0 = kc) (hcmp : kc = 0 → v1 = .long b1.toInt64) (hl : lv_has ls 9 ((7, .int b1) :: (6, .int kc) :: lawL w wm o1 o2 b i))
    (d0 : decode cL_law pc = .ok (.aload_n 2, 1)) (d1 : decode cL_law (pc + 1) = .ok (.invokevirtual 132, 3)) (d2 : decode cL_law (pc + 4) = .ok (.iload 6, 2)) (d3 : decode cL_law (pc + 6) = .ok (.if_icmp .eq 5, 3)) (d4 : decode cL_law (pc + 11) = .ok (.iload 6, 2)) (d5 : decode cL_law (pc + 13) = .ok (.ifCond .ne 15, 3))
    (d6 : decode cL_law (pc + 16) = .ok (.aload_n 3, 1)) (d7 : decode cL_law (pc + 17) = .ok (.iconst 0, 1)) (d8 : decode cL_law (pc + 18) = .ok (.laload, 1)) (d9 : decode cL_law (pc + 19) = .ok (.iload 7, 2)) (d10 : decode cL_law (pc + 21) = .ok (.i2l, 1)) (d11 : decode cL_law (pc + 22) = .ok (.lcmp, 1)) (d12 : decode cL_law (pc + 23) = .ok (.ifCond .eq 5, 3)) {off : Int} (d13 : decode cL_law (pc + 28) = .ok (.goto off, 3)) (hg : ((pc + 28 : Nat) : Int) + off = ((2116 : Nat) : Int)) :
    W p l e room_1 s m args below meth c H locs cells slots Q (F0 m pc ls []) := by
  have hx := C.1.1
  have hb := C.1.2.1
  have hl9 : lv_has ls 9 (lawL w wm o1 o2 b i) := lv_sub hl [2, 3, 4, 5, 6, 7] rfl
  refine lw_thrown C hroom hZ hl.1 hth (lv_at hl 5 rfl) (lv_at hl 1 rfl) d0 d1 d2 d3 d4 (tgt := pc + 28) d5 (by omega) (fun z H locs cells slots h hZ => ?_) (fun z H locs cells slots h hZ => ?_)
  · refine lv_goto (tgt := 2116) hx hb d13 hg ?_
    exact hn _ _ _ _ _ _ _ _ _ (hzz.m z hIN) hZ hl9
  · refine lv_aload_n hx hb d6 rfl (lv_at hl 4 rfl) ?_
    refine lv_iconst (v := (0)) hx hb d7 (by decide +kernel) ?_
    refine lw_lald C.1 C.2.1.2.2 hZ d8 ?_
    rw [hcmp h]
    refine lv_iload hx hb d9 (lv_at hl 0 rfl) ?_
    refine lv_i2l hx hb d10 rfl ?_
    refine W.lcmp hx hb d11 ?_
    refine lv_if_eq (tgt := pc + 28) hx hb d12 (by omega) (fun _ => ?_) (fun h9 => absurd lg_cmp_self h9)
    refine lv_goto (tgt := 2116) hx hb d13 hg ?_
    exact hn _ _ _ _ _ _ _ _ _ (hzz.m z hIN) (hcmp h ▸ hZ) hl9
theorem lw_tailZ (C : LC p s m args c b L xs D w wm aS sk sv c1 c2) {kc b1 : Int32} (hIN : INV (i + 5) S Sm) (hzz : INVz INV) (hn : LN p l e s m args below meth c D w wm o1 o2 c1 c2 b INV Q i) (hroom : 203 + (gN S 7 0 + gN Sm 7 0) ≤ 603072 ∧ 3074 + (gN S 3 0 + gN Sm 3 0) ≤ 7219306) (hZ : LQ D w wm o1 o2 c1 c2 s.heap S Sm v1 v2 H locs cells slots) (hth : gI Sm 5 0 0 = kc) (hcmp : kc = 0 → v1 = .long (if b1 = 0 then 0 else 1)) (hl : lv_has ls 9 ((7, .int b1) :: (6, .int kc) :: lawL w wm o1 o2 b i))
    (d0 : decode cL_law pc = .ok (.aload_n 2, 1)) (d1 : decode cL_law (pc + 1) = .ok (.invokevirtual 132, 3)) (d2 : decode cL_law (pc + 4) = .ok (.iload 6, 2)) (d3 : decode cL_law (pc + 6) = .ok (.if_icmp .eq 5, 3)) (d4 : decode cL_law (pc + 11) = .ok (.iload 6, 2)) (d5 : decode cL_law (pc + 13) = .ok (.ifCond .ne 22, 3))
    (d6 : decode cL_law (pc + 16) = .ok (.aload_n 3, 1)) (d7 : decode cL_law (pc + 17) = .ok (.iconst 0, 1)) (d8 : decode cL_law (pc + 18) = .ok (.laload, 1)) (d9 : decode cL_law (pc + 19) = .ok (.iload 7, 2)) (d10 : decode cL_law (pc + 21) = .ok (.ifCond .eq 7, 3)) (d11 : decode cL_law (pc + 24) = .ok (.lconst 1, 1)) (d12 : decode cL_law (pc + 25) = .ok (.goto 4, 3)) (d13 : decode cL_law (pc + 28) = .ok (.lconst 0, 1)) (d14 : decode cL_law (pc + 29) = .ok (.lcmp, 1)) (d15 : decode cL_law (pc + 30) = .ok (.ifCond .eq 5, 3)) {off : Int} (d16 : decode cL_law (pc + 35) = .ok (.goto off, 3)) (hg : ((pc + 35 : Nat) : Int) + off = ((2116 : Nat) : Int)) :
    W p l e room_1 s m args below meth c H locs cells slots Q (F0 m pc ls []) := by
  have hx := C.1.1
  have hb := C.1.2.1
  have hl9 : lv_has ls 9 (lawL w wm o1 o2 b i) := lv_sub hl [2, 3, 4, 5, 6, 7] rfl
  refine lw_thrown C hroom hZ hl.1 hth (lv_at hl 5 rfl) (lv_at hl 1 rfl) d0 d1 d2 d3 d4 (tgt := pc + 35) d5 (by omega) (fun z H locs cells slots h hZ => ?_) (fun z H locs cells slots h hZ => ?_)
  · refine lv_goto (tgt := 2116) hx hb d16 hg ?_
    exact hn _ _ _ _ _ _ _ _ _ (hzz.m z hIN) hZ hl9
  · refine lv_aload_n hx hb d6 rfl (lv_at hl 4 rfl) ?_
    refine lv_iconst (v := (0)) hx hb d7 (by decide +kernel) ?_
    refine lw_lald C.1 C.2.1.2.2 hZ d8 ?_
    rw [hcmp h]
    refine lv_iload hx hb d9 (lv_at hl 0 rfl) ?_
    have kk : ∀ z2 : Int64, z2 = (if b1 = 0 then 0 else 1) → W p l e room_1 s m args below meth c H locs cells slots Q (F0 m (pc + 29) ls [.long z2, .long (if b1 = 0 then 0 else 1)]) := fun z2 hz2 => by
      subst hz2
      refine W.lcmp hx hb d14 ?_
      refine lv_if_eq (tgt := pc + 35) hx hb d15 (by omega) (fun _ => ?_) (fun h9 => absurd lg_cmp_self h9)
      refine lv_goto (tgt := 2116) hx hb d16 hg ?_
      exact hn _ _ _ _ _ _ _ _ _ (hzz.m z hIN) hZ hl9
    refine lv_if_eq (tgt := pc + 28) hx hb d10 (by omega) (fun hc => ?_) (fun hc => ?_)
    · refine lv_lconst (v := (0)) hx hb d13 (by decide +kernel) ?_
      exact kk 0 (if_pos hc).symm
    · refine lv_lconst (v := (1)) hx hb d11 (by decide +kernel) ?_
      refine lv_goto (tgt := pc + 29) hx hb d12 (by omega) ?_
      exact kk 1 (if_neg hc).symm

theorem yd_L_addStation : yL_addStation.cls ≠ "java/lang/invoke/MethodHandle" ∧ yL_addStation.cls ≠ "java/lang/invoke/VarHandle" ∧ (parseMethodDescriptor yL_addStation.desc).map (fun d => d.parameters.length) = some 6 := by decide +kernel
theorem yd_L_supply : yL_supply.cls ≠ "java/lang/invoke/MethodHandle" ∧ yL_supply.cls ≠ "java/lang/invoke/VarHandle" ∧ (parseMethodDescriptor yL_supply.desc).map (fun d => d.parameters.length) = some 4 := by decide +kernel
theorem yd_L_setPeriod : yL_setPeriod.cls ≠ "java/lang/invoke/MethodHandle" ∧ yL_setPeriod.cls ≠ "java/lang/invoke/VarHandle" ∧ (parseMethodDescriptor yL_setPeriod.desc).map (fun d => d.parameters.length) = some 3 := by decide +kernel
theorem yd_L_addCar : yL_addCar.cls ≠ "java/lang/invoke/MethodHandle" ∧ yL_addCar.cls ≠ "java/lang/invoke/VarHandle" ∧ (parseMethodDescriptor yL_addCar.desc).map (fun d => d.parameters.length) = some 3 := by decide +kernel
theorem yd_L_swap : yL_swap.cls ≠ "java/lang/invoke/MethodHandle" ∧ yL_swap.cls ≠ "java/lang/invoke/VarHandle" ∧ (parseMethodDescriptor yL_swap.desc).map (fun d => d.parameters.length) = some 4 := by decide +kernel
theorem yd_L_fault : yL_fault.cls ≠ "java/lang/invoke/MethodHandle" ∧ yL_fault.cls ≠ "java/lang/invoke/VarHandle" ∧ (parseMethodDescriptor yL_fault.desc).map (fun d => d.parameters.length) = some 4 := by decide +kernel
theorem yd_L_tick : yL_tick.cls ≠ "java/lang/invoke/MethodHandle" ∧ yL_tick.cls ≠ "java/lang/invoke/VarHandle" ∧ (parseMethodDescriptor yL_tick.desc).map (fun d => d.parameters.length) = some 3 := by decide +kernel
theorem yd_L_stateOf : yL_stateOf.cls ≠ "java/lang/invoke/MethodHandle" ∧ yL_stateOf.cls ≠ "java/lang/invoke/VarHandle" ∧ (parseMethodDescriptor yL_stateOf.desc).map (fun d => d.parameters.length) = some 3 := by decide +kernel
theorem yd_L_stationOf : yL_stationOf.cls ≠ "java/lang/invoke/MethodHandle" ∧ yL_stationOf.cls ≠ "java/lang/invoke/VarHandle" ∧ (parseMethodDescriptor yL_stationOf.desc).map (fun d => d.parameters.length) = some 3 := by decide +kernel
theorem yd_L_toGo : yL_toGo.cls ≠ "java/lang/invoke/MethodHandle" ∧ yL_toGo.cls ≠ "java/lang/invoke/VarHandle" ∧ (parseMethodDescriptor yL_toGo.desc).map (fun d => d.parameters.length) = some 3 := by decide +kernel
theorem yd_L_carAt : yL_carAt.cls ≠ "java/lang/invoke/MethodHandle" ∧ yL_carAt.cls ≠ "java/lang/invoke/VarHandle" ∧ (parseMethodDescriptor yL_carAt.desc).map (fun d => d.parameters.length) = some 3 := by decide +kernel
theorem yd_L_isBack : yL_isBack.cls ≠ "java/lang/invoke/MethodHandle" ∧ yL_isBack.cls ≠ "java/lang/invoke/VarHandle" ∧ (parseMethodDescriptor yL_isBack.desc).map (fun d => d.parameters.length) = some 3 := by decide +kernel
theorem yd_L_waitingAt : yL_waitingAt.cls ≠ "java/lang/invoke/MethodHandle" ∧ yL_waitingAt.cls ≠ "java/lang/invoke/VarHandle" ∧ (parseMethodDescriptor yL_waitingAt.desc).map (fun d => d.parameters.length) = some 3 := by decide +kernel
theorem yd_L_loopedAt : yL_loopedAt.cls ≠ "java/lang/invoke/MethodHandle" ∧ yL_loopedAt.cls ≠ "java/lang/invoke/VarHandle" ∧ (parseMethodDescriptor yL_loopedAt.desc).map (fun d => d.parameters.length) = some 3 := by decide +kernel
theorem yd_L_leftAt : yL_leftAt.cls ≠ "java/lang/invoke/MethodHandle" ∧ yL_leftAt.cls ≠ "java/lang/invoke/VarHandle" ∧ (parseMethodDescriptor yL_leftAt.desc).map (fun d => d.parameters.length) = some 3 := by decide +kernel
theorem yd_L_leftIn : yL_leftIn.cls ≠ "java/lang/invoke/MethodHandle" ∧ yL_leftIn.cls ≠ "java/lang/invoke/VarHandle" ∧ (parseMethodDescriptor yL_leftIn.desc).map (fun d => d.parameters.length) = some 3 := by decide +kernel
theorem yd_L_faults : yL_faults.cls ≠ "java/lang/invoke/MethodHandle" ∧ yL_faults.cls ≠ "java/lang/invoke/VarHandle" ∧ (parseMethodDescriptor yL_faults.desc).map (fun d => d.parameters.length) = some 3 := by decide +kernel
theorem yd_L_hasFault : yL_hasFault.cls ≠ "java/lang/invoke/MethodHandle" ∧ yL_hasFault.cls ≠ "java/lang/invoke/VarHandle" ∧ (parseMethodDescriptor yL_hasFault.desc).map (fun d => d.parameters.length) = some 4 := by decide +kernel
theorem yd_L_lacks : yL_lacks.cls ≠ "java/lang/invoke/MethodHandle" ∧ yL_lacks.cls ≠ "java/lang/invoke/VarHandle" ∧ (parseMethodDescriptor yL_lacks.desc).map (fun d => d.parameters.length) = some 3 := by decide +kernel
theorem yd_L_lacksOf : yL_lacksOf.cls ≠ "java/lang/invoke/MethodHandle" ∧ yL_lacksOf.cls ≠ "java/lang/invoke/VarHandle" ∧ (parseMethodDescriptor yL_lacksOf.desc).map (fun d => d.parameters.length) = some 3 := by decide +kernel
theorem yd_L_onShelf : yL_onShelf.cls ≠ "java/lang/invoke/MethodHandle" ∧ yL_onShelf.cls ≠ "java/lang/invoke/VarHandle" ∧ (parseMethodDescriptor yL_onShelf.desc).map (fun d => d.parameters.length) = some 3 := by decide +kernel
theorem yd_L_inStore : yL_inStore.cls ≠ "java/lang/invoke/MethodHandle" ∧ yL_inStore.cls ≠ "java/lang/invoke/VarHandle" ∧ (parseMethodDescriptor yL_inStore.desc).map (fun d => d.parameters.length) = some 3 := by decide +kernel
theorem yd_L_leavesIn : yL_leavesIn.cls ≠ "java/lang/invoke/MethodHandle" ∧ yL_leavesIn.cls ≠ "java/lang/invoke/VarHandle" ∧ (parseMethodDescriptor yL_leavesIn.desc).map (fun d => d.parameters.length) = some 3 := by decide +kernel
theorem yd_L_leavesByTicks : yL_leavesByTicks.cls ≠ "java/lang/invoke/MethodHandle" ∧ yL_leavesByTicks.cls ≠ "java/lang/invoke/VarHandle" ∧ (parseMethodDescriptor yL_leavesByTicks.desc).map (fun d => d.parameters.length) = some 3 := by decide +kernel
theorem yd_L_nextToLeave : yL_nextToLeave.cls ≠ "java/lang/invoke/MethodHandle" ∧ yL_nextToLeave.cls ≠ "java/lang/invoke/VarHandle" ∧ (parseMethodDescriptor yL_nextToLeave.desc).map (fun d => d.parameters.length) = some 2 := by decide +kernel
theorem yd_L_traceLength : yL_traceLength.cls ≠ "java/lang/invoke/MethodHandle" ∧ yL_traceLength.cls ≠ "java/lang/invoke/VarHandle" ∧ (parseMethodDescriptor yL_traceLength.desc).map (fun d => d.parameters.length) = some 3 := by decide +kernel
theorem yd_L_traceAt : yL_traceAt.cls ≠ "java/lang/invoke/MethodHandle" ∧ yL_traceAt.cls ≠ "java/lang/invoke/VarHandle" ∧ (parseMethodDescriptor yL_traceAt.desc).map (fun d => d.parameters.length) = some 4 := by decide +kernel
theorem yd_L_countOf : yL_countOf.cls ≠ "java/lang/invoke/MethodHandle" ∧ yL_countOf.cls ≠ "java/lang/invoke/VarHandle" ∧ (parseMethodDescriptor yL_countOf.desc).map (fun d => d.parameters.length) = some 3 := by decide +kernel
theorem yd_L_lackShare : yL_lackShare.cls ≠ "java/lang/invoke/MethodHandle" ∧ yL_lackShare.cls ≠ "java/lang/invoke/VarHandle" ∧ (parseMethodDescriptor yL_lackShare.desc).map (fun d => d.parameters.length) = some 2 := by decide +kernel
theorem yd_L_meanTime : yL_meanTime.cls ≠ "java/lang/invoke/MethodHandle" ∧ yL_meanTime.cls ≠ "java/lang/invoke/VarHandle" ∧ (parseMethodDescriptor yL_meanTime.desc).map (fun d => d.parameters.length) = some 2 := by decide +kernel
set_option maxHeartbeats 4000000 in
set_option maxRecDepth 100000 in
theorem lc_addStation (hfl : l.stackTraces = false) (C : LC p s m args c b L xs D w wm aS sk sv c1 c2) (hi : i + 5 ≤ L) (hzz : INVz INV) (ag : agW INV i (f_X5_addStation 0 (xs (i + 1)) (xs (i + 2)) (xs (i + 3)) (xs (i + 4))) (f_X6_addStation (xs (i + 1)) (xs (i + 2)) (xs (i + 3)) (xs (i + 4))) (exCode [("java/lang/IllegalArgumentException", 1), ("java/lang/IllegalStateException", 2)]) ["java/lang/IllegalArgumentException", "java/lang/IllegalStateException"] (fun r q => r = q)) (hI : INV i S Sm) (hZ : LQ D w wm o1 o2 c1 c2 s.heap S Sm v1 v2 H locs cells slots) (hl : lv_has ls 9 (lawL w wm o1 o2 b i)) (hn : LN p l e s m args below meth c D w wm o1 o2 c1 c2 b INV Q i) : W p l e room_1 s m args below meth c H locs cells slots Q (F0 m 212 ls []) := by
  obtain ⟨E, hf, hex, hrm, hrest⟩ := ag.use hzz hI H.size
  have hx := C.1.1
  have hb := C.1.2.1
  refine lv_aload_n hx hb dL_law_212 rfl (lv_at hl 4 rfl) ?_
  refine lw_arg C hZ (j := 1) (jn := 1) rfl (by omega) (lv_at hl 5 rfl) (lv_at hl 0 rfl) dL_law_213 dL_law_214 dL_law_216 dL_law_217 dL_law_218 ?_
  refine lw_arg C hZ (j := 2) (jn := 2) rfl (by omega) (lv_at hl 5 rfl) (lv_at hl 0 rfl) dL_law_219 dL_law_220 dL_law_222 dL_law_223 dL_law_224 ?_
  refine lw_arg C hZ (j := 3) (jn := 3) rfl (by omega) (lv_at hl 5 rfl) (lv_at hl 0 rfl) dL_law_225 dL_law_226 dL_law_228 dL_law_229 dL_law_230 ?_
  refine lw_arg C hZ (j := 4) (jn := 4) rfl (by omega) (lv_at hl 5 rfl) (lv_at hl 0 rfl) dL_law_231 dL_law_232 dL_law_234 dL_law_235 dL_law_236 ?_
  refine lv_aload_n hx hb dL_law_237 rfl (lv_at hl 2 rfl) ?_
  refine lw_W (As := [.ref (w.2.2.2.2 0), .int (xs (i + 1)), .int (xs (i + 2)), .int (xs (i + 3)), .int (xs (i + 4)), .ref o1]) (rest := []) C.1 (EO := fun A => ENVO D w aS sk sv A c1 .long) C.2.1 (fun A => ENVO.ok) (fun A B U h1 h2 => h1.narrow h2) (fun A => c_L_addStation l hfl D w aS sk sv A o1 c1 (xs (i + 1)) (xs (i + 2)) (xs (i + 3)) (xs (i + 4))) hf hex q297 q298 q39 q299 yd_L_addStation ⟨by decide, by decide⟩ hrm hZ hl.1 rfl (by simp) dL_law_238 (fun k v H1 locs1 cells1 slots1 hk hZ1 => ?_)
  refine W.eq (g2 := F0 m 241 ls [.int k]) rfl ?_
  refine lv_istore (lv' := (6, .int k) :: lawL w wm o1 o2 b i) hx hb dL_law_241 hl (by decide) rfl (fun ls hl => ?_)
  obtain ⟨Em, hg, hm, hrm2, hI2⟩ := hrest H1.size
  refine lv_aload_n hx hb dL_law_243 rfl (lv_at hl 4 rfl) ?_
  refine lw_arg C hZ1 (j := 1) (jn := 1) rfl (by omega) (lv_at hl 6 rfl) (lv_at hl 1 rfl) dL_law_244 dL_law_245 dL_law_247 dL_law_248 dL_law_249 ?_
  refine lw_arg C hZ1 (j := 2) (jn := 2) rfl (by omega) (lv_at hl 6 rfl) (lv_at hl 1 rfl) dL_law_250 dL_law_251 dL_law_253 dL_law_254 dL_law_255 ?_
  refine lw_arg C hZ1 (j := 3) (jn := 3) rfl (by omega) (lv_at hl 6 rfl) (lv_at hl 1 rfl) dL_law_256 dL_law_257 dL_law_259 dL_law_260 dL_law_261 ?_
  refine lw_arg C hZ1 (j := 4) (jn := 4) rfl (by omega) (lv_at hl 6 rfl) (lv_at hl 1 rfl) dL_law_262 dL_law_263 dL_law_265 dL_law_266 dL_law_267 ?_
  refine lw_M (As := [.int (xs (i + 1)), .int (xs (i + 2)), .int (xs (i + 3)), .int (xs (i + 4))]) (rest := []) C.1 C.2.2.2.1 (fun A => c_X6_addStation l D wm A (xs (i + 1)) (xs (i + 2)) (xs (i + 3)) (xs (i + 4))) hg q1135 q1136 q1137 q46 q1138 yd_X6_addStation ⟨by decide, by decide⟩ hrm2 hZ1 hl.1 rfl (by simp) dL_law_268 (fun H2 locs2 cells2 slots2 hZ2 => ?_)
  refine W.eq (g2 := F0 m 271 ls [.int Em.1]) rfl ?_
  refine lv_istore (lv' := (7, .int Em.1) :: (6, .int k) :: lawL w wm o1 o2 b i) hx hb dL_law_271 hl (by decide) rfl (fun ls hl => ?_)
  obtain ⟨hth, hcmp⟩ := agW.tail (conv := (fun r : Int32 => .long r.toInt64)) (by decide +kernel) hex hk hm
  exact lw_tailI C hI2 hzz hn hrm2 hZ2 hth (fun h => by obtain ⟨r, h1, h2⟩ := hcmp h; rw [h1, h2]) hl dL_law_273 dL_law_274 dL_law_277 dL_law_279 dL_law_284 dL_law_286 dL_law_289 dL_law_290 dL_law_291 dL_law_292 dL_law_294 dL_law_295 dL_law_296 dL_law_301 (by decide)
set_option maxHeartbeats 4000000 in
set_option maxRecDepth 100000 in
theorem lc_supply (hfl : l.stackTraces = false) (C : LC p s m args c b L xs D w wm aS sk sv c1 c2) (hi : i + 5 ≤ L) (hzz : INVz INV) (ag : agW INV i (f_X5_supply 0 (xs (i + 1)) (xs (i + 2))) (f_X6_supply (xs (i + 1)) (xs (i + 2))) (exCode [("java/util/NoSuchElementException", 1), ("java/lang/IllegalArgumentException", 2), ("java/lang/IllegalStateException", 3)]) ["java/util/NoSuchElementException", "java/lang/IllegalArgumentException", "java/lang/IllegalStateException"] (fun r q => r = q)) (hI : INV i S Sm) (hZ : LQ D w wm o1 o2 c1 c2 s.heap S Sm v1 v2 H locs cells slots) (hl : lv_has ls 9 (lawL w wm o1 o2 b i)) (hn : LN p l e s m args below meth c D w wm o1 o2 c1 c2 b INV Q i) : W p l e room_1 s m args below meth c H locs cells slots Q (F0 m 304 ls []) := by
  obtain ⟨E, hf, hex, hrm, hrest⟩ := ag.use hzz hI H.size
  have hx := C.1.1
  have hb := C.1.2.1
  refine lv_aload_n hx hb dL_law_304 rfl (lv_at hl 4 rfl) ?_
  refine lw_arg C hZ (j := 1) (jn := 1) rfl (by omega) (lv_at hl 5 rfl) (lv_at hl 0 rfl) dL_law_305 dL_law_306 dL_law_308 dL_law_309 dL_law_310 ?_
  refine lw_arg C hZ (j := 2) (jn := 2) rfl (by omega) (lv_at hl 5 rfl) (lv_at hl 0 rfl) dL_law_311 dL_law_312 dL_law_314 dL_law_315 dL_law_316 ?_
  refine lv_aload_n hx hb dL_law_317 rfl (lv_at hl 2 rfl) ?_
  refine lw_W (As := [.ref (w.2.2.2.2 0), .int (xs (i + 1)), .int (xs (i + 2)), .ref o1]) (rest := []) C.1 (EO := fun A => ENVO D w aS sk sv A c1 .long) C.2.1 (fun A => ENVO.ok) (fun A B U h1 h2 => h1.narrow h2) (fun A => c_L_supply l hfl D w aS sk sv A o1 c1 (xs (i + 1)) (xs (i + 2))) hf hex q407 q408 q39 q409 yd_L_supply ⟨by decide, by decide⟩ hrm hZ hl.1 rfl (by simp) dL_law_318 (fun k v H1 locs1 cells1 slots1 hk hZ1 => ?_)
  refine W.eq (g2 := F0 m 321 ls [.int k]) rfl ?_
  refine lv_istore (lv' := (6, .int k) :: lawL w wm o1 o2 b i) hx hb dL_law_321 hl (by decide) rfl (fun ls hl => ?_)
  obtain ⟨Em, hg, hm, hrm2, hI2⟩ := hrest H1.size
  refine lv_aload_n hx hb dL_law_323 rfl (lv_at hl 4 rfl) ?_
  refine lw_arg C hZ1 (j := 1) (jn := 1) rfl (by omega) (lv_at hl 6 rfl) (lv_at hl 1 rfl) dL_law_324 dL_law_325 dL_law_327 dL_law_328 dL_law_329 ?_
  refine lw_arg C hZ1 (j := 2) (jn := 2) rfl (by omega) (lv_at hl 6 rfl) (lv_at hl 1 rfl) dL_law_330 dL_law_331 dL_law_333 dL_law_334 dL_law_335 ?_
  refine lw_M (As := [.int (xs (i + 1)), .int (xs (i + 2))]) (rest := []) C.1 C.2.2.2.1 (fun A => c_X6_supply l D wm A (xs (i + 1)) (xs (i + 2))) hg q1147 q1148 q1149 q46 q1150 yd_X6_supply ⟨by decide, by decide⟩ hrm2 hZ1 hl.1 rfl (by simp) dL_law_336 (fun H2 locs2 cells2 slots2 hZ2 => ?_)
  refine W.eq (g2 := F0 m 339 ls [.int Em.1]) rfl ?_
  refine lv_istore (lv' := (7, .int Em.1) :: (6, .int k) :: lawL w wm o1 o2 b i) hx hb dL_law_339 hl (by decide) rfl (fun ls hl => ?_)
  obtain ⟨hth, hcmp⟩ := agW.tail (conv := (fun r : Int32 => .long r.toInt64)) (by decide +kernel) hex hk hm
  exact lw_tailI C hI2 hzz hn hrm2 hZ2 hth (fun h => by obtain ⟨r, h1, h2⟩ := hcmp h; rw [h1, h2]) hl dL_law_341 dL_law_342 dL_law_345 dL_law_347 dL_law_352 dL_law_354 dL_law_357 dL_law_358 dL_law_359 dL_law_360 dL_law_362 dL_law_363 dL_law_364 dL_law_369 (by decide)
set_option maxHeartbeats 4000000 in
set_option maxRecDepth 100000 in
theorem lc_setPeriod (hfl : l.stackTraces = false) (C : LC p s m args c b L xs D w wm aS sk sv c1 c2) (hi : i + 5 ≤ L) (hzz : INVz INV) (ag : agW INV i (f_X5_setPeriod 0 (xs (i + 1))) (f_X6_setPeriod (xs (i + 1))) (exCode [("java/lang/IllegalArgumentException", 1)]) ["java/lang/IllegalArgumentException"] (fun r q => r = q)) (hI : INV i S Sm) (hZ : LQ D w wm o1 o2 c1 c2 s.heap S Sm v1 v2 H locs cells slots) (hl : lv_has ls 9 (lawL w wm o1 o2 b i)) (hn : LN p l e s m args below meth c D w wm o1 o2 c1 c2 b INV Q i) : W p l e room_1 s m args below meth c H locs cells slots Q (F0 m 372 ls []) := by
  obtain ⟨E, hf, hex, hrm, hrest⟩ := ag.use hzz hI H.size
  have hx := C.1.1
  have hb := C.1.2.1
  refine lv_aload_n hx hb dL_law_372 rfl (lv_at hl 4 rfl) ?_
  refine lw_arg C hZ (j := 1) (jn := 1) rfl (by omega) (lv_at hl 5 rfl) (lv_at hl 0 rfl) dL_law_373 dL_law_374 dL_law_376 dL_law_377 dL_law_378 ?_
  refine lv_aload_n hx hb dL_law_379 rfl (lv_at hl 2 rfl) ?_
  refine lw_W (As := [.ref (w.2.2.2.2 0), .int (xs (i + 1)), .ref o1]) (rest := []) C.1 (EO := fun A => ENVO D w aS sk sv A c1 .long) C.2.1 (fun A => ENVO.ok) (fun A B U h1 h2 => h1.narrow h2) (fun A => c_L_setPeriod l hfl D w aS sk sv A o1 c1 (xs (i + 1))) hf hex q444 q445 q39 q446 yd_L_setPeriod ⟨by decide, by decide⟩ hrm hZ hl.1 rfl (by simp) dL_law_380 (fun k v H1 locs1 cells1 slots1 hk hZ1 => ?_)
  refine W.eq (g2 := F0 m 383 ls [.int k]) rfl ?_
  refine lv_istore (lv' := (6, .int k) :: lawL w wm o1 o2 b i) hx hb dL_law_383 hl (by decide) rfl (fun ls hl => ?_)
  obtain ⟨Em, hg, hm, hrm2, hI2⟩ := hrest H1.size
  refine lv_aload_n hx hb dL_law_385 rfl (lv_at hl 4 rfl) ?_
  refine lw_arg C hZ1 (j := 1) (jn := 1) rfl (by omega) (lv_at hl 6 rfl) (lv_at hl 1 rfl) dL_law_386 dL_law_387 dL_law_389 dL_law_390 dL_law_391 ?_
  refine lw_M (As := [.int (xs (i + 1))]) (rest := []) C.1 C.2.2.2.1 (fun A => c_X6_setPeriod l D wm A (xs (i + 1))) hg q1155 q1156 q1157 q46 q1158 yd_X6_setPeriod ⟨by decide, by decide⟩ hrm2 hZ1 hl.1 rfl (by simp) dL_law_392 (fun H2 locs2 cells2 slots2 hZ2 => ?_)
  refine W.eq (g2 := F0 m 395 ls [.int Em.1]) rfl ?_
  refine lv_istore (lv' := (7, .int Em.1) :: (6, .int k) :: lawL w wm o1 o2 b i) hx hb dL_law_395 hl (by decide) rfl (fun ls hl => ?_)
  obtain ⟨hth, hcmp⟩ := agW.tail (conv := (fun r : Int32 => .long r.toInt64)) (by decide +kernel) hex hk hm
  exact lw_tailI C hI2 hzz hn hrm2 hZ2 hth (fun h => by obtain ⟨r, h1, h2⟩ := hcmp h; rw [h1, h2]) hl dL_law_397 dL_law_398 dL_law_401 dL_law_403 dL_law_408 dL_law_410 dL_law_413 dL_law_414 dL_law_415 dL_law_416 dL_law_418 dL_law_419 dL_law_420 dL_law_425 (by decide)
set_option maxHeartbeats 4000000 in
set_option maxRecDepth 100000 in
theorem lc_addCar (hfl : l.stackTraces = false) (C : LC p s m args c b L xs D w wm aS sk sv c1 c2) (hi : i + 5 ≤ L) (hzz : INVz INV) (ag : agW INV i (f_X5_addCar 0 (xs (i + 1))) (f_X6_addCar (xs (i + 1))) (exCode [("java/lang/IllegalArgumentException", 1), ("java/lang/IllegalStateException", 2)]) ["java/lang/IllegalArgumentException", "java/lang/IllegalStateException"] (fun r q => r = q)) (hI : INV i S Sm) (hZ : LQ D w wm o1 o2 c1 c2 s.heap S Sm v1 v2 H locs cells slots) (hl : lv_has ls 9 (lawL w wm o1 o2 b i)) (hn : LN p l e s m args below meth c D w wm o1 o2 c1 c2 b INV Q i) : W p l e room_1 s m args below meth c H locs cells slots Q (F0 m 428 ls []) := by
  obtain ⟨E, hf, hex, hrm, hrest⟩ := ag.use hzz hI H.size
  have hx := C.1.1
  have hb := C.1.2.1
  refine lv_aload_n hx hb dL_law_428 rfl (lv_at hl 4 rfl) ?_
  refine lw_arg C hZ (j := 1) (jn := 1) rfl (by omega) (lv_at hl 5 rfl) (lv_at hl 0 rfl) dL_law_429 dL_law_430 dL_law_432 dL_law_433 dL_law_434 ?_
  refine lv_aload_n hx hb dL_law_435 rfl (lv_at hl 2 rfl) ?_
  refine lw_W (As := [.ref (w.2.2.2.2 0), .int (xs (i + 1)), .ref o1]) (rest := []) C.1 (EO := fun A => ENVO D w aS sk sv A c1 .long) C.2.1 (fun A => ENVO.ok) (fun A B U h1 h2 => h1.narrow h2) (fun A => c_L_addCar l hfl D w aS sk sv A o1 c1 (xs (i + 1))) hf hex q452 q453 q39 q454 yd_L_addCar ⟨by decide, by decide⟩ hrm hZ hl.1 rfl (by simp) dL_law_436 (fun k v H1 locs1 cells1 slots1 hk hZ1 => ?_)
  refine W.eq (g2 := F0 m 439 ls [.int k]) rfl ?_
  refine lv_istore (lv' := (6, .int k) :: lawL w wm o1 o2 b i) hx hb dL_law_439 hl (by decide) rfl (fun ls hl => ?_)
  obtain ⟨Em, hg, hm, hrm2, hI2⟩ := hrest H1.size
  refine lv_aload_n hx hb dL_law_441 rfl (lv_at hl 4 rfl) ?_
  refine lw_arg C hZ1 (j := 1) (jn := 1) rfl (by omega) (lv_at hl 6 rfl) (lv_at hl 1 rfl) dL_law_442 dL_law_443 dL_law_445 dL_law_446 dL_law_447 ?_
  refine lw_M (As := [.int (xs (i + 1))]) (rest := []) C.1 C.2.2.2.1 (fun A => c_X6_addCar l D wm A (xs (i + 1))) hg q1160 q1161 q1162 q46 q1163 yd_X6_addCar ⟨by decide, by decide⟩ hrm2 hZ1 hl.1 rfl (by simp) dL_law_448 (fun H2 locs2 cells2 slots2 hZ2 => ?_)
  refine W.eq (g2 := F0 m 451 ls [.int Em.1]) rfl ?_
  refine lv_istore (lv' := (7, .int Em.1) :: (6, .int k) :: lawL w wm o1 o2 b i) hx hb dL_law_451 hl (by decide) rfl (fun ls hl => ?_)
  obtain ⟨hth, hcmp⟩ := agW.tail (conv := (fun r : Int32 => .long r.toInt64)) (by decide +kernel) hex hk hm
  exact lw_tailI C hI2 hzz hn hrm2 hZ2 hth (fun h => by obtain ⟨r, h1, h2⟩ := hcmp h; rw [h1, h2]) hl dL_law_453 dL_law_454 dL_law_457 dL_law_459 dL_law_464 dL_law_466 dL_law_469 dL_law_470 dL_law_471 dL_law_472 dL_law_474 dL_law_475 dL_law_476 dL_law_481 (by decide)
set_option maxHeartbeats 4000000 in
set_option maxRecDepth 100000 in
theorem lc_swap (hfl : l.stackTraces = false) (C : LC p s m args c b L xs D w wm aS sk sv c1 c2) (hi : i + 5 ≤ L) (hzz : INVz INV) (ag : agW INV i (f_X5_swap 0 (xs (i + 1)) (xs (i + 2))) (f_X6_swap (xs (i + 1)) (xs (i + 2))) (exCode [("java/util/NoSuchElementException", 1), ("java/lang/IllegalArgumentException", 2), ("java/lang/IllegalStateException", 3)]) ["java/util/NoSuchElementException", "java/lang/IllegalArgumentException", "java/lang/IllegalStateException"] (fun r q => r = q)) (hI : INV i S Sm) (hZ : LQ D w wm o1 o2 c1 c2 s.heap S Sm v1 v2 H locs cells slots) (hl : lv_has ls 9 (lawL w wm o1 o2 b i)) (hn : LN p l e s m args below meth c D w wm o1 o2 c1 c2 b INV Q i) : W p l e room_1 s m args below meth c H locs cells slots Q (F0 m 484 ls []) := by
  obtain ⟨E, hf, hex, hrm, hrest⟩ := ag.use hzz hI H.size
  have hx := C.1.1
  have hb := C.1.2.1
  refine lv_aload_n hx hb dL_law_484 rfl (lv_at hl 4 rfl) ?_
  refine lw_arg C hZ (j := 1) (jn := 1) rfl (by omega) (lv_at hl 5 rfl) (lv_at hl 0 rfl) dL_law_485 dL_law_486 dL_law_488 dL_law_489 dL_law_490 ?_
  refine lw_arg C hZ (j := 2) (jn := 2) rfl (by omega) (lv_at hl 5 rfl) (lv_at hl 0 rfl) dL_law_491 dL_law_492 dL_law_494 dL_law_495 dL_law_496 ?_
  refine lv_aload_n hx hb dL_law_497 rfl (lv_at hl 2 rfl) ?_
  refine lw_W (As := [.ref (w.2.2.2.2 0), .int (xs (i + 1)), .int (xs (i + 2)), .ref o1]) (rest := []) C.1 (EO := fun A => ENVO D w aS sk sv A c1 .long) C.2.1 (fun A => ENVO.ok) (fun A B U h1 h2 => h1.narrow h2) (fun A => c_L_swap l hfl D w aS sk sv A o1 c1 (xs (i + 1)) (xs (i + 2))) hf hex q473 q474 q39 q475 yd_L_swap ⟨by decide, by decide⟩ hrm hZ hl.1 rfl (by simp) dL_law_498 (fun k v H1 locs1 cells1 slots1 hk hZ1 => ?_)
  refine W.eq (g2 := F0 m 501 ls [.int k]) rfl ?_
  refine lv_istore (lv' := (6, .int k) :: lawL w wm o1 o2 b i) hx hb dL_law_501 hl (by decide) rfl (fun ls hl => ?_)
  obtain ⟨Em, hg, hm, hrm2, hI2⟩ := hrest H1.size
  refine lv_aload_n hx hb dL_law_503 rfl (lv_at hl 4 rfl) ?_
  refine lw_arg C hZ1 (j := 1) (jn := 1) rfl (by omega) (lv_at hl 6 rfl) (lv_at hl 1 rfl) dL_law_504 dL_law_505 dL_law_507 dL_law_508 dL_law_509 ?_
  refine lw_arg C hZ1 (j := 2) (jn := 2) rfl (by omega) (lv_at hl 6 rfl) (lv_at hl 1 rfl) dL_law_510 dL_law_511 dL_law_513 dL_law_514 dL_law_515 ?_
  refine lw_M (As := [.int (xs (i + 1)), .int (xs (i + 2))]) (rest := []) C.1 C.2.2.2.1 (fun A => c_X6_swap l D wm A (xs (i + 1)) (xs (i + 2))) hg q1165 q1166 q1167 q46 q1168 yd_X6_swap ⟨by decide, by decide⟩ hrm2 hZ1 hl.1 rfl (by simp) dL_law_516 (fun H2 locs2 cells2 slots2 hZ2 => ?_)
  refine W.eq (g2 := F0 m 519 ls [.int Em.1]) rfl ?_
  refine lv_istore (lv' := (7, .int Em.1) :: (6, .int k) :: lawL w wm o1 o2 b i) hx hb dL_law_519 hl (by decide) rfl (fun ls hl => ?_)
  obtain ⟨hth, hcmp⟩ := agW.tail (conv := (fun r : Int32 => .long r.toInt64)) (by decide +kernel) hex hk hm
  exact lw_tailI C hI2 hzz hn hrm2 hZ2 hth (fun h => by obtain ⟨r, h1, h2⟩ := hcmp h; rw [h1, h2]) hl dL_law_521 dL_law_522 dL_law_525 dL_law_527 dL_law_532 dL_law_534 dL_law_537 dL_law_538 dL_law_539 dL_law_540 dL_law_542 dL_law_543 dL_law_544 dL_law_549 (by decide)
set_option maxHeartbeats 4000000 in
set_option maxRecDepth 100000 in
theorem lc_fault (hfl : l.stackTraces = false) (C : LC p s m args c b L xs D w wm aS sk sv c1 c2) (hi : i + 5 ≤ L) (hzz : INVz INV) (ag : agW INV i (f_X5_fault 0 (xs (i + 1)) (xs (i + 2))) (f_X6_fault (xs (i + 1)) (xs (i + 2))) (exCode [("java/util/NoSuchElementException", 1), ("java/lang/IllegalStateException", 2), ("java/lang/UnsupportedOperationException", 3)]) ["java/util/NoSuchElementException", "java/lang/IllegalStateException", "java/lang/UnsupportedOperationException"] (fun r q => r = q)) (hI : INV i S Sm) (hZ : LQ D w wm o1 o2 c1 c2 s.heap S Sm v1 v2 H locs cells slots) (hl : lv_has ls 9 (lawL w wm o1 o2 b i)) (hn : LN p l e s m args below meth c D w wm o1 o2 c1 c2 b INV Q i) : W p l e room_1 s m args below meth c H locs cells slots Q (F0 m 552 ls []) := by
  obtain ⟨E, hf, hex, hrm, hrest⟩ := ag.use hzz hI H.size
  have hx := C.1.1
  have hb := C.1.2.1
  refine lv_aload_n hx hb dL_law_552 rfl (lv_at hl 4 rfl) ?_
  refine lw_arg C hZ (j := 1) (jn := 1) rfl (by omega) (lv_at hl 5 rfl) (lv_at hl 0 rfl) dL_law_553 dL_law_554 dL_law_556 dL_law_557 dL_law_558 ?_
  refine lw_arg C hZ (j := 2) (jn := 2) rfl (by omega) (lv_at hl 5 rfl) (lv_at hl 0 rfl) dL_law_559 dL_law_560 dL_law_562 dL_law_563 dL_law_564 ?_
  refine lv_aload_n hx hb dL_law_565 rfl (lv_at hl 2 rfl) ?_
  refine lw_W (As := [.ref (w.2.2.2.2 0), .int (xs (i + 1)), .int (xs (i + 2)), .ref o1]) (rest := []) C.1 (EO := fun A => ENVO D w aS sk sv A c1 .long) C.2.1 (fun A => ENVO.ok) (fun A B U h1 h2 => h1.narrow h2) (fun A => c_L_fault l hfl D w aS sk sv A o1 c1 (xs (i + 1)) (xs (i + 2))) hf hex q504 q505 q39 q506 yd_L_fault ⟨by decide, by decide⟩ hrm hZ hl.1 rfl (by simp) dL_law_566 (fun k v H1 locs1 cells1 slots1 hk hZ1 => ?_)
  refine W.eq (g2 := F0 m 569 ls [.int k]) rfl ?_
  refine lv_istore (lv' := (6, .int k) :: lawL w wm o1 o2 b i) hx hb dL_law_569 hl (by decide) rfl (fun ls hl => ?_)
  obtain ⟨Em, hg, hm, hrm2, hI2⟩ := hrest H1.size
  refine lv_aload_n hx hb dL_law_571 rfl (lv_at hl 4 rfl) ?_
  refine lw_arg C hZ1 (j := 1) (jn := 1) rfl (by omega) (lv_at hl 6 rfl) (lv_at hl 1 rfl) dL_law_572 dL_law_573 dL_law_575 dL_law_576 dL_law_577 ?_
  refine lw_arg C hZ1 (j := 2) (jn := 2) rfl (by omega) (lv_at hl 6 rfl) (lv_at hl 1 rfl) dL_law_578 dL_law_579 dL_law_581 dL_law_582 dL_law_583 ?_
  refine lw_M (As := [.int (xs (i + 1)), .int (xs (i + 2))]) (rest := []) C.1 C.2.2.2.1 (fun A => c_X6_fault l D wm A (xs (i + 1)) (xs (i + 2))) hg q1177 q1178 q1179 q46 q1180 yd_X6_fault ⟨by decide, by decide⟩ hrm2 hZ1 hl.1 rfl (by simp) dL_law_584 (fun H2 locs2 cells2 slots2 hZ2 => ?_)
  refine W.eq (g2 := F0 m 587 ls [.int Em.1]) rfl ?_
  refine lv_istore (lv' := (7, .int Em.1) :: (6, .int k) :: lawL w wm o1 o2 b i) hx hb dL_law_587 hl (by decide) rfl (fun ls hl => ?_)
  obtain ⟨hth, hcmp⟩ := agW.tail (conv := (fun r : Int32 => .long r.toInt64)) (by decide +kernel) hex hk hm
  exact lw_tailI C hI2 hzz hn hrm2 hZ2 hth (fun h => by obtain ⟨r, h1, h2⟩ := hcmp h; rw [h1, h2]) hl dL_law_589 dL_law_590 dL_law_593 dL_law_595 dL_law_600 dL_law_602 dL_law_605 dL_law_606 dL_law_607 dL_law_608 dL_law_610 dL_law_611 dL_law_612 dL_law_617 (by decide)
set_option maxHeartbeats 4000000 in
set_option maxRecDepth 100000 in
theorem lc_tick (hfl : l.stackTraces = false) (C : LC p s m args c b L xs D w wm aS sk sv c1 c2) (hi : i + 5 ≤ L) (hzz : INVz INV) (ag : agW INV i (f_X5_tick 0 (xs (i + 1))) (f_X6_tick (xs (i + 1))) (exCode [("java/lang/IllegalArgumentException", 1), ("java/lang/IllegalStateException", 2)]) ["java/lang/IllegalArgumentException", "java/lang/IllegalStateException"] (fun r q => r = q)) (hI : INV i S Sm) (hZ : LQ D w wm o1 o2 c1 c2 s.heap S Sm v1 v2 H locs cells slots) (hl : lv_has ls 9 (lawL w wm o1 o2 b i)) (hn : LN p l e s m args below meth c D w wm o1 o2 c1 c2 b INV Q i) : W p l e room_1 s m args below meth c H locs cells slots Q (F0 m 620 ls []) := by
  obtain ⟨E, hf, hex, hrm, hrest⟩ := ag.use hzz hI H.size
  have hx := C.1.1
  have hb := C.1.2.1
  refine lv_aload_n hx hb dL_law_620 rfl (lv_at hl 4 rfl) ?_
  refine lw_arg C hZ (j := 1) (jn := 1) rfl (by omega) (lv_at hl 5 rfl) (lv_at hl 0 rfl) dL_law_621 dL_law_622 dL_law_624 dL_law_625 dL_law_626 ?_
  refine lv_aload_n hx hb dL_law_627 rfl (lv_at hl 2 rfl) ?_
  refine lw_W (As := [.ref (w.2.2.2.2 0), .int (xs (i + 1)), .ref o1]) (rest := []) C.1 (EO := fun A => ENVO D w aS sk sv A c1 .long) C.2.1 (fun A => ENVO.ok) (fun A B U h1 h2 => h1.narrow h2) (fun A => c_L_tick l hfl D w aS sk sv A o1 c1 (xs (i + 1))) hf hex q556 q557 q39 q558 yd_L_tick ⟨by decide, by decide⟩ hrm hZ hl.1 rfl (by simp) dL_law_628 (fun k v H1 locs1 cells1 slots1 hk hZ1 => ?_)
  refine W.eq (g2 := F0 m 631 ls [.int k]) rfl ?_
  refine lv_istore (lv' := (6, .int k) :: lawL w wm o1 o2 b i) hx hb dL_law_631 hl (by decide) rfl (fun ls hl => ?_)
  obtain ⟨Em, hg, hm, hrm2, hI2⟩ := hrest H1.size
  refine lv_aload_n hx hb dL_law_633 rfl (lv_at hl 4 rfl) ?_
  refine lw_arg C hZ1 (j := 1) (jn := 1) rfl (by omega) (lv_at hl 6 rfl) (lv_at hl 1 rfl) dL_law_634 dL_law_635 dL_law_637 dL_law_638 dL_law_639 ?_
  refine lw_M (As := [.int (xs (i + 1))]) (rest := []) C.1 C.2.2.2.1 (fun A => c_X6_tick l D wm A (xs (i + 1))) hg q1188 q1189 q1190 q46 q1191 yd_X6_tick ⟨by decide, by decide⟩ hrm2 hZ1 hl.1 rfl (by simp) dL_law_640 (fun H2 locs2 cells2 slots2 hZ2 => ?_)
  refine W.eq (g2 := F0 m 643 ls [.int Em.1]) rfl ?_
  refine lv_istore (lv' := (7, .int Em.1) :: (6, .int k) :: lawL w wm o1 o2 b i) hx hb dL_law_643 hl (by decide) rfl (fun ls hl => ?_)
  obtain ⟨hth, hcmp⟩ := agW.tail (conv := (fun r : Int32 => .long r.toInt64)) (by decide +kernel) hex hk hm
  exact lw_tailI C hI2 hzz hn hrm2 hZ2 hth (fun h => by obtain ⟨r, h1, h2⟩ := hcmp h; rw [h1, h2]) hl dL_law_645 dL_law_646 dL_law_649 dL_law_651 dL_law_656 dL_law_658 dL_law_661 dL_law_662 dL_law_663 dL_law_664 dL_law_666 dL_law_667 dL_law_668 dL_law_673 (by decide)
set_option maxHeartbeats 4000000 in
set_option maxRecDepth 100000 in
theorem lc_now (hfl : l.stackTraces = false) (C : LC p s m args c b L xs D w wm aS sk sv c1 c2) (hi : i + 5 ≤ L) (hzz : INVz INV) (ag : agP INV i (f_X5_now 0) f_X6_now) (hI : INV i S Sm) (hZ : LQ D w wm o1 o2 c1 c2 s.heap S Sm v1 v2 H locs cells slots) (hl : lv_has ls 9 (lawL w wm o1 o2 b i)) (hn : LN p l e s m args below meth c D w wm o1 o2 c1 c2 b INV Q i) : W p l e room_1 s m args below meth c H locs cells slots Q (F0 m 676 ls []) := by
  obtain ⟨E, hf, hrm, hrest⟩ := ag.use hzz hI H.size
  have hx := C.1.1
  have hb := C.1.2.1
  refine lv_aload_n hx hb dL_law_676 rfl (lv_at hl 4 rfl) ?_
  refine lw_X (rest := []) C.1 C.2.1.1 (fun A => c_X5_now l D w aS sk sv A 0) hf q257 q258 q259 q40 q260 yd_X5_now ⟨by decide, by decide⟩ hrm hZ hl.1 rfl (by simp) dL_law_677 (fun H1 locs1 cells1 slots1 hZ1 => ?_)
  refine W.eq (g2 := F0 m 680 ls [.int E.1]) rfl ?_
  obtain ⟨Em, hg, hsame, hrm2, hI2⟩ := hrest H1.size
  refine lv_aload_n hx hb dL_law_680 rfl (lv_at hl 3 rfl) ?_
  refine lw_M (As := []) (rest := [.int E.1]) C.1 C.2.2.2.1 (fun A => c_X6_now l D wm A) hg q1223 q1224 q1225 q46 q1226 yd_X6_now ⟨by decide, by decide⟩ hrm2 hZ1 hl.1 rfl (by simp [vc_i]) dL_law_681 (fun H2 locs2 cells2 slots2 hZ2 => ?_)
  refine W.eq (g2 := F0 m 684 ls [.int Em.1, .int E.1]) rfl ?_
  refine lv_icmp_eq (tgt := 2116) hx hb dL_law_684 (by decide) (fun _ => ?_) (fun h9 => absurd hsame h9)
  exact hn _ _ _ _ _ _ _ _ _ hI2 hZ2 hl
set_option maxHeartbeats 4000000 in
set_option maxRecDepth 100000 in
theorem lc_stations (hfl : l.stackTraces = false) (C : LC p s m args c b L xs D w wm aS sk sv c1 c2) (hi : i + 5 ≤ L) (hzz : INVz INV) (ag : agP INV i (f_X5_stations 0) f_X6_stations) (hI : INV i S Sm) (hZ : LQ D w wm o1 o2 c1 c2 s.heap S Sm v1 v2 H locs cells slots) (hl : lv_has ls 9 (lawL w wm o1 o2 b i)) (hn : LN p l e s m args below meth c D w wm o1 o2 c1 c2 b INV Q i) : W p l e room_1 s m args below meth c H locs cells slots Q (F0 m 689 ls []) := by
  obtain ⟨E, hf, hrm, hrest⟩ := ag.use hzz hI H.size
  have hx := C.1.1
  have hb := C.1.2.1
  refine lv_aload_n hx hb dL_law_689 rfl (lv_at hl 4 rfl) ?_
  refine lw_X (rest := []) C.1 C.2.1.1 (fun A => c_X5_stations l D w aS sk sv A 0) hf q261 q262 q263 q40 q264 yd_X5_stations ⟨by decide, by decide⟩ hrm hZ hl.1 rfl (by simp) dL_law_690 (fun H1 locs1 cells1 slots1 hZ1 => ?_)
  refine W.eq (g2 := F0 m 693 ls [.int E.1]) rfl ?_
  obtain ⟨Em, hg, hsame, hrm2, hI2⟩ := hrest H1.size
  refine lv_aload_n hx hb dL_law_693 rfl (lv_at hl 3 rfl) ?_
  refine lw_M (As := []) (rest := [.int E.1]) C.1 C.2.2.2.1 (fun A => c_X6_stations l D wm A) hg q1227 q1228 q1229 q46 q1230 yd_X6_stations ⟨by decide, by decide⟩ hrm2 hZ1 hl.1 rfl (by simp [vc_i]) dL_law_694 (fun H2 locs2 cells2 slots2 hZ2 => ?_)
  refine W.eq (g2 := F0 m 697 ls [.int Em.1, .int E.1]) rfl ?_
  refine lv_icmp_eq (tgt := 2116) hx hb dL_law_697 (by decide) (fun _ => ?_) (fun h9 => absurd hsame h9)
  exact hn _ _ _ _ _ _ _ _ _ hI2 hZ2 hl
set_option maxHeartbeats 4000000 in
set_option maxRecDepth 100000 in
theorem lc_cars (hfl : l.stackTraces = false) (C : LC p s m args c b L xs D w wm aS sk sv c1 c2) (hi : i + 5 ≤ L) (hzz : INVz INV) (ag : agP INV i (f_X5_cars 0) f_X6_cars) (hI : INV i S Sm) (hZ : LQ D w wm o1 o2 c1 c2 s.heap S Sm v1 v2 H locs cells slots) (hl : lv_has ls 9 (lawL w wm o1 o2 b i)) (hn : LN p l e s m args below meth c D w wm o1 o2 c1 c2 b INV Q i) : W p l e room_1 s m args below meth c H locs cells slots Q (F0 m 702 ls []) := by
  obtain ⟨E, hf, hrm, hrest⟩ := ag.use hzz hI H.size
  have hx := C.1.1
  have hb := C.1.2.1
  refine lv_aload_n hx hb dL_law_702 rfl (lv_at hl 4 rfl) ?_
  refine lw_X (rest := []) C.1 C.2.1.1 (fun A => c_X5_cars l D w aS sk sv A 0) hf q265 q266 q267 q40 q268 yd_X5_cars ⟨by decide, by decide⟩ hrm hZ hl.1 rfl (by simp) dL_law_703 (fun H1 locs1 cells1 slots1 hZ1 => ?_)
  refine W.eq (g2 := F0 m 706 ls [.int E.1]) rfl ?_
  obtain ⟨Em, hg, hsame, hrm2, hI2⟩ := hrest H1.size
  refine lv_aload_n hx hb dL_law_706 rfl (lv_at hl 3 rfl) ?_
  refine lw_M (As := []) (rest := [.int E.1]) C.1 C.2.2.2.1 (fun A => c_X6_cars l D wm A) hg q1231 q1232 q1233 q46 q1234 yd_X6_cars ⟨by decide, by decide⟩ hrm2 hZ1 hl.1 rfl (by simp [vc_i]) dL_law_707 (fun H2 locs2 cells2 slots2 hZ2 => ?_)
  refine W.eq (g2 := F0 m 710 ls [.int Em.1, .int E.1]) rfl ?_
  refine lv_icmp_eq (tgt := 2116) hx hb dL_law_710 (by decide) (fun _ => ?_) (fun h9 => absurd hsame h9)
  exact hn _ _ _ _ _ _ _ _ _ hI2 hZ2 hl
set_option maxHeartbeats 4000000 in
set_option maxRecDepth 100000 in
theorem lc_stateOf (hfl : l.stackTraces = false) (C : LC p s m args c b L xs D w wm aS sk sv c1 c2) (hi : i + 5 ≤ L) (hzz : INVz INV) (ag : agW INV i (f_X5_stateOf 0 (xs (i + 1))) (f_X6_stateOf (xs (i + 1))) (exCode [("java/util/NoSuchElementException", 1)]) ["java/util/NoSuchElementException"] (fun r q => r = q)) (hI : INV i S Sm) (hZ : LQ D w wm o1 o2 c1 c2 s.heap S Sm v1 v2 H locs cells slots) (hl : lv_has ls 9 (lawL w wm o1 o2 b i)) (hn : LN p l e s m args below meth c D w wm o1 o2 c1 c2 b INV Q i) : W p l e room_1 s m args below meth c H locs cells slots Q (F0 m 715 ls []) := by
  obtain ⟨E, hf, hex, hrm, hrest⟩ := ag.use hzz hI H.size
  have hx := C.1.1
  have hb := C.1.2.1
  refine lv_aload_n hx hb dL_law_715 rfl (lv_at hl 4 rfl) ?_
  refine lw_arg C hZ (j := 1) (jn := 1) rfl (by omega) (lv_at hl 5 rfl) (lv_at hl 0 rfl) dL_law_716 dL_law_717 dL_law_719 dL_law_720 dL_law_721 ?_
  refine lv_aload_n hx hb dL_law_722 rfl (lv_at hl 2 rfl) ?_
  refine lw_W (As := [.ref (w.2.2.2.2 0), .int (xs (i + 1)), .ref o1]) (rest := []) C.1 (EO := fun A => ENVO D w aS sk sv A c1 .long) C.2.1 (fun A => ENVO.ok) (fun A B U h1 h2 => h1.narrow h2) (fun A => c_L_stateOf l hfl D w aS sk sv A o1 c1 (xs (i + 1))) hf hex q753 q754 q39 q755 yd_L_stateOf ⟨by decide, by decide⟩ hrm hZ hl.1 rfl (by simp) dL_law_723 (fun k v H1 locs1 cells1 slots1 hk hZ1 => ?_)
  refine W.eq (g2 := F0 m 726 ls [.int k]) rfl ?_
  refine lv_istore (lv' := (6, .int k) :: lawL w wm o1 o2 b i) hx hb dL_law_726 hl (by decide) rfl (fun ls hl => ?_)
  obtain ⟨Em, hg, hm, hrm2, hI2⟩ := hrest H1.size
  refine lv_aload_n hx hb dL_law_728 rfl (lv_at hl 4 rfl) ?_
  refine lw_arg C hZ1 (j := 1) (jn := 1) rfl (by omega) (lv_at hl 6 rfl) (lv_at hl 1 rfl) dL_law_729 dL_law_730 dL_law_732 dL_law_733 dL_law_734 ?_
  refine lw_M (As := [.int (xs (i + 1))]) (rest := []) C.1 C.2.2.2.1 (fun A => c_X6_stateOf l D wm A (xs (i + 1))) hg q1235 q1236 q1237 q46 q1238 yd_X6_stateOf ⟨by decide, by decide⟩ hrm2 hZ1 hl.1 rfl (by simp) dL_law_735 (fun H2 locs2 cells2 slots2 hZ2 => ?_)
  refine W.eq (g2 := F0 m 738 ls [.int Em.1]) rfl ?_
  refine lv_istore (lv' := (7, .int Em.1) :: (6, .int k) :: lawL w wm o1 o2 b i) hx hb dL_law_738 hl (by decide) rfl (fun ls hl => ?_)
  obtain ⟨hth, hcmp⟩ := agW.tail (conv := (fun r : Int32 => .long r.toInt64)) (by decide +kernel) hex hk hm
  exact lw_tailI C hI2 hzz hn hrm2 hZ2 hth (fun h => by obtain ⟨r, h1, h2⟩ := hcmp h; rw [h1, h2]) hl dL_law_740 dL_law_741 dL_law_744 dL_law_746 dL_law_751 dL_law_753 dL_law_756 dL_law_757 dL_law_758 dL_law_759 dL_law_761 dL_law_762 dL_law_763 dL_law_768 (by decide)
set_option maxHeartbeats 4000000 in
set_option maxRecDepth 100000 in
theorem lc_stationOf (hfl : l.stackTraces = false) (C : LC p s m args c b L xs D w wm aS sk sv c1 c2) (hi : i + 5 ≤ L) (hzz : INVz INV) (ag : agW INV i (f_X5_stationOf 0 (xs (i + 1))) (f_X6_stationOf (xs (i + 1))) (exCode [("java/util/NoSuchElementException", 1), ("java/lang/IllegalStateException", 2)]) ["java/util/NoSuchElementException", "java/lang/IllegalStateException"] (fun r q => r = q)) (hI : INV i S Sm) (hZ : LQ D w wm o1 o2 c1 c2 s.heap S Sm v1 v2 H locs cells slots) (hl : lv_has ls 9 (lawL w wm o1 o2 b i)) (hn : LN p l e s m args below meth c D w wm o1 o2 c1 c2 b INV Q i) : W p l e room_1 s m args below meth c H locs cells slots Q (F0 m 771 ls []) := by
  obtain ⟨E, hf, hex, hrm, hrest⟩ := ag.use hzz hI H.size
  have hx := C.1.1
  have hb := C.1.2.1
  refine lv_aload_n hx hb dL_law_771 rfl (lv_at hl 4 rfl) ?_
  refine lw_arg C hZ (j := 1) (jn := 1) rfl (by omega) (lv_at hl 5 rfl) (lv_at hl 0 rfl) dL_law_772 dL_law_773 dL_law_775 dL_law_776 dL_law_777 ?_
  refine lv_aload_n hx hb dL_law_778 rfl (lv_at hl 2 rfl) ?_
  refine lw_W (As := [.ref (w.2.2.2.2 0), .int (xs (i + 1)), .ref o1]) (rest := []) C.1 (EO := fun A => ENVO D w aS sk sv A c1 .long) C.2.1 (fun A => ENVO.ok) (fun A B U h1 h2 => h1.narrow h2) (fun A => c_L_stationOf l hfl D w aS sk sv A o1 c1 (xs (i + 1))) hf hex q760 q761 q39 q762 yd_L_stationOf ⟨by decide, by decide⟩ hrm hZ hl.1 rfl (by simp) dL_law_779 (fun k v H1 locs1 cells1 slots1 hk hZ1 => ?_)
  refine W.eq (g2 := F0 m 782 ls [.int k]) rfl ?_
  refine lv_istore (lv' := (6, .int k) :: lawL w wm o1 o2 b i) hx hb dL_law_782 hl (by decide) rfl (fun ls hl => ?_)
  obtain ⟨Em, hg, hm, hrm2, hI2⟩ := hrest H1.size
  refine lv_aload_n hx hb dL_law_784 rfl (lv_at hl 4 rfl) ?_
  refine lw_arg C hZ1 (j := 1) (jn := 1) rfl (by omega) (lv_at hl 6 rfl) (lv_at hl 1 rfl) dL_law_785 dL_law_786 dL_law_788 dL_law_789 dL_law_790 ?_
  refine lw_M (As := [.int (xs (i + 1))]) (rest := []) C.1 C.2.2.2.1 (fun A => c_X6_stationOf l D wm A (xs (i + 1))) hg q1243 q1244 q1245 q46 q1246 yd_X6_stationOf ⟨by decide, by decide⟩ hrm2 hZ1 hl.1 rfl (by simp) dL_law_791 (fun H2 locs2 cells2 slots2 hZ2 => ?_)
  refine W.eq (g2 := F0 m 794 ls [.int Em.1]) rfl ?_
  refine lv_istore (lv' := (7, .int Em.1) :: (6, .int k) :: lawL w wm o1 o2 b i) hx hb dL_law_794 hl (by decide) rfl (fun ls hl => ?_)
  obtain ⟨hth, hcmp⟩ := agW.tail (conv := (fun r : Int32 => .long r.toInt64)) (by decide +kernel) hex hk hm
  exact lw_tailI C hI2 hzz hn hrm2 hZ2 hth (fun h => by obtain ⟨r, h1, h2⟩ := hcmp h; rw [h1, h2]) hl dL_law_796 dL_law_797 dL_law_800 dL_law_802 dL_law_807 dL_law_809 dL_law_812 dL_law_813 dL_law_814 dL_law_815 dL_law_817 dL_law_818 dL_law_819 dL_law_824 (by decide)
set_option maxHeartbeats 4000000 in
set_option maxRecDepth 100000 in
theorem lc_toGo (hfl : l.stackTraces = false) (C : LC p s m args c b L xs D w wm aS sk sv c1 c2) (hi : i + 5 ≤ L) (hzz : INVz INV) (ag : agW INV i (f_X5_toGo 0 (xs (i + 1))) (f_X6_toGo (xs (i + 1))) (exCode [("java/util/NoSuchElementException", 1), ("java/lang/IllegalStateException", 2)]) ["java/util/NoSuchElementException", "java/lang/IllegalStateException"] (fun r q => r = q)) (hI : INV i S Sm) (hZ : LQ D w wm o1 o2 c1 c2 s.heap S Sm v1 v2 H locs cells slots) (hl : lv_has ls 9 (lawL w wm o1 o2 b i)) (hn : LN p l e s m args below meth c D w wm o1 o2 c1 c2 b INV Q i) : W p l e room_1 s m args below meth c H locs cells slots Q (F0 m 827 ls []) := by
  obtain ⟨E, hf, hex, hrm, hrest⟩ := ag.use hzz hI H.size
  have hx := C.1.1
  have hb := C.1.2.1
  refine lv_aload_n hx hb dL_law_827 rfl (lv_at hl 4 rfl) ?_
  refine lw_arg C hZ (j := 1) (jn := 1) rfl (by omega) (lv_at hl 5 rfl) (lv_at hl 0 rfl) dL_law_828 dL_law_829 dL_law_831 dL_law_832 dL_law_833 ?_
  refine lv_aload_n hx hb dL_law_834 rfl (lv_at hl 2 rfl) ?_
  refine lw_W (As := [.ref (w.2.2.2.2 0), .int (xs (i + 1)), .ref o1]) (rest := []) C.1 (EO := fun A => ENVO D w aS sk sv A c1 .long) C.2.1 (fun A => ENVO.ok) (fun A B U h1 h2 => h1.narrow h2) (fun A => c_L_toGo l hfl D w aS sk sv A o1 c1 (xs (i + 1))) hf hex q772 q773 q39 q774 yd_L_toGo ⟨by decide, by decide⟩ hrm hZ hl.1 rfl (by simp) dL_law_835 (fun k v H1 locs1 cells1 slots1 hk hZ1 => ?_)
  refine W.eq (g2 := F0 m 838 ls [.int k]) rfl ?_
  refine lv_istore (lv' := (6, .int k) :: lawL w wm o1 o2 b i) hx hb dL_law_838 hl (by decide) rfl (fun ls hl => ?_)
  obtain ⟨Em, hg, hm, hrm2, hI2⟩ := hrest H1.size
  refine lv_aload_n hx hb dL_law_840 rfl (lv_at hl 4 rfl) ?_
  refine lw_arg C hZ1 (j := 1) (jn := 1) rfl (by omega) (lv_at hl 6 rfl) (lv_at hl 1 rfl) dL_law_841 dL_law_842 dL_law_844 dL_law_845 dL_law_846 ?_
  refine lw_M (As := [.int (xs (i + 1))]) (rest := []) C.1 C.2.2.2.1 (fun A => c_X6_toGo l D wm A (xs (i + 1))) hg q1251 q1252 q1253 q46 q1254 yd_X6_toGo ⟨by decide, by decide⟩ hrm2 hZ1 hl.1 rfl (by simp) dL_law_847 (fun H2 locs2 cells2 slots2 hZ2 => ?_)
  refine W.eq (g2 := F0 m 850 ls [.int Em.1]) rfl ?_
  refine lv_istore (lv' := (7, .int Em.1) :: (6, .int k) :: lawL w wm o1 o2 b i) hx hb dL_law_850 hl (by decide) rfl (fun ls hl => ?_)
  obtain ⟨hth, hcmp⟩ := agW.tail (conv := (fun r : Int32 => .long r.toInt64)) (by decide +kernel) hex hk hm
  exact lw_tailI C hI2 hzz hn hrm2 hZ2 hth (fun h => by obtain ⟨r, h1, h2⟩ := hcmp h; rw [h1, h2]) hl dL_law_852 dL_law_853 dL_law_856 dL_law_858 dL_law_863 dL_law_865 dL_law_868 dL_law_869 dL_law_870 dL_law_871 dL_law_873 dL_law_874 dL_law_875 dL_law_880 (by decide)
set_option maxHeartbeats 4000000 in
set_option maxRecDepth 100000 in
theorem lc_carAt (hfl : l.stackTraces = false) (C : LC p s m args c b L xs D w wm aS sk sv c1 c2) (hi : i + 5 ≤ L) (hzz : INVz INV) (ag : agW INV i (f_X5_carAt 0 (xs (i + 1))) (f_X6_carAt (xs (i + 1))) (exCode [("java/util/NoSuchElementException", 1), ("java/lang/IllegalStateException", 2)]) ["java/util/NoSuchElementException", "java/lang/IllegalStateException"] (fun r q => r = q)) (hI : INV i S Sm) (hZ : LQ D w wm o1 o2 c1 c2 s.heap S Sm v1 v2 H locs cells slots) (hl : lv_has ls 9 (lawL w wm o1 o2 b i)) (hn : LN p l e s m args below meth c D w wm o1 o2 c1 c2 b INV Q i) : W p l e room_1 s m args below meth c H locs cells slots Q (F0 m 883 ls []) := by
  obtain ⟨E, hf, hex, hrm, hrest⟩ := ag.use hzz hI H.size
  have hx := C.1.1
  have hb := C.1.2.1
  refine lv_aload_n hx hb dL_law_883 rfl (lv_at hl 4 rfl) ?_
  refine lw_arg C hZ (j := 1) (jn := 1) rfl (by omega) (lv_at hl 5 rfl) (lv_at hl 0 rfl) dL_law_884 dL_law_885 dL_law_887 dL_law_888 dL_law_889 ?_
  refine lv_aload_n hx hb dL_law_890 rfl (lv_at hl 2 rfl) ?_
  refine lw_W (As := [.ref (w.2.2.2.2 0), .int (xs (i + 1)), .ref o1]) (rest := []) C.1 (EO := fun A => ENVO D w aS sk sv A c1 .long) C.2.1 (fun A => ENVO.ok) (fun A B U h1 h2 => h1.narrow h2) (fun A => c_L_carAt l hfl D w aS sk sv A o1 c1 (xs (i + 1))) hf hex q779 q780 q39 q781 yd_L_carAt ⟨by decide, by decide⟩ hrm hZ hl.1 rfl (by simp) dL_law_891 (fun k v H1 locs1 cells1 slots1 hk hZ1 => ?_)
  refine W.eq (g2 := F0 m 894 ls [.int k]) rfl ?_
  refine lv_istore (lv' := (6, .int k) :: lawL w wm o1 o2 b i) hx hb dL_law_894 hl (by decide) rfl (fun ls hl => ?_)
  obtain ⟨Em, hg, hm, hrm2, hI2⟩ := hrest H1.size
  refine lv_aload_n hx hb dL_law_896 rfl (lv_at hl 4 rfl) ?_
  refine lw_arg C hZ1 (j := 1) (jn := 1) rfl (by omega) (lv_at hl 6 rfl) (lv_at hl 1 rfl) dL_law_897 dL_law_898 dL_law_900 dL_law_901 dL_law_902 ?_
  refine lw_M (As := [.int (xs (i + 1))]) (rest := []) C.1 C.2.2.2.1 (fun A => c_X6_carAt l D wm A (xs (i + 1))) hg q1255 q1256 q1257 q46 q1258 yd_X6_carAt ⟨by decide, by decide⟩ hrm2 hZ1 hl.1 rfl (by simp) dL_law_903 (fun H2 locs2 cells2 slots2 hZ2 => ?_)
  refine W.eq (g2 := F0 m 906 ls [.int Em.1]) rfl ?_
  refine lv_istore (lv' := (7, .int Em.1) :: (6, .int k) :: lawL w wm o1 o2 b i) hx hb dL_law_906 hl (by decide) rfl (fun ls hl => ?_)
  obtain ⟨hth, hcmp⟩ := agW.tail (conv := (fun r : Int32 => .long r.toInt64)) (by decide +kernel) hex hk hm
  exact lw_tailI C hI2 hzz hn hrm2 hZ2 hth (fun h => by obtain ⟨r, h1, h2⟩ := hcmp h; rw [h1, h2]) hl dL_law_908 dL_law_909 dL_law_912 dL_law_914 dL_law_919 dL_law_921 dL_law_924 dL_law_925 dL_law_926 dL_law_927 dL_law_929 dL_law_930 dL_law_931 dL_law_936 (by decide)
set_option maxHeartbeats 4000000 in
set_option maxRecDepth 100000 in
theorem lc_isBack (hfl : l.stackTraces = false) (C : LC p s m args c b L xs D w wm aS sk sv c1 c2) (hi : i + 5 ≤ L) (hzz : INVz INV) (ag : agW INV i (f_X5_isBack 0 (xs (i + 1))) (f_X6_isBack (xs (i + 1))) (exCode [("java/util/NoSuchElementException", 1)]) ["java/util/NoSuchElementException"] (fun r q => r = q)) (hI : INV i S Sm) (hZ : LQ D w wm o1 o2 c1 c2 s.heap S Sm v1 v2 H locs cells slots) (hl : lv_has ls 9 (lawL w wm o1 o2 b i)) (hn : LN p l e s m args below meth c D w wm o1 o2 c1 c2 b INV Q i) : W p l e room_1 s m args below meth c H locs cells slots Q (F0 m 939 ls []) := by
  obtain ⟨E, hf, hex, hrm, hrest⟩ := ag.use hzz hI H.size
  have hx := C.1.1
  have hb := C.1.2.1
  refine lv_aload_n hx hb dL_law_939 rfl (lv_at hl 4 rfl) ?_
  refine lw_arg C hZ (j := 1) (jn := 1) rfl (by omega) (lv_at hl 5 rfl) (lv_at hl 0 rfl) dL_law_940 dL_law_941 dL_law_943 dL_law_944 dL_law_945 ?_
  refine lv_aload_n hx hb dL_law_946 rfl (lv_at hl 2 rfl) ?_
  refine lw_W (As := [.ref (w.2.2.2.2 0), .int (xs (i + 1)), .ref o1]) (rest := []) C.1 (EO := fun A => ENVO D w aS sk sv A c1 .long) C.2.1 (fun A => ENVO.ok) (fun A B U h1 h2 => h1.narrow h2) (fun A => c_L_isBack l hfl D w aS sk sv A o1 c1 (xs (i + 1))) hf hex q787 q788 q39 q789 yd_L_isBack ⟨by decide, by decide⟩ hrm hZ hl.1 rfl (by simp) dL_law_947 (fun k v H1 locs1 cells1 slots1 hk hZ1 => ?_)
  refine W.eq (g2 := F0 m 950 ls [.int k]) rfl ?_
  refine lv_istore (lv' := (6, .int k) :: lawL w wm o1 o2 b i) hx hb dL_law_950 hl (by decide) rfl (fun ls hl => ?_)
  obtain ⟨Em, hg, hm, hrm2, hI2⟩ := hrest H1.size
  refine lv_aload_n hx hb dL_law_952 rfl (lv_at hl 4 rfl) ?_
  refine lw_arg C hZ1 (j := 1) (jn := 1) rfl (by omega) (lv_at hl 6 rfl) (lv_at hl 1 rfl) dL_law_953 dL_law_954 dL_law_956 dL_law_957 dL_law_958 ?_
  refine lw_M (As := [.int (xs (i + 1))]) (rest := []) C.1 C.2.2.2.1 (fun A => c_X6_isBack l D wm A (xs (i + 1))) hg q1259 q1260 q1261 q46 q1262 yd_X6_isBack ⟨by decide, by decide⟩ hrm2 hZ1 hl.1 rfl (by simp) dL_law_959 (fun H2 locs2 cells2 slots2 hZ2 => ?_)
  refine W.eq (g2 := F0 m 962 ls [.int Em.1]) rfl ?_
  refine lv_istore (lv' := (7, .int Em.1) :: (6, .int k) :: lawL w wm o1 o2 b i) hx hb dL_law_962 hl (by decide) rfl (fun ls hl => ?_)
  obtain ⟨hth, hcmp⟩ := agW.tail (conv := (fun r : Int32 => .long (if r = 0 then 0 else 1))) (by decide +kernel) hex hk hm
  exact lw_tailZ C hI2 hzz hn hrm2 hZ2 hth (fun h => by obtain ⟨r, h1, h2⟩ := hcmp h; rw [h1, h2]) hl dL_law_964 dL_law_965 dL_law_968 dL_law_970 dL_law_975 dL_law_977 dL_law_980 dL_law_981 dL_law_982 dL_law_983 dL_law_985 dL_law_988 dL_law_989 dL_law_992 dL_law_993 dL_law_994 dL_law_999 (by decide)
set_option maxHeartbeats 4000000 in
set_option maxRecDepth 100000 in
theorem lc_waiting (hfl : l.stackTraces = false) (C : LC p s m args c b L xs D w wm aS sk sv c1 c2) (hi : i + 5 ≤ L) (hzz : INVz INV) (ag : agP INV i (f_X5_waiting 0) f_X6_waiting) (hI : INV i S Sm) (hZ : LQ D w wm o1 o2 c1 c2 s.heap S Sm v1 v2 H locs cells slots) (hl : lv_has ls 9 (lawL w wm o1 o2 b i)) (hn : LN p l e s m args below meth c D w wm o1 o2 c1 c2 b INV Q i) : W p l e room_1 s m args below meth c H locs cells slots Q (F0 m 1002 ls []) := by
  obtain ⟨E, hf, hrm, hrest⟩ := ag.use hzz hI H.size
  have hx := C.1.1
  have hb := C.1.2.1
  refine lv_aload_n hx hb dL_law_1002 rfl (lv_at hl 4 rfl) ?_
  refine lw_X (rest := []) C.1 C.2.1.1 (fun A => c_X5_waiting l D w aS sk sv A 0) hf q269 q270 q271 q40 q272 yd_X5_waiting ⟨by decide, by decide⟩ hrm hZ hl.1 rfl (by simp) dL_law_1003 (fun H1 locs1 cells1 slots1 hZ1 => ?_)
  refine W.eq (g2 := F0 m 1006 ls [.int E.1]) rfl ?_
  obtain ⟨Em, hg, hsame, hrm2, hI2⟩ := hrest H1.size
  refine lv_aload_n hx hb dL_law_1006 rfl (lv_at hl 3 rfl) ?_
  refine lw_M (As := []) (rest := [.int E.1]) C.1 C.2.2.2.1 (fun A => c_X6_waiting l D wm A) hg q1263 q1264 q1265 q46 q1266 yd_X6_waiting ⟨by decide, by decide⟩ hrm2 hZ1 hl.1 rfl (by simp [vc_i]) dL_law_1007 (fun H2 locs2 cells2 slots2 hZ2 => ?_)
  refine W.eq (g2 := F0 m 1010 ls [.int Em.1, .int E.1]) rfl ?_
  refine lv_icmp_eq (tgt := 2116) hx hb dL_law_1010 (by decide) (fun _ => ?_) (fun h9 => absurd hsame h9)
  exact hn _ _ _ _ _ _ _ _ _ hI2 hZ2 hl
set_option maxHeartbeats 4000000 in
set_option maxRecDepth 100000 in
theorem lc_waitingAt (hfl : l.stackTraces = false) (C : LC p s m args c b L xs D w wm aS sk sv c1 c2) (hi : i + 5 ≤ L) (hzz : INVz INV) (ag : agW INV i (f_X5_waitingAt 0 (xs (i + 1))) (f_X6_waitingAt (xs (i + 1))) (exCode [("java/lang/IndexOutOfBoundsException", 1)]) ["java/lang/IndexOutOfBoundsException"] (fun r q => r = q)) (hI : INV i S Sm) (hZ : LQ D w wm o1 o2 c1 c2 s.heap S Sm v1 v2 H locs cells slots) (hl : lv_has ls 9 (lawL w wm o1 o2 b i)) (hn : LN p l e s m args below meth c D w wm o1 o2 c1 c2 b INV Q i) : W p l e room_1 s m args below meth c H locs cells slots Q (F0 m 1015 ls []) := by
  obtain ⟨E, hf, hex, hrm, hrest⟩ := ag.use hzz hI H.size
  have hx := C.1.1
  have hb := C.1.2.1
  refine lv_aload_n hx hb dL_law_1015 rfl (lv_at hl 4 rfl) ?_
  refine lw_arg C hZ (j := 1) (jn := 1) rfl (by omega) (lv_at hl 5 rfl) (lv_at hl 0 rfl) dL_law_1016 dL_law_1017 dL_law_1019 dL_law_1020 dL_law_1021 ?_
  refine lv_aload_n hx hb dL_law_1022 rfl (lv_at hl 2 rfl) ?_
  refine lw_W (As := [.ref (w.2.2.2.2 0), .int (xs (i + 1)), .ref o1]) (rest := []) C.1 (EO := fun A => ENVO D w aS sk sv A c1 .long) C.2.1 (fun A => ENVO.ok) (fun A B U h1 h2 => h1.narrow h2) (fun A => c_L_waitingAt l hfl D w aS sk sv A o1 c1 (xs (i + 1))) hf hex q794 q795 q39 q796 yd_L_waitingAt ⟨by decide, by decide⟩ hrm hZ hl.1 rfl (by simp) dL_law_1023 (fun k v H1 locs1 cells1 slots1 hk hZ1 => ?_)
  refine W.eq (g2 := F0 m 1026 ls [.int k]) rfl ?_
  refine lv_istore (lv' := (6, .int k) :: lawL w wm o1 o2 b i) hx hb dL_law_1026 hl (by decide) rfl (fun ls hl => ?_)
  obtain ⟨Em, hg, hm, hrm2, hI2⟩ := hrest H1.size
  refine lv_aload_n hx hb dL_law_1028 rfl (lv_at hl 4 rfl) ?_
  refine lw_arg C hZ1 (j := 1) (jn := 1) rfl (by omega) (lv_at hl 6 rfl) (lv_at hl 1 rfl) dL_law_1029 dL_law_1030 dL_law_1032 dL_law_1033 dL_law_1034 ?_
  refine lw_M (As := [.int (xs (i + 1))]) (rest := []) C.1 C.2.2.2.1 (fun A => c_X6_waitingAt l D wm A (xs (i + 1))) hg q1267 q1268 q1269 q46 q1270 yd_X6_waitingAt ⟨by decide, by decide⟩ hrm2 hZ1 hl.1 rfl (by simp) dL_law_1035 (fun H2 locs2 cells2 slots2 hZ2 => ?_)
  refine W.eq (g2 := F0 m 1038 ls [.int Em.1]) rfl ?_
  refine lv_istore (lv' := (7, .int Em.1) :: (6, .int k) :: lawL w wm o1 o2 b i) hx hb dL_law_1038 hl (by decide) rfl (fun ls hl => ?_)
  obtain ⟨hth, hcmp⟩ := agW.tail (conv := (fun r : Int32 => .long r.toInt64)) (by decide +kernel) hex hk hm
  exact lw_tailI C hI2 hzz hn hrm2 hZ2 hth (fun h => by obtain ⟨r, h1, h2⟩ := hcmp h; rw [h1, h2]) hl dL_law_1040 dL_law_1041 dL_law_1044 dL_law_1046 dL_law_1051 dL_law_1053 dL_law_1056 dL_law_1057 dL_law_1058 dL_law_1059 dL_law_1061 dL_law_1062 dL_law_1063 dL_law_1068 (by decide)
set_option maxHeartbeats 4000000 in
set_option maxRecDepth 100000 in
theorem lc_looped (hfl : l.stackTraces = false) (C : LC p s m args c b L xs D w wm aS sk sv c1 c2) (hi : i + 5 ≤ L) (hzz : INVz INV) (ag : agP INV i (f_X5_looped 0) f_X6_looped) (hI : INV i S Sm) (hZ : LQ D w wm o1 o2 c1 c2 s.heap S Sm v1 v2 H locs cells slots) (hl : lv_has ls 9 (lawL w wm o1 o2 b i)) (hn : LN p l e s m args below meth c D w wm o1 o2 c1 c2 b INV Q i) : W p l e room_1 s m args below meth c H locs cells slots Q (F0 m 1071 ls []) := by
  obtain ⟨E, hf, hrm, hrest⟩ := ag.use hzz hI H.size
  have hx := C.1.1
  have hb := C.1.2.1
  refine lv_aload_n hx hb dL_law_1071 rfl (lv_at hl 4 rfl) ?_
  refine lw_X (rest := []) C.1 C.2.1.1 (fun A => c_X5_looped l D w aS sk sv A 0) hf q273 q274 q275 q40 q276 yd_X5_looped ⟨by decide, by decide⟩ hrm hZ hl.1 rfl (by simp) dL_law_1072 (fun H1 locs1 cells1 slots1 hZ1 => ?_)
  refine W.eq (g2 := F0 m 1075 ls [.int E.1]) rfl ?_
  obtain ⟨Em, hg, hsame, hrm2, hI2⟩ := hrest H1.size
  refine lv_aload_n hx hb dL_law_1075 rfl (lv_at hl 3 rfl) ?_
  refine lw_M (As := []) (rest := [.int E.1]) C.1 C.2.2.2.1 (fun A => c_X6_looped l D wm A) hg q1275 q1276 q1277 q46 q1278 yd_X6_looped ⟨by decide, by decide⟩ hrm2 hZ1 hl.1 rfl (by simp [vc_i]) dL_law_1076 (fun H2 locs2 cells2 slots2 hZ2 => ?_)
  refine W.eq (g2 := F0 m 1079 ls [.int Em.1, .int E.1]) rfl ?_
  refine lv_icmp_eq (tgt := 2116) hx hb dL_law_1079 (by decide) (fun _ => ?_) (fun h9 => absurd hsame h9)
  exact hn _ _ _ _ _ _ _ _ _ hI2 hZ2 hl
set_option maxHeartbeats 4000000 in
set_option maxRecDepth 100000 in
theorem lc_loopedAt (hfl : l.stackTraces = false) (C : LC p s m args c b L xs D w wm aS sk sv c1 c2) (hi : i + 5 ≤ L) (hzz : INVz INV) (ag : agW INV i (f_X5_loopedAt 0 (xs (i + 1))) (f_X6_loopedAt (xs (i + 1))) (exCode [("java/lang/IndexOutOfBoundsException", 1)]) ["java/lang/IndexOutOfBoundsException"] (fun r q => r = q)) (hI : INV i S Sm) (hZ : LQ D w wm o1 o2 c1 c2 s.heap S Sm v1 v2 H locs cells slots) (hl : lv_has ls 9 (lawL w wm o1 o2 b i)) (hn : LN p l e s m args below meth c D w wm o1 o2 c1 c2 b INV Q i) : W p l e room_1 s m args below meth c H locs cells slots Q (F0 m 1084 ls []) := by
  obtain ⟨E, hf, hex, hrm, hrest⟩ := ag.use hzz hI H.size
  have hx := C.1.1
  have hb := C.1.2.1
  refine lv_aload_n hx hb dL_law_1084 rfl (lv_at hl 4 rfl) ?_
  refine lw_arg C hZ (j := 1) (jn := 1) rfl (by omega) (lv_at hl 5 rfl) (lv_at hl 0 rfl) dL_law_1085 dL_law_1086 dL_law_1088 dL_law_1089 dL_law_1090 ?_
  refine lv_aload_n hx hb dL_law_1091 rfl (lv_at hl 2 rfl) ?_
  refine lw_W (As := [.ref (w.2.2.2.2 0), .int (xs (i + 1)), .ref o1]) (rest := []) C.1 (EO := fun A => ENVO D w aS sk sv A c1 .long) C.2.1 (fun A => ENVO.ok) (fun A B U h1 h2 => h1.narrow h2) (fun A => c_L_loopedAt l hfl D w aS sk sv A o1 c1 (xs (i + 1))) hf hex q843 q844 q39 q845 yd_L_loopedAt ⟨by decide, by decide⟩ hrm hZ hl.1 rfl (by simp) dL_law_1092 (fun k v H1 locs1 cells1 slots1 hk hZ1 => ?_)
  refine W.eq (g2 := F0 m 1095 ls [.int k]) rfl ?_
  refine lv_istore (lv' := (6, .int k) :: lawL w wm o1 o2 b i) hx hb dL_law_1095 hl (by decide) rfl (fun ls hl => ?_)
  obtain ⟨Em, hg, hm, hrm2, hI2⟩ := hrest H1.size
  refine lv_aload_n hx hb dL_law_1097 rfl (lv_at hl 4 rfl) ?_
  refine lw_arg C hZ1 (j := 1) (jn := 1) rfl (by omega) (lv_at hl 6 rfl) (lv_at hl 1 rfl) dL_law_1098 dL_law_1099 dL_law_1101 dL_law_1102 dL_law_1103 ?_
  refine lw_M (As := [.int (xs (i + 1))]) (rest := []) C.1 C.2.2.2.1 (fun A => c_X6_loopedAt l D wm A (xs (i + 1))) hg q1279 q1280 q1281 q46 q1282 yd_X6_loopedAt ⟨by decide, by decide⟩ hrm2 hZ1 hl.1 rfl (by simp) dL_law_1104 (fun H2 locs2 cells2 slots2 hZ2 => ?_)
  refine W.eq (g2 := F0 m 1107 ls [.int Em.1]) rfl ?_
  refine lv_istore (lv' := (7, .int Em.1) :: (6, .int k) :: lawL w wm o1 o2 b i) hx hb dL_law_1107 hl (by decide) rfl (fun ls hl => ?_)
  obtain ⟨hth, hcmp⟩ := agW.tail (conv := (fun r : Int32 => .long r.toInt64)) (by decide +kernel) hex hk hm
  exact lw_tailI C hI2 hzz hn hrm2 hZ2 hth (fun h => by obtain ⟨r, h1, h2⟩ := hcmp h; rw [h1, h2]) hl dL_law_1109 dL_law_1110 dL_law_1113 dL_law_1115 dL_law_1120 dL_law_1122 dL_law_1125 dL_law_1126 dL_law_1127 dL_law_1128 dL_law_1130 dL_law_1131 dL_law_1132 dL_law_1137 (by decide)
set_option maxHeartbeats 4000000 in
set_option maxRecDepth 100000 in
theorem lc_left (hfl : l.stackTraces = false) (C : LC p s m args c b L xs D w wm aS sk sv c1 c2) (hi : i + 5 ≤ L) (hzz : INVz INV) (ag : agP INV i (f_X5_left 0) f_X6_left) (hI : INV i S Sm) (hZ : LQ D w wm o1 o2 c1 c2 s.heap S Sm v1 v2 H locs cells slots) (hl : lv_has ls 9 (lawL w wm o1 o2 b i)) (hn : LN p l e s m args below meth c D w wm o1 o2 c1 c2 b INV Q i) : W p l e room_1 s m args below meth c H locs cells slots Q (F0 m 1140 ls []) := by
  obtain ⟨E, hf, hrm, hrest⟩ := ag.use hzz hI H.size
  have hx := C.1.1
  have hb := C.1.2.1
  refine lv_aload_n hx hb dL_law_1140 rfl (lv_at hl 4 rfl) ?_
  refine lw_X (rest := []) C.1 C.2.1.1 (fun A => c_X5_left l D w aS sk sv A 0) hf q277 q278 q279 q40 q280 yd_X5_left ⟨by decide, by decide⟩ hrm hZ hl.1 rfl (by simp) dL_law_1141 (fun H1 locs1 cells1 slots1 hZ1 => ?_)
  refine W.eq (g2 := F0 m 1144 ls [.int E.1]) rfl ?_
  obtain ⟨Em, hg, hsame, hrm2, hI2⟩ := hrest H1.size
  refine lv_aload_n hx hb dL_law_1144 rfl (lv_at hl 3 rfl) ?_
  refine lw_M (As := []) (rest := [.int E.1]) C.1 C.2.2.2.1 (fun A => c_X6_left l D wm A) hg q1283 q1284 q1285 q46 q1286 yd_X6_left ⟨by decide, by decide⟩ hrm2 hZ1 hl.1 rfl (by simp [vc_i]) dL_law_1145 (fun H2 locs2 cells2 slots2 hZ2 => ?_)
  refine W.eq (g2 := F0 m 1148 ls [.int Em.1, .int E.1]) rfl ?_
  refine lv_icmp_eq (tgt := 2116) hx hb dL_law_1148 (by decide) (fun _ => ?_) (fun h9 => absurd hsame h9)
  exact hn _ _ _ _ _ _ _ _ _ hI2 hZ2 hl
set_option maxHeartbeats 4000000 in
set_option maxRecDepth 100000 in
theorem lc_leftAt (hfl : l.stackTraces = false) (C : LC p s m args c b L xs D w wm aS sk sv c1 c2) (hi : i + 5 ≤ L) (hzz : INVz INV) (ag : agW INV i (f_X5_leftAt 0 (xs (i + 1))) (f_X6_leftAt (xs (i + 1))) (exCode [("java/lang/IndexOutOfBoundsException", 1)]) ["java/lang/IndexOutOfBoundsException"] (fun r q => r = q)) (hI : INV i S Sm) (hZ : LQ D w wm o1 o2 c1 c2 s.heap S Sm v1 v2 H locs cells slots) (hl : lv_has ls 9 (lawL w wm o1 o2 b i)) (hn : LN p l e s m args below meth c D w wm o1 o2 c1 c2 b INV Q i) : W p l e room_1 s m args below meth c H locs cells slots Q (F0 m 1153 ls []) := by
  obtain ⟨E, hf, hex, hrm, hrest⟩ := ag.use hzz hI H.size
  have hx := C.1.1
  have hb := C.1.2.1
  refine lv_aload_n hx hb dL_law_1153 rfl (lv_at hl 4 rfl) ?_
  refine lw_arg C hZ (j := 1) (jn := 1) rfl (by omega) (lv_at hl 5 rfl) (lv_at hl 0 rfl) dL_law_1154 dL_law_1155 dL_law_1157 dL_law_1158 dL_law_1159 ?_
  refine lv_aload_n hx hb dL_law_1160 rfl (lv_at hl 2 rfl) ?_
  refine lw_W (As := [.ref (w.2.2.2.2 0), .int (xs (i + 1)), .ref o1]) (rest := []) C.1 (EO := fun A => ENVO D w aS sk sv A c1 .long) C.2.1 (fun A => ENVO.ok) (fun A B U h1 h2 => h1.narrow h2) (fun A => c_L_leftAt l hfl D w aS sk sv A o1 c1 (xs (i + 1))) hf hex q850 q851 q39 q852 yd_L_leftAt ⟨by decide, by decide⟩ hrm hZ hl.1 rfl (by simp) dL_law_1161 (fun k v H1 locs1 cells1 slots1 hk hZ1 => ?_)
  refine W.eq (g2 := F0 m 1164 ls [.int k]) rfl ?_
  refine lv_istore (lv' := (6, .int k) :: lawL w wm o1 o2 b i) hx hb dL_law_1164 hl (by decide) rfl (fun ls hl => ?_)
  obtain ⟨Em, hg, hm, hrm2, hI2⟩ := hrest H1.size
  refine lv_aload_n hx hb dL_law_1166 rfl (lv_at hl 4 rfl) ?_
  refine lw_arg C hZ1 (j := 1) (jn := 1) rfl (by omega) (lv_at hl 6 rfl) (lv_at hl 1 rfl) dL_law_1167 dL_law_1168 dL_law_1170 dL_law_1171 dL_law_1172 ?_
  refine lw_M (As := [.int (xs (i + 1))]) (rest := []) C.1 C.2.2.2.1 (fun A => c_X6_leftAt l D wm A (xs (i + 1))) hg q1287 q1288 q1289 q46 q1290 yd_X6_leftAt ⟨by decide, by decide⟩ hrm2 hZ1 hl.1 rfl (by simp) dL_law_1173 (fun H2 locs2 cells2 slots2 hZ2 => ?_)
  refine W.eq (g2 := F0 m 1176 ls [.int Em.1]) rfl ?_
  refine lv_istore (lv' := (7, .int Em.1) :: (6, .int k) :: lawL w wm o1 o2 b i) hx hb dL_law_1176 hl (by decide) rfl (fun ls hl => ?_)
  obtain ⟨hth, hcmp⟩ := agW.tail (conv := (fun r : Int32 => .long r.toInt64)) (by decide +kernel) hex hk hm
  exact lw_tailI C hI2 hzz hn hrm2 hZ2 hth (fun h => by obtain ⟨r, h1, h2⟩ := hcmp h; rw [h1, h2]) hl dL_law_1178 dL_law_1179 dL_law_1182 dL_law_1184 dL_law_1189 dL_law_1191 dL_law_1194 dL_law_1195 dL_law_1196 dL_law_1197 dL_law_1199 dL_law_1200 dL_law_1201 dL_law_1206 (by decide)
set_option maxHeartbeats 4000000 in
set_option maxRecDepth 100000 in
theorem lc_leftIn (hfl : l.stackTraces = false) (C : LC p s m args c b L xs D w wm aS sk sv c1 c2) (hi : i + 5 ≤ L) (hzz : INVz INV) (ag : agW INV i (f_X5_leftIn 0 (xs (i + 1))) (f_X6_leftIn (xs (i + 1))) (exCode [("java/util/NoSuchElementException", 1), ("java/lang/IllegalStateException", 2)]) ["java/util/NoSuchElementException", "java/lang/IllegalStateException"] (fun r q => r = q)) (hI : INV i S Sm) (hZ : LQ D w wm o1 o2 c1 c2 s.heap S Sm v1 v2 H locs cells slots) (hl : lv_has ls 9 (lawL w wm o1 o2 b i)) (hn : LN p l e s m args below meth c D w wm o1 o2 c1 c2 b INV Q i) : W p l e room_1 s m args below meth c H locs cells slots Q (F0 m 1209 ls []) := by
  obtain ⟨E, hf, hex, hrm, hrest⟩ := ag.use hzz hI H.size
  have hx := C.1.1
  have hb := C.1.2.1
  refine lv_aload_n hx hb dL_law_1209 rfl (lv_at hl 4 rfl) ?_
  refine lw_arg C hZ (j := 1) (jn := 1) rfl (by omega) (lv_at hl 5 rfl) (lv_at hl 0 rfl) dL_law_1210 dL_law_1211 dL_law_1213 dL_law_1214 dL_law_1215 ?_
  refine lv_aload_n hx hb dL_law_1216 rfl (lv_at hl 2 rfl) ?_
  refine lw_W (As := [.ref (w.2.2.2.2 0), .int (xs (i + 1)), .ref o1]) (rest := []) C.1 (EO := fun A => ENVO D w aS sk sv A c1 .long) C.2.1 (fun A => ENVO.ok) (fun A B U h1 h2 => h1.narrow h2) (fun A => c_L_leftIn l hfl D w aS sk sv A o1 c1 (xs (i + 1))) hf hex q857 q858 q39 q859 yd_L_leftIn ⟨by decide, by decide⟩ hrm hZ hl.1 rfl (by simp) dL_law_1217 (fun k v H1 locs1 cells1 slots1 hk hZ1 => ?_)
  refine W.eq (g2 := F0 m 1220 ls [.int k]) rfl ?_
  refine lv_istore (lv' := (6, .int k) :: lawL w wm o1 o2 b i) hx hb dL_law_1220 hl (by decide) rfl (fun ls hl => ?_)
  obtain ⟨Em, hg, hm, hrm2, hI2⟩ := hrest H1.size
  refine lv_aload_n hx hb dL_law_1222 rfl (lv_at hl 4 rfl) ?_
  refine lw_arg C hZ1 (j := 1) (jn := 1) rfl (by omega) (lv_at hl 6 rfl) (lv_at hl 1 rfl) dL_law_1223 dL_law_1224 dL_law_1226 dL_law_1227 dL_law_1228 ?_
  refine lw_M (As := [.int (xs (i + 1))]) (rest := []) C.1 C.2.2.2.1 (fun A => c_X6_leftIn l D wm A (xs (i + 1))) hg q1291 q1292 q1293 q46 q1294 yd_X6_leftIn ⟨by decide, by decide⟩ hrm2 hZ1 hl.1 rfl (by simp) dL_law_1229 (fun H2 locs2 cells2 slots2 hZ2 => ?_)
  refine W.eq (g2 := F0 m 1232 ls [.int Em.1]) rfl ?_
  refine lv_istore (lv' := (7, .int Em.1) :: (6, .int k) :: lawL w wm o1 o2 b i) hx hb dL_law_1232 hl (by decide) rfl (fun ls hl => ?_)
  obtain ⟨hth, hcmp⟩ := agW.tail (conv := (fun r : Int32 => .long r.toInt64)) (by decide +kernel) hex hk hm
  exact lw_tailI C hI2 hzz hn hrm2 hZ2 hth (fun h => by obtain ⟨r, h1, h2⟩ := hcmp h; rw [h1, h2]) hl dL_law_1234 dL_law_1235 dL_law_1238 dL_law_1240 dL_law_1245 dL_law_1247 dL_law_1250 dL_law_1251 dL_law_1252 dL_law_1253 dL_law_1255 dL_law_1256 dL_law_1257 dL_law_1262 (by decide)
set_option maxHeartbeats 4000000 in
set_option maxRecDepth 100000 in
theorem lc_faults (hfl : l.stackTraces = false) (C : LC p s m args c b L xs D w wm aS sk sv c1 c2) (hi : i + 5 ≤ L) (hzz : INVz INV) (ag : agW INV i (f_X5_faults 0 (xs (i + 1))) (f_X6_faults (xs (i + 1))) (exCode [("java/util/NoSuchElementException", 1)]) ["java/util/NoSuchElementException"] (fun r q => r = q)) (hI : INV i S Sm) (hZ : LQ D w wm o1 o2 c1 c2 s.heap S Sm v1 v2 H locs cells slots) (hl : lv_has ls 9 (lawL w wm o1 o2 b i)) (hn : LN p l e s m args below meth c D w wm o1 o2 c1 c2 b INV Q i) : W p l e room_1 s m args below meth c H locs cells slots Q (F0 m 1265 ls []) := by
  obtain ⟨E, hf, hex, hrm, hrest⟩ := ag.use hzz hI H.size
  have hx := C.1.1
  have hb := C.1.2.1
  refine lv_aload_n hx hb dL_law_1265 rfl (lv_at hl 4 rfl) ?_
  refine lw_arg C hZ (j := 1) (jn := 1) rfl (by omega) (lv_at hl 5 rfl) (lv_at hl 0 rfl) dL_law_1266 dL_law_1267 dL_law_1269 dL_law_1270 dL_law_1271 ?_
  refine lv_aload_n hx hb dL_law_1272 rfl (lv_at hl 2 rfl) ?_
  refine lw_W (As := [.ref (w.2.2.2.2 0), .int (xs (i + 1)), .ref o1]) (rest := []) C.1 (EO := fun A => ENVO D w aS sk sv A c1 .long) C.2.1 (fun A => ENVO.ok) (fun A B U h1 h2 => h1.narrow h2) (fun A => c_L_faults l hfl D w aS sk sv A o1 c1 (xs (i + 1))) hf hex q865 q866 q39 q867 yd_L_faults ⟨by decide, by decide⟩ hrm hZ hl.1 rfl (by simp) dL_law_1273 (fun k v H1 locs1 cells1 slots1 hk hZ1 => ?_)
  refine W.eq (g2 := F0 m 1276 ls [.int k]) rfl ?_
  refine lv_istore (lv' := (6, .int k) :: lawL w wm o1 o2 b i) hx hb dL_law_1276 hl (by decide) rfl (fun ls hl => ?_)
  obtain ⟨Em, hg, hm, hrm2, hI2⟩ := hrest H1.size
  refine lv_aload_n hx hb dL_law_1278 rfl (lv_at hl 4 rfl) ?_
  refine lw_arg C hZ1 (j := 1) (jn := 1) rfl (by omega) (lv_at hl 6 rfl) (lv_at hl 1 rfl) dL_law_1279 dL_law_1280 dL_law_1282 dL_law_1283 dL_law_1284 ?_
  refine lw_M (As := [.int (xs (i + 1))]) (rest := []) C.1 C.2.2.2.1 (fun A => c_X6_faults l D wm A (xs (i + 1))) hg q1295 q1296 q1297 q46 q1298 yd_X6_faults ⟨by decide, by decide⟩ hrm2 hZ1 hl.1 rfl (by simp) dL_law_1285 (fun H2 locs2 cells2 slots2 hZ2 => ?_)
  refine W.eq (g2 := F0 m 1288 ls [.int Em.1]) rfl ?_
  refine lv_istore (lv' := (7, .int Em.1) :: (6, .int k) :: lawL w wm o1 o2 b i) hx hb dL_law_1288 hl (by decide) rfl (fun ls hl => ?_)
  obtain ⟨hth, hcmp⟩ := agW.tail (conv := (fun r : Int32 => .long r.toInt64)) (by decide +kernel) hex hk hm
  exact lw_tailI C hI2 hzz hn hrm2 hZ2 hth (fun h => by obtain ⟨r, h1, h2⟩ := hcmp h; rw [h1, h2]) hl dL_law_1290 dL_law_1291 dL_law_1294 dL_law_1296 dL_law_1301 dL_law_1303 dL_law_1306 dL_law_1307 dL_law_1308 dL_law_1309 dL_law_1311 dL_law_1312 dL_law_1313 dL_law_1318 (by decide)
set_option maxHeartbeats 4000000 in
set_option maxRecDepth 100000 in
theorem lc_hasFault (hfl : l.stackTraces = false) (C : LC p s m args c b L xs D w wm aS sk sv c1 c2) (hi : i + 5 ≤ L) (hzz : INVz INV) (ag : agW INV i (f_X5_hasFault 0 (xs (i + 1)) (xs (i + 2))) (f_X6_hasFault (xs (i + 1)) (xs (i + 2))) (exCode [("java/util/NoSuchElementException", 1)]) ["java/util/NoSuchElementException"] (fun r q => r = q)) (hI : INV i S Sm) (hZ : LQ D w wm o1 o2 c1 c2 s.heap S Sm v1 v2 H locs cells slots) (hl : lv_has ls 9 (lawL w wm o1 o2 b i)) (hn : LN p l e s m args below meth c D w wm o1 o2 c1 c2 b INV Q i) : W p l e room_1 s m args below meth c H locs cells slots Q (F0 m 1321 ls []) := by
  obtain ⟨E, hf, hex, hrm, hrest⟩ := ag.use hzz hI H.size
  have hx := C.1.1
  have hb := C.1.2.1
  refine lv_aload_n hx hb dL_law_1321 rfl (lv_at hl 4 rfl) ?_
  refine lw_arg C hZ (j := 1) (jn := 1) rfl (by omega) (lv_at hl 5 rfl) (lv_at hl 0 rfl) dL_law_1322 dL_law_1323 dL_law_1325 dL_law_1326 dL_law_1327 ?_
  refine lw_arg C hZ (j := 2) (jn := 2) rfl (by omega) (lv_at hl 5 rfl) (lv_at hl 0 rfl) dL_law_1328 dL_law_1329 dL_law_1331 dL_law_1332 dL_law_1333 ?_
  refine lv_aload_n hx hb dL_law_1334 rfl (lv_at hl 2 rfl) ?_
  refine lw_W (As := [.ref (w.2.2.2.2 0), .int (xs (i + 1)), .int (xs (i + 2)), .ref o1]) (rest := []) C.1 (EO := fun A => ENVO D w aS sk sv A c1 .long) C.2.1 (fun A => ENVO.ok) (fun A B U h1 h2 => h1.narrow h2) (fun A => c_L_hasFault l hfl D w aS sk sv A o1 c1 (xs (i + 1)) (xs (i + 2))) hf hex q872 q873 q39 q874 yd_L_hasFault ⟨by decide, by decide⟩ hrm hZ hl.1 rfl (by simp) dL_law_1335 (fun k v H1 locs1 cells1 slots1 hk hZ1 => ?_)
  refine W.eq (g2 := F0 m 1338 ls [.int k]) rfl ?_
  refine lv_istore (lv' := (6, .int k) :: lawL w wm o1 o2 b i) hx hb dL_law_1338 hl (by decide) rfl (fun ls hl => ?_)
  obtain ⟨Em, hg, hm, hrm2, hI2⟩ := hrest H1.size
  refine lv_aload_n hx hb dL_law_1340 rfl (lv_at hl 4 rfl) ?_
  refine lw_arg C hZ1 (j := 1) (jn := 1) rfl (by omega) (lv_at hl 6 rfl) (lv_at hl 1 rfl) dL_law_1341 dL_law_1342 dL_law_1344 dL_law_1345 dL_law_1346 ?_
  refine lw_arg C hZ1 (j := 2) (jn := 2) rfl (by omega) (lv_at hl 6 rfl) (lv_at hl 1 rfl) dL_law_1347 dL_law_1348 dL_law_1350 dL_law_1351 dL_law_1352 ?_
  refine lw_M (As := [.int (xs (i + 1)), .int (xs (i + 2))]) (rest := []) C.1 C.2.2.2.1 (fun A => c_X6_hasFault l D wm A (xs (i + 1)) (xs (i + 2))) hg q1299 q1300 q1301 q46 q1302 yd_X6_hasFault ⟨by decide, by decide⟩ hrm2 hZ1 hl.1 rfl (by simp) dL_law_1353 (fun H2 locs2 cells2 slots2 hZ2 => ?_)
  refine W.eq (g2 := F0 m 1356 ls [.int Em.1]) rfl ?_
  refine lv_istore (lv' := (7, .int Em.1) :: (6, .int k) :: lawL w wm o1 o2 b i) hx hb dL_law_1356 hl (by decide) rfl (fun ls hl => ?_)
  obtain ⟨hth, hcmp⟩ := agW.tail (conv := (fun r : Int32 => .long (if r = 0 then 0 else 1))) (by decide +kernel) hex hk hm
  exact lw_tailZ C hI2 hzz hn hrm2 hZ2 hth (fun h => by obtain ⟨r, h1, h2⟩ := hcmp h; rw [h1, h2]) hl dL_law_1358 dL_law_1359 dL_law_1362 dL_law_1364 dL_law_1369 dL_law_1371 dL_law_1374 dL_law_1375 dL_law_1376 dL_law_1377 dL_law_1379 dL_law_1382 dL_law_1383 dL_law_1386 dL_law_1387 dL_law_1388 dL_law_1393 (by decide)
set_option maxHeartbeats 4000000 in
set_option maxRecDepth 100000 in
theorem lc_lacks (hfl : l.stackTraces = false) (C : LC p s m args c b L xs D w wm aS sk sv c1 c2) (hi : i + 5 ≤ L) (hzz : INVz INV) (ag : agW INV i (f_X5_lacks 0 (xs (i + 1))) (f_X6_lacks (xs (i + 1))) (exCode [("java/util/NoSuchElementException", 1)]) ["java/util/NoSuchElementException"] (fun r q => r = q)) (hI : INV i S Sm) (hZ : LQ D w wm o1 o2 c1 c2 s.heap S Sm v1 v2 H locs cells slots) (hl : lv_has ls 9 (lawL w wm o1 o2 b i)) (hn : LN p l e s m args below meth c D w wm o1 o2 c1 c2 b INV Q i) : W p l e room_1 s m args below meth c H locs cells slots Q (F0 m 1396 ls []) := by
  obtain ⟨E, hf, hex, hrm, hrest⟩ := ag.use hzz hI H.size
  have hx := C.1.1
  have hb := C.1.2.1
  refine lv_aload_n hx hb dL_law_1396 rfl (lv_at hl 4 rfl) ?_
  refine lw_arg C hZ (j := 1) (jn := 1) rfl (by omega) (lv_at hl 5 rfl) (lv_at hl 0 rfl) dL_law_1397 dL_law_1398 dL_law_1400 dL_law_1401 dL_law_1402 ?_
  refine lv_aload_n hx hb dL_law_1403 rfl (lv_at hl 2 rfl) ?_
  refine lw_W (As := [.ref (w.2.2.2.2 0), .int (xs (i + 1)), .ref o1]) (rest := []) C.1 (EO := fun A => ENVO D w aS sk sv A c1 .long) C.2.1 (fun A => ENVO.ok) (fun A B U h1 h2 => h1.narrow h2) (fun A => c_L_lacks l hfl D w aS sk sv A o1 c1 (xs (i + 1))) hf hex q879 q880 q39 q881 yd_L_lacks ⟨by decide, by decide⟩ hrm hZ hl.1 rfl (by simp) dL_law_1404 (fun k v H1 locs1 cells1 slots1 hk hZ1 => ?_)
  refine W.eq (g2 := F0 m 1407 ls [.int k]) rfl ?_
  refine lv_istore (lv' := (6, .int k) :: lawL w wm o1 o2 b i) hx hb dL_law_1407 hl (by decide) rfl (fun ls hl => ?_)
  obtain ⟨Em, hg, hm, hrm2, hI2⟩ := hrest H1.size
  refine lv_aload_n hx hb dL_law_1409 rfl (lv_at hl 4 rfl) ?_
  refine lw_arg C hZ1 (j := 1) (jn := 1) rfl (by omega) (lv_at hl 6 rfl) (lv_at hl 1 rfl) dL_law_1410 dL_law_1411 dL_law_1413 dL_law_1414 dL_law_1415 ?_
  refine lw_M (As := [.int (xs (i + 1))]) (rest := []) C.1 C.2.2.2.1 (fun A => c_X6_lacks l D wm A (xs (i + 1))) hg q1303 q1304 q1305 q46 q1306 yd_X6_lacks ⟨by decide, by decide⟩ hrm2 hZ1 hl.1 rfl (by simp) dL_law_1416 (fun H2 locs2 cells2 slots2 hZ2 => ?_)
  refine W.eq (g2 := F0 m 1419 ls [.int Em.1]) rfl ?_
  refine lv_istore (lv' := (7, .int Em.1) :: (6, .int k) :: lawL w wm o1 o2 b i) hx hb dL_law_1419 hl (by decide) rfl (fun ls hl => ?_)
  obtain ⟨hth, hcmp⟩ := agW.tail (conv := (fun r : Int32 => .long r.toInt64)) (by decide +kernel) hex hk hm
  exact lw_tailI C hI2 hzz hn hrm2 hZ2 hth (fun h => by obtain ⟨r, h1, h2⟩ := hcmp h; rw [h1, h2]) hl dL_law_1421 dL_law_1422 dL_law_1425 dL_law_1427 dL_law_1432 dL_law_1434 dL_law_1437 dL_law_1438 dL_law_1439 dL_law_1440 dL_law_1442 dL_law_1443 dL_law_1444 dL_law_1449 (by decide)
set_option maxHeartbeats 4000000 in
set_option maxRecDepth 100000 in
theorem lc_lacksOf (hfl : l.stackTraces = false) (C : LC p s m args c b L xs D w wm aS sk sv c1 c2) (hi : i + 5 ≤ L) (hzz : INVz INV) (ag : agW INV i (f_X5_lacksOf 0 (xs (i + 1))) (f_X6_lacksOf (xs (i + 1))) (exCode [("java/util/NoSuchElementException", 1)]) ["java/util/NoSuchElementException"] (fun r q => r = q)) (hI : INV i S Sm) (hZ : LQ D w wm o1 o2 c1 c2 s.heap S Sm v1 v2 H locs cells slots) (hl : lv_has ls 9 (lawL w wm o1 o2 b i)) (hn : LN p l e s m args below meth c D w wm o1 o2 c1 c2 b INV Q i) : W p l e room_1 s m args below meth c H locs cells slots Q (F0 m 1452 ls []) := by
  obtain ⟨E, hf, hex, hrm, hrest⟩ := ag.use hzz hI H.size
  have hx := C.1.1
  have hb := C.1.2.1
  refine lv_aload_n hx hb dL_law_1452 rfl (lv_at hl 4 rfl) ?_
  refine lw_arg C hZ (j := 1) (jn := 1) rfl (by omega) (lv_at hl 5 rfl) (lv_at hl 0 rfl) dL_law_1453 dL_law_1454 dL_law_1456 dL_law_1457 dL_law_1458 ?_
  refine lv_aload_n hx hb dL_law_1459 rfl (lv_at hl 2 rfl) ?_
  refine lw_W (As := [.ref (w.2.2.2.2 0), .int (xs (i + 1)), .ref o1]) (rest := []) C.1 (EO := fun A => ENVO D w aS sk sv A c1 .long) C.2.1 (fun A => ENVO.ok) (fun A B U h1 h2 => h1.narrow h2) (fun A => c_L_lacksOf l hfl D w aS sk sv A o1 c1 (xs (i + 1))) hf hex q886 q887 q39 q888 yd_L_lacksOf ⟨by decide, by decide⟩ hrm hZ hl.1 rfl (by simp) dL_law_1460 (fun k v H1 locs1 cells1 slots1 hk hZ1 => ?_)
  refine W.eq (g2 := F0 m 1463 ls [.int k]) rfl ?_
  refine lv_istore (lv' := (6, .int k) :: lawL w wm o1 o2 b i) hx hb dL_law_1463 hl (by decide) rfl (fun ls hl => ?_)
  obtain ⟨Em, hg, hm, hrm2, hI2⟩ := hrest H1.size
  refine lv_aload_n hx hb dL_law_1465 rfl (lv_at hl 4 rfl) ?_
  refine lw_arg C hZ1 (j := 1) (jn := 1) rfl (by omega) (lv_at hl 6 rfl) (lv_at hl 1 rfl) dL_law_1466 dL_law_1467 dL_law_1469 dL_law_1470 dL_law_1471 ?_
  refine lw_M (As := [.int (xs (i + 1))]) (rest := []) C.1 C.2.2.2.1 (fun A => c_X6_lacksOf l D wm A (xs (i + 1))) hg q1307 q1308 q1309 q46 q1310 yd_X6_lacksOf ⟨by decide, by decide⟩ hrm2 hZ1 hl.1 rfl (by simp) dL_law_1472 (fun H2 locs2 cells2 slots2 hZ2 => ?_)
  refine W.eq (g2 := F0 m 1475 ls [.int Em.1]) rfl ?_
  refine lv_istore (lv' := (7, .int Em.1) :: (6, .int k) :: lawL w wm o1 o2 b i) hx hb dL_law_1475 hl (by decide) rfl (fun ls hl => ?_)
  obtain ⟨hth, hcmp⟩ := agW.tail (conv := (fun r : Int32 => .long r.toInt64)) (by decide +kernel) hex hk hm
  exact lw_tailI C hI2 hzz hn hrm2 hZ2 hth (fun h => by obtain ⟨r, h1, h2⟩ := hcmp h; rw [h1, h2]) hl dL_law_1477 dL_law_1478 dL_law_1481 dL_law_1483 dL_law_1488 dL_law_1490 dL_law_1493 dL_law_1494 dL_law_1495 dL_law_1496 dL_law_1498 dL_law_1499 dL_law_1500 dL_law_1505 (by decide)
set_option maxHeartbeats 4000000 in
set_option maxRecDepth 100000 in
theorem lc_onShelf (hfl : l.stackTraces = false) (C : LC p s m args c b L xs D w wm aS sk sv c1 c2) (hi : i + 5 ≤ L) (hzz : INVz INV) (ag : agW INV i (f_X5_onShelf 0 (xs (i + 1))) (f_X6_onShelf (xs (i + 1))) (exCode [("java/util/NoSuchElementException", 1)]) ["java/util/NoSuchElementException"] (fun r q => r = q)) (hI : INV i S Sm) (hZ : LQ D w wm o1 o2 c1 c2 s.heap S Sm v1 v2 H locs cells slots) (hl : lv_has ls 9 (lawL w wm o1 o2 b i)) (hn : LN p l e s m args below meth c D w wm o1 o2 c1 c2 b INV Q i) : W p l e room_1 s m args below meth c H locs cells slots Q (F0 m 1508 ls []) := by
  obtain ⟨E, hf, hex, hrm, hrest⟩ := ag.use hzz hI H.size
  have hx := C.1.1
  have hb := C.1.2.1
  refine lv_aload_n hx hb dL_law_1508 rfl (lv_at hl 4 rfl) ?_
  refine lw_arg C hZ (j := 1) (jn := 1) rfl (by omega) (lv_at hl 5 rfl) (lv_at hl 0 rfl) dL_law_1509 dL_law_1510 dL_law_1512 dL_law_1513 dL_law_1514 ?_
  refine lv_aload_n hx hb dL_law_1515 rfl (lv_at hl 2 rfl) ?_
  refine lw_W (As := [.ref (w.2.2.2.2 0), .int (xs (i + 1)), .ref o1]) (rest := []) C.1 (EO := fun A => ENVO D w aS sk sv A c1 .long) C.2.1 (fun A => ENVO.ok) (fun A B U h1 h2 => h1.narrow h2) (fun A => c_L_onShelf l hfl D w aS sk sv A o1 c1 (xs (i + 1))) hf hex q893 q894 q39 q895 yd_L_onShelf ⟨by decide, by decide⟩ hrm hZ hl.1 rfl (by simp) dL_law_1516 (fun k v H1 locs1 cells1 slots1 hk hZ1 => ?_)
  refine W.eq (g2 := F0 m 1519 ls [.int k]) rfl ?_
  refine lv_istore (lv' := (6, .int k) :: lawL w wm o1 o2 b i) hx hb dL_law_1519 hl (by decide) rfl (fun ls hl => ?_)
  obtain ⟨Em, hg, hm, hrm2, hI2⟩ := hrest H1.size
  refine lv_aload_n hx hb dL_law_1521 rfl (lv_at hl 4 rfl) ?_
  refine lw_arg C hZ1 (j := 1) (jn := 1) rfl (by omega) (lv_at hl 6 rfl) (lv_at hl 1 rfl) dL_law_1522 dL_law_1523 dL_law_1525 dL_law_1526 dL_law_1527 ?_
  refine lw_M (As := [.int (xs (i + 1))]) (rest := []) C.1 C.2.2.2.1 (fun A => c_X6_onShelf l D wm A (xs (i + 1))) hg q1311 q1312 q1313 q46 q1314 yd_X6_onShelf ⟨by decide, by decide⟩ hrm2 hZ1 hl.1 rfl (by simp) dL_law_1528 (fun H2 locs2 cells2 slots2 hZ2 => ?_)
  refine W.eq (g2 := F0 m 1531 ls [.int Em.1]) rfl ?_
  refine lv_istore (lv' := (7, .int Em.1) :: (6, .int k) :: lawL w wm o1 o2 b i) hx hb dL_law_1531 hl (by decide) rfl (fun ls hl => ?_)
  obtain ⟨hth, hcmp⟩ := agW.tail (conv := (fun r : Int32 => .long r.toInt64)) (by decide +kernel) hex hk hm
  exact lw_tailI C hI2 hzz hn hrm2 hZ2 hth (fun h => by obtain ⟨r, h1, h2⟩ := hcmp h; rw [h1, h2]) hl dL_law_1533 dL_law_1534 dL_law_1537 dL_law_1539 dL_law_1544 dL_law_1546 dL_law_1549 dL_law_1550 dL_law_1551 dL_law_1552 dL_law_1554 dL_law_1555 dL_law_1556 dL_law_1561 (by decide)
set_option maxHeartbeats 4000000 in
set_option maxRecDepth 100000 in
theorem lc_inStore (hfl : l.stackTraces = false) (C : LC p s m args c b L xs D w wm aS sk sv c1 c2) (hi : i + 5 ≤ L) (hzz : INVz INV) (ag : agW INV i (f_X5_inStore 0 (xs (i + 1))) (f_X6_inStore (xs (i + 1))) (exCode [("java/util/NoSuchElementException", 1)]) ["java/util/NoSuchElementException"] (fun r q => r = q)) (hI : INV i S Sm) (hZ : LQ D w wm o1 o2 c1 c2 s.heap S Sm v1 v2 H locs cells slots) (hl : lv_has ls 9 (lawL w wm o1 o2 b i)) (hn : LN p l e s m args below meth c D w wm o1 o2 c1 c2 b INV Q i) : W p l e room_1 s m args below meth c H locs cells slots Q (F0 m 1564 ls []) := by
  obtain ⟨E, hf, hex, hrm, hrest⟩ := ag.use hzz hI H.size
  have hx := C.1.1
  have hb := C.1.2.1
  refine lv_aload_n hx hb dL_law_1564 rfl (lv_at hl 4 rfl) ?_
  refine lw_arg C hZ (j := 1) (jn := 1) rfl (by omega) (lv_at hl 5 rfl) (lv_at hl 0 rfl) dL_law_1565 dL_law_1566 dL_law_1568 dL_law_1569 dL_law_1570 ?_
  refine lv_aload_n hx hb dL_law_1571 rfl (lv_at hl 2 rfl) ?_
  refine lw_W (As := [.ref (w.2.2.2.2 0), .int (xs (i + 1)), .ref o1]) (rest := []) C.1 (EO := fun A => ENVO D w aS sk sv A c1 .long) C.2.1 (fun A => ENVO.ok) (fun A B U h1 h2 => h1.narrow h2) (fun A => c_L_inStore l hfl D w aS sk sv A o1 c1 (xs (i + 1))) hf hex q900 q901 q39 q902 yd_L_inStore ⟨by decide, by decide⟩ hrm hZ hl.1 rfl (by simp) dL_law_1572 (fun k v H1 locs1 cells1 slots1 hk hZ1 => ?_)
  refine W.eq (g2 := F0 m 1575 ls [.int k]) rfl ?_
  refine lv_istore (lv' := (6, .int k) :: lawL w wm o1 o2 b i) hx hb dL_law_1575 hl (by decide) rfl (fun ls hl => ?_)
  obtain ⟨Em, hg, hm, hrm2, hI2⟩ := hrest H1.size
  refine lv_aload_n hx hb dL_law_1577 rfl (lv_at hl 4 rfl) ?_
  refine lw_arg C hZ1 (j := 1) (jn := 1) rfl (by omega) (lv_at hl 6 rfl) (lv_at hl 1 rfl) dL_law_1578 dL_law_1579 dL_law_1581 dL_law_1582 dL_law_1583 ?_
  refine lw_M (As := [.int (xs (i + 1))]) (rest := []) C.1 C.2.2.2.1 (fun A => c_X6_inStore l D wm A (xs (i + 1))) hg q1315 q1316 q1317 q46 q1318 yd_X6_inStore ⟨by decide, by decide⟩ hrm2 hZ1 hl.1 rfl (by simp) dL_law_1584 (fun H2 locs2 cells2 slots2 hZ2 => ?_)
  refine W.eq (g2 := F0 m 1587 ls [.int Em.1]) rfl ?_
  refine lv_istore (lv' := (7, .int Em.1) :: (6, .int k) :: lawL w wm o1 o2 b i) hx hb dL_law_1587 hl (by decide) rfl (fun ls hl => ?_)
  obtain ⟨hth, hcmp⟩ := agW.tail (conv := (fun r : Int32 => .long r.toInt64)) (by decide +kernel) hex hk hm
  exact lw_tailI C hI2 hzz hn hrm2 hZ2 hth (fun h => by obtain ⟨r, h1, h2⟩ := hcmp h; rw [h1, h2]) hl dL_law_1589 dL_law_1590 dL_law_1593 dL_law_1595 dL_law_1600 dL_law_1602 dL_law_1605 dL_law_1606 dL_law_1607 dL_law_1608 dL_law_1610 dL_law_1611 dL_law_1612 dL_law_1617 (by decide)
set_option maxHeartbeats 4000000 in
set_option maxRecDepth 100000 in
theorem lc_nextRound (hfl : l.stackTraces = false) (C : LC p s m args c b L xs D w wm aS sk sv c1 c2) (hi : i + 5 ≤ L) (hzz : INVz INV) (ag : agP INV i (f_X5_nextRound 0) f_X6_nextRound) (hI : INV i S Sm) (hZ : LQ D w wm o1 o2 c1 c2 s.heap S Sm v1 v2 H locs cells slots) (hl : lv_has ls 9 (lawL w wm o1 o2 b i)) (hn : LN p l e s m args below meth c D w wm o1 o2 c1 c2 b INV Q i) : W p l e room_1 s m args below meth c H locs cells slots Q (F0 m 1620 ls []) := by
  obtain ⟨E, hf, hrm, hrest⟩ := ag.use hzz hI H.size
  have hx := C.1.1
  have hb := C.1.2.1
  refine lv_aload_n hx hb dL_law_1620 rfl (lv_at hl 4 rfl) ?_
  refine lw_X (rest := []) C.1 C.2.1.1 (fun A => c_X5_nextRound l D w aS sk sv A 0) hf q281 q282 q283 q40 q284 yd_X5_nextRound ⟨by decide, by decide⟩ hrm hZ hl.1 rfl (by simp) dL_law_1621 (fun H1 locs1 cells1 slots1 hZ1 => ?_)
  refine W.eq (g2 := F0 m 1624 ls [.int E.1]) rfl ?_
  obtain ⟨Em, hg, hsame, hrm2, hI2⟩ := hrest H1.size
  refine lv_aload_n hx hb dL_law_1624 rfl (lv_at hl 3 rfl) ?_
  refine lw_M (As := []) (rest := [.int E.1]) C.1 C.2.2.2.1 (fun A => c_X6_nextRound l D wm A) hg q1319 q1320 q1321 q46 q1322 yd_X6_nextRound ⟨by decide, by decide⟩ hrm2 hZ1 hl.1 rfl (by simp [vc_i]) dL_law_1625 (fun H2 locs2 cells2 slots2 hZ2 => ?_)
  refine W.eq (g2 := F0 m 1628 ls [.int Em.1, .int E.1]) rfl ?_
  refine lv_icmp_eq (tgt := 2116) hx hb dL_law_1628 (by decide) (fun _ => ?_) (fun h9 => absurd hsame h9)
  exact hn _ _ _ _ _ _ _ _ _ hI2 hZ2 hl
set_option maxHeartbeats 4000000 in
set_option maxRecDepth 100000 in
theorem lc_leavesIn (hfl : l.stackTraces = false) (C : LC p s m args c b L xs D w wm aS sk sv c1 c2) (hi : i + 5 ≤ L) (hzz : INVz INV) (ag : agW INV i (f_X5_leavesIn 0 (xs (i + 1))) (f_X6_leavesIn (xs (i + 1))) (exCode [("java/util/NoSuchElementException", 1), ("java/lang/IllegalStateException", 2), ("java/lang/UnsupportedOperationException", 3)]) ["java/util/NoSuchElementException", "java/lang/IllegalStateException", "java/lang/UnsupportedOperationException"] (fun r q => r = q)) (hI : INV i S Sm) (hZ : LQ D w wm o1 o2 c1 c2 s.heap S Sm v1 v2 H locs cells slots) (hl : lv_has ls 9 (lawL w wm o1 o2 b i)) (hn : LN p l e s m args below meth c D w wm o1 o2 c1 c2 b INV Q i) : W p l e room_1 s m args below meth c H locs cells slots Q (F0 m 1633 ls []) := by
  obtain ⟨E, hf, hex, hrm, hrest⟩ := ag.use hzz hI H.size
  have hx := C.1.1
  have hb := C.1.2.1
  refine lv_aload_n hx hb dL_law_1633 rfl (lv_at hl 4 rfl) ?_
  refine lw_arg C hZ (j := 1) (jn := 1) rfl (by omega) (lv_at hl 5 rfl) (lv_at hl 0 rfl) dL_law_1634 dL_law_1635 dL_law_1637 dL_law_1638 dL_law_1639 ?_
  refine lv_aload_n hx hb dL_law_1640 rfl (lv_at hl 2 rfl) ?_
  refine lw_W (As := [.ref (w.2.2.2.2 0), .int (xs (i + 1)), .ref o1]) (rest := []) C.1 (EO := fun A => ENVO D w aS sk sv A c1 .long) C.2.1 (fun A => ENVO.ok) (fun A B U h1 h2 => h1.narrow h2) (fun A => c_L_leavesIn l hfl D w aS sk sv A o1 c1 (xs (i + 1))) hf hex q907 q908 q39 q909 yd_L_leavesIn ⟨by decide, by decide⟩ hrm hZ hl.1 rfl (by simp) dL_law_1641 (fun k v H1 locs1 cells1 slots1 hk hZ1 => ?_)
  refine W.eq (g2 := F0 m 1644 ls [.int k]) rfl ?_
  refine lv_istore (lv' := (6, .int k) :: lawL w wm o1 o2 b i) hx hb dL_law_1644 hl (by decide) rfl (fun ls hl => ?_)
  obtain ⟨Em, hg, hm, hrm2, hI2⟩ := hrest H1.size
  refine lv_aload_n hx hb dL_law_1646 rfl (lv_at hl 4 rfl) ?_
  refine lw_arg C hZ1 (j := 1) (jn := 1) rfl (by omega) (lv_at hl 6 rfl) (lv_at hl 1 rfl) dL_law_1647 dL_law_1648 dL_law_1650 dL_law_1651 dL_law_1652 ?_
  refine lw_M (As := [.int (xs (i + 1))]) (rest := []) C.1 C.2.2.2.1 (fun A => c_X6_leavesIn l D wm A (xs (i + 1))) hg q1323 q1324 q1325 q46 q1326 yd_X6_leavesIn ⟨by decide, by decide⟩ hrm2 hZ1 hl.1 rfl (by simp) dL_law_1653 (fun H2 locs2 cells2 slots2 hZ2 => ?_)
  refine W.eq (g2 := F0 m 1656 ls [.int Em.1]) rfl ?_
  refine lv_istore (lv' := (7, .int Em.1) :: (6, .int k) :: lawL w wm o1 o2 b i) hx hb dL_law_1656 hl (by decide) rfl (fun ls hl => ?_)
  obtain ⟨hth, hcmp⟩ := agW.tail (conv := (fun r : Int32 => .long r.toInt64)) (by decide +kernel) hex hk hm
  exact lw_tailI C hI2 hzz hn hrm2 hZ2 hth (fun h => by obtain ⟨r, h1, h2⟩ := hcmp h; rw [h1, h2]) hl dL_law_1658 dL_law_1659 dL_law_1662 dL_law_1664 dL_law_1669 dL_law_1671 dL_law_1674 dL_law_1675 dL_law_1676 dL_law_1677 dL_law_1679 dL_law_1680 dL_law_1681 dL_law_1686 (by decide)
set_option maxHeartbeats 4000000 in
set_option maxRecDepth 100000 in
theorem lc_leavesByTicks (hfl : l.stackTraces = false) (C : LC p s m args c b L xs D w wm aS sk sv c1 c2) (hi : i + 5 ≤ L) (hzz : INVz INV) (ag : agW INV i (f_X5_leavesByTicks 0 (xs (i + 1))) (f_X6_leavesByTicks (xs (i + 1))) (exCode [("java/util/NoSuchElementException", 1), ("java/lang/IllegalStateException", 2), ("java/lang/UnsupportedOperationException", 3)]) ["java/util/NoSuchElementException", "java/lang/IllegalStateException", "java/lang/UnsupportedOperationException"] (fun r q => r = q)) (hI : INV i S Sm) (hZ : LQ D w wm o1 o2 c1 c2 s.heap S Sm v1 v2 H locs cells slots) (hl : lv_has ls 9 (lawL w wm o1 o2 b i)) (hn : LN p l e s m args below meth c D w wm o1 o2 c1 c2 b INV Q i) : W p l e room_1 s m args below meth c H locs cells slots Q (F0 m 1689 ls []) := by
  obtain ⟨E, hf, hex, hrm, hrest⟩ := ag.use hzz hI H.size
  have hx := C.1.1
  have hb := C.1.2.1
  refine lv_aload_n hx hb dL_law_1689 rfl (lv_at hl 4 rfl) ?_
  refine lw_arg C hZ (j := 1) (jn := 1) rfl (by omega) (lv_at hl 5 rfl) (lv_at hl 0 rfl) dL_law_1690 dL_law_1691 dL_law_1693 dL_law_1694 dL_law_1695 ?_
  refine lv_aload_n hx hb dL_law_1696 rfl (lv_at hl 2 rfl) ?_
  refine lw_W (As := [.ref (w.2.2.2.2 0), .int (xs (i + 1)), .ref o1]) (rest := []) C.1 (EO := fun A => ENVO D w aS sk sv A c1 .long) C.2.1 (fun A => ENVO.ok) (fun A B U h1 h2 => h1.narrow h2) (fun A => c_L_leavesByTicks l hfl D w aS sk sv A o1 c1 (xs (i + 1))) hf hex q967 q968 q39 q969 yd_L_leavesByTicks ⟨by decide, by decide⟩ hrm hZ hl.1 rfl (by simp) dL_law_1697 (fun k v H1 locs1 cells1 slots1 hk hZ1 => ?_)
  refine W.eq (g2 := F0 m 1700 ls [.int k]) rfl ?_
  refine lv_istore (lv' := (6, .int k) :: lawL w wm o1 o2 b i) hx hb dL_law_1700 hl (by decide) rfl (fun ls hl => ?_)
  obtain ⟨Em, hg, hm, hrm2, hI2⟩ := hrest H1.size
  refine lv_aload_n hx hb dL_law_1702 rfl (lv_at hl 4 rfl) ?_
  refine lw_arg C hZ1 (j := 1) (jn := 1) rfl (by omega) (lv_at hl 6 rfl) (lv_at hl 1 rfl) dL_law_1703 dL_law_1704 dL_law_1706 dL_law_1707 dL_law_1708 ?_
  refine lw_M (As := [.int (xs (i + 1))]) (rest := []) C.1 C.2.2.2.1 (fun A => c_X6_leavesByTicks l D wm A (xs (i + 1))) hg q1335 q1336 q1337 q46 q1338 yd_X6_leavesByTicks ⟨by decide, by decide⟩ hrm2 hZ1 hl.1 rfl (by simp) dL_law_1709 (fun H2 locs2 cells2 slots2 hZ2 => ?_)
  refine W.eq (g2 := F0 m 1712 ls [.int Em.1]) rfl ?_
  refine lv_istore (lv' := (7, .int Em.1) :: (6, .int k) :: lawL w wm o1 o2 b i) hx hb dL_law_1712 hl (by decide) rfl (fun ls hl => ?_)
  obtain ⟨hth, hcmp⟩ := agW.tail (conv := (fun r : Int32 => .long r.toInt64)) (by decide +kernel) hex hk hm
  exact lw_tailI C hI2 hzz hn hrm2 hZ2 hth (fun h => by obtain ⟨r, h1, h2⟩ := hcmp h; rw [h1, h2]) hl dL_law_1714 dL_law_1715 dL_law_1718 dL_law_1720 dL_law_1725 dL_law_1727 dL_law_1730 dL_law_1731 dL_law_1732 dL_law_1733 dL_law_1735 dL_law_1736 dL_law_1737 dL_law_1742 (by decide)
set_option maxHeartbeats 4000000 in
set_option maxRecDepth 100000 in
theorem lc_nextToLeave (hfl : l.stackTraces = false) (C : LC p s m args c b L xs D w wm aS sk sv c1 c2) (hi : i + 5 ≤ L) (hzz : INVz INV) (ag : agW INV i (f_X5_nextToLeave 0 ) (f_X6_nextToLeave ) (exCode [("java/util/NoSuchElementException", 1)]) ["java/util/NoSuchElementException"] (fun r q => r = q)) (hI : INV i S Sm) (hZ : LQ D w wm o1 o2 c1 c2 s.heap S Sm v1 v2 H locs cells slots) (hl : lv_has ls 9 (lawL w wm o1 o2 b i)) (hn : LN p l e s m args below meth c D w wm o1 o2 c1 c2 b INV Q i) : W p l e room_1 s m args below meth c H locs cells slots Q (F0 m 1745 ls []) := by
  obtain ⟨E, hf, hex, hrm, hrest⟩ := ag.use hzz hI H.size
  have hx := C.1.1
  have hb := C.1.2.1
  refine lv_aload_n hx hb dL_law_1745 rfl (lv_at hl 4 rfl) ?_
  refine lv_aload_n hx hb dL_law_1746 rfl (lv_at hl 2 rfl) ?_
  refine lw_W (As := [.ref (w.2.2.2.2 0), .ref o1]) (rest := []) C.1 (EO := fun A => ENVO D w aS sk sv A c1 .long) C.2.1 (fun A => ENVO.ok) (fun A B U h1 h2 => h1.narrow h2) (fun A => c_L_nextToLeave l hfl D w aS sk sv A o1 c1 ) hf hex q974 q975 q39 q976 yd_L_nextToLeave ⟨by decide, by decide⟩ hrm hZ hl.1 rfl (by simp) dL_law_1747 (fun k v H1 locs1 cells1 slots1 hk hZ1 => ?_)
  refine W.eq (g2 := F0 m 1750 ls [.int k]) rfl ?_
  refine lv_istore (lv' := (6, .int k) :: lawL w wm o1 o2 b i) hx hb dL_law_1750 hl (by decide) rfl (fun ls hl => ?_)
  obtain ⟨Em, hg, hm, hrm2, hI2⟩ := hrest H1.size
  refine lv_aload_n hx hb dL_law_1752 rfl (lv_at hl 4 rfl) ?_
  refine lw_M (As := []) (rest := []) C.1 C.2.2.2.1 (fun A => c_X6_nextToLeave l D wm A ) hg q1340 q1341 q1342 q46 q1343 yd_X6_nextToLeave ⟨by decide, by decide⟩ hrm2 hZ1 hl.1 rfl (by simp) dL_law_1753 (fun H2 locs2 cells2 slots2 hZ2 => ?_)
  refine W.eq (g2 := F0 m 1756 ls [.int Em.1]) rfl ?_
  refine lv_istore (lv' := (7, .int Em.1) :: (6, .int k) :: lawL w wm o1 o2 b i) hx hb dL_law_1756 hl (by decide) rfl (fun ls hl => ?_)
  obtain ⟨hth, hcmp⟩ := agW.tail (conv := (fun r : Int32 => .long r.toInt64)) (by decide +kernel) hex hk hm
  exact lw_tailI C hI2 hzz hn hrm2 hZ2 hth (fun h => by obtain ⟨r, h1, h2⟩ := hcmp h; rw [h1, h2]) hl dL_law_1758 dL_law_1759 dL_law_1762 dL_law_1764 dL_law_1769 dL_law_1771 dL_law_1774 dL_law_1775 dL_law_1776 dL_law_1777 dL_law_1779 dL_law_1780 dL_law_1781 dL_law_1786 (by decide)
set_option maxHeartbeats 4000000 in
set_option maxRecDepth 100000 in
theorem lc_traceLength (hfl : l.stackTraces = false) (C : LC p s m args c b L xs D w wm aS sk sv c1 c2) (hi : i + 5 ≤ L) (hzz : INVz INV) (ag : agW INV i (f_X5_traceLength 0 (xs (i + 1))) (f_X6_traceLength (xs (i + 1))) (exCode [("java/util/NoSuchElementException", 1)]) ["java/util/NoSuchElementException"] (fun r q => r = q)) (hI : INV i S Sm) (hZ : LQ D w wm o1 o2 c1 c2 s.heap S Sm v1 v2 H locs cells slots) (hl : lv_has ls 9 (lawL w wm o1 o2 b i)) (hn : LN p l e s m args below meth c D w wm o1 o2 c1 c2 b INV Q i) : W p l e room_1 s m args below meth c H locs cells slots Q (F0 m 1789 ls []) := by
  obtain ⟨E, hf, hex, hrm, hrest⟩ := ag.use hzz hI H.size
  have hx := C.1.1
  have hb := C.1.2.1
  refine lv_aload_n hx hb dL_law_1789 rfl (lv_at hl 4 rfl) ?_
  refine lw_arg C hZ (j := 1) (jn := 1) rfl (by omega) (lv_at hl 5 rfl) (lv_at hl 0 rfl) dL_law_1790 dL_law_1791 dL_law_1793 dL_law_1794 dL_law_1795 ?_
  refine lv_aload_n hx hb dL_law_1796 rfl (lv_at hl 2 rfl) ?_
  refine lw_W (As := [.ref (w.2.2.2.2 0), .int (xs (i + 1)), .ref o1]) (rest := []) C.1 (EO := fun A => ENVO D w aS sk sv A c1 .long) C.2.1 (fun A => ENVO.ok) (fun A B U h1 h2 => h1.narrow h2) (fun A => c_L_traceLength l hfl D w aS sk sv A o1 c1 (xs (i + 1))) hf hex q982 q983 q39 q984 yd_L_traceLength ⟨by decide, by decide⟩ hrm hZ hl.1 rfl (by simp) dL_law_1797 (fun k v H1 locs1 cells1 slots1 hk hZ1 => ?_)
  refine W.eq (g2 := F0 m 1800 ls [.int k]) rfl ?_
  refine lv_istore (lv' := (6, .int k) :: lawL w wm o1 o2 b i) hx hb dL_law_1800 hl (by decide) rfl (fun ls hl => ?_)
  obtain ⟨Em, hg, hm, hrm2, hI2⟩ := hrest H1.size
  refine lv_aload_n hx hb dL_law_1802 rfl (lv_at hl 4 rfl) ?_
  refine lw_arg C hZ1 (j := 1) (jn := 1) rfl (by omega) (lv_at hl 6 rfl) (lv_at hl 1 rfl) dL_law_1803 dL_law_1804 dL_law_1806 dL_law_1807 dL_law_1808 ?_
  refine lw_M (As := [.int (xs (i + 1))]) (rest := []) C.1 C.2.2.2.1 (fun A => c_X6_traceLength l D wm A (xs (i + 1))) hg q1344 q1345 q1346 q46 q1347 yd_X6_traceLength ⟨by decide, by decide⟩ hrm2 hZ1 hl.1 rfl (by simp) dL_law_1809 (fun H2 locs2 cells2 slots2 hZ2 => ?_)
  refine W.eq (g2 := F0 m 1812 ls [.int Em.1]) rfl ?_
  refine lv_istore (lv' := (7, .int Em.1) :: (6, .int k) :: lawL w wm o1 o2 b i) hx hb dL_law_1812 hl (by decide) rfl (fun ls hl => ?_)
  obtain ⟨hth, hcmp⟩ := agW.tail (conv := (fun r : Int32 => .long r.toInt64)) (by decide +kernel) hex hk hm
  exact lw_tailI C hI2 hzz hn hrm2 hZ2 hth (fun h => by obtain ⟨r, h1, h2⟩ := hcmp h; rw [h1, h2]) hl dL_law_1814 dL_law_1815 dL_law_1818 dL_law_1820 dL_law_1825 dL_law_1827 dL_law_1830 dL_law_1831 dL_law_1832 dL_law_1833 dL_law_1835 dL_law_1836 dL_law_1837 dL_law_1842 (by decide)
set_option maxHeartbeats 4000000 in
set_option maxRecDepth 100000 in
theorem lc_traceAt (hfl : l.stackTraces = false) (C : LC p s m args c b L xs D w wm aS sk sv c1 c2) (hi : i + 5 ≤ L) (hzz : INVz INV) (ag : agW INV i (f_X5_traceAt 0 (xs (i + 1)) (xs (i + 2))) (f_X6_traceAt (xs (i + 1)) (xs (i + 2))) (exCode [("java/util/NoSuchElementException", 1), ("java/lang/IndexOutOfBoundsException", 2)]) ["java/util/NoSuchElementException", "java/lang/IndexOutOfBoundsException"] (fun r q => r = q)) (hI : INV i S Sm) (hZ : LQ D w wm o1 o2 c1 c2 s.heap S Sm v1 v2 H locs cells slots) (hl : lv_has ls 9 (lawL w wm o1 o2 b i)) (hn : LN p l e s m args below meth c D w wm o1 o2 c1 c2 b INV Q i) : W p l e room_1 s m args below meth c H locs cells slots Q (F0 m 1845 ls []) := by
  obtain ⟨E, hf, hex, hrm, hrest⟩ := ag.use hzz hI H.size
  have hx := C.1.1
  have hb := C.1.2.1
  refine lv_aload_n hx hb dL_law_1845 rfl (lv_at hl 4 rfl) ?_
  refine lw_arg C hZ (j := 1) (jn := 1) rfl (by omega) (lv_at hl 5 rfl) (lv_at hl 0 rfl) dL_law_1846 dL_law_1847 dL_law_1849 dL_law_1850 dL_law_1851 ?_
  refine lw_arg C hZ (j := 2) (jn := 2) rfl (by omega) (lv_at hl 5 rfl) (lv_at hl 0 rfl) dL_law_1852 dL_law_1853 dL_law_1855 dL_law_1856 dL_law_1857 ?_
  refine lv_aload_n hx hb dL_law_1858 rfl (lv_at hl 2 rfl) ?_
  refine lw_W (As := [.ref (w.2.2.2.2 0), .int (xs (i + 1)), .int (xs (i + 2)), .ref o1]) (rest := []) C.1 (EO := fun A => ENVO D w aS sk sv A c1 .long) C.2.1 (fun A => ENVO.ok) (fun A B U h1 h2 => h1.narrow h2) (fun A => c_L_traceAt l hfl D w aS sk sv A o1 c1 (xs (i + 1)) (xs (i + 2))) hf hex q993 q994 q39 q995 yd_L_traceAt ⟨by decide, by decide⟩ hrm hZ hl.1 rfl (by simp) dL_law_1859 (fun k v H1 locs1 cells1 slots1 hk hZ1 => ?_)
  refine W.eq (g2 := F0 m 1862 ls [.int k]) rfl ?_
  refine lv_istore (lv' := (6, .int k) :: lawL w wm o1 o2 b i) hx hb dL_law_1862 hl (by decide) rfl (fun ls hl => ?_)
  obtain ⟨Em, hg, hm, hrm2, hI2⟩ := hrest H1.size
  refine lv_aload_n hx hb dL_law_1864 rfl (lv_at hl 4 rfl) ?_
  refine lw_arg C hZ1 (j := 1) (jn := 1) rfl (by omega) (lv_at hl 6 rfl) (lv_at hl 1 rfl) dL_law_1865 dL_law_1866 dL_law_1868 dL_law_1869 dL_law_1870 ?_
  refine lw_arg C hZ1 (j := 2) (jn := 2) rfl (by omega) (lv_at hl 6 rfl) (lv_at hl 1 rfl) dL_law_1871 dL_law_1872 dL_law_1874 dL_law_1875 dL_law_1876 ?_
  refine lw_M (As := [.int (xs (i + 1)), .int (xs (i + 2))]) (rest := []) C.1 C.2.2.2.1 (fun A => c_X6_traceAt l D wm A (xs (i + 1)) (xs (i + 2))) hg q1348 q1349 q1350 q46 q1351 yd_X6_traceAt ⟨by decide, by decide⟩ hrm2 hZ1 hl.1 rfl (by simp) dL_law_1877 (fun H2 locs2 cells2 slots2 hZ2 => ?_)
  refine W.eq (g2 := F0 m 1880 ls [.int Em.1]) rfl ?_
  refine lv_istore (lv' := (7, .int Em.1) :: (6, .int k) :: lawL w wm o1 o2 b i) hx hb dL_law_1880 hl (by decide) rfl (fun ls hl => ?_)
  obtain ⟨hth, hcmp⟩ := agW.tail (conv := (fun r : Int32 => .long r.toInt64)) (by decide +kernel) hex hk hm
  exact lw_tailI C hI2 hzz hn hrm2 hZ2 hth (fun h => by obtain ⟨r, h1, h2⟩ := hcmp h; rw [h1, h2]) hl dL_law_1882 dL_law_1883 dL_law_1886 dL_law_1888 dL_law_1893 dL_law_1895 dL_law_1898 dL_law_1899 dL_law_1900 dL_law_1901 dL_law_1903 dL_law_1904 dL_law_1905 dL_law_1910 (by decide)
set_option maxHeartbeats 4000000 in
set_option maxRecDepth 100000 in
theorem lc_countOf (hfl : l.stackTraces = false) (C : LC p s m args c b L xs D w wm aS sk sv c1 c2) (hi : i + 5 ≤ L) (hzz : INVz INV) (ag : agW INV i (f_X5_countOf 0 (((xs (i + 1)).toUInt32 % 65536).toInt32)) (f_X6_countOf (((xs (i + 1)).toUInt32 % 65536).toInt32)) (exCode [("java/lang/IllegalArgumentException", 1)]) ["java/lang/IllegalArgumentException"] (fun r q => r = q)) (hI : INV i S Sm) (hZ : LQ D w wm o1 o2 c1 c2 s.heap S Sm v1 v2 H locs cells slots) (hl : lv_has ls 9 (lawL w wm o1 o2 b i)) (hn : LN p l e s m args below meth c D w wm o1 o2 c1 c2 b INV Q i) : W p l e room_1 s m args below meth c H locs cells slots Q (F0 m 1913 ls []) := by
  obtain ⟨E, hf, hex, hrm, hrest⟩ := ag.use hzz hI H.size
  have hx := C.1.1
  have hb := C.1.2.1
  refine lv_aload_n hx hb dL_law_1913 rfl (lv_at hl 4 rfl) ?_
  refine lw_arg C hZ (j := 1) (jn := 1) rfl (by omega) (lv_at hl 5 rfl) (lv_at hl 0 rfl) dL_law_1914 dL_law_1915 dL_law_1917 dL_law_1918 dL_law_1919 ?_
  refine lv_i2c hx hb dL_law_1920 rfl ?_
  refine lv_aload_n hx hb dL_law_1921 rfl (lv_at hl 2 rfl) ?_
  refine lw_W (As := [.ref (w.2.2.2.2 0), .int (((xs (i + 1)).toUInt32 % 65536).toInt32), .ref o1]) (rest := []) C.1 (EO := fun A => ENVO D w aS sk sv A c1 .long) C.2.1 (fun A => ENVO.ok) (fun A B U h1 h2 => h1.narrow h2) (fun A => c_L_countOf l hfl D w aS sk sv A o1 c1 (((xs (i + 1)).toUInt32 % 65536).toInt32)) hf hex q1010 q1011 q39 q1012 yd_L_countOf ⟨by decide, by decide⟩ hrm hZ hl.1 rfl (by simp) dL_law_1922 (fun k v H1 locs1 cells1 slots1 hk hZ1 => ?_)
  refine W.eq (g2 := F0 m 1925 ls [.int k]) rfl ?_
  refine lv_istore (lv' := (6, .int k) :: lawL w wm o1 o2 b i) hx hb dL_law_1925 hl (by decide) rfl (fun ls hl => ?_)
  obtain ⟨Em, hg, hm, hrm2, hI2⟩ := hrest H1.size
  refine lv_aload_n hx hb dL_law_1927 rfl (lv_at hl 4 rfl) ?_
  refine lw_arg C hZ1 (j := 1) (jn := 1) rfl (by omega) (lv_at hl 6 rfl) (lv_at hl 1 rfl) dL_law_1928 dL_law_1929 dL_law_1931 dL_law_1932 dL_law_1933 ?_
  refine lv_i2c hx hb dL_law_1934 rfl ?_
  refine lw_M (As := [.int (((xs (i + 1)).toUInt32 % 65536).toInt32)]) (rest := []) C.1 C.2.2.2.1 (fun A => c_X6_countOf l D wm A (((xs (i + 1)).toUInt32 % 65536).toInt32)) hg q1352 q1353 q1354 q46 q1355 yd_X6_countOf ⟨by decide, by decide⟩ hrm2 hZ1 hl.1 rfl (by simp) dL_law_1935 (fun H2 locs2 cells2 slots2 hZ2 => ?_)
  refine W.eq (g2 := F0 m 1938 ls [.int Em.1]) rfl ?_
  refine lv_istore (lv' := (7, .int Em.1) :: (6, .int k) :: lawL w wm o1 o2 b i) hx hb dL_law_1938 hl (by decide) rfl (fun ls hl => ?_)
  obtain ⟨hth, hcmp⟩ := agW.tail (conv := (fun r : Int32 => .long r.toInt64)) (by decide +kernel) hex hk hm
  exact lw_tailI C hI2 hzz hn hrm2 hZ2 hth (fun h => by obtain ⟨r, h1, h2⟩ := hcmp h; rw [h1, h2]) hl dL_law_1940 dL_law_1941 dL_law_1944 dL_law_1946 dL_law_1951 dL_law_1953 dL_law_1956 dL_law_1957 dL_law_1958 dL_law_1959 dL_law_1961 dL_law_1962 dL_law_1963 dL_law_1968 (by decide)
set_option maxHeartbeats 4000000 in
set_option maxRecDepth 100000 in
theorem lc_fitted (hfl : l.stackTraces = false) (C : LC p s m args c b L xs D w wm aS sk sv c1 c2) (hi : i + 5 ≤ L) (hzz : INVz INV) (ag : agP INV i (f_X5_fitted 0) f_X6_fitted) (hI : INV i S Sm) (hZ : LQ D w wm o1 o2 c1 c2 s.heap S Sm v1 v2 H locs cells slots) (hl : lv_has ls 9 (lawL w wm o1 o2 b i)) (hn : LN p l e s m args below meth c D w wm o1 o2 c1 c2 b INV Q i) : W p l e room_1 s m args below meth c H locs cells slots Q (F0 m 1971 ls []) := by
  obtain ⟨E, hf, hrm, hrest⟩ := ag.use hzz hI H.size
  have hx := C.1.1
  have hb := C.1.2.1
  refine lv_aload_n hx hb dL_law_1971 rfl (lv_at hl 4 rfl) ?_
  refine lw_X (rest := []) C.1 C.2.1.1 (fun A => c_X5_fitted l D w aS sk sv A 0) hf q289 q290 q291 q40 q292 yd_X5_fitted ⟨by decide, by decide⟩ hrm hZ hl.1 rfl (by simp) dL_law_1972 (fun H1 locs1 cells1 slots1 hZ1 => ?_)
  refine W.eq (g2 := F0 m 1975 ls [.long E.1]) rfl ?_
  obtain ⟨Em, hg, hsame, hrm2, hI2⟩ := hrest H1.size
  refine lv_aload_n hx hb dL_law_1975 rfl (lv_at hl 3 rfl) ?_
  refine lw_M (As := []) (rest := [.long E.1]) C.1 C.2.2.2.1 (fun A => c_X6_fitted l D wm A) hg q1360 q1361 q1362 q46 q1363 yd_X6_fitted ⟨by decide, by decide⟩ hrm2 hZ1 hl.1 rfl (by simp [vc_j]) dL_law_1976 (fun H2 locs2 cells2 slots2 hZ2 => ?_)
  refine W.eq (g2 := F0 m 1979 ls [.long Em.1, .long E.1]) rfl ?_
  refine W.lcmp hx hb dL_law_1979 ?_
  refine lv_if_eq (tgt := 2116) hx hb dL_law_1980 (by decide) (fun _ => ?_) (fun h9 => absurd (by rw [hsame]; exact lg_cmp_self) h9)
  exact hn _ _ _ _ _ _ _ _ _ hI2 hZ2 hl
set_option maxHeartbeats 4000000 in
set_option maxRecDepth 100000 in
theorem lc_lackShare (hfl : l.stackTraces = false) (C : LC p s m args c b L xs D w wm aS sk sv c1 c2) (hi : i + 5 ≤ L) (hzz : INVz INV) (ag : agW INV i f_L_lackShare (f_X6_lackShare ) (exCode [("java/lang/ArithmeticException", 1)]) ["java/lang/ArithmeticException"] (fun r q => vf_n64 (FP.f2d q) ∧ Op.cmpValue (FP.dcmp r (FP.f2d q)) .l = 0)) (hI : INV i S Sm) (hZ : LQ D w wm o1 o2 c1 c2 s.heap S Sm v1 v2 H locs cells slots) (hl : lv_has ls 9 (lawL w wm o1 o2 b i)) (hn : LN p l e s m args below meth c D w wm o1 o2 c1 c2 b INV Q i) : W p l e room_1 s m args below meth c H locs cells slots Q (F0 m 1985 ls []) := by
  obtain ⟨E, hf, hex, hrm, hrest⟩ := ag.use hzz hI H.size
  have hx := C.1.1
  have hb := C.1.2.1
  refine lv_aload_n hx hb dL_law_1985 rfl (lv_at hl 4 rfl) ?_
  refine lv_aload hx hb dL_law_1986 (lv_at hl 1 rfl) ?_
  refine lw_W (As := [.ref (w.2.2.2.2 0), .ref o2]) (rest := []) C.1 (EO := fun A => ENVO D w aS sk sv A c2 .double) C.2.2.1 (fun A => ENVO.ok) (fun A B U h1 h2 => h1.narrow h2) (fun A => c_L_lackShare l hfl D w aS sk sv A o2 c2 ) hf hex q1028 q1029 q39 q1030 yd_L_lackShare ⟨by decide, by decide⟩ hrm hZ.swap hl.1 rfl (by simp) dL_law_1988 (fun k v H1 locs1 cells1 slots1 hk hZ1 => ?_)
  have hZ1 := hZ1.swap
  refine W.eq (g2 := F0 m 1991 ls [.int k]) rfl ?_
  refine lv_istore (lv' := (6, .int k) :: lawL w wm o1 o2 b i) hx hb dL_law_1991 hl (by decide) rfl (fun ls hl => ?_)
  obtain ⟨Em, hg, hm, hrm2, hI2⟩ := hrest H1.size
  refine lv_aload_n hx hb dL_law_1993 rfl (lv_at hl 4 rfl) ?_
  refine lw_M (As := []) (rest := []) C.1 C.2.2.2.1 (fun A => c_X6_lackShare l D wm A ) hg q1364 q1365 q1366 q46 q1367 yd_X6_lackShare ⟨by decide, by decide⟩ hrm2 hZ1 hl.1 rfl (by simp) dL_law_1994 (fun H2 locs2 cells2 slots2 hZ2 => ?_)
  refine W.eq (g2 := F0 m 1997 ls [.float Em.1]) rfl ?_
  refine lv_fstore (lv' := (7, .float Em.1) :: (6, .int k) :: lawL w wm o1 o2 b i) hx hb dL_law_1997 hl (by decide) rfl (fun ls hl => ?_)
  obtain ⟨hth, hcmp⟩ := agW.tail (conv := (fun r : UInt64 => .double r)) (same := (fun r q => vf_n64 (FP.f2d q) ∧ Op.cmpValue (FP.dcmp r (FP.f2d q)) .l = 0)) (by decide +kernel) hex hk hm
  have hl9 : lv_has ls 9 (lawL w wm o1 o2 b i) := lv_sub hl [2, 3, 4, 5, 6, 7] rfl
  refine lw_thrown C hrm2 hZ2 hl.1 hth (lv_at hl 5 rfl) (lv_at hl 1 rfl) dL_law_1999 dL_law_2000 dL_law_2003 dL_law_2005 dL_law_2010 (tgt := 2048) dL_law_2012 (by decide) (fun z H locs cells slots h hZ => ?_) (fun z H locs cells slots h hZ => ?_)
  · refine lv_goto (tgt := 2116) hx hb dL_law_2048 (by decide) ?_
    exact hn _ _ _ _ _ _ _ _ _ (hzz.m z hI2) hZ hl9
  · obtain ⟨r, h1, h2⟩ := hcmp h
    refine lv_aload hx hb dL_law_2015 (lv_at hl 3 rfl) ?_
    refine lv_iconst (v := (0)) hx hb dL_law_2017 (by decide +kernel) ?_
    refine lw_dald C.1 C.2.2.1.2.2 hZ dL_law_2018 ?_
    rw [h1]
    refine lv_fload hx hb dL_law_2019 (lv_at hl 0 rfl) ?_
    refine lv_f2d hx hb dL_law_2021 h2.1 ?_
    refine lv_dcmp hx hb dL_law_2022 ?_
    refine lv_if_eq (tgt := 2048) hx hb dL_law_2023 (by decide) (fun _ => ?_) (fun h9 => absurd h2.2 h9)
    refine lv_goto (tgt := 2116) hx hb dL_law_2048 (by decide) ?_
    exact hn _ _ _ _ _ _ _ _ _ (hzz.m z hI2) hZ hl9
set_option maxHeartbeats 4000000 in
set_option maxRecDepth 100000 in
theorem lc_meanTime (hfl : l.stackTraces = false) (C : LC p s m args c b L xs D w wm aS sk sv c1 c2) (hi : i + 5 ≤ L) (hzz : INVz INV) (ag : agW INV i (f_X5_meanTime 0 ) (f_X6_meanTime ) (exCode [("java/lang/ArithmeticException", 1)]) ["java/lang/ArithmeticException"] (fun r q => Op.cmpValue (FP.dcmp r q) .l = 0)) (hI : INV i S Sm) (hZ : LQ D w wm o1 o2 c1 c2 s.heap S Sm v1 v2 H locs cells slots) (hl : lv_has ls 9 (lawL w wm o1 o2 b i)) (hn : LN p l e s m args below meth c D w wm o1 o2 c1 c2 b INV Q i) : W p l e room_1 s m args below meth c H locs cells slots Q (F0 m 2051 ls []) := by
  obtain ⟨E, hf, hex, hrm, hrest⟩ := ag.use hzz hI H.size
  have hx := C.1.1
  have hb := C.1.2.1
  refine lv_aload_n hx hb dL_law_2051 rfl (lv_at hl 4 rfl) ?_
  refine lv_aload hx hb dL_law_2052 (lv_at hl 1 rfl) ?_
  refine lw_W (As := [.ref (w.2.2.2.2 0), .ref o2]) (rest := []) C.1 (EO := fun A => ENVO D w aS sk sv A c2 .double) C.2.2.1 (fun A => ENVO.ok) (fun A B U h1 h2 => h1.narrow h2) (fun A => c_L_meanTime l hfl D w aS sk sv A o2 c2 ) hf hex q1052 q1053 q39 q1054 yd_L_meanTime ⟨by decide, by decide⟩ hrm hZ.swap hl.1 rfl (by simp) dL_law_2054 (fun k v H1 locs1 cells1 slots1 hk hZ1 => ?_)
  have hZ1 := hZ1.swap
  refine W.eq (g2 := F0 m 2057 ls [.int k]) rfl ?_
  refine lv_istore (lv' := (6, .int k) :: lawL w wm o1 o2 b i) hx hb dL_law_2057 hl (by decide) rfl (fun ls hl => ?_)
  obtain ⟨Em, hg, hm, hrm2, hI2⟩ := hrest H1.size
  refine lv_aload_n hx hb dL_law_2059 rfl (lv_at hl 4 rfl) ?_
  refine lw_M (As := []) (rest := []) C.1 C.2.2.2.1 (fun A => c_X6_meanTime l D wm A ) hg q1368 q1369 q1370 q46 q1371 yd_X6_meanTime ⟨by decide, by decide⟩ hrm2 hZ1 hl.1 rfl (by simp) dL_law_2060 (fun H2 locs2 cells2 slots2 hZ2 => ?_)
  refine W.eq (g2 := F0 m 2063 ls [.double Em.1]) rfl ?_
  refine lv_dstore (lv' := (7, .double Em.1) :: (6, .int k) :: lawL w wm o1 o2 b i) hx hb dL_law_2063 hl (by decide) rfl (fun ls hl => ?_)
  obtain ⟨hth, hcmp⟩ := agW.tail (conv := (fun r : UInt64 => .double r)) (same := (fun r q => Op.cmpValue (FP.dcmp r q) .l = 0)) (by decide +kernel) hex hk hm
  have hl9 : lv_has ls 9 (lawL w wm o1 o2 b i) := lv_sub hl [2, 3, 4, 5, 6, 7] rfl
  refine lw_thrown C hrm2 hZ2 hl.1 hth (lv_at hl 5 rfl) (lv_at hl 1 rfl) dL_law_2065 dL_law_2066 dL_law_2069 dL_law_2071 dL_law_2076 (tgt := 2113) dL_law_2078 (by decide) (fun z H locs cells slots h hZ => ?_) (fun z H locs cells slots h hZ => ?_)
  · refine lv_goto (tgt := 2116) hx hb dL_law_2113 (by decide) ?_
    exact hn _ _ _ _ _ _ _ _ _ (hzz.m z hI2) hZ hl9
  · obtain ⟨r, h1, h2⟩ := hcmp h
    refine lv_aload hx hb dL_law_2081 (lv_at hl 3 rfl) ?_
    refine lv_iconst (v := (0)) hx hb dL_law_2083 (by decide +kernel) ?_
    refine lw_dald C.1 C.2.2.1.2.2 hZ dL_law_2084 ?_
    rw [h1]
    refine lv_dload hx hb dL_law_2085 (lv_at hl 0 rfl) ?_
    refine lv_dcmp hx hb dL_law_2087 ?_
    refine lv_if_eq (tgt := 2113) hx hb dL_law_2088 (by decide) (fun _ => ?_) (fun h9 => absurd h2 h9)
    refine lv_goto (tgt := 2116) hx hb dL_law_2113 (by decide) ?_
    exact hn _ _ _ _ _ _ _ _ _ (hzz.m z hI2) hZ hl9
end CASES
