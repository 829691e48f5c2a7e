/-! part 34: one car's step on the class's line -/
def sumTo : Nat → (Nat → Nat) → Nat
  | 0, _ => 0
  | n + 1, f => sumTo n f + f n
theorem sumTo_cg {f g : Nat → Nat} : ∀ n : Nat, (∀ i, i < n → f i = g i) → sumTo n f = sumTo n g
  | 0, _ => rfl
  | n + 1, h => by rw [sumTo, sumTo, sumTo_cg n (fun i hi => h i (by omega)), h n (by omega)]
theorem sumTo_up {f g : Nat → Nat} {x : Nat} (h : ∀ i, i ≠ x → f i = g i) : ∀ n : Nat, x < n → sumTo n g + f x = sumTo n f + g x
  | 0, hx => by omega
  | n + 1, hx => by
    rw [sumTo, sumTo]
    by_cases q : x = n
    · subst q
      rw [sumTo_cg x (fun i hi => h i (by omega))]
      omega
    · have := sumTo_up h n (by omega)
      rw [h n (fun w => q w.symm)]
      omega
def capS (S : St) : Nat := sumTo 30 (fun x => gN S 0 x)
def trc (A : AS) (x : Nat) : List Int32 := ((aT A).filter (fun p => p.1 == x)).map (fun p => p.2)
def aNote (A : AS) (c : Nat) (g : Int32) : AS := sT A (aT A ++ [(c, g)])
theorem trc_note {A : AS} {c x : Nat} {g : Int32} : trc (aNote A c g) x = if c = x then trc A x ++ [g] else trc A x := by
  unfold trc aNote
  rw [aT_sT, List.filter_append, List.map_append]
  by_cases h : c = x
  · rw [if_pos h]; simp [h]
  · rw [if_neg h]; simp [h]
/-- what the real line has besides -/
def RX (k : Nat) (S : St) (A : AS) : Prop :=
  (∀ s, s < 8 → gI S 13 s 0 = aI A 13 s ∧ gL S s = aL A s) ∧ (∀ f c, 20 ≤ f → f ≤ 22 → c < 30 → gI S f c 0 = aI A f c) ∧ (∀ x, x < 30 → RT S x (trc A x)) ∧ gN S 3 0 + 1920 ≤ 2 * capS S + 6 * k ∧ 32 * gN S 7 0 + 960 ≤ capS S + 32 * k
/-- what belongs to the real line -/
def zro (f i : Nat) : Prop := (f < 5 ∧ i = 0) ∨ (5 ≤ f ∧ f ≤ 6 ∧ i < 3) ∨ (7 ≤ f ∧ f ≤ 13 ∧ i < 8) ∨ (14 ≤ f ∧ f ≤ 22 ∧ i < 30) ∨ 23 ≤ f
/-- the trial leaves the real line alone -/
def FR (S0 S : St) : Prop := (∀ f i j, zro f i → gI S f i j = gI S0 f i j) ∧ (∀ i, i < 8 → gL S i = gL S0 i) ∧ ∀ f i, gN S f i = gN S0 f i
theorem FR.rf {S : St} : FR S S := ⟨fun _ _ _ _ => rfl, fun _ _ => rfl, fun _ _ => rfl⟩
theorem FR.pI {S0 S : St} {f i j : Nat} {v : Int32} (h : FR S0 S) (hz : ¬ zro f i) : FR S0 (pI S f i j v) := ⟨fun a b c q => by rw [gI_pI, if_neg (fun w => hz (by rw [← w.1, ← w.2.1]; exact q))]; exact h.1 a b c q, h.2.1, h.2.2⟩
/-- all the real line's stations and cars, those that aren't there yet too -/
def RF (S : St) (A : AS) : Prop := (∀ f s, 7 ≤ f → f ≤ 12 → s < 8 → gI S f s 0 = aI A f s) ∧ ∀ f c, 14 ≤ f → f ≤ 19 → c < 30 → gI S f c 0 = aI A f c
theorem RF.oth {S : St} {A : AS} {f i j : Nat} {v : Int32} (h : RF S A) (hf : f < 7 ∨ f = 13 ∨ 20 ≤ f) : RF (pI S f i j v) A := ⟨fun a b c d e => by rw [gI_pI, if_neg (by omega)]; exact h.1 a b c d e, fun a b c d e => by rw [gI_pI, if_neg (by omega)]; exact h.2 a b c d e⟩
theorem RF.othA {S : St} {A : AS} {f i : Nat} {v : Int32} (h : RF S A) (hf : f < 7 ∨ f = 13 ∨ 20 ≤ f) : RF S (sI A f i v) := ⟨fun a b c d e => by rw [aI_sI, if_neg (by omega)]; exact h.1 a b c d e, fun a b c d e => by rw [aI_sI, if_neg (by omega)]; exact h.2 a b c d e⟩
theorem RF.up {S : St} {A : AS} {f i : Nat} {v : Int32} (h : RF S A) : RF (pI S f i 0 v) (sI A f i v) := ⟨fun a b c d e => by
    rw [gI_pI, aI_sI]
    by_cases q : a = f ∧ b = i
    · rw [if_pos ⟨q.1, q.2, rfl⟩, if_pos q]
    · rw [if_neg (fun w => q ⟨w.1, w.2.1⟩), if_neg q]; exact h.1 a b c d e, fun a b c d e => by
    rw [gI_pI, aI_sI]
    by_cases q : a = f ∧ b = i
    · rw [if_pos ⟨q.1, q.2, rfl⟩, if_pos q]
    · rw [if_neg (fun w => q ⟨w.1, w.2.1⟩), if_neg q]; exact h.2 a b c d e⟩
def CR (t k : Nat) (S0 S : St) (A : AS) : Prop := RC t S A ∧ (t = 0 → RX k S A) ∧ (t = 1 → FR S0 S) ∧ (t = 0 → RF S A)
section CRU
variable {t k : Nat} {S0 S S1 : St} {A : AS}
theorem RX.oth {f i j : Nat} {v : Int32} (h : RX k S A) (hf : f < 13 ∨ (14 ≤ f ∧ f < 20)) : RX k (pI S f i j v) A := by
  obtain ⟨h1, h2, h3, h4⟩ := h
  exact ⟨fun s hs => ⟨by rw [gI_pI, if_neg (by omega)]; exact (h1 s hs).1, (h1 s hs).2⟩, fun a c ha hb hc => by rw [gI_pI, if_neg (by omega)]; exact h2 a c ha hb hc, fun x hx => (h3 x hx).pIo (Or.inl (by omega)), h4⟩
theorem RX.othA {f i : Nat} {v : Int32} (h : RX k S A) (hf : f < 13 ∨ (14 ≤ f ∧ f < 20)) : RX k S (sI A f i v) := by
  obtain ⟨h1, h2, h3, h4⟩ := h
  exact ⟨fun s hs => ⟨by rw [aI_sI, if_neg (by omega)]; exact (h1 s hs).1, (h1 s hs).2⟩, fun a c ha hb hc => by rw [aI_sI, if_neg (by omega)]; exact h2 a c ha hb hc, h3, h4⟩
theorem CR.st {f s : Nat} {v : Int32} (h : CR t k S0 S A) (hf : 7 ≤ f ∧ f ≤ 12) : CR t k S0 (pI S f (8 * t + s) 0 v) (sI A f s v) :=
  ⟨h.1.st hf, fun q => ((h.2.1 q).oth (by omega)).othA (by omega), fun q => (h.2.2.1 q).pI (by unfold zro; omega), fun q => by subst q; rw [show 8 * 0 + s = s by omega]; exact (h.2.2.2 rfl).up⟩
theorem CR.car {f c : Nat} {v : Int32} (h : CR t k S0 S A) (hf : 14 ≤ f ∧ f ≤ 19) : CR t k S0 (pI S f (30 * t + c) 0 v) (sI A f c v) :=
  ⟨h.1.car hf, fun q => ((h.2.1 q).oth (by omega)).othA (by omega), fun q => (h.2.2.1 q).pI (by unfold zro; omega), fun q => by subst q; rw [show 30 * 0 + c = c by omega]; exact (h.2.2.2 rfl).up⟩
theorem CR.li {f : Nat} {v : Int32} (h : CR t k S0 S A) (hf : f = 2 ∨ f = 3) : CR t k S0 (pI S f t 0 v) (sI A f 0 v) :=
  ⟨h.1.li hf, fun q => ((h.2.1 q).oth (by omega)).othA (by omega), fun q => (h.2.2.1 q).pI (by unfold zro; omega), fun q => ((h.2.2.2 q).oth (by omega)).othA (by omega)⟩
theorem CR.store {p : Nat} {v : Int32} (h : CR t k S0 S A) : CR t k S0 (pI S 4 t p v) (sI A 4 p v) :=
  ⟨h.1.store, fun q => ((h.2.1 q).oth (by omega)).othA (by omega), fun q => (h.2.2.1 q).pI (by unfold zro; omega), fun q => ((h.2.2.2 q).oth (by omega)).othA (by omega)⟩
theorem CR.x20 {f c : Nat} {v u : Int32} (h : CR t k S0 S A) (hf : 20 ≤ f ∧ f ≤ 22) (hc : c < 30) (hv : t = 0 → v = u) : CR t k S0 (pI S f (30 * t + c) 0 v) (sI A f c u) := by
  refine ⟨(h.1.oth (by omega)).othA (by omega), fun q => ?_, fun q => (h.2.2.1 q).pI (by unfold zro; omega), fun q => ((h.2.2.2 q).oth (by omega)).othA (by omega)⟩
  have hv := hv q
  subst hv
  subst q
  obtain ⟨h1, h2, h3, h4⟩ := h.2.1 rfl
  refine ⟨fun s hs => ⟨by rw [gI_pI, if_neg (by omega), aI_sI, if_neg (by omega)]; exact (h1 s hs).1, (h1 s hs).2⟩, fun a b ha hb hc => ?_, fun x hx => (h3 x hx).pIo (Or.inl (by omega)), h4⟩
  rw [gI_pI, aI_sI]
  by_cases q : a = f ∧ b = c
  · rw [if_pos ⟨q.1, by omega, rfl⟩, if_pos q]
  · rw [if_neg (by omega), if_neg q]; exact h2 a b ha hb hc
theorem CR.x13 {s : Nat} {v u : Int32} (h : CR t k S0 S A) (hs : s < 8) (hv : t = 0 → v = u) : CR t k S0 (pI S 13 (8 * t + s) 0 v) (sI A 13 s u) := by
  refine ⟨(h.1.oth (by omega)).othA (by omega), fun q => ?_, fun q => (h.2.2.1 q).pI (by unfold zro; omega), fun q => ((h.2.2.2 q).oth (by omega)).othA (by omega)⟩
  have hv := hv q
  subst hv
  subst q
  obtain ⟨h1, h2, h3, h4⟩ := h.2.1 rfl
  refine ⟨fun a ha => ⟨?_, (h1 a ha).2⟩, fun a b ha hb hc => by rw [gI_pI, if_neg (by omega), aI_sI, if_neg (by omega)]; exact h2 a b ha hb hc, fun x hx => (h3 x hx).pIo (Or.inl (by omega)), h4⟩
  rw [gI_pI, aI_sI]
  by_cases q : a = s
  · rw [if_pos ⟨rfl, by omega, rfl⟩, if_pos ⟨rfl, q⟩]
  · rw [if_neg (by omega), if_neg (fun w => q w.2)]; exact (h1 a ha).1
theorem CR.xL {s : Nat} {v u : Int64} (h : CR t k S0 S A) (hs : s < 8) (hv : t = 0 → v = u) : CR t k S0 (pL S (8 * t + s) v) (sL A s u) := by
  refine ⟨h.1, fun q => ?_, fun q => ⟨(h.2.2.1 q).1, fun i hi => by rw [gL_pL, if_neg (by omega)]; exact (h.2.2.1 q).2.1 i hi, (h.2.2.1 q).2.2⟩, fun q => h.2.2.2 q⟩
  have hv := hv q
  subst hv
  subst q
  obtain ⟨h1, h2, h3, h4⟩ := h.2.1 rfl
  refine ⟨fun a ha => ⟨(h1 a ha).1, ?_⟩, h2, h3, h4⟩
  rw [gL_pL, aL_sL]
  by_cases q : a = s
  · rw [if_pos (by omega), if_pos q]
  · rw [if_neg (by omega), if_neg q]; exact (h1 a ha).2
theorem RC.cg (h : RC t S A) (hk : ∀ f i j, f < 23 → gI S1 f i j = gI S f i j) : RC t S1 A := by
  obtain ⟨h1, h2, h3, h4, h5, h6, h7⟩ := h
  have rw1 : ∀ x l, RW S x l → RW S1 x l := fun x l h => ⟨h.1, by rw [hk _ _ _ (by omega)]; exact h.2.1, fun q hq => by rw [hk _ _ _ (by omega)]; exact h.2.2 q hq⟩
  exact ⟨fun f hf => by rw [hk _ _ _ (by omega)]; exact h1 f hf, fun p hp => by rw [hk _ _ _ (by omega)]; exact h2 p hp, fun f s a b c => by rw [hk _ _ _ (by omega)]; exact h3 f s a b c, fun f s a b c => by rw [hk _ _ _ (by omega)]; exact h4 f s a b c, rw1 _ _ h5, rw1 _ _ h6, rw1 _ _ h7⟩
theorem RT.cg {x : Nat} {l : List Int32} (h : RT S x l) (hk : ∀ f j, f ≤ 25 → gI S1 f x j = gI S f x j) (hn : gN S1 0 x = gN S 0 x) : RT S1 x l := by
  obtain ⟨h1, h2, h3, h4, h5⟩ := h
  exact ⟨by rw [hk _ _ (by omega)]; exact h1, by rw [hn]; exact h2, by rw [hn]; exact h3, fun q hq => by rw [hk _ _ (by omega)]; exact h4 q hq, fun j hj => by rw [hk _ _ (by omega)]; exact h5 j hj⟩
/-- a sign is noted in the car's trace -/
theorem w_note {c : Nat} {g : Int32} (ht : t < 2) (hc : c < 30) (h : CR t k S0 S A) (hl : (trc A c).length < 32768) (hg : cv g = g) : wp (f_X1_note t (30 * t + c) g) S (fun _ S1 => CR t k S0 S1 (aNote A c g)) := by
  rcases (show t = 0 ∨ t = 1 by omega) with rfl | rfl
  · obtain ⟨h1, h2, h3, h4, h5⟩ := h.2.1 rfl
    unfold f_X1_note
    refine w_rfc (by omega) ?_
    refine w_t (by omega) ?_
    refine w_rfc (by omega) ?_
    refine w_t (by omega) ?_
    rw [show 30 * 0 + c = c by omega]
    refine w_call (w_append hc (h3 c hc) hl hg) (fun _ S1 h9 => w_rtn ?_)
    obtain ⟨hR, k1, k2, k3, k4, k5, k6⟩ := h9
    refine ⟨h.1.cg k1, fun _ => ⟨fun s hs => ⟨by rw [k1 _ _ _ (by omega)]; exact (h1 s hs).1, by rw [k3]; exact (h1 s hs).2⟩, fun f b ha hb hc => by rw [k1 _ _ _ (by omega)]; exact h2 f b ha hb hc, fun x hx => ?_, ?_, ?_⟩, fun q => by omega, fun _ => ⟨fun a b c d e => by rw [k1 _ _ _ (by omega)]; exact (h.2.2.2 rfl).1 a b c d e, fun a b c d e => by rw [k1 _ _ _ (by omega)]; exact (h.2.2.2 rfl).2 a b c d e⟩⟩
    · rw [trc_note]
      by_cases q : c = x
      · rw [if_pos q, ← q]; exact hR
      · rw [if_neg q]; exact (h3 x hx).cg (fun f j hf => k2 f x j hf (fun w => q w.symm)) (k4 x (fun w => q w.symm))
    · have := sumTo_up (f := fun x => gN S 0 x) (g := fun x => gN S1 0 x) (x := c) (fun i hi => (k4 i hi).symm) 30 hc
      unfold capS at h4 ⊢
      omega
    · have := sumTo_up (f := fun x => gN S 0 x) (g := fun x => gN S1 0 x) (x := c) (fun i hi => (k4 i hi).symm) 30 hc
      unfold capS at h5 ⊢
      omega
  · unfold f_X1_note
    refine w_rfc (by omega) ?_
    exact w_n (by omega) (w_rtn ⟨h.1, fun q => by omega, h.2.2.1, fun q => by omega⟩)
end CRU
abbrev bit (w p : Int32) : Int32 := (w >>> (p &&& 31)) &&& (1 : Int32)
def aSign (A : AS) (c s : Nat) (b : Int32) : Int32 := if aI A 8 s = -1 then 43 else if bit (aI A 14 c) (aI A 8 s) = 0 then (if b = 0 then 46 else 43) else if aI A 9 s ≤ aI A 11 s then 43 else 45
def aServe (A : AS) (c s : Nat) : AS := if aI A 8 s = -1 then A else if bit (aI A 14 c) (aI A 8 s) = 0 then A else if aI A 9 s ≤ aI A 11 s then sL (sI A 11 s (aI A 11 s - aI A 9 s)) s (aL A s + (aI A 9 s).toInt64) else sI A 13 s (aI A 13 s + 1)
def aFirst (A : AS) (c : Nat) : AS := if aI A 20 c = 0 then sI A 21 c (aI A 2 0) else A
def aStand (A : AS) (c s : Nat) (tg b : Int32) : AS := sI (sI (sI (sI (sI A 15 c 115) 16 c (nI s)) 17 c tg) 18 c b) 20 c (aI A 20 c ||| ((1 : Int32) <<< (nI s &&& 31)))
def aFlt (A : AS) (c s : Nat) (g : Int32) : AS := if g = 43 then sI A 19 c (aI A 19 c &&& (((1 : Int32) <<< (nI s &&& 31)) ^^^ (-1 : Int32))) else if g = 45 then sI A 19 c (aI A 19 c ||| ((1 : Int32) <<< (nI s &&& 31))) else A
def aEnter (A : AS) (c s : Nat) (b : Int32) : AS :=
  aNote (aNote (aFlt (aStand (sI (aServe (aFirst A c) c s) 12 s (nI c)) c s (if aSign A c s b = 46 then 1 else aI A 7 s) b) c s (aSign A c s b)) c (cv (48 + nI s))) c (aSign A c s b)
def aAway (A : AS) (c : Nat) (z : Int32) : AS := sI (sI (sI (sI A 15 c z) 16 c (-1)) 17 c 0) 18 c 0
def aLeave (A : AS) (c : Nat) : AS := aNote (sG (sI (aAway A c 100) 22 c (aI A 2 0)) (aG A ++ [c])) c 120
def aLoop (A : AS) (c : Nat) : AS := aNote (sO (aAway A c 108) (aO A ++ [c])) c 76
section STEP
variable {t k c s : Nat} {S0 S S1 : St} {A : AS} {b : Int32}
theorem aFirst_I {f i : Nat} (hf : f ≠ 21) : aI (aFirst A c) f i = aI A f i := by
  unfold aFirst
  split
  · rw [aI_sI, if_neg (fun w => hf w.1)]
  · rfl
theorem kC_sI {f i : Nat} {v : Int32} (hf : f ≠ 1) : kC (sI A f i v) = kC A := by unfold kC; rw [aI_sI, if_neg (fun w => hf w.1.symm)]
theorem kS_sI {f i : Nat} {v : Int32} (hf : f ≠ 0) : kS (sI A f i v) = kS A := by unfold kS; rw [aI_sI, if_neg (fun w => hf w.1.symm)]
theorem IA.sI {f i : Nat} {v : Int32} (h : IA A) (hf : 2 ≤ f) : IA (sI A f i v) := by
  unfold IA
  rw [kS_sI (by omega), kC_sI (by omega), aI_sI, if_neg (by omega), aI_sI, if_neg (by omega)]
  exact h
/-- the station serves a car -/
theorem w_serve (ht : t < 2) (h : CR t k S0 S A) (hI : IA A) (hs : s < kS A) (hc : c < kC A) : wp (f_X3_serve (8 * t + s) (30 * t + c) b) S (fun g S1 => g = aSign A c s b ∧ CR t k S0 S1 (aServe A c s)) := by
  have h8 : kS A ≤ 8 := hI.1.2
  have h30 : kC A ≤ 30 := hI.2.2
  have c43 : cv (43 : Int32) = 43 := by decide
  have c45 : cv (45 : Int32) = 45 := by decide
  have c46 : cv (46 : Int32) = 46 := by decide
  have g8 := h.1.2.2.1 8 s (by omega) (by omega) hs
  have g9 := h.1.2.2.1 9 s (by omega) (by omega) hs
  have g11 := h.1.2.2.1 11 s (by omega) (by omega) hs
  have g14 := h.1.2.2.2.1 14 c (by omega) (by omega) hc
  unfold f_X3_serve
  refine w_rdc (by omega) ?_
  rw [g8]
  by_cases h1 : aI A 8 s = -1
  · exact w_t h1 (w_rtnC c43 ⟨by unfold aSign; rw [if_pos h1], by unfold aServe; rw [if_pos h1]; exact h⟩)
  refine w_n h1 ?_
  refine w_rdc (by omega) ?_
  rw [g8]
  refine w_t (by omega) ?_
  by_cases h2 : bit (aI A 14 c) (aI A 8 s) = 0
  · have e1 : (f_X0_isWanting (30 * t + c) (aI A 8 s)).1 S = some (0, S) := by
      refine ev_of ?_
      unfold f_X0_isWanting
      refine w_rdc (by omega) ?_
      rw [g14]
      exact w_t h2 (w_rtnZ (Or.inl rfl) ⟨rfl, rfl⟩)
    refine w_ev e1 ?_
    refine w_t rfl ?_
    refine w_if (fun h3 => w_rtnC c46 ⟨by unfold aSign; rw [if_neg h1, if_pos h2, if_pos h3], by unfold aServe; rw [if_neg h1, if_pos h2]; exact h⟩) (fun h3 => w_rtnC c43 ⟨by unfold aSign; rw [if_neg h1, if_pos h2, if_neg h3], by unfold aServe; rw [if_neg h1, if_pos h2]; exact h⟩)
  · have e1 : (f_X0_isWanting (30 * t + c) (aI A 8 s)).1 S = some (1, S) := by
      refine ev_of ?_
      unfold f_X0_isWanting
      refine w_rdc (by omega) ?_
      rw [g14]
      exact w_n h2 (w_rtnZ (Or.inr rfl) ⟨rfl, rfl⟩)
    refine w_ev e1 ?_
    refine w_n (by decide) ?_
    refine w_rdc (by omega) ?_
    refine w_rdc (by omega) ?_
    rw [g9, g11]
    by_cases h3 : aI A 9 s ≤ aI A 11 s
    · refine w_t h3 ?_
      refine w_rdc (by omega) ?_
      refine w_rdc (by omega) ?_
      refine w_wrc (by omega) ?_
      refine w_rdcL (by omega) ?_
      refine w_rdc (by omega) ?_
      refine w_wrcL (by omega) ?_
      rw [gL_pI, gI_pI, if_neg (by omega), g9, g11]
      refine w_rtnC c43 ⟨by unfold aSign; rw [if_neg h1, if_neg h2, if_pos h3], ?_⟩
      unfold aServe
      rw [if_neg h1, if_neg h2, if_pos h3]
      refine CR.xL (h.st (by omega)) (by omega) (fun q => ?_)
      subst q
      have := ((h.2.1 rfl).1 s (by omega)).2
      rw [show 8 * 0 + s = s by omega, this]
    · refine w_n h3 ?_
      refine w_rdc (by omega) ?_
      refine w_wrc (by omega) ?_
      refine w_rtnC c45 ⟨by unfold aSign; rw [if_neg h1, if_neg h2, if_neg h3], ?_⟩
      unfold aServe
      rw [if_neg h1, if_neg h2, if_neg h3]
      refine h.x13 (by omega) (fun q => ?_)
      subst q
      have := ((h.2.1 rfl).1 s (by omega)).1
      rw [show 8 * 0 + s = s by omega, this]
end STEP
