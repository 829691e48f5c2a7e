/-! part 43: the reference's state -/
def NR (n : Nat → Int32) (b z : Nat) (l : List Nat) : Prop := l.length ≤ 30 ∧ n z = nI l.length ∧ ∀ k, k < l.length → n (b + k) = nI (l.getD k 0)
def N0 (n : Nat → Int32) (A : AS) : Prop :=
  (∀ p, p < 6 → n p = aI A 4 p) ∧ (∀ s, s < kS A → n (6 + s) = aI A 11 s) ∧ (∀ s, s < kS A → n (14 + s) = aI A 12 s) ∧ (∀ c, c < kC A → n (82 + c) = aI A 15 c) ∧ (∀ c, c < kC A → n (112 + c) = aI A 19 c) ∧ (∀ c, c < kC A → aI A 15 c = 115 → n (22 + c) = aI A 17 c ∧ n (52 + c) = aI A 18 c) ∧ n 232 = aI A 2 0 ∧ NR n 142 233 (aW A) ∧ NR n 202 235 (aG A)
abbrev nw (S : St) : Nat → Int32 := fun x => gI S 20 0 x
def RM0 (S : St) (A : AS) : Prop :=
  (gI S 0 0 0 = aI A 0 0 ∧ gI S 1 0 0 = aI A 3 0 ∧ gI S 2 0 0 = aI A 1 0) ∧ (∀ s, s < kS A → gI S 11 0 s = aI A 7 s ∧ gI S 12 0 s = aI A 8 s ∧ gI S 13 0 s = aI A 9 s ∧ gI S 14 0 s = aI A 10 s) ∧ (∀ c, c < kC A → gI S 16 0 c = aI A 14 c) ∧ N0 (nw S) A
/-- the log -/
def TM (S : St) (l : List (Nat × Int32)) : Prop :=
  gI S 4 0 0 = nI l.length ∧ l.length ≤ gN S 0 0 ∧ gN S 0 1 = gN S 0 0 ∧ (∃ k, k ≤ 14 ∧ gN S 0 0 = 64 * 2 ^ k) ∧ (∀ k, k < l.length → gI S 22 0 k = (l.getD k (0, 0)).2 ∧ gI S 23 0 k = nI (l.getD k (0, 0)).1 ∧ cv (l.getD k (0, 0)).2 = (l.getD k (0, 0)).2) ∧ gN S 3 0 + 256 = 4 * gN S 0 0 ∧ 32 * gN S 7 0 + 64 ≤ gN S 0 0
def sumL : Nat → (Nat → Int64) → Int64
  | 0, _ => 0
  | n + 1, f => sumL n f + f n
def RMX (S : St) (A : AS) : Prop :=
  (∀ s, s < kS A → gI S 15 0 s = aI A 13 s) ∧ (∀ c, c < kC A → gI S 19 0 c = aI A 20 c ∧ gI S 17 0 c = aI A 21 c ∧ (aI A 15 c = 100 → gI S 18 0 c = aI A 22 c)) ∧ gL S 0 = sumL 8 (aL A) ∧ TM S (aT A)
def FM (S0 S : St) : Prop := (∀ f i j, f ≠ 20 → gI S f i j = gI S0 f i j) ∧ (∀ i, gL S i = gL S0 i) ∧ ∀ f i, gN S f i = gN S0 f i
/-- all stations and cars, those that aren't there yet too -/
def MF (S : St) (A : AS) : Prop := (∀ s, s < 8 → gI S 15 0 s = aI A 13 s ∧ nw S (6 + s) = aI A 11 s) ∧ ∀ c, c < 30 → gI S 19 0 c = aI A 20 c ∧ gI S 17 0 c = aI A 21 c ∧ nw S (112 + c) = aI A 19 c
def MB (q : Nat) (S0 S : St) (A : AS) : Prop := RM0 S A ∧ gI S 3 0 0 = nI q ∧ (q = 0 → RMX S A) ∧ (q = 1 → FM S0 S) ∧ (q = 0 → MF S A)
def MFx (x : Nat) (v : Int32) (A B : AS) : Prop := (∀ s, s < 8 → aI B 11 s = if 6 + s = x then v else aI A 11 s) ∧ ∀ c, c < 30 → aI B 19 c = if 112 + c = x then v else aI A 19 c
theorem MFx.no {x : Nat} {v : Int32} {A B : AS} (hx : x < 6 ∨ (14 ≤ x ∧ x < 112) ∨ 142 ≤ x) (h : ∀ i, aI B 11 i = aI A 11 i) (h' : ∀ i, aI B 19 i = aI A 19 i) : MFx x v A B := ⟨fun s hs => by rw [if_neg (by omega)]; exact h s, fun c hc => by rw [if_neg (by omega)]; exact h' c⟩
theorem MFx.sh {s : Nat} {v : Int32} {A : AS} (hs : s < 8) : MFx (6 + s) v A (sI A 11 s v) := ⟨fun y hy => by
    rw [aI_sI]
    by_cases e : y = s
    · rw [if_pos ⟨rfl, e⟩, if_pos (by omega)]
    · rw [if_neg (fun w => e w.2), if_neg (by omega)], fun c hc => by rw [if_neg (by omega), aI_sI, if_neg (by omega)]⟩
theorem MFx.fl {c : Nat} {v : Int32} {A : AS} (hc : c < 30) : MFx (112 + c) v A (sI A 19 c v) := ⟨fun y hy => by rw [if_neg (by omega), aI_sI, if_neg (by omega)], fun y hy => by
    rw [aI_sI]
    by_cases e : y = c
    · rw [if_pos ⟨rfl, e⟩, if_pos (by omega)]
    · rw [if_neg (fun w => e w.2), if_neg (by omega)]⟩
/-- the loop's row stays -/
def LF (S S1 : St) : Prop := ∀ j, (172 ≤ j ∧ j < 202) ∨ j = 234 → nw S1 j = nw S j
section MM
variable {q c s x : Nat} {S0 S S1 : St} {A B : AS} {v : Int32}
theorem nw_pI : nw (pI S 20 0 x v) = fun y => if y = x then v else nw S y := by
  funext y
  show gI (pI S 20 0 x v) 20 0 y = _
  rw [gI_pI]
  by_cases h : y = x
  · rw [if_pos ⟨rfl, rfl, h⟩, if_pos h]
  · rw [if_neg (fun w => h w.2.2), if_neg h]
theorem NR.up {n : Nat → Int32} {b z : Nat} {l : List Nat} (h : NR n b z l) (h1 : x ≠ z) (h2 : x < b ∨ b + 30 ≤ x) : NR (fun y => if y = x then v else n y) b z l :=
  ⟨h.1, by dsimp only; rw [if_neg (fun w => h1 w.symm)]; exact h.2.1, fun k hk => by dsimp only; rw [if_neg (by have := h.1; omega)]; exact h.2.2 k hk⟩
/-- the same, but for the car's place -/
theorem N0.cg {n : Nat → Int32} (h : N0 n A) (hk : ∀ f i, f ≠ 13 → f ≠ 16 → f < 20 → aI B f i = aI A f i) (hW : aW B = aW A) (hG : aG B = aG A) : N0 n B := by
  obtain ⟨h1, h2, h3, h4, h5, h6, h7, h8, h9⟩ := h
  have eS : kS B = kS A := by unfold kS; rw [hk 0 0 (by omega) (by omega) (by omega)]
  have eC : kC B = kC A := by unfold kC; rw [hk 1 0 (by omega) (by omega) (by omega)]
  unfold N0
  rw [eS, eC, hW, hG]
  exact ⟨fun p hp => by rw [hk _ _ (by omega) (by omega) (by omega)]; exact h1 p hp, fun s hs => by rw [hk _ _ (by omega) (by omega) (by omega)]; exact h2 s hs, fun s hs => by rw [hk _ _ (by omega) (by omega) (by omega)]; exact h3 s hs, fun c hc => by rw [hk _ _ (by omega) (by omega) (by omega)]; exact h4 c hc, fun c hc => by rw [hk _ _ (by omega) (by omega) (by omega)]; exact h5 c hc, fun c hc w => by rw [hk 17 _ (by omega) (by omega) (by omega), hk 18 _ (by omega) (by omega) (by omega)]; rw [hk 15 _ (by omega) (by omega) (by omega)] at w; exact h6 c hc w, by rw [hk _ _ (by omega) (by omega) (by omega)]; exact h7, h8, h9⟩
theorem RM0.cg (h : RM0 S A) (hk : ∀ f i, f ≠ 13 → f ≠ 16 → f < 20 → aI B f i = aI A f i) (hW : aW B = aW A) (hG : aG B = aG A) : RM0 S B := by
  obtain ⟨h1, h2, h3, h4⟩ := h
  have eS : kS B = kS A := by unfold kS; rw [hk 0 0 (by omega) (by omega) (by omega)]
  have eC : kC B = kC A := by unfold kC; rw [hk 1 0 (by omega) (by omega) (by omega)]
  unfold RM0
  rw [eS, eC, hk 0 0 (by omega) (by omega) (by omega), hk 3 0 (by omega) (by omega) (by omega), hk 1 0 (by omega) (by omega) (by omega)]
  exact ⟨h1, fun s hs => by rw [hk 7 s (by omega) (by omega) (by omega), hk 8 s (by omega) (by omega) (by omega), hk 9 s (by omega) (by omega) (by omega), hk 10 s (by omega) (by omega) (by omega)]; exact h2 s hs, fun c hc => by rw [hk 14 c (by omega) (by omega) (by omega)]; exact h3 c hc, h4.cg hk hW hG⟩
theorem RM0.cgS (h : RM0 S A) (hk : ∀ f i j, f ≠ 3 → f ≠ 4 → f ≠ 5 → f ≠ 15 → f ≠ 17 → f ≠ 18 → f ≠ 19 → f < 21 → gI S1 f i j = gI S f i j) : RM0 S1 A := by
  obtain ⟨h1, h2, h3, h4⟩ := h
  have e : nw S1 = nw S := by funext y; exact hk 20 0 y (by omega) (by omega) (by omega) (by omega) (by omega) (by omega) (by omega) (by omega)
  unfold RM0
  rw [e, hk 0 _ _ (by omega) (by omega) (by omega) (by omega) (by omega) (by omega) (by omega) (by omega), hk 1 _ _ (by omega) (by omega) (by omega) (by omega) (by omega) (by omega) (by omega) (by omega), hk 2 _ _ (by omega) (by omega) (by omega) (by omega) (by omega) (by omega) (by omega) (by omega)]
  exact ⟨h1, fun s hs => by rw [hk 11 _ _ (by omega) (by omega) (by omega) (by omega) (by omega) (by omega) (by omega) (by omega), hk 12 _ _ (by omega) (by omega) (by omega) (by omega) (by omega) (by omega) (by omega) (by omega), hk 13 _ _ (by omega) (by omega) (by omega) (by omega) (by omega) (by omega) (by omega) (by omega), hk 14 _ _ (by omega) (by omega) (by omega) (by omega) (by omega) (by omega) (by omega) (by omega)]; exact h2 s hs, fun c hc => by rw [hk 16 _ _ (by omega) (by omega) (by omega) (by omega) (by omega) (by omega) (by omega) (by omega)]; exact h3 c hc, h4⟩
/-- one cell of the row of numbers -/
theorem RM0.n (h : RM0 S A) (hk : ∀ f, f = 0 ∨ f = 1 ∨ f = 3 ∨ f = 7 ∨ f = 8 ∨ f = 9 ∨ f = 10 ∨ f = 14 → ∀ i, aI B f i = aI A f i) (hn : N0 (fun y => if y = x then v else nw S y) B) : RM0 (pI S 20 0 x v) B := by
  obtain ⟨h1, h2, h3, h4⟩ := h
  have eS : kS B = kS A := by unfold kS; rw [hk 0 (by omega)]
  have eC : kC B = kC A := by unfold kC; rw [hk 1 (by omega)]
  unfold RM0
  rw [nw_pI, eS, eC, hk 0 (by omega), hk 3 (by omega), hk 1 (by omega), gI_pI, if_neg (by omega), gI_pI, if_neg (by omega), gI_pI, if_neg (by omega)]
  exact ⟨h1, fun s hs => by rw [gI_pI, if_neg (by omega), gI_pI, if_neg (by omega), gI_pI, if_neg (by omega), gI_pI, if_neg (by omega), hk 7 (by omega), hk 8 (by omega), hk 9 (by omega), hk 10 (by omega)]; exact h2 s hs, fun c hc => by rw [gI_pI, if_neg (by omega), hk 14 (by omega)]; exact h3 c hc, hn⟩
theorem RM0.sh (h : RM0 S A) (hI : IA A) (hs : s < 8) : RM0 (pI S 20 0 (6 + s) v) (sI A 11 s v) := by
  have h8 := hI.1.2
  have h30 := hI.2.2
  refine h.n (fun f hf i => by rw [aI_sI, if_neg (by omega)]) ?_
  obtain ⟨h1, h2, h3, h4, h5, h6, h7, h9, h10⟩ := h.2.2.2
  unfold N0
  rw [kS_sI (by omega), kC_sI (by omega)]
  refine ⟨fun p hp => ?_, fun y hy => ?_, fun y hy => ?_, fun y hy => ?_, fun y hy => ?_, fun y hy w => ?_, ?_, h9.up (by omega) (by omega), h10.up (by omega) (by omega)⟩ <;> dsimp only
  · rw [if_neg (by omega), aI_sI, if_neg (by omega)]; exact h1 p hp
  · rw [aI_sI]
    by_cases e : y = s
    · rw [if_pos (by omega), if_pos ⟨rfl, e⟩]
    · rw [if_neg (by omega), if_neg (fun w => e w.2)]; exact h2 y hy
  · rw [if_neg (by omega), aI_sI, if_neg (by omega)]; exact h3 y hy
  · rw [if_neg (by omega), aI_sI, if_neg (by omega)]; exact h4 y hy
  · rw [if_neg (by omega), aI_sI, if_neg (by omega)]; exact h5 y hy
  · rw [aI_sI, if_neg (by omega)] at w
    rw [if_neg (by omega), if_neg (by omega), aI_sI, if_neg (by omega), aI_sI, if_neg (by omega)]; exact h6 y hy w
  · rw [if_neg (by omega), aI_sI, if_neg (by omega)]; exact h7
theorem RM0.at (h : RM0 S A) (hI : IA A) (hs : s < 8) : RM0 (pI S 20 0 (14 + s) v) (sI A 12 s v) := by
  have h8 := hI.1.2
  have h30 := hI.2.2
  refine h.n (fun f hf i => by rw [aI_sI, if_neg (by omega)]) ?_
  obtain ⟨h1, h2, h3, h4, h5, h6, h7, h9, h10⟩ := h.2.2.2
  unfold N0
  rw [kS_sI (by omega), kC_sI (by omega)]
  refine ⟨fun p hp => ?_, fun y hy => ?_, fun y hy => ?_, fun y hy => ?_, fun y hy => ?_, fun y hy w => ?_, ?_, h9.up (by omega) (by omega), h10.up (by omega) (by omega)⟩ <;> dsimp only
  · rw [if_neg (by omega), aI_sI, if_neg (by omega)]; exact h1 p hp
  · rw [if_neg (by omega), aI_sI, if_neg (by omega)]; exact h2 y hy
  · rw [aI_sI]
    by_cases e : y = s
    · rw [if_pos (by omega), if_pos ⟨rfl, e⟩]
    · rw [if_neg (by omega), if_neg (fun w => e w.2)]; exact h3 y hy
  · rw [if_neg (by omega), aI_sI, if_neg (by omega)]; exact h4 y hy
  · rw [if_neg (by omega), aI_sI, if_neg (by omega)]; exact h5 y hy
  · rw [aI_sI, if_neg (by omega)] at w
    rw [if_neg (by omega), if_neg (by omega), aI_sI, if_neg (by omega), aI_sI, if_neg (by omega)]; exact h6 y hy w
  · rw [if_neg (by omega), aI_sI, if_neg (by omega)]; exact h7
theorem RM0.store (h : RM0 S A) (hI : IA A) (hs : s < 6) : RM0 (pI S 20 0 s v) (sI A 4 s v) := by
  have h8 := hI.1.2
  have h30 := hI.2.2
  refine h.n (fun f hf i => by rw [aI_sI, if_neg (by omega)]) ?_
  obtain ⟨h1, h2, h3, h4, h5, h6, h7, h9, h10⟩ := h.2.2.2
  unfold N0
  rw [kS_sI (by omega), kC_sI (by omega)]
  refine ⟨fun y hy => ?_, fun y hy => ?_, fun y hy => ?_, fun y hy => ?_, fun y hy => ?_, fun y hy w => ?_, ?_, h9.up (by omega) (by omega), h10.up (by omega) (by omega)⟩ <;> dsimp only
  · rw [aI_sI]
    by_cases e : y = s
    · rw [if_pos (by omega), if_pos ⟨rfl, e⟩]
    · rw [if_neg (by omega), if_neg (fun w => e w.2)]; exact h1 y hy
  · rw [if_neg (by omega), aI_sI, if_neg (by omega)]; exact h2 y hy
  · rw [if_neg (by omega), aI_sI, if_neg (by omega)]; exact h3 y hy
  · rw [if_neg (by omega), aI_sI, if_neg (by omega)]; exact h4 y hy
  · rw [if_neg (by omega), aI_sI, if_neg (by omega)]; exact h5 y hy
  · rw [aI_sI, if_neg (by omega)] at w
    rw [if_neg (by omega), if_neg (by omega), aI_sI, if_neg (by omega), aI_sI, if_neg (by omega)]; exact h6 y hy w
  · rw [if_neg (by omega), aI_sI, if_neg (by omega)]; exact h7
theorem RM0.time (h : RM0 S A) (hI : IA A) : RM0 (pI S 20 0 232 v) (sI A 2 0 v) := by
  have h8 := hI.1.2
  have h30 := hI.2.2
  refine h.n (fun f hf i => by rw [aI_sI, if_neg (by omega)]) ?_
  obtain ⟨h1, h2, h3, h4, h5, h6, h7, h9, h10⟩ := h.2.2.2
  unfold N0
  rw [kS_sI (by omega), kC_sI (by omega)]
  refine ⟨fun y hy => ?_, fun y hy => ?_, fun y hy => ?_, fun y hy => ?_, fun y hy => ?_, fun y hy w => ?_, ?_, h9.up (by omega) (by omega), h10.up (by omega) (by omega)⟩ <;> dsimp only
  · rw [if_neg (by omega), aI_sI, if_neg (by omega)]; exact h1 y hy
  · rw [if_neg (by omega), aI_sI, if_neg (by omega)]; exact h2 y hy
  · rw [if_neg (by omega), aI_sI, if_neg (by omega)]; exact h3 y hy
  · rw [if_neg (by omega), aI_sI, if_neg (by omega)]; exact h4 y hy
  · rw [if_neg (by omega), aI_sI, if_neg (by omega)]; exact h5 y hy
  · rw [aI_sI, if_neg (by omega)] at w
    rw [if_neg (by omega), if_neg (by omega), aI_sI, if_neg (by omega), aI_sI, if_neg (by omega)]; exact h6 y hy w
  · rw [if_pos rfl, aI_sI, if_pos ⟨rfl, rfl⟩]
theorem RM0.place (h : RM0 S A) (hI : IA A) (hc : c < 30) (hz : v = 115 → c < kC A → nw S (22 + c) = aI A 17 c ∧ nw S (52 + c) = aI A 18 c) : RM0 (pI S 20 0 (82 + c) v) (sI A 15 c v) := by
  have h8 := hI.1.2
  have h30 := hI.2.2
  refine h.n (fun f hf i => by rw [aI_sI, if_neg (by omega)]) ?_
  obtain ⟨h1, h2, h3, h4, h5, h6, h7, h9, h10⟩ := h.2.2.2
  unfold N0
  rw [kS_sI (by omega), kC_sI (by omega)]
  refine ⟨fun y hy => ?_, fun y hy => ?_, fun y hy => ?_, fun y hy => ?_, fun y hy => ?_, fun y hy w => ?_, ?_, h9.up (by omega) (by omega), h10.up (by omega) (by omega)⟩ <;> dsimp only
  · rw [if_neg (by omega), aI_sI, if_neg (by omega)]; exact h1 y hy
  · rw [if_neg (by omega), aI_sI, if_neg (by omega)]; exact h2 y hy
  · rw [if_neg (by omega), aI_sI, if_neg (by omega)]; exact h3 y hy
  · rw [aI_sI]
    by_cases e : y = c
    · rw [if_pos (by omega), if_pos ⟨rfl, e⟩]
    · rw [if_neg (by omega), if_neg (fun w => e w.2)]; exact h4 y hy
  · rw [if_neg (by omega), aI_sI, if_neg (by omega)]; exact h5 y hy
  · rw [if_neg (by omega), if_neg (by omega), aI_sI, if_neg (by omega), aI_sI, if_neg (by omega)]
    rw [aI_sI] at w
    by_cases e : y = c
    · rw [if_pos ⟨rfl, e⟩] at w
      subst e
      exact hz w hy
    · rw [if_neg (fun w => e w.2)] at w; exact h6 y hy w
  · rw [if_neg (by omega), aI_sI, if_neg (by omega)]; exact h7
theorem RM0.flt (h : RM0 S A) (hI : IA A) (hc : c < 30) : RM0 (pI S 20 0 (112 + c) v) (sI A 19 c v) := by
  have h8 := hI.1.2
  have h30 := hI.2.2
  refine h.n (fun f hf i => by rw [aI_sI, if_neg (by omega)]) ?_
  obtain ⟨h1, h2, h3, h4, h5, h6, h7, h9, h10⟩ := h.2.2.2
  unfold N0
  rw [kS_sI (by omega), kC_sI (by omega)]
  refine ⟨fun y hy => ?_, fun y hy => ?_, fun y hy => ?_, fun y hy => ?_, fun y hy => ?_, fun y hy w => ?_, ?_, h9.up (by omega) (by omega), h10.up (by omega) (by omega)⟩ <;> dsimp only
  · rw [if_neg (by omega), aI_sI, if_neg (by omega)]; exact h1 y hy
  · rw [if_neg (by omega), aI_sI, if_neg (by omega)]; exact h2 y hy
  · rw [if_neg (by omega), aI_sI, if_neg (by omega)]; exact h3 y hy
  · rw [if_neg (by omega), aI_sI, if_neg (by omega)]; exact h4 y hy
  · rw [aI_sI]
    by_cases e : y = c
    · rw [if_pos (by omega), if_pos ⟨rfl, e⟩]
    · rw [if_neg (by omega), if_neg (fun w => e w.2)]; exact h5 y hy
  · rw [aI_sI, if_neg (by omega)] at w
    rw [if_neg (by omega), if_neg (by omega), aI_sI, if_neg (by omega), aI_sI, if_neg (by omega)]; exact h6 y hy w
  · rw [if_neg (by omega), aI_sI, if_neg (by omega)]; exact h7
theorem RM0.togo (h : RM0 S A) (hI : IA A) (hc : c < 30) : RM0 (pI S 20 0 (22 + c) v) (sI A 17 c v) := by
  have h8 := hI.1.2
  have h30 := hI.2.2
  refine h.n (fun f hf i => by rw [aI_sI, if_neg (by omega)]) ?_
  obtain ⟨h1, h2, h3, h4, h5, h6, h7, h9, h10⟩ := h.2.2.2
  unfold N0
  rw [kS_sI (by omega), kC_sI (by omega)]
  refine ⟨fun y hy => ?_, fun y hy => ?_, fun y hy => ?_, fun y hy => ?_, fun y hy => ?_, fun y hy w => ?_, ?_, h9.up (by omega) (by omega), h10.up (by omega) (by omega)⟩ <;> dsimp only
  · rw [if_neg (by omega), aI_sI, if_neg (by omega)]; exact h1 y hy
  · rw [if_neg (by omega), aI_sI, if_neg (by omega)]; exact h2 y hy
  · rw [if_neg (by omega), aI_sI, if_neg (by omega)]; exact h3 y hy
  · rw [if_neg (by omega), aI_sI, if_neg (by omega)]; exact h4 y hy
  · rw [if_neg (by omega), aI_sI, if_neg (by omega)]; exact h5 y hy
  · rw [aI_sI, if_neg (by omega)] at w
    rw [if_neg (show ¬ 52 + y = 22 + c by omega), aI_sI, aI_sI, if_neg (show ¬ (18 = 17 ∧ y = c) by omega)]
    refine ⟨?_, (h6 y hy w).2⟩
    by_cases e : y = c
    · rw [if_pos (by omega), if_pos ⟨rfl, e⟩]
    · rw [if_neg (by omega), if_neg (fun w => e w.2)]; exact (h6 y hy w).1
  · rw [if_neg (by omega), aI_sI, if_neg (by omega)]; exact h7
theorem RM0.bck (h : RM0 S A) (hI : IA A) (hc : c < 30) : RM0 (pI S 20 0 (52 + c) v) (sI A 18 c v) := by
  have h8 := hI.1.2
  have h30 := hI.2.2
  refine h.n (fun f hf i => by rw [aI_sI, if_neg (by omega)]) ?_
  obtain ⟨h1, h2, h3, h4, h5, h6, h7, h9, h10⟩ := h.2.2.2
  unfold N0
  rw [kS_sI (by omega), kC_sI (by omega)]
  refine ⟨fun y hy => ?_, fun y hy => ?_, fun y hy => ?_, fun y hy => ?_, fun y hy => ?_, fun y hy w => ?_, ?_, h9.up (by omega) (by omega), h10.up (by omega) (by omega)⟩ <;> dsimp only
  · rw [if_neg (by omega), aI_sI, if_neg (by omega)]; exact h1 y hy
  · rw [if_neg (by omega), aI_sI, if_neg (by omega)]; exact h2 y hy
  · rw [if_neg (by omega), aI_sI, if_neg (by omega)]; exact h3 y hy
  · rw [if_neg (by omega), aI_sI, if_neg (by omega)]; exact h4 y hy
  · rw [if_neg (by omega), aI_sI, if_neg (by omega)]; exact h5 y hy
  · rw [aI_sI, if_neg (by omega)] at w
    rw [if_neg (show ¬ 22 + y = 52 + c by omega), aI_sI, aI_sI, if_neg (show ¬ (17 = 18 ∧ y = c) by omega)]
    refine ⟨(h6 y hy w).1, ?_⟩
    by_cases e : y = c
    · rw [if_pos (by omega), if_pos ⟨rfl, e⟩]
    · rw [if_neg (by omega), if_neg (fun w => e w.2)]; exact (h6 y hy w).2
  · rw [if_neg (by omega), aI_sI, if_neg (by omega)]; exact h7
/-- what was left from an earlier stand is of no moment -/
theorem RM0.pre (h : RM0 S A) : RM0 S (sI (sI A 17 c (nw S (22 + c))) 18 c (nw S (52 + c))) := by
  obtain ⟨q1, q2, q3, h1, h2, h3, h4, h5, h6, h7, h9, h10⟩ := h
  have o : ∀ f i, f ≠ 17 → f ≠ 18 → aI (sI (sI A 17 c (nw S (22 + c))) 18 c (nw S (52 + c))) f i = aI A f i := fun f i a1 a2 => by rw [aI_sI, if_neg (fun w => a2 w.1), aI_sI, if_neg (fun w => a1 w.1)]
  have eS : kS (sI (sI A 17 c (nw S (22 + c))) 18 c (nw S (52 + c))) = kS A := (kS_sI (by omega)).trans (kS_sI (by omega))
  have eC : kC (sI (sI A 17 c (nw S (22 + c))) 18 c (nw S (52 + c))) = kC A := (kC_sI (by omega)).trans (kC_sI (by omega))
  unfold RM0 N0
  rw [eS, eC, o 0 0 (by omega) (by omega), o 3 0 (by omega) (by omega), o 1 0 (by omega) (by omega), o 2 0 (by omega) (by omega)]
  refine ⟨q1, fun s hs => by rw [o 7 s (by omega) (by omega), o 8 s (by omega) (by omega), o 9 s (by omega) (by omega), o 10 s (by omega) (by omega)]; exact q2 s hs, fun c hc => by rw [o 14 _ (by omega) (by omega)]; exact q3 c hc, fun p hp => by rw [o _ _ (by omega) (by omega)]; exact h1 p hp, fun p hp => by rw [o _ _ (by omega) (by omega)]; exact h2 p hp, fun p hp => by rw [o _ _ (by omega) (by omega)]; exact h3 p hp, fun p hp => by rw [o _ _ (by omega) (by omega)]; exact h4 p hp, fun p hp => by rw [o _ _ (by omega) (by omega)]; exact h5 p hp, fun y hy w => ?_, h7, h9, h10⟩
  rw [o 15 y (by omega) (by omega)] at w
  rw [aI_sI, aI_sI, aI_sI]
  by_cases e : y = c
  · subst e
    rw [if_neg (by omega), if_pos ⟨rfl, rfl⟩, if_pos ⟨rfl, rfl⟩]
    exact ⟨rfl, rfl⟩
  · rw [if_neg (by omega), if_neg (fun w => e w.2), if_neg (fun w => e w.2), aI_sI, if_neg (by omega)]
    exact h6 y hy w
end MM
