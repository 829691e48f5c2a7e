/-! part 37: what always holds of the common state -/
def low (m : Int32) : Nat := if bit m (nI 0) ≠ 0 then 0 else if bit m (nI 1) ≠ 0 then 1 else if bit m (nI 2) ≠ 0 then 2 else if bit m (nI 3) ≠ 0 then 3 else if bit m (nI 4) ≠ 0 then 4 else if bit m (nI 5) ≠ 0 then 5 else if bit m (nI 6) ≠ 0 then 6 else if bit m (nI 7) ≠ 0 then 7 else 8
theorem or_mask : ∀ n, n ≤ 8 → ∀ m, m < 2 ^ n → ∀ s, s < n → (nI m ||| ((1 : Int32) <<< (nI s &&& 31))) = nI (m ||| 2 ^ s) ∧ (m ||| 2 ^ s) < 2 ^ n ∧ 0 < (m ||| 2 ^ s) := by decide +kernel
theorem cl_mask : ∀ n, n ≤ 8 → ∀ m, m < 2 ^ n → ∀ s, s < n → (nI m &&& (((1 : Int32) <<< (nI s &&& 31)) ^^^ (-1 : Int32))) = nI (m - (if m.testBit s then 2 ^ s else 0)) := by decide +kernel
theorem low_mask : ∀ n, n ≤ 8 → ∀ m, m < 2 ^ n → 0 < m → low (nI m) < n := by decide +kernel
theorem bit_01 (w p : Int32) : bit w p = 0 ∨ bit w p = 1 := by
  unfold bit
  generalize w >>> (p &&& 31) = z
  have : ∀ v : BitVec 32, v &&& 1#32 = 0#32 ∨ v &&& 1#32 = 1#32 := by
    intro v
    by_cases h : v.getLsbD 0
    · right
      apply BitVec.eq_of_getLsbD_eq
      intro i hi
      rw [BitVec.getLsbD_and]
      by_cases h0 : i = 0
      · subst h0; simp [h]
      · simp [BitVec.getLsbD_one, h0]
    · left
      apply BitVec.eq_of_getLsbD_eq
      intro i hi
      rw [BitVec.getLsbD_and]
      by_cases h0 : i = 0
      · subst h0
        have h9 : v.getLsbD 0 = false := by cases q : v.getLsbD 0 with
          | true => exact absurd q h
          | false => rfl
        rw [h9, Bool.false_and, BitVec.getLsbD_zero]
      · simp [BitVec.getLsbD_one, h0]
  rcases this z.toBitVec with h | h
  · left
    exact Int32.toBitVec_inj.mp (by rw [Int32.toBitVec_and]; exact h)
  · right
    exact Int32.toBitVec_inj.mp (by rw [Int32.toBitVec_and]; exact h)
/-- members of a list, no one twice, all below n: no more than n -/
theorem nodup_le : ∀ (n : Nat) (l : List Nat), l.Nodup → (∀ c, c ∈ l → c < n) → l.length ≤ n
  | 0, l, _, h => by
    cases l with
    | nil => exact Nat.le_refl _
    | cons a r => exact absurd (h a List.mem_cons_self) (by omega)
  | n + 1, l, hn, h => by
    by_cases hm : n ∈ l
    · have h1 := nodup_le n (l.erase n) (hn.erase n) (fun c hc => by
        have := h c (List.mem_of_mem_erase hc)
        have hne : c ≠ n := fun e => by subst e; exact (hn.not_mem_erase) hc
        omega)
      rw [List.length_erase_of_mem hm] at h1
      omega
    · have h1 := nodup_le n l hn (fun c hc => by
        have := h c hc
        have hne : c ≠ n := fun e => hm (e ▸ hc)
        omega)
      omega
theorem nodup_lt {n : Nat} {l : List Nat} {c : Nat} (hn : l.Nodup) (h : ∀ c, c ∈ l → c < n) (hc : c < n) (hm : c ∉ l) : l.length < n := by
  have := nodup_le n (c :: l) (List.nodup_cons.mpr ⟨hm, hn⟩) (fun a ha => by
    rcases List.mem_cons.mp ha with rfl | ha
    · exact hc
    · exact h a ha)
  rw [List.length_cons] at this
  omega
/-- one row of cars -/
def RO (A : AS) (fl : Nat) (l : List Nat) (z : Int32) : Prop := l.Nodup ∧ ∀ c, c ∈ l ↔ (c < kC A ∧ aI A 15 c = z ∧ c ≠ fl)
/-- each car by itself -/
def CO1 (A : AS) (c : Nat) : Prop :=
  (aI A 15 c = 119 ∨ aI A 15 c = 115 ∨ aI A 15 c = 108 ∨ aI A 15 c = 100) ∧ (∃ m, m < 2 ^ kS A ∧ aI A 19 c = nI m) ∧ (aI A 15 c = 108 → aI A 19 c ≠ 0) ∧ ((aI A 18 c = 0 ∨ aI A 18 c = 1) ∧ (aI A 15 c ≠ 115 → aI A 18 c = 0)) ∧ (∃ g, g ≤ 9 ∧ aI A 17 c = nI g) ∧ (∃ m, m < 2 ^ kS A ∧ aI A 20 c = nI m) ∧ (aI A 15 c = 119 → aI A 20 c = 0 ∧ aI A 21 c = 0) ∧ (aI A 15 c ≠ 119 → aI A 20 c ≠ 0 ∧ aI A 21 c ≠ 0)
/-- each station by itself -/
def ST1 (A : AS) (s : Nat) : Prop := (∃ g, 1 ≤ g ∧ g ≤ 9 ∧ aI A 7 s = nI g) ∧ (aI A 8 s = -1 ∨ (aI A 8 s = nI (prt A s) ∧ prt A s < 6))
/-- who stands at a station -/
def AT1 (A : AS) (fl s : Nat) : Prop := aI A 12 s = -1 ∨ (aI A 12 s = nI (atC A s) ∧ atC A s < kC A ∧ aI A 16 (atC A s) = nI s ∧ aI A 15 (atC A s) = 115 ∧ atC A s ≠ fl)
/-- fl: a car that is just between two places; 30: none -/
def JF (fl : Nat) (A : AS) : Prop :=
  IA A ∧ (∀ s, s < kS A → AT1 A fl s) ∧ (∀ c, c < kC A → c ≠ fl → aI A 15 c = 115 → ∃ s, s < kS A ∧ aI A 16 c = nI s ∧ aI A 12 s = nI c) ∧ (RO A fl (aW A) 119 ∧ RO A fl (aO A) 108 ∧ RO A fl (aG A) 100) ∧ (∀ c, c < kC A → CO1 A c) ∧ (∀ s, s < kS A → ST1 A s) ∧
  ((∃ T, T ≤ 20000 ∧ aI A 2 0 = nI T) ∧ ∃ p, 1 ≤ p ∧ p ≤ 60 ∧ aI A 3 0 = nI p) ∧ (kS A = 0 → kC A = 0) ∧ (∀ p, p ∈ aT A → p.1 < kC A ∧ cv p.2 = p.2) ∧ ∀ s, kS A ≤ s → aL A s = 0
abbrev JA (A : AS) : Prop := JF 30 A
theorem JF.P1 {fl : Nat} {A : AS} (h : JF fl A) : P1 A := fun s hs => (h.2.1 s hs).elim Or.inl (fun w => Or.inr ⟨w.1, w.2.1, w.2.2.1, w.2.2.2.1⟩)
theorem JF.PP {fl : Nat} {A : AS} (h : JF fl A) : PP A := fun s hs => (h.2.2.2.2.2.1 s hs).2
section GET
variable {A : AS} {c s f i : Nat} {b : Int32}
theorem aI_note {g : Int32} : aI (aNote A c g) f i = aI A f i := rfl
/-- what an entering leaves alone -/
theorem aEnter_o (h1 : f < 11 ∨ f = 14 ∨ ((f = 11 ∨ f = 12 ∨ f = 13) ∧ i ≠ s) ∨ (15 ≤ f ∧ i ≠ c)) : aI (aEnter A c s b) f i = aI A f i := by
  unfold aEnter
  rw [aI_note, aI_note]
  have e1 : ∀ B : AS, aI (aFlt B c s (aSign A c s b)) f i = aI B f i := fun B => by
    unfold aFlt
    split
    · rw [aI_sI, if_neg (by omega)]
    · split
      · rw [aI_sI, if_neg (by omega)]
      · rfl
  rw [e1]
  unfold aStand
  rw [aI_sI, if_neg (by omega), aI_sI, if_neg (by omega), aI_sI, if_neg (by omega), aI_sI, if_neg (by omega), aI_sI, if_neg (by omega), aI_sI, if_neg (by omega)]
  have e2 : ∀ B : AS, aI (aServe B c s) f i = aI B f i := fun B => by
    unfold aServe
    split
    · rfl
    · split
      · rfl
      · split
        · rw [aI_sL, aI_sI, if_neg (by omega)]
        · rw [aI_sI, if_neg (by omega)]
  rw [e2]
  unfold aFirst
  split
  · rw [aI_sI, if_neg (by omega)]
  · rfl
theorem aEnter_12 : aI (aEnter A c s b) 12 s = nI c := by
  unfold aEnter
  rw [aI_note, aI_note]
  have e1 : ∀ B : AS, aI (aFlt B c s (aSign A c s b)) 12 s = aI B 12 s := fun B => by
    unfold aFlt
    split
    · rw [aI_sI, if_neg (by omega)]
    · split
      · rw [aI_sI, if_neg (by omega)]
      · rfl
  rw [e1]
  unfold aStand
  rw [aI_sI, if_neg (by omega), aI_sI, if_neg (by omega), aI_sI, if_neg (by omega), aI_sI, if_neg (by omega), aI_sI, if_neg (by omega), aI_sI, if_pos ⟨rfl, rfl⟩]
/-- the car that enters -/
theorem aEnter_c (hf : 15 ≤ f ∧ f ≤ 18) : aI (aEnter A c s b) f c = (if f = 15 then 115 else if f = 16 then nI s else if f = 17 then (if aSign A c s b = 46 then 1 else aI A 7 s) else b) := by
  unfold aEnter
  rw [aI_note, aI_note]
  have e1 : ∀ B : AS, aI (aFlt B c s (aSign A c s b)) f c = aI B f c := fun B => by
    unfold aFlt
    split
    · rw [aI_sI, if_neg (by omega)]
    · split
      · rw [aI_sI, if_neg (by omega)]
      · rfl
  rw [e1]
  unfold aStand
  rcases (show f = 15 ∨ f = 16 ∨ f = 17 ∨ f = 18 by omega) with rfl | rfl | rfl | rfl <;> simp [aI_sI]
theorem aEnter_20 : aI (aEnter A c s b) 20 c = aI A 20 c ||| ((1 : Int32) <<< (nI s &&& 31)) := by
  unfold aEnter
  rw [aI_note, aI_note]
  have e1 : ∀ B : AS, aI (aFlt B c s (aSign A c s b)) 20 c = aI B 20 c := fun B => by
    unfold aFlt
    split
    · rw [aI_sI, if_neg (by omega)]
    · split
      · rw [aI_sI, if_neg (by omega)]
      · rfl
  rw [e1]
  unfold aStand
  rw [aI_sI, if_pos ⟨rfl, rfl⟩, aI_sI, if_neg (by omega), aServe_I (by omega), aFirst_I (by omega)]
theorem aEnter_21 : aI (aEnter A c s b) 21 c = if aI A 20 c = 0 then aI A 2 0 else aI A 21 c := by
  unfold aEnter
  rw [aI_note, aI_note]
  have e1 : ∀ B : AS, aI (aFlt B c s (aSign A c s b)) 21 c = aI B 21 c := fun B => by
    unfold aFlt
    split
    · rw [aI_sI, if_neg (by omega)]
    · split
      · rw [aI_sI, if_neg (by omega)]
      · rfl
  rw [e1]
  unfold aStand
  rw [aI_sI, if_neg (by omega), aI_sI, if_neg (by omega), aI_sI, if_neg (by omega), aI_sI, if_neg (by omega), aI_sI, if_neg (by omega), aI_sI, if_neg (by omega), aServe_I (by omega)]
  unfold aFirst
  by_cases h : aI A 20 c = 0
  · rw [if_pos h, if_pos h, aI_sI, if_pos ⟨rfl, rfl⟩]
  · rw [if_neg h, if_neg h]
theorem aEnter_19 : aI (aEnter A c s b) 19 c = if aSign A c s b = 43 then aI A 19 c &&& (((1 : Int32) <<< (nI s &&& 31)) ^^^ (-1 : Int32)) else if aSign A c s b = 45 then aI A 19 c ||| ((1 : Int32) <<< (nI s &&& 31)) else aI A 19 c := by
  unfold aEnter
  rw [aI_note, aI_note]
  have e0 : ∀ tg, aI (aStand (sI (aServe (aFirst A c) c s) 12 s (nI c)) c s tg b) 19 c = aI A 19 c := fun tg => by
    unfold aStand
    rw [aI_sI, if_neg (by omega), aI_sI, if_neg (by omega), aI_sI, if_neg (by omega), aI_sI, if_neg (by omega), aI_sI, if_neg (by omega), aI_sI, if_neg (by omega), aServe_I (by omega), aFirst_I (by omega)]
  unfold aFlt
  by_cases h1 : aSign A c s b = 43
  · rw [if_pos h1, if_pos h1, aI_sI, if_pos ⟨rfl, rfl⟩, e0]
  · rw [if_neg h1, if_neg h1]
    by_cases h2 : aSign A c s b = 45
    · rw [if_pos h2, if_pos h2, aI_sI, if_pos ⟨rfl, rfl⟩, e0]
    · rw [if_neg h2, if_neg h2, e0]
theorem aEnter_R : aW (aEnter A c s b) = aW A ∧ aO (aEnter A c s b) = aO A ∧ aG (aEnter A c s b) = aG A ∧ aT (aEnter A c s b) = aT A ++ [(c, cv (48 + nI s))] ++ [(c, aSign A c s b)] ∧ ∀ z, z ≠ s → aL (aEnter A c s b) z = aL A z := by
  have e1 : ∀ B : AS, (aFlt B c s (aSign A c s b)).2 = B.2 := fun B => by
    unfold aFlt
    split
    · rfl
    · split <;> rfl
  have e2 : ∀ B : AS, (aServe B c s).2.2 = B.2.2 := fun B => by
    unfold aServe
    split
    · rfl
    · split
      · rfl
      · split <;> rfl
  have e3 : (aFirst A c).2 = A.2 := by unfold aFirst; split <;> rfl
  have e4 : ∀ B : AS, ∀ z, z ≠ s → (aServe B c s).2.1 z = B.2.1 z := fun B z hz => by
    unfold aServe
    split
    · rfl
    · split
      · rfl
      · split
        · show (if z = s then _ else _) = _
          rw [if_neg hz]; rfl
        · rfl
  have e5 : ∀ tg, (aFlt (aStand (sI (aServe (aFirst A c) c s) 12 s (nI c)) c s tg b) c s (aSign A c s b)).2.2 = A.2.2 := fun tg => by
    rw [e1]
    show (aServe (aFirst A c) c s).2.2 = _
    rw [e2, e3]
  refine ⟨?_, ?_, ?_, ?_, ?_⟩
  · unfold aEnter aW; exact congrArg (fun z => z.1.1) (e5 _)
  · unfold aEnter aO; exact congrArg (fun z => z.1.2.1) (e5 _)
  · unfold aEnter aG; exact congrArg (fun z => z.1.2.2) (e5 _)
  · unfold aEnter aNote
    rw [aT_sT, aT_sT]
    have : ∀ tg, aT (aFlt (aStand (sI (aServe (aFirst A c) c s) 12 s (nI c)) c s tg b) c s (aSign A c s b)) = aT A := fun tg => by unfold aT; exact congrArg (fun z => z.2) (e5 tg)
    rw [this]
  · intro z hz
    unfold aEnter aL
    show (aFlt _ c s _).2.1 z = _
    rw [e1]
    show (aServe (aFirst A c) c s).2.1 z = _
    rw [e4 _ z hz, e3]
end GET
