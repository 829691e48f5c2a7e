/-! part 31: the class's line: lockstep with the common state -/
theorem ev_of {α : Type} {f : PM α} {S S1 : St} {r : α} (h : wp f S (fun a S2 => a = r ∧ S2 = S1)) : f.1 S = some (r, S1) := by
  obtain ⟨⟨a, S2⟩, h1, rfl, rfl⟩ := h
  exact h1
theorem w_of {α : Type} {f : PM α} {S S1 : St} {r : α} {Q : α → St → Prop} (h : f.1 S = some (r, S1)) (hq : Q r S1) : wp f S Q := ⟨(r, S1), h, hq⟩
/-- an int is no index, or it is one -/
theorem i32_cases (a : Int32) (n : Nat) (hn : n ≤ 2097152) : (a < 0 ∨ nI n ≤ a) ∨ ∃ s, s < n ∧ a = nI s := by
  by_cases h0 : a < 0
  · exact Or.inl (Or.inl h0)
  · by_cases h1 : nI n ≤ a
    · exact Or.inl (Or.inr h1)
    · refine Or.inr ⟨a.toInt.toNat, ?_, ?_⟩
      · rw [Int32.le_iff_toInt_le, nI_toInt (by omega)] at h1
        rw [Int32.lt_iff_toInt_lt, Int32.toInt_zero] at h0
        omega
      · rw [Int32.lt_iff_toInt_lt, Int32.toInt_zero] at h0
        have := Int32.toInt_lt a
        exact Int32.toInt_inj.mp (by rw [nI_toInt (by omega)]; omega)
section RCU
variable {t : Nat} {S : St} {A : AS}
theorem RW.oth {x : Nat} {l : List Nat} {f i j : Nat} {v : Int32} (h : RW S x l) (hf : ¬ ((f = 5 ∨ f = 6) ∧ i = x)) : RW (pI S f i j v) x l :=
  ⟨h.1, by rw [gI_pI, if_neg (fun q => hf ⟨Or.inl q.1.symm, q.2.1.symm⟩)]; exact h.2.1, fun k hk => by rw [gI_pI, if_neg (fun q => hf ⟨Or.inr q.1.symm, q.2.1.symm⟩)]; exact h.2.2 k hk⟩
theorem RC.st {f s : Nat} {v : Int32} (h : RC t S A) (hf : 7 ≤ f ∧ f ≤ 12) : RC t (pI S f (8 * t + s) 0 v) (sI A f s v) := by
  obtain ⟨h1, h2, h3, h4, h5, h6, h7⟩ := h
  refine ⟨fun a ha => ?_, fun p hp => ?_, fun a b ha hb hc => ?_, fun a b ha hb hc => ?_, h5.oth (by omega), h6.oth (by omega), h7.oth (by omega)⟩
  · rw [gI_pI, aI_sI, if_neg (by omega), if_neg (by omega)]; exact h1 a ha
  · rw [gI_pI, aI_sI, if_neg (by omega), if_neg (by omega)]; exact h2 p hp
  · have hc : b < kS A := by unfold kS at hc ⊢; rwa [aI_sI, if_neg (by omega)] at hc
    rw [gI_pI, aI_sI]
    by_cases q : a = f ∧ b = s
    · rw [if_pos q, if_pos ⟨q.1, by omega, rfl⟩]
    · rw [if_neg q, if_neg (fun w => q ⟨w.1, by omega⟩)]; exact h3 a b ha hb hc
  · have hc : b < kC A := by unfold kC at hc ⊢; rwa [aI_sI, if_neg (by omega)] at hc
    rw [gI_pI, aI_sI, if_neg (by omega), if_neg (by omega)]; exact h4 a b ha hb hc
theorem RC.car {f c : Nat} {v : Int32} (h : RC t S A) (hf : 14 ≤ f ∧ f ≤ 19) : RC t (pI S f (30 * t + c) 0 v) (sI A f c v) := by
  obtain ⟨h1, h2, h3, h4, h5, h6, h7⟩ := h
  refine ⟨fun a ha => ?_, fun p hp => ?_, fun a b ha hb hc => ?_, fun a b ha hb hc => ?_, h5.oth (by omega), h6.oth (by omega), h7.oth (by omega)⟩
  · rw [gI_pI, aI_sI, if_neg (by omega), if_neg (by omega)]; exact h1 a ha
  · rw [gI_pI, aI_sI, if_neg (by omega), if_neg (by omega)]; exact h2 p hp
  · have hc : b < kS A := by unfold kS at hc ⊢; rwa [aI_sI, if_neg (by omega)] at hc
    rw [gI_pI, aI_sI, if_neg (by omega), if_neg (by omega)]; exact h3 a b ha hb hc
  · have hc : b < kC A := by unfold kC at hc ⊢; rwa [aI_sI, if_neg (by omega)] at hc
    rw [gI_pI, aI_sI]
    by_cases q : a = f ∧ b = c
    · rw [if_pos q, if_pos ⟨q.1, by omega, rfl⟩]
    · rw [if_neg q, if_neg (fun w => q ⟨w.1, by omega⟩)]; exact h4 a b ha hb hc
theorem RC.li {f : Nat} {v : Int32} (h : RC t S A) (hf : f = 2 ∨ f = 3) : RC t (pI S f t 0 v) (sI A f 0 v) := by
  obtain ⟨h1, h2, h3, h4, h5, h6, h7⟩ := h
  refine ⟨fun a ha => ?_, fun p hp => ?_, fun a b ha hb hc => ?_, fun a b ha hb hc => ?_, h5.oth (by omega), h6.oth (by omega), h7.oth (by omega)⟩
  · rw [gI_pI, aI_sI]
    by_cases q : a = f
    · rw [if_pos ⟨q, rfl, rfl⟩, if_pos ⟨q, rfl⟩]
    · rw [if_neg (fun w => q w.1), if_neg (fun w => q w.1)]; exact h1 a ha
  · rw [gI_pI, aI_sI, if_neg (by omega), if_neg (by omega)]; exact h2 p hp
  · have hc : b < kS A := by unfold kS at hc ⊢; rwa [aI_sI, if_neg (by omega)] at hc
    rw [gI_pI, aI_sI, if_neg (by omega), if_neg (by omega)]; exact h3 a b ha hb hc
  · have hc : b < kC A := by unfold kC at hc ⊢; rwa [aI_sI, if_neg (by omega)] at hc
    rw [gI_pI, aI_sI, if_neg (by omega), if_neg (by omega)]; exact h4 a b ha hb hc
theorem RC.store {p : Nat} {v : Int32} (h : RC t S A) : RC t (pI S 4 t p v) (sI A 4 p v) := by
  obtain ⟨h1, h2, h3, h4, h5, h6, h7⟩ := h
  refine ⟨fun a ha => ?_, fun b hb => ?_, fun a b ha hb hc => ?_, fun a b ha hb hc => ?_, h5.oth (by omega), h6.oth (by omega), h7.oth (by omega)⟩
  · rw [gI_pI, aI_sI, if_neg (by omega), if_neg (by omega)]; exact h1 a ha
  · rw [gI_pI, aI_sI]
    by_cases q : b = p
    · rw [if_pos ⟨rfl, rfl, q⟩, if_pos ⟨rfl, q⟩]
    · rw [if_neg (fun w => q w.2.2), if_neg (fun w => q w.2)]; exact h2 b hb
  · have hc : b < kS A := by unfold kS at hc ⊢; rwa [aI_sI, if_neg (by omega)] at hc
    rw [gI_pI, aI_sI, if_neg (by omega), if_neg (by omega)]; exact h3 a b ha hb hc
  · have hc : b < kC A := by unfold kC at hc ⊢; rwa [aI_sI, if_neg (by omega)] at hc
    rw [gI_pI, aI_sI, if_neg (by omega), if_neg (by omega)]; exact h4 a b ha hb hc
/-- what no line holds -/
theorem RC.oth {f i j : Nat} {v : Int32} (h : RC t S A) (hf : f = 13 ∨ 20 ≤ f) : RC t (pI S f i j v) A := by
  obtain ⟨h1, h2, h3, h4, h5, h6, h7⟩ := h
  refine ⟨fun a ha => ?_, fun b hb => ?_, fun a b ha hb hc => ?_, fun a b ha hb hc => ?_, h5.oth (by omega), h6.oth (by omega), h7.oth (by omega)⟩
  · rw [gI_pI, if_neg (by omega)]; exact h1 a ha
  · rw [gI_pI, if_neg (by omega)]; exact h2 b hb
  · rw [gI_pI, if_neg (by omega)]; exact h3 a b ha hb hc
  · rw [gI_pI, if_neg (by omega)]; exact h4 a b ha hb hc
theorem RC.othL {i : Nat} {v : Int64} (h : RC t S A) : RC t (pL S i v) A := h
theorem RC.othA {f i : Nat} {v : Int32} (h : RC t S A) (hf : f = 13 ∨ 20 ≤ f) : RC t S (sI A f i v) := by
  obtain ⟨h1, h2, h3, h4, h5, h6, h7⟩ := h
  refine ⟨fun a ha => ?_, fun b hb => ?_, fun a b ha hb hc => ?_, fun a b ha hb hc => ?_, h5, h6, h7⟩
  · rw [aI_sI, if_neg (by omega)]; exact h1 a ha
  · rw [aI_sI, if_neg (by omega)]; exact h2 b hb
  · have hc : b < kS A := by unfold kS at hc ⊢; rwa [aI_sI, if_neg (by omega)] at hc
    rw [aI_sI, if_neg (by omega)]; exact h3 a b ha hb hc
  · have hc : b < kC A := by unfold kC at hc ⊢; rwa [aI_sI, if_neg (by omega)] at hc
    rw [aI_sI, if_neg (by omega)]; exact h4 a b ha hb hc
theorem RC.sL {i : Nat} {v : Int64} (h : RC t S A) : RC t S (sL A i v) := h
theorem RC.sT {l : List (Nat × Int32)} (h : RC t S A) : RC t S (sT A l) := h
end RCU
section FIND
variable {t s c : Nat} {S : St} {A : AS} {a : Int32}
theorem e_findStation (ht : t < 2) (h : RC t S A) (hI : IA A) (hs : s < kS A) : (f_X1_findStation t (nI s)).1 S = some (8 * t + s, S) := by
  have h8 : kS A ≤ 8 := hI.1.2
  refine ev_of ?_
  unfold f_X1_findStation
  refine w_n (nI_pos (by omega)) ?_
  refine w_rdc ht ?_
  rw [h.1 0 (by omega), hI.1.1]
  refine w_n (nI_ge hs (by omega)) ?_
  refine w_rfc ht ?_
  refine w_rdk ht ?_
  refine w_n (nI_ge (by omega) (by omega)) ?_
  refine w_rfc ht ?_
  refine w_arf ht (by omega) (by omega) ?_
  exact w_rtn ⟨rfl, rfl⟩
theorem e_findStation0 (ht : t < 2) (h : RC t S A) (hI : IA A) (hs : a < 0 ∨ nI (kS A) ≤ a) : (f_X1_findStation t a).1 S = some (16, S) := by
  refine ev_of ?_
  unfold f_X1_findStation
  refine w_if (fun _ => w_rtn ⟨rfl, rfl⟩) (fun h0 => ?_)
  refine w_rdc ht ?_
  rw [h.1 0 (by omega), hI.1.1]
  exact w_t (hs.resolve_left h0) (w_rtn ⟨rfl, rfl⟩)
theorem e_findCar (ht : t < 2) (h : RC t S A) (hI : IA A) (hs : c < kC A) : (f_X1_findCar t (nI c)).1 S = some (30 * t + c, S) := by
  have h8 : kC A ≤ 30 := hI.2.2
  refine ev_of ?_
  unfold f_X1_findCar
  refine w_n (nI_pos (by omega)) ?_
  refine w_rdc ht ?_
  rw [h.1 1 (by omega), hI.2.1]
  refine w_n (nI_ge hs (by omega)) ?_
  refine w_rfc ht ?_
  refine w_rdk ht ?_
  refine w_n (nI_ge (by omega) (by omega)) ?_
  refine w_rfc ht ?_
  refine w_arf ht (by omega) (by omega) ?_
  exact w_rtn ⟨rfl, rfl⟩
theorem e_findCar0 (ht : t < 2) (h : RC t S A) (hI : IA A) (hs : a < 0 ∨ nI (kC A) ≤ a) : (f_X1_findCar t a).1 S = some (60, S) := by
  refine ev_of ?_
  unfold f_X1_findCar
  refine w_if (fun _ => w_rtn ⟨rfl, rfl⟩) (fun h0 => ?_)
  refine w_rdc ht ?_
  rw [h.1 1 (by omega), hI.2.1]
  exact w_t (hs.resolve_left h0) (w_rtn ⟨rfl, rfl⟩)
theorem e_isFree (ht : t < 2) (h : RC t S A) (hI : IA A) (hs : s < kS A) : (f_X1_isFree t (nI s)).1 S = some (if aI A 12 s = -1 then 1 else 0, S) := by
  have h8 : kS A ≤ 8 := hI.1.2
  refine ev_of ?_
  unfold f_X1_isFree
  refine w_t ht ?_
  refine w_ev (e_findStation ht h hI hs) ?_
  refine w_t (by omega) ?_
  refine w_rdc (by omega) ?_
  rw [h.2.2.1 12 s (by omega) (by omega) hs]
  refine w_if (fun q => w_rtnZ (Or.inr rfl) ⟨by rw [if_pos q], rfl⟩) (fun q => w_rtnZ (Or.inl rfl) ⟨by rw [if_neg q], rfl⟩)
theorem e_isFree0 (ht : t < 2) (h : RC t S A) (hI : IA A) (hs : a < 0 ∨ nI (kS A) ≤ a) : (f_X1_isFree t a).1 S = some (0, S) := by
  refine ev_of ?_
  unfold f_X1_isFree
  refine w_t ht ?_
  refine w_ev (e_findStation0 ht h hI hs) ?_
  refine w_n (by omega) ?_
  exact w_rtnZ (Or.inl rfl) ⟨rfl, rfl⟩
theorem e_standingAt0 (ht : t < 2) (h : RC t S A) (hI : IA A) (hs : s < kS A) (hc : aI A 12 s = -1) : (f_X1_standingAt t (nI s)).1 S = some (60, S) := by
  have h8 : kS A ≤ 8 := hI.1.2
  refine ev_of ?_
  unfold f_X1_standingAt
  refine w_t ht ?_
  refine w_ev (e_findStation ht h hI hs) ?_
  refine w_t (by omega) ?_
  refine w_rdc (by omega) ?_
  rw [h.2.2.1 12 s (by omega) (by omega) hs, hc]
  refine w_t ht ?_
  refine w_ev (e_findCar0 ht h hI (Or.inl (by decide))) ?_
  exact w_rtn ⟨rfl, rfl⟩
theorem e_standingAt (ht : t < 2) (h : RC t S A) (hI : IA A) (hs : s < kS A) (hc : aI A 12 s = nI c) (hcn : c < kC A) : (f_X1_standingAt t (nI s)).1 S = some (30 * t + c, S) := by
  have h8 : kS A ≤ 8 := hI.1.2
  refine ev_of ?_
  unfold f_X1_standingAt
  refine w_t ht ?_
  refine w_ev (e_findStation ht h hI hs) ?_
  refine w_t (by omega) ?_
  refine w_rdc (by omega) ?_
  rw [h.2.2.1 12 s (by omega) (by omega) hs, hc]
  refine w_t ht ?_
  refine w_ev (e_findCar ht h hI hcn) ?_
  exact w_rtn ⟨rfl, rfl⟩
/-- a car at station s, its way ahead -/
def along (A : AS) (c s : Nat) : Prop := aI A 18 c = 0 ∧ s + 1 < kS A
theorem e_goesAlong (ht : t < 2) (h : RC t S A) (hI : IA A) (hs : s < kS A) (hcn : c < kC A) (hst : aI A 16 c = nI s) : ∃ v : Int32, (f_X1_goesAlong t (30 * t + c)).1 S = some (v, S) ∧ (v = 0 ↔ ¬ along A c s) := by
  have h8 : kS A ≤ 8 := hI.1.2
  have h30 : kC A ≤ 30 := hI.2.2
  by_cases hb : aI A 18 c = 0
  · by_cases h1 : s + 1 < kS A
    · refine ⟨1, ev_of ?_, by simp [along, hb, h1]⟩
      unfold f_X1_goesAlong
      refine w_rdc (by omega) ?_
      rw [h.2.2.2.1 18 c (by omega) (by omega) hcn]
      refine w_t hb ?_
      refine w_rdc (by omega) ?_
      refine w_rdc ht ?_
      rw [h.2.2.2.1 16 c (by omega) (by omega) hcn, hst, h.1 0 (by omega), hI.1.1, nI_1]
      exact w_n (nI_ge h1 (by omega)) (w_rtnZ (Or.inr rfl) ⟨rfl, rfl⟩)
    · refine ⟨0, ev_of ?_, by simp [along, h1]⟩
      unfold f_X1_goesAlong
      refine w_rdc (by omega) ?_
      rw [h.2.2.2.1 18 c (by omega) (by omega) hcn]
      refine w_t hb ?_
      refine w_rdc (by omega) ?_
      refine w_rdc ht ?_
      rw [h.2.2.2.1 16 c (by omega) (by omega) hcn, hst, h.1 0 (by omega), hI.1.1, nI_1]
      exact w_t (nI_le (by omega) (by omega)) (w_rtnZ (Or.inl rfl) ⟨rfl, rfl⟩)
  · refine ⟨0, ev_of ?_, by simp [along, hb]⟩
    unfold f_X1_goesAlong
    refine w_rdc (by omega) ?_
    rw [h.2.2.2.1 18 c (by omega) (by omega) hcn]
    exact w_n hb (w_rtnZ (Or.inl rfl) ⟨rfl, rfl⟩)
theorem e_isHeldUp (ht : t < 2) (h : RC t S A) (hI : IA A) (hs : s < kS A) (hcn : c < kC A) (hst : aI A 16 c = nI s) : ∃ v : Int32, (f_X1_isHeldUp t (30 * t + c)).1 S = some (v, S) ∧ (v = 0 ↔ ¬ (along A c s ∧ aI A 12 (s + 1) ≠ -1)) := by
  have h8 : kS A ≤ 8 := hI.1.2
  have h30 : kC A ≤ 30 := hI.2.2
  obtain ⟨v, h1, h2⟩ := e_goesAlong ht h hI hs hcn hst
  by_cases hv : v = 0
  · refine ⟨0, ev_of ?_, by simp [h2.mp hv]⟩
    unfold f_X1_isHeldUp
    refine w_t ht ?_
    refine w_ev h1 ?_
    exact w_t hv (w_rtnZ (Or.inl rfl) ⟨rfl, rfl⟩)
  · have hal : along A c s := Classical.byContradiction fun q => hv (h2.mpr q)
    by_cases hf : aI A 12 (s + 1) = -1
    · refine ⟨0, ev_of ?_, by simp [hf]⟩
      unfold f_X1_isHeldUp
      refine w_t ht ?_
      refine w_ev h1 ?_
      refine w_n hv ?_
      refine w_rdc (by omega) ?_
      rw [h.2.2.2.1 16 c (by omega) (by omega) hcn, hst, nI_1]
      refine w_t ht ?_
      refine w_ev (e_isFree ht h hI hal.2) ?_
      rw [if_pos hf]
      exact w_n (by decide) (w_rtnZ (Or.inl rfl) ⟨rfl, rfl⟩)
    · refine ⟨1, ev_of ?_, by simp [hal, hf]⟩
      unfold f_X1_isHeldUp
      refine w_t ht ?_
      refine w_ev h1 ?_
      refine w_n hv ?_
      refine w_rdc (by omega) ?_
      rw [h.2.2.2.1 16 c (by omega) (by omega) hcn, hst, nI_1]
      refine w_t ht ?_
      refine w_ev (e_isFree ht h hI hal.2) ?_
      rw [if_neg hf]
      exact w_t rfl (w_rtnZ (Or.inr rfl) ⟨rfl, rfl⟩)
end FIND
