/-! part 35: a car enters a station, leaves the line, comes to the loop, moves on -/
section ENTER
variable {t k c s : Nat} {S0 S S1 : St} {A : AS} {b : Int32}
theorem aServe_I {f i : Nat} (hf : f ≠ 11 ∧ f ≠ 13) : aI (aServe A c s) f i = aI A f i := by
  unfold aServe
  split
  · rfl
  · split
    · rfl
    · split
      · rw [aI_sL, aI_sI, if_neg (fun w => hf.1 w.1)]
      · rw [aI_sI, if_neg (fun w => hf.2 w.1)]
theorem trc_serve {x : Nat} : trc (aServe A c s) x = trc A x := by
  unfold aServe
  split
  · rfl
  · split
    · rfl
    · split <;> rfl
theorem trc_first {x : Nat} : trc (aFirst A c) x = trc A x := by
  unfold aFirst
  split <;> rfl
theorem IA.of {B : AS} (h : IA A) (h0 : aI B 0 0 = aI A 0 0) (h1 : aI B 1 0 = aI A 1 0) : IA B ∧ kS B = kS A ∧ kC B = kC A := by
  have e1 : kS B = kS A := by unfold kS; rw [h0]
  have e2 : kC B = kC A := by unfold kC; rw [h1]
  refine ⟨?_, e1, e2⟩
  unfold IA
  rw [e1, e2, h0, h1]
  exact h
theorem aSign_first : aSign (aFirst A c) c s b = aSign A c s b := by
  unfold aSign
  rw [aFirst_I (by omega), aFirst_I (by omega), aFirst_I (by omega), aFirst_I (by omega)]
theorem aSign_in : aSign A c s b = 43 ∨ aSign A c s b = 45 ∨ aSign A c s b = 46 := by
  unfold aSign
  split
  · exact Or.inl rfl
  · split
    · split
      · exact Or.inr (Or.inr rfl)
      · exact Or.inl rfl
    · split
      · exact Or.inl rfl
      · exact Or.inr (Or.inl rfl)
theorem cv_dig : ∀ s, s < 8 → cv (cv (48 + nI s)) = cv (48 + nI s) := by decide +kernel
/-- the first tick of a car -/
theorem w_first {α : Type} {Q : α → St → Prop} {g : PM α} (ht : t < 2) (h : CR t k S0 S A) (hI : IA A) (hc : c < kC A) (hk : ∀ S1, CR t k S0 S1 (aFirst A c) → wp g S1 Q) :
    wp (bnd (rdc 60 (30 * t + c) 20) (fun v14 => if v14 = 0 then (bnd (rdc 2 t 2) (fun v22 => bnd (wrc 60 (30 * t + c) 21 v22) (fun _ => g))) else g)) S Q := by
  have h30 : kC A ≤ 30 := hI.2.2
  refine w_rdc (by omega) ?_
  rcases (show t = 0 ∨ t = 1 by omega) with rfl | rfl
  · have e : gI S 20 (30 * 0 + c) 0 = aI A 20 c := by
      have := (h.2.1 rfl).2.1 20 c (by omega) (by omega) (by omega)
      rw [show 30 * 0 + c = c by omega]; exact this
    rw [e]
    refine w_if (fun q => ?_) (fun q => hk S (by unfold aFirst; rw [if_neg q]; exact h))
    refine w_rdc (by omega) ?_
    refine w_wrc (by omega) ?_
    refine hk _ ?_
    unfold aFirst
    rw [if_pos q]
    exact h.x20 (by omega) (by omega) (fun _ => h.1.1 2 (by omega))
  · have fin : ∀ S1, RC 1 S1 A → FR S0 S1 → CR 1 k S0 S1 (aFirst A c) := fun S1 h1 h2 => by
      refine ⟨?_, fun q => by omega, fun _ => h2, fun q => by omega⟩
      unfold aFirst
      split
      · exact h1.othA (by omega)
      · exact h1
    refine w_if (fun q => ?_) (fun q => hk S (fin S h.1 (h.2.2.1 rfl)))
    refine w_rdc (by omega) ?_
    refine w_wrc (by omega) ?_
    exact hk _ (fin _ (h.1.oth (by omega)) ((h.2.2.1 rfl).pI (by unfold zro; omega)))
theorem w_stand {tg : Int32} (ht : t < 2) (h : CR t k S0 S A) (hI : IA A) (hc : c < kC A) (hb : b = 0 ∨ b = 1) : wp (f_X0_stand (30 * t + c) (nI s) tg b) S (fun _ S1 => CR t k S0 S1 (aStand A c s tg b)) := by
  have h30 : kC A ≤ 30 := hI.2.2
  unfold f_X0_stand
  refine w_wrcC (by omega) (by decide) ?_
  refine w_wrc (by omega) ?_
  refine w_wrc (by omega) ?_
  refine w_wrcZ (by omega) hb ?_
  refine w_rdc (by omega) ?_
  refine w_wrc (by omega) ?_
  refine w_rtn ?_
  unfold aStand
  refine CR.x20 ((((h.car (by omega)).car (by omega)).car (by omega)).car (by omega)) (by omega) (by omega) (fun q => ?_)
  subst q
  rw [gI_pI, if_neg (by omega), gI_pI, if_neg (by omega), gI_pI, if_neg (by omega), gI_pI, if_neg (by omega)]
  have := (h.2.1 rfl).2.1 20 c (by omega) (by omega) (by omega)
  rw [show 30 * 0 + c = c by omega, this]
theorem w_enter (ht : t < 2) (h : CR t k S0 S A) (hI : IA A) (hs : s < kS A) (hc : c < kC A) (hb : b = 0 ∨ b = 1) (hl : (trc A c).length + 2 ≤ 32768) : wp (f_X1_enter t (30 * t + c) (nI s) b) S (fun _ S1 => CR t k S0 S1 (aEnter A c s b)) := by
  have h30 : kC A ≤ 30 := hI.2.2
  have h8 : kS A ≤ 8 := hI.1.2
  have em : (30 * t + c) % 30 = c := by omega
  unfold f_X1_enter
  refine w_t ht ?_
  refine w_ev (e_findStation ht h.1 hI hs) ?_
  refine w_t (by omega) ?_
  refine w_first ht h hI hc (fun S1 h1 => ?_)
  obtain ⟨hI1, kS1, kC1⟩ := hI.of (B := aFirst A c) (aFirst_I (by omega)) (aFirst_I (by omega))
  unfold f_X1_enter_J28
  refine w_t (by omega) ?_
  refine w_call (w_serve (b := b) ht h1 hI1 (by rw [kS1]; exact hs) (by rw [kC1]; exact hc)) (fun g S2 h2 => ?_)
  obtain ⟨hg, h2⟩ := h2
  rw [aSign_first] at hg
  subst hg
  refine w_rdk (by omega) ?_
  refine w_wrc (by omega) ?_
  rw [em]
  have h3 := h2.st (f := 12) (s := s) (v := nI c) (by omega)
  have i3 : ∀ f i, f ≠ 11 → f ≠ 12 → f ≠ 13 → f ≠ 21 → aI (sI (aServe (aFirst A c) c s) 12 s (nI c)) f i = aI A f i := fun f i a1 a2 a3 a4 => by
    rw [aI_sI, if_neg (fun w => a2 w.1), aServe_I ⟨a1, a3⟩, aFirst_I a4]
  obtain ⟨hI3, kS3, kC3⟩ := hI.of (i3 0 0 (by omega) (by omega) (by omega) (by omega)) (i3 1 0 (by omega) (by omega) (by omega) (by omega))
  have j64 : ∀ tg : Int32, tg = (if aSign A c s b = 46 then 1 else aI A 7 s) → wp (f_X1_enter_J64 t (30 * t + c) (nI s) b (aSign A c s b) tg (nI s) (30 * t + c)) (pI S2 12 (8 * t + s) 0 (nI c)) (fun _ S1 => CR t k S0 S1 (aEnter A c s b)) := by
    intro tg htg
    unfold f_X1_enter_J64
    refine w_t (by omega) ?_
    refine w_call (w_stand (s := s) (tg := tg) (b := b) ht h3 hI3 (by rw [kC3]; exact hc) hb) (fun _ S4 h4 => ?_)
    rw [htg] at h4
    have j95 : ∀ S5, CR t k S0 S5 (aFlt (aStand (sI (aServe (aFirst A c) c s) 12 s (nI c)) c s (if aSign A c s b = 46 then 1 else aI A 7 s) b) c s (aSign A c s b)) → wp (f_X1_enter_J95 t (30 * t + c) (nI s) (aSign A c s b)) S5 (fun _ S1 => CR t k S0 S1 (aEnter A c s b)) := by
      intro S5 h5
      have et : ∀ x, trc (aFlt (aStand (sI (aServe (aFirst A c) c s) 12 s (nI c)) c s (if aSign A c s b = 46 then 1 else aI A 7 s) b) c s (aSign A c s b)) x = trc A x := fun x => by
        have : ∀ B : AS, trc (aFlt B c s (aSign A c s b)) x = trc B x := fun B => by
          unfold aFlt
          split
          · rfl
          · split <;> rfl
        rw [this]
        show trc (aServe (aFirst A c) c s) x = _
        rw [trc_serve, trc_first]
      unfold f_X1_enter_J95
      refine w_t ht ?_
      refine w_call (w_note ht (by omega) h5 (by rw [et]; omega) (cv_dig s (by omega))) (fun _ S6 h6 => ?_)
      refine w_t ht ?_
      refine w_call (w_note ht (by omega) h6 (by rw [trc_note, if_pos rfl, et, List.length_append]; show (trc A c).length + 1 < 32768; omega) (by rcases aSign_in (A := A) (c := c) (s := s) (b := b) with e | e | e <;> rw [e] <;> decide)) (fun _ S7 h7 => ?_)
      exact w_rtn h7
    have g19 : ∀ B : AS, CR t k S0 S4 B → kC B = kC A → gI S4 19 (30 * t + c) 0 = aI B 19 c := fun B hB e => hB.1.2.2.2.1 19 c (by omega) (by omega) (by rw [e]; exact hc)
    have i4 : ∀ B : AS, ∀ tg b : Int32, ∀ f, f < 15 → aI (aStand B c s tg b) f 0 = aI B f 0 := fun B tg b f hf => by
      unfold aStand
      rw [aI_sI, if_neg (by omega), aI_sI, if_neg (by omega), aI_sI, if_neg (by omega), aI_sI, if_neg (by omega), aI_sI, if_neg (by omega)]
    have kC4 : kC (aStand (sI (aServe (aFirst A c) c s) 12 s (nI c)) c s (if aSign A c s b = 46 then 1 else aI A 7 s) b) = kC A := by
      rw [← kC3]; unfold kC; rw [i4 _ _ _ 1 (by omega)]
    by_cases e1 : aSign A c s b = 43
    · refine w_t e1 ?_
      refine w_t (by omega) ?_
      refine w_call (P := fun _ S5 => CR t k S0 S5 (aFlt (aStand (sI (aServe (aFirst A c) c s) 12 s (nI c)) c s (if aSign A c s b = 46 then 1 else aI A 7 s) b) c s (aSign A c s b))) ?_ (fun _ S5 h5 => j95 S5 h5)
      unfold f_X0_closeFault
      refine w_rdc (by omega) ?_
      refine w_wrc (by omega) ?_
      refine w_rtn ?_
      rw [g19 _ h4 kC4]
      unfold aFlt
      rw [if_pos e1]
      exact h4.car (by omega)
    · refine w_n e1 ?_
      by_cases e2 : aSign A c s b = 45
      · refine w_t e2 ?_
        refine w_t (by omega) ?_
        refine w_call (P := fun _ S5 => CR t k S0 S5 (aFlt (aStand (sI (aServe (aFirst A c) c s) 12 s (nI c)) c s (if aSign A c s b = 46 then 1 else aI A 7 s) b) c s (aSign A c s b))) ?_ (fun _ S5 h5 => j95 S5 h5)
        unfold f_X0_openFault
        refine w_rdc (by omega) ?_
        refine w_wrc (by omega) ?_
        refine w_rtn ?_
        rw [g19 _ h4 kC4]
        unfold aFlt
        rw [if_neg e1, if_pos e2]
        exact h4.car (by omega)
      · refine w_n e2 ?_
        refine j95 S4 ?_
        unfold aFlt
        rw [if_neg e1, if_neg e2]
        exact h4
  by_cases e : aSign A c s b = 46
  · refine w_t e ?_
    exact j64 1 (by rw [if_pos e])
  · refine w_n e ?_
    refine w_rdc (by omega) ?_
    rw [h3.1.2.2.1 7 s (by omega) (by omega) (by rw [kS3]; exact hs), i3 7 s (by omega) (by omega) (by omega) (by omega)]
    exact j64 _ (by rw [if_neg e])
end ENTER
