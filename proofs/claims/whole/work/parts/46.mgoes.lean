/-! part 46: the reference's entering, leaving, going on -/
section EN2
variable {q c s x : Nat} {S0 S S1 : St} {A B : AS} {v b : Int32}
theorem w_J90 {u4 u5 u6 : Int32} (hq : q < 2) (hI : IA A) (h : MB q S0 S A) (hc : c < kC A) (hs : s < kS A) (hb : b = 0 ∨ b = 1) (hl : (aT A).length + 1 < 1048576) (hj : q = 0 → (aI A 20 c = 0 ↔ s = 0 ∧ aI A 21 c = 0))
    (hsg : aSign A c s b = (if u6 = 0 then (if u5 = 0 then 43 else 46) else 45)) (h13 : aI (aServe A c s) 13 s = aI A 13 s + (if u6 = 0 then 0 else 1)) (hL : aL (aServe A c s) = aL (sL A s (aL A s + (if u4 = 0 then 0 else if u6 = 0 then (aI A 9 s).toInt64 else 0)))) (hpl : ¬ u5 = 0 → u6 = 0) (h11 : aI (aServe A c s) 11 s = (if u4 = 0 then aI A 11 s else if u6 = 0 then aI A 11 s - aI A 9 s else aI A 11 s)) :
    wp (f_X6_enters_J90 (nI c) (nI s) b u4 u5 u6) S (fun _ S1 => MB q S0 S1 (aEnter A c s b) ∧ LF S S1) := by
  have h30 := hI.2.2
  have h8 := hI.1.2
  -- what is left from before
  have h0 : MB q S0 S (sI (sI A 17 c (nw S (22 + c))) 18 c (nw S (52 + c))) := by
    obtain ⟨a1, a2, a3, a4, a5⟩ := h
    refine ⟨a1.pre, a2, fun w => ?_, a4, fun w => ⟨fun s hs => ⟨by rw [aI_sI, if_neg (by omega), aI_sI, if_neg (by omega)]; exact ((a5 w).1 s hs).1, by rw [aI_sI, if_neg (by omega), aI_sI, if_neg (by omega)]; exact ((a5 w).1 s hs).2⟩, fun y hy => ⟨by rw [aI_sI, if_neg (by omega), aI_sI, if_neg (by omega)]; exact ((a5 w).2 y hy).1, by rw [aI_sI, if_neg (by omega), aI_sI, if_neg (by omega)]; exact ((a5 w).2 y hy).2.1, by rw [aI_sI, if_neg (by omega), aI_sI, if_neg (by omega)]; exact ((a5 w).2 y hy).2.2⟩⟩⟩
    obtain ⟨x1, x2, x3, x4⟩ := a3 w
    have o : ∀ f i, f ≠ 17 → f ≠ 18 → aI (sI (sI A 17 c (nw S (22 + c))) 18 c (nw S (52 + c))) f i = aI A f i := fun f i a1 a2 => by rw [aI_sI, if_neg (fun w => a2 w.1), aI_sI, if_neg (fun w => a1 w.1)]
    unfold RMX
    rw [show kS (sI (sI A 17 c (nw S (22 + c))) 18 c (nw S (52 + c))) = kS A from (kS_sI (by omega)).trans (kS_sI (by omega)), show kC (sI (sI A 17 c (nw S (22 + c))) 18 c (nw S (52 + c))) = kC A from (kC_sI (by omega)).trans (kC_sI (by omega))]
    exact ⟨fun s hs => by rw [o 13 s (by omega) (by omega)]; exact x1 s hs, fun y hy => by rw [o 20 y (by omega) (by omega), o 21 y (by omega) (by omega), o 22 y (by omega) (by omega), o 15 y (by omega) (by omega)]; exact x2 y hy, x3, x4⟩
  generalize hA0 : sI (sI A 17 c (nw S (22 + c))) 18 c (nw S (52 + c)) = A0 at h0
  have a0 : ∀ f i, f ≠ 17 → f ≠ 18 → aI A0 f i = aI A f i := fun f i a1 a2 => by rw [← hA0, aI_sI, if_neg (fun w => a2 w.1), aI_sI, if_neg (fun w => a1 w.1)]
  have a0c : ∀ f i, i ≠ c → aI A0 f i = aI A f i := fun f i a1 => by rw [← hA0, aI_sI, if_neg (fun w => a1 w.2), aI_sI, if_neg (fun w => a1 w.2)]
  have a17 : aI A0 17 c = nw S (22 + c) := by rw [← hA0, aI_sI, if_neg (by omega), aI_sI, if_pos ⟨rfl, rfl⟩]
  have a18 : aI A0 18 c = nw S (52 + c) := by rw [← hA0, aI_sI, if_pos ⟨rfl, rfl⟩]
  obtain ⟨I0, kS0, kC0⟩ := hI.of (a0 0 0 (by omega) (by omega)) (a0 1 0 (by omega) (by omega))
  have aLA : aL A0 = aL A := by rw [← hA0]; rfl
  have aTA : aT A0 = aT A := by rw [← hA0]; rfl
  have aWA : aW A0 = aW A := by rw [← hA0]; rfl
  have aGA : aG A0 = aG A := by rw [← hA0]; rfl
  unfold f_X6_enters_J90
  refine w_mstx (j := 14 + s) (nI_add 14 s) (by omega) (by omega) ?_
  have h1 : MB q S0 (pI S 20 0 (14 + s) (nI c)) (sI A0 12 s (nI c)) := h0.n (h0.1.at I0 (by omega)) (fun f hf i => by rw [aI_sI, if_neg (by omega)]) (fun y w => by rw [aI_sI, if_neg (by omega)] at w; exact w) rfl rfl (MFx.no (by omega) (fun i => by rw [aI_sI, if_neg (by omega)]) (fun i => by rw [aI_sI, if_neg (by omega)]))
  have l1 : LF S (pI S 20 0 (14 + s) (nI c)) := LF.n (fun _ _ => rfl) (by omega)
  have I1 : IA (sI A0 12 s (nI c)) := I0.sI (by omega)
  refine w_mstx (j := 82 + c) (nI_add 82 c) (by omega) (by omega) ?_
  have h2 : MB q S0 (pI (pI S 20 0 (14 + s) (nI c)) 20 0 (82 + c) 115) (sI (sI A0 12 s (nI c)) 15 c 115) := h1.n (h1.1.place I1 (by omega) (fun _ _ => ⟨by rw [nw_pI]; dsimp only; rw [if_neg (by omega), aI_sI, if_neg (by omega), a17], by rw [nw_pI]; dsimp only; rw [if_neg (by omega), aI_sI, if_neg (by omega), a18]⟩)) (fun f hf i => by rw [aI_sI, if_neg (by omega)]) (fun y w => by
    rw [aI_sI] at w
    by_cases e : y = c
    · rw [if_pos ⟨rfl, e⟩] at w; exact absurd w (by decide)
    · rw [if_neg (fun z => e z.2)] at w; exact w) rfl rfl (MFx.no (by omega) (fun i => by rw [aI_sI, if_neg (by omega)]) (fun i => by rw [aI_sI, if_neg (by omega)]))
  have l2 := l1.n (v := 115) (x := 82 + c) (by omega)
  have I2 : IA (sI (sI A0 12 s (nI c)) 15 c 115) := I1.sI (by omega)
  -- the car's way back, its ticks
  have j130 : ∀ z : Int32, z = b → wp (f_X6_enters_J130 (nI c) (nI s) u4 u5 u6 z ((52 : Int32) + nI c)) (pI (pI S 20 0 (14 + s) (nI c)) 20 0 (82 + c) 115) (fun _ S1 => MB q S0 S1 (aEnter A c s b) ∧ LF S S1) := by
    intro z hz
    subst hz
    unfold f_X6_enters_J130
    refine w_mstx (j := 52 + c) (nI_add 52 c) (by omega) (by omega) ?_
    have h3 : MB q S0 (pI (pI (pI S 20 0 (14 + s) (nI c)) 20 0 (82 + c) 115) 20 0 (52 + c) z) (sI (sI (sI A0 12 s (nI c)) 15 c 115) 18 c z) := h2.n (h2.1.bck I2 (by omega)) (fun f hf i => by rw [aI_sI, if_neg (by omega)]) (fun y w => by rw [aI_sI, if_neg (by omega)] at w; exact w) rfl rfl (MFx.no (by omega) (fun i => by rw [aI_sI, if_neg (by omega)]) (fun i => by rw [aI_sI, if_neg (by omega)]))
    have l3 := l2.n (v := z) (x := 52 + c) (by omega)
    have I3 : IA (sI (sI (sI A0 12 s (nI c)) 15 c 115) 18 c z) := I2.sI (by omega)
    have j154 : ∀ tg : Int32, tg = (if aSign A c s z = 46 then 1 else aI A 7 s) → wp (f_X6_enters_J154 (nI c) (nI s) u4 u5 u6 tg ((22 : Int32) + nI c)) (pI (pI (pI S 20 0 (14 + s) (nI c)) 20 0 (82 + c) 115) 20 0 (52 + c) z) (fun _ S1 => MB q S0 S1 (aEnter A c s z) ∧ LF S S1) := by
      intro tg htg
      unfold f_X6_enters_J154
      refine w_mstx (j := 22 + c) (nI_add 22 c) (by omega) (by omega) ?_
      have h4 : MB q S0 (pI (pI (pI (pI S 20 0 (14 + s) (nI c)) 20 0 (82 + c) 115) 20 0 (52 + c) z) 20 0 (22 + c) tg) (sI (sI (sI (sI A0 12 s (nI c)) 15 c 115) 18 c z) 17 c tg) := h3.n (h3.1.togo I3 (by omega)) (fun f hf i => by rw [aI_sI, if_neg (by omega)]) (fun y w => by rw [aI_sI, if_neg (by omega)] at w; exact w) rfl rfl (MFx.no (by omega) (fun i => by rw [aI_sI, if_neg (by omega)]) (fun i => by rw [aI_sI, if_neg (by omega)]))
      have l4 := l3.n (v := tg) (x := 22 + c) (by omega)
      generalize hS4 : pI (pI (pI (pI S 20 0 (14 + s) (nI c)) 20 0 (82 + c) 115) 20 0 (52 + c) z) 20 0 (22 + c) tg = S4 at h4 l4
      generalize hM4 : sI (sI (sI (sI A0 12 s (nI c)) 15 c 115) 18 c z) 17 c tg = M4 at h4
      have m4 : ∀ f i, f ≠ 16 → f ≠ 13 → f ≠ 11 → f ≠ 19 → f < 20 → aI M4 f i = aI (aEnter A c s z) f i := fun f i b1 b2 b3 b4 b5 => by
        rw [← hM4, aI_sI, aI_sI, aI_sI, aI_sI]
        by_cases e17 : f = 17 ∧ i = c
        · rw [if_pos e17, e17.1, e17.2, aEnter_c (by omega)]; simp [htg]
        rw [if_neg e17]
        by_cases e18 : f = 18 ∧ i = c
        · rw [if_pos e18, e18.1, e18.2, aEnter_c (by omega)]; simp
        rw [if_neg e18]
        by_cases e15 : f = 15 ∧ i = c
        · rw [if_pos e15, e15.1, e15.2, aEnter_c (by omega)]; simp
        rw [if_neg e15]
        by_cases e12 : f = 12 ∧ i = s
        · rw [if_pos e12, e12.1, e12.2, aEnter_12]
        rw [if_neg e12, aEnter_o (by omega)]
        by_cases ec : i = c
        · exact a0 f i (by omega) (by omega)
        · exact a0c f i ec
      have m4x : ∀ f i, f = 11 ∨ f = 13 ∨ f = 19 ∨ f = 20 ∨ f = 21 ∨ f = 22 → aI M4 f i = aI A f i := fun f i w => by
        rw [← hM4, aI_sI, if_neg (by omega), aI_sI, if_neg (by omega), aI_sI, if_neg (by omega), aI_sI, if_neg (by omega)]
        exact a0 f i (by omega) (by omega)
      have kS4 : kS M4 = kS A := by unfold kS; rw [m4 0 0 (by omega) (by omega) (by omega) (by omega) (by omega), aEnter_o (by omega)]
      have kC4 : kC M4 = kC A := by unfold kC; rw [m4 1 0 (by omega) (by omega) (by omega) (by omega) (by omega), aEnter_o (by omega)]
      have I4 : IA M4 := (hI.of (B := M4) (by rw [m4 0 0 (by omega) (by omega) (by omega) (by omega) (by omega), aEnter_o (by omega)]) (by rw [m4 1 0 (by omega) (by omega) (by omega) (by omega) (by omega), aEnter_o (by omega)])).1
      have rows4 : aL M4 = aL A ∧ aT M4 = aT A ∧ aW M4 = aW A ∧ aG M4 = aG A := by rw [← hM4]; exact ⟨aLA, aTA, aWA, aGA⟩
      -- faults done: the shelf, then the log
      have j200 : ∀ S5 M5, MB q S0 S5 M5 → LF S S5 → (∀ f i, f ≠ 16 → f ≠ 13 → f ≠ 11 → f < 20 → aI M5 f i = aI (aEnter A c s z) f i) → (∀ f i, f = 11 ∨ f = 13 ∨ f = 20 ∨ f = 21 ∨ f = 22 → aI M5 f i = aI A f i) → (aL M5 = aL A ∧ aT M5 = aT A ∧ aW M5 = aW A ∧ aG M5 = aG A) → wp (f_X6_enters_J200 (nI c) (nI s) u4 u5 u6) S5 (fun _ S1 => MB q S0 S1 (aEnter A c s z) ∧ LF S S1) := by
        intro S5 M5 h5 l5 n1 n2 ⟨n3, n4, n5, n6⟩
        have kS5 : kS M5 = kS A := by unfold kS; rw [n1 0 0 (by omega) (by omega) (by omega) (by omega), aEnter_o (by omega)]
        have I5 : IA M5 := (hI.of (B := M5) (by rw [n1 0 0 (by omega) (by omega) (by omega) (by omega), aEnter_o (by omega)]) (by rw [n1 1 0 (by omega) (by omega) (by omega) (by omega), aEnter_o (by omega)])).1
        have j228 : ∀ S6 M6, MB q S0 S6 M6 → LF S S6 → PR A M6 c s z → wp (f_X6_enters_J228 (nI c) (nI s) u4 u5 u6) S6 (fun _ S1 => MB q S0 S1 (aEnter A c s z) ∧ LF S S1) := by
          intro S6 M6 h6 l6 hM
          unfold f_X6_enters_J228
          refine w_call (w_writes (c := c) (g := cv (48 + nI s)) h6 hq (by rw [hM.2.2.2.1]; omega) (cv_dig s (by omega))) (fun _ S7 h7 => ?_)
          have l7 := l6.tr h7.2
          have fin : wp (f_X6_enters_J262 (nI c) (nI s) u4 u6 (aSign A c s z) (nI c)) S7 (fun _ S1 => MB q S0 S1 (aEnter A c s z) ∧ LF S S1) := w_mono (w_J262 hq hI hc hs hM h7.1 hl h13 hL hj) (fun _ S8 h8 => ⟨h8.1, l7.tr h8.2⟩)
          rw [hsg] at fin
          by_cases e6 : u6 = 0
          · rw [if_pos e6] at fin
            refine w_t e6 ?_
            by_cases e5 : u5 = 0
            · rw [if_pos e5] at fin
              exact w_t e5 fin
            · rw [if_neg e5] at fin
              exact w_n e5 fin
          · rw [if_neg e6] at fin
            exact w_n e6 fin
        have e11 : ∀ M6 : AS, (∀ i, i ≠ s → aI M6 11 i = aI A 11 i) → aI M6 11 s = aI (aServe A c s) 11 s → (∀ f i, f ≠ 11 → aI M6 f i = aI M5 f i) → (aL M6 = aL A ∧ aT M6 = aT A ∧ aW M6 = aW A ∧ aG M6 = aG A) → PR A M6 c s z := by
          intro M6 p1 p2 p3 p4
          refine ⟨fun f i b1 b2 b3 => ?_, fun f i w => ?_, p4⟩
          · by_cases e : f = 11
            · subst e
              by_cases ei : i = s
              · subst ei
                rw [p2, aEnter_sv (Or.inl rfl)]
              · rw [p1 i ei, aEnter_o (Or.inr (Or.inr (Or.inl ⟨by omega, ei⟩)))]
            · rw [p3 f i e]; exact n1 f i b1 b2 e b3
          · rw [p3 f i (by omega)]; exact n2 f i (by omega)
        unfold f_X6_enters_J200
        by_cases e4 : u4 = 0
        · refine w_t e4 (j228 S5 M5 h5 l5 (e11 M5 (fun i _ => n2 11 i (by omega)) (by rw [n2 11 s (by omega), h11, if_pos e4]) (fun _ _ _ => rfl) ⟨n3, n4, n5, n6⟩))
        refine w_n e4 ?_
        by_cases e6 : u6 = 0
        · refine w_t e6 ?_
          refine w_mldx (j := 6 + s) (nI_add 6 s) (by omega) (by omega) ?_
          have e1 : gI S5 20 0 (6 + s) = aI A 11 s := by
            have : gI S5 20 0 (6 + s) = aI M5 11 s := h5.1.2.2.2.2.1 s (by rw [kS5]; exact hs)
            rw [this, n2 11 s (by omega)]
          have e2 : gI S5 13 0 s = aI A 9 s := by rw [(h5.1.2.1 s (by rw [kS5]; exact hs)).2.2.1, n1 9 s (by omega) (by omega) (by omega) (by omega), aEnter_o (by omega)]
          refine w_mldx rfl (show s < 8 by omega) (by omega) ?_
          rw [e1, e2]
          refine w_mstx (j := 6 + s) (nI_add 6 s) (by omega) (by omega) ?_
          refine j228 _ (sI M5 11 s (aI A 11 s - aI A 9 s)) (h5.n (h5.1.sh I5 (by omega)) (fun f hf i => by rw [aI_sI, if_neg (by omega)]) (fun y w => by rw [aI_sI, if_neg (by omega)] at w; exact w) rfl rfl (MFx.sh (by omega))) (l5.n (by omega)) (e11 _ (fun i hi => by rw [aI_sI, if_neg (fun w => hi w.2)]; exact n2 11 i (by omega)) (by rw [aI_sI, if_pos ⟨rfl, rfl⟩, h11, if_neg e4, if_pos e6]) (fun f i w => by rw [aI_sI, if_neg (fun z => w z.1)]) ⟨n3, n4, n5, n6⟩)
        · refine w_n e6 (j228 S5 M5 h5 l5 (e11 M5 (fun i _ => n2 11 i (by omega)) (by rw [n2 11 s (by omega), h11, if_neg e4, if_neg e6]) (fun _ _ _ => rfl) ⟨n3, n4, n5, n6⟩))
      -- the faults
      have e19 : gI S4 20 0 (112 + c) = aI A 19 c := by
        have : gI S4 20 0 (112 + c) = aI M4 19 c := h4.1.2.2.2.2.2.2.2.1 c (by rw [kC4]; exact hc)
        rw [this, m4x 19 c (by omega)]
      have flt : ∀ w : Int32, w = aI (aEnter A c s z) 19 c → wp (f_X6_enters_J200 (nI c) (nI s) u4 u5 u6) (pI S4 20 0 (112 + c) w) (fun _ S1 => MB q S0 S1 (aEnter A c s z) ∧ LF S S1) := by
        intro w hw
        refine j200 _ (sI M4 19 c w) (h4.n (h4.1.flt I4 (by omega)) (fun f hf i => by rw [aI_sI, if_neg (by omega)]) (fun y w => by rw [aI_sI, if_neg (by omega)] at w; exact w) rfl rfl (MFx.fl (by omega))) (l4.n (by omega)) (fun f i b1 b2 b3 b4 => ?_) (fun f i w => by rw [aI_sI, if_neg (by omega)]; exact m4x f i (by omega)) rows4
        rw [aI_sI]
        by_cases e : f = 19 ∧ i = c
        · rw [if_pos e, e.1, e.2]; exact hw
        · rw [if_neg e]
          by_cases e9 : f = 19
          · subst e9
            rw [m4x 19 i (by omega), aEnter_o (Or.inr (Or.inr (Or.inr ⟨by omega, fun w => e ⟨rfl, w⟩⟩)))]
          · exact m4 f i b1 b2 b3 e9 b4
      by_cases e6 : u6 = 0
      · refine w_t e6 ?_
        by_cases e5 : u5 = 0
        · refine w_t e5 ?_
          refine w_mldx (j := 112 + c) (nI_add 112 c) (by omega) (by omega) ?_
          rw [e19]
          refine w_mstx (j := 112 + c) (nI_add 112 c) (by omega) (by omega) ?_
          exact flt _ (by rw [aEnter_19, hsg, if_pos e6, if_pos e5, if_pos rfl])
        · refine w_n e5 ?_
          refine j200 S4 M4 h4 l4 (fun f i b1 b2 b3 b4 => ?_) (fun f i w => m4x f i (by omega)) rows4
          by_cases e9 : f = 19
          · subst e9
            rw [m4x 19 i (by omega)]
            by_cases ei : i = c
            · subst ei
              rw [aEnter_19, hsg, if_pos e6, if_neg e5, if_neg (by decide), if_neg (by decide)]
            · rw [aEnter_o (Or.inr (Or.inr (Or.inr ⟨by omega, ei⟩)))]
          · exact m4 f i b1 b2 b3 e9 b4
      · refine w_n e6 ?_
        refine w_mldx (j := 112 + c) (nI_add 112 c) (by omega) (by omega) ?_
        rw [e19]
        refine w_mstx (j := 112 + c) (nI_add 112 c) (by omega) (by omega) ?_
        exact flt _ (by rw [aEnter_19, hsg, if_neg e6, if_neg (by decide), if_pos rfl])
    have e7 : gI (pI (pI (pI S 20 0 (14 + s) (nI c)) 20 0 (82 + c) 115) 20 0 (52 + c) z) 11 0 s = aI A 7 s := by
      rw [gI_pI, if_neg (by omega), gI_pI, if_neg (by omega), gI_pI, if_neg (by omega)]
      exact (h.1.2.1 s hs).1
    by_cases e5 : u5 = 0
    · refine w_t e5 ?_
      refine w_mldx rfl (show s < 8 by omega) (by omega) ?_
      rw [e7]
      exact j154 _ (by
        rw [hsg, if_pos e5]
        by_cases e6 : u6 = 0
        · rw [if_pos e6, if_neg (by decide)]
        · rw [if_neg e6, if_neg (by decide)])
    · refine w_n e5 ?_
      by_cases e6 : u6 = 0
      · exact j154 1 (by rw [hsg, if_pos e6, if_neg e5, if_pos rfl])
      · exact absurd (hpl e5) e6
  rcases hb with rfl | rfl
  · refine w_t rfl (j130 0 rfl)
  · refine w_n (by decide) (j130 1 rfl)
end EN2
