/-! part 52: the calls that ask of a car, a station, a part, a place -/
theorem inv_TH {v : Int32} {Sm : St} : TH v Sm (pI Sm 5 0 0 v) := TH.rf
section ASK2
variable {S Sm : St} {A : AS} {T k c s i : Nat} {a a1 a2 : Int32}
theorem IN.cd (h : IN S Sm A T k) : kC A ≤ 2097152 := by have := h.2.2.1.1.2.2; omega
theorem IN.sd (h : IN S Sm A T k) : kS A ≤ 2097152 := by have := h.2.2.1.1.1.2; omega
theorem IN.place (h : IN S Sm A T k) (hc : c < kC A) : gI S 15 c 0 = aI A 15 c ∧ gI Sm 20 0 (82 + c) = aI A 15 c := ⟨by have := h.1.1.2.2.2.1 15 c (by omega) (by omega) hc; rwa [show 30 * 0 + c = c by omega] at this, h.2.1.1.1.2.2.2.2.2.2.1 c hc⟩
theorem IN.car (h : IN S Sm A T k) (hc : c < kC A) {f : Nat} (hf : 14 ≤ f ∧ f ≤ 19) : gI S f c 0 = aI A f c := by have := h.1.1.2.2.2.1 f c hf.1 hf.2 hc; rwa [show 30 * 0 + c = c by omega] at this
theorem IN.st (h : IN S Sm A T k) (hc : s < kS A) {f : Nat} (hf : 7 ≤ f ∧ f ≤ 12) : gI S f s 0 = aI A f s := by have := h.1.1.2.2.1 f s hf.1 hf.2 hc; rwa [show 8 * 0 + s = s by omega] at this
theorem IN.co (h : IN S Sm A T k) (hc : c < kC A) : CO1 A c := h.2.2.1.2.2.2.2.1 c hc
theorem place_cv (h : IN S Sm A T k) (hc : c < kC A) : cv (aI A 15 c) = aI A 15 c := by rcases (h.co hc).1 with e | e | e | e <;> rw [e] <;> decide
theorem g5 {v : Int32} {f j : Nat} (hf : f ≠ 5) : gI (pI Sm 5 0 0 v) f 0 j = gI Sm f 0 j := by rw [gI_pI, if_neg (fun w => hf w.1)]
theorem g5s {v : Int32} : gI (pI Sm 5 0 0 v) 5 0 0 = v := by rw [gI_pI, if_pos ⟨rfl, rfl, rfl⟩]
theorem ag_stateOf (hi : i + 5 ≤ 2560) : agW INV i (f_X5_stateOf 0 a1) (f_X6_stateOf a1) (exCode [("java/util/NoSuchElementException", 1)]) ["java/util/NoSuchElementException"] (fun r q => r = q) := ag_ask (fun S Sm A T k hN => by
  have h30 := hN.2.2.1.1.2.2
  rcases i32_cases a1 (kC A) hN.cd with h0 | ⟨c, hc, rfl⟩
  · refine Or.inr ⟨_, 32, pI Sm 5 0 0 1, ev_of ?_, ev_of ?_, List.mem_cons_self, TH.rf⟩
    · unfold f_X5_stateOf
      exact w_t (by omega) (w_bxr (x_reqCar0 hN.1 hN.2.2.1.1 h0) ⟨rfl, rfl⟩)
    · unfold f_X6_stateOf
      refine w_ev (m_asked0 hN.2.1 hN.2.2.1.1 h0) ?_
      exact w_t rfl (w_rtnC (by decide) ⟨rfl, rfl⟩)
  · refine Or.inl ⟨aI A 15 c, aI A 15 c, pI Sm 5 0 0 0, ev_of ?_, ev_of ?_, TH.rf, rfl⟩
    · unfold f_X5_stateOf
      refine w_t (by omega) (w_bx (x_reqCar hN.1 hN.2.2.1.1 hc) ?_)
      refine w_rdc (by omega) ?_
      rw [(hN.place hc).1]
      exact w_rtCX (place_cv hN hc) ⟨rfl, rfl⟩
    · unfold f_X6_stateOf
      refine w_ev (m_asked hN.2.1 hN.2.2.1.1 hc) ?_
      refine w_n (by decide) ?_
      refine w_mldx (j := 82 + c) (nI_add 82 c) (by omega) (by omega) ?_
      rw [g5 (by omega), (hN.place hc).2]
      exact w_rtnC (congrArg cv (place_cv hN hc)) ⟨place_cv hN hc, rfl⟩) hi
/-- where a car stands -/
theorem e_st0 (h : MS 0 Sm Sm A) (hI : IA A) {Sm1 : St} {v : Int32} (h1 : Sm1 = pI Sm 5 0 0 v ∨ Sm1 = Sm) : ∀ (m n s : Nat) (u : Int32), s + m = kS A → m < n → (∀ x, s ≤ x → x < kS A → aI A 12 x ≠ nI c) → (f_X6_standsAt_L4 n (nI c) u (nI s)).1 Sm1 = some (u, Sm1) := by
  have h8 := hI.1.2
  have e0 : gI Sm1 0 0 0 = aI A 0 0 := by rcases h1 with rfl | rfl; rw [g5 (by omega)]; exact h.1.1.1.1; exact h.1.1.1.1
  have e12 : ∀ x, x < kS A → gI Sm1 20 0 (14 + x) = aI A 12 x := fun x hx => by rcases h1 with rfl | rfl; rw [g5 (by omega)]; exact h.1.1.2.2.2.2.2.1 x hx; exact h.1.1.2.2.2.2.2.1 x hx
  intro m
  induction m with
  | zero =>
    intro n s u hm hn hx
    obtain ⟨n, rfl⟩ : ∃ k, n = k + 1 := ⟨n - 1, by omega⟩
    refine ev_of ?_
    rw [f_X6_standsAt_L4]
    refine w_rdI ?_
    rw [e0, hI.1.1]
    exact w_t (nI_le (by omega) (by omega)) (w_rtn ⟨rfl, rfl⟩)
  | succ m ih =>
    intro n s u hm hn hx
    obtain ⟨n, rfl⟩ : ∃ k, n = k + 1 := ⟨n - 1, by omega⟩
    refine ev_of ?_
    rw [f_X6_standsAt_L4]
    refine w_rdI ?_
    rw [e0, hI.1.1]
    refine w_n (nI_ge (by omega) (by omega)) ?_
    refine w_mldx (j := 14 + s) (nI_add 14 s) (by omega) (by omega) ?_
    rw [e12 s (by omega), nI_1]
    refine w_n (hx s (Nat.le_refl _) (by omega)) ?_
    exact w_of (ih n (s + 1) u (by omega) (by omega) (fun x a b => hx x (by omega) b)) ⟨rfl, rfl⟩
theorem e_st1 (h : MS 0 Sm Sm A) (hI : IA A) {Sm1 : St} {v : Int32} (h1 : Sm1 = pI Sm 5 0 0 v ∨ Sm1 = Sm) {s0 : Nat} (hs0 : s0 < kS A) (hat : aI A 12 s0 = nI c) (hu : ∀ x, x < kS A → x ≠ s0 → aI A 12 x ≠ nI c) : ∀ (m n s : Nat) (u : Int32), s + m = kS A → m < n → s ≤ s0 → (f_X6_standsAt_L4 n (nI c) u (nI s)).1 Sm1 = some (nI s0, Sm1) := by
  have h8 := hI.1.2
  have e0 : gI Sm1 0 0 0 = aI A 0 0 := by rcases h1 with rfl | rfl; rw [g5 (by omega)]; exact h.1.1.1.1; exact h.1.1.1.1
  have e12 : ∀ x, x < kS A → gI Sm1 20 0 (14 + x) = aI A 12 x := fun x hx => by rcases h1 with rfl | rfl; rw [g5 (by omega)]; exact h.1.1.2.2.2.2.2.1 x hx; exact h.1.1.2.2.2.2.2.1 x hx
  intro m
  induction m with
  | zero => intro n s u hm hn hs; omega
  | succ m ih =>
    intro n s u hm hn hs
    obtain ⟨n, rfl⟩ : ∃ k, n = k + 1 := ⟨n - 1, by omega⟩
    refine ev_of ?_
    rw [f_X6_standsAt_L4]
    refine w_rdI ?_
    rw [e0, hI.1.1]
    refine w_n (nI_ge (by omega) (by omega)) ?_
    refine w_mldx (j := 14 + s) (nI_add 14 s) (by omega) (by omega) ?_
    rw [e12 s (by omega), nI_1]
    by_cases e : s = s0
    · subst e
      refine w_t hat ?_
      exact w_of (e_st0 h hI h1 m n (s + 1) (nI s) (by omega) (by omega) (fun x a b => hu x b (by omega))) ⟨rfl, rfl⟩
    · refine w_n (hu s (by omega) e) ?_
      exact w_of (ih n (s + 1) u (by omega) (by omega) (by omega)) ⟨rfl, rfl⟩
theorem stand_no (hJ : JA A) (hc : c < kC A) (hp : aI A 15 c ≠ 115) : ∀ x, x < kS A → aI A 12 x ≠ nI c := fun x hx w => by
  have h30 := hJ.1.2.2
  rcases hJ.2.1 x hx with e | ⟨e1, e2, e3, e4, e5⟩
  · rw [w] at e; exact nI_ne_neg (by omega) e
  · have : atC A x = c := by unfold atC; rw [w, nI_clamp (by omega)]
    rw [this] at e4; exact hp e4
theorem stand_yes (hJ : JA A) (hc : c < kC A) (hp : aI A 15 c = 115) : ∃ s0, s0 < kS A ∧ aI A 16 c = nI s0 ∧ aI A 12 s0 = nI c ∧ ∀ x, x < kS A → x ≠ s0 → aI A 12 x ≠ nI c := by
  have h30 := hJ.1.2.2
  have h8 := hJ.1.1.2
  obtain ⟨s0, s1, s2, s3⟩ := hJ.2.2.1 c hc (by omega) hp
  refine ⟨s0, s1, s2, s3, fun x hx hne w => ?_⟩
  rcases hJ.2.1 x hx with e | ⟨e1, e2, e3, e4, e5⟩
  · rw [w] at e; exact nI_ne_neg (by omega) e
  · have : atC A x = c := by unfold atC; rw [w, nI_clamp (by omega)]
    rw [this, s2] at e3
    exact hne (nI_inj (by omega) (by omega) e3).symm
theorem m_stands (h : MS 0 Sm Sm A) (hJ : JA A) (hc : c < kC A) (hp : aI A 15 c = 115) {Sm1 : St} {v : Int32} (h1 : Sm1 = pI Sm 5 0 0 v ∨ Sm1 = Sm) : (f_X6_standsAt (nI c)).1 Sm1 = some (aI A 16 c, Sm1) := by
  have h8 := hJ.1.1.2
  obtain ⟨s0, s1, s2, s3, s4⟩ := stand_yes hJ hc hp
  rw [s2]
  exact e_st1 h hJ.1 h1 s1 s3 s4 (kS A) 400 0 (-1) (by omega) (by omega) (by omega)
theorem m_stands0 (h : MS 0 Sm Sm A) (hJ : JA A) (hc : c < kC A) (hp : aI A 15 c ≠ 115) {Sm1 : St} {v : Int32} (h1 : Sm1 = pI Sm 5 0 0 v ∨ Sm1 = Sm) : (f_X6_standsAt (nI c)).1 Sm1 = some (-1, Sm1) := by
  have h8 := hJ.1.1.2
  exact e_st0 h hJ.1 h1 (kS A) 400 0 (-1) (by omega) (by omega) (fun x _ hx => stand_no hJ hc hp x hx)
theorem x_reqStand (h : IN S Sm A T k) (hc : c < kC A) (hp : aI A 15 c = 115) : (f_X5_requireStanding 0 (nI c)).1 S = some (.inl c, S) := by
  have h30 := h.2.2.1.1.2.2
  refine ev_of ?_
  unfold f_X5_requireStanding
  refine w_t (by omega) (w_bx (x_reqCar h.1 h.2.2.1.1 hc) ?_)
  refine w_rdc (by omega) ?_
  rw [(h.place hc).1]
  exact w_t hp (w_rtX ⟨rfl, rfl⟩)
theorem x_reqStand0 (h : IN S Sm A T k) (hc : c < kC A) (hp : aI A 15 c ≠ 115) : (f_X5_requireStanding 0 (nI c)).1 S = some (.inr "java/lang/IllegalStateException", thrS S) := by
  have h30 := h.2.2.1.1.2.2
  refine ev_of ?_
  unfold f_X5_requireStanding
  refine w_t (by omega) (w_bx (x_reqCar h.1 h.2.2.1.1 hc) ?_)
  refine w_rdc (by omega) ?_
  rw [(h.place hc).1]
  exact w_n hp (w_thr ⟨rfl, rfl⟩)
theorem x_reqStandN (h : IN S Sm A T k) (h0 : a < 0 ∨ nI (kC A) ≤ a) : (f_X5_requireStanding 0 a).1 S = some (.inr "java/util/NoSuchElementException", thrS S) := by
  refine ev_of ?_
  unfold f_X5_requireStanding
  exact w_t (by omega) (w_bxr (x_reqCar0 h.1 h.2.2.1.1 h0) ⟨rfl, rfl⟩)
theorem ag_stationOf (hi : i + 5 ≤ 2560) : agW INV i (f_X5_stationOf 0 a1) (f_X6_stationOf a1) (exCode [("java/util/NoSuchElementException", 1), ("java/lang/IllegalStateException", 2)]) ["java/util/NoSuchElementException", "java/lang/IllegalStateException"] (fun r q => r = q) := ag_ask (fun S Sm A T k hN => by
  have h30 := hN.2.2.1.1.2.2
  rcases i32_cases a1 (kC A) hN.cd with h0 | ⟨c, hc, rfl⟩
  · refine Or.inr ⟨_, -1, pI Sm 5 0 0 1, ev_of ?_, ev_of ?_, List.mem_cons_self, TH.rf⟩
    · unfold f_X5_stationOf
      exact w_t (by omega) (w_bxr (x_reqStandN hN h0) ⟨rfl, rfl⟩)
    · unfold f_X6_stationOf f_X6_stationOf_J27
      refine w_ev (m_isCar0 hN.2.1 hN.2.2.1.1 h0) ?_
      refine w_t rfl ?_
      refine w_wrI ?_
      refine w_rdI ?_
      rw [g5s]
      exact w_n (by decide) (w_rtn ⟨rfl, rfl⟩)
  · by_cases hp : aI A 15 c = 115
    · refine Or.inl ⟨aI A 16 c, aI A 16 c, pI Sm 5 0 0 0, ev_of ?_, ev_of ?_, TH.rf, rfl⟩
      · unfold f_X5_stationOf
        refine w_t (by omega) (w_bx (x_reqStand hN hc hp) ?_)
        refine w_rdc (by omega) ?_
        rw [hN.car hc (by omega)]
        exact w_rtX ⟨rfl, rfl⟩
      · obtain ⟨s0, s1, s2, s3, s4⟩ := stand_yes hN.2.2.1 hc hp
        have h8 := hN.2.2.1.1.1.2
        unfold f_X6_stationOf f_X6_stationOf_J27
        refine w_ev (m_isCar hN.2.1 hN.2.2.1.1 hc) ?_
        refine w_n (by decide) ?_
        refine w_ev (m_stands (v := 0) hN.2.1 hN.2.2.1 hc hp (Or.inr rfl)) ?_
        refine w_n (by rw [s2]; exact nI_ne_neg (by omega)) ?_
        refine w_wrI ?_
        refine w_rdI ?_
        rw [g5s]
        refine w_t rfl ?_
        refine w_ev (m_stands (v := 0) hN.2.1 hN.2.2.1 hc hp (Or.inl rfl)) ?_
        exact w_rtn ⟨rfl, rfl⟩
    · refine Or.inr ⟨_, -1, pI Sm 5 0 0 2, ev_of ?_, ev_of ?_, List.mem_cons_of_mem _ List.mem_cons_self, TH.rf⟩
      · unfold f_X5_stationOf
        exact w_t (by omega) (w_bxr (x_reqStand0 hN hc hp) ⟨rfl, rfl⟩)
      · unfold f_X6_stationOf f_X6_stationOf_J27
        refine w_ev (m_isCar hN.2.1 hN.2.2.1.1 hc) ?_
        refine w_n (by decide) ?_
        refine w_ev (m_stands0 (v := 0) hN.2.1 hN.2.2.1 hc hp (Or.inr rfl)) ?_
        refine w_t rfl ?_
        refine w_wrI ?_
        refine w_rdI ?_
        rw [g5s]
        exact w_n (by decide) (w_rtn ⟨rfl, rfl⟩)) hi
theorem ag_toGo (hi : i + 5 ≤ 2560) : agW INV i (f_X5_toGo 0 a1) (f_X6_toGo a1) (exCode [("java/util/NoSuchElementException", 1), ("java/lang/IllegalStateException", 2)]) ["java/util/NoSuchElementException", "java/lang/IllegalStateException"] (fun r q => r = q) := ag_ask (fun S Sm A T k hN => by
  have h30 := hN.2.2.1.1.2.2
  rcases i32_cases a1 (kC A) hN.cd with h0 | ⟨c, hc, rfl⟩
  · refine Or.inr ⟨_, -1, pI Sm 5 0 0 1, ev_of ?_, ev_of ?_, List.mem_cons_self, TH.rf⟩
    · unfold f_X5_toGo
      exact w_t (by omega) (w_bxr (x_reqStandN hN h0) ⟨rfl, rfl⟩)
    · unfold f_X6_toGo f_X6_toGo_J27
      refine w_ev (m_isCar0 hN.2.1 hN.2.2.1.1 h0) ?_
      refine w_t rfl ?_
      refine w_wrI ?_
      refine w_rdI ?_
      rw [g5s]
      exact w_n (by decide) (w_rtn ⟨rfl, rfl⟩)
  · by_cases hp : aI A 15 c = 115
    · refine Or.inl ⟨aI A 17 c, aI A 17 c, pI Sm 5 0 0 0, ev_of ?_, ev_of ?_, TH.rf, rfl⟩
      · unfold f_X5_toGo
        refine w_t (by omega) (w_bx (x_reqStand hN hc hp) ?_)
        refine w_rdc (by omega) ?_
        rw [hN.car hc (by omega)]
        exact w_rtX ⟨rfl, rfl⟩
      · obtain ⟨s0, s1, s2, s3, s4⟩ := stand_yes hN.2.2.1 hc hp
        have h8 := hN.2.2.1.1.1.2
        unfold f_X6_toGo f_X6_toGo_J27
        refine w_ev (m_isCar hN.2.1 hN.2.2.1.1 hc) ?_
        refine w_n (by decide) ?_
        refine w_ev (m_stands (v := 0) hN.2.1 hN.2.2.1 hc hp (Or.inr rfl)) ?_
        refine w_n (by rw [s2]; exact nI_ne_neg (by omega)) ?_
        refine w_wrI ?_
        refine w_rdI ?_
        rw [g5s]
        refine w_t rfl ?_
        refine w_mldx (j := 22 + c) (nI_add 22 c) (by omega) (by omega) ?_
        rw [g5 (by omega)]
        exact w_rtn ⟨(hN.2.1.1.1.2.2.2.2.2.2.2.2.1 c hc hp).1, rfl⟩
    · refine Or.inr ⟨_, -1, pI Sm 5 0 0 2, ev_of ?_, ev_of ?_, List.mem_cons_of_mem _ List.mem_cons_self, TH.rf⟩
      · unfold f_X5_toGo
        exact w_t (by omega) (w_bxr (x_reqStand0 hN hc hp) ⟨rfl, rfl⟩)
      · unfold f_X6_toGo f_X6_toGo_J27
        refine w_ev (m_isCar hN.2.1 hN.2.2.1.1 hc) ?_
        refine w_n (by decide) ?_
        refine w_ev (m_stands0 (v := 0) hN.2.1 hN.2.2.1 hc hp (Or.inr rfl)) ?_
        refine w_t rfl ?_
        refine w_wrI ?_
        refine w_rdI ?_
        rw [g5s]
        exact w_n (by decide) (w_rtn ⟨rfl, rfl⟩)) hi
theorem ag_carAt (hi : i + 5 ≤ 2560) : agW INV i (f_X5_carAt 0 a1) (f_X6_carAt a1) (exCode [("java/util/NoSuchElementException", 1), ("java/lang/IllegalStateException", 2)]) ["java/util/NoSuchElementException", "java/lang/IllegalStateException"] (fun r q => r = q) := ag_ask (fun S Sm A T k hN => by
  have h8 := hN.2.2.1.1.1.2
  rcases i32_cases a1 (kS A) hN.sd with h0 | ⟨s, hs, rfl⟩
  · refine Or.inr ⟨_, -1, pI Sm 5 0 0 1, ev_of ?_, ev_of ?_, List.mem_cons_self, TH.rf⟩
    · unfold f_X5_carAt
      exact w_t (by omega) (w_bxr (x_reqSt0 hN.1 hN.2.2.1.1 h0) ⟨rfl, rfl⟩)
    · unfold f_X6_carAt f_X6_carAt_J31
      refine w_ev (m_isSt0 hN.2.1 hN.2.2.1.1 h0) ?_
      refine w_t rfl ?_
      refine w_wrI ?_
      refine w_rdI ?_
      rw [g5s]
      exact w_n (by decide) (w_rtn ⟨rfl, rfl⟩)
  · have e12 : gI Sm 20 0 (14 + s) = aI A 12 s := hN.2.1.1.1.2.2.2.2.2.1 s hs
    by_cases hp : aI A 12 s = -1
    · refine Or.inr ⟨_, -1, pI Sm 5 0 0 2, ev_of ?_, ev_of ?_, List.mem_cons_of_mem _ List.mem_cons_self, TH.rf⟩
      · unfold f_X5_carAt
        refine w_t (by omega) (w_bx (x_reqSt hN.1 hN.2.2.1.1 hs) ?_)
        refine w_rdc (by omega) ?_
        rw [hN.st hs (by omega)]
        exact w_t hp (w_thr ⟨rfl, rfl⟩)
      · unfold f_X6_carAt f_X6_carAt_J31
        refine w_ev (m_isSt hN.2.1 hN.2.2.1.1 hs) ?_
        refine w_n (by decide) ?_
        refine w_mldx (j := 14 + s) (nI_add 14 s) (by omega) (by omega) ?_
        rw [e12]
        refine w_t hp ?_
        refine w_wrI ?_
        refine w_rdI ?_
        rw [g5s]
        exact w_n (by decide) (w_rtn ⟨rfl, rfl⟩)
    · refine Or.inl ⟨aI A 12 s, aI A 12 s, pI Sm 5 0 0 0, ev_of ?_, ev_of ?_, TH.rf, rfl⟩
      · unfold f_X5_carAt
        refine w_t (by omega) (w_bx (x_reqSt hN.1 hN.2.2.1.1 hs) ?_)
        refine w_rdc (by omega) ?_
        rw [hN.st hs (by omega)]
        refine w_n hp ?_
        refine w_rdc (by omega) ?_
        rw [hN.st hs (by omega)]
        exact w_rtX ⟨rfl, rfl⟩
      · unfold f_X6_carAt f_X6_carAt_J31
        refine w_ev (m_isSt hN.2.1 hN.2.2.1.1 hs) ?_
        refine w_n (by decide) ?_
        refine w_mldx (j := 14 + s) (nI_add 14 s) (by omega) (by omega) ?_
        rw [e12]
        refine w_n hp ?_
        refine w_wrI ?_
        refine w_rdI ?_
        rw [g5s]
        refine w_t rfl ?_
        refine w_mldx (j := 14 + s) (nI_add 14 s) (by omega) (by omega) ?_
        rw [g5 (by omega), e12]
        exact w_rtn ⟨rfl, rfl⟩) hi
theorem ag_isBack (hi : i + 5 ≤ 2560) : agW INV i (f_X5_isBack 0 a1) (f_X6_isBack a1) (exCode [("java/util/NoSuchElementException", 1)]) ["java/util/NoSuchElementException"] (fun r q => r = q) := ag_ask (fun S Sm A T k hN => by
  have h30 := hN.2.2.1.1.2.2
  rcases i32_cases a1 (kC A) hN.cd with h0 | ⟨c, hc, rfl⟩
  · refine Or.inr ⟨_, 0, pI Sm 5 0 0 1, ev_of ?_, ev_of ?_, List.mem_cons_self, TH.rf⟩
    · unfold f_X5_isBack
      exact w_t (by omega) (w_bxr (x_reqCar0 hN.1 hN.2.2.1.1 h0) ⟨rfl, rfl⟩)
    · unfold f_X6_isBack
      refine w_ev (m_asked0 hN.2.1 hN.2.2.1.1 h0) ?_
      exact w_t rfl (w_rtnZ (Or.inl rfl) ⟨rfl, rfl⟩)
  · obtain ⟨b1, b2⟩ := (hN.co hc).2.2.2.1
    refine Or.inl ⟨aI A 18 c, aI A 18 c, pI Sm 5 0 0 0, ev_of ?_, ev_of ?_, TH.rf, rfl⟩
    · unfold f_X5_isBack
      refine w_t (by omega) (w_bx (x_reqCar hN.1 hN.2.2.1.1 hc) ?_)
      refine w_rdc (by omega) ?_
      rw [hN.car hc (by omega)]
      exact w_rtZX b1 ⟨rfl, rfl⟩
    · unfold f_X6_isBack
      refine w_ev (m_asked hN.2.1 hN.2.2.1.1 hc) ?_
      refine w_n (by decide) ?_
      by_cases hp : aI A 15 c = 115
      · obtain ⟨s0, s1, s2, s3, s4⟩ := stand_yes hN.2.2.1 hc hp
        have h8 := hN.2.2.1.1.1.2
        refine w_ev (m_stands (v := 0) hN.2.1 hN.2.2.1 hc hp (Or.inl rfl)) ?_
        refine w_n (by rw [s2]; exact nI_ne_neg (by omega)) ?_
        refine w_mldx (j := 52 + c) (nI_add 52 c) (by omega) (by omega) ?_
        rw [g5 (by omega), show gI Sm 20 0 (52 + c) = aI A 18 c from (hN.2.1.1.1.2.2.2.2.2.2.2.2.1 c hc hp).2]
        refine w_if (fun w => w_rtnZ (Or.inr rfl) ⟨w.symm, rfl⟩) (fun w => w_rtnZ (Or.inl rfl) ⟨(b1.resolve_right w).symm, rfl⟩)
      · refine w_ev (m_stands0 (v := 0) hN.2.1 hN.2.2.1 hc hp (Or.inl rfl)) ?_
        exact w_t rfl (w_rtnZ (Or.inl rfl) ⟨(b2 hp).symm, rfl⟩)) hi
end ASK2
