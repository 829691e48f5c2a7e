/-! part 58: the calls that change: the frame, the period, the store -/
def PIN (A : AS) (T : Nat) : Prop := JA A ∧ (aI A 2 0 = nI T ∧ T ≤ 9999) ∧ (∀ c, c < kC A → (trc A c).length ≤ 3 * T) ∧ FR0 A ∧ LB A ∧ NS A
theorem IN.pin {S Sm : St} {A : AS} {T k : Nat} (h : IN S Sm A T k) : PIN A T := h.2.2
theorem CR.z {S0 S1 S : St} {A : AS} {k : Nat} (h : CR 0 k S0 S A) : CR 0 k S1 S A := ⟨h.1, h.2.1, fun w => absurd w (by decide), h.2.2.2⟩
theorem MS.z {S0 S1 S : St} {A : AS} (h : MS 0 S0 S A) : MS 0 S1 S A := ⟨⟨h.1.1, h.1.2.1, h.1.2.2.1, fun w => absurd w (by decide), h.1.2.2.2.2⟩, h.2⟩
theorem ag_chg {ρ σ : Type} {i : Nat} {f : PM (ρ ⊕ String)} {g : PM σ} {code : String → Int32} {ex : List String} {same : ρ → σ → Prop}
    (h : ∀ S Sm A T k, IN S Sm A T k → (∃ (A1 : AS) (T1 : Nat) (r : ρ) (b : σ), wp f S (fun x S1 => x = .inl r ∧ CR 0 k S S1 A1) ∧ wp g Sm (fun x Sm1 => x = b ∧ MS 0 Sm Sm1 A1 ∧ gI Sm1 5 0 0 = 0) ∧ same r b ∧ PIN A1 T1) ∨ (∃ (X : String) (b : σ) (Sm1 : St), f.1 S = some (.inr X, thrS S) ∧ g.1 Sm = some (b, Sm1) ∧ X ∈ ex ∧ TH (code X) Sm Sm1)) (hi : i + 5 ≤ 2560) : agW INV i f g code ex same := by
  refine ag_mk (fun S Sm A T k hN => ?_) hi
  rcases h S Sm A T k hN with ⟨A1, T1, r, b, ⟨E, e1, e2, e3⟩, ⟨F, f1, f2, f3, f4⟩, e5, e6⟩ | ⟨X, b, Sm1, e1, e2, e3, e4⟩
  · exact ⟨E, F, A1, T1, e1, f1, Or.inl ⟨r, e2, f4, by rw [f2]; exact e5, e3.z, f3.z, e6⟩⟩
  · exact ⟨_, _, A, T, e1, e2, Or.inr ⟨X, rfl, e3, e4.2.2.2, hN.thr e4⟩⟩
theorem x_in0 {S : St} {a lo hi : Int32} {l u : Int} (h : ¬ (l ≤ a.toInt ∧ a.toInt ≤ u)) (hl : lo.toInt = l) (hu : hi.toInt = u) : (f_X5_isWithin a lo hi).1 S = some (0, S) := by
  subst hl; subst hu
  rw [x_within, if_neg h]
theorem x_in1 {S : St} {a lo hi : Int32} {l u : Int} (h : l ≤ a.toInt ∧ a.toInt ≤ u) (hl : lo.toInt = l) (hu : hi.toInt = u) : (f_X5_isWithin a lo hi).1 S = some (1, S) := by
  subst hl; subst hu
  rw [x_within, if_pos h]
theorem m_in0 {S : St} {a : Int32} {lo hi : Int64} {l u : Int} (h : ¬ (l ≤ a.toInt ∧ a.toInt ≤ u)) (hl : lo.toInt = l) (hu : hi.toInt = u) : (f_X6_in a.toInt64 lo hi).1 S = some (0, S) := by
  subst hl; subst hu
  rw [e_in, Int32.toInt_toInt64, if_neg h]
theorem m_in1 {S : St} {a : Int32} {lo hi : Int64} {l u : Int} (h : l ≤ a.toInt ∧ a.toInt ≤ u) (hl : lo.toInt = l) (hu : hi.toInt = u) : (f_X6_in a.toInt64 lo hi).1 S = some (1, S) := by
  subst hl; subst hu
  rw [e_in, Int32.toInt_toInt64, if_pos h]
theorem rng (a : Int32) (lo hi : Nat) (h : hi < 2097152) : (¬ ((lo : Int) ≤ a.toInt ∧ a.toInt ≤ (hi : Int))) ∨ (((lo : Int) ≤ a.toInt ∧ a.toInt ≤ (hi : Int)) ∧ ∃ v, lo ≤ v ∧ v ≤ hi ∧ a = nI v) := by
  by_cases hw : (lo : Int) ≤ a.toInt ∧ a.toInt ≤ (hi : Int)
  · refine Or.inr ⟨hw, a.toInt.toNat, by omega, by omega, ?_⟩
    apply Int32.toInt_inj.mp
    rw [nI_toInt (by omega)]
    omega
  · exact Or.inl hw
section CHG
variable {S S0 S1 Sm : St} {A B : AS} {T k c s i : Nat} {a a1 a2 v : Int32} {fl : Nat}
theorem JF.s3 {g : Nat} (h : JF fl A) (hg : 1 ≤ g) (hg1 : g ≤ 60) : JF fl (sI A 3 0 (nI g)) := by
  obtain ⟨j1, j2, j3, ⟨j4w, j4o, j4g⟩, j5, j6, j7, j8, j9, j10⟩ := h
  have o : ∀ f j, f ≠ 3 → aI (sI A 3 0 (nI g)) f j = aI A f j := fun g j q => by rw [aI_sI, if_neg (fun w => q w.1)]
  obtain ⟨i1, eS, eC⟩ := j1.of (B := sI A 3 0 (nI g)) (o 0 0 (by omega)) (o 1 0 (by omega))
  have row : ∀ l z, RO A fl l z → RO (sI A 3 0 (nI g)) fl l z := fun l z hr => ⟨hr.1, fun d => by rw [hr.2 d, eC, o 15 d (by omega)]⟩
  unfold JF
  rw [eS, eC]
  refine ⟨i1, fun x hx => ?_, fun d hd hn h9 => ?_, ⟨row _ _ j4w, row _ _ j4o, row _ _ j4g⟩, fun d hd => (j5 d hd).cg eS (fun g g1 g2 g3 => o g d (by omega)), fun x hx => (j6 x hx).cg (o _ _ (by omega)) (o _ _ (by omega)), ⟨by rw [o 2 0 (by omega)]; exact j7.1, g, hg, hg1, by rw [aI_sI, if_pos ⟨rfl, rfl⟩]⟩, j8, j9, j10⟩
  · have := j2 x hx
    unfold AT1 atC at this ⊢
    rw [o 12 x (by omega), eC, o 16 _ (by omega), o 15 _ (by omega)]
    exact this
  · rw [o 15 d (by omega)] at h9
    obtain ⟨x, x1, x2, x3⟩ := j3 d hd hn h9
    exact ⟨x, x1, by rw [o 16 d (by omega)]; exact x2, by rw [o 12 x (by omega)]; exact x3⟩
theorem PIN.oth {f i : Nat} (h : PIN A T) (hJ : JA (sI A f i v)) (hf : f = 3 ∨ f = 4 ∨ (f = 19 ∧ i < kC A)) : PIN (sI A f i v) T := by
  obtain ⟨h1, h2, h3, h4, h5, h6⟩ := h
  have o : ∀ g j, g ≠ f → aI (sI A f i v) g j = aI A g j := fun g j q => by rw [aI_sI, if_neg (fun w => q w.1)]
  have o9 : ∀ g j, g ≠ f ∨ j ≠ i → aI (sI A f i v) g j = aI A g j := fun g j q => by rw [aI_sI, if_neg (fun w => q.elim (fun z => z w.1) (fun z => z w.2))]
  have eC : kC (sI A f i v) = kC A := kC_sI (by omega)
  have eS : kS (sI A f i v) = kS A := kS_sI (by omega)
  exact ⟨hJ, by rw [o 2 0 (by omega)]; exact h2, fun c hc => h3 c (by rw [eC] at hc; exact hc), h4.cg eS eC (fun g y q1 q2 q3 => o g y (by omega)) (fun g y q1 q2 q3 => o9 g y (by omega)), h5.cg (fun g y q => Or.inl (o g y (by omega))), h6.cg (fun y => Or.inl ⟨o 15 y (by omega), o 16 y (by omega)⟩)⟩
theorem N0.cg1 {n : Nat → Int32} (h : N0 n A) (hS : kS B = kS A) (hC : kC B = kC A) (hk : ∀ f, f = 2 ∨ f = 4 ∨ f = 11 ∨ f = 12 ∨ f = 15 ∨ f = 17 ∨ f = 18 ∨ f = 19 → ∀ i, aI B f i = aI A f i) (hW : aW B = aW A) (hG : aG B = aG A) : N0 n B := by
  obtain ⟨n1, n2, n3, n4, n5, n6, n7, n8, n9⟩ := h
  unfold N0
  rw [hS, hC, hW, hG]
  exact ⟨fun p hp => by rw [hk 4 (by omega)]; exact n1 p hp, fun s hs => by rw [hk 11 (by omega)]; exact n2 s hs, fun s hs => by rw [hk 12 (by omega)]; exact n3 s hs, fun c hc => by rw [hk 15 (by omega)]; exact n4 c hc, fun c hc => by rw [hk 19 (by omega)]; exact n5 c hc, fun c hc h9 => by rw [hk 15 (by omega)] at h9; rw [hk 17 (by omega), hk 18 (by omega)]; exact n6 c hc h9, by rw [hk 2 (by omega)]; exact n7, n8, n9⟩
/-- the reference's side, from how its state has changed -/
theorem MS.mk9 (h : MS 0 S0 S A) (hk : ∀ f i j, f = 3 ∨ f = 4 ∨ f = 15 ∨ f = 17 ∨ f = 18 ∨ f = 19 ∨ f = 22 ∨ f = 23 → gI S1 f i j = gI S f i j) (hL : ∀ i, gL S1 i = gL S i) (hN : ∀ f i, gN S1 f i = gN S f i) (hr : RM0 S1 B) (h8 : kS B ≤ 8) (h30 : kC B ≤ 30)
    (hB : ∀ f, f = 11 ∨ f = 13 ∨ f = 19 ∨ f = 20 ∨ f = 21 ∨ f = 22 → ∀ i, aI B f i = aI A f i) (hnw : ∀ j, (6 ≤ j ∧ j < 14) ∨ (112 ≤ j ∧ j < 142) → nw S1 j = nw S j) (hLA : aL B = aL A) (hT : aT B = aT A) (h15 : ∀ c, c < kC B → aI B 15 c = 100 → c < kC A ∧ aI A 15 c = 100) (hO : NR (nw S1) 172 234 (aO B)) : MS 0 S S1 B := by
  obtain ⟨⟨m1, m2, m3, m4, m5⟩, m6⟩ := h
  obtain ⟨x1, x2, x3, y1, y2, y3, y4, y5, y6, y7⟩ := m3 rfl
  obtain ⟨z1, z2⟩ := m5 rfl
  refine ⟨⟨hr, by rw [hk _ _ _ (by omega)]; exact m2, fun _ => ⟨fun s hs => ?_, fun c hc => ⟨?_, ?_, fun h9 => ?_⟩, by rw [hL, hLA]; exact x3, ?_⟩, fun w => absurd w (by decide), fun _ => ⟨fun s hs => ⟨?_, ?_⟩, fun c hc => ⟨?_, ?_, ?_⟩⟩⟩, hO⟩
  · rw [hk _ _ _ (by omega), hB 13 (by omega)]; exact (z1 s (by omega)).1
  · rw [hk _ _ _ (by omega), hB 20 (by omega)]; exact (z2 c (by omega)).1
  · rw [hk _ _ _ (by omega), hB 21 (by omega)]; exact (z2 c (by omega)).2.1
  · obtain ⟨w1, w2⟩ := h15 c hc h9
    rw [hk _ _ _ (by omega), hB 22 (by omega)]; exact (x2 c w1).2.2 w2
  · rw [hT]
    exact ⟨by rw [hk _ _ _ (by omega)]; exact y1, by rw [hN]; exact y2, by rw [hN, hN]; exact y3, by rw [hN]; exact y4, fun q hq => by rw [hk _ _ _ (by omega), hk _ _ _ (by omega)]; exact y5 q hq, by rw [hN, hN]; exact y6, by rw [hN, hN]; exact y7⟩
  · rw [hk _ _ _ (by omega), hB 13 (by omega)]; exact (z1 s hs).1
  · rw [hnw _ (by omega), hB 11 (by omega)]; exact (z1 s hs).2
  · rw [hk _ _ _ (by omega), hB 20 (by omega)]; exact (z2 c hc).1
  · rw [hk _ _ _ (by omega), hB 21 (by omega)]; exact (z2 c hc).2.1
  · rw [hnw _ (by omega), hB 19 (by omega)]; exact (z2 c hc).2.2
theorem nw_o {f i j : Nat} (hf : f ≠ 20) : nw (pI S f i j v) = nw S := by
  funext y
  show gI (pI S f i j v) 20 0 y = gI S 20 0 y
  rw [gI_pI, if_neg (fun w => hf w.1.symm)]
theorem RM0.per (h : RM0 S A) : RM0 (pI S 1 0 0 v) (sI A 3 0 v) := by
  obtain ⟨⟨h0, h1, h2⟩, h3, h4, h5⟩ := h
  have eS : kS (sI A 3 0 v) = kS A := kS_sI (by omega)
  have eC : kC (sI A 3 0 v) = kC A := kC_sI (by omega)
  have o : ∀ g j, g ≠ 3 → aI (sI A 3 0 v) g j = aI A g j := fun g j q => by rw [aI_sI, if_neg (fun w => q w.1)]
  have p : ∀ g y j, g ≠ 1 → gI (pI S 1 0 0 v) g y j = gI S g y j := fun g y j q => by rw [gI_pI, if_neg (fun w => q w.1)]
  unfold RM0
  rw [eS, eC, nw_o (by omega)]
  refine ⟨⟨by rw [p _ _ _ (by omega), o _ _ (by omega)]; exact h0, by rw [gI_pI, if_pos ⟨rfl, rfl, rfl⟩, aI_sI, if_pos ⟨rfl, rfl⟩], by rw [p _ _ _ (by omega), o _ _ (by omega)]; exact h2⟩, fun s hs => ?_, fun c hc => by rw [p _ _ _ (by omega), o _ _ (by omega)]; exact h4 c hc, h5.cg1 eS eC (fun f hf i => o _ _ (by omega)) rfl rfl⟩
  rw [p _ _ _ (by omega), p _ _ _ (by omega), p _ _ _ (by omega), p _ _ _ (by omega), o _ _ (by omega), o _ _ (by omega), o _ _ (by omega), o _ _ (by omega)]
  exact h3 s hs
theorem ag_setPeriod (hi : i + 5 ≤ 2560) : agW INV i (f_X5_setPeriod 0 a1) (f_X6_setPeriod a1) (exCode [("java/lang/IllegalArgumentException", 1)]) ["java/lang/IllegalArgumentException"] (fun r q => r = q) := ag_chg (fun S Sm A T k hN => by
  have h8 := hN.2.2.1.1.1.2
  have h30 := hN.2.2.1.1.2.2
  rcases rng a1 1 60 (by omega) with h0 | ⟨hin, g, g1, g2, rfl⟩
  · refine Or.inr ⟨_, -1, pI (pI Sm 5 0 0 1) 1 0 0 (gI Sm 1 0 0), ev_of ?_, ev_of ?_, List.mem_cons_self, ?_⟩
    · unfold f_X5_setPeriod
      refine w_ev (x_in0 h0 (by decide) (by decide)) ?_
      exact w_t rfl (w_thr ⟨rfl, rfl⟩)
    · unfold f_X6_setPeriod
      refine w_ev (m_in0 h0 (by decide) (by decide)) ?_
      refine w_t rfl ?_
      unfold f_X6_setPeriod_J18
      refine w_wrI ?_
      refine w_rdI ?_
      refine w_rdI ?_
      rw [g5s]
      refine w_n (by decide) ?_
      refine w_rdI ?_
      unfold f_X6_setPeriod_J42
      refine w_wrI ?_
      refine w_rdI ?_
      have e : gI (pI (pI Sm 5 0 0 1) 1 0 0 (gI (pI Sm 5 0 0 1) 1 0 0)) 5 0 0 = 1 := by rw [gI_pI, if_neg (by omega)]; exact g5s
      rw [e]
      refine w_n (by decide) (w_rtn ⟨rfl, ?_⟩)
      rw [g5 (by omega)]
    · refine ⟨fun f i j hf => ?_, fun i => rfl, fun f i hf => rfl, ?_⟩
      · rw [gI_pI]
        by_cases w : f = 1 ∧ i = 0 ∧ j = 0
        · rw [if_pos w, w.1, w.2.1, w.2.2]
        · rw [if_neg w, gI_pI, if_neg (by omega)]
      · rw [gI_pI, if_neg (by omega)]; exact g5s
  · have hM := hN.2.1.th (TH.rf (v := 0) (Sm := Sm))
    refine Or.inl ⟨sI A 3 0 (nI g), T, aI A 3 0, aI A 3 0, ?_, ?_, rfl, hN.pin.oth (hN.2.2.1.s3 g1 g2) (Or.inl rfl)⟩
    · unfold f_X5_setPeriod
      refine w_ev (x_in1 hin (by decide) (by decide)) ?_
      refine w_n (by decide) ?_
      refine w_rfc (by omega) ?_
      refine w_rdc (by omega) ?_
      rw [hN.1.1.1 3 (by omega)]
      refine w_rfc (by omega) ?_
      refine w_wrc (by omega) ?_
      exact w_rtX ⟨rfl, hN.1.li (f := 3) (Or.inr rfl)⟩
    · unfold f_X6_setPeriod
      refine w_ev (m_in1 hin (by decide) (by decide)) ?_
      refine w_n (by decide) ?_
      unfold f_X6_setPeriod_J18
      refine w_wrI ?_
      refine w_rdI ?_
      refine w_rdI ?_
      rw [g5s]
      refine w_t rfl ?_
      unfold f_X6_setPeriod_J42
      refine w_wrI ?_
      refine w_rdI ?_
      have e : gI (pI (pI Sm 5 0 0 0) 1 0 0 (nI g)) 5 0 0 = 0 := by rw [gI_pI, if_neg (by omega)]; exact g5s
      rw [e]
      refine w_t rfl (w_rtn ⟨?_, ?_, e⟩)
      · rw [g5 (by omega)]; exact hN.2.1.1.1.1.2.1
      · refine (hM.mk9 (S1 := pI (pI Sm 5 0 0 0) 1 0 0 (nI g)) (B := sI A 3 0 (nI g)) (fun f i j hf => by rw [gI_pI, if_neg (by omega)]) (fun i => rfl) (fun f i => rfl) hM.1.1.per (by rw [kS_sI (by omega)]; exact h8) (by rw [kC_sI (by omega)]; exact h30) (fun f hf i => by rw [aI_sI, if_neg (by omega)]) (fun j hj => by rw [nw_o (by omega)]) rfl rfl (fun c hc h9 => by rw [kC_sI (by omega)] at hc; rw [aI_sI, if_neg (by omega)] at h9; exact ⟨hc, h9⟩) (by rw [nw_o (by omega)]; exact hM.2)).z) hi
theorem nw_20 {x : Nat} : nw (pI S 20 0 x v) = fun y => if y = x then v else nw S y := nw_pI
theorem MS.w20 {x : Nat} (h : MS 0 S0 S A) (hr : RM0 (pI S 20 0 x v) B) (hk : ∀ f, f = 0 ∨ f = 1 ∨ f = 13 ∨ f = 20 ∨ f = 21 ∨ f = 22 → ∀ i, aI B f i = aI A f i) (h15 : ∀ c, aI B 15 c = 100 → aI A 15 c = 100) (hL : aL B = aL A) (hT : aT B = aT A) (hu : MFx x v A B) (hx : x < 172 ∨ 202 ≤ x ∧ x ≠ 234) (hO : aO B = aO A) : MS 0 S0 (pI S 20 0 x v) B :=
  ⟨h.1.n hr hk h15 hL hT hu, by rw [hO, nw_20]; exact h.2.up (by omega) (by omega)⟩
theorem i_add {a b : Nat} : nI a + nI b = nI (a + b) := nI_addn
theorem ag_supply (hi : i + 5 ≤ 2560) : agW INV i (f_X5_supply 0 a1 a2) (f_X6_supply a1 a2) (exCode [("java/util/NoSuchElementException", 1), ("java/lang/IllegalArgumentException", 2), ("java/lang/IllegalStateException", 3)]) ["java/util/NoSuchElementException", "java/lang/IllegalArgumentException", "java/lang/IllegalStateException"] (fun r q => r = q) := ag_chg (fun S Sm A T k hN => by
  have bad : ∀ (z : Int32), ¬ z ≤ 0 → ∀ a b, wp (f_X6_supply_J47 a b z) Sm (fun r q => r = -1 ∧ q = pI Sm 5 0 0 z) := fun z hz a b => by
    unfold f_X6_supply_J47
    refine w_wrI ?_
    refine w_rdI ?_
    rw [g5s]
    exact w_n hz (w_rtn ⟨rfl, rfl⟩)
  rcases i32_cases a1 6 (by omega) with h0 | ⟨s, hs, rfl⟩
  · refine Or.inr ⟨_, -1, pI Sm 5 0 0 1, ev_of ?_, ev_of ?_, List.mem_cons_self, TH.rf⟩
    · unfold f_X5_supply
      exact w_bxr (x_reqPart0 h0) ⟨rfl, rfl⟩
    · unfold f_X6_supply
      refine w_ev (m_isPart0 h0) ?_
      exact w_t rfl (bad 1 (by decide) _ _)
  · rcases rng a2 1 99 (by omega) with h0 | ⟨hin, g, g1, g2, rfl⟩
    · refine Or.inr ⟨_, -1, pI Sm 5 0 0 2, ev_of ?_, ev_of ?_, List.mem_cons_of_mem _ List.mem_cons_self, TH.rf⟩
      · unfold f_X5_supply
        refine w_bx (x_reqPart hs) ?_
        refine w_ev (x_in0 h0 (by decide) (by decide)) ?_
        exact w_t rfl (w_thr ⟨rfl, rfl⟩)
      · unfold f_X6_supply
        refine w_ev (m_isPart hs) ?_
        refine w_n (by decide) ?_
        refine w_ev (m_in0 h0 (by decide) (by decide)) ?_
        exact w_t rfl (bad 2 (by decide) _ _)
    · have un : ∀ (B : AS) (S1 : St), (∀ p, p < 6 → gI S1 4 0 p = aI B 4 p) → (f_X1_unitsOf 0 (nI s)).1 S1 = some (aI B 4 s, S1) := fun B S1 h1 => by
        refine ev_of ?_
        unfold f_X1_unitsOf
        refine w_n (nI_pos (by omega)) ?_
        refine w_rfc (by omega) ?_
        refine w_rdk (by omega) ?_
        refine w_n (nI_ge (by omega) (by omega)) ?_
        refine w_rfc (by omega) ?_
        refine w_ald (by omega) hs (by omega) ?_
        exact w_rtn ⟨h1 s hs, rfl⟩
      have e4 : gI Sm 20 0 s = aI A 4 s := hN.2.1.1.1.2.2.2.1 s hs
      by_cases hle : aI A 4 s + nI g ≤ 999
      · have hM := hN.2.1.th (TH.rf (v := 0) (Sm := Sm))
        refine Or.inl ⟨sI A 4 s (aI A 4 s + nI g), T, aI A 4 s + nI g, aI A 4 s + nI g, ?_, ?_, rfl, hN.pin.oth (hN.2.2.1.oth (Or.inl rfl)) (Or.inr (Or.inl rfl))⟩
        · unfold f_X5_supply
          refine w_bx (x_reqPart hs) ?_
          refine w_ev (x_in1 hin (by decide) (by decide)) ?_
          refine w_n (by decide) ?_
          refine w_rfc (by omega) ?_
          refine w_t (by omega) ?_
          refine w_ev (un A S (fun p hp => hN.1.1.2.1 p hp)) ?_
          refine w_t hle ?_
          refine w_rfc (by omega) ?_
          refine w_t (by omega) ?_
          have hC := hN.1.store (p := s) (v := aI A 4 s + nI g)
          refine w_ev (S1 := pI S 4 0 s (aI A 4 s + nI g)) (a := ()) (ev_of ?_) ?_
          · unfold f_X1_changeUnits
            refine w_n (nI_pos (by omega)) ?_
            refine w_rfc (by omega) ?_
            refine w_rdk (by omega) ?_
            refine w_n (nI_ge (by omega) (by omega)) ?_
            refine w_rfc (by omega) ?_
            refine w_ald (by omega) hs (by omega) ?_
            refine w_ast (by omega) hs (by omega) ?_
            exact w_rtn ⟨rfl, by rw [hN.1.1.2.1 s hs]⟩
          · refine w_rfc (by omega) ?_
            refine w_t (by omega) ?_
            refine w_ev (un (sI A 4 s (aI A 4 s + nI g)) _ (fun p hp => hC.1.2.1 p hp)) ?_
            exact w_rtX ⟨by rw [aI_sI, if_pos ⟨rfl, rfl⟩], hC.z⟩
        · unfold f_X6_supply
          refine w_ev (m_isPart hs) ?_
          refine w_n (by decide) ?_
          refine w_ev (m_in1 hin (by decide) (by decide)) ?_
          refine w_n (by decide) ?_
          refine w_mldx (j := s) rfl (by omega) (by omega) ?_
          rw [e4]
          refine w_t hle ?_
          unfold f_X6_supply_J47
          refine w_wrI ?_
          refine w_rdI ?_
          rw [g5s]
          refine w_t (by decide) ?_
          refine w_mldx (j := s) rfl (by omega) (by omega) ?_
          rw [g5 (by omega), e4]
          refine w_mstx (j := s) rfl (by omega) (by omega) ?_
          refine w_mldx (j := s) rfl (by omega) (by omega) ?_
          have o : ∀ f i, f ≠ 4 → aI (sI A 4 s (aI A 4 s + nI g)) f i = aI A f i := fun f i hf => by rw [aI_sI, if_neg (fun w => hf w.1)]
          refine w_rtn ⟨by rw [gI_pI, if_pos ⟨rfl, rfl, rfl⟩], ?_, by rw [gI_pI, if_neg (by omega)]; exact g5s⟩
          exact (hM.w20 (hM.1.1.store hN.2.2.1.1 hs) (fun f hf i => o f i (by omega)) (fun c w => by rw [o 15 c (by omega)] at w; exact w) rfl rfl (MFx.no (by omega) (fun i => o 11 i (by omega)) (fun i => o 19 i (by omega))) (by omega) rfl).z
      · refine Or.inr ⟨_, -1, pI Sm 5 0 0 3, ev_of ?_, ev_of ?_, List.mem_cons_of_mem _ (List.mem_cons_of_mem _ List.mem_cons_self), TH.rf⟩
        · unfold f_X5_supply
          refine w_bx (x_reqPart hs) ?_
          refine w_ev (x_in1 hin (by decide) (by decide)) ?_
          refine w_n (by decide) ?_
          refine w_rfc (by omega) ?_
          refine w_t (by omega) ?_
          refine w_ev (un A S (fun p hp => hN.1.1.2.1 p hp)) ?_
          exact w_n hle (w_thr ⟨rfl, rfl⟩)
        · unfold f_X6_supply
          refine w_ev (m_isPart hs) ?_
          refine w_n (by decide) ?_
          refine w_ev (m_in1 hin (by decide) (by decide)) ?_
          refine w_n (by decide) ?_
          refine w_mldx (j := s) rfl (by omega) (by omega) ?_
          rw [e4]
          exact w_n hle (bad 3 (by decide) _ _)) hi
end CHG
