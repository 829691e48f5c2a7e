/-! part 38: each step keeps it -/
section KEEP
variable {A : AS} {c s fl : Nat} {b : Int32}
theorem nI_115_119 : ((115 : Int32) ≠ 119) ∧ ((115 : Int32) ≠ 108) ∧ ((115 : Int32) ≠ 100) ∧ ((100 : Int32) ≠ 119) ∧ ((100 : Int32) ≠ 108) ∧ ((100 : Int32) ≠ 115) ∧ ((108 : Int32) ≠ 119) ∧ ((108 : Int32) ≠ 100) ∧ ((108 : Int32) ≠ 115) ∧ ((119 : Int32) ≠ 108) ∧ ((119 : Int32) ≠ 100) ∧ ((119 : Int32) ≠ 115) := by decide
theorem aS_cv : cv (aSign A c s b) = aSign A c s b := by rcases aSign_in (A := A) (c := c) (s := s) (b := b) with e | e | e <;> rw [e] <;> decide
/-- a car's own things, when they are the same -/
theorem CO1.cg {B : AS} (h : CO1 A c) (hS : kS B = kS A) (hk : ∀ f, 15 ≤ f → f ≤ 21 → f ≠ 16 → aI B f c = aI A f c) : CO1 B c := by
  unfold CO1
  rw [hS, hk 15 (by omega) (by omega) (by omega), hk 17 (by omega) (by omega) (by omega), hk 18 (by omega) (by omega) (by omega), hk 19 (by omega) (by omega) (by omega), hk 20 (by omega) (by omega) (by omega), hk 21 (by omega) (by omega) (by omega)]
  exact h
theorem ST1.cg {B : AS} (h : ST1 A s) (h7 : aI B 7 s = aI A 7 s) (h8 : aI B 8 s = aI A 8 s) : ST1 B s := by
  unfold ST1 prt
  rw [h7, h8]
  exact h
theorem mask_cl {n m s : Nat} (hn : n ≤ 8) (hm : m < 2 ^ n) (hs : s < n) : ∃ m', m' < 2 ^ n ∧ (nI m &&& (((1 : Int32) <<< (nI s &&& 31)) ^^^ (-1 : Int32))) = nI m' := ⟨_, by omega, cl_mask n hn m hm s hs⟩
theorem CO1_enter (hI : IA A) (h : CO1 A c) (hs : s < kS A) (hst : ST1 A s) (hb : b = 0 ∨ b = 1) (hT : ∃ T, 1 ≤ T ∧ T ≤ 20000 ∧ aI A 2 0 = nI T) : CO1 (aEnter A c s b) c := by
  have h8 : kS A ≤ 8 := hI.1.2
  have eS : kS (aEnter A c s b) = kS A := by unfold kS; rw [aEnter_o (by omega)]
  obtain ⟨p1, ⟨m, hm, e19⟩, p3, p4, p5, ⟨q, hq, e20⟩, p7, p8⟩ := h
  obtain ⟨⟨g, g1, g2, g3⟩, -⟩ := hst
  obtain ⟨T, t1, t2, t3⟩ := hT
  have c15 : aI (aEnter A c s b) 15 c = 115 := by rw [aEnter_c (by omega), if_pos rfl]
  obtain ⟨o1, o2, o3⟩ := or_mask (kS A) h8 m hm s hs
  obtain ⟨u1, u2, u3⟩ := or_mask (kS A) h8 q hq s hs
  obtain ⟨m', k1, k2⟩ := mask_cl h8 hm hs
  have hp : 2 ^ kS A ≤ 256 := by
    have := Nat.pow_le_pow_right (n := 2) (by omega) h8
    omega
  unfold CO1
  rw [eS, c15]
  refine ⟨Or.inr (Or.inl rfl), ?_, fun w => absurd w (by decide), ?_, ?_, ?_, fun w => absurd w (by decide), fun _ => ⟨?_, ?_⟩⟩
  · rw [aEnter_19, e19]
    split
    · exact ⟨m', k1, k2⟩
    · split
      · exact ⟨_, o2, o1⟩
      · exact ⟨m, hm, rfl⟩
  · refine ⟨?_, fun w => absurd rfl w⟩
    rw [aEnter_c (by omega)]
    simpa using hb
  · rw [aEnter_c (by omega)]
    simp only [show ¬ (17 : Nat) = 15 by omega, show ¬ (17 : Nat) = 16 by omega, if_false, if_true]
    split
    · exact ⟨1, by omega, rfl⟩
    · exact ⟨g, g2, g3⟩
  · rw [aEnter_20, e20]
    exact ⟨_, u2, u1⟩
  · rw [aEnter_20, e20, u1]
    exact nI_ne0 u3 (by omega)
  · rw [aEnter_21]
    split
    · rw [t3]; exact nI_ne0 t1 (by omega)
    · rename_i hne
      by_cases h119 : aI A 15 c = 119
      · exact absurd (p7 h119).1 hne
      · exact (p8 h119).2
theorem J_enter (h : JF c A) (hc : c < kC A) (hs : s < kS A) (hfree : aI A 12 s = -1) (hb : b = 0 ∨ b = 1) (hT : aI A 2 0 ≠ 0) : JF 30 (aEnter A c s b) := by
  obtain ⟨j1, j2, j3, ⟨j4w, j4o, j4g⟩, j5, j6, ⟨⟨T, t1, t2⟩, j7⟩, j8, j9, j10⟩ := h
  have h30 : kC A ≤ 30 := j1.2.2
  have h8 : kS A ≤ 8 := j1.1.2
  obtain ⟨i1, eS, eC⟩ := j1.of (B := aEnter A c s b) (aEnter_o (by omega)) (aEnter_o (by omega))
  obtain ⟨r1, r2, r3, r4, r5⟩ := aEnter_R (A := A) (c := c) (s := s) (b := b)
  have hT0 : T ≠ 0 := fun w => hT (by rw [t2, w]; rfl)
  have c15 : aI (aEnter A c s b) 15 c = 115 := by rw [aEnter_c (by omega), if_pos rfl]
  have row : ∀ l z, z ≠ 115 → RO A c l z → RO (aEnter A c s b) 30 l z := fun l z hz hr => ⟨hr.1, fun d => by
    rw [hr.2 d, eC]
    by_cases q : d = c
    · subst q
      rw [c15]
      exact ⟨fun w => absurd rfl w.2.2, fun w => absurd w.2.1.symm hz⟩
    · rw [aEnter_o (Or.inr (Or.inr (Or.inr ⟨by omega, q⟩)))]
      exact ⟨fun w => ⟨w.1, w.2.1, by omega⟩, fun w => ⟨w.1, w.2.1, q⟩⟩⟩
  unfold JF
  rw [eS, eC, r1, r2, r3, r4]
  refine ⟨i1, fun x hx => ?_, fun d hd _ h115 => ?_, ⟨row _ _ (by decide) j4w, row _ _ (by decide) j4o, row _ _ (by decide) j4g⟩, fun d hd => ?_, fun x hx => (j6 x hx).cg (aEnter_o (by omega)) (aEnter_o (by omega)), ⟨⟨T, t1, by rw [aEnter_o (by omega)]; exact t2⟩, by rw [aEnter_o (by omega)]; exact j7⟩, j8, fun p hp => ?_, fun z hz => by rw [r5 z (by omega)]; exact j10 z hz⟩
  · unfold AT1 atC
    by_cases q : x = s
    · subst q
      rw [aEnter_12, nI_clamp (by omega), c15, aEnter_c (by omega), eC]
      exact Or.inr ⟨rfl, hc, by rw [if_neg (by omega), if_pos rfl], rfl, by omega⟩
    · rw [aEnter_o (Or.inr (Or.inr (Or.inl ⟨by omega, q⟩))), eC]
      rcases j2 x hx with w | ⟨w1, w2, w3, w4, w5⟩
      · exact Or.inl w
      · unfold atC at w1 w2 w3 w4 w5
        rw [aEnter_o (Or.inr (Or.inr (Or.inr ⟨by omega, w5⟩))), aEnter_o (Or.inr (Or.inr (Or.inr ⟨by omega, w5⟩)))]
        exact Or.inr ⟨w1, w2, w3, w4, by omega⟩
  · by_cases q : d = c
    · subst q
      exact ⟨s, hs, by rw [aEnter_c (by omega)]; simp, aEnter_12⟩
    · rw [aEnter_o (Or.inr (Or.inr (Or.inr ⟨by omega, q⟩)))] at h115
      obtain ⟨x, x1, x2, x3⟩ := j3 d hd q h115
      have hxs : x ≠ s := fun w => by subst w; rw [hfree] at x3; exact nI_ne_neg (by omega) x3.symm
      exact ⟨x, x1, by rw [aEnter_o (Or.inr (Or.inr (Or.inr ⟨by omega, q⟩)))]; exact x2, by rw [aEnter_o (Or.inr (Or.inr (Or.inl ⟨by omega, hxs⟩)))]; exact x3⟩
  · by_cases q : d = c
    · subst q
      exact CO1_enter j1 (j5 d hd) hs (j6 s hs) hb ⟨T, by omega, t1, t2⟩
    · exact (j5 d hd).cg eS (fun f f1 f2 f3 => aEnter_o (Or.inr (Or.inr (Or.inr ⟨f1, q⟩))))
  · rcases List.mem_append.mp hp with hp | hp
    · rcases List.mem_append.mp hp with hp | hp
      · exact j9 p hp
      · have := List.mem_singleton.mp hp
        subst this
        exact ⟨hc, cv_dig s (by omega)⟩
    · have := List.mem_singleton.mp hp
      subst this
      exact ⟨hc, aS_cv⟩
/-- out of the rows: it goes away -/
theorem aAway_o {f i : Nat} {z : Int32} (h : f < 15 ∨ 18 < f ∨ i ≠ c) : aI (aAway A c z) f i = aI A f i := by
  unfold aAway
  rw [aI_sI, if_neg (by omega), aI_sI, if_neg (by omega), aI_sI, if_neg (by omega), aI_sI, if_neg (by omega)]
theorem aAway_c {z : Int32} : aI (aAway A c z) 15 c = z ∧ aI (aAway A c z) 16 c = -1 ∧ aI (aAway A c z) 17 c = 0 ∧ aI (aAway A c z) 18 c = 0 := by
  unfold aAway
  simp [aI_sI]
theorem J_away {z : Int32} {B : AS} (h : JF c A) (hc : c < kC A) (hz : z = 100 ∨ z = 108) (h115 : aI A 15 c = 115) (hz8 : z = 108 → aI A 19 c ≠ 0) (hB : ∀ f i, (f = 22 → i ≠ c) → aI B f i = aI (aAway A c z) f i) (hL : ∀ i, aL B i = aL A i)
    (hW : aW B = aW A) (hO : aO B = if z = 108 then aO A ++ [c] else aO A) (hG : aG B = if z = 100 then aG A ++ [c] else aG A) (hT : ∃ g, aT B = aT A ++ [(c, g)] ∧ cv g = g) : JF 30 B := by
  obtain ⟨j1, j2, j3, ⟨j4w, j4o, j4g⟩, j5, j6, j7, j8, j9, j10⟩ := h
  have h30 : kC A ≤ 30 := j1.2.2
  have h8 : kS A ≤ 8 := j1.1.2
  have o : ∀ f i, f ≠ 22 → (f < 15 ∨ 18 < f ∨ i ≠ c) → aI B f i = aI A f i := fun f i q w => by rw [hB f i (fun v => absurd v q), aAway_o w]
  obtain ⟨i1, eS, eC⟩ := j1.of (B := B) (o 0 0 (by omega) (by omega)) (o 1 0 (by omega) (by omega))
  have c15 : aI B 15 c = z := by rw [hB 15 c (by omega)]; exact aAway_c.1
  have nd : ∀ l x, RO A c l x → c ∉ l := fun l x hr hm => ((hr.2 c).mp hm).2.2 rfl
  have row : ∀ l x, x ≠ z → RO A c l x → RO B 30 l x := fun l x hz hr => ⟨hr.1, fun d => by
    rw [hr.2 d, eC]
    by_cases q : d = c
    · subst q
      rw [c15]
      exact ⟨fun w => absurd rfl w.2.2, fun w => absurd w.2.1.symm hz⟩
    · rw [o 15 d (by omega) (by omega)]
      exact ⟨fun w => ⟨w.1, w.2.1, by omega⟩, fun w => ⟨w.1, w.2.1, q⟩⟩⟩
  have rowp : ∀ l, RO A c l z → RO B 30 (l ++ [c]) z := fun l hr => ⟨by
      rw [List.nodup_append]
      exact ⟨hr.1, by simp, fun a ha b hb => by
        have := List.mem_singleton.mp hb
        subst this
        exact fun e => nd _ _ hr (e ▸ ha)⟩, fun d => by
    rw [List.mem_append, List.mem_singleton, hr.2 d, eC]
    by_cases q : d = c
    · subst q
      rw [c15]
      exact ⟨fun _ => ⟨hc, rfl, by omega⟩, fun _ => Or.inr rfl⟩
    · rw [o 15 d (by omega) (by omega)]
      exact ⟨fun w => (w.elim (fun w => ⟨w.1, w.2.1, by omega⟩) (fun w => absurd w q)), fun w => Or.inl ⟨w.1, w.2.1, q⟩⟩⟩
  obtain ⟨g, hT1, hT2⟩ := hT
  unfold JF
  rw [eS, eC, hW, hO, hG, hT1]
  refine ⟨i1, fun x hx => ?_, fun d hd _ h9 => ?_, ⟨row _ _ (by rcases hz with rfl | rfl <;> decide) j4w, ?_, ?_⟩, fun d hd => ?_, fun x hx => (j6 x hx).cg (o _ _ (by omega) (by omega)) (o _ _ (by omega) (by omega)), by rw [o 2 0 (by omega) (by omega), o 3 0 (by omega) (by omega)]; exact j7, j8, fun p hp => ?_, fun z hz => by rw [hL]; exact j10 z hz⟩
  · unfold AT1 atC
    rw [o 12 x (by omega) (by omega), eC]
    rcases j2 x hx with w | ⟨w1, w2, w3, w4, w5⟩
    · exact Or.inl w
    · unfold atC at w1 w2 w3 w4 w5
      rw [o 16 _ (by omega) (by omega), o 15 _ (by omega) (by omega)]
      exact Or.inr ⟨w1, w2, w3, w4, by omega⟩
  · have q : d ≠ c := fun q => by subst q; rw [c15] at h9; rcases hz with rfl | rfl <;> exact absurd h9 (by decide)
    rw [o 15 d (by omega) (by omega)] at h9
    obtain ⟨x, x1, x2, x3⟩ := j3 d hd q h9
    exact ⟨x, x1, by rw [o 16 d (by omega) (by omega)]; exact x2, by rw [o 12 x (by omega) (by omega)]; exact x3⟩
  · rcases hz with rfl | rfl
    · rw [if_neg (by decide)]; exact row _ _ (by decide) j4o
    · rw [if_pos rfl]; exact rowp _ j4o
  · rcases hz with rfl | rfl
    · rw [if_pos rfl]; exact rowp _ j4g
    · rw [if_neg (by decide)]; exact row _ _ (by decide) j4g
  · by_cases q : d = c
    · subst q
      obtain ⟨p1, p2, p3, p4, p5, p6, p7, p8⟩ := j5 d hd
      have pe := p8 (by rw [h115]; decide)
      have c17 : aI B 17 d = 0 := by rw [hB 17 d (by omega)]; exact aAway_c.2.2.1
      have c18 : aI B 18 d = 0 := by rw [hB 18 d (by omega)]; exact aAway_c.2.2.2
      unfold CO1
      rw [eS, c15, c17, c18, o 19 d (by omega) (by omega), o 20 d (by omega) (by omega), o 21 d (by omega) (by omega)]
      exact ⟨by rcases hz with rfl | rfl; exact Or.inr (Or.inr (Or.inr rfl)); exact Or.inr (Or.inr (Or.inl rfl)), p2, hz8, ⟨Or.inl rfl, fun _ => rfl⟩, ⟨0, by omega, rfl⟩, p6, fun w => by rcases hz with rfl | rfl <;> exact absurd w (by decide), fun _ => pe⟩
    · exact (j5 d hd).cg eS (fun f f1 f2 f3 => o f d (by omega) (by omega))
  · rcases List.mem_append.mp hp with hp | hp
    · exact j9 p hp
    · have := List.mem_singleton.mp hp
      subst this
      exact ⟨hc, hT2⟩
theorem J_leave (h : JF c A) (hc : c < kC A) (h115 : aI A 15 c = 115) : JF 30 (aLeave A c) :=
  J_away (z := 100) h hc (Or.inl rfl) h115 (fun w => absurd w (by decide)) (fun f i q => by unfold aLeave; rw [aI_note, aI_sG, aI_sI, if_neg (fun w => q w.1 w.2)]) (fun _ => rfl) rfl (by rw [if_neg (by decide)]; rfl) (by rw [if_pos rfl]; rfl) ⟨120, rfl, by decide⟩
theorem J_toLoop (h : JF c A) (hc : c < kC A) (h115 : aI A 15 c = 115) (hf : aI A 19 c ≠ 0) : JF 30 (aLoop A c) :=
  J_away (z := 108) h hc (Or.inr rfl) h115 (fun _ => hf) (fun f i q => by unfold aLoop; rw [aI_note, aI_sO]) (fun _ => rfl) rfl (by rw [if_pos rfl]; rfl) (by rw [if_neg (by decide)]; rfl) ⟨76, rfl, by decide⟩
/-- a car is taken from its station -/
theorem J_take (h : JA A) (hs : s < kS A) (hat : aI A 12 s = nI c) (hc : c < kC A) : JF c (sI A 12 s (-1)) := by
  obtain ⟨j1, j2, j3, ⟨j4w, j4o, j4g⟩, j5, j6, j7, j8, j9, j10⟩ := h
  have h30 : kC A ≤ 30 := j1.2.2
  have h8 : kS A ≤ 8 := j1.1.2
  have o : ∀ f i, f ≠ 12 → aI (sI A 12 s (-1)) f i = aI A f i := fun f i q => by rw [aI_sI, if_neg (fun w => q w.1)]
  obtain ⟨i1, eS, eC⟩ := j1.of (B := sI A 12 s (-1)) (o 0 0 (by omega)) (o 1 0 (by omega))
  have p115 : aI A 15 c = 115 ∧ aI A 16 c = nI s := by
    rcases j2 s hs with w | ⟨w1, w2, w3, w4, w5⟩
    · rw [hat] at w; exact absurd w (nI_ne_neg (by omega))
    · have : atC A s = c := by unfold atC; rw [hat, nI_clamp (by omega)]
      rw [this] at w3 w4
      exact ⟨w4, w3⟩
  have row : ∀ l z, z ≠ 115 → RO A 30 l z → RO (sI A 12 s (-1)) c l z := fun l z hz hr => ⟨hr.1, fun d => by
    rw [hr.2 d, eC, o 15 d (by omega)]
    exact ⟨fun w => ⟨w.1, w.2.1, fun e => hz (by rw [← w.2.1, e]; exact p115.1)⟩, fun w => ⟨w.1, w.2.1, by omega⟩⟩⟩
  unfold JF
  rw [eS, eC]
  refine ⟨i1, fun x hx => ?_, fun d hd hdc h115 => ?_, ⟨row _ _ (by decide) j4w, row _ _ (by decide) j4o, row _ _ (by decide) j4g⟩, fun d hd => (j5 d hd).cg eS (fun f f1 f2 f3 => o f d (by omega)), fun x hx => (j6 x hx).cg (o _ _ (by omega)) (o _ _ (by omega)), by rw [o 2 0 (by omega), o 3 0 (by omega)]; exact j7, j8, j9, j10⟩
  · unfold AT1 atC
    rw [eC]
    by_cases q : x = s
    · subst q
      rw [aI_sI, if_pos ⟨rfl, rfl⟩]
      exact Or.inl rfl
    · rw [aI_sI, if_neg (fun w => q w.2)]
      rcases j2 x hx with w | ⟨w1, w2, w3, w4, w5⟩
      · exact Or.inl w
      · unfold atC at w1 w2 w3 w4 w5
        rw [o 16 _ (by omega), o 15 _ (by omega)]
        refine Or.inr ⟨w1, w2, w3, w4, fun e => q ?_⟩
        rw [e, p115.2] at w3
        exact (nI_inj (by omega) (by omega) w3).symm
  · rw [o 15 d (by omega)] at h115
    obtain ⟨x, x1, x2, x3⟩ := j3 d hd (by omega) h115
    have hxs : x ≠ s := fun w => by
      subst w
      rw [hat] at x3
      exact hdc (nI_inj (by omega) (by omega) x3).symm
    exact ⟨x, x1, by rw [o 16 d (by omega)]; exact x2, by rw [aI_sI, if_neg (fun w => hxs w.2)]; exact x3⟩
theorem J_move (h : JA A) (hs : s < kS A) (hT : aI A 2 0 ≠ 0) : JA (aMove A s) := by
  unfold aMove
  by_cases hn : aI A 12 s = -1
  · rw [if_pos hn]; exact h
  · rw [if_neg hn]
    obtain ⟨p1, p2, p3, p4, p5⟩ := (h.2.1 s hs).resolve_left hn
    generalize hcc : atC A s = c at p1 p2 p3 p4 p5
    by_cases h1 : 0 < aI A 17 c
    · rw [if_pos h1]; exact h
    · rw [if_neg h1]
      have hB := J_take h hs p1 p2
      have eS : kS (sI A 12 s (-1)) = kS A := kS_sI (by omega)
      have eC : kC (sI A 12 s (-1)) = kC A := kC_sI (by omega)
      by_cases h2 : aI A 18 c = 0 ∧ s + 1 < kS A
      · rw [if_pos h2]
        by_cases h3 : aI A 12 (s + 1) = -1
        · rw [if_pos h3]
          exact J_enter hB (by rw [eC]; exact p2) (by rw [eS]; exact h2.2) (by rw [aI_sI, if_neg (by omega)]; exact h3) (Or.inl rfl) (by rw [aI_sI, if_neg (by omega)]; exact hT)
        · rw [if_neg h3]; exact h
      · rw [if_neg h2]
        by_cases h3 : aI A 19 c = 0
        · rw [if_pos h3]
          exact J_leave hB (by rw [eC]; exact p2) (by rw [aI_sI, if_neg (by omega)]; exact p4)
        · rw [if_neg h3]
          exact J_toLoop hB (by rw [eC]; exact p2) (by rw [aI_sI, if_neg (by omega)]; exact p4) (by rw [aI_sI, if_neg (by omega)]; exact h3)
end KEEP
