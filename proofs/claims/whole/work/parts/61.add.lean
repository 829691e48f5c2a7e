/-! part 61: new stations -/
def DC (k : Nat) (S Sm : St) (f : PM (Int32 ⊕ String)) (g : PM Int32) (code : String → Int32) (ex : List String) : Prop :=
  (∃ (A1 : AS) (T1 : Nat) (r : Int32) (b : Int32), wp f S (fun x S1 => x = .inl r ∧ CR 0 k S S1 A1) ∧ wp g Sm (fun x Sm1 => x = b ∧ MS 0 Sm Sm1 A1 ∧ gI Sm1 5 0 0 = 0) ∧ r = b ∧ PIN A1 T1) ∨ (∃ (X : String) (b : Int32) (Sm1 : St), f.1 S = some (.inr X, thrS S) ∧ g.1 Sm = some (b, Sm1) ∧ X ∈ ex ∧ TH (code X) Sm Sm1)
theorem wp_of {α : Type} {f : PM α} {S S1 : St} {r : α} (h : f.1 S = some (r, S1)) : wp f S (fun a S2 => a = r ∧ S2 = S1) := w_of h ⟨rfl, rfl⟩
theorem DC.map {k : Nat} {S Sm : St} {f f1 : PM (Int32 ⊕ String)} {g g1 : PM Int32} {code : String → Int32} {ex : List String} (h : DC k S Sm f g code ex) (hx : ∀ Q, wp f S Q → wp f1 S Q) (hm : ∀ Q, wp g Sm Q → wp g1 Sm Q) : DC k S Sm f1 g1 code ex := by
  rcases h with ⟨A1, T1, r, b, e1, e2, e3, e4⟩ | ⟨X, b, Sm1, e1, e2, e3, e4⟩
  · exact Or.inl ⟨A1, T1, r, b, hx _ e1, hm _ e2, e3, e4⟩
  · exact Or.inr ⟨X, b, Sm1, ev_of (hx _ (wp_of e1)), ev_of (hm _ (wp_of e2)), e3, e4⟩
def aNewS (A : AS) (n : Nat) (v1 v2 v3 v4 : Int32) : AS := sI (sI (sI (sI (sI A 0 0 (nI (n + 1))) 7 n v1) 8 n v2) 9 n v3) 10 n v4
section NEWS
variable {S S0 S1 Sm : St} {A B : AS} {T k c s i n f : Nat} {a a1 a2 a3 a4 v v1 v2 v3 v4 : Int32}
theorem nS_o (h : f ≠ 0 ∧ (f < 7 ∨ 10 < f ∨ i ≠ n)) : aI (aNewS A n v1 v2 v3 v4) f i = aI A f i := by
  unfold aNewS
  rw [aI_sI, if_neg (by omega), aI_sI, if_neg (by omega), aI_sI, if_neg (by omega), aI_sI, if_neg (by omega), aI_sI, if_neg (by omega)]
theorem nS_0 : aI (aNewS A n v1 v2 v3 v4) 0 0 = nI (n + 1) := by
  unfold aNewS
  rw [aI_sI, if_neg (by omega), aI_sI, if_neg (by omega), aI_sI, if_neg (by omega), aI_sI, if_neg (by omega), aI_sI, if_pos ⟨rfl, rfl⟩]
theorem nS_7 : aI (aNewS A n v1 v2 v3 v4) 7 n = v1 ∧ aI (aNewS A n v1 v2 v3 v4) 8 n = v2 ∧ aI (aNewS A n v1 v2 v3 v4) 9 n = v3 ∧ aI (aNewS A n v1 v2 v3 v4) 10 n = v4 := by
  unfold aNewS
  refine ⟨?_, ?_, ?_, ?_⟩
  · rw [aI_sI, if_neg (by omega), aI_sI, if_neg (by omega), aI_sI, if_neg (by omega), aI_sI, if_pos ⟨rfl, rfl⟩]
  · rw [aI_sI, if_neg (by omega), aI_sI, if_neg (by omega), aI_sI, if_pos ⟨rfl, rfl⟩]
  · rw [aI_sI, if_neg (by omega), aI_sI, if_pos ⟨rfl, rfl⟩]
  · rw [aI_sI, if_pos ⟨rfl, rfl⟩]
theorem nS_k (h8 : n < 8) : kS (aNewS A n v1 v2 v3 v4) = n + 1 ∧ kC (aNewS A n v1 v2 v3 v4) = kC A := ⟨by unfold kS; rw [nS_0, nI_clamp (by omega)], by unfold kC; rw [nS_o (by omega)]⟩
theorem J_newS (h : JA A) (h0 : FR0 A) (hn : kS A = n) (h8 : n < 8) (hv1 : ∃ g, 1 ≤ g ∧ g ≤ 9 ∧ v1 = nI g) (hv2 : v2 = -1 ∨ ∃ p, p < 6 ∧ v2 = nI p) : JA (aNewS A n v1 v2 v3 v4) := by
  obtain ⟨j1, j2, j3, ⟨j4w, j4o, j4g⟩, j5, j6, j7, j8, j9, j10⟩ := h
  obtain ⟨eS, eC⟩ := nS_k (A := A) (v1 := v1) (v2 := v2) (v3 := v3) (v4 := v4) h8
  have row : ∀ l z, RO A 30 l z → RO (aNewS A n v1 v2 v3 v4) 30 l z := fun l z hr => ⟨hr.1, fun d => by rw [hr.2 d, eC, nS_o (by omega)]⟩
  refine ⟨⟨⟨by rw [nS_0, eS], by omega⟩, ⟨by rw [nS_o (by omega), eC]; exact j1.2.1, by rw [eC]; exact j1.2.2⟩⟩, fun x hx => ?_, fun d hd hd1 h9 => ?_, ⟨row _ _ j4w, row _ _ j4o, row _ _ j4g⟩, fun d hd => ?_, fun x hx => ?_, by rw [nS_o (by omega), nS_o (by omega)]; exact j7, fun w => by omega, fun p hp => by rw [eC]; exact j9 p hp, fun x hx => j10 x (by omega)⟩
  · rw [eS] at hx
    unfold AT1 atC
    rw [nS_o (f := 12) (by omega), eC, nS_o (f := 16) (by omega), nS_o (f := 15) (by omega)]
    by_cases e : x = n
    · rw [e]; exact Or.inl (h0.1 n (by omega) h8).2.1
    · exact j2 x (by omega)
  · rw [eC] at hd
    rw [nS_o (by omega)] at h9
    obtain ⟨x, x1, x2, x3⟩ := j3 d hd hd1 h9
    exact ⟨x, by omega, by rw [nS_o (by omega)]; exact x2, by rw [nS_o (by omega)]; exact x3⟩
  · rw [eC] at hd
    obtain ⟨p1, ⟨m1, q1, q2⟩, p3, p4, p5, ⟨m2, r1, r2⟩, p7, p8⟩ := j5 d hd
    have hp : 2 ^ kS A ≤ 2 ^ (n + 1) := Nat.pow_le_pow_right (by omega) (by omega)
    unfold CO1
    rw [eS, nS_o (f := 15) (by omega), nS_o (f := 17) (by omega), nS_o (f := 18) (by omega), nS_o (f := 19) (by omega), nS_o (f := 20) (by omega), nS_o (f := 21) (by omega)]
    exact ⟨p1, ⟨m1, by omega, q2⟩, p3, p4, p5, ⟨m2, by omega, r2⟩, p7, p8⟩
  · rw [eS] at hx
    unfold ST1 prt
    by_cases e : x = n
    · rw [e, nS_7.1, nS_7.2.1]
      refine ⟨hv1, ?_⟩
      rcases hv2 with w | ⟨p, p1, p2⟩
      · exact Or.inl w
      · exact Or.inr ⟨by rw [p2, nI_clamp (by omega)], by rw [p2, nI_clamp (by omega)]; exact p1⟩
    · rw [nS_o (by omega), nS_o (by omega)]
      exact j6 x (by omega)
theorem PIN.newS (h : PIN A T) (hn : kS A = n) (h8 : n < 8) (hv1 : ∃ g, 1 ≤ g ∧ g ≤ 9 ∧ v1 = nI g) (hv2 : v2 = -1 ∨ ∃ p, p < 6 ∧ v2 = nI p) : PIN (aNewS A n v1 v2 v3 v4) T := by
  obtain ⟨h1, h2, h3, h4, h5, h6⟩ := h
  obtain ⟨eS, eC⟩ := nS_k (A := A) (v1 := v1) (v2 := v2) (v3 := v3) (v4 := v4) h8
  refine ⟨J_newS h1 h4 hn h8 hv1 hv2, by rw [nS_o (by omega)]; exact h2, fun c hc => h3 c (by rw [eC] at hc; exact hc), ⟨fun s hs1 hs2 => ?_, fun c hc1 hc2 => ?_⟩, h5.cg (fun f i hf => Or.inl (nS_o (by omega))), h6.cg (fun c => Or.inl ⟨nS_o (by omega), nS_o (by omega)⟩)⟩
  · rw [eS] at hs1
    rw [nS_o (by omega), nS_o (by omega), nS_o (by omega)]
    exact h4.1 s (by omega) hs2
  · rw [eC] at hc1
    rw [nS_o (by omega), nS_o (by omega), nS_o (by omega), nS_o (by omega), nS_o (by omega), nS_o (by omega), nS_o (by omega)]
    exact h4.2 c hc1 hc2
theorem CR.newS (h : CR 0 k S0 S A) (hn : kS A = n) (h8 : n < 8) : CR 0 k S0 (pI S 0 0 0 (nI (n + 1))) (sI A 0 0 (nI (n + 1))) := by
  obtain ⟨⟨r1, r2, r3, r4, r5⟩, hX, hF, hR⟩ := h
  have eS : kS (sI A 0 0 (nI (n + 1))) = n + 1 := by unfold kS; rw [aI_sI, if_pos ⟨rfl, rfl⟩, nI_clamp (by omega)]
  have eC : kC (sI A 0 0 (nI (n + 1))) = kC A := kC_sI (by omega)
  have hR := hR rfl
  refine ⟨⟨fun f hf => ?_, fun p hp => by rw [gI_pI, if_neg (by omega), aI_sI, if_neg (by omega)]; exact r2 p hp, fun f s q1 q2 hs => ?_, fun f c q1 q2 hc => ?_, r5.1.oth (by omega), r5.2.1.oth (by omega), r5.2.2.oth (by omega)⟩, fun _ => ((hX rfl).oth (by omega)).othA (by omega), fun w => absurd w (by decide), fun _ => (hR.oth (by omega)).othA (by omega)⟩
  · rw [gI_pI, aI_sI]
    by_cases e : f = 0
    · rw [if_pos ⟨e, rfl, rfl⟩, if_pos ⟨e, rfl⟩]
    · rw [if_neg (fun w => e w.1), if_neg (fun w => e w.1)]; exact r1 f hf
  · rw [eS] at hs
    rw [gI_pI, if_neg (by omega), aI_sI, if_neg (by omega), show 8 * 0 + s = s by omega]
    exact hR.1 f s q1 q2 (by omega)
  · rw [eC] at hc
    rw [gI_pI, if_neg (by omega), aI_sI, if_neg (by omega)]
    exact r4 f c q1 q2 hc
def sNewS (S : St) (n : Nat) (v1 v2 v3 v4 : Int32) : St := pI (pI (pI (pI (pI (pI S 11 0 n v1) 12 0 n v2) 13 0 n v3) 14 0 n v4) 20 0 (14 + n) (-1)) 0 0 0 (nI (n + 1))
theorem MS.newS (h : MS 0 S0 S A) (hJ : JA A) (h0 : FR0 A) (hn : kS A = n) (h8 : n < 8) : MS 0 S0 (sNewS S n v1 v2 v3 v4) (aNewS A n v1 v2 v3 v4) := by
  obtain ⟨eS, eC⟩ := nS_k (A := A) (v1 := v1) (v2 := v2) (v3 := v3) (v4 := v4) h8
  have o : ∀ f i j, f ≠ 0 → f ≠ 20 → (f < 11 ∨ 14 < f ∨ j ≠ n) → gI (sNewS S n v1 v2 v3 v4) f i j = gI S f i j := fun f i j q1 q2 q3 => by
    unfold sNewS
    rw [gI_pI, if_neg (by omega), gI_pI, if_neg (by omega), gI_pI, if_neg (by omega), gI_pI, if_neg (by omega), gI_pI, if_neg (by omega), gI_pI, if_neg (by omega)]
  have w9 : nw (sNewS S n v1 v2 v3 v4) = fun y => if y = 14 + n then -1 else nw S y := by
    unfold sNewS
    rw [nw_o (by omega), nw_20, nw_o (by omega), nw_o (by omega), nw_o (by omega), nw_o (by omega)]
  obtain ⟨z1, z2⟩ := h.1.2.2.2.2 rfl
  obtain ⟨⟨g0, g1, g2⟩, g3, g4, n1, n2, n3, n4, n5, n6, n7, n8, n9⟩ := h.1.1
  refine (h.mk9 (fun f i j hf => o f i j (by omega) (by omega) (by omega)) (fun i => rfl) (fun f i => rfl) ⟨⟨?_, ?_, ?_⟩, fun s hs => ?_, fun c hc => ?_, fun p hp => ?_, fun s hs => ?_, fun s hs => ?_, fun c hc => ?_, fun c hc => ?_, fun c hc h9 => ?_, ?_, ?_, ?_⟩ (by omega) (by rw [eC]; exact hJ.1.2.2) (fun f hf i => nS_o (by omega)) (fun j hj => by rw [w9]; exact if_neg (by omega)) rfl rfl (fun c hc h9 => by rw [nS_o (by omega)] at h9; exact ⟨by omega, h9⟩) (by rw [w9]; exact h.2.up (by omega) (by omega))).z
  · unfold sNewS; rw [gI_pI, if_pos ⟨rfl, rfl, rfl⟩, nS_0]
  · rw [o _ _ _ (by omega) (by omega) (by omega), nS_o (by omega)]; exact g1
  · rw [o _ _ _ (by omega) (by omega) (by omega), nS_o (by omega)]; exact g2
  · rw [eS] at hs
    by_cases e : s = n
    · subst e
      rw [nS_7.1, nS_7.2.1, nS_7.2.2.1, nS_7.2.2.2]
      unfold sNewS
      refine ⟨?_, ?_, ?_, ?_⟩
      · rw [gI_pI, if_neg (by omega), gI_pI, if_neg (by omega), gI_pI, if_neg (by omega), gI_pI, if_neg (by omega), gI_pI, if_neg (by omega), gI_pI, if_pos ⟨rfl, rfl, rfl⟩]
      · rw [gI_pI, if_neg (by omega), gI_pI, if_neg (by omega), gI_pI, if_neg (by omega), gI_pI, if_neg (by omega), gI_pI, if_pos ⟨rfl, rfl, rfl⟩]
      · rw [gI_pI, if_neg (by omega), gI_pI, if_neg (by omega), gI_pI, if_neg (by omega), gI_pI, if_pos ⟨rfl, rfl, rfl⟩]
      · rw [gI_pI, if_neg (by omega), gI_pI, if_neg (by omega), gI_pI, if_pos ⟨rfl, rfl, rfl⟩]
    · rw [o _ _ _ (by omega) (by omega) (by omega), o _ _ _ (by omega) (by omega) (by omega), o _ _ _ (by omega) (by omega) (by omega), o _ _ _ (by omega) (by omega) (by omega), nS_o (by omega), nS_o (by omega), nS_o (by omega), nS_o (by omega)]
      exact g3 s (by omega)
  · rw [eC] at hc
    rw [o _ _ _ (by omega) (by omega) (by omega), nS_o (by omega)]
    exact g4 c hc
  · rw [w9, nS_o (by omega)]
    show (if p = 14 + n then (-1 : Int32) else nw S p) = _
    rw [if_neg (by omega)]; exact n1 p hp
  · rw [eS] at hs
    rw [w9, nS_o (by omega)]
    show (if 6 + s = 14 + n then (-1 : Int32) else nw S (6 + s)) = _
    rw [if_neg (by omega)]; exact (z1 s (by omega)).2
  · rw [eS] at hs
    rw [w9, nS_o (by omega)]
    show (if 14 + s = 14 + n then (-1 : Int32) else nw S (14 + s)) = _
    by_cases e : s = n
    · rw [if_pos (by omega), e]; exact (h0.1 n (by omega) h8).2.1.symm
    · rw [if_neg (by omega)]; exact n3 s (by omega)
  · rw [eC] at hc
    rw [w9, nS_o (by omega)]
    show (if 82 + c = 14 + n then (-1 : Int32) else nw S (82 + c)) = _
    rw [if_neg (by omega)]; exact n4 c hc
  · rw [eC] at hc
    rw [w9, nS_o (by omega)]
    show (if 112 + c = 14 + n then (-1 : Int32) else nw S (112 + c)) = _
    rw [if_neg (by omega)]; exact n5 c hc
  · rw [eC] at hc
    rw [nS_o (by omega)] at h9
    rw [w9, nS_o (by omega), nS_o (by omega)]
    show (if 22 + c = 14 + n then (-1 : Int32) else nw S (22 + c)) = _ ∧ (if 52 + c = 14 + n then (-1 : Int32) else nw S (52 + c)) = _
    rw [if_neg (by omega), if_neg (by omega)]; exact n6 c hc h9
  · rw [w9, nS_o (by omega)]
    show (if 232 = 14 + n then (-1 : Int32) else nw S 232) = _
    rw [if_neg (by omega)]; exact n7
  · rw [w9]; exact n8.up (by omega) (by omega)
  · rw [w9]; exact n9.up (by omega) (by omega)
end NEWS
