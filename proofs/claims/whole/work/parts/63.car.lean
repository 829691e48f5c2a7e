/-! part 63: new cars -/
def aNewC (A : AS) (n : Nat) (v : Int32) : AS := sW (sI (sI A 1 0 (nI (n + 1))) 14 n v) (aW A ++ [n])
section NEWC
variable {S S0 S1 Sm : St} {A B : AS} {T k c s i n f : Nat} {a a1 v : Int32}
theorem nC_o (h : f ≠ 1 ∧ (f ≠ 14 ∨ i ≠ n)) : aI (aNewC A n v) f i = aI A f i := by
  show aI (sI (sI A 1 0 (nI (n + 1))) 14 n v) f i = _
  rw [aI_sI, if_neg (by omega), aI_sI, if_neg (by omega)]
theorem nC_1 : aI (aNewC A n v) 1 0 = nI (n + 1) := by
  show aI (sI (sI A 1 0 (nI (n + 1))) 14 n v) 1 0 = _
  rw [aI_sI, if_neg (by omega), aI_sI, if_pos ⟨rfl, rfl⟩]
theorem nC_14 : aI (aNewC A n v) 14 n = v := by
  show aI (sI (sI A 1 0 (nI (n + 1))) 14 n v) 14 n = _
  rw [aI_sI, if_pos ⟨rfl, rfl⟩]
theorem nC_k (h8 : n < 30) : kC (aNewC A n v) = n + 1 ∧ kS (aNewC A n v) = kS A := ⟨by unfold kC; rw [nC_1, nI_clamp (by omega)], by unfold kS; rw [nC_o (by omega)]⟩
theorem J_newC (h : JA A) (h0 : FR0 A) (hn : kC A = n) (h8 : n < 30) (hs : kS A ≠ 0) : JA (aNewC A n v) := by
  obtain ⟨j1, j2, j3, ⟨j4w, j4o, j4g⟩, j5, j6, j7, j8, j9, j10⟩ := h
  obtain ⟨eC, eS⟩ := nC_k (A := A) (v := v) h8
  obtain ⟨f1, f2, f3, f4, f5, f6, f7⟩ := h0.2 n (by omega) h8
  have hp := Nat.two_pow_pos (kS A)
  have row : ∀ l z, z ≠ 119 → RO A 30 l z → RO (aNewC A n v) 30 l z := fun l z hz hr => ⟨hr.1, fun d => by
    rw [hr.2 d, eC, nC_o (by omega)]
    constructor
    · exact fun w => ⟨by omega, w.2.1, w.2.2⟩
    · intro w
      by_cases e : d = n
      · rw [e, f1] at w; exact absurd w.2.1.symm hz
      · exact ⟨by omega, w.2.1, w.2.2⟩⟩
  refine ⟨⟨⟨by rw [nC_o (by omega), eS]; exact j1.1.1, by rw [eS]; exact j1.1.2⟩, ⟨by rw [nC_1, eC], by omega⟩⟩, fun x hx => ?_, fun d hd hd1 h9 => ?_, ⟨⟨?_, fun d => ?_⟩, row _ _ (by decide) j4o, row _ _ (by decide) j4g⟩, fun d hd => ?_, fun x hx => ?_, by rw [nC_o (by omega), nC_o (by omega)]; exact j7, fun w => absurd (eS ▸ w) hs, fun p hp => by rw [eC]; exact ⟨by have := (j9 p hp).1; omega, (j9 p hp).2⟩, fun x hx => j10 x (by rw [eS] at hx; exact hx)⟩
  · rw [eS] at hx
    unfold AT1 atC
    rw [nC_o (f := 12) (by omega), eC, nC_o (f := 16) (by omega), nC_o (f := 15) (by omega)]
    rcases j2 x hx with e | ⟨e1, e2, e3, e4, e5⟩
    · exact Or.inl e
    · unfold atC at e1 e2 e3 e4 e5
      exact Or.inr ⟨e1, by omega, e3, e4, e5⟩
  · rw [eC] at hd
    rw [nC_o (by omega)] at h9
    by_cases e : d = n
    · rw [e, f1] at h9; exact absurd h9 (by decide)
    · obtain ⟨x, x1, x2, x3⟩ := j3 d (by omega) hd1 h9
      exact ⟨x, by rw [eS]; exact x1, by rw [nC_o (by omega)]; exact x2, by rw [nC_o (by omega)]; exact x3⟩
  · show (aW A ++ [n]).Nodup
    rw [List.nodup_append]
    refine ⟨j4w.1, by simp, fun x hx y hy => ?_⟩
    have hy : y = n := by simpa using hy
    have := ((j4w.2 x).mp hx).1
    omega
  · show d ∈ aW A ++ [n] ↔ _
    rw [List.mem_append, j4w.2 d, eC, nC_o (by omega)]
    constructor
    · rintro (w | w)
      · exact ⟨by omega, w.2.1, w.2.2⟩
      · have hy : d = n := by simpa using w
        exact ⟨by omega, by rw [hy]; exact f1, by omega⟩
    · intro w
      by_cases e : d = n
      · exact Or.inr (by simp [e])
      · exact Or.inl ⟨by omega, w.2.1, w.2.2⟩
  · rw [eC] at hd
    by_cases e : d = n
    · subst e
      unfold CO1
      rw [eS, nC_o (f := 15) (by omega), nC_o (f := 17) (by omega), nC_o (f := 18) (by omega), nC_o (f := 19) (by omega), nC_o (f := 20) (by omega), nC_o (f := 21) (by omega), f1, f3, f4, f5, f6, f7]
      exact ⟨Or.inl rfl, ⟨0, hp, rfl⟩, fun w => absurd w (by decide), ⟨Or.inl rfl, fun _ => rfl⟩, ⟨0, by omega, rfl⟩, ⟨0, hp, rfl⟩, fun _ => ⟨rfl, rfl⟩, fun w => absurd rfl w⟩
    · exact (j5 d (by omega)).cg eS (fun f g1 g2 g3 => nC_o (by omega))
  · rw [eS] at hx
    exact (j6 x hx).cg (nC_o (by omega)) (nC_o (by omega))
theorem PIN.newC (h : PIN A T) (hn : kC A = n) (h8 : n < 30) (hs : kS A ≠ 0) : PIN (aNewC A n v) T := by
  obtain ⟨h1, h2, h3, h4, h5, h6⟩ := h
  obtain ⟨eC, eS⟩ := nC_k (A := A) (v := v) h8
  refine ⟨J_newC h1 h4 hn h8 hs, by rw [nC_o (by omega)]; exact h2, fun c hc => ?_, ⟨fun s hs1 hs2 => ?_, fun c hc1 hc2 => ?_⟩, h5.cg (fun f i hf => Or.inl (nC_o (by omega))), h6.cg (fun c => Or.inl ⟨nC_o (by omega), nC_o (by omega)⟩)⟩
  · show (trc A c).length ≤ 3 * T
    by_cases e : c < kC A
    · exact h3 c e
    · have e0 : trc A c = [] := by
        unfold trc
        rw [List.filter_eq_nil_iff.mpr (fun p hp => by have := (h1.2.2.2.2.2.2.2.2.1 p hp).1; simp; omega)]
        rfl
      rw [e0]; exact Nat.zero_le _
  · rw [eS] at hs1
    rw [nC_o (by omega), nC_o (by omega), nC_o (by omega)]
    exact h4.1 s hs1 hs2
  · rw [eC] at hc1
    rw [nC_o (by omega), nC_o (by omega), nC_o (by omega), nC_o (by omega), nC_o (by omega), nC_o (by omega), nC_o (by omega)]
    exact h4.2 c (by omega) hc2
theorem CR.newC (h : CR 0 k S0 S A) (hn : kC A = n) (h8 : n < 30) : CR 0 k S0 (pI S 1 0 0 (nI (n + 1))) (sI A 1 0 (nI (n + 1))) := by
  obtain ⟨⟨r1, r2, r3, r4, r5⟩, hX, hF, hR⟩ := h
  have eC : kC (sI A 1 0 (nI (n + 1))) = n + 1 := by unfold kC; rw [aI_sI, if_pos ⟨rfl, rfl⟩, nI_clamp (by omega)]
  have eS : kS (sI A 1 0 (nI (n + 1))) = kS A := kS_sI (by omega)
  have hR := hR rfl
  refine ⟨⟨fun f hf => ?_, fun p hp => by rw [gI_pI, if_neg (by omega), aI_sI, if_neg (by omega)]; exact r2 p hp, fun f s q1 q2 hs => ?_, fun f c q1 q2 hc => ?_, r5.1.oth (by omega), r5.2.1.oth (by omega), r5.2.2.oth (by omega)⟩, fun _ => ((hX rfl).oth (by omega)).othA (by omega), fun w => absurd w (by decide), fun _ => (hR.oth (by omega)).othA (by omega)⟩
  · rw [gI_pI, aI_sI]
    by_cases e : f = 1
    · rw [if_pos ⟨e, rfl, rfl⟩, if_pos ⟨e, rfl⟩]
    · rw [if_neg (fun w => e w.1), if_neg (fun w => e w.1)]; exact r1 f hf
  · rw [eS] at hs
    rw [gI_pI, if_neg (by omega), aI_sI, if_neg (by omega)]
    exact r3 f s q1 q2 hs
  · rw [eC] at hc
    rw [gI_pI, if_neg (by omega), aI_sI, if_neg (by omega), show 30 * 0 + c = c by omega]
    exact hR.2 f c q1 q2 (by omega)
theorem CR.appW (h : CR 0 k S0 S A) (hl : (aW A).length < 30) : CR 0 k S0 (stA S 0 (aW A).length (nI c)) (sW A (aW A ++ [c])) := by
  obtain ⟨⟨r1, r2, r3, r4, r5⟩, hX, hF, hR⟩ := h
  have g : ∀ f i j, f ≠ 5 → f ≠ 6 → gI (stA S 0 (aW A).length (nI c)) f i j = gI S f i j := fun f i j q1 q2 => by
    unfold stA
    rw [gI_pI, if_neg (by omega), gI_pI, if_neg (by omega)]
  have hx1 : RX k (stA S 0 (aW A).length (nI c)) A := by unfold stA; exact ((hX rfl).oth (by omega)).oth (by omega)
  have hr1 : RF (stA S 0 (aW A).length (nI c)) A := by unfold stA; exact ((hR rfl).oth (by omega)).oth (by omega)
  exact ⟨⟨fun f hf => by rw [g _ _ _ (by omega) (by omega)]; exact r1 f hf, fun p hp => by rw [g _ _ _ (by omega) (by omega)]; exact r2 p hp, fun f s q1 q2 hs => by rw [g _ _ _ (by omega) (by omega)]; exact r3 f s q1 q2 hs, fun f c q1 q2 hc => by rw [g _ _ _ (by omega) (by omega)]; exact r4 f c q1 q2 hc, r5.1.app hl, r5.2.1.stA (by omega), r5.2.2.stA (by omega)⟩, fun _ => hx1, fun w => absurd w (by decide), fun _ => hr1⟩
def sNewC (S : St) (n len : Nat) (v : Int32) : St := pI (pI (pI (pI (pI S 16 0 n v) 20 0 (82 + n) 119) 20 0 (142 + len) (nI n)) 20 0 233 (nI (len + 1))) 2 0 0 (nI (n + 1))
theorem MS.newC (h : MS 0 S0 S A) (hJ : JA A) (h0 : FR0 A) (hn : kC A = n) (h8 : n < 30) (hl : (aW A).length < 30) : MS 0 S0 (sNewC S n (aW A).length v) (aNewC A n v) := by
  obtain ⟨eC, eS⟩ := nC_k (A := A) (v := v) h8
  obtain ⟨f1, f2, f3, f4, f5, f6, f7⟩ := h0.2 n (by omega) h8
  have k8 := hJ.1.1.2
  have o : ∀ f i j, f ≠ 2 → f ≠ 20 → (f ≠ 16 ∨ j ≠ n) → gI (sNewC S n (aW A).length v) f i j = gI S f i j := fun f i j q1 q2 q3 => by
    unfold sNewC
    rw [gI_pI, if_neg (by omega), gI_pI, if_neg (by omega), gI_pI, if_neg (by omega), gI_pI, if_neg (by omega), gI_pI, if_neg (by omega)]
  have w9 : nw (sNewC S n (aW A).length v) = fun y => if y = 233 then nI ((aW A).length + 1) else (fun y => if y = 142 + (aW A).length then nI n else (fun y => if y = 82 + n then 119 else nw S y) y) y := by
    unfold sNewC
    rw [nw_o (by omega), nw_20, nw_20, nw_20, nw_o (by omega)]
  have nwo : ∀ y, y ≠ 233 → y ≠ 142 + (aW A).length → y ≠ 82 + n → nw (sNewC S n (aW A).length v) y = nw S y := fun y q1 q2 q3 => by
    rw [w9]
    show (if y = 233 then _ else (if y = 142 + (aW A).length then _ else (if y = 82 + n then _ else nw S y))) = _
    rw [if_neg q1, if_neg q2, if_neg q3]
  obtain ⟨z1, z2⟩ := h.1.2.2.2.2 rfl
  obtain ⟨⟨g0, g1, g2⟩, g3, g4, n1, n2, n3, n4, n5, n6, n7, n8, n9⟩ := h.1.1
  refine (h.mk9 (fun f i j hf => o f i j (by omega) (by omega) (by omega)) (fun i => rfl) (fun f i => rfl) ⟨⟨?_, ?_, ?_⟩, fun s hs => ?_, fun c hc => ?_, fun p hp => ?_, fun s hs => ?_, fun s hs => ?_, fun c hc => ?_, fun c hc => ?_, fun c hc h9 => ?_, ?_, ⟨?_, ?_, fun j hj => ?_⟩, ?_⟩ (by omega) (by omega) (fun f hf i => nC_o (by omega)) (fun j hj => nwo j (by omega) (by omega) (by omega)) rfl rfl (fun c hc h9 => ?_) ?_).z
  · rw [o _ _ _ (by omega) (by omega) (by omega), nC_o (by omega)]; exact g0
  · rw [o _ _ _ (by omega) (by omega) (by omega), nC_o (by omega)]; exact g1
  · unfold sNewC; rw [gI_pI, if_pos ⟨rfl, rfl, rfl⟩, nC_1]
  · rw [eS] at hs
    rw [o _ _ _ (by omega) (by omega) (by omega), o _ _ _ (by omega) (by omega) (by omega), o _ _ _ (by omega) (by omega) (by omega), o _ _ _ (by omega) (by omega) (by omega), nC_o (by omega), nC_o (by omega), nC_o (by omega), nC_o (by omega)]
    exact g3 s hs
  · rw [eC] at hc
    by_cases e : c = n
    · subst e
      rw [nC_14]
      unfold sNewC
      rw [gI_pI, if_neg (by omega), gI_pI, if_neg (by omega), gI_pI, if_neg (by omega), gI_pI, if_neg (by omega), gI_pI, if_pos ⟨rfl, rfl, rfl⟩]
    · rw [o _ _ _ (by omega) (by omega) (by omega), nC_o (by omega)]
      exact g4 c (by omega)
  · rw [nwo _ (by omega) (by omega) (by omega), nC_o (by omega)]; exact n1 p hp
  · rw [eS] at hs
    rw [nwo _ (by omega) (by omega) (by omega), nC_o (by omega)]; exact n2 s hs
  · rw [eS] at hs
    rw [nwo _ (by omega) (by omega) (by omega), nC_o (by omega)]; exact n3 s hs
  · rw [eC] at hc
    rw [nC_o (by omega)]
    by_cases e : c = n
    · rw [e, f1, w9]
      show (if 82 + n = 233 then _ else (if 82 + n = 142 + (aW A).length then _ else (if 82 + n = 82 + n then _ else nw S (82 + n)))) = _
      rw [if_neg (by omega), if_neg (by omega), if_pos rfl]
    · rw [nwo _ (by omega) (by omega) (by omega)]; exact n4 c (by omega)
  · rw [eC] at hc
    rw [nwo _ (by omega) (by omega) (by omega), nC_o (by omega)]; exact (z2 c (by omega)).2.2
  · rw [eC] at hc
    rw [nC_o (by omega)] at h9
    by_cases e : c = n
    · rw [e, f1] at h9; exact absurd h9 (by decide)
    · rw [nwo _ (by omega) (by omega) (by omega), nwo _ (by omega) (by omega) (by omega), nC_o (by omega), nC_o (by omega)]; exact n6 c (by omega) h9
  · rw [nwo _ (by omega) (by omega) (by omega), nC_o (by omega)]; exact n7
  · show (aW A ++ [n]).length ≤ 30
    rw [List.length_append, List.length_singleton]; omega
  · rw [w9]
    show (if 233 = 233 then nI ((aW A).length + 1) else _) = nI (aW A ++ [n]).length
    rw [if_pos rfl, List.length_append, List.length_singleton]
  · have hj : j < (aW A ++ [n]).length := hj
    rw [List.length_append, List.length_singleton] at hj
    show _ = nI ((aW A ++ [n]).getD j 0)
    by_cases e : j = (aW A).length
    · rw [w9]
      show (if 142 + j = 233 then _ else (if 142 + j = 142 + (aW A).length then nI n else _)) = _
      rw [if_neg (by omega), if_pos (by omega), e]
      simp [List.getD]
    · rw [nwo _ (by omega) (by omega) (by omega), n8.2.2 j (by omega)]
      congr 1
      simp only [List.getD_eq_getElem?_getD, List.getElem?_append_left (show j < (aW A).length by omega)]
  · rw [w9]; exact ((n9.up (by omega) (by omega)).up (by omega) (by omega)).up (by omega) (by omega)
  · rw [eC] at hc
    rw [nC_o (by omega)] at h9
    by_cases e : c = n
    · rw [e, f1] at h9; exact absurd h9 (by decide)
    · exact ⟨by omega, h9⟩
  · rw [w9]; exact ((h.2.up (by omega) (by omega)).up (by omega) (by omega)).up (by omega) (by omega)
end NEWC
