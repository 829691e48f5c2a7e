/-! part 68: a trial leaves the reference as it was -/
section TRI
variable {S S0 S1 Sm : St} {A B : AS} {T k c d s i n f p q x : Nat} {a a1 a2 v : Int32} {l : List Nat}
theorem NR.cgn {n n1 : Nat → Int32} {b z : Nat} (h : NR n b z l) (hb : b + 30 ≤ 237) (hz : z < 237) (hk : ∀ j, j < 237 → n1 j = n j) : NR n1 b z l :=
  ⟨h.1, by rw [hk _ hz]; exact h.2.1, fun j hj => by rw [hk _ (by have := h.1; omega)]; exact h.2.2 j hj⟩
theorem N0.cgn {n n1 : Nat → Int32} (h : N0 n A) (h8 : kS A ≤ 8) (h30 : kC A ≤ 30) (hk : ∀ j, j < 237 → n1 j = n j) : N0 n1 A := by
  obtain ⟨n1', n2, n3, n4, n5, n6, n7, n8, n9⟩ := h
  exact ⟨fun p hp => by rw [hk _ (by omega)]; exact n1' p hp, fun s hs => by rw [hk _ (by omega)]; exact n2 s hs, fun s hs => by rw [hk _ (by omega)]; exact n3 s hs, fun c hc => by rw [hk _ (by omega)]; exact n4 c hc, fun c hc => by rw [hk _ (by omega)]; exact n5 c hc, fun c hc h9 => by rw [hk _ (by omega), hk _ (by omega)]; exact n6 c hc h9, by rw [hk _ (by omega)]; exact n7, n8.cgn (by omega) (by omega) hk, n9.cgn (by omega) (by omega) hk⟩
theorem RM0.cgn (h : RM0 S A) (hI : IA A) (hk : ∀ f i j, f ≠ 3 → f ≠ 5 → f ≠ 20 → f ≠ 21 → gI S1 f i j = gI S f i j) (hn : ∀ j, j < 237 → nw S1 j = nw S j) : RM0 S1 A := by
  obtain ⟨⟨g0, g1, g2⟩, g3, g4, h5⟩ := h
  exact ⟨⟨by rw [hk _ _ _ (by omega) (by omega) (by omega) (by omega)]; exact g0, by rw [hk _ _ _ (by omega) (by omega) (by omega) (by omega)]; exact g1, by rw [hk _ _ _ (by omega) (by omega) (by omega) (by omega)]; exact g2⟩, fun s hs => by rw [hk _ _ _ (by omega) (by omega) (by omega) (by omega), hk _ _ _ (by omega) (by omega) (by omega) (by omega), hk _ _ _ (by omega) (by omega) (by omega) (by omega), hk _ _ _ (by omega) (by omega) (by omega) (by omega)]; exact g3 s hs, fun c hc => by rw [hk _ _ _ (by omega) (by omega) (by omega) (by omega)]; exact g4 c hc, h5.cgn hI.1.2 hI.2.2 hn⟩
/-- the trial's beginning -/
theorem MS.trial (h : MS 0 S0 S A) (hI : IA A) : MS 1 (pI (kpS S 237) 3 0 0 1) (pI (kpS S 237) 3 0 0 1) A := by
  have hk : ∀ f i j, f ≠ 3 → f ≠ 21 → gI (pI (kpS S 237) 3 0 0 1) f i j = gI S f i j := fun f i j q1 q2 => by
    rw [gI_pI, if_neg (by omega), gI_kpS, if_neg (by omega)]
  have hn : ∀ j, nw (pI (kpS S 237) 3 0 0 1) j = nw S j := fun j => hk 20 0 j (by omega) (by omega)
  exact ⟨⟨h.1.1.cgn hI (fun f i j q1 q2 q3 q4 => hk f i j q1 q4) (fun j _ => hn j), by rw [gI_pI, if_pos ⟨rfl, rfl, rfl⟩]; rfl, fun w => absurd w (by decide), fun _ => ⟨fun _ _ _ _ => rfl, fun _ => rfl, fun _ _ => rfl⟩, fun w => absurd w (by decide)⟩, h.2.cgn (by omega) (by omega) (fun j _ => hn j)⟩
/-- its end -/
theorem MS.back {v : Int32} (h : MS 0 S0 S A) (hI : IA A) (hF : FM (pI (kpS S 237) 3 0 0 1) S1) : MS 0 S0 (pI (pI (pbS S1 237) 3 0 0 0) 5 0 0 v) A := by
  have hk : ∀ f i j, f ≠ 5 → f ≠ 20 → f ≠ 21 → gI (pI (pI (pbS S1 237) 3 0 0 0) 5 0 0 v) f i j = gI S f i j := fun f i j q1 q2 q3 => by
    rw [gI_pI, if_neg (by omega), gI_pI]
    by_cases e : f = 3 ∧ i = 0 ∧ j = 0
    · rw [if_pos e, e.1, e.2.1, e.2.2, h.1.2.1]; rfl
    · rw [if_neg e, gI_pbS, if_neg (by omega), hF.1 f i j q2, gI_pI, if_neg e, gI_kpS, if_neg (by omega)]
  have hn : ∀ j, j < 237 → nw (pI (pI (pbS S1 237) 3 0 0 0) 5 0 0 v) j = nw S j := fun j hj => by
    show gI (pI (pI (pbS S1 237) 3 0 0 0) 5 0 0 v) 20 0 j = gI S 20 0 j
    rw [gI_pI, if_neg (by omega), gI_pI, if_neg (by omega), gI_pbS, if_pos ⟨rfl, rfl, hj⟩, hF.1 21 0 j (by omega), gI_pI, if_neg (by omega), gI_kpS, if_pos ⟨rfl, rfl, hj⟩]
  refine (h.mk9 (B := A) (fun f i j hf => hk f i j (by omega) (by omega) (by omega)) (fun i => (hF.2.1 i).trans rfl) (fun f i => (hF.2.2 f i).trans rfl) (h.1.1.cgn hI (fun f i j q1 q2 q3 q4 => hk f i j q2 q3 q4) hn) hI.1.2 hI.2.2 (fun _ _ _ => rfl) (fun j hj => hn j (by omega)) rfl rfl (fun c hc h9 => ⟨hc, h9⟩) (h.2.cgn (by omega) (by omega) hn)).z
end TRI
