/-! part 74: after a trial the real line is as before -/
theorem CR.back {S S1 S0 : St} {A : AS} {k : Nat} (h : CR 0 k S0 S A) (hI : IA A) (hF : FR S S1) : CR 0 k S1 S1 A := by
  obtain ⟨hR, hX, _, hRF⟩ := h
  obtain ⟨x1, x2, x3, x4, x5⟩ := hX rfl
  obtain ⟨f1, f2⟩ := hRF rfl
  have ec : capS S1 = capS S := by unfold capS; exact sumTo_cg 30 (fun i _ => hF.2.2 0 i)
  refine ⟨hR.fr hI hF, fun _ => ⟨fun s hs => ⟨by rw [hF.1 13 s 0 (by unfold zro; omega)]; exact (x1 s hs).1, by rw [hF.2.1 s hs]; exact (x1 s hs).2⟩, fun f c q1 q2 hc => by rw [hF.1 f c 0 (by unfold zro; omega)]; exact x2 f c q1 q2 hc, fun x hx => ?_, by rw [ec, hF.2.2 3 0]; exact x4, by rw [ec, hF.2.2 7 0]; exact x5⟩, fun w => absurd w (by decide), fun _ => ⟨fun f s q1 q2 hs => by rw [hF.1 f s 0 (by unfold zro; omega)]; exact f1 f s q1 q2 hs, fun f c q1 q2 hc => by rw [hF.1 f c 0 (by unfold zro; omega)]; exact f2 f c q1 q2 hc⟩⟩
  obtain ⟨t1, t2, t3, t4, t5⟩ := x3 x hx
  have z : ∀ f j, 23 ≤ f → gI S1 f x j = gI S f x j := fun f j q => hF.1 f x j (by unfold zro; omega)
  exact ⟨by rw [z _ _ (by omega)]; exact t1, by rw [hF.2.2 0 x]; exact t2, by rw [hF.2.2 0 x]; exact t3, fun q hq => by rw [z _ _ (by omega)]; exact t4 q hq, fun j hj => by rw [z _ _ (by omega)]; exact t5 j hj⟩
