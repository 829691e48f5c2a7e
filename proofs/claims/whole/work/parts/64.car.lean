/-! part 64: new cars: the call -/
section ADDC
variable {S S0 S1 Sm : St} {A B : AS} {T k c s i n f : Nat} {a a1 v : Int32}
theorem ag_addCar (hi : i + 5 ≤ 2560) : agW INV i (f_X5_addCar 0 a1) (f_X6_addCar a1) (exCode [("java/lang/IllegalArgumentException", 1), ("java/lang/IllegalStateException", 2)]) ["java/lang/IllegalArgumentException", "java/lang/IllegalStateException"] (fun r q => r = q) := ag_chg (fun S Sm A T k hN => by
  have h8 := hN.2.2.1.1.1.2
  have h30 := hN.2.2.1.1.2.2
  have bad : ∀ (z : Int32), ¬ z ≤ 0 → ∀ a, wp (f_X6_addCar_J38 a z) Sm (fun r q => r = -1 ∧ q = pI Sm 5 0 0 z) := fun z hz a => by
    unfold f_X6_addCar_J38
    refine w_wrI ?_
    refine w_rdI ?_
    rw [g5s]
    exact w_n hz (w_rtn ⟨rfl, rfl⟩)
  have eS : gI S 0 0 0 = nI (kS A) := (hN.1.1.1 0 (by omega)).trans hN.2.2.1.1.1.1
  have eC : gI S 1 0 0 = nI (kC A) := (hN.1.1.1 1 (by omega)).trans hN.2.2.1.1.2.1
  have mS : gI Sm 0 0 0 = nI (kS A) := hN.2.1.1.1.1.1.trans hN.2.2.1.1.1.1
  have mC : gI Sm 2 0 0 = nI (kC A) := hN.2.1.1.1.h2.trans hN.2.2.1.1.2.1
  rcases rng a1 0 63 (by omega) with h0 | ⟨hin, _⟩
  · refine Or.inr ⟨_, -1, pI Sm 5 0 0 1, ev_of ?_, ev_of ?_, List.mem_cons_self, TH.rf⟩
    · unfold f_X5_addCar
      refine w_ev (x_in0 h0 (by decide) (by decide)) ?_
      exact w_t rfl (w_thr ⟨rfl, rfl⟩)
    · unfold f_X6_addCar
      refine w_ev (m_in0 h0 (by decide) (by decide)) ?_
      exact w_t rfl (bad 1 (by decide) _)
  · by_cases hk : kC A < 30 ∧ kS A ≠ 0
    · obtain ⟨k30, kS0⟩ := hk
      have hM := hN.2.1.th (TH.rf (v := 0) (Sm := Sm))
      have hl : (aW A).length < 30 := Nat.lt_of_le_of_lt (nodup_le (kC A) (aW A) hN.2.2.1.2.2.2.1.1.1 (fun c hc => ((hN.2.2.1.2.2.2.1.1.2 c).mp hc).1)) k30
      refine Or.inl ⟨aNewC A (kC A) a1, T, nI (kC A), nI (kC A), ?_, ?_, rfl, hN.pin.newC rfl k30 kS0⟩
      · have hC0 := hN.1.newC rfl k30
        have eK : kC (sI A 1 0 (nI (kC A + 1))) = kC A + 1 := by unfold kC; rw [aI_sI, if_pos ⟨rfl, rfl⟩, nI_clamp (by have := h30; unfold kC at this; omega)]
        have hI0 : IA (sI A 1 0 (nI (kC A + 1))) := ⟨⟨by rw [kS_sI (by omega), aI_sI, if_neg (by omega)]; exact hN.2.2.1.1.1.1, by rw [kS_sI (by omega)]; exact h8⟩, ⟨by rw [eK, aI_sI, if_pos ⟨rfl, rfl⟩], by omega⟩⟩
        unfold f_X5_addCar
        refine w_ev (x_in1 hin (by decide) (by decide)) ?_
        refine w_n (by decide) ?_
        refine w_rfc (by omega) ?_
        refine w_rdc (by omega) ?_
        rw [eC]
        refine w_n (nI_ge (b := 30) (by omega) (by omega)) ?_
        refine w_rfc (by omega) ?_
        refine w_rdc (by omega) ?_
        rw [eS]
        refine w_n (nI_ne0 (by omega) (by omega)) ?_
        refine w_rfc (by omega) ?_
        refine w_t (by omega) ?_
        have h1 := hC0.car (f := 14) (c := kC A) (v := a1) (by omega)
        rw [show 30 * 0 + kC A = kC A by omega] at h1
        have h2 := h1.appW (c := kC A) hl
        refine w_ev (S1 := stA (pI (pI S 1 0 0 (nI (kC A + 1))) 14 (kC A) 0 a1) 0 (aW A).length (nI (kC A))) (a := nI (kC A)) (ev_of ?_) (w_rtX ⟨rfl, h2.z⟩)
        unfold f_X1_appendCar
        refine w_rdc (by omega) ?_
        refine w_rdc (by omega) ?_
        rw [eC, nI_add1]
        refine w_wrc (by omega) ?_
        refine w_t (by omega) ?_
        refine w_ev (e_findCar (by omega) hC0.1 hI0 (by omega)) ?_
        rw [show 30 * 0 + kC A = kC A by omega]
        refine w_t (by omega) ?_
        refine w_wrc (by omega) ?_
        unfold f_X1_appendCar_J30
        refine w_rfc (by omega) ?_
        refine w_t (by omega) ?_
        exact w_ev (e_append (by omega) h1.1.2.2.2.2.1 hl) (w_rtn ⟨rfl, rfl⟩)
      · have mW : gI Sm 20 0 233 = nI (aW A).length := hN.W.2.1
        unfold f_X6_addCar
        refine w_ev (m_in1 hin (by decide) (by decide)) ?_
        refine w_n (by decide) ?_
        refine w_rdI ?_
        rw [mC]
        refine w_n (fun w => by have := nI_inj (b := 30) (by omega) (by omega) w; omega) ?_
        refine w_rdI ?_
        rw [mS]
        refine w_n (nI_ne0 (by omega) (by omega)) ?_
        unfold f_X6_addCar_J38
        refine w_wrI ?_
        refine w_rdI ?_
        rw [g5s]
        refine w_t (by decide) ?_
        have z0 : gI (pI Sm 5 0 0 0) 2 0 0 = nI (kC A) := by rw [g5 (by omega)]; exact mC
        have z : ∀ (S1 : St) (f j : Nat) (v : Int32), f ≠ 2 → gI S1 2 0 0 = nI (kC A) → gI (pI S1 f 0 j v) 2 0 0 = nI (kC A) := fun S1 f j v hf h => by rw [gI_pI, if_neg (fun w => hf w.1.symm)]; exact h
        have w0 : gI (pI Sm 5 0 0 0) 20 0 233 = nI (aW A).length := by rw [g5 (by omega)]; exact mW
        have w : ∀ (S1 : St) (f j : Nat) (v : Int32), (f ≠ 20 ∨ j ≠ 233) → gI S1 20 0 233 = nI (aW A).length → gI (pI S1 f 0 j v) 20 0 233 = nI (aW A).length := fun S1 f j v hf h => by rw [gI_pI, if_neg (by omega)]; exact h
        refine w_rdI ?_
        rw [z0]
        refine w_mst (by omega) (by omega) ?_
        have z1 := z _ 16 (kC A) a1 (by omega) z0
        have w1 := w _ 16 (kC A) a1 (by omega) w0
        refine w_rdI ?_
        rw [z1]
        refine w_mstx (j := 82 + kC A) (nI_add 82 (kC A)) (by omega) (by omega) ?_
        have z2 := z _ 20 (82 + kC A) 119 (by omega) z1
        have w2 := w _ 20 (82 + kC A) 119 (by omega) w1
        refine w_mldx (j := 233) rfl (by omega) (by omega) ?_
        rw [w2]
        refine w_rdI ?_
        rw [z2]
        refine w_mstx (j := 142 + (aW A).length) (nI_add 142 (aW A).length) (by omega) (by omega) ?_
        have z3 := z _ 20 (142 + (aW A).length) (nI (kC A)) (by omega) z2
        have w3 := w _ 20 (142 + (aW A).length) (nI (kC A)) (by omega) w2
        refine w_mldx (j := 233) rfl (by omega) (by omega) ?_
        rw [w3, nI_add1]
        refine w_mstx (j := 233) rfl (by omega) (by omega) ?_
        have z4 := z _ 20 233 (nI ((aW A).length + 1)) (by omega) z3
        refine w_rdI ?_
        rw [z4, nI_add1]
        refine w_wrI ?_
        refine w_rdI ?_
        rw [gI_pI, if_pos ⟨rfl, rfl, rfl⟩]
        refine w_rtn ⟨by rw [nI_sub1 (by omega)]; rfl, (hM.newC hN.2.2.1 hN.2.2.2.2.2.1 rfl k30 hl).z, ?_⟩
        rw [gI_pI, if_neg (by omega), gI_pI, if_neg (by omega), gI_pI, if_neg (by omega), gI_pI, if_neg (by omega), gI_pI, if_neg (by omega)]
        exact g5s
    · refine Or.inr ⟨_, -1, pI Sm 5 0 0 2, ev_of ?_, ev_of ?_, List.mem_cons_of_mem _ List.mem_cons_self, TH.rf⟩
      · unfold f_X5_addCar f_X5_addCar_J42
        refine w_ev (x_in1 hin (by decide) (by decide)) ?_
        refine w_n (by decide) ?_
        refine w_rfc (by omega) ?_
        refine w_rdc (by omega) ?_
        rw [eC]
        refine w_if (fun _ => w_thr ⟨rfl, rfl⟩) (fun hn => ?_)
        have k30 : kC A < 30 := Nat.lt_of_not_le (fun w => hn (nI_le (a := 30) (by omega) (by omega)))
        have kS0 : kS A = 0 := Classical.byContradiction (fun w => hk ⟨k30, w⟩)
        refine w_rfc (by omega) ?_
        refine w_rdc (by omega) ?_
        rw [eS, kS0]
        exact w_t rfl (w_thr ⟨rfl, rfl⟩)
      · unfold f_X6_addCar f_X6_addCar_J33
        refine w_ev (m_in1 hin (by decide) (by decide)) ?_
        refine w_n (by decide) ?_
        refine w_rdI ?_
        rw [mC]
        refine w_if (fun _ => bad 2 (by decide) _) (fun hn => ?_)
        have k30 : kC A < 30 := Nat.lt_of_le_of_ne h30 (fun w => hn (by rw [w]; rfl))
        have kS0 : kS A = 0 := Classical.byContradiction (fun w => hk ⟨k30, w⟩)
        refine w_rdI ?_
        rw [mS, kS0]
        exact w_t rfl (bad 2 (by decide) _)) hi
end ADDC
