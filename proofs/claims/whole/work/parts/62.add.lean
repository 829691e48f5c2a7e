/-! part 62: new stations: the call -/
section ADDS
variable {S S0 S1 Sm : St} {A B : AS} {T k c s i n f : Nat} {a a1 a2 a3 a4 v v1 v2 v3 v4 : Int32}
theorem m_bad100 {z : Int32} (hz : ¬ z ≤ 0) : wp (f_X6_addStation_J100 a1 a2 a3 a4 z) Sm (fun r q => r = -1 ∧ q = pI Sm 5 0 0 z) := by
  unfold f_X6_addStation_J100
  refine w_wrI ?_
  refine w_rdI ?_
  rw [g5s]
  exact w_n hz (w_rtn ⟨rfl, rfl⟩)
theorem add_end {code : String → Int32} {ex : List String} (hN : IN S Sm A T k) (hv1 : ∃ g, 1 ≤ g ∧ g ≤ 9 ∧ v1 = nI g) (hv2 : v2 = -1 ∨ ∃ p, p < 6 ∧ v2 = nI p) (hx : "java/lang/IllegalStateException" ∈ ex) (hcd : code "java/lang/IllegalStateException" = 2) : DC k S Sm (f_X5_addStation_J64 0 v1 v2 v3 v4) (f_X6_addStation_J63 v1 v2 v3 v4 (1 : Int32)) code ex := by
  have h8 := hN.2.2.1.1.1.2
  obtain ⟨hT, hT9⟩ := hN.2.2.2.1
  have eS : gI S 0 0 0 = nI (kS A) := (hN.1.1.1 0 (by omega)).trans hN.2.2.1.1.1.1
  have eT : gI S 2 0 0 = nI T := (hN.1.1.1 2 (by omega)).trans hT
  have mS : gI Sm 0 0 0 = nI (kS A) := hN.2.1.1.1.1.1.trans hN.2.2.1.1.1.1
  have mT : gI Sm 20 0 232 = nI T := hN.2.1.1.1.2.2.2.2.2.2.2.2.2.1.trans hT
  by_cases hk : kS A < 8 ∧ T = 0
  · obtain ⟨k8, hT0⟩ := hk
    have hM := hN.2.1.th (TH.rf (v := 0) (Sm := Sm))
    refine Or.inl ⟨aNewS A (kS A) v1 v2 v3 v4, T, nI (kS A), nI (kS A), ?_, ?_, rfl, hN.pin.newS rfl k8 hv1 hv2⟩
    · have hC0 := hN.1.newS rfl k8
      have eK : kS (sI A 0 0 (nI (kS A + 1))) = kS A + 1 := by unfold kS; rw [aI_sI, if_pos ⟨rfl, rfl⟩, nI_clamp (by have := h8; unfold kS at this; omega)]
      have hI0 : IA (sI A 0 0 (nI (kS A + 1))) := ⟨⟨by rw [eK, aI_sI, if_pos ⟨rfl, rfl⟩], by omega⟩, ⟨by rw [kC_sI (by omega), aI_sI, if_neg (by omega)]; exact hN.2.2.1.1.2.1, by rw [kC_sI (by omega)]; exact hN.2.2.1.1.2.2⟩⟩
      unfold f_X5_addStation_J64
      refine w_rfc (by omega) ?_
      refine w_rdc (by omega) ?_
      rw [eS]
      refine w_n (nI_ge (b := 8) (by omega) (by omega)) ?_
      refine w_rfc (by omega) ?_
      refine w_rdc (by omega) ?_
      rw [eT, hT0]
      refine w_t (by decide) ?_
      refine w_rfc (by omega) ?_
      refine w_t (by omega) ?_
      have h1 := hC0.st (f := 7) (s := kS A) (v := v1) (by omega)
      have h2 := h1.st (f := 8) (s := kS A) (v := v2) (by omega)
      have h3 := h2.st (f := 9) (s := kS A) (v := v3) (by omega)
      have h4 := h3.st (f := 10) (s := kS A) (v := v4) (by omega)
      rw [show 8 * 0 + kS A = kS A by omega] at h4
      refine w_ev (S1 := pI (pI (pI (pI (pI S 0 0 0 (nI (kS A + 1))) 7 (kS A) 0 v1) 8 (kS A) 0 v2) 9 (kS A) 0 v3) 10 (kS A) 0 v4) (a := nI (kS A)) (ev_of ?_) (w_rtX ⟨rfl, h4.z⟩)
      unfold f_X1_appendStation
      refine w_rdc (by omega) ?_
      refine w_rdc (by omega) ?_
      rw [eS, nI_add1]
      refine w_wrc (by omega) ?_
      refine w_t (by omega) ?_
      refine w_ev (e_findStation (by omega) hC0.1 hI0 (by omega)) ?_
      rw [show 8 * 0 + kS A = kS A by omega]
      refine w_t (by omega) (w_t (by omega) ?_)
      refine w_ev (S1 := pI (pI (pI (pI (pI S 0 0 0 (nI (kS A + 1))) 7 (kS A) 0 v1) 8 (kS A) 0 v2) 9 (kS A) 0 v3) 10 (kS A) 0 v4) (a := ()) (ev_of ?_) (w_rtn ⟨rfl, rfl⟩)
      unfold f_X3_setUp
      exact w_wrc (by omega) (w_wrc (by omega) (w_wrc (by omega) (w_wrc (by omega) (w_rtn ⟨rfl, rfl⟩))))
    · unfold f_X6_addStation_J63
      refine w_n (by decide) ?_
      refine w_rdI ?_
      rw [mS]
      refine w_n (fun w => by have := nI_inj (b := 8) (by omega) (by omega) w; omega) ?_
      refine w_mldx (j := 232) rfl (by omega) (by omega) ?_
      rw [mT, hT0]
      refine w_t (by decide) ?_
      unfold f_X6_addStation_J100
      refine w_wrI ?_
      refine w_rdI ?_
      rw [g5s]
      refine w_t (by decide) ?_
      have z0 : gI (pI Sm 5 0 0 0) 0 0 0 = nI (kS A) := by rw [g5 (by omega)]; exact mS
      have z : ∀ (S1 : St) (f j : Nat) (v : Int32), f ≠ 0 → gI S1 0 0 0 = nI (kS A) → gI (pI S1 f 0 j v) 0 0 0 = nI (kS A) := fun S1 f j v hf h => by rw [gI_pI, if_neg (fun w => hf w.1.symm)]; exact h
      refine w_rdI ?_
      rw [z0]
      refine w_mst (by omega) (by omega) ?_
      have z1 := z _ 11 (kS A) v1 (by omega) z0
      refine w_rdI ?_
      rw [z1]
      refine w_mst (by omega) (by omega) ?_
      have z2 := z _ 12 (kS A) v2 (by omega) z1
      refine w_rdI ?_
      rw [z2]
      refine w_mst (by omega) (by omega) ?_
      have z3 := z _ 13 (kS A) v3 (by omega) z2
      refine w_rdI ?_
      rw [z3]
      refine w_mst (by omega) (by omega) ?_
      have z4 := z _ 14 (kS A) v4 (by omega) z3
      refine w_rdI ?_
      rw [z4]
      refine w_mstx (j := 14 + kS A) (nI_add 14 (kS A)) (by omega) (by omega) ?_
      have z5 := z _ 20 (14 + kS A) (-1) (by omega) z4
      refine w_rdI ?_
      rw [z5, nI_add1]
      refine w_wrI ?_
      refine w_rdI ?_
      rw [gI_pI, if_pos ⟨rfl, rfl, rfl⟩]
      refine w_rtn ⟨by rw [nI_sub1 (by omega)]; rfl, (hM.newS hN.2.2.1 hN.2.2.2.2.2.1 rfl k8).z, ?_⟩
      rw [gI_pI, if_neg (by omega), gI_pI, if_neg (by omega), gI_pI, if_neg (by omega), gI_pI, if_neg (by omega), gI_pI, if_neg (by omega), gI_pI, if_neg (by omega)]
      exact g5s
  · refine Or.inr ⟨_, -1, pI Sm 5 0 0 2, ev_of ?_, ev_of ?_, hx, by rw [hcd]; exact TH.rf⟩
    · unfold f_X5_addStation_J64
      refine w_rfc (by omega) ?_
      refine w_rdc (by omega) ?_
      rw [eS]
      refine w_if (fun _ => by unfold f_X5_addStation_J86; exact w_thr ⟨rfl, rfl⟩) (fun hn => ?_)
      have k8 : kS A < 8 := Nat.lt_of_not_le (fun w => hn (nI_le (a := 8) (by omega) (by omega)))
      have hT0 : 0 < T := Nat.pos_of_ne_zero (fun w => hk ⟨k8, w⟩)
      refine w_rfc (by omega) ?_
      refine w_rdc (by omega) ?_
      rw [eT]
      refine w_n (nI_ge (a := 0) (by omega) (by omega)) ?_
      unfold f_X5_addStation_J86
      exact w_thr ⟨rfl, rfl⟩
    · unfold f_X6_addStation_J63 f_X6_addStation_J95
      refine w_n (by decide) ?_
      refine w_rdI ?_
      rw [mS]
      refine w_if (fun _ => m_bad100 (by decide)) (fun hn => ?_)
      have k8 : kS A < 8 := Nat.lt_of_le_of_ne h8 (fun w => hn (by rw [w]; rfl))
      have hT0 : 0 < T := Nat.pos_of_ne_zero (fun w => hk ⟨k8, w⟩)
      refine w_mldx (j := 232) rfl (by omega) (by omega) ?_
      rw [mT]
      exact w_n (nI_ge (a := 0) (by omega) (by omega)) (m_bad100 (by decide))
theorem ag_addStation (hi : i + 5 ≤ 2560) : agW INV i (f_X5_addStation 0 a1 a2 a3 a4) (f_X6_addStation a1 a2 a3 a4) (exCode [("java/lang/IllegalArgumentException", 1), ("java/lang/IllegalStateException", 2)]) ["java/lang/IllegalArgumentException", "java/lang/IllegalStateException"] (fun r q => r = q) := ag_chg (fun S Sm A T k hN => by
  have xth : wp f_X5_addStation_J19 S (fun a S2 => a = Sum.inr "java/lang/IllegalArgumentException" ∧ S2 = thrS S) := by unfold f_X5_addStation_J19; exact w_thr ⟨rfl, rfl⟩
  have xth4 : wp f_X5_addStation_J54 S (fun a S2 => a = Sum.inr "java/lang/IllegalArgumentException" ∧ S2 = thrS S) := by unfold f_X5_addStation_J54; exact w_thr ⟨rfl, rfl⟩
  have mth : ∀ a1 a2 a3 a4, wp (f_X6_addStation_J62 a1 a2 a3 a4) Sm (fun r q => r = -1 ∧ q = pI Sm 5 0 0 1) := fun a1 a2 a3 a4 => by
    unfold f_X6_addStation_J62 f_X6_addStation_J63
    exact w_t rfl (m_bad100 (by decide))
  rcases rng a1 1 9 (by omega) with h0 | ⟨hin, g, g1, g2, rfl⟩
  · refine Or.inr ⟨_, -1, pI Sm 5 0 0 1, ev_of ?_, ev_of ?_, List.mem_cons_self, TH.rf⟩
    · unfold f_X5_addStation
      refine w_ev (x_in0 h0 (by decide) (by decide)) ?_
      exact w_t rfl xth
    · unfold f_X6_addStation
      refine w_ev (m_in0 h0 (by decide) (by decide)) ?_
      exact w_t rfl (mth _ _ _ _)
  · by_cases hin2 : (-1 : Int) ≤ a2.toInt ∧ a2.toInt ≤ (5 : Int)
    · by_cases he : a2 = -1
      · refine DC.map (add_end (v1 := nI g) (v2 := a2) (v3 := a3) (v4 := a4) hN ⟨g, g1, g2, rfl⟩ (Or.inl he) (List.mem_cons_of_mem _ List.mem_cons_self) rfl) (fun Q hQ => ?_) (fun Q hQ => ?_)
        · unfold f_X5_addStation
          refine w_ev (x_in1 hin (by decide) (by decide)) ?_
          refine w_n (by decide) ?_
          refine w_ev (x_in1 hin2 (by decide) (by decide)) ?_
          refine w_n (by decide) ?_
          exact w_t he hQ
        · unfold f_X6_addStation f_X6_addStation_J58
          refine w_ev (m_in1 hin (by decide) (by decide)) ?_
          refine w_n (by decide) ?_
          refine w_ev (m_in1 hin2 (by decide) (by decide)) ?_
          refine w_n (by decide) ?_
          exact w_t he hQ
      · have hp : ∃ p, p < 6 ∧ a2 = nI p := by
          rcases rng a2 0 5 (by omega) with h0 | ⟨_, p, _, p2, p3⟩
          · exfalso
            have hne : a2.toInt ≠ -1 := fun w => he (by apply Int32.toInt_inj.mp; rw [w]; decide)
            exact h0 ⟨by omega, hin2.2⟩
          · exact ⟨p, by omega, p3⟩
        rcases rng a3 1 4 (by omega) with h0 | ⟨hin3, _⟩
        · refine Or.inr ⟨_, -1, pI Sm 5 0 0 1, ev_of ?_, ev_of ?_, List.mem_cons_self, TH.rf⟩
          · unfold f_X5_addStation
            refine w_ev (x_in1 hin (by decide) (by decide)) ?_
            refine w_n (by decide) ?_
            refine w_ev (x_in1 hin2 (by decide) (by decide)) ?_
            refine w_n (by decide) ?_
            refine w_n he ?_
            refine w_ev (x_in0 h0 (by decide) (by decide)) ?_
            exact w_t rfl xth4
          · unfold f_X6_addStation
            refine w_ev (m_in1 hin (by decide) (by decide)) ?_
            refine w_n (by decide) ?_
            refine w_ev (m_in1 hin2 (by decide) (by decide)) ?_
            refine w_n (by decide) ?_
            refine w_n he ?_
            refine w_ev (m_in0 h0 (by decide) (by decide)) ?_
            exact w_t rfl (mth _ _ _ _)
        · rcases rng a4 4 30 (by omega) with h0 | ⟨hin4, _⟩
          · refine Or.inr ⟨_, -1, pI Sm 5 0 0 1, ev_of ?_, ev_of ?_, List.mem_cons_self, TH.rf⟩
            · unfold f_X5_addStation
              refine w_ev (x_in1 hin (by decide) (by decide)) ?_
              refine w_n (by decide) ?_
              refine w_ev (x_in1 hin2 (by decide) (by decide)) ?_
              refine w_n (by decide) ?_
              refine w_n he ?_
              refine w_ev (x_in1 hin3 (by decide) (by decide)) ?_
              refine w_n (by decide) ?_
              refine w_ev (x_in0 h0 (by decide) (by decide)) ?_
              exact w_t rfl xth4
            · unfold f_X6_addStation
              refine w_ev (m_in1 hin (by decide) (by decide)) ?_
              refine w_n (by decide) ?_
              refine w_ev (m_in1 hin2 (by decide) (by decide)) ?_
              refine w_n (by decide) ?_
              refine w_n he ?_
              refine w_ev (m_in1 hin3 (by decide) (by decide)) ?_
              refine w_n (by decide) ?_
              refine w_ev (m_in0 h0 (by decide) (by decide)) ?_
              exact w_t rfl (mth _ _ _ _)
          · refine DC.map (add_end (v1 := nI g) (v2 := a2) (v3 := a3) (v4 := a4) hN ⟨g, g1, g2, rfl⟩ (Or.inr hp) (List.mem_cons_of_mem _ List.mem_cons_self) rfl) (fun Q hQ => ?_) (fun Q hQ => ?_)
            · unfold f_X5_addStation
              refine w_ev (x_in1 hin (by decide) (by decide)) ?_
              refine w_n (by decide) ?_
              refine w_ev (x_in1 hin2 (by decide) (by decide)) ?_
              refine w_n (by decide) ?_
              refine w_n he ?_
              refine w_ev (x_in1 hin3 (by decide) (by decide)) ?_
              refine w_n (by decide) ?_
              refine w_ev (x_in1 hin4 (by decide) (by decide)) ?_
              exact w_n (by decide) hQ
            · unfold f_X6_addStation f_X6_addStation_J58
              refine w_ev (m_in1 hin (by decide) (by decide)) ?_
              refine w_n (by decide) ?_
              refine w_ev (m_in1 hin2 (by decide) (by decide)) ?_
              refine w_n (by decide) ?_
              refine w_n he ?_
              refine w_ev (m_in1 hin3 (by decide) (by decide)) ?_
              refine w_n (by decide) ?_
              refine w_ev (m_in1 hin4 (by decide) (by decide)) ?_
              exact w_n (by decide) hQ
    · refine Or.inr ⟨_, -1, pI Sm 5 0 0 1, ev_of ?_, ev_of ?_, List.mem_cons_self, TH.rf⟩
      · unfold f_X5_addStation
        refine w_ev (x_in1 hin (by decide) (by decide)) ?_
        refine w_n (by decide) ?_
        refine w_ev (x_in0 hin2 (by decide) (by decide)) ?_
        exact w_t rfl xth
      · unfold f_X6_addStation
        refine w_ev (m_in1 hin (by decide) (by decide)) ?_
        refine w_n (by decide) ?_
        refine w_ev (m_in0 hin2 (by decide) (by decide)) ?_
        exact w_t rfl (mth _ _ _ _)) hi
end ADDS
