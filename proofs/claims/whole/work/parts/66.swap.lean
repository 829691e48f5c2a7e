/-! part 66: the call swap -/
section SWAPC
variable {S S0 S1 Sm : St} {A B : AS} {T k c d s i n f p q x : Nat} {a a1 a2 v : Int32} {l : List Nat}
theorem ag_swap (hi : i + 5 ≤ 2560) : agW INV i (f_X5_swap 0 a1 a2) (f_X6_swap a1 a2) (exCode [("java/util/NoSuchElementException", 1), ("java/lang/IllegalArgumentException", 2), ("java/lang/IllegalStateException", 3)]) ["java/util/NoSuchElementException", "java/lang/IllegalArgumentException", "java/lang/IllegalStateException"] (fun r q => r = q) := ag_chg (fun S Sm A T k hN => by
  have h30 := hN.2.2.1.1.2.2
  have b43 : ∀ z, wp (f_X6_swap_J43 z) Sm (fun r q => r = -1 ∧ q = pI Sm 5 0 0 z) := fun z => by
    unfold f_X6_swap_J43
    exact w_wrI (w_rtn ⟨rfl, rfl⟩)
  have b81 : ∀ a b, wp (f_X6_swap_J82 a b (3 : Int32)) Sm (fun r q => r = -1 ∧ q = pI Sm 5 0 0 3) := fun a b => by
    unfold f_X6_swap_J82
    refine w_wrI ?_
    refine w_rdI ?_
    rw [g5s]
    exact w_n (by decide) (w_rtn ⟨rfl, rfl⟩)
  rcases i32_cases a1 (kC A) hN.cd with h0 | ⟨c, hc, rfl⟩
  · refine Or.inr ⟨_, -1, pI Sm 5 0 0 1, ev_of ?_, ev_of ?_, List.mem_cons_self, TH.rf⟩
    · unfold f_X5_swap
      exact w_t (by omega) (w_bxr (x_reqCar0 hN.1 hN.2.2.1.1 h0) ⟨rfl, rfl⟩)
    · unfold f_X6_swap
      refine w_ev (m_isCar0 hN.2.1 hN.2.2.1.1 h0) ?_
      refine w_t rfl ?_
      unfold f_X6_swap_J21 f_X6_swap_J38
      refine w_ev (m_isCar0 hN.2.1 hN.2.2.1.1 h0) ?_
      exact w_t rfl (b43 1)
  · rcases i32_cases a2 (kC A) hN.cd with h0 | ⟨d, hd, rfl⟩
    · refine Or.inr ⟨_, -1, pI Sm 5 0 0 1, ev_of ?_, ev_of ?_, List.mem_cons_self, TH.rf⟩
      · unfold f_X5_swap
        refine w_t (by omega) (w_bx (x_reqCar hN.1 hN.2.2.1.1 hc) ?_)
        exact w_t (by omega) (w_bxr (x_reqCar0 hN.1 hN.2.2.1.1 h0) ⟨rfl, rfl⟩)
      · unfold f_X6_swap
        refine w_ev (m_isCar hN.2.1 hN.2.2.1.1 hc) ?_
        refine w_n (by decide) ?_
        refine w_ev (m_isCar0 hN.2.1 hN.2.2.1.1 h0) ?_
        refine w_t rfl ?_
        unfold f_X6_swap_J21 f_X6_swap_J38
        refine w_ev (m_isCar hN.2.1 hN.2.2.1.1 hc) ?_
        refine w_n (by decide) ?_
        refine w_ev (m_isCar0 hN.2.1 hN.2.2.1.1 h0) ?_
        exact w_t rfl (b43 1)
    · by_cases he : nI c = nI d
      · refine Or.inr ⟨_, -1, pI Sm 5 0 0 2, ev_of ?_, ev_of ?_, List.mem_cons_of_mem _ List.mem_cons_self, TH.rf⟩
        · unfold f_X5_swap
          refine w_t (by omega) (w_bx (x_reqCar hN.1 hN.2.2.1.1 hc) ?_)
          refine w_t (by omega) (w_bx (x_reqCar hN.1 hN.2.2.1.1 hd) ?_)
          exact w_t he (w_thr ⟨rfl, rfl⟩)
        · unfold f_X6_swap
          refine w_ev (m_isCar hN.2.1 hN.2.2.1.1 hc) ?_
          refine w_n (by decide) ?_
          refine w_ev (m_isCar hN.2.1 hN.2.2.1.1 hd) ?_
          refine w_n (by decide) ?_
          refine w_t he ?_
          unfold f_X6_swap_J21
          refine w_ev (m_isCar hN.2.1 hN.2.2.1.1 hc) ?_
          refine w_n (by decide) ?_
          refine w_ev (m_isCar hN.2.1 hN.2.2.1.1 hd) ?_
          exact w_n (by decide) (b43 2)
      · have xs : ∀ Q : (Int32 ⊕ String) → St → Prop, wp (if aI A 15 c = (119 : Int32) then (if aI A 15 d = (119 : Int32) then bnd (f_X2_placeOf 0 (nI d)) (fun v65 => bnd (f_X2_placeOf 0 (nI c)) (fun v85 => bnd (f_X2_exchange 0 v85 v65) (fun _ => rtX v65))) else f_X5_swap_J47) else f_X5_swap_J47) S Q → wp (f_X5_swap 0 (nI c) (nI d)) S Q := fun Q hQ => by
          unfold f_X5_swap
          refine w_t (by omega) (w_bx (x_reqCar hN.1 hN.2.2.1.1 hc) ?_)
          refine w_t (by omega) (w_bx (x_reqCar hN.1 hN.2.2.1.1 hd) ?_)
          refine w_n he ?_
          refine w_rdc (by omega) ?_
          rw [(hN.place hc).1]
          by_cases h1 : aI A 15 c = 119
          · rw [if_pos h1] at hQ
            refine w_t h1 ?_
            refine w_rdc (by omega) ?_
            rw [(hN.place hd).1]
            by_cases h2 : aI A 15 d = 119
            · rw [if_pos h2] at hQ
              refine w_t h2 ?_
              refine w_rfc (by omega) ?_
              refine w_rfc (by omega) ?_
              refine w_t (by omega) ?_
              obtain ⟨E, e1, e2⟩ := hQ
              have e1 : ((f_X2_placeOf 0 (nI d)).1 S).bind (fun E => (bnd (f_X2_placeOf 0 (nI c)) (fun v85 => bnd (f_X2_exchange 0 v85 E.1) (fun _ => rtX E.1))).1 E.2) = some E := e1
              cases hF : (f_X2_placeOf 0 (nI d)).1 S with
              | none => rw [hF] at e1; cases e1
              | some F =>
                rw [hF] at e1
                refine w_ev (S1 := F.2) (a := F.1) hF ?_
                refine w_rfc (by omega) ?_
                refine w_rfc (by omega) ?_
                refine w_rfc (by omega) ?_
                refine w_rfc (by omega) ?_
                refine w_t (by omega) ?_
                have e1 : ((f_X2_placeOf 0 (nI c)).1 F.2).bind (fun E => (bnd (f_X2_exchange 0 E.1 F.1) (fun _ => rtX F.1)).1 E.2) = some E := e1
                cases hG : (f_X2_placeOf 0 (nI c)).1 F.2 with
                | none => rw [hG] at e1; cases e1
                | some G =>
                  rw [hG] at e1
                  refine w_ev (S1 := G.2) (a := G.1) hG ?_
                  exact w_t (by omega) ⟨E, e1, e2⟩
            · rw [if_neg h2] at hQ
              exact w_n h2 hQ
          · rw [if_neg h1] at hQ
            exact w_n h1 hQ
        have ms : ∀ Q : Int32 → St → Prop, wp (if aI A 15 c = (119 : Int32) then (if aI A 15 d = (119 : Int32) then f_X6_swap_J82 (nI c) (nI d) 0 else f_X6_swap_J82 (nI c) (nI d) 3) else f_X6_swap_J82 (nI c) (nI d) (3 : Int32)) Sm Q → wp (f_X6_swap (nI c) (nI d)) Sm Q := fun Q hQ => by
          unfold f_X6_swap f_X6_swap_J81
          refine w_ev (m_isCar hN.2.1 hN.2.2.1.1 hc) ?_
          refine w_n (by decide) ?_
          refine w_ev (m_isCar hN.2.1 hN.2.2.1.1 hd) ?_
          refine w_n (by decide) ?_
          refine w_n he ?_
          refine w_mldx (j := 82 + c) (nI_add 82 c) (by omega) (by omega) ?_
          rw [(hN.place hc).2]
          by_cases h1 : aI A 15 c = 119
          · rw [if_pos h1] at hQ
            refine w_t h1 ?_
            refine w_mldx (j := 82 + d) (nI_add 82 d) (by omega) (by omega) ?_
            rw [(hN.place hd).2]
            exact hQ
          · rw [if_neg h1] at hQ
            exact w_n h1 hQ
        by_cases hw : aI A 15 c = 119 ∧ aI A 15 d = 119
        · obtain ⟨w1, w2⟩ := hw
          have hO := hN.2.2.1.2.2.2.1.1
          obtain ⟨p, p1, p2, p3⟩ := idx_ex (aW A) c ((hO.2 c).mpr ⟨hc, w1, by omega⟩)
          obtain ⟨q, q1, q2, q3⟩ := idx_ex (aW A) d ((hO.2 d).mpr ⟨hd, w2, by omega⟩)
          have hb : ∀ j, j < (aW A).length → (aW A).getD j 0 < 2097152 := fun j hj => by
            have e : (aW A).getD j 0 = (aW A)[j] := by simp [List.getD, hj]
            rw [e]
            have := ((hO.2 _).mp (List.getElem_mem hj)).1
            omega
          have hl := hN.rW.1
          have xc := e_place (x := 0) (by omega) hN.rW p1 p2 (by omega) hb p3 p 400 0 (by omega) (by omega)
          have xd := e_place (x := 0) (by omega) hN.rW q1 q2 (by omega) hb q3 q 400 0 (by omega) (by omega)
          have hM := hN.2.1.th (TH.rf (v := 0) (Sm := Sm))
          have hW9 : NR (nw (pI Sm 5 0 0 0)) 142 233 (aW A) := by rw [nw_o (by omega)]; exact hN.W
          have mc := m_place hW9 p1 p2 (by omega) hb p3 p 400 0 (by omega) (by omega)
          have md := m_place hW9 q1 q2 (by omega) hb q3 q 400 0 (by omega) (by omega)
          rw [nI_00] at xc xd mc md
          refine Or.inl ⟨sW A (swp (aW A) p q), T, nI q, nI q, xs _ ?_, ms _ ?_, rfl, hN.pin.swap p1 q1⟩
          · refine w_t w1 (w_t w2 ?_)
            refine w_ev (S1 := S) (a := nI q) (by unfold f_X2_placeOf; exact xd) ?_
            refine w_ev (S1 := S) (a := nI p) (by unfold f_X2_placeOf; exact xc) ?_
            refine w_ev (S1 := pI (pI S 6 0 p (nI ((aW A).getD q 0))) 6 0 q (nI ((aW A).getD p 0))) (a := ()) (ev_of ?_) (w_rtX ⟨rfl, (hN.1.swap p1 q1).z⟩)
            unfold f_X2_exchange
            refine w_t (by omega) ?_
            refine w_ev (e_has (by omega) hN.rW p1) ?_
            refine w_n (by decide) ?_
            refine w_t (by omega) ?_
            refine w_ev (e_has (by omega) hN.rW q1) ?_
            refine w_n (by decide) ?_
            refine w_rfc (by omega) ?_
            refine w_ald (by omega) (by omega) (by omega) ?_
            rw [hN.rW.2.2 p p1]
            refine w_rfc (by omega) ?_
            refine w_rfc (by omega) ?_
            refine w_ald (by omega) (by omega) (by omega) ?_
            rw [hN.rW.2.2 q q1]
            refine w_ast (by omega) (by omega) (by omega) ?_
            refine w_rfc (by omega) ?_
            refine w_ast (by omega) (by omega) (by omega) ?_
            exact w_rtn ⟨rfl, rfl⟩
          · refine w_t w1 (w_t w2 ?_)
            unfold f_X6_swap_J82
            refine w_wrI ?_
            refine w_rdI ?_
            rw [g5s]
            refine w_t (by decide) ?_
            refine w_ev (S1 := pI Sm 5 0 0 0) (a := nI p) (by unfold f_X6_waitsAt; exact mc) ?_
            refine w_ev (S1 := pI Sm 5 0 0 0) (a := nI q) (by unfold f_X6_waitsAt; exact md) ?_
            refine w_mstx (j := 142 + p) (nI_add 142 p) (by omega) (by omega) ?_
            refine w_mstx (j := 142 + q) (nI_add 142 q) (by omega) (by omega) ?_
            have hS := (hM.swap hN.2.2.1.1 p1 q1).z (S1 := Sm)
            rw [p2, q2] at hS
            refine w_rtn ⟨rfl, hS, ?_⟩
            rw [gI_pI, if_neg (by omega), gI_pI, if_neg (by omega)]
            exact g5s
        · refine Or.inr ⟨_, -1, pI Sm 5 0 0 3, ev_of (xs _ ?_), ev_of (ms _ ?_), List.mem_cons_of_mem _ (List.mem_cons_of_mem _ List.mem_cons_self), TH.rf⟩
          · have th : wp f_X5_swap_J47 S (fun a S2 => a = Sum.inr "java/lang/IllegalStateException" ∧ S2 = thrS S) := by unfold f_X5_swap_J47; exact w_thr ⟨rfl, rfl⟩
            refine w_if (fun h1 => w_if (fun h2 => absurd ⟨h1, h2⟩ hw) (fun _ => th)) (fun _ => th)
          · refine w_if (fun h1 => w_if (fun h2 => absurd ⟨h1, h2⟩ hw) (fun _ => b81 _ _)) (fun _ => b81 _ _)) hi
end SWAPC
