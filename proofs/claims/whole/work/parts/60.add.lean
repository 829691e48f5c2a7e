/-! part 60: faults -/
section FLT
variable {S S0 S1 Sm : St} {A B : AS} {T k c s i fl : Nat} {a a1 a2 v : Int32}
theorem JF.s19 {m : Nat} (h : JF fl A) (hm : m < 2 ^ kS A) (h0 : 0 < m) : JF fl (sI A 19 c (nI m)) := by
  have hm8 : m < 256 := pow_8 h.1.1.2 hm
  obtain ⟨j1, j2, j3, ⟨j4w, j4o, j4g⟩, j5, j6, j7, j8, j9, j10⟩ := h
  have o : ∀ f j, f ≠ 19 → aI (sI A 19 c (nI m)) f j = aI A f j := fun g j q => by rw [aI_sI, if_neg (fun w => q w.1)]
  obtain ⟨i1, eS, eC⟩ := j1.of (B := sI A 19 c (nI m)) (o 0 0 (by omega)) (o 1 0 (by omega))
  have row : ∀ l z, RO A fl l z → RO (sI A 19 c (nI m)) fl l z := fun l z hr => ⟨hr.1, fun d => by rw [hr.2 d, eC, o 15 d (by omega)]⟩
  unfold JF
  rw [eS, eC]
  refine ⟨i1, fun x hx => ?_, fun d hd hn h9 => ?_, ⟨row _ _ j4w, row _ _ j4o, row _ _ j4g⟩, fun d hd => ?_, fun x hx => (j6 x hx).cg (o _ _ (by omega)) (o _ _ (by omega)), by rw [o 2 0 (by omega), o 3 0 (by omega)]; exact j7, j8, j9, j10⟩
  · have := j2 x hx
    unfold AT1 atC at this ⊢
    rw [o 12 x (by omega), eC, o 16 _ (by omega), o 15 _ (by omega)]
    exact this
  · rw [o 15 d (by omega)] at h9
    obtain ⟨x, x1, x2, x3⟩ := j3 d hd hn h9
    exact ⟨x, x1, by rw [o 16 d (by omega)]; exact x2, by rw [o 12 x (by omega)]; exact x3⟩
  · obtain ⟨p1, p2, p3, p4, p5, p6, p7, p8⟩ := j5 d hd
    unfold CO1
    rw [eS, o 15 d (by omega), o 18 d (by omega), o 17 d (by omega), o 20 d (by omega), o 21 d (by omega)]
    refine ⟨p1, ?_, ?_, p4, p5, p6, p7, p8⟩
    · rw [aI_sI]
      split
      · exact ⟨m, hm, rfl⟩
      · exact p2
    · rw [aI_sI]
      split
      · exact fun _ => nI_ne0 h0 (by omega)
      · exact p3
theorem ag_fault (hi : i + 5 ≤ 2560) : agW INV i (f_X5_fault 0 a1 a2) (f_X6_fault a1 a2) (exCode [("java/util/NoSuchElementException", 1), ("java/lang/IllegalStateException", 2), ("java/lang/UnsupportedOperationException", 3)]) ["java/util/NoSuchElementException", "java/lang/IllegalStateException", "java/lang/UnsupportedOperationException"] (fun r q => r = q) := ag_chg (fun S Sm A T k hN => by
  have h8 := hN.2.2.1.1.1.2
  have h30 := hN.2.2.1.1.2.2
  have bad : ∀ (z : Int32), ¬ z ≤ 0 → ∀ a b, wp (f_X6_fault_J101 a b z) Sm (fun r q => r = -1 ∧ q = pI Sm 5 0 0 z) := fun z hz a b => by
    unfold f_X6_fault_J101
    refine w_wrI ?_
    refine w_rdI ?_
    rw [g5s]
    exact w_n hz (w_rtn ⟨rfl, rfl⟩)
  have bad1 : wp f_X6_fault_J16 Sm (fun r q => r = -1 ∧ q = pI Sm 5 0 0 1) := by
    unfold f_X6_fault_J16
    exact w_wrI (w_rtn ⟨rfl, rfl⟩)
  have bad2 : ∀ a b, wp (f_X6_fault_J69 a b (0 : Int32)) Sm (fun r q => r = -1 ∧ q = pI Sm 5 0 0 2) := fun a b => by
    unfold f_X6_fault_J69
    exact w_t rfl (bad 2 (by decide) _ _)
  rcases i32_cases a1 (kC A) hN.cd with h0 | ⟨c, hc, rfl⟩
  · refine Or.inr ⟨_, -1, pI Sm 5 0 0 1, ev_of ?_, ev_of ?_, List.mem_cons_self, TH.rf⟩
    · unfold f_X5_fault
      exact w_t (by omega) (w_bxr (x_reqCar0 hN.1 hN.2.2.1.1 h0) ⟨rfl, rfl⟩)
    · unfold f_X6_fault
      refine w_ev (m_isCar0 hN.2.1 hN.2.2.1.1 h0) ?_
      exact w_t rfl bad1
  · rcases i32_cases a2 (kS A) hN.sd with h0 | ⟨s, hs, rfl⟩
    · refine Or.inr ⟨_, -1, pI Sm 5 0 0 1, ev_of ?_, ev_of ?_, List.mem_cons_self, TH.rf⟩
      · unfold f_X5_fault
        refine w_t (by omega) (w_bx (x_reqCar hN.1 hN.2.2.1.1 hc) ?_)
        exact w_t (by omega) (w_bxr (x_reqSt0 hN.1 hN.2.2.1.1 h0) ⟨rfl, rfl⟩)
      · unfold f_X6_fault
        refine w_ev (m_isCar hN.2.1 hN.2.2.1.1 hc) ?_
        refine w_n (by decide) ?_
        refine w_ev (m_isSt0 hN.2.1 hN.2.2.1.1 h0) ?_
        exact w_t rfl bad1
    · have e20 : gI S 20 c 0 = aI A 20 c := hN.rx.2.1 20 c (by omega) (by omega) (by omega)
      have m20 : gI Sm 19 0 c = aI A 20 c := (hN.mx.2.1 c hc).1
      have m12 : gI Sm 20 0 (14 + s) = aI A 12 s := hN.2.1.1.1.2.2.2.2.2.1 s hs
      have m19 : gI Sm 20 0 (112 + c) = aI A 19 c := hN.2.1.1.1.2.2.2.2.2.2.2.1 c hc
      have eqv : aI A 16 c = nI s ↔ aI A 12 s = nI c := by
        constructor
        · intro w
          have h115 : aI A 15 c = 115 := (hN.2.2.2.2.2.2.2 c).resolve_right (fun q => nI_ne_neg (show s < 2147483648 by omega) (w.symm.trans q))
          obtain ⟨s0, s1, s2, s3⟩ := hN.2.2.1.2.2.1 c hc (by omega) h115
          have : s = s0 := nI_inj (by omega) (by omega) (w.symm.trans s2)
          rw [this]; exact s3
        · intro w
          rcases hN.2.2.1.2.1 s hs with e | ⟨e1, e2, e3, e4, e5⟩
          · exact absurd (w.symm.trans e) (nI_ne_neg (by omega))
          · have : atC A s = c := by unfold atC; rw [w, nI_clamp (by omega)]
            rw [this] at e3; exact e3
      have xs : ∀ Q : (Int32 ⊕ String) → St → Prop, wp (if bit (aI A 20 c) (nI s) = 0 then f_X5_fault_J37 else (if aI A 16 c = nI s then f_X5_fault_J37 else (if aI A 15 c = (100 : Int32) then f_X5_fault_J37 else (if c < 60 then bnd (f_X0_isFaulty c (nI s)) (fun v49 => if v49 = 0 then (if c < 60 then bnd (f_X0_openFault c (nI s)) (fun _ => if c < 60 then bnd (f_X0_faultCount c) (fun v71 => rtX v71) else fail) else fail) else (thr "java/lang/UnsupportedOperationException")) else fail)))) S Q → wp (f_X5_fault 0 (nI c) (nI s)) S Q := fun Q hQ => by
        unfold f_X5_fault
        refine w_t (by omega) (w_bx (x_reqCar hN.1 hN.2.2.1.1 hc) ?_)
        refine w_t (by omega) (w_bx (x_reqSt hN.1 hN.2.2.1.1 hs) ?_)
        refine w_t (by omega) ?_
        by_cases hb : bit (aI A 20 c) (nI s) = 0
        · refine w_ev (S1 := S) (a := (0 : Int32)) (ev_of ?_) ?_
          · unfold f_X0_hasEntered
            refine w_rdc (by omega) ?_
            rw [e20]
            exact w_t hb (w_rtnZ (Or.inl rfl) ⟨rfl, rfl⟩)
          · refine w_t rfl ?_
            rw [if_pos hb] at hQ
            exact hQ
        · refine w_ev (S1 := S) (a := (1 : Int32)) (ev_of ?_) ?_
          · unfold f_X0_hasEntered
            refine w_rdc (by omega) ?_
            rw [e20]
            exact w_n hb (w_rtnZ (Or.inr rfl) ⟨rfl, rfl⟩)
          · refine w_n (by decide) ?_
            rw [if_neg hb] at hQ
            refine w_rdc (by omega) ?_
            rw [hN.car hc (by omega)]
            by_cases h16 : aI A 16 c = nI s
            · rw [if_pos h16] at hQ
              exact w_t h16 hQ
            · rw [if_neg h16] at hQ
              refine w_n h16 ?_
              refine w_rdc (by omega) ?_
              rw [(hN.place hc).1]
              exact hQ
      have ms : ∀ Q : Int32 → St → Prop, wp (if bit (aI A 20 c) (nI s) = 1 then (if aI A 12 s = nI c then f_X6_fault_J69 (nI c) (nI s) 0 else (if aI A 15 c = (100 : Int32) then f_X6_fault_J69 (nI c) (nI s) 0 else f_X6_fault_J69 (nI c) (nI s) (1 : Int32))) else f_X6_fault_J69 (nI c) (nI s) 0) Sm Q → wp (f_X6_fault (nI c) (nI s)) Sm Q := fun Q hQ => by
        unfold f_X6_fault f_X6_fault_J68
        refine w_ev (m_isCar hN.2.1 hN.2.2.1.1 hc) ?_
        refine w_n (by decide) ?_
        refine w_ev (m_isSt hN.2.1 hN.2.2.1.1 hs) ?_
        refine w_n (by decide) ?_
        refine w_mldx (j := c) rfl (by omega) (by omega) ?_
        rw [m20]
        by_cases hb : bit (aI A 20 c) (nI s) = 1
        · rw [if_pos hb] at hQ
          refine w_t hb ?_
          refine w_mldx (j := 14 + s) (nI_add 14 s) (by omega) (by omega) ?_
          rw [m12]
          by_cases h12 : aI A 12 s = nI c
          · rw [if_pos h12] at hQ
            exact w_t h12 hQ
          · rw [if_neg h12] at hQ
            refine w_n h12 ?_
            refine w_mldx (j := 82 + c) (nI_add 82 c) (by omega) (by omega) ?_
            rw [(hN.place hc).2]
            exact hQ
        · rw [if_neg hb] at hQ
          exact w_n hb hQ
      by_cases hbad : bit (aI A 20 c) (nI s) = 0 ∨ aI A 16 c = nI s ∨ aI A 15 c = 100
      · refine Or.inr ⟨_, -1, pI Sm 5 0 0 2, ev_of (xs _ ?_), ev_of (ms _ ?_), List.mem_cons_of_mem _ List.mem_cons_self, TH.rf⟩
        · have th : wp f_X5_fault_J37 S (fun a S2 => a = Sum.inr "java/lang/IllegalStateException" ∧ S2 = thrS S) := by unfold f_X5_fault_J37; exact w_thr ⟨rfl, rfl⟩
          refine w_if (fun _ => th) (fun n1 => w_if (fun _ => th) (fun n2 => w_if (fun _ => th) (fun n3 => ?_)))
          exact absurd hbad (fun w => w.elim n1 (fun w => w.elim n2 n3))
        · refine w_if (fun p1 => w_if (fun _ => bad2 _ _) (fun n2 => w_if (fun _ => bad2 _ _) (fun n3 => ?_))) (fun _ => bad2 _ _)
          exact absurd hbad (fun w => w.elim (fun q => by rw [p1] at q; exact absurd q (by decide)) (fun w => w.elim (fun q => n2 (eqv.mp q)) n3))
      · have n1 : ¬ bit (aI A 20 c) (nI s) = 0 := fun w => hbad (Or.inl w)
        have n2 : ¬ aI A 16 c = nI s := fun w => hbad (Or.inr (Or.inl w))
        have n3 : ¬ aI A 15 c = 100 := fun w => hbad (Or.inr (Or.inr w))
        have p1 : bit (aI A 20 c) (nI s) = 1 := (bit_01 _ _).resolve_left n1
        have fl0 : ∀ Q : Int32 → St → Prop, Q (bit (aI A 19 c) (nI s)) S → wp (f_X0_isFaulty c (nI s)) S Q := fun Q hQ => by
          unfold f_X0_isFaulty
          refine w_rdc (by omega) ?_
          rw [hN.car hc (by omega)]
          refine w_if (fun w => ?_) (fun w => ?_)
          · rw [show bit (aI A 19 c) (nI s) = 0 from w] at hQ
            exact w_rtnZ (Or.inl rfl) hQ
          · rw [show bit (aI A 19 c) (nI s) = 1 from (bit_01 _ _).resolve_left w] at hQ
            exact w_rtnZ (Or.inr rfl) hQ
        by_cases hf : bit (aI A 19 c) (nI s) = 0
        · obtain ⟨m, hm, em⟩ := (hN.co hc).2.1
          obtain ⟨om1, om2, om3⟩ := or_mask (kS A) h8 m hm s hs
          have hM := hN.2.1.th (TH.rf (v := 0) (Sm := Sm))
          have eor : aI A 19 c ||| ((1 : Int32) <<< (nI s &&& 31)) = nI (m ||| 2 ^ s) := by rw [em]; exact om1
          have hb8 : m ||| 2 ^ s < 256 := pow_8 h8 om2
          refine Or.inl ⟨sI A 19 c (nI (m ||| 2 ^ s)), T, bcnt (nI (m ||| 2 ^ s)), mcnt (nI (m ||| 2 ^ s)) 0 8 0, xs _ ?_, ms _ ?_, bcnt_many _ hb8, hN.pin.oth (hN.2.2.1.s19 om2 om3) (Or.inr (Or.inr ⟨rfl, hc⟩))⟩
          · refine w_n n1 (w_n n2 (w_n n3 (w_t (by omega) ?_)))
            refine w_call (P := fun r S1 => r = bit (aI A 19 c) (nI s) ∧ S1 = S) (fl0 _ ⟨rfl, rfl⟩) (fun r S1 hr => ?_)
            rw [hr.1, hr.2]
            refine w_t hf (w_t (by omega) ?_)
            have hC := hN.1.car (f := 19) (c := c) (v := nI (m ||| 2 ^ s)) (by omega)
            rw [show 30 * 0 + c = c by omega] at hC
            refine w_ev (S1 := pI S 19 c 0 (nI (m ||| 2 ^ s))) (a := ()) (ev_of ?_) ?_
            · unfold f_X0_openFault
              refine w_rdc (by omega) ?_
              rw [hN.car hc (by omega), eor]
              exact w_wrc (by omega) (w_rtn ⟨rfl, rfl⟩)
            · refine w_t (by omega) ?_
              refine w_ev (S1 := pI S 19 c 0 (nI (m ||| 2 ^ s))) (a := bcnt (nI (m ||| 2 ^ s))) (ev_of ?_) ?_
              · unfold f_X0_faultCount
                refine w_rdc (by omega) ?_
                rw [gI_pI, if_pos ⟨rfl, rfl, rfl⟩]
                exact w_ev e_bcnt (w_rtn ⟨rfl, rfl⟩)
              · exact w_rtX ⟨rfl, hC.z⟩
          · refine w_t p1 (w_n (fun w => n2 (eqv.mpr w)) (w_n n3 ?_))
            unfold f_X6_fault_J69
            refine w_n (by decide) ?_
            refine w_mldx (j := 112 + c) (nI_add 112 c) (by omega) (by omega) ?_
            rw [m19]
            refine w_n (fun w => by rw [show bit (aI A 19 c) (nI s) = 1 from w] at hf; exact absurd hf (by decide)) ?_
            unfold f_X6_fault_J101
            refine w_wrI ?_
            refine w_rdI ?_
            rw [g5s]
            refine w_t (by decide) ?_
            refine w_mldx (j := 112 + c) (nI_add 112 c) (by omega) (by omega) ?_
            rw [g5 (by omega), m19, eor]
            refine w_mstx (j := 112 + c) (nI_add 112 c) (by omega) (by omega) ?_
            refine w_mldx (j := 112 + c) (nI_add 112 c) (by omega) (by omega) ?_
            rw [gI_pI, if_pos ⟨rfl, rfl, rfl⟩]
            have o : ∀ f i, f ≠ 19 → aI (sI A 19 c (nI (m ||| 2 ^ s))) f i = aI A f i := fun f i hf => by rw [aI_sI, if_neg (fun w => hf w.1)]
            refine w_ev (e_many 8 400 0 0 (by omega) (by omega)) (w_rtn ⟨rfl, ?_, by rw [gI_pI, if_neg (by omega)]; exact g5s⟩)
            exact (hM.w20 (hM.1.1.flt hN.2.2.1.1 (by omega)) (fun f hf i => o f i (by omega)) (fun c w => by rw [o 15 c (by omega)] at w; exact w) rfl rfl (MFx.fl (by omega)) (by omega) rfl).z
        · refine Or.inr ⟨_, -1, pI Sm 5 0 0 3, ev_of (xs _ ?_), ev_of (ms _ ?_), List.mem_cons_of_mem _ (List.mem_cons_of_mem _ List.mem_cons_self), TH.rf⟩
          · refine w_n n1 (w_n n2 (w_n n3 (w_t (by omega) ?_)))
            refine w_call (P := fun r S1 => r = bit (aI A 19 c) (nI s) ∧ S1 = S) (fl0 _ ⟨rfl, rfl⟩) (fun r S1 hr => ?_)
            rw [hr.1, hr.2]
            exact w_n hf (w_thr ⟨rfl, rfl⟩)
          · refine w_t p1 (w_n (fun w => n2 (eqv.mpr w)) (w_n n3 ?_))
            unfold f_X6_fault_J69
            refine w_n (by decide) ?_
            refine w_mldx (j := 112 + c) (nI_add 112 c) (by omega) (by omega) ?_
            rw [m19]
            exact w_t ((bit_01 _ _).resolve_left hf) (bad 3 (by decide) _ _)) hi
end FLT
