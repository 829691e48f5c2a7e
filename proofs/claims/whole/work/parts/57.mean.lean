/-! part 57: shares and means -/
section MEAN
variable {S S1 Sm : St} {A : AS} {T k c s i j : Nat}
theorem ag_lackShare (hi : i + 5 ≤ 2560) : agW INV i f_L_lackShare f_X6_lackShare (exCode [("java/lang/ArithmeticException", 1)]) ["java/lang/ArithmeticException"] (fun r q => vf_n64 (FP.f2d q) ∧ Op.cmpValue (FP.dcmp r (FP.f2d q)) .l = 0) := ag_ask (fun S Sm A T k hN => by
  have hL := hN.lg
  have hlen : (aT A).length ≤ 1048576 := Nat.le_trans hL.2.1 hL.2.2.2.1
  have b5 : lgn (aT A) 45 ≤ 1048576 := Nat.le_trans lgn_le hlen
  have b3 : lgn (aT A) 43 ≤ 1048576 := Nat.le_trans lgn_le hlen
  have b6 : lgn (aT A) 46 ≤ 1048576 := Nat.le_trans lgn_le hlen
  have x5 := x_total hN (g := 45) (by decide)
  have x3 := x_total hN (g := 43) (by decide)
  have x6 := x_total hN (g := 46) (by decide)
  have m5 := m_count (g := 45) hL
  have m3 := m_count (g := 43) hL
  have m6 := m_count (g := 46) hL
  generalize lgn (aT A) 45 = n5 at b5 x5 m5
  generalize lgn (aT A) 43 = n3 at b3 x3 m3
  generalize lgn (aT A) 46 = n6 at b6 x6 m6
  have mid : ∀ Q : (UInt32 ⊕ String) → St → Prop, wp (if nI (n3 + n5 + n6) = 0 then (thr "java/lang/ArithmeticException") else (if (FP.fdiv (FP.i2f (nI n5)) (FP.i2f (nI (n3 + n5 + n6)))) &&& (2147483647 : UInt32) ≤ 2139095040 then (rtX (FP.fdiv (FP.i2f (nI n5)) (FP.i2f (nI (n3 + n5 + n6))))) else fail)) S Q → wp (f_X5_lackShare 0) S Q := fun Q hQ => by
    unfold f_X5_lackShare
    refine w_rfc (by omega) ?_
    refine w_t (by omega) ?_
    refine w_ev x5 ?_
    refine w_rfc (by omega) ?_
    refine w_t (by omega) ?_
    refine w_ev x3 ?_
    refine w_rfc (by omega) ?_
    refine w_t (by omega) ?_
    refine w_ev x6 ?_
    exact w_ev (a := nI (n3 + n5 + n6)) (by rw [nI_addn, nI_addn]; rfl) hQ
  have mim : ∀ Q : UInt32 → St → Prop, wp (if nI (n3 + n5 + n6) = 0 then (f_X6_lackShare_J33 (nI n5) (nI (n3 + n5 + n6)) (1 : Int32)) else (f_X6_lackShare_J33 (nI n5) (nI (n3 + n5 + n6)) (0 : Int32))) Sm Q → wp f_X6_lackShare Sm Q := fun Q hQ => by
    unfold f_X6_lackShare
    refine w_ev m5 (w_ev m3 (w_ev m6 ?_))
    exact w_ev (a := nI (n3 + n5 + n6)) (by rw [nI_addn, nI_addn, Nat.add_comm n5 n3]; rfl) hQ
  by_cases hw : n3 + n5 + n6 = 0
  · refine Or.inr ⟨_, FP.fconst0, pI Sm 5 0 0 1, ev_of ?_, ev_of ?_, List.mem_cons_self, TH.rf⟩
    · unfold f_L_lackShare
      refine w_bxr (X := "java/lang/ArithmeticException") (S1 := thrS S) (ev_of (mid _ ?_)) ⟨rfl, rfl⟩
      exact w_t (by rw [hw]; rfl) (w_thr ⟨rfl, rfl⟩)
    · refine mim _ ?_
      refine w_t (by rw [hw]; rfl) ?_
      unfold f_X6_lackShare_J33
      refine w_wrI ?_
      exact w_t (by rw [hw]; rfl) (w_rtn ⟨rfl, rfl⟩)
  · have hz : nI (n3 + n5 + n6) ≠ 0 := nI_ne0 (by omega) (by omega)
    obtain ⟨q1, q2⟩ := fq_ok (v := n5) (w := n3 + n5 + n6) (by omega) (by omega)
    obtain ⟨q3, q4⟩ := f2d_ok q2
    refine Or.inl ⟨FP.f2d (FP.fdiv (FP.i2f (nI n5)) (FP.i2f (nI (n3 + n5 + n6)))), FP.fdiv (FP.i2f (nI n5)) (FP.i2f (nI (n3 + n5 + n6))), pI Sm 5 0 0 0, ev_of ?_, ev_of ?_, TH.rf, q3, dcmp_eq q4⟩
    · unfold f_L_lackShare
      refine w_bx (S1 := S) (a := FP.fdiv (FP.i2f (nI n5)) (FP.i2f (nI (n3 + n5 + n6)))) (ev_of (mid _ ?_)) ?_
      · exact w_n hz (w_t q1 (w_rtX ⟨rfl, rfl⟩))
      · exact w_t q3 (w_rtX ⟨rfl, rfl⟩)
    · refine mim _ ?_
      refine w_n hz ?_
      unfold f_X6_lackShare_J33
      refine w_wrI ?_
      exact w_n hz (w_t q1 (w_rtn ⟨rfl, rfl⟩))) hi
def sumI : Nat → (Nat → Int) → Int
  | 0, _ => 0
  | n + 1, f => sumI n f + f n
theorem sumI_b {f : Nat → Int} : ∀ n : Nat, (∀ k, k < n → -20000 ≤ f k ∧ f k ≤ 20000) → -20000 * (n : Int) ≤ sumI n f ∧ sumI n f ≤ 20000 * (n : Int)
  | 0, _ => ⟨by show (_ : Int) ≤ 0; omega, by show 0 ≤ (_ : Int); omega⟩
  | n + 1, h => by
    have h1 := sumI_b n (fun k hk => h k (by omega))
    have h2 := h n (by omega)
    rw [sumI]
    omega
theorem i32_64 {z : Int} (h1 : -1000000 ≤ z) (h2 : z ≤ 1000000) : (Int32.ofInt z).toInt = z ∧ (Int64.ofInt z).toInt = z := ⟨Int32.toInt_ofInt_of_le (by omega) (by omega), Int64.toInt_ofInt_of_le (by omega) (by omega)⟩
def dgo (A : AS) (k : Nat) : Int := (aI A 22 ((aG A).getD k 0)).toInt - (aI A 21 ((aG A).getD k 0)).toInt
theorem IN.lb (h : IN S Sm A T k) : LB A := h.2.2.2.2.2.2.1
theorem dgo_b (h : LB A) : -20000 ≤ dgo A j ∧ dgo A j ≤ 20000 := by
  obtain ⟨⟨t1, a1, a2⟩, ⟨t2, b1, b2⟩⟩ := h ((aG A).getD j 0)
  unfold dgo
  rw [a2, b2, nI_toInt (by omega), nI_toInt (by omega)]
  omega
theorem dgo_e (h : LB A) : aI A 22 ((aG A).getD j 0) - aI A 21 ((aG A).getD j 0) = Int32.ofInt (dgo A j) := by
  unfold dgo
  rw [Int32.ofInt_sub, Int32.ofInt_toInt, Int32.ofInt_toInt]
theorem gone_ok (h : IN S Sm A T k) (hj : j < (aG A).length) : (aG A).getD j 0 < kC A ∧ aI A 15 ((aG A).getD j 0) = 100 := by
  have e : (aG A).getD j 0 = (aG A)[j] := by simp [List.getD, hj]
  rw [e]
  have := (h.2.2.1.2.2.2.1.2.2.2 ((aG A)[j])).mp (List.getElem_mem hj)
  exact ⟨this.1, this.2.1⟩
theorem x_gone (h : IN S Sm A T k) : ∀ (m n j : Nat), j + m = (aG A).length → m < n → (f_X1_ticksOfGone_L4 n 0 (Int64.ofInt (sumI j (dgo A))) (nI j)).1 S = some (Int64.ofInt (sumI (aG A).length (dgo A)), S) := by
  have h30 := h.2.2.1.1.2.2
  have hG := h.rG
  have hG30 := hG.1
  intro m
  induction m with
  | zero =>
    intro n j hj hn
    obtain ⟨n, rfl⟩ : ∃ q, n = q + 1 := ⟨n - 1, by omega⟩
    refine ev_of ?_
    rw [f_X1_ticksOfGone_L4]
    refine w_rfc (by omega) ?_
    refine w_rdc (by omega) ?_
    rw [show 3 * 0 + 2 = 2 by omega, hG.2.1]
    exact w_t (nI_le (by omega) (by omega)) (w_rtn ⟨by rw [show j = (aG A).length by omega], rfl⟩)
  | succ m ih =>
    intro n j hj hn
    obtain ⟨n, rfl⟩ : ∃ q, n = q + 1 := ⟨n - 1, by omega⟩
    have hjl : j < (aG A).length := by omega
    obtain ⟨g1, g2⟩ := gone_ok h hjl
    have hb := dgo_b (j := j) h.lb
    refine ev_of ?_
    rw [f_X1_ticksOfGone_L4]
    refine w_rfc (by omega) ?_
    refine w_rdc (by omega) ?_
    rw [show 3 * 0 + 2 = 2 by omega, hG.2.1]
    refine w_n (nI_ge (by omega) (by omega)) ?_
    refine w_rfc (by omega) ?_
    refine w_t (by omega) ?_
    refine w_ev (e_at (by omega) hG hjl) ?_
    refine w_t (by omega) ?_
    refine w_ev (e_findCar (by omega) h.1.1 h.2.2.1.1 g1) ?_
    rw [show 30 * 0 + (aG A).getD j 0 = (aG A).getD j 0 by omega]
    refine w_t (by omega) ?_
    refine w_rdc (by omega) ?_
    refine w_rdc (by omega) ?_
    rw [h.rx.2.1 22 _ (by omega) (by omega) (by omega), h.rx.2.1 21 _ (by omega) (by omega) (by omega), dgo_e h.lb, nI_add1]
    have e : Int64.ofInt (sumI j (dgo A)) + (Int32.ofInt (dgo A j)).toInt64 = Int64.ofInt (sumI (j + 1) (dgo A)) := by
      have e1 : (Int32.ofInt (dgo A j)).toInt64 = Int64.ofInt (dgo A j) := by
        apply Int64.toInt_inj.mp
        obtain ⟨z1, z2⟩ := i32_64 (z := dgo A j) (by omega) (by omega)
        rw [Int32.toInt_toInt64, z1, z2]
      rw [e1, sumI, Int64.ofInt_add]
    rw [e]
    exact w_of (ih n (j + 1) (by omega) (by omega)) ⟨rfl, rfl⟩
theorem m_mean (h : IN S Sm A T k) {Q : UInt64 → St → Prop} (hfin : ∀ n, wp (f_X6_meanTime_L4 (n + 1) (Int32.ofInt (sumI (aG A).length (dgo A))) (nI (aG A).length)) Sm Q) : ∀ (m n j : Nat), j + m = (aG A).length → m < n → wp (f_X6_meanTime_L4 n (Int32.ofInt (sumI j (dgo A))) (nI j)) Sm Q := by
  have h30 := h.2.2.1.1.2.2
  have hG := h.G
  have hG30 := hG.1
  have e0 : gI Sm 20 0 235 = nI (aG A).length := hG.2.1
  intro m
  induction m with
  | zero =>
    intro n j hj hn
    obtain ⟨n, rfl⟩ : ∃ q, n = q + 1 := ⟨n - 1, by omega⟩
    obtain rfl : j = (aG A).length := by omega
    exact hfin n
  | succ m ih =>
    intro n j hj hn
    obtain ⟨n, rfl⟩ : ∃ q, n = q + 1 := ⟨n - 1, by omega⟩
    have hjl : j < (aG A).length := by omega
    obtain ⟨g1, g2⟩ := gone_ok h hjl
    obtain ⟨x1, x2, x3⟩ := h.mx.2.1 _ g1
    rw [f_X6_meanTime_L4]
    refine w_mldx (j := 235) rfl (by omega) (by omega) ?_
    rw [e0]
    refine w_n (nI_ge (by omega) (by omega)) ?_
    refine w_mldx (j := 202 + j) (nI_add 202 j) (by omega) (by omega) ?_
    rw [show gI Sm 20 0 (202 + j) = nI ((aG A).getD j 0) from hG.2.2 j hjl]
    refine w_mldx (j := (aG A).getD j 0) rfl (by omega) (by omega) ?_
    refine w_mldx (j := (aG A).getD j 0) rfl (by omega) (by omega) ?_
    rw [x3 g2, x2, dgo_e h.lb, nI_add1]
    refine w_ev (a := Int32.ofInt (sumI (j + 1) (dgo A))) (by rw [sumI, Int32.ofInt_add]; rfl) ?_
    exact ih n (j + 1) (by omega) (by omega)
theorem ag_meanTime (hi : i + 5 ≤ 2560) : agW INV i (f_X5_meanTime 0) f_X6_meanTime (exCode [("java/lang/ArithmeticException", 1)]) ["java/lang/ArithmeticException"] (fun r q => Op.cmpValue (FP.dcmp r q) .l = 0) := ag_ask (fun S Sm A T k hN => by
  have hG := hN.rG
  have hG30 := hG.1
  have e0 : gI Sm 20 0 235 = nI (aG A).length := hN.G.2.1
  have e1 : gI S 5 2 0 = nI (aG A).length := hG.2.1
  have st : ∀ Q : UInt64 → St → Prop, (∀ n, wp (f_X6_meanTime_L4 (n + 1) (Int32.ofInt (sumI (aG A).length (dgo A))) (nI (aG A).length)) Sm Q) → wp f_X6_meanTime Sm Q := fun Q hQ => by
    have hz := m_mean hN hQ (aG A).length 400 0 (by omega) (by omega)
    rw [show Int32.ofInt (sumI 0 (dgo A)) = (0 : Int32) from rfl, nI_00] at hz
    unfold f_X6_meanTime
    exact hz
  by_cases hw : (aG A).length = 0
  · refine Or.inr ⟨_, FP.dconst0, pI Sm 5 0 0 1, ev_of ?_, ev_of ?_, List.mem_cons_self, TH.rf⟩
    · unfold f_X5_meanTime
      refine w_rfc (by omega) ?_
      refine w_rfc (by omega) ?_
      refine w_rdc (by omega) ?_
      rw [show 3 * 0 + 2 = 2 by omega, e1]
      exact w_t (by rw [hw]; rfl) (w_thr ⟨rfl, rfl⟩)
    · refine st _ (fun n => ?_)
      rw [f_X6_meanTime_L4]
      refine w_mldx (j := 235) rfl (by omega) (by omega) ?_
      rw [e0]
      refine w_t (nI_le (by omega) (by omega)) ?_
      refine w_mldx (j := 235) rfl (by omega) (by omega) ?_
      rw [e0]
      refine w_t (by rw [hw]; rfl) ?_
      refine w_wrI ?_
      refine w_rdI ?_
      rw [g5s]
      exact w_n (by decide) (w_rtn ⟨rfl, rfl⟩)
  · obtain ⟨q1, q2⟩ := dq_ok (u := Int64.ofInt (sumI (aG A).length (dgo A))) (n := (aG A).length) (by omega) hG30
    have hb := sumI_b (f := dgo A) (aG A).length (fun j _ => dgo_b hN.lb)
    obtain ⟨z1, z2⟩ := i32_64 (z := sumI (aG A).length (dgo A)) (by omega) (by omega)
    have el : FP.i2d (Int32.ofInt (sumI (aG A).length (dgo A))) = FP.l2d (Int64.ofInt (sumI (aG A).length (dgo A))) := by
      show UInt64.ofNat (FP.Core.fromInt FP.Core.b64 _) = UInt64.ofNat (FP.Core.fromInt FP.Core.b64 _)
      rw [z1, z2]
    have hz := x_gone hN (aG A).length 400 0 (by omega) (by omega)
    rw [show Int64.ofInt (sumI 0 (dgo A)) = (0 : Int64) from rfl, nI_00] at hz
    generalize sumI (aG A).length (dgo A) = z at q1 q2 el hz st
    have hnz : nI (aG A).length ≠ 0 := nI_ne0 (by omega) (by omega)
    refine Or.inl ⟨FP.ddiv (FP.l2d (Int64.ofInt z)) (FP.i2d (nI (aG A).length)), FP.ddiv (FP.l2d (Int64.ofInt z)) (FP.i2d (nI (aG A).length)), pI Sm 5 0 0 0, ev_of ?_, ev_of ?_, TH.rf, dcmp_eq q2⟩
    · unfold f_X5_meanTime
      refine w_rfc (by omega) ?_
      refine w_rfc (by omega) ?_
      refine w_rdc (by omega) ?_
      rw [show 3 * 0 + 2 = 2 by omega, e1]
      refine w_n hnz ?_
      refine w_rfc (by omega) ?_
      refine w_t (by omega) ?_
      refine w_ev (S1 := S) (a := Int64.ofInt z) (by unfold f_X1_ticksOfGone; exact hz) ?_
      exact w_t q1 (w_rtX ⟨rfl, rfl⟩)
    · refine st _ (fun n => ?_)
      rw [f_X6_meanTime_L4]
      refine w_mldx (j := 235) rfl (by omega) (by omega) ?_
      rw [e0]
      refine w_t (nI_le (by omega) (by omega)) ?_
      refine w_mldx (j := 235) rfl (by omega) (by omega) ?_
      rw [e0]
      refine w_n hnz ?_
      refine w_wrI ?_
      refine w_rdI ?_
      rw [g5s]
      refine w_t rfl ?_
      refine w_mldx (j := 235) rfl (by omega) (by omega) ?_
      rw [g5 (by omega), e0, el]
      exact w_t q1 (w_rtn ⟨rfl, rfl⟩)) hi
end MEAN
