/-! part 53: more asking -/
section ASK3
variable {S Sm : St} {A : AS} {T k c s i j : Nat} {a a1 a2 : Int32}
theorem x_place (hx : s < 6) {l : List Nat} (h : RW S s l) (hj : j < l.length) : (f_X5_requirePlace s (nI j)).1 S = some (.inl (nI (l.getD j 0)), S) := by
  refine ev_of ?_
  unfold f_X5_requirePlace
  refine w_t hx ?_
  refine w_ev (e_has hx h hj) ?_
  refine w_n (by decide) ?_
  refine w_t hx ?_
  exact w_ev (e_at hx h hj) (w_rtX ⟨rfl, rfl⟩)
theorem x_place0 (hx : s < 6) {l : List Nat} (h : RW S s l) (hj : a < 0 ∨ nI l.length ≤ a) : (f_X5_requirePlace s a).1 S = some (.inr "java/lang/IndexOutOfBoundsException", thrS S) := by
  refine ev_of ?_
  unfold f_X5_requirePlace
  refine w_t hx ?_
  refine w_ev (e_has0 hx h hj) ?_
  exact w_t rfl (w_thr ⟨rfl, rfl⟩)
theorem m_listed {l : List Nat} {b z : Nat} (h : NR (nw Sm) b z l) (hb : b + 30 ≤ 237) (hj : j < l.length) : (f_X6_listed (nI b) (nI l.length) (nI j)).1 Sm = some (nI (l.getD j 0), pI Sm 5 0 0 0) := by
  have h30 := h.1
  refine ev_of ?_
  unfold f_X6_listed f_X6_listed_J19
  refine w_ev (in_ix h30 hj) ?_
  refine w_n (by decide) ?_
  refine w_wrI ?_
  refine w_rdI ?_
  rw [g5s]
  refine w_t rfl ?_
  refine w_mldx (j := b + j) nI_addn (by omega) (by omega) ?_
  rw [g5 (by omega)]
  exact w_rtn ⟨h.2.2 j hj, rfl⟩
theorem m_listed0 {l : List Nat} {b z : Nat} (h : NR (nw Sm) b z l) (hj : a < 0 ∨ nI l.length ≤ a) : (f_X6_listed (nI b) (nI l.length) a).1 Sm = some (-1, pI Sm 5 0 0 1) := by
  refine ev_of ?_
  unfold f_X6_listed f_X6_listed_J19
  refine w_ev (in_ix0 h.1 hj) ?_
  refine w_t rfl ?_
  refine w_wrI ?_
  refine w_rdI ?_
  rw [g5s]
  exact w_n (by decide) (w_rtn ⟨rfl, rfl⟩)
theorem IN.rW (h : IN S Sm A T k) : RW S 0 (aW A) := h.1.1.2.2.2.2.1
theorem IN.rO (h : IN S Sm A T k) : RW S 1 (aO A) := h.1.1.2.2.2.2.2.1
theorem IN.rG (h : IN S Sm A T k) : RW S 2 (aG A) := h.1.1.2.2.2.2.2.2
theorem IN.O (h : IN S Sm A T k) : NR (nw Sm) 172 234 (aO A) := h.2.1.2
theorem ag_waitingAt (hi : i + 5 ≤ 2560) : agW INV i (f_X5_waitingAt 0 a1) (f_X6_waitingAt a1) (exCode [("java/lang/IndexOutOfBoundsException", 1)]) ["java/lang/IndexOutOfBoundsException"] (fun r q => r = q) := ag_ask (fun S Sm A T k hN => by
  have h30 := hN.rW.1
  have e : gI Sm 20 0 233 = nI (aW A).length := hN.W.2.1
  rcases i32_cases a1 (aW A).length (by omega) with h0 | ⟨c, hc, rfl⟩
  · refine Or.inr ⟨_, -1, pI Sm 5 0 0 1, ev_of ?_, ev_of ?_, List.mem_cons_self, TH.rf⟩
    · unfold f_X5_waitingAt
      refine w_rfc (by omega) ?_
      refine w_rfc (by omega) ?_
      exact w_bxr (x_place0 (by omega) hN.rW h0) ⟨rfl, rfl⟩
    · unfold f_X6_waitingAt
      refine w_mldx (j := 233) rfl (by omega) (by omega) ?_
      rw [e]
      exact w_ev (m_listed0 (b := 142) hN.W h0) (w_rtn ⟨rfl, rfl⟩)
  · refine Or.inl ⟨nI ((aW A).getD c 0), nI ((aW A).getD c 0), pI Sm 5 0 0 0, ev_of ?_, ev_of ?_, TH.rf, rfl⟩
    · unfold f_X5_waitingAt
      refine w_rfc (by omega) ?_
      refine w_rfc (by omega) ?_
      exact w_bx (x_place (by omega) hN.rW hc) (w_rtX ⟨rfl, rfl⟩)
    · unfold f_X6_waitingAt
      refine w_mldx (j := 233) rfl (by omega) (by omega) ?_
      rw [e]
      exact w_ev (m_listed (b := 142) hN.W (by omega) hc) (w_rtn ⟨rfl, rfl⟩)) hi
theorem ag_loopedAt (hi : i + 5 ≤ 2560) : agW INV i (f_X5_loopedAt 0 a1) (f_X6_loopedAt a1) (exCode [("java/lang/IndexOutOfBoundsException", 1)]) ["java/lang/IndexOutOfBoundsException"] (fun r q => r = q) := ag_ask (fun S Sm A T k hN => by
  have h30 := hN.rO.1
  have e : gI Sm 20 0 234 = nI (aO A).length := hN.O.2.1
  rcases i32_cases a1 (aO A).length (by omega) with h0 | ⟨c, hc, rfl⟩
  · refine Or.inr ⟨_, -1, pI Sm 5 0 0 1, ev_of ?_, ev_of ?_, List.mem_cons_self, TH.rf⟩
    · unfold f_X5_loopedAt
      refine w_rfc (by omega) ?_
      refine w_rfc (by omega) ?_
      exact w_bxr (x_place0 (by omega) hN.rO h0) ⟨rfl, rfl⟩
    · unfold f_X6_loopedAt
      refine w_mldx (j := 234) rfl (by omega) (by omega) ?_
      rw [e]
      exact w_ev (m_listed0 (b := 172) hN.O h0) (w_rtn ⟨rfl, rfl⟩)
  · refine Or.inl ⟨nI ((aO A).getD c 0), nI ((aO A).getD c 0), pI Sm 5 0 0 0, ev_of ?_, ev_of ?_, TH.rf, rfl⟩
    · unfold f_X5_loopedAt
      refine w_rfc (by omega) ?_
      refine w_rfc (by omega) ?_
      exact w_bx (x_place (by omega) hN.rO hc) (w_rtX ⟨rfl, rfl⟩)
    · unfold f_X6_loopedAt
      refine w_mldx (j := 234) rfl (by omega) (by omega) ?_
      rw [e]
      exact w_ev (m_listed (b := 172) hN.O (by omega) hc) (w_rtn ⟨rfl, rfl⟩)) hi
theorem ag_leftAt (hi : i + 5 ≤ 2560) : agW INV i (f_X5_leftAt 0 a1) (f_X6_leftAt a1) (exCode [("java/lang/IndexOutOfBoundsException", 1)]) ["java/lang/IndexOutOfBoundsException"] (fun r q => r = q) := ag_ask (fun S Sm A T k hN => by
  have h30 := hN.rG.1
  have e : gI Sm 20 0 235 = nI (aG A).length := hN.G.2.1
  rcases i32_cases a1 (aG A).length (by omega) with h0 | ⟨c, hc, rfl⟩
  · refine Or.inr ⟨_, -1, pI Sm 5 0 0 1, ev_of ?_, ev_of ?_, List.mem_cons_self, TH.rf⟩
    · unfold f_X5_leftAt
      refine w_rfc (by omega) ?_
      refine w_rfc (by omega) ?_
      exact w_bxr (x_place0 (by omega) hN.rG h0) ⟨rfl, rfl⟩
    · unfold f_X6_leftAt
      refine w_mldx (j := 235) rfl (by omega) (by omega) ?_
      rw [e]
      exact w_ev (m_listed0 (b := 202) hN.G h0) (w_rtn ⟨rfl, rfl⟩)
  · refine Or.inl ⟨nI ((aG A).getD c 0), nI ((aG A).getD c 0), pI Sm 5 0 0 0, ev_of ?_, ev_of ?_, TH.rf, rfl⟩
    · unfold f_X5_leftAt
      refine w_rfc (by omega) ?_
      refine w_rfc (by omega) ?_
      exact w_bx (x_place (by omega) hN.rG hc) (w_rtX ⟨rfl, rfl⟩)
    · unfold f_X6_leftAt
      refine w_mldx (j := 235) rfl (by omega) (by omega) ?_
      rw [e]
      exact w_ev (m_listed (b := 202) hN.G (by omega) hc) (w_rtn ⟨rfl, rfl⟩)) hi
theorem IN.rx (h : IN S Sm A T k) : RX k S A := h.1.2.1 rfl
theorem IN.mx (h : IN S Sm A T k) : RMX Sm A := h.2.1.1.2.2.1 rfl
theorem ag_leftIn (hi : i + 5 ≤ 2560) : agW INV i (f_X5_leftIn 0 a1) (f_X6_leftIn a1) (exCode [("java/util/NoSuchElementException", 1), ("java/lang/IllegalStateException", 2)]) ["java/util/NoSuchElementException", "java/lang/IllegalStateException"] (fun r q => r = q) := ag_ask (fun S Sm A T k hN => by
  have h30 := hN.2.2.1.1.2.2
  rcases i32_cases a1 (kC A) hN.cd with h0 | ⟨c, hc, rfl⟩
  · refine Or.inr ⟨_, -1, pI Sm 5 0 0 1, ev_of ?_, ev_of ?_, List.mem_cons_self, TH.rf⟩
    · unfold f_X5_leftIn
      exact w_t (by omega) (w_bxr (x_reqCar0 hN.1 hN.2.2.1.1 h0) ⟨rfl, rfl⟩)
    · unfold f_X6_leftIn f_X6_leftIn_J32
      refine w_ev (m_isCar0 hN.2.1 hN.2.2.1.1 h0) ?_
      refine w_t rfl ?_
      refine w_wrI ?_
      refine w_rdI ?_
      rw [g5s]
      exact w_n (by decide) (w_rtn ⟨rfl, rfl⟩)
  · by_cases hp : aI A 15 c = 100
    · refine Or.inl ⟨aI A 22 c, aI A 22 c, pI Sm 5 0 0 0, ev_of ?_, ev_of ?_, TH.rf, rfl⟩
      · unfold f_X5_leftIn
        refine w_t (by omega) (w_bx (x_reqCar hN.1 hN.2.2.1.1 hc) ?_)
        refine w_rdc (by omega) ?_
        rw [(hN.place hc).1]
        refine w_t hp ?_
        refine w_rdc (by omega) ?_
        rw [hN.rx.2.1 22 c (by omega) (by omega) (by omega)]
        exact w_rtX ⟨rfl, rfl⟩
      · unfold f_X6_leftIn f_X6_leftIn_J32
        refine w_ev (m_isCar hN.2.1 hN.2.2.1.1 hc) ?_
        refine w_n (by decide) ?_
        refine w_mldx (j := 82 + c) (nI_add 82 c) (by omega) (by omega) ?_
        rw [(hN.place hc).2]
        refine w_t hp ?_
        refine w_wrI ?_
        refine w_rdI ?_
        rw [g5s]
        refine w_t rfl ?_
        refine w_mldx (j := c) rfl (by omega) (by omega) ?_
        rw [g5 (by omega)]
        exact w_rtn ⟨(hN.mx.2.1 c hc).2.2 hp, rfl⟩
    · refine Or.inr ⟨_, -1, pI Sm 5 0 0 2, ev_of ?_, ev_of ?_, List.mem_cons_of_mem _ List.mem_cons_self, TH.rf⟩
      · unfold f_X5_leftIn
        refine w_t (by omega) (w_bx (x_reqCar hN.1 hN.2.2.1.1 hc) ?_)
        refine w_rdc (by omega) ?_
        rw [(hN.place hc).1]
        exact w_n hp (w_thr ⟨rfl, rfl⟩)
      · unfold f_X6_leftIn f_X6_leftIn_J32
        refine w_ev (m_isCar hN.2.1 hN.2.2.1.1 hc) ?_
        refine w_n (by decide) ?_
        refine w_mldx (j := 82 + c) (nI_add 82 c) (by omega) (by omega) ?_
        rw [(hN.place hc).2]
        refine w_n hp ?_
        refine w_wrI ?_
        refine w_rdI ?_
        rw [g5s]
        exact w_n (by decide) (w_rtn ⟨rfl, rfl⟩)) hi
def bcnt (a0 : Int32) : Int32 := (fun w9 : Int32 => (fun w23 : Int32 => (fun w33 : Int32 => (fun w40 : Int32 => (fun w47 : Int32 => w47 &&& (63 : Int32)) (w40 + (w40.toUInt32 >>> ((16 : Int32).toUInt32 &&& Int32.toUInt32 31)).toInt32)) (w33 + (w33.toUInt32 >>> ((8 : Int32).toUInt32 &&& Int32.toUInt32 31)).toInt32)) ((w23 + (w23.toUInt32 >>> ((4 : Int32).toUInt32 &&& Int32.toUInt32 31)).toInt32) &&& (252645135 : Int32))) ((w9 &&& (858993459 : Int32)) + ((w9.toUInt32 >>> ((2 : Int32).toUInt32 &&& Int32.toUInt32 31)).toInt32 &&& (858993459 : Int32)))) (a0 - ((a0.toUInt32 >>> ((1 : Int32).toUInt32 &&& Int32.toUInt32 31)).toInt32 &&& (1431655765 : Int32)))
theorem e_bcnt : (f_J6_bitCount_0f7a4 a).1 S = some (bcnt a, S) := rfl
def mcnt (a : Int32) : Nat → Nat → Int32 → Int32
  | _, 0, u => u
  | j, m + 1, u => mcnt a (j + 1) m (u + bit a (nI j))
theorem e_many : ∀ (m n j : Nat) (u : Int32), j + m = 8 → m < n → (f_X6_many_L4 n a u (nI j)).1 S = some (mcnt a j m u, S) := by
  intro m
  induction m with
  | zero =>
    intro n j u hj hn
    obtain ⟨n, rfl⟩ : ∃ q, n = q + 1 := ⟨n - 1, by omega⟩
    obtain rfl : j = 8 := by omega
    rw [f_X6_many_L4]
    exact ev_of (w_t (by decide) (w_rtn ⟨rfl, rfl⟩))
  | succ m ih =>
    intro n j u hj hn
    obtain ⟨n, rfl⟩ : ∃ q, n = q + 1 := ⟨n - 1, by omega⟩
    refine ev_of ?_
    rw [f_X6_many_L4]
    refine w_n (nI_8 j (by omega)).1 ?_
    rw [(nI_8 j (by omega)).2.1]
    exact w_ev (a := u + bit a (nI j)) rfl (w_of (ih n (j + 1) _ (by omega) (by omega)) ⟨rfl, rfl⟩)
theorem bcnt_many : ∀ m, m < 256 → bcnt (nI m) = mcnt (nI m) 0 8 0 := by decide +kernel
theorem pow_8 {n m : Nat} (hn : n ≤ 8) (hm : m < 2 ^ n) : m < 256 := Nat.lt_of_lt_of_le hm (Nat.pow_le_pow_right (by omega) hn)
theorem ag_faults (hi : i + 5 ≤ 2560) : agW INV i (f_X5_faults 0 a1) (f_X6_faults a1) (exCode [("java/util/NoSuchElementException", 1)]) ["java/util/NoSuchElementException"] (fun r q => r = q) := ag_ask (fun S Sm A T k hN => by
  have h30 := hN.2.2.1.1.2.2
  have h8 := hN.2.2.1.1.1.2
  rcases i32_cases a1 (kC A) hN.cd with h0 | ⟨c, hc, rfl⟩
  · refine Or.inr ⟨_, -1, pI Sm 5 0 0 1, ev_of ?_, ev_of ?_, List.mem_cons_self, TH.rf⟩
    · unfold f_X5_faults
      exact w_t (by omega) (w_bxr (x_reqCar0 hN.1 hN.2.2.1.1 h0) ⟨rfl, rfl⟩)
    · unfold f_X6_faults
      refine w_ev (m_asked0 hN.2.1 hN.2.2.1.1 h0) ?_
      exact w_t rfl (w_rtn ⟨rfl, rfl⟩)
  · obtain ⟨m, hm, em⟩ := (hN.co hc).2.1
    refine Or.inl ⟨bcnt (aI A 19 c), mcnt (aI A 19 c) 0 8 0, pI Sm 5 0 0 0, ev_of ?_, ev_of ?_, TH.rf, by rw [em]; exact bcnt_many m (pow_8 h8 hm)⟩
    · unfold f_X5_faults f_X0_faultCount
      refine w_t (by omega) (w_bx (x_reqCar hN.1 hN.2.2.1.1 hc) ?_)
      refine w_t (by omega) ?_
      refine w_ev (S1 := S) (a := bcnt (aI A 19 c)) (ev_of ?_) (w_rtX ⟨rfl, rfl⟩)
      refine w_rdc (by omega) ?_
      rw [hN.car hc (by omega)]
      exact w_ev e_bcnt (w_rtn ⟨rfl, rfl⟩)
    · unfold f_X6_faults
      refine w_ev (m_asked hN.2.1 hN.2.2.1.1 hc) ?_
      refine w_n (by decide) ?_
      refine w_mldx (j := 112 + c) (nI_add 112 c) (by omega) (by omega) ?_
      rw [g5 (by omega), show gI Sm 20 0 (112 + c) = aI A 19 c from hN.2.1.1.1.2.2.2.2.2.2.2.1 c hc]
      refine w_ev (e_many 8 400 0 0 (by omega) (by omega)) (w_rtn ⟨rfl, rfl⟩)) hi
theorem ag_hasFault (hi : i + 5 ≤ 2560) : agW INV i (f_X5_hasFault 0 a1 a2) (f_X6_hasFault a1 a2) (exCode [("java/util/NoSuchElementException", 1)]) ["java/util/NoSuchElementException"] (fun r q => r = q) := ag_ask (fun S Sm A T k hN => by
  have h30 := hN.2.2.1.1.2.2
  have h8 := hN.2.2.1.1.1.2
  have bad : ∀ S1 : St, S1 = Sm → ∀ a b, wp (f_X6_hasFault_J22 a b (1 : Int32)) S1 (fun r q => r = 0 ∧ q = pI Sm 5 0 0 1) := fun S1 e a b => by
    subst e
    unfold f_X6_hasFault_J22
    refine w_wrI ?_
    refine w_rdI ?_
    rw [g5s]
    exact w_n (by decide) (w_rtnZ (Or.inl rfl) ⟨rfl, rfl⟩)
  rcases i32_cases a1 (kC A) hN.cd with h0 | ⟨c, hc, rfl⟩
  · refine Or.inr ⟨_, 0, pI Sm 5 0 0 1, ev_of ?_, ev_of ?_, List.mem_cons_self, TH.rf⟩
    · unfold f_X5_hasFault
      exact w_t (by omega) (w_bxr (x_reqCar0 hN.1 hN.2.2.1.1 h0) ⟨rfl, rfl⟩)
    · unfold f_X6_hasFault f_X6_hasFault_J21
      refine w_ev (m_isCar0 hN.2.1 hN.2.2.1.1 h0) ?_
      exact w_t rfl (bad _ rfl _ _)
  · rcases i32_cases a2 (kS A) hN.sd with h0 | ⟨s, hs, rfl⟩
    · refine Or.inr ⟨_, 0, pI Sm 5 0 0 1, ev_of ?_, ev_of ?_, List.mem_cons_self, TH.rf⟩
      · unfold f_X5_hasFault
        refine w_t (by omega) (w_bx (x_reqCar hN.1 hN.2.2.1.1 hc) ?_)
        exact w_t (by omega) (w_bxr (x_reqSt0 hN.1 hN.2.2.1.1 h0) ⟨rfl, rfl⟩)
      · unfold f_X6_hasFault f_X6_hasFault_J21
        refine w_ev (m_isCar hN.2.1 hN.2.2.1.1 hc) ?_
        refine w_n (by decide) ?_
        refine w_ev (m_isSt0 hN.2.1 hN.2.2.1.1 h0) ?_
        exact w_t rfl (bad _ rfl _ _)
    · refine Or.inl ⟨bit (aI A 19 c) (nI s), bit (aI A 19 c) (nI s), pI Sm 5 0 0 0, ev_of ?_, ev_of ?_, TH.rf, rfl⟩
      · unfold f_X5_hasFault f_X0_isFaulty
        refine w_t (by omega) (w_bx (x_reqCar hN.1 hN.2.2.1.1 hc) ?_)
        refine w_t (by omega) (w_bx (x_reqSt hN.1 hN.2.2.1.1 hs) ?_)
        refine w_t (by omega) ?_
        refine w_ev (S1 := S) (a := bit (aI A 19 c) (nI s)) (ev_of ?_) (w_rtZX (bit_01 _ _) ⟨rfl, rfl⟩)
        refine w_rdc (by omega) ?_
        rw [hN.car hc (by omega)]
        exact w_if (fun w => w_rtnZ (Or.inl rfl) ⟨w.symm, rfl⟩) (fun w => w_rtnZ (Or.inr rfl) ⟨((bit_01 _ _).resolve_left w).symm, rfl⟩)
      · unfold f_X6_hasFault f_X6_hasFault_J22
        refine w_ev (m_isCar hN.2.1 hN.2.2.1.1 hc) ?_
        refine w_n (by decide) ?_
        refine w_ev (m_isSt hN.2.1 hN.2.2.1.1 hs) ?_
        refine w_n (by decide) ?_
        refine w_wrI ?_
        refine w_rdI ?_
        rw [g5s]
        refine w_t rfl ?_
        refine w_mldx (j := 112 + c) (nI_add 112 c) (by omega) (by omega) ?_
        rw [g5 (by omega), show gI Sm 20 0 (112 + c) = aI A 19 c from hN.2.1.1.1.2.2.2.2.2.2.2.1 c hc]
        exact w_if (fun w => w_rtnZ (Or.inr rfl) ⟨w.symm, rfl⟩) (fun w => w_rtnZ (Or.inl rfl) ⟨((bit_01 _ _).resolve_right w).symm, rfl⟩)) hi
theorem ag_lacks (hi : i + 5 ≤ 2560) : agW INV i (f_X5_lacks 0 a1) (f_X6_lacks a1) (exCode [("java/util/NoSuchElementException", 1)]) ["java/util/NoSuchElementException"] (fun r q => r = q) := ag_ask (fun S Sm A T k hN => by
  have h8 := hN.2.2.1.1.1.2
  rcases i32_cases a1 (kS A) hN.sd with h0 | ⟨s, hs, rfl⟩
  · refine Or.inr ⟨_, -1, pI Sm 5 0 0 1, ev_of ?_, ev_of ?_, List.mem_cons_self, TH.rf⟩
    · unfold f_X5_lacks
      exact w_t (by omega) (w_bxr (x_reqSt0 hN.1 hN.2.2.1.1 h0) ⟨rfl, rfl⟩)
    · unfold f_X6_lacks f_X6_lacks_J14
      refine w_ev (m_isSt0 hN.2.1 hN.2.2.1.1 h0) ?_
      refine w_t rfl ?_
      refine w_wrI ?_
      refine w_rdI ?_
      rw [g5s]
      exact w_n (by decide) (w_rtn ⟨rfl, rfl⟩)
  · refine Or.inl ⟨aI A 13 s, aI A 13 s, pI Sm 5 0 0 0, ev_of ?_, ev_of ?_, TH.rf, rfl⟩
    · unfold f_X5_lacks
      refine w_t (by omega) (w_bx (x_reqSt hN.1 hN.2.2.1.1 hs) ?_)
      refine w_rdc (by omega) ?_
      rw [(hN.rx.1 s (by omega)).1]
      exact w_rtX ⟨rfl, rfl⟩
    · unfold f_X6_lacks f_X6_lacks_J14
      refine w_ev (m_isSt hN.2.1 hN.2.2.1.1 hs) ?_
      refine w_n (by decide) ?_
      refine w_wrI ?_
      refine w_rdI ?_
      rw [g5s]
      refine w_t rfl ?_
      refine w_mldx (j := s) rfl (by omega) (by omega) ?_
      rw [g5 (by omega)]
      exact w_rtn ⟨hN.mx.1 s hs, rfl⟩) hi
theorem ag_onShelf (hi : i + 5 ≤ 2560) : agW INV i (f_X5_onShelf 0 a1) (f_X6_onShelf a1) (exCode [("java/util/NoSuchElementException", 1)]) ["java/util/NoSuchElementException"] (fun r q => r = q) := ag_ask (fun S Sm A T k hN => by
  have h8 := hN.2.2.1.1.1.2
  rcases i32_cases a1 (kS A) hN.sd with h0 | ⟨s, hs, rfl⟩
  · refine Or.inr ⟨_, -1, pI Sm 5 0 0 1, ev_of ?_, ev_of ?_, List.mem_cons_self, TH.rf⟩
    · unfold f_X5_onShelf
      exact w_t (by omega) (w_bxr (x_reqSt0 hN.1 hN.2.2.1.1 h0) ⟨rfl, rfl⟩)
    · unfold f_X6_onShelf f_X6_onShelf_J14
      refine w_ev (m_isSt0 hN.2.1 hN.2.2.1.1 h0) ?_
      refine w_t rfl ?_
      refine w_wrI ?_
      refine w_rdI ?_
      rw [g5s]
      exact w_n (by decide) (w_rtn ⟨rfl, rfl⟩)
  · refine Or.inl ⟨aI A 11 s, aI A 11 s, pI Sm 5 0 0 0, ev_of ?_, ev_of ?_, TH.rf, rfl⟩
    · unfold f_X5_onShelf
      refine w_t (by omega) (w_bx (x_reqSt hN.1 hN.2.2.1.1 hs) ?_)
      refine w_rdc (by omega) ?_
      rw [hN.st hs (by omega)]
      exact w_rtX ⟨rfl, rfl⟩
    · unfold f_X6_onShelf f_X6_onShelf_J14
      refine w_ev (m_isSt hN.2.1 hN.2.2.1.1 hs) ?_
      refine w_n (by decide) ?_
      refine w_wrI ?_
      refine w_rdI ?_
      rw [g5s]
      refine w_t rfl ?_
      refine w_mldx (j := 6 + s) (nI_add 6 s) (by omega) (by omega) ?_
      rw [g5 (by omega)]
      exact w_rtn ⟨hN.2.1.1.1.2.2.2.2.1 s hs, rfl⟩) hi
theorem ag_inStore (hi : i + 5 ≤ 2560) : agW INV i (f_X5_inStore 0 a1) (f_X6_inStore a1) (exCode [("java/util/NoSuchElementException", 1)]) ["java/util/NoSuchElementException"] (fun r q => r = q) := ag_ask (fun S Sm A T k hN => by
  rcases i32_cases a1 6 (by omega) with h0 | ⟨s, hs, rfl⟩
  · refine Or.inr ⟨_, -1, pI Sm 5 0 0 1, ev_of ?_, ev_of ?_, List.mem_cons_self, TH.rf⟩
    · unfold f_X5_inStore
      exact w_bxr (x_reqPart0 h0) ⟨rfl, rfl⟩
    · unfold f_X6_inStore f_X6_inStore_J13
      refine w_ev (m_isPart0 h0) ?_
      refine w_t rfl ?_
      refine w_wrI ?_
      refine w_rdI ?_
      rw [g5s]
      exact w_n (by decide) (w_rtn ⟨rfl, rfl⟩)
  · refine Or.inl ⟨aI A 4 s, aI A 4 s, pI Sm 5 0 0 0, ev_of ?_, ev_of ?_, TH.rf, rfl⟩
    · unfold f_X5_inStore f_X1_unitsOf
      refine w_bx (x_reqPart hs) ?_
      refine w_rfc (by omega) ?_
      refine w_t (by omega) ?_
      refine w_ev (S1 := S) (a := aI A 4 s) (ev_of ?_) (w_rtX ⟨rfl, rfl⟩)
      refine w_n (nI_pos (by omega)) ?_
      refine w_rfc (by omega) ?_
      refine w_rdk (by omega) ?_
      refine w_n (nI_ge (by omega) (by omega)) ?_
      refine w_rfc (by omega) ?_
      refine w_ald (by omega) hs (by omega) ?_
      exact w_rtn ⟨hN.1.1.2.1 s hs, rfl⟩
    · unfold f_X6_inStore f_X6_inStore_J13
      refine w_ev (m_isPart hs) ?_
      refine w_n (by decide) ?_
      refine w_wrI ?_
      refine w_rdI ?_
      rw [g5s]
      refine w_t rfl ?_
      refine w_mldx (j := s) rfl (by omega) (by omega) ?_
      rw [g5 (by omega)]
      exact w_rtn ⟨hN.2.1.1.1.2.2.2.1 s hs, rfl⟩) hi
/-- how many of a part the first stations lack -/
def lkf (A : AS) (a : Int32) : Nat → Nat → Int32 → Int32
  | _, 0, u => u
  | s, m + 1, u => lkf A a (s + 1) m (if aI A 8 s = a then u + aI A 13 s else u)
theorem x_lacksOf (h : IN S Sm A T k) : ∀ (m n s : Nat) (u : Int32), s + m = 8 → m < n → (f_X5_lacksOf_L8 n 0 a u (nI s)).1 S = some (.inl (lkf A a s (kS A - s) u), S) := by
  have h8 := h.2.2.1.1.1.2
  intro m
  induction m with
  | zero =>
    intro n s u hs hn
    obtain ⟨n, rfl⟩ : ∃ q, n = q + 1 := ⟨n - 1, by omega⟩
    obtain rfl : s = 8 := by omega
    rw [f_X5_lacksOf_L8, show kS A - 8 = 0 by omega]
    exact ev_of (w_t (by decide) (w_rtX ⟨rfl, rfl⟩))
  | succ m ih =>
    intro n s u hs hn
    obtain ⟨n, rfl⟩ : ∃ q, n = q + 1 := ⟨n - 1, by omega⟩
    refine ev_of ?_
    rw [f_X5_lacksOf_L8]
    refine w_n (nI_8 s (by omega)).1 ?_
    refine w_rfc (by omega) ?_
    refine w_t (by omega) ?_
    rw [(nI_8 s (by omega)).2.1]
    by_cases hk : s < kS A
    · refine w_ev (e_findStation (by omega) h.1.1 h.2.2.1.1 hk) ?_
      rw [show 8 * 0 + s = s by omega]
      refine w_t (by omega) ?_
      refine w_rdc (by omega) ?_
      rw [h.st hk (by omega), show kS A - s = (kS A - (s + 1)) + 1 by omega, lkf]
      refine w_if (fun w => ?_) (fun w => ?_)
      · refine w_rdc (by omega) ?_
        rw [(h.rx.1 s (by omega)).1, if_pos w]
        exact w_ev (a := u + aI A 13 s) rfl (w_of (ih n (s + 1) _ (by omega) (by omega)) ⟨rfl, rfl⟩)
      · rw [if_neg w]
        exact w_of (ih n (s + 1) _ (by omega) (by omega)) ⟨rfl, rfl⟩
    · refine w_ev (e_findStation0 (by omega) h.1.1 h.2.2.1.1 (Or.inr (nI_le (by omega) (by omega)))) ?_
      refine w_n (by omega) ?_
      have e : lkf A a s (kS A - s) u = lkf A a (s + 1) (kS A - (s + 1)) u := by rw [show kS A - s = 0 by omega, show kS A - (s + 1) = 0 by omega]; rfl
      rw [e]
      exact w_of (ih n (s + 1) _ (by omega) (by omega)) ⟨rfl, rfl⟩
theorem m_lacksOf (h : IN S Sm A T k) : ∀ (m n s : Nat) (u : Int32), s + m = kS A → m < n → (f_X6_lacksOf_L31 n a u (nI s)).1 (pI Sm 5 0 0 0) = some (lkf A a s m u, pI Sm 5 0 0 0) := by
  have h8 := h.2.2.1.1.1.2
  have e0 : gI (pI Sm 5 0 0 0) 0 0 0 = nI (kS A) := by rw [g5 (by omega)]; exact h.2.1.1.1.1.1.trans h.2.2.1.1.1.1
  intro m
  induction m with
  | zero =>
    intro n s u hs hn
    obtain ⟨n, rfl⟩ : ∃ q, n = q + 1 := ⟨n - 1, by omega⟩
    refine ev_of ?_
    rw [f_X6_lacksOf_L31]
    refine w_rdI ?_
    rw [e0]
    exact w_t (nI_le (by omega) (by omega)) (w_rtn ⟨rfl, rfl⟩)
  | succ m ih =>
    intro n s u hs hn
    obtain ⟨n, rfl⟩ : ∃ q, n = q + 1 := ⟨n - 1, by omega⟩
    refine ev_of ?_
    rw [f_X6_lacksOf_L31]
    refine w_rdI ?_
    rw [e0]
    refine w_n (nI_ge (by omega) (by omega)) ?_
    refine w_rdI ?_
    rw [g5s]
    refine w_t rfl ?_
    refine w_mldx (j := s) rfl (by omega) (by omega) ?_
    rw [g5 (by omega), (h.2.1.1.1.2.1 s (by omega)).2.1, (nI_8 s (by omega)).2.1, lkf]
    refine w_if (fun w => ?_) (fun w => ?_)
    · refine w_mldx (j := s) rfl (by omega) (by omega) ?_
      rw [g5 (by omega), h.mx.1 s (by omega), if_pos w]
      exact w_ev (a := u + aI A 13 s) rfl (w_of (ih n (s + 1) _ (by omega) (by omega)) ⟨rfl, rfl⟩)
    · rw [if_neg w]
      exact w_ev (a := u) (by show some (u + 0, _) = _; rw [Int32.add_zero]) (w_of (ih n (s + 1) _ (by omega) (by omega)) ⟨rfl, rfl⟩)
theorem ag_lacksOf (hi : i + 5 ≤ 2560) : agW INV i (f_X5_lacksOf 0 a1) (f_X6_lacksOf a1) (exCode [("java/util/NoSuchElementException", 1)]) ["java/util/NoSuchElementException"] (fun r q => r = q) := ag_ask (fun S Sm A T k hN => by
  have h8 := hN.2.2.1.1.1.2
  rcases i32_cases a1 6 (by omega) with h0 | ⟨s, hs, rfl⟩
  · refine Or.inr ⟨_, -1, pI Sm 5 0 0 1, ev_of ?_, ev_of ?_, List.mem_cons_self, TH.rf⟩
    · unfold f_X5_lacksOf
      exact w_bxr (x_reqPart0 h0) ⟨rfl, rfl⟩
    · unfold f_X6_lacksOf f_X6_lacksOf_J13
      refine w_ev (m_isPart0 h0) ?_
      refine w_t rfl ?_
      refine w_wrI ?_
      refine w_rdI ?_
      rw [g5s]
      refine w_n (by decide) ?_
      rw [f_X6_lacksOf_L31]
      refine w_rdI ?_
      refine w_if (fun _ => w_rtn ⟨rfl, rfl⟩) (fun _ => ?_)
      refine w_rdI ?_
      rw [g5s]
      exact w_n (by decide) (w_rtn ⟨rfl, rfl⟩)
  · refine Or.inl ⟨lkf A (nI s) 0 (kS A) 0, lkf A (nI s) 0 (kS A) 0, pI Sm 5 0 0 0, ev_of ?_, ev_of ?_, TH.rf, rfl⟩
    · unfold f_X5_lacksOf
      refine w_bx (x_reqPart hs) ?_
      exact w_of (x_lacksOf hN 8 400 0 0 (by omega) (by omega)) ⟨rfl, rfl⟩
    · unfold f_X6_lacksOf f_X6_lacksOf_J13
      refine w_ev (m_isPart hs) ?_
      refine w_n (by decide) ?_
      refine w_wrI ?_
      refine w_rdI ?_
      rw [g5s]
      refine w_t rfl ?_
      exact w_of (m_lacksOf hN (kS A) 400 0 0 (by omega) (by omega)) ⟨rfl, rfl⟩) hi
end ASK3
