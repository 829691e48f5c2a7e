/-! part 75: trials: when a car leaves, tick by tick -/
/-- what a trial keeps -/
def TP (A : AS) (T : Nat) : Prop := JA A ∧ aI A 2 0 = nI T ∧ ∀ c, c < kC A → (trc A c).length ≤ 3 * T
/-- the first of the next m ticks, counted from j, after which the car is gone -/
def gIn : AS → Nat → Nat → Nat → Option Nat
  | _, _, 0, _ => none
  | A, c, m + 1, j => if aI (aTick A) 15 c = 100 then some j else gIn (aTick A) c m (j + 1)
/-- how a trial of the class ends -/
def trX (o : Option Nat) (X : String) (S : St) (x : Int32 ⊕ String) (S1 : St) : Prop :=
  (∃ j, o = some j ∧ x = .inl (nI j) ∧ FR S S1) ∨ (o = none ∧ x = .inr X ∧ ∃ S2, FR S S2 ∧ S1 = thrS S2)
/-- how a trial of the reference ends -/
def trM (o : Option Nat) (z : Int32) (A : AS) (x : Int32) (Sm1 : St) : Prop :=
  (∃ S0, MS 0 S0 Sm1 A) ∧ ((∃ j, o = some j ∧ x = nI j ∧ gI Sm1 5 0 0 = 0) ∨ (o = none ∧ gI Sm1 5 0 0 = z))
section TRY
variable {S S0 S1 Sm : St} {A A0 B : AS} {T k c i t g : Nat} {a a1 : Int32}
theorem ag_try {i : Nat} {f : PM (Int32 ⊕ String)} {g : PM Int32} {code : String → Int32} {ex : List String}
    (h : ∀ S Sm A T k, IN S Sm A T k → (∃ (o : Option Nat) (X : String) (z : Int32), wp f S (trX o X S) ∧ wp g Sm (trM o z A) ∧ X ∈ ex ∧ z = code X) ∨ (∃ (X : String) (b : Int32) (Sm1 : St), f.1 S = some (.inr X, thrS S) ∧ g.1 Sm = some (b, Sm1) ∧ X ∈ ex ∧ TH (code X) Sm Sm1)) (hi : i + 5 ≤ 2560) : agW INV i f g code ex (fun r q => r = q) := by
  refine ag_mk (fun S Sm A T k hN => ?_) hi
  rcases h S Sm A T k hN with ⟨o, X, z, ⟨E, e1, e2⟩, ⟨F, f1, ⟨S0, f2⟩, f3⟩, e5, e6⟩ | ⟨X, b, Sm1, e1, e2, e3, e4⟩
  · rcases e2 with ⟨j, o1, x1, x2⟩ | ⟨o1, x1, S2, x2, x3⟩
    · rcases f3 with ⟨j2, o2, y1, y2⟩ | ⟨o2, y1⟩
      · rw [o1] at o2
        cases o2
        exact ⟨E, F, A, T, e1, f1, Or.inl ⟨_, x1, y2, y1.symm, hN.1.back hN.2.2.1.1 x2, f2.z, hN.pin⟩⟩
      · rw [o1] at o2
        cases o2
    · rcases f3 with ⟨j2, o2, y1, y2⟩ | ⟨o2, y1⟩
      · rw [o1] at o2
        cases o2
      · refine ⟨E, F, A, T, e1, f1, Or.inr ⟨X, x1, e5, by rw [y1, e6], ?_⟩⟩
        rw [x3]
        exact ⟨(hN.1.back hN.2.2.1.1 x2).thr, f2.z, hN.pin⟩
  · exact ⟨_, _, A, T, e1, e2, Or.inr ⟨X, rfl, e3, e4.2.2.2, hN.thr e4⟩⟩
theorem IN.tp (h : IN S Sm A T k) : TP A T := ⟨h.2.2.1, h.2.2.2.1.1, h.2.2.2.2.1⟩
theorem TP.tick (h : TP A T) (hT : T < 20000) : TP (aTick A) (T + 1) ∧ kS (aTick A) = kS A ∧ kC (aTick A) = kC A := by
  obtain ⟨q1, q2, q3, q4⟩ := J_tick (B := 3 * T) h.1 h.2.1 hT h.2.2
  exact ⟨⟨q1, q2, fun c hc => by have := q3 c hc; omega⟩, by unfold kS; rw [q4 0 (by omega) (by omega)], by unfold kC; rw [q4 1 (by omega) (by omega)]⟩
theorem e_hasGone (ht : t < 2) (h : RC t S A) (hI : IA A) (hc : c < kC A) : (f_X1_hasGone t (nI c)).1 S = some (if aI A 15 c = 100 then 1 else 0, S) := by
  have h30 : kC A ≤ 30 := hI.2.2
  refine ev_of ?_
  unfold f_X1_hasGone
  refine w_t ht ?_
  refine w_ev (e_findCar ht h hI hc) ?_
  refine w_t (by omega) ?_
  refine w_rdc (by omega) ?_
  rw [h.2.2.2.1 15 c (by omega) (by omega) hc]
  exact w_if (fun q => w_rtnZ (Or.inr rfl) ⟨by rw [if_pos q], rfl⟩) (fun q => w_rtnZ (Or.inl rfl) ⟨by rw [if_neg q], rfl⟩)
theorem x_byL : ∀ (m n j : Nat) (A : AS) (T : Nat) (S1 : St), CR 1 k S S1 A → TP A T → T + m ≤ 10299 → j + m = 301 → m < n → c < kC A → wp (f_X5_leavesByTicks_L18 n 0 (nI c) (nI j)) S1 (trX (gIn A c m j) "java/lang/UnsupportedOperationException" S) := by
  intro m
  induction m with
  | zero =>
    intro n j A T S1 hC hP hT hj hn hc
    obtain ⟨n, rfl⟩ : ∃ q, n = q + 1 := ⟨n - 1, by omega⟩
    rw [f_X5_leavesByTicks_L18]
    obtain rfl : j = 301 := by omega
    refine w_t (by decide) ?_
    exact w_thr (Or.inr ⟨rfl, rfl, S1, hC.2.2.1 rfl, rfl⟩)
  | succ m ih =>
    intro n j A T S1 hC hP hT hj hn hc
    obtain ⟨n, rfl⟩ : ∃ q, n = q + 1 := ⟨n - 1, by omega⟩
    obtain ⟨t1, t2, t3⟩ := hP.tick (by omega)
    rw [f_X5_leavesByTicks_L18, gIn]
    refine w_n (Int32.not_lt.mpr (show nI j ≤ nI 300 from nI_le (by omega) (by omega))) ?_
    refine w_rfc (by omega) ?_
    refine w_t (by omega) ?_
    refine w_call (w_passTick (by omega) hC hP.1 hP.2.1 (by omega) hP.2.2 (by omega)) (fun _ S2 h2 => ?_)
    refine w_rfc (by omega) ?_
    refine w_t (by omega) ?_
    refine w_ev (e_hasGone (by omega) h2.1 t1.1.1 (by rw [t3]; exact hc)) ?_
    by_cases hg : aI (aTick A) 15 c = 100
    · rw [if_pos hg, if_pos hg]
      exact w_n (by decide) (w_rtX (Or.inl ⟨j, rfl, rfl, h2.2.2.1 rfl⟩))
    · rw [if_neg hg, if_neg hg]
      refine w_t rfl ?_
      rw [nI_add1]
      exact ih n (j + 1) _ (T + 1) S2 h2 t1 (by omega) (by omega) (by omega) (by rw [t3]; exact hc)
theorem MS.place (hM : MS 1 S0 S1 A) (hc : c < kC A) : gI S1 20 0 (82 + c) = aI A 15 c := hM.1.1.2.2.2.2.2.2.1 c hc
theorem m_inEnd {j : Nat} (h0 : MS 0 S0 Sm A0) (hI0 : IA A0) (hM : MS 1 (pI (kpS Sm 237) 3 0 0 1) S1 A) (hc : c < kC A) (h30 : kC A ≤ 30) : wp (bnd (mld 20 237 ((82 : Int32) + nI c)) (fun v89 => if v89 = (100 : Int32) then (bnd (f_X6_putsBack ) (fun _ => bnd (wrI 5 0 0 (0 : Int32)) (fun _ => rtn (nI j)))) else (bnd (f_X6_putsBack ) (fun _ => bnd (wrI 5 0 0 (3 : Int32)) (fun _ => rtn (-1 : Int32)))))) S1 (trM (if aI A 15 c = 100 then some j else none) 3 A0) := by
  have hF : FM (pI (kpS Sm 237) 3 0 0 1) S1 := hM.1.2.2.2.1 rfl
  refine w_mldx (j := 82 + c) (nI_add 82 c) (by omega) (by omega) ?_
  rw [hM.place hc]
  refine w_if (fun q => ?_) (fun q => ?_)
  · rw [if_pos q]
    refine w_ev e_puts ?_
    refine w_wrI ?_
    exact w_rtn ⟨⟨S0, h0.back hI0 hF⟩, Or.inl ⟨j, rfl, rfl, g5s⟩⟩
  · rw [if_neg q]
    refine w_ev e_puts ?_
    refine w_wrI ?_
    exact w_rtn ⟨⟨S0, h0.back hI0 hF⟩, Or.inr ⟨rfl, g5s⟩⟩
theorem m_inL (h0 : MS 0 S0 Sm A0) (hI0 : IA A0) : ∀ (m n j : Nat) (A : AS) (T : Nat) (S1 : St), MS 1 (pI (kpS Sm 237) 3 0 0 1) S1 A → TP A T → T + m ≤ 10299 → j + m = 300 → m < n → c < kC A → wp (f_X6_leavesIn_L50 n (nI c) (nI j)) S1 (trM (if aI A 15 c = 100 then some j else gIn A c m (j + 1)) 3 A0) := by
  intro m
  induction m with
  | zero =>
    intro n j A T S1 hM hP hT hj hn hc
    obtain ⟨n, rfl⟩ : ∃ q, n = q + 1 := ⟨n - 1, by omega⟩
    obtain rfl : j = 300 := by omega
    rw [f_X6_leavesIn_L50, gIn]
    refine w_t (by decide) ?_
    exact m_inEnd h0 hI0 hM hc hP.1.1.2.2
  | succ m ih =>
    intro n j A T S1 hM hP hT hj hn hc
    obtain ⟨n, rfl⟩ : ∃ q, n = q + 1 := ⟨n - 1, by omega⟩
    have h30 := hP.1.1.2.2
    obtain ⟨t1, t2, t3⟩ := hP.tick (by omega)
    rw [f_X6_leavesIn_L50]
    refine w_n (nI_ge (a := j) (b := 300) (by omega) (by omega)) ?_
    refine w_mldx (j := 82 + c) (nI_add 82 c) (by omega) (by omega) ?_
    rw [hM.place hc]
    by_cases hg : aI A 15 c = 100
    · refine w_t hg ?_
      have h9 := m_inEnd (j := j) h0 hI0 hM hc h30
      rw [if_pos hg] at h9 ⊢
      exact h9
    · refine w_n hg ?_
      rw [if_neg hg, gIn]
      refine w_call (w_ticks (B := 3 * T) (by omega) hM hP.1 hP.2.1 (by omega) hP.2.2 (by omega)) (fun _ S2 h2 => ?_)
      rw [nI_add1]
      exact ih n (j + 1) _ (T + 1) S2 h2 t1 (by omega) (by omega) (by omega) (by rw [t3]; exact hc)
theorem m_lIn0 (hN : IN S Sm A T k) (h0 : a < 0 ∨ nI (kC A) ≤ a) : (f_X6_leavesIn a).1 Sm = some (-1, pI Sm 5 0 0 1) := by
  refine ev_of ?_
  unfold f_X6_leavesIn
  refine w_ev (m_isCar0 hN.2.1 hN.2.2.1.1 h0) ?_
  refine w_t rfl ?_
  unfold f_X6_leavesIn_J32
  refine w_wrI ?_
  refine w_rdI ?_
  rw [g5s]
  exact w_n (by decide) (w_rtn ⟨rfl, rfl⟩)
theorem m_lIn1 (hN : IN S Sm A T k) (hc : c < kC A) (hg : aI A 15 c = 100) : (f_X6_leavesIn (nI c)).1 Sm = some (-1, pI Sm 5 0 0 2) := by
  have h30 := hN.2.2.1.1.2.2
  refine ev_of ?_
  unfold f_X6_leavesIn
  refine w_ev (m_isCar hN.2.1 hN.2.2.1.1 hc) ?_
  refine w_n (by decide) ?_
  refine w_mldx (j := 82 + c) (nI_add 82 c) (by omega) (by omega) ?_
  rw [(hN.place hc).2]
  refine w_t hg ?_
  unfold f_X6_leavesIn_J32
  refine w_wrI ?_
  refine w_rdI ?_
  rw [g5s]
  exact w_n (by decide) (w_rtn ⟨rfl, rfl⟩)
theorem m_lIn (hN : IN S Sm A T k) (hc : c < kC A) (hg : aI A 15 c ≠ 100) : wp (f_X6_leavesIn (nI c)) Sm (trM (gIn A c 300 1) 3 A) := by
  have h30 := hN.2.2.1.1.2.2
  have hM := hN.2.1.th (TH.rf (v := 0) (Sm := Sm))
  have hT := hN.2.2.2.1.2
  have h9 := m_inL (c := c) hM hN.2.2.1.1 300 400 0 A T _ (hM.trial hN.2.2.1.1) hN.tp (by omega) (by omega) (by omega) hc
  rw [if_neg hg, nI_00, Nat.zero_add] at h9
  unfold f_X6_leavesIn
  refine w_ev (m_isCar hN.2.1 hN.2.2.1.1 hc) ?_
  refine w_n (by decide) ?_
  refine w_mldx (j := 82 + c) (nI_add 82 c) (by omega) (by omega) ?_
  rw [(hN.place hc).2]
  refine w_n hg ?_
  unfold f_X6_leavesIn_J32
  refine w_wrI ?_
  refine w_rdI ?_
  rw [g5s]
  refine w_t (by decide) ?_
  refine w_ev e_keeps ?_
  exact h9
theorem x_ng (h : CR 0 k S S A) (hI : IA A) (hc : c < kC A) (hg : aI A 15 c ≠ 100) : (f_X5_requireNotGone 0 (nI c)).1 S = some (.inl (), S) := by
  have h30 := hI.2.2
  refine ev_of ?_
  unfold f_X5_requireNotGone
  refine w_t (by omega) ?_
  refine w_bx (x_reqCar h hI hc) ?_
  refine w_rdc (by omega) ?_
  rw [show gI S 15 c 0 = aI A 15 c by have := h.1.2.2.2.1 15 c (by omega) (by omega) hc; rwa [show 30 * 0 + c = c by omega] at this]
  exact w_n hg (w_rtX ⟨rfl, rfl⟩)
theorem x_ng1 (h : CR 0 k S S A) (hI : IA A) (hc : c < kC A) (hg : aI A 15 c = 100) : (f_X5_requireNotGone 0 (nI c)).1 S = some (.inr "java/lang/IllegalStateException", thrS S) := by
  have h30 := hI.2.2
  refine ev_of ?_
  unfold f_X5_requireNotGone
  refine w_t (by omega) ?_
  refine w_bx (x_reqCar h hI hc) ?_
  refine w_rdc (by omega) ?_
  rw [show gI S 15 c 0 = aI A 15 c by have := h.1.2.2.2.1 15 c (by omega) (by omega) hc; rwa [show 30 * 0 + c = c by omega] at this]
  exact w_t hg (w_thr ⟨rfl, rfl⟩)
theorem x_ng0 (h : CR 0 k S S A) (hI : IA A) (hc : a < 0 ∨ nI (kC A) ≤ a) : (f_X5_requireNotGone 0 a).1 S = some (.inr "java/util/NoSuchElementException", thrS S) := by
  refine ev_of ?_
  unfold f_X5_requireNotGone
  refine w_t (by omega) ?_
  exact w_bxr (x_reqCar0 h hI hc) ⟨rfl, rfl⟩
theorem ag_leavesByTicks (hi : i + 5 ≤ 2560) : agW INV i (f_X5_leavesByTicks 0 a1) (f_X6_leavesByTicks a1) (exCode [("java/util/NoSuchElementException", 1), ("java/lang/IllegalStateException", 2), ("java/lang/UnsupportedOperationException", 3)]) ["java/util/NoSuchElementException", "java/lang/IllegalStateException", "java/lang/UnsupportedOperationException"] (fun r q => r = q) := ag_try (fun S Sm A T k hN => by
  have hI := hN.2.2.1.1
  have hT := hN.2.2.2.1.2
  rcases i32_cases a1 (kC A) hN.cd with h0 | ⟨c, hc, rfl⟩
  · refine Or.inr ⟨_, -1, pI Sm 5 0 0 1, ev_of ?_, ev_of ?_, List.mem_cons_self, TH.rf⟩
    · unfold f_X5_leavesByTicks
      refine w_t (by omega) ?_
      exact w_bxr (x_ng0 hN.1 hI h0) ⟨rfl, rfl⟩
    · unfold f_X6_leavesByTicks
      exact w_ev (m_lIn0 hN h0) (w_rtn ⟨rfl, rfl⟩)
  · by_cases hg : aI A 15 c = 100
    · refine Or.inr ⟨_, -1, pI Sm 5 0 0 2, ev_of ?_, ev_of ?_, List.mem_cons_of_mem _ List.mem_cons_self, TH.rf⟩
      · unfold f_X5_leavesByTicks
        refine w_t (by omega) ?_
        exact w_bxr (x_ng1 hN.1 hI hc hg) ⟨rfl, rfl⟩
      · unfold f_X6_leavesByTicks
        exact w_ev (m_lIn1 hN hc hg) (w_rtn ⟨rfl, rfl⟩)
    · refine Or.inl ⟨gIn A c 300 1, "java/lang/UnsupportedOperationException", 3, ?_, ?_, List.mem_cons_of_mem _ (List.mem_cons_of_mem _ List.mem_cons_self), rfl⟩
      · unfold f_X5_leavesByTicks
        refine w_t (by omega) ?_
        refine w_bx (x_ng hN.1 hI hc hg) ?_
        refine w_rfc (by omega) ?_
        refine w_rfc (by omega) ?_
        refine w_t (by omega) ?_
        refine w_call (w_copyFrom hN.1 hN.2.2.1) (fun _ S2 h2 => ?_)
        have h9 := x_byL (c := c) 300 400 1 A T S2 h2 hN.tp (by omega) (by omega) (by omega) hc
        rw [show nI 1 = (1 : Int32) from rfl] at h9
        exact h9
      · unfold f_X6_leavesByTicks
        refine w_call (m_lIn hN hc hg) (fun _ S2 h2 => w_rtn h2)) hi
end TRY
