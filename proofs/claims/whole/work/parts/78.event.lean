/-! part 78: the class goes from event to event -/
section EVT
variable {S S0 S1 Sm : St} {A A0 B : AS} {T k c i s : Nat} {a a1 : Int32}
theorem e_cew (h : RC 1 S A) (hJ : JA A) : ∃ v, (f_X1_canEnterFromWaiting 1).1 S = some (v, S) ∧ (v = 0 → aW A = [] ∨ aI A 12 0 ≠ -1) := by
  have hW : RW S (3 * 1) (aW A) := h.2.2.2.2.1
  have hl := hW.1
  by_cases hw : aW A = []
  · refine ⟨0, ev_of ?_, fun _ => Or.inl hw⟩
    unfold f_X1_canEnterFromWaiting
    refine w_rfc (by omega) ?_
    refine w_rdc (by omega) ?_
    rw [hW.2.1, hw]
    exact w_t (by decide) (w_rtnZ (Or.inl rfl) ⟨rfl, rfl⟩)
  · obtain ⟨c, r, hcr⟩ := List.exists_cons_of_ne_nil hw
    obtain ⟨k1, k2, k3⟩ := J_offW hJ hcr
    have hS0 : 0 < kS A := Nat.pos_of_ne_zero fun w => by
      have := hJ.2.2.2.2.2.2.2.1 w
      omega
    have hl0 : 0 < (aW A).length := by rw [hcr, List.length_cons]; omega
    have h9 := e_isFree (t := 1) (s := 0) (by omega) h hJ.1 hS0
    rw [nI_00] at h9
    have go : ∀ v : Int32, (aI A 12 0 = -1 → v = 1) → (aI A 12 0 ≠ -1 → v = 0) → (f_X1_canEnterFromWaiting 1).1 S = some (v, S) := fun v v1 v2 => by
      refine ev_of ?_
      unfold f_X1_canEnterFromWaiting
      refine w_rfc (by omega) ?_
      refine w_rdc (by omega) ?_
      rw [hW.2.1]
      refine w_n (show ¬ nI (aW A).length ≤ nI 0 from nI_ge hl0 (by omega)) ?_
      refine w_t (by omega) ?_
      refine w_ev h9 ?_
      by_cases hf : aI A 12 0 = -1
      · rw [if_pos hf, v1 hf]
        exact w_n (by decide) (w_rtnZ (Or.inr rfl) ⟨rfl, rfl⟩)
      · rw [if_neg hf, v2 hf]
        exact w_t rfl (w_rtnZ (Or.inl rfl) ⟨rfl, rfl⟩)
    by_cases hf : aI A 12 0 = -1
    · exact ⟨1, go 1 (fun _ => rfl) (fun w => absurd hf w), fun w => absurd w (by decide)⟩
    · exact ⟨0, go 0 (fun w => absurd w hf) (fun _ => rfl), fun _ => Or.inr hf⟩
theorem e_celL (h : RC 1 S A) (hJ : JA A) : ∀ (m n j : Nat), j + m = (aO A).length → m < n → ∃ v, (f_X1_canEnterFromLoop_L2 n 1 (nI j)).1 S = some (v, S) ∧ (v = 0 → ∀ x, j ≤ x → x < (aO A).length → aI A 12 (low (aI A 19 ((aO A).getD x 0))) ≠ -1) := by
  have hO : RW S (3 * 1 + 1) (aO A) := h.2.2.2.2.2.1
  have hl := hO.1
  have h30 := hJ.1.2.2
  have h8 := hJ.1.1.2
  intro m
  induction m with
  | zero =>
    intro n j hj hn
    obtain ⟨n, rfl⟩ : ∃ q, n = q + 1 := ⟨n - 1, by omega⟩
    refine ⟨0, ev_of ?_, fun _ x x1 x2 => by omega⟩
    rw [f_X1_canEnterFromLoop_L2]
    refine w_rfc (by omega) ?_
    refine w_rdc (by omega) ?_
    rw [hO.2.1]
    exact w_t (nI_le (by omega) (by omega)) (w_rtnZ (Or.inl rfl) ⟨rfl, rfl⟩)
  | succ m ih =>
    intro n j hj hn
    obtain ⟨n, rfl⟩ : ∃ q, n = q + 1 := ⟨n - 1, by omega⟩
    have hjl : j < (aO A).length := by omega
    have hmem : (aO A).getD j 0 ∈ aO A := by
      have e : (aO A).getD j 0 = (aO A)[j] := by simp [List.getD, hjl]
      rw [e]
      exact List.getElem_mem hjl
    obtain ⟨c1, c2, -⟩ := (hJ.2.2.2.1.2.1.2 _).mp hmem
    have e9 := e_at (by omega) hO hjl
    generalize hc : (aO A).getD j 0 = c at hmem c1 c2 e9
    have hlow := low_lt hJ c1 c2
    obtain ⟨u, u1, u2⟩ := ih n (j + 1) (by omega) (by omega)
    have go : ∀ v : Int32, (aI A 12 (low (aI A 19 c)) = -1 → v = 1) → (aI A 12 (low (aI A 19 c)) ≠ -1 → v = u) → (f_X1_canEnterFromLoop_L2 (n + 1) 1 (nI j)).1 S = some (v, S) := fun v v1 v2 => by
      refine ev_of ?_
      rw [f_X1_canEnterFromLoop_L2]
      refine w_rfc (by omega) ?_
      refine w_rdc (by omega) ?_
      rw [hO.2.1]
      refine w_n (nI_ge hjl (by omega)) ?_
      refine w_rfc (by omega) ?_
      refine w_t (by omega) ?_
      refine w_ev e9 ?_
      refine w_t (by omega) ?_
      refine w_ev (e_findCar (by omega) h hJ.1 c1) ?_
      refine w_t (by omega) ?_
      refine w_t (by omega) ?_
      refine w_ev (e_lowest (by omega) h hJ.1 c1 (by omega)) ?_
      refine w_t (by omega) ?_
      refine w_ev (e_isFree (by omega) h hJ.1 hlow) ?_
      by_cases hf : aI A 12 (low (aI A 19 c)) = -1
      · rw [if_pos hf, v1 hf]
        exact w_n (by decide) (w_rtnZ (Or.inr rfl) ⟨rfl, rfl⟩)
      · rw [if_neg hf, v2 hf]
        refine w_t rfl ?_
        rw [nI_1]
        exact w_of u1 ⟨rfl, rfl⟩
    by_cases hf : aI A 12 (low (aI A 19 c)) = -1
    · exact ⟨1, go 1 (fun _ => rfl) (fun w => absurd hf w), fun w => absurd w (by decide)⟩
    · refine ⟨u, go u (fun w => absurd w hf) (fun _ => rfl), fun w x x1 x2 => ?_⟩
      by_cases e : x = j
      · rw [e, hc]; exact hf
      · exact u2 w x (by omega) x2
theorem e_cel (h : RC 1 S A) (hJ : JA A) : ∃ v, (f_X1_canEnterFromLoop 1).1 S = some (v, S) ∧ (v = 0 → ∀ c, c ∈ aO A → aI A 12 (low (aI A 19 c)) ≠ -1) := by
  have hl : (aO A).length ≤ 30 := h.2.2.2.2.2.1.1
  obtain ⟨v, v1, v2⟩ := e_celL h hJ (aO A).length 400 0 (by omega) (by omega)
  rw [nI_00] at v1
  refine ⟨v, by unfold f_X1_canEnterFromLoop; exact v1, fun w c hc => ?_⟩
  obtain ⟨x, x1, x2, -⟩ := idx_ex (aO A) c hc
  have := v2 w x (by omega) x1
  rw [x2] at this
  exact this
theorem e_qAt (h : RC 1 S A) (hJ : JA A) (hs : s < kS A) : ∃ u, u ≤ 300 ∧ (f_X1_quietTicksAt 1 (nI s)).1 S = some (nI u, S) ∧ ∀ q, q ≤ u → q = 0 ∨ QS A s q := by
  have h30 := hJ.1.2.2
  have h8 := hJ.1.1.2
  rcases hJ.2.1 s hs with w | ⟨w1, w2, w3, w4, w5⟩
  · refine ⟨300, Nat.le_refl _, ev_of ?_, fun q _ => Or.inr (fun hn => absurd w hn)⟩
    unfold f_X1_quietTicksAt
    refine w_t (by omega) ?_
    refine w_ev (e_standingAt0 (by omega) h hJ.1 hs w) ?_
    refine w_n (by omega) ?_
    exact w_rtn ⟨rfl, rfl⟩
  · obtain ⟨g, g1, g2⟩ := (hJ.2.2.2.2.1 _ w2).2.2.2.2.1
    have e17 : gI S 17 (30 * 1 + atC A s) 0 = nI g := (h.2.2.2.1 17 _ (by omega) (by omega) w2).trans g2
    by_cases hg : g = 0
    · subst hg
      obtain ⟨v, e1, e2⟩ := e_isHeldUp (by omega) h hJ.1 hs w2 w3
      have go : ∀ u : Nat, (v = 0 → u = 0) → (v ≠ 0 → u = 300) → (f_X1_quietTicksAt 1 (nI s)).1 S = some (nI u, S) := fun u u1 u2 => by
        refine ev_of ?_
        unfold f_X1_quietTicksAt
        refine w_t (by omega) ?_
        refine w_ev (e_standingAt (by omega) h hJ.1 hs w1 w2) ?_
        refine w_t (by omega) ?_
        refine w_rdc (by omega) ?_
        rw [e17]
        refine w_t (by decide) ?_
        refine w_t (by omega) ?_
        refine w_ev e1 ?_
        refine w_if (fun q => w_rtn ⟨by have h0 := u1 q; subst h0; rfl, rfl⟩) (fun q => w_rtn ⟨by have h0 := u2 q; subst h0; rfl, rfl⟩)
      by_cases hv : v = 0
      · exact ⟨0, by omega, go 0 (fun _ => rfl) (fun w => absurd hv w), fun q hq => Or.inl (by omega)⟩
      · have hh : along A (atC A s) s ∧ aI A 12 (s + 1) ≠ -1 := Classical.byContradiction fun q => hv (e2.mpr q)
        exact ⟨300, by omega, go 300 (fun w => absurd w hv) (fun _ => rfl), fun q hq => Or.inr (fun _ => Or.inr ⟨g2, hh.1.1, hh.1.2, hh.2⟩)⟩
    · refine ⟨g - 1, by omega, ev_of ?_, fun q hq => Or.inr (fun _ => Or.inl ⟨g, g1, g2, by omega⟩)⟩
      unfold f_X1_quietTicksAt
      refine w_t (by omega) ?_
      refine w_ev (e_standingAt (by omega) h hJ.1 hs w1 w2) ?_
      refine w_t (by omega) ?_
      refine w_rdc (by omega) ?_
      rw [e17]
      refine w_n (show ¬ nI g ≤ nI 0 from nI_ge (by omega) (by omega)) ?_
      refine w_rdc (by omega) ?_
      rw [e17, nI_sub1 (by omega)]
      exact w_rtn ⟨rfl, rfl⟩
theorem e_qL (h : RC 1 S A) (hJ : JA A) : ∀ (m n s u : Nat), s + m = kS A → m < n → u ≤ 300 → ∃ q, q ≤ u ∧ (f_X1_quietTicks_L25 n 1 (nI u) (nI s)).1 S = some (nI q, S) ∧ ∀ x, s ≤ x → x < kS A → q = 0 ∨ QS A x q := by
  have h8 := hJ.1.1.2
  have e0 : gI S 0 1 0 = nI (kS A) := (h.1 0 (by omega)).trans hJ.1.1.1
  intro m
  induction m with
  | zero =>
    intro n s u hs hn hu
    obtain ⟨n, rfl⟩ : ∃ q, n = q + 1 := ⟨n - 1, by omega⟩
    refine ⟨u, Nat.le_refl _, ev_of ?_, fun x x1 x2 => by omega⟩
    rw [f_X1_quietTicks_L25]
    refine w_rdc (by omega) ?_
    rw [e0]
    refine w_t (nI_le (by omega) (by omega)) ?_
    exact w_rtn ⟨if_neg (nI_pos (by omega)), rfl⟩
  | succ m ih =>
    intro n s u hs hn hu
    obtain ⟨n, rfl⟩ : ∃ q, n = q + 1 := ⟨n - 1, by omega⟩
    obtain ⟨v, v1, v2, v3⟩ := e_qAt (s := s) h hJ (by omega)
    have key : ∃ y, y ≤ u ∧ y ≤ v ∧ (if nI v < nI u then nI v else nI u) = nI y := by
      by_cases hvu : v < u
      · exact ⟨v, by omega, Nat.le_refl _, if_pos (Int32.not_le.mp (nI_ge hvu (by omega)))⟩
      · exact ⟨u, Nat.le_refl _, by omega, if_neg (Int32.not_lt.mpr (nI_le (by omega) (by omega)))⟩
    obtain ⟨y, y1, y2, y3⟩ := key
    obtain ⟨q, q1, q2, q3⟩ := ih n (s + 1) y (by omega) (by omega) (by omega)
    refine ⟨q, by omega, ev_of ?_, fun x x1 x2 => ?_⟩
    · rw [f_X1_quietTicks_L25]
      refine w_rdc (by omega) ?_
      rw [e0]
      refine w_n (nI_ge (by omega) (by omega)) ?_
      refine w_t (by omega) ?_
      refine w_ev v2 ?_
      refine w_ret ?_
      rw [y3, nI_1]
      exact w_of q2 ⟨rfl, rfl⟩
    · by_cases e : x = s
      · rw [e]; exact v3 q (by omega)
      · exact q3 x (by omega) x2
/-- the class's number of quiet ticks -/
theorem e_quiet (h : RC 1 S A) (hP : TP A T) (hT : T < 20000) : ∃ q, q ≤ 59 ∧ (f_X1_quietTicks 1).1 S = some (nI q, S) ∧ Qt A T q := by
  have hJ := hP.1
  have h8 := hJ.1.1.2
  obtain ⟨p, p1, p2, p3⟩ := hJ.2.2.2.2.2.2.1.2
  have hm := Nat.mod_lt T (show p > 0 by omega)
  obtain ⟨v, v1, v2⟩ := e_cew h hJ
  by_cases hv : v = 0
  · obtain ⟨u, u1, u2⟩ := e_cel h hJ
    by_cases hu : u = 0
    · obtain ⟨q, q1, q2, q3⟩ := e_qL h hJ (kS A) 400 0 (p - T % p - 1) (by omega) (by omega) (by omega)
      rw [nI_00] at q2
      refine ⟨q, by omega, ev_of ?_, ?_⟩
      · unfold f_X1_quietTicks
        refine w_t (by omega) ?_
        refine w_ev v1 ?_
        refine w_t hv ?_
        refine w_t (by omega) ?_
        refine w_ev u1 ?_
        refine w_t hu ?_
        refine w_t (by omega) ?_
        refine w_ev (e_round (by omega) h p3 p1 p2) ?_
        refine w_ret ?_
        rw [p3, hP.2.1, nI_mod (by omega) (by omega) (by omega), nI_subn (by omega), nI_sub1 (by omega)]
        exact w_of q2 ⟨rfl, rfl⟩
      · by_cases hq : q = 0
        · exact Or.inl hq
        · exact Or.inr ⟨v2 hv, u2 hu, ⟨p, p2, p3, by omega⟩, fun s hs => (q3 s (by omega) hs).resolve_left hq⟩
    · refine ⟨0, by omega, ev_of ?_, Or.inl rfl⟩
      unfold f_X1_quietTicks
      refine w_t (by omega) ?_
      refine w_ev v1 ?_
      refine w_t hv ?_
      refine w_t (by omega) ?_
      refine w_ev u1 ?_
      exact w_n hu (w_rtn ⟨rfl, rfl⟩)
  · refine ⟨0, by omega, ev_of ?_, Or.inl rfl⟩
    unfold f_X1_quietTicks
    refine w_t (by omega) ?_
    refine w_ev v1 ?_
    exact w_n hv (w_rtn ⟨rfl, rfl⟩)
/-- the quiet ticks pass -/
theorem x_pq {q : Nat} (h : CR 1 k S S1 A) (hP : TP A T) (hT : T + q ≤ 20000) : wp (f_X1_passQuietTicks 1 (nI q)) S1 (fun _ S2 => CR 1 k S S2 (aQ A q)) := by
  have hJ := hP.1
  have h8 := hJ.1.1.2
  have j1 : JA (sI A 2 0 (aI A 2 0 + nI q)) := by rw [hP.2.1, nI_add]; exact hJ.s2 hT
  have c1 : CR 1 k S (pI S1 2 1 0 (aI A 2 0 + nI q)) (sI A 2 0 (aI A 2 0 + nI q)) := h.li (Or.inl rfl)
  have h9 := w_cnts (d := nI q) (by omega) (kS A) 400 0 _ _ c1 j1.1 j1.P1 (by rw [kS_sI (by omega)]; omega) (by omega)
  rw [nI_00] at h9
  unfold f_X1_passQuietTicks
  refine w_rdc (by omega) ?_
  rw [h.1.1 2 (by omega)]
  refine w_wrc (by omega) ?_
  refine w_t (by omega) ?_
  refine w_call (P := fun _ S2 => CR 1 k S S2 (aQ A q)) ?_ (fun _ S2 h2 => w_rtn h2)
  unfold f_X1_countDown
  exact h9
theorem x_inL : ∀ (m n e j : Nat) (A : AS) (T : Nat) (S1 : St), CR 1 k S S1 A → TP A T → aI A 15 c ≠ 100 → e + m = 300 → e ≤ j → j ≤ 300 → T + (300 - j) ≤ 10299 → m < n → c < kC A → wp (f_X5_leavesIn_L20 n 0 (nI c) (nI j) (nI e)) S1 (trX (gIn A c (300 - j) (j + 1)) "java/lang/UnsupportedOperationException" S) := by
  intro m
  induction m with
  | zero =>
    intro n e j A T S1 hC hP hg he hej hj hT hn hc
    obtain ⟨n, rfl⟩ : ∃ q, n = q + 1 := ⟨n - 1, by omega⟩
    obtain rfl : e = 300 := by omega
    obtain rfl : j = 300 := by omega
    rw [f_X5_leavesIn_L20]
    refine w_t (by decide) ?_
    exact w_thr (Or.inr ⟨rfl, rfl, S1, hC.2.2.1 rfl, rfl⟩)
  | succ m ih =>
    intro n e j A T S1 hC hP hg he hej hj hT hn hc
    obtain ⟨n, rfl⟩ : ∃ q, n = q + 1 := ⟨n - 1, by omega⟩
    obtain ⟨q, q59, eq, hQ⟩ := e_quiet hC.1 hP (by omega)
    rw [f_X5_leavesIn_L20]
    refine w_n (nI_ge (a := e) (b := 300) (by omega) (by omega)) ?_
    refine w_rfc (by omega) ?_
    refine w_t (by omega) ?_
    refine w_ev eq ?_
    rw [nI_add]
    by_cases hq : j + q < 300
    · refine w_t (Int32.not_le.mp (nI_ge (b := 300) hq (by omega))) ?_
      refine w_rfc (by omega) ?_
      refine w_t (by omega) ?_
      refine w_call (x_pq hC hP (by omega)) (fun _ S2 h2 => ?_)
      rw [← Q_ticks q A T hP (by omega) (by omega) hQ] at h2
      obtain ⟨u1, u2⟩ := TP.ticks q A T hP (by omega)
      obtain ⟨t1, t2, t3⟩ := u1.tick (by omega)
      refine w_rfc (by omega) ?_
      refine w_t (by omega) ?_
      refine w_call (w_passTick (by omega) h2 u1.1 u1.2.1 (by omega) u1.2.2 (by omega)) (fun _ S3 h3 => ?_)
      refine w_ret ?_
      refine w_rfc (by omega) ?_
      refine w_t (by omega) ?_
      refine w_ev (e_hasGone (by omega) h3.1 t1.1.1 (by rw [t3, u2]; exact hc)) ?_
      rw [nI_1, nI_add, nI_1, gIn_skip q (300 - j) (j + 1) A T hP (by omega) hQ (by omega) hg]
      obtain ⟨y, hy⟩ : ∃ y, 300 - j - q = y + 1 := ⟨300 - j - q - 1, by omega⟩
      rw [hy, gIn]
      by_cases hz : aI (aTick (aTicks A q)) 15 c = 100
      · rw [if_pos hz, if_pos hz]
        exact w_n (by decide) (w_rtX (Or.inl ⟨_, rfl, by rw [show j + 1 + q = j + (q + 1) by omega], h3.2.2.1 rfl⟩))
      · rw [if_neg hz, if_neg hz]
        refine w_t rfl ?_
        have h9 := ih n (e + 1) (j + (q + 1)) _ (T + q + 1) S3 h3 t1 hz (by omega) (by omega) (by omega) (by omega) (by omega) (by rw [t3, u2]; exact hc)
        rw [show 300 - (j + (q + 1)) = y by omega, show j + (q + 1) + 1 = j + 1 + q + 1 by omega] at h9
        exact h9
    · refine w_n (Int32.not_lt.mpr (nI_le (a := 300) (by omega) (by omega))) ?_
      rw [gIn_none (m := 300 - j) hP (by omega) hQ (by omega) hg]
      exact w_thr (Or.inr ⟨rfl, rfl, S1, hC.2.2.1 rfl, rfl⟩)
theorem ag_leavesIn (hi : i + 5 ≤ 2560) : agW INV i (f_X5_leavesIn 0 a1) (f_X6_leavesIn a1) (exCode [("java/util/NoSuchElementException", 1), ("java/lang/IllegalStateException", 2), ("java/lang/UnsupportedOperationException", 3)]) ["java/util/NoSuchElementException", "java/lang/IllegalStateException", "java/lang/UnsupportedOperationException"] (fun r q => r = q) := ag_try (fun S Sm A T k hN => by
  have hI := hN.2.2.1.1
  have hT := hN.2.2.2.1.2
  rcases i32_cases a1 (kC A) hN.cd with h0 | ⟨c, hc, rfl⟩
  · refine Or.inr ⟨_, -1, pI Sm 5 0 0 1, ev_of ?_, m_lIn0 hN h0, List.mem_cons_self, TH.rf⟩
    unfold f_X5_leavesIn
    refine w_t (by omega) ?_
    exact w_bxr (x_ng0 hN.1 hI h0) ⟨rfl, rfl⟩
  · by_cases hg : aI A 15 c = 100
    · refine Or.inr ⟨_, -1, pI Sm 5 0 0 2, ev_of ?_, m_lIn1 hN hc hg, List.mem_cons_of_mem _ List.mem_cons_self, TH.rf⟩
      unfold f_X5_leavesIn
      refine w_t (by omega) ?_
      exact w_bxr (x_ng1 hN.1 hI hc hg) ⟨rfl, rfl⟩
    · refine Or.inl ⟨gIn A c 300 1, "java/lang/UnsupportedOperationException", 3, ?_, m_lIn hN hc hg, List.mem_cons_of_mem _ (List.mem_cons_of_mem _ List.mem_cons_self), rfl⟩
      unfold f_X5_leavesIn
      refine w_t (by omega) ?_
      refine w_bx (x_ng hN.1 hI hc hg) ?_
      refine w_rfc (by omega) ?_
      refine w_rfc (by omega) ?_
      refine w_t (by omega) ?_
      refine w_call (w_copyFrom hN.1 hN.2.2.1) (fun _ S2 h2 => ?_)
      have h9 := x_inL (c := c) 300 400 0 0 A T S2 h2 hN.tp hg (by omega) (by omega) (by omega) (by omega) (by omega) hc
      rw [nI_00, Nat.sub_zero, Nat.zero_add] at h9
      exact h9) hi
end EVT
