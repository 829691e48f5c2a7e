/-! part 51: the calls that only ask -/
section AX
variable {α β σ : Type} {f : PM (α ⊕ String)} {kk : α → PM (β ⊕ String)} {S S1 : St} {Q : (β ⊕ String) → St → Prop} {a : α} {X : String} {v : Int32}
theorem w_bx (he : f.1 S = some (.inl a, S1)) (hk : wp (kk a) S1 Q) : wp (bndX f kk) S Q := by unfold bndX; exact w_ev he hk
theorem w_bxr (he : f.1 S = some (.inr X, S1)) (hq : Q (.inr X) S1) : wp (bndX f kk) S Q := by unfold bndX; exact w_ev he (w_rtn hq)
theorem w_rtX {b : β} (h : Q (.inl b) S) : wp (rtX b) S Q := w_rtn h
theorem w_thr (h : Q (.inr X) (thrS S)) : wp (thr X) S Q := ⟨(.inr X, thrS S), rfl, h⟩
theorem w_rtZX {Q : (Int32 ⊕ String) → St → Prop} (hv : v = 0 ∨ v = 1) (h : Q (.inl v) S) : wp (rtZX v) S Q := by unfold rtZX; rw [if_pos hv]; exact w_rtn h
theorem w_rtCX {Q : (Int32 ⊕ String) → St → Prop} (hv : cv v = v) (h : Q (.inl v) S) : wp (rtCX v) S Q := by unfold rtCX; rw [if_pos hv]; exact w_rtn h
end AX
theorem lg_lt (x y : Int64) : lg_cmp x y < 0 ↔ x < y := by
  unfold lg_cmp
  by_cases h : x > y
  · rw [if_pos h]
    refine ⟨fun w => absurd w (by decide), fun w => ?_⟩
    have h1 := Int64.lt_iff_toInt_lt.mp h
    have h2 := Int64.lt_iff_toInt_lt.mp w
    omega
  · rw [if_neg h]
    by_cases e : x = y
    · rw [if_pos e]
      refine ⟨fun w => absurd w (by decide), fun w => ?_⟩
      subst e
      have h2 := Int64.lt_iff_toInt_lt.mp w
      omega
    · rw [if_neg e]
      refine ⟨fun _ => ?_, fun _ => by decide⟩
      rw [Int64.lt_iff_toInt_lt]
      have h1 : ¬ (y.toInt < x.toInt) := fun w => h (Int64.lt_iff_toInt_lt.mpr w)
      have h2 : x.toInt ≠ y.toInt := fun w => e (Int64.toInt_inj.mp w)
      omega
theorem lg_gt (x y : Int64) : 0 < lg_cmp x y ↔ y < x := by
  unfold lg_cmp
  by_cases h : x > y
  · rw [if_pos h]
    exact ⟨fun _ => h, fun _ => by decide⟩
  · rw [if_neg h]
    refine ⟨fun w => ?_, fun w => absurd w h⟩
    by_cases e : x = y
    · rw [if_pos e] at w; exact absurd w (by decide)
    · rw [if_neg e] at w; exact absurd w (by decide)
theorem e_in {S : St} (x lo hi : Int64) : (f_X6_in x lo hi).1 S = some (if lo.toInt ≤ x.toInt ∧ x.toInt ≤ hi.toInt then 1 else 0, S) := by
  refine ev_of ?_
  unfold f_X6_in
  by_cases h1 : lg_cmp x lo < 0
  · refine w_t h1 (w_rtnZ (Or.inl rfl) ⟨?_, rfl⟩)
    have := Int64.lt_iff_toInt_lt.mp ((lg_lt _ _).mp h1)
    rw [if_neg (by omega)]
  · refine w_n h1 ?_
    have e1 : ¬ (x.toInt < lo.toInt) := fun w => h1 ((lg_lt _ _).mpr (Int64.lt_iff_toInt_lt.mpr w))
    by_cases h2 : 0 < lg_cmp x hi
    · refine w_t h2 (w_rtnZ (Or.inl rfl) ⟨?_, rfl⟩)
      have := Int64.lt_iff_toInt_lt.mp ((lg_gt _ _).mp h2)
      rw [if_neg (by omega)]
    · refine w_n h2 (w_rtnZ (Or.inr rfl) ⟨?_, rfl⟩)
      have e2 : ¬ (hi.toInt < x.toInt) := fun w => h2 ((lg_gt _ _).mpr (Int64.lt_iff_toInt_lt.mpr w))
      rw [if_pos (by omega)]
theorem toInt_1 : ∀ n, n ≤ 30 → (nI n - 1).toInt = (n : Int) - 1 := by decide +kernel
theorem in_ix {S : St} {n c : Nat} (hn : n ≤ 30) (hc : c < n) : (f_X6_in ((nI c).toInt64) (0 : Int64) ((nI n - (1 : Int32)).toInt64)).1 S = some (1, S) := by
  rw [e_in, Int32.toInt_toInt64, Int32.toInt_toInt64, toInt_1 n hn, nI_toInt (by omega)]
  rw [if_pos ⟨by show (0 : Int) ≤ _; omega, by omega⟩]
theorem in_ix0 {S : St} {n : Nat} {a : Int32} (hn : n ≤ 30) (ha : a < 0 ∨ nI n ≤ a) : (f_X6_in (a.toInt64) (0 : Int64) ((nI n - (1 : Int32)).toInt64)).1 S = some (0, S) := by
  rw [e_in, Int32.toInt_toInt64, Int32.toInt_toInt64, toInt_1 n hn]
  rw [if_neg]
  rintro ⟨h1, h2⟩
  have h1 : (0 : Int) ≤ a.toInt := h1
  rcases ha with h | h
  · rw [Int32.lt_iff_toInt_lt, Int32.toInt_zero] at h; omega
  · rw [Int32.le_iff_toInt_le, nI_toInt (by omega)] at h; omega
section ASK
variable {S Sm : St} {A : AS} {T k c s i : Nat} {a a1 a2 : Int32}
theorem RM0.h2 (h : RM0 Sm A) : gI Sm 2 0 0 = aI A 1 0 := h.1.2.2
theorem m_isCar (h : MS 0 Sm Sm A) (hI : IA A) (hc : c < kC A) : (f_X6_isCar (nI c)).1 Sm = some (1, Sm) := by
  refine ev_of ?_
  unfold f_X6_isCar
  refine w_rdI ?_
  rw [h.1.1.h2, hI.2.1]
  exact w_ev (in_ix hI.2.2 hc) (w_rtnZ (Or.inr rfl) ⟨rfl, rfl⟩)
theorem m_isCar0 (h : MS 0 Sm Sm A) (hI : IA A) (hc : a < 0 ∨ nI (kC A) ≤ a) : (f_X6_isCar a).1 Sm = some (0, Sm) := by
  refine ev_of ?_
  unfold f_X6_isCar
  refine w_rdI ?_
  rw [h.1.1.h2, hI.2.1]
  exact w_ev (in_ix0 hI.2.2 hc) (w_rtnZ (Or.inl rfl) ⟨rfl, rfl⟩)
theorem m_isSt (h : MS 0 Sm Sm A) (hI : IA A) (hc : s < kS A) : (f_X6_isStation (nI s)).1 Sm = some (1, Sm) := by
  refine ev_of ?_
  unfold f_X6_isStation
  refine w_rdI ?_
  rw [h.1.1.1.1, hI.1.1]
  exact w_ev (in_ix (by have := hI.1.2; omega) hc) (w_rtnZ (Or.inr rfl) ⟨rfl, rfl⟩)
theorem m_isSt0 (h : MS 0 Sm Sm A) (hI : IA A) (hc : a < 0 ∨ nI (kS A) ≤ a) : (f_X6_isStation a).1 Sm = some (0, Sm) := by
  refine ev_of ?_
  unfold f_X6_isStation
  refine w_rdI ?_
  rw [h.1.1.1.1, hI.1.1]
  exact w_ev (in_ix0 (by have := hI.1.2; omega) hc) (w_rtnZ (Or.inl rfl) ⟨rfl, rfl⟩)
theorem m_isPart (hc : s < 6) : (f_X6_isPart (nI s)).1 Sm = some (1, Sm) := by
  refine ev_of ?_
  unfold f_X6_isPart
  exact w_ev (in_ix (n := 6) (by omega) hc) (w_rtnZ (Or.inr rfl) ⟨rfl, rfl⟩)
theorem m_isPart0 (hc : a < 0 ∨ nI 6 ≤ a) : (f_X6_isPart a).1 Sm = some (0, Sm) := by
  refine ev_of ?_
  unfold f_X6_isPart
  exact w_ev (in_ix0 (n := 6) (by omega) hc) (w_rtnZ (Or.inl rfl) ⟨rfl, rfl⟩)
theorem m_asked (h : MS 0 Sm Sm A) (hI : IA A) (hc : c < kC A) : (f_X6_isAsked (nI c)).1 Sm = some (1, pI Sm 5 0 0 0) := by
  refine ev_of ?_
  unfold f_X6_isAsked
  refine w_ev (m_isCar h hI hc) ?_
  refine w_n (by decide) ?_
  unfold f_X6_isAsked_J14
  refine w_wrI ?_
  refine w_rdI ?_
  have e : gI (pI Sm 5 0 0 0) 5 0 0 = 0 := by rw [gI_pI, if_pos ⟨rfl, rfl, rfl⟩]
  rw [e]
  exact w_t rfl (w_rtnZ (Or.inr rfl) ⟨rfl, rfl⟩)
theorem m_asked0 (h : MS 0 Sm Sm A) (hI : IA A) (hc : a < 0 ∨ nI (kC A) ≤ a) : (f_X6_isAsked a).1 Sm = some (0, pI Sm 5 0 0 1) := by
  refine ev_of ?_
  unfold f_X6_isAsked
  refine w_ev (m_isCar0 h hI hc) ?_
  refine w_t rfl ?_
  unfold f_X6_isAsked_J14
  refine w_wrI ?_
  refine w_rdI ?_
  have e : gI (pI Sm 5 0 0 1) 5 0 0 = 1 := by rw [gI_pI, if_pos ⟨rfl, rfl, rfl⟩]
  rw [e]
  exact w_n (by decide) (w_rtnZ (Or.inl rfl) ⟨rfl, rfl⟩)
theorem x_reqCar (h : CR 0 k S S A) (hI : IA A) (hc : c < kC A) : (f_X5_requireCar 0 (nI c)).1 S = some (.inl c, S) := by
  have h30 := hI.2.2
  refine ev_of ?_
  unfold f_X5_requireCar
  refine w_rfc (by omega) ?_
  refine w_t (by omega) ?_
  refine w_ev (e_findCar (by omega) h.1 hI hc) ?_
  refine w_t (by omega) ?_
  exact w_rtX ⟨by rw [show 30 * 0 + c = c by omega], rfl⟩
theorem x_reqCar0 (h : CR 0 k S S A) (hI : IA A) (hc : a < 0 ∨ nI (kC A) ≤ a) : (f_X5_requireCar 0 a).1 S = some (.inr "java/util/NoSuchElementException", thrS S) := by
  refine ev_of ?_
  unfold f_X5_requireCar
  refine w_rfc (by omega) ?_
  refine w_t (by omega) ?_
  refine w_ev (e_findCar0 (by omega) h.1 hI hc) ?_
  refine w_n (by omega) ?_
  exact w_thr ⟨rfl, rfl⟩
theorem x_reqSt (h : CR 0 k S S A) (hI : IA A) (hc : s < kS A) : (f_X5_requireStation 0 (nI s)).1 S = some (.inl s, S) := by
  have h8 := hI.1.2
  refine ev_of ?_
  unfold f_X5_requireStation
  refine w_rfc (by omega) ?_
  refine w_t (by omega) ?_
  refine w_ev (e_findStation (by omega) h.1 hI hc) ?_
  refine w_t (by omega) ?_
  exact w_rtX ⟨by rw [show 8 * 0 + s = s by omega], rfl⟩
theorem x_reqSt0 (h : CR 0 k S S A) (hI : IA A) (hc : a < 0 ∨ nI (kS A) ≤ a) : (f_X5_requireStation 0 a).1 S = some (.inr "java/util/NoSuchElementException", thrS S) := by
  refine ev_of ?_
  unfold f_X5_requireStation
  refine w_rfc (by omega) ?_
  refine w_t (by omega) ?_
  refine w_ev (e_findStation0 (by omega) h.1 hI hc) ?_
  refine w_n (by omega) ?_
  exact w_thr ⟨rfl, rfl⟩
theorem x_within {lo hi : Int32} : (f_X5_isWithin a lo hi).1 S = some (if lo.toInt ≤ a.toInt ∧ a.toInt ≤ hi.toInt then 1 else 0, S) := by
  refine ev_of ?_
  unfold f_X5_isWithin
  by_cases h1 : a < lo
  · refine w_t h1 (w_rtnZ (Or.inl rfl) ⟨?_, rfl⟩)
    have := Int32.lt_iff_toInt_lt.mp h1
    rw [if_neg (by omega)]
  · refine w_n h1 ?_
    have e1 : ¬ (a.toInt < lo.toInt) := fun w => h1 (Int32.lt_iff_toInt_lt.mpr w)
    by_cases h2 : hi < a
    · refine w_t h2 (w_rtnZ (Or.inl rfl) ⟨?_, rfl⟩)
      have := Int32.lt_iff_toInt_lt.mp h2
      rw [if_neg (by omega)]
    · refine w_n h2 (w_rtnZ (Or.inr rfl) ⟨?_, rfl⟩)
      have e2 : ¬ (hi.toInt < a.toInt) := fun w => h2 (Int32.lt_iff_toInt_lt.mpr w)
      rw [if_pos (by omega)]
theorem x_reqPart (hc : s < 6) : (f_X5_requirePart (nI s)).1 S = some (.inl (), S) := by
  refine ev_of ?_
  unfold f_X5_requirePart
  refine w_ev x_within ?_
  have e : ((0 : Int32).toInt ≤ (nI s).toInt ∧ (nI s).toInt ≤ (5 : Int32).toInt) := by
    rw [nI_toInt (by omega)]
    exact ⟨by show (0 : Int) ≤ _; omega, by show _ ≤ (5 : Int); omega⟩
  rw [if_pos e]
  exact w_n (by decide) (w_rtX ⟨rfl, rfl⟩)
theorem x_reqPart0 (hc : a < 0 ∨ nI 6 ≤ a) : (f_X5_requirePart a).1 S = some (.inr "java/util/NoSuchElementException", thrS S) := by
  refine ev_of ?_
  unfold f_X5_requirePart
  refine w_ev x_within ?_
  have e : ¬ ((0 : Int32).toInt ≤ a.toInt ∧ a.toInt ≤ (5 : Int32).toInt) := by
    rintro ⟨h1, h2⟩
    have h1 : (0 : Int) ≤ a.toInt := h1
    have h2 : a.toInt ≤ (5 : Int) := h2
    rcases hc with h | h
    · rw [Int32.lt_iff_toInt_lt, Int32.toInt_zero] at h; omega
    · rw [Int32.le_iff_toInt_le, nI_toInt (by omega)] at h; omega
  rw [if_neg e]
  exact w_t rfl (w_thr ⟨rfl, rfl⟩)
theorem ag_now (hi : i + 5 ≤ 2560) : agP INV i (f_X5_now 0) f_X6_now := agP_ask (fun S Sm A T k hN => by
  refine ⟨aI A 2 0, pI Sm 5 0 0 0, ev_of ?_, ev_of ?_, TH.rf⟩
  · unfold f_X5_now
    refine w_rfc (by omega) ?_
    refine w_rdc (by omega) ?_
    exact w_rtn ⟨hN.1.1.1 2 (by omega), rfl⟩
  · unfold f_X6_now
    refine w_wrI ?_
    refine w_mldx (j := 232) rfl (by omega) (by omega) ?_
    rw [gI_pI, if_neg (by omega)]
    exact w_rtn ⟨hN.2.1.1.1.2.2.2.2.2.2.2.2.2.1, rfl⟩) hi
theorem ag_stations (hi : i + 5 ≤ 2560) : agP INV i (f_X5_stations 0) f_X6_stations := agP_ask (fun S Sm A T k hN => by
  refine ⟨aI A 0 0, pI Sm 5 0 0 0, ev_of ?_, ev_of ?_, TH.rf⟩
  · unfold f_X5_stations
    refine w_rfc (by omega) ?_
    refine w_rdc (by omega) ?_
    exact w_rtn ⟨hN.1.1.1 0 (by omega), rfl⟩
  · unfold f_X6_stations
    refine w_wrI ?_
    refine w_rdI ?_
    rw [gI_pI, if_neg (by omega)]
    exact w_rtn ⟨hN.2.1.1.1.1.1, rfl⟩) hi
theorem ag_cars (hi : i + 5 ≤ 2560) : agP INV i (f_X5_cars 0) f_X6_cars := agP_ask (fun S Sm A T k hN => by
  refine ⟨aI A 1 0, pI Sm 5 0 0 0, ev_of ?_, ev_of ?_, TH.rf⟩
  · unfold f_X5_cars
    refine w_rfc (by omega) ?_
    refine w_rdc (by omega) ?_
    exact w_rtn ⟨hN.1.1.1 1 (by omega), rfl⟩
  · unfold f_X6_cars
    refine w_wrI ?_
    refine w_rdI ?_
    rw [gI_pI, if_neg (by omega)]
    exact w_rtn ⟨hN.2.1.1.1.h2, rfl⟩) hi
theorem IN.W (h : IN S Sm A T k) : NR (nw Sm) 142 233 (aW A) := h.2.1.1.1.2.2.2.2.2.2.2.2.2.2.1
theorem IN.G (h : IN S Sm A T k) : NR (nw Sm) 202 235 (aG A) := h.2.1.1.1.2.2.2.2.2.2.2.2.2.2.2
theorem ag_waiting (hi : i + 5 ≤ 2560) : agP INV i (f_X5_waiting 0) f_X6_waiting := agP_ask (fun S Sm A T k hN => by
  refine ⟨nI (aW A).length, pI Sm 5 0 0 0, ev_of ?_, ev_of ?_, TH.rf⟩
  · unfold f_X5_waiting
    refine w_rfc (by omega) ?_
    refine w_rfc (by omega) ?_
    refine w_rdc (by omega) ?_
    exact w_rtn ⟨hN.1.1.2.2.2.2.1.2.1, rfl⟩
  · unfold f_X6_waiting
    refine w_wrI ?_
    refine w_mldx (j := 233) rfl (by omega) (by omega) ?_
    rw [gI_pI, if_neg (by omega)]
    exact w_rtn ⟨hN.W.2.1, rfl⟩) hi
theorem ag_looped (hi : i + 5 ≤ 2560) : agP INV i (f_X5_looped 0) f_X6_looped := agP_ask (fun S Sm A T k hN => by
  refine ⟨nI (aO A).length, pI Sm 5 0 0 0, ev_of ?_, ev_of ?_, TH.rf⟩
  · unfold f_X5_looped
    refine w_rfc (by omega) ?_
    refine w_rfc (by omega) ?_
    refine w_rdc (by omega) ?_
    exact w_rtn ⟨hN.1.1.2.2.2.2.2.1.2.1, rfl⟩
  · unfold f_X6_looped
    refine w_wrI ?_
    refine w_mldx (j := 234) rfl (by omega) (by omega) ?_
    rw [gI_pI, if_neg (by omega)]
    exact w_rtn ⟨hN.2.1.2.2.1, rfl⟩) hi
theorem ag_left (hi : i + 5 ≤ 2560) : agP INV i (f_X5_left 0) f_X6_left := agP_ask (fun S Sm A T k hN => by
  refine ⟨nI (aG A).length, pI Sm 5 0 0 0, ev_of ?_, ev_of ?_, TH.rf⟩
  · unfold f_X5_left
    refine w_rfc (by omega) ?_
    refine w_rfc (by omega) ?_
    refine w_rdc (by omega) ?_
    exact w_rtn ⟨hN.1.1.2.2.2.2.2.2.2.1, rfl⟩
  · unfold f_X6_left
    refine w_wrI ?_
    refine w_mldx (j := 235) rfl (by omega) (by omega) ?_
    rw [gI_pI, if_neg (by omega)]
    exact w_rtn ⟨hN.G.2.1, rfl⟩) hi
theorem ag_nextRound (hi : i + 5 ≤ 2560) : agP INV i (f_X5_nextRound 0) f_X6_nextRound := agP_ask (fun S Sm A T k hN => by
  obtain ⟨p, p1, p2, p3⟩ := hN.2.2.1.2.2.2.2.2.2.1.2
  refine ⟨aI A 3 0 - (aI A 2 0 - aI A 2 0 / aI A 3 0 * aI A 3 0), pI Sm 5 0 0 0, ev_of ?_, ev_of ?_, TH.rf⟩
  · unfold f_X5_nextRound
    refine w_rfc (by omega) ?_
    refine w_t (by omega) ?_
    refine w_ev (e_round (by omega) hN.1.1 p3 p1 p2) ?_
    exact w_rtn ⟨rfl, rfl⟩
  · have e1 : gI (pI Sm 5 0 0 0) 1 0 0 = aI A 3 0 := by rw [gI_pI, if_neg (by omega)]; exact hN.2.1.1.1.1.2.1
    have e2 : gI (pI Sm 5 0 0 0) 20 0 232 = aI A 2 0 := by rw [gI_pI, if_neg (by omega)]; exact hN.2.1.1.1.2.2.2.2.2.2.2.2.2.1
    unfold f_X6_nextRound
    refine w_wrI ?_
    refine w_rdI ?_
    refine w_mldx (j := 232) rfl (by omega) (by omega) ?_
    refine w_rdI ?_
    rw [e1, e2]
    exact w_t (by rw [p3]; exact nI_ne0 (by omega) (by omega)) (w_rtn ⟨rfl, rfl⟩)) hi
end ASK
