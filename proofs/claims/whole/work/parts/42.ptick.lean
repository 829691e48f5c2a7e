/-! part 42: passTick; a round by both sides' sums -/
section PT
variable {t k c s : Nat} {S0 S S1 : St} {A : AS} {b : Int32}
theorem e_round {p : Nat} (ht : t < 2) (h : RC t S A) (hp : aI A 3 0 = nI p) (h1 : 1 ≤ p) (h2 : p ≤ 60) : (f_X1_ticksToRound t).1 S = some (aI A 3 0 - (aI A 2 0 - aI A 2 0 / aI A 3 0 * aI A 3 0), S) := by
  refine ev_of ?_
  unfold f_X1_ticksToRound
  refine w_rdc ht ?_
  rw [h.1 3 (by omega)]
  refine w_n (by rw [hp]; show ¬ nI p ≤ nI 0; exact nI_ge (by omega) (by omega)) ?_
  refine w_rdc ht ?_
  refine w_rdc ht ?_
  refine w_rdc ht ?_
  rw [h.1 3 (by omega), h.1 2 (by omega)]
  exact w_t (by rw [hp]; exact nI_ne0 (by omega) (by omega)) (w_rtn ⟨rfl, rfl⟩)
theorem w_passTick {T B : Nat} (ht : t < 2) (h : CR t k S0 S A) (hJ : JA A) (hT : aI A 2 0 = nI T) (hT1 : T < 20000) (hB : ∀ c, c < kC A → (trc A c).length ≤ B) (hB1 : B ≤ 32000) : wp (f_X1_passTick t) S (fun _ S1 => CR t k S0 S1 (aTick A)) := by
  obtain ⟨p, p1, p2, p3⟩ := hJ.2.2.2.2.2.2.1.2
  have h8 := hJ.1.1.2
  have t0 : TB B (kS A) A := fun c hc => ⟨by have := hB c hc; omega, fun _ => hB c hc, fun _ => by have := hB c hc; omega, fun _ _ _ _ => hB c hc⟩
  have j32 : ∀ S1 A1, CR t k S0 S1 A1 → JA A1 → kS A1 = kS A → aI A1 2 0 = nI (T + 1) → TB B (kS A) A1 → wp (f_X1_passTick_J32 t) S1 (fun _ S2 => CR t k S0 S2 (aWait (aBack (aMoves (aCnts A1 1 0 (kS A)) (kS A)) [] (aO (aMoves (aCnts A1 1 0 (kS A)) (kS A)))))) := by
    intro S1 A1 c1 j1 k1 t1 b1
    unfold f_X1_passTick_J32
    refine w_t ht ?_
    have e1 : (1 : Int32) = nI 1 := rfl
    refine w_call (P := fun _ S2 => CR t k S0 S2 (aCnts A1 1 0 (kS A))) ?_ (fun _ S2 c2 => ?_)
    · unfold f_X1_countDown
      exact w_cnts ht (kS A) 400 0 A1 S1 c1 j1.1 j1.P1 (by omega) (by omega)
    · refine w_rdc ht ?_
      refine w_ret ?_
      have j2 : JA (aCnts A1 1 0 (kS A)) := J_cnts (e := 1) (by omega) (kS A) 0 A1 j1 (by omega)
      have k2 : kS (aCnts A1 1 0 (kS A)) = kS A := (kS_cnts _ _ _).trans k1
      rw [c2.1.1 0 (by omega), j2.1.1.1, k2]
      have lo : ∀ (m s : Nat) (A : AS), aI (aCnts A (nI 1) s m) 2 0 = aI A 2 0 := by
        intro m
        induction m with
        | zero => intro s A; rfl
        | succ m ih =>
          intro s A
          rw [aCnts, ih]
          unfold aCnt
          split
          · rfl
          · rw [aI_sI, if_neg (by omega)]
      refine w_movesB ht hB1 (kS A) 400 _ S2 c2 j2 ?_ (by rw [k2]; exact Nat.le_refl _) (TB_cnts (e := 1) _ 0 _ b1) (by omega)
      rw [e1, lo, t1]
      exact nI_ne0 (by omega) (by omega)
  obtain ⟨r1, r2, r3⟩ := J_rnd hJ hT hT1
  have rb := TB_rnd (B := B) (n := kS A) t0
  have fin : aTick A = aWait (aBack (aMoves (aCnts (aRnd A) 1 0 (kS A)) (kS A)) [] (aO (aMoves (aCnts (aRnd A) 1 0 (kS A)) (kS A)))) := rfl
  rw [fin]
  unfold f_X1_passTick
  refine w_t ht ?_
  refine w_ev (e_round ht h.1 p3 p1 p2) ?_
  have ht1 : CR t k S0 (pI S 2 t 0 (aI A 2 0 + 1)) (sI A 2 0 (aI A 2 0 + 1)) := h.li (Or.inl rfl)
  refine w_if (fun q => ?_) (fun q => ?_)
  · unfold f_X1_passTick_J13
    refine w_rdc ht ?_
    refine w_wrc ht ?_
    rw [h.1.1 2 (by omega)]
    refine w_n (by decide) ?_
    refine w_t ht ?_
    have er : aRnd A = aFils (sI A 2 0 (aI A 2 0 + 1)) 0 (kS A) := by unfold aRnd; rw [if_pos q]
    have j1 : JA (sI A 2 0 (aI A 2 0 + 1)) := by rw [hT, nI_1]; exact hJ.s2 (by omega)
    refine w_call (P := fun _ S2 => CR t k S0 S2 (aRnd A)) ?_ (fun _ S2 c2 => ?_)
    · rw [er]
      unfold f_X1_fillShelves
      exact w_fils ht (kS A) 400 0 _ _ ht1 j1.1 j1.PP (by rw [kS_sI (by omega)]; omega) (by omega)
    · exact j32 S2 _ c2 r1 r2 r3 rb
  · unfold f_X1_passTick_J13
    refine w_rdc ht ?_
    refine w_wrc ht ?_
    rw [h.1.1 2 (by omega)]
    refine w_t rfl ?_
    have er : aRnd A = sI A 2 0 (aI A 2 0 + 1) := by unfold aRnd; rw [if_neg q]
    rw [er] at r1 r2 r3 rb ⊢
    exact j32 _ _ ht1 r1 r2 r3 rb
end PT
theorem nI_mod {a p : Nat} (ha : a < 2147483648) (hp : p < 2147483648) (h0 : 0 < p) : nI a - nI a / nI p * nI p = nI (a % p) := by
  have hd : nI a / nI p = nI (a / p) := by
    apply Int32.toInt_inj.mp
    have hle : a / p ≤ a := Nat.div_le_self a p
    rw [nI_toInt (by omega)]
    have h2 : (nI p) ≠ -1 := nI_ne_neg hp
    rw [Int32.toInt_div_of_ne_right _ _ h2, nI_toInt ha, nI_toInt hp]
    rw [Int.ofNat_tdiv]
  have hm : nI (a / p) * nI p = nI (a / p * p) := (Int32.ofNat_mul _ _).symm
  rw [hd, hm]
  have hs : nI a = nI (a % p) + nI (a / p * p) := by
    rw [nI_add]
    congr 1
    have := Nat.mod_add_div a p
    rw [Nat.mul_comm] at this
    omega
  rw [hs, Int32.add_sub_cancel]
/-- the class asks before the tick, the reference after it -/
theorem rd_same {T p : Nat} (hT : T < 20000) (h1 : 1 ≤ p) (h2 : p ≤ 60) : (nI p - (nI T - nI T / nI p * nI p) = 1) ↔ ((nI T + 1) - (nI T + 1) / nI p * nI p = 0) := by
  have hm := Nat.mod_lt T (show p > 0 by omega)
  rw [nI_1, nI_mod (by omega) (by omega) (by omega), nI_mod (by omega) (by omega) (by omega)]
  have e : nI p - nI (T % p) = nI (p - T % p) := by
    have : nI p = nI (p - T % p) + nI (T % p) := by rw [nI_add]; congr 1; omega
    rw [this, Int32.add_sub_cancel]
  rw [e]
  have hm2 := Nat.mod_lt (T + 1) (show p > 0 by omega)
  have key : (p - T % p = 1) ↔ ((T + 1) % p = 0) := by
    have hda := Nat.div_add_mod T p
    constructor
    · intro h
      have : T + 1 = p * (T / p + 1) := by rw [Nat.mul_add]; omega
      rw [this]
      exact Nat.mul_mod_right _ _
    · intro h
      have hdb := Nat.div_add_mod (T + 1) p
      rw [h, Nat.add_zero] at hdb
      by_cases q : T % p + 1 < p
      · exfalso
        have : (T + 1) % p = T % p + 1 := by
          rw [Nat.add_mod, Nat.mod_eq_of_lt (show T % p + 1 % p < p by
            by_cases w : p = 1
            · omega
            · rw [Nat.mod_eq_of_lt (show 1 < p by omega)]; exact q)]
          by_cases w : p = 1
          · omega
          · rw [Nat.mod_eq_of_lt (show 1 < p by omega)]
        omega
      · omega
  constructor
  · intro h
    have h1 : p - T % p = 1 := nI_inj (by omega) (by omega) h
    rw [key.mp h1]; rfl
  · intro h
    have h1 : (T + 1) % p = 0 := nI_inj (by omega) (by omega) h
    rw [key.mpr h1]; rfl
