/-! part 48: the reference's tick is the common one -/
section MT2
variable {q c s x : Nat} {S0 S S1 : St} {A B : AS} {v b : Int32}
theorem log_len : ∀ (l : List (Nat × Int32)), (∀ p, p ∈ l → p.1 < 30) → l.length = sumTo 30 (fun c => (((l.filter (fun p => p.1 == c)).map (fun p => p.2))).length) := by
  intro l
  induction l with
  | nil => intro _; rfl
  | cons a r ih =>
    intro h
    have h1 := ih (fun p hp => h p (List.mem_cons_of_mem _ hp))
    have ha := h a List.mem_cons_self
    have e := sumTo_up (f := fun c => (((r.filter (fun p => p.1 == c)).map (fun p => p.2))).length) (g := fun c => ((((a :: r).filter (fun p => p.1 == c)).map (fun p => p.2))).length) (x := a.1) (fun i hi => by
      have hb : (a.1 == i) = false := by simpa using fun w => hi w.symm
      simp [List.filter_cons, hb]) 30 ha
    have e2 : ((((a :: r).filter (fun p => p.1 == a.1)).map (fun p => p.2))).length = ((((r).filter (fun p => p.1 == a.1)).map (fun p => p.2))).length + 1 := by simp [List.filter_cons]
    rw [List.length_cons]
    omega
theorem sumTo_le {f : Nat → Nat} {M : Nat} : ∀ n : Nat, (∀ i, i < n → f i ≤ M) → sumTo n f ≤ n * M
  | 0, _ => by rw [sumTo]; omega
  | n + 1, h => by
    rw [sumTo, Nat.succ_mul]
    have := sumTo_le n (fun i hi => h i (by omega))
    have := h n (by omega)
    omega
theorem log_le {M fl : Nat} (h : JF fl A) (hM : ∀ c, (trc A c).length ≤ M) : (aT A).length ≤ 30 * M := by
  rw [log_len (aT A) (fun p hp => Nat.lt_of_lt_of_le (h.2.2.2.2.2.2.2.2.1 p hp).1 h.1.2.2)]
  exact sumTo_le 30 (fun i _ => hM i)
theorem TB.log {B m : Nat} (h : JA A) (ht : TB B m A) (hB : B ≤ 32000) : (aT A).length + 1 < 1048576 := by
  have := log_le h (fun c => ht.lenN (c := c) h)
  omega
theorem MB.take (hI : IA A) (h : MB q S0 S A) (hs : s < 8) : MB q S0 (pI S 20 0 (14 + s) (-1)) (sI A 12 s (-1)) := h.n (h.1.at hI hs) (fun f hf i => by rw [aI_sI, if_neg (by omega)]) (fun y w => by rw [aI_sI, if_neg (by omega)] at w; exact w) rfl rfl (MFx.no (by omega) (fun i => by rw [aI_sI, if_neg (by omega)]) (fun i => by rw [aI_sI, if_neg (by omega)]))
theorem w_goesOn (hq : q < 2) (h : MS q S0 S A) (hJ : JA A) (hs : s < kS A) (hl : (aT A).length + 1 < 1048576) : wp (f_X6_goesOn (nI s)) S (fun _ S1 => MS q S0 S1 (aMove A s)) := by
  have hI := hJ.1
  have h30 := hI.2.2
  have h8 := hI.1.2
  obtain ⟨hB, hR⟩ := h
  have e12 : gI S 20 0 (14 + s) = aI A 12 s := hB.1.2.2.2.2.2.1 s hs
  unfold f_X6_goesOn
  refine w_mldx (j := 14 + s) (nI_add 14 s) (by omega) (by omega) ?_
  rw [e12]
  by_cases hn : aI A 12 s = -1
  · exact w_t hn (w_rtn (by unfold aMove; rw [if_pos hn]; exact ⟨hB, hR⟩))
  refine w_n hn ?_
  obtain ⟨p1, p2, p3, p4, p5⟩ := (hJ.2.1 s hs).resolve_left hn
  obtain ⟨g1, g2⟩ := rows_lt hJ hs hn
  generalize hcc : atC A s = c at p1 p2 p3 p4 p5
  have am : aMove A s = (if 0 < aI A 17 c then A else if aI A 18 c = 0 ∧ s + 1 < kS A then (if aI A 12 (s + 1) = -1 then aEnter (sI A 12 s (-1)) c (s + 1) 0 else A) else if aI A 19 c = 0 then aLeave (sI A 12 s (-1)) c else aLoop (sI A 12 s (-1)) c) := by
    unfold aMove
    rw [if_neg hn, hcc]
  rw [am, p1]
  obtain ⟨t1, t2⟩ := hB.1.2.2.2.2.2.2.2.2.1 c p2 p4
  refine w_mldx (j := 22 + c) (nI_add 22 c) (by omega) (by omega) ?_
  rw [show gI S 20 0 (22 + c) = aI A 17 c from t1]
  obtain ⟨-, -, -, c18, ⟨g, gg1, gg2⟩, -⟩ := hJ.2.2.2.2.1 c p2
  by_cases hgo : 0 < aI A 17 c
  · rw [if_pos hgo]
    refine w_n (fun w => ?_) (w_rtn ⟨hB, hR⟩)
    rw [gg2] at hgo w
    rw [Int32.lt_iff_toInt_lt, Int32.toInt_zero] at hgo
    rw [Int32.le_iff_toInt_le, Int32.toInt_zero] at w
    omega
  rw [if_neg hgo]
  refine w_t (by
    rw [gg2] at hgo ⊢
    rw [Int32.lt_iff_toInt_lt, Int32.toInt_zero] at hgo
    rw [Int32.le_iff_toInt_le, Int32.toInt_zero]
    omega) ?_
  refine w_mldx (j := 52 + c) (nI_add 52 c) (by omega) (by omega) ?_
  rw [show gI S 20 0 (52 + c) = aI A 18 c from t2]
  have hB1 := hB.take hI (show s < 8 by omega)
  have hR1 : NR (nw (pI S 20 0 (14 + s) (-1))) 172 234 (aO A) := by rw [nw_pI]; exact hR.up (by omega) (by omega)
  have hI1 : IA (sI A 12 s (-1)) := hI.sI (by omega)
  have gB : ∀ f i, f ≠ 12 → aI (sI A 12 s (-1)) f i = aI A f i := fun f i w => by rw [aI_sI, if_neg (fun z => w z.1)]
  have j51 : wp (f_X6_goesOn_J51 (nI s) (nI c)) S (fun _ S1 => MS q S0 S1 (if aI A 19 c = 0 then aLeave (sI A 12 s (-1)) c else aLoop (sI A 12 s (-1)) c)) := by
    unfold f_X6_goesOn_J51
    refine w_mstx (j := 14 + s) (nI_add 14 s) (by omega) (by omega) ?_
    have := w_leavesLine (c := c) hq hI1 ⟨hB1, hR1⟩ (by rw [kC_sI (by omega)]; exact p2) (show (aT A).length < 1048576 by omega) g1 g2
    rw [gB 19 c (by omega)] at this
    refine w_call this (fun _ S2 h2 => w_rtn h2)
  by_cases hb : aI A 18 c = 1
  · refine w_t hb ?_
    rw [if_neg (fun w => by rw [hb] at w; exact absurd w.1 (by decide))]
    exact j51
  refine w_n hb ?_
  have hb0 := c18.1.resolve_right hb
  refine w_rdI ?_
  rw [hB.1.1.1, hI.1.1, nI_sub1 (by omega)]
  by_cases hlast : s = kS A - 1
  · refine w_t (by rw [← hlast]) ?_
    rw [if_neg (by omega)]
    exact j51
  refine w_n (fun w => hlast (nI_inj (by omega) (by omega) w)) ?_
  rw [if_pos ⟨hb0, by omega⟩]
  refine w_mldx (j := 14 + (s + 1)) (by rw [show (14 : Int32) + nI s = nI (14 + s) from nI_add 14 s, nI_1]; rfl) (by omega) (by omega) ?_
  rw [show gI S 20 0 (14 + (s + 1)) = aI A 12 (s + 1) from hB.1.2.2.2.2.2.1 (s + 1) (by omega)]
  by_cases hf : aI A 12 (s + 1) = -1
  · refine w_t hf ?_
    rw [if_pos hf]
    refine w_mstx (j := 14 + s) (nI_add 14 s) (by omega) (by omega) ?_
    rw [nI_1]
    have hent : ¬ aI A 20 c = 0 := by
      have := (hJ.2.2.2.2.1 c p2).2.2.2.2.2.2.2 (by rw [p4]; decide)
      exact this.1
    refine w_call (w_enters (b := 0) hq hI1 hB1 (by rw [kC_sI (by omega)]; exact p2) (by rw [kS_sI (by omega)]; omega) (Or.inl rfl) hl (fun _ => ⟨fun w => absurd (by rw [← gB 20 c (by omega)]; exact w) hent, fun w => absurd w.1 (by omega)⟩)) (fun _ S2 h2 => ?_)
    exact w_rtn ⟨h2.1, by rw [aEnter_R.2.1]; exact NR.lf hR1 h2.2⟩
  · refine w_n hf ?_
    rw [if_neg hf]
    exact w_rtn ⟨hB, hR⟩
/-- the stations fill up -/
theorem w_mfils (hq : q < 2) : ∀ (m n s : Nat) (A : AS) (S : St), MS q S0 S A → IA A → PP A → s + m = kS A → m < n → wp (f_X6_fillsUp_L2 n (nI s)) S (fun _ S1 => MS q S0 S1 (aFils A s m)) := by
  intro m
  induction m with
  | zero =>
    intro n s A S h hI h1 hm hn
    obtain ⟨n, rfl⟩ : ∃ k, n = k + 1 := ⟨n - 1, by omega⟩
    rw [f_X6_fillsUp_L2]
    refine w_rdI ?_
    rw [h.1.1.1.1, hI.1.1]
    exact w_t (nI_le (by omega) (by have := hI.1.2; omega)) (w_rtn h)
  | succ m ih =>
    intro n s A S h hI h1 hm hn
    obtain ⟨n, rfl⟩ : ∃ k, n = k + 1 := ⟨n - 1, by omega⟩
    have hs : s < kS A := by omega
    have h8 := hI.1.2
    obtain ⟨g7, g8, g9, g10⟩ := h.1.1.2.1 s hs
    have g6 : gI S 20 0 (6 + s) = aI A 11 s := h.1.1.2.2.2.2.1 s hs
    rw [f_X6_fillsUp_L2, aFils]
    refine w_rdI ?_
    rw [h.1.1.1.1, hI.1.1]
    refine w_n (nI_ge hs (by omega)) ?_
    refine w_mldx rfl (show s < 8 by omega) (by omega) ?_
    rw [g8, nI_1]
    rcases h1 s hs with w | ⟨w1, w2⟩
    · refine w_t w ?_
      have e : aFil A s = A := by unfold aFil; rw [if_pos w]
      rw [e]
      exact ih n (s + 1) A S h hI h1 (by omega) (by omega)
    · have hn8 : ¬ aI A 8 s = -1 := by rw [w1]; exact nI_ne_neg (by omega)
      have gp : gI S 20 0 (prt A s) = aI A 4 (prt A s) := h.1.1.2.2.2.1 _ w2
      refine w_n hn8 ?_
      refine w_mldx rfl (show s < 8 by omega) (by omega) ?_
      refine w_mldx (j := 6 + s) (nI_add 6 s) (by omega) (by omega) ?_
      rw [g10, g6]
      refine w_ret ?_
      refine w_mldx (j := prt A s) w1 (by omega) (by omega) ?_
      rw [gp]
      have fin : ∀ z : Int32, z = (if aI A 4 (prt A s) < aI A 10 s - aI A 11 s then aI A 4 (prt A s) else aI A 10 s - aI A 11 s) → wp (bnd (mld 20 237 ((6 : Int32) + nI s)) (fun v70 => bnd (mst 20 237 ((6 : Int32) + nI s) (v70 + z)) (fun _ => bnd (mld 20 237 (aI A 8 s)) (fun v81 => bnd (mst 20 237 (aI A 8 s) (v81 - z)) (fun _ => f_X6_fillsUp_L2 n (nI (s + 1))))))) S (fun _ S1 => MS q S0 S1 (aFils (aFil A s) (s + 1) m)) := by
        intro z hz
        refine w_mldx (j := 6 + s) (nI_add 6 s) (by omega) (by omega) ?_
        rw [g6]
        refine w_mstx (j := 6 + s) (nI_add 6 s) (by omega) (by omega) ?_
        refine w_mldx (j := prt A s) w1 (by omega) (by omega) ?_
        have e4 : gI (pI S 20 0 (6 + s) (aI A 11 s + z)) 20 0 (prt A s) = aI A 4 (prt A s) := by rw [gI_pI, if_neg (by omega)]; exact gp
        rw [e4]
        refine w_mstx (j := prt A s) w1 (by omega) (by omega) ?_
        have e : aFil A s = sI (sI A 11 s (aI A 11 s + z)) 4 (prt A s) (aI A 4 (prt A s) - z) := by
          unfold aFil
          rw [if_neg hn8, ← hz]
        rw [e]
        have hI1 : IA (sI A 11 s (aI A 11 s + z)) := hI.sI (by omega)
        have hB1 : MB q S0 (pI S 20 0 (6 + s) (aI A 11 s + z)) (sI A 11 s (aI A 11 s + z)) := h.1.n (h.1.1.sh hI (by omega)) (fun f hf i => by rw [aI_sI, if_neg (by omega)]) (fun y w => by rw [aI_sI, if_neg (by omega)] at w; exact w) rfl rfl (MFx.sh (by omega))
        have hB2 : MB q S0 (pI (pI S 20 0 (6 + s) (aI A 11 s + z)) 20 0 (prt A s) (aI A 4 (prt A s) - z)) (sI (sI A 11 s (aI A 11 s + z)) 4 (prt A s) (aI A 4 (prt A s) - z)) := hB1.n (hB1.1.store hI1 w2) (fun f hf i => by rw [aI_sI, if_neg (by omega)]) (fun y w => by rw [aI_sI, if_neg (by omega)] at w; exact w) rfl rfl (MFx.no (by omega) (fun i => by rw [aI_sI, if_neg (by omega)]) (fun i => by rw [aI_sI, if_neg (by omega)]))
        refine ih n (s + 1) _ _ ⟨hB2, ?_⟩ (hI1.sI (by omega)) ?_ (by rw [kS_sI (by omega), kS_sI (by omega)]; omega) (by omega)
        · rw [nw_pI]
          refine NR.up ?_ (by omega) (by omega)
          rw [nw_pI]
          exact h.2.up (by omega) (by omega)
        · intro y hy
          rw [kS_sI (by omega), kS_sI (by omega)] at hy
          have := h1 y hy
          unfold prt at this ⊢
          rw [aI_sI, if_neg (by omega), aI_sI, if_neg (by omega)]
          exact this
      by_cases hle : aI A 4 (prt A s) ≤ aI A 10 s - aI A 11 s
      · refine w_t hle ?_
        refine w_mldx (j := prt A s) w1 (by omega) (by omega) ?_
        rw [gp]
        refine fin _ ?_
        by_cases hlt : aI A 4 (prt A s) < aI A 10 s - aI A 11 s
        · rw [if_pos hlt]
        · rw [if_neg hlt]
          exact Int32.le_antisymm hle (Int32.not_lt.mp hlt)
      · refine w_n hle ?_
        refine fin _ ?_
        rw [if_neg (fun w => hle (Int32.le_of_lt w))]
end MT2
