/-! part 50: the invariant of the two sides -/
/-- stations and cars that aren't there yet -/
def FR0 (A : AS) : Prop := (∀ s, kS A ≤ s → s < 8 → aI A 11 s = 0 ∧ aI A 12 s = -1 ∧ aI A 13 s = 0) ∧ ∀ c, kC A ≤ c → c < 30 → aI A 15 c = 119 ∧ aI A 16 c = -1 ∧ aI A 17 c = 0 ∧ aI A 18 c = 0 ∧ aI A 19 c = 0 ∧ aI A 20 c = 0 ∧ aI A 21 c = 0
section F0
variable {A B : AS} {c s : Nat} {b : Int32}
theorem FR0.cg (h : FR0 A) (hS : kS B = kS A) (hC : kC B = kC A) (h1 : ∀ f s, 11 ≤ f → f ≤ 13 → kS A ≤ s → aI B f s = aI A f s) (h2 : ∀ f c, 15 ≤ f → f ≤ 21 → kC A ≤ c → aI B f c = aI A f c) : FR0 B := by
  unfold FR0
  rw [hS, hC]
  exact ⟨fun s a d => by rw [h1 11 s (by omega) (by omega) a, h1 12 s (by omega) (by omega) a, h1 13 s (by omega) (by omega) a]; exact h.1 s a d, fun c a d => by rw [h2 15 c (by omega) (by omega) a, h2 16 c (by omega) (by omega) a, h2 17 c (by omega) (by omega) a, h2 18 c (by omega) (by omega) a, h2 19 c (by omega) (by omega) a, h2 20 c (by omega) (by omega) a, h2 21 c (by omega) (by omega) a]; exact h.2 c a d⟩
theorem FR0.enter (h : FR0 A) (hc : c < kC A) (hs : s < kS A) : FR0 (aEnter A c s b) :=
  h.cg (by unfold kS; rw [aEnter_o (by omega)]) (by unfold kC; rw [aEnter_o (by omega)]) (fun f y a d e => aEnter_o (Or.inr (Or.inr (Or.inl ⟨by omega, by omega⟩)))) (fun f y a d e => aEnter_o (Or.inr (Or.inr (Or.inr ⟨by omega, by omega⟩))))
theorem FR0.move (h : FR0 A) (hJ : JA A) (hs : s < kS A) : FR0 (aMove A s) := by
  unfold aMove
  by_cases hn : aI A 12 s = -1
  · rw [if_pos hn]; exact h
  · rw [if_neg hn]
    obtain ⟨p1, p2, p3, p4, p5⟩ := (hJ.2.1 s hs).resolve_left hn
    generalize hcc : atC A s = c at p1 p2 p3 p4 p5
    have hB : FR0 (sI A 12 s (-1)) := h.cg (kS_sI (by omega)) (kC_sI (by omega)) (fun f y a d e => by rw [aI_sI, if_neg (by omega)]) (fun f y a d e => by rw [aI_sI, if_neg (by omega)])
    have eS : kS (sI A 12 s (-1)) = kS A := kS_sI (by omega)
    have eC : kC (sI A 12 s (-1)) = kC A := kC_sI (by omega)
    split
    · exact h
    · split
      · rename_i h2
        split
        · exact hB.enter (by rw [eC]; exact p2) (by rw [eS]; exact h2.2)
        · exact h
      · split
        · exact hB.cg (by unfold kS aLeave; rw [aI_note, aI_sG, aI_sI, if_neg (by omega), aAway_o (by omega)]) (by unfold kC aLeave; rw [aI_note, aI_sG, aI_sI, if_neg (by omega), aAway_o (by omega)]) (fun f y a d e => by unfold aLeave; rw [aI_note, aI_sG, aI_sI, if_neg (by omega), aAway_o (by omega)]) (fun f y a d e => by rw [eC] at e; unfold aLeave; rw [aI_note, aI_sG, aI_sI, if_neg (by omega), aAway_o (by omega)])
        · exact hB.cg (by unfold kS aLoop; rw [aI_note, aI_sO, aAway_o (by omega)]) (by unfold kC aLoop; rw [aI_note, aI_sO, aAway_o (by omega)]) (fun f y a d e => by unfold aLoop; rw [aI_note, aI_sO, aAway_o (by omega)]) (fun f y a d e => by rw [eC] at e; unfold aLoop; rw [aI_note, aI_sO, aAway_o (by omega)])
theorem FR0.moves : ∀ (n : Nat) (A : AS), FR0 A → JA A → aI A 2 0 ≠ 0 → n ≤ kS A → FR0 (aMoves A n)
  | 0, A, h, _, _, _ => h
  | n + 1, A, h, hJ, hT, hn => by
    rw [aMoves]
    exact FR0.moves n _ (h.move hJ (by omega)) (J_move hJ (by omega) hT) (by rw [move_lo (by omega)]; exact hT) (by rw [kS_move]; omega)
theorem FR0.cnt (h : FR0 A) (hJ : JA A) (hs : s < kS A) {e : Int32} : FR0 (aCnt A e s) := by
  unfold aCnt
  split
  · exact h
  · rename_i hn
    obtain ⟨p1, p2, p3, p4, p5⟩ := (hJ.2.1 s hs).resolve_left hn
    exact h.cg (kS_sI (by omega)) (kC_sI (by omega)) (fun f y a d e => by rw [aI_sI, if_neg (by omega)]) (fun f y a d e => by rw [aI_sI, if_neg (by omega)])
theorem FR0.cnts {e : Nat} (he : e ≤ 300) : ∀ (m s : Nat) (A : AS), FR0 A → JA A → s + m = kS A → FR0 (aCnts A (nI e) s m)
  | 0, s, A, h, _, _ => h
  | m + 1, s, A, h, hJ, hm => by
    rw [aCnts]
    exact FR0.cnts he m (s + 1) _ (h.cnt hJ (by omega)) (J_cnt hJ (by omega) he) (by rw [kS_cnt]; omega)
theorem FR0.fils : ∀ (m s : Nat) (A : AS), FR0 A → s + m = kS A → FR0 (aFils A s m)
  | 0, s, A, h, _ => h
  | m + 1, s, A, h, hm => by
    rw [aFils]
    refine FR0.fils m (s + 1) _ ?_ (by rw [kS_fil]; omega)
    unfold aFil
    split
    · exact h
    · exact h.cg ((kS_sI (by omega)).trans (kS_sI (by omega))) ((kC_sI (by omega)).trans (kC_sI (by omega))) (fun f y a d e => by dsimp only; rw [aI_sI, if_neg (by omega), aI_sI, if_neg (by omega)]) (fun f y a d e => by dsimp only; rw [aI_sI, if_neg (by omega), aI_sI, if_neg (by omega)])
theorem FR0.rnd (h : FR0 A) : FR0 (aRnd A) := by
  have h1 : FR0 (sI A 2 0 (aI A 2 0 + 1)) := h.cg (kS_sI (by omega)) (kC_sI (by omega)) (fun f y a d e => by rw [aI_sI, if_neg (by omega)]) (fun f y a d e => by rw [aI_sI, if_neg (by omega)])
  unfold aRnd
  split
  · exact FR0.fils _ _ _ h1 (by rw [kS_sI (by omega)]; omega)
  · exact h1
theorem FR0.back : ∀ (td st : List Nat) (A : AS), FR0 A → JA A → aI A 2 0 ≠ 0 → aO A = st ++ td → FR0 (aBack A st td)
  | [], st, A, h, _, _, _ => h
  | c :: r, st, A, h, hJ, hT, hO => by
    rw [aBack]
    obtain ⟨k1, k2, k3⟩ := J_offO hJ hO
    have hlow := low_lt hJ k2 k3
    by_cases hf : aI A 12 (low (aI A 19 c)) = -1
    · rw [if_pos hf]
      have h1 := J_enter (s := low (aI A 19 c)) (b := 1) k1 k2 hlow hf (Or.inr rfl) hT
      exact FR0.back r st _ (FR0.enter (A := sO A (st ++ r)) (h.cg rfl rfl (fun _ _ _ _ _ => rfl) (fun _ _ _ _ _ => rfl)) k2 hlow) h1 (by rw [aEnter_o (by omega)]; exact hT) (by rw [aEnter_R.2.1]; rfl)
    · rw [if_neg hf]
      exact FR0.back r (st ++ [c]) A h hJ hT (by rw [hO]; simp)
theorem FR0.wait (h : FR0 A) (hJ : JA A) : FR0 (aWait A) := by
  unfold aWait
  cases hW : aW A with
  | nil => exact h
  | cons c r =>
    obtain ⟨k1, k2, k3⟩ := J_offW hJ hW
    have hS0 : 0 < kS A := Nat.pos_of_ne_zero fun w => by
      have := hJ.2.2.2.2.2.2.2.1 w
      omega
    dsimp only
    split
    · exact FR0.enter (A := sW A r) (h.cg rfl rfl (fun _ _ _ _ _ => rfl) (fun _ _ _ _ _ => rfl)) k2 hS0
    · exact h
theorem FR0.tick {T : Nat} (h : FR0 A) (hJ : JA A) (hT : aI A 2 0 = nI T) (hT1 : T < 20000) : FR0 (aTick A) := by
  obtain ⟨a1, a2, a3⟩ := J_rnd hJ hT hT1
  have a4 := J_cnts (e := 1) (by omega) (kS A) 0 (aRnd A) a1 (by omega)
  have e1 : (1 : Int32) = nI 1 := rfl
  have lo : ∀ (m s : Nat) (A : AS), aI (aCnts A (nI 1) s m) 2 0 = aI A 2 0 := by
    intro m
    induction m with
    | zero => intro s A; rfl
    | succ m ih =>
      intro s A
      rw [aCnts, ih]
      unfold aCnt
      split
      · rfl
      · rw [aI_sI, if_neg (by omega)]
  have tne : aI (aCnts (aRnd A) (nI 1) 0 (kS A)) 2 0 ≠ 0 := by rw [lo, a3]; exact nI_ne0 (by omega) (by omega)
  have kk : kS (aCnts (aRnd A) (nI 1) 0 (kS A)) = kS A := (kS_cnts _ _ _).trans a2
  have f4 : FR0 (aCnts (aRnd A) (nI 1) 0 (kS A)) := FR0.cnts (by omega) (kS A) 0 (aRnd A) h.rnd a1 (by omega)
  have f5 := FR0.moves (kS A) _ f4 a4 tne (by rw [kk]; exact Nat.le_refl _)
  have a5 := J_moves (kS A) _ a4 tne (by rw [kk]; exact Nat.le_refl _)
  obtain ⟨m1, m2, m3⟩ := kS_moves (kS A) (aCnts (aRnd A) (nI 1) 0 (kS A))
  have tne1 : aI (aTick1 A) 2 0 ≠ 0 := by unfold aTick1; rw [e1, m3 2 0 (by omega)]; exact tne
  have f6 := FR0.back (aO (aTick1 A)) [] (aTick1 A) f5 a5 tne1 rfl
  obtain ⟨a6, g2⟩ := J_back (aO (aTick1 A)) [] (aTick1 A) a5 tne1 rfl
  exact f6.wait a6
end F0
/-- when each car entered and left -/
def LT (v : Int32) : Prop := ∃ t, t ≤ 20000 ∧ v = nI t
def LB (A : AS) : Prop := ∀ c, LT (aI A 21 c) ∧ LT (aI A 22 c)
section LBS
variable {A B : AS} {c s : Nat} {b : Int32}
theorem LB.cg (h : LB A) (h' : ∀ f i, f = 21 ∨ f = 22 → aI B f i = aI A f i ∨ LT (aI B f i)) : LB B := fun i =>
  ⟨(h' 21 i (Or.inl rfl)).elim (fun e => by rw [e]; exact (h i).1) id, (h' 22 i (Or.inr rfl)).elim (fun e => by rw [e]; exact (h i).2) id⟩
theorem aEnter_22 : aI (aEnter A c s b) 22 c = aI A 22 c := by
  unfold aEnter
  rw [aI_note, aI_note]
  have e1 : ∀ B : AS, aI (aFlt B c s (aSign A c s b)) 22 c = aI B 22 c := fun B => by
    unfold aFlt
    split
    · rw [aI_sI, if_neg (by omega)]
    · split
      · rw [aI_sI, if_neg (by omega)]
      · rfl
  rw [e1]
  unfold aStand
  rw [aI_sI, if_neg (by omega), aI_sI, if_neg (by omega), aI_sI, if_neg (by omega), aI_sI, if_neg (by omega), aI_sI, if_neg (by omega), aI_sI, if_neg (by omega), aServe_I (by omega)]
  unfold aFirst
  split
  · rw [aI_sI, if_neg (by omega)]
  · rfl
theorem LB.enter (h : LB A) (hT : LT (aI A 2 0)) : LB (aEnter A c s b) := h.cg (fun f i hf => by
  by_cases hi : i = c
  · subst hi
    rcases hf with rfl | rfl
    · rw [aEnter_21]
      split
      · exact Or.inr hT
      · exact Or.inl rfl
    · exact Or.inl aEnter_22
  · exact Or.inl (aEnter_o (Or.inr (Or.inr (Or.inr ⟨by omega, hi⟩)))))
theorem LB.move (h : LB A) (hT : LT (aI A 2 0)) : LB (aMove A s) := by
  unfold aMove
  have hB : LB (sI A 12 s (-1)) := h.cg (fun f i hf => Or.inl (by rw [aI_sI, if_neg (by omega)]))
  have hT1 : aI (sI A 12 s (-1)) 2 0 = aI A 2 0 := by rw [aI_sI, if_neg (by omega)]
  split
  · exact h
  · split
    · exact h
    · split
      · split
        · exact hB.enter (by rw [hT1]; exact hT)
        · exact h
      · split
        · refine hB.cg (fun f i hf => ?_)
          unfold aLeave
          rw [aI_note, aI_sG, aI_sI]
          by_cases e : f = 22 ∧ i = atC A s
          · rw [if_pos e, hT1]; exact Or.inr hT
          · rw [if_neg e, aAway_o (by omega)]; exact Or.inl rfl
        · refine hB.cg (fun f i hf => Or.inl ?_)
          unfold aLoop
          rw [aI_note, aI_sO, aAway_o (by omega)]
theorem LB.moves : ∀ (n : Nat) (A : AS), LB A → LT (aI A 2 0) → LB (aMoves A n)
  | 0, A, h, _ => h
  | n + 1, A, h, hT => by
    rw [aMoves]
    exact LB.moves n _ (h.move hT) (by rw [move_lo (by omega)]; exact hT)
theorem LB.cnts {e : Int32} : ∀ (m s : Nat) (A : AS), LB A → LB (aCnts A e s m)
  | 0, s, A, h => h
  | m + 1, s, A, h => by
    rw [aCnts]
    refine LB.cnts m (s + 1) _ ?_
    unfold aCnt
    split
    · exact h
    · exact h.cg (fun f i hf => Or.inl (by rw [aI_sI, if_neg (by omega)]))
theorem LB.fils : ∀ (m s : Nat) (A : AS), LB A → LB (aFils A s m)
  | 0, s, A, h => h
  | m + 1, s, A, h => by
    rw [aFils]
    refine LB.fils m (s + 1) _ ?_
    unfold aFil
    split
    · exact h
    · exact h.cg (fun f i hf => Or.inl (by dsimp only; rw [aI_sI, if_neg (by omega), aI_sI, if_neg (by omega)]))
theorem LB.rnd (h : LB A) : LB (aRnd A) := by
  have h1 : LB (sI A 2 0 (aI A 2 0 + 1)) := h.cg (fun f i hf => Or.inl (by rw [aI_sI, if_neg (by omega)]))
  unfold aRnd
  split
  · exact LB.fils _ _ _ h1
  · exact h1
theorem LB.back : ∀ (td st : List Nat) (A : AS), LB A → LT (aI A 2 0) → LB (aBack A st td)
  | [], st, A, h, _ => h
  | c :: r, st, A, h, hT => by
    rw [aBack]
    split
    · exact LB.back r st _ (LB.enter (A := sO A (st ++ r)) (h.cg (fun _ _ _ => Or.inl rfl)) hT) (by rw [aEnter_o (by omega)]; exact hT)
    · exact LB.back r (st ++ [c]) A h hT
theorem LB.wait (h : LB A) (hT : LT (aI A 2 0)) : LB (aWait A) := by
  unfold aWait
  cases hW : aW A with
  | nil => exact h
  | cons c r =>
    dsimp only
    split
    · exact LB.enter (A := sW A r) (h.cg (fun _ _ _ => Or.inl rfl)) hT
    · exact h
theorem back_2 : ∀ (td st : List Nat) (A : AS), aI (aBack A st td) 2 0 = aI A 2 0
  | [], st, A => rfl
  | c :: r, st, A => by
    rw [aBack]
    split
    · rw [back_2 r st, aEnter_o (by omega)]; rfl
    · exact back_2 r (st ++ [c]) A
theorem LB.tick {T : Nat} (h : LB A) (hJ : JA A) (hT : aI A 2 0 = nI T) (hT1 : T < 20000) : LB (aTick A) := by
  obtain ⟨a1, a2, a3⟩ := J_rnd hJ hT hT1
  have e1 : (1 : Int32) = nI 1 := rfl
  have lo : ∀ (m s : Nat) (A : AS), aI (aCnts A (nI 1) s m) 2 0 = aI A 2 0 := by
    intro m
    induction m with
    | zero => intro s A; rfl
    | succ m ih =>
      intro s A
      rw [aCnts, ih]
      unfold aCnt
      split
      · rfl
      · rw [aI_sI, if_neg (by omega)]
  have t0 : LT (aI (aCnts (aRnd A) (nI 1) 0 (kS A)) 2 0) := by rw [lo, a3]; exact ⟨T + 1, by omega, rfl⟩
  have f5 := LB.moves (kS A) _ (LB.cnts (e := nI 1) (kS A) 0 (aRnd A) h.rnd) t0
  obtain ⟨m1, m2, m3⟩ := kS_moves (kS A) (aCnts (aRnd A) (nI 1) 0 (kS A))
  have t1 : LT (aI (aTick1 A) 2 0) := by unfold aTick1; rw [e1, m3 2 0 (by omega)]; exact t0
  have f6 := LB.back (aO (aTick1 A)) [] (aTick1 A) f5 t1
  exact f6.wait (by rw [back_2]; exact t1)
end LBS
/-- a car that stands nowhere has no station -/
def NS (A : AS) : Prop := ∀ c, aI A 15 c = 115 ∨ aI A 16 c = -1
section NSS
variable {A B : AS} {c s : Nat} {b : Int32}
theorem NS.cg (h : NS A) (h' : ∀ c, (aI B 15 c = aI A 15 c ∧ aI B 16 c = aI A 16 c) ∨ aI B 15 c = 115 ∨ aI B 16 c = -1) : NS B := fun c =>
  (h' c).elim (fun e => by rw [e.1, e.2]; exact h c) id
theorem NS.enter (h : NS A) : NS (aEnter A c s b) := h.cg (fun i => by
  by_cases hi : i = c
  · subst hi
    refine Or.inr (Or.inl ?_)
    rw [aEnter_c (by omega)]; rfl
  · exact Or.inl ⟨aEnter_o (Or.inr (Or.inr (Or.inr ⟨by omega, hi⟩))), aEnter_o (Or.inr (Or.inr (Or.inr ⟨by omega, hi⟩)))⟩)
theorem NS.away {z : Int32} (h : NS A) : NS (aAway A c z) := h.cg (fun i => by
  by_cases hi : i = c
  · subst hi
    refine Or.inr (Or.inr ?_)
    unfold aAway
    rw [aI_sI, if_neg (by omega), aI_sI, if_neg (by omega), aI_sI, if_pos ⟨rfl, rfl⟩]
  · exact Or.inl ⟨aAway_o (by omega), aAway_o (by omega)⟩)
theorem NS.move (h : NS A) : NS (aMove A s) := by
  unfold aMove
  have hB : NS (sI A 12 s (-1)) := h.cg (fun i => Or.inl ⟨by rw [aI_sI, if_neg (by omega)], by rw [aI_sI, if_neg (by omega)]⟩)
  split
  · exact h
  · split
    · exact h
    · split
      · split
        · exact hB.enter
        · exact h
      · split
        · refine (NS.away (c := atC A s) (z := 100) hB).cg (fun i => Or.inl ?_)
          unfold aLeave
          rw [aI_note, aI_sG, aI_sI, if_neg (by omega), aI_note, aI_sG, aI_sI, if_neg (by omega)]
          exact ⟨rfl, rfl⟩
        · exact (NS.away (c := atC A s) (z := 108) hB).cg (fun i => Or.inl ⟨rfl, rfl⟩)
theorem NS.moves : ∀ (n : Nat) (A : AS), NS A → NS (aMoves A n)
  | 0, A, h => h
  | n + 1, A, h => by
    rw [aMoves]
    exact NS.moves n _ h.move
theorem NS.cnts {e : Int32} : ∀ (m s : Nat) (A : AS), NS A → NS (aCnts A e s m)
  | 0, s, A, h => h
  | m + 1, s, A, h => by
    rw [aCnts]
    refine NS.cnts m (s + 1) _ ?_
    unfold aCnt
    split
    · exact h
    · exact h.cg (fun i => Or.inl ⟨by rw [aI_sI, if_neg (by omega)], by rw [aI_sI, if_neg (by omega)]⟩)
theorem NS.fils : ∀ (m s : Nat) (A : AS), NS A → NS (aFils A s m)
  | 0, s, A, h => h
  | m + 1, s, A, h => by
    rw [aFils]
    refine NS.fils m (s + 1) _ ?_
    unfold aFil
    split
    · exact h
    · exact h.cg (fun i => Or.inl ⟨by dsimp only; rw [aI_sI, if_neg (by omega), aI_sI, if_neg (by omega)], by dsimp only; rw [aI_sI, if_neg (by omega), aI_sI, if_neg (by omega)]⟩)
theorem NS.rnd (h : NS A) : NS (aRnd A) := by
  have h1 : NS (sI A 2 0 (aI A 2 0 + 1)) := h.cg (fun i => Or.inl ⟨by rw [aI_sI, if_neg (by omega)], by rw [aI_sI, if_neg (by omega)]⟩)
  unfold aRnd
  split
  · exact NS.fils _ _ _ h1
  · exact h1
theorem NS.back : ∀ (td st : List Nat) (A : AS), NS A → NS (aBack A st td)
  | [], st, A, h => h
  | c :: r, st, A, h => by
    rw [aBack]
    split
    · exact NS.back r st _ (NS.enter (A := sO A (st ++ r)) h)
    · exact NS.back r (st ++ [c]) A h
theorem NS.wait (h : NS A) : NS (aWait A) := by
  unfold aWait
  cases hW : aW A with
  | nil => exact h
  | cons c r =>
    dsimp only
    split
    · exact NS.enter (A := sW A r) h
    · exact h
theorem NS.tick (h : NS A) : NS (aTick A) := (NS.back _ _ _ (NS.moves _ _ (NS.cnts _ _ _ h.rnd))).wait
end NSS
/-- what both sides are, by the common state -/
def IN (S Sm : St) (A : AS) (T k : Nat) : Prop := CR 0 k S S A ∧ MS 0 Sm Sm A ∧ JA A ∧ (aI A 2 0 = nI T ∧ T ≤ 9999) ∧ (∀ c, c < kC A → (trc A c).length ≤ 3 * T) ∧ FR0 A ∧ LB A ∧ NS A
def INV (n : Nat) (S Sm : St) : Prop := ∃ (A : AS) (T k : Nat), IN S Sm A T k ∧ 5 * k ≤ n ∧ n ≤ 2564
section IV
variable {n k T : Nat} {S Sm S1 Sm1 : St} {A : AS}
theorem RC.n9 {t : Nat} (h : RC t S A) (hk : ∀ f i j, gI S1 f i j = gI S f i j) : RC t S1 A := h.cg (fun f i j _ => hk f i j)
/-- the class's side, when only counts or the heap's size have changed -/
theorem CR.n9 {k1 : Nat} {S0 : St} (h : CR 0 k S0 S A) (hk : ∀ f i j, gI S1 f i j = gI S f i j) (hL : ∀ i, gL S1 i = gL S i) (hN : ∀ i, gN S1 0 i = gN S 0 i) (h3 : gN S1 3 0 + 6 * k ≤ gN S 3 0 + 6 * k1) (h7 : gN S1 7 0 + k ≤ gN S 7 0 + k1) : CR 0 k1 S1 S1 A := by
  obtain ⟨a1, a2, a3, a4⟩ := h
  obtain ⟨x1, x2, x3, x4, x5⟩ := a2 rfl
  have ec : capS S1 = capS S := sumTo_cg 30 (fun i _ => hN i)
  refine ⟨a1.n9 hk, fun _ => ⟨fun s hs => ⟨by rw [hk]; exact (x1 s hs).1, by rw [hL]; exact (x1 s hs).2⟩, fun f c a b d => by rw [hk]; exact x2 f c a b d, fun x hx => (x3 x hx).cg (fun f j _ => hk f x j) (hN x), by rw [ec]; omega, by rw [ec]; omega⟩, fun q => by omega, fun q => ⟨fun f s a b c => by rw [hk]; exact (a4 rfl).1 f s a b c, fun f s a b c => by rw [hk]; exact (a4 rfl).2 f s a b c⟩⟩
theorem CR.thr (h : CR 0 k S S A) : CR 0 (k + 1) (thrS S) (thrS S) A := by
  refine h.n9 (fun _ _ _ => rfl) (fun _ => rfl) (fun i => ?_) ?_ ?_
  · unfold thrS; rw [gN_pN, if_neg (by omega), gN_pN, if_neg (by omega)]
  · unfold thrS; rw [gN_pN, if_pos ⟨rfl, rfl⟩]; omega
  · unfold thrS; rw [gN_pN, if_neg (by omega), gN_pN, if_pos ⟨rfl, rfl⟩]; omega
/-- the reference's number of what it threw -/
def TH (v : Int32) (S S1 : St) : Prop := (∀ f i j, f ≠ 5 → gI S1 f i j = gI S f i j) ∧ (∀ i, gL S1 i = gL S i) ∧ (∀ f i, f ≠ 2 → gN S1 f i = gN S f i) ∧ gI S1 5 0 0 = v
theorem MS.th {v : Int32} {S0 : St} (h : MS 0 S0 Sm A) (ht : TH v Sm Sm1) : MS 0 Sm1 Sm1 A := by
  obtain ⟨⟨h1, h2, h3, h4, h5⟩, hR⟩ := h
  obtain ⟨t1, t2, t3, t4⟩ := ht
  obtain ⟨x1, x2, x3, y1, y2, y3, y4, y5, y6, y7⟩ := h3 rfl
  have e : nw Sm1 = nw Sm := by funext y; exact t1 20 0 y (by omega)
  refine ⟨⟨h1.cgS (fun f i j a1 a2 a3 a4 a5 a6 a7 a8 => t1 f i j a3), by rw [t1 _ _ _ (by omega)]; exact h2, fun _ => ⟨fun s hs => by rw [t1 _ _ _ (by omega)]; exact x1 s hs, fun c hc => by rw [t1 _ _ _ (by omega), t1 _ _ _ (by omega), t1 _ _ _ (by omega)]; exact x2 c hc, by rw [t2]; exact x3, by rw [t1 _ _ _ (by omega)]; exact y1, by rw [t3 _ _ (by omega)]; exact y2, by rw [t3 _ _ (by omega), t3 _ _ (by omega)]; exact y3, by rw [t3 _ _ (by omega)]; exact y4, fun k hk => by rw [t1 _ _ _ (by omega), t1 _ _ _ (by omega)]; exact y5 k hk, by rw [t3 _ _ (by omega), t3 _ _ (by omega)]; exact y6, by rw [t3 _ _ (by omega), t3 _ _ (by omega)]; exact y7⟩, fun w => by omega, fun _ => ⟨fun s hs => by rw [t1 _ _ _ (by omega), e]; exact (h5 rfl).1 s hs, fun c hc => by rw [t1 _ _ _ (by omega), t1 _ _ _ (by omega), e]; exact (h5 rfl).2 c hc⟩⟩, by rw [e]; exact hR⟩
theorem TH.rf {v : Int32} : TH v Sm (pI Sm 5 0 0 v) := ⟨fun f i j h => by rw [gI_pI, if_neg (fun w => h w.1)], fun _ => rfl, fun _ _ _ => rfl, by rw [gI_pI, if_pos ⟨rfl, rfl, rfl⟩]⟩
theorem INVz_ok : INVz INV := by
  intro n S Sm z1 z2 h
  obtain ⟨A, T, k, ⟨h1, h2, h3, h4, h5, h6⟩, h7, h8⟩ := h
  refine ⟨A, T, k, ⟨h1.n9 (fun _ _ _ => rfl) (fun _ => rfl) (fun i => by rw [gN_pN, if_neg (by omega)]) (by rw [gN_sz3]; exact Nat.le_refl _) (by rw [gN_sz7]; exact Nat.le_refl _), ?_, h3, h4, h5, h6⟩, h7, h8⟩
  exact h2.th (v := gI Sm 5 0 0) ⟨fun _ _ _ _ => rfl, fun _ => rfl, fun f i hf => by rw [gN_pN, if_neg (fun w => hf w.1)], rfl⟩
theorem INV_room (h : INV n S Sm) : 203 + (gN S 7 0 + gN Sm 7 0) ≤ 603072 ∧ 3074 + (gN S 3 0 + gN Sm 3 0) ≤ 7219306 := by
  obtain ⟨A, T, k, ⟨h1, h2, h3, h4, h5, h6⟩, h7, h8⟩ := h
  obtain ⟨x1, x2, x3, x4, x5⟩ := h1.2.1 rfl
  obtain ⟨-, -, -, y1, y2, y3, ⟨m, y4, y4b⟩, y5, y6, y7⟩ := h2.1.2.2.1 rfl
  have hc : capS S ≤ 30 * 32768 := sumTo_le 30 (fun i hi => by
    obtain ⟨-, -, ⟨j, j1, j2⟩, -⟩ := x3 i hi
    rw [j2]
    have : 2 ^ j ≤ 2 ^ 10 := Nat.pow_le_pow_right (by omega) j1
    omega)
  have hm : gN Sm 0 0 ≤ 1048576 := by
    rw [y4b]
    have : 2 ^ m ≤ 2 ^ 14 := Nat.pow_le_pow_right (by omega) y4
    omega
  omega
/-- how a call's two sides are held against each other -/
theorem ag_mk {ρ σ : Type} {i : Nat} {f : PM (ρ ⊕ String)} {g : PM σ} {code : String → Int32} {ex : List String} {same : ρ → σ → Prop}
    (h : ∀ S Sm A T k, IN S Sm A T k → ∃ (E : (ρ ⊕ String) × St) (Em : σ × St) (A1 : AS) (T1 : Nat), f.1 S = some E ∧ g.1 Sm = some Em ∧ ((∃ r, E.1 = .inl r ∧ gI Em.2 5 0 0 = 0 ∧ same r Em.1 ∧ IN E.2 Em.2 A1 T1 k) ∨ (∃ X, E.1 = .inr X ∧ X ∈ ex ∧ gI Em.2 5 0 0 = code X ∧ IN E.2 Em.2 A1 T1 (k + 1)))) (hi : i + 5 ≤ 2560) : agW INV i f g code ex same := by
  intro S Sm hI
  obtain ⟨A, T, k, hN, h7, h8⟩ := hI
  obtain ⟨E, Em, A1, T1, e1, e2, e3⟩ := h S Sm A T k hN
  have fin : INV (i + 5) E.2 Em.2 := by
    rcases e3 with ⟨r, -, -, -, q⟩ | ⟨X, -, -, -, q⟩
    · exact ⟨A1, T1, k, q, by omega, by omega⟩
    · exact ⟨A1, T1, k + 1, q, by omega, by omega⟩
  refine ⟨E, Em, e1, e2, fun X hX => ?_, ?_, INV_room fin, fin⟩
  · rcases e3 with ⟨r, q, -⟩ | ⟨X', q, q2, -⟩
    · rw [hX] at q; cases q
    · rw [hX] at q; cases q; exact q2
  · rcases e3 with ⟨r, q, q1, q2, -⟩ | ⟨X', q, -, q2, -⟩
    · rw [q]; exact ⟨q1, q2⟩
    · rw [q]; exact q2
theorem IN.thr {v : Int32} (h : IN S Sm A T k) (ht : TH v Sm Sm1) : IN (thrS S) Sm1 A T (k + 1) := ⟨h.1.thr, h.2.1.th ht, h.2.2⟩
theorem IN.ask {v : Int32} (h : IN S Sm A T k) (ht : TH v Sm Sm1) : IN S Sm1 A T k := ⟨h.1, h.2.1.th ht, h.2.2⟩
/-- a call that only asks -/
theorem ag_ask {ρ σ : Type} {i : Nat} {f : PM (ρ ⊕ String)} {g : PM σ} {code : String → Int32} {ex : List String} {same : ρ → σ → Prop}
    (h : ∀ S Sm A T k, IN S Sm A T k → (∃ (r : ρ) (b : σ) (Sm1 : St), f.1 S = some (.inl r, S) ∧ g.1 Sm = some (b, Sm1) ∧ TH 0 Sm Sm1 ∧ same r b) ∨ (∃ (X : String) (b : σ) (Sm1 : St), f.1 S = some (.inr X, thrS S) ∧ g.1 Sm = some (b, Sm1) ∧ X ∈ ex ∧ TH (code X) Sm Sm1)) (hi : i + 5 ≤ 2560) : agW INV i f g code ex same := by
  refine ag_mk (fun S Sm A T k hN => ?_) hi
  rcases h S Sm A T k hN with ⟨r, b, Sm1, e1, e2, e3, e4⟩ | ⟨X, b, Sm1, e1, e2, e3, e4⟩
  · exact ⟨_, _, A, T, e1, e2, Or.inl ⟨r, rfl, e3.2.2.2, e4, hN.ask e3⟩⟩
  · exact ⟨_, _, A, T, e1, e2, Or.inr ⟨X, rfl, e3, e4.2.2.2, hN.thr e4⟩⟩
theorem agP_ask {ρ : Type} {i : Nat} {f : PM ρ} {g : PM ρ} (h : ∀ S Sm A T k, IN S Sm A T k → ∃ (r : ρ) (Sm1 : St), f.1 S = some (r, S) ∧ g.1 Sm = some (r, Sm1) ∧ TH 0 Sm Sm1) (hi : i + 5 ≤ 2560) : agP INV i f g := by
  intro S Sm hI
  obtain ⟨A, T, k, hN, h7, h8⟩ := hI
  obtain ⟨r, Sm1, e1, e2, e3⟩ := h S Sm A T k hN
  have fin : INV (i + 5) S Sm1 := ⟨A, T, k, hN.ask e3, by omega, by omega⟩
  exact ⟨_, _, e1, e2, rfl, INV_room fin, fin⟩
end IV
