/-! part 40: how long a trace gets -/
def TB (B n : Nat) (A : AS) : Prop := ∀ c, c < kC A → (trc A c).length ≤ B + 3 ∧ (aI A 15 c = 119 → (trc A c).length ≤ B) ∧ (aI A 15 c = 108 → (trc A c).length ≤ B + 1) ∧ ∀ s, s < n → s < kS A → aI A 12 s = nI c → (trc A c).length ≤ B
section TBS
variable {A : AS} {c s B n : Nat} {b : Int32}
theorem trc_enter {x : Nat} : (trc (aEnter A c s b) x).length = (trc A x).length + (if c = x then 2 else 0) := by
  have e : trc (aEnter A c s b) x = if c = x then trc A x ++ [cv (48 + nI s), aSign A c s b] else trc A x := by
    unfold trc
    rw [aEnter_R.2.2.2.1, List.filter_append, List.filter_append, List.map_append, List.map_append]
    by_cases h : c = x
    · rw [if_pos h]; simp [h]
    · rw [if_neg h]; simp [h]
  rw [e]
  split
  · rw [List.length_append]; rfl
  · rfl
theorem trc_none (h : JF n A) (hc : kC A ≤ c) : trc A c = [] := by
  have h9 := h.2.2.2.2.2.2.2.2.1
  unfold trc
  rw [List.map_eq_nil_iff, List.filter_eq_nil_iff]
  intro p hp hq
  have := (h9 p hp).1
  have e : p.1 = c := by simpa using hq
  omega
theorem TB.len (h : JF n A) (ht : TB B 0 A) : (trc A c).length ≤ B + 3 := by
  by_cases q : c < kC A
  · exact (ht c q).1
  · rw [trc_none h (by omega)]; exact Nat.zero_le _
theorem TB.lenN {m : Nat} (h : JF n A) (ht : TB B m A) : (trc A c).length ≤ B + 3 := by
  by_cases q : c < kC A
  · exact (ht c q).1
  · rw [trc_none h (by omega)]; exact Nat.zero_le _
theorem TB.cg {A' : AS} {m : Nat} (h : TB B n A) (hm : m ≤ n) (hT : aT A' = aT A) (hS : kS A' = kS A) (hC : kC A' = kC A) (h15 : ∀ c, aI A' 15 c = aI A 15 c) (h12 : ∀ s, aI A' 12 s = aI A 12 s) : TB B m A' := fun c hc => by
  have e : trc A' c = trc A c := by unfold trc; rw [hT]
  rw [hC] at hc
  obtain ⟨h1, h2, h3, h4⟩ := h c hc
  rw [e, h15]
  exact ⟨h1, h2, h3, fun s s1 s2 s3 => h4 s (by omega) (by rw [← hS]; exact s2) (by rw [← h12]; exact s3)⟩
theorem TB_cnts {e : Int32} : ∀ (m s : Nat) (A : AS), TB B n A → TB B n (aCnts A e s m)
  | 0, s, A, h => h
  | m + 1, s, A, h => by
    rw [aCnts]
    refine TB_cnts m (s + 1) _ ?_
    unfold aCnt
    split
    · exact h
    · exact h.cg (Nat.le_refl _) rfl (kS_sI (by omega)) (kC_sI (by omega)) (fun c => by rw [aI_sI, if_neg (by omega)]) (fun c => by rw [aI_sI, if_neg (by omega)])
theorem TB_fils : ∀ (m s : Nat) (A : AS), TB B n A → TB B n (aFils A s m)
  | 0, s, A, h => h
  | m + 1, s, A, h => by
    rw [aFils]
    refine TB_fils m (s + 1) _ ?_
    unfold aFil
    split
    · exact h
    · dsimp only
      exact h.cg (Nat.le_refl _) rfl ((kS_sI (by omega)).trans (kS_sI (by omega))) ((kC_sI (by omega)).trans (kC_sI (by omega))) (fun c => by rw [aI_sI, if_neg (by omega), aI_sI, if_neg (by omega)]) (fun c => by rw [aI_sI, if_neg (by omega), aI_sI, if_neg (by omega)])
theorem TB_rnd (h : TB B n A) : TB B n (aRnd A) := by
  have h1 : TB B n (sI A 2 0 (aI A 2 0 + 1)) := h.cg (Nat.le_refl _) rfl (kS_sI (by omega)) (kC_sI (by omega)) (fun c => by rw [aI_sI, if_neg (by omega)]) (fun c => by rw [aI_sI, if_neg (by omega)])
  unfold aRnd
  split
  · exact TB_fils _ _ _ h1
  · exact h1
theorem trc_leave {x : Nat} : (trc (aLeave A c) x).length = (trc A x).length + (if c = x then 1 else 0) := by
  unfold aLeave
  rw [trc_note]
  split
  · rw [List.length_append]; rfl
  · rfl
theorem trc_loop {x : Nat} : (trc (aLoop A c) x).length = (trc A x).length + (if c = x then 1 else 0) := by
  unfold aLoop
  rw [trc_note]
  split
  · rw [List.length_append]; rfl
  · rfl
theorem TB_move (h : JA A) (hs : s < kS A) (ht : TB B (s + 1) A) : TB B s (aMove A s) := by
  have hdown : TB B s A := ht.cg (by omega) rfl rfl rfl (fun _ => rfl) (fun _ => rfl)
  have h30 : kC A ≤ 30 := h.1.2.2
  have h8 : kS A ≤ 8 := h.1.1.2
  intro x hx
  rw [kC_move] at hx
  rw [kS_move]
  unfold aMove
  by_cases hn : aI A 12 s = -1
  · rw [if_pos hn]; exact hdown x hx
  · rw [if_neg hn]
    obtain ⟨p1, p2, p3, p4, p5⟩ := (h.2.1 s hs).resolve_left hn
    generalize hcc : atC A s = c at p1 p2 p3 p4 p5
    by_cases h1 : 0 < aI A 17 c
    · rw [if_pos h1]; exact hdown x hx
    · rw [if_neg h1]
      have hB : (trc A c).length ≤ B := (ht c p2).2.2.2 s (by omega) hs p1
      -- who stands below stands there alone
      have alone : ∀ y, y < s → aI A 12 y = nI c → False := fun y hy e => by
        rcases h.2.1 y (by omega) with w | ⟨w1, w2, w3, w4, w5⟩
        · rw [e] at w; exact nI_ne_neg (by omega) w
        · have : atC A y = c := by unfold atC; rw [e, nI_clamp (by omega)]
          rw [this, p3] at w3
          have := nI_inj (by omega) (by omega) w3
          omega
      have o : ∀ f i, f ≠ 12 → aI (sI A 12 s (-1)) f i = aI A f i := fun f i q => by rw [aI_sI, if_neg (fun w => q w.1)]
      have o12 : ∀ y, y ≠ s → aI (sI A 12 s (-1)) 12 y = aI A 12 y := fun y q => by rw [aI_sI, if_neg (fun w => q w.2)]
      have et : trc (sI A 12 s (-1)) x = trc A x := rfl
      obtain ⟨d1, d2, d3, d4⟩ := hdown x hx
      by_cases h2 : aI A 18 c = 0 ∧ s + 1 < kS A
      · rw [if_pos h2]
        by_cases h3 : aI A 12 (s + 1) = -1
        · rw [if_pos h3, trc_enter, et]
          by_cases q : c = x
          · subst q
            rw [if_pos rfl, aEnter_c (by omega), if_pos rfl]
            refine ⟨by omega, fun w => absurd w (by decide), fun w => absurd w (by decide), fun y y1 y2 y3 => ?_⟩
            rw [aEnter_o (Or.inr (Or.inr (Or.inl ⟨by omega, by omega⟩))), o12 y (by omega)] at y3
            exact (alone y y1 y3).elim
          · rw [if_neg q, aEnter_o (Or.inr (Or.inr (Or.inr ⟨by omega, fun w => q w.symm⟩))), o 15 x (by omega)]
            refine ⟨d1, d2, d3, fun y y1 y2 y3 => ?_⟩
            rw [aEnter_o (Or.inr (Or.inr (Or.inl ⟨by omega, by omega⟩))), o12 y (by omega)] at y3
            exact d4 y y1 y2 y3
        · rw [if_neg h3]; exact hdown x hx
      · rw [if_neg h2]
        by_cases h3 : aI A 19 c = 0
        · have g : ∀ f i, f ≠ 22 → aI (aLeave (sI A 12 s (-1)) c) f i = aI (aAway (sI A 12 s (-1)) c 100) f i := fun f i q => by unfold aLeave; rw [aI_note, aI_sG, aI_sI, if_neg (fun w => q w.1)]
          rw [if_pos h3, trc_leave, et, g 15 x (by omega)]
          by_cases q : c = x
          · subst q
            rw [if_pos rfl, aAway_c.1]
            refine ⟨by omega, fun w => absurd w (by decide), fun w => absurd w (by decide), fun y y1 y2 y3 => ?_⟩
            rw [g 12 y (by omega), aAway_o (by omega), o12 y (by omega)] at y3
            exact (alone y y1 y3).elim
          · rw [if_neg q, aAway_o (Or.inr (Or.inr (fun w => q w.symm))), o 15 x (by omega)]
            refine ⟨d1, d2, d3, fun y y1 y2 y3 => ?_⟩
            rw [g 12 y (by omega), aAway_o (by omega), o12 y (by omega)] at y3
            exact d4 y y1 y2 y3
        · have g : ∀ f i, aI (aLoop (sI A 12 s (-1)) c) f i = aI (aAway (sI A 12 s (-1)) c 108) f i := fun f i => by unfold aLoop; rw [aI_note, aI_sO]
          rw [if_neg h3, trc_loop, et, g 15 x]
          by_cases q : c = x
          · subst q
            rw [if_pos rfl, aAway_c.1]
            refine ⟨by omega, fun w => absurd w (by decide), fun _ => by omega, fun y y1 y2 y3 => ?_⟩
            rw [g 12 y, aAway_o (by omega), o12 y (by omega)] at y3
            exact (alone y y1 y3).elim
          · rw [if_neg q, aAway_o (Or.inr (Or.inr (fun w => q w.symm))), o 15 x (by omega)]
            refine ⟨d1, d2, d3, fun y y1 y2 y3 => ?_⟩
            rw [g 12 y, aAway_o (by omega), o12 y (by omega)] at y3
            exact d4 y y1 y2 y3
theorem TB_moves : ∀ (n : Nat) (A : AS), JA A → aI A 2 0 ≠ 0 → n ≤ kS A → TB B n A → TB B 0 (aMoves A n)
  | 0, A, _, _, _, ht => ht
  | n + 1, A, h, hT, hn, ht => by
    rw [aMoves]
    exact TB_moves n _ (J_move h (by omega) hT) (by rw [move_lo (by omega)]; exact hT) (by rw [kS_move]; omega) (TB_move h (by omega) ht)
/-- an entering from a row -/
theorem TB_enter {A' : AS} (ht : TB B 0 A) (hc : c < kC A) (hl : (trc A c).length ≤ B + 1) (e1 : ∀ x, trc A' x = trc A x) (e2 : kC A' = kC A) (e3 : ∀ x, aI A' 15 x = aI A 15 x) : TB B 0 (aEnter A' c s b) := fun x hx => by
  have hk : kC (aEnter A' c s b) = kC A := by rw [← e2]; unfold kC; rw [aEnter_o (by omega)]
  rw [hk] at hx
  obtain ⟨d1, d2, d3, d4⟩ := ht x hx
  rw [trc_enter, e1]
  by_cases q : c = x
  · subst q
    rw [if_pos rfl, aEnter_c (by omega), if_pos rfl]
    exact ⟨by omega, fun w => absurd w (by decide), fun w => absurd w (by decide), fun y y1 => by omega⟩
  · rw [if_neg q, aEnter_o (Or.inr (Or.inr (Or.inr ⟨by omega, fun w => q w.symm⟩))), e3]
    exact ⟨d1, d2, d3, fun y y1 => by omega⟩
theorem TB_back : ∀ (td st : List Nat) (A : AS), JA A → aI A 2 0 ≠ 0 → aO A = st ++ td → TB B 0 A → TB B 0 (aBack A st td)
  | [], st, A, _, _, _, ht => ht
  | c :: r, st, A, h, hT, hO, ht => by
    rw [aBack]
    obtain ⟨k1, k2, k3⟩ := J_offO h hO
    have hlow := low_lt h k2 k3
    by_cases hf : aI A 12 (low (aI A 19 c)) = -1
    · rw [if_pos hf]
      have h1 := J_enter (s := low (aI A 19 c)) (b := 1) k1 k2 hlow hf (Or.inr rfl) hT
      exact TB_back r st _ h1 (by rw [aEnter_o (by omega)]; exact hT) (by rw [aEnter_R.2.1]; rfl) (TB_enter ht k2 ((ht c k2).2.2.1 k3) (fun _ => rfl) rfl (fun _ => rfl))
    · rw [if_neg hf]
      exact TB_back r (st ++ [c]) A h hT (by rw [hO]; simp) ht
theorem TB_wait (h : JA A) (ht : TB B 0 A) : TB B 0 (aWait A) := by
  unfold aWait
  cases hW : aW A with
  | nil => exact ht
  | cons c r =>
    obtain ⟨k1, k2, k3⟩ := J_offW h hW
    by_cases hf : aI A 12 0 = -1
    · dsimp only
      rw [if_pos hf]
      exact TB_enter ht k2 (by have := (ht c k2).2.1 k3; omega) (fun _ => rfl) rfl (fun _ => rfl)
    · dsimp only
      rw [if_neg hf]
      exact ht
/-- a tick -/
theorem J_tick {T : Nat} (h : JA A) (hT : aI A 2 0 = nI T) (hT1 : T < 20000) (hB : ∀ c, c < kC A → (trc A c).length ≤ B) :
    JA (aTick A) ∧ aI (aTick A) 2 0 = nI (T + 1) ∧ (∀ c, c < kC (aTick A) → (trc (aTick A) c).length ≤ B + 3) ∧ (∀ f, f < 4 → f ≠ 2 → aI (aTick A) f 0 = aI A f 0) := by
  obtain ⟨a1, a2, a3⟩ := J_rnd h hT hT1
  have t0 : TB B (kS A) A := fun c hc => ⟨by have := hB c hc; omega, fun _ => hB c hc, fun _ => by have := hB c hc; omega, fun _ _ _ _ => hB c hc⟩
  have a4 := J_cnts (e := 1) (by omega) (kS A) 0 (aRnd A) a1 (by omega)
  have e1 : (1 : Int32) = nI 1 := rfl
  have lo : ∀ (m s : Nat) (A : AS) (f : Nat), f < 4 → aI (aCnts A (nI 1) s m) f 0 = aI A f 0 := by
    intro m
    induction m with
    | zero => intro s A f _; rfl
    | succ m ih =>
      intro s A f hf
      rw [aCnts, ih _ _ _ hf]
      unfold aCnt
      split
      · rfl
      · rw [aI_sI, if_neg (by omega)]
  have ro : ∀ f, f < 4 → f ≠ 2 → aI (aRnd A) f 0 = aI A f 0 := fun f f1 f2 => by
    have lo : ∀ (m s : Nat) (A : AS), aI (aFils A s m) f 0 = aI A f 0 := by
      intro m
      induction m with
      | zero => intro s A; rfl
      | succ m ih =>
        intro s A
        rw [aFils, ih]
        unfold aFil
        split
        · rfl
        · dsimp only
          rw [aI_sI, if_neg (by omega), aI_sI, if_neg (by omega)]
    unfold aRnd
    split
    · rw [lo, aI_sI, if_neg (by omega)]
    · rw [aI_sI, if_neg (by omega)]
  have tne : aI (aCnts (aRnd A) (nI 1) 0 (kS A)) 2 0 ≠ 0 := by rw [lo _ _ _ _ (by omega), a3]; exact nI_ne0 (by omega) (by omega)
  have kk : kS (aCnts (aRnd A) (nI 1) 0 (kS A)) = kS A := (kS_cnts _ _ _).trans a2
  obtain ⟨m1, m2, m3⟩ := kS_moves (kS A) (aCnts (aRnd A) (nI 1) 0 (kS A))
  have a5 := J_moves (kS A) _ a4 tne (by rw [kk]; exact Nat.le_refl _)
  have b5 := TB_moves (kS A) _ a4 tne (by rw [kk]; exact Nat.le_refl _) (TB_cnts (e := nI 1) _ 0 _ (TB_rnd t0))
  have f1 : ∀ f, f < 4 → aI (aTick1 A) f 0 = aI (aRnd A) f 0 := fun f hf => by unfold aTick1; rw [e1, m3 f 0 (by omega), lo _ _ _ _ hf]
  have tne1 : aI (aTick1 A) 2 0 ≠ 0 := by rw [f1 2 (by omega), a3]; exact nI_ne0 (by omega) (by omega)
  obtain ⟨a6, f2⟩ := J_back (aO (aTick1 A)) [] (aTick1 A) a5 tne1 rfl
  have b6 := TB_back (aO (aTick1 A)) [] (aTick1 A) a5 tne1 rfl b5
  obtain ⟨a7, f3⟩ := J_wait a6 (by rw [f2 2 0 (by omega)]; exact tne1)
  have b7 := TB_wait a6 b6
  refine ⟨a7, ?_, fun c hc => (b7 c hc).1, fun f h1 h2 => ?_⟩
  · unfold aTick
    rw [f3 2 0 (by omega), f2 2 0 (by omega), f1 2 (by omega), a3]
  · unfold aTick
    rw [f3 f 0 (by omega), f2 f 0 (by omega), f1 f h1, ro f h1 h2]
end TBS
