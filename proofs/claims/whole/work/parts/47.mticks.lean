/-! part 47: the reference's tick, station by station -/
section MT
variable {q c s x : Nat} {S0 S S1 : St} {A B : AS} {v b : Int32}
theorem w_enters (hq : q < 2) (hI : IA A) (h : MB q S0 S A) (hc : c < kC A) (hs : s < kS A) (hb : b = 0 ∨ b = 1) (hl : (aT A).length + 1 < 1048576) (hj : q = 0 → (aI A 20 c = 0 ↔ s = 0 ∧ aI A 21 c = 0)) : wp (f_X6_enters (nI c) (nI s) b) S (fun _ S1 => MB q S0 S1 (aEnter A c s b) ∧ LF S S1) := by
  have h30 := hI.2.2
  have h8 := hI.1.2
  have g12 : gI S 12 0 s = aI A 8 s := (h.1.2.1 s hs).2.1
  have g13 : gI S 13 0 s = aI A 9 s := (h.1.2.1 s hs).2.2.1
  have g16 : gI S 16 0 c = aI A 14 c := h.1.2.2.1 c hc
  have g6 : gI S 20 0 (6 + s) = aI A 11 s := h.1.2.2.2.2.1 s hs
  have z0 : ∀ z : Int64, z + 0 = z := fun z => Int64.add_zero z
  have sLs : sL A s (aL A s) = A := by
    refine Prod.ext rfl (Prod.ext ?_ rfl)
    funext z
    show (if z = s then A.2.1 s else A.2.1 z) = A.2.1 z
    split
    · rename_i e; rw [e]
    · rfl
  unfold f_X6_enters
  refine w_mldx rfl (show s < 8 by omega) (by omega) ?_
  rw [g12]
  by_cases h1 : aI A 8 s = -1
  · refine w_t h1 ?_
    unfold f_X6_enters_J33 f_X6_enters_J34
    refine w_mldx rfl (show s < 8 by omega) (by omega) ?_
    rw [g12]
    refine w_t h1 ?_
    unfold f_X6_enters_J59 f_X6_enters_J60
    refine w_t rfl ?_
    unfold f_X6_enters_J89
    refine w_J90 hq hI h hc hs hb hl hj ?_ ?_ ?_ (fun w => absurd rfl w) ?_
    · unfold aSign; rw [if_pos h1, if_pos rfl, if_pos rfl]
    · unfold aServe; rw [if_pos h1, if_pos rfl, Int32.add_zero]
    · unfold aServe; rw [if_pos h1, if_pos rfl, z0, sLs]
    · unfold aServe; rw [if_pos h1, if_pos rfl]
  refine w_n h1 ?_
  refine w_mldx rfl (show c < 30 by omega) (by omega) ?_
  refine w_mldx rfl (show s < 8 by omega) (by omega) ?_
  rw [g12, g16]
  by_cases h2 : bit (aI A 14 c) (aI A 8 s) = 0
  · refine w_n (fun w => by rw [show bit (aI A 14 c) (aI A 8 s) = 1 from w] at h2; exact absurd h2 (by decide)) ?_
    unfold f_X6_enters_J33 f_X6_enters_J34
    refine w_mldx rfl (show s < 8 by omega) (by omega) ?_
    rw [g12]
    refine w_n h1 ?_
    refine w_t rfl ?_
    by_cases hb0 : b = 0
    · refine w_t hb0 ?_
      unfold f_X6_enters_J60
      refine w_t rfl ?_
      unfold f_X6_enters_J89
      refine w_J90 hq hI h hc hs hb hl hj ?_ ?_ ?_ (fun _ => rfl) ?_
      · unfold aSign; rw [if_neg h1, if_pos h2, if_pos hb0, if_pos rfl, if_neg (by decide)]
      · unfold aServe; rw [if_neg h1, if_pos h2, if_pos rfl, Int32.add_zero]
      · unfold aServe; rw [if_neg h1, if_pos h2, if_pos rfl, z0, sLs]
      · unfold aServe; rw [if_neg h1, if_pos h2, if_pos rfl]
    · refine w_n hb0 ?_
      unfold f_X6_enters_J59 f_X6_enters_J60
      refine w_t rfl ?_
      unfold f_X6_enters_J89
      refine w_J90 hq hI h hc hs hb hl hj ?_ ?_ ?_ (fun _ => rfl) ?_
      · unfold aSign; rw [if_neg h1, if_pos h2, if_neg hb0, if_pos rfl, if_pos rfl]
      · unfold aServe; rw [if_neg h1, if_pos h2, if_pos rfl, Int32.add_zero]
      · unfold aServe; rw [if_neg h1, if_pos h2, if_pos rfl, z0, sLs]
      · unfold aServe; rw [if_neg h1, if_pos h2, if_pos rfl]
  · refine w_t ((bit_01 _ _).resolve_left h2) ?_
    unfold f_X6_enters_J34
    refine w_mldx rfl (show s < 8 by omega) (by omega) ?_
    rw [g12]
    refine w_n h1 ?_
    refine w_n (by decide) ?_
    unfold f_X6_enters_J59 f_X6_enters_J60
    refine w_n (by decide) ?_
    refine w_mldx (j := 6 + s) (nI_add 6 s) (by omega) (by omega) ?_
    refine w_mldx rfl (show s < 8 by omega) (by omega) ?_
    rw [g6, g13]
    by_cases h3 : aI A 9 s ≤ aI A 11 s
    · refine w_t h3 ?_
      unfold f_X6_enters_J89
      refine w_J90 hq hI h hc hs hb hl hj ?_ ?_ ?_ (fun _ => rfl) ?_
      · unfold aSign; rw [if_neg h1, if_neg h2, if_pos h3, if_pos rfl, if_pos rfl]
      · unfold aServe; rw [if_neg h1, if_neg h2, if_pos h3, if_pos rfl, Int32.add_zero, aI_sL, aI_sI, if_neg (by omega)]
      · unfold aServe; rw [if_neg h1, if_neg h2, if_pos h3, if_neg (by decide), if_pos rfl]; rfl
      · unfold aServe; rw [if_neg h1, if_neg h2, if_pos h3, if_neg (by decide), if_pos rfl, aI_sL, aI_sI, if_pos ⟨rfl, rfl⟩]
    · refine w_n h3 ?_
      refine w_J90 hq hI h hc hs hb hl hj ?_ ?_ ?_ (fun w => absurd rfl w) ?_
      · unfold aSign; rw [if_neg h1, if_neg h2, if_neg h3, if_neg (by decide)]
      · unfold aServe; rw [if_neg h1, if_neg h2, if_neg h3, if_neg (by decide), aI_sI, if_pos ⟨rfl, rfl⟩]
      · unfold aServe; rw [if_neg h1, if_neg h2, if_neg h3, if_neg (by decide), if_neg (by decide), z0, sLs]; rfl
      · unfold aServe; rw [if_neg h1, if_neg h2, if_neg h3, if_neg (by decide), if_neg (by decide), aI_sI, if_neg (by omega)]
/-- the reference's side -/
def MS (q : Nat) (S0 S : St) (A : AS) : Prop := MB q S0 S A ∧ NR (nw S) 172 234 (aO A)
theorem NR.lf {n n1 : Nat → Int32} {l : List Nat} (h : NR n 172 234 l) (hk : ∀ j, (172 ≤ j ∧ j < 202) ∨ j = 234 → n1 j = n j) : NR n1 172 234 l :=
  ⟨h.1, by rw [hk 234 (by omega)]; exact h.2.1, fun k hk' => by rw [hk _ (by have := h.1; omega)]; exact h.2.2 k hk'⟩
theorem RM0.a17 {u w : Int32} (h : RM0 S A) (h15 : aI A 15 c ≠ 115) : RM0 S (sI (sI A 17 c u) 18 c w) := by
  obtain ⟨q1, q2, q3, h1, h2, h3, h4, h5, h6, h7, h9, h10⟩ := h
  have o : ∀ f i, f ≠ 17 → f ≠ 18 → aI (sI (sI A 17 c u) 18 c w) f i = aI A f i := fun f i a1 a2 => by rw [aI_sI, if_neg (fun w => a2 w.1), aI_sI, if_neg (fun w => a1 w.1)]
  have eS : kS (sI (sI A 17 c u) 18 c w) = kS A := (kS_sI (by omega)).trans (kS_sI (by omega))
  have eC : kC (sI (sI A 17 c u) 18 c w) = kC A := (kC_sI (by omega)).trans (kC_sI (by omega))
  unfold RM0 N0
  rw [eS, eC, o 0 0 (by omega) (by omega), o 3 0 (by omega) (by omega), o 1 0 (by omega) (by omega), o 2 0 (by omega) (by omega)]
  refine ⟨q1, fun s hs => by rw [o 7 s (by omega) (by omega), o 8 s (by omega) (by omega), o 9 s (by omega) (by omega), o 10 s (by omega) (by omega)]; exact q2 s hs, fun c hc => by rw [o 14 _ (by omega) (by omega)]; exact q3 c hc, fun p hp => by rw [o _ _ (by omega) (by omega)]; exact h1 p hp, fun p hp => by rw [o _ _ (by omega) (by omega)]; exact h2 p hp, fun p hp => by rw [o _ _ (by omega) (by omega)]; exact h3 p hp, fun p hp => by rw [o _ _ (by omega) (by omega)]; exact h4 p hp, fun p hp => by rw [o _ _ (by omega) (by omega)]; exact h5 p hp, fun y hy w => ?_, h7, h9, h10⟩
  rw [o 15 y (by omega) (by omega)] at w
  have e : y ≠ c := fun e => h15 (e ▸ w)
  rw [aI_sI, if_neg (fun w => e w.2), aI_sI, if_neg (fun w => e w.2), aI_sI, if_neg (fun w => e w.2), aI_sI, if_neg (fun w => e w.2)]
  exact h6 y hy w
/-- a cell of no moment: behind a row's end, or of the loop -/
theorem RM0.free (h : RM0 S A) (hI : IA A) (hx : (202 + (aG A).length ≤ x ∧ x < 232) ∨ (172 ≤ x ∧ x < 202) ∨ x = 234 ∨ x = 236) : RM0 (pI S 20 0 x v) A := by
  have h8 := hI.1.2
  have h30 := hI.2.2
  refine h.n (fun f hf i => rfl) ?_
  obtain ⟨h1, h2, h3, h4, h5, h6, h7, h9, h10⟩ := h.2.2.2
  refine ⟨fun y hy => ?_, fun y hy => ?_, fun y hy => ?_, fun y hy => ?_, fun y hy => ?_, fun y hy w => ?_, ?_, h9.up (by omega) (by omega), ⟨h10.1, by dsimp only; rw [if_neg (by omega)]; exact h10.2.1, fun k hk => by dsimp only; rw [if_neg (by have := h10.1; omega)]; exact h10.2.2 k hk⟩⟩ <;> dsimp only
  · rw [if_neg (by omega)]; exact h1 y hy
  · rw [if_neg (by omega)]; exact h2 y hy
  · rw [if_neg (by omega)]; exact h3 y hy
  · rw [if_neg (by omega)]; exact h4 y hy
  · rw [if_neg (by omega)]; exact h5 y hy
  · rw [if_neg (by omega), if_neg (by omega)]; exact h6 y hy w
  · rw [if_neg (by omega)]; exact h7
theorem RM0.gone (h : RM0 S A) (hI : IA A) (hl : (aG A).length < 30) (hw : nw S (202 + (aG A).length) = nI c) : RM0 (pI S 20 0 235 (nI ((aG A).length + 1))) (sG A (aG A ++ [c])) := by
  have h8 := hI.1.2
  have h30 := hI.2.2
  refine h.n (fun f hf i => rfl) ?_
  obtain ⟨h1, h2, h3, h4, h5, h6, h7, h9, h10⟩ := h.2.2.2
  refine ⟨fun y hy => ?_, fun y hy => ?_, fun y hy => ?_, fun y hy => ?_, fun y hy => ?_, fun y hy w => ?_, ?_, h9.up (by omega) (by omega), ⟨?_, ?_, fun k hk => ?_⟩⟩
  · dsimp only; rw [if_neg (by omega)]; exact h1 y hy
  · have hy : y < kS A := hy
    dsimp only; rw [if_neg (by omega)]; exact h2 y hy
  · have hy : y < kS A := hy
    dsimp only; rw [if_neg (by omega)]; exact h3 y hy
  · have hy : y < kC A := hy
    dsimp only; rw [if_neg (by omega)]; exact h4 y hy
  · have hy : y < kC A := hy
    dsimp only; rw [if_neg (by omega)]; exact h5 y hy
  · have hy : y < kC A := hy
    dsimp only; rw [if_neg (by omega), if_neg (by omega)]; exact h6 y hy w
  · dsimp only; rw [if_neg (by omega)]; exact h7
  · show (aG A ++ [c]).length ≤ 30; rw [List.length_append]; exact hl
  · show (if 235 = 235 then _ else _) = nI (aG A ++ [c]).length; rw [if_pos rfl, List.length_append]; rfl
  · have hk : k < (aG A ++ [c]).length := hk
    rw [List.length_append] at hk
    have hk : k < (aG A).length + 1 := hk
    show (if 202 + k = 235 then _ else nw S (202 + k)) = nI ((aG A ++ [c]).getD k 0)
    rw [if_neg (by omega)]
    by_cases e : k = (aG A).length
    · subst e; rw [hw]; simp
    · have : (aG A ++ [c]).getD k 0 = (aG A).getD k 0 := by simp [List.getD, List.getElem?_append_left (show k < (aG A).length by omega)]
      rw [this]; exact h10.2.2 k (by omega)
theorem sI_self {f i : Nat} : sI A f i (aI A f i) = A := by
  refine Prod.ext ?_ rfl
  funext a b
  show (if a = f ∧ b = i then A.1 f i else A.1 a b) = A.1 a b
  split
  · rename_i e; rw [e.1, e.2]
  · rfl
theorem MB.abs (h : MB q S0 S A) (hr : RM0 S B) (hk : ∀ f, f = 0 ∨ f = 1 ∨ f = 13 ∨ f = 20 ∨ f = 21 → ∀ i, aI B f i = aI A f i) (h22 : q = 0 → ∀ c, c < kC A → aI B 15 c = 100 → gI S 18 0 c = aI B 22 c) (hL : aL B = aL A) (hT : aT B = aT A) (h11 : ∀ i, aI B 11 i = aI A 11 i) (h19 : ∀ i, aI B 19 i = aI A 19 i) : MB q S0 S B := by
  obtain ⟨h1, h2, h3, h4, h5⟩ := h
  have eS : kS B = kS A := by unfold kS; rw [hk 0 (by omega)]
  have eC : kC B = kC A := by unfold kC; rw [hk 1 (by omega)]
  refine ⟨hr, h2, fun w => ?_, h4, fun w => ⟨fun s hs => ⟨by rw [hk 13 (by omega)]; exact ((h5 w).1 s hs).1, by rw [h11]; exact ((h5 w).1 s hs).2⟩, fun c hc => ⟨by rw [hk 20 (by omega)]; exact ((h5 w).2 c hc).1, by rw [hk 21 (by omega)]; exact ((h5 w).2 c hc).2.1, by rw [h19]; exact ((h5 w).2 c hc).2.2⟩⟩⟩
  obtain ⟨x1, x2, x3, x4⟩ := h3 w
  unfold RMX
  rw [eS, eC, hL, hT]
  exact ⟨fun s hs => by rw [hk 13 (by omega)]; exact x1 s hs, fun c hc => ⟨by rw [hk 20 (by omega)]; exact (x2 c hc).1, by rw [hk 21 (by omega)]; exact (x2 c hc).2.1, h22 w c hc⟩, x3, x4⟩
theorem w_leavesLine (hq : q < 2) (hI : IA A) (h : MS q S0 S A) (hc : c < kC A) (hl : (aT A).length < 1048576) (hG : (aG A).length < 30) (hO : (aO A).length < 30) : wp (f_X6_leavesLine (nI c)) S (fun _ S1 => MS q S0 S1 (if aI A 19 c = 0 then aLeave A c else aLoop A c)) := by
  have h30 := hI.2.2
  have h8 := hI.1.2
  obtain ⟨hB, hR⟩ := h
  have e19 : gI S 20 0 (112 + c) = aI A 19 c := hB.1.2.2.2.2.2.2.2.1 c hc
  unfold f_X6_leavesLine
  refine w_mldx (j := 112 + c) (nI_add 112 c) (by omega) (by omega) ?_
  rw [e19]
  refine w_if (fun q0 => ?_) (fun q0 => ?_)
  · rw [if_pos q0]
    refine w_mstx (j := 82 + c) (nI_add 82 c) (by omega) (by omega) ?_
    have e235 : nw S 235 = nI (aG A).length := hB.1.2.2.2.2.2.2.2.2.2.2.2.2.1
    -- the abstract state at the row's end: gone already, the log not yet
    have hr1 : RM0 (pI S 20 0 (82 + c) 100) (sI (sI (sI (sI A 15 c 100) 16 c (-1)) 17 c 0) 18 c 0) := by
      have r1 := hB.1.place (v := 100) hI (show c < 30 by omega) (fun w => absurd w (by decide))
      have r2 : RM0 (pI S 20 0 (82 + c) 100) (sI (sI A 15 c 100) 16 c (-1)) := r1.cg (fun f i a1 a2 a3 => by rw [aI_sI, if_neg (fun w => a2 w.1)]) rfl rfl
      exact r2.a17 (by rw [aI_sI, if_neg (by omega), aI_sI, if_pos ⟨rfl, rfl⟩]; decide)
    have hI1 : IA (aAway A c 100) := (((hI.sI (by omega)).sI (by omega)).sI (by omega)).sI (by omega)
    have m235 : gI (pI S 20 0 (82 + c) 100) 20 0 235 = nI (aG A).length := by rw [gI_pI, if_neg (by omega)]; exact e235
    refine w_mldx (j := 235) rfl (by omega) (by omega) ?_
    rw [m235]
    refine w_mstx (j := 202 + (aG A).length) (nI_add 202 _) (by omega) (by omega) ?_
    have hr2 : RM0 (pI (pI S 20 0 (82 + c) 100) 20 0 (202 + (aG A).length) (nI c)) (aAway A c 100) := RM0.free (A := aAway A c 100) hr1 hI1 (Or.inl ⟨Nat.le_refl _, by omega⟩)
    refine w_mldx (j := 235) rfl (by omega) (by omega) ?_
    have m235b : gI (pI (pI S 20 0 (82 + c) 100) 20 0 (202 + (aG A).length) (nI c)) 20 0 235 = nI (aG A).length := by rw [gI_pI, if_neg (by omega)]; exact m235
    rw [m235b, nI_1]
    refine w_mstx (j := 235) rfl (by omega) (by omega) ?_
    have hr3 : RM0 (pI (pI (pI S 20 0 (82 + c) 100) 20 0 (202 + (aG A).length) (nI c)) 20 0 235 (nI ((aG A).length + 1))) (sG (aAway A c 100) (aG A ++ [c])) := RM0.gone (A := aAway A c 100) (c := c) hr2 hI1 hG (by show nw _ (202 + (aG A).length) = nI c; rw [nw_pI]; dsimp only; rw [if_pos rfl])
    have hk : ∀ f i, f < 15 ∨ 18 < f → aI (sG (aAway A c 100) (aG A ++ [c])) f i = aI A f i := fun f i w => by rw [aI_sG, aAway_o (by omega)]
    have eS : kS (sG (aAway A c 100) (aG A ++ [c])) = kS A := by unfold kS; rw [hk 0 0 (by omega)]
    have eC : kC (sG (aAway A c 100) (aG A ++ [c])) = kC A := by unfold kC; rw [hk 1 0 (by omega)]
    generalize hS3 : pI (pI (pI S 20 0 (82 + c) 100) 20 0 (202 + (aG A).length) (nI c)) 20 0 235 (nI ((aG A).length + 1)) = S3 at hr3
    have s3 : ∀ f i j, f ≠ 20 → gI S3 f i j = gI S f i j := fun f i j w => by rw [← hS3, gI_pI, if_neg (fun z => w z.1), gI_pI, if_neg (fun z => w z.1), gI_pI, if_neg (fun z => w z.1)]
    have s3L : gL S3 0 = gL S 0 := by rw [← hS3]; rfl
    have s3N : ∀ f i, gN S3 f i = gN S f i := fun f i => by rw [← hS3]; rfl
    have s3F : ∀ j, (172 ≤ j ∧ j < 202) ∨ j = 234 → nw S3 j = nw S j := fun j hj => by
      rw [← hS3, nw_pI]; dsimp only; rw [if_neg (by omega), nw_pI]; dsimp only; rw [if_neg (by omega), nw_pI]; dsimp only; rw [if_neg (by omega)]
    have s3G : ∀ j, j < 82 ∨ (112 ≤ j ∧ j < 202) → nw S3 j = nw S j := fun j hj => by
      rw [← hS3, nw_pI]; dsimp only; rw [if_neg (by omega), nw_pI]; dsimp only; rw [if_neg (by omega), nw_pI]; dsimp only; rw [if_neg (by omega)]
    rcases (show q = 0 ∨ q = 1 by omega) with rfl | rfl
    · -- writes in the real line: 22 is not the reference's yet, so the log goes by itself
      obtain ⟨x1, x2, x3, x4⟩ := hB.2.2.1 rfl
      obtain ⟨t1, t2, t3, t4, t5, t6, t7⟩ := x4
      have hT3 : TM S3 (aT A) := ⟨by rw [s3 _ _ _ (by omega)]; exact t1, by rw [s3N]; exact t2, by rw [s3N, s3N]; exact t3, by rw [s3N]; exact t4, fun k hk => by rw [s3 _ _ _ (by omega), s3 _ _ _ (by omega)]; exact t5 k hk, by rw [s3N, s3N]; exact t6, by rw [s3N, s3N]; exact t7⟩
      refine w_call (w_writes0 (c := c) (g := 120) hT3 (by rw [s3 _ _ _ (by omega)]; exact hB.2.1) hl (by decide)) (fun _ S4 h4 => ?_)
      obtain ⟨u1, u2, u3⟩ := h4
      have u9 : ∀ f i j, f ≠ 4 → f < 22 → gI S4 f i j = gI S3 f i j := fun f i j a1 a2 => u2 f i j a1 (by omega) (by omega) (by omega)
      refine w_rdI ?_
      refine w_t (by rw [u9 _ _ _ (by omega) (by omega), s3 _ _ _ (by omega)]; exact hB.2.1) ?_
      refine w_mldx (j := 232) rfl (by omega) (by omega) ?_
      have e232 : gI S4 20 0 232 = aI A 2 0 := by
        rw [u9 _ _ _ (by omega) (by omega)]
        have : gI S3 20 0 232 = aI (sG (aAway A c 100) (aG A ++ [c])) 2 0 := hr3.2.2.2.2.2.2.2.2.2.1
        rw [this, hk 2 0 (by omega)]
      rw [e232]
      refine w_mstx rfl (show c < 30 by omega) (by omega) ?_
      have lk : ∀ f i, f ≠ 22 → aI (aLeave A c) f i = aI (sG (aAway A c 100) (aG A ++ [c])) f i := fun f i w => by unfold aLeave; rw [aI_note, aI_sG, aI_sG, aI_sI, if_neg (fun z => w z.1)]
      have eSl : kS (aLeave A c) = kS A := by unfold kS; rw [lk 0 0 (by omega), hk 0 0 (by omega)]
      have eCl : kC (aLeave A c) = kC A := by unfold kC; rw [lk 1 0 (by omega), hk 1 0 (by omega)]
      refine w_rtn ⟨⟨RM0.cg (A := sG (aAway A c 100) (aG A ++ [c])) (hr3.cgS (fun f i j a1 a2 a3 a4 a5 a6 a7 a8 => by rw [gI_pI, if_neg (fun w => a6 w.1), u9 _ _ _ a2 (by omega)])) (fun f i a1 a2 a3 => lk f i (by omega)) rfl rfl, by rw [gI_pI, if_neg (by omega), u9 _ _ _ (by omega) (by omega), s3 _ _ _ (by omega)]; exact hB.2.1, fun _ => ⟨fun y hy => ?_, fun y hy => ?_, ?_, ?_⟩, fun w => by omega, fun _ => ⟨fun y hy => ?_, fun y hy => ?_⟩⟩, ?_⟩
      · rw [eSl] at hy
        rw [gI_pI, if_neg (by omega), u9 _ _ _ (by omega) (by omega), s3 _ _ _ (by omega), lk 13 y (by omega), hk 13 y (by omega)]; exact x1 y hy
      · rw [eCl] at hy
        rw [lk 20 y (by omega), hk 20 y (by omega), lk 21 y (by omega), hk 21 y (by omega), lk 15 y (by omega), gI_pI, if_neg (by omega), gI_pI, if_neg (by omega), u9 _ _ _ (by omega) (by omega), u9 _ _ _ (by omega) (by omega), s3 _ _ _ (by omega), s3 _ _ _ (by omega)]
        refine ⟨(x2 y hy).1, (x2 y hy).2.1, fun w => ?_⟩
        have e22 : aI (aLeave A c) 22 y = if y = c then aI A 2 0 else aI A 22 y := by
          unfold aLeave
          rw [aI_note, aI_sG, aI_sI]
          by_cases e : y = c
          · rw [if_pos ⟨rfl, e⟩, if_pos e]
          · rw [if_neg (fun z => e z.2), if_neg e, aAway_o (by omega)]
        rw [e22, gI_pI]
        by_cases e : y = c
        · rw [if_pos ⟨rfl, rfl, e⟩, if_pos e]
        · rw [if_neg (fun z => e z.2.2), if_neg e, u9 _ _ _ (by omega) (by omega), s3 _ _ _ (by omega)]
          rw [aI_sG, aAway_o (Or.inr (Or.inr e))] at w
          exact (x2 y hy).2.2 w
      · rw [gL_pI, u3, s3L, x3]; rfl
      · obtain ⟨t1, t2, t3, t4, t5, t6, t7⟩ := u1
        exact ⟨by rw [gI_pI, if_neg (by omega)]; exact t1, t2, t3, t4, fun k hk => by rw [gI_pI, if_neg (by omega), gI_pI, if_neg (by omega)]; exact t5 k hk, t6, t7⟩
      · obtain ⟨y1, y2⟩ := (hB.2.2.2.2 rfl).1 y hy
        refine ⟨by rw [lk 13 y (by omega), hk 13 y (by omega), gI_pI, if_neg (by omega), u9 _ _ _ (by omega) (by omega), s3 _ _ _ (by omega)]; exact y1, ?_⟩
        rw [lk 11 y (by omega), hk 11 y (by omega), ← y2]
        show gI _ 20 0 (6 + y) = gI S 20 0 (6 + y)
        rw [gI_pI, if_neg (by omega), u9 _ _ _ (by omega) (by omega)]
        exact s3G _ (by omega)
      · obtain ⟨y1, y2, y3⟩ := (hB.2.2.2.2 rfl).2 y hy
        refine ⟨by rw [lk 20 y (by omega), hk 20 y (by omega), gI_pI, if_neg (by omega), u9 _ _ _ (by omega) (by omega), s3 _ _ _ (by omega)]; exact y1, by rw [lk 21 y (by omega), hk 21 y (by omega), gI_pI, if_neg (by omega), u9 _ _ _ (by omega) (by omega), s3 _ _ _ (by omega)]; exact y2, ?_⟩
        rw [lk 19 y (by omega), hk 19 y (by omega), ← y3]
        show gI _ 20 0 (112 + y) = gI S 20 0 (112 + y)
        rw [gI_pI, if_neg (by omega), u9 _ _ _ (by omega) (by omega)]
        exact s3G _ (by omega)
      · refine NR.lf (n := nw S) hR (fun j hj => ?_)
        show gI _ 20 0 j = gI S 20 0 j
        rw [gI_pI, if_neg (by omega), u9 _ _ _ (by omega) (by omega)]
        exact s3F j hj
    · have hF := hB.2.2.2.1 rfl
      have h3 : gI S3 3 0 0 = 1 := by rw [s3 _ _ _ (by omega)]; exact hB.2.1
      have ew : (f_X6_writes (nI c) 120).1 S3 = some ((), S3) := by
        refine ev_of ?_
        unfold f_X6_writes
        refine w_rdI ?_
        rw [h3]
        exact w_n (by decide) (w_rtn ⟨rfl, rfl⟩)
      refine w_ev ew ?_
      refine w_rdI ?_
      rw [h3]
      refine w_n (by decide) ?_
      refine w_rtn ⟨⟨RM0.cg (A := sG (aAway A c 100) (aG A ++ [c])) hr3 (fun f i a1 a2 a3 => by unfold aLeave; rw [aI_note, aI_sG, aI_sG, aI_sI, if_neg (by omega)]) rfl rfl, h3, fun w => by omega, fun _ => ⟨fun f i j w => (s3 f i j w).trans (hF.1 f i j w), fun i => by rw [← hS3]; exact hF.2.1 i, fun f i => (s3N f i).trans (hF.2.2 f i)⟩, fun w => by omega⟩, NR.lf (n := nw S) hR s3F⟩
  · rw [if_neg q0]
    refine w_mstx (j := 82 + c) (nI_add 82 c) (by omega) (by omega) ?_
    have hr1 : RM0 (pI S 20 0 (82 + c) 108) (sI (sI (sI (sI A 15 c 108) 16 c (-1)) 17 c 0) 18 c 0) := by
      have r1 := hB.1.place (v := 108) hI (show c < 30 by omega) (fun w => absurd w (by decide))
      have r2 : RM0 (pI S 20 0 (82 + c) 108) (sI (sI A 15 c 108) 16 c (-1)) := r1.cg (fun f i a1 a2 a3 => by rw [aI_sI, if_neg (fun w => a2 w.1)]) rfl rfl
      exact r2.a17 (by rw [aI_sI, if_neg (by omega), aI_sI, if_pos ⟨rfl, rfl⟩]; decide)
    have hI1 : IA (aAway A c 108) := (((hI.sI (by omega)).sI (by omega)).sI (by omega)).sI (by omega)
    have m234 : gI (pI S 20 0 (82 + c) 108) 20 0 234 = nI (aO A).length := by rw [gI_pI, if_neg (by omega)]; exact hR.2.1
    refine w_mldx (j := 234) rfl (by omega) (by omega) ?_
    rw [m234]
    refine w_mstx (j := 172 + (aO A).length) (nI_add 172 _) (by omega) (by omega) ?_
    have hr2 : RM0 (pI (pI S 20 0 (82 + c) 108) 20 0 (172 + (aO A).length) (nI c)) (aAway A c 108) := RM0.free (A := aAway A c 108) hr1 hI1 (by omega)
    refine w_mldx (j := 234) rfl (by omega) (by omega) ?_
    have m234b : gI (pI (pI S 20 0 (82 + c) 108) 20 0 (172 + (aO A).length) (nI c)) 20 0 234 = nI (aO A).length := by rw [gI_pI, if_neg (by omega)]; exact m234
    rw [m234b, nI_1]
    refine w_mstx (j := 234) rfl (by omega) (by omega) ?_
    have hr3 : RM0 (pI (pI (pI S 20 0 (82 + c) 108) 20 0 (172 + (aO A).length) (nI c)) 20 0 234 (nI ((aO A).length + 1))) (sO (aAway A c 108) (aO A ++ [c])) := (RM0.free (A := aAway A c 108) hr2 hI1 (by omega)).cg (fun _ _ _ _ _ => rfl) rfl rfl
    have hB1 : MB q S0 (pI S 20 0 (82 + c) 108) (aAway A c 108) := hB.n hr1 (fun f hf i => aAway_o (by omega)) (fun y w => by
      by_cases e : y = c
      · subst e; rw [aAway_c.1] at w; exact absurd w (by decide)
      · rw [aAway_o (Or.inr (Or.inr e))] at w; exact w) rfl rfl (MFx.no (by omega) (fun i => aAway_o (by omega)) (fun i => aAway_o (by omega)))
    have hB2 := hB1.n hr2 (fun f hf i => rfl) (fun y w => w) rfl rfl (MFx.no (by omega) (fun _ => rfl) (fun _ => rfl))
    have hB3 := hB2.n hr3 (fun f hf i => rfl) (fun y w => w) rfl rfl (MFx.no (by omega) (fun _ => rfl) (fun _ => rfl))
    have hR3 : NR (nw (pI (pI (pI S 20 0 (82 + c) 108) 20 0 (172 + (aO A).length) (nI c)) 20 0 234 (nI ((aO A).length + 1)))) 172 234 (aO A ++ [c]) := by
      refine ⟨by rw [List.length_append]; exact hO, by rw [nw_pI]; dsimp only; rw [if_pos rfl, List.length_append]; rfl, fun k hk => ?_⟩
      rw [List.length_append] at hk
      have hk : k < (aO A).length + 1 := hk
      rw [nw_pI]; dsimp only
      rw [if_neg (by omega), nw_pI]; dsimp only
      by_cases e : k = (aO A).length
      · subst e; rw [if_pos rfl]; simp
      · rw [if_neg (by omega), nw_pI]; dsimp only
        rw [if_neg (by omega)]
        have : (aO A ++ [c]).getD k 0 = (aO A).getD k 0 := by simp [List.getD, List.getElem?_append_left (show k < (aO A).length by omega)]
        rw [this]; exact hR.2.2 k (by omega)
    refine w_call (w_writes (c := c) (g := 76) hB3 hq hl (by decide)) (fun _ S4 h4 => ?_)
    exact w_rtn ⟨h4.1, NR.lf hR3 h4.2⟩
end MT
