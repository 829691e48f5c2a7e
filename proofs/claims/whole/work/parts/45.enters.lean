/-! part 45: a car enters a station, in the reference -/
section EN
variable {q c s x : Nat} {S0 S S1 : St} {A B : AS} {v b : Int32}
theorem FM.n (h : FM S0 S) : FM S0 (pI S 20 0 x v) := ⟨fun f i j hf => by rw [gI_pI, if_neg (fun w => hf w.1)]; exact h.1 f i j hf, h.2.1, h.2.2⟩
theorem MB.n (h : MB q S0 S A) (hr : RM0 (pI S 20 0 x v) B) (hk : ∀ f, f = 0 ∨ f = 1 ∨ f = 13 ∨ f = 20 ∨ f = 21 ∨ f = 22 → ∀ i, aI B f i = aI A f i) (h15 : ∀ c, aI B 15 c = 100 → aI A 15 c = 100) (hL : aL B = aL A) (hT : aT B = aT A) (hu : MFx x v A B) : MB q S0 (pI S 20 0 x v) B := by
  obtain ⟨h1, h2, h3, h4, h5⟩ := h
  have eS : kS B = kS A := by unfold kS; rw [hk 0 (by omega)]
  have eC : kC B = kC A := by unfold kC; rw [hk 1 (by omega)]
  refine ⟨hr, by rw [gI_pI, if_neg (by omega)]; exact h2, fun w => ?_, fun w => (h4 w).n, fun w => ⟨fun s hs => ⟨by rw [gI_pI, if_neg (by omega), hk 13 (by omega)]; exact ((h5 w).1 s hs).1, ?_⟩, fun c hc => ⟨by rw [gI_pI, if_neg (by omega), hk 20 (by omega)]; exact ((h5 w).2 c hc).1, by rw [gI_pI, if_neg (by omega), hk 21 (by omega)]; exact ((h5 w).2 c hc).2.1, ?_⟩⟩⟩
  rotate_left
  · rw [nw_pI, hu.1 s hs]; dsimp only
    rw [((h5 w).1 s hs).2]
  · rw [nw_pI, hu.2 c hc]; dsimp only
    rw [((h5 w).2 c hc).2.2]
  obtain ⟨x1, x2, x3, x4⟩ := h3 w
  unfold RMX
  rw [eS, eC, hL, hT]
  refine ⟨fun s hs => by rw [gI_pI, if_neg (by omega), hk 13 (by omega)]; exact x1 s hs, fun c hc => ?_, x3, ?_⟩
  · rw [gI_pI, if_neg (by omega), gI_pI, if_neg (by omega), gI_pI, if_neg (by omega), hk 20 (by omega), hk 21 (by omega), hk 22 (by omega)]
    exact ⟨(x2 c hc).1, (x2 c hc).2.1, fun w => (x2 c hc).2.2 (h15 c w)⟩
  · obtain ⟨t1, t2, t3, t4, t5, t6, t7⟩ := x4
    exact ⟨by rw [gI_pI, if_neg (by omega)]; exact t1, t2, t3, t4, fun k hk => by rw [gI_pI, if_neg (by omega), gI_pI, if_neg (by omega)]; exact t5 k hk, t6, t7⟩
theorem LF.n (h : LF S0 S) (hx : x < 172 ∨ (202 ≤ x ∧ x ≠ 234)) : LF S0 (pI S 20 0 x v) := fun j hj => by rw [nw_pI]; dsimp only; rw [if_neg (by omega)]; exact h j hj
theorem LF.tr (h : LF S0 S) (h1 : LF S S1) : LF S0 S1 := fun j hj => (h1 j hj).trans (h j hj)
theorem w_mldx {α : Type} {Q : α → St → Prop} {kI : Int32 → PM α} {f len j : Nat} {i : Int32} (hi : i = nI j) (hj : j < len) (hl : len ≤ 2097152) (h : wp (kI (gI S f 0 j)) S Q) : wp (bnd (mld f len i) kI) S Q := by subst hi; exact w_mld hj hl h
theorem w_mstx {α : Type} {Q : α → St → Prop} {kU : Unit → PM α} {f len j : Nat} {i u : Int32} (hi : i = nI j) (hj : j < len) (hl : len ≤ 2097152) (h : wp (kU ()) (pI S f 0 j u) Q) : wp (bnd (mst f len i u) kU) S Q := by subst hi; exact w_mst hj hl h
theorem aEnter_sv {f : Nat} (hf : f = 11 ∨ f = 13) : aI (aEnter A c s b) f s = aI (aServe A c s) f s := by
  unfold aEnter
  rw [aI_note, aI_note]
  have e1 : ∀ B : AS, aI (aFlt B c s (aSign A c s b)) f s = aI B f s := fun B => by
    unfold aFlt
    split
    · rw [aI_sI, if_neg (by omega)]
    · split
      · rw [aI_sI, if_neg (by omega)]
      · rfl
  rw [e1]
  unfold aStand
  rw [aI_sI, if_neg (by omega), aI_sI, if_neg (by omega), aI_sI, if_neg (by omega), aI_sI, if_neg (by omega), aI_sI, if_neg (by omega), aI_sI, if_neg (by omega)]
  unfold aServe
  rw [aFirst_I (by omega), aFirst_I (by omega), aFirst_I (by omega), aFirst_I (by omega), aFirst_I (by omega)]
  split
  · exact aFirst_I (by omega)
  · split
    · exact aFirst_I (by omega)
    · split
      · rw [aI_sL, aI_sL, aI_sI, aI_sI]
        split
        · rfl
        · exact aFirst_I (by omega)
      · rw [aI_sI, aI_sI]
        split
        · rfl
        · exact aFirst_I (by omega)
theorem aEnter_sL : aL (aEnter A c s b) = aL (aServe A c s) := by
  have e1 : ∀ B : AS, (aFlt B c s (aSign A c s b)).2 = B.2 := fun B => by
    unfold aFlt
    split
    · rfl
    · split <;> rfl
  have e3 : (aFirst A c).2 = A.2 := by unfold aFirst; split <;> rfl
  have e4 : (aServe (aFirst A c) c s).2.1 = (aServe A c s).2.1 := by
    have eL : ∀ i, aL (aFirst A c) i = aL A i := fun i => by unfold aL; rw [e3]
    unfold aServe
    rw [aFirst_I (by omega), aFirst_I (by omega), aFirst_I (by omega), aFirst_I (by omega)]
    split
    · rw [e3]
    · split
      · rw [e3]
      · split
        · funext z
          show (if z = s then aL (aFirst A c) s + (aI A 9 s).toInt64 else (aFirst A c).2.1 z) = (if z = s then aL A s + (aI A 9 s).toInt64 else A.2.1 z)
          rw [eL, e3]
        · show (aFirst A c).2.1 = A.2.1
          rw [e3]
  funext z
  unfold aEnter aL
  show (aFlt _ c s _).2.1 z = _
  rw [e1]
  exact congrFun e4 z
theorem sumL_up {f g : Nat → Int64} {d : Int64} {y : Nat} (h : ∀ i, i ≠ y → g i = f i) (hy : g y = f y + d) : ∀ n : Nat, y < n → sumL n g = sumL n f + d
  | 0, hn => by omega
  | n + 1, hn => by
    have cg : ∀ m : Nat, m ≤ y → sumL m g = sumL m f := by
      intro m
      induction m with
      | zero => intro _; rfl
      | succ m ih => intro hm; rw [sumL, sumL, ih (by omega), h m (by omega)]
    rw [sumL, sumL]
    by_cases e : y = n
    · subst e
      rw [cg y (Nat.le_refl _), hy, Int64.add_assoc]
    · rw [sumL_up h hy n (by omega), h n (fun w => e w.symm), Int64.add_assoc, Int64.add_comm d, Int64.add_assoc]
/-- where the walk stands behind the numbers, before the log -/
def PR (A M : AS) (c s : Nat) (b : Int32) : Prop :=
  (∀ f i, f ≠ 16 → f ≠ 13 → f < 20 → aI M f i = aI (aEnter A c s b) f i) ∧ (∀ f i, f = 13 ∨ f = 20 ∨ f = 21 ∨ f = 22 → aI M f i = aI A f i) ∧ aL M = aL A ∧ aT M = aT A ∧ aW M = aW A ∧ aG M = aG A
theorem w_J262 {u4 u6 : Int32} {M : AS} (hq : q < 2) (hI : IA A) (hc : c < kC A) (hs : s < kS A) (hM : PR A M c s b) (h : MB q S0 S (aNote M c (cv (48 + nI s)))) (hl : (aT A).length + 1 < 1048576) (h13 : aI (aServe A c s) 13 s = aI A 13 s + (if u6 = 0 then 0 else 1)) (hL : aL (aServe A c s) = aL (sL A s (aL A s + (if u4 = 0 then 0 else if u6 = 0 then (aI A 9 s).toInt64 else 0))))
    (hj : q = 0 → (aI A 20 c = 0 ↔ s = 0 ∧ aI A 21 c = 0)) : wp (f_X6_enters_J262 (nI c) (nI s) u4 u6 (aSign A c s b) (nI c)) S (fun _ S1 => MB q S0 S1 (aEnter A c s b) ∧ LF S S1) := by
  have h30 := hI.2.2
  have h8 := hI.1.2
  obtain ⟨m1, m2, m3, m4, m5, m6⟩ := hM
  obtain ⟨r1, r2, r3, r4, r5⟩ := aEnter_R (A := A) (c := c) (s := s) (b := b)
  have eS : kS (aEnter A c s b) = kS A := by unfold kS; rw [aEnter_o (by omega)]
  have eC : kC (aEnter A c s b) = kC A := by unfold kC; rw [aEnter_o (by omega)]
  have mS : kS M = kS A := by rw [← eS]; unfold kS; rw [m1 0 0 (by omega) (by omega) (by omega)]
  have mC : kC M = kC A := by rw [← eC]; unfold kC; rw [m1 1 0 (by omega) (by omega) (by omega)]
  unfold f_X6_enters_J262
  refine w_call (w_writes (c := c) (g := aSign A c s b) h hq (by show (aT M ++ [(c, cv (48 + nI s))]).length < 1048576; rw [m4, List.length_append]; exact hl) aS_cv) (fun _ S2 h2 => ?_)
  obtain ⟨⟨k1, k2, k3, k4, k5⟩, kL⟩ := h2
  refine w_rdI ?_
  rw [k2]
  have cgR : ∀ S3, RM0 S3 M → RM0 S3 (aEnter A c s b) := fun S3 h => h.cg (fun f i a1 a2 a3 => (m1 f i a2 a1 a3).symm) (r1.trans m5.symm) (r3.trans m6.symm)
  have k1M : RM0 S2 M := k1.cg (fun _ _ _ _ _ => rfl) rfl rfl
  rcases (show q = 0 ∨ q = 1 by omega) with rfl | rfl
  · obtain ⟨x1, x2, x3, x4⟩ := k3 rfl
    have x1 : ∀ s, s < kS A → gI S2 15 0 s = aI A 13 s := fun y hy => by
      have := x1 y (by show y < kS M; rw [mS]; exact hy)
      rw [aI_note, aI_note, m2 13 y (by omega)] at this; exact this
    have x2 : ∀ y, y < kC A → gI S2 19 0 y = aI A 20 y ∧ gI S2 17 0 y = aI A 21 y ∧ (aI M 15 y = 100 → gI S2 18 0 y = aI A 22 y) := fun y hy => by
      have := x2 y (by show y < kC M; rw [mC]; exact hy)
      rw [aI_note, aI_note, aI_note, aI_note, aI_note, aI_note, aI_note, aI_note, m2 20 y (by omega), m2 21 y (by omega), m2 22 y (by omega)] at this; exact this
    have x3 : gL S2 0 = sumL 8 (aL A) := by rw [x3]; show sumL 8 (aL M) = _; rw [m3]
    have x4 : TM S2 (aT (aEnter A c s b)) := by
      rw [r4, ← m4]
      exact x4
    refine w_t rfl ?_
    refine w_mldx rfl (show c < 30 by omega) (by omega) ?_
    rw [(x2 c hc).1]
    refine w_mstx rfl (show c < 30 by omega) (by omega) ?_
    refine w_mldx rfl (show s < 8 by omega) (by omega) ?_
    have e15 : gI (pI S2 19 0 c (aI A 20 c ||| ((1 : Int32) <<< (nI s &&& 31)))) 15 0 s = aI A 13 s := by rw [gI_pI, if_neg (by omega)]; exact x1 s hs
    rw [e15]
    -- the rest: lacks, fitted, the first tick
    have rest : ∀ z : Int32, z = (if u6 = 0 then 0 else 1) → wp (f_X6_enters_J301 (nI c) (nI s) u4 u6 z (aI A 13 s) (nI s)) (pI S2 19 0 c (aI A 20 c ||| ((1 : Int32) <<< (nI s &&& 31)))) (fun _ S1 => MB 0 S0 S1 (aEnter A c s b) ∧ LF S S1) := by
      intro z hz
      unfold f_X6_enters_J301
      refine w_mstx rfl (show s < 8 by omega) (by omega) ?_
      refine w_rdL ?_
      have eL : gL (pI (pI S2 19 0 c (aI A 20 c ||| ((1 : Int32) <<< (nI s &&& 31)))) 15 0 s (aI A 13 s + z)) 0 = sumL 8 (aL A) := x3
      rw [eL]
      -- the first tick and the end
      have fin : ∀ d : Int64, d = (if u4 = 0 then 0 else if u6 = 0 then (aI A 9 s).toInt64 else 0) → wp (f_X6_enters_J329 (nI c) (nI s) d (sumL 8 (aL A))) (pI (pI S2 19 0 c (aI A 20 c ||| ((1 : Int32) <<< (nI s &&& 31)))) 15 0 s (aI A 13 s + z)) (fun _ S1 => MB 0 S0 S1 (aEnter A c s b) ∧ LF S S1) := by
        intro d hd
        have hsum : sumL 8 (aL (aEnter A c s b)) = sumL 8 (aL A) + d := by
          rw [aEnter_sL, hL]
          refine sumL_up (y := s) (fun i hi => ?_) ?_ 8 (by omega)
          · rw [aL_sL, if_neg hi]
          · rw [aL_sL, if_pos rfl, hd]
        have last : ∀ w1 : Int32, w1 = aI (aEnter A c s b) 21 c → wp (f_X6_enters_J380 w1 (nI c)) (pL (pI (pI S2 19 0 c (aI A 20 c ||| ((1 : Int32) <<< (nI s &&& 31)))) 15 0 s (aI A 13 s + z)) 0 (sumL 8 (aL A) + d)) (fun _ S1 => MB 0 S0 S1 (aEnter A c s b) ∧ LF S S1) := by
          intro w1 hw1
          unfold f_X6_enters_J380
          refine w_mstx rfl (show c < 30 by omega) (by omega) ?_
          refine w_rtn ⟨⟨cgR _ (k1M.cgS (fun f i j a1 a2 a3 a4 a5 a6 a7 a8 => ?_)), ?_, fun _ => ⟨fun y hy => ?_, fun y hy => ?_, ?_, ?_⟩, fun w => by omega, fun _ => ⟨fun y hy => ?_, fun y hy => ?_⟩⟩, fun j hj => ?_⟩
          · rw [gI_pI, if_neg (by omega), gI_pL, gI_pI, if_neg (by omega), gI_pI, if_neg (by omega)]
          · rw [gI_pI, if_neg (by omega), gI_pL, gI_pI, if_neg (by omega), gI_pI, if_neg (by omega)]; exact k2
          · rw [eS] at hy
            rw [gI_pI, if_neg (by omega), gI_pL, gI_pI]
            by_cases e : y = s
            · subst e
              rw [if_pos ⟨rfl, rfl, rfl⟩, aEnter_sv (Or.inr rfl), h13, hz]
            · rw [if_neg (fun w => e w.2.2), gI_pI, if_neg (by omega), aEnter_o (Or.inr (Or.inr (Or.inl ⟨by omega, e⟩)))]
              exact x1 y hy
          · rw [eC] at hy
            by_cases e : y = c
            · subst e
              refine ⟨?_, ?_, fun w => ?_⟩
              · rw [gI_pI, if_neg (by omega), gI_pL, gI_pI, if_neg (by omega), gI_pI, if_pos ⟨rfl, rfl, rfl⟩, aEnter_20]
              · rw [gI_pI, if_pos ⟨rfl, rfl, rfl⟩, hw1]
              · rw [aEnter_c (by omega), if_pos rfl] at w
                exact absurd w (by decide)
            · rw [aEnter_o (f := 20) (Or.inr (Or.inr (Or.inr ⟨by omega, e⟩))), aEnter_o (f := 21) (Or.inr (Or.inr (Or.inr ⟨by omega, e⟩))), aEnter_o (f := 15) (Or.inr (Or.inr (Or.inr ⟨by omega, e⟩))), aEnter_o (f := 22) (Or.inr (Or.inr (Or.inr ⟨by omega, e⟩))), gI_pI, if_neg (by omega), gI_pL, gI_pI, if_neg (by omega), gI_pI, if_neg (fun w => e w.2.2), gI_pI, if_neg (fun w => e w.2.2), gI_pL, gI_pI, if_neg (by omega), gI_pI, if_neg (by omega), gI_pI, if_neg (by omega), gI_pL, gI_pI, if_neg (by omega), gI_pI, if_neg (by omega)]
              obtain ⟨y1, y2, y3⟩ := x2 y hy
              refine ⟨y1, y2, fun w => y3 ?_⟩
              rw [m1 15 y (by omega) (by omega) (by omega), aEnter_o (Or.inr (Or.inr (Or.inr ⟨by omega, e⟩)))]
              exact w
          · rw [gL_pI, gL_pL, if_pos rfl, hsum]
          · obtain ⟨t1, t2, t3, t4, t5, t6, t7⟩ := x4
            exact ⟨by rw [gI_pI, if_neg (by omega), gI_pL, gI_pI, if_neg (by omega), gI_pI, if_neg (by omega)]; exact t1, t2, t3, t4, fun k hk => by rw [gI_pI, if_neg (by omega), gI_pL, gI_pI, if_neg (by omega), gI_pI, if_neg (by omega), gI_pI, if_neg (by omega), gI_pL, gI_pI, if_neg (by omega), gI_pI, if_neg (by omega)]; exact t5 k hk, t6, t7⟩
          · have m13 : gI S2 15 0 y = aI A 13 y := by
              have := ((k5 rfl).1 y hy).1
              rw [aI_note, aI_note, m2 13 y (by omega)] at this; exact this
            have m11 : nw S2 (6 + y) = aI (aEnter A c s b) 11 y := by
              have := ((k5 rfl).1 y hy).2
              rw [aI_note, aI_note, m1 11 y (by omega) (by omega) (by omega)] at this; exact this
            refine ⟨?_, ?_⟩
            · rw [gI_pI, if_neg (by omega), gI_pL, gI_pI]
              by_cases e : y = s
              · subst e
                rw [if_pos ⟨rfl, rfl, rfl⟩, aEnter_sv (Or.inr rfl), h13, hz]
              · rw [if_neg (fun w => e w.2.2), gI_pI, if_neg (by omega), aEnter_o (Or.inr (Or.inr (Or.inl ⟨by omega, e⟩)))]
                exact m13
            · show gI _ 20 0 (6 + y) = _
              rw [gI_pI, if_neg (by omega), gI_pL, gI_pI, if_neg (by omega), gI_pI, if_neg (by omega)]
              exact m11
          · obtain ⟨y1, y2, y3⟩ := (k5 rfl).2 y hy
            rw [aI_note, aI_note, m2 20 y (by omega)] at y1
            rw [aI_note, aI_note, m2 21 y (by omega)] at y2
            rw [aI_note, aI_note, m1 19 y (by omega) (by omega) (by omega)] at y3
            refine ⟨?_, ?_, ?_⟩
            · rw [gI_pI, if_neg (by omega), gI_pL, gI_pI, if_neg (by omega), gI_pI]
              by_cases e : y = c
              · subst e; rw [if_pos ⟨rfl, rfl, rfl⟩, aEnter_20]
              · rw [if_neg (fun w => e w.2.2), aEnter_o (Or.inr (Or.inr (Or.inr ⟨by omega, e⟩)))]; exact y1
            · rw [gI_pI]
              by_cases e : y = c
              · subst e; rw [if_pos ⟨rfl, rfl, rfl⟩, hw1]
              · rw [if_neg (fun w => e w.2.2), gI_pL, gI_pI, if_neg (by omega), gI_pI, if_neg (by omega), aEnter_o (Or.inr (Or.inr (Or.inr ⟨by omega, e⟩)))]; exact y2
            · show gI _ 20 0 (112 + y) = _
              rw [gI_pI, if_neg (by omega), gI_pL, gI_pI, if_neg (by omega), gI_pI, if_neg (by omega)]
              exact y3
          · show gI _ 20 0 j = gI S 20 0 j
            rw [gI_pI, if_neg (by omega), gI_pL, gI_pI, if_neg (by omega), gI_pI, if_neg (by omega)]
            exact kL j hj
        unfold f_X6_enters_J329
        refine w_wrL ?_
        have e17 : gI (pL (pI (pI S2 19 0 c (aI A 20 c ||| ((1 : Int32) <<< (nI s &&& 31)))) 15 0 s (aI A 13 s + z)) 0 (sumL 8 (aL A) + d)) 17 0 c = aI A 21 c := by rw [gI_pL, gI_pI, if_neg (by omega), gI_pI, if_neg (by omega)]; exact (x2 c hc).2.1
        have e232 : gI (pL (pI (pI S2 19 0 c (aI A 20 c ||| ((1 : Int32) <<< (nI s &&& 31)))) 15 0 s (aI A 13 s + z)) 0 (sumL 8 (aL A) + d)) 20 0 232 = aI A 2 0 := by
          rw [gI_pL, gI_pI, if_neg (by omega), gI_pI, if_neg (by omega)]
          have : gI S2 20 0 232 = aI M 2 0 := k1M.2.2.2.2.2.2.2.2.2.1
          rw [this, m1 2 0 (by omega) (by omega) (by omega), aEnter_o (by omega)]
        have stay : ¬ (aI A 20 c = 0) → wp (f_X6_enters_J350 (nI c)) (pL (pI (pI S2 19 0 c (aI A 20 c ||| ((1 : Int32) <<< (nI s &&& 31)))) 15 0 s (aI A 13 s + z)) 0 (sumL 8 (aL A) + d)) (fun _ S1 => MB 0 S0 S1 (aEnter A c s b) ∧ LF S S1) := by
          intro hne
          unfold f_X6_enters_J350 f_X6_enters_J351
          refine w_t rfl ?_
          refine w_mldx rfl (show c < 30 by omega) (by omega) ?_
          rw [e17]
          exact last _ (by rw [aEnter_21, if_neg hne])
        have hj := hj rfl
        by_cases hs0 : s = 0
        · subst hs0
          refine w_t rfl ?_
          refine w_mldx rfl (show c < 30 by omega) (by omega) ?_
          rw [e17]
          refine w_if (fun w => ?_) (fun w => stay (fun e => w (hj.mp e).2))
          unfold f_X6_enters_J351
          refine w_n (by decide) ?_
          refine w_mldx (j := 232) rfl (by omega) (by omega) ?_
          rw [e232]
          exact last _ (by rw [aEnter_21, if_pos (hj.mpr ⟨rfl, w⟩)])
        · refine w_n (nI_ne0 (by omega) (by omega)) ?_
          exact stay (fun e => hs0 (hj.mp e).1)
      refine w_if (fun e4 => ?_) (fun e4 => ?_)
      · unfold f_X6_enters_J328
        exact fin 0 (by rw [if_pos e4])
      · refine w_if (fun e6 => ?_) (fun e6 => ?_)
        · refine w_mldx rfl (show s < 8 by omega) (by omega) ?_
          have e13 : gI (pI (pI S2 19 0 c (aI A 20 c ||| ((1 : Int32) <<< (nI s &&& 31)))) 15 0 s (aI A 13 s + z)) 13 0 s = aI A 9 s := by
            rw [gI_pI, if_neg (by omega), gI_pI, if_neg (by omega), (k1M.2.1 s (by rw [mS]; exact hs)).2.2.1, m1 9 s (by omega) (by omega) (by omega), aEnter_o (by omega)]
          rw [e13]
          exact fin _ (by rw [if_neg e4, if_pos e6])
        · unfold f_X6_enters_J328
          exact fin 0 (by rw [if_neg e4, if_neg e6])
    refine w_if (fun e6 => rest 0 (by rw [if_pos e6])) (fun e6 => rest 1 (by rw [if_neg e6]))
  · refine w_n (by decide) ?_
    exact w_rtn ⟨⟨cgR _ k1M, k2, fun w => by omega, k4, fun w => by omega⟩, kL⟩
end EN
