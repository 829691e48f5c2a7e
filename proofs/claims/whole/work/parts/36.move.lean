/-! part 36: the tick of the class's line -/
/-- the car at a station -/
def atC (A : AS) (s : Nat) : Nat := (aI A 12 s).toNatClampNeg
def aMove (A : AS) (s : Nat) : AS :=
  if aI A 12 s = -1 then A else if 0 < aI A 17 (atC A s) then A
  else if aI A 18 (atC A s) = 0 ∧ s + 1 < kS A then (if aI A 12 (s + 1) = -1 then aEnter (sI A 12 s (-1)) (atC A s) (s + 1) 0 else A)
  else if aI A 19 (atC A s) = 0 then aLeave (sI A 12 s (-1)) (atC A s) else aLoop (sI A 12 s (-1)) (atC A s)
def aMoves (A : AS) : Nat → AS
  | 0 => A
  | n + 1 => aMoves (aMove A n) n
def aCnt (A : AS) (d : Int32) (s : Nat) : AS := if aI A 12 s = -1 then A else sI A 17 (atC A s) (if aI A 17 (atC A s) - d < 0 then 0 else aI A 17 (atC A s) - d)
def aCnts (A : AS) (d : Int32) (s : Nat) : Nat → AS
  | 0 => A
  | m + 1 => aCnts (aCnt A d s) d (s + 1) m
def prt (A : AS) (s : Nat) : Nat := (aI A 8 s).toNatClampNeg
def aFil (A : AS) (s : Nat) : AS := if aI A 8 s = -1 then A else
  (fun w : Int32 => sI (sI A 11 s (aI A 11 s + w)) 4 (prt A s) (aI A 4 (prt A s) - w)) (if aI A 4 (prt A s) < aI A 10 s - aI A 11 s then aI A 4 (prt A s) else aI A 10 s - aI A 11 s)
def aFils (A : AS) (s : Nat) : Nat → AS
  | 0 => A
  | m + 1 => aFils (aFil A s) (s + 1) m
/-- where a car stands: what the tick needs -/
def P1 (A : AS) : Prop := ∀ s, s < kS A → aI A 12 s = -1 ∨ (aI A 12 s = nI (atC A s) ∧ atC A s < kC A ∧ aI A 16 (atC A s) = nI s ∧ aI A 15 (atC A s) = 115)
def PP (A : AS) : Prop := ∀ s, s < kS A → aI A 8 s = -1 ∨ (aI A 8 s = nI (prt A s) ∧ prt A s < 6)
theorem RT.cg2 {S S1 : St} {x z : Nat} {l : List Int32} (h : RT S x l) (hk : ∀ f i j, ¬ ((f = 5 ∨ f = 6) ∧ i = z) → gI S1 f i j = gI S f i j) (_ : True) (hn : gN S1 0 x = gN S 0 x) : RT S1 x l := by
  obtain ⟨h1, h2, h3, h4, h5⟩ := h
  exact ⟨by rw [hk _ _ _ (by omega)]; exact h1, by rw [hn]; exact h2, by rw [hn]; exact h3, fun q hq => by rw [hk _ _ _ (by omega)]; exact h4 q hq, fun j hj => by rw [hk _ _ _ (by omega)]; exact h5 j hj⟩
section MOVE
variable {t k c s : Nat} {S0 S S1 : St} {A : AS} {b : Int32}
theorem w_away {z : Int32} (ht : t < 2) (h : CR t k S0 S A) (hc : c < 30) (hz : cv z = z) : wp (f_X0_goAway (30 * t + c) z) S (fun _ S1 => CR t k S0 S1 (aAway A c z)) := by
  unfold f_X0_goAway
  refine w_wrcC (by omega) hz ?_
  refine w_wrc (by omega) ?_
  refine w_wrc (by omega) ?_
  refine w_wrcZ (by omega) (Or.inl rfl) ?_
  refine w_rtn ?_
  unfold aAway
  exact (((h.car (by omega)).car (by omega)).car (by omega)).car (by omega)
theorem RW.cgI {x : Nat} {l : List Nat} (h : RW S x l) (hk : ∀ f j, f = 5 ∨ f = 6 → gI S1 f x j = gI S f x j) : RW S1 x l := ⟨h.1, by rw [hk _ _ (Or.inl rfl)]; exact h.2.1, fun k hk' => by rw [hk _ _ (Or.inr rfl)]; exact h.2.2 k hk'⟩
/-- a change of one row alone -/
theorem CR.row {x : Nat} {l : List Nat} {B : AS} (ht : t < 2) (h : CR t k S0 S A) (hx : x = 3 * t ∨ x = 3 * t + 1 ∨ x = 3 * t + 2) (hk : ∀ f i j, ¬ ((f = 5 ∨ f = 6) ∧ i = x) → gI S1 f i j = gI S f i j) (hL : ∀ i, gL S1 i = gL S i) (hN : ∀ f i, gN S1 f i = gN S f i) (hr : RW S1 x l)
    (hB : ∀ f i, aI B f i = aI A f i) (hBL : ∀ i, aL B i = aL A i) (hT : aT B = aT A) (hW : (if x = 3 * t then aW B = l else aW B = aW A)) (hO : (if x = 3 * t + 1 then aO B = l else aO B = aO A)) (hG : (if x = 3 * t + 2 then aG B = l else aG B = aG A)) : CR t k S0 S1 B := by
  obtain ⟨⟨h1, h2, h3, h4, h5, h6, h7⟩, hX, hF, hU⟩ := h
  have eS : kS B = kS A := by unfold kS; rw [hB]
  have eC : kC B = kC A := by unfold kC; rw [hB]
  refine ⟨⟨fun f hf => by rw [hk _ _ _ (by omega), hB]; exact h1 f hf, fun p hp => by rw [hk _ _ _ (by omega), hB]; exact h2 p hp, fun f s a b c => by rw [hk _ _ _ (by omega), hB]; exact h3 f s a b (by rw [← eS]; exact c), fun f s a b c => by rw [hk _ _ _ (by omega), hB]; exact h4 f s a b (by rw [← eC]; exact c), ?_, ?_, ?_⟩, fun q => ?_, fun q => ?_, fun q => ⟨fun a b c d e => by rw [hk _ _ _ (by omega), hB]; exact (hU q).1 a b c d e, fun a b c d e => by rw [hk _ _ _ (by omega), hB]; exact (hU q).2 a b c d e⟩⟩
  · by_cases e : x = 3 * t
    · rw [if_pos e] at hW; rw [hW, ← e]; exact hr
    · rw [if_neg e] at hW; rw [hW]; exact h5.cgI (fun f j hf => hk _ _ _ (by omega))
  · by_cases e : x = 3 * t + 1
    · rw [if_pos e] at hO; rw [hO, ← e]; exact hr
    · rw [if_neg e] at hO; rw [hO]; exact h6.cgI (fun f j hf => hk _ _ _ (by omega))
  · by_cases e : x = 3 * t + 2
    · rw [if_pos e] at hG; rw [hG, ← e]; exact hr
    · rw [if_neg e] at hG; rw [hG]; exact h7.cgI (fun f j hf => hk _ _ _ (by omega))
  · obtain ⟨x1, x2, x3, x4⟩ := hX q
    have et : ∀ y, trc B y = trc A y := fun y => by unfold trc; rw [hT]
    have ecap : capS S1 = capS S := by unfold capS; exact sumTo_cg 30 (fun i _ => hN 0 i)
    refine ⟨fun s hs => ⟨by rw [hk _ _ _ (by omega), hB]; exact (x1 s hs).1, by rw [hL, hBL]; exact (x1 s hs).2⟩, fun f c a b d => by rw [hk _ _ _ (by omega), hB]; exact x2 f c a b d, fun y hy => by rw [et]; exact (x3 y hy).cg2 hk trivial (hN 0 y), by rw [ecap, hN, hN]; exact x4⟩
  · subst q
    obtain ⟨f1, f2, f3⟩ := hF rfl
    exact ⟨fun f i j hz => by rw [hk _ _ _ (by unfold zro at hz; omega)]; exact f1 f i j hz, fun i hi => by rw [hL]; exact f2 i hi, fun f i => by rw [hN]; exact f3 f i⟩
end MOVE
section MOVE2
variable {t k c s : Nat} {S0 S S1 : St} {A : AS} {b : Int32}
theorem gI_stA {x n a i j : Nat} {v : Int32} (h : ¬ ((a = 5 ∨ a = 6) ∧ i = x)) : gI (stA S x n v) a i j = gI S a i j := by
  unfold stA
  rw [gI_pI, if_neg (by omega), gI_pI, if_neg (by omega)]
theorem gI_stR {x p n a i j : Nat} (h : ¬ ((a = 5 ∨ a = 6) ∧ i = x)) : gI (stR S x p n) a i j = gI S a i j := by
  unfold stR
  rw [gI_pI, if_neg (by omega), gI_shf, if_neg (by omega)]
theorem CR.appG (ht : t < 2) (h : CR t k S0 S A) (hl : (aG A).length < 30) : CR t k S0 (stA S (3 * t + 2) (aG A).length (nI c)) (sG A (aG A ++ [c])) :=
  h.row (x := 3 * t + 2) ht (Or.inr (Or.inr rfl)) (fun f i j q => gI_stA q) (fun i => rfl) (fun f i => rfl) (h.1.2.2.2.2.2.2.app hl) (fun _ _ => rfl) (fun _ => rfl) rfl (by rw [if_neg (by omega)]; rfl) (by rw [if_neg (by omega)]; rfl) (by rw [if_pos rfl]; rfl)
theorem CR.appO (ht : t < 2) (h : CR t k S0 S A) (hl : (aO A).length < 30) : CR t k S0 (stA S (3 * t + 1) (aO A).length (nI c)) (sO A (aO A ++ [c])) :=
  h.row (x := 3 * t + 1) ht (Or.inr (Or.inl rfl)) (fun f i j q => gI_stA q) (fun i => rfl) (fun f i => rfl) (h.1.2.2.2.2.2.1.app hl) (fun _ _ => rfl) (fun _ => rfl) rfl (by rw [if_neg (by omega)]; rfl) (by rw [if_pos rfl]; rfl) (by rw [if_neg (by omega)]; rfl)
theorem CR.remO {p : Nat} (ht : t < 2) (h : CR t k S0 S A) (hp : p < (aO A).length) : CR t k S0 (stR S (3 * t + 1) p (aO A).length) (sO A ((aO A).eraseIdx p)) :=
  h.row (x := 3 * t + 1) ht (Or.inr (Or.inl rfl)) (fun f i j q => gI_stR q) (fun i => rfl) (fun f i => rfl) (h.1.2.2.2.2.2.1.rem hp) (fun _ _ => rfl) (fun _ => rfl) rfl (by rw [if_neg (by omega)]; rfl) (by rw [if_pos rfl]; rfl) (by rw [if_neg (by omega)]; rfl)
theorem CR.remW {p : Nat} (ht : t < 2) (h : CR t k S0 S A) (hp : p < (aW A).length) : CR t k S0 (stR S (3 * t) p (aW A).length) (sW A ((aW A).eraseIdx p)) :=
  h.row (x := 3 * t) ht (Or.inl rfl) (fun f i j q => gI_stR q) (fun i => rfl) (fun f i => rfl) (h.1.2.2.2.2.1.rem hp) (fun _ _ => rfl) (fun _ => rfl) rfl (by rw [if_pos rfl]; rfl) (by rw [if_neg (by omega)]; rfl) (by rw [if_neg (by omega)]; rfl)
theorem w_leave (ht : t < 2) (h : CR t k S0 S A) (hc : c < 30) (hl : (trc A c).length < 32768) (hg : (aG A).length < 30) : wp (f_X1_leave t (30 * t + c)) S (fun _ S1 => CR t k S0 S1 (aLeave A c)) := by
  unfold f_X1_leave
  refine w_t (by omega) ?_
  refine w_call (w_away (z := 100) ht h hc (by decide)) (fun _ S1 h1 => ?_)
  refine w_rdc ht ?_
  refine w_wrc (by omega) ?_
  have h2 : CR t k S0 (pI S1 22 (30 * t + c) 0 (gI S1 2 t 0)) (sI (aAway A c 100) 22 c (aI A 2 0)) := h1.x20 (by omega) hc (fun _ => h1.1.1 2 (by omega))
  refine w_rfc ht ?_
  refine w_rdk (by omega) ?_
  rw [show (30 * t + c) % 30 = c by omega]
  refine w_t (by omega) ?_
  refine w_ev (e_append (by omega) h2.1.2.2.2.2.2.2 hg) ?_
  refine w_t ht ?_
  have h3 := h2.appG (c := c) ht hg
  refine w_call (w_note (g := 120) ht hc h3 hl (by decide)) (fun _ S4 h4 => ?_)
  exact w_rtn h4
theorem w_toLoop (ht : t < 2) (h : CR t k S0 S A) (hc : c < 30) (hl : (trc A c).length < 32768) (hg : (aO A).length < 30) : wp (f_X1_comeToLoop t (30 * t + c)) S (fun _ S1 => CR t k S0 S1 (aLoop A c)) := by
  unfold f_X1_comeToLoop
  refine w_t (by omega) ?_
  refine w_call (w_away (z := 108) ht h hc (by decide)) (fun _ S1 h1 => ?_)
  refine w_rfc ht ?_
  refine w_rdk (by omega) ?_
  rw [show (30 * t + c) % 30 = c by omega]
  refine w_t (by omega) ?_
  refine w_ev (e_append (by omega) h1.1.2.2.2.2.2.1 hg) ?_
  refine w_t ht ?_
  have h3 := h1.appO (c := c) ht hg
  refine w_call (w_note (g := 76) ht hc h3 hl (by decide)) (fun _ S4 h4 => ?_)
  exact w_rtn h4
theorem w_moveOn (ht : t < 2) (h : CR t k S0 S A) (hI : IA A) (h1 : P1 A) (hs : s < kS A) (hl : ∀ c, (trc A c).length + 2 ≤ 32768) (hg : aI A 12 s ≠ -1 → (aG A).length < 30 ∧ (aO A).length < 30) : wp (f_X1_moveOn t (nI s)) S (fun _ S1 => CR t k S0 S1 (aMove A s)) := by
  have h30 : kC A ≤ 30 := hI.2.2
  have h8 : kS A ≤ 8 := hI.1.2
  unfold f_X1_moveOn
  refine w_t ht ?_
  refine w_ev (e_findStation ht h.1 hI hs) ?_
  refine w_t ht ?_
  by_cases hn : aI A 12 s = -1
  · refine w_ev (e_standingAt0 ht h.1 hI hs hn) ?_
    refine w_t (by omega) ?_
    refine w_n (by omega) ?_
    exact w_rtn (by unfold aMove; rw [if_pos hn]; exact h)
  obtain ⟨p1, p2, p3, p4⟩ := (h1 s hs).resolve_left hn
  obtain ⟨g1, g2⟩ := hg hn
  generalize hcc : atC A s = c at p1 p2 p3 p4
  have am : aMove A s = (if 0 < aI A 17 c then A else if aI A 18 c = 0 ∧ s + 1 < kS A then (if aI A 12 (s + 1) = -1 then aEnter (sI A 12 s (-1)) c (s + 1) 0 else A) else if aI A 19 c = 0 then aLeave (sI A 12 s (-1)) c else aLoop (sI A 12 s (-1)) c) := by
    unfold aMove
    rw [if_neg hn, hcc]
  rw [am]
  refine w_ev (e_standingAt ht h.1 hI hs p1 p2) ?_
  refine w_t (by omega) ?_
  refine w_t (by omega) ?_
  refine w_rdc (by omega) ?_
  rw [h.1.2.2.2.1 17 c (by omega) (by omega) p2]
  by_cases hgo : 0 < aI A 17 c
  · exact w_t hgo (w_rtn (by rw [if_pos hgo]; exact h))
  refine w_n hgo ?_
  rw [if_neg hgo]
  refine w_t ht ?_
  obtain ⟨v, e1, e2⟩ := e_isHeldUp ht h.1 hI hs p2 p3
  refine w_ev e1 ?_
  by_cases hv : v = 0
  · refine w_t hv ?_
    have hnh := e2.mp hv
    refine w_wrc (by omega) ?_
    have hB := h.st (f := 12) (s := s) (v := -1) (by omega)
    have hIB : IA (sI A 12 s (-1)) := hI.sI (by omega)
    have kSB : kS (sI A 12 s (-1)) = kS A := kS_sI (by omega)
    have kCB : kC (sI A 12 s (-1)) = kC A := kC_sI (by omega)
    have gB : ∀ f i, f ≠ 12 → aI (sI A 12 s (-1)) f i = aI A f i := fun f i q => by rw [aI_sI, if_neg (fun w => q w.1)]
    refine w_t ht ?_
    obtain ⟨u, d1, d2⟩ := e_goesAlong ht hB.1 hIB (s := s) (c := c) (by rw [kSB]; exact hs) (by rw [kCB]; exact p2) (by rw [gB _ _ (by omega)]; exact p3)
    refine w_ev d1 ?_
    have hal : along (sI A 12 s (-1)) c s ↔ (aI A 18 c = 0 ∧ s + 1 < kS A) := by unfold along; rw [gB _ _ (by omega), kSB]
    have hal2 : along A c s ↔ (aI A 18 c = 0 ∧ s + 1 < kS A) := Iff.rfl
    by_cases hu : u = 0
    · have hna := fun q => (d2.mp hu) (hal.mpr q)
      refine w_t hu ?_
      rw [if_neg hna]
      refine w_rdc (by omega) ?_
      rw [hB.1.2.2.2.1 19 c (by omega) (by omega) (by rw [kCB]; exact p2), gB _ _ (by omega)]
      refine w_if (fun q => ?_) (fun q => ?_)
      · rw [if_pos q]
        refine w_t ht ?_
        refine w_call (w_leave ht hB (by omega) (by have := hl c; show (trc A c).length < 32768; omega) g1) (fun _ S9 h9 => w_rtn h9)
      · rw [if_neg q]
        refine w_t ht ?_
        refine w_call (w_toLoop ht hB (by omega) (by have := hl c; show (trc A c).length < 32768; omega) g2) (fun _ S9 h9 => w_rtn h9)
    · have hya : aI A 18 c = 0 ∧ s + 1 < kS A := Classical.byContradiction fun q => hu (d2.mpr (fun w => q (hal.mp w)))
      have hfree : aI A 12 (s + 1) = -1 := Classical.byContradiction fun q => hnh ⟨hya, q⟩
      refine w_n hu ?_
      rw [if_pos hya, if_pos hfree]
      refine w_t ht ?_
      rw [nI_1]
      refine w_call (w_enter ht hB hIB (by rw [kSB]; exact hya.2) (by rw [kCB]; exact p2) (Or.inl rfl) (hl c)) (fun _ S9 h9 => w_rtn h9)
  · refine w_n hv ?_
    have hh : along A c s ∧ aI A 12 (s + 1) ≠ -1 := Classical.byContradiction fun q => hv (e2.mpr q)
    rw [if_pos (show aI A 18 c = 0 ∧ s + 1 < kS A from hh.1), if_neg hh.2]
    exact w_rtn h
end MOVE2
