/-! part 39: the tick: its loops over stations, the loop, the waiting cars -/
section KEEP2
variable {A : AS} {c s fl : Nat} {b : Int32}
/-- fields of no moment here -/
theorem JF.oth {f i : Nat} {v : Int32} (h : JF fl A) (hf : f = 4 ∨ f = 9 ∨ f = 10 ∨ f = 11 ∨ f = 13 ∨ f = 14 ∨ f = 22) : JF fl (sI A f i v) := by
  obtain ⟨j1, j2, j3, ⟨j4w, j4o, j4g⟩, j5, j6, j7, j8, j9, j10⟩ := h
  have o : ∀ g j, g ≠ f → aI (sI A f i v) g j = aI A g j := fun g j q => by rw [aI_sI, if_neg (fun w => q w.1)]
  obtain ⟨i1, eS, eC⟩ := j1.of (B := sI A f i v) (o 0 0 (by omega)) (o 1 0 (by omega))
  have row : ∀ l z, RO A fl l z → RO (sI A f i v) fl l z := fun l z hr => ⟨hr.1, fun d => by rw [hr.2 d, eC, o 15 d (by omega)]⟩
  unfold JF
  rw [eS, eC]
  refine ⟨i1, fun x hx => ?_, fun d hd hn h9 => ?_, ⟨row _ _ j4w, row _ _ j4o, row _ _ j4g⟩, fun d hd => (j5 d hd).cg eS (fun g g1 g2 g3 => o g d (by omega)), fun x hx => (j6 x hx).cg (o _ _ (by omega)) (o _ _ (by omega)), by rw [o 2 0 (by omega), o 3 0 (by omega)]; exact j7, j8, j9, j10⟩
  · have := j2 x hx
    unfold AT1 atC at this ⊢
    rw [o 12 x (by omega), eC, o 16 _ (by omega), o 15 _ (by omega)]
    exact this
  · rw [o 15 d (by omega)] at h9
    obtain ⟨x, x1, x2, x3⟩ := j3 d hd hn h9
    exact ⟨x, x1, by rw [o 16 d (by omega)]; exact x2, by rw [o 12 x (by omega)]; exact x3⟩
theorem JF.s17 {g : Nat} (h : JF fl A) (hg : g ≤ 9) : JF fl (sI A 17 c (nI g)) := by
  obtain ⟨j1, j2, j3, ⟨j4w, j4o, j4g⟩, j5, j6, j7, j8, j9, j10⟩ := h
  have o : ∀ f j, f ≠ 17 → aI (sI A 17 c (nI g)) f j = aI A f j := fun g j q => by rw [aI_sI, if_neg (fun w => q w.1)]
  obtain ⟨i1, eS, eC⟩ := j1.of (B := sI A 17 c (nI g)) (o 0 0 (by omega)) (o 1 0 (by omega))
  have row : ∀ l z, RO A fl l z → RO (sI A 17 c (nI g)) fl l z := fun l z hr => ⟨hr.1, fun d => by rw [hr.2 d, eC, o 15 d (by omega)]⟩
  unfold JF
  rw [eS, eC]
  refine ⟨i1, fun x hx => ?_, fun d hd hn h9 => ?_, ⟨row _ _ j4w, row _ _ j4o, row _ _ j4g⟩, fun d hd => ?_, fun x hx => (j6 x hx).cg (o _ _ (by omega)) (o _ _ (by omega)), by rw [o 2 0 (by omega), o 3 0 (by omega)]; exact j7, j8, j9, j10⟩
  · have := j2 x hx
    unfold AT1 atC at this ⊢
    rw [o 12 x (by omega), eC, o 16 _ (by omega), o 15 _ (by omega)]
    exact this
  · rw [o 15 d (by omega)] at h9
    obtain ⟨x, x1, x2, x3⟩ := j3 d hd hn h9
    exact ⟨x, x1, by rw [o 16 d (by omega)]; exact x2, by rw [o 12 x (by omega)]; exact x3⟩
  · obtain ⟨p1, p2, p3, p4, p5, p6, p7, p8⟩ := j5 d hd
    unfold CO1
    rw [eS, o 15 d (by omega), o 18 d (by omega), o 19 d (by omega), o 20 d (by omega), o 21 d (by omega)]
    refine ⟨p1, p2, p3, p4, ?_, p6, p7, p8⟩
    rw [aI_sI]
    split
    · exact ⟨g, hg, rfl⟩
    · exact p5
theorem JF.s2 {T : Nat} (h : JF fl A) (hT : T ≤ 20000) : JF fl (sI A 2 0 (nI T)) := by
  obtain ⟨j1, j2, j3, ⟨j4w, j4o, j4g⟩, j5, j6, j7, j8, j9, j10⟩ := h
  have o : ∀ f j, f ≠ 2 → aI (sI A 2 0 (nI T)) f j = aI A f j := fun g j q => by rw [aI_sI, if_neg (fun w => q w.1)]
  obtain ⟨i1, eS, eC⟩ := j1.of (B := sI A 2 0 (nI T)) (o 0 0 (by omega)) (o 1 0 (by omega))
  have row : ∀ l z, RO A fl l z → RO (sI A 2 0 (nI T)) fl l z := fun l z hr => ⟨hr.1, fun d => by rw [hr.2 d, eC, o 15 d (by omega)]⟩
  unfold JF
  rw [eS, eC]
  refine ⟨i1, fun x hx => ?_, fun d hd hn h9 => ?_, ⟨row _ _ j4w, row _ _ j4o, row _ _ j4g⟩, fun d hd => (j5 d hd).cg eS (fun g g1 g2 g3 => o g d (by omega)), fun x hx => (j6 x hx).cg (o _ _ (by omega)) (o _ _ (by omega)), ⟨⟨T, hT, by rw [aI_sI, if_pos ⟨rfl, rfl⟩]⟩, by rw [o 3 0 (by omega)]; exact j7.2⟩, j8, j9, j10⟩
  · have := j2 x hx
    unfold AT1 atC at this ⊢
    rw [o 12 x (by omega), eC, o 16 _ (by omega), o 15 _ (by omega)]
    exact this
  · rw [o 15 d (by omega)] at h9
    obtain ⟨x, x1, x2, x3⟩ := j3 d hd hn h9
    exact ⟨x, x1, by rw [o 16 d (by omega)]; exact x2, by rw [o 12 x (by omega)]; exact x3⟩
/-- a car is taken out of its row -/
theorem J_off {B : AS} {z : Int32} (h : JA A) (hc : c < kC A) (hz : aI A 15 c = z) (hz5 : z ≠ 115) (hB : ∀ f i, aI B f i = aI A f i) (hL : ∀ i, aL B i = aL A i) (hT : aT B = aT A)
    (hrow : ∀ l l' x, RO A 30 l x → (x = z → l'.Nodup ∧ ∀ d, d ∈ l' ↔ (d ∈ l ∧ d ≠ c)) → (x ≠ z → l' = l) → RO B c l' x → True)
    (hW : ∀ d, d ∈ aW B ↔ (d ∈ aW A ∧ d ≠ c)) (hWn : (aW B).Nodup) (hO : ∀ d, d ∈ aO B ↔ (d ∈ aO A ∧ d ≠ c)) (hOn : (aO B).Nodup) (hG : ∀ d, d ∈ aG B ↔ (d ∈ aG A ∧ d ≠ c)) (hGn : (aG B).Nodup) : JF c B := by
  obtain ⟨j1, j2, j3, ⟨j4w, j4o, j4g⟩, j5, j6, j7, j8, j9, j10⟩ := h
  have h30 : kC A ≤ 30 := j1.2.2
  obtain ⟨i1, eS, eC⟩ := j1.of (B := B) (hB 0 0) (hB 1 0)
  have row : ∀ l l' x, RO A 30 l x → l'.Nodup → (∀ d, d ∈ l' ↔ (d ∈ l ∧ d ≠ c)) → RO B c l' x := fun l l' x hr hn hd => ⟨hn, fun d => by
    rw [hd d, hr.2 d, eC, hB]
    exact ⟨fun w => ⟨w.1.1, w.1.2.1, w.2⟩, fun w => ⟨⟨w.1, w.2.1, by omega⟩, w.2.2⟩⟩⟩
  unfold JF
  rw [eS, eC, hT]
  refine ⟨i1, fun x hx => ?_, fun d hd hn h9 => ?_, ⟨row _ _ _ j4w hWn hW, row _ _ _ j4o hOn hO, row _ _ _ j4g hGn hG⟩, fun d hd => (j5 d hd).cg eS (fun g g1 g2 g3 => hB g d), fun x hx => (j6 x hx).cg (hB _ _) (hB _ _), by rw [hB, hB]; exact j7, j8, j9, fun y hy => by rw [hL]; exact j10 y hy⟩
  · have := j2 x hx
    unfold AT1 atC at this ⊢
    rw [hB 12, eC, hB 16, hB 15]
    rcases this with w | ⟨w1, w2, w3, w4, w5⟩
    · exact Or.inl w
    · exact Or.inr ⟨w1, w2, w3, w4, fun e => hz5 (by rw [← hz, ← e]; exact w4)⟩
  · rw [hB] at h9
    obtain ⟨x, x1, x2, x3⟩ := j3 d hd (by omega) h9
    exact ⟨x, x1, by rw [hB]; exact x2, by rw [hB]; exact x3⟩
theorem RO.not {l : List Nat} {z y : Int32} (hr : RO A 30 l z) (hc : c < kC A) (hz : aI A 15 c = y) (hyz : y ≠ z) : ∀ d, d ∈ l ↔ (d ∈ l ∧ d ≠ c) := fun d =>
  ⟨fun w => ⟨w, fun e => hyz (by rw [← hz, ← e]; exact ((hr.2 d).mp w).2.1)⟩, fun w => w.1⟩
theorem nodup_mid {l r : List Nat} (h : (l ++ c :: r).Nodup) : (l ++ r).Nodup ∧ ∀ d, d ∈ l ++ r ↔ (d ∈ l ++ c :: r ∧ d ≠ c) := by
  rw [List.nodup_append] at h
  obtain ⟨h1, h2, h3⟩ := h
  rw [List.nodup_cons] at h2
  refine ⟨List.nodup_append.mpr ⟨h1, h2.2, fun a ha b hb => h3 a ha b (List.mem_cons_of_mem _ hb)⟩, fun d => ?_⟩
  rw [List.mem_append, List.mem_append, List.mem_cons]
  constructor
  · rintro (w | w)
    · exact ⟨Or.inl w, fun e => h3 d w c List.mem_cons_self e⟩
    · exact ⟨Or.inr (Or.inr w), fun e => h2.1 (e ▸ w)⟩
  · rintro ⟨w | w | w, e⟩
    · exact Or.inl w
    · exact absurd w e
    · exact Or.inr w
theorem J_offO {l r : List Nat} (h : JA A) (hl : aO A = l ++ c :: r) : JF c (sO A (l ++ r)) ∧ c < kC A ∧ aI A 15 c = 108 := by
  have hm := (h.2.2.2.1.2.1.2 c).mp (by rw [hl]; simp)
  obtain ⟨n1, n2⟩ := nodup_mid (l := l) (r := r) (c := c) (by rw [← hl]; exact h.2.2.2.1.2.1.1)
  refine ⟨J_off (z := 108) h hm.1 hm.2.1 (by decide) (fun _ _ => rfl) (fun _ => rfl) rfl (fun _ _ _ _ _ _ _ => trivial) (RO.not h.2.2.2.1.1 hm.1 hm.2.1 (by decide)) h.2.2.2.1.1.1 (fun d => by rw [hl]; exact n2 d) n1 (RO.not h.2.2.2.1.2.2 hm.1 hm.2.1 (by decide)) h.2.2.2.1.2.2.1, hm.1, hm.2.1⟩
theorem J_offW {r : List Nat} (h : JA A) (hl : aW A = c :: r) : JF c (sW A r) ∧ c < kC A ∧ aI A 15 c = 119 := by
  have hm := (h.2.2.2.1.1.2 c).mp (by rw [hl]; simp)
  obtain ⟨n1, n2⟩ := nodup_mid (l := []) (r := r) (c := c) (by rw [List.nil_append, ← hl]; exact h.2.2.2.1.1.1)
  refine ⟨J_off (z := 119) h hm.1 hm.2.1 (by decide) (fun _ _ => rfl) (fun _ => rfl) rfl (fun _ _ _ _ _ _ _ => trivial) (fun d => by rw [hl]; exact n2 d) n1 (RO.not h.2.2.2.1.2.1 hm.1 hm.2.1 (by decide)) h.2.2.2.1.2.1.1 (RO.not h.2.2.2.1.2.2 hm.1 hm.2.1 (by decide)) h.2.2.2.1.2.2.1, hm.1, hm.2.1⟩
end KEEP2
def aBack : AS → List Nat → List Nat → AS
  | A, _, [] => A
  | A, st, c :: r => if aI A 12 (low (aI A 19 c)) = -1 then aBack (aEnter (sO A (st ++ r)) c (low (aI A 19 c)) 1) st r else aBack A (st ++ [c]) r
def aWait (A : AS) : AS := match aW A with
  | [] => A
  | c :: r => if aI A 12 0 = -1 then aEnter (sW A r) c 0 0 else A
def aRnd (A : AS) : AS := if aI A 3 0 - (aI A 2 0 - aI A 2 0 / aI A 3 0 * aI A 3 0) = 1 then aFils (sI A 2 0 (aI A 2 0 + 1)) 0 (kS A) else sI A 2 0 (aI A 2 0 + 1)
def aTick1 (A : AS) : AS := aMoves (aCnts (aRnd A) 1 0 (kS A)) (kS A)
def aTick (A : AS) : AS := aWait (aBack (aTick1 A) [] (aO (aTick1 A)))
theorem togo_ok : ∀ g, g ≤ 9 → ∀ e, e ≤ 300 → (if nI g - nI e < 0 then (0 : Int32) else nI g - nI e) = nI (g - e) := by decide +kernel
section KEEP3
variable {A : AS} {c s : Nat} {b : Int32}
theorem J_cnt {e : Nat} (h : JA A) (hs : s < kS A) (he : e ≤ 300) : JA (aCnt A (nI e) s) := by
  unfold aCnt
  split
  · exact h
  · rename_i hn
    obtain ⟨p1, p2, p3, p4, p5⟩ := (h.2.1 s hs).resolve_left hn
    obtain ⟨g, g1, g2⟩ := (h.2.2.2.2.1 _ p2).2.2.2.2.1
    rw [g2, togo_ok g g1 e he]
    exact h.s17 (by omega)
theorem kS_cnt {e : Int32} : kS (aCnt A e s) = kS A := by
  unfold aCnt
  split
  · rfl
  · exact kS_sI (by omega)
theorem J_cnts {e : Nat} (he : e ≤ 300) : ∀ (m s : Nat) (A : AS), JA A → s + m = kS A → JA (aCnts A (nI e) s m)
  | 0, s, A, h, _ => h
  | m + 1, s, A, h, hm => by
    rw [aCnts]
    exact J_cnts he m (s + 1) _ (J_cnt h (by omega) he) (by rw [kS_cnt]; omega)
theorem kS_fil : kS (aFil A s) = kS A := by
  unfold aFil
  split
  · rfl
  · exact (kS_sI (by omega)).trans (kS_sI (by omega))
theorem J_fil (h : JA A) : JA (aFil A s) := by
  unfold aFil
  split
  · exact h
  · exact (h.oth (by omega)).oth (by omega)
theorem J_fils : ∀ (m s : Nat) (A : AS), JA A → JA (aFils A s m)
  | 0, s, A, h => h
  | m + 1, s, A, h => by
    rw [aFils]
    exact J_fils m (s + 1) _ (J_fil h)
theorem kS_fils : ∀ (m s : Nat) (A : AS), kS (aFils A s m) = kS A
  | 0, s, A => rfl
  | m + 1, s, A => by rw [aFils, kS_fils m (s + 1), kS_fil]
theorem kS_cnts {e : Int32} : ∀ (m s : Nat) (A : AS), kS (aCnts A e s m) = kS A
  | 0, s, A => rfl
  | m + 1, s, A => by rw [aCnts, kS_cnts m (s + 1), kS_cnt]
theorem move_lo {f i : Nat} (hf : f < 5) : aI (aMove A s) f i = aI A f i := by
  have o : ∀ f i, f < 12 → aI (sI A 12 s (-1)) f i = aI A f i := fun f i q => by rw [aI_sI, if_neg (by omega)]
  unfold aMove
  split
  · rfl
  · split
    · rfl
    · split
      · split
        · rw [aEnter_o (by omega), o f i (by omega)]
        · rfl
      · split
        · unfold aLeave
          rw [aI_note, aI_sG, aI_sI, if_neg (by omega), aAway_o (by omega), o f i (by omega)]
        · unfold aLoop
          rw [aI_note, aI_sO, aAway_o (by omega), o f i (by omega)]
theorem kS_move : kS (aMove A s) = kS A := by unfold kS; rw [move_lo (by omega)]
theorem kC_move : kC (aMove A s) = kC A := by unfold kC; rw [move_lo (by omega)]
theorem kS_moves : ∀ (n : Nat) (A : AS), kS (aMoves A n) = kS A ∧ kC (aMoves A n) = kC A ∧ ∀ f i, f < 5 → aI (aMoves A n) f i = aI A f i
  | 0, A => ⟨rfl, rfl, fun _ _ _ => rfl⟩
  | n + 1, A => by
    rw [aMoves]
    obtain ⟨h1, h2, h3⟩ := kS_moves n (aMove A n)
    exact ⟨h1.trans kS_move, h2.trans kC_move, fun f i hf => (h3 f i hf).trans (move_lo hf)⟩
theorem J_moves : ∀ (n : Nat) (A : AS), JA A → aI A 2 0 ≠ 0 → n ≤ kS A → JA (aMoves A n)
  | 0, A, h, _, _ => h
  | n + 1, A, h, hT, hn => by
    rw [aMoves]
    exact J_moves n _ (J_move h (by omega) hT) (by rw [move_lo (by omega)]; exact hT) (by rw [kS_move]; omega)
theorem low_lt (h : JA A) (hc : c < kC A) (hz : aI A 15 c = 108) : low (aI A 19 c) < kS A := by
  obtain ⟨p1, ⟨m, m1, m2⟩, p3, -⟩ := h.2.2.2.2.1 c hc
  have := p3 hz
  rw [m2] at this ⊢
  have m0 : m ≠ 0 := fun w => this (by rw [w]; rfl)
  exact low_mask _ h.1.1.2 m m1 (by omega)
theorem J_back : ∀ (td st : List Nat) (A : AS), JA A → aI A 2 0 ≠ 0 → aO A = st ++ td → JA (aBack A st td) ∧ (∀ f i, f < 5 → aI (aBack A st td) f i = aI A f i)
  | [], st, A, h, _, _ => ⟨h, fun _ _ _ => rfl⟩
  | c :: r, st, A, h, hT, hO => by
    rw [aBack]
    obtain ⟨k1, k2, k3⟩ := J_offO h hO
    have hlow := low_lt h k2 k3
    by_cases hf : aI A 12 (low (aI A 19 c)) = -1
    · rw [if_pos hf]
      have h1 := J_enter (s := low (aI A 19 c)) (b := 1) k1 k2 hlow hf (Or.inr rfl) hT
      obtain ⟨q1, q2⟩ := J_back r st _ h1 (by rw [aEnter_o (by omega)]; exact hT) (by rw [aEnter_R.2.1]; rfl)
      exact ⟨q1, fun f i hf => by rw [q2 f i hf, aEnter_o (by omega)]; rfl⟩
    · rw [if_neg hf]
      exact J_back r (st ++ [c]) A h hT (by rw [hO]; simp)
theorem J_wait (h : JA A) (hT : aI A 2 0 ≠ 0) : JA (aWait A) ∧ ∀ f i, f < 5 → aI (aWait A) f i = aI A f i := by
  unfold aWait
  cases hW : aW A with
  | nil => exact ⟨h, fun _ _ _ => rfl⟩
  | cons c r =>
    obtain ⟨k1, k2, k3⟩ := J_offW h hW
    have hS0 : 0 < kS A := Nat.pos_of_ne_zero fun w => by
      have := h.2.2.2.2.2.2.2.1 w
      omega
    by_cases hf : aI A 12 0 = -1
    · dsimp only
      rw [if_pos hf]
      exact ⟨J_enter (s := 0) (b := 0) k1 k2 hS0 hf (Or.inl rfl) hT, fun f i hf => by rw [aEnter_o (by omega)]; rfl⟩
    · dsimp only
      rw [if_neg hf]
      exact ⟨h, fun _ _ _ => rfl⟩
theorem J_rnd {T : Nat} (h : JA A) (hT : aI A 2 0 = nI T) (hT1 : T < 20000) : JA (aRnd A) ∧ kS (aRnd A) = kS A ∧ aI (aRnd A) 2 0 = nI (T + 1) := by
  have h1 : JA (sI A 2 0 (nI (T + 1))) := h.s2 (by omega)
  have eS : kS (sI A 2 0 (nI (T + 1))) = kS A := kS_sI (by omega)
  have lo : ∀ (m s : Nat) (A : AS), aI (aFils A s m) 2 0 = aI A 2 0 := by
    intro m
    induction m with
    | zero => intro s A; rfl
    | succ m ih =>
      intro s A
      rw [aFils, ih]
      unfold aFil
      split
      · rfl
      · dsimp only
        rw [aI_sI, if_neg (by omega), aI_sI, if_neg (by omega)]
  unfold aRnd
  rw [hT, nI_1]
  split
  · exact ⟨J_fils _ _ _ h1, (kS_fils _ _ _).trans eS, by rw [lo, aI_sI, if_pos ⟨rfl, rfl⟩]⟩
  · exact ⟨h1, eS, by rw [aI_sI, if_pos ⟨rfl, rfl⟩]⟩
end KEEP3
