/-! part 77: ticks in which nothing happens but that cars have less to go -/
def dcr (g d : Int32) : Int32 := if g - d < 0 then 0 else g - d
/-- for q ticks nothing happens at station s -/
def QS (A : AS) (s q : Nat) : Prop := aI A 12 s ≠ -1 → (∃ g, g ≤ 9 ∧ aI A 17 (atC A s) = nI g ∧ q < g) ∨ (aI A 17 (atC A s) = nI 0 ∧ aI A 18 (atC A s) = 0 ∧ s + 1 < kS A ∧ aI A 12 (s + 1) ≠ -1)
/-- for q ticks nothing happens -/
def Qt (A : AS) (T q : Nat) : Prop := q = 0 ∨ ((aW A = [] ∨ aI A 12 0 ≠ -1) ∧ (∀ c, c ∈ aO A → aI A 12 (low (aI A 19 c)) ≠ -1) ∧ (∃ p, p ≤ 60 ∧ aI A 3 0 = nI p ∧ T % p + q < p) ∧ ∀ s, s < kS A → QS A s q)
/-- q ticks at once -/
def aQ (A : AS) (q : Nat) : AS := aCnts (sI A 2 0 (aI A 2 0 + nI q)) (nI q) 0 (kS A)
theorem nI_subn {a b : Nat} (h : b ≤ a) : nI a - nI b = nI (a - b) := by
  have h9 : nI a = nI (a - b) + nI b := by rw [nI_add]; congr 1; omega
  rw [h9, Int32.add_sub_cancel]
theorem dcr_nI {g e : Nat} (hg : g ≤ 9) (he : e ≤ 300) : dcr (nI g) (nI e) = nI (g - e) := togo_ok g hg e he
section QUI
variable {A B : AS} {T c s i f q x : Nat} {d : Int32}
theorem AS_eq (h : ∀ f i, aI A f i = aI B f i) (h2 : A.2 = B.2) : A = B := Prod.ext (funext fun f => funext fun i => h f i) h2
theorem cnt_o (hf : f ≠ 17) : aI (aCnt A d s) f i = aI A f i := by
  unfold aCnt
  split
  · rfl
  · rw [aI_sI, if_neg (fun w => hf w.1)]
theorem cnt_n (h : aI A 12 s ≠ -1 → atC A s ≠ i) : aI (aCnt A d s) 17 i = aI A 17 i := by
  unfold aCnt
  split
  · rfl
  · rename_i hn
    rw [aI_sI, if_neg (fun w => h hn w.2.symm)]
theorem cnt_y (h : aI A 12 s ≠ -1) : aI (aCnt A d s) 17 (atC A s) = dcr (aI A 17 (atC A s)) d := by
  unfold aCnt
  rw [if_neg h, aI_sI, if_pos ⟨rfl, rfl⟩]
  rfl
theorem cnt_at : atC (aCnt A d s) x = atC A x := by unfold atC; rw [cnt_o (by omega)]
theorem cnts_R : ∀ (m s : Nat) (A : AS), (aCnts A d s m).2 = A.2
  | 0, _, _ => rfl
  | m + 1, s, A => by
    rw [aCnts, cnts_R m (s + 1)]
    unfold aCnt
    split <;> rfl
theorem cnts_o (hf : f ≠ 17) : ∀ (m s : Nat) (A : AS), aI (aCnts A d s m) f i = aI A f i
  | 0, _, _ => rfl
  | m + 1, s, A => by rw [aCnts, cnts_o hf m (s + 1), cnt_o hf]
theorem cnts_n : ∀ (m s : Nat) (A : AS), (∀ x, s ≤ x → x < s + m → aI A 12 x ≠ -1 → atC A x ≠ i) → aI (aCnts A d s m) 17 i = aI A 17 i
  | 0, _, _, _ => rfl
  | m + 1, s, A, h => by
    rw [aCnts, cnts_n m (s + 1) (aCnt A d s) (fun x h1 h2 h3 => by rw [cnt_o (by omega)] at h3; rw [cnt_at]; exact h x (by omega) (by omega) h3), cnt_n (fun h3 => h s (by omega) (by omega) h3)]
theorem cnts_y : ∀ (m s x : Nat) (A : AS), s ≤ x → x < s + m → aI A 12 x ≠ -1 → (∀ y, s ≤ y → y < s + m → aI A 12 y ≠ -1 → atC A y = atC A x → y = x) → aI (aCnts A d s m) 17 (atC A x) = dcr (aI A 17 (atC A x)) d
  | 0, s, x, A, h1, h2, _, _ => by omega
  | m + 1, s, x, A, h1, h2, h3, h4 => by
    rw [aCnts]
    by_cases e : s = x
    · subst e
      rw [cnts_n m (s + 1) (aCnt A d s) (fun y y1 y2 y3 y4 => by
        rw [cnt_o (by omega)] at y3
        rw [cnt_at] at y4
        have := h4 y (by omega) (by omega) y3 y4
        omega), cnt_y h3]
    · have h9 := cnts_y m (s + 1) x (aCnt A d s) (by omega) (by omega) (by rw [cnt_o (by omega)]; exact h3) (fun y y1 y2 y3 y4 => by
        rw [cnt_o (by omega)] at y3
        rw [cnt_at, cnt_at] at y4
        exact h4 y (by omega) (by omega) y3 y4)
      rw [cnt_at, cnt_n (fun w z => e (h4 s (by omega) (by omega) w z))] at h9
      exact h9
/-- each car stands at one station -/
theorem one_st (h : JA A) (hs : s < kS A) (hx : x < kS A) (h1 : aI A 12 s ≠ -1) (h2 : aI A 12 x ≠ -1) (he : atC A x = atC A s) : x = s := by
  have h8 := h.1.1.2
  obtain ⟨-, -, p3, -, -⟩ := (h.2.1 s hs).resolve_left h1
  obtain ⟨-, -, r3, -, -⟩ := (h.2.1 x hx).resolve_left h2
  rw [he, p3] at r3
  exact (nI_inj (by omega) (by omega) r3).symm
theorem aQ_R : (aQ A q).2 = A.2 := by unfold aQ; rw [cnts_R]; rfl
theorem aQ_o (hf : f ≠ 17) (h2 : f ≠ 2) : aI (aQ A q) f i = aI A f i := by unfold aQ; rw [cnts_o hf, aI_sI, if_neg (fun w => h2 w.1)]
theorem aQ_2 : aI (aQ A q) 2 i = if i = 0 then aI A 2 0 + nI q else aI A 2 i := by
  unfold aQ
  rw [cnts_o (by omega), aI_sI]
  by_cases h : i = 0
  · rw [if_pos ⟨rfl, h⟩, if_pos h]
  · rw [if_neg (fun w => h w.2), if_neg h]
theorem aQ_at : atC (aQ A q) x = atC A x := by unfold atC; rw [aQ_o (by omega) (by omega)]
theorem aQ_S : kS (aQ A q) = kS A := by unfold kS; rw [aQ_o (by omega) (by omega)]
theorem aQ_C : kC (aQ A q) = kC A := by unfold kC; rw [aQ_o (by omega) (by omega)]
theorem aQ_y (h : JA A) (hs : s < kS A) (h1 : aI A 12 s ≠ -1) : aI (aQ A q) 17 (atC A s) = dcr (aI A 17 (atC A s)) (nI q) := by
  have e12 : ∀ x, aI (sI A 2 0 (aI A 2 0 + nI q)) 12 x = aI A 12 x := fun x => by rw [aI_sI, if_neg (by omega)]
  have eat : ∀ x, atC (sI A 2 0 (aI A 2 0 + nI q)) x = atC A x := fun x => by unfold atC; rw [e12]
  have h9 := cnts_y (d := nI q) (kS A) 0 s (sI A 2 0 (aI A 2 0 + nI q)) (by omega) (by omega) (by rw [e12]; exact h1) (fun y y1 y2 y3 y4 => by
    rw [e12] at y3
    rw [eat, eat] at y4
    exact one_st h hs (by omega) h1 y3 y4)
  rw [eat, aI_sI, if_neg (by omega)] at h9
  exact h9
theorem aQ_n (h : ∀ x, x < kS A → aI A 12 x ≠ -1 → atC A x ≠ i) : aI (aQ A q) 17 i = aI A 17 i := by
  have e12 : ∀ x, aI (sI A 2 0 (aI A 2 0 + nI q)) 12 x = aI A 12 x := fun x => by rw [aI_sI, if_neg (by omega)]
  have eat : ∀ x, atC (sI A 2 0 (aI A 2 0 + nI q)) x = atC A x := fun x => by unfold atC; rw [e12]
  unfold aQ
  rw [cnts_n (kS A) 0 (sI A 2 0 (aI A 2 0 + nI q)) (fun x h1 h2 h3 => by rw [e12] at h3; rw [eat]; exact h x (by omega) h3), aI_sI, if_neg (by omega)]
/-- a car's ticks to go, when it stands -/
theorem togo9 (h : JA A) (hs : s < kS A) (h1 : aI A 12 s ≠ -1) : ∃ g, g ≤ 9 ∧ aI A 17 (atC A s) = nI g :=
  (h.2.2.2.2.1 _ ((h.2.1 s hs).resolve_left h1).2.1).2.2.2.2.1
theorem aQ_0 (h : JA A) : aQ A 0 = A := by
  refine AS_eq (fun f i => ?_) aQ_R
  by_cases h17 : f = 17
  · subst h17
    by_cases hx : ∃ x, x < kS A ∧ aI A 12 x ≠ -1 ∧ atC A x = i
    · obtain ⟨x, x1, x2, rfl⟩ := hx
      obtain ⟨g, g1, g2⟩ := togo9 h x1 x2
      rw [aQ_y h x1 x2, g2, dcr_nI g1 (by omega), Nat.sub_zero]
    · exact aQ_n (fun x x1 x2 x3 => hx ⟨x, x1, x2, x3⟩)
  · by_cases h2 : f = 2
    · subst h2
      rw [aQ_2]
      by_cases hi : i = 0
      · rw [if_pos hi, hi, nI_00, Int32.add_zero]
      · rw [if_neg hi]
    · exact aQ_o h17 h2
theorem aQ_add (h : JA A) (h1 : JA (aQ A 1)) (hq : q < 300) : aQ (aQ A 1) q = aQ A (q + 1) := by
  refine AS_eq (fun f i => ?_) (by rw [aQ_R, aQ_R, aQ_R])
  by_cases h17 : f = 17
  · subst h17
    by_cases hx : ∃ x, x < kS A ∧ aI A 12 x ≠ -1 ∧ atC A x = i
    · obtain ⟨x, x1, x2, rfl⟩ := hx
      obtain ⟨g, g1, g2⟩ := togo9 h x1 x2
      have e1 := aQ_y (s := x) (q := q) h1 (by rw [aQ_S]; exact x1) (by rw [aQ_o (by omega) (by omega)]; exact x2)
      rw [aQ_at] at e1
      rw [e1, aQ_y h x1 x2, aQ_y h x1 x2, g2, dcr_nI g1 (by omega), dcr_nI g1 (by omega), dcr_nI (by omega) (by omega)]
      congr 1
      omega
    · rw [aQ_n (A := aQ A 1) (q := q) (fun x x1 x2 x3 => hx ⟨x, by rw [aQ_S] at x1; exact x1, by rw [aQ_o (by omega) (by omega)] at x2; exact x2, by rw [aQ_at] at x3; exact x3⟩), aQ_n (fun x x1 x2 x3 => hx ⟨x, x1, x2, x3⟩), aQ_n (fun x x1 x2 x3 => hx ⟨x, x1, x2, x3⟩)]
  · by_cases h2 : f = 2
    · subst h2
      by_cases hi : i = 0
      · subst hi
        rw [aQ_2, if_pos rfl, aQ_2, if_pos rfl, aQ_2, if_pos rfl, Int32.add_assoc, nI_add, Nat.add_comm 1 q]
      · rw [aQ_2, if_neg hi, aQ_2, if_neg hi, aQ_2, if_neg hi]
    · rw [aQ_o h17 h2, aQ_o h17 h2, aQ_o h17 h2]
theorem move_id (h : aI A 12 s ≠ -1 → 0 < aI A 17 (atC A s) ∨ (aI A 18 (atC A s) = 0 ∧ s + 1 < kS A ∧ aI A 12 (s + 1) ≠ -1)) : aMove A s = A := by
  unfold aMove
  by_cases h1 : aI A 12 s = -1
  · rw [if_pos h1]
  · rw [if_neg h1]
    by_cases h2 : 0 < aI A 17 (atC A s)
    · rw [if_pos h2]
    · obtain ⟨q1, q2, q3⟩ := (h h1).resolve_left h2
      rw [if_neg h2, if_pos ⟨q1, q2⟩, if_neg q3]
theorem moves_id : ∀ n : Nat, (∀ s, s < n → aMove A s = A) → aMoves A n = A
  | 0, _ => rfl
  | n + 1, h => by rw [aMoves, h n (by omega)]; exact moves_id n (fun s hs => h s (by omega))
theorem back_id : ∀ (td st : List Nat), (∀ c, c ∈ td → aI A 12 (low (aI A 19 c)) ≠ -1) → aBack A st td = A
  | [], _, _ => rfl
  | c :: r, st, h => by
    rw [aBack, if_neg (h c List.mem_cons_self)]
    exact back_id r (st ++ [c]) (fun d hd => h d (List.mem_cons_of_mem _ hd))
theorem wait_id (h : aW A = [] ∨ aI A 12 0 ≠ -1) : aWait A = A := by
  unfold aWait
  cases hW : aW A with
  | nil => rfl
  | cons c r =>
    dsimp only
    rw [if_neg]
    rcases h with h | h
    · rw [hW] at h; cases h
    · exact h
theorem QS.dec (h : JA A) (hs : s < kS A) (hQ : QS A s (q + 1)) : QS (aQ A 1) s q := by
  intro h1
  rw [aQ_o (by omega) (by omega)] at h1
  rw [aQ_at, aQ_y h hs h1, aQ_S, aQ_o (by omega) (by omega), aQ_o (by omega) (by omega)]
  rcases hQ h1 with ⟨g, g1, g2, g3⟩ | ⟨g2, g4, g5, g6⟩
  · exact Or.inl ⟨g - 1, by omega, by rw [g2, dcr_nI g1 (by omega)], by omega⟩
  · exact Or.inr ⟨by rw [g2]; exact dcr_nI (g := 0) (e := 1) (by omega) (by omega), g4, g5, g6⟩
/-- a tick in which nothing happens -/
theorem Q_tick (h : TP A T) (hT : T < 20000) (hQ : Qt A T (q + 1)) : aTick A = aQ A 1 ∧ Qt (aQ A 1) (T + 1) q := by
  obtain ⟨hw, ho, ⟨p, p60, ep, hp⟩, hs⟩ := hQ.resolve_left (by omega)
  have hJ := h.1
  have hR : ∀ q, aW (aQ A q) = aW A ∧ aO (aQ A q) = aO A := fun q => by unfold aW aO; rw [aQ_R]; exact ⟨rfl, rfl⟩
  have hS : ∀ s, s < kS A → QS (aQ A 1) s q := fun s h1 => (hs s h1).dec hJ h1
  have er : aRnd A = sI A 2 0 (aI A 2 0 + nI 1) := by
    unfold aRnd
    rw [if_neg]
    · rfl
    · rw [ep, h.2.1, nI_mod (by omega) (by omega) (by omega), nI_subn (by omega)]
      intro w
      have := nI_inj (b := 1) (by omega) (by omega) w
      omega
  have mv : ∀ s, s < kS A → aMove (aQ A 1) s = aQ A 1 := fun s h1 => move_id (fun h2 => by
    rcases hS s h1 h2 with ⟨g, g1, g2, g3⟩ | ⟨g2, g4, g5, g6⟩
    · exact Or.inl (by rw [g2]; exact Int32.not_le.mp (nI_ge (a := 0) (by omega) (by omega)))
    · exact Or.inr ⟨g4, g5, g6⟩)
  have e1 : aTick1 A = aQ A 1 := by
    unfold aTick1
    rw [er]
    exact moves_id (kS A) mv
  have ho1 : ∀ c, c ∈ aO (aQ A 1) → aI (aQ A 1) 12 (low (aI (aQ A 1) 19 c)) ≠ -1 := fun c hc => by
    rw [(hR 1).2] at hc
    rw [aQ_o (by omega) (by omega), aQ_o (by omega) (by omega)]
    exact ho c hc
  have hw1 : aW (aQ A 1) = [] ∨ aI (aQ A 1) 12 0 ≠ -1 := by rw [(hR 1).1, aQ_o (by omega) (by omega)]; exact hw
  refine ⟨?_, ?_⟩
  · unfold aTick
    rw [e1, back_id _ _ ho1, wait_id hw1]
  · by_cases hq : q = 0
    · exact Or.inl hq
    · refine Or.inr ⟨hw1, ho1, ⟨p, p60, by rw [aQ_o (by omega) (by omega)]; exact ep, ?_⟩, fun s h1 => by rw [aQ_S] at h1; exact hS s h1⟩
      have : (T + 1) % p = T % p + 1 := by
        rw [Nat.add_mod, Nat.mod_eq_of_lt (show 1 < p by omega), Nat.mod_eq_of_lt (by omega)]
      omega
theorem TP.ticks : ∀ (q : Nat) (A : AS) (T : Nat), TP A T → T + q ≤ 20000 → TP (aTicks A q) (T + q) ∧ kC (aTicks A q) = kC A
  | 0, _, _, h, _ => ⟨h, rfl⟩
  | q + 1, A, T, h, hT => by
    obtain ⟨t1, t2, t3⟩ := h.tick (by omega)
    obtain ⟨u1, u2⟩ := TP.ticks q _ (T + 1) t1 (by omega)
    rw [aTicks, show T + (q + 1) = T + 1 + q by omega]
    exact ⟨u1, u2.trans t3⟩
theorem Q_ticks : ∀ (q : Nat) (A : AS) (T : Nat), TP A T → T + q ≤ 20000 → q ≤ 300 → Qt A T q → aTicks A q = aQ A q
  | 0, A, T, h, _, _, _ => (aQ_0 h.1).symm
  | q + 1, A, T, h, hT, hq, hQ => by
    obtain ⟨e1, e2⟩ := Q_tick h (by omega) hQ
    obtain ⟨t1, t2, t3⟩ := h.tick (by omega)
    rw [e1] at t1
    rw [aTicks, e1, Q_ticks q _ (T + 1) t1 (by omega) (by omega) e2, aQ_add h.1 t1.1 (by omega)]
theorem gIn_skip : ∀ (q m j : Nat) (A : AS) (T : Nat), TP A T → T + q ≤ 20000 → Qt A T q → q ≤ m → aI A 15 c ≠ 100 → gIn A c m j = gIn (aTicks A q) c (m - q) (j + q)
  | 0, m, j, A, T, _, _, _, _, _ => rfl
  | q + 1, m, j, A, T, h, hT, hQ, hm, hc => by
    obtain ⟨m, rfl⟩ : ∃ u, m = u + 1 := ⟨m - 1, by omega⟩
    obtain ⟨e1, e2⟩ := Q_tick h (by omega) hQ
    obtain ⟨t1, t2, t3⟩ := h.tick (by omega)
    have e15 : aI (aTick A) 15 c ≠ 100 := by rw [e1, aQ_o (by omega) (by omega)]; exact hc
    rw [gIn, if_neg e15, aTicks, show m + 1 - (q + 1) = m - q by omega, show j + (q + 1) = j + 1 + q by omega]
    exact gIn_skip q m (j + 1) _ (T + 1) t1 (by omega) (by rw [e1]; exact e2) (by omega) e15
theorem QS.le {r : Nat} (h : QS A s q) (hr : r ≤ q) : QS A s r := fun h1 => (h h1).elim (fun ⟨g, g1, g2, g3⟩ => Or.inl ⟨g, g1, g2, by omega⟩) Or.inr
theorem Qt.le {r : Nat} (h : Qt A T q) (hr : r ≤ q) : Qt A T r := by
  by_cases hz : r = 0
  · exact Or.inl hz
  · obtain ⟨hw, ho, ⟨p, p60, ep, hp⟩, hs⟩ := h.resolve_left (by omega)
    exact Or.inr ⟨hw, ho, ⟨p, p60, ep, by omega⟩, fun s h1 => (hs s h1).le hr⟩
theorem gIn_none {m j : Nat} (h : TP A T) (hT : T + m ≤ 20000) (hQ : Qt A T q) (hm : m ≤ q) (hc : aI A 15 c ≠ 100) : gIn A c m j = none := by
  have e := gIn_skip m m j A T h hT (hQ.le hm) (Nat.le_refl _) hc
  rw [Nat.sub_self] at e
  exact e
end QUI
