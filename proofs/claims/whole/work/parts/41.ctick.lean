/-! part 41: the class's tick is the common one -/
section CT1
variable {t k c s : Nat} {S0 S S1 : St} {A : AS} {b : Int32}
theorem e_isFaulty {j : Nat} (ht : t < 2) (h : RC t S A) (hI : IA A) (hc : c < kC A) : ∃ v, (f_X0_isFaulty (30 * t + c) (nI j)).1 S = some (v, S) ∧ (v = 0 ↔ bit (aI A 19 c) (nI j) = 0) := by
  have h30 : kC A ≤ 30 := hI.2.2
  by_cases q : bit (aI A 19 c) (nI j) = 0
  · refine ⟨0, ev_of ?_, by simp [q]⟩
    unfold f_X0_isFaulty
    refine w_rdc (by omega) ?_
    rw [h.2.2.2.1 19 c (by omega) (by omega) hc]
    exact w_t q (w_rtnZ (Or.inl rfl) ⟨rfl, rfl⟩)
  · refine ⟨1, ev_of ?_, by simp [q]⟩
    unfold f_X0_isFaulty
    refine w_rdc (by omega) ?_
    rw [h.2.2.2.1 19 c (by omega) (by omega) hc]
    exact w_n q (w_rtnZ (Or.inr rfl) ⟨rfl, rfl⟩)
theorem low_ge : ∀ (m : Int32) (j : Nat), j ≤ 8 → (∀ i, i < j → bit m (nI i) = 0) → j ≤ low m := by
  intro m j hj h
  unfold low
  by_cases h0 : bit m (nI 0) ≠ 0
  · rw [if_pos h0]; exact Nat.le_of_not_lt (fun w => h0 (h 0 w))
  rw [if_neg h0]
  by_cases h1 : bit m (nI 1) ≠ 0
  · rw [if_pos h1]; exact Nat.le_of_not_lt (fun w => h1 (h 1 w))
  rw [if_neg h1]
  by_cases h2 : bit m (nI 2) ≠ 0
  · rw [if_pos h2]; exact Nat.le_of_not_lt (fun w => h2 (h 2 w))
  rw [if_neg h2]
  by_cases h3 : bit m (nI 3) ≠ 0
  · rw [if_pos h3]; exact Nat.le_of_not_lt (fun w => h3 (h 3 w))
  rw [if_neg h3]
  by_cases h4 : bit m (nI 4) ≠ 0
  · rw [if_pos h4]; exact Nat.le_of_not_lt (fun w => h4 (h 4 w))
  rw [if_neg h4]
  by_cases h5 : bit m (nI 5) ≠ 0
  · rw [if_pos h5]; exact Nat.le_of_not_lt (fun w => h5 (h 5 w))
  rw [if_neg h5]
  by_cases h6 : bit m (nI 6) ≠ 0
  · rw [if_pos h6]; exact Nat.le_of_not_lt (fun w => h6 (h 6 w))
  rw [if_neg h6]
  by_cases h7 : bit m (nI 7) ≠ 0
  · rw [if_pos h7]; exact Nat.le_of_not_lt (fun w => h7 (h 7 w))
  rw [if_neg h7]
  exact hj
theorem low_eq (m : Int32) (j : Nat) (hj : j < 8) (h : ∀ i, i < j → bit m (nI i) = 0) (hb : bit m (nI j) ≠ 0) : low m = j := by
  have h1 := low_ge m j (by omega) h
  refine Nat.le_antisymm (Nat.le_of_not_lt fun hlt => ?_) h1
  have z : ∀ i, i < j → ¬ (bit m (nI i) ≠ 0) := fun i hi w => w (h i hi)
  unfold low at hlt
  rcases (show j = 0 ∨ j = 1 ∨ j = 2 ∨ j = 3 ∨ j = 4 ∨ j = 5 ∨ j = 6 ∨ j = 7 by omega) with rfl | rfl | rfl | rfl | rfl | rfl | rfl | rfl
  · rw [if_pos hb] at hlt; omega
  · rw [if_neg (z 0 (by omega)), if_pos hb] at hlt; omega
  · rw [if_neg (z 0 (by omega)), if_neg (z 1 (by omega)), if_pos hb] at hlt; omega
  · rw [if_neg (z 0 (by omega)), if_neg (z 1 (by omega)), if_neg (z 2 (by omega)), if_pos hb] at hlt; omega
  · rw [if_neg (z 0 (by omega)), if_neg (z 1 (by omega)), if_neg (z 2 (by omega)), if_neg (z 3 (by omega)), if_pos hb] at hlt; omega
  · rw [if_neg (z 0 (by omega)), if_neg (z 1 (by omega)), if_neg (z 2 (by omega)), if_neg (z 3 (by omega)), if_neg (z 4 (by omega)), if_pos hb] at hlt; omega
  · rw [if_neg (z 0 (by omega)), if_neg (z 1 (by omega)), if_neg (z 2 (by omega)), if_neg (z 3 (by omega)), if_neg (z 4 (by omega)), if_neg (z 5 (by omega)), if_pos hb] at hlt; omega
  · rw [if_neg (z 0 (by omega)), if_neg (z 1 (by omega)), if_neg (z 2 (by omega)), if_neg (z 3 (by omega)), if_neg (z 4 (by omega)), if_neg (z 5 (by omega)), if_neg (z 6 (by omega)), if_pos hb] at hlt; omega
theorem e_lowL (ht : t < 2) (h : RC t S A) (hI : IA A) (hc : c < kC A) : ∀ (m n j : Nat), 8 - j < n → j + m = 8 → (∀ i, i < j → bit (aI A 19 c) (nI i) = 0) → (f_X0_lowestFault_L2 n (30 * t + c) (nI j)).1 S = some (if low (aI A 19 c) < 8 then nI (low (aI A 19 c)) else -1, S) := by
  have h30 : kC A ≤ 30 := hI.2.2
  intro m
  induction m with
  | zero =>
    intro n j hn hj hz
    obtain ⟨n, rfl⟩ : ∃ k, n = k + 1 := ⟨n - 1, by omega⟩
    have hj : j = 8 := by omega
    subst hj
    refine ev_of ?_
    rw [f_X0_lowestFault_L2]
    refine w_t (by decide) (w_rtn ⟨?_, rfl⟩)
    rw [if_neg (by have := low_ge _ 8 (by omega) hz; omega)]
  | succ m ih =>
    intro n j hn hj hz
    obtain ⟨n, rfl⟩ : ∃ k, n = k + 1 := ⟨n - 1, by omega⟩
    refine ev_of ?_
    rw [f_X0_lowestFault_L2]
    refine w_n (by rw [show (8 : Int32) = nI 8 from rfl]; exact nI_ge (by omega) (by omega)) ?_
    refine w_t (by omega) ?_
    obtain ⟨v, e1, e2⟩ := e_isFaulty (j := j) ht h hI hc
    refine w_ev e1 ?_
    refine w_if (fun q => ?_) (fun q => w_rtn ⟨?_, rfl⟩)
    · rw [nI_1]
      exact w_of (ih n (j + 1) (by omega) (by omega) (fun i hi => by
        by_cases e : i = j
        · subst e; exact e2.mp q
        · exact hz i (by omega))) ⟨rfl, rfl⟩
    · have hb : bit (aI A 19 c) (nI j) ≠ 0 := fun w => q (e2.mpr w)
      have hlj := low_eq _ j (by omega) hz hb
      rw [hlj, if_pos (by omega)]
theorem e_lowest (ht : t < 2) (h : RC t S A) (hI : IA A) (hc : c < kC A) (hl : low (aI A 19 c) < 8) : (f_X0_lowestFault (30 * t + c)).1 S = some (nI (low (aI A 19 c)), S) := by
  have := e_lowL ht h hI hc 8 400 0 (by omega) (by omega) (fun i hi => by omega)
  rw [if_pos hl] at this
  exact this
theorem w_cnts {d : Int32} (ht : t < 2) : ∀ (m n s : Nat) (A : AS) (S : St), CR t k S0 S A → IA A → P1 A → s + m = kS A → m < n → wp (f_X1_countDown_L2 n t d (nI s)) S (fun _ S1 => CR t k S0 S1 (aCnts A d s m)) := by
  intro m
  induction m with
  | zero =>
    intro n s A S h hI h1 hm hn
    obtain ⟨n, rfl⟩ : ∃ k, n = k + 1 := ⟨n - 1, by omega⟩
    rw [f_X1_countDown_L2]
    refine w_rdc ht ?_
    rw [h.1.1 0 (by omega), hI.1.1]
    exact w_t (nI_le (by omega) (by have := hI.1.2; omega)) (w_rtn h)
  | succ m ih =>
    intro n s A S h hI h1 hm hn
    obtain ⟨n, rfl⟩ : ∃ k, n = k + 1 := ⟨n - 1, by omega⟩
    have hs : s < kS A := by omega
    have h8 := hI.1.2
    have h30 := hI.2.2
    rw [f_X1_countDown_L2, aCnts]
    refine w_rdc ht ?_
    rw [h.1.1 0 (by omega), hI.1.1]
    refine w_n (nI_ge hs (by omega)) ?_
    refine w_t ht ?_
    rw [nI_1]
    unfold aCnt
    rcases h1 s hs with w | ⟨w1, w2, w3, w4⟩
    · rw [if_pos w]
      refine w_ev (e_standingAt0 ht h.1 hI hs w) ?_
      refine w_n (by omega) ?_
      exact ih n (s + 1) A S h hI h1 (by omega) (by omega)
    · rw [if_neg (by rw [w1]; exact nI_ne_neg (by omega))]
      refine w_ev (e_standingAt ht h.1 hI hs w1 w2) ?_
      refine w_t (by omega) ?_
      refine w_rdc (by omega) ?_
      rw [h.1.2.2.2.1 17 _ (by omega) (by omega) w2]
      refine w_wrc (by omega) ?_
      have hC := h.car (f := 17) (c := atC A s) (v := if aI A 17 (atC A s) - d < 0 then 0 else aI A 17 (atC A s) - d) (by omega)
      refine ih n (s + 1) _ _ hC (hI.sI (by omega)) ?_ (by rw [kS_sI (by omega)]; omega) (by omega)
      intro x hx
      rw [kS_sI (by omega)] at hx
      have := h1 x hx
      unfold atC at this ⊢
      rw [aI_sI, if_neg (by omega), kC_sI (by omega), aI_sI, if_neg (by omega), aI_sI, if_neg (by omega)]
      exact this
theorem e_units {p : Nat} (ht : t < 2) (h : RC t S A) (hp : p < 6) : (f_X1_unitsOf t (nI p)).1 S = some (aI A 4 p, S) := by
  refine ev_of ?_
  unfold f_X1_unitsOf
  refine w_n (nI_pos (by omega)) ?_
  refine w_rfc ht ?_
  refine w_rdk ht ?_
  refine w_n (nI_ge hp (by omega)) ?_
  refine w_rfc ht ?_
  refine w_ald ht hp (by omega) ?_
  rw [h.2.1 p hp]
  exact w_rtn ⟨rfl, rfl⟩
theorem e_change {p : Nat} {u : Int32} (ht : t < 2) (h : RC t S A) (hp : p < 6) : (f_X1_changeUnits t (nI p) u).1 S = some ((), pI S 4 t p (aI A 4 p + u)) := by
  refine ev_of ?_
  unfold f_X1_changeUnits
  refine w_n (nI_pos (by omega)) ?_
  refine w_rfc ht ?_
  refine w_rdk ht ?_
  refine w_n (nI_ge hp (by omega)) ?_
  refine w_rfc ht ?_
  refine w_ald ht hp (by omega) ?_
  rw [h.2.1 p hp]
  refine w_ast ht hp (by omega) ?_
  exact w_rtn ⟨rfl, rfl⟩
theorem w_fils (ht : t < 2) : ∀ (m n s : Nat) (A : AS) (S : St), CR t k S0 S A → IA A → PP A → s + m = kS A → m < n → wp (f_X1_fillShelves_L2 n t (nI s)) S (fun _ S1 => CR t k S0 S1 (aFils A s m)) := by
  intro m
  induction m with
  | zero =>
    intro n s A S h hI h1 hm hn
    obtain ⟨n, rfl⟩ : ∃ k, n = k + 1 := ⟨n - 1, by omega⟩
    rw [f_X1_fillShelves_L2]
    refine w_rdc ht ?_
    rw [h.1.1 0 (by omega), hI.1.1]
    exact w_t (nI_le (by omega) (by have := hI.1.2; omega)) (w_rtn h)
  | succ m ih =>
    intro n s A S h hI h1 hm hn
    obtain ⟨n, rfl⟩ : ∃ k, n = k + 1 := ⟨n - 1, by omega⟩
    have hs : s < kS A := by omega
    have h8 := hI.1.2
    have g8 := h.1.2.2.1 8 s (by omega) (by omega) hs
    have g10 := h.1.2.2.1 10 s (by omega) (by omega) hs
    have g11 := h.1.2.2.1 11 s (by omega) (by omega) hs
    rw [f_X1_fillShelves_L2, aFils]
    refine w_rdc ht ?_
    rw [h.1.1 0 (by omega), hI.1.1]
    refine w_n (nI_ge hs (by omega)) ?_
    refine w_t ht ?_
    refine w_ev (e_findStation ht h.1 hI hs) ?_
    refine w_t (by omega) ?_
    refine w_rdc (by omega) ?_
    rw [g8, nI_1]
    rcases h1 s hs with w | ⟨w1, w2⟩
    · refine w_t w ?_
      have e : aFil A s = A := by unfold aFil; rw [if_pos w]
      rw [e]
      exact ih n (s + 1) A S h hI h1 (by omega) (by omega)
    · have hn8 : ¬ aI A 8 s = -1 := by rw [w1]; exact nI_ne_neg (by omega)
      refine w_n hn8 ?_
      refine w_rdc (by omega) ?_
      refine w_rdc (by omega) ?_
      refine w_rdc (by omega) ?_
      rw [g8, g10, g11, w1]
      refine w_t ht ?_
      refine w_ev (e_units ht h.1 w2) ?_
      refine w_ret ?_
      generalize hz : (if aI A 4 (prt A s) < aI A 10 s - aI A 11 s then aI A 4 (prt A s) else aI A 10 s - aI A 11 s) = z
      refine w_rdc (by omega) ?_
      rw [g11]
      refine w_wrc (by omega) ?_
      refine w_rdc (by omega) ?_
      have e8 : gI (pI S 11 (8 * t + s) 0 (aI A 11 s + z)) 8 (8 * t + s) 0 = nI (prt A s) := by rw [gI_pI, if_neg (by omega), g8, w1]
      rw [e8]
      refine w_t ht ?_
      have e : aFil A s = sI (sI A 11 s (aI A 11 s + z)) 4 (prt A s) (aI A 4 (prt A s) + -z) := by
        unfold aFil
        rw [if_neg hn8, hz]
        dsimp only
        rw [Int32.sub_eq_add_neg]
      rw [e]
      have h2 := h.st (f := 11) (s := s) (v := aI A 11 s + z) (by omega)
      refine w_ev (e_change (u := -z) ht h2.1 w2) ?_
      rw [aI_sI, if_neg (by omega)]
      have h3 := h2.store (p := prt A s) (v := aI A 4 (prt A s) + -z)
      refine ih n (s + 1) _ _ h3 ((hI.sI (by omega)).sI (by omega)) ?_ (by rw [kS_sI (by omega), kS_sI (by omega)]; omega) (by omega)
      intro x hx
      rw [kS_sI (by omega), kS_sI (by omega)] at hx
      have := h1 x hx
      unfold prt at this ⊢
      rw [aI_sI, if_neg (by omega), aI_sI, if_neg (by omega)]
      exact this
/-- what a tick needs all through: who stands where, and room in the traces -/
theorem rows_lt (h : JA A) (hs : s < kS A) (hn : aI A 12 s ≠ -1) : (aG A).length < 30 ∧ (aO A).length < 30 := by
  obtain ⟨p1, p2, p3, p4, p5⟩ := (h.2.1 s hs).resolve_left hn
  have h30 := h.1.2.2
  have r := h.2.2.2.1
  refine ⟨nodup_lt (c := atC A s) r.2.2.1 (fun d hd => by have := ((r.2.2.2 d).mp hd).1; omega) (by omega) (fun w => ?_), nodup_lt (c := atC A s) r.2.1.1 (fun d hd => by have := ((r.2.1.2 d).mp hd).1; omega) (by omega) (fun w => ?_)⟩
  · have := ((r.2.2.2 _).mp w).2.1
    rw [p4] at this; exact absurd this (by decide)
  · have := ((r.2.1.2 _).mp w).2.1
    rw [p4] at this; exact absurd this (by decide)
theorem w_back {B : Nat} (ht : t < 2) (hB : B ≤ 32000) : ∀ (td st : List Nat) (n : Nat) (A : AS) (S : St) (cnt : Nat), CR t k S0 S A → JA A → aI A 2 0 ≠ 0 → aO A = st ++ td → TB B 0 A → td.length < n → cnt ≤ 30 → td.length ≤ cnt →
    wp (f_X1_enterFromLoop_L12 n t (nI cnt) (nI st.length) (nI (cnt - td.length))) S (fun _ S1 => CR t k S0 S1 (aBack A st td)) := by
  intro td
  induction td with
  | nil =>
    intro st n A S cnt h hJ hT hO hTB hn hc1 hc2
    obtain ⟨n, rfl⟩ : ∃ k, n = k + 1 := ⟨n - 1, by omega⟩
    rw [f_X1_enterFromLoop_L12]
    exact w_t (nI_le (by simp) (by simp; omega)) (w_rtn h)
  | cons c r ih =>
    intro st n A S cnt h hJ hT hO hTB hn hc1 hc2
    obtain ⟨n, rfl⟩ : ∃ k, n = k + 1 := ⟨n - 1, by omega⟩
    have h30 := hJ.1.2.2
    have h8 := hJ.1.1.2
    have hl30 : (aO A).length ≤ 30 := h.1.2.2.2.2.2.1.1
    have hlen : (c :: r).length = r.length + 1 := List.length_cons
    have hst : st.length < (aO A).length := by rw [hO, List.length_append, hlen]; omega
    obtain ⟨k1, k2, k3⟩ := J_offO hJ hO
    have hlow := low_lt hJ k2 k3
    have hget : (aO A).getD st.length 0 = c := by rw [hO]; simp [List.getD]
    rw [f_X1_enterFromLoop_L12]
    refine w_n (nI_ge (by omega) (by omega)) ?_
    refine w_rfc ht ?_
    refine w_t (by omega) ?_
    refine w_ev (e_at (by omega) h.1.2.2.2.2.2.1 hst) ?_
    rw [hget]
    refine w_t ht ?_
    refine w_ev (e_findCar ht h.1 hJ.1 k2) ?_
    refine w_t (by omega) ?_
    refine w_t (by omega) ?_
    refine w_ev (e_lowest ht h.1 hJ.1 k2 (by omega)) ?_
    refine w_t ht ?_
    refine w_ev (e_isFree ht h.1 hJ.1 hlow) ?_
    rw [aBack]
    by_cases hf : aI A 12 (low (aI A 19 c)) = -1
    · rw [if_pos hf, if_pos hf]
      refine w_n (by decide) ?_
      refine w_rfc ht ?_
      refine w_t (by omega) ?_
      refine w_ev (e_removeAt (by omega) h.1.2.2.2.2.2.1 hst) ?_
      refine w_t (by omega) ?_
      have h2 := h.remO (p := st.length) ht hst
      have er : (aO A).eraseIdx st.length = st ++ r := by rw [hO]; simp [List.eraseIdx_append_of_length_le]
      rw [er] at h2
      refine w_ev (e_lowest (A := sO A (st ++ r)) ht h2.1 k1.1 k2 (by show low (aI A 19 c) < 8; omega)) ?_
      refine w_t ht ?_
      refine w_call (w_enter (b := 1) ht h2 k1.1 hlow k2 (Or.inr rfl) (by have := (hTB c k2).1; show (trc A c).length + 2 ≤ 32768; omega)) (fun _ S3 h3 => ?_)
      have hJ3 := J_enter (s := low (aI A 19 c)) (b := 1) k1 k2 hlow hf (Or.inr rfl) hT
      have := ih st n _ S3 cnt h3 hJ3 (by rw [aEnter_o (by omega)]; exact hT) (by rw [aEnter_R.2.1]; rfl) (TB_enter hTB k2 ((hTB c k2).2.2.1 k3) (fun _ => rfl) rfl (fun _ => rfl)) (by omega) hc1 (by omega)
      rw [nI_1, show cnt - (c :: r).length + 1 = cnt - r.length by omega]
      exact this
    · rw [if_neg hf, if_neg hf]
      refine w_t rfl ?_
      have := ih (st ++ [c]) n A S cnt h hJ hT (by rw [hO]; simp) hTB (by omega) hc1 (by omega)
      rw [nI_1, nI_1, show cnt - (c :: r).length + 1 = cnt - r.length by omega]
      rw [List.length_append] at this
      exact this
theorem w_wait {B : Nat} (ht : t < 2) (hB : B ≤ 32000) (h : CR t k S0 S A) (hJ : JA A) (hT : aI A 2 0 ≠ 0) (hTB : TB B 0 A) : wp (f_X1_enterFromWaiting t) S (fun _ S1 => CR t k S0 S1 (aWait A)) := by
  have h30 := hJ.1.2.2
  have h8 := hJ.1.1.2
  unfold f_X1_enterFromWaiting
  refine w_rfc ht ?_
  refine w_t (by omega) ?_
  unfold aWait
  cases hW : aW A with
  | nil =>
    refine w_ev (e_at0 (a := 0) (by omega) h.1.2.2.2.2.1 (Or.inr (by rw [hW]; decide))) ?_
    refine w_t ht ?_
    refine w_ev (e_findCar0 ht h.1 hJ.1 (Or.inl (by decide))) ?_
    refine w_n (by omega) ?_
    exact w_rtn h
  | cons c r =>
    obtain ⟨k1, k2, k3⟩ := J_offW hJ hW
    have hS0 : 0 < kS A := Nat.pos_of_ne_zero fun w => by
      have := hJ.2.2.2.2.2.2.2.1 w
      omega
    have hl : 0 < (aW A).length := by rw [hW]; simp
    have e0 : (0 : Int32) = nI 0 := rfl
    have hget : (aW A).getD 0 0 = c := by rw [hW]; rfl
    rw [e0]
    refine w_ev (e_at (by omega) h.1.2.2.2.2.1 hl) ?_
    rw [hget]
    refine w_t ht ?_
    refine w_ev (e_findCar ht h.1 hJ.1 k2) ?_
    refine w_t (by omega) ?_
    refine w_t ht ?_
    refine w_ev (e_isFree ht h.1 hJ.1 hS0) ?_
    dsimp only
    by_cases hf : aI A 12 0 = -1
    · rw [if_pos hf, if_pos hf]
      refine w_n (by decide) ?_
      refine w_rfc ht ?_
      refine w_t (by omega) ?_
      refine w_ev (e_removeAt (by omega) h.1.2.2.2.2.1 hl) ?_
      refine w_t ht ?_
      have h2 := h.remW (p := 0) ht hl
      have er : (aW A).eraseIdx 0 = r := by rw [hW]; rfl
      rw [er] at h2
      refine w_call (w_enter (b := 0) ht h2 k1.1 hS0 k2 (Or.inl rfl) (by have := (hTB c k2).1; show (trc A c).length + 2 ≤ 32768; omega)) (fun _ S3 h3 => w_rtn h3)
    · rw [if_neg hf, if_neg hf]
      exact w_t rfl (w_rtn h)
theorem w_movesB {B : Nat} (ht : t < 2) (hB : B ≤ 32000) : ∀ (m n : Nat) (A : AS) (S : St), CR t k S0 S A → JA A → aI A 2 0 ≠ 0 → m ≤ kS A → TB B m A → m < n →
    wp (f_X1_passTick_L44 n t (nI m - 1)) S (fun _ S1 => CR t k S0 S1 (aWait (aBack (aMoves A m) [] (aO (aMoves A m))))) := by
  intro m
  induction m with
  | zero =>
    intro n A S h hJ hT hm hTB hn
    obtain ⟨n, rfl⟩ : ∃ k, n = k + 1 := ⟨n - 1, by omega⟩
    rw [f_X1_passTick_L44]
    refine w_t (by decide) ?_
    refine w_t ht ?_
    have hl30 : (aO A).length ≤ 30 := h.1.2.2.2.2.2.1.1
    have hb : wp (f_X1_enterFromLoop t) S (fun _ S1 => CR t k S0 S1 (aBack A [] (aO A))) := by
      unfold f_X1_enterFromLoop
      refine w_rfc ht ?_
      refine w_rdc (by omega) ?_
      rw [h.1.2.2.2.2.2.1.2.1]
      have := w_back ht hB (aO A) [] 400 A S (aO A).length h hJ hT rfl hTB (by omega) hl30 (Nat.le_refl _)
      rw [Nat.sub_self] at this
      exact this
    refine w_call hb (fun _ S1 h1 => ?_)
    refine w_t ht ?_
    obtain ⟨j1, j2⟩ := J_back (aO A) [] A hJ hT rfl
    have b1 := TB_back (aO A) [] A hJ hT rfl hTB
    refine w_call (w_wait ht hB h1 j1 (by rw [j2 2 0 (by omega)]; exact hT) b1) (fun _ S2 h2 => ?_)
    exact w_rtn h2
  | succ m ih =>
    intro n A S h hJ hT hm hTB hn
    obtain ⟨n, rfl⟩ : ∃ k, n = k + 1 := ⟨n - 1, by omega⟩
    have h8 := hJ.1.1.2
    rw [f_X1_passTick_L44, nI_sub1 (by omega), Nat.add_sub_cancel]
    refine w_n (nI_pos (by omega)) ?_
    refine w_t ht ?_
    refine w_call (w_moveOn ht h hJ.1 hJ.P1 (by omega) (fun c => by have := hTB.lenN (c := c) hJ; omega) (fun q => rows_lt hJ (by omega) q)) (fun _ S1 h1 => ?_)
    rw [aMoves]
    have := ih n (aMove A m) S1 h1 (J_move hJ (by omega) hT) (by rw [move_lo (by omega)]; exact hT) (by rw [kS_move]; omega) (TB_move hJ (by omega) hTB) (by omega)
    rw [show nI m + (-1 : Int32) = nI m - 1 from (Int32.sub_eq_add_neg ..).symm]
    exact this
end CT1
