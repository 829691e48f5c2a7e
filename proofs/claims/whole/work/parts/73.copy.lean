/-! part 73: the line is copied: the call -/
section CPX
variable {S S0 S1 S2 : St} {A B : AS} {T k c d s i n f p q x y t : Nat} {a a1 a2 v : Int32} {l : List Nat}
theorem w_cpL62 (hR : RC 0 S A) (hI : IA A) (hC : ∀ c, c < kC A → CO1 A c) : ∀ (m n q : Nat) (S1 : St), q + m = kS A → m < n → KC S S1 A 6 q 0 → wp (f_X1_copyFrom_L62 n 1 0 (nI q)) S1 (fun _ S2 => RC 1 S2 A ∧ FR S S2) := by
  have h8 := hI.1.2
  have h30 := hI.2.2
  intro m
  induction m with
  | zero =>
    intro n q S1 hq hn hK
    obtain ⟨n, rfl⟩ : ∃ q, n = q + 1 := ⟨n - 1, by omega⟩
    obtain rfl : q = kS A := by omega
    rw [f_X1_copyFrom_L62]
    refine w_rdc (by omega) ?_
    rw [hK.2.1 0 (by omega), hI.1.1]
    refine w_t (nI_le (by omega) (by omega)) ?_
    have hz := w_cpL91 hR hI hC (kC A) 400 0 S1 (by omega) (by omega) hK
    rw [nI_00] at hz
    exact hz
  | succ m ih =>
    intro n q S1 hq hn hK
    obtain ⟨n, rfl⟩ : ∃ q, n = q + 1 := ⟨n - 1, by omega⟩
    have r0 := hR.fr hI hK.1
    rw [f_X1_copyFrom_L62]
    refine w_rdc (by omega) ?_
    rw [hK.2.1 0 (by omega), hI.1.1]
    refine w_n (nI_ge (by omega) (by omega)) ?_
    refine w_t (by omega) ?_
    refine w_ev (x_fst (by omega) ((hK.2.1 0 (by omega)).trans hI.1.1) h8 (by omega)) ?_
    refine w_t (by omega) ?_
    refine w_ev (x_fst (by omega) ((r0.1 0 (by omega)).trans hI.1.1) h8 (by omega)) ?_
    rw [show 8 * 1 + q = 8 + q by omega, show 8 * 0 + q = q by omega]
    have g : ∀ f, 7 ≤ f → f ≤ 12 → gI S1 f q 0 = aI A f q := fun f q1 q2 => by have := r0.2.2.1 f q q1 q2 (by omega); rwa [show 8 * 0 + q = q by omega] at this
    refine w_ev (e_cpSt (by omega)) ?_
    rw [nI_add1]
    obtain ⟨k1, k2, k3, k4, k5⟩ := hK
    refine ih n (q + 1) _ (by omega) (by omega) ⟨k1.tr (cpSt_fr (by omega)), fun f hf => by rw [cpSt_o (by omega)]; exact k2 f hf, fun p hp => by rw [cpSt_o (by omega)]; exact k3 p hp, fun f s q1 q2 hs => ?_, fun f c q1 q2 hc => absurd hc (Nat.not_lt_zero _)⟩
    by_cases e : s = q
    · rw [e, show 8 * 1 + q = 8 + q by omega, cpSt_at ⟨q1, q2⟩]; exact g f q1 q2
    · rw [cpSt_o (by omega)]; exact k4 f s q1 q2 (by omega)
theorem w_cpL34 (hR : RC 0 S A) (hI : IA A) (hC : ∀ c, c < kC A → CO1 A c) : ∀ (m n q : Nat) (S1 : St), q + m = 6 → m < n → KC S S1 A q 0 0 → wp (f_X1_copyFrom_L34 n 1 0 (nI q)) S1 (fun _ S2 => RC 1 S2 A ∧ FR S S2) := by
  have h8 := hI.1.2
  intro m
  induction m with
  | zero =>
    intro n q S1 hq hn hK
    obtain ⟨n, rfl⟩ : ∃ q, n = q + 1 := ⟨n - 1, by omega⟩
    obtain rfl : q = 6 := by omega
    rw [f_X1_copyFrom_L34]
    refine w_rfc (by omega) ?_
    refine w_rdk (by omega) ?_
    refine w_t (nI_le (by omega) (by omega)) ?_
    have hz := w_cpL62 hR hI hC (kS A) 400 0 S1 (by omega) (by omega) hK
    rw [nI_00] at hz
    exact hz
  | succ m ih =>
    intro n q S1 hq hn hK
    obtain ⟨n, rfl⟩ : ∃ q, n = q + 1 := ⟨n - 1, by omega⟩
    have r0 := hR.fr hI hK.1
    rw [f_X1_copyFrom_L34]
    refine w_rfc (by omega) ?_
    refine w_rdk (by omega) ?_
    refine w_n (nI_ge (by omega) (by omega)) ?_
    refine w_rfc (by omega) ?_
    refine w_t (by omega) ?_
    have un : (f_X1_unitsOf 0 (nI q)).1 S1 = some (aI A 4 q, S1) := by
      refine ev_of ?_
      unfold f_X1_unitsOf
      refine w_n (nI_pos (by omega)) ?_
      refine w_rfc (by omega) ?_
      refine w_rdk (by omega) ?_
      refine w_n (nI_ge (by omega) (by omega)) ?_
      refine w_rfc (by omega) ?_
      refine w_ald (by omega) (by omega) (by omega) ?_
      exact w_rtn ⟨r0.2.1 q (by omega), rfl⟩
    refine w_ev un ?_
    refine w_ast (by omega) (by omega) (by omega) ?_
    rw [nI_add1]
    obtain ⟨k1, k2, k3, k4, k5⟩ := hK
    refine ih n (q + 1) _ (by omega) (by omega) ⟨k1.pI (by unfold zro; omega), fun f hf => by rw [gI_pI, if_neg (by omega)]; exact k2 f hf, fun p hp => ?_, fun f s q1 q2 hs => absurd hs (Nat.not_lt_zero _), fun f c q1 q2 hc => absurd hc (Nat.not_lt_zero _)⟩
    rw [gI_pI]
    by_cases e : p = q
    · rw [if_pos ⟨rfl, rfl, e⟩, e]
    · rw [if_neg (fun w => e w.2.2)]; exact k3 p (by omega)
theorem w_copyFrom (h : CR 0 k S0 S A) (hJ : JA A) : wp (f_X1_copyFrom 1 0) S (fun _ S2 => CR 1 k S S2 A) := by
  have hR := h.1
  have z : ∀ (S1 : St) (g : Nat) (v : Int32) (f : Nat), gI (pI S1 g 1 0 v) f 0 0 = gI S1 f 0 0 := fun S1 g v f => by rw [gI_pI, if_neg (by omega)]
  have hz := w_cpL34 hR hJ.1 hJ.2.2.2.2.1 6 400 0 (pI (pI (pI (pI S 0 1 0 (gI S 0 0 0)) 1 1 0 (gI S 1 0 0)) 2 1 0 (gI S 2 0 0)) 3 1 0 (gI S 3 0 0)) (by omega) (by omega) ⟨(((FR.rf.pI (by unfold zro; omega)).pI (by unfold zro; omega)).pI (by unfold zro; omega)).pI (by unfold zro; omega), fun f hf => ?_, fun p hp => absurd hp (Nat.not_lt_zero _), fun f s q1 q2 hs => absurd hs (Nat.not_lt_zero _), fun f c q1 q2 hc => absurd hc (Nat.not_lt_zero _)⟩
  · rw [nI_00] at hz
    unfold f_X1_copyFrom
    refine w_rdc (by omega) (w_wrc (by omega) ?_)
    refine w_rdc (by omega) ?_
    rw [z]
    refine w_wrc (by omega) ?_
    refine w_rdc (by omega) ?_
    rw [z, z]
    refine w_wrc (by omega) ?_
    refine w_rdc (by omega) ?_
    rw [z, z, z]
    refine w_wrc (by omega) ?_
    obtain ⟨E, e1, e2, e3⟩ := hz
    exact ⟨E, e1, e2, fun w => absurd w (by decide), fun _ => e3, fun w => absurd w (by decide)⟩
  · rcases (show f = 0 ∨ f = 1 ∨ f = 2 ∨ f = 3 by omega) with rfl | rfl | rfl | rfl
    · simp only [gI_pI]; simpa using hR.1 0 (by omega)
    · simp only [gI_pI]; simpa using hR.1 1 (by omega)
    · simp only [gI_pI]; simpa using hR.1 2 (by omega)
    · simp only [gI_pI]; simpa using hR.1 3 (by omega)
end CPX
