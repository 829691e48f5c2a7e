/-! part 72: the line is copied -/
def KC (S S1 : St) (A : AS) (np ns nc : Nat) : Prop := FR S S1 ∧ (∀ f, f < 4 → gI S1 f 1 0 = aI A f 0) ∧ (∀ p, p < np → gI S1 4 1 p = aI A 4 p) ∧ (∀ f s, 7 ≤ f → f ≤ 12 → s < ns → gI S1 f (8 * 1 + s) 0 = aI A f s) ∧ ∀ f c, 14 ≤ f → f ≤ 19 → c < nc → gI S1 f (30 * 1 + c) 0 = aI A f c
section CPL
variable {S S0 S1 S2 : St} {A B : AS} {T k c d s i n f p q x y t : Nat} {a a1 a2 v : Int32} {l : List Nat}
theorem RoF.kc (h : RoF x S1 S2) (hx : 3 ≤ x) {np ns nc : Nat} (hk : KC S S1 A np ns nc) : KC S S2 A np ns nc := by
  obtain ⟨k1, k2, k3, k4, k5⟩ := hk
  exact ⟨k1.tr (h.fr hx), fun f hf => by rw [h.1 _ _ _ (by omega)]; exact k2 f hf, fun p hp => by rw [h.1 _ _ _ (by omega)]; exact k3 p hp, fun f s q1 q2 hs => by rw [h.1 _ _ _ (by omega)]; exact k4 f s q1 q2 hs, fun f c q1 q2 hc => by rw [h.1 _ _ _ (by omega)]; exact k5 f c q1 q2 hc⟩
theorem w_cpL91 (hR : RC 0 S A) (hI : IA A) (hC : ∀ c, c < kC A → CO1 A c) : ∀ (m n q : Nat) (S1 : St), q + m = kC A → m < n → KC S S1 A 6 (kS A) q → wp (f_X1_copyFrom_L91 n 1 0 (nI q)) S1 (fun _ S2 => RC 1 S2 A ∧ FR S S2) := by
  have h30 := hI.2.2
  intro m
  induction m with
  | zero =>
    intro n q S1 hq hn hK
    obtain ⟨n, rfl⟩ : ∃ q, n = q + 1 := ⟨n - 1, by omega⟩
    obtain rfl : q = kC A := by omega
    rw [f_X1_copyFrom_L91]
    refine w_rdc (by omega) ?_
    rw [hK.2.1 1 (by omega), hI.2.1]
    refine w_t (nI_le (by omega) (by omega)) ?_
    refine w_rfc (by omega) ?_
    refine w_rfc (by omega) ?_
    refine w_t (by omega) ?_
    have r0 := hR.fr hI hK.1
    refine w_call (w_row (x := 3 * 1) (y := 3 * 0) (by omega) (by omega) (by omega) r0.2.2.2.2.1) (fun _ S2 h2 => ?_)
    have K2 := h2.2.kc (by omega) hK
    refine w_rfc (by omega) ?_
    refine w_rfc (by omega) ?_
    refine w_t (by omega) ?_
    have r2 := hR.fr hI K2.1
    refine w_call (w_row (x := 3 * 1 + 1) (y := 3 * 0 + 1) (by omega) (by omega) (by omega) r2.2.2.2.2.2.1) (fun _ S3 h3 => ?_)
    have K3 := h3.2.kc (by omega) K2
    refine w_rfc (by omega) ?_
    refine w_rfc (by omega) ?_
    refine w_t (by omega) ?_
    have r3 := hR.fr hI K3.1
    refine w_call (w_row (x := 3 * 1 + 2) (y := 3 * 0 + 2) (by omega) (by omega) (by omega) r3.2.2.2.2.2.2) (fun _ S4 h4 => ?_)
    have K4 := h4.2.kc (by omega) K3
    exact w_rtn ⟨⟨K4.2.1, K4.2.2.1, K4.2.2.2.1, K4.2.2.2.2, h4.2.RW (h3.2.RW h2.1 (by omega)) (by omega), h4.2.RW h3.1 (by omega), h4.1⟩, K4.1⟩
  | succ m ih =>
    intro n q S1 hq hn hK
    obtain ⟨n, rfl⟩ : ∃ q, n = q + 1 := ⟨n - 1, by omega⟩
    have r0 := hR.fr hI hK.1
    have hc := hC q (by omega)
    rw [f_X1_copyFrom_L91]
    refine w_rdc (by omega) ?_
    rw [hK.2.1 1 (by omega), hI.2.1]
    refine w_n (nI_ge (by omega) (by omega)) ?_
    refine w_t (by omega) ?_
    refine w_ev (x_fcar (by omega) ((hK.2.1 1 (by omega)).trans hI.2.1) h30 (by omega)) ?_
    refine w_t (by omega) ?_
    refine w_ev (x_fcar (by omega) ((r0.1 1 (by omega)).trans hI.2.1) h30 (by omega)) ?_
    rw [show 30 * 1 + q = 30 + q by omega, show 30 * 0 + q = q by omega]
    have g : ∀ f, 14 ≤ f → f ≤ 19 → gI S1 f q 0 = aI A f q := fun f q1 q2 => by have := r0.2.2.2.1 f q q1 q2 (by omega); rwa [show 30 * 0 + q = q by omega] at this
    refine w_ev (e_cpCa (by omega) (by rw [g 15 (by omega) (by omega)]; rcases hc.1 with e | e | e | e <;> rw [e] <;> decide) (by rw [g 18 (by omega) (by omega)]; exact hc.2.2.2.1.1)) ?_
    rw [nI_add1]
    obtain ⟨k1, k2, k3, k4, k5⟩ := hK
    refine ih n (q + 1) _ (by omega) (by omega) ⟨k1.tr cpCa_fr, fun f hf => by rw [cpCa_o (by omega)]; exact k2 f hf, fun p hp => by rw [cpCa_o (by omega)]; exact k3 p hp, fun f s q1 q2 hs => by rw [cpCa_o (by omega)]; exact k4 f s q1 q2 hs, fun f c q1 q2 hc => ?_⟩
    by_cases e : c = q
    · rw [e, show 30 * 1 + q = 30 + q by omega, cpCa_at ⟨q1, q2⟩]; exact g f q1 q2
    · rw [cpCa_o (by omega)]; exact k5 f c q1 q2 (by omega)
end CPL
