/-! part 69: the class's line is copied -/
/-- all stays but one row -/
def RoF (x : Nat) (S S1 : St) : Prop := (∀ f i j, ¬ ((f = 5 ∨ f = 6) ∧ i = x) → gI S1 f i j = gI S f i j) ∧ (∀ i, gL S1 i = gL S i) ∧ ∀ f i, gN S1 f i = gN S f i
section COPY
variable {S S0 S1 S2 : St} {A B : AS} {T k c d s i n f p q x y t : Nat} {a a1 a2 v : Int32} {l : List Nat}
theorem RoF.RW (h : RoF x S S1) (hr : RW S y l) (hxy : y ≠ x) : RW S1 y l := ⟨hr.1, by rw [h.1 _ _ _ (by omega)]; exact hr.2.1, fun j hj => by rw [h.1 _ _ _ (by omega)]; exact hr.2.2 j hj⟩
theorem x_at9 (hx : x < 6) (h : RW S x l) (hj : p < 30) : ∃ v, (f_X2_at x (nI p)).1 S = some (v, S) ∧ (p < l.length → v = nI (l.getD p 0)) := by
  by_cases e : p < l.length
  · exact ⟨_, e_at hx h e, fun _ => rfl⟩
  · exact ⟨_, e_at0 hx h (Or.inr (nI_le (by omega) (by omega))), fun w => absurd w e⟩
theorem w_rowL (hx : x < 6) (hy : y < 6) (hxy : y ≠ x) : ∀ (m n q : Nat) (S1 : St), q + m = 30 → m < n → RoF x S S1 → RW S y l → gI S1 5 x 0 = nI l.length → (∀ j, j < q → j < l.length → gI S1 6 x j = nI (l.getD j 0)) → wp (f_X2_copyFrom_L10 n x y (nI q)) S1 (fun _ S2 => RW S2 x l ∧ RoF x S S2) := by
  intro m
  induction m with
  | zero =>
    intro n q S1 hq hn hF hl h5 h6
    obtain ⟨n, rfl⟩ : ∃ q, n = q + 1 := ⟨n - 1, by omega⟩
    have := hl.1
    rw [f_X2_copyFrom_L10]
    refine w_rfc hx ?_
    refine w_rdk hx ?_
    exact w_t (nI_le (by omega) (by omega)) (w_rtn ⟨⟨hl.1, h5, fun j hj => h6 j (by omega) hj⟩, hF⟩)
  | succ m ih =>
    intro n q S1 hq hn hF hl h5 h6
    obtain ⟨n, rfl⟩ : ∃ q, n = q + 1 := ⟨n - 1, by omega⟩
    rw [f_X2_copyFrom_L10]
    refine w_rfc hx ?_
    refine w_rdk hx ?_
    refine w_n (nI_ge (by omega) (by omega)) ?_
    refine w_rfc hx ?_
    refine w_t hy ?_
    obtain ⟨v, e1, e2⟩ := x_at9 (p := q) hy (hF.RW hl hxy) (by omega)
    refine w_ev e1 ?_
    refine w_ast hx (by omega) (by omega) ?_
    rw [nI_add1]
    refine ih n (q + 1) _ (by omega) (by omega) ⟨fun f i j w => by rw [gI_pI, if_neg (by omega)]; exact hF.1 f i j w, hF.2.1, hF.2.2⟩ hl (by rw [gI_pI, if_neg (by omega)]; exact h5) (fun j hj hjl => ?_)
    rw [gI_pI]
    by_cases e : j = q
    · rw [if_pos ⟨rfl, rfl, e⟩, e]; exact e2 (by omega)
    · rw [if_neg (fun w => e w.2.2)]; exact h6 j (by omega) hjl
theorem w_row (hx : x < 6) (hy : y < 6) (hxy : y ≠ x) (h : RW S y l) : wp (f_X2_copyFrom x y) S (fun _ S2 => RW S2 x l ∧ RoF x S S2) := by
  unfold f_X2_copyFrom
  refine w_rdc hy ?_
  rw [h.2.1]
  refine w_wrc hx ?_
  have hz := w_rowL (S := S) (l := l) hx hy hxy 30 400 0 (pI S 5 x 0 (nI l.length)) (by omega) (by omega) ⟨fun f i j w => by rw [gI_pI, if_neg (by omega)], fun _ => rfl, fun _ _ => rfl⟩ h (by rw [gI_pI, if_pos ⟨rfl, rfl, rfl⟩]) (fun j hj => absurd hj (Nat.not_lt_zero _))
  rw [nI_00] at hz
  exact hz
theorem RC.fr (h : RC 0 S A) (hI : IA A) (hF : FR S S1) : RC 0 S1 A := by
  obtain ⟨r1, r2, r3, r4, r5⟩ := h
  have h8 := hI.1.2
  have h30 := hI.2.2
  have rw9 : ∀ x l, x < 3 → RW S x l → RW S1 x l := fun x l hx hr => ⟨hr.1, by rw [hF.1 5 x 0 (by unfold zro; omega)]; exact hr.2.1, fun j hj => by rw [hF.1 6 x j (by unfold zro; omega)]; exact hr.2.2 j hj⟩
  exact ⟨fun f hf => by rw [hF.1 f 0 0 (by unfold zro; omega)]; exact r1 f hf, fun p hp => by rw [hF.1 4 0 p (by unfold zro; omega)]; exact r2 p hp, fun f s q1 q2 hs => by rw [hF.1 f (8 * 0 + s) 0 (by unfold zro; omega)]; exact r3 f s q1 q2 hs, fun f c q1 q2 hc => by rw [hF.1 f (30 * 0 + c) 0 (by unfold zro; omega)]; exact r4 f c q1 q2 hc, rw9 _ _ (by omega) r5.1, rw9 _ _ (by omega) r5.2.1, rw9 _ _ (by omega) r5.2.2⟩
theorem FR.tr (h : FR S0 S) (h1 : FR S S1) : FR S0 S1 := ⟨fun f i j z => (h1.1 f i j z).trans (h.1 f i j z), fun i hi => (h1.2.1 i hi).trans (h.2.1 i hi), fun f i => (h1.2.2 f i).trans (h.2.2 f i)⟩
theorem RoF.fr (h : RoF x S S1) (hx : 3 ≤ x) : FR S S1 := ⟨fun f i j z => h.1 f i j (by unfold zro at z; omega), fun i _ => h.2.1 i, h.2.2⟩
end COPY
