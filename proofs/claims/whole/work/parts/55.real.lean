/-! part 55: sums and real numbers -/
section SUMS
variable {S S1 Sm : St} {A : AS} {T k c s i j : Nat} {a a1 a2 g : Int32} {l : List (Nat × Int32)}
def lgn (l : List (Nat × Int32)) (g : Int32) : Nat := (l.map (fun p => p.2)).count g
theorem lgn_cons {p : Nat × Int32} : lgn (p :: l) g = lgn l g + if p.2 = g then 1 else 0 := by
  unfold lgn
  rw [List.map_cons, List.count_cons]
  congr 1
  by_cases h : p.2 = g
  · rw [if_pos h, if_pos (by simp [h])]
  · rw [if_neg h, if_neg (by simp [h])]
theorem lgn_le : lgn l g ≤ l.length := by
  unfold lgn
  exact Nat.le_trans List.count_le_length (by rw [List.length_map]; exact Nat.le_refl _)
theorem sumTo_0 : ∀ n : Nat, sumTo n (fun _ => 0) = 0
  | 0 => rfl
  | n + 1 => by rw [sumTo, sumTo_0 n]
theorem sum_lgc (K : Nat) : ∀ l : List (Nat × Int32), (∀ p, p ∈ l → p.1 < K) → sumTo K (fun c => (lgc l c).count g) = lgn l g := by
  intro l
  induction l with
  | nil => intro _; exact sumTo_0 K
  | cons p r ih =>
    intro h
    have h1 := ih (fun q hq => h q (List.mem_cons_of_mem _ hq))
    have h2 := sumTo_up (f := fun c => (lgc r c).count g) (g := fun c => (lgc (p :: r) c).count g) (x := p.1) (fun i hi => by
      show (lgc r i).count g = (lgc (p :: r) i).count g
      rw [lgc_cons, if_neg (fun w => hi w.symm)]) K (h p List.mem_cons_self)
    have h3 : (lgc (p :: r) p.1).count g = (lgc r p.1).count g + if p.2 = g then 1 else 0 := by
      rw [lgc_cons, if_pos rfl, List.count_cons]
      congr 1
      by_cases h : p.2 = g
      · rw [if_pos h, if_pos (by simp [h])]
      · rw [if_neg h, if_neg (by simp [h])]
    rw [lgn_cons, ← h1]
    have h2 : sumTo K (fun c => (lgc (p :: r) c).count g) + (lgc r p.1).count g = sumTo K (fun c => (lgc r c).count g) + (lgc (p :: r) p.1).count g := h2
    omega
theorem e_totT (h : IN S Sm A T k) (hc : c < kC A) (hg : six g < 5) : (f_X4_totalOf c g).1 S = some (nI ((trc A c).count g), S) := by
  have h30 := h.2.2.1.1.2.2
  have e : g = sgn (six g) := (six_sgn hg).mpr rfl
  refine ev_of ?_
  unfold f_X4_totalOf
  refine w_ev (e_indexOf g) ?_
  rw [if_pos hg]
  refine w_n (nI_pos (by omega)) ?_
  refine w_rfc (by omega) ?_
  refine w_rdk (by omega) ?_
  refine w_n (nI_ge (by omega) (by omega)) ?_
  refine w_rfc (by omega) ?_
  refine w_ald (by omega) hg (by omega) ?_
  rw [(h.rt hc).2.2.2.2 (six g) hg, ← e]
  exact w_rtn ⟨rfl, rfl⟩
theorem x_tot (h : IN S Sm A T k) (hg : six g < 5) : ∀ (m n c : Nat), c + m = kC A → m < n → (f_X1_totalOf_L4 n 0 g (nI (sumTo c (fun c => (trc A c).count g))) (nI c)).1 S = some (nI (sumTo (kC A) (fun c => (trc A c).count g)), S) := by
  have h30 := h.2.2.1.1.2.2
  have e1 : gI S 1 0 0 = nI (kC A) := (h.1.1.1 1 (by omega)).trans h.2.2.1.1.2.1
  intro m
  induction m with
  | zero =>
    intro n c hc hn
    obtain ⟨n, rfl⟩ : ∃ q, n = q + 1 := ⟨n - 1, by omega⟩
    refine ev_of ?_
    rw [f_X1_totalOf_L4]
    refine w_rdc (by omega) ?_
    rw [e1]
    exact w_t (nI_le (by omega) (by omega)) (w_rtn ⟨by rw [show c = kC A by omega], rfl⟩)
  | succ m ih =>
    intro n c hc hn
    obtain ⟨n, rfl⟩ : ∃ q, n = q + 1 := ⟨n - 1, by omega⟩
    refine ev_of ?_
    rw [f_X1_totalOf_L4]
    refine w_rdc (by omega) ?_
    rw [e1]
    refine w_n (nI_ge (by omega) (by omega)) ?_
    refine w_t (by omega) ?_
    refine w_ev (e_findCar (by omega) h.1.1 h.2.2.1.1 (show c < kC A by omega)) ?_
    rw [show 30 * 0 + c = c by omega]
    refine w_t (by omega) ?_
    refine w_rfc (by omega) ?_
    refine w_t (by omega) ?_
    refine w_rfc (by omega) ?_
    refine w_t (by omega) ?_
    refine w_ev (e_totT h (by omega) hg) ?_
    rw [nI_add1]
    refine w_ev (a := nI (sumTo (c + 1) (fun c => (trc A c).count g))) (by rw [nI_addn]; rfl) ?_
    exact w_of (ih n (c + 1) (by omega) (by omega)) ⟨rfl, rfl⟩
theorem x_total (h : IN S Sm A T k) (hg : six g < 5) : (f_X1_totalOf 0 g).1 S = some (nI (lgn (aT A) g), S) := by
  have h30 := h.2.2.1.1.2.2
  have hz := x_tot h hg (kC A) 400 0 (by omega) (by omega)
  have e : sumTo (kC A) (fun c => (trc A c).count g) = lgn (aT A) g := sum_lgc (kC A) (aT A) (fun p hp => (h.tc p hp).1)
  rw [e, show sumTo 0 (fun c => (trc A c).count g) = 0 from rfl, nI_00] at hz
  unfold f_X1_totalOf
  exact hz
theorem m_cnt (hL : LG S1 l) : ∀ (m n j u : Nat), j + m = l.length → m < n → (f_X6_count_L4 n g (nI u) (nI j)).1 S1 = some (nI (u + lgn (l.drop j) g), S1) := by
  obtain ⟨l1, l2, l3, l4, l5⟩ := hL
  intro m
  induction m with
  | zero =>
    intro n j u hj hn
    obtain ⟨n, rfl⟩ : ∃ q, n = q + 1 := ⟨n - 1, by omega⟩
    rw [f_X6_count_L4]
    refine ev_of ?_
    refine w_rdI ?_
    rw [l1, List.drop_eq_nil_of_le (by omega)]
    exact w_t (nI_le (by omega) (by omega)) (w_rtn ⟨rfl, rfl⟩)
  | succ m ih =>
    intro n j u hj hn
    obtain ⟨n, rfl⟩ : ∃ q, n = q + 1 := ⟨n - 1, by omega⟩
    have hjl : j < l.length := by omega
    refine ev_of ?_
    rw [f_X6_count_L4]
    refine w_rdI ?_
    rw [l1]
    refine w_n (nI_ge (by omega) (by omega)) ?_
    refine w_rdN ?_
    refine w_mvL rfl (by omega) (by omega) ?_
    rw [(l5 j hjl).1, drop_c hjl, lgn_cons, nI_add1 (i := j)]
    by_cases hp : (l.getD j (0, 0)).2 = g
    · refine w_t hp ?_
      refine w_ev (a := nI (u + 1)) (by rw [nI_add1]; rfl) ?_
      refine w_of (ih n (j + 1) (u + 1) (by omega) (by omega)) ⟨?_, rfl⟩
      rw [if_pos hp]
      congr 1; omega
    · refine w_n hp ?_
      refine w_ev (a := nI u) (by rw [Int32.add_zero]; rfl) ?_
      exact w_of (ih n (j + 1) u (by omega) (by omega)) ⟨by rw [if_neg hp]; rfl, rfl⟩
theorem m_count (hL : LG S1 l) : (f_X6_count g).1 S1 = some (nI (lgn l g), S1) := by
  have hz := m_cnt (g := g) hL l.length 2097152 0 0 (by omega) (by have := hL.2.1; have := hL.2.2.2.1; omega)
  rw [nI_00, List.drop_zero, Nat.zero_add] at hz
  unfold f_X6_count
  exact hz
theorem six_l (h : six a < 5) : a = 43 ∨ a = 45 ∨ a = 46 ∨ a = 76 ∨ a = 120 := by
  unfold six at h
  by_cases h1 : a = 43
  · exact Or.inl h1
  by_cases h2 : a = 45
  · exact Or.inr (Or.inl h2)
  by_cases h3 : a = 46
  · exact Or.inr (Or.inr (Or.inl h3))
  by_cases h4 : a = 76
  · exact Or.inr (Or.inr (Or.inr (Or.inl h4)))
  by_cases h5 : a = 120
  · exact Or.inr (Or.inr (Or.inr (Or.inr h5)))
  rw [if_neg h1, if_neg h2, if_neg h3, if_neg h4, if_neg h5] at h
  omega
theorem ag_countOf (hi : i + 5 ≤ 2560) : agW INV i (f_X5_countOf 0 a1) (f_X6_countOf a1) (exCode [("java/lang/IllegalArgumentException", 1)]) ["java/lang/IllegalArgumentException"] (fun r q => r = q) := ag_ask (fun S Sm A T k hN => by
  by_cases hs : six a1 < 5
  · refine Or.inl ⟨nI (lgn (aT A) a1), nI (lgn (aT A) a1), pI Sm 5 0 0 0, ev_of ?_, ev_of ?_, TH.rf, rfl⟩
    · unfold f_X5_countOf
      refine w_ev (e_indexOf a1) ?_
      rw [if_pos hs]
      refine w_t (by have := nI_le (show 0 ≤ six a1 by omega) (show six a1 < 2147483648 by omega); rwa [nI_00] at this) ?_
      refine w_rfc (by omega) ?_
      refine w_t (by omega) ?_
      exact w_ev (x_total hN hs) (w_rtX ⟨rfl, rfl⟩)
    · have w30 : wp (f_X6_countOf_J30 a1) Sm (fun r q => r = nI (lgn (aT A) a1) ∧ q = pI Sm 5 0 0 0) := by
        unfold f_X6_countOf_J30 f_X6_countOf_J35
        refine w_n (by decide) ?_
        unfold f_X6_countOf_J46
        refine w_wrI ?_
        refine w_n (by decide) ?_
        exact w_ev (m_count (hN.lg.wr (v := 0))) (w_rtn ⟨rfl, rfl⟩)
      unfold f_X6_countOf
      rcases six_l hs with e | e | e | e | e
      · exact w_t e w30
      · exact w_n (by rw [e]; decide) (w_t e w30)
      · exact w_n (by rw [e]; decide) (w_n (by rw [e]; decide) (w_t e w30))
      · exact w_n (by rw [e]; decide) (w_n (by rw [e]; decide) (w_n (by rw [e]; decide) (w_t e w30)))
      · exact w_n (by rw [e]; decide) (w_n (by rw [e]; decide) (w_n (by rw [e]; decide) (w_n (by rw [e]; decide) (w_t e w30))))
  · refine Or.inr ⟨_, -1, pI Sm 5 0 0 1, ev_of ?_, ev_of ?_, List.mem_cons_self, TH.rf⟩
    · unfold f_X5_countOf
      refine w_ev (e_indexOf a1) ?_
      rw [if_neg hs]
      exact w_n (by decide) (w_thr ⟨rfl, rfl⟩)
    · have hne : ∀ j, j < 5 → a1 ≠ sgn j := fun j hj w => hs (by rw [(six_sgn hj).mp w]; exact hj)
      unfold f_X6_countOf
      refine w_n (hne 0 (by omega)) (w_n (hne 1 (by omega)) (w_n (hne 2 (by omega)) (w_n (hne 3 (by omega)) (w_n (hne 4 (by omega)) ?_))))
      unfold f_X6_countOf_J35
      refine w_t rfl ?_
      unfold f_X6_countOf_J46
      refine w_wrI ?_
      exact w_t rfl (w_rtn ⟨rfl, rfl⟩)) hi
theorem x_fitted (h : IN S Sm A T k) : ∀ (m n s : Nat), s + m = 8 → m < n → (f_X5_fitted_L4 n 0 (sumL s (aL A)) (nI s)).1 S = some (sumL 8 (aL A), S) := by
  have h8 := h.2.2.1.1.1.2
  have hz := h.2.2.1.2.2.2.2.2.2.2.2.2
  intro m
  induction m with
  | zero =>
    intro n s hs hn
    obtain ⟨n, rfl⟩ : ∃ q, n = q + 1 := ⟨n - 1, by omega⟩
    obtain rfl : s = 8 := by omega
    rw [f_X5_fitted_L4]
    exact ev_of (w_t (by decide) (w_rtn ⟨rfl, rfl⟩))
  | succ m ih =>
    intro n s hs hn
    obtain ⟨n, rfl⟩ : ∃ q, n = q + 1 := ⟨n - 1, by omega⟩
    refine ev_of ?_
    rw [f_X5_fitted_L4]
    refine w_n (nI_8 s (by omega)).1 ?_
    refine w_rfc (by omega) ?_
    refine w_t (by omega) ?_
    rw [(nI_8 s (by omega)).2.1]
    by_cases hk : s < kS A
    · refine w_ev (e_findStation (by omega) h.1.1 h.2.2.1.1 hk) ?_
      rw [show 8 * 0 + s = s by omega]
      refine w_t (by omega) ?_
      refine w_rdcL (by omega) ?_
      rw [(h.rx.1 s (by omega)).2]
      exact w_of (ih n (s + 1) (by omega) (by omega)) ⟨rfl, rfl⟩
    · refine w_ev (e_findStation0 (by omega) h.1.1 h.2.2.1.1 (Or.inr (nI_le (by omega) (by omega)))) ?_
      refine w_n (by omega) ?_
      have e : sumL s (aL A) = sumL (s + 1) (aL A) := by rw [sumL, hz s (by omega), Int64.add_zero]
      rw [e]
      exact w_of (ih n (s + 1) (by omega) (by omega)) ⟨rfl, rfl⟩
theorem ag_fitted (hi : i + 5 ≤ 2560) : agP INV i (f_X5_fitted 0) f_X6_fitted := agP_ask (fun S Sm A T k hN => by
  have hz := x_fitted hN 8 400 0 (by omega) (by omega)
  rw [show sumL 0 (aL A) = (0 : Int64) from rfl, nI_00] at hz
  refine ⟨sumL 8 (aL A), pI Sm 5 0 0 0, by unfold f_X5_fitted; exact hz, ev_of ?_, TH.rf⟩
  unfold f_X6_fitted
  refine w_wrI ?_
  refine w_rdL ?_
  exact w_rtn ⟨hN.mx.2.2.1, rfl⟩) hi
end SUMS
