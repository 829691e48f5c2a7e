/-! part 65: the swap -/
def swp (l : List Nat) (p q : Nat) : List Nat := (l.set p (l.getD q 0)).set q (l.getD p 0)
theorem swp_len {l : List Nat} {p q : Nat} : (swp l p q).length = l.length := by unfold swp; rw [List.length_set, List.length_set]
theorem swp_at {l : List Nat} {p q j : Nat} (hp : p < l.length) (hq : q < l.length) : (swp l p q).getD j 0 = if j = q then l.getD p 0 else if j = p then l.getD q 0 else l.getD j 0 := by
  unfold swp
  rw [List.getD_eq_getElem?_getD, List.getElem?_set, List.getElem?_set]
  by_cases h1 : q = j
  · rw [if_pos h1, if_pos (by rw [List.length_set]; omega), if_pos h1.symm]; rfl
  · rw [if_neg h1, if_neg (show ¬ j = q from fun w => h1 w.symm)]
    by_cases h2 : p = j
    · rw [if_pos h2, if_pos (by omega), if_pos h2.symm]; rfl
    · rw [if_neg h2, if_neg (show ¬ j = p from fun w => h2 w.symm), List.getD_eq_getElem?_getD]
theorem idx_ex : ∀ (l : List Nat) (c : Nat), c ∈ l → ∃ p, p < l.length ∧ l.getD p 0 = c ∧ ∀ j, j < p → l.getD j 0 ≠ c
  | [], c, h => by cases h
  | a :: r, c, h => by
    by_cases e : a = c
    · exact ⟨0, by simp, by simp [e], fun j hj => absurd hj (Nat.not_lt_zero _)⟩
    · have hr : c ∈ r := by
        rcases List.mem_cons.mp h with w | w
        · exact absurd w.symm e
        · exact w
      obtain ⟨p, p1, p2, p3⟩ := idx_ex r c hr
      refine ⟨p + 1, by simp; omega, by simpa using p2, fun j hj => ?_⟩
      cases j with
      | zero => simpa using e
      | succ j => have := p3 j (by omega); simpa using this
section SWAP
variable {S S0 S1 Sm : St} {A B : AS} {T k c d s i n f p q x : Nat} {a a1 a2 v : Int32} {l : List Nat}
theorem swp_perm (hp : p < l.length) (hq : q < l.length) : List.Perm (swp l p q) l := by
  unfold swp
  have e1 : l.getD q 0 = l[q] := by simp [List.getD, hq]
  have e2 : l.getD p 0 = l[p] := by simp [List.getD, hp]
  rw [e1, e2]
  exact List.set_set_perm hp hq
theorem e_place (hx : x < 6) (h : RW S x l) (hp : p < l.length) (hc : l.getD p 0 = c) (hc2 : c < 2097152) (hb : ∀ j, j < l.length → l.getD j 0 < 2097152) (hn : ∀ j, j < p → l.getD j 0 ≠ c) : ∀ (m n j : Nat), j + m = p → m < n → (f_X2_placeOf_L2 n x (nI c) (nI j)).1 S = some (nI p, S) := by
  have h30 := h.1
  intro m
  induction m with
  | zero =>
    intro n j hj hn1
    obtain ⟨n, rfl⟩ : ∃ q, n = q + 1 := ⟨n - 1, by omega⟩
    obtain rfl : j = p := by omega
    refine ev_of ?_
    rw [f_X2_placeOf_L2]
    refine w_rfc hx ?_
    refine w_rdk hx ?_
    refine w_n (nI_ge (by omega) (by omega)) ?_
    refine w_t hx ?_
    refine w_ev (e_at hx h hp) ?_
    exact w_t (by rw [hc]) (w_rtn ⟨rfl, rfl⟩)
  | succ m ih =>
    intro n j hj hn1
    obtain ⟨n, rfl⟩ : ∃ q, n = q + 1 := ⟨n - 1, by omega⟩
    refine ev_of ?_
    rw [f_X2_placeOf_L2]
    refine w_rfc hx ?_
    refine w_rdk hx ?_
    refine w_n (nI_ge (by omega) (by omega)) ?_
    refine w_t hx ?_
    refine w_ev (e_at hx h (by omega)) ?_
    have := hb j (by omega)
    refine w_n (fun w => hn j (by omega) (nI_inj (by omega) (by omega) w)) ?_
    rw [nI_add1]
    exact w_of (ih n (j + 1) (by omega) (by omega)) ⟨rfl, rfl⟩
theorem m_place (h : NR (nw S) 142 233 l) (hp : p < l.length) (hc : l.getD p 0 = c) (hc2 : c < 2097152) (hb : ∀ j, j < l.length → l.getD j 0 < 2097152) (hn : ∀ j, j < p → l.getD j 0 ≠ c) : ∀ (m n j : Nat), j + m = p → m < n → (f_X6_waitsAt_L2 n (nI c) (nI j)).1 S = some (nI p, S) := by
  have h30 := h.1
  intro m
  induction m with
  | zero =>
    intro n j hj hn1
    obtain ⟨n, rfl⟩ : ∃ q, n = q + 1 := ⟨n - 1, by omega⟩
    obtain rfl : j = p := by omega
    refine ev_of ?_
    rw [f_X6_waitsAt_L2]
    refine w_mldx (j := 142 + j) (nI_add 142 j) (by omega) (by omega) ?_
    rw [show gI S 20 0 (142 + j) = nI (l.getD j 0) from h.2.2 j hp]
    exact w_t (by rw [hc]) (w_rtn ⟨rfl, rfl⟩)
  | succ m ih =>
    intro n j hj hn1
    obtain ⟨n, rfl⟩ : ∃ q, n = q + 1 := ⟨n - 1, by omega⟩
    refine ev_of ?_
    rw [f_X6_waitsAt_L2]
    refine w_mldx (j := 142 + j) (nI_add 142 j) (by omega) (by omega) ?_
    rw [show gI S 20 0 (142 + j) = nI (l.getD j 0) from h.2.2 j (by omega)]
    have := hb j (by omega)
    refine w_n (fun w => hn j (by omega) (nI_inj (by omega) (by omega) w)) ?_
    rw [nI_add1]
    exact w_of (ih n (j + 1) (by omega) (by omega)) ⟨rfl, rfl⟩
theorem PIN.swap (h : PIN A T) (hp : p < (aW A).length) (hq : q < (aW A).length) : PIN (sW A (swp (aW A) p q)) T := by
  obtain ⟨⟨j1, j2, j3, ⟨j4w, j4o, j4g⟩, j5, j6, j7, j8, j9, j10⟩, h2, h3, h4, h5, h6⟩ := h
  have hpm := swp_perm hp hq
  exact ⟨⟨j1, j2, j3, ⟨⟨hpm.nodup_iff.mpr j4w.1, fun c => hpm.mem_iff.trans (j4w.2 c)⟩, j4o, j4g⟩, j5, j6, j7, j8, j9, j10⟩, h2, h3, h4, h5, h6⟩
theorem CR.swap (h : CR 0 k S0 S A) (hp : p < (aW A).length) (hq : q < (aW A).length) : CR 0 k S0 (pI (pI S 6 0 p (nI ((aW A).getD q 0))) 6 0 q (nI ((aW A).getD p 0))) (sW A (swp (aW A) p q)) := by
  obtain ⟨⟨r1, r2, r3, r4, r5⟩, hX, hF, hR⟩ := h
  have g : ∀ f i j, f ≠ 6 → gI (pI (pI S 6 0 p (nI ((aW A).getD q 0))) 6 0 q (nI ((aW A).getD p 0))) f i j = gI S f i j := fun f i j q2 => by
    rw [gI_pI, if_neg (by omega), gI_pI, if_neg (by omega)]
  refine ⟨⟨fun f hf => by rw [g _ _ _ (by omega)]; exact r1 f hf, fun p hp => by rw [g _ _ _ (by omega)]; exact r2 p hp, fun f s q1 q2 hs => by rw [g _ _ _ (by omega)]; exact r3 f s q1 q2 hs, fun f c q1 q2 hc => by rw [g _ _ _ (by omega)]; exact r4 f c q1 q2 hc, ⟨?_, ?_, fun j hj => ?_⟩, (r5.2.1.oth (by omega)).oth (by omega), (r5.2.2.oth (by omega)).oth (by omega)⟩, fun _ => ((hX rfl).oth (by omega)).oth (by omega), fun w => absurd w (by decide), fun _ => ((hR rfl).oth (by omega)).oth (by omega)⟩
  · show (swp (aW A) p q).length ≤ 30
    rw [swp_len]; exact r5.1.1
  · show _ = nI (swp (aW A) p q).length
    rw [swp_len, g _ _ _ (by omega)]; exact r5.1.2.1
  · have hj : j < (swp (aW A) p q).length := hj
    rw [swp_len] at hj
    show _ = nI ((swp (aW A) p q).getD j 0)
    rw [swp_at hp hq]
    by_cases e1 : j = q
    · rw [if_pos e1, gI_pI, if_pos ⟨rfl, rfl, e1⟩]
    · rw [if_neg e1, gI_pI, if_neg (fun w => e1 w.2.2)]
      by_cases e2 : j = p
      · rw [if_pos e2, gI_pI, if_pos ⟨rfl, rfl, e2⟩]
      · rw [if_neg e2, gI_pI, if_neg (fun w => e2 w.2.2)]; exact r5.1.2.2 j hj
theorem MS.swap (h : MS 0 S0 S A) (hI : IA A) (hp : p < (aW A).length) (hq : q < (aW A).length) : MS 0 S0 (pI (pI S 20 0 (142 + p) (nI ((aW A).getD q 0))) 20 0 (142 + q) (nI ((aW A).getD p 0))) (sW A (swp (aW A) p q)) := by
  have w9 : nw (pI (pI S 20 0 (142 + p) (nI ((aW A).getD q 0))) 20 0 (142 + q) (nI ((aW A).getD p 0))) = fun y => if y = 142 + q then nI ((aW A).getD p 0) else (fun y => if y = 142 + p then nI ((aW A).getD q 0) else nw S y) y := by rw [nw_20, nw_20]
  have o : ∀ f i j, f ≠ 20 → gI (pI (pI S 20 0 (142 + p) (nI ((aW A).getD q 0))) 20 0 (142 + q) (nI ((aW A).getD p 0))) f i j = gI S f i j := fun f i j q2 => by
    rw [gI_pI, if_neg (by omega), gI_pI, if_neg (by omega)]
  obtain ⟨⟨g0, g1, g2⟩, g3, g4, n1, n2, n3, n4, n5, n6, n7, n8, n9⟩ := h.1.1
  have l30 := n8.1
  have h8 := hI.1.2
  have h30 := hI.2.2
  have nwo : ∀ y, y ≠ 142 + p → y ≠ 142 + q → nw (pI (pI S 20 0 (142 + p) (nI ((aW A).getD q 0))) 20 0 (142 + q) (nI ((aW A).getD p 0))) y = nw S y := fun y q1 q2 => by
    rw [w9]
    show (if y = 142 + q then _ else (if y = 142 + p then _ else nw S y)) = _
    rw [if_neg q2, if_neg q1]
  refine (h.mk9 (B := sW A (swp (aW A) p q)) (fun f i j hf => o f i j (by omega)) (fun i => rfl) (fun f i => rfl) ⟨⟨by rw [o _ _ _ (by omega)]; exact g0, by rw [o _ _ _ (by omega)]; exact g1, by rw [o _ _ _ (by omega)]; exact g2⟩, fun s hs => ?_, fun c hc => by rw [o _ _ _ (by omega)]; exact g4 c hc, fun p hp => by rw [nwo _ (by omega) (by omega)]; exact n1 p hp, fun s hs => ?_, fun s hs => ?_, fun c hc => ?_, fun c hc => ?_, fun c hc h9 => ?_, by rw [nwo _ (by omega) (by omega)]; exact n7, ⟨?_, ?_, fun j hj => ?_⟩, by rw [w9]; exact (n9.up (by omega) (by omega)).up (by omega) (by omega)⟩ h8 h30 (fun f hf i => rfl) (fun j hj => nwo j (by omega) (by omega)) rfl rfl (fun c hc h9 => ⟨hc, h9⟩) (by rw [w9]; exact (h.2.up (by omega) (by omega)).up (by omega) (by omega))).z
  · rw [o _ _ _ (by omega), o _ _ _ (by omega), o _ _ _ (by omega), o _ _ _ (by omega)]; exact g3 s hs
  · have hs : s < kS A := hs
    rw [nwo _ (by omega) (by omega)]; exact n2 s hs
  · have hs : s < kS A := hs
    rw [nwo _ (by omega) (by omega)]; exact n3 s hs
  · have hc : c < kC A := hc
    rw [nwo _ (by omega) (by omega)]; exact n4 c hc
  · have hc : c < kC A := hc
    rw [nwo _ (by omega) (by omega)]; exact n5 c hc
  · have hc : c < kC A := hc
    rw [nwo _ (by omega) (by omega), nwo _ (by omega) (by omega)]; exact n6 c hc h9
  · show (swp (aW A) p q).length ≤ 30
    rw [swp_len]; exact l30
  · show _ = nI (swp (aW A) p q).length
    rw [swp_len, nwo _ (by omega) (by omega)]; exact n8.2.1
  · have hj : j < (swp (aW A) p q).length := hj
    rw [swp_len] at hj
    show _ = nI ((swp (aW A) p q).getD j 0)
    rw [swp_at hp hq, w9]
    show (if 142 + j = 142 + q then _ else (if 142 + j = 142 + p then _ else nw S (142 + j))) = _
    by_cases e1 : j = q
    · rw [if_pos (by omega), if_pos e1]
    · rw [if_neg (by omega), if_neg e1]
      by_cases e2 : j = p
      · rw [if_pos (by omega), if_pos e2]
      · rw [if_neg (by omega), if_neg e2]; exact n8.2.2 j hj
end SWAP
