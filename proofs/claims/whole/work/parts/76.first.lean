/-! part 76: which car leaves first -/
/-- the car that leaves first within the next m ticks, when g have left before -/
def nLv : AS → Nat → Nat → Option Nat
  | _, _, 0 => none
  | A, g, m + 1 => if (aG (aTick A)).length ≤ g then nLv (aTick A) g m else some ((aG (aTick A)).getD g 0)
section NTL
variable {S S0 S1 Sm : St} {A A0 B : AS} {T k c i t g s : Nat} {a a1 e : Int32}
theorem aG_cnt : aG (aCnt A e s) = aG A := by
  unfold aCnt
  split <;> rfl
theorem aG_cnts : ∀ (m s : Nat) (A : AS), aG (aCnts A e s m) = aG A
  | 0, _, _ => rfl
  | m + 1, s, A => by rw [aCnts, aG_cnts m (s + 1), aG_cnt]
theorem aG_fils : ∀ (m s : Nat) (A : AS), aG (aFils A s m) = aG A
  | 0, _, _ => rfl
  | m + 1, s, A => by
    rw [aFils, aG_fils m (s + 1)]
    unfold aFil
    split <;> rfl
theorem aG_rnd : aG (aRnd A) = aG A := by
  unfold aRnd
  split
  · rw [aG_fils]; rfl
  · rfl
theorem aG_move : (aG A).length ≤ (aG (aMove A s)).length := by
  unfold aMove
  split
  · exact Nat.le_refl _
  · split
    · exact Nat.le_refl _
    · split
      · split
        · rw [aEnter_R.2.2.1]; exact Nat.le_refl _
        · exact Nat.le_refl _
      · split
        · show (aG A).length ≤ (aG A ++ [atC A s]).length
          rw [List.length_append]; omega
        · exact Nat.le_refl _
theorem aG_moves : ∀ (n : Nat) (A : AS), (aG A).length ≤ (aG (aMoves A n)).length
  | 0, _ => Nat.le_refl _
  | n + 1, A => by
    rw [aMoves]
    exact Nat.le_trans aG_move (aG_moves n _)
theorem aG_back : ∀ (td st : List Nat) (A : AS), aG (aBack A st td) = aG A
  | [], _, _ => rfl
  | c :: r, st, A => by
    rw [aBack]
    split
    · rw [aG_back r st, aEnter_R.2.2.1]; rfl
    · exact aG_back r (st ++ [c]) A
theorem aG_wait : aG (aWait A) = aG A := by
  unfold aWait
  cases hW : aW A with
  | nil => rfl
  | cons c r =>
    dsimp only
    split
    · rw [aEnter_R.2.2.1]; rfl
    · rfl
theorem aG_tick : (aG A).length ≤ (aG (aTick A)).length := by
  unfold aTick aTick1
  rw [aG_wait, aG_back]
  refine Nat.le_trans ?_ (aG_moves _ _)
  rw [aG_cnts, aG_rnd]
  exact Nat.le_refl _
theorem aG_none (h : JA A) (hC : kC A = 0) : aG A = [] := by
  cases hG : aG A with
  | nil => rfl
  | cons c r =>
    have := ((h.2.2.2.1.2.2.2 c).mp (by rw [hG]; exact List.mem_cons_self)).1
    omega
theorem nLv_none : ∀ (m : Nat) (A : AS) (T : Nat), TP A T → T + m < 20000 → kC A = 0 → nLv A g m = none
  | 0, _, _, _, _, _ => rfl
  | m + 1, A, T, hP, hT, hC => by
    obtain ⟨t1, t2, t3⟩ := hP.tick (by omega)
    rw [nLv, aG_none t1.1 (by rw [t3]; exact hC), if_pos (show ([] : List Nat).length ≤ g from Nat.zero_le _)]
    exact nLv_none m _ (T + 1) t1 (by omega) (by rw [t3]; exact hC)
theorem x_ntL : ∀ (m n j : Nat) (A : AS) (T : Nat) (S1 : St), CR 1 k S S1 A → TP A T → T + m ≤ 10299 → j + m = 301 → m < n → g ≤ 30 → wp (f_X5_nextToLeave_L24 n 0 (nI g) (nI j)) S1 (trX (nLv A g m) "java/util/NoSuchElementException" S) := by
  intro m
  induction m with
  | zero =>
    intro n j A T S1 hC hP hT hj hn hc
    obtain ⟨n, rfl⟩ : ∃ q, n = q + 1 := ⟨n - 1, by omega⟩
    rw [f_X5_nextToLeave_L24]
    obtain rfl : j = 301 := by omega
    refine w_t (by decide) ?_
    exact w_thr (Or.inr ⟨rfl, rfl, S1, hC.2.2.1 rfl, rfl⟩)
  | succ m ih =>
    intro n j A T S1 hC hP hT hj hn hc
    obtain ⟨n, rfl⟩ : ∃ q, n = q + 1 := ⟨n - 1, by omega⟩
    obtain ⟨t1, t2, t3⟩ := hP.tick (by omega)
    rw [f_X5_nextToLeave_L24, nLv]
    refine w_n (Int32.not_lt.mpr (show nI j ≤ nI 300 from nI_le (by omega) (by omega))) ?_
    refine w_rfc (by omega) ?_
    refine w_t (by omega) ?_
    refine w_call (w_passTick (by omega) hC hP.1 hP.2.1 (by omega) hP.2.2 (by omega)) (fun _ S2 h2 => ?_)
    have hG : RW S2 (3 * 1 + 2) (aG (aTick A)) := h2.1.2.2.2.2.2.2
    have hl := hG.1
    refine w_rfc (by omega) ?_
    refine w_rfc (by omega) ?_
    refine w_rdc (by omega) ?_
    rw [hG.2.1]
    by_cases hg : (aG (aTick A)).length ≤ g
    · rw [if_pos hg]
      refine w_t (nI_le hg (by omega)) ?_
      rw [nI_add1]
      exact ih n (j + 1) _ (T + 1) S2 h2 t1 (by omega) (by omega) (by omega) hc
    · rw [if_neg hg]
      refine w_n (nI_ge (by omega) (by omega)) ?_
      refine w_rfc (by omega) ?_
      refine w_rfc (by omega) ?_
      refine w_t (by omega) ?_
      refine w_ev (e_at (by omega) hG (by omega)) ?_
      exact w_rtX (Or.inl ⟨_, rfl, rfl, h2.2.2.1 rfl⟩)
theorem MS.gone {q : Nat} (hM : MS q S0 S1 A) : NR (nw S1) 202 235 (aG A) := by
  obtain ⟨-, -, -, -, -, -, -, -, h9⟩ := hM.1.1.2.2.2
  exact h9
theorem m_ntEnd (h0 : MS 0 S0 Sm A0) (hI0 : IA A0) (hM : MS 1 (pI (kpS Sm 237) 3 0 0 1) S1 A) (hJ : JA A) (hg : g ≤ 30) : wp (bnd (mld 20 237 (235 : Int32)) (fun v58 => if v58 ≤ nI g then (bnd (f_X6_putsBack ) (fun _ => bnd (wrI 5 0 0 (1 : Int32)) (fun _ => rtn (-1 : Int32)))) else (bnd (mld 20 237 ((202 : Int32) + nI g)) (fun v72 => bnd (f_X6_putsBack ) (fun _ => if v72 = (-1 : Int32) then (bnd (wrI 5 0 0 (1 : Int32)) (fun _ => rtn v72)) else (bnd (wrI 5 0 0 (0 : Int32)) (fun _ => rtn v72))))))) S1 (trM (if (aG A).length ≤ g then none else some ((aG A).getD g 0)) 1 A0) := by
  have hF : FM (pI (kpS Sm 237) 3 0 0 1) S1 := hM.1.2.2.2.1 rfl
  have hG := hM.gone
  have hl := hG.1
  refine w_mldx (j := 235) rfl (by omega) (by omega) ?_
  rw [show gI S1 20 0 235 = nI (aG A).length from hG.2.1]
  by_cases q : (aG A).length ≤ g
  · rw [if_pos q]
    refine w_t (nI_le q (by omega)) ?_
    refine w_ev e_puts ?_
    refine w_wrI ?_
    exact w_rtn ⟨⟨S0, h0.back hI0 hF⟩, Or.inr ⟨rfl, g5s⟩⟩
  · rw [if_neg q]
    refine w_n (nI_ge (by omega) (by omega)) ?_
    refine w_mldx (j := 202 + g) (nI_add 202 g) (by omega) (by omega) ?_
    rw [show gI S1 20 0 (202 + g) = nI ((aG A).getD g 0) from hG.2.2 g (by omega)]
    have hm : (aG A).getD g 0 < 2097152 := by
      have e : (aG A).getD g 0 = (aG A)[g] := by simp [List.getD, show g < (aG A).length by omega]
      rw [e]
      have h1 := ((hJ.2.2.2.1.2.2.2 _).mp (List.getElem_mem (show g < (aG A).length by omega))).1
      have h2 := hJ.1.2.2
      omega
    refine w_ev e_puts ?_
    refine w_n (nI_ne_neg (by omega)) ?_
    refine w_wrI ?_
    exact w_rtn ⟨⟨S0, h0.back hI0 hF⟩, Or.inl ⟨_, rfl, rfl, g5s⟩⟩
theorem m_ntL (h0 : MS 0 S0 Sm A0) (hI0 : IA A0) (hg : g ≤ 30) : ∀ (m n j : Nat) (A : AS) (T : Nat) (S1 : St), MS 1 (pI (kpS Sm 237) 3 0 0 1) S1 A → TP A T → T + m ≤ 10299 → j + m = 300 → m < n → g ≤ (aG A).length → wp (f_X6_nextToLeave_L15 n (nI g) (nI j)) S1 (trM (if (aG A).length ≤ g then nLv A g m else some ((aG A).getD g 0)) 1 A0) := by
  intro m
  induction m with
  | zero =>
    intro n j A T S1 hM hP hT hj hn hc
    obtain ⟨n, rfl⟩ : ∃ q, n = q + 1 := ⟨n - 1, by omega⟩
    obtain rfl : j = 300 := by omega
    rw [f_X6_nextToLeave_L15, nLv]
    refine w_t (by decide) ?_
    exact m_ntEnd h0 hI0 hM hP.1 hg
  | succ m ih =>
    intro n j A T S1 hM hP hT hj hn hc
    obtain ⟨n, rfl⟩ : ∃ q, n = q + 1 := ⟨n - 1, by omega⟩
    have h8 := hP.1.1.1.2
    have hG := hM.gone
    have hl := hG.1
    obtain ⟨t1, t2, t3⟩ := hP.tick (by omega)
    have h9 := m_ntEnd h0 hI0 hM hP.1 hg
    rw [f_X6_nextToLeave_L15]
    refine w_n (nI_ge (a := j) (b := 300) (by omega) (by omega)) ?_
    refine w_mldx (j := 235) rfl (by omega) (by omega) ?_
    rw [show gI S1 20 0 235 = nI (aG A).length from hG.2.1]
    by_cases he : (aG A).length = g
    · have hle : (aG A).length ≤ g := by omega
      rw [if_pos hle] at h9 ⊢
      refine w_t (by rw [he]) ?_
      refine w_rdI ?_
      rw [show gI S1 0 0 0 = nI (kS A) from hM.1.1.1.1.trans hP.1.1.1.1]
      by_cases h00 : kS A = 0
      · rw [nLv_none (m + 1) A T hP (by omega) (hP.1.2.2.2.2.2.2.2.1 h00)]
        exact w_t (by rw [h00]; decide) h9
      · refine w_n (show ¬ nI (kS A) ≤ nI 0 from nI_ge (by omega) (by omega)) ?_
        rw [nLv]
        refine w_call (w_ticks (B := 3 * T) (by omega) hM hP.1 hP.2.1 (by omega) hP.2.2 (by omega)) (fun _ S2 h2 => ?_)
        rw [nI_add1]
        exact ih n (j + 1) _ (T + 1) S2 h2 t1 (by omega) (by omega) (by omega) (Nat.le_trans hc aG_tick)
    · have hle : ¬ (aG A).length ≤ g := by omega
      rw [if_neg hle] at h9 ⊢
      refine w_n (fun w => he (nI_inj (by omega) (by omega) w)) ?_
      exact h9
theorem ag_nextToLeave (hi : i + 5 ≤ 2560) : agW INV i (f_X5_nextToLeave 0) (f_X6_nextToLeave) (exCode [("java/util/NoSuchElementException", 1)]) ["java/util/NoSuchElementException"] (fun r q => r = q) := ag_try (fun S Sm A T k hN => by
  have hI := hN.2.2.1.1
  have hT := hN.2.2.2.1.2
  have hl : (aG A).length ≤ 30 := hN.rG.1
  refine Or.inl ⟨nLv A (aG A).length 300, "java/util/NoSuchElementException", 1, ?_, ?_, List.mem_cons_self, rfl⟩
  · unfold f_X5_nextToLeave
    refine w_rfc (by omega) ?_
    refine w_rfc (by omega) ?_
    refine w_t (by omega) ?_
    refine w_call (w_copyFrom hN.1 hN.2.2.1) (fun _ S2 h2 => ?_)
    have h0 := hN.1.1.fr hI (h2.2.2.1 rfl)
    refine w_rfc (by omega) ?_
    refine w_rfc (by omega) ?_
    refine w_rdc (by omega) ?_
    rw [show gI S2 5 (3 * 0 + 2) 0 = nI (aG A).length from h0.2.2.2.2.2.2.2.1]
    have h9 := x_ntL (g := (aG A).length) 300 400 1 A T S2 h2 hN.tp (by omega) (by omega) (by omega) hl
    rw [show nI 1 = (1 : Int32) from rfl] at h9
    exact h9
  · have hM1 := hN.2.1.trial hI
    have h9 := m_ntL hN.2.1 hI hl 300 400 0 A T _ hM1 hN.tp (by omega) (by omega) (by omega) (Nat.le_refl _)
    rw [if_pos (Nat.le_refl _), nI_00] at h9
    unfold f_X6_nextToLeave
    refine w_ev e_keeps ?_
    refine w_mldx (j := 235) rfl (by omega) (by omega) ?_
    rw [show gI (pI (kpS Sm 237) 3 0 0 1) 20 0 235 = nI (aG A).length from hM1.gone.2.1]
    exact h9) hi
end NTL
