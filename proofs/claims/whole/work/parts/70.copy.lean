/-! part 70: stations and cars are copied -/
def cpSt (S : St) (s : Nat) : St := pL (pI (pI (pI (pI (pI (pI (pI S 7 (8 + s) 0 (gI S 7 s 0)) 8 (8 + s) 0 (gI S 8 s 0)) 9 (8 + s) 0 (gI S 9 s 0)) 10 (8 + s) 0 (gI S 10 s 0)) 11 (8 + s) 0 (gI S 11 s 0)) 12 (8 + s) 0 (gI S 12 s 0)) 13 (8 + s) 0 (gI S 13 s 0)) (8 + s) (gL S s)
section CPS
variable {S S0 S1 S2 : St} {A B : AS} {T k c d s i n f p q x y t : Nat} {a a1 a2 v : Int32} {l : List Nat}
theorem x_fst (ht : t < 2) (h : gI S 0 t 0 = nI n) (hn : n ≤ 8) (hs : s < n) : (f_X1_findStation t (nI s)).1 S = some (8 * t + s, S) := by
  refine ev_of ?_
  unfold f_X1_findStation
  refine w_n (nI_pos (by omega)) ?_
  refine w_rdc ht ?_
  rw [h]
  refine w_n (nI_ge hs (by omega)) ?_
  refine w_rfc ht ?_
  refine w_rdk ht ?_
  refine w_n (nI_ge (by omega) (by omega)) ?_
  refine w_rfc ht ?_
  refine w_arf ht (by omega) (by omega) ?_
  exact w_rtn ⟨rfl, rfl⟩
theorem x_fcar (ht : t < 2) (h : gI S 1 t 0 = nI n) (hn : n ≤ 30) (hs : c < n) : (f_X1_findCar t (nI c)).1 S = some (30 * t + c, S) := by
  refine ev_of ?_
  unfold f_X1_findCar
  refine w_n (nI_pos (by omega)) ?_
  refine w_rdc ht ?_
  rw [h]
  refine w_n (nI_ge hs (by omega)) ?_
  refine w_rfc ht ?_
  refine w_rdk ht ?_
  refine w_n (nI_ge (by omega) (by omega)) ?_
  refine w_rfc ht ?_
  refine w_arf ht (by omega) (by omega) ?_
  exact w_rtn ⟨rfl, rfl⟩
theorem e_cpSt (hs : s < 8) : (f_X1_copyStation (8 + s) s).1 S = some ((), cpSt S s) := by
  have nx : ∀ (S1 : St) (g : Nat) (v : Int32) (f : Nat), gI (pI S1 g (8 + s) 0 v) f s 0 = gI S1 f s 0 := fun S1 g v f => by rw [gI_pI, if_neg (by omega)]
  refine ev_of ?_
  unfold f_X1_copyStation
  refine w_t (by omega) (w_t (by omega) (w_t (by omega) ?_))
  refine w_ev (S1 := cpSt S s) (a := ()) (ev_of ?_) (w_rtn ⟨rfl, rfl⟩)
  unfold f_X3_copyFrom
  refine w_rdc (by omega) (w_rdc (by omega) (w_rdc (by omega) (w_rdc (by omega) ?_)))
  refine w_t (by omega) ?_
  refine w_ev (S1 := pI (pI (pI (pI S 7 (8 + s) 0 (gI S 7 s 0)) 8 (8 + s) 0 (gI S 8 s 0)) 9 (8 + s) 0 (gI S 9 s 0)) 10 (8 + s) 0 (gI S 10 s 0)) (a := ()) (ev_of ?_) ?_
  · unfold f_X3_setUp
    exact w_wrc (by omega) (w_wrc (by omega) (w_wrc (by omega) (w_wrc (by omega) (w_rtn ⟨rfl, rfl⟩))))
  · refine w_rdc (by omega) ?_
    rw [nx, nx, nx, nx]
    refine w_wrc (by omega) ?_
    refine w_rdc (by omega) ?_
    rw [nx, nx, nx, nx, nx]
    refine w_wrc (by omega) ?_
    refine w_rdc (by omega) ?_
    rw [nx, nx, nx, nx, nx, nx]
    refine w_wrc (by omega) ?_
    refine w_rdcL (by omega) ?_
    exact w_wrcL (by omega) (w_rtn ⟨rfl, rfl⟩)
theorem cpSt_fr (hs : s < 8) : FR S (cpSt S s) := by
  unfold cpSt
  have h1 : FR S (pI (pI (pI (pI (pI (pI (pI S 7 (8 + s) 0 (gI S 7 s 0)) 8 (8 + s) 0 (gI S 8 s 0)) 9 (8 + s) 0 (gI S 9 s 0)) 10 (8 + s) 0 (gI S 10 s 0)) 11 (8 + s) 0 (gI S 11 s 0)) 12 (8 + s) 0 (gI S 12 s 0)) 13 (8 + s) 0 (gI S 13 s 0)) :=
    ((((((FR.rf.pI (by unfold zro; omega)).pI (by unfold zro; omega)).pI (by unfold zro; omega)).pI (by unfold zro; omega)).pI (by unfold zro; omega)).pI (by unfold zro; omega)).pI (by unfold zro; omega)
  refine ⟨h1.1, fun i hi => ?_, h1.2.2⟩
  show gL (pL _ (8 + s) (gL S s)) i = gL S i
  rw [gL_pL, if_neg (by omega)]
  exact h1.2.1 i hi
theorem cpSt_at (hf : 7 ≤ f ∧ f ≤ 12) : gI (cpSt S s) f (8 + s) 0 = gI S f s 0 := by
  unfold cpSt
  show gI (pI (pI (pI (pI (pI (pI (pI S 7 (8 + s) 0 (gI S 7 s 0)) 8 (8 + s) 0 (gI S 8 s 0)) 9 (8 + s) 0 (gI S 9 s 0)) 10 (8 + s) 0 (gI S 10 s 0)) 11 (8 + s) 0 (gI S 11 s 0)) 12 (8 + s) 0 (gI S 12 s 0)) 13 (8 + s) 0 (gI S 13 s 0)) f (8 + s) 0 = _
  rcases (show f = 7 ∨ f = 8 ∨ f = 9 ∨ f = 10 ∨ f = 11 ∨ f = 12 by omega) with rfl | rfl | rfl | rfl | rfl | rfl <;> simp [gI_pI]
theorem cpSt_o {j : Nat} (hf : f < 7 ∨ 13 < f ∨ i ≠ 8 + s) : gI (cpSt S s) f i j = gI S f i j := by
  unfold cpSt
  show gI (pI (pI (pI (pI (pI (pI (pI S 7 (8 + s) 0 (gI S 7 s 0)) 8 (8 + s) 0 (gI S 8 s 0)) 9 (8 + s) 0 (gI S 9 s 0)) 10 (8 + s) 0 (gI S 10 s 0)) 11 (8 + s) 0 (gI S 11 s 0)) 12 (8 + s) 0 (gI S 12 s 0)) 13 (8 + s) 0 (gI S 13 s 0)) f i j = _
  rw [gI_pI, if_neg (by omega), gI_pI, if_neg (by omega), gI_pI, if_neg (by omega), gI_pI, if_neg (by omega), gI_pI, if_neg (by omega), gI_pI, if_neg (by omega), gI_pI, if_neg (by omega)]
end CPS
