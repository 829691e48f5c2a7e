/-! part 71: a car is copied -/
def cpCa (S : St) (c : Nat) : St := pI (pI (pI (pI (pI (pI (pI (pI (pI S 14 (30 + c) 0 (gI S 14 c 0)) 15 (30 + c) 0 (gI S 15 c 0)) 16 (30 + c) 0 (gI S 16 c 0)) 17 (30 + c) 0 (gI S 17 c 0)) 18 (30 + c) 0 (gI S 18 c 0)) 19 (30 + c) 0 (gI S 19 c 0)) 20 (30 + c) 0 (gI S 20 c 0)) 21 (30 + c) 0 (gI S 21 c 0)) 22 (30 + c) 0 (gI S 22 c 0)
section CPC
variable {S S0 S1 S2 : St} {A B : AS} {T k c d s i n f p q x y t : Nat} {a a1 a2 v : Int32} {l : List Nat}
theorem e_cpCa (hc : c < 30) (h15 : cv (gI S 15 c 0) = gI S 15 c 0) (h18 : gI S 18 c 0 = 0 ∨ gI S 18 c 0 = 1) : (f_X1_copyCar (30 + c) c).1 S = some ((), cpCa S c) := by
  have nx : ∀ (S1 : St) (g : Nat) (v : Int32) (f : Nat), gI (pI S1 g (30 + c) 0 v) f c 0 = gI S1 f c 0 := fun S1 g v f => by rw [gI_pI, if_neg (by omega)]
  refine ev_of ?_
  unfold f_X1_copyCar
  refine w_t (by omega) (w_t (by omega) (w_t (by omega) ?_))
  refine w_ev (S1 := cpCa S c) (a := ()) (ev_of ?_) (w_rtn ⟨rfl, rfl⟩)
  unfold f_X0_copyFrom
  refine w_rdc (by omega) (w_wrc (by omega) ?_)
  refine w_rdc (by omega) ?_
  rw [nx]
  refine w_wrcC (by omega) h15 ?_
  refine w_rdc (by omega) ?_
  rw [nx, nx]
  refine w_wrc (by omega) ?_
  refine w_rdc (by omega) ?_
  rw [nx, nx, nx]
  refine w_wrc (by omega) ?_
  refine w_rdc (by omega) ?_
  rw [nx, nx, nx, nx]
  refine w_wrcZ (by omega) h18 ?_
  refine w_rdc (by omega) ?_
  rw [nx, nx, nx, nx, nx]
  refine w_wrc (by omega) ?_
  refine w_rdc (by omega) ?_
  rw [nx, nx, nx, nx, nx, nx]
  refine w_wrc (by omega) ?_
  refine w_rdc (by omega) ?_
  rw [nx, nx, nx, nx, nx, nx, nx]
  refine w_wrc (by omega) ?_
  refine w_rdc (by omega) ?_
  rw [nx, nx, nx, nx, nx, nx, nx, nx]
  refine w_wrc (by omega) ?_
  exact w_rtn ⟨rfl, rfl⟩
theorem cpCa_fr : FR S (cpCa S c) := by
  unfold cpCa
  exact ((((((((FR.rf.pI (by unfold zro; omega)).pI (by unfold zro; omega)).pI (by unfold zro; omega)).pI (by unfold zro; omega)).pI (by unfold zro; omega)).pI (by unfold zro; omega)).pI (by unfold zro; omega)).pI (by unfold zro; omega)).pI (by unfold zro; omega)
theorem cpCa_at (hf : 14 ≤ f ∧ f ≤ 19) : gI (cpCa S c) f (30 + c) 0 = gI S f c 0 := by
  unfold cpCa
  rcases (show f = 14 ∨ f = 15 ∨ f = 16 ∨ f = 17 ∨ f = 18 ∨ f = 19 by omega) with rfl | rfl | rfl | rfl | rfl | rfl <;> simp [gI_pI]
theorem cpCa_o {j : Nat} (hf : f < 14 ∨ 22 < f ∨ i ≠ 30 + c) : gI (cpCa S c) f i j = gI S f i j := by
  unfold cpCa
  rw [gI_pI, if_neg (by omega), gI_pI, if_neg (by omega), gI_pI, if_neg (by omega), gI_pI, if_neg (by omega), gI_pI, if_neg (by omega), gI_pI, if_neg (by omega), gI_pI, if_neg (by omega), gI_pI, if_neg (by omega), gI_pI, if_neg (by omega)]
end CPC
