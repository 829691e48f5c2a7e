/-! part 59: ticks and faults -/
/-- what never touches the answer's number -/
def K5 {α : Type} (f : PM α) : Prop := ∀ S E, f.1 S = some E → gI E.2 5 0 0 = gI S 5 0 0
section KK
variable {α β : Type} {x y : PM α} {k : α → PM β} {f i j g h v len n : Nat} {u w : Int32} {z : Int64} {a : α}
theorem K5.bnd (hx : K5 x) (hk : ∀ a, K5 (k a)) : K5 (bnd x k) := fun S E he => by
  have he : (x.1 S).bind (fun E => (k E.1).1 E.2) = some E := he
  cases hF : x.1 S with
  | none => rw [hF] at he; cases he
  | some F =>
    rw [hF] at he
    exact (hk F.1 F.2 E he).trans (hx S F hF)
theorem K5.rtn : K5 (rtn a) := fun S E he => by cases he; rfl
theorem K5.fail : K5 (fail : PM α) := fun S E he => by cases he
theorem K5.rdI : K5 (rdI f i j) := fun S E he => by cases he; rfl
theorem K5.rdL : K5 (rdL i) := fun S E he => by cases he; rfl
theorem K5.rdN : K5 (rdN f i) := fun S E he => by cases he; rfl
theorem K5.wrI (hf : 5 ≠ f) : K5 (wrI f i j u) := fun S E he => by cases he; show gI (pI S f i j u) 5 0 0 = _; rw [gI_pI, if_neg (fun w => hf w.1)]
theorem K5.wrL : K5 (wrL i z) := fun S E he => by cases he; rfl
theorem K5.ite {c : Prop} [Decidable c] (hx : K5 x) (hy : K5 y) : K5 (if c then x else y) := by
  split
  · exact hx
  · exact hy
theorem K5.mld : K5 (mld f len u) := K5.ite K5.rdI K5.fail
theorem K5.mst (hf : 5 ≠ f) : K5 (mst f len u w) := K5.ite (K5.wrI hf) K5.fail
theorem K5.mvL : K5 (mvL g h i f v u) := K5.bnd K5.rdN (fun _ => K5.bnd K5.rdN (fun _ => K5.ite K5.rdI K5.fail))
theorem K5.mvS (hf : 5 ≠ f) : K5 (mvS g h i f v u w) := K5.bnd K5.rdN (fun _ => K5.bnd K5.rdN (fun _ => K5.ite (K5.wrI hf) K5.fail))
theorem K5.mvN : K5 (mvN g h i v) := K5.bnd K5.rdN (fun _ => K5.bnd K5.rdN (fun _ => K5.ite K5.rtn K5.fail))
theorem K5.mNew (hn : n < 2) : K5 (mNew n u) := fun S E he => by
  have he : (if ¬ u < 0 ∧ u.toNatClampNeg ≤ 2097152 then some (gN S 2 0, newM n u.toNatClampNeg S) else none) = some E := he
  split at he
  · cases he
    show gI (newM n u.toNatClampNeg S) 5 0 0 = _
    rcases (show n = 0 ∨ n = 1 by omega) with rfl | rfl <;> rfl
  · cases he
theorem K5.mSwap (hn : n < 2) : K5 (mSwap n v) := fun S E he => by
  have he : (if gN S 5 n = v then some ((), exS n S) else none) = some E := he
  split at he
  · cases he
    show gI (exS n S) 5 0 0 = _
    rcases (show n = 0 ∨ n = 1 by omega) with rfl | rfl <;> rfl
  · cases he
end KK
theorem k5_wJ91 {a b : Int32} : K5 (f_X6_writes_J91 a b) := by
  unfold f_X6_writes_J91
  repeat' (first | with_reducible exact K5.rtn | with_reducible exact K5.rdI | with_reducible exact K5.rdN | with_reducible refine K5.mvS ?_ | with_reducible refine K5.wrI ?_ | with_reducible refine K5.bnd ?_ (fun _ => ?_) | decide)
theorem k5_wL42 : ∀ (n : Nat) (a b : Int32) (c d : Nat) (e : Int32), K5 (f_X6_writes_L42 n a b c d e) := by
  intro n
  induction n with
  | zero => intro a b c d e; exact K5.fail
  | succ n ih =>
    intro a b c d e
    rw [f_X6_writes_L42]
    repeat' (first | with_reducible exact ih _ _ _ _ _ | with_reducible exact K5.rtn | with_reducible exact K5.rdI | with_reducible exact K5.rdN | with_reducible exact K5.mvL | with_reducible refine K5.mvS ?_ | with_reducible refine K5.mSwap ?_ | with_reducible refine K5.wrI ?_ | with_reducible refine K5.bnd ?_ (fun _ => ?_) | with_reducible refine K5.ite ?_ ?_ | decide)
theorem k5_writes {a b : Int32} : K5 (f_X6_writes a b) := by
  unfold f_X6_writes
  repeat' (first | with_reducible exact k5_wL42 _ _ _ _ _ _ | with_reducible exact k5_wJ91 | with_reducible exact K5.rtn | with_reducible exact K5.rdI | with_reducible exact K5.rdN | with_reducible exact K5.mvN | with_reducible refine K5.mNew ?_ | with_reducible refine K5.bnd ?_ (fun _ => ?_) | with_reducible refine K5.ite ?_ ?_ | decide)
section KE
variable {a b c d e f g : Int32} {y z : Int64}
theorem k5_J380 : K5 (f_X6_enters_J380 a b) := by
  unfold f_X6_enters_J380
  repeat' (first | with_reducible exact K5.rtn | with_reducible refine K5.mst ?_ | with_reducible refine K5.bnd ?_ (fun _ => ?_) | decide)
theorem k5_J351 : K5 (f_X6_enters_J351 a b) := by
  unfold f_X6_enters_J351
  repeat' (first | with_reducible exact k5_J380 | with_reducible exact K5.mld | with_reducible refine K5.bnd ?_ (fun _ => ?_) | with_reducible refine K5.ite ?_ ?_ | decide)
theorem k5_J329 : K5 (f_X6_enters_J329 a b y z) := by
  unfold f_X6_enters_J329 f_X6_enters_J350
  repeat' (first | with_reducible exact k5_J351 | with_reducible exact K5.mld | with_reducible exact K5.wrL | with_reducible refine K5.bnd ?_ (fun _ => ?_) | with_reducible refine K5.ite ?_ ?_ | decide)
theorem k5_J301 : K5 (f_X6_enters_J301 a b c d e f g) := by
  unfold f_X6_enters_J301 f_X6_enters_J328
  repeat' (first | with_reducible exact k5_J329 | with_reducible exact K5.mld | with_reducible exact K5.rdL | with_reducible refine K5.mst ?_ | with_reducible refine K5.bnd ?_ (fun _ => ?_) | with_reducible refine K5.ite ?_ ?_ | decide)
theorem k5_J262 : K5 (f_X6_enters_J262 a b c d e f) := by
  unfold f_X6_enters_J262
  repeat' (first | with_reducible exact k5_J301 | with_reducible exact k5_writes | with_reducible exact K5.rtn | with_reducible exact K5.mld | with_reducible exact K5.rdI | with_reducible refine K5.mst ?_ | with_reducible refine K5.bnd ?_ (fun _ => ?_) | with_reducible refine K5.ite ?_ ?_ | decide)
theorem k5_J228 : K5 (f_X6_enters_J228 a b c d e) := by
  unfold f_X6_enters_J228
  repeat' (first | with_reducible exact k5_J262 | with_reducible exact k5_writes | with_reducible refine K5.bnd ?_ (fun _ => ?_) | with_reducible refine K5.ite ?_ ?_ | decide)
theorem k5_J200 : K5 (f_X6_enters_J200 a b c d e) := by
  unfold f_X6_enters_J200
  repeat' (first | with_reducible exact k5_J228 | with_reducible exact K5.mld | with_reducible refine K5.mst ?_ | with_reducible refine K5.bnd ?_ (fun _ => ?_) | with_reducible refine K5.ite ?_ ?_ | decide)
theorem k5_J154 : K5 (f_X6_enters_J154 a b c d e f g) := by
  unfold f_X6_enters_J154
  repeat' (first | with_reducible exact k5_J200 | with_reducible exact K5.mld | with_reducible refine K5.mst ?_ | with_reducible refine K5.bnd ?_ (fun _ => ?_) | with_reducible refine K5.ite ?_ ?_ | decide)
theorem k5_J130 : K5 (f_X6_enters_J130 a b c d e f g) := by
  unfold f_X6_enters_J130
  repeat' (first | with_reducible exact k5_J154 | with_reducible exact K5.mld | with_reducible refine K5.mst ?_ | with_reducible refine K5.bnd ?_ (fun _ => ?_) | with_reducible refine K5.ite ?_ ?_ | decide)
theorem k5_J90 : K5 (f_X6_enters_J90 a b c d e f) := by
  unfold f_X6_enters_J90
  repeat' (first | with_reducible exact k5_J130 | with_reducible exact K5.mld | with_reducible refine K5.mst ?_ | with_reducible refine K5.bnd ?_ (fun _ => ?_) | with_reducible refine K5.ite ?_ ?_ | decide)
theorem k5_J60 : K5 (f_X6_enters_J60 a b c d e) := by
  unfold f_X6_enters_J60 f_X6_enters_J89
  repeat' (first | with_reducible exact k5_J90 | with_reducible exact K5.mld | with_reducible refine K5.mst ?_ | with_reducible refine K5.bnd ?_ (fun _ => ?_) | with_reducible refine K5.ite ?_ ?_ | decide)
theorem k5_J34 : K5 (f_X6_enters_J34 a b c d) := by
  unfold f_X6_enters_J34 f_X6_enters_J59
  repeat' (first | with_reducible exact k5_J60 | with_reducible exact K5.mld | with_reducible refine K5.mst ?_ | with_reducible refine K5.bnd ?_ (fun _ => ?_) | with_reducible refine K5.ite ?_ ?_ | decide)
theorem k5_enters : K5 (f_X6_enters a b c) := by
  unfold f_X6_enters f_X6_enters_J33
  repeat' (first | with_reducible exact k5_J34 | with_reducible exact K5.mld | with_reducible refine K5.mst ?_ | with_reducible refine K5.bnd ?_ (fun _ => ?_) | with_reducible refine K5.ite ?_ ?_ | decide)
theorem k5_leaves : K5 (f_X6_leavesLine a) := by
  unfold f_X6_leavesLine
  repeat' (first | with_reducible exact k5_writes | with_reducible exact K5.rtn | with_reducible exact K5.rdI | with_reducible exact K5.mld | with_reducible refine K5.mst ?_ | with_reducible refine K5.bnd ?_ (fun _ => ?_) | with_reducible refine K5.ite ?_ ?_ | decide)
theorem k5_goesOn : K5 (f_X6_goesOn a) := by
  unfold f_X6_goesOn f_X6_goesOn_J51
  repeat' (first | with_reducible exact k5_enters | with_reducible exact k5_leaves | with_reducible exact K5.rtn | with_reducible exact K5.rdI | with_reducible exact K5.mld | with_reducible refine K5.mst ?_ | with_reducible refine K5.bnd ?_ (fun _ => ?_) | with_reducible refine K5.ite ?_ ?_ | decide)
theorem k5_lowL : ∀ (n : Nat) (a b : Int32), K5 (f_X6_lowest_L2 n a b) := by
  intro n
  induction n with
  | zero => intro a b; exact K5.fail
  | succ n ih =>
    intro a b
    rw [f_X6_lowest_L2]
    exact K5.ite (ih _ _) K5.rtn
theorem k5_backL : ∀ (n : Nat) (a b c : Int32), K5 (f_X6_comesBack_L13 n a b c) := by
  intro n
  induction n with
  | zero => intro a b c; exact K5.fail
  | succ n ih =>
    intro a b c
    rw [f_X6_comesBack_L13]
    unfold f_X6_lowest
    repeat' (first | with_reducible exact ih _ _ _ | with_reducible exact k5_lowL _ _ _ | with_reducible exact k5_enters | with_reducible exact K5.rtn | with_reducible exact K5.rdI | with_reducible exact K5.mld | with_reducible refine K5.mst ?_ | with_reducible refine K5.bnd ?_ (fun _ => ?_) | with_reducible refine K5.ite ?_ ?_ | decide)
theorem k5_fillL : ∀ (n : Nat) (a : Int32), K5 (f_X6_fillsUp_L2 n a) := by
  intro n
  induction n with
  | zero => intro a; exact K5.fail
  | succ n ih =>
    intro a
    rw [f_X6_fillsUp_L2]
    repeat' (first | with_reducible exact ih _ | with_reducible exact K5.rtn | with_reducible exact K5.rdI | with_reducible exact K5.mld | with_reducible refine K5.mst ?_ | with_reducible refine K5.bnd ?_ (fun _ => ?_) | with_reducible refine K5.ite ?_ ?_ | decide)
theorem k5_L159 : ∀ (n : Nat) (a b : Int32), K5 (f_X6_ticks_L159 n a b) := by
  intro n
  induction n with
  | zero => intro a b; exact K5.fail
  | succ n ih =>
    intro a b
    rw [f_X6_ticks_L159]
    repeat' (first | with_reducible exact ih _ _ | with_reducible exact k5_enters | with_reducible exact K5.rtn | with_reducible exact K5.rdI | with_reducible exact K5.mld | with_reducible refine K5.mst ?_ | with_reducible refine K5.bnd ?_ (fun _ => ?_) | with_reducible refine K5.ite ?_ ?_ | decide)
theorem k5_L95 : ∀ (n : Nat) (a : Int32), K5 (f_X6_ticks_L95 n a) := by
  intro n
  induction n with
  | zero => intro a; exact K5.fail
  | succ n ih =>
    intro a
    rw [f_X6_ticks_L95]
    unfold f_X6_comesBack
    repeat' (first | with_reducible exact ih _ | with_reducible exact k5_L159 _ _ _ | with_reducible exact k5_backL _ _ _ _ | with_reducible exact k5_goesOn | with_reducible exact K5.rtn | with_reducible exact K5.rdI | with_reducible exact K5.mld | with_reducible refine K5.mst ?_ | with_reducible refine K5.bnd ?_ (fun _ => ?_) | with_reducible refine K5.ite ?_ ?_ | decide)
theorem k5_L34 : ∀ (n : Nat) (a : Int32), K5 (f_X6_ticks_L34 n a) := by
  intro n
  induction n with
  | zero => intro a; exact K5.fail
  | succ n ih =>
    intro a
    rw [f_X6_ticks_L34]
    repeat' (first | with_reducible exact ih _ | with_reducible exact k5_L95 _ _ | with_reducible exact K5.rtn | with_reducible exact K5.rdI | with_reducible exact K5.mld | with_reducible refine K5.mst ?_ | with_reducible refine K5.bnd ?_ (fun _ => ?_) | with_reducible refine K5.ite ?_ ?_ | decide)
theorem k5_ticks : K5 f_X6_ticks := by
  unfold f_X6_ticks f_X6_fillsUp
  repeat' (first | with_reducible exact k5_L34 _ _ | with_reducible exact k5_fillL _ _ | with_reducible exact K5.fail | with_reducible exact K5.rtn | with_reducible exact K5.rdI | with_reducible exact K5.mld | with_reducible refine K5.mst ?_ | with_reducible refine K5.bnd ?_ (fun _ => ?_) | with_reducible refine K5.ite ?_ ?_ | decide)
end KE
/-- some ticks, one behind another -/
def aTicks : AS → Nat → AS
  | A, 0 => A
  | A, n + 1 => aTicks (aTick A) n
section TICKS
variable {S S0 S1 Sm : St} {A B : AS} {T k c s i : Nat} {a a1 a2 v : Int32}
theorem PIN.tick (h : PIN A T) (hT : T < 9999) : PIN (aTick A) (T + 1) := by
  obtain ⟨h1, ⟨h2, h2'⟩, h3, h4, h5, h6⟩ := h
  obtain ⟨q1, q2, q3, q4⟩ := J_tick (B := 3 * T) h1 h2 (by omega) h3
  exact ⟨q1, ⟨q2, by omega⟩, fun c hc => by have := q3 c hc; omega, h4.tick h1 h2 (by omega), h5.tick h1 h2 (by omega), h6.tick⟩
theorem PIN.ticks : ∀ (m : Nat) (A : AS) (T : Nat), PIN A T → T + m ≤ 9999 → PIN (aTicks A m) (T + m)
  | 0, A, T, h, _ => h
  | m + 1, A, T, h, hT => by
    rw [aTicks, show T + (m + 1) = (T + 1) + m by omega]
    exact PIN.ticks m _ _ (h.tick (by omega)) (by omega)
theorem x_ticks {N : Nat} {u : Int32} (hN : N ≤ 60) : ∀ (m n j : Nat) (A : AS) (T : Nat) (S : St), CR 0 k S0 S A → PIN A T → T + m ≤ 9999 → j + m = N → m < n → wp (f_X5_tick_L68 n 0 (nI N) u (nI j)) S (fun x S1 => x = .inl (nI (aG (aTicks A m)).length - u) ∧ CR 0 k S0 S1 (aTicks A m)) := by
  intro m
  induction m with
  | zero =>
    intro n j A T S hC hP hT hj hn
    obtain ⟨n, rfl⟩ : ∃ q, n = q + 1 := ⟨n - 1, by omega⟩
    rw [f_X5_tick_L68]
    refine w_t (nI_le (by omega) (by omega)) ?_
    refine w_rfc (by omega) ?_
    refine w_rfc (by omega) ?_
    refine w_rdc (by omega) ?_
    exact w_rtX ⟨by rw [show gI S 5 (3 * 0 + 2) 0 = nI (aG A).length from hC.1.2.2.2.2.2.2.2.1]; rfl, hC⟩
  | succ m ih =>
    intro n j A T S hC hP hT hj hn
    obtain ⟨n, rfl⟩ : ∃ q, n = q + 1 := ⟨n - 1, by omega⟩
    rw [f_X5_tick_L68]
    refine w_n (nI_ge (by omega) (by omega)) ?_
    refine w_rfc (by omega) ?_
    refine w_t (by omega) ?_
    refine w_call (w_passTick (by omega) hC hP.1 hP.2.1.1 (by omega) hP.2.2.1 (by omega)) (fun _ S2 h2 => ?_)
    rw [nI_add1]
    exact ih n (j + 1) _ (T + 1) S2 h2 (hP.tick (by omega)) (by omega) (by omega) (by omega)
theorem m_ticks {N : Nat} {u : Int32} (hN : N ≤ 60) : ∀ (m n j : Nat) (A : AS) (T : Nat) (S : St), MS 0 S0 S A → gI S 5 0 0 = 0 → PIN A T → T + m ≤ 9999 → j + m = N → m < n → wp (f_X6_tick_L68 n (nI N) u (nI j)) S (fun x S1 => x = nI (aG (aTicks A m)).length - u ∧ MS 0 S0 S1 (aTicks A m) ∧ gI S1 5 0 0 = 0) := by
  intro m
  induction m with
  | zero =>
    intro n j A T S hC h5 hP hT hj hn
    obtain ⟨n, rfl⟩ : ∃ q, n = q + 1 := ⟨n - 1, by omega⟩
    rw [f_X6_tick_L68]
    refine w_t (nI_le (by omega) (by omega)) ?_
    refine w_mldx (j := 235) rfl (by omega) (by omega) ?_
    exact w_rtn ⟨by rw [show gI S 20 0 235 = nI (aG A).length from hC.1.1.2.2.2.2.2.2.2.2.2.2.2.2.1]; rfl, hC, h5⟩
  | succ m ih =>
    intro n j A T S hC h5 hP hT hj hn
    obtain ⟨n, rfl⟩ : ∃ q, n = q + 1 := ⟨n - 1, by omega⟩
    rw [f_X6_tick_L68]
    refine w_n (nI_ge (by omega) (by omega)) ?_
    obtain ⟨E, e1, e2⟩ := w_ticks (B := 3 * T) (by omega) hC hP.1 hP.2.1.1 (by omega) hP.2.2.1 (by have := hP.2.1.2; omega)
    refine w_ev (S1 := E.2) (a := ()) e1 ?_
    rw [nI_add1]
    exact ih n (j + 1) _ (T + 1) E.2 e2 ((k5_ticks S E e1).trans h5) (hP.tick (by omega)) (by omega) (by omega) (by omega)
theorem ag_tick (hi : i + 5 ≤ 2560) : agW INV i (f_X5_tick 0 a1) (f_X6_tick a1) (exCode [("java/lang/IllegalArgumentException", 1), ("java/lang/IllegalStateException", 2)]) ["java/lang/IllegalArgumentException", "java/lang/IllegalStateException"] (fun r q => r = q) := ag_chg (fun S Sm A T k hN => by
  have h8 := hN.2.2.1.1.1.2
  obtain ⟨hT, hT9⟩ := hN.2.2.2.1
  have bad : ∀ (z : Int32), ¬ z ≤ 0 → ∀ a, wp (f_X6_tick_J45 a z) Sm (fun r q => r = -1 ∧ q = pI Sm 5 0 0 z) := fun z hz a => by
    unfold f_X6_tick_J45
    refine w_wrI ?_
    refine w_rdI ?_
    rw [g5s]
    exact w_n hz (w_rtn ⟨rfl, rfl⟩)
  have eS : gI S 0 0 0 = nI (kS A) := (hN.1.1.1 0 (by omega)).trans hN.2.2.1.1.1.1
  have eT : gI S 2 0 0 = nI T := (hN.1.1.1 2 (by omega)).trans hT
  have mS : gI Sm 0 0 0 = nI (kS A) := hN.2.1.1.1.1.1.trans hN.2.2.1.1.1.1
  have mT : gI Sm 20 0 232 = nI T := hN.2.1.1.1.2.2.2.2.2.2.2.2.2.1.trans hT
  rcases rng a1 1 60 (by omega) with h0 | ⟨hin, g, g1, g2, rfl⟩
  · refine Or.inr ⟨_, -1, pI Sm 5 0 0 1, ev_of ?_, ev_of ?_, List.mem_cons_self, TH.rf⟩
    · unfold f_X5_tick
      refine w_ev (x_in0 h0 (by decide) (by decide)) ?_
      exact w_t rfl (w_thr ⟨rfl, rfl⟩)
    · unfold f_X6_tick
      refine w_ev (m_in0 h0 (by decide) (by decide)) ?_
      exact w_t rfl (bad 1 (by decide) _)
  · by_cases hk : kS A = 0 ∨ 9999 < T + g
    · refine Or.inr ⟨_, -1, pI Sm 5 0 0 2, ev_of ?_, ev_of ?_, List.mem_cons_of_mem _ List.mem_cons_self, TH.rf⟩
      · unfold f_X5_tick f_X5_tick_J45
        refine w_ev (x_in1 hin (by decide) (by decide)) ?_
        refine w_n (by decide) ?_
        refine w_rfc (by omega) ?_
        refine w_rdc (by omega) ?_
        rw [eS]
        refine w_if (fun _ => w_thr ⟨rfl, rfl⟩) (fun hz => ?_)
        have hk1 : 9999 < T + g := hk.resolve_left (fun w => hz (by rw [w]; rfl))
        refine w_rfc (by omega) ?_
        refine w_rdc (by omega) ?_
        rw [eT, nI_addn]
        exact w_n (nI_ge (a := 9999) (by omega) (by omega)) (w_thr ⟨rfl, rfl⟩)
      · unfold f_X6_tick f_X6_tick_J40
        refine w_ev (m_in1 hin (by decide) (by decide)) ?_
        refine w_n (by decide) ?_
        refine w_rdI ?_
        rw [mS]
        refine w_if (fun _ => bad 2 (by decide) _) (fun hz => ?_)
        have hk1 : 9999 < T + g := hk.resolve_left (fun w => hz (by rw [w]; rfl))
        refine w_mldx (j := 232) rfl (by omega) (by omega) ?_
        rw [mT, nI_addn]
        exact w_n (nI_ge (a := 9999) (by omega) (by omega)) (bad 2 (by decide) _)
    · have hk0 : kS A ≠ 0 := fun w => hk (Or.inl w)
      have hk1 : T + g ≤ 9999 := Nat.le_of_not_lt (fun w => hk (Or.inr w))
      have hM := hN.2.1.th (TH.rf (v := 0) (Sm := Sm))
      refine Or.inl ⟨aTicks A g, T + g, nI (aG (aTicks A g)).length - nI (aG A).length, nI (aG (aTicks A g)).length - nI (aG A).length, ?_, ?_, rfl, PIN.ticks g A T hN.pin hk1⟩
      · unfold f_X5_tick
        refine w_ev (x_in1 hin (by decide) (by decide)) ?_
        refine w_n (by decide) ?_
        refine w_rfc (by omega) ?_
        refine w_rdc (by omega) ?_
        rw [eS]
        refine w_n (nI_ne0 (by omega) (by omega)) ?_
        refine w_rfc (by omega) ?_
        refine w_rdc (by omega) ?_
        rw [eT, nI_addn]
        refine w_t (nI_le (b := 9999) (by omega) (by omega)) ?_
        refine w_rfc (by omega) ?_
        refine w_rfc (by omega) ?_
        refine w_rdc (by omega) ?_
        rw [show gI S 5 (3 * 0 + 2) 0 = nI (aG A).length from hN.1.1.2.2.2.2.2.2.2.1]
        exact x_ticks g2 g 400 0 A T S hN.1 hN.pin hk1 (by omega) (by omega)
      · unfold f_X6_tick
        refine w_ev (m_in1 hin (by decide) (by decide)) ?_
        refine w_n (by decide) ?_
        refine w_rdI ?_
        rw [mS]
        refine w_n (nI_ne0 (by omega) (by omega)) ?_
        refine w_mldx (j := 232) rfl (by omega) (by omega) ?_
        rw [mT, nI_addn]
        refine w_t (nI_le (b := 9999) (by omega) (by omega)) ?_
        unfold f_X6_tick_J45
        refine w_wrI ?_
        refine w_rdI ?_
        rw [g5s]
        refine w_t (by decide) ?_
        refine w_mldx (j := 235) rfl (by omega) (by omega) ?_
        rw [g5 (by omega), show gI Sm 20 0 235 = nI (aG A).length from hN.G.2.1]
        exact m_ticks g2 g 400 0 A T _ hM.z g5s hN.pin hk1 (by omega) (by omega)) hi
end TICKS
