/-! part 44: the reference's log -/
section WR
variable {q c s x : Nat} {S0 S S1 : St} {A B : AS} {v : Int32}
/-- what a writing leaves alone -/
def WF (S S1 : St) : Prop := (∀ f i j, f ≠ 4 → f ≠ 22 → f ≠ 23 → f < 30 → gI S1 f i j = gI S f i j) ∧ ∀ i, gL S1 i = gL S i
theorem w_mvS {α : Type} {Q : α → St → Prop} {kU : Unit → PM α} {g h i f v j : Nat} {u : Int32} (hv : gN S g i = v) (hj : j < gN S h i) (hc : gN S h i ≤ 2097152) (hk : wp (kU ()) (pI S f 0 j u) Q) : wp (bnd (mvS g h i f v (nI j) u) kU) S Q := by
  refine w_ev (a := ()) (S1 := pI S f 0 j u) (ev_of ?_) hk
  unfold mvS
  refine w_rdN ?_
  refine w_rdN ?_
  refine w_t ⟨hv, in_nI hj hc⟩ ?_
  rw [nI_clamp (by omega)]
  exact w_of rfl ⟨rfl, rfl⟩
theorem w_mvL {α : Type} {Q : α → St → Prop} {kI : Int32 → PM α} {g h i f v j : Nat} (hv : gN S g i = v) (hj : j < gN S h i) (hc : gN S h i ≤ 2097152) (hk : wp (kI (gI S f 0 j)) S Q) : wp (bnd (mvL g h i f v (nI j)) kI) S Q := by
  refine w_ev (a := gI S f 0 j) (S1 := S) (ev_of ?_) hk
  unfold mvL
  refine w_rdN ?_
  refine w_rdN ?_
  refine w_t ⟨hv, in_nI hj hc⟩ ?_
  rw [nI_clamp (by omega)]
  exact w_of rfl ⟨rfl, rfl⟩
/-- one entry more -/
theorem w_J91 {l : List (Nat × Int32)} {g : Int32} (h : TM S l) (hl : l.length < gN S 0 0) (hg : cv g = g) : wp (f_X6_writes_J91 (nI c) g) S (fun _ S1 => TM S1 (l ++ [(c, g)]) ∧ WF S S1) := by
  obtain ⟨h1, h2, h3, ⟨k, k1, k2⟩, h4, h5, h6⟩ := h
  have hcap : gN S 0 0 ≤ 1048576 := by
    rw [k2]
    have : 2 ^ k ≤ 2 ^ 14 := Nat.pow_le_pow_right (by omega) k1
    omega
  unfold f_X6_writes_J91
  refine w_rdN ?_
  refine w_rdI ?_
  rw [h1]
  refine w_mvS rfl hl (by omega) ?_
  refine w_rdN ?_
  refine w_rdI ?_
  rw [gI_pI, if_neg (by omega), h1]
  refine w_mvS rfl (show l.length < gN S 0 1 by omega) (show gN S 0 1 ≤ 2097152 by omega) ?_
  refine w_rdI ?_
  rw [gI_pI, if_neg (by omega), gI_pI, if_neg (by omega), h1, nI_1]
  refine w_wrI ?_
  refine w_rtn ⟨⟨by rw [gI_pI, if_pos ⟨rfl, rfl, rfl⟩, List.length_append]; rfl, by rw [List.length_append]; exact hl, h3, ⟨k, k1, k2⟩, fun j hj => ?_, h5, h6⟩, fun f i j a1 a2 a3 a4 => by rw [gI_pI, if_neg (by omega), gI_pI, if_neg (by omega), gI_pI, if_neg (by omega)], fun i => rfl⟩
  rw [List.length_append] at hj
  have hj : j < l.length + 1 := hj
  by_cases e : j = l.length
  · subst e
    have e1 : (l ++ [(c, g)]).getD l.length (0, 0) = (c, g) := by simp
    rw [e1]
    refine ⟨?_, ?_, hg⟩
    · rw [gI_pI, if_neg (by omega), gI_pI, if_neg (by omega), gI_pI, if_pos ⟨rfl, rfl, rfl⟩]; exact hg
    · rw [gI_pI, if_neg (by omega), gI_pI, if_pos ⟨rfl, rfl, rfl⟩]
  · have e1 : (l ++ [(c, g)]).getD j (0, 0) = l.getD j (0, 0) := by simp [List.getD, List.getElem?_append_left (show j < l.length by omega)]
    rw [e1, gI_pI, if_neg (by omega), gI_pI, if_neg (by omega), gI_pI, if_neg (by omega), gI_pI, if_neg (by omega), gI_pI, if_neg (by omega), gI_pI, if_neg (by omega)]
    exact h4 j (by omega)
def cpM (S : St) (x : Nat) : St := (fun a b c => if a = 30 ∧ b = 0 ∧ c < x then cv (S.1 22 0 c) else if a = 31 ∧ b = 0 ∧ c < x then S.1 23 0 c else S.1 a b c, S.2)
theorem gI_cpM {a b c : Nat} : gI (cpM S x) a b c = if a = 30 ∧ b = 0 ∧ c < x then cv (gI S 22 0 c) else if a = 31 ∧ b = 0 ∧ c < x then gI S 23 0 c else gI S a b c := rfl
theorem gN_cpM {a b : Nat} : gN (cpM S x) a b = gN S a b := rfl
theorem cpM_s : pI (pI (cpM S x) 30 0 x (cv (gI S 22 0 x))) 31 0 x (gI S 23 0 x) = cpM S (x + 1) := by
  refine Prod.ext ?_ rfl
  funext a b c
  show (if a = 31 ∧ b = 0 ∧ c = x then gI S 23 0 x else (if a = 30 ∧ b = 0 ∧ c = x then cv (gI S 22 0 x) else (if a = 30 ∧ b = 0 ∧ c < x then cv (S.1 22 0 c) else if a = 31 ∧ b = 0 ∧ c < x then S.1 23 0 c else S.1 a b c))) = (if a = 30 ∧ b = 0 ∧ c < x + 1 then cv (S.1 22 0 c) else if a = 31 ∧ b = 0 ∧ c < x + 1 then S.1 23 0 c else S.1 a b c)
  by_cases h1 : a = 31 ∧ b = 0 ∧ c = x
  · rw [if_pos h1, if_neg (by omega), if_pos ⟨h1.1, h1.2.1, by omega⟩, h1.2.2]; rfl
  · rw [if_neg h1]
    by_cases h2 : a = 30 ∧ b = 0 ∧ c = x
    · rw [if_pos h2, if_pos ⟨h2.1, h2.2.1, by omega⟩, h2.2.2]; rfl
    · rw [if_neg h2]
      by_cases h3 : a = 30 ∧ b = 0 ∧ c < x
      · rw [if_pos h3, if_pos ⟨h3.1, h3.2.1, by omega⟩]
      · rw [if_neg h3, if_neg (show ¬ (a = 30 ∧ b = 0 ∧ c < x + 1) by omega)]
        by_cases h4 : a = 31 ∧ b = 0 ∧ c < x
        · rw [if_pos h4, if_pos ⟨h4.1, h4.2.1, by omega⟩]
        · rw [if_neg h4, if_neg (by omega)]
theorem w_L42 {Q : Unit → St → Prop} {g : Int32} {L u3 u4 : Nat} (h4 : gI S 4 0 0 = nI L) (hL : L ≤ 1048576) (h0 : gN S 0 0 = L) (h01 : gN S 0 1 = L) (h5 : gN S 5 0 = u3) (h51 : gN S 5 1 = u4) (h6 : gN S 6 0 = 2 * L) (h61 : gN S 6 1 = 2 * L) (hL0 : 0 < L)
    (hk : wp (f_X6_writes_J91 (nI c) g) (exS 1 (exS 0 (cpM S L))) Q) : ∀ (m n x : Nat), L - x < n → x + m = L → wp (f_X6_writes_L42 n (nI c) g u3 u4 (nI x)) (cpM S x) Q := by
  intro m
  induction m with
  | zero =>
    intro n x hn hx
    obtain ⟨n, rfl⟩ : ∃ k, n = k + 1 := ⟨n - 1, by omega⟩
    have hx : x = L := by omega
    subst hx
    rw [f_X6_writes_L42]
    refine w_rdI ?_
    have e4 : gI (cpM S x) 4 0 0 = nI x := by rw [gI_cpM, if_neg (by omega), if_neg (by omega)]; exact h4
    rw [e4]
    refine w_t (nI_le (Nat.le_refl _) (by omega)) ?_
    refine w_ev (a := ()) (S1 := exS 0 (cpM S x)) ?_ ?_
    · unfold mSwap
      dsimp only
      rw [if_pos (by rw [gN_cpM]; exact h5)]
    · refine w_ev (a := ()) (S1 := exS 1 (exS 0 (cpM S x))) ?_ hk
      unfold mSwap
      dsimp only
      rw [if_pos (by rw [gN_exS, if_neg (by omega), if_neg (by omega), if_neg (by omega), if_neg (by omega), gN_cpM]; exact h51)]
  | succ m ih =>
    intro n x hn hx
    obtain ⟨n, rfl⟩ : ∃ k, n = k + 1 := ⟨n - 1, by omega⟩
    rw [f_X6_writes_L42]
    refine w_rdI ?_
    have e4 : gI (cpM S x) 4 0 0 = nI L := by rw [gI_cpM, if_neg (by omega), if_neg (by omega)]; exact h4
    rw [e4]
    refine w_n (nI_ge (by omega) (by omega)) ?_
    refine w_rdN ?_
    refine w_mvL rfl (by rw [gN_cpM]; omega) (by rw [gN_cpM]; omega) ?_
    refine w_mvS (by rw [gN_cpM]; exact h5) (by rw [gN_cpM]; omega) (by rw [gN_cpM]; omega) ?_
    refine w_rdN ?_
    refine w_mvL rfl (show x < gN S 0 1 by omega) (show gN S 0 1 ≤ 2097152 by omega) ?_
    refine w_mvS (show gN S 5 1 = u4 from h51) (show x < gN S 6 1 by omega) (show gN S 6 1 ≤ 2097152 by omega) ?_
    have e1 : gI (cpM S x) 22 0 x = gI S 22 0 x := by rw [gI_cpM, if_neg (by omega), if_neg (by omega)]
    have e2 : gI (pI (cpM S x) 30 0 x (cv (gI (cpM S x) 22 0 x))) 23 0 x = gI S 23 0 x := by rw [gI_pI, if_neg (by omega), gI_cpM, if_neg (by omega), if_neg (by omega)]
    rw [e2, e1, cpM_s, nI_1]
    exact ih n (x + 1) (by omega) (by omega)
theorem pow_capm {k : Nat} (h : 64 * 2 ^ k < 1048576) (hk : k ≤ 14) : k ≤ 13 := by
  rcases Nat.lt_or_ge k 14 with h1 | h1
  · omega
  · have : k = 14 := by omega
    subst this
    omega
theorem gN_newM {S : St} {k n a b : Nat} (h : a ≠ 2 ∧ a ≠ 3 ∧ a ≠ 7 ∧ ¬ ((a = 5 ∨ a = 6) ∧ b = k)) : gN (newM k n S) a b = gN S a b := by
  unfold newM
  rw [gN_pN, if_neg (by omega), gN_pN, if_neg (by omega), gN_pN, if_neg (by omega), gN_pN, if_neg (by omega), gN_pN, if_neg (by omega), gN_zI]
theorem gN_newM5 {S : St} {k n : Nat} : gN (newM k n S) 5 k = gN S 2 0 ∧ gN (newM k n S) 6 k = n ∧ gN (newM k n S) 3 0 = gN S 3 0 + n ∧ gN (newM k n S) 7 0 = gN S 7 0 + 1 := by
  unfold newM
  refine ⟨?_, ?_, ?_, ?_⟩
  · rw [gN_pN, if_neg (by omega), gN_pN, if_neg (by omega), gN_pN, if_neg (by omega), gN_pN, if_neg (by omega), gN_pN, if_pos ⟨rfl, rfl⟩]
  · rw [gN_pN, if_neg (by omega), gN_pN, if_neg (by omega), gN_pN, if_neg (by omega), gN_pN, if_pos ⟨rfl, rfl⟩]
  · rw [gN_pN, if_pos ⟨rfl, rfl⟩]
  · rw [gN_pN, if_neg (by omega), gN_pN, if_pos ⟨rfl, rfl⟩]
theorem gI_newM {S : St} {k n a b c : Nat} (h : a ≠ 30 + k) : gI (newM k n S) a b c = gI S a b c := by
  unfold newM
  rw [gI_pN, gI_pN, gI_pN, gI_pN, gI_pN, gI_zI, if_neg (fun w => h w.1)]
theorem w_writes0 {l : List (Nat × Int32)} {g : Int32} (h : TM S l) (h3 : gI S 3 0 0 = 0) (hl : l.length < 1048576) (hg : cv g = g) : wp (f_X6_writes (nI c) g) S (fun _ S1 => TM S1 (l ++ [(c, g)]) ∧ WF S S1) := by
  have h' := h
  obtain ⟨h1, h2, h2b, ⟨k, k1, k2⟩, h4, h5, h6⟩ := h
  unfold f_X6_writes
  refine w_rdI ?_
  refine w_t h3 ?_
  refine w_rdI ?_
  refine w_rdN ?_
  have e1 : (mvN 1 0 0 (gN S 1 0)).1 S = some (nI (gN S 0 0), S) := by
    refine ev_of ?_
    unfold mvN
    refine w_rdN ?_
    refine w_rdN ?_
    exact w_t rfl (w_rtn ⟨rfl, rfl⟩)
  refine w_ev e1 ?_
  rw [h1]
  have hcap : gN S 0 0 ≤ 1048576 := by
    rw [k2]
    have : 2 ^ k ≤ 2 ^ 14 := Nat.pow_le_pow_right (by omega) k1
    omega
  by_cases hf : l.length = gN S 0 0
  · have hk13 : k ≤ 13 := pow_capm (by omega) k1
    have hc2 : gN S 0 0 ≤ 524288 := by
      rw [k2]
      have : 2 ^ k ≤ 2 ^ 13 := Nat.pow_le_pow_right (by omega) hk13
      omega
    have hc0 : 64 ≤ gN S 0 0 := by
      rw [k2]
      have : 1 ≤ 2 ^ k := Nat.one_le_two_pow
      omega
    have em : ∀ L : Nat, (2 : Int32) * nI L = nI (2 * L) := fun L => (Int32.ofNat_mul 2 L).symm
    refine w_t (by rw [hf]) ?_
    refine w_rdI ?_
    rw [h1, em]
    have n1 : (mNew 0 (nI (2 * l.length))).1 S = some (gN S 2 0, newM 0 (2 * l.length) S) := by
      unfold mNew
      dsimp only
      rw [nI_clamp (by omega), if_pos ⟨nI_pos (by omega), by omega⟩]
    refine w_ev n1 ?_
    refine w_rdI ?_
    rw [gI_newM (by omega), h1, em]
    have n2 : (mNew 1 (nI (2 * l.length))).1 (newM 0 (2 * l.length) S) = some (gN (newM 0 (2 * l.length) S) 2 0, newM 1 (2 * l.length) (newM 0 (2 * l.length) S)) := by
      unfold mNew
      dsimp only
      rw [nI_clamp (by omega), if_pos ⟨nI_pos (by omega), by omega⟩]
    refine w_ev n2 ?_
    generalize hS2 : newM 1 (2 * l.length) (newM 0 (2 * l.length) S) = S2
    have gi : ∀ a b c, a < 30 → gI S2 a b c = gI S a b c := fun a b c h => by rw [← hS2, gI_newM (by omega), gI_newM (by omega)]
    have g0 : ∀ i, gN S2 0 i = gN S 0 i := fun i => by rw [← hS2, gN_newM (by omega), gN_newM (by omega)]
    have g5 : gN S2 5 0 = gN S 2 0 := by rw [← hS2, gN_newM (by omega)]; exact gN_newM5.1
    have g51 : gN S2 5 1 = gN (newM 0 (2 * l.length) S) 2 0 := by rw [← hS2]; exact gN_newM5.1
    have g6 : gN S2 6 0 = 2 * l.length := by rw [← hS2, gN_newM (by omega)]; exact gN_newM5.2.1
    have g61 : gN S2 6 1 = 2 * l.length := by rw [← hS2]; exact gN_newM5.2.1
    have g3 : gN S2 3 0 = gN S 3 0 + 2 * l.length + 2 * l.length := by rw [← hS2, gN_newM5.2.2.1, gN_newM5.2.2.1]
    have g7 : gN S2 7 0 = gN S 7 0 + 1 + 1 := by rw [← hS2, gN_newM5.2.2.2, gN_newM5.2.2.2]
    have e0 : cpM S2 0 = S2 := by
      refine Prod.ext ?_ rfl
      funext a b c
      show (if a = 30 ∧ b = 0 ∧ c < 0 then _ else if a = 31 ∧ b = 0 ∧ c < 0 then _ else _) = _
      rw [if_neg (by omega), if_neg (by omega)]
    have fin := w_L42 (S := S2) (Q := fun _ S1 => TM S1 (l ++ [(c, g)]) ∧ WF S S1) (c := c) (g := g) (L := l.length) (by rw [gi _ _ _ (by omega)]; exact h1) (by omega) (by rw [g0]; omega) (by rw [g0]; omega) g5 g51 g6 g61 (by omega) ?_ l.length 2097152 0 (by omega) (by omega)
    · rw [e0] at fin
      rw [show (0 : Int32) = nI 0 from rfl]
      exact fin
    · have xi : ∀ a b c, a < 30 → a ≠ 22 → a ≠ 23 → gI (exS 1 (exS 0 (cpM S2 l.length))) a b c = gI S a b c := fun a b c h1 h2 h3 => by
        rw [gI_exS, if_neg (by omega), if_neg (by omega), gI_exS, if_neg (by omega), if_neg (by omega), gI_cpM, if_neg (by omega), if_neg (by omega), gi _ _ _ h1]
      have x0 : gN (exS 1 (exS 0 (cpM S2 l.length))) 0 0 = 2 * l.length := by
        rw [gN_exS, if_neg (by omega), if_neg (by omega), if_neg (by omega), if_neg (by omega), gN_exS, if_neg (by omega), if_neg (by omega), if_pos ⟨rfl, rfl⟩, gN_cpM, g6]
      have x01 : gN (exS 1 (exS 0 (cpM S2 l.length))) 0 1 = 2 * l.length := by
        rw [gN_exS, if_neg (by omega), if_neg (by omega), if_pos ⟨rfl, rfl⟩, gN_exS, if_neg (by omega), if_neg (by omega), if_neg (by omega), if_neg (by omega), gN_cpM, g61]
      have xk : ∀ a b, a = 3 ∨ a = 7 → gN (exS 1 (exS 0 (cpM S2 l.length))) a b = gN S2 a b := fun a b h => by
        rw [gN_exS, if_neg (by omega), if_neg (by omega), if_neg (by omega), if_neg (by omega), gN_exS, if_neg (by omega), if_neg (by omega), if_neg (by omega), if_neg (by omega), gN_cpM]
      have hT : TM (exS 1 (exS 0 (cpM S2 l.length))) l := by
        refine ⟨by rw [xi _ _ _ (by omega) (by omega) (by omega)]; exact h1, by omega, by omega, ⟨k + 1, by omega, by rw [x0, Nat.pow_succ]; omega⟩, fun j hj => ⟨?_, ?_, (h4 j hj).2.2⟩, by rw [x0, xk _ _ (by omega)]; omega, by rw [x0, xk _ _ (by omega)]; omega⟩
        · rw [gI_exS, if_neg (by omega), if_neg (by omega), gI_exS, if_pos ⟨rfl, rfl⟩, gI_cpM, if_pos ⟨rfl, rfl, hj⟩, gi _ _ _ (by omega), (h4 j hj).1]
          exact (h4 j hj).2.2
        · rw [gI_exS, if_pos ⟨rfl, rfl⟩, gI_exS, if_neg (by omega), if_neg (by omega), gI_cpM, if_neg (by omega), if_pos ⟨rfl, rfl, hj⟩, gi _ _ _ (by omega)]
          exact (h4 j hj).2.1
      refine w_mono (w_J91 (c := c) (g := g) hT (by omega) hg) (fun _ S3 h9 => ⟨h9.1, fun f i j a1 a2 a3 a4 => by rw [h9.2.1 f i j a1 a2 a3 a4, xi _ _ _ a4 a2 a3], fun i => by rw [h9.2.2, ← hS2]; rfl⟩)
  · refine w_n (fun w => hf (nI_inj (by omega) (by omega) w)) ?_
    exact w_J91 h' (by omega) hg
/-- a writing -/
theorem w_writes {g : Int32} (h : MB q S0 S A) (hq : q < 2) (hl : (aT A).length < 1048576) (hg : cv g = g) : wp (f_X6_writes (nI c) g) S (fun _ S1 => MB q S0 S1 (aNote A c g) ∧ LF S S1) := by
  obtain ⟨h1, h2, h3, h4, hu⟩ := h
  rcases (show q = 0 ∨ q = 1 by omega) with rfl | rfl
  · obtain ⟨x1, x2, x3, x4⟩ := h3 rfl
    refine w_mono (w_writes0 (c := c) x4 h2 hl hg) (fun _ S1 h9 => ?_)
    obtain ⟨t1, t2, t3⟩ := h9
    have k9 : ∀ f i j, f ≠ 4 → f < 22 → gI S1 f i j = gI S f i j := fun f i j a1 a2 => t2 f i j a1 (by omega) (by omega) (by omega)
    refine ⟨⟨(h1.cgS (fun f i j a1 a2 a3 a4 a5 a6 a7 a8 => k9 f i j a2 (by omega))).cg (fun _ _ _ _ _ => rfl) rfl rfl, by rw [k9 _ _ _ (by omega) (by omega)]; exact h2, fun _ => ⟨fun s hs => by rw [k9 _ _ _ (by omega) (by omega)]; exact x1 s hs, fun c hc => by rw [k9 _ _ _ (by omega) (by omega), k9 _ _ _ (by omega) (by omega), k9 _ _ _ (by omega) (by omega)]; exact x2 c hc, by rw [t3]; exact x3, t1⟩, fun w => by omega, fun _ => ⟨fun s hs => ⟨by rw [k9 _ _ _ (by omega) (by omega)]; exact ((hu rfl).1 s hs).1, (k9 20 0 _ (by omega) (by omega)).trans ((hu rfl).1 s hs).2⟩, fun c hc => ⟨by rw [k9 _ _ _ (by omega) (by omega)]; exact ((hu rfl).2 c hc).1, by rw [k9 _ _ _ (by omega) (by omega)]; exact ((hu rfl).2 c hc).2.1, (k9 20 0 _ (by omega) (by omega)).trans ((hu rfl).2 c hc).2.2⟩⟩⟩, fun j _ => k9 20 0 j (by omega) (by omega)⟩
  · unfold f_X6_writes
    refine w_rdI ?_
    rw [h2]
    refine w_n (by decide) ?_
    exact w_rtn ⟨⟨h1.cg (fun _ _ _ _ _ => rfl) rfl rfl, h2, fun w => by omega, h4, fun w => by omega⟩, fun _ _ => rfl⟩
end WR
