/-! part 32: rows, signs and traces of the class -/
section ROWS2
variable {x i : Nat} {S : St} {l : List Nat} {a : Int32}
theorem e_has (hx : x < 6) (h : RW S x l) (hi : i < l.length) : (f_X2_has x (nI i)).1 S = some (1, S) := by
  have h30 := h.1
  refine ev_of ?_
  unfold f_X2_has
  refine w_n (nI_pos (by omega)) ?_
  refine w_rdc hx ?_
  rw [h.2.1]
  refine w_n (nI_ge hi (by omega)) ?_
  refine w_rfc hx ?_
  refine w_rdk hx ?_
  exact w_n (nI_ge (by omega) (by omega)) (w_rtnZ (Or.inr rfl) ⟨rfl, rfl⟩)
theorem e_has0 (hx : x < 6) (h : RW S x l) (hi : a < 0 ∨ nI l.length ≤ a) : (f_X2_has x a).1 S = some (0, S) := by
  refine ev_of ?_
  unfold f_X2_has
  refine w_if (fun _ => w_rtnZ (Or.inl rfl) ⟨rfl, rfl⟩) (fun h0 => ?_)
  refine w_rdc hx ?_
  rw [h.2.1]
  exact w_t (hi.resolve_left h0) (w_rtnZ (Or.inl rfl) ⟨rfl, rfl⟩)
theorem e_at (hx : x < 6) (h : RW S x l) (hi : i < l.length) : (f_X2_at x (nI i)).1 S = some (nI (l.getD i 0), S) := by
  have h30 := h.1
  refine ev_of ?_
  unfold f_X2_at
  refine w_t hx ?_
  refine w_ev (e_has hx h hi) ?_
  refine w_n (by decide) ?_
  refine w_rfc hx ?_
  refine w_ald hx (by omega) (by omega) ?_
  rw [h.2.2 i hi]
  exact w_rtn ⟨rfl, rfl⟩
theorem e_at0 (hx : x < 6) (h : RW S x l) (hi : a < 0 ∨ nI l.length ≤ a) : (f_X2_at x a).1 S = some (-1, S) := by
  refine ev_of ?_
  unfold f_X2_at
  refine w_t hx ?_
  refine w_ev (e_has0 hx h hi) ?_
  exact w_t rfl (w_rtn ⟨rfl, rfl⟩)
/-- what an append does -/
def stA (S : St) (x n : Nat) (v : Int32) : St := pI (pI S 6 x n v) 5 x 0 (nI (n + 1))
theorem e_append (hx : x < 6) (h : RW S x l) (hl : l.length < 30) : (f_X2_append x a).1 S = some ((), stA S x l.length a) := by
  refine ev_of ?_
  unfold f_X2_append
  refine w_rdc hx ?_
  rw [h.2.1]
  refine w_n (nI_pos (by omega)) ?_
  refine w_rdc hx ?_
  rw [h.2.1]
  refine w_rfc hx ?_
  refine w_rdk hx ?_
  refine w_n (nI_ge hl (by omega)) ?_
  refine w_rfc hx ?_
  refine w_rdc hx ?_
  rw [h.2.1]
  refine w_ast hx hl (by omega) ?_
  refine w_rdc hx ?_
  rw [gI_pI, if_neg (by omega), h.2.1, nI_1]
  refine w_wrc hx ?_
  exact w_rtn ⟨rfl, rfl⟩
theorem RW.app {c : Nat} (h : RW S x l) (hl : l.length < 30) : RW (stA S x l.length (nI c)) x (l ++ [c]) := by
  refine ⟨by rw [List.length_append]; simp; omega, by unfold stA; rw [gI_pI, if_pos ⟨rfl, rfl, rfl⟩, List.length_append]; rfl, fun k hk => ?_⟩
  unfold stA
  rw [gI_pI, if_neg (by omega), gI_pI]
  rw [List.length_append] at hk
  have hk : k < l.length + 1 := hk
  by_cases q : k = l.length
  · subst q
    rw [if_pos ⟨rfl, rfl, rfl⟩]
    simp
  · rw [if_neg (fun w => q w.2.2), h.2.2 k (by omega)]
    have : k < l.length := by omega
    simp [List.getD, List.getElem?_append_left this]
theorem RW.stA {y n : Nat} {v : Int32} (h : RW S x l) (hxy : x ≠ y) : RW (stA S y n v) x l := by
  unfold Jvm.Pilot.CLineclockLaw_law_r5422_632de8.stA
  exact (h.oth (by omega)).oth (by omega)
/-- what a removal does: the members behind come one nearer -/
def shf (S : St) (x p n : Nat) : St := (fun a b c => if a = 6 ∧ b = x ∧ p ≤ c ∧ c < n then S.1 6 x (c + 1) else S.1 a b c, S.2)
theorem gI_shf {p n a b c : Nat} : gI (shf S x p n) a b c = if a = 6 ∧ b = x ∧ p ≤ c ∧ c < n then gI S 6 x (c + 1) else gI S a b c := rfl
theorem e_removeL (hx : x < 6) {p : Nat} {u : Int32} (hu : gI S 5 x 0 = u) : ∀ (m n q : Nat), 29 - q < n → p ≤ q → q + m = 29 → (f_X2_removeAt_L11 n x (nI q)).1 (shf S x p q) = some ((), pI (shf S x p 29) 5 x 0 (u - 1)) := by
  intro m
  induction m with
  | zero =>
    intro n q hn hp hq
    obtain ⟨n, rfl⟩ : ∃ k, n = k + 1 := ⟨n - 1, by omega⟩
    have hq : q = 29 := by omega
    subst hq
    refine ev_of ?_
    rw [f_X2_removeAt_L11]
    refine w_rfc hx ?_
    refine w_rdk hx ?_
    refine w_t (by decide +kernel) ?_
    refine w_rdc hx ?_
    refine w_wrc hx ?_
    rw [gI_shf, if_neg (by omega), hu]
    exact w_rtn ⟨rfl, rfl⟩
  | succ m ih =>
    intro n q hn hp hq
    obtain ⟨n, rfl⟩ : ∃ k, n = k + 1 := ⟨n - 1, by omega⟩
    refine ev_of ?_
    rw [f_X2_removeAt_L11]
    refine w_rfc hx ?_
    refine w_rdk hx ?_
    rw [show nI 30 - (1 : Int32) = nI 29 by decide]
    refine w_n (nI_ge (by omega) (by omega)) ?_
    refine w_rfc hx ?_
    refine w_rfc hx ?_
    rw [nI_1]
    refine w_ald hx (by omega) (by omega) ?_
    refine w_ast hx (by omega) (by omega) ?_
    rw [gI_shf, if_neg (by omega)]
    have e : pI (shf S x p q) 6 x q (gI S 6 x (q + 1)) = shf S x p (q + 1) := by
      refine Prod.ext ?_ rfl
      funext a b c
      show (if a = 6 ∧ b = x ∧ c = q then gI S 6 x (q + 1) else (if a = 6 ∧ b = x ∧ p ≤ c ∧ c < q then S.1 6 x (c + 1) else S.1 a b c)) = (if a = 6 ∧ b = x ∧ p ≤ c ∧ c < q + 1 then S.1 6 x (c + 1) else S.1 a b c)
      by_cases h1 : a = 6 ∧ b = x ∧ c = q
      · rw [if_pos h1, if_pos ⟨h1.1, h1.2.1, by omega, by omega⟩, h1.2.2]; rfl
      · rw [if_neg h1]
        by_cases h2 : a = 6 ∧ b = x ∧ p ≤ c ∧ c < q
        · rw [if_pos h2, if_pos ⟨h2.1, h2.2.1, h2.2.2.1, by omega⟩]
        · rw [if_neg h2, if_neg (by omega)]
    rw [e]
    exact w_of (ih n (q + 1) (by omega) (by omega) (by omega)) ⟨rfl, rfl⟩
/-- behind a removal -/
def stR (S : St) (x p n : Nat) : St := pI (shf S x p 29) 5 x 0 (nI (n - 1))
theorem e_removeAt (hx : x < 6) (h : RW S x l) {p : Nat} (hp : p < l.length) : (f_X2_removeAt x (nI p)).1 S = some ((), stR S x p l.length) := by
  have h30 := h.1
  refine ev_of ?_
  unfold f_X2_removeAt
  refine w_t hx ?_
  refine w_ev (e_has hx h hp) ?_
  refine w_n (by decide) ?_
  have e : shf S x p p = S := by
    refine Prod.ext ?_ rfl
    funext a b c
    show (if a = 6 ∧ b = x ∧ p ≤ c ∧ c < p then S.1 6 x (c + 1) else S.1 a b c) = S.1 a b c
    rw [if_neg (by omega)]
  have h1 := e_removeL (p := p) hx h.2.1 (29 - p) 400 p (by omega) (Nat.le_refl _) (by omega)
  rw [e, nI_sub1 (by omega)] at h1
  exact w_of h1 ⟨rfl, rfl⟩
theorem RW.rem {p : Nat} (h : RW S x l) (hp : p < l.length) : RW (stR S x p l.length) x (l.eraseIdx p) := by
  have h30 := h.1
  have hlen : (l.eraseIdx p).length = l.length - 1 := List.length_eraseIdx_of_lt hp
  refine ⟨by omega, by unfold stR; rw [gI_pI, if_pos ⟨rfl, rfl, rfl⟩, hlen], fun k hk => ?_⟩
  unfold stR
  rw [gI_pI, if_neg (by omega), gI_shf]
  rw [hlen] at hk
  by_cases q : p ≤ k
  · rw [if_pos ⟨rfl, rfl, q, by omega⟩, h.2.2 (k + 1) (by omega)]
    simp [List.getD, List.getElem?_eraseIdx, show ¬ k < p by omega]
  · rw [if_neg (by omega), h.2.2 k (by omega)]
    simp [List.getD, List.getElem?_eraseIdx, show k < p by omega]
theorem RW.stR {y p n : Nat} (h : RW S x l) (hxy : x ≠ y) : RW (stR S y p n) x l := by
  unfold Jvm.Pilot.CLineclockLaw_law_r5422_632de8.stR
  refine RW.oth ⟨h.1, by rw [gI_shf, if_neg (by omega)]; exact h.2.1, fun k hk => by rw [gI_shf, if_neg (by omega)]; exact h.2.2 k hk⟩ (by omega)
end ROWS2
/-- the signs -/
def sgn (j : Nat) : Int32 := ([43, 45, 46, 76, 120] : List Int32).getD j 0
/-- which sign it is; 5: none -/
def six (a : Int32) : Nat := if a = 43 then 0 else if a = 45 then 1 else if a = 46 then 2 else if a = 76 then 3 else if a = 120 then 4 else 5
theorem toI8 : ∀ n, n < 256 → ∀ j, j < 5 → ((sgn j = (nI n).toInt8.toInt32) ↔ (nI n = sgn j)) := by decide +kernel
theorem e_idxL {S : St} {w a : Int32} (hw : ∀ j, j < 5 → (sgn j = w ↔ a = sgn j)) : ∀ (m n j : Nat), 5 - j < n → j + m = 5 → (∀ i, i < j → a ≠ sgn i) → (f_J1_indexOfChar_4cfef_L7 n (5 : Int32) w (nI j)).1 S = some (if six a < 5 then nI (six a) else -1, S) := by
  intro m
  induction m with
  | zero =>
    intro n j hn hj hi
    obtain ⟨n, rfl⟩ : ∃ k, n = k + 1 := ⟨n - 1, by omega⟩
    have hj : j = 5 := by omega
    subst hj
    refine ev_of ?_
    rw [f_J1_indexOfChar_4cfef_L7]
    refine w_t (by decide) (w_rtn ⟨?_, rfl⟩)
    have h0 : a ≠ 43 := hi 0 (by omega)
    have h1 : a ≠ 45 := hi 1 (by omega)
    have h2 : a ≠ 46 := hi 2 (by omega)
    have h3 : a ≠ 76 := hi 3 (by omega)
    have h4 : a ≠ 120 := hi 4 (by omega)
    have : six a = 5 := by
      unfold six
      rw [if_neg h0, if_neg h1, if_neg h2, if_neg h3, if_neg h4]
    rw [this]; rfl
  | succ m ih =>
    intro n j hn hj hi
    obtain ⟨n, rfl⟩ : ∃ k, n = k + 1 := ⟨n - 1, by omega⟩
    refine ev_of ?_
    rw [f_J1_indexOfChar_4cfef_L7]
    refine w_n (by rw [show (5 : Int32) = nI 5 by decide]; exact nI_ge (by omega) (by omega)) ?_
    have eB : (sgB (nI j)).1 S = some (sgn j, S) := by
      unfold sgB
      rw [if_pos (in_nI (by omega) (by omega)), nI_clamp (by omega)]
      rfl
    refine w_ev eB ?_
    refine w_if (fun q => w_rtn ⟨?_, rfl⟩) (fun q => ?_)
    · have ha := (hw j (by omega)).mp q
      have : six a = j := by
        rcases (show j = 0 ∨ j = 1 ∨ j = 2 ∨ j = 3 ∨ j = 4 by omega) with rfl | rfl | rfl | rfl | rfl <;> rw [ha] <;> decide
      rw [this, if_pos (by omega)]
    · rw [nI_1]
      exact w_of (ih n (j + 1) (by omega) (by omega) (fun i hi1 => by
        by_cases e : i = j
        · subst e; exact fun h9 => q ((hw i (by omega)).mpr h9)
        · exact hi i (by omega))) ⟨rfl, rfl⟩
theorem e_indexOf {S : St} (a : Int32) : (f_J0_indexOf_0f7a4 a).1 S = some (if six a < 5 then nI (six a) else -1, S) := by
  have none6 : ∀ z : Int32, (z < 0 ∨ 255 < z) → six z = 5 := fun z hz => by
    unfold six
    have h0 : z ≠ 43 := fun e => by subst e; revert hz; decide
    have h1 : z ≠ 45 := fun e => by subst e; revert hz; decide
    have h2 : z ≠ 46 := fun e => by subst e; revert hz; decide
    have h3 : z ≠ 76 := fun e => by subst e; revert hz; decide
    have h4 : z ≠ 120 := fun e => by subst e; revert hz; decide
    rw [if_neg h0, if_neg h1, if_neg h2, if_neg h3, if_neg h4]
  have key : (f_J1_indexOf_4cfef a (0 : Int32) (5 : Int32)).1 S = some (if six a < 5 then nI (six a) else -1, S) := by
    refine ev_of ?_
    unfold f_J1_indexOf_4cfef f_J1_canEncode_9a6ad
    by_cases h0 : a < 0
    · refine w_ev (a := 0) (S1 := S) (ev_of (w_t h0 (w_rtnZ (Or.inl rfl) ⟨rfl, rfl⟩))) ?_
      refine w_t rfl (w_rtn ⟨?_, rfl⟩)
      rw [none6 a (Or.inl h0)]; rfl
    · by_cases h1 : (255 : Int32) < a
      · refine w_ev (a := 0) (S1 := S) (ev_of (w_n h0 (w_t h1 (w_rtnZ (Or.inl rfl) ⟨rfl, rfl⟩)))) ?_
        refine w_t rfl (w_rtn ⟨?_, rfl⟩)
        rw [none6 a (Or.inr h1)]; rfl
      · refine w_ev (a := 1) (S1 := S) (ev_of (w_n h0 (w_n h1 (w_rtnZ (Or.inr rfl) ⟨rfl, rfl⟩)))) ?_
        refine w_n (by decide) ?_
        refine w_ret ?_
        refine w_ret ?_
        refine w_t (by decide) ?_
        have hn : ∃ n, n < 256 ∧ a = nI n := by
          rcases i32_cases a 256 (by omega) with h | ⟨n, h2, h3⟩
          · rcases h with h | h
            · exact absurd h h0
            · refine absurd ?_ h1
              rw [Int32.lt_iff_toInt_lt]
              rw [Int32.le_iff_toInt_le, nI_toInt (by omega)] at h
              have e : (255 : Int32).toInt = 255 := by decide
              omega
          · exact ⟨n, h2, h3⟩
        obtain ⟨n, hn, rfl⟩ := hn
        unfold f_J1_indexOfChar_4cfef
        refine w_ev (S1 := S) (a := if six (nI n) < 5 then nI (six (nI n)) else -1) (ev_of ?_) (w_rtn ⟨rfl, rfl⟩)
        refine w_ret ?_
        exact w_of (e_idxL (a := nI n) (fun j hj => toI8 n hn j hj) 5 400 0 (by omega) (by omega) (fun i hi => by omega)) ⟨rfl, rfl⟩
  refine ev_of ?_
  unfold f_J0_indexOf_0f7a4
  refine w_ev (a := if six a < 5 then nI (six a) else -1) (S1 := S) (ev_of ?_) (w_rtn ⟨rfl, rfl⟩)
  unfold f_J0_indexOf_7cf53
  have e1 : (f_J0_isLatin1_aae02).1 S = some (1, S) := by
    unfold f_J0_isLatin1_aae02
    exact ev_of (w_rtnZ (Or.inr rfl) ⟨rfl, rfl⟩)
  have e2 : (f_J0_length_8abf5).1 S = some (5, S) := by
    refine ev_of ?_
    unfold f_J0_length_8abf5 f_J0_coder_7d493
    refine w_ev (a := 0) (S1 := S) (by unfold rtnB; rw [if_pos (by decide)]; rfl) (w_rtn ⟨by decide, rfl⟩)
  refine w_ev e1 ?_
  refine w_n (by decide) ?_
  refine w_ev e2 ?_
  exact w_ev key (w_rtn ⟨rfl, rfl⟩)
