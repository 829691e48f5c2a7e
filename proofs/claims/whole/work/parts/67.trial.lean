/-! part 67: the reference keeps its state and puts it back -/
def kpS (S : St) (q : Nat) : St := (fun a b c => if a = 21 ∧ b = 0 ∧ c < q then S.1 20 0 c else S.1 a b c, S.2)
def pbS (S : St) (q : Nat) : St := (fun a b c => if a = 20 ∧ b = 0 ∧ c < q then S.1 21 0 c else S.1 a b c, S.2)
theorem gI_kpS {S : St} {q a b c : Nat} : gI (kpS S q) a b c = if a = 21 ∧ b = 0 ∧ c < q then gI S 20 0 c else gI S a b c := rfl
theorem gI_pbS {S : St} {q a b c : Nat} : gI (pbS S q) a b c = if a = 20 ∧ b = 0 ∧ c < q then gI S 21 0 c else gI S a b c := rfl
theorem kp_next {S : St} {q : Nat} : pI (kpS S q) 21 0 q (gI (kpS S q) 20 0 q) = kpS S (q + 1) := by
  rw [gI_kpS, if_neg (by omega)]
  unfold pI kpS
  congr 1
  funext a b c
  show (if a = 21 ∧ b = 0 ∧ c = q then gI S 20 0 q else (if a = 21 ∧ b = 0 ∧ c < q then S.1 20 0 c else S.1 a b c)) = if a = 21 ∧ b = 0 ∧ c < q + 1 then S.1 20 0 c else S.1 a b c
  by_cases h : a = 21 ∧ b = 0 ∧ c = q
  · rw [if_pos h, if_pos (by omega), h.2.2]; rfl
  · rw [if_neg h]
    by_cases h2 : a = 21 ∧ b = 0 ∧ c < q
    · rw [if_pos h2, if_pos (by omega)]
    · rw [if_neg h2, if_neg (by omega)]
theorem pb_next {S : St} {q : Nat} : pI (pbS S q) 20 0 q (gI (pbS S q) 21 0 q) = pbS S (q + 1) := by
  rw [gI_pbS, if_neg (by omega)]
  unfold pI pbS
  congr 1
  funext a b c
  show (if a = 20 ∧ b = 0 ∧ c = q then gI S 21 0 q else (if a = 20 ∧ b = 0 ∧ c < q then S.1 21 0 c else S.1 a b c)) = if a = 20 ∧ b = 0 ∧ c < q + 1 then S.1 21 0 c else S.1 a b c
  by_cases h : a = 20 ∧ b = 0 ∧ c = q
  · rw [if_pos h, if_pos (by omega), h.2.2]; rfl
  · rw [if_neg h]
    by_cases h2 : a = 20 ∧ b = 0 ∧ c < q
    · rw [if_pos h2, if_pos (by omega)]
    · rw [if_neg h2, if_neg (by omega)]
theorem e_keepsL {S : St} : ∀ (m n q : Nat), q + m = 237 → m < n → (f_X6_keeps_L2 n (nI q)).1 (kpS S q) = some ((), pI (kpS S 237) 3 0 0 1) := by
  intro m
  induction m with
  | zero =>
    intro n q hq hn
    obtain ⟨n, rfl⟩ : ∃ q, n = q + 1 := ⟨n - 1, by omega⟩
    obtain rfl : q = 237 := by omega
    rw [f_X6_keeps_L2]
    refine ev_of (w_t (nI_le (by omega) (by omega)) ?_)
    unfold wrZ
    rw [if_pos (Or.inr rfl)]
    exact w_wrI (w_rtn ⟨rfl, rfl⟩)
  | succ m ih =>
    intro n q hq hn
    obtain ⟨n, rfl⟩ : ∃ q, n = q + 1 := ⟨n - 1, by omega⟩
    rw [f_X6_keeps_L2]
    refine ev_of (w_n (nI_ge (by omega) (by omega)) ?_)
    refine w_mld (by omega) (by omega) ?_
    refine w_mst (by omega) (by omega) ?_
    rw [kp_next, nI_add1]
    exact w_of (ih n (q + 1) (by omega) (by omega)) ⟨rfl, rfl⟩
theorem e_keeps {S : St} : f_X6_keeps.1 S = some ((), pI (kpS S 237) 3 0 0 1) := by
  have h := e_keepsL (S := S) 237 400 0 (by omega) (by omega)
  have e : kpS S 0 = S := by
    unfold kpS
    refine Prod.ext ?_ rfl
    funext a b c
    exact if_neg (by omega)
  rw [nI_00, e] at h
  unfold f_X6_keeps
  exact h
theorem e_putsL {S : St} : ∀ (m n q : Nat), q + m = 237 → m < n → (f_X6_putsBack_L2 n (nI q)).1 (pbS S q) = some ((), pI (pbS S 237) 3 0 0 0) := by
  intro m
  induction m with
  | zero =>
    intro n q hq hn
    obtain ⟨n, rfl⟩ : ∃ q, n = q + 1 := ⟨n - 1, by omega⟩
    obtain rfl : q = 237 := by omega
    rw [f_X6_putsBack_L2]
    refine ev_of (w_t (nI_le (by omega) (by omega)) ?_)
    unfold wrZ
    rw [if_pos (Or.inl rfl)]
    exact w_wrI (w_rtn ⟨rfl, rfl⟩)
  | succ m ih =>
    intro n q hq hn
    obtain ⟨n, rfl⟩ : ∃ q, n = q + 1 := ⟨n - 1, by omega⟩
    rw [f_X6_putsBack_L2]
    refine ev_of (w_n (nI_ge (by omega) (by omega)) ?_)
    refine w_mld (by omega) (by omega) ?_
    refine w_mst (by omega) (by omega) ?_
    rw [pb_next, nI_add1]
    exact w_of (ih n (q + 1) (by omega) (by omega)) ⟨rfl, rfl⟩
theorem e_puts {S : St} : f_X6_putsBack.1 S = some ((), pI (pbS S 237) 3 0 0 0) := by
  have h := e_putsL (S := S) 237 400 0 (by omega) (by omega)
  have e : pbS S 0 = S := by
    unfold pbS
    refine Prod.ext ?_ rfl
    funext a b c
    exact if_neg (by omega)
  rw [nI_00, e] at h
  unfold f_X6_putsBack
  exact h
