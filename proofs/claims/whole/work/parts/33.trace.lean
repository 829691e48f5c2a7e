/-! part 33: the trace of a car -/
abbrev cv (u : Int32) : Int32 := (u.toUInt32 % 65536).toInt32
/-- a trace and how often each sign stands in it -/
def RT (S : St) (x : Nat) (l : List Int32) : Prop :=
  gI S 23 x 0 = nI l.length ∧ l.length ≤ gN S 0 x ∧ (∃ k, k ≤ 10 ∧ gN S 0 x = 32 * 2 ^ k) ∧ (∀ k, k < l.length → gI S 25 x k = l.getD k 0 ∧ cv (l.getD k 0) = l.getD k 0) ∧ ∀ j, j < 5 → gI S 24 x j = nI (l.count (sgn j))
/-- all else stays; what the traces' rows may cost -/
def TF (x : Nat) (S S1 : St) : Prop :=
  (∀ f i j, f < 23 → gI S1 f i j = gI S f i j) ∧ (∀ f i j, f ≤ 25 → i ≠ x → gI S1 f i j = gI S f i j) ∧ (∀ i, gL S1 i = gL S i) ∧ (∀ i, i ≠ x → gN S1 0 i = gN S 0 i) ∧ gN S1 3 0 + 2 * gN S 0 x = gN S 3 0 + 2 * gN S1 0 x ∧ 32 * gN S1 7 0 + gN S 0 x ≤ 32 * gN S 7 0 + gN S1 0 x
theorem TF.rf {x : Nat} {S : St} : TF x S S := ⟨fun _ _ _ _ => rfl, fun _ _ _ _ _ => rfl, fun _ => rfl, fun _ _ => rfl, rfl, Nat.le_refl _⟩
theorem TF.tr {x : Nat} {S S1 S2 : St} (h : TF x S S1) (k : TF x S1 S2) : TF x S S2 := by
  obtain ⟨a1, a2, a3, a4, a5, a6⟩ := h
  obtain ⟨b1, b2, b3, b4, b5, b6⟩ := k
  exact ⟨fun f i j q => (b1 f i j q).trans (a1 f i j q), fun f i j q r => (b2 f i j q r).trans (a2 f i j q r), fun i => (b3 i).trans (a3 i), fun i q => (b4 i q).trans (a4 i q), by omega, by omega⟩
theorem TF.pI {x f j : Nat} {S S1 : St} {v : Int32} (h : TF x S S1) (hf : 23 ≤ f) : TF x S (pI S1 f x j v) := by
  obtain ⟨a1, a2, a3, a4, a5, a6⟩ := h
  exact ⟨fun g i k q => by rw [gI_pI, if_neg (by omega)]; exact a1 g i k q, fun g i k q r => by rw [gI_pI, if_neg (fun w => r w.2.1)]; exact a2 g i k q r, a3, a4, a5, a6⟩
theorem RT.pIo {x f i j : Nat} {S : St} {v : Int32} {l : List Int32} (h : RT S x l) (hf : f < 23 ∨ i ≠ x ∧ f ≤ 25) : RT (pI S f i j v) x l := by
  obtain ⟨h1, h2, h3, h4, h5⟩ := h
  exact ⟨by rw [gI_pI, if_neg (by omega)]; exact h1, h2, h3, fun k hk => ⟨by rw [gI_pI, if_neg (by omega)]; exact (h4 k hk).1, (h4 k hk).2⟩, fun j hj => by rw [gI_pI, if_neg (by omega)]; exact h5 j hj⟩
section TR
variable {x : Nat} {S : St} {α : Type} {Q : α → St → Prop}
theorem w_addr {kN : Nat → PM α} (hx : x < 30) (h : wp (kN (gN S 1 x)) S Q) : wp (bnd (if x < 30 then rdN 1 x else fail) kN) S Q := by rw [if_pos hx]; exact w_rdN h
theorem w_sgN {kI : Int32 → PM α} {v : Nat} (hx : x < 30) (hv : gN S 1 x = v) (h : wp (kI (nI (gN S 0 x))) S Q) : wp (bnd (sgN x v) kI) S Q := by
  refine w_ev (a := nI (gN S 0 x)) (S1 := S) (ev_of ?_) h
  unfold sgN
  refine w_rdN ?_
  refine w_t ⟨hx, hv⟩ ?_
  exact w_rdN (w_rtn ⟨rfl, rfl⟩)
theorem w_sgL {kI : Int32 → PM α} {v j : Nat} (hx : x < 30) (hv : gN S 1 x = v) (hj : j < gN S 0 x) (hc : gN S 0 x ≤ 2097152) (h : wp (kI (gI S 25 x j)) S Q) : wp (bnd (sgL x v (nI j)) kI) S Q := by
  refine w_ev (a := gI S 25 x j) (S1 := S) (ev_of ?_) h
  unfold sgL
  refine w_rdN ?_
  refine w_rdN ?_
  refine w_t ⟨⟨hx, hv⟩, in_nI hj hc⟩ ?_
  rw [nI_clamp (by omega)]
  exact w_of rfl ⟨rfl, rfl⟩
theorem w_sgS {kU : Unit → PM α} {v j : Nat} {u : Int32} (hx : x < 30) (hv : gN S 1 x = v) (hj : j < gN S 0 x) (hc : gN S 0 x ≤ 2097152) (h : wp (kU ()) (pI S 25 x j (cv u)) Q) : wp (bnd (sgS x v (nI j) u) kU) S Q := by
  refine w_ev (a := ()) (S1 := pI S 25 x j (cv u)) (ev_of ?_) h
  unfold sgS
  refine w_rdN ?_
  refine w_rdN ?_
  refine w_t ⟨⟨hx, hv⟩, in_nI hj hc⟩ ?_
  rw [nI_clamp (by omega)]
  exact w_of rfl ⟨rfl, rfl⟩
end TR
def cpS (S : St) (x q : Nat) : St := (fun a b c => if a = 26 ∧ b = 0 ∧ c < q then cv (S.1 25 x c) else S.1 a b c, S.2)
theorem gI_cpS {S : St} {x q a b c : Nat} : gI (cpS S x q) a b c = if a = 26 ∧ b = 0 ∧ c < q then cv (gI S 25 x c) else gI S a b c := rfl
theorem gN_cpS {S : St} {x q a b : Nat} : gN (cpS S x q) a b = gN S a b := rfl
theorem e_growL {x cap u2 : Nat} {S : St} (hx : x < 30) (hcap : gN S 0 x = cap) (hc0 : 0 < cap) (hc : cap ≤ 32768) (h5 : gN S 5 0 = u2) (h6 : gN S 6 0 = 2 * cap) : ∀ (m n q : Nat), cap - q < n → q + m = cap → (f_X4_grow_L30 n x u2 (nI q)).1 (cpS S x q) = some ((), swapS x (cpS S x cap)) := by
  intro m
  induction m with
  | zero =>
    intro n q hn hq
    obtain ⟨n, rfl⟩ : ∃ k, n = k + 1 := ⟨n - 1, by omega⟩
    have hq : q = cap := by omega
    subst hq
    refine ev_of ?_
    rw [f_X4_grow_L30]
    refine w_addr hx ?_
    refine w_sgN hx rfl ?_
    rw [gN_cpS, hcap]
    refine w_t (nI_le (Nat.le_refl _) (by omega)) ?_
    refine w_ev (a := ()) (S1 := swapS x (cpS S x q)) ?_ (w_rtn ⟨rfl, rfl⟩)
    unfold swapT
    dsimp only
    rw [if_pos ⟨hx, by rw [gN_cpS]; exact h5⟩]
  | succ m ih =>
    intro n q hn hq
    obtain ⟨n, rfl⟩ : ∃ k, n = k + 1 := ⟨n - 1, by omega⟩
    refine ev_of ?_
    rw [f_X4_grow_L30]
    refine w_addr hx ?_
    refine w_sgN hx rfl ?_
    rw [gN_cpS, hcap]
    refine w_n (nI_ge (by omega) (by omega)) ?_
    have e1 : (tmpN u2).1 (cpS S x q) = some (nI (2 * cap), cpS S x q) := by
      refine ev_of ?_
      unfold tmpN
      refine w_rdN ?_
      refine w_t (by rw [gN_cpS]; exact h5) ?_
      refine w_rdN ?_
      exact w_rtn ⟨by rw [gN_cpS, h6], rfl⟩
    refine w_ev e1 ?_
    refine w_n (nI_ge (by omega) (by omega)) ?_
    refine w_addr hx ?_
    refine w_sgL hx rfl (by rw [gN_cpS, hcap]; omega) (by rw [gN_cpS, hcap]; omega) ?_
    rw [gI_cpS, if_neg (by omega)]
    have e2 : (tmpS u2 (nI q) (gI S 25 x q)).1 (cpS S x q) = some ((), cpS S x (q + 1)) := by
      refine ev_of ?_
      unfold tmpS
      refine w_rdN ?_
      refine w_rdN ?_
      refine w_t ⟨by rw [gN_cpS]; exact h5, by rw [gN_cpS, h6]; exact in_nI (by omega) (by omega)⟩ ?_
      rw [nI_clamp (by omega)]
      refine w_of rfl ⟨rfl, ?_⟩
      refine Prod.ext ?_ rfl
      funext a b c
      show (if a = 26 ∧ b = 0 ∧ c = q then cv (gI S 25 x q) else (if a = 26 ∧ b = 0 ∧ c < q then cv (S.1 25 x c) else S.1 a b c)) = (if a = 26 ∧ b = 0 ∧ c < q + 1 then cv (S.1 25 x c) else S.1 a b c)
      by_cases h1 : a = 26 ∧ b = 0 ∧ c = q
      · rw [if_pos h1, if_pos ⟨h1.1, h1.2.1, by omega⟩, h1.2.2]; rfl
      · rw [if_neg h1]
        by_cases h2 : a = 26 ∧ b = 0 ∧ c < q
        · rw [if_pos h2, if_pos ⟨h2.1, h2.2.1, by omega⟩]
        · rw [if_neg h2, if_neg (by omega)]
    refine w_ev e2 ?_
    rw [nI_1]
    exact w_of (ih n (q + 1) (by omega) (by omega)) ⟨rfl, rfl⟩
theorem pow_caps {k : Nat} (h : 32 * 2 ^ k < 32768) (hk : k ≤ 10) : k ≤ 9 := by
  rcases Nat.lt_or_ge k 10 with h1 | h1
  · omega
  · have : k = 10 := by omega
    subst this
    omega
theorem w_grow {x : Nat} {S : St} {l : List Int32} (hx : x < 30) (h : RT S x l) (hl : l.length < 32768) (hfull : l.length = gN S 0 x) : wp (f_X4_grow x) S (fun _ S1 => RT S1 x l ∧ TF x S S1 ∧ l.length < gN S1 0 x) := by
  obtain ⟨h1, h2, ⟨k, hk, hcap⟩, h4, h5⟩ := h
  have hk9 : k ≤ 9 := pow_caps (by omega) hk
  have hc : gN S 0 x ≤ 16384 := by
    rw [hcap]
    have : 2 ^ k ≤ 2 ^ 9 := Nat.pow_le_pow_right (by omega) hk9
    omega
  have hc0 : 32 ≤ gN S 0 x := by
    rw [hcap]
    have : 1 ≤ 2 ^ k := Nat.one_le_two_pow
    omega
  have em : nI (gN S 0 x) * (2 : Int32) = nI (2 * gN S 0 x) := by
    rw [Nat.mul_comm]
    exact (Int32.ofNat_mul _ 2).symm
  unfold f_X4_grow
  refine w_addr hx ?_
  refine w_sgN hx rfl ?_
  refine w_ret ?_
  rw [em]
  refine w_addr hx ?_
  refine w_sgN hx rfl ?_
  refine w_n (nI_ge (by omega) (by omega)) ?_
  refine w_t (by rw [show (32768 : Int32) = nI 32768 by decide]; exact nI_le (by omega) (by omega)) ?_
  have e1 : (newTmp (nI (2 * gN S 0 x))).1 S = some (gN S 2 0, newT (2 * gN S 0 x) S) := by
    unfold newTmp
    dsimp only
    rw [nI_clamp (by omega), if_pos ⟨nI_pos (by omega), by omega⟩]
  refine w_ev e1 ?_
  have e2 : cpS (newT (2 * gN S 0 x) S) x 0 = newT (2 * gN S 0 x) S := by
    refine Prod.ext ?_ rfl
    funext a b c
    show (if a = 26 ∧ b = 0 ∧ c < 0 then _ else _) = _
    rw [if_neg (by omega)]
  have g0 : ∀ i, gN (newT (2 * gN S 0 x) S) 0 i = gN S 0 i := fun i => by simp [newT, gN_pN, gN_zI]
  have e3 := e_growL (S := newT (2 * gN S 0 x) S) (cap := gN S 0 x) (u2 := gN S 2 0) hx (g0 x) (by omega) (by omega) (by simp [newT, gN_pN]) (by simp [newT, gN_pN]) (gN S 0 x) 70000 0 (by omega) (by omega)
  rw [e2] at e3
  have gi : ∀ a b c, a ≠ 26 → gI (newT (2 * gN S 0 x) S) a b c = gI S a b c := fun a b c h => by
    simp only [newT, gI_pN, gI_zI]
    rw [if_neg (by omega)]
  have s0 : gN (swapS x (cpS (newT (2 * gN S 0 x) S) x (gN S 0 x))) 0 x = 2 * gN S 0 x := by
    rw [gN_swapS, if_neg (by omega), if_pos ⟨rfl, rfl⟩, gN_cpS]
    simp [newT, gN_pN]
  have hx1 : x ≠ 1 ∨ x = 1 := by omega
  rw [show (0 : Int32) = nI 0 from rfl]
  refine w_of e3 ⟨⟨?_, ?_, ⟨k + 1, by omega, ?_⟩, fun j hj => ⟨?_, (h4 j hj).2⟩, fun j hj => ?_⟩, ⟨fun f i j hf => ?_, fun f i j hf hi => ?_, fun i => rfl, fun i hi => ?_, ?_, ?_⟩, ?_⟩
  · rw [gI_swapS, if_neg (by omega), gI_cpS, if_neg (by omega), gi _ _ _ (by omega)]; exact h1
  · rw [s0]; omega
  · rw [s0, hcap, Nat.pow_succ]; omega
  · rw [gI_swapS, if_pos ⟨rfl, rfl⟩, gI_cpS, if_pos ⟨rfl, rfl, by omega⟩, gi _ _ _ (by omega), (h4 j hj).1]; exact (h4 j hj).2
  · rw [gI_swapS, if_neg (by omega), gI_cpS, if_neg (by omega), gi _ _ _ (by omega)]; exact h5 j hj
  · rw [gI_swapS, if_neg (by omega), gI_cpS, if_neg (by omega), gi _ _ _ (by omega)]
  · rw [gI_swapS, if_neg (fun w => hi w.2), gI_cpS, if_neg (by omega), gi _ _ _ (by omega)]
  · rw [gN_swapS, if_neg (by omega), if_neg (fun w => hi w.2), gN_cpS, g0]
  · rw [s0, gN_swapS, if_neg (by omega), if_neg (by omega), gN_cpS]
    simp only [newT, gN_pN]
    simp
    omega
  · rw [s0, gN_swapS, if_neg (by omega), if_neg (by omega), gN_cpS]
    simp only [newT, gN_pN]
    simp
    omega
  · rw [s0]; omega
theorem count_app (l : List Int32) (a b : Int32) : (l ++ [a]).count b = l.count b + (if a = b then 1 else 0) := by
  rw [List.count_append]
  by_cases h : a = b
  · subst h; simp
  · rw [if_neg h]; simp [List.count_cons, h]
theorem six_sgn {a : Int32} {j : Nat} (hj : j < 5) : a = sgn j ↔ six a = j := by
  constructor
  · intro h
    subst h
    rcases (show j = 0 ∨ j = 1 ∨ j = 2 ∨ j = 3 ∨ j = 4 by omega) with rfl | rfl | rfl | rfl | rfl <;> decide
  · intro h
    unfold six at h
    by_cases h0 : a = 43
    · rw [if_pos h0] at h; subst h; exact h0
    · rw [if_neg h0] at h
      by_cases h1 : a = 45
      · rw [if_pos h1] at h; subst h; exact h1
      · rw [if_neg h1] at h
        by_cases h2 : a = 46
        · rw [if_pos h2] at h; subst h; exact h2
        · rw [if_neg h2] at h
          by_cases h3 : a = 76
          · rw [if_pos h3] at h; subst h; exact h3
          · rw [if_neg h3] at h
            by_cases h4 : a = 120
            · rw [if_pos h4] at h; subst h; exact h4
            · rw [if_neg h4] at h; omega
theorem w_append {x : Nat} {S : St} {l : List Int32} {a : Int32} (hx : x < 30) (h : RT S x l) (hl : l.length < 32768) (ha : cv a = a) : wp (f_X4_append x a) S (fun _ S1 => RT S1 x (l ++ [a]) ∧ TF x S S1) := by
  have j55 : ∀ S1 : St, gI S1 23 x 0 = nI (l.length + 1) → l.length + 1 ≤ gN S1 0 x → (∃ k, k ≤ 10 ∧ gN S1 0 x = 32 * 2 ^ k) → (∀ k, k < l.length → gI S1 25 x k = l.getD k 0 ∧ cv (l.getD k 0) = l.getD k 0) → gI S1 25 x l.length = a → (∀ j, j < 5 → gI S1 24 x j = nI (l.count (sgn j))) → TF x S S1 → wp (f_X4_append_J55 x a) S1 (fun _ S1 => RT S1 x (l ++ [a]) ∧ TF x S S1) := by
    intro S1 h1 h2 h3 h4 h4a h5 hT
    have c4 : ∀ k, k < (l ++ [a]).length → gI S1 25 x k = (l ++ [a]).getD k 0 ∧ cv ((l ++ [a]).getD k 0) = (l ++ [a]).getD k 0 := fun k hk => by
      rw [List.length_append] at hk
      have hk : k < l.length + 1 := hk
      by_cases q : k = l.length
      · subst q
        have e : (l ++ [a]).getD l.length 0 = a := by simp
        rw [e]; exact ⟨h4a, ha⟩
      · have e : (l ++ [a]).getD k 0 = l.getD k 0 := by simp [List.getD, List.getElem?_append_left (show k < l.length by omega)]
        rw [e]; exact h4 k (by omega)
    unfold f_X4_append_J55
    refine w_ev (e_indexOf a) ?_
    by_cases hs : six a < 5
    · rw [if_pos hs]
      refine w_n (nI_pos (by omega)) ?_
      refine w_rfc hx ?_
      refine w_rdk hx ?_
      refine w_n (nI_ge hs (by omega)) ?_
      refine w_rfc hx ?_
      refine w_ald hx hs (by omega) ?_
      rw [h5 _ hs, nI_1]
      refine w_ast hx hs (by omega) ?_
      refine w_rtn ⟨⟨by rw [gI_pI, if_neg (by omega), List.length_append]; exact h1, by rw [List.length_append]; exact h2, h3, fun k hk => by rw [gI_pI, if_neg (by omega)]; exact c4 k hk, fun j hj => ?_⟩, hT.pI (by omega)⟩
      rw [gI_pI, count_app]
      by_cases e : six a = j
      · rw [if_pos ⟨rfl, rfl, e.symm⟩, if_pos ((six_sgn hj).mpr e), e]
      · rw [if_neg (fun w => e w.2.2.symm), if_neg (fun w => e ((six_sgn hj).mp w)), Nat.add_zero]; exact h5 j hj
    · rw [if_neg hs]
      refine w_t (by decide) ?_
      refine w_rtn ⟨⟨by rw [List.length_append]; exact h1, by rw [List.length_append]; exact h2, h3, c4, fun j hj => ?_⟩, hT⟩
      rw [count_app, if_neg (fun w => hs (by rw [(six_sgn hj).mp w]; exact hj)), Nat.add_zero]; exact h5 j hj
  have j16 : ∀ S1 : St, RT S1 x l → l.length < gN S1 0 x → TF x S S1 → wp (f_X4_append_J16 x a) S1 (fun _ S1 => RT S1 x (l ++ [a]) ∧ TF x S S1) := by
    intro S1 h hlt hT
    obtain ⟨h1, h2, ⟨k, hk, hcap⟩, h4, h5⟩ := h
    have hc : gN S1 0 x ≤ 32768 := by
      rw [hcap]
      have : 2 ^ k ≤ 2 ^ 10 := Nat.pow_le_pow_right (by omega) hk
      omega
    unfold f_X4_append_J16
    refine w_rdc hx ?_
    rw [h1]
    refine w_n (nI_pos (by omega)) ?_
    refine w_rdc hx ?_
    rw [h1]
    refine w_addr hx ?_
    refine w_sgN hx rfl ?_
    refine w_n (nI_ge hlt (by omega)) ?_
    refine w_addr hx ?_
    refine w_rdc hx ?_
    rw [h1]
    refine w_sgS hx rfl hlt (by omega) ?_
    refine w_rdc hx ?_
    rw [gI_pI, if_neg (by omega), h1, nI_1]
    refine w_wrc hx ?_
    refine j55 _ (by rw [gI_pI, if_pos ⟨rfl, rfl, rfl⟩]) hlt ⟨k, hk, hcap⟩ (fun q hq => ?_) ?_ (fun j hj => ?_) ((hT.pI (by omega)).pI (by omega))
    · rw [gI_pI, if_neg (by omega), gI_pI, if_neg (by omega)]; exact h4 q hq
    · rw [gI_pI, if_neg (by omega), gI_pI, if_pos ⟨rfl, rfl, rfl⟩]; exact ha
    · rw [gI_pI, if_neg (by omega), gI_pI, if_neg (by omega)]; exact h5 j hj
  have h' := h
  obtain ⟨h1, h2, ⟨k, hk, hcap⟩, h4, h5⟩ := h
  have hc : gN S 0 x ≤ 32768 := by
    rw [hcap]
    have : 2 ^ k ≤ 2 ^ 10 := Nat.pow_le_pow_right (by omega) hk
    omega
  unfold f_X4_append
  refine w_rdc hx ?_
  rw [h1]
  refine w_addr hx ?_
  refine w_sgN hx rfl ?_
  by_cases q : l.length < gN S 0 x
  · exact w_t (nI_lt q (by omega)) (j16 S h' q TF.rf)
  · refine w_n (nI_nlt (by omega) (by omega)) ?_
    refine w_t hx ?_
    refine w_call (w_grow hx h' hl (by omega)) (fun _ S1 h9 => ?_)
    exact j16 S1 h9.1 h9.2.2 h9.2.1
