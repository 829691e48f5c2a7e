/-! part 54: the traces and the counts -/
def lgc (l : List (Nat × Int32)) (c : Nat) : List Int32 := (l.filter (fun p => p.1 == c)).map (fun p => p.2)
theorem trc_lgc (A : AS) (c : Nat) : trc A c = lgc (aT A) c := rfl
theorem lgc_cons {p : Nat × Int32} {l : List (Nat × Int32)} {c : Nat} : lgc (p :: l) c = if p.1 = c then p.2 :: lgc l c else lgc l c := by
  unfold lgc
  by_cases h : p.1 = c
  · rw [if_pos h, List.filter_cons, if_pos (by simp [h])]; rfl
  · rw [if_neg h, List.filter_cons, if_neg (by simp [h])]
theorem drop_c {l : List (Nat × Int32)} {j : Nat} (hj : j < l.length) : l.drop j = l.getD j (0, 0) :: l.drop (j + 1) := by
  rw [List.drop_eq_getElem_cons hj]
  congr 1
  simp [List.getD, hj]
theorem lgc_len (l : List (Nat × Int32)) (c : Nat) : (lgc l c).length ≤ l.length := by
  unfold lgc
  rw [List.length_map]
  exact List.length_filter_le _ _
def LG (S : St) (l : List (Nat × Int32)) : Prop :=
  gI S 4 0 0 = nI l.length ∧ l.length ≤ gN S 0 0 ∧ gN S 0 1 = gN S 0 0 ∧ gN S 0 0 ≤ 1048576 ∧ ∀ k, k < l.length → gI S 22 0 k = (l.getD k (0, 0)).2 ∧ gI S 23 0 k = nI (l.getD k (0, 0)).1 ∧ cv (l.getD k (0, 0)).2 = (l.getD k (0, 0)).2
theorem TM.lg {S : St} {l : List (Nat × Int32)} (h : TM S l) : LG S l := by
  obtain ⟨k, h1, h2⟩ := h.2.2.2.1
  have := Nat.pow_le_pow_right (n := 2) (by omega) h1
  exact ⟨h.1, h.2.1, h.2.2.1, by rw [h2]; omega, h.2.2.2.2.1⟩
theorem LG.wr {S : St} {l : List (Nat × Int32)} {v : Int32} (h : LG S l) : LG (pI S 5 0 0 v) l :=
  ⟨by rw [g5 (by omega)]; exact h.1, h.2.1, h.2.2.1, h.2.2.2.1, fun k hk => by rw [g5 (by omega), g5 (by omega)]; exact h.2.2.2.2 k hk⟩
theorem pI_pI {S : St} {f i j : Nat} {u v : Int32} : pI (pI S f i j u) f i j v = pI S f i j v := by
  unfold pI
  congr 1
  funext a b c
  by_cases h : a = f ∧ b = i ∧ c = j
  · rw [if_pos h, if_pos h]
  · rw [if_neg h, if_neg h]; exact if_neg h
theorem nI_00 : nI 0 = (0 : Int32) := rfl
section LOGS
variable {S S1 Sm : St} {A : AS} {T k c s i j : Nat} {a a1 a2 : Int32} {l : List (Nat × Int32)}
theorem IN.lg (h : IN S Sm A T k) : LG Sm (aT A) := h.mx.2.2.2.lg
theorem IN.tc (h : IN S Sm A T k) : ∀ p, p ∈ aT A → p.1 < kC A ∧ cv p.2 = p.2 := h.2.2.1.2.2.2.2.2.2.2.2.1
theorem IN.rt (h : IN S Sm A T k) (hc : c < kC A) : RT S c (trc A c) := h.rx.2.2.1 c (by have := h.2.2.1.1.2.2; omega)
theorem x_reqTrace (h : IN S Sm A T k) (hc : c < kC A) : (f_X5_requireTrace 0 (nI c)).1 S = some (.inl c, S) := by
  have h30 := h.2.2.1.1.2.2
  refine ev_of ?_
  unfold f_X5_requireTrace
  refine w_t (by omega) (w_bx (x_reqCar h.1 h.2.2.1.1 hc) ?_)
  refine w_rfc (by omega) ?_
  exact w_t (by omega) (w_rtX ⟨rfl, rfl⟩)
theorem x_reqTrace0 (h : IN S Sm A T k) (h0 : a < 0 ∨ nI (kC A) ≤ a) : (f_X5_requireTrace 0 a).1 S = some (.inr "java/util/NoSuchElementException", thrS S) := by
  refine ev_of ?_
  unfold f_X5_requireTrace
  exact w_t (by omega) (w_bxr (x_reqCar0 h.1 h.2.2.1.1 h0) ⟨rfl, rfl⟩)
theorem mem_D {j : Nat} (hj : j < l.length) : l.getD j (0, 0) ∈ l := by
  have e : l.getD j (0, 0) = l[j] := by simp [List.getD, hj]
  rw [e]; exact List.getElem_mem hj
/-- how long a car's trace is -/
theorem m_tlen (hL : LG S1 l) (h5 : gI S1 5 0 0 = 0) (hb : ∀ p, p ∈ l → p.1 < 30) (hc : c < 30) : ∀ (m n j : Nat) (u : Nat), j + m = l.length → m < n → (f_X6_traceLength_L16 n (nI c) (nI u) (nI j)).1 S1 = some (nI (u + (lgc (l.drop j) c).length), S1) := by
  obtain ⟨l1, l2, l3, l4, l5⟩ := hL
  intro m
  induction m with
  | zero =>
    intro n j u hj hn
    obtain ⟨n, rfl⟩ : ∃ q, n = q + 1 := ⟨n - 1, by omega⟩
    rw [f_X6_traceLength_L16]
    refine ev_of ?_
    refine w_rdI ?_
    rw [l1, List.drop_eq_nil_of_le (by omega)]
    exact w_t (nI_le (by omega) (by omega)) (w_rtn ⟨rfl, rfl⟩)
  | succ m ih =>
    intro n j u hj hn
    obtain ⟨n, rfl⟩ : ∃ q, n = q + 1 := ⟨n - 1, by omega⟩
    have hjl : j < l.length := by omega
    have hb1 := hb _ (mem_D hjl)
    refine ev_of ?_
    rw [f_X6_traceLength_L16]
    refine w_rdI ?_
    rw [l1]
    refine w_n (nI_ge (by omega) (by omega)) ?_
    refine w_rdI ?_
    rw [h5]
    refine w_t rfl ?_
    refine w_rdN ?_
    refine w_mvL rfl (by omega) (by omega) ?_
    rw [(l5 j hjl).2.1, drop_c hjl, lgc_cons, nI_add1 (i := j)]
    by_cases hp : (l.getD j (0, 0)).1 = c
    · rw [if_pos hp]
      refine w_t (by rw [hp]) ?_
      refine w_ev (a := nI (u + 1)) (by rw [nI_add1]; rfl) ?_
      refine w_of (ih n (j + 1) (u + 1) (by omega) (by omega)) ⟨?_, rfl⟩
      rw [List.length_cons]; congr 1; omega
    · rw [if_neg hp]
      refine w_n (fun w => hp (nI_inj (by omega) (by omega) w)) ?_
      refine w_ev (a := nI u) (by rw [Int32.add_zero]; rfl) ?_
      exact w_of (ih n (j + 1) u (by omega) (by omega)) ⟨rfl, rfl⟩
theorem m_tl0 (n : Nat) (hn : 0 < n) : (f_X6_traceLength_L16 n a (-1) 0).1 (pI Sm 5 0 0 1) = some (-1, pI Sm 5 0 0 1) := by
  obtain ⟨n, rfl⟩ : ∃ q, n = q + 1 := ⟨n - 1, by omega⟩
  refine ev_of ?_
  rw [f_X6_traceLength_L16]
  refine w_rdI ?_
  refine w_if (fun _ => w_rtn ⟨rfl, rfl⟩) (fun _ => ?_)
  refine w_rdI ?_
  rw [g5s]
  exact w_n (by decide) (w_rtn ⟨rfl, rfl⟩)
theorem ag_traceLength (hi : i + 5 ≤ 2560) : agW INV i (f_X5_traceLength 0 a1) (f_X6_traceLength a1) (exCode [("java/util/NoSuchElementException", 1)]) ["java/util/NoSuchElementException"] (fun r q => r = q) := ag_ask (fun S Sm A T k hN => by
  have h30 := hN.2.2.1.1.2.2
  have hL := hN.lg
  have hlen : (aT A).length ≤ 1048576 := Nat.le_trans hL.2.1 hL.2.2.2.1
  rcases i32_cases a1 (kC A) hN.cd with h0 | ⟨c, hc, rfl⟩
  · refine Or.inr ⟨_, -1, pI Sm 5 0 0 1, ev_of ?_, ev_of ?_, List.mem_cons_self, TH.rf⟩
    · unfold f_X5_traceLength
      exact w_t (by omega) (w_bxr (x_reqTrace0 hN h0) ⟨rfl, rfl⟩)
    · unfold f_X6_traceLength
      refine w_ev (m_asked0 hN.2.1 hN.2.2.1.1 h0) ?_
      refine w_t rfl ?_
      exact w_of (m_tl0 2097152 (by omega)) ⟨rfl, rfl⟩
  · refine Or.inl ⟨nI (trc A c).length, nI (trc A c).length, pI Sm 5 0 0 0, ev_of ?_, ev_of ?_, TH.rf, rfl⟩
    · unfold f_X5_traceLength
      refine w_t (by omega) (w_bx (x_reqTrace hN hc) ?_)
      refine w_rdc (by omega) ?_
      rw [(hN.rt hc).1]
      exact w_rtX ⟨rfl, rfl⟩
    · unfold f_X6_traceLength
      refine w_ev (m_asked hN.2.1 hN.2.2.1.1 hc) ?_
      refine w_n (by decide) ?_
      have hz := m_tlen (hL.wr (v := 0)) g5s (fun p hp => by have := (hN.tc p hp).1; omega) (show c < 30 by omega) (aT A).length 2097152 0 0 (by omega) (by omega)
      rw [nI_00] at hz
      refine w_of hz ⟨?_, rfl⟩
      rw [Nat.zero_add, List.drop_zero, trc_lgc]) hi
/-- what stands in a trace at a place -/
theorem m_ta0 (hL : LG S1 l) (hb : ∀ p, p ∈ l → p.1 < 30) (hc : c < 30) : ∀ (m n j : Nat) (u : Nat), j + m = l.length → m < n → (∀ q, q < (lgc (l.drop j) c).length → a ≠ nI (u + q)) → (f_X6_traceAt_L16 n (nI c) a (nI u) (nI j)).1 S1 = some (32, pI S1 5 0 0 2) := by
  obtain ⟨l1, l2, l3, l4, l5⟩ := hL
  intro m
  induction m with
  | zero =>
    intro n j u hj hn hq
    obtain ⟨n, rfl⟩ : ∃ q, n = q + 1 := ⟨n - 1, by omega⟩
    rw [f_X6_traceAt_L16]
    refine ev_of ?_
    refine w_rdI ?_
    rw [l1]
    refine w_t (nI_le (by omega) (by omega)) ?_
    exact w_wrI (w_rtnC (by decide) ⟨rfl, rfl⟩)
  | succ m ih =>
    intro n j u hj hn hq
    obtain ⟨n, rfl⟩ : ∃ q, n = q + 1 := ⟨n - 1, by omega⟩
    have hjl : j < l.length := by omega
    have hb1 := hb _ (mem_D hjl)
    rw [drop_c hjl, lgc_cons] at hq
    refine ev_of ?_
    rw [f_X6_traceAt_L16]
    refine w_rdI ?_
    rw [l1]
    refine w_n (nI_ge (by omega) (by omega)) ?_
    refine w_rdN ?_
    refine w_mvL rfl (by omega) (by omega) ?_
    rw [(l5 j hjl).2.1, nI_add1 (i := j)]
    by_cases hp : (l.getD j (0, 0)).1 = c
    · rw [if_pos hp] at hq
      have h0 := hq 0 (by rw [List.length_cons]; omega)
      refine w_t (by rw [hp]) ?_
      refine w_n (fun w => h0 w.symm) ?_
      refine w_rdN ?_
      refine w_mvL rfl (by omega) (by omega) ?_
      rw [(l5 j hjl).2.1]
      refine w_t (by rw [hp]) ?_
      refine w_ev (a := nI (u + 1)) (by rw [nI_add1]; rfl) ?_
      refine w_of (ih n (j + 1) (u + 1) (by omega) (by omega) (fun q hq1 => ?_)) ⟨rfl, rfl⟩
      have := hq (q + 1) (by rw [List.length_cons]; omega)
      rwa [show u + 1 + q = u + (q + 1) by omega]
    · rw [if_neg hp] at hq
      refine w_n (fun w => hp (nI_inj (by omega) (by omega) w)) ?_
      refine w_rdN ?_
      refine w_mvL rfl (by omega) (by omega) ?_
      rw [(l5 j hjl).2.1]
      refine w_n (fun w => hp (nI_inj (by omega) (by omega) w)) ?_
      refine w_ev (a := nI u) (by rw [Int32.add_zero]; rfl) ?_
      exact w_of (ih n (j + 1) u (by omega) (by omega) hq) ⟨rfl, rfl⟩
theorem m_ta1 {q : Nat} (hL : LG S1 l) (hb : ∀ p, p ∈ l → p.1 < 30) (hc : c < 30) (hq9 : q < 2097152) : ∀ (m n j : Nat) (u d : Nat), j + m = l.length → m < n → u + d = q → d < (lgc (l.drop j) c).length → (f_X6_traceAt_L16 n (nI c) (nI q) (nI u) (nI j)).1 S1 = some ((lgc (l.drop j) c).getD d 0, S1) := by
  obtain ⟨l1, l2, l3, l4, l5⟩ := hL
  intro m
  induction m with
  | zero =>
    intro n j u d hj hn hq hd
    rw [List.drop_eq_nil_of_le (by omega)] at hd
    exact absurd hd (Nat.not_lt_zero _)
  | succ m ih =>
    intro n j u d hj hn hq hd
    obtain ⟨n, rfl⟩ : ∃ q, n = q + 1 := ⟨n - 1, by omega⟩
    have hjl : j < l.length := by omega
    have hb1 := hb _ (mem_D hjl)
    rw [drop_c hjl, lgc_cons] at hd ⊢
    refine ev_of ?_
    rw [f_X6_traceAt_L16]
    refine w_rdI ?_
    rw [l1]
    refine w_n (nI_ge (by omega) (by omega)) ?_
    refine w_rdN ?_
    refine w_mvL rfl (by omega) (by omega) ?_
    rw [(l5 j hjl).2.1, nI_add1 (i := j)]
    by_cases hp : (l.getD j (0, 0)).1 = c
    · rw [if_pos hp] at hd ⊢
      rw [List.length_cons] at hd
      refine w_t (by rw [hp]) ?_
      cases d with
      | zero =>
        refine w_t (by rw [show u = q by omega]) ?_
        refine w_rdN ?_
        refine w_mvL rfl (by omega) (by omega) ?_
        rw [(l5 j hjl).1]
        exact w_rtnC (l5 j hjl).2.2 ⟨rfl, rfl⟩
      | succ d =>
        refine w_n (fun w => by have := nI_inj (by omega) (by omega) w; omega) ?_
        refine w_rdN ?_
        refine w_mvL rfl (by omega) (by omega) ?_
        rw [(l5 j hjl).2.1]
        refine w_t (by rw [hp]) ?_
        refine w_ev (a := nI (u + 1)) (by rw [nI_add1]; rfl) ?_
        exact w_of (ih n (j + 1) (u + 1) d (by omega) (by omega) (by omega) (by omega)) ⟨rfl, rfl⟩
    · rw [if_neg hp] at hd ⊢
      refine w_n (fun w => hp (nI_inj (by omega) (by omega) w)) ?_
      refine w_rdN ?_
      refine w_mvL rfl (by omega) (by omega) ?_
      rw [(l5 j hjl).2.1]
      refine w_n (fun w => hp (nI_inj (by omega) (by omega) w)) ?_
      refine w_ev (a := nI u) (by rw [Int32.add_zero]; rfl) ?_
      exact w_of (ih n (j + 1) u d (by omega) (by omega) hq hd) ⟨rfl, rfl⟩
theorem ag_traceAt (hi : i + 5 ≤ 2560) : agW INV i (f_X5_traceAt 0 a1 a2) (f_X6_traceAt a1 a2) (exCode [("java/util/NoSuchElementException", 1), ("java/lang/IndexOutOfBoundsException", 2)]) ["java/util/NoSuchElementException", "java/lang/IndexOutOfBoundsException"] (fun r q => r = q) := ag_ask (fun S Sm A T k hN => by
  have h30 := hN.2.2.1.1.2.2
  have hL := hN.lg
  have hlen : (aT A).length ≤ 1048576 := Nat.le_trans hL.2.1 hL.2.2.2.1
  rcases i32_cases a1 (kC A) hN.cd with h0 | ⟨c, hc, rfl⟩
  · refine Or.inr ⟨_, 32, pI Sm 5 0 0 1, ev_of ?_, ev_of ?_, List.mem_cons_self, TH.rf⟩
    · unfold f_X5_traceAt
      exact w_t (by omega) (w_bxr (x_reqTrace0 hN h0) ⟨rfl, rfl⟩)
    · unfold f_X6_traceAt
      refine w_ev (m_asked0 hN.2.1 hN.2.2.1.1 h0) ?_
      exact w_t rfl (w_rtnC (by decide) ⟨rfl, rfl⟩)
  · obtain ⟨r1, r2, ⟨kk, r3, r3'⟩, r4, r5⟩ := hN.rt hc
    have hpw := Nat.pow_le_pow_right (n := 2) (by omega) r3
    have hln : (trc A c).length ≤ 1048576 := Nat.le_trans (lgc_len _ _) hlen
    have hbb : ∀ p, p ∈ aT A → p.1 < 30 := fun p hp => by have := (hN.tc p hp).1; omega
    rcases i32_cases a2 (trc A c).length (by omega) with h0 | ⟨q, hq, rfl⟩
    · refine Or.inr ⟨_, 32, pI Sm 5 0 0 2, ev_of ?_, ev_of ?_, List.mem_cons_of_mem _ List.mem_cons_self, TH.rf⟩
      · unfold f_X5_traceAt
        refine w_t (by omega) (w_bx (x_reqTrace hN hc) ?_)
        refine w_t (by omega) ?_
        refine w_ev (S1 := S) (a := (0 : Int32)) (ev_of ?_) (w_t rfl (w_thr ⟨rfl, rfl⟩))
        unfold f_X4_has
        refine w_if (fun _ => w_rtnZ (Or.inl rfl) ⟨rfl, rfl⟩) (fun hn => ?_)
        refine w_rdc (by omega) ?_
        rw [r1]
        exact w_t (h0.resolve_left hn) (w_rtnZ (Or.inl rfl) ⟨rfl, rfl⟩)
      · unfold f_X6_traceAt
        refine w_ev (m_asked hN.2.1 hN.2.2.1.1 hc) ?_
        refine w_n (by decide) ?_
        have hz := m_ta0 (a := a2) (hL.wr (v := 0)) hbb (show c < 30 by omega) (aT A).length 2097152 0 0 (by omega) (by omega) (fun q hq w => by
          rw [List.drop_zero, ← trc_lgc] at hq
          rw [w, Nat.zero_add] at h0
          rcases h0 with h | h
          · exact nI_pos (by omega) h
          · exact nI_ge (by omega) (by omega) h)
        rw [nI_00, pI_pI] at hz
        exact w_of hz ⟨rfl, rfl⟩
    · refine Or.inl ⟨(trc A c).getD q 0, (trc A c).getD q 0, pI Sm 5 0 0 0, ev_of ?_, ev_of ?_, TH.rf, rfl⟩
      · unfold f_X5_traceAt
        refine w_t (by omega) (w_bx (x_reqTrace hN hc) ?_)
        refine w_t (by omega) ?_
        have hh : (f_X4_has c (nI q)).1 S = some (1, S) := by
          refine ev_of ?_
          unfold f_X4_has
          refine w_n (nI_pos (by omega)) ?_
          refine w_rdc (by omega) ?_
          rw [r1]
          refine w_n (nI_ge (by omega) (by omega)) ?_
          rw [if_pos (show c < 30 by omega)]
          refine w_rdN ?_
          refine w_sgN (by omega) rfl ?_
          exact w_n (nI_ge (by omega) (by omega)) (w_rtnZ (Or.inr rfl) ⟨rfl, rfl⟩)
        refine w_ev hh ?_
        refine w_n (by decide) ?_
        refine w_t (by omega) ?_
        refine w_ev (S1 := S) (a := (trc A c).getD q 0) (ev_of ?_) (w_rtCX (r4 q hq).2 ⟨rfl, rfl⟩)
        unfold f_X4_signAt
        refine w_t (by omega) ?_
        refine w_ev hh ?_
        refine w_n (by decide) ?_
        rw [if_pos (show c < 30 by omega)]
        refine w_rdN ?_
        refine w_sgL (by omega) rfl (by omega) (by omega) ?_
        rw [(r4 q hq).1]
        exact w_rtnC (r4 q hq).2 ⟨rfl, rfl⟩
      · unfold f_X6_traceAt
        refine w_ev (m_asked hN.2.1 hN.2.2.1.1 hc) ?_
        refine w_n (by decide) ?_
        have hz := m_ta1 (hL.wr (v := 0)) hbb (show c < 30 by omega) (show q < 2097152 by omega) (aT A).length 2097152 0 0 q (by omega) (by omega) (by omega) (by rw [List.drop_zero, ← trc_lgc]; exact hq)
        rw [nI_00, List.drop_zero, ← trc_lgc] at hz
        exact w_of hz ⟨rfl, rfl⟩) hi
end LOGS
