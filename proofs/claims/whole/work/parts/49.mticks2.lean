/-! part 49: the reference's tick as a whole -/
section MT3
variable {q c s x : Nat} {S0 S S1 : St} {A B : AS} {v b : Int32}
theorem e_mlow (m : Int32) : ∀ (k n j : Nat), low m < 8 → j + k = low m → k < n → (∀ i, i < j → bit m (nI i) = 0) → (f_X6_lowest_L2 n m (nI j)).1 S = some (nI (low m), S) := by
  intro k
  induction k with
  | zero =>
    intro n j h8 hj hn hz
    obtain ⟨n, rfl⟩ : ∃ k, n = k + 1 := ⟨n - 1, by omega⟩
    refine ev_of ?_
    rw [f_X6_lowest_L2]
    have hb : bit m (nI j) ≠ 0 := fun w => by
      have := low_ge m (j + 1) (by omega) (fun i hi => by
        by_cases e : i = j
        · subst e; exact w
        · exact hz i (by omega))
      omega
    refine w_n hb (w_rtn ⟨by rw [show j = low m by omega], rfl⟩)
  | succ k ih =>
    intro n j h8 hj hn hz
    obtain ⟨n, rfl⟩ : ∃ k, n = k + 1 := ⟨n - 1, by omega⟩
    refine ev_of ?_
    rw [f_X6_lowest_L2]
    have hb : bit m (nI j) = 0 := Classical.byContradiction fun w => by
      have := low_eq m j (by omega) hz w
      omega
    refine w_t hb ?_
    rw [nI_1]
    exact w_of (ih n (j + 1) h8 (by omega) (by omega) (fun i hi => by
      by_cases e : i = j
      · subst e; exact hb
      · exact hz i (by omega))) ⟨rfl, rfl⟩
theorem e_lowestM (m : Int32) (h : low m < 8) : (f_X6_lowest m).1 S = some (nI (low m), S) := e_mlow m (low m) 400 0 h (by omega) (by omega) (fun i hi => by omega)
theorem w_mback {B : Nat} (hq : q < 2) (hB : B ≤ 32000) : ∀ (td st : List Nat) (n : Nat) (A : AS) (S : St) (all : Nat), MB q S0 S A → JA A → aI A 2 0 ≠ 0 → aO A = st ++ td → TB B 0 A → td.length < n → all ≤ 30 → st.length + td.length ≤ all → (∀ j, j < st.length → nw S (172 + j) = nI (st.getD j 0)) → (∀ j, j < td.length → nw S (172 + ((all - td.length) + j)) = nI (td.getD j 0)) →
    wp (f_X6_comesBack_L13 n (nI st.length) (nI all) (nI (all - td.length))) S (fun _ S1 => MS q S0 S1 (aBack A st td)) := by
  intro td
  induction td with
  | nil =>
    intro st n A S all h hJ hT hO hTB hn h30 hle hst htd
    obtain ⟨n, rfl⟩ : ∃ k, n = k + 1 := ⟨n - 1, by omega⟩
    have hO : aO A = st := by rw [hO, List.append_nil]
    have hle : st.length ≤ all := by simpa using hle
    rw [f_X6_comesBack_L13]
    refine w_t (nI_le (by simp) (by simp; omega)) ?_
    refine w_mstx (j := 234) rfl (by omega) (by omega) ?_
    refine w_rtn ⟨h.n (RM0.free h.1 hJ.1 (by omega)) (fun _ _ _ => rfl) (fun _ w => w) rfl rfl (MFx.no (by omega) (fun _ => rfl) (fun _ => rfl)), ?_⟩
    rw [aBack, hO, nw_pI]
    refine ⟨by omega, by dsimp only; rw [if_pos rfl], fun k hk => ?_⟩
    dsimp only
    rw [if_neg (by omega)]
    exact hst k hk
  | cons c r ih =>
    intro st n A S all h hJ hT hO hTB hn h30 hle hst htd
    obtain ⟨n, rfl⟩ : ∃ k, n = k + 1 := ⟨n - 1, by omega⟩
    have hk30 := hJ.1.2.2
    have h8 := hJ.1.1.2
    have hlen : (c :: r).length = r.length + 1 := List.length_cons
    obtain ⟨k1, k2, k3⟩ := J_offO hJ hO
    have hlow := low_lt hJ k2 k3
    have htd0 := htd 0 (by omega)
    have e0 : (c :: r).getD 0 0 = c := rfl
    rw [e0, Nat.add_zero] at htd0
    rw [f_X6_comesBack_L13]
    refine w_n (nI_ge (by omega) (by omega)) ?_
    refine w_mldx (j := 172 + (all - (c :: r).length)) (nI_add 172 _) (by omega) (by omega) ?_
    rw [show gI S 20 0 (172 + (all - (c :: r).length)) = nI c from htd0]
    refine w_mldx (j := 112 + c) (nI_add 112 c) (by omega) (by omega) ?_
    rw [show gI S 20 0 (112 + c) = aI A 19 c from h.1.2.2.2.2.2.2.2.1 c k2]
    refine w_ev (e_lowestM _ (by omega)) ?_
    refine w_mldx (j := 14 + low (aI A 19 c)) (nI_add 14 _) (by omega) (by omega) ?_
    rw [show gI S 20 0 (14 + low (aI A 19 c)) = aI A 12 (low (aI A 19 c)) from h.1.2.2.2.2.2.1 _ hlow]
    rw [aBack, nI_1, show all - (c :: r).length + 1 = all - r.length by omega]
    by_cases hf : aI A 12 (low (aI A 19 c)) = -1
    · refine w_t hf ?_
      rw [if_pos hf]
      have hc1 := hJ.2.2.2.2.1 c k2
      have hent := hc1.2.2.2.2.2.2.2 (by rw [k3]; decide)
      have h2 : MB q S0 S (sO A (st ++ r)) := h.abs (h.1.cg (fun _ _ _ _ _ => rfl) rfl rfl) (fun _ _ _ => rfl) (fun w y hy hz => ((h.2.2.1 w).2.1 y hy).2.2 hz) rfl rfl (fun _ => rfl) (fun _ => rfl)
      have hlog : (aT A).length + 1 < 1048576 := hTB.log hJ hB
      refine w_call (w_enters (b := 1) hq k1.1 h2 k2 hlow (Or.inr rfl) hlog (fun _ => ⟨fun w => absurd w hent.1, fun w => absurd w.2 hent.2⟩)) (fun _ S3 h3 => ?_)
      have hJ3 := J_enter (s := low (aI A 19 c)) (b := 1) k1 k2 hlow hf (Or.inr rfl) hT
      refine ih st n _ S3 all h3.1 hJ3 (by rw [aEnter_o (by omega)]; exact hT) (by rw [aEnter_R.2.1]; rfl) (TB_enter hTB k2 ((hTB c k2).2.2.1 k3) (fun _ => rfl) rfl (fun _ => rfl)) (by omega) h30 (by omega) (fun j hj => by rw [h3.2 _ (by omega)]; exact hst j hj) (fun j hj => ?_)
      rw [h3.2 _ (by omega)]
      have := htd (j + 1) (by omega)
      rw [show all - (c :: r).length + (j + 1) = all - r.length + j by omega] at this
      rw [this]
      rfl
    · refine w_n hf ?_
      rw [if_neg hf]
      refine w_mstx (j := 172 + st.length) (nI_add 172 _) (by omega) (by omega) ?_
      have h2 : MB q S0 (pI S 20 0 (172 + st.length) (nI c)) A := h.n (RM0.free h.1 hJ.1 (by omega)) (fun _ _ _ => rfl) (fun _ w => w) rfl rfl (MFx.no (by omega) (fun _ => rfl) (fun _ => rfl))
      have := ih (st ++ [c]) n A _ all h2 hJ hT (by rw [hO]; simp) hTB (by omega) h30 (by rw [List.length_append]; simp; omega) (fun j hj => ?_) (fun j hj => ?_)
      · rw [List.length_append] at this
        rw [nI_1]
        exact this
      · rw [List.length_append] at hj
        have hj : j < st.length + 1 := hj
        rw [nw_pI]; dsimp only
        by_cases e : j = st.length
        · subst e; rw [if_pos rfl]; simp
        · rw [if_neg (by omega)]
          have : (st ++ [c]).getD j 0 = st.getD j 0 := by simp [List.getD, List.getElem?_append_left (show j < st.length by omega)]
          rw [this]; exact hst j (by omega)
      · rw [nw_pI]; dsimp only
        rw [if_neg (by omega)]
        have := htd (j + 1) (by omega)
        rw [show all - (c :: r).length + (j + 1) = all - r.length + j by omega] at this
        rw [this]
        rfl
def shM (S : St) (k : Nat) : St := (fun a b y => if a = 20 ∧ b = 0 ∧ 142 ≤ y ∧ y < 142 + k then S.1 20 0 (y + 1) else S.1 a b y, S.2)
theorem gI_shM {k a b y : Nat} : gI (shM S k) a b y = if a = 20 ∧ b = 0 ∧ 142 ≤ y ∧ y < 142 + k then gI S 20 0 (y + 1) else gI S a b y := rfl
theorem w_L159 {Q : Unit → St → Prop} {L : Nat} (hL : L ≤ 30) (h233 : gI S 20 0 233 = nI L) (hk : wp (f_X6_enters (nI c) (0 : Int32) (0 : Int32)) (shM S L) Q) : ∀ (m n k : Nat), k + m = L → m < n → wp (f_X6_ticks_L159 n (nI c) (nI k)) (shM S k) Q := by
  intro m
  induction m with
  | zero =>
    intro n k hkm hn
    obtain ⟨n, rfl⟩ : ∃ k, n = k + 1 := ⟨n - 1, by omega⟩
    have hkm : k = L := by omega
    subst hkm
    rw [f_X6_ticks_L159]
    refine w_mldx (j := 233) rfl (by omega) (by omega) ?_
    have e : gI (shM S k) 20 0 233 = nI k := by rw [gI_shM, if_neg (by omega)]; exact h233
    rw [e]
    refine w_t (nI_le (Nat.le_refl _) (by omega)) ?_
    exact w_call hk (fun _ _ h => w_rtn h)
  | succ m ih =>
    intro n k hkm hn
    obtain ⟨n, rfl⟩ : ∃ k, n = k + 1 := ⟨n - 1, by omega⟩
    rw [f_X6_ticks_L159]
    refine w_mldx (j := 233) rfl (by omega) (by omega) ?_
    have e : gI (shM S k) 20 0 233 = nI L := by rw [gI_shM, if_neg (by omega)]; exact h233
    rw [e]
    refine w_n (nI_ge (by omega) (by omega)) ?_
    refine w_mldx (j := 142 + k + 1) (by rw [show (142 : Int32) + nI k = nI (142 + k) from nI_add 142 k, nI_1]) (by omega) (by omega) ?_
    refine w_mstx (j := 142 + k) (nI_add 142 k) (by omega) (by omega) ?_
    have e2 : pI (shM S k) 20 0 (142 + k) (gI (shM S k) 20 0 (142 + k + 1)) = shM S (k + 1) := by
      refine Prod.ext ?_ rfl
      funext a b y
      show (if a = 20 ∧ b = 0 ∧ y = 142 + k then gI (shM S k) 20 0 (142 + k + 1) else (if a = 20 ∧ b = 0 ∧ 142 ≤ y ∧ y < 142 + k then S.1 20 0 (y + 1) else S.1 a b y)) = (if a = 20 ∧ b = 0 ∧ 142 ≤ y ∧ y < 142 + (k + 1) then S.1 20 0 (y + 1) else S.1 a b y)
      by_cases h1 : a = 20 ∧ b = 0 ∧ y = 142 + k
      · rw [if_pos h1, if_pos ⟨h1.1, h1.2.1, by omega, by omega⟩, gI_shM, if_neg (by omega), h1.2.2]; rfl
      · rw [if_neg h1]
        by_cases h2 : a = 20 ∧ b = 0 ∧ 142 ≤ y ∧ y < 142 + k
        · rw [if_pos h2, if_pos ⟨h2.1, h2.2.1, h2.2.2.1, by omega⟩]
        · rw [if_neg h2, if_neg (by omega)]
    rw [e2, nI_1]
    exact ih n (k + 1) (by omega) (by omega)
/-- the first of the waiting is taken out, the others come one nearer -/
theorem MB.shift {r : List Nat} (h : MB q S0 S A) (hI : IA A) (hW : aW A = c :: r) : MB q S0 (shM (pI S 20 0 233 (nI r.length)) r.length) (sW A r) := by
  have h8 := hI.1.2
  have h30 := hI.2.2
  obtain ⟨⟨a1, a2, a3, h1, h2, h3, h4, h5, h6, h7, h9, h10⟩, hq3, hX, hF, hU⟩ := h
  have hlen : (aW A).length = r.length + 1 := by rw [hW]; rfl
  have hl30 := h9.1
  have o : ∀ f i j, f ≠ 20 → gI (shM (pI S 20 0 233 (nI r.length)) r.length) f i j = gI S f i j := fun f i j w => by rw [gI_shM, if_neg (fun z => w z.1), gI_pI, if_neg (fun z => w z.1)]
  have on : ∀ y, (y < 142 ∨ 142 + r.length ≤ y) → y ≠ 233 → nw (shM (pI S 20 0 233 (nI r.length)) r.length) y = nw S y := fun y w z => by
    show gI _ 20 0 y = _
    rw [gI_shM, if_neg (by omega), gI_pI, if_neg (by omega)]
  refine ⟨⟨⟨by rw [o _ _ _ (by omega)]; exact a1.1, by rw [o _ _ _ (by omega)]; exact a1.2.1, by rw [o _ _ _ (by omega)]; exact a1.2.2⟩, fun s hs => ?_, fun c hc => ?_, fun y hy => ?_, fun y hy => ?_, fun y hy => ?_, fun y hy => ?_, fun y hy => ?_, fun y hy w => ?_, ?_, ⟨?_, ?_, fun k hk => ?_⟩, ⟨h10.1, ?_, fun k hk => ?_⟩⟩, by rw [o _ _ _ (by omega)]; exact hq3, fun w => ?_, fun w => ?_, fun w => ⟨fun y hy => ⟨by rw [o _ _ _ (by omega)]; exact ((hU w).1 y hy).1, by rw [on _ (by omega) (by omega)]; exact ((hU w).1 y hy).2⟩, fun y hy => ⟨by rw [o _ _ _ (by omega)]; exact ((hU w).2 y hy).1, by rw [o _ _ _ (by omega)]; exact ((hU w).2 y hy).2.1, by rw [on _ (by omega) (by omega)]; exact ((hU w).2 y hy).2.2⟩⟩⟩
  · have hs : s < kS A := hs
    rw [o _ _ _ (by omega), o _ _ _ (by omega), o _ _ _ (by omega), o _ _ _ (by omega)]; exact a2 s hs
  · have hc : c < kC A := hc
    rw [o _ _ _ (by omega)]; exact a3 c hc
  · rw [on y (by omega) (by omega)]; exact h1 y hy
  · have hy : y < kS A := hy
    rw [on _ (by omega) (by omega)]; exact h2 y hy
  · have hy : y < kS A := hy
    rw [on _ (by omega) (by omega)]; exact h3 y hy
  · have hy : y < kC A := hy
    rw [on _ (by omega) (by omega)]; exact h4 y hy
  · have hy : y < kC A := hy
    rw [on _ (by omega) (by omega)]; exact h5 y hy
  · have hy : y < kC A := hy
    rw [on _ (by omega) (by omega), on _ (by omega) (by omega)]; exact h6 y hy w
  · rw [on _ (by omega) (by omega)]; exact h7
  · show r.length ≤ 30; omega
  · show gI _ 20 0 233 = nI r.length
    rw [gI_shM, if_neg (by omega), gI_pI, if_pos ⟨rfl, rfl, rfl⟩]
  · have hk : k < r.length := hk
    show gI _ 20 0 (142 + k) = nI (r.getD k 0)
    rw [gI_shM, if_pos ⟨rfl, rfl, by omega, by omega⟩, gI_pI, if_neg (by omega)]
    have := h9.2.2 (k + 1) (by omega)
    rw [hW] at this
    exact this
  · rw [on _ (by omega) (by omega)]; exact h10.2.1
  · have hk' := h10.1
    have hk : k < (aG A).length := hk
    rw [on _ (by omega) (by omega)]; exact h10.2.2 k hk
  · obtain ⟨x1, x2, x3, t1, t2, t3, t4, t5, t6, t7⟩ := hX w
    exact ⟨fun s hs => by rw [o _ _ _ (by omega)]; exact x1 s hs, fun c hc => by rw [o _ _ _ (by omega), o _ _ _ (by omega), o _ _ _ (by omega)]; exact x2 c hc, x3, by rw [o _ _ _ (by omega)]; exact t1, t2, t3, t4, fun k hk => by rw [o _ _ _ (by omega), o _ _ _ (by omega)]; exact t5 k hk, t6, t7⟩
  · obtain ⟨f1, f2, f3⟩ := hF w
    exact ⟨fun f i j w => (o f i j w).trans (f1 f i j w), f2, f3⟩
theorem w_mmoves {B : Nat} (hq : q < 2) (hB : B ≤ 32000) : ∀ (m n : Nat) (A : AS) (S : St), MS q S0 S A → JA A → aI A 2 0 ≠ 0 → m ≤ kS A → TB B m A → m < n →
    wp (f_X6_ticks_L95 n (nI m - 1)) S (fun _ S1 => MS q S0 S1 (aWait (aBack (aMoves A m) [] (aO (aMoves A m))))) := by
  intro m
  induction m with
  | zero =>
    intro n A S h hJ hT hm hTB hn
    obtain ⟨n, rfl⟩ : ∃ k, n = k + 1 := ⟨n - 1, by omega⟩
    have hk30 := hJ.1.2.2
    have h8 := hJ.1.1.2
    rw [f_X6_ticks_L95]
    refine w_t (by decide) ?_
    have hb : wp (f_X6_comesBack) S (fun _ S1 => MS q S0 S1 (aBack A [] (aO A))) := by
      unfold f_X6_comesBack
      refine w_mldx (j := 234) rfl (by omega) (by omega) ?_
      rw [show gI S 20 0 234 = nI (aO A).length from h.2.2.1]
      have := w_mback hq hB (aO A) [] 400 A S (aO A).length h.1 hJ hT rfl hTB (by have := h.2.1; omega) h.2.1 (by simp) (fun j hj => by simp at hj) (fun j hj => by rw [Nat.sub_self, Nat.zero_add]; exact h.2.2.2 j hj)
      rw [Nat.sub_self] at this
      exact this
    refine w_call hb (fun _ S1 h1 => ?_)
    obtain ⟨j1, j2⟩ := J_back (aO A) [] A hJ hT rfl
    have b1 := TB_back (aO A) [] A hJ hT rfl hTB
    have hT1 : aI (aBack A [] (aO A)) 2 0 ≠ 0 := by rw [j2 2 0 (by omega)]; exact hT
    show wp _ S1 (fun _ S1 => MS q S0 S1 (aWait (aBack A [] (aO A))))
    generalize aBack A [] (aO A) = A1 at h1 j1 b1 hT1
    have nW := h1.1.1.2.2.2.2.2.2.2.2.2.2.1
    have kb30 := j1.1.2.2
    refine w_mldx (j := 233) rfl (by omega) (by omega) ?_
    rw [show gI S1 20 0 233 = nI (aW A1).length from nW.2.1]
    unfold aWait
    cases hW : aW A1 with
    | nil =>
      refine w_t (by decide) (w_rtn h1)
    | cons c r =>
      obtain ⟨k1, k2, k3⟩ := J_offW j1 hW
      have hS0 : 0 < kS A1 := Nat.pos_of_ne_zero fun w => by
        have := j1.2.2.2.2.2.2.2.1 w
        omega
      have hl30 : (aW A1).length ≤ 30 := nW.1
      rw [hW] at hl30
      have hlen : (c :: r).length = r.length + 1 := List.length_cons
      refine w_n (by rw [show (0 : Int32) = nI 0 from rfl]; exact nI_ge (by omega) (by omega)) ?_
      refine w_mldx (j := 14) rfl (by omega) (by omega) ?_
      rw [show gI S1 20 0 14 = aI A1 12 0 from h1.1.1.2.2.2.2.2.1 0 hS0]
      dsimp only
      by_cases hf : aI A1 12 0 = -1
      · refine w_t hf ?_
        rw [if_pos hf]
        refine w_mldx (j := 142) rfl (by omega) (by omega) ?_
        have e142 : gI S1 20 0 142 = nI c := by
          have := nW.2.2 0 (by rw [hW]; omega)
          rw [hW] at this
          exact this
        rw [e142]
        refine w_mldx (j := 233) rfl (by omega) (by omega) ?_
        rw [show gI S1 20 0 233 = nI (aW A1).length from nW.2.1, hW, hlen, nI_sub1 (by omega), Nat.add_sub_cancel]
        refine w_mstx (j := 233) rfl (by omega) (by omega) ?_
        have hsh := h1.1.shift j1.1 hW
        have hc1 := (j1.2.2.2.2.1 c k2).2.2.2.2.2.2.1 k3
        have hlog : (aT A1).length + 1 < 1048576 := b1.log j1 hB
        have fin : wp (f_X6_enters (nI c) (0 : Int32) (0 : Int32)) (shM (pI S1 20 0 233 (nI r.length)) r.length) (fun _ S1 => MS q S0 S1 (aEnter (sW A1 r) c 0 0)) := by
          refine w_mono (w_enters (b := 0) (s := 0) hq k1.1 hsh k2 hS0 (Or.inl rfl) hlog (fun _ => ⟨fun _ => ⟨rfl, hc1.2⟩, fun _ => hc1.1⟩)) (fun _ S3 h3 => ⟨h3.1, ?_⟩)
          rw [aEnter_R.2.1]
          refine NR.lf (n := nw S1) h1.2 (fun j hj => ?_)
          rw [h3.2 j hj]
          show gI _ 20 0 j = gI S1 20 0 j
          rw [gI_shM, if_neg (by omega), gI_pI, if_neg (by omega)]
        have e0 : shM (pI S1 20 0 233 (nI r.length)) 0 = pI S1 20 0 233 (nI r.length) := by
          refine Prod.ext ?_ rfl
          funext a b y
          show (if a = 20 ∧ b = 0 ∧ 142 ≤ y ∧ y < 142 + 0 then _ else _) = _
          rw [if_neg (by omega)]
        have := w_L159 (S := pI S1 20 0 233 (nI r.length)) (c := c) (L := r.length) (by omega) (by rw [gI_pI, if_pos ⟨rfl, rfl, rfl⟩]) fin r.length 400 0 (by omega) (by omega)
        rw [e0] at this
        exact this
      · refine w_n hf ?_
        rw [if_neg hf]
        exact w_rtn h1
  | succ m ih =>
    intro n A S h hJ hT hm hTB hn
    obtain ⟨n, rfl⟩ : ∃ k, n = k + 1 := ⟨n - 1, by omega⟩
    have h8 := hJ.1.1.2
    rw [f_X6_ticks_L95, nI_sub1 (by omega), Nat.add_sub_cancel]
    refine w_n (nI_pos (by omega)) ?_
    refine w_call (w_goesOn hq h hJ (by omega) (hTB.log hJ hB)) (fun _ S1 h1 => ?_)
    rw [aMoves]
    have := ih n (aMove A m) S1 h1 (J_move hJ (by omega) hT) (by rw [move_lo (by omega)]; exact hT) (by rw [kS_move]; omega) (TB_move hJ (by omega) hTB) (by omega)
    rw [show nI m + (-1 : Int32) = nI m - 1 from (Int32.sub_eq_add_neg ..).symm]
    exact this
theorem w_mcnts {B : Nat} (hq : q < 2) (hB : B ≤ 32000) : ∀ (m n s : Nat) (A : AS) (S : St), MS q S0 S A → JA A → aI A 2 0 ≠ 0 → TB B (kS A) A → s + m = kS A → m < n →
    wp (f_X6_ticks_L34 n (nI s)) S (fun _ S1 => MS q S0 S1 (aWait (aBack (aMoves (aCnts A 1 s m) (kS A)) [] (aO (aMoves (aCnts A 1 s m) (kS A)))))) := by
  intro m
  induction m with
  | zero =>
    intro n s A S h hJ hT hTB hm hn
    obtain ⟨n, rfl⟩ : ∃ k, n = k + 1 := ⟨n - 1, by omega⟩
    have h8 := hJ.1.1.2
    rw [f_X6_ticks_L34]
    refine w_rdI ?_
    rw [h.1.1.1.1, hJ.1.1.1]
    refine w_t (nI_le (by omega) (by omega)) ?_
    refine w_rdI ?_
    refine w_ret ?_
    rw [h.1.1.1.1, hJ.1.1.1]
    exact w_mmoves hq hB (kS A) 400 A S h hJ hT (Nat.le_refl _) hTB (by omega)
  | succ m ih =>
    intro n s A S h hJ hT hTB hm hn
    obtain ⟨n, rfl⟩ : ∃ k, n = k + 1 := ⟨n - 1, by omega⟩
    have h8 := hJ.1.1.2
    have h30 := hJ.1.2.2
    have hs : s < kS A := by omega
    rw [f_X6_ticks_L34, aCnts]
    refine w_rdI ?_
    rw [h.1.1.1.1, hJ.1.1.1]
    refine w_n (nI_ge hs (by omega)) ?_
    refine w_mldx (j := 14 + s) (nI_add 14 s) (by omega) (by omega) ?_
    rw [show gI S 20 0 (14 + s) = aI A 12 s from h.1.1.2.2.2.2.2.1 s hs, nI_1]
    have kSc : kS (aCnt A 1 s) = kS A := kS_cnt
    have jC : JA (aCnt A 1 s) := J_cnt (e := 1) hJ hs (by omega)
    have tC : aI (aCnt A 1 s) 2 0 ≠ 0 := by
      unfold aCnt
      split
      · exact hT
      · rw [aI_sI, if_neg (by omega)]; exact hT
    have bC : TB B (kS A) (aCnt A 1 s) := TB_cnts (e := 1) 1 s A hTB
    have go : ∀ S1, MS q S0 S1 (aCnt A 1 s) → wp (f_X6_ticks_L34 n (nI (s + 1))) S1 (fun _ S1 => MS q S0 S1 (aWait (aBack (aMoves (aCnts (aCnt A 1 s) 1 (s + 1) m) (kS A)) [] (aO (aMoves (aCnts (aCnt A 1 s) 1 (s + 1) m) (kS A)))))) := fun S1 h1 => by
      have := ih n (s + 1) (aCnt A 1 s) S1 h1 jC tC (by rw [kSc]; exact bC) (by rw [kSc]; omega) (by omega)
      rw [kSc] at this
      exact this
    by_cases hn1 : aI A 12 s = -1
    · refine w_t hn1 ?_
      exact go S (by unfold aCnt; rw [if_pos hn1]; exact h)
    refine w_n hn1 ?_
    obtain ⟨p1, p2, p3, p4, p5⟩ := (hJ.2.1 s hs).resolve_left hn1
    obtain ⟨-, -, -, c18, ⟨g, gg1, gg2⟩, -⟩ := hJ.2.2.2.2.1 _ p2
    obtain ⟨t1, t2⟩ := h.1.1.2.2.2.2.2.2.2.2.1 _ p2 p4
    have e17 : gI S 20 0 (22 + atC A s) = nI g := t1.trans gg2
    have ec : aCnt A 1 s = sI A 17 (atC A s) (nI (g - 1)) := by
      unfold aCnt
      rw [if_neg hn1, gg2, show (1 : Int32) = nI 1 from rfl, togo_ok g gg1 1 (by omega)]
    have ei : (22 : Int32) + aI A 12 s = nI (22 + atC A s) := by
      have := nI_add 22 (atC A s)
      rw [← p1] at this
      exact this
    refine w_mldx (j := 22 + atC A s) ei (by omega) (by omega) ?_
    rw [e17]
    by_cases hg : g = 0
    · subst hg
      refine w_t (by decide) ?_
      refine go S ?_
      rw [ec, show nI (0 - 1) = aI A 17 (atC A s) from gg2.symm, sI_self]
      exact h
    · refine w_n (by rw [show (0 : Int32) = nI 0 from rfl]; exact nI_ge (by omega) (by omega)) ?_
      refine w_mldx (j := 22 + atC A s) ei (by omega) (by omega) ?_
      rw [e17, nI_sub1 (by omega)]
      refine w_mstx (j := 22 + atC A s) ei (by omega) (by omega) ?_
      refine go _ ?_
      rw [ec]
      exact ⟨h.1.n (h.1.1.togo hJ.1 (by omega)) (fun f hf i => by rw [aI_sI, if_neg (by omega)]) (fun y w => by rw [aI_sI, if_neg (by omega)] at w; exact w) rfl rfl (MFx.no (by omega) (fun i => by rw [aI_sI, if_neg (by omega)]) (fun i => by rw [aI_sI, if_neg (by omega)])), by rw [nw_pI]; exact h.2.up (by omega) (by omega)⟩
theorem w_ticks {T B : Nat} (hq : q < 2) (h : MS q S0 S A) (hJ : JA A) (hT : aI A 2 0 = nI T) (hT1 : T < 20000) (hB : ∀ c, c < kC A → (trc A c).length ≤ B) (hB1 : B ≤ 32000) : wp (f_X6_ticks) S (fun _ S1 => MS q S0 S1 (aTick A)) := by
  obtain ⟨p, p1, p2, p3⟩ := hJ.2.2.2.2.2.2.1.2
  have h8 := hJ.1.1.2
  have h30 := hJ.1.2.2
  have t0 : TB B (kS A) A := fun c hc => ⟨by have := hB c hc; omega, fun _ => hB c hc, fun _ => by have := hB c hc; omega, fun _ _ _ _ => hB c hc⟩
  obtain ⟨r1, r2, r3⟩ := J_rnd hJ hT hT1
  have rb := TB_rnd (B := B) (n := kS A) t0
  have fin : aTick A = aWait (aBack (aMoves (aCnts (aRnd A) 1 0 (kS A)) (kS A)) [] (aO (aMoves (aCnts (aRnd A) 1 0 (kS A)) (kS A)))) := rfl
  have e232 : gI S 20 0 232 = aI A 2 0 := h.1.1.2.2.2.2.2.2.2.2.2.1
  have h1 : MS q S0 (pI S 20 0 232 (aI A 2 0 + 1)) (sI A 2 0 (aI A 2 0 + 1)) := ⟨h.1.n (h.1.1.time hJ.1) (fun f hf i => by rw [aI_sI, if_neg (by omega)]) (fun y w => by rw [aI_sI, if_neg (by omega)] at w; exact w) rfl rfl (MFx.no (by omega) (fun i => by rw [aI_sI, if_neg (by omega)]) (fun i => by rw [aI_sI, if_neg (by omega)])), by rw [nw_pI]; exact h.2.up (by omega) (by omega)⟩
  unfold f_X6_ticks
  refine w_mldx (j := 232) rfl (by omega) (by omega) ?_
  rw [e232]
  refine w_mstx (j := 232) rfl (by omega) (by omega) ?_
  refine w_mldx (j := 232) rfl (by omega) (by omega) ?_
  rw [show gI (pI S 20 0 232 (aI A 2 0 + 1)) 20 0 232 = aI A 2 0 + 1 by rw [gI_pI, if_pos ⟨rfl, rfl, rfl⟩]]
  refine w_rdI ?_
  have ep : gI (pI S 20 0 232 (aI A 2 0 + 1)) 1 0 0 = nI p := by rw [gI_pI, if_neg (by omega), h.1.1.1.2.1, p3]
  rw [ep]
  refine w_t (nI_ne0 (by omega) (by omega)) ?_
  have same := rd_same hT1 p1 p2
  rw [← hT, ← p3] at same
  rw [← p3, fin]
  have cont : ∀ S2, MS q S0 S2 (aRnd A) → wp (f_X6_ticks_L34 400 (0 : Int32)) S2 (fun _ S1 => MS q S0 S1 (aWait (aBack (aMoves (aCnts (aRnd A) 1 0 (kS A)) (kS A)) [] (aO (aMoves (aCnts (aRnd A) 1 0 (kS A)) (kS A)))))) := fun S2 h2 => by
    have := w_mcnts hq hB1 (kS A) 400 0 (aRnd A) S2 h2 r1 (by rw [r3]; exact nI_ne0 (by omega) (by omega)) (by rw [r2]; exact rb) (by rw [r2]; omega) (by omega)
    rw [r2] at this
    exact this
  refine w_if (fun e => ?_) (fun e => ?_)
  · have er : aRnd A = aFils (sI A 2 0 (aI A 2 0 + 1)) 0 (kS A) := by unfold aRnd; rw [if_pos (same.mpr e)]
    have j1 : JA (sI A 2 0 (aI A 2 0 + 1)) := by rw [hT, nI_1]; exact hJ.s2 (by omega)
    refine w_call (P := fun _ S2 => MS q S0 S2 (aRnd A)) ?_ (fun _ S2 h2 => cont S2 h2)
    rw [er]
    unfold f_X6_fillsUp
    exact w_mfils hq (kS A) 400 0 _ _ h1 j1.1 j1.PP (by rw [kS_sI (by omega)]; omega) (by omega)
  · have er : aRnd A = sI A 2 0 (aI A 2 0 + 1) := by unfold aRnd; rw [if_neg (fun w => e (same.mp w))]
    exact cont _ (by rw [er]; exact h1)
end MT3
