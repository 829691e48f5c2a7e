/-! part 56: quotients that are numbers -/
theorem t32 : FP.Core.Fmt.tails FP.Core.b32 = 8388608 ∧ FP.Core.Fmt.exps FP.Core.b32 = 256 ∧ FP.Core.Fmt.qmin FP.Core.b32 = -149 ∧ FP.Core.Fmt.qmax FP.Core.b32 = 104 ∧ 2 ^ (FP.Core.Fmt.p FP.Core.b32) = 16777216 := by decide
theorem t64 : FP.Core.Fmt.tails FP.Core.b64 = 4503599627370496 ∧ FP.Core.Fmt.exps FP.Core.b64 = 2048 ∧ FP.Core.Fmt.qmin FP.Core.b64 = -1074 ∧ FP.Core.Fmt.qmax FP.Core.b64 = 971 ∧ 2 ^ (FP.Core.Fmt.p FP.Core.b64) = 9007199254740992 := by decide
def okF (f : FP.Core.Fmt) (D : FP.Core.Datum) : Prop := (∃ s, D = .inf s) ∨ ∃ s c q, D = .fin s c q ∧ c < 2 ^ f.p ∧ f.qmin ≤ q ∧ q ≤ f.qmax
theorem okF_bound {f : FP.Core.Fmt} {s : Bool} {c : Nat} {q : Int} (hc : c < 2 ^ f.p) (hq : f.qmin ≤ q) : okF f (FP.Core.bound f s c q) := by
  unfold FP.Core.bound
  by_cases h : q ≤ f.qmax
  · rw [if_pos h]; exact Or.inr ⟨s, c, q, rfl, hc, hq, h⟩
  · rw [if_neg h]; exact Or.inl ⟨s, rfl⟩
theorem okF_rr {f : FP.Core.Fmt} {s : Bool} {num den : Nat} {e : Int} (h1 : f.tails < 2 ^ f.p) (h2 : f.qmin ≤ f.qmax) : okF f (FP.Core.roundRatio f s num den e) := by
  unfold FP.Core.roundRatio
  by_cases h : num = 0
  · rw [if_pos h]; exact Or.inr ⟨s, 0, _, rfl, by omega, by omega, h2⟩
  · rw [if_neg h]
    have hq : f.qmin ≤ FP.Core.quantum f num den e := by unfold FP.Core.quantum; exact Int.le_max_left _ _
    unfold FP.Core.roundAt FP.Core.settle
    generalize FP.Core.quantum f num den e = q at hq
    generalize FP.Core.nearest _ _ = c
    by_cases hc : c < 2 ^ f.p
    · rw [if_pos hc]; exact okF_bound hc hq
    · rw [if_neg hc]; exact okF_bound h1 (by omega)
theorem okF_quo {f : FP.Core.Fmt} {D E : FP.Core.Datum} (h1 : f.tails < 2 ^ f.p) (h2 : f.qmin ≤ f.qmax) (hD : D ≠ .nan) {t : Bool} {d : Nat} {r : Int} (hE : E = .fin t d r) (hd : d ≠ 0) : okF f (FP.Core.quotient f D E) := by
  subst hE
  cases D with
  | nan => exact absurd rfl hD
  | inf s => exact Or.inl ⟨_, rfl⟩
  | fin s c q =>
    unfold FP.Core.quotient
    dsimp only
    rw [if_neg hd]
    exact okF_rr h1 h2
theorem enc32 {D : FP.Core.Datum} (h : okF FP.Core.b32 D) : FP.Core.encode FP.Core.b32 D % 2147483648 ≤ 2139095040 := by
  obtain ⟨a1, a2, a3, a4, a5⟩ := t32
  rcases h with ⟨s, rfl⟩ | ⟨s, c, q, rfl, h1, h2, h3⟩
  · cases s <;> decide
  · rw [a5] at h1
    rw [a3] at h2
    rw [a4] at h3
    unfold FP.Core.encode FP.Core.assemble
    rw [a1, a2, a3]
    dsimp only
    have hs : s.toNat ≤ 1 := by cases s <;> decide
    generalize s.toNat = z at hs
    by_cases hc : c < 8388608
    · rw [if_pos hc]; omega
    · rw [if_neg hc]; omega
theorem enc64 {D : FP.Core.Datum} (h : okF FP.Core.b64 D) : FP.Core.encode FP.Core.b64 D % 9223372036854775808 ≤ 9218868437227405312 := by
  obtain ⟨a1, a2, a3, a4, a5⟩ := t64
  rcases h with ⟨s, rfl⟩ | ⟨s, c, q, rfl, h1, h2, h3⟩
  · cases s <;> decide
  · rw [a5] at h1
    rw [a3] at h2
    rw [a4] at h3
    unfold FP.Core.encode FP.Core.assemble
    rw [a1, a2, a3]
    dsimp only
    have hs : s.toNat ≤ 1 := by cases s <;> decide
    generalize s.toNat = z at hs
    by_cases hc : c < 4503599627370496
    · rw [if_pos hc]; omega
    · rw [if_neg hc]; omega
theorem dec32 {n : Nat} (h : n % 2147483648 ≤ 2139095040) : FP.Core.decode FP.Core.b32 n ≠ .nan := by
  obtain ⟨a1, a2, a3, a4, a5⟩ := t32
  unfold FP.Core.decode FP.Core.fieldE FP.Core.fieldT
  rw [a1, a2]
  by_cases h1 : n / 8388608 % 256 = 256 - 1
  · rw [if_pos h1]
    by_cases h2 : n % 8388608 = 0
    · rw [if_pos h2]; intro w; cases w
    · exfalso; omega
  · rw [if_neg h1]
    by_cases h2 : n / 8388608 % 256 = 0
    · rw [if_pos h2]; intro w; cases w
    · rw [if_neg h2]; intro w; cases w
theorem dec64 {n : Nat} (h : n % 9223372036854775808 ≤ 9218868437227405312) : FP.Core.decode FP.Core.b64 n ≠ .nan := by
  obtain ⟨a1, a2, a3, a4, a5⟩ := t64
  unfold FP.Core.decode FP.Core.fieldE FP.Core.fieldT
  rw [a1, a2]
  by_cases h1 : n / 4503599627370496 % 2048 = 2048 - 1
  · rw [if_pos h1]
    by_cases h2 : n % 4503599627370496 = 0
    · rw [if_pos h2]; intro w; cases w
    · exfalso; omega
  · rw [if_neg h1]
    by_cases h2 : n / 4503599627370496 % 2048 = 0
    · rw [if_pos h2]; intro w; cases w
    · rw [if_neg h2]; intro w; cases w
theorem ed32 {s : Bool} {c : Nat} {q : Int} (h0 : c ≠ 0) (h1 : c < 16777216) (h2 : -149 ≤ q) (h3 : q ≤ 104) : ∃ t d r, FP.Core.decode FP.Core.b32 (FP.Core.encode FP.Core.b32 (.fin s c q) % 4294967296) = .fin t d r ∧ d ≠ 0 := by
  obtain ⟨a1, a2, a3, a4, a5⟩ := t32
  have key : ∀ n : Nat, (n / 8388608 % 256 = 0 ∧ n % 8388608 ≠ 0) ∨ (n / 8388608 % 256 ≠ 0 ∧ n / 8388608 % 256 ≠ 255) → ∃ t d r, FP.Core.decode FP.Core.b32 n = .fin t d r ∧ d ≠ 0 := fun n hn => by
    unfold FP.Core.decode FP.Core.fieldE FP.Core.fieldT
    rw [a1, a2]
    rw [if_neg (by omega)]
    by_cases h2 : n / 8388608 % 256 = 0
    · rw [if_pos h2]; exact ⟨_, _, _, rfl, by omega⟩
    · rw [if_neg h2]; exact ⟨_, _, _, rfl, by omega⟩
  refine key _ ?_
  unfold FP.Core.encode FP.Core.assemble
  rw [a1, a2, a3]
  dsimp only
  by_cases hc : c < 8388608
  · rw [if_pos hc]
    have hs : s.toNat ≤ 1 := by cases s <;> decide
    generalize s.toNat = z at hs
    left; omega
  · rw [if_neg hc]
    have hs : s.toNat ≤ 1 := by cases s <;> decide
    generalize s.toNat = z at hs
    right; omega
theorem i2f_ok {w : Nat} (h0 : 0 < w) (h1 : w < 16777216) : ∃ t d r, FP.Core.decode FP.Core.b32 (FP.i2f (nI w)).toNat = .fin t d r ∧ d ≠ 0 := by
  obtain ⟨a1, a2, a3, a4, a5⟩ := t32
  have e : (FP.i2f (nI w)).toNat = FP.Core.encode FP.Core.b32 (FP.Core.round FP.Core.b32 (FP.Core.ofInt (nI w).toInt)) % 4294967296 := by
    show (UInt32.ofNat (FP.Core.fromInt FP.Core.b32 (nI w).toInt)).toNat = _
    exact UInt32.toNat_ofNat
  rw [e, nI_toInt (by omega)]
  unfold FP.Core.ofInt FP.Core.round
  dsimp only
  unfold FP.Core.roundRatio
  rw [if_neg (by omega)]
  have hq : FP.Core.quantum FP.Core.b32 (w : Int).natAbs 1 0 ≤ 0 ∧ -149 ≤ FP.Core.quantum FP.Core.b32 (w : Int).natAbs 1 0 := by
    have hl : (w : Int).natAbs.log2 ≤ 23 := by
      have : (w : Int).natAbs.log2 < 24 := (Nat.log2_lt (by omega)).mpr (by omega)
      omega
    have hb : FP.Core.leading (w : Int).natAbs 1 ≤ 23 := by
      unfold FP.Core.leading
      generalize (w : Int).natAbs.log2 = k at hl
      have : Nat.log2 1 = 0 := by decide
      rw [this]
      dsimp only
      split <;> omega
    unfold FP.Core.quantum
    rw [a3]
    have hp : ((FP.Core.Fmt.p FP.Core.b32 : Nat) : Int) = 24 := by decide
    rw [hp]
    omega
  obtain ⟨q1, q2⟩ := hq
  unfold FP.Core.roundAt FP.Core.settle FP.Core.bound
  generalize FP.Core.quantum FP.Core.b32 (w : Int).natAbs 1 0 = q at q1 q2
  have hc : FP.Core.nearest (FP.Core.unitsNum (w : Int).natAbs 0 q) (FP.Core.unitsDen 1 0 q) ≠ 0 := by
    have hd : FP.Core.unitsDen 1 0 q = 1 := by
      unfold FP.Core.unitsDen
      rw [show (q - 0).toNat = 0 by omega]
    rw [hd]
    unfold FP.Core.nearest
    rw [Nat.mod_one, if_pos (by omega), Nat.div_one]
    unfold FP.Core.unitsNum
    have := Nat.two_pow_pos (0 - q).toNat
    exact Nat.ne_of_gt (Nat.mul_pos (by omega) this)
  generalize FP.Core.nearest (FP.Core.unitsNum (w : Int).natAbs 0 q) (FP.Core.unitsDen 1 0 q) = c at hc
  rw [a5, a4, a1]
  by_cases h : c < 16777216
  · rw [if_pos h, if_pos (by omega)]; exact ed32 hc h q2 (by omega)
  · rw [if_neg h, if_pos (by omega)]; exact ed32 (by omega) (by omega) (by omega) (by omega)
theorem fromI32 {i : Int} : okF FP.Core.b32 (FP.Core.round FP.Core.b32 (FP.Core.ofInt i)) := okF_rr (by decide) (by decide)
theorem fromI64 {i : Int} : okF FP.Core.b64 (FP.Core.round FP.Core.b64 (FP.Core.ofInt i)) := okF_rr (by decide) (by decide)
theorem nn32 {n : Nat} (h : n % 2147483648 ≤ 2139095040) : (UInt32.ofNat n) &&& (2147483647 : UInt32) ≤ 2139095040 ∧ FP.Core.decode FP.Core.b32 (UInt32.ofNat n).toNat ≠ .nan := by
  have e : (UInt32.ofNat n).toNat = n % 4294967296 := UInt32.toNat_ofNat
  refine ⟨?_, dec32 (by rw [e]; omega)⟩
  rw [UInt32.le_iff_toNat_le, UInt32.toNat_and, e]
  show n % 4294967296 &&& 2147483647 ≤ 2139095040
  rw [show (2147483647 : Nat) = 2 ^ 31 - 1 by decide, Nat.and_two_pow_sub_one_eq_mod]
  omega
theorem nn64 {n : Nat} (h : n % 9223372036854775808 ≤ 9218868437227405312) : (UInt64.ofNat n) &&& (9223372036854775807 : UInt64) ≤ 9218868437227405312 ∧ FP.Core.decode FP.Core.b64 (UInt64.ofNat n).toNat ≠ .nan := by
  have e : (UInt64.ofNat n).toNat = n % 18446744073709551616 := UInt64.toNat_ofNat
  refine ⟨?_, dec64 (by rw [e]; omega)⟩
  rw [UInt64.le_iff_toNat_le, UInt64.toNat_and, e]
  show n % 18446744073709551616 &&& 9223372036854775807 ≤ 9218868437227405312
  rw [show (9223372036854775807 : Nat) = 2 ^ 63 - 1 by decide, Nat.and_two_pow_sub_one_eq_mod]
  omega
theorem fq_ok {v w : Nat} (h0 : 0 < w) (h1 : w < 16777216) : FP.fdiv (FP.i2f (nI v)) (FP.i2f (nI w)) &&& (2147483647 : UInt32) ≤ 2139095040 ∧ FP.Core.decode FP.Core.b32 (FP.fdiv (FP.i2f (nI v)) (FP.i2f (nI w))).toNat ≠ .nan := by
  obtain ⟨t, d, r, e1, e2⟩ := i2f_ok h0 h1
  have hv : FP.Core.decode FP.Core.b32 (FP.i2f (nI v)).toNat ≠ .nan := (nn32 (enc32 fromI32)).2
  exact nn32 (enc32 (okF_quo (by decide) (by decide) hv e1 e2))
theorem f2d_ok {r : UInt32} (h : FP.Core.decode FP.Core.b32 r.toNat ≠ .nan) : FP.f2d r &&& (9223372036854775807 : UInt64) ≤ 9218868437227405312 ∧ FP.Core.decode FP.Core.b64 (FP.f2d r).toNat ≠ .nan := by
  have e : FP.f2d r = UInt64.ofNat (FP.Core.encode FP.Core.b64 (FP.Core.round FP.Core.b64 (FP.Core.decode FP.Core.b32 r.toNat))) := by
    unfold FP.f2d
    rw [if_neg]
    · rfl
    · intro w
      exact h (of_decide_eq_true w)
  rw [e]
  refine nn64 (enc64 ?_)
  cases hD : FP.Core.decode FP.Core.b32 r.toNat with
  | nan => exact absurd hD h
  | inf s => exact Or.inl ⟨s, rfl⟩
  | fin s c q => exact okF_rr (by decide) (by decide)
theorem dcmp_eq {x : UInt64} (h : FP.Core.decode FP.Core.b64 x.toNat ≠ .nan) : Op.cmpValue (FP.dcmp x x) .l = 0 := by
  have e : FP.dcmp x x = some .eq := by
    show FP.Core.order (FP.Core.decode FP.Core.b64 x.toNat) (FP.Core.decode FP.Core.b64 x.toNat) = _
    have c0 : ∀ i : Int, compare i i = .eq := fun i => by simp [compare, compareOfLessAndEq]
    cases hD : FP.Core.decode FP.Core.b64 x.toNat with
    | nan => exact absurd hD h
    | inf s => unfold FP.Core.order; dsimp only; rw [c0]
    | fin s c q => unfold FP.Core.order; dsimp only; rw [c0]
  rw [e]; rfl
def finB (D : FP.Core.Datum) : Bool := match D with | .fin _ d _ => decide (d ≠ 0) | _ => false
theorem i2d_ok : ∀ n, n ≤ 30 → 1 ≤ n → ∃ t d r, FP.Core.decode FP.Core.b64 (FP.i2d (nI n)).toNat = .fin t d r ∧ d ≠ 0 := by
  have key : ∀ n, n ≤ 30 → 1 ≤ n → finB (FP.Core.decode FP.Core.b64 (FP.i2d (nI n)).toNat) = true := by decide +kernel
  intro n h1 h2
  have := key n h1 h2
  cases hD : FP.Core.decode FP.Core.b64 (FP.i2d (nI n)).toNat with
  | nan => rw [hD] at this; cases this
  | inf s => rw [hD] at this; cases this
  | fin s c q => rw [hD] at this; exact ⟨s, c, q, rfl, of_decide_eq_true this⟩
theorem dq_ok {u : Int64} {n : Nat} (h1 : 1 ≤ n) (h2 : n ≤ 30) : FP.ddiv (FP.l2d u) (FP.i2d (nI n)) &&& (9223372036854775807 : UInt64) ≤ 9218868437227405312 ∧ FP.Core.decode FP.Core.b64 (FP.ddiv (FP.l2d u) (FP.i2d (nI n))).toNat ≠ .nan := by
  obtain ⟨t, d, r, e1, e2⟩ := i2d_ok n h2 h1
  have hv : FP.Core.decode FP.Core.b64 (FP.l2d u).toNat ≠ .nan := (nn64 (enc64 fromI64)).2
  exact nn64 (enc64 (okF_quo (by decide) (by decide) hv e1 e2))
