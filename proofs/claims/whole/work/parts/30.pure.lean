/-! part 30: how a program goes; the state that both sides speak of -/
def wp {α : Type} (f : PM α) (S : St) (Q : α → St → Prop) : Prop := ∃ E : α × St, f.1 S = some E ∧ Q E.1 E.2
section WP
variable {α β : Type} {f : PM α} {k : α → PM β} {S S1 : St} {Q : β → St → Prop} {P : α → St → Prop} {a : α} {c : Prop} {x n len i j v f0 : Nat} {u : Int32} {kU : Unit → PM β} {kI : Int32 → PM β} {kN : Nat → PM β} {kJ : Int64 → PM β}
theorem w_rtn {b : β} (h : Q b S) : wp (rtn b) S Q := ⟨(b, S), rfl, h⟩
theorem w_ev (he : f.1 S = some (a, S1)) (hk : wp (k a) S1 Q) : wp (bnd f k) S Q := by
  obtain ⟨E, h1, h2⟩ := hk
  exact ⟨E, by show (f.1 S).bind (fun E => (k E.1).1 E.2) = some E; rw [he]; exact h1, h2⟩
theorem w_call (hf : wp f S P) (hk : ∀ a S1, P a S1 → wp (k a) S1 Q) : wp (bnd f k) S Q := by
  obtain ⟨E, h1, h2⟩ := hf
  exact w_ev (a := E.1) (S1 := E.2) h1 (hk _ _ h2)
theorem w_mono {Q' : β → St → Prop} {g : PM β} (h : wp g S Q') (hk : ∀ a S1, Q' a S1 → Q a S1) : wp g S Q := by
  obtain ⟨E, h1, h2⟩ := h
  exact ⟨E, h1, hk _ _ h2⟩
theorem w_if [Decidable c] {g h : PM β} (h1 : c → wp g S Q) (h2 : ¬ c → wp h S Q) : wp (if c then g else h) S Q := by
  by_cases hc : c
  · rw [if_pos hc]; exact h1 hc
  · rw [if_neg hc]; exact h2 hc
theorem w_t [Decidable c] {g h : PM β} (hc : c) (h1 : wp g S Q) : wp (if c then g else h) S Q := by rw [if_pos hc]; exact h1
theorem w_n [Decidable c] {g h : PM β} (hc : ¬ c) (h1 : wp h S Q) : wp (if c then g else h) S Q := by rw [if_neg hc]; exact h1
theorem w_ret {b : α} (h : wp (k b) S Q) : wp (bnd (rtn b) k) S Q := w_ev rfl h
theorem w_rdI {f0 i j : Nat} (h : wp (kI (gI S f0 i j)) S Q) : wp (bnd (rdI f0 i j) kI) S Q := w_ev rfl h
theorem w_wrI {f0 i j : Nat} (h : wp (kU ()) (pI S f0 i j u) Q) : wp (bnd (wrI f0 i j u) kU) S Q := w_ev rfl h
theorem w_rdL (h : wp (kJ (gL S i)) S Q) : wp (bnd (rdL i) kJ) S Q := w_ev rfl h
theorem w_wrL {z : Int64} (h : wp (kU ()) (pL S i z) Q) : wp (bnd (wrL i z) kU) S Q := w_ev rfl h
theorem w_rdN (h : wp (kN (gN S f0 i)) S Q) : wp (bnd (rdN f0 i) kN) S Q := w_ev rfl h
theorem w_rdc (hx : x < n) (h : wp (kI (gI S f0 x 0)) S Q) : wp (bnd (rdc n x f0) kI) S Q := by unfold rdc; rw [if_pos hx]; exact w_rdI h
theorem w_wrc (hx : x < n) (h : wp (kU ()) (pI S f0 x 0 u) Q) : wp (bnd (wrc n x f0 u) kU) S Q := by unfold wrc; rw [if_pos hx]; exact w_wrI h
theorem w_wrcC (hx : x < n) (hu : (u.toUInt32 % 65536).toInt32 = u) (h : wp (kU ()) (pI S f0 x 0 u) Q) : wp (bnd (wrcC n x f0 u) kU) S Q := by unfold wrcC; rw [if_pos ⟨hx, hu⟩]; exact w_wrI h
theorem w_wrcZ (hx : x < n) (hu : u = 0 ∨ u = 1) (h : wp (kU ()) (pI S f0 x 0 u) Q) : wp (bnd (wrcZ n x f0 u) kU) S Q := by unfold wrcZ; rw [if_pos ⟨hx, hu⟩]; exact w_wrI h
theorem w_rdcL (hx : x < n) (h : wp (kJ (gL S x)) S Q) : wp (bnd (rdcL n x) kJ) S Q := by unfold rdcL; rw [if_pos hx]; exact w_rdL h
theorem w_wrcL {z : Int64} (hx : x < n) (h : wp (kU ()) (pL S x z) Q) : wp (bnd (wrcL n x z) kU) S Q := by unfold wrcL; rw [if_pos hx]; exact w_wrL h
theorem w_rfc {r : Nat} (hx : x < n) (h : wp (kN r) S Q) : wp (bnd (rfc n x r) kN) S Q := by unfold rfc; rw [if_pos hx]; exact w_ret h
theorem w_rdk (hx : x < n) (h : wp (kI u) S Q) : wp (bnd (rdk n x u) kI) S Q := by unfold rdk; rw [if_pos hx]; exact w_ret h
theorem in_nI (h : j < len) (hl : len ≤ 2097152) : ¬ (nI j < 0 ∨ len ≤ (nI j).toNatClampNeg) := nI_in h (by omega)
theorem w_ald (hx : x < n) (hj : j < len) (hl : len ≤ 2097152) (h : wp (kI (gI S f0 x j)) S Q) : wp (bnd (ald n x f0 len (nI j)) kI) S Q := by
  unfold ald
  rw [if_pos ⟨hx, in_nI hj hl⟩, nI_clamp (by omega)]
  exact w_rdI h
theorem w_ast (hx : x < n) (hj : j < len) (hl : len ≤ 2097152) (h : wp (kU ()) (pI S f0 x j u) Q) : wp (bnd (ast n x f0 len (nI j) u) kU) S Q := by
  unfold ast
  rw [if_pos ⟨hx, in_nI hj hl⟩, nI_clamp (by omega)]
  exact w_wrI h
theorem w_arf {r : Nat → Nat} (hx : x < n) (hj : j < len) (hl : len ≤ 2097152) (h : wp (kN (r j)) S Q) : wp (bnd (arf n x len (nI j) r) kN) S Q := by
  unfold arf
  rw [if_pos ⟨hx, in_nI hj hl⟩, nI_clamp (by omega)]
  exact w_ret h
theorem w_mld (hj : j < len) (hl : len ≤ 2097152) (h : wp (kI (gI S f0 0 j)) S Q) : wp (bnd (mld f0 len (nI j)) kI) S Q := by
  unfold mld
  rw [if_pos (in_nI hj hl), nI_clamp (by omega)]
  exact w_rdI h
theorem w_mst (hj : j < len) (hl : len ≤ 2097152) (h : wp (kU ()) (pI S f0 0 j u) Q) : wp (bnd (mst f0 len (nI j) u) kU) S Q := by
  unfold mst
  rw [if_pos (in_nI hj hl), nI_clamp (by omega)]
  exact w_wrI h
end WP
section WP1
variable {S : St} {Q : Int32 → St → Prop} {u : Int32}
theorem w_rtnZ (hu : u = 0 ∨ u = 1) (h : Q u S) : wp (rtnZ u) S Q := by unfold rtnZ; rw [if_pos hu]; exact w_rtn h
theorem w_rtnC (hu : (u.toUInt32 % 65536).toInt32 = u) (h : Q u S) : wp (rtnC u) S Q := by unfold rtnC; rw [if_pos hu]; exact w_rtn h
end WP1
theorem nI_addn {i j : Nat} : nI i + nI j = nI (i + j) := by
  show Int32.ofNat i + Int32.ofNat j = Int32.ofNat (i + j)
  rw [Int32.ofNat_add]
theorem nI_add1 {i : Nat} : nI i + (1 : Int32) = nI (i + 1) := (nI_succ i).symm
theorem nI_inj {a b : Nat} (ha : a < 2147483648) (hb : b < 2147483648) (h : nI a = nI b) : a = b := by
  have := congrArg Int32.toNatClampNeg h
  rwa [nI_clamp ha, nI_clamp hb] at this
theorem nI_ne_neg {a : Nat} (ha : a < 2147483648) : nI a ≠ (-1 : Int32) := fun h => by
  have := nI_toInt ha
  rw [h] at this
  have e : (-1 : Int32).toInt = -1 := by decide
  omega
theorem nI_sub1 {a : Nat} (h0 : 0 < a) : nI a - (1 : Int32) = nI (a - 1) := by
  obtain ⟨b, rfl⟩ : ∃ b, a = b + 1 := ⟨a - 1, by omega⟩
  rw [nI_succ, Int32.add_sub_cancel, Nat.add_sub_cancel]
abbrev AS : Type := (Nat → Nat → Int32) × (Nat → Int64) × (List Nat × List Nat × List Nat) × List (Nat × Int32)
def aI (A : AS) (f i : Nat) : Int32 := A.1 f i
def aL (A : AS) (s : Nat) : Int64 := A.2.1 s
def aW (A : AS) : List Nat := A.2.2.1.1
def aO (A : AS) : List Nat := A.2.2.1.2.1
def aG (A : AS) : List Nat := A.2.2.1.2.2
def aT (A : AS) : List (Nat × Int32) := A.2.2.2
def sI (A : AS) (f i : Nat) (v : Int32) : AS := (fun a b => if a = f ∧ b = i then v else A.1 a b, A.2)
def sL (A : AS) (i : Nat) (v : Int64) : AS := (A.1, fun a => if a = i then v else A.2.1 a, A.2.2)
def sW (A : AS) (l : List Nat) : AS := (A.1, A.2.1, (l, A.2.2.1.2), A.2.2.2)
def sO (A : AS) (l : List Nat) : AS := (A.1, A.2.1, (A.2.2.1.1, l, A.2.2.1.2.2), A.2.2.2)
def sG (A : AS) (l : List Nat) : AS := (A.1, A.2.1, (A.2.2.1.1, A.2.2.1.2.1, l), A.2.2.2)
def sT (A : AS) (l : List (Nat × Int32)) : AS := (A.1, A.2.1, A.2.2.1, l)
theorem aI_sI (A : AS) (f i : Nat) (v : Int32) (a b : Nat) : aI (sI A f i v) a b = if a = f ∧ b = i then v else aI A a b := rfl
theorem aL_sI (A : AS) (f i : Nat) (v : Int32) (a : Nat) : aL (sI A f i v) a = aL A a := rfl
theorem aW_sI (A : AS) (f i : Nat) (v : Int32)  : aW (sI A f i v) = aW A := rfl
theorem aO_sI (A : AS) (f i : Nat) (v : Int32)  : aO (sI A f i v) = aO A := rfl
theorem aG_sI (A : AS) (f i : Nat) (v : Int32)  : aG (sI A f i v) = aG A := rfl
theorem aT_sI (A : AS) (f i : Nat) (v : Int32)  : aT (sI A f i v) = aT A := rfl
theorem aI_sL (A : AS) (i : Nat) (v : Int64) (a b : Nat) : aI (sL A i v) a b = aI A a b := rfl
theorem aL_sL (A : AS) (i : Nat) (v : Int64) (a : Nat) : aL (sL A i v) a = if a = i then v else aL A a := rfl
theorem aW_sL (A : AS) (i : Nat) (v : Int64)  : aW (sL A i v) = aW A := rfl
theorem aO_sL (A : AS) (i : Nat) (v : Int64)  : aO (sL A i v) = aO A := rfl
theorem aG_sL (A : AS) (i : Nat) (v : Int64)  : aG (sL A i v) = aG A := rfl
theorem aT_sL (A : AS) (i : Nat) (v : Int64)  : aT (sL A i v) = aT A := rfl
theorem aI_sW (A : AS) (l : List Nat) (a b : Nat) : aI (sW A l) a b = aI A a b := rfl
theorem aL_sW (A : AS) (l : List Nat) (a : Nat) : aL (sW A l) a = aL A a := rfl
theorem aW_sW (A : AS) (l : List Nat)  : aW (sW A l) = l := rfl
theorem aO_sW (A : AS) (l : List Nat)  : aO (sW A l) = aO A := rfl
theorem aG_sW (A : AS) (l : List Nat)  : aG (sW A l) = aG A := rfl
theorem aT_sW (A : AS) (l : List Nat)  : aT (sW A l) = aT A := rfl
theorem aI_sO (A : AS) (l : List Nat) (a b : Nat) : aI (sO A l) a b = aI A a b := rfl
theorem aL_sO (A : AS) (l : List Nat) (a : Nat) : aL (sO A l) a = aL A a := rfl
theorem aW_sO (A : AS) (l : List Nat)  : aW (sO A l) = aW A := rfl
theorem aO_sO (A : AS) (l : List Nat)  : aO (sO A l) = l := rfl
theorem aG_sO (A : AS) (l : List Nat)  : aG (sO A l) = aG A := rfl
theorem aT_sO (A : AS) (l : List Nat)  : aT (sO A l) = aT A := rfl
theorem aI_sG (A : AS) (l : List Nat) (a b : Nat) : aI (sG A l) a b = aI A a b := rfl
theorem aL_sG (A : AS) (l : List Nat) (a : Nat) : aL (sG A l) a = aL A a := rfl
theorem aW_sG (A : AS) (l : List Nat)  : aW (sG A l) = aW A := rfl
theorem aO_sG (A : AS) (l : List Nat)  : aO (sG A l) = aO A := rfl
theorem aG_sG (A : AS) (l : List Nat)  : aG (sG A l) = l := rfl
theorem aT_sG (A : AS) (l : List Nat)  : aT (sG A l) = aT A := rfl
theorem aI_sT (A : AS) (l : List (Nat × Int32)) (a b : Nat) : aI (sT A l) a b = aI A a b := rfl
theorem aL_sT (A : AS) (l : List (Nat × Int32)) (a : Nat) : aL (sT A l) a = aL A a := rfl
theorem aW_sT (A : AS) (l : List (Nat × Int32))  : aW (sT A l) = aW A := rfl
theorem aO_sT (A : AS) (l : List (Nat × Int32))  : aO (sT A l) = aO A := rfl
theorem aG_sT (A : AS) (l : List (Nat × Int32))  : aG (sT A l) = aG A := rfl
theorem aT_sT (A : AS) (l : List (Nat × Int32))  : aT (sT A l) = l := rfl
def kS (A : AS) : Nat := (aI A 0 0).toNatClampNeg
def kC (A : AS) : Nat := (aI A 1 0).toNatClampNeg
/-- a row of the class -/
def RW (S : St) (x : Nat) (l : List Nat) : Prop := l.length ≤ 30 ∧ gI S 5 x 0 = nI l.length ∧ ∀ k, k < l.length → gI S 6 x k = nI (l.getD k 0)
/-- a line of the class -/
def RC (t : Nat) (S : St) (A : AS) : Prop :=
  (∀ f, f < 4 → gI S f t 0 = aI A f 0) ∧ (∀ p, p < 6 → gI S 4 t p = aI A 4 p) ∧ (∀ f s, 7 ≤ f → f ≤ 12 → s < kS A → gI S f (8 * t + s) 0 = aI A f s) ∧ (∀ f c, 14 ≤ f → f ≤ 19 → c < kC A → gI S f (30 * t + c) 0 = aI A f c) ∧ RW S (3 * t) (aW A) ∧ RW S (3 * t + 1) (aO A) ∧ RW S (3 * t + 2) (aG A)
/-- what the reference asks of the state: the numbers of stations and cars, who stands where -/
def IA (A : AS) : Prop :=
  (aI A 0 0 = nI (kS A) ∧ kS A ≤ 8) ∧ (aI A 1 0 = nI (kC A) ∧ kC A ≤ 30)
