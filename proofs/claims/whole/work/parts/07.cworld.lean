/-! part 07: the class's world: a Lineclock, its two lines, all that they hold -/
abbrev Wc : Type := ClassId × ClassId × ClassId × ClassId × (Nat → Nat)
abbrev Wc.ad (w : Wc) : Nat → Nat := w.2.2.2.2
abbrev tysC (w : Wc) : List (ClassId × FieldType) := [(w.1, .int), (w.2.1, .char), (w.2.2.1, .object "Lineclock$Station"), (w.2.2.2.1, .object "Lineclock$Car")]
def eLC (w : Wc) : va_E := .inr (7, [.ref (w.2.2.2.2 1), .ref (w.2.2.2.2 2)])
def eLN (w : Wc) (S : St) (t : Nat) : va_E := .inr (3, [.ref (w.2.2.2.2 (3 + t)), .ref (w.2.2.2.2 (5 + t)), .ref (w.2.2.2.2 (7 + t)), .ref (w.2.2.2.2 (9 + 3 * t)), .ref (w.2.2.2.2 (9 + (3 * t + 1))), .ref (w.2.2.2.2 (9 + (3 * t + 2))), .int (gI S 0 t 0), .int (gI S 1 t 0), .int (gI S 2 t 0), .int (gI S 3 t 0)])
def ePL (w : Wc) (t : Nat) : va_E := .inl (w.2.2.1, 8, .inr (.inr (.inr (.inr (fun j => some (w.2.2.2.2 (21 + (8 * t + j))))))))
def eKN (w : Wc) (t : Nat) : va_E := .inl (w.2.2.2.1, 30, .inr (.inr (.inr (.inr (fun j => some (w.2.2.2.2 (37 + (30 * t + j))))))))
def eSO (w : Wc) (S : St) (t : Nat) : va_E := .inl (w.1, 6, .inl (fun j => gI S 4 t j))
def eRO (w : Wc) (S : St) (r : Nat) : va_E := .inr (4, [.ref (w.2.2.2.2 (15 + r)), .int (gI S 5 r 0)])
def eME (w : Wc) (S : St) (r : Nat) : va_E := .inl (w.1, 30, .inl (fun j => gI S 6 r j))
def eST (S : St) (x : Nat) : va_E := .inr (5, [.int (gI S 7 x 0), .int (gI S 8 x 0), .int (gI S 9 x 0), .int (gI S 10 x 0), .int (gI S 11 x 0), .int (gI S 12 x 0), .int (gI S 13 x 0), .long (gL S x)])
def eCA (w : Wc) (S : St) (x : Nat) : va_E := .inr (2, [.int (nI (x % 30)), vr w.2.2.2.2 97 30 x, .int (gI S 14 x 0), .int (gI S 15 x 0), .int (gI S 16 x 0), .int (gI S 17 x 0), .int (gI S 18 x 0), .int (gI S 19 x 0), .int (gI S 20 x 0), .int (gI S 21 x 0), .int (gI S 22 x 0)])
def eTR (w : Wc) (S : St) (x : Nat) : va_E := .inr (6, [.ref (gN S 1 x), .int (gI S 23 x 0), .ref (w.2.2.2.2 (127 + x))])
def eTO (w : Wc) (S : St) (x : Nat) : va_E := .inl (w.1, 5, .inl (fun j => gI S 24 x j))
def eSG (w : Wc) (S : St) (x : Nat) : va_E := .inl (w.2.1, gN S 0 x, .inl (fun j => gI S 25 x j))
def adrC (w : Wc) (S : St) (k : Nat) : Nat := if k < 157 then w.2.2.2.2 k else gN S 1 (k - 157)
theorem ite_cg {α : Type} {c : Prop} [Decidable c] {a a1 b b1 : α} (h1 : c → a = a1) (h2 : ¬ c → b = b1) : (if c then a else b) = if c then a1 else b1 := by
  by_cases h : c
  · rw [if_pos h, if_pos h, h1 h]
  · rw [if_neg h, if_neg h, h2 h]
def celC (w : Wc) (S : St) (k : Nat) : va_E := if k < 1 then eLC w else if k < 3 then eLN w S (k - 1) else if k < 5 then ePL w (k - 3) else if k < 7 then eKN w (k - 5) else if k < 9 then eSO w S (k - 7) else if k < 15 then eRO w S (k - 9) else if k < 21 then eME w S (k - 15) else if k < 37 then eST S (k - 21) else if k < 97 then eCA w S (k - 37) else if k < 127 then eTR w S (k - 97) else if k < 157 then eTO w S (k - 127) else eSG w S (k - 157)
abbrev PC (D : va_G) (w : Wc) (A : Nat → Prop) : St → Heap → Prop := PW D 187 (adrC w) (celC w) A
theorem adrC_lo (w : Wc) (S : St) {k : Nat} (h : k < 157) : adrC w S k = w.2.2.2.2 k := if_pos h
theorem celC_LC (w : Wc) (S : St) {x : Nat} (h : x < 1) : celC w S (0 + x) = eLC w := by
  unfold celC
  rw [if_pos (by omega)]
theorem celC_LN (w : Wc) (S : St) {x : Nat} (h : x < 2) : celC w S (1 + x) = eLN w S x := by
  unfold celC
  rw [if_neg (by omega), if_pos (by omega)]
  rw [show 1 + x - 1 = x by omega]
theorem celC_PL (w : Wc) (S : St) {x : Nat} (h : x < 2) : celC w S (3 + x) = ePL w x := by
  unfold celC
  rw [if_neg (by omega), if_neg (by omega), if_pos (by omega)]
  rw [show 3 + x - 3 = x by omega]
theorem celC_KN (w : Wc) (S : St) {x : Nat} (h : x < 2) : celC w S (5 + x) = eKN w x := by
  unfold celC
  rw [if_neg (by omega), if_neg (by omega), if_neg (by omega), if_pos (by omega)]
  rw [show 5 + x - 5 = x by omega]
theorem celC_SO (w : Wc) (S : St) {x : Nat} (h : x < 2) : celC w S (7 + x) = eSO w S x := by
  unfold celC
  rw [if_neg (by omega), if_neg (by omega), if_neg (by omega), if_neg (by omega), if_pos (by omega)]
  rw [show 7 + x - 7 = x by omega]
theorem celC_RO (w : Wc) (S : St) {x : Nat} (h : x < 6) : celC w S (9 + x) = eRO w S x := by
  unfold celC
  rw [if_neg (by omega), if_neg (by omega), if_neg (by omega), if_neg (by omega), if_neg (by omega), if_pos (by omega)]
  rw [show 9 + x - 9 = x by omega]
theorem celC_ME (w : Wc) (S : St) {x : Nat} (h : x < 6) : celC w S (15 + x) = eME w S x := by
  unfold celC
  rw [if_neg (by omega), if_neg (by omega), if_neg (by omega), if_neg (by omega), if_neg (by omega), if_neg (by omega), if_pos (by omega)]
  rw [show 15 + x - 15 = x by omega]
theorem celC_ST (w : Wc) (S : St) {x : Nat} (h : x < 16) : celC w S (21 + x) = eST S x := by
  unfold celC
  rw [if_neg (by omega), if_neg (by omega), if_neg (by omega), if_neg (by omega), if_neg (by omega), if_neg (by omega), if_neg (by omega), if_pos (by omega)]
  rw [show 21 + x - 21 = x by omega]
theorem celC_CA (w : Wc) (S : St) {x : Nat} (h : x < 60) : celC w S (37 + x) = eCA w S x := by
  unfold celC
  rw [if_neg (by omega), if_neg (by omega), if_neg (by omega), if_neg (by omega), if_neg (by omega), if_neg (by omega), if_neg (by omega), if_neg (by omega), if_pos (by omega)]
  rw [show 37 + x - 37 = x by omega]
theorem celC_TR (w : Wc) (S : St) {x : Nat} (h : x < 30) : celC w S (97 + x) = eTR w S x := by
  unfold celC
  rw [if_neg (by omega), if_neg (by omega), if_neg (by omega), if_neg (by omega), if_neg (by omega), if_neg (by omega), if_neg (by omega), if_neg (by omega), if_neg (by omega), if_pos (by omega)]
  rw [show 97 + x - 97 = x by omega]
theorem celC_TO (w : Wc) (S : St) {x : Nat} (h : x < 30) : celC w S (127 + x) = eTO w S x := by
  unfold celC
  rw [if_neg (by omega), if_neg (by omega), if_neg (by omega), if_neg (by omega), if_neg (by omega), if_neg (by omega), if_neg (by omega), if_neg (by omega), if_neg (by omega), if_neg (by omega), if_pos (by omega)]
  rw [show 127 + x - 127 = x by omega]
theorem celC_SG (w : Wc) (S : St) {x : Nat} (h : x < 30) : celC w S (157 + x) = eSG w S x := by
  unfold celC
  rw [if_neg (by omega), if_neg (by omega), if_neg (by omega), if_neg (by omega), if_neg (by omega), if_neg (by omega), if_neg (by omega), if_neg (by omega), if_neg (by omega), if_neg (by omega), if_neg (by omega)]
  rw [show 157 + x - 157 = x by omega]
theorem fr_0 (w : Wc) (S : St) (x : Nat) (v : Int32) : ∀ j, j < 187 → j ≠ 1 + x → celC w (pI S 0 x 0 v) j = celC w S j := by
  intro j hj hne
  unfold celC
  refine ite_cg (fun _ => ?_) (fun _ => ?_)
  · rfl
  refine ite_cg (fun _ => ?_) (fun _ => ?_)
  · have h9 : ¬ j - 1 = x := by omega
    simp [eLN, gI_pI, gL_pI, gN_pI, gI_pL, gL_pL, gN_pL, h9]
  refine ite_cg (fun _ => ?_) (fun _ => ?_)
  · rfl
  refine ite_cg (fun _ => ?_) (fun _ => ?_)
  · rfl
  refine ite_cg (fun _ => ?_) (fun _ => ?_)
  · simp [eSO, gI_pI, gL_pI, gN_pI, gI_pL, gL_pL, gN_pL]
  refine ite_cg (fun _ => ?_) (fun _ => ?_)
  · simp [eRO, gI_pI, gL_pI, gN_pI, gI_pL, gL_pL, gN_pL]
  refine ite_cg (fun _ => ?_) (fun _ => ?_)
  · simp [eME, gI_pI, gL_pI, gN_pI, gI_pL, gL_pL, gN_pL]
  refine ite_cg (fun _ => ?_) (fun _ => ?_)
  · simp [eST, gI_pI, gL_pI, gN_pI, gI_pL, gL_pL, gN_pL]
  refine ite_cg (fun _ => ?_) (fun _ => ?_)
  · simp [eCA, gI_pI, gL_pI, gN_pI, gI_pL, gL_pL, gN_pL]
  refine ite_cg (fun _ => ?_) (fun _ => ?_)
  · simp [eTR, gI_pI, gL_pI, gN_pI, gI_pL, gL_pL, gN_pL]
  refine ite_cg (fun _ => ?_) (fun _ => ?_)
  · simp [eTO, gI_pI, gL_pI, gN_pI, gI_pL, gL_pL, gN_pL]
  simp [eSG, gI_pI, gL_pI, gN_pI, gI_pL, gL_pL, gN_pL]
theorem fr_1 (w : Wc) (S : St) (x : Nat) (v : Int32) : ∀ j, j < 187 → j ≠ 1 + x → celC w (pI S 1 x 0 v) j = celC w S j := by
  intro j hj hne
  unfold celC
  refine ite_cg (fun _ => ?_) (fun _ => ?_)
  · rfl
  refine ite_cg (fun _ => ?_) (fun _ => ?_)
  · have h9 : ¬ j - 1 = x := by omega
    simp [eLN, gI_pI, gL_pI, gN_pI, gI_pL, gL_pL, gN_pL, h9]
  refine ite_cg (fun _ => ?_) (fun _ => ?_)
  · rfl
  refine ite_cg (fun _ => ?_) (fun _ => ?_)
  · rfl
  refine ite_cg (fun _ => ?_) (fun _ => ?_)
  · simp [eSO, gI_pI, gL_pI, gN_pI, gI_pL, gL_pL, gN_pL]
  refine ite_cg (fun _ => ?_) (fun _ => ?_)
  · simp [eRO, gI_pI, gL_pI, gN_pI, gI_pL, gL_pL, gN_pL]
  refine ite_cg (fun _ => ?_) (fun _ => ?_)
  · simp [eME, gI_pI, gL_pI, gN_pI, gI_pL, gL_pL, gN_pL]
  refine ite_cg (fun _ => ?_) (fun _ => ?_)
  · simp [eST, gI_pI, gL_pI, gN_pI, gI_pL, gL_pL, gN_pL]
  refine ite_cg (fun _ => ?_) (fun _ => ?_)
  · simp [eCA, gI_pI, gL_pI, gN_pI, gI_pL, gL_pL, gN_pL]
  refine ite_cg (fun _ => ?_) (fun _ => ?_)
  · simp [eTR, gI_pI, gL_pI, gN_pI, gI_pL, gL_pL, gN_pL]
  refine ite_cg (fun _ => ?_) (fun _ => ?_)
  · simp [eTO, gI_pI, gL_pI, gN_pI, gI_pL, gL_pL, gN_pL]
  simp [eSG, gI_pI, gL_pI, gN_pI, gI_pL, gL_pL, gN_pL]
theorem fr_2 (w : Wc) (S : St) (x : Nat) (v : Int32) : ∀ j, j < 187 → j ≠ 1 + x → celC w (pI S 2 x 0 v) j = celC w S j := by
  intro j hj hne
  unfold celC
  refine ite_cg (fun _ => ?_) (fun _ => ?_)
  · rfl
  refine ite_cg (fun _ => ?_) (fun _ => ?_)
  · have h9 : ¬ j - 1 = x := by omega
    simp [eLN, gI_pI, gL_pI, gN_pI, gI_pL, gL_pL, gN_pL, h9]
  refine ite_cg (fun _ => ?_) (fun _ => ?_)
  · rfl
  refine ite_cg (fun _ => ?_) (fun _ => ?_)
  · rfl
  refine ite_cg (fun _ => ?_) (fun _ => ?_)
  · simp [eSO, gI_pI, gL_pI, gN_pI, gI_pL, gL_pL, gN_pL]
  refine ite_cg (fun _ => ?_) (fun _ => ?_)
  · simp [eRO, gI_pI, gL_pI, gN_pI, gI_pL, gL_pL, gN_pL]
  refine ite_cg (fun _ => ?_) (fun _ => ?_)
  · simp [eME, gI_pI, gL_pI, gN_pI, gI_pL, gL_pL, gN_pL]
  refine ite_cg (fun _ => ?_) (fun _ => ?_)
  · simp [eST, gI_pI, gL_pI, gN_pI, gI_pL, gL_pL, gN_pL]
  refine ite_cg (fun _ => ?_) (fun _ => ?_)
  · simp [eCA, gI_pI, gL_pI, gN_pI, gI_pL, gL_pL, gN_pL]
  refine ite_cg (fun _ => ?_) (fun _ => ?_)
  · simp [eTR, gI_pI, gL_pI, gN_pI, gI_pL, gL_pL, gN_pL]
  refine ite_cg (fun _ => ?_) (fun _ => ?_)
  · simp [eTO, gI_pI, gL_pI, gN_pI, gI_pL, gL_pL, gN_pL]
  simp [eSG, gI_pI, gL_pI, gN_pI, gI_pL, gL_pL, gN_pL]
theorem fr_3 (w : Wc) (S : St) (x : Nat) (v : Int32) : ∀ j, j < 187 → j ≠ 1 + x → celC w (pI S 3 x 0 v) j = celC w S j := by
  intro j hj hne
  unfold celC
  refine ite_cg (fun _ => ?_) (fun _ => ?_)
  · rfl
  refine ite_cg (fun _ => ?_) (fun _ => ?_)
  · have h9 : ¬ j - 1 = x := by omega
    simp [eLN, gI_pI, gL_pI, gN_pI, gI_pL, gL_pL, gN_pL, h9]
  refine ite_cg (fun _ => ?_) (fun _ => ?_)
  · rfl
  refine ite_cg (fun _ => ?_) (fun _ => ?_)
  · rfl
  refine ite_cg (fun _ => ?_) (fun _ => ?_)
  · simp [eSO, gI_pI, gL_pI, gN_pI, gI_pL, gL_pL, gN_pL]
  refine ite_cg (fun _ => ?_) (fun _ => ?_)
  · simp [eRO, gI_pI, gL_pI, gN_pI, gI_pL, gL_pL, gN_pL]
  refine ite_cg (fun _ => ?_) (fun _ => ?_)
  · simp [eME, gI_pI, gL_pI, gN_pI, gI_pL, gL_pL, gN_pL]
  refine ite_cg (fun _ => ?_) (fun _ => ?_)
  · simp [eST, gI_pI, gL_pI, gN_pI, gI_pL, gL_pL, gN_pL]
  refine ite_cg (fun _ => ?_) (fun _ => ?_)
  · simp [eCA, gI_pI, gL_pI, gN_pI, gI_pL, gL_pL, gN_pL]
  refine ite_cg (fun _ => ?_) (fun _ => ?_)
  · simp [eTR, gI_pI, gL_pI, gN_pI, gI_pL, gL_pL, gN_pL]
  refine ite_cg (fun _ => ?_) (fun _ => ?_)
  · simp [eTO, gI_pI, gL_pI, gN_pI, gI_pL, gL_pL, gN_pL]
  simp [eSG, gI_pI, gL_pI, gN_pI, gI_pL, gL_pL, gN_pL]
theorem fr_5 (w : Wc) (S : St) (x : Nat) (v : Int32) : ∀ j, j < 187 → j ≠ 9 + x → celC w (pI S 5 x 0 v) j = celC w S j := by
  intro j hj hne
  unfold celC
  refine ite_cg (fun _ => ?_) (fun _ => ?_)
  · rfl
  refine ite_cg (fun _ => ?_) (fun _ => ?_)
  · simp [eLN, gI_pI, gL_pI, gN_pI, gI_pL, gL_pL, gN_pL]
  refine ite_cg (fun _ => ?_) (fun _ => ?_)
  · rfl
  refine ite_cg (fun _ => ?_) (fun _ => ?_)
  · rfl
  refine ite_cg (fun _ => ?_) (fun _ => ?_)
  · simp [eSO, gI_pI, gL_pI, gN_pI, gI_pL, gL_pL, gN_pL]
  refine ite_cg (fun _ => ?_) (fun _ => ?_)
  · have h9 : ¬ j - 9 = x := by omega
    simp [eRO, gI_pI, gL_pI, gN_pI, gI_pL, gL_pL, gN_pL, h9]
  refine ite_cg (fun _ => ?_) (fun _ => ?_)
  · simp [eME, gI_pI, gL_pI, gN_pI, gI_pL, gL_pL, gN_pL]
  refine ite_cg (fun _ => ?_) (fun _ => ?_)
  · simp [eST, gI_pI, gL_pI, gN_pI, gI_pL, gL_pL, gN_pL]
  refine ite_cg (fun _ => ?_) (fun _ => ?_)
  · simp [eCA, gI_pI, gL_pI, gN_pI, gI_pL, gL_pL, gN_pL]
  refine ite_cg (fun _ => ?_) (fun _ => ?_)
  · simp [eTR, gI_pI, gL_pI, gN_pI, gI_pL, gL_pL, gN_pL]
  refine ite_cg (fun _ => ?_) (fun _ => ?_)
  · simp [eTO, gI_pI, gL_pI, gN_pI, gI_pL, gL_pL, gN_pL]
  simp [eSG, gI_pI, gL_pI, gN_pI, gI_pL, gL_pL, gN_pL]
theorem fr_7 (w : Wc) (S : St) (x : Nat) (v : Int32) : ∀ j, j < 187 → j ≠ 21 + x → celC w (pI S 7 x 0 v) j = celC w S j := by
  intro j hj hne
  unfold celC
  refine ite_cg (fun _ => ?_) (fun _ => ?_)
  · rfl
  refine ite_cg (fun _ => ?_) (fun _ => ?_)
  · simp [eLN, gI_pI, gL_pI, gN_pI, gI_pL, gL_pL, gN_pL]
  refine ite_cg (fun _ => ?_) (fun _ => ?_)
  · rfl
  refine ite_cg (fun _ => ?_) (fun _ => ?_)
  · rfl
  refine ite_cg (fun _ => ?_) (fun _ => ?_)
  · simp [eSO, gI_pI, gL_pI, gN_pI, gI_pL, gL_pL, gN_pL]
  refine ite_cg (fun _ => ?_) (fun _ => ?_)
  · simp [eRO, gI_pI, gL_pI, gN_pI, gI_pL, gL_pL, gN_pL]
  refine ite_cg (fun _ => ?_) (fun _ => ?_)
  · simp [eME, gI_pI, gL_pI, gN_pI, gI_pL, gL_pL, gN_pL]
  refine ite_cg (fun _ => ?_) (fun _ => ?_)
  · have h9 : ¬ j - 21 = x := by omega
    simp [eST, gI_pI, gL_pI, gN_pI, gI_pL, gL_pL, gN_pL, h9]
  refine ite_cg (fun _ => ?_) (fun _ => ?_)
  · simp [eCA, gI_pI, gL_pI, gN_pI, gI_pL, gL_pL, gN_pL]
  refine ite_cg (fun _ => ?_) (fun _ => ?_)
  · simp [eTR, gI_pI, gL_pI, gN_pI, gI_pL, gL_pL, gN_pL]
  refine ite_cg (fun _ => ?_) (fun _ => ?_)
  · simp [eTO, gI_pI, gL_pI, gN_pI, gI_pL, gL_pL, gN_pL]
  simp [eSG, gI_pI, gL_pI, gN_pI, gI_pL, gL_pL, gN_pL]
theorem fr_8 (w : Wc) (S : St) (x : Nat) (v : Int32) : ∀ j, j < 187 → j ≠ 21 + x → celC w (pI S 8 x 0 v) j = celC w S j := by
  intro j hj hne
  unfold celC
  refine ite_cg (fun _ => ?_) (fun _ => ?_)
  · rfl
  refine ite_cg (fun _ => ?_) (fun _ => ?_)
  · simp [eLN, gI_pI, gL_pI, gN_pI, gI_pL, gL_pL, gN_pL]
  refine ite_cg (fun _ => ?_) (fun _ => ?_)
  · rfl
  refine ite_cg (fun _ => ?_) (fun _ => ?_)
  · rfl
  refine ite_cg (fun _ => ?_) (fun _ => ?_)
  · simp [eSO, gI_pI, gL_pI, gN_pI, gI_pL, gL_pL, gN_pL]
  refine ite_cg (fun _ => ?_) (fun _ => ?_)
  · simp [eRO, gI_pI, gL_pI, gN_pI, gI_pL, gL_pL, gN_pL]
  refine ite_cg (fun _ => ?_) (fun _ => ?_)
  · simp [eME, gI_pI, gL_pI, gN_pI, gI_pL, gL_pL, gN_pL]
  refine ite_cg (fun _ => ?_) (fun _ => ?_)
  · have h9 : ¬ j - 21 = x := by omega
    simp [eST, gI_pI, gL_pI, gN_pI, gI_pL, gL_pL, gN_pL, h9]
  refine ite_cg (fun _ => ?_) (fun _ => ?_)
  · simp [eCA, gI_pI, gL_pI, gN_pI, gI_pL, gL_pL, gN_pL]
  refine ite_cg (fun _ => ?_) (fun _ => ?_)
  · simp [eTR, gI_pI, gL_pI, gN_pI, gI_pL, gL_pL, gN_pL]
  refine ite_cg (fun _ => ?_) (fun _ => ?_)
  · simp [eTO, gI_pI, gL_pI, gN_pI, gI_pL, gL_pL, gN_pL]
  simp [eSG, gI_pI, gL_pI, gN_pI, gI_pL, gL_pL, gN_pL]
theorem fr_9 (w : Wc) (S : St) (x : Nat) (v : Int32) : ∀ j, j < 187 → j ≠ 21 + x → celC w (pI S 9 x 0 v) j = celC w S j := by
  intro j hj hne
  unfold celC
  refine ite_cg (fun _ => ?_) (fun _ => ?_)
  · rfl
  refine ite_cg (fun _ => ?_) (fun _ => ?_)
  · simp [eLN, gI_pI, gL_pI, gN_pI, gI_pL, gL_pL, gN_pL]
  refine ite_cg (fun _ => ?_) (fun _ => ?_)
  · rfl
  refine ite_cg (fun _ => ?_) (fun _ => ?_)
  · rfl
  refine ite_cg (fun _ => ?_) (fun _ => ?_)
  · simp [eSO, gI_pI, gL_pI, gN_pI, gI_pL, gL_pL, gN_pL]
  refine ite_cg (fun _ => ?_) (fun _ => ?_)
  · simp [eRO, gI_pI, gL_pI, gN_pI, gI_pL, gL_pL, gN_pL]
  refine ite_cg (fun _ => ?_) (fun _ => ?_)
  · simp [eME, gI_pI, gL_pI, gN_pI, gI_pL, gL_pL, gN_pL]
  refine ite_cg (fun _ => ?_) (fun _ => ?_)
  · have h9 : ¬ j - 21 = x := by omega
    simp [eST, gI_pI, gL_pI, gN_pI, gI_pL, gL_pL, gN_pL, h9]
  refine ite_cg (fun _ => ?_) (fun _ => ?_)
  · simp [eCA, gI_pI, gL_pI, gN_pI, gI_pL, gL_pL, gN_pL]
  refine ite_cg (fun _ => ?_) (fun _ => ?_)
  · simp [eTR, gI_pI, gL_pI, gN_pI, gI_pL, gL_pL, gN_pL]
  refine ite_cg (fun _ => ?_) (fun _ => ?_)
  · simp [eTO, gI_pI, gL_pI, gN_pI, gI_pL, gL_pL, gN_pL]
  simp [eSG, gI_pI, gL_pI, gN_pI, gI_pL, gL_pL, gN_pL]
theorem fr_10 (w : Wc) (S : St) (x : Nat) (v : Int32) : ∀ j, j < 187 → j ≠ 21 + x → celC w (pI S 10 x 0 v) j = celC w S j := by
  intro j hj hne
  unfold celC
  refine ite_cg (fun _ => ?_) (fun _ => ?_)
  · rfl
  refine ite_cg (fun _ => ?_) (fun _ => ?_)
  · simp [eLN, gI_pI, gL_pI, gN_pI, gI_pL, gL_pL, gN_pL]
  refine ite_cg (fun _ => ?_) (fun _ => ?_)
  · rfl
  refine ite_cg (fun _ => ?_) (fun _ => ?_)
  · rfl
  refine ite_cg (fun _ => ?_) (fun _ => ?_)
  · simp [eSO, gI_pI, gL_pI, gN_pI, gI_pL, gL_pL, gN_pL]
  refine ite_cg (fun _ => ?_) (fun _ => ?_)
  · simp [eRO, gI_pI, gL_pI, gN_pI, gI_pL, gL_pL, gN_pL]
  refine ite_cg (fun _ => ?_) (fun _ => ?_)
  · simp [eME, gI_pI, gL_pI, gN_pI, gI_pL, gL_pL, gN_pL]
  refine ite_cg (fun _ => ?_) (fun _ => ?_)
  · have h9 : ¬ j - 21 = x := by omega
    simp [eST, gI_pI, gL_pI, gN_pI, gI_pL, gL_pL, gN_pL, h9]
  refine ite_cg (fun _ => ?_) (fun _ => ?_)
  · simp [eCA, gI_pI, gL_pI, gN_pI, gI_pL, gL_pL, gN_pL]
  refine ite_cg (fun _ => ?_) (fun _ => ?_)
  · simp [eTR, gI_pI, gL_pI, gN_pI, gI_pL, gL_pL, gN_pL]
  refine ite_cg (fun _ => ?_) (fun _ => ?_)
  · simp [eTO, gI_pI, gL_pI, gN_pI, gI_pL, gL_pL, gN_pL]
  simp [eSG, gI_pI, gL_pI, gN_pI, gI_pL, gL_pL, gN_pL]
theorem fr_11 (w : Wc) (S : St) (x : Nat) (v : Int32) : ∀ j, j < 187 → j ≠ 21 + x → celC w (pI S 11 x 0 v) j = celC w S j := by
  intro j hj hne
  unfold celC
  refine ite_cg (fun _ => ?_) (fun _ => ?_)
  · rfl
  refine ite_cg (fun _ => ?_) (fun _ => ?_)
  · simp [eLN, gI_pI, gL_pI, gN_pI, gI_pL, gL_pL, gN_pL]
  refine ite_cg (fun _ => ?_) (fun _ => ?_)
  · rfl
  refine ite_cg (fun _ => ?_) (fun _ => ?_)
  · rfl
  refine ite_cg (fun _ => ?_) (fun _ => ?_)
  · simp [eSO, gI_pI, gL_pI, gN_pI, gI_pL, gL_pL, gN_pL]
  refine ite_cg (fun _ => ?_) (fun _ => ?_)
  · simp [eRO, gI_pI, gL_pI, gN_pI, gI_pL, gL_pL, gN_pL]
  refine ite_cg (fun _ => ?_) (fun _ => ?_)
  · simp [eME, gI_pI, gL_pI, gN_pI, gI_pL, gL_pL, gN_pL]
  refine ite_cg (fun _ => ?_) (fun _ => ?_)
  · have h9 : ¬ j - 21 = x := by omega
    simp [eST, gI_pI, gL_pI, gN_pI, gI_pL, gL_pL, gN_pL, h9]
  refine ite_cg (fun _ => ?_) (fun _ => ?_)
  · simp [eCA, gI_pI, gL_pI, gN_pI, gI_pL, gL_pL, gN_pL]
  refine ite_cg (fun _ => ?_) (fun _ => ?_)
  · simp [eTR, gI_pI, gL_pI, gN_pI, gI_pL, gL_pL, gN_pL]
  refine ite_cg (fun _ => ?_) (fun _ => ?_)
  · simp [eTO, gI_pI, gL_pI, gN_pI, gI_pL, gL_pL, gN_pL]
  simp [eSG, gI_pI, gL_pI, gN_pI, gI_pL, gL_pL, gN_pL]
theorem fr_12 (w : Wc) (S : St) (x : Nat) (v : Int32) : ∀ j, j < 187 → j ≠ 21 + x → celC w (pI S 12 x 0 v) j = celC w S j := by
  intro j hj hne
  unfold celC
  refine ite_cg (fun _ => ?_) (fun _ => ?_)
  · rfl
  refine ite_cg (fun _ => ?_) (fun _ => ?_)
  · simp [eLN, gI_pI, gL_pI, gN_pI, gI_pL, gL_pL, gN_pL]
  refine ite_cg (fun _ => ?_) (fun _ => ?_)
  · rfl
  refine ite_cg (fun _ => ?_) (fun _ => ?_)
  · rfl
  refine ite_cg (fun _ => ?_) (fun _ => ?_)
  · simp [eSO, gI_pI, gL_pI, gN_pI, gI_pL, gL_pL, gN_pL]
  refine ite_cg (fun _ => ?_) (fun _ => ?_)
  · simp [eRO, gI_pI, gL_pI, gN_pI, gI_pL, gL_pL, gN_pL]
  refine ite_cg (fun _ => ?_) (fun _ => ?_)
  · simp [eME, gI_pI, gL_pI, gN_pI, gI_pL, gL_pL, gN_pL]
  refine ite_cg (fun _ => ?_) (fun _ => ?_)
  · have h9 : ¬ j - 21 = x := by omega
    simp [eST, gI_pI, gL_pI, gN_pI, gI_pL, gL_pL, gN_pL, h9]
  refine ite_cg (fun _ => ?_) (fun _ => ?_)
  · simp [eCA, gI_pI, gL_pI, gN_pI, gI_pL, gL_pL, gN_pL]
  refine ite_cg (fun _ => ?_) (fun _ => ?_)
  · simp [eTR, gI_pI, gL_pI, gN_pI, gI_pL, gL_pL, gN_pL]
  refine ite_cg (fun _ => ?_) (fun _ => ?_)
  · simp [eTO, gI_pI, gL_pI, gN_pI, gI_pL, gL_pL, gN_pL]
  simp [eSG, gI_pI, gL_pI, gN_pI, gI_pL, gL_pL, gN_pL]
theorem fr_13 (w : Wc) (S : St) (x : Nat) (v : Int32) : ∀ j, j < 187 → j ≠ 21 + x → celC w (pI S 13 x 0 v) j = celC w S j := by
  intro j hj hne
  unfold celC
  refine ite_cg (fun _ => ?_) (fun _ => ?_)
  · rfl
  refine ite_cg (fun _ => ?_) (fun _ => ?_)
  · simp [eLN, gI_pI, gL_pI, gN_pI, gI_pL, gL_pL, gN_pL]
  refine ite_cg (fun _ => ?_) (fun _ => ?_)
  · rfl
  refine ite_cg (fun _ => ?_) (fun _ => ?_)
  · rfl
  refine ite_cg (fun _ => ?_) (fun _ => ?_)
  · simp [eSO, gI_pI, gL_pI, gN_pI, gI_pL, gL_pL, gN_pL]
  refine ite_cg (fun _ => ?_) (fun _ => ?_)
  · simp [eRO, gI_pI, gL_pI, gN_pI, gI_pL, gL_pL, gN_pL]
  refine ite_cg (fun _ => ?_) (fun _ => ?_)
  · simp [eME, gI_pI, gL_pI, gN_pI, gI_pL, gL_pL, gN_pL]
  refine ite_cg (fun _ => ?_) (fun _ => ?_)
  · have h9 : ¬ j - 21 = x := by omega
    simp [eST, gI_pI, gL_pI, gN_pI, gI_pL, gL_pL, gN_pL, h9]
  refine ite_cg (fun _ => ?_) (fun _ => ?_)
  · simp [eCA, gI_pI, gL_pI, gN_pI, gI_pL, gL_pL, gN_pL]
  refine ite_cg (fun _ => ?_) (fun _ => ?_)
  · simp [eTR, gI_pI, gL_pI, gN_pI, gI_pL, gL_pL, gN_pL]
  refine ite_cg (fun _ => ?_) (fun _ => ?_)
  · simp [eTO, gI_pI, gL_pI, gN_pI, gI_pL, gL_pL, gN_pL]
  simp [eSG, gI_pI, gL_pI, gN_pI, gI_pL, gL_pL, gN_pL]
theorem fr_14 (w : Wc) (S : St) (x : Nat) (v : Int32) : ∀ j, j < 187 → j ≠ 37 + x → celC w (pI S 14 x 0 v) j = celC w S j := by
  intro j hj hne
  unfold celC
  refine ite_cg (fun _ => ?_) (fun _ => ?_)
  · rfl
  refine ite_cg (fun _ => ?_) (fun _ => ?_)
  · simp [eLN, gI_pI, gL_pI, gN_pI, gI_pL, gL_pL, gN_pL]
  refine ite_cg (fun _ => ?_) (fun _ => ?_)
  · rfl
  refine ite_cg (fun _ => ?_) (fun _ => ?_)
  · rfl
  refine ite_cg (fun _ => ?_) (fun _ => ?_)
  · simp [eSO, gI_pI, gL_pI, gN_pI, gI_pL, gL_pL, gN_pL]
  refine ite_cg (fun _ => ?_) (fun _ => ?_)
  · simp [eRO, gI_pI, gL_pI, gN_pI, gI_pL, gL_pL, gN_pL]
  refine ite_cg (fun _ => ?_) (fun _ => ?_)
  · simp [eME, gI_pI, gL_pI, gN_pI, gI_pL, gL_pL, gN_pL]
  refine ite_cg (fun _ => ?_) (fun _ => ?_)
  · simp [eST, gI_pI, gL_pI, gN_pI, gI_pL, gL_pL, gN_pL]
  refine ite_cg (fun _ => ?_) (fun _ => ?_)
  · have h9 : ¬ j - 37 = x := by omega
    simp [eCA, gI_pI, gL_pI, gN_pI, gI_pL, gL_pL, gN_pL, h9]
  refine ite_cg (fun _ => ?_) (fun _ => ?_)
  · simp [eTR, gI_pI, gL_pI, gN_pI, gI_pL, gL_pL, gN_pL]
  refine ite_cg (fun _ => ?_) (fun _ => ?_)
  · simp [eTO, gI_pI, gL_pI, gN_pI, gI_pL, gL_pL, gN_pL]
  simp [eSG, gI_pI, gL_pI, gN_pI, gI_pL, gL_pL, gN_pL]
theorem fr_15 (w : Wc) (S : St) (x : Nat) (v : Int32) : ∀ j, j < 187 → j ≠ 37 + x → celC w (pI S 15 x 0 v) j = celC w S j := by
  intro j hj hne
  unfold celC
  refine ite_cg (fun _ => ?_) (fun _ => ?_)
  · rfl
  refine ite_cg (fun _ => ?_) (fun _ => ?_)
  · simp [eLN, gI_pI, gL_pI, gN_pI, gI_pL, gL_pL, gN_pL]
  refine ite_cg (fun _ => ?_) (fun _ => ?_)
  · rfl
  refine ite_cg (fun _ => ?_) (fun _ => ?_)
  · rfl
  refine ite_cg (fun _ => ?_) (fun _ => ?_)
  · simp [eSO, gI_pI, gL_pI, gN_pI, gI_pL, gL_pL, gN_pL]
  refine ite_cg (fun _ => ?_) (fun _ => ?_)
  · simp [eRO, gI_pI, gL_pI, gN_pI, gI_pL, gL_pL, gN_pL]
  refine ite_cg (fun _ => ?_) (fun _ => ?_)
  · simp [eME, gI_pI, gL_pI, gN_pI, gI_pL, gL_pL, gN_pL]
  refine ite_cg (fun _ => ?_) (fun _ => ?_)
  · simp [eST, gI_pI, gL_pI, gN_pI, gI_pL, gL_pL, gN_pL]
  refine ite_cg (fun _ => ?_) (fun _ => ?_)
  · have h9 : ¬ j - 37 = x := by omega
    simp [eCA, gI_pI, gL_pI, gN_pI, gI_pL, gL_pL, gN_pL, h9]
  refine ite_cg (fun _ => ?_) (fun _ => ?_)
  · simp [eTR, gI_pI, gL_pI, gN_pI, gI_pL, gL_pL, gN_pL]
  refine ite_cg (fun _ => ?_) (fun _ => ?_)
  · simp [eTO, gI_pI, gL_pI, gN_pI, gI_pL, gL_pL, gN_pL]
  simp [eSG, gI_pI, gL_pI, gN_pI, gI_pL, gL_pL, gN_pL]
theorem fr_16 (w : Wc) (S : St) (x : Nat) (v : Int32) : ∀ j, j < 187 → j ≠ 37 + x → celC w (pI S 16 x 0 v) j = celC w S j := by
  intro j hj hne
  unfold celC
  refine ite_cg (fun _ => ?_) (fun _ => ?_)
  · rfl
  refine ite_cg (fun _ => ?_) (fun _ => ?_)
  · simp [eLN, gI_pI, gL_pI, gN_pI, gI_pL, gL_pL, gN_pL]
  refine ite_cg (fun _ => ?_) (fun _ => ?_)
  · rfl
  refine ite_cg (fun _ => ?_) (fun _ => ?_)
  · rfl
  refine ite_cg (fun _ => ?_) (fun _ => ?_)
  · simp [eSO, gI_pI, gL_pI, gN_pI, gI_pL, gL_pL, gN_pL]
  refine ite_cg (fun _ => ?_) (fun _ => ?_)
  · simp [eRO, gI_pI, gL_pI, gN_pI, gI_pL, gL_pL, gN_pL]
  refine ite_cg (fun _ => ?_) (fun _ => ?_)
  · simp [eME, gI_pI, gL_pI, gN_pI, gI_pL, gL_pL, gN_pL]
  refine ite_cg (fun _ => ?_) (fun _ => ?_)
  · simp [eST, gI_pI, gL_pI, gN_pI, gI_pL, gL_pL, gN_pL]
  refine ite_cg (fun _ => ?_) (fun _ => ?_)
  · have h9 : ¬ j - 37 = x := by omega
    simp [eCA, gI_pI, gL_pI, gN_pI, gI_pL, gL_pL, gN_pL, h9]
  refine ite_cg (fun _ => ?_) (fun _ => ?_)
  · simp [eTR, gI_pI, gL_pI, gN_pI, gI_pL, gL_pL, gN_pL]
  refine ite_cg (fun _ => ?_) (fun _ => ?_)
  · simp [eTO, gI_pI, gL_pI, gN_pI, gI_pL, gL_pL, gN_pL]
  simp [eSG, gI_pI, gL_pI, gN_pI, gI_pL, gL_pL, gN_pL]
theorem fr_17 (w : Wc) (S : St) (x : Nat) (v : Int32) : ∀ j, j < 187 → j ≠ 37 + x → celC w (pI S 17 x 0 v) j = celC w S j := by
  intro j hj hne
  unfold celC
  refine ite_cg (fun _ => ?_) (fun _ => ?_)
  · rfl
  refine ite_cg (fun _ => ?_) (fun _ => ?_)
  · simp [eLN, gI_pI, gL_pI, gN_pI, gI_pL, gL_pL, gN_pL]
  refine ite_cg (fun _ => ?_) (fun _ => ?_)
  · rfl
  refine ite_cg (fun _ => ?_) (fun _ => ?_)
  · rfl
  refine ite_cg (fun _ => ?_) (fun _ => ?_)
  · simp [eSO, gI_pI, gL_pI, gN_pI, gI_pL, gL_pL, gN_pL]
  refine ite_cg (fun _ => ?_) (fun _ => ?_)
  · simp [eRO, gI_pI, gL_pI, gN_pI, gI_pL, gL_pL, gN_pL]
  refine ite_cg (fun _ => ?_) (fun _ => ?_)
  · simp [eME, gI_pI, gL_pI, gN_pI, gI_pL, gL_pL, gN_pL]
  refine ite_cg (fun _ => ?_) (fun _ => ?_)
  · simp [eST, gI_pI, gL_pI, gN_pI, gI_pL, gL_pL, gN_pL]
  refine ite_cg (fun _ => ?_) (fun _ => ?_)
  · have h9 : ¬ j - 37 = x := by omega
    simp [eCA, gI_pI, gL_pI, gN_pI, gI_pL, gL_pL, gN_pL, h9]
  refine ite_cg (fun _ => ?_) (fun _ => ?_)
  · simp [eTR, gI_pI, gL_pI, gN_pI, gI_pL, gL_pL, gN_pL]
  refine ite_cg (fun _ => ?_) (fun _ => ?_)
  · simp [eTO, gI_pI, gL_pI, gN_pI, gI_pL, gL_pL, gN_pL]
  simp [eSG, gI_pI, gL_pI, gN_pI, gI_pL, gL_pL, gN_pL]
theorem fr_18 (w : Wc) (S : St) (x : Nat) (v : Int32) : ∀ j, j < 187 → j ≠ 37 + x → celC w (pI S 18 x 0 v) j = celC w S j := by
  intro j hj hne
  unfold celC
  refine ite_cg (fun _ => ?_) (fun _ => ?_)
  · rfl
  refine ite_cg (fun _ => ?_) (fun _ => ?_)
  · simp [eLN, gI_pI, gL_pI, gN_pI, gI_pL, gL_pL, gN_pL]
  refine ite_cg (fun _ => ?_) (fun _ => ?_)
  · rfl
  refine ite_cg (fun _ => ?_) (fun _ => ?_)
  · rfl
  refine ite_cg (fun _ => ?_) (fun _ => ?_)
  · simp [eSO, gI_pI, gL_pI, gN_pI, gI_pL, gL_pL, gN_pL]
  refine ite_cg (fun _ => ?_) (fun _ => ?_)
  · simp [eRO, gI_pI, gL_pI, gN_pI, gI_pL, gL_pL, gN_pL]
  refine ite_cg (fun _ => ?_) (fun _ => ?_)
  · simp [eME, gI_pI, gL_pI, gN_pI, gI_pL, gL_pL, gN_pL]
  refine ite_cg (fun _ => ?_) (fun _ => ?_)
  · simp [eST, gI_pI, gL_pI, gN_pI, gI_pL, gL_pL, gN_pL]
  refine ite_cg (fun _ => ?_) (fun _ => ?_)
  · have h9 : ¬ j - 37 = x := by omega
    simp [eCA, gI_pI, gL_pI, gN_pI, gI_pL, gL_pL, gN_pL, h9]
  refine ite_cg (fun _ => ?_) (fun _ => ?_)
  · simp [eTR, gI_pI, gL_pI, gN_pI, gI_pL, gL_pL, gN_pL]
  refine ite_cg (fun _ => ?_) (fun _ => ?_)
  · simp [eTO, gI_pI, gL_pI, gN_pI, gI_pL, gL_pL, gN_pL]
  simp [eSG, gI_pI, gL_pI, gN_pI, gI_pL, gL_pL, gN_pL]
theorem fr_19 (w : Wc) (S : St) (x : Nat) (v : Int32) : ∀ j, j < 187 → j ≠ 37 + x → celC w (pI S 19 x 0 v) j = celC w S j := by
  intro j hj hne
  unfold celC
  refine ite_cg (fun _ => ?_) (fun _ => ?_)
  · rfl
  refine ite_cg (fun _ => ?_) (fun _ => ?_)
  · simp [eLN, gI_pI, gL_pI, gN_pI, gI_pL, gL_pL, gN_pL]
  refine ite_cg (fun _ => ?_) (fun _ => ?_)
  · rfl
  refine ite_cg (fun _ => ?_) (fun _ => ?_)
  · rfl
  refine ite_cg (fun _ => ?_) (fun _ => ?_)
  · simp [eSO, gI_pI, gL_pI, gN_pI, gI_pL, gL_pL, gN_pL]
  refine ite_cg (fun _ => ?_) (fun _ => ?_)
  · simp [eRO, gI_pI, gL_pI, gN_pI, gI_pL, gL_pL, gN_pL]
  refine ite_cg (fun _ => ?_) (fun _ => ?_)
  · simp [eME, gI_pI, gL_pI, gN_pI, gI_pL, gL_pL, gN_pL]
  refine ite_cg (fun _ => ?_) (fun _ => ?_)
  · simp [eST, gI_pI, gL_pI, gN_pI, gI_pL, gL_pL, gN_pL]
  refine ite_cg (fun _ => ?_) (fun _ => ?_)
  · have h9 : ¬ j - 37 = x := by omega
    simp [eCA, gI_pI, gL_pI, gN_pI, gI_pL, gL_pL, gN_pL, h9]
  refine ite_cg (fun _ => ?_) (fun _ => ?_)
  · simp [eTR, gI_pI, gL_pI, gN_pI, gI_pL, gL_pL, gN_pL]
  refine ite_cg (fun _ => ?_) (fun _ => ?_)
  · simp [eTO, gI_pI, gL_pI, gN_pI, gI_pL, gL_pL, gN_pL]
  simp [eSG, gI_pI, gL_pI, gN_pI, gI_pL, gL_pL, gN_pL]
theorem fr_20 (w : Wc) (S : St) (x : Nat) (v : Int32) : ∀ j, j < 187 → j ≠ 37 + x → celC w (pI S 20 x 0 v) j = celC w S j := by
  intro j hj hne
  unfold celC
  refine ite_cg (fun _ => ?_) (fun _ => ?_)
  · rfl
  refine ite_cg (fun _ => ?_) (fun _ => ?_)
  · simp [eLN, gI_pI, gL_pI, gN_pI, gI_pL, gL_pL, gN_pL]
  refine ite_cg (fun _ => ?_) (fun _ => ?_)
  · rfl
  refine ite_cg (fun _ => ?_) (fun _ => ?_)
  · rfl
  refine ite_cg (fun _ => ?_) (fun _ => ?_)
  · simp [eSO, gI_pI, gL_pI, gN_pI, gI_pL, gL_pL, gN_pL]
  refine ite_cg (fun _ => ?_) (fun _ => ?_)
  · simp [eRO, gI_pI, gL_pI, gN_pI, gI_pL, gL_pL, gN_pL]
  refine ite_cg (fun _ => ?_) (fun _ => ?_)
  · simp [eME, gI_pI, gL_pI, gN_pI, gI_pL, gL_pL, gN_pL]
  refine ite_cg (fun _ => ?_) (fun _ => ?_)
  · simp [eST, gI_pI, gL_pI, gN_pI, gI_pL, gL_pL, gN_pL]
  refine ite_cg (fun _ => ?_) (fun _ => ?_)
  · have h9 : ¬ j - 37 = x := by omega
    simp [eCA, gI_pI, gL_pI, gN_pI, gI_pL, gL_pL, gN_pL, h9]
  refine ite_cg (fun _ => ?_) (fun _ => ?_)
  · simp [eTR, gI_pI, gL_pI, gN_pI, gI_pL, gL_pL, gN_pL]
  refine ite_cg (fun _ => ?_) (fun _ => ?_)
  · simp [eTO, gI_pI, gL_pI, gN_pI, gI_pL, gL_pL, gN_pL]
  simp [eSG, gI_pI, gL_pI, gN_pI, gI_pL, gL_pL, gN_pL]
theorem fr_21 (w : Wc) (S : St) (x : Nat) (v : Int32) : ∀ j, j < 187 → j ≠ 37 + x → celC w (pI S 21 x 0 v) j = celC w S j := by
  intro j hj hne
  unfold celC
  refine ite_cg (fun _ => ?_) (fun _ => ?_)
  · rfl
  refine ite_cg (fun _ => ?_) (fun _ => ?_)
  · simp [eLN, gI_pI, gL_pI, gN_pI, gI_pL, gL_pL, gN_pL]
  refine ite_cg (fun _ => ?_) (fun _ => ?_)
  · rfl
  refine ite_cg (fun _ => ?_) (fun _ => ?_)
  · rfl
  refine ite_cg (fun _ => ?_) (fun _ => ?_)
  · simp [eSO, gI_pI, gL_pI, gN_pI, gI_pL, gL_pL, gN_pL]
  refine ite_cg (fun _ => ?_) (fun _ => ?_)
  · simp [eRO, gI_pI, gL_pI, gN_pI, gI_pL, gL_pL, gN_pL]
  refine ite_cg (fun _ => ?_) (fun _ => ?_)
  · simp [eME, gI_pI, gL_pI, gN_pI, gI_pL, gL_pL, gN_pL]
  refine ite_cg (fun _ => ?_) (fun _ => ?_)
  · simp [eST, gI_pI, gL_pI, gN_pI, gI_pL, gL_pL, gN_pL]
  refine ite_cg (fun _ => ?_) (fun _ => ?_)
  · have h9 : ¬ j - 37 = x := by omega
    simp [eCA, gI_pI, gL_pI, gN_pI, gI_pL, gL_pL, gN_pL, h9]
  refine ite_cg (fun _ => ?_) (fun _ => ?_)
  · simp [eTR, gI_pI, gL_pI, gN_pI, gI_pL, gL_pL, gN_pL]
  refine ite_cg (fun _ => ?_) (fun _ => ?_)
  · simp [eTO, gI_pI, gL_pI, gN_pI, gI_pL, gL_pL, gN_pL]
  simp [eSG, gI_pI, gL_pI, gN_pI, gI_pL, gL_pL, gN_pL]
theorem fr_22 (w : Wc) (S : St) (x : Nat) (v : Int32) : ∀ j, j < 187 → j ≠ 37 + x → celC w (pI S 22 x 0 v) j = celC w S j := by
  intro j hj hne
  unfold celC
  refine ite_cg (fun _ => ?_) (fun _ => ?_)
  · rfl
  refine ite_cg (fun _ => ?_) (fun _ => ?_)
  · simp [eLN, gI_pI, gL_pI, gN_pI, gI_pL, gL_pL, gN_pL]
  refine ite_cg (fun _ => ?_) (fun _ => ?_)
  · rfl
  refine ite_cg (fun _ => ?_) (fun _ => ?_)
  · rfl
  refine ite_cg (fun _ => ?_) (fun _ => ?_)
  · simp [eSO, gI_pI, gL_pI, gN_pI, gI_pL, gL_pL, gN_pL]
  refine ite_cg (fun _ => ?_) (fun _ => ?_)
  · simp [eRO, gI_pI, gL_pI, gN_pI, gI_pL, gL_pL, gN_pL]
  refine ite_cg (fun _ => ?_) (fun _ => ?_)
  · simp [eME, gI_pI, gL_pI, gN_pI, gI_pL, gL_pL, gN_pL]
  refine ite_cg (fun _ => ?_) (fun _ => ?_)
  · simp [eST, gI_pI, gL_pI, gN_pI, gI_pL, gL_pL, gN_pL]
  refine ite_cg (fun _ => ?_) (fun _ => ?_)
  · have h9 : ¬ j - 37 = x := by omega
    simp [eCA, gI_pI, gL_pI, gN_pI, gI_pL, gL_pL, gN_pL, h9]
  refine ite_cg (fun _ => ?_) (fun _ => ?_)
  · simp [eTR, gI_pI, gL_pI, gN_pI, gI_pL, gL_pL, gN_pL]
  refine ite_cg (fun _ => ?_) (fun _ => ?_)
  · simp [eTO, gI_pI, gL_pI, gN_pI, gI_pL, gL_pL, gN_pL]
  simp [eSG, gI_pI, gL_pI, gN_pI, gI_pL, gL_pL, gN_pL]
theorem fr_23 (w : Wc) (S : St) (x : Nat) (v : Int32) : ∀ j, j < 187 → j ≠ 97 + x → celC w (pI S 23 x 0 v) j = celC w S j := by
  intro j hj hne
  unfold celC
  refine ite_cg (fun _ => ?_) (fun _ => ?_)
  · rfl
  refine ite_cg (fun _ => ?_) (fun _ => ?_)
  · simp [eLN, gI_pI, gL_pI, gN_pI, gI_pL, gL_pL, gN_pL]
  refine ite_cg (fun _ => ?_) (fun _ => ?_)
  · rfl
  refine ite_cg (fun _ => ?_) (fun _ => ?_)
  · rfl
  refine ite_cg (fun _ => ?_) (fun _ => ?_)
  · simp [eSO, gI_pI, gL_pI, gN_pI, gI_pL, gL_pL, gN_pL]
  refine ite_cg (fun _ => ?_) (fun _ => ?_)
  · simp [eRO, gI_pI, gL_pI, gN_pI, gI_pL, gL_pL, gN_pL]
  refine ite_cg (fun _ => ?_) (fun _ => ?_)
  · simp [eME, gI_pI, gL_pI, gN_pI, gI_pL, gL_pL, gN_pL]
  refine ite_cg (fun _ => ?_) (fun _ => ?_)
  · simp [eST, gI_pI, gL_pI, gN_pI, gI_pL, gL_pL, gN_pL]
  refine ite_cg (fun _ => ?_) (fun _ => ?_)
  · simp [eCA, gI_pI, gL_pI, gN_pI, gI_pL, gL_pL, gN_pL]
  refine ite_cg (fun _ => ?_) (fun _ => ?_)
  · have h9 : ¬ j - 97 = x := by omega
    simp [eTR, gI_pI, gL_pI, gN_pI, gI_pL, gL_pL, gN_pL, h9]
  refine ite_cg (fun _ => ?_) (fun _ => ?_)
  · simp [eTO, gI_pI, gL_pI, gN_pI, gI_pL, gL_pL, gN_pL]
  simp [eSG, gI_pI, gL_pI, gN_pI, gI_pL, gL_pL, gN_pL]
theorem fr_4 (w : Wc) (S : St) (x j0 : Nat) (v : Int32) : ∀ j, j < 187 → j ≠ 7 + x → celC w (pI S 4 x j0 v) j = celC w S j := by
  intro j hj hne
  unfold celC
  refine ite_cg (fun _ => ?_) (fun _ => ?_)
  · rfl
  refine ite_cg (fun _ => ?_) (fun _ => ?_)
  · simp [eLN, gI_pI, gL_pI, gN_pI, gI_pL, gL_pL, gN_pL]
  refine ite_cg (fun _ => ?_) (fun _ => ?_)
  · rfl
  refine ite_cg (fun _ => ?_) (fun _ => ?_)
  · rfl
  refine ite_cg (fun _ => ?_) (fun _ => ?_)
  · have h9 : ¬ j - 7 = x := by omega
    simp [eSO, gI_pI, gL_pI, gN_pI, gI_pL, gL_pL, gN_pL, h9]
  refine ite_cg (fun _ => ?_) (fun _ => ?_)
  · simp [eRO, gI_pI, gL_pI, gN_pI, gI_pL, gL_pL, gN_pL]
  refine ite_cg (fun _ => ?_) (fun _ => ?_)
  · simp [eME, gI_pI, gL_pI, gN_pI, gI_pL, gL_pL, gN_pL]
  refine ite_cg (fun _ => ?_) (fun _ => ?_)
  · simp [eST, gI_pI, gL_pI, gN_pI, gI_pL, gL_pL, gN_pL]
  refine ite_cg (fun _ => ?_) (fun _ => ?_)
  · simp [eCA, gI_pI, gL_pI, gN_pI, gI_pL, gL_pL, gN_pL]
  refine ite_cg (fun _ => ?_) (fun _ => ?_)
  · simp [eTR, gI_pI, gL_pI, gN_pI, gI_pL, gL_pL, gN_pL]
  refine ite_cg (fun _ => ?_) (fun _ => ?_)
  · simp [eTO, gI_pI, gL_pI, gN_pI, gI_pL, gL_pL, gN_pL]
  simp [eSG, gI_pI, gL_pI, gN_pI, gI_pL, gL_pL, gN_pL]
theorem fr_6 (w : Wc) (S : St) (x j0 : Nat) (v : Int32) : ∀ j, j < 187 → j ≠ 15 + x → celC w (pI S 6 x j0 v) j = celC w S j := by
  intro j hj hne
  unfold celC
  refine ite_cg (fun _ => ?_) (fun _ => ?_)
  · rfl
  refine ite_cg (fun _ => ?_) (fun _ => ?_)
  · simp [eLN, gI_pI, gL_pI, gN_pI, gI_pL, gL_pL, gN_pL]
  refine ite_cg (fun _ => ?_) (fun _ => ?_)
  · rfl
  refine ite_cg (fun _ => ?_) (fun _ => ?_)
  · rfl
  refine ite_cg (fun _ => ?_) (fun _ => ?_)
  · simp [eSO, gI_pI, gL_pI, gN_pI, gI_pL, gL_pL, gN_pL]
  refine ite_cg (fun _ => ?_) (fun _ => ?_)
  · simp [eRO, gI_pI, gL_pI, gN_pI, gI_pL, gL_pL, gN_pL]
  refine ite_cg (fun _ => ?_) (fun _ => ?_)
  · have h9 : ¬ j - 15 = x := by omega
    simp [eME, gI_pI, gL_pI, gN_pI, gI_pL, gL_pL, gN_pL, h9]
  refine ite_cg (fun _ => ?_) (fun _ => ?_)
  · simp [eST, gI_pI, gL_pI, gN_pI, gI_pL, gL_pL, gN_pL]
  refine ite_cg (fun _ => ?_) (fun _ => ?_)
  · simp [eCA, gI_pI, gL_pI, gN_pI, gI_pL, gL_pL, gN_pL]
  refine ite_cg (fun _ => ?_) (fun _ => ?_)
  · simp [eTR, gI_pI, gL_pI, gN_pI, gI_pL, gL_pL, gN_pL]
  refine ite_cg (fun _ => ?_) (fun _ => ?_)
  · simp [eTO, gI_pI, gL_pI, gN_pI, gI_pL, gL_pL, gN_pL]
  simp [eSG, gI_pI, gL_pI, gN_pI, gI_pL, gL_pL, gN_pL]
theorem fr_24 (w : Wc) (S : St) (x j0 : Nat) (v : Int32) : ∀ j, j < 187 → j ≠ 127 + x → celC w (pI S 24 x j0 v) j = celC w S j := by
  intro j hj hne
  unfold celC
  refine ite_cg (fun _ => ?_) (fun _ => ?_)
  · rfl
  refine ite_cg (fun _ => ?_) (fun _ => ?_)
  · simp [eLN, gI_pI, gL_pI, gN_pI, gI_pL, gL_pL, gN_pL]
  refine ite_cg (fun _ => ?_) (fun _ => ?_)
  · rfl
  refine ite_cg (fun _ => ?_) (fun _ => ?_)
  · rfl
  refine ite_cg (fun _ => ?_) (fun _ => ?_)
  · simp [eSO, gI_pI, gL_pI, gN_pI, gI_pL, gL_pL, gN_pL]
  refine ite_cg (fun _ => ?_) (fun _ => ?_)
  · simp [eRO, gI_pI, gL_pI, gN_pI, gI_pL, gL_pL, gN_pL]
  refine ite_cg (fun _ => ?_) (fun _ => ?_)
  · simp [eME, gI_pI, gL_pI, gN_pI, gI_pL, gL_pL, gN_pL]
  refine ite_cg (fun _ => ?_) (fun _ => ?_)
  · simp [eST, gI_pI, gL_pI, gN_pI, gI_pL, gL_pL, gN_pL]
  refine ite_cg (fun _ => ?_) (fun _ => ?_)
  · simp [eCA, gI_pI, gL_pI, gN_pI, gI_pL, gL_pL, gN_pL]
  refine ite_cg (fun _ => ?_) (fun _ => ?_)
  · simp [eTR, gI_pI, gL_pI, gN_pI, gI_pL, gL_pL, gN_pL]
  refine ite_cg (fun _ => ?_) (fun _ => ?_)
  · have h9 : ¬ j - 127 = x := by omega
    simp [eTO, gI_pI, gL_pI, gN_pI, gI_pL, gL_pL, gN_pL, h9]
  simp [eSG, gI_pI, gL_pI, gN_pI, gI_pL, gL_pL, gN_pL]
theorem fr_25 (w : Wc) (S : St) (x j0 : Nat) (v : Int32) : ∀ j, j < 187 → j ≠ 157 + x → celC w (pI S 25 x j0 v) j = celC w S j := by
  intro j hj hne
  unfold celC
  refine ite_cg (fun _ => ?_) (fun _ => ?_)
  · rfl
  refine ite_cg (fun _ => ?_) (fun _ => ?_)
  · simp [eLN, gI_pI, gL_pI, gN_pI, gI_pL, gL_pL, gN_pL]
  refine ite_cg (fun _ => ?_) (fun _ => ?_)
  · rfl
  refine ite_cg (fun _ => ?_) (fun _ => ?_)
  · rfl
  refine ite_cg (fun _ => ?_) (fun _ => ?_)
  · simp [eSO, gI_pI, gL_pI, gN_pI, gI_pL, gL_pL, gN_pL]
  refine ite_cg (fun _ => ?_) (fun _ => ?_)
  · simp [eRO, gI_pI, gL_pI, gN_pI, gI_pL, gL_pL, gN_pL]
  refine ite_cg (fun _ => ?_) (fun _ => ?_)
  · simp [eME, gI_pI, gL_pI, gN_pI, gI_pL, gL_pL, gN_pL]
  refine ite_cg (fun _ => ?_) (fun _ => ?_)
  · simp [eST, gI_pI, gL_pI, gN_pI, gI_pL, gL_pL, gN_pL]
  refine ite_cg (fun _ => ?_) (fun _ => ?_)
  · simp [eCA, gI_pI, gL_pI, gN_pI, gI_pL, gL_pL, gN_pL]
  refine ite_cg (fun _ => ?_) (fun _ => ?_)
  · simp [eTR, gI_pI, gL_pI, gN_pI, gI_pL, gL_pL, gN_pL]
  refine ite_cg (fun _ => ?_) (fun _ => ?_)
  · simp [eTO, gI_pI, gL_pI, gN_pI, gI_pL, gL_pL, gN_pL]
  have h9 : ¬ j - 157 = x := by omega
  simp [eSG, gI_pI, gL_pI, gN_pI, gI_pL, gL_pL, gN_pL, h9]
theorem fr_L (w : Wc) (S : St) (x : Nat) (v : Int64) : ∀ j, j < 187 → j ≠ 21 + x → celC w (pL S x v) j = celC w S j := by
  intro j hj hne
  unfold celC
  refine ite_cg (fun _ => ?_) (fun _ => ?_)
  · rfl
  refine ite_cg (fun _ => ?_) (fun _ => ?_)
  · simp [eLN, gI_pI, gL_pI, gN_pI, gI_pL, gL_pL, gN_pL]
  refine ite_cg (fun _ => ?_) (fun _ => ?_)
  · rfl
  refine ite_cg (fun _ => ?_) (fun _ => ?_)
  · rfl
  refine ite_cg (fun _ => ?_) (fun _ => ?_)
  · simp [eSO, gI_pI, gL_pI, gN_pI, gI_pL, gL_pL, gN_pL]
  refine ite_cg (fun _ => ?_) (fun _ => ?_)
  · simp [eRO, gI_pI, gL_pI, gN_pI, gI_pL, gL_pL, gN_pL]
  refine ite_cg (fun _ => ?_) (fun _ => ?_)
  · simp [eME, gI_pI, gL_pI, gN_pI, gI_pL, gL_pL, gN_pL]
  refine ite_cg (fun _ => ?_) (fun _ => ?_)
  · have h9 : ¬ j - 21 = x := by omega
    simp [eST, gI_pI, gL_pI, gN_pI, gI_pL, gL_pL, gN_pL, h9]
  refine ite_cg (fun _ => ?_) (fun _ => ?_)
  · simp [eCA, gI_pI, gL_pI, gN_pI, gI_pL, gL_pL, gN_pL]
  refine ite_cg (fun _ => ?_) (fun _ => ?_)
  · simp [eTR, gI_pI, gL_pI, gN_pI, gI_pL, gL_pL, gN_pL]
  refine ite_cg (fun _ => ?_) (fun _ => ?_)
  · simp [eTO, gI_pI, gL_pI, gN_pI, gI_pL, gL_pL, gN_pL]
  simp [eSG, gI_pI, gL_pI, gN_pI, gI_pL, gL_pL, gN_pL]
section CROWS
variable {p : Program} {l : Launch} {e : Env} {R : Room} {s : State} {m : MethodId} {args : Array Value} {below : List Frame} {meth : Method} {c : Code} {H H0 : Heap} {locs : List Loc} {cells slots : Nat} {Q : State → Prop}
variable {cc : ByteArray} {pc nL : Nat} {ls : Array Slot} {rest : List Value} {own : String} {ρ : Type} {E0 : ρ × St} {S S0 : St} {D : va_G} {A : Nat → Prop} {w : Wc}
theorem g_LC_0 (K0 : CallFix p m c cc nL s args GW own) (hK : va_K D vwCl (tysC w) s) {x : Nat} {k : Nat → PM ρ} (hE : (bnd (rfc 1 x 0) k).1 S = some E0) (hZ : ZZ D 187 (adrC w) (celC w) A S0 H0 S H locs cells slots) {index : Nat} (hlink : Cond.fieldLink own index (TX5 0).1 (TX5 0).2.1 (TX5 0).2.2.1 ∈ GW) (hdg : decode cc pc = .ok (.getfield index, 3)) (kk : ∀ v : Nat, (k v).1 S = some E0 → W p l e R s m args below meth c H locs cells slots Q (F0 m (pc + 3) ls (vr w.2.2.2.2 1 2 v :: rest))) : W p l e R s m args below meth c H locs cells slots Q (F0 m pc ls (vr w.2.2.2.2 0 1 x :: rest)) := by
  obtain ⟨v, S1, h1, h2⟩ := bnd_inv hE
  obtain ⟨hx, h1⟩ := if_ok h1
  cases h1
  rw [vr_ref hx]
  refine row_get K0 hK hZ (q0 := 0 + x) (by omega) (adrC_lo w S (by omega)) (celC_LC w S hx) (C := RX5) (T := TX5) (N := 2) rfl iX5 0 (by decide) hlink rfl hdg ?_
  exact kk _ h2
theorem gN_LC_0 (K0 : CallFix p m c cc nL s args GW own) (hK : va_K D vwCl (tysC w) s) {x : Nat} {k : Nat → PM ρ} (hE : (bnd (rfc 1 x 0) k).1 S = some E0) (hZ : ZZ D 187 (adrC w) (celC w) A S0 H0 S H locs cells slots) {index : Nat} {host : String} (hlink : va_Nw (.fieldLinkNest own index (TX5 0).1 (TX5 0).2.1 (TX5 0).2.2.1 host) s) (hdg : decode cc pc = .ok (.getfield index, 3)) (kk : ∀ v : Nat, (k v).1 S = some E0 → W p l e R s m args below meth c H locs cells slots Q (F0 m (pc + 3) ls (vr w.2.2.2.2 1 2 v :: rest))) : W p l e R s m args below meth c H locs cells slots Q (F0 m pc ls (vr w.2.2.2.2 0 1 x :: rest)) := by
  obtain ⟨v, S1, h1, h2⟩ := bnd_inv hE
  obtain ⟨hx, h1⟩ := if_ok h1
  cases h1
  rw [vr_ref hx]
  refine row_getN K0 hK hZ (q0 := 0 + x) (by omega) (adrC_lo w S (by omega)) (celC_LC w S hx) (C := RX5) (T := TX5) (N := 2) rfl iX5 0 (by decide) hlink rfl hdg ?_
  exact kk _ h2
theorem g_LC_1 (K0 : CallFix p m c cc nL s args GW own) (hK : va_K D vwCl (tysC w) s) {x : Nat} {k : Nat → PM ρ} (hE : (bnd (rfc 1 x 1) k).1 S = some E0) (hZ : ZZ D 187 (adrC w) (celC w) A S0 H0 S H locs cells slots) {index : Nat} (hlink : Cond.fieldLink own index (TX5 1).1 (TX5 1).2.1 (TX5 1).2.2.1 ∈ GW) (hdg : decode cc pc = .ok (.getfield index, 3)) (kk : ∀ v : Nat, (k v).1 S = some E0 → W p l e R s m args below meth c H locs cells slots Q (F0 m (pc + 3) ls (vr w.2.2.2.2 1 2 v :: rest))) : W p l e R s m args below meth c H locs cells slots Q (F0 m pc ls (vr w.2.2.2.2 0 1 x :: rest)) := by
  obtain ⟨v, S1, h1, h2⟩ := bnd_inv hE
  obtain ⟨hx, h1⟩ := if_ok h1
  cases h1
  rw [vr_ref hx]
  refine row_get K0 hK hZ (q0 := 0 + x) (by omega) (adrC_lo w S (by omega)) (celC_LC w S hx) (C := RX5) (T := TX5) (N := 2) rfl iX5 1 (by decide) hlink rfl hdg ?_
  exact kk _ h2
theorem gN_LC_1 (K0 : CallFix p m c cc nL s args GW own) (hK : va_K D vwCl (tysC w) s) {x : Nat} {k : Nat → PM ρ} (hE : (bnd (rfc 1 x 1) k).1 S = some E0) (hZ : ZZ D 187 (adrC w) (celC w) A S0 H0 S H locs cells slots) {index : Nat} {host : String} (hlink : va_Nw (.fieldLinkNest own index (TX5 1).1 (TX5 1).2.1 (TX5 1).2.2.1 host) s) (hdg : decode cc pc = .ok (.getfield index, 3)) (kk : ∀ v : Nat, (k v).1 S = some E0 → W p l e R s m args below meth c H locs cells slots Q (F0 m (pc + 3) ls (vr w.2.2.2.2 1 2 v :: rest))) : W p l e R s m args below meth c H locs cells slots Q (F0 m pc ls (vr w.2.2.2.2 0 1 x :: rest)) := by
  obtain ⟨v, S1, h1, h2⟩ := bnd_inv hE
  obtain ⟨hx, h1⟩ := if_ok h1
  cases h1
  rw [vr_ref hx]
  refine row_getN K0 hK hZ (q0 := 0 + x) (by omega) (adrC_lo w S (by omega)) (celC_LC w S hx) (C := RX5) (T := TX5) (N := 2) rfl iX5 1 (by decide) hlink rfl hdg ?_
  exact kk _ h2
theorem g_LN_0 (K0 : CallFix p m c cc nL s args GW own) (hK : va_K D vwCl (tysC w) s) {x : Nat} {k : Nat → PM ρ} (hE : (bnd (rfc 2 x (x)) k).1 S = some E0) (hZ : ZZ D 187 (adrC w) (celC w) A S0 H0 S H locs cells slots) {index : Nat} (hlink : Cond.fieldLink own index (TX1 0).1 (TX1 0).2.1 (TX1 0).2.2.1 ∈ GW) (hdg : decode cc pc = .ok (.getfield index, 3)) (kk : ∀ v : Nat, (k v).1 S = some E0 → W p l e R s m args below meth c H locs cells slots Q (F0 m (pc + 3) ls (vr w.2.2.2.2 3 2 v :: rest))) : W p l e R s m args below meth c H locs cells slots Q (F0 m pc ls (vr w.2.2.2.2 1 2 x :: rest)) := by
  obtain ⟨v, S1, h1, h2⟩ := bnd_inv hE
  obtain ⟨hx, h1⟩ := if_ok h1
  cases h1
  rw [vr_ref hx]
  refine row_get K0 hK hZ (q0 := 1 + x) (by omega) (adrC_lo w S (by omega)) (celC_LN w S hx) (C := RX1) (T := TX1) (N := 10) rfl iX1 0 (by decide) hlink rfl hdg ?_
  rw [show Value.ref (w.2.2.2.2 (3 + (x))) = vr w.2.2.2.2 3 2 (x) from (vr_ref (by omega)).symm]
  exact kk _ h2
theorem gN_LN_0 (K0 : CallFix p m c cc nL s args GW own) (hK : va_K D vwCl (tysC w) s) {x : Nat} {k : Nat → PM ρ} (hE : (bnd (rfc 2 x (x)) k).1 S = some E0) (hZ : ZZ D 187 (adrC w) (celC w) A S0 H0 S H locs cells slots) {index : Nat} {host : String} (hlink : va_Nw (.fieldLinkNest own index (TX1 0).1 (TX1 0).2.1 (TX1 0).2.2.1 host) s) (hdg : decode cc pc = .ok (.getfield index, 3)) (kk : ∀ v : Nat, (k v).1 S = some E0 → W p l e R s m args below meth c H locs cells slots Q (F0 m (pc + 3) ls (vr w.2.2.2.2 3 2 v :: rest))) : W p l e R s m args below meth c H locs cells slots Q (F0 m pc ls (vr w.2.2.2.2 1 2 x :: rest)) := by
  obtain ⟨v, S1, h1, h2⟩ := bnd_inv hE
  obtain ⟨hx, h1⟩ := if_ok h1
  cases h1
  rw [vr_ref hx]
  refine row_getN K0 hK hZ (q0 := 1 + x) (by omega) (adrC_lo w S (by omega)) (celC_LN w S hx) (C := RX1) (T := TX1) (N := 10) rfl iX1 0 (by decide) hlink rfl hdg ?_
  rw [show Value.ref (w.2.2.2.2 (3 + (x))) = vr w.2.2.2.2 3 2 (x) from (vr_ref (by omega)).symm]
  exact kk _ h2
theorem g_LN_1 (K0 : CallFix p m c cc nL s args GW own) (hK : va_K D vwCl (tysC w) s) {x : Nat} {k : Nat → PM ρ} (hE : (bnd (rfc 2 x (x)) k).1 S = some E0) (hZ : ZZ D 187 (adrC w) (celC w) A S0 H0 S H locs cells slots) {index : Nat} (hlink : Cond.fieldLink own index (TX1 1).1 (TX1 1).2.1 (TX1 1).2.2.1 ∈ GW) (hdg : decode cc pc = .ok (.getfield index, 3)) (kk : ∀ v : Nat, (k v).1 S = some E0 → W p l e R s m args below meth c H locs cells slots Q (F0 m (pc + 3) ls (vr w.2.2.2.2 5 2 v :: rest))) : W p l e R s m args below meth c H locs cells slots Q (F0 m pc ls (vr w.2.2.2.2 1 2 x :: rest)) := by
  obtain ⟨v, S1, h1, h2⟩ := bnd_inv hE
  obtain ⟨hx, h1⟩ := if_ok h1
  cases h1
  rw [vr_ref hx]
  refine row_get K0 hK hZ (q0 := 1 + x) (by omega) (adrC_lo w S (by omega)) (celC_LN w S hx) (C := RX1) (T := TX1) (N := 10) rfl iX1 1 (by decide) hlink rfl hdg ?_
  rw [show Value.ref (w.2.2.2.2 (5 + (x))) = vr w.2.2.2.2 5 2 (x) from (vr_ref (by omega)).symm]
  exact kk _ h2
theorem gN_LN_1 (K0 : CallFix p m c cc nL s args GW own) (hK : va_K D vwCl (tysC w) s) {x : Nat} {k : Nat → PM ρ} (hE : (bnd (rfc 2 x (x)) k).1 S = some E0) (hZ : ZZ D 187 (adrC w) (celC w) A S0 H0 S H locs cells slots) {index : Nat} {host : String} (hlink : va_Nw (.fieldLinkNest own index (TX1 1).1 (TX1 1).2.1 (TX1 1).2.2.1 host) s) (hdg : decode cc pc = .ok (.getfield index, 3)) (kk : ∀ v : Nat, (k v).1 S = some E0 → W p l e R s m args below meth c H locs cells slots Q (F0 m (pc + 3) ls (vr w.2.2.2.2 5 2 v :: rest))) : W p l e R s m args below meth c H locs cells slots Q (F0 m pc ls (vr w.2.2.2.2 1 2 x :: rest)) := by
  obtain ⟨v, S1, h1, h2⟩ := bnd_inv hE
  obtain ⟨hx, h1⟩ := if_ok h1
  cases h1
  rw [vr_ref hx]
  refine row_getN K0 hK hZ (q0 := 1 + x) (by omega) (adrC_lo w S (by omega)) (celC_LN w S hx) (C := RX1) (T := TX1) (N := 10) rfl iX1 1 (by decide) hlink rfl hdg ?_
  rw [show Value.ref (w.2.2.2.2 (5 + (x))) = vr w.2.2.2.2 5 2 (x) from (vr_ref (by omega)).symm]
  exact kk _ h2
theorem g_LN_2 (K0 : CallFix p m c cc nL s args GW own) (hK : va_K D vwCl (tysC w) s) {x : Nat} {k : Nat → PM ρ} (hE : (bnd (rfc 2 x (x)) k).1 S = some E0) (hZ : ZZ D 187 (adrC w) (celC w) A S0 H0 S H locs cells slots) {index : Nat} (hlink : Cond.fieldLink own index (TX1 2).1 (TX1 2).2.1 (TX1 2).2.2.1 ∈ GW) (hdg : decode cc pc = .ok (.getfield index, 3)) (kk : ∀ v : Nat, (k v).1 S = some E0 → W p l e R s m args below meth c H locs cells slots Q (F0 m (pc + 3) ls (vr w.2.2.2.2 7 2 v :: rest))) : W p l e R s m args below meth c H locs cells slots Q (F0 m pc ls (vr w.2.2.2.2 1 2 x :: rest)) := by
  obtain ⟨v, S1, h1, h2⟩ := bnd_inv hE
  obtain ⟨hx, h1⟩ := if_ok h1
  cases h1
  rw [vr_ref hx]
  refine row_get K0 hK hZ (q0 := 1 + x) (by omega) (adrC_lo w S (by omega)) (celC_LN w S hx) (C := RX1) (T := TX1) (N := 10) rfl iX1 2 (by decide) hlink rfl hdg ?_
  rw [show Value.ref (w.2.2.2.2 (7 + (x))) = vr w.2.2.2.2 7 2 (x) from (vr_ref (by omega)).symm]
  exact kk _ h2
theorem gN_LN_2 (K0 : CallFix p m c cc nL s args GW own) (hK : va_K D vwCl (tysC w) s) {x : Nat} {k : Nat → PM ρ} (hE : (bnd (rfc 2 x (x)) k).1 S = some E0) (hZ : ZZ D 187 (adrC w) (celC w) A S0 H0 S H locs cells slots) {index : Nat} {host : String} (hlink : va_Nw (.fieldLinkNest own index (TX1 2).1 (TX1 2).2.1 (TX1 2).2.2.1 host) s) (hdg : decode cc pc = .ok (.getfield index, 3)) (kk : ∀ v : Nat, (k v).1 S = some E0 → W p l e R s m args below meth c H locs cells slots Q (F0 m (pc + 3) ls (vr w.2.2.2.2 7 2 v :: rest))) : W p l e R s m args below meth c H locs cells slots Q (F0 m pc ls (vr w.2.2.2.2 1 2 x :: rest)) := by
  obtain ⟨v, S1, h1, h2⟩ := bnd_inv hE
  obtain ⟨hx, h1⟩ := if_ok h1
  cases h1
  rw [vr_ref hx]
  refine row_getN K0 hK hZ (q0 := 1 + x) (by omega) (adrC_lo w S (by omega)) (celC_LN w S hx) (C := RX1) (T := TX1) (N := 10) rfl iX1 2 (by decide) hlink rfl hdg ?_
  rw [show Value.ref (w.2.2.2.2 (7 + (x))) = vr w.2.2.2.2 7 2 (x) from (vr_ref (by omega)).symm]
  exact kk _ h2
theorem g_LN_3 (K0 : CallFix p m c cc nL s args GW own) (hK : va_K D vwCl (tysC w) s) {x : Nat} {k : Nat → PM ρ} (hE : (bnd (rfc 2 x (3 * x)) k).1 S = some E0) (hZ : ZZ D 187 (adrC w) (celC w) A S0 H0 S H locs cells slots) {index : Nat} (hlink : Cond.fieldLink own index (TX1 3).1 (TX1 3).2.1 (TX1 3).2.2.1 ∈ GW) (hdg : decode cc pc = .ok (.getfield index, 3)) (kk : ∀ v : Nat, (k v).1 S = some E0 → W p l e R s m args below meth c H locs cells slots Q (F0 m (pc + 3) ls (vr w.2.2.2.2 9 6 v :: rest))) : W p l e R s m args below meth c H locs cells slots Q (F0 m pc ls (vr w.2.2.2.2 1 2 x :: rest)) := by
  obtain ⟨v, S1, h1, h2⟩ := bnd_inv hE
  obtain ⟨hx, h1⟩ := if_ok h1
  cases h1
  rw [vr_ref hx]
  refine row_get K0 hK hZ (q0 := 1 + x) (by omega) (adrC_lo w S (by omega)) (celC_LN w S hx) (C := RX1) (T := TX1) (N := 10) rfl iX1 3 (by decide) hlink rfl hdg ?_
  rw [show Value.ref (w.2.2.2.2 (9 + (3 * x))) = vr w.2.2.2.2 9 6 (3 * x) from (vr_ref (by omega)).symm]
  exact kk _ h2
theorem gN_LN_3 (K0 : CallFix p m c cc nL s args GW own) (hK : va_K D vwCl (tysC w) s) {x : Nat} {k : Nat → PM ρ} (hE : (bnd (rfc 2 x (3 * x)) k).1 S = some E0) (hZ : ZZ D 187 (adrC w) (celC w) A S0 H0 S H locs cells slots) {index : Nat} {host : String} (hlink : va_Nw (.fieldLinkNest own index (TX1 3).1 (TX1 3).2.1 (TX1 3).2.2.1 host) s) (hdg : decode cc pc = .ok (.getfield index, 3)) (kk : ∀ v : Nat, (k v).1 S = some E0 → W p l e R s m args below meth c H locs cells slots Q (F0 m (pc + 3) ls (vr w.2.2.2.2 9 6 v :: rest))) : W p l e R s m args below meth c H locs cells slots Q (F0 m pc ls (vr w.2.2.2.2 1 2 x :: rest)) := by
  obtain ⟨v, S1, h1, h2⟩ := bnd_inv hE
  obtain ⟨hx, h1⟩ := if_ok h1
  cases h1
  rw [vr_ref hx]
  refine row_getN K0 hK hZ (q0 := 1 + x) (by omega) (adrC_lo w S (by omega)) (celC_LN w S hx) (C := RX1) (T := TX1) (N := 10) rfl iX1 3 (by decide) hlink rfl hdg ?_
  rw [show Value.ref (w.2.2.2.2 (9 + (3 * x))) = vr w.2.2.2.2 9 6 (3 * x) from (vr_ref (by omega)).symm]
  exact kk _ h2
theorem g_LN_4 (K0 : CallFix p m c cc nL s args GW own) (hK : va_K D vwCl (tysC w) s) {x : Nat} {k : Nat → PM ρ} (hE : (bnd (rfc 2 x (3 * x + 1)) k).1 S = some E0) (hZ : ZZ D 187 (adrC w) (celC w) A S0 H0 S H locs cells slots) {index : Nat} (hlink : Cond.fieldLink own index (TX1 4).1 (TX1 4).2.1 (TX1 4).2.2.1 ∈ GW) (hdg : decode cc pc = .ok (.getfield index, 3)) (kk : ∀ v : Nat, (k v).1 S = some E0 → W p l e R s m args below meth c H locs cells slots Q (F0 m (pc + 3) ls (vr w.2.2.2.2 9 6 v :: rest))) : W p l e R s m args below meth c H locs cells slots Q (F0 m pc ls (vr w.2.2.2.2 1 2 x :: rest)) := by
  obtain ⟨v, S1, h1, h2⟩ := bnd_inv hE
  obtain ⟨hx, h1⟩ := if_ok h1
  cases h1
  rw [vr_ref hx]
  refine row_get K0 hK hZ (q0 := 1 + x) (by omega) (adrC_lo w S (by omega)) (celC_LN w S hx) (C := RX1) (T := TX1) (N := 10) rfl iX1 4 (by decide) hlink rfl hdg ?_
  rw [show Value.ref (w.2.2.2.2 (9 + (3 * x + 1))) = vr w.2.2.2.2 9 6 (3 * x + 1) from (vr_ref (by omega)).symm]
  exact kk _ h2
theorem gN_LN_4 (K0 : CallFix p m c cc nL s args GW own) (hK : va_K D vwCl (tysC w) s) {x : Nat} {k : Nat → PM ρ} (hE : (bnd (rfc 2 x (3 * x + 1)) k).1 S = some E0) (hZ : ZZ D 187 (adrC w) (celC w) A S0 H0 S H locs cells slots) {index : Nat} {host : String} (hlink : va_Nw (.fieldLinkNest own index (TX1 4).1 (TX1 4).2.1 (TX1 4).2.2.1 host) s) (hdg : decode cc pc = .ok (.getfield index, 3)) (kk : ∀ v : Nat, (k v).1 S = some E0 → W p l e R s m args below meth c H locs cells slots Q (F0 m (pc + 3) ls (vr w.2.2.2.2 9 6 v :: rest))) : W p l e R s m args below meth c H locs cells slots Q (F0 m pc ls (vr w.2.2.2.2 1 2 x :: rest)) := by
  obtain ⟨v, S1, h1, h2⟩ := bnd_inv hE
  obtain ⟨hx, h1⟩ := if_ok h1
  cases h1
  rw [vr_ref hx]
  refine row_getN K0 hK hZ (q0 := 1 + x) (by omega) (adrC_lo w S (by omega)) (celC_LN w S hx) (C := RX1) (T := TX1) (N := 10) rfl iX1 4 (by decide) hlink rfl hdg ?_
  rw [show Value.ref (w.2.2.2.2 (9 + (3 * x + 1))) = vr w.2.2.2.2 9 6 (3 * x + 1) from (vr_ref (by omega)).symm]
  exact kk _ h2
theorem g_LN_5 (K0 : CallFix p m c cc nL s args GW own) (hK : va_K D vwCl (tysC w) s) {x : Nat} {k : Nat → PM ρ} (hE : (bnd (rfc 2 x (3 * x + 2)) k).1 S = some E0) (hZ : ZZ D 187 (adrC w) (celC w) A S0 H0 S H locs cells slots) {index : Nat} (hlink : Cond.fieldLink own index (TX1 5).1 (TX1 5).2.1 (TX1 5).2.2.1 ∈ GW) (hdg : decode cc pc = .ok (.getfield index, 3)) (kk : ∀ v : Nat, (k v).1 S = some E0 → W p l e R s m args below meth c H locs cells slots Q (F0 m (pc + 3) ls (vr w.2.2.2.2 9 6 v :: rest))) : W p l e R s m args below meth c H locs cells slots Q (F0 m pc ls (vr w.2.2.2.2 1 2 x :: rest)) := by
  obtain ⟨v, S1, h1, h2⟩ := bnd_inv hE
  obtain ⟨hx, h1⟩ := if_ok h1
  cases h1
  rw [vr_ref hx]
  refine row_get K0 hK hZ (q0 := 1 + x) (by omega) (adrC_lo w S (by omega)) (celC_LN w S hx) (C := RX1) (T := TX1) (N := 10) rfl iX1 5 (by decide) hlink rfl hdg ?_
  rw [show Value.ref (w.2.2.2.2 (9 + (3 * x + 2))) = vr w.2.2.2.2 9 6 (3 * x + 2) from (vr_ref (by omega)).symm]
  exact kk _ h2
theorem gN_LN_5 (K0 : CallFix p m c cc nL s args GW own) (hK : va_K D vwCl (tysC w) s) {x : Nat} {k : Nat → PM ρ} (hE : (bnd (rfc 2 x (3 * x + 2)) k).1 S = some E0) (hZ : ZZ D 187 (adrC w) (celC w) A S0 H0 S H locs cells slots) {index : Nat} {host : String} (hlink : va_Nw (.fieldLinkNest own index (TX1 5).1 (TX1 5).2.1 (TX1 5).2.2.1 host) s) (hdg : decode cc pc = .ok (.getfield index, 3)) (kk : ∀ v : Nat, (k v).1 S = some E0 → W p l e R s m args below meth c H locs cells slots Q (F0 m (pc + 3) ls (vr w.2.2.2.2 9 6 v :: rest))) : W p l e R s m args below meth c H locs cells slots Q (F0 m pc ls (vr w.2.2.2.2 1 2 x :: rest)) := by
  obtain ⟨v, S1, h1, h2⟩ := bnd_inv hE
  obtain ⟨hx, h1⟩ := if_ok h1
  cases h1
  rw [vr_ref hx]
  refine row_getN K0 hK hZ (q0 := 1 + x) (by omega) (adrC_lo w S (by omega)) (celC_LN w S hx) (C := RX1) (T := TX1) (N := 10) rfl iX1 5 (by decide) hlink rfl hdg ?_
  rw [show Value.ref (w.2.2.2.2 (9 + (3 * x + 2))) = vr w.2.2.2.2 9 6 (3 * x + 2) from (vr_ref (by omega)).symm]
  exact kk _ h2
theorem g_LN_6 (K0 : CallFix p m c cc nL s args GW own) (hK : va_K D vwCl (tysC w) s) {x : Nat} {k : Int32 → PM ρ} (hE : (bnd (rdc 2 x 0) k).1 S = some E0) (hZ : ZZ D 187 (adrC w) (celC w) A S0 H0 S H locs cells slots) {index : Nat} (hlink : Cond.fieldLink own index (TX1 6).1 (TX1 6).2.1 (TX1 6).2.2.1 ∈ GW) (hdg : decode cc pc = .ok (.getfield index, 3)) (kk : ∀ v : Int32, (k v).1 S = some E0 → W p l e R s m args below meth c H locs cells slots Q (F0 m (pc + 3) ls (.int v :: rest))) : W p l e R s m args below meth c H locs cells slots Q (F0 m pc ls (vr w.2.2.2.2 1 2 x :: rest)) := by
  obtain ⟨v, S1, h1, h2⟩ := bnd_inv hE
  obtain ⟨hx, h1⟩ := if_ok h1
  cases h1
  rw [vr_ref hx]
  refine row_get K0 hK hZ (q0 := 1 + x) (by omega) (adrC_lo w S (by omega)) (celC_LN w S hx) (C := RX1) (T := TX1) (N := 10) rfl iX1 6 (by decide) hlink rfl hdg ?_
  exact kk _ h2
theorem gN_LN_6 (K0 : CallFix p m c cc nL s args GW own) (hK : va_K D vwCl (tysC w) s) {x : Nat} {k : Int32 → PM ρ} (hE : (bnd (rdc 2 x 0) k).1 S = some E0) (hZ : ZZ D 187 (adrC w) (celC w) A S0 H0 S H locs cells slots) {index : Nat} {host : String} (hlink : va_Nw (.fieldLinkNest own index (TX1 6).1 (TX1 6).2.1 (TX1 6).2.2.1 host) s) (hdg : decode cc pc = .ok (.getfield index, 3)) (kk : ∀ v : Int32, (k v).1 S = some E0 → W p l e R s m args below meth c H locs cells slots Q (F0 m (pc + 3) ls (.int v :: rest))) : W p l e R s m args below meth c H locs cells slots Q (F0 m pc ls (vr w.2.2.2.2 1 2 x :: rest)) := by
  obtain ⟨v, S1, h1, h2⟩ := bnd_inv hE
  obtain ⟨hx, h1⟩ := if_ok h1
  cases h1
  rw [vr_ref hx]
  refine row_getN K0 hK hZ (q0 := 1 + x) (by omega) (adrC_lo w S (by omega)) (celC_LN w S hx) (C := RX1) (T := TX1) (N := 10) rfl iX1 6 (by decide) hlink rfl hdg ?_
  exact kk _ h2
theorem g_LN_7 (K0 : CallFix p m c cc nL s args GW own) (hK : va_K D vwCl (tysC w) s) {x : Nat} {k : Int32 → PM ρ} (hE : (bnd (rdc 2 x 1) k).1 S = some E0) (hZ : ZZ D 187 (adrC w) (celC w) A S0 H0 S H locs cells slots) {index : Nat} (hlink : Cond.fieldLink own index (TX1 7).1 (TX1 7).2.1 (TX1 7).2.2.1 ∈ GW) (hdg : decode cc pc = .ok (.getfield index, 3)) (kk : ∀ v : Int32, (k v).1 S = some E0 → W p l e R s m args below meth c H locs cells slots Q (F0 m (pc + 3) ls (.int v :: rest))) : W p l e R s m args below meth c H locs cells slots Q (F0 m pc ls (vr w.2.2.2.2 1 2 x :: rest)) := by
  obtain ⟨v, S1, h1, h2⟩ := bnd_inv hE
  obtain ⟨hx, h1⟩ := if_ok h1
  cases h1
  rw [vr_ref hx]
  refine row_get K0 hK hZ (q0 := 1 + x) (by omega) (adrC_lo w S (by omega)) (celC_LN w S hx) (C := RX1) (T := TX1) (N := 10) rfl iX1 7 (by decide) hlink rfl hdg ?_
  exact kk _ h2
theorem gN_LN_7 (K0 : CallFix p m c cc nL s args GW own) (hK : va_K D vwCl (tysC w) s) {x : Nat} {k : Int32 → PM ρ} (hE : (bnd (rdc 2 x 1) k).1 S = some E0) (hZ : ZZ D 187 (adrC w) (celC w) A S0 H0 S H locs cells slots) {index : Nat} {host : String} (hlink : va_Nw (.fieldLinkNest own index (TX1 7).1 (TX1 7).2.1 (TX1 7).2.2.1 host) s) (hdg : decode cc pc = .ok (.getfield index, 3)) (kk : ∀ v : Int32, (k v).1 S = some E0 → W p l e R s m args below meth c H locs cells slots Q (F0 m (pc + 3) ls (.int v :: rest))) : W p l e R s m args below meth c H locs cells slots Q (F0 m pc ls (vr w.2.2.2.2 1 2 x :: rest)) := by
  obtain ⟨v, S1, h1, h2⟩ := bnd_inv hE
  obtain ⟨hx, h1⟩ := if_ok h1
  cases h1
  rw [vr_ref hx]
  refine row_getN K0 hK hZ (q0 := 1 + x) (by omega) (adrC_lo w S (by omega)) (celC_LN w S hx) (C := RX1) (T := TX1) (N := 10) rfl iX1 7 (by decide) hlink rfl hdg ?_
  exact kk _ h2
theorem g_LN_8 (K0 : CallFix p m c cc nL s args GW own) (hK : va_K D vwCl (tysC w) s) {x : Nat} {k : Int32 → PM ρ} (hE : (bnd (rdc 2 x 2) k).1 S = some E0) (hZ : ZZ D 187 (adrC w) (celC w) A S0 H0 S H locs cells slots) {index : Nat} (hlink : Cond.fieldLink own index (TX1 8).1 (TX1 8).2.1 (TX1 8).2.2.1 ∈ GW) (hdg : decode cc pc = .ok (.getfield index, 3)) (kk : ∀ v : Int32, (k v).1 S = some E0 → W p l e R s m args below meth c H locs cells slots Q (F0 m (pc + 3) ls (.int v :: rest))) : W p l e R s m args below meth c H locs cells slots Q (F0 m pc ls (vr w.2.2.2.2 1 2 x :: rest)) := by
  obtain ⟨v, S1, h1, h2⟩ := bnd_inv hE
  obtain ⟨hx, h1⟩ := if_ok h1
  cases h1
  rw [vr_ref hx]
  refine row_get K0 hK hZ (q0 := 1 + x) (by omega) (adrC_lo w S (by omega)) (celC_LN w S hx) (C := RX1) (T := TX1) (N := 10) rfl iX1 8 (by decide) hlink rfl hdg ?_
  exact kk _ h2
theorem gN_LN_8 (K0 : CallFix p m c cc nL s args GW own) (hK : va_K D vwCl (tysC w) s) {x : Nat} {k : Int32 → PM ρ} (hE : (bnd (rdc 2 x 2) k).1 S = some E0) (hZ : ZZ D 187 (adrC w) (celC w) A S0 H0 S H locs cells slots) {index : Nat} {host : String} (hlink : va_Nw (.fieldLinkNest own index (TX1 8).1 (TX1 8).2.1 (TX1 8).2.2.1 host) s) (hdg : decode cc pc = .ok (.getfield index, 3)) (kk : ∀ v : Int32, (k v).1 S = some E0 → W p l e R s m args below meth c H locs cells slots Q (F0 m (pc + 3) ls (.int v :: rest))) : W p l e R s m args below meth c H locs cells slots Q (F0 m pc ls (vr w.2.2.2.2 1 2 x :: rest)) := by
  obtain ⟨v, S1, h1, h2⟩ := bnd_inv hE
  obtain ⟨hx, h1⟩ := if_ok h1
  cases h1
  rw [vr_ref hx]
  refine row_getN K0 hK hZ (q0 := 1 + x) (by omega) (adrC_lo w S (by omega)) (celC_LN w S hx) (C := RX1) (T := TX1) (N := 10) rfl iX1 8 (by decide) hlink rfl hdg ?_
  exact kk _ h2
theorem g_LN_9 (K0 : CallFix p m c cc nL s args GW own) (hK : va_K D vwCl (tysC w) s) {x : Nat} {k : Int32 → PM ρ} (hE : (bnd (rdc 2 x 3) k).1 S = some E0) (hZ : ZZ D 187 (adrC w) (celC w) A S0 H0 S H locs cells slots) {index : Nat} (hlink : Cond.fieldLink own index (TX1 9).1 (TX1 9).2.1 (TX1 9).2.2.1 ∈ GW) (hdg : decode cc pc = .ok (.getfield index, 3)) (kk : ∀ v : Int32, (k v).1 S = some E0 → W p l e R s m args below meth c H locs cells slots Q (F0 m (pc + 3) ls (.int v :: rest))) : W p l e R s m args below meth c H locs cells slots Q (F0 m pc ls (vr w.2.2.2.2 1 2 x :: rest)) := by
  obtain ⟨v, S1, h1, h2⟩ := bnd_inv hE
  obtain ⟨hx, h1⟩ := if_ok h1
  cases h1
  rw [vr_ref hx]
  refine row_get K0 hK hZ (q0 := 1 + x) (by omega) (adrC_lo w S (by omega)) (celC_LN w S hx) (C := RX1) (T := TX1) (N := 10) rfl iX1 9 (by decide) hlink rfl hdg ?_
  exact kk _ h2
theorem gN_LN_9 (K0 : CallFix p m c cc nL s args GW own) (hK : va_K D vwCl (tysC w) s) {x : Nat} {k : Int32 → PM ρ} (hE : (bnd (rdc 2 x 3) k).1 S = some E0) (hZ : ZZ D 187 (adrC w) (celC w) A S0 H0 S H locs cells slots) {index : Nat} {host : String} (hlink : va_Nw (.fieldLinkNest own index (TX1 9).1 (TX1 9).2.1 (TX1 9).2.2.1 host) s) (hdg : decode cc pc = .ok (.getfield index, 3)) (kk : ∀ v : Int32, (k v).1 S = some E0 → W p l e R s m args below meth c H locs cells slots Q (F0 m (pc + 3) ls (.int v :: rest))) : W p l e R s m args below meth c H locs cells slots Q (F0 m pc ls (vr w.2.2.2.2 1 2 x :: rest)) := by
  obtain ⟨v, S1, h1, h2⟩ := bnd_inv hE
  obtain ⟨hx, h1⟩ := if_ok h1
  cases h1
  rw [vr_ref hx]
  refine row_getN K0 hK hZ (q0 := 1 + x) (by omega) (adrC_lo w S (by omega)) (celC_LN w S hx) (C := RX1) (T := TX1) (N := 10) rfl iX1 9 (by decide) hlink rfl hdg ?_
  exact kk _ h2
theorem g_RO_0 (K0 : CallFix p m c cc nL s args GW own) (hK : va_K D vwCl (tysC w) s) {x : Nat} {k : Nat → PM ρ} (hE : (bnd (rfc 6 x x) k).1 S = some E0) (hZ : ZZ D 187 (adrC w) (celC w) A S0 H0 S H locs cells slots) {index : Nat} (hlink : Cond.fieldLink own index (TX2 0).1 (TX2 0).2.1 (TX2 0).2.2.1 ∈ GW) (hdg : decode cc pc = .ok (.getfield index, 3)) (kk : ∀ v : Nat, (k v).1 S = some E0 → W p l e R s m args below meth c H locs cells slots Q (F0 m (pc + 3) ls (vr w.2.2.2.2 15 6 v :: rest))) : W p l e R s m args below meth c H locs cells slots Q (F0 m pc ls (vr w.2.2.2.2 9 6 x :: rest)) := by
  obtain ⟨v, S1, h1, h2⟩ := bnd_inv hE
  obtain ⟨hx, h1⟩ := if_ok h1
  cases h1
  rw [vr_ref hx]
  refine row_get K0 hK hZ (q0 := 9 + x) (by omega) (adrC_lo w S (by omega)) (celC_RO w S hx) (C := RX2) (T := TX2) (N := 2) rfl iX2 0 (by decide) hlink rfl hdg ?_
  rw [show Value.ref (w.2.2.2.2 (15 + (x))) = vr w.2.2.2.2 15 6 (x) from (vr_ref (by omega)).symm]
  exact kk _ h2
theorem gN_RO_0 (K0 : CallFix p m c cc nL s args GW own) (hK : va_K D vwCl (tysC w) s) {x : Nat} {k : Nat → PM ρ} (hE : (bnd (rfc 6 x x) k).1 S = some E0) (hZ : ZZ D 187 (adrC w) (celC w) A S0 H0 S H locs cells slots) {index : Nat} {host : String} (hlink : va_Nw (.fieldLinkNest own index (TX2 0).1 (TX2 0).2.1 (TX2 0).2.2.1 host) s) (hdg : decode cc pc = .ok (.getfield index, 3)) (kk : ∀ v : Nat, (k v).1 S = some E0 → W p l e R s m args below meth c H locs cells slots Q (F0 m (pc + 3) ls (vr w.2.2.2.2 15 6 v :: rest))) : W p l e R s m args below meth c H locs cells slots Q (F0 m pc ls (vr w.2.2.2.2 9 6 x :: rest)) := by
  obtain ⟨v, S1, h1, h2⟩ := bnd_inv hE
  obtain ⟨hx, h1⟩ := if_ok h1
  cases h1
  rw [vr_ref hx]
  refine row_getN K0 hK hZ (q0 := 9 + x) (by omega) (adrC_lo w S (by omega)) (celC_RO w S hx) (C := RX2) (T := TX2) (N := 2) rfl iX2 0 (by decide) hlink rfl hdg ?_
  rw [show Value.ref (w.2.2.2.2 (15 + (x))) = vr w.2.2.2.2 15 6 (x) from (vr_ref (by omega)).symm]
  exact kk _ h2
theorem g_RO_1 (K0 : CallFix p m c cc nL s args GW own) (hK : va_K D vwCl (tysC w) s) {x : Nat} {k : Int32 → PM ρ} (hE : (bnd (rdc 6 x 5) k).1 S = some E0) (hZ : ZZ D 187 (adrC w) (celC w) A S0 H0 S H locs cells slots) {index : Nat} (hlink : Cond.fieldLink own index (TX2 1).1 (TX2 1).2.1 (TX2 1).2.2.1 ∈ GW) (hdg : decode cc pc = .ok (.getfield index, 3)) (kk : ∀ v : Int32, (k v).1 S = some E0 → W p l e R s m args below meth c H locs cells slots Q (F0 m (pc + 3) ls (.int v :: rest))) : W p l e R s m args below meth c H locs cells slots Q (F0 m pc ls (vr w.2.2.2.2 9 6 x :: rest)) := by
  obtain ⟨v, S1, h1, h2⟩ := bnd_inv hE
  obtain ⟨hx, h1⟩ := if_ok h1
  cases h1
  rw [vr_ref hx]
  refine row_get K0 hK hZ (q0 := 9 + x) (by omega) (adrC_lo w S (by omega)) (celC_RO w S hx) (C := RX2) (T := TX2) (N := 2) rfl iX2 1 (by decide) hlink rfl hdg ?_
  exact kk _ h2
theorem gN_RO_1 (K0 : CallFix p m c cc nL s args GW own) (hK : va_K D vwCl (tysC w) s) {x : Nat} {k : Int32 → PM ρ} (hE : (bnd (rdc 6 x 5) k).1 S = some E0) (hZ : ZZ D 187 (adrC w) (celC w) A S0 H0 S H locs cells slots) {index : Nat} {host : String} (hlink : va_Nw (.fieldLinkNest own index (TX2 1).1 (TX2 1).2.1 (TX2 1).2.2.1 host) s) (hdg : decode cc pc = .ok (.getfield index, 3)) (kk : ∀ v : Int32, (k v).1 S = some E0 → W p l e R s m args below meth c H locs cells slots Q (F0 m (pc + 3) ls (.int v :: rest))) : W p l e R s m args below meth c H locs cells slots Q (F0 m pc ls (vr w.2.2.2.2 9 6 x :: rest)) := by
  obtain ⟨v, S1, h1, h2⟩ := bnd_inv hE
  obtain ⟨hx, h1⟩ := if_ok h1
  cases h1
  rw [vr_ref hx]
  refine row_getN K0 hK hZ (q0 := 9 + x) (by omega) (adrC_lo w S (by omega)) (celC_RO w S hx) (C := RX2) (T := TX2) (N := 2) rfl iX2 1 (by decide) hlink rfl hdg ?_
  exact kk _ h2
theorem g_ST_0 (K0 : CallFix p m c cc nL s args GW own) (hK : va_K D vwCl (tysC w) s) {x : Nat} {k : Int32 → PM ρ} (hE : (bnd (rdc 16 x 7) k).1 S = some E0) (hZ : ZZ D 187 (adrC w) (celC w) A S0 H0 S H locs cells slots) {index : Nat} (hlink : Cond.fieldLink own index (TX3 0).1 (TX3 0).2.1 (TX3 0).2.2.1 ∈ GW) (hdg : decode cc pc = .ok (.getfield index, 3)) (kk : ∀ v : Int32, (k v).1 S = some E0 → W p l e R s m args below meth c H locs cells slots Q (F0 m (pc + 3) ls (.int v :: rest))) : W p l e R s m args below meth c H locs cells slots Q (F0 m pc ls (vr w.2.2.2.2 21 16 x :: rest)) := by
  obtain ⟨v, S1, h1, h2⟩ := bnd_inv hE
  obtain ⟨hx, h1⟩ := if_ok h1
  cases h1
  rw [vr_ref hx]
  refine row_get K0 hK hZ (q0 := 21 + x) (by omega) (adrC_lo w S (by omega)) (celC_ST w S hx) (C := RX3) (T := TX3) (N := 8) rfl iX3 0 (by decide) hlink rfl hdg ?_
  exact kk _ h2
theorem gN_ST_0 (K0 : CallFix p m c cc nL s args GW own) (hK : va_K D vwCl (tysC w) s) {x : Nat} {k : Int32 → PM ρ} (hE : (bnd (rdc 16 x 7) k).1 S = some E0) (hZ : ZZ D 187 (adrC w) (celC w) A S0 H0 S H locs cells slots) {index : Nat} {host : String} (hlink : va_Nw (.fieldLinkNest own index (TX3 0).1 (TX3 0).2.1 (TX3 0).2.2.1 host) s) (hdg : decode cc pc = .ok (.getfield index, 3)) (kk : ∀ v : Int32, (k v).1 S = some E0 → W p l e R s m args below meth c H locs cells slots Q (F0 m (pc + 3) ls (.int v :: rest))) : W p l e R s m args below meth c H locs cells slots Q (F0 m pc ls (vr w.2.2.2.2 21 16 x :: rest)) := by
  obtain ⟨v, S1, h1, h2⟩ := bnd_inv hE
  obtain ⟨hx, h1⟩ := if_ok h1
  cases h1
  rw [vr_ref hx]
  refine row_getN K0 hK hZ (q0 := 21 + x) (by omega) (adrC_lo w S (by omega)) (celC_ST w S hx) (C := RX3) (T := TX3) (N := 8) rfl iX3 0 (by decide) hlink rfl hdg ?_
  exact kk _ h2
theorem g_ST_1 (K0 : CallFix p m c cc nL s args GW own) (hK : va_K D vwCl (tysC w) s) {x : Nat} {k : Int32 → PM ρ} (hE : (bnd (rdc 16 x 8) k).1 S = some E0) (hZ : ZZ D 187 (adrC w) (celC w) A S0 H0 S H locs cells slots) {index : Nat} (hlink : Cond.fieldLink own index (TX3 1).1 (TX3 1).2.1 (TX3 1).2.2.1 ∈ GW) (hdg : decode cc pc = .ok (.getfield index, 3)) (kk : ∀ v : Int32, (k v).1 S = some E0 → W p l e R s m args below meth c H locs cells slots Q (F0 m (pc + 3) ls (.int v :: rest))) : W p l e R s m args below meth c H locs cells slots Q (F0 m pc ls (vr w.2.2.2.2 21 16 x :: rest)) := by
  obtain ⟨v, S1, h1, h2⟩ := bnd_inv hE
  obtain ⟨hx, h1⟩ := if_ok h1
  cases h1
  rw [vr_ref hx]
  refine row_get K0 hK hZ (q0 := 21 + x) (by omega) (adrC_lo w S (by omega)) (celC_ST w S hx) (C := RX3) (T := TX3) (N := 8) rfl iX3 1 (by decide) hlink rfl hdg ?_
  exact kk _ h2
theorem gN_ST_1 (K0 : CallFix p m c cc nL s args GW own) (hK : va_K D vwCl (tysC w) s) {x : Nat} {k : Int32 → PM ρ} (hE : (bnd (rdc 16 x 8) k).1 S = some E0) (hZ : ZZ D 187 (adrC w) (celC w) A S0 H0 S H locs cells slots) {index : Nat} {host : String} (hlink : va_Nw (.fieldLinkNest own index (TX3 1).1 (TX3 1).2.1 (TX3 1).2.2.1 host) s) (hdg : decode cc pc = .ok (.getfield index, 3)) (kk : ∀ v : Int32, (k v).1 S = some E0 → W p l e R s m args below meth c H locs cells slots Q (F0 m (pc + 3) ls (.int v :: rest))) : W p l e R s m args below meth c H locs cells slots Q (F0 m pc ls (vr w.2.2.2.2 21 16 x :: rest)) := by
  obtain ⟨v, S1, h1, h2⟩ := bnd_inv hE
  obtain ⟨hx, h1⟩ := if_ok h1
  cases h1
  rw [vr_ref hx]
  refine row_getN K0 hK hZ (q0 := 21 + x) (by omega) (adrC_lo w S (by omega)) (celC_ST w S hx) (C := RX3) (T := TX3) (N := 8) rfl iX3 1 (by decide) hlink rfl hdg ?_
  exact kk _ h2
theorem g_ST_2 (K0 : CallFix p m c cc nL s args GW own) (hK : va_K D vwCl (tysC w) s) {x : Nat} {k : Int32 → PM ρ} (hE : (bnd (rdc 16 x 9) k).1 S = some E0) (hZ : ZZ D 187 (adrC w) (celC w) A S0 H0 S H locs cells slots) {index : Nat} (hlink : Cond.fieldLink own index (TX3 2).1 (TX3 2).2.1 (TX3 2).2.2.1 ∈ GW) (hdg : decode cc pc = .ok (.getfield index, 3)) (kk : ∀ v : Int32, (k v).1 S = some E0 → W p l e R s m args below meth c H locs cells slots Q (F0 m (pc + 3) ls (.int v :: rest))) : W p l e R s m args below meth c H locs cells slots Q (F0 m pc ls (vr w.2.2.2.2 21 16 x :: rest)) := by
  obtain ⟨v, S1, h1, h2⟩ := bnd_inv hE
  obtain ⟨hx, h1⟩ := if_ok h1
  cases h1
  rw [vr_ref hx]
  refine row_get K0 hK hZ (q0 := 21 + x) (by omega) (adrC_lo w S (by omega)) (celC_ST w S hx) (C := RX3) (T := TX3) (N := 8) rfl iX3 2 (by decide) hlink rfl hdg ?_
  exact kk _ h2
theorem gN_ST_2 (K0 : CallFix p m c cc nL s args GW own) (hK : va_K D vwCl (tysC w) s) {x : Nat} {k : Int32 → PM ρ} (hE : (bnd (rdc 16 x 9) k).1 S = some E0) (hZ : ZZ D 187 (adrC w) (celC w) A S0 H0 S H locs cells slots) {index : Nat} {host : String} (hlink : va_Nw (.fieldLinkNest own index (TX3 2).1 (TX3 2).2.1 (TX3 2).2.2.1 host) s) (hdg : decode cc pc = .ok (.getfield index, 3)) (kk : ∀ v : Int32, (k v).1 S = some E0 → W p l e R s m args below meth c H locs cells slots Q (F0 m (pc + 3) ls (.int v :: rest))) : W p l e R s m args below meth c H locs cells slots Q (F0 m pc ls (vr w.2.2.2.2 21 16 x :: rest)) := by
  obtain ⟨v, S1, h1, h2⟩ := bnd_inv hE
  obtain ⟨hx, h1⟩ := if_ok h1
  cases h1
  rw [vr_ref hx]
  refine row_getN K0 hK hZ (q0 := 21 + x) (by omega) (adrC_lo w S (by omega)) (celC_ST w S hx) (C := RX3) (T := TX3) (N := 8) rfl iX3 2 (by decide) hlink rfl hdg ?_
  exact kk _ h2
theorem g_ST_3 (K0 : CallFix p m c cc nL s args GW own) (hK : va_K D vwCl (tysC w) s) {x : Nat} {k : Int32 → PM ρ} (hE : (bnd (rdc 16 x 10) k).1 S = some E0) (hZ : ZZ D 187 (adrC w) (celC w) A S0 H0 S H locs cells slots) {index : Nat} (hlink : Cond.fieldLink own index (TX3 3).1 (TX3 3).2.1 (TX3 3).2.2.1 ∈ GW) (hdg : decode cc pc = .ok (.getfield index, 3)) (kk : ∀ v : Int32, (k v).1 S = some E0 → W p l e R s m args below meth c H locs cells slots Q (F0 m (pc + 3) ls (.int v :: rest))) : W p l e R s m args below meth c H locs cells slots Q (F0 m pc ls (vr w.2.2.2.2 21 16 x :: rest)) := by
  obtain ⟨v, S1, h1, h2⟩ := bnd_inv hE
  obtain ⟨hx, h1⟩ := if_ok h1
  cases h1
  rw [vr_ref hx]
  refine row_get K0 hK hZ (q0 := 21 + x) (by omega) (adrC_lo w S (by omega)) (celC_ST w S hx) (C := RX3) (T := TX3) (N := 8) rfl iX3 3 (by decide) hlink rfl hdg ?_
  exact kk _ h2
theorem gN_ST_3 (K0 : CallFix p m c cc nL s args GW own) (hK : va_K D vwCl (tysC w) s) {x : Nat} {k : Int32 → PM ρ} (hE : (bnd (rdc 16 x 10) k).1 S = some E0) (hZ : ZZ D 187 (adrC w) (celC w) A S0 H0 S H locs cells slots) {index : Nat} {host : String} (hlink : va_Nw (.fieldLinkNest own index (TX3 3).1 (TX3 3).2.1 (TX3 3).2.2.1 host) s) (hdg : decode cc pc = .ok (.getfield index, 3)) (kk : ∀ v : Int32, (k v).1 S = some E0 → W p l e R s m args below meth c H locs cells slots Q (F0 m (pc + 3) ls (.int v :: rest))) : W p l e R s m args below meth c H locs cells slots Q (F0 m pc ls (vr w.2.2.2.2 21 16 x :: rest)) := by
  obtain ⟨v, S1, h1, h2⟩ := bnd_inv hE
  obtain ⟨hx, h1⟩ := if_ok h1
  cases h1
  rw [vr_ref hx]
  refine row_getN K0 hK hZ (q0 := 21 + x) (by omega) (adrC_lo w S (by omega)) (celC_ST w S hx) (C := RX3) (T := TX3) (N := 8) rfl iX3 3 (by decide) hlink rfl hdg ?_
  exact kk _ h2
theorem g_ST_4 (K0 : CallFix p m c cc nL s args GW own) (hK : va_K D vwCl (tysC w) s) {x : Nat} {k : Int32 → PM ρ} (hE : (bnd (rdc 16 x 11) k).1 S = some E0) (hZ : ZZ D 187 (adrC w) (celC w) A S0 H0 S H locs cells slots) {index : Nat} (hlink : Cond.fieldLink own index (TX3 4).1 (TX3 4).2.1 (TX3 4).2.2.1 ∈ GW) (hdg : decode cc pc = .ok (.getfield index, 3)) (kk : ∀ v : Int32, (k v).1 S = some E0 → W p l e R s m args below meth c H locs cells slots Q (F0 m (pc + 3) ls (.int v :: rest))) : W p l e R s m args below meth c H locs cells slots Q (F0 m pc ls (vr w.2.2.2.2 21 16 x :: rest)) := by
  obtain ⟨v, S1, h1, h2⟩ := bnd_inv hE
  obtain ⟨hx, h1⟩ := if_ok h1
  cases h1
  rw [vr_ref hx]
  refine row_get K0 hK hZ (q0 := 21 + x) (by omega) (adrC_lo w S (by omega)) (celC_ST w S hx) (C := RX3) (T := TX3) (N := 8) rfl iX3 4 (by decide) hlink rfl hdg ?_
  exact kk _ h2
theorem gN_ST_4 (K0 : CallFix p m c cc nL s args GW own) (hK : va_K D vwCl (tysC w) s) {x : Nat} {k : Int32 → PM ρ} (hE : (bnd (rdc 16 x 11) k).1 S = some E0) (hZ : ZZ D 187 (adrC w) (celC w) A S0 H0 S H locs cells slots) {index : Nat} {host : String} (hlink : va_Nw (.fieldLinkNest own index (TX3 4).1 (TX3 4).2.1 (TX3 4).2.2.1 host) s) (hdg : decode cc pc = .ok (.getfield index, 3)) (kk : ∀ v : Int32, (k v).1 S = some E0 → W p l e R s m args below meth c H locs cells slots Q (F0 m (pc + 3) ls (.int v :: rest))) : W p l e R s m args below meth c H locs cells slots Q (F0 m pc ls (vr w.2.2.2.2 21 16 x :: rest)) := by
  obtain ⟨v, S1, h1, h2⟩ := bnd_inv hE
  obtain ⟨hx, h1⟩ := if_ok h1
  cases h1
  rw [vr_ref hx]
  refine row_getN K0 hK hZ (q0 := 21 + x) (by omega) (adrC_lo w S (by omega)) (celC_ST w S hx) (C := RX3) (T := TX3) (N := 8) rfl iX3 4 (by decide) hlink rfl hdg ?_
  exact kk _ h2
theorem g_ST_5 (K0 : CallFix p m c cc nL s args GW own) (hK : va_K D vwCl (tysC w) s) {x : Nat} {k : Int32 → PM ρ} (hE : (bnd (rdc 16 x 12) k).1 S = some E0) (hZ : ZZ D 187 (adrC w) (celC w) A S0 H0 S H locs cells slots) {index : Nat} (hlink : Cond.fieldLink own index (TX3 5).1 (TX3 5).2.1 (TX3 5).2.2.1 ∈ GW) (hdg : decode cc pc = .ok (.getfield index, 3)) (kk : ∀ v : Int32, (k v).1 S = some E0 → W p l e R s m args below meth c H locs cells slots Q (F0 m (pc + 3) ls (.int v :: rest))) : W p l e R s m args below meth c H locs cells slots Q (F0 m pc ls (vr w.2.2.2.2 21 16 x :: rest)) := by
  obtain ⟨v, S1, h1, h2⟩ := bnd_inv hE
  obtain ⟨hx, h1⟩ := if_ok h1
  cases h1
  rw [vr_ref hx]
  refine row_get K0 hK hZ (q0 := 21 + x) (by omega) (adrC_lo w S (by omega)) (celC_ST w S hx) (C := RX3) (T := TX3) (N := 8) rfl iX3 5 (by decide) hlink rfl hdg ?_
  exact kk _ h2
theorem gN_ST_5 (K0 : CallFix p m c cc nL s args GW own) (hK : va_K D vwCl (tysC w) s) {x : Nat} {k : Int32 → PM ρ} (hE : (bnd (rdc 16 x 12) k).1 S = some E0) (hZ : ZZ D 187 (adrC w) (celC w) A S0 H0 S H locs cells slots) {index : Nat} {host : String} (hlink : va_Nw (.fieldLinkNest own index (TX3 5).1 (TX3 5).2.1 (TX3 5).2.2.1 host) s) (hdg : decode cc pc = .ok (.getfield index, 3)) (kk : ∀ v : Int32, (k v).1 S = some E0 → W p l e R s m args below meth c H locs cells slots Q (F0 m (pc + 3) ls (.int v :: rest))) : W p l e R s m args below meth c H locs cells slots Q (F0 m pc ls (vr w.2.2.2.2 21 16 x :: rest)) := by
  obtain ⟨v, S1, h1, h2⟩ := bnd_inv hE
  obtain ⟨hx, h1⟩ := if_ok h1
  cases h1
  rw [vr_ref hx]
  refine row_getN K0 hK hZ (q0 := 21 + x) (by omega) (adrC_lo w S (by omega)) (celC_ST w S hx) (C := RX3) (T := TX3) (N := 8) rfl iX3 5 (by decide) hlink rfl hdg ?_
  exact kk _ h2
theorem g_ST_6 (K0 : CallFix p m c cc nL s args GW own) (hK : va_K D vwCl (tysC w) s) {x : Nat} {k : Int32 → PM ρ} (hE : (bnd (rdc 16 x 13) k).1 S = some E0) (hZ : ZZ D 187 (adrC w) (celC w) A S0 H0 S H locs cells slots) {index : Nat} (hlink : Cond.fieldLink own index (TX3 6).1 (TX3 6).2.1 (TX3 6).2.2.1 ∈ GW) (hdg : decode cc pc = .ok (.getfield index, 3)) (kk : ∀ v : Int32, (k v).1 S = some E0 → W p l e R s m args below meth c H locs cells slots Q (F0 m (pc + 3) ls (.int v :: rest))) : W p l e R s m args below meth c H locs cells slots Q (F0 m pc ls (vr w.2.2.2.2 21 16 x :: rest)) := by
  obtain ⟨v, S1, h1, h2⟩ := bnd_inv hE
  obtain ⟨hx, h1⟩ := if_ok h1
  cases h1
  rw [vr_ref hx]
  refine row_get K0 hK hZ (q0 := 21 + x) (by omega) (adrC_lo w S (by omega)) (celC_ST w S hx) (C := RX3) (T := TX3) (N := 8) rfl iX3 6 (by decide) hlink rfl hdg ?_
  exact kk _ h2
theorem gN_ST_6 (K0 : CallFix p m c cc nL s args GW own) (hK : va_K D vwCl (tysC w) s) {x : Nat} {k : Int32 → PM ρ} (hE : (bnd (rdc 16 x 13) k).1 S = some E0) (hZ : ZZ D 187 (adrC w) (celC w) A S0 H0 S H locs cells slots) {index : Nat} {host : String} (hlink : va_Nw (.fieldLinkNest own index (TX3 6).1 (TX3 6).2.1 (TX3 6).2.2.1 host) s) (hdg : decode cc pc = .ok (.getfield index, 3)) (kk : ∀ v : Int32, (k v).1 S = some E0 → W p l e R s m args below meth c H locs cells slots Q (F0 m (pc + 3) ls (.int v :: rest))) : W p l e R s m args below meth c H locs cells slots Q (F0 m pc ls (vr w.2.2.2.2 21 16 x :: rest)) := by
  obtain ⟨v, S1, h1, h2⟩ := bnd_inv hE
  obtain ⟨hx, h1⟩ := if_ok h1
  cases h1
  rw [vr_ref hx]
  refine row_getN K0 hK hZ (q0 := 21 + x) (by omega) (adrC_lo w S (by omega)) (celC_ST w S hx) (C := RX3) (T := TX3) (N := 8) rfl iX3 6 (by decide) hlink rfl hdg ?_
  exact kk _ h2
theorem g_ST_7 (K0 : CallFix p m c cc nL s args GW own) (hK : va_K D vwCl (tysC w) s) {x : Nat} {k : Int64 → PM ρ} (hE : (bnd (rdcL 16 x) k).1 S = some E0) (hZ : ZZ D 187 (adrC w) (celC w) A S0 H0 S H locs cells slots) {index : Nat} (hlink : Cond.fieldLink own index (TX3 7).1 (TX3 7).2.1 (TX3 7).2.2.1 ∈ GW) (hdg : decode cc pc = .ok (.getfield index, 3)) (kk : ∀ v : Int64, (k v).1 S = some E0 → W p l e R s m args below meth c H locs cells slots Q (F0 m (pc + 3) ls (.long v :: rest))) : W p l e R s m args below meth c H locs cells slots Q (F0 m pc ls (vr w.2.2.2.2 21 16 x :: rest)) := by
  obtain ⟨v, S1, h1, h2⟩ := bnd_inv hE
  obtain ⟨hx, h1⟩ := if_ok h1
  cases h1
  rw [vr_ref hx]
  refine row_get K0 hK hZ (q0 := 21 + x) (by omega) (adrC_lo w S (by omega)) (celC_ST w S hx) (C := RX3) (T := TX3) (N := 8) rfl iX3 7 (by decide) hlink rfl hdg ?_
  exact kk _ h2
theorem gN_ST_7 (K0 : CallFix p m c cc nL s args GW own) (hK : va_K D vwCl (tysC w) s) {x : Nat} {k : Int64 → PM ρ} (hE : (bnd (rdcL 16 x) k).1 S = some E0) (hZ : ZZ D 187 (adrC w) (celC w) A S0 H0 S H locs cells slots) {index : Nat} {host : String} (hlink : va_Nw (.fieldLinkNest own index (TX3 7).1 (TX3 7).2.1 (TX3 7).2.2.1 host) s) (hdg : decode cc pc = .ok (.getfield index, 3)) (kk : ∀ v : Int64, (k v).1 S = some E0 → W p l e R s m args below meth c H locs cells slots Q (F0 m (pc + 3) ls (.long v :: rest))) : W p l e R s m args below meth c H locs cells slots Q (F0 m pc ls (vr w.2.2.2.2 21 16 x :: rest)) := by
  obtain ⟨v, S1, h1, h2⟩ := bnd_inv hE
  obtain ⟨hx, h1⟩ := if_ok h1
  cases h1
  rw [vr_ref hx]
  refine row_getN K0 hK hZ (q0 := 21 + x) (by omega) (adrC_lo w S (by omega)) (celC_ST w S hx) (C := RX3) (T := TX3) (N := 8) rfl iX3 7 (by decide) hlink rfl hdg ?_
  exact kk _ h2
theorem g_CA_0 (K0 : CallFix p m c cc nL s args GW own) (hK : va_K D vwCl (tysC w) s) {x : Nat} {k : Int32 → PM ρ} (hE : (bnd (rdk 60 x (nI (x % 30))) k).1 S = some E0) (hZ : ZZ D 187 (adrC w) (celC w) A S0 H0 S H locs cells slots) {index : Nat} (hlink : Cond.fieldLink own index (TX0 0).1 (TX0 0).2.1 (TX0 0).2.2.1 ∈ GW) (hdg : decode cc pc = .ok (.getfield index, 3)) (kk : ∀ v : Int32, (k v).1 S = some E0 → W p l e R s m args below meth c H locs cells slots Q (F0 m (pc + 3) ls (.int v :: rest))) : W p l e R s m args below meth c H locs cells slots Q (F0 m pc ls (vr w.2.2.2.2 37 60 x :: rest)) := by
  obtain ⟨v, S1, h1, h2⟩ := bnd_inv hE
  obtain ⟨hx, h1⟩ := if_ok h1
  cases h1
  rw [vr_ref hx]
  refine row_get K0 hK hZ (q0 := 37 + x) (by omega) (adrC_lo w S (by omega)) (celC_CA w S hx) (C := RX0) (T := TX0) (N := 11) rfl iX0 0 (by decide) hlink rfl hdg ?_
  exact kk _ h2
theorem gN_CA_0 (K0 : CallFix p m c cc nL s args GW own) (hK : va_K D vwCl (tysC w) s) {x : Nat} {k : Int32 → PM ρ} (hE : (bnd (rdk 60 x (nI (x % 30))) k).1 S = some E0) (hZ : ZZ D 187 (adrC w) (celC w) A S0 H0 S H locs cells slots) {index : Nat} {host : String} (hlink : va_Nw (.fieldLinkNest own index (TX0 0).1 (TX0 0).2.1 (TX0 0).2.2.1 host) s) (hdg : decode cc pc = .ok (.getfield index, 3)) (kk : ∀ v : Int32, (k v).1 S = some E0 → W p l e R s m args below meth c H locs cells slots Q (F0 m (pc + 3) ls (.int v :: rest))) : W p l e R s m args below meth c H locs cells slots Q (F0 m pc ls (vr w.2.2.2.2 37 60 x :: rest)) := by
  obtain ⟨v, S1, h1, h2⟩ := bnd_inv hE
  obtain ⟨hx, h1⟩ := if_ok h1
  cases h1
  rw [vr_ref hx]
  refine row_getN K0 hK hZ (q0 := 37 + x) (by omega) (adrC_lo w S (by omega)) (celC_CA w S hx) (C := RX0) (T := TX0) (N := 11) rfl iX0 0 (by decide) hlink rfl hdg ?_
  exact kk _ h2
theorem g_CA_1 (K0 : CallFix p m c cc nL s args GW own) (hK : va_K D vwCl (tysC w) s) {x : Nat} {k : Nat → PM ρ} (hE : (bnd (rfc 60 x x) k).1 S = some E0) (hZ : ZZ D 187 (adrC w) (celC w) A S0 H0 S H locs cells slots) {index : Nat} (hlink : Cond.fieldLink own index (TX0 1).1 (TX0 1).2.1 (TX0 1).2.2.1 ∈ GW) (hdg : decode cc pc = .ok (.getfield index, 3)) (kk : ∀ v : Nat, (k v).1 S = some E0 → W p l e R s m args below meth c H locs cells slots Q (F0 m (pc + 3) ls (vr w.2.2.2.2 97 30 v :: rest))) : W p l e R s m args below meth c H locs cells slots Q (F0 m pc ls (vr w.2.2.2.2 37 60 x :: rest)) := by
  obtain ⟨v, S1, h1, h2⟩ := bnd_inv hE
  obtain ⟨hx, h1⟩ := if_ok h1
  cases h1
  rw [vr_ref hx]
  refine row_get K0 hK hZ (q0 := 37 + x) (by omega) (adrC_lo w S (by omega)) (celC_CA w S hx) (C := RX0) (T := TX0) (N := 11) rfl iX0 1 (by decide) hlink rfl hdg ?_
  exact kk _ h2
theorem gN_CA_1 (K0 : CallFix p m c cc nL s args GW own) (hK : va_K D vwCl (tysC w) s) {x : Nat} {k : Nat → PM ρ} (hE : (bnd (rfc 60 x x) k).1 S = some E0) (hZ : ZZ D 187 (adrC w) (celC w) A S0 H0 S H locs cells slots) {index : Nat} {host : String} (hlink : va_Nw (.fieldLinkNest own index (TX0 1).1 (TX0 1).2.1 (TX0 1).2.2.1 host) s) (hdg : decode cc pc = .ok (.getfield index, 3)) (kk : ∀ v : Nat, (k v).1 S = some E0 → W p l e R s m args below meth c H locs cells slots Q (F0 m (pc + 3) ls (vr w.2.2.2.2 97 30 v :: rest))) : W p l e R s m args below meth c H locs cells slots Q (F0 m pc ls (vr w.2.2.2.2 37 60 x :: rest)) := by
  obtain ⟨v, S1, h1, h2⟩ := bnd_inv hE
  obtain ⟨hx, h1⟩ := if_ok h1
  cases h1
  rw [vr_ref hx]
  refine row_getN K0 hK hZ (q0 := 37 + x) (by omega) (adrC_lo w S (by omega)) (celC_CA w S hx) (C := RX0) (T := TX0) (N := 11) rfl iX0 1 (by decide) hlink rfl hdg ?_
  exact kk _ h2
theorem g_CA_2 (K0 : CallFix p m c cc nL s args GW own) (hK : va_K D vwCl (tysC w) s) {x : Nat} {k : Int32 → PM ρ} (hE : (bnd (rdc 60 x 14) k).1 S = some E0) (hZ : ZZ D 187 (adrC w) (celC w) A S0 H0 S H locs cells slots) {index : Nat} (hlink : Cond.fieldLink own index (TX0 2).1 (TX0 2).2.1 (TX0 2).2.2.1 ∈ GW) (hdg : decode cc pc = .ok (.getfield index, 3)) (kk : ∀ v : Int32, (k v).1 S = some E0 → W p l e R s m args below meth c H locs cells slots Q (F0 m (pc + 3) ls (.int v :: rest))) : W p l e R s m args below meth c H locs cells slots Q (F0 m pc ls (vr w.2.2.2.2 37 60 x :: rest)) := by
  obtain ⟨v, S1, h1, h2⟩ := bnd_inv hE
  obtain ⟨hx, h1⟩ := if_ok h1
  cases h1
  rw [vr_ref hx]
  refine row_get K0 hK hZ (q0 := 37 + x) (by omega) (adrC_lo w S (by omega)) (celC_CA w S hx) (C := RX0) (T := TX0) (N := 11) rfl iX0 2 (by decide) hlink rfl hdg ?_
  exact kk _ h2
theorem gN_CA_2 (K0 : CallFix p m c cc nL s args GW own) (hK : va_K D vwCl (tysC w) s) {x : Nat} {k : Int32 → PM ρ} (hE : (bnd (rdc 60 x 14) k).1 S = some E0) (hZ : ZZ D 187 (adrC w) (celC w) A S0 H0 S H locs cells slots) {index : Nat} {host : String} (hlink : va_Nw (.fieldLinkNest own index (TX0 2).1 (TX0 2).2.1 (TX0 2).2.2.1 host) s) (hdg : decode cc pc = .ok (.getfield index, 3)) (kk : ∀ v : Int32, (k v).1 S = some E0 → W p l e R s m args below meth c H locs cells slots Q (F0 m (pc + 3) ls (.int v :: rest))) : W p l e R s m args below meth c H locs cells slots Q (F0 m pc ls (vr w.2.2.2.2 37 60 x :: rest)) := by
  obtain ⟨v, S1, h1, h2⟩ := bnd_inv hE
  obtain ⟨hx, h1⟩ := if_ok h1
  cases h1
  rw [vr_ref hx]
  refine row_getN K0 hK hZ (q0 := 37 + x) (by omega) (adrC_lo w S (by omega)) (celC_CA w S hx) (C := RX0) (T := TX0) (N := 11) rfl iX0 2 (by decide) hlink rfl hdg ?_
  exact kk _ h2
theorem g_CA_3 (K0 : CallFix p m c cc nL s args GW own) (hK : va_K D vwCl (tysC w) s) {x : Nat} {k : Int32 → PM ρ} (hE : (bnd (rdc 60 x 15) k).1 S = some E0) (hZ : ZZ D 187 (adrC w) (celC w) A S0 H0 S H locs cells slots) {index : Nat} (hlink : Cond.fieldLink own index (TX0 3).1 (TX0 3).2.1 (TX0 3).2.2.1 ∈ GW) (hdg : decode cc pc = .ok (.getfield index, 3)) (kk : ∀ v : Int32, (k v).1 S = some E0 → W p l e R s m args below meth c H locs cells slots Q (F0 m (pc + 3) ls (.int v :: rest))) : W p l e R s m args below meth c H locs cells slots Q (F0 m pc ls (vr w.2.2.2.2 37 60 x :: rest)) := by
  obtain ⟨v, S1, h1, h2⟩ := bnd_inv hE
  obtain ⟨hx, h1⟩ := if_ok h1
  cases h1
  rw [vr_ref hx]
  refine row_get K0 hK hZ (q0 := 37 + x) (by omega) (adrC_lo w S (by omega)) (celC_CA w S hx) (C := RX0) (T := TX0) (N := 11) rfl iX0 3 (by decide) hlink rfl hdg ?_
  exact kk _ h2
theorem gN_CA_3 (K0 : CallFix p m c cc nL s args GW own) (hK : va_K D vwCl (tysC w) s) {x : Nat} {k : Int32 → PM ρ} (hE : (bnd (rdc 60 x 15) k).1 S = some E0) (hZ : ZZ D 187 (adrC w) (celC w) A S0 H0 S H locs cells slots) {index : Nat} {host : String} (hlink : va_Nw (.fieldLinkNest own index (TX0 3).1 (TX0 3).2.1 (TX0 3).2.2.1 host) s) (hdg : decode cc pc = .ok (.getfield index, 3)) (kk : ∀ v : Int32, (k v).1 S = some E0 → W p l e R s m args below meth c H locs cells slots Q (F0 m (pc + 3) ls (.int v :: rest))) : W p l e R s m args below meth c H locs cells slots Q (F0 m pc ls (vr w.2.2.2.2 37 60 x :: rest)) := by
  obtain ⟨v, S1, h1, h2⟩ := bnd_inv hE
  obtain ⟨hx, h1⟩ := if_ok h1
  cases h1
  rw [vr_ref hx]
  refine row_getN K0 hK hZ (q0 := 37 + x) (by omega) (adrC_lo w S (by omega)) (celC_CA w S hx) (C := RX0) (T := TX0) (N := 11) rfl iX0 3 (by decide) hlink rfl hdg ?_
  exact kk _ h2
theorem g_CA_4 (K0 : CallFix p m c cc nL s args GW own) (hK : va_K D vwCl (tysC w) s) {x : Nat} {k : Int32 → PM ρ} (hE : (bnd (rdc 60 x 16) k).1 S = some E0) (hZ : ZZ D 187 (adrC w) (celC w) A S0 H0 S H locs cells slots) {index : Nat} (hlink : Cond.fieldLink own index (TX0 4).1 (TX0 4).2.1 (TX0 4).2.2.1 ∈ GW) (hdg : decode cc pc = .ok (.getfield index, 3)) (kk : ∀ v : Int32, (k v).1 S = some E0 → W p l e R s m args below meth c H locs cells slots Q (F0 m (pc + 3) ls (.int v :: rest))) : W p l e R s m args below meth c H locs cells slots Q (F0 m pc ls (vr w.2.2.2.2 37 60 x :: rest)) := by
  obtain ⟨v, S1, h1, h2⟩ := bnd_inv hE
  obtain ⟨hx, h1⟩ := if_ok h1
  cases h1
  rw [vr_ref hx]
  refine row_get K0 hK hZ (q0 := 37 + x) (by omega) (adrC_lo w S (by omega)) (celC_CA w S hx) (C := RX0) (T := TX0) (N := 11) rfl iX0 4 (by decide) hlink rfl hdg ?_
  exact kk _ h2
theorem gN_CA_4 (K0 : CallFix p m c cc nL s args GW own) (hK : va_K D vwCl (tysC w) s) {x : Nat} {k : Int32 → PM ρ} (hE : (bnd (rdc 60 x 16) k).1 S = some E0) (hZ : ZZ D 187 (adrC w) (celC w) A S0 H0 S H locs cells slots) {index : Nat} {host : String} (hlink : va_Nw (.fieldLinkNest own index (TX0 4).1 (TX0 4).2.1 (TX0 4).2.2.1 host) s) (hdg : decode cc pc = .ok (.getfield index, 3)) (kk : ∀ v : Int32, (k v).1 S = some E0 → W p l e R s m args below meth c H locs cells slots Q (F0 m (pc + 3) ls (.int v :: rest))) : W p l e R s m args below meth c H locs cells slots Q (F0 m pc ls (vr w.2.2.2.2 37 60 x :: rest)) := by
  obtain ⟨v, S1, h1, h2⟩ := bnd_inv hE
  obtain ⟨hx, h1⟩ := if_ok h1
  cases h1
  rw [vr_ref hx]
  refine row_getN K0 hK hZ (q0 := 37 + x) (by omega) (adrC_lo w S (by omega)) (celC_CA w S hx) (C := RX0) (T := TX0) (N := 11) rfl iX0 4 (by decide) hlink rfl hdg ?_
  exact kk _ h2
theorem g_CA_5 (K0 : CallFix p m c cc nL s args GW own) (hK : va_K D vwCl (tysC w) s) {x : Nat} {k : Int32 → PM ρ} (hE : (bnd (rdc 60 x 17) k).1 S = some E0) (hZ : ZZ D 187 (adrC w) (celC w) A S0 H0 S H locs cells slots) {index : Nat} (hlink : Cond.fieldLink own index (TX0 5).1 (TX0 5).2.1 (TX0 5).2.2.1 ∈ GW) (hdg : decode cc pc = .ok (.getfield index, 3)) (kk : ∀ v : Int32, (k v).1 S = some E0 → W p l e R s m args below meth c H locs cells slots Q (F0 m (pc + 3) ls (.int v :: rest))) : W p l e R s m args below meth c H locs cells slots Q (F0 m pc ls (vr w.2.2.2.2 37 60 x :: rest)) := by
  obtain ⟨v, S1, h1, h2⟩ := bnd_inv hE
  obtain ⟨hx, h1⟩ := if_ok h1
  cases h1
  rw [vr_ref hx]
  refine row_get K0 hK hZ (q0 := 37 + x) (by omega) (adrC_lo w S (by omega)) (celC_CA w S hx) (C := RX0) (T := TX0) (N := 11) rfl iX0 5 (by decide) hlink rfl hdg ?_
  exact kk _ h2
theorem gN_CA_5 (K0 : CallFix p m c cc nL s args GW own) (hK : va_K D vwCl (tysC w) s) {x : Nat} {k : Int32 → PM ρ} (hE : (bnd (rdc 60 x 17) k).1 S = some E0) (hZ : ZZ D 187 (adrC w) (celC w) A S0 H0 S H locs cells slots) {index : Nat} {host : String} (hlink : va_Nw (.fieldLinkNest own index (TX0 5).1 (TX0 5).2.1 (TX0 5).2.2.1 host) s) (hdg : decode cc pc = .ok (.getfield index, 3)) (kk : ∀ v : Int32, (k v).1 S = some E0 → W p l e R s m args below meth c H locs cells slots Q (F0 m (pc + 3) ls (.int v :: rest))) : W p l e R s m args below meth c H locs cells slots Q (F0 m pc ls (vr w.2.2.2.2 37 60 x :: rest)) := by
  obtain ⟨v, S1, h1, h2⟩ := bnd_inv hE
  obtain ⟨hx, h1⟩ := if_ok h1
  cases h1
  rw [vr_ref hx]
  refine row_getN K0 hK hZ (q0 := 37 + x) (by omega) (adrC_lo w S (by omega)) (celC_CA w S hx) (C := RX0) (T := TX0) (N := 11) rfl iX0 5 (by decide) hlink rfl hdg ?_
  exact kk _ h2
theorem g_CA_6 (K0 : CallFix p m c cc nL s args GW own) (hK : va_K D vwCl (tysC w) s) {x : Nat} {k : Int32 → PM ρ} (hE : (bnd (rdc 60 x 18) k).1 S = some E0) (hZ : ZZ D 187 (adrC w) (celC w) A S0 H0 S H locs cells slots) {index : Nat} (hlink : Cond.fieldLink own index (TX0 6).1 (TX0 6).2.1 (TX0 6).2.2.1 ∈ GW) (hdg : decode cc pc = .ok (.getfield index, 3)) (kk : ∀ v : Int32, (k v).1 S = some E0 → W p l e R s m args below meth c H locs cells slots Q (F0 m (pc + 3) ls (.int v :: rest))) : W p l e R s m args below meth c H locs cells slots Q (F0 m pc ls (vr w.2.2.2.2 37 60 x :: rest)) := by
  obtain ⟨v, S1, h1, h2⟩ := bnd_inv hE
  obtain ⟨hx, h1⟩ := if_ok h1
  cases h1
  rw [vr_ref hx]
  refine row_get K0 hK hZ (q0 := 37 + x) (by omega) (adrC_lo w S (by omega)) (celC_CA w S hx) (C := RX0) (T := TX0) (N := 11) rfl iX0 6 (by decide) hlink rfl hdg ?_
  exact kk _ h2
theorem gN_CA_6 (K0 : CallFix p m c cc nL s args GW own) (hK : va_K D vwCl (tysC w) s) {x : Nat} {k : Int32 → PM ρ} (hE : (bnd (rdc 60 x 18) k).1 S = some E0) (hZ : ZZ D 187 (adrC w) (celC w) A S0 H0 S H locs cells slots) {index : Nat} {host : String} (hlink : va_Nw (.fieldLinkNest own index (TX0 6).1 (TX0 6).2.1 (TX0 6).2.2.1 host) s) (hdg : decode cc pc = .ok (.getfield index, 3)) (kk : ∀ v : Int32, (k v).1 S = some E0 → W p l e R s m args below meth c H locs cells slots Q (F0 m (pc + 3) ls (.int v :: rest))) : W p l e R s m args below meth c H locs cells slots Q (F0 m pc ls (vr w.2.2.2.2 37 60 x :: rest)) := by
  obtain ⟨v, S1, h1, h2⟩ := bnd_inv hE
  obtain ⟨hx, h1⟩ := if_ok h1
  cases h1
  rw [vr_ref hx]
  refine row_getN K0 hK hZ (q0 := 37 + x) (by omega) (adrC_lo w S (by omega)) (celC_CA w S hx) (C := RX0) (T := TX0) (N := 11) rfl iX0 6 (by decide) hlink rfl hdg ?_
  exact kk _ h2
theorem g_CA_7 (K0 : CallFix p m c cc nL s args GW own) (hK : va_K D vwCl (tysC w) s) {x : Nat} {k : Int32 → PM ρ} (hE : (bnd (rdc 60 x 19) k).1 S = some E0) (hZ : ZZ D 187 (adrC w) (celC w) A S0 H0 S H locs cells slots) {index : Nat} (hlink : Cond.fieldLink own index (TX0 7).1 (TX0 7).2.1 (TX0 7).2.2.1 ∈ GW) (hdg : decode cc pc = .ok (.getfield index, 3)) (kk : ∀ v : Int32, (k v).1 S = some E0 → W p l e R s m args below meth c H locs cells slots Q (F0 m (pc + 3) ls (.int v :: rest))) : W p l e R s m args below meth c H locs cells slots Q (F0 m pc ls (vr w.2.2.2.2 37 60 x :: rest)) := by
  obtain ⟨v, S1, h1, h2⟩ := bnd_inv hE
  obtain ⟨hx, h1⟩ := if_ok h1
  cases h1
  rw [vr_ref hx]
  refine row_get K0 hK hZ (q0 := 37 + x) (by omega) (adrC_lo w S (by omega)) (celC_CA w S hx) (C := RX0) (T := TX0) (N := 11) rfl iX0 7 (by decide) hlink rfl hdg ?_
  exact kk _ h2
theorem gN_CA_7 (K0 : CallFix p m c cc nL s args GW own) (hK : va_K D vwCl (tysC w) s) {x : Nat} {k : Int32 → PM ρ} (hE : (bnd (rdc 60 x 19) k).1 S = some E0) (hZ : ZZ D 187 (adrC w) (celC w) A S0 H0 S H locs cells slots) {index : Nat} {host : String} (hlink : va_Nw (.fieldLinkNest own index (TX0 7).1 (TX0 7).2.1 (TX0 7).2.2.1 host) s) (hdg : decode cc pc = .ok (.getfield index, 3)) (kk : ∀ v : Int32, (k v).1 S = some E0 → W p l e R s m args below meth c H locs cells slots Q (F0 m (pc + 3) ls (.int v :: rest))) : W p l e R s m args below meth c H locs cells slots Q (F0 m pc ls (vr w.2.2.2.2 37 60 x :: rest)) := by
  obtain ⟨v, S1, h1, h2⟩ := bnd_inv hE
  obtain ⟨hx, h1⟩ := if_ok h1
  cases h1
  rw [vr_ref hx]
  refine row_getN K0 hK hZ (q0 := 37 + x) (by omega) (adrC_lo w S (by omega)) (celC_CA w S hx) (C := RX0) (T := TX0) (N := 11) rfl iX0 7 (by decide) hlink rfl hdg ?_
  exact kk _ h2
theorem g_CA_8 (K0 : CallFix p m c cc nL s args GW own) (hK : va_K D vwCl (tysC w) s) {x : Nat} {k : Int32 → PM ρ} (hE : (bnd (rdc 60 x 20) k).1 S = some E0) (hZ : ZZ D 187 (adrC w) (celC w) A S0 H0 S H locs cells slots) {index : Nat} (hlink : Cond.fieldLink own index (TX0 8).1 (TX0 8).2.1 (TX0 8).2.2.1 ∈ GW) (hdg : decode cc pc = .ok (.getfield index, 3)) (kk : ∀ v : Int32, (k v).1 S = some E0 → W p l e R s m args below meth c H locs cells slots Q (F0 m (pc + 3) ls (.int v :: rest))) : W p l e R s m args below meth c H locs cells slots Q (F0 m pc ls (vr w.2.2.2.2 37 60 x :: rest)) := by
  obtain ⟨v, S1, h1, h2⟩ := bnd_inv hE
  obtain ⟨hx, h1⟩ := if_ok h1
  cases h1
  rw [vr_ref hx]
  refine row_get K0 hK hZ (q0 := 37 + x) (by omega) (adrC_lo w S (by omega)) (celC_CA w S hx) (C := RX0) (T := TX0) (N := 11) rfl iX0 8 (by decide) hlink rfl hdg ?_
  exact kk _ h2
theorem gN_CA_8 (K0 : CallFix p m c cc nL s args GW own) (hK : va_K D vwCl (tysC w) s) {x : Nat} {k : Int32 → PM ρ} (hE : (bnd (rdc 60 x 20) k).1 S = some E0) (hZ : ZZ D 187 (adrC w) (celC w) A S0 H0 S H locs cells slots) {index : Nat} {host : String} (hlink : va_Nw (.fieldLinkNest own index (TX0 8).1 (TX0 8).2.1 (TX0 8).2.2.1 host) s) (hdg : decode cc pc = .ok (.getfield index, 3)) (kk : ∀ v : Int32, (k v).1 S = some E0 → W p l e R s m args below meth c H locs cells slots Q (F0 m (pc + 3) ls (.int v :: rest))) : W p l e R s m args below meth c H locs cells slots Q (F0 m pc ls (vr w.2.2.2.2 37 60 x :: rest)) := by
  obtain ⟨v, S1, h1, h2⟩ := bnd_inv hE
  obtain ⟨hx, h1⟩ := if_ok h1
  cases h1
  rw [vr_ref hx]
  refine row_getN K0 hK hZ (q0 := 37 + x) (by omega) (adrC_lo w S (by omega)) (celC_CA w S hx) (C := RX0) (T := TX0) (N := 11) rfl iX0 8 (by decide) hlink rfl hdg ?_
  exact kk _ h2
theorem g_CA_9 (K0 : CallFix p m c cc nL s args GW own) (hK : va_K D vwCl (tysC w) s) {x : Nat} {k : Int32 → PM ρ} (hE : (bnd (rdc 60 x 21) k).1 S = some E0) (hZ : ZZ D 187 (adrC w) (celC w) A S0 H0 S H locs cells slots) {index : Nat} (hlink : Cond.fieldLink own index (TX0 9).1 (TX0 9).2.1 (TX0 9).2.2.1 ∈ GW) (hdg : decode cc pc = .ok (.getfield index, 3)) (kk : ∀ v : Int32, (k v).1 S = some E0 → W p l e R s m args below meth c H locs cells slots Q (F0 m (pc + 3) ls (.int v :: rest))) : W p l e R s m args below meth c H locs cells slots Q (F0 m pc ls (vr w.2.2.2.2 37 60 x :: rest)) := by
  obtain ⟨v, S1, h1, h2⟩ := bnd_inv hE
  obtain ⟨hx, h1⟩ := if_ok h1
  cases h1
  rw [vr_ref hx]
  refine row_get K0 hK hZ (q0 := 37 + x) (by omega) (adrC_lo w S (by omega)) (celC_CA w S hx) (C := RX0) (T := TX0) (N := 11) rfl iX0 9 (by decide) hlink rfl hdg ?_
  exact kk _ h2
theorem gN_CA_9 (K0 : CallFix p m c cc nL s args GW own) (hK : va_K D vwCl (tysC w) s) {x : Nat} {k : Int32 → PM ρ} (hE : (bnd (rdc 60 x 21) k).1 S = some E0) (hZ : ZZ D 187 (adrC w) (celC w) A S0 H0 S H locs cells slots) {index : Nat} {host : String} (hlink : va_Nw (.fieldLinkNest own index (TX0 9).1 (TX0 9).2.1 (TX0 9).2.2.1 host) s) (hdg : decode cc pc = .ok (.getfield index, 3)) (kk : ∀ v : Int32, (k v).1 S = some E0 → W p l e R s m args below meth c H locs cells slots Q (F0 m (pc + 3) ls (.int v :: rest))) : W p l e R s m args below meth c H locs cells slots Q (F0 m pc ls (vr w.2.2.2.2 37 60 x :: rest)) := by
  obtain ⟨v, S1, h1, h2⟩ := bnd_inv hE
  obtain ⟨hx, h1⟩ := if_ok h1
  cases h1
  rw [vr_ref hx]
  refine row_getN K0 hK hZ (q0 := 37 + x) (by omega) (adrC_lo w S (by omega)) (celC_CA w S hx) (C := RX0) (T := TX0) (N := 11) rfl iX0 9 (by decide) hlink rfl hdg ?_
  exact kk _ h2
theorem g_CA_10 (K0 : CallFix p m c cc nL s args GW own) (hK : va_K D vwCl (tysC w) s) {x : Nat} {k : Int32 → PM ρ} (hE : (bnd (rdc 60 x 22) k).1 S = some E0) (hZ : ZZ D 187 (adrC w) (celC w) A S0 H0 S H locs cells slots) {index : Nat} (hlink : Cond.fieldLink own index (TX0 10).1 (TX0 10).2.1 (TX0 10).2.2.1 ∈ GW) (hdg : decode cc pc = .ok (.getfield index, 3)) (kk : ∀ v : Int32, (k v).1 S = some E0 → W p l e R s m args below meth c H locs cells slots Q (F0 m (pc + 3) ls (.int v :: rest))) : W p l e R s m args below meth c H locs cells slots Q (F0 m pc ls (vr w.2.2.2.2 37 60 x :: rest)) := by
  obtain ⟨v, S1, h1, h2⟩ := bnd_inv hE
  obtain ⟨hx, h1⟩ := if_ok h1
  cases h1
  rw [vr_ref hx]
  refine row_get K0 hK hZ (q0 := 37 + x) (by omega) (adrC_lo w S (by omega)) (celC_CA w S hx) (C := RX0) (T := TX0) (N := 11) rfl iX0 10 (by decide) hlink rfl hdg ?_
  exact kk _ h2
theorem gN_CA_10 (K0 : CallFix p m c cc nL s args GW own) (hK : va_K D vwCl (tysC w) s) {x : Nat} {k : Int32 → PM ρ} (hE : (bnd (rdc 60 x 22) k).1 S = some E0) (hZ : ZZ D 187 (adrC w) (celC w) A S0 H0 S H locs cells slots) {index : Nat} {host : String} (hlink : va_Nw (.fieldLinkNest own index (TX0 10).1 (TX0 10).2.1 (TX0 10).2.2.1 host) s) (hdg : decode cc pc = .ok (.getfield index, 3)) (kk : ∀ v : Int32, (k v).1 S = some E0 → W p l e R s m args below meth c H locs cells slots Q (F0 m (pc + 3) ls (.int v :: rest))) : W p l e R s m args below meth c H locs cells slots Q (F0 m pc ls (vr w.2.2.2.2 37 60 x :: rest)) := by
  obtain ⟨v, S1, h1, h2⟩ := bnd_inv hE
  obtain ⟨hx, h1⟩ := if_ok h1
  cases h1
  rw [vr_ref hx]
  refine row_getN K0 hK hZ (q0 := 37 + x) (by omega) (adrC_lo w S (by omega)) (celC_CA w S hx) (C := RX0) (T := TX0) (N := 11) rfl iX0 10 (by decide) hlink rfl hdg ?_
  exact kk _ h2
theorem g_TR_1 (K0 : CallFix p m c cc nL s args GW own) (hK : va_K D vwCl (tysC w) s) {x : Nat} {k : Int32 → PM ρ} (hE : (bnd (rdc 30 x 23) k).1 S = some E0) (hZ : ZZ D 187 (adrC w) (celC w) A S0 H0 S H locs cells slots) {index : Nat} (hlink : Cond.fieldLink own index (TX4 1).1 (TX4 1).2.1 (TX4 1).2.2.1 ∈ GW) (hdg : decode cc pc = .ok (.getfield index, 3)) (kk : ∀ v : Int32, (k v).1 S = some E0 → W p l e R s m args below meth c H locs cells slots Q (F0 m (pc + 3) ls (.int v :: rest))) : W p l e R s m args below meth c H locs cells slots Q (F0 m pc ls (vr w.2.2.2.2 97 30 x :: rest)) := by
  obtain ⟨v, S1, h1, h2⟩ := bnd_inv hE
  obtain ⟨hx, h1⟩ := if_ok h1
  cases h1
  rw [vr_ref hx]
  refine row_get K0 hK hZ (q0 := 97 + x) (by omega) (adrC_lo w S (by omega)) (celC_TR w S hx) (C := RX4) (T := TX4) (N := 3) rfl iX4 1 (by decide) hlink rfl hdg ?_
  exact kk _ h2
theorem gN_TR_1 (K0 : CallFix p m c cc nL s args GW own) (hK : va_K D vwCl (tysC w) s) {x : Nat} {k : Int32 → PM ρ} (hE : (bnd (rdc 30 x 23) k).1 S = some E0) (hZ : ZZ D 187 (adrC w) (celC w) A S0 H0 S H locs cells slots) {index : Nat} {host : String} (hlink : va_Nw (.fieldLinkNest own index (TX4 1).1 (TX4 1).2.1 (TX4 1).2.2.1 host) s) (hdg : decode cc pc = .ok (.getfield index, 3)) (kk : ∀ v : Int32, (k v).1 S = some E0 → W p l e R s m args below meth c H locs cells slots Q (F0 m (pc + 3) ls (.int v :: rest))) : W p l e R s m args below meth c H locs cells slots Q (F0 m pc ls (vr w.2.2.2.2 97 30 x :: rest)) := by
  obtain ⟨v, S1, h1, h2⟩ := bnd_inv hE
  obtain ⟨hx, h1⟩ := if_ok h1
  cases h1
  rw [vr_ref hx]
  refine row_getN K0 hK hZ (q0 := 97 + x) (by omega) (adrC_lo w S (by omega)) (celC_TR w S hx) (C := RX4) (T := TX4) (N := 3) rfl iX4 1 (by decide) hlink rfl hdg ?_
  exact kk _ h2
theorem g_TR_2 (K0 : CallFix p m c cc nL s args GW own) (hK : va_K D vwCl (tysC w) s) {x : Nat} {k : Nat → PM ρ} (hE : (bnd (rfc 30 x x) k).1 S = some E0) (hZ : ZZ D 187 (adrC w) (celC w) A S0 H0 S H locs cells slots) {index : Nat} (hlink : Cond.fieldLink own index (TX4 2).1 (TX4 2).2.1 (TX4 2).2.2.1 ∈ GW) (hdg : decode cc pc = .ok (.getfield index, 3)) (kk : ∀ v : Nat, (k v).1 S = some E0 → W p l e R s m args below meth c H locs cells slots Q (F0 m (pc + 3) ls (vr w.2.2.2.2 127 30 v :: rest))) : W p l e R s m args below meth c H locs cells slots Q (F0 m pc ls (vr w.2.2.2.2 97 30 x :: rest)) := by
  obtain ⟨v, S1, h1, h2⟩ := bnd_inv hE
  obtain ⟨hx, h1⟩ := if_ok h1
  cases h1
  rw [vr_ref hx]
  refine row_get K0 hK hZ (q0 := 97 + x) (by omega) (adrC_lo w S (by omega)) (celC_TR w S hx) (C := RX4) (T := TX4) (N := 3) rfl iX4 2 (by decide) hlink rfl hdg ?_
  rw [show Value.ref (w.2.2.2.2 (127 + (x))) = vr w.2.2.2.2 127 30 (x) from (vr_ref (by omega)).symm]
  exact kk _ h2
theorem gN_TR_2 (K0 : CallFix p m c cc nL s args GW own) (hK : va_K D vwCl (tysC w) s) {x : Nat} {k : Nat → PM ρ} (hE : (bnd (rfc 30 x x) k).1 S = some E0) (hZ : ZZ D 187 (adrC w) (celC w) A S0 H0 S H locs cells slots) {index : Nat} {host : String} (hlink : va_Nw (.fieldLinkNest own index (TX4 2).1 (TX4 2).2.1 (TX4 2).2.2.1 host) s) (hdg : decode cc pc = .ok (.getfield index, 3)) (kk : ∀ v : Nat, (k v).1 S = some E0 → W p l e R s m args below meth c H locs cells slots Q (F0 m (pc + 3) ls (vr w.2.2.2.2 127 30 v :: rest))) : W p l e R s m args below meth c H locs cells slots Q (F0 m pc ls (vr w.2.2.2.2 97 30 x :: rest)) := by
  obtain ⟨v, S1, h1, h2⟩ := bnd_inv hE
  obtain ⟨hx, h1⟩ := if_ok h1
  cases h1
  rw [vr_ref hx]
  refine row_getN K0 hK hZ (q0 := 97 + x) (by omega) (adrC_lo w S (by omega)) (celC_TR w S hx) (C := RX4) (T := TX4) (N := 3) rfl iX4 2 (by decide) hlink rfl hdg ?_
  rw [show Value.ref (w.2.2.2.2 (127 + (x))) = vr w.2.2.2.2 127 30 (x) from (vr_ref (by omega)).symm]
  exact kk _ h2
theorem g_TR_0 (K0 : CallFix p m c cc nL s args GW own) (hK : va_K D vwCl (tysC w) s) {x : Nat} {k : Nat → PM ρ} (hE : (bnd (if x < 30 then rdN 1 x else fail) k).1 S = some E0) (hZ : ZZ D 187 (adrC w) (celC w) A S0 H0 S H locs cells slots) {index : Nat} (hlink : Cond.fieldLink own index (TX4 0).1 (TX4 0).2.1 (TX4 0).2.2.1 ∈ GW) (hdg : decode cc pc = .ok (.getfield index, 3)) (kk : ∀ v : Nat, (k v).1 S = some E0 → W p l e R s m args below meth c H locs cells slots Q (F0 m (pc + 3) ls (.ref v :: rest))) : W p l e R s m args below meth c H locs cells slots Q (F0 m pc ls (vr w.2.2.2.2 97 30 x :: rest)) := by
  obtain ⟨v, S1, h1, h2⟩ := bnd_inv hE
  obtain ⟨hx, h1⟩ := if_ok h1
  cases h1
  rw [vr_ref hx]
  refine row_get K0 hK hZ (q0 := 97 + x) (by omega) (adrC_lo w S (by omega)) (celC_TR w S hx) (C := RX4) (T := TX4) (N := 3) rfl iX4 0 (by decide) hlink rfl hdg ?_
  exact kk _ h2
theorem gN_TR_0 (K0 : CallFix p m c cc nL s args GW own) (hK : va_K D vwCl (tysC w) s) {x : Nat} {k : Nat → PM ρ} (hE : (bnd (if x < 30 then rdN 1 x else fail) k).1 S = some E0) (hZ : ZZ D 187 (adrC w) (celC w) A S0 H0 S H locs cells slots) {index : Nat} {host : String} (hlink : va_Nw (.fieldLinkNest own index (TX4 0).1 (TX4 0).2.1 (TX4 0).2.2.1 host) s) (hdg : decode cc pc = .ok (.getfield index, 3)) (kk : ∀ v : Nat, (k v).1 S = some E0 → W p l e R s m args below meth c H locs cells slots Q (F0 m (pc + 3) ls (.ref v :: rest))) : W p l e R s m args below meth c H locs cells slots Q (F0 m pc ls (vr w.2.2.2.2 97 30 x :: rest)) := by
  obtain ⟨v, S1, h1, h2⟩ := bnd_inv hE
  obtain ⟨hx, h1⟩ := if_ok h1
  cases h1
  rw [vr_ref hx]
  refine row_getN K0 hK hZ (q0 := 97 + x) (by omega) (adrC_lo w S (by omega)) (celC_TR w S hx) (C := RX4) (T := TX4) (N := 3) rfl iX4 0 (by decide) hlink rfl hdg ?_
  exact kk _ h2
theorem p_LN_6 (K0 : CallFix p m c cc nL s args GW own) (hK : va_K D vwCl (tysC w) s) {x : Nat} {v : Int32} {k : Unit → PM ρ} (hE : (bnd (wrc 2 x 0 v) k).1 S = some E0) (hZ : ZZ D 187 (adrC w) (celC w) A S0 H0 S H locs cells slots) {index : Nat} (hlink : Cond.fieldLink own index (TX1 6).1 (TX1 6).2.1 (TX1 6).2.2.1 ∈ GW) (hdg : decode cc pc = .ok (.putfield index, 3)) (kk : ∀ (S1 : St) (H : Heap) (locs : List Loc), (k ()).1 S1 = some E0 → ZZ D 187 (adrC w) (celC w) A S0 H0 S1 H locs cells slots → W p l e R s m args below meth c H locs cells slots Q (F0 m (pc + 3) ls rest)) : W p l e R s m args below meth c H locs cells slots Q (F0 m pc ls (.int v :: vr w.2.2.2.2 1 2 x :: rest)) := by
  obtain ⟨u, S1, h1, h2⟩ := bnd_inv hE
  obtain ⟨hx, h1⟩ := if_ok h1
  cases h1
  rw [vr_ref hx]
  refine row_put K0 hK hZ (q0 := 1 + x) (by omega) (adrC_lo w S (by omega)) (celC_LN w S hx) (C := RX1) (T := TX1) (N := 10) rfl iX1 tyX1 tyX1_ok nmX1 6 (by decide) hlink rfl rfl rfl (Nat.le_of_ble_eq_true rfl) (S' := pI S 0 x 0 v) ?_ (fun j _ => rfl) (fr_0 w S x v) (fun _ _ => rfl) hdg (fun H locs hZ => kk _ H locs h2 hZ)
  rw [celC_LN _ _ hx]
  simp [eLN, gI_pI, gL_pI, gN_pI, gI_pL, gL_pL, gN_pL]
theorem pN_LN_6 (K0 : CallFix p m c cc nL s args GW own) (hK : va_K D vwCl (tysC w) s) {x : Nat} {v : Int32} {k : Unit → PM ρ} (hE : (bnd (wrc 2 x 0 v) k).1 S = some E0) (hZ : ZZ D 187 (adrC w) (celC w) A S0 H0 S H locs cells slots) {index : Nat} {host : String} (hlink : va_Nw (.fieldLinkNest own index (TX1 6).1 (TX1 6).2.1 (TX1 6).2.2.1 host) s) (hdg : decode cc pc = .ok (.putfield index, 3)) (kk : ∀ (S1 : St) (H : Heap) (locs : List Loc), (k ()).1 S1 = some E0 → ZZ D 187 (adrC w) (celC w) A S0 H0 S1 H locs cells slots → W p l e R s m args below meth c H locs cells slots Q (F0 m (pc + 3) ls rest)) : W p l e R s m args below meth c H locs cells slots Q (F0 m pc ls (.int v :: vr w.2.2.2.2 1 2 x :: rest)) := by
  obtain ⟨u, S1, h1, h2⟩ := bnd_inv hE
  obtain ⟨hx, h1⟩ := if_ok h1
  cases h1
  rw [vr_ref hx]
  refine row_putN K0 hK hZ (q0 := 1 + x) (by omega) (adrC_lo w S (by omega)) (celC_LN w S hx) (C := RX1) (T := TX1) (N := 10) rfl iX1 tyX1 tyX1_ok nmX1 6 (by decide) hlink rfl rfl rfl (Nat.le_of_ble_eq_true rfl) (S' := pI S 0 x 0 v) ?_ (fun j _ => rfl) (fr_0 w S x v) (fun _ _ => rfl) hdg (fun H locs hZ => kk _ H locs h2 hZ)
  rw [celC_LN _ _ hx]
  simp [eLN, gI_pI, gL_pI, gN_pI, gI_pL, gL_pL, gN_pL]
theorem p_LN_7 (K0 : CallFix p m c cc nL s args GW own) (hK : va_K D vwCl (tysC w) s) {x : Nat} {v : Int32} {k : Unit → PM ρ} (hE : (bnd (wrc 2 x 1 v) k).1 S = some E0) (hZ : ZZ D 187 (adrC w) (celC w) A S0 H0 S H locs cells slots) {index : Nat} (hlink : Cond.fieldLink own index (TX1 7).1 (TX1 7).2.1 (TX1 7).2.2.1 ∈ GW) (hdg : decode cc pc = .ok (.putfield index, 3)) (kk : ∀ (S1 : St) (H : Heap) (locs : List Loc), (k ()).1 S1 = some E0 → ZZ D 187 (adrC w) (celC w) A S0 H0 S1 H locs cells slots → W p l e R s m args below meth c H locs cells slots Q (F0 m (pc + 3) ls rest)) : W p l e R s m args below meth c H locs cells slots Q (F0 m pc ls (.int v :: vr w.2.2.2.2 1 2 x :: rest)) := by
  obtain ⟨u, S1, h1, h2⟩ := bnd_inv hE
  obtain ⟨hx, h1⟩ := if_ok h1
  cases h1
  rw [vr_ref hx]
  refine row_put K0 hK hZ (q0 := 1 + x) (by omega) (adrC_lo w S (by omega)) (celC_LN w S hx) (C := RX1) (T := TX1) (N := 10) rfl iX1 tyX1 tyX1_ok nmX1 7 (by decide) hlink rfl rfl rfl (Nat.le_of_ble_eq_true rfl) (S' := pI S 1 x 0 v) ?_ (fun j _ => rfl) (fr_1 w S x v) (fun _ _ => rfl) hdg (fun H locs hZ => kk _ H locs h2 hZ)
  rw [celC_LN _ _ hx]
  simp [eLN, gI_pI, gL_pI, gN_pI, gI_pL, gL_pL, gN_pL]
theorem pN_LN_7 (K0 : CallFix p m c cc nL s args GW own) (hK : va_K D vwCl (tysC w) s) {x : Nat} {v : Int32} {k : Unit → PM ρ} (hE : (bnd (wrc 2 x 1 v) k).1 S = some E0) (hZ : ZZ D 187 (adrC w) (celC w) A S0 H0 S H locs cells slots) {index : Nat} {host : String} (hlink : va_Nw (.fieldLinkNest own index (TX1 7).1 (TX1 7).2.1 (TX1 7).2.2.1 host) s) (hdg : decode cc pc = .ok (.putfield index, 3)) (kk : ∀ (S1 : St) (H : Heap) (locs : List Loc), (k ()).1 S1 = some E0 → ZZ D 187 (adrC w) (celC w) A S0 H0 S1 H locs cells slots → W p l e R s m args below meth c H locs cells slots Q (F0 m (pc + 3) ls rest)) : W p l e R s m args below meth c H locs cells slots Q (F0 m pc ls (.int v :: vr w.2.2.2.2 1 2 x :: rest)) := by
  obtain ⟨u, S1, h1, h2⟩ := bnd_inv hE
  obtain ⟨hx, h1⟩ := if_ok h1
  cases h1
  rw [vr_ref hx]
  refine row_putN K0 hK hZ (q0 := 1 + x) (by omega) (adrC_lo w S (by omega)) (celC_LN w S hx) (C := RX1) (T := TX1) (N := 10) rfl iX1 tyX1 tyX1_ok nmX1 7 (by decide) hlink rfl rfl rfl (Nat.le_of_ble_eq_true rfl) (S' := pI S 1 x 0 v) ?_ (fun j _ => rfl) (fr_1 w S x v) (fun _ _ => rfl) hdg (fun H locs hZ => kk _ H locs h2 hZ)
  rw [celC_LN _ _ hx]
  simp [eLN, gI_pI, gL_pI, gN_pI, gI_pL, gL_pL, gN_pL]
theorem p_LN_8 (K0 : CallFix p m c cc nL s args GW own) (hK : va_K D vwCl (tysC w) s) {x : Nat} {v : Int32} {k : Unit → PM ρ} (hE : (bnd (wrc 2 x 2 v) k).1 S = some E0) (hZ : ZZ D 187 (adrC w) (celC w) A S0 H0 S H locs cells slots) {index : Nat} (hlink : Cond.fieldLink own index (TX1 8).1 (TX1 8).2.1 (TX1 8).2.2.1 ∈ GW) (hdg : decode cc pc = .ok (.putfield index, 3)) (kk : ∀ (S1 : St) (H : Heap) (locs : List Loc), (k ()).1 S1 = some E0 → ZZ D 187 (adrC w) (celC w) A S0 H0 S1 H locs cells slots → W p l e R s m args below meth c H locs cells slots Q (F0 m (pc + 3) ls rest)) : W p l e R s m args below meth c H locs cells slots Q (F0 m pc ls (.int v :: vr w.2.2.2.2 1 2 x :: rest)) := by
  obtain ⟨u, S1, h1, h2⟩ := bnd_inv hE
  obtain ⟨hx, h1⟩ := if_ok h1
  cases h1
  rw [vr_ref hx]
  refine row_put K0 hK hZ (q0 := 1 + x) (by omega) (adrC_lo w S (by omega)) (celC_LN w S hx) (C := RX1) (T := TX1) (N := 10) rfl iX1 tyX1 tyX1_ok nmX1 8 (by decide) hlink rfl rfl rfl (Nat.le_of_ble_eq_true rfl) (S' := pI S 2 x 0 v) ?_ (fun j _ => rfl) (fr_2 w S x v) (fun _ _ => rfl) hdg (fun H locs hZ => kk _ H locs h2 hZ)
  rw [celC_LN _ _ hx]
  simp [eLN, gI_pI, gL_pI, gN_pI, gI_pL, gL_pL, gN_pL]
theorem pN_LN_8 (K0 : CallFix p m c cc nL s args GW own) (hK : va_K D vwCl (tysC w) s) {x : Nat} {v : Int32} {k : Unit → PM ρ} (hE : (bnd (wrc 2 x 2 v) k).1 S = some E0) (hZ : ZZ D 187 (adrC w) (celC w) A S0 H0 S H locs cells slots) {index : Nat} {host : String} (hlink : va_Nw (.fieldLinkNest own index (TX1 8).1 (TX1 8).2.1 (TX1 8).2.2.1 host) s) (hdg : decode cc pc = .ok (.putfield index, 3)) (kk : ∀ (S1 : St) (H : Heap) (locs : List Loc), (k ()).1 S1 = some E0 → ZZ D 187 (adrC w) (celC w) A S0 H0 S1 H locs cells slots → W p l e R s m args below meth c H locs cells slots Q (F0 m (pc + 3) ls rest)) : W p l e R s m args below meth c H locs cells slots Q (F0 m pc ls (.int v :: vr w.2.2.2.2 1 2 x :: rest)) := by
  obtain ⟨u, S1, h1, h2⟩ := bnd_inv hE
  obtain ⟨hx, h1⟩ := if_ok h1
  cases h1
  rw [vr_ref hx]
  refine row_putN K0 hK hZ (q0 := 1 + x) (by omega) (adrC_lo w S (by omega)) (celC_LN w S hx) (C := RX1) (T := TX1) (N := 10) rfl iX1 tyX1 tyX1_ok nmX1 8 (by decide) hlink rfl rfl rfl (Nat.le_of_ble_eq_true rfl) (S' := pI S 2 x 0 v) ?_ (fun j _ => rfl) (fr_2 w S x v) (fun _ _ => rfl) hdg (fun H locs hZ => kk _ H locs h2 hZ)
  rw [celC_LN _ _ hx]
  simp [eLN, gI_pI, gL_pI, gN_pI, gI_pL, gL_pL, gN_pL]
theorem p_LN_9 (K0 : CallFix p m c cc nL s args GW own) (hK : va_K D vwCl (tysC w) s) {x : Nat} {v : Int32} {k : Unit → PM ρ} (hE : (bnd (wrc 2 x 3 v) k).1 S = some E0) (hZ : ZZ D 187 (adrC w) (celC w) A S0 H0 S H locs cells slots) {index : Nat} (hlink : Cond.fieldLink own index (TX1 9).1 (TX1 9).2.1 (TX1 9).2.2.1 ∈ GW) (hdg : decode cc pc = .ok (.putfield index, 3)) (kk : ∀ (S1 : St) (H : Heap) (locs : List Loc), (k ()).1 S1 = some E0 → ZZ D 187 (adrC w) (celC w) A S0 H0 S1 H locs cells slots → W p l e R s m args below meth c H locs cells slots Q (F0 m (pc + 3) ls rest)) : W p l e R s m args below meth c H locs cells slots Q (F0 m pc ls (.int v :: vr w.2.2.2.2 1 2 x :: rest)) := by
  obtain ⟨u, S1, h1, h2⟩ := bnd_inv hE
  obtain ⟨hx, h1⟩ := if_ok h1
  cases h1
  rw [vr_ref hx]
  refine row_put K0 hK hZ (q0 := 1 + x) (by omega) (adrC_lo w S (by omega)) (celC_LN w S hx) (C := RX1) (T := TX1) (N := 10) rfl iX1 tyX1 tyX1_ok nmX1 9 (by decide) hlink rfl rfl rfl (Nat.le_of_ble_eq_true rfl) (S' := pI S 3 x 0 v) ?_ (fun j _ => rfl) (fr_3 w S x v) (fun _ _ => rfl) hdg (fun H locs hZ => kk _ H locs h2 hZ)
  rw [celC_LN _ _ hx]
  simp [eLN, gI_pI, gL_pI, gN_pI, gI_pL, gL_pL, gN_pL]
theorem pN_LN_9 (K0 : CallFix p m c cc nL s args GW own) (hK : va_K D vwCl (tysC w) s) {x : Nat} {v : Int32} {k : Unit → PM ρ} (hE : (bnd (wrc 2 x 3 v) k).1 S = some E0) (hZ : ZZ D 187 (adrC w) (celC w) A S0 H0 S H locs cells slots) {index : Nat} {host : String} (hlink : va_Nw (.fieldLinkNest own index (TX1 9).1 (TX1 9).2.1 (TX1 9).2.2.1 host) s) (hdg : decode cc pc = .ok (.putfield index, 3)) (kk : ∀ (S1 : St) (H : Heap) (locs : List Loc), (k ()).1 S1 = some E0 → ZZ D 187 (adrC w) (celC w) A S0 H0 S1 H locs cells slots → W p l e R s m args below meth c H locs cells slots Q (F0 m (pc + 3) ls rest)) : W p l e R s m args below meth c H locs cells slots Q (F0 m pc ls (.int v :: vr w.2.2.2.2 1 2 x :: rest)) := by
  obtain ⟨u, S1, h1, h2⟩ := bnd_inv hE
  obtain ⟨hx, h1⟩ := if_ok h1
  cases h1
  rw [vr_ref hx]
  refine row_putN K0 hK hZ (q0 := 1 + x) (by omega) (adrC_lo w S (by omega)) (celC_LN w S hx) (C := RX1) (T := TX1) (N := 10) rfl iX1 tyX1 tyX1_ok nmX1 9 (by decide) hlink rfl rfl rfl (Nat.le_of_ble_eq_true rfl) (S' := pI S 3 x 0 v) ?_ (fun j _ => rfl) (fr_3 w S x v) (fun _ _ => rfl) hdg (fun H locs hZ => kk _ H locs h2 hZ)
  rw [celC_LN _ _ hx]
  simp [eLN, gI_pI, gL_pI, gN_pI, gI_pL, gL_pL, gN_pL]
theorem p_RO_1 (K0 : CallFix p m c cc nL s args GW own) (hK : va_K D vwCl (tysC w) s) {x : Nat} {v : Int32} {k : Unit → PM ρ} (hE : (bnd (wrc 6 x 5 v) k).1 S = some E0) (hZ : ZZ D 187 (adrC w) (celC w) A S0 H0 S H locs cells slots) {index : Nat} (hlink : Cond.fieldLink own index (TX2 1).1 (TX2 1).2.1 (TX2 1).2.2.1 ∈ GW) (hdg : decode cc pc = .ok (.putfield index, 3)) (kk : ∀ (S1 : St) (H : Heap) (locs : List Loc), (k ()).1 S1 = some E0 → ZZ D 187 (adrC w) (celC w) A S0 H0 S1 H locs cells slots → W p l e R s m args below meth c H locs cells slots Q (F0 m (pc + 3) ls rest)) : W p l e R s m args below meth c H locs cells slots Q (F0 m pc ls (.int v :: vr w.2.2.2.2 9 6 x :: rest)) := by
  obtain ⟨u, S1, h1, h2⟩ := bnd_inv hE
  obtain ⟨hx, h1⟩ := if_ok h1
  cases h1
  rw [vr_ref hx]
  refine row_put K0 hK hZ (q0 := 9 + x) (by omega) (adrC_lo w S (by omega)) (celC_RO w S hx) (C := RX2) (T := TX2) (N := 2) rfl iX2 tyX2 tyX2_ok nmX2 1 (by decide) hlink rfl rfl rfl (Nat.le_of_ble_eq_true rfl) (S' := pI S 5 x 0 v) ?_ (fun j _ => rfl) (fr_5 w S x v) (fun _ _ => rfl) hdg (fun H locs hZ => kk _ H locs h2 hZ)
  rw [celC_RO _ _ hx]
  simp [eRO, gI_pI, gL_pI, gN_pI, gI_pL, gL_pL, gN_pL]
theorem pN_RO_1 (K0 : CallFix p m c cc nL s args GW own) (hK : va_K D vwCl (tysC w) s) {x : Nat} {v : Int32} {k : Unit → PM ρ} (hE : (bnd (wrc 6 x 5 v) k).1 S = some E0) (hZ : ZZ D 187 (adrC w) (celC w) A S0 H0 S H locs cells slots) {index : Nat} {host : String} (hlink : va_Nw (.fieldLinkNest own index (TX2 1).1 (TX2 1).2.1 (TX2 1).2.2.1 host) s) (hdg : decode cc pc = .ok (.putfield index, 3)) (kk : ∀ (S1 : St) (H : Heap) (locs : List Loc), (k ()).1 S1 = some E0 → ZZ D 187 (adrC w) (celC w) A S0 H0 S1 H locs cells slots → W p l e R s m args below meth c H locs cells slots Q (F0 m (pc + 3) ls rest)) : W p l e R s m args below meth c H locs cells slots Q (F0 m pc ls (.int v :: vr w.2.2.2.2 9 6 x :: rest)) := by
  obtain ⟨u, S1, h1, h2⟩ := bnd_inv hE
  obtain ⟨hx, h1⟩ := if_ok h1
  cases h1
  rw [vr_ref hx]
  refine row_putN K0 hK hZ (q0 := 9 + x) (by omega) (adrC_lo w S (by omega)) (celC_RO w S hx) (C := RX2) (T := TX2) (N := 2) rfl iX2 tyX2 tyX2_ok nmX2 1 (by decide) hlink rfl rfl rfl (Nat.le_of_ble_eq_true rfl) (S' := pI S 5 x 0 v) ?_ (fun j _ => rfl) (fr_5 w S x v) (fun _ _ => rfl) hdg (fun H locs hZ => kk _ H locs h2 hZ)
  rw [celC_RO _ _ hx]
  simp [eRO, gI_pI, gL_pI, gN_pI, gI_pL, gL_pL, gN_pL]
theorem p_ST_0 (K0 : CallFix p m c cc nL s args GW own) (hK : va_K D vwCl (tysC w) s) {x : Nat} {v : Int32} {k : Unit → PM ρ} (hE : (bnd (wrc 16 x 7 v) k).1 S = some E0) (hZ : ZZ D 187 (adrC w) (celC w) A S0 H0 S H locs cells slots) {index : Nat} (hlink : Cond.fieldLink own index (TX3 0).1 (TX3 0).2.1 (TX3 0).2.2.1 ∈ GW) (hdg : decode cc pc = .ok (.putfield index, 3)) (kk : ∀ (S1 : St) (H : Heap) (locs : List Loc), (k ()).1 S1 = some E0 → ZZ D 187 (adrC w) (celC w) A S0 H0 S1 H locs cells slots → W p l e R s m args below meth c H locs cells slots Q (F0 m (pc + 3) ls rest)) : W p l e R s m args below meth c H locs cells slots Q (F0 m pc ls (.int v :: vr w.2.2.2.2 21 16 x :: rest)) := by
  obtain ⟨u, S1, h1, h2⟩ := bnd_inv hE
  obtain ⟨hx, h1⟩ := if_ok h1
  cases h1
  rw [vr_ref hx]
  refine row_put K0 hK hZ (q0 := 21 + x) (by omega) (adrC_lo w S (by omega)) (celC_ST w S hx) (C := RX3) (T := TX3) (N := 8) rfl iX3 tyX3 tyX3_ok nmX3 0 (by decide) hlink rfl rfl rfl (Nat.le_of_ble_eq_true rfl) (S' := pI S 7 x 0 v) ?_ (fun j _ => rfl) (fr_7 w S x v) (fun _ _ => rfl) hdg (fun H locs hZ => kk _ H locs h2 hZ)
  rw [celC_ST _ _ hx]
  simp [eST, gI_pI, gL_pI, gN_pI, gI_pL, gL_pL, gN_pL]
theorem pN_ST_0 (K0 : CallFix p m c cc nL s args GW own) (hK : va_K D vwCl (tysC w) s) {x : Nat} {v : Int32} {k : Unit → PM ρ} (hE : (bnd (wrc 16 x 7 v) k).1 S = some E0) (hZ : ZZ D 187 (adrC w) (celC w) A S0 H0 S H locs cells slots) {index : Nat} {host : String} (hlink : va_Nw (.fieldLinkNest own index (TX3 0).1 (TX3 0).2.1 (TX3 0).2.2.1 host) s) (hdg : decode cc pc = .ok (.putfield index, 3)) (kk : ∀ (S1 : St) (H : Heap) (locs : List Loc), (k ()).1 S1 = some E0 → ZZ D 187 (adrC w) (celC w) A S0 H0 S1 H locs cells slots → W p l e R s m args below meth c H locs cells slots Q (F0 m (pc + 3) ls rest)) : W p l e R s m args below meth c H locs cells slots Q (F0 m pc ls (.int v :: vr w.2.2.2.2 21 16 x :: rest)) := by
  obtain ⟨u, S1, h1, h2⟩ := bnd_inv hE
  obtain ⟨hx, h1⟩ := if_ok h1
  cases h1
  rw [vr_ref hx]
  refine row_putN K0 hK hZ (q0 := 21 + x) (by omega) (adrC_lo w S (by omega)) (celC_ST w S hx) (C := RX3) (T := TX3) (N := 8) rfl iX3 tyX3 tyX3_ok nmX3 0 (by decide) hlink rfl rfl rfl (Nat.le_of_ble_eq_true rfl) (S' := pI S 7 x 0 v) ?_ (fun j _ => rfl) (fr_7 w S x v) (fun _ _ => rfl) hdg (fun H locs hZ => kk _ H locs h2 hZ)
  rw [celC_ST _ _ hx]
  simp [eST, gI_pI, gL_pI, gN_pI, gI_pL, gL_pL, gN_pL]
theorem p_ST_1 (K0 : CallFix p m c cc nL s args GW own) (hK : va_K D vwCl (tysC w) s) {x : Nat} {v : Int32} {k : Unit → PM ρ} (hE : (bnd (wrc 16 x 8 v) k).1 S = some E0) (hZ : ZZ D 187 (adrC w) (celC w) A S0 H0 S H locs cells slots) {index : Nat} (hlink : Cond.fieldLink own index (TX3 1).1 (TX3 1).2.1 (TX3 1).2.2.1 ∈ GW) (hdg : decode cc pc = .ok (.putfield index, 3)) (kk : ∀ (S1 : St) (H : Heap) (locs : List Loc), (k ()).1 S1 = some E0 → ZZ D 187 (adrC w) (celC w) A S0 H0 S1 H locs cells slots → W p l e R s m args below meth c H locs cells slots Q (F0 m (pc + 3) ls rest)) : W p l e R s m args below meth c H locs cells slots Q (F0 m pc ls (.int v :: vr w.2.2.2.2 21 16 x :: rest)) := by
  obtain ⟨u, S1, h1, h2⟩ := bnd_inv hE
  obtain ⟨hx, h1⟩ := if_ok h1
  cases h1
  rw [vr_ref hx]
  refine row_put K0 hK hZ (q0 := 21 + x) (by omega) (adrC_lo w S (by omega)) (celC_ST w S hx) (C := RX3) (T := TX3) (N := 8) rfl iX3 tyX3 tyX3_ok nmX3 1 (by decide) hlink rfl rfl rfl (Nat.le_of_ble_eq_true rfl) (S' := pI S 8 x 0 v) ?_ (fun j _ => rfl) (fr_8 w S x v) (fun _ _ => rfl) hdg (fun H locs hZ => kk _ H locs h2 hZ)
  rw [celC_ST _ _ hx]
  simp [eST, gI_pI, gL_pI, gN_pI, gI_pL, gL_pL, gN_pL]
theorem pN_ST_1 (K0 : CallFix p m c cc nL s args GW own) (hK : va_K D vwCl (tysC w) s) {x : Nat} {v : Int32} {k : Unit → PM ρ} (hE : (bnd (wrc 16 x 8 v) k).1 S = some E0) (hZ : ZZ D 187 (adrC w) (celC w) A S0 H0 S H locs cells slots) {index : Nat} {host : String} (hlink : va_Nw (.fieldLinkNest own index (TX3 1).1 (TX3 1).2.1 (TX3 1).2.2.1 host) s) (hdg : decode cc pc = .ok (.putfield index, 3)) (kk : ∀ (S1 : St) (H : Heap) (locs : List Loc), (k ()).1 S1 = some E0 → ZZ D 187 (adrC w) (celC w) A S0 H0 S1 H locs cells slots → W p l e R s m args below meth c H locs cells slots Q (F0 m (pc + 3) ls rest)) : W p l e R s m args below meth c H locs cells slots Q (F0 m pc ls (.int v :: vr w.2.2.2.2 21 16 x :: rest)) := by
  obtain ⟨u, S1, h1, h2⟩ := bnd_inv hE
  obtain ⟨hx, h1⟩ := if_ok h1
  cases h1
  rw [vr_ref hx]
  refine row_putN K0 hK hZ (q0 := 21 + x) (by omega) (adrC_lo w S (by omega)) (celC_ST w S hx) (C := RX3) (T := TX3) (N := 8) rfl iX3 tyX3 tyX3_ok nmX3 1 (by decide) hlink rfl rfl rfl (Nat.le_of_ble_eq_true rfl) (S' := pI S 8 x 0 v) ?_ (fun j _ => rfl) (fr_8 w S x v) (fun _ _ => rfl) hdg (fun H locs hZ => kk _ H locs h2 hZ)
  rw [celC_ST _ _ hx]
  simp [eST, gI_pI, gL_pI, gN_pI, gI_pL, gL_pL, gN_pL]
theorem p_ST_2 (K0 : CallFix p m c cc nL s args GW own) (hK : va_K D vwCl (tysC w) s) {x : Nat} {v : Int32} {k : Unit → PM ρ} (hE : (bnd (wrc 16 x 9 v) k).1 S = some E0) (hZ : ZZ D 187 (adrC w) (celC w) A S0 H0 S H locs cells slots) {index : Nat} (hlink : Cond.fieldLink own index (TX3 2).1 (TX3 2).2.1 (TX3 2).2.2.1 ∈ GW) (hdg : decode cc pc = .ok (.putfield index, 3)) (kk : ∀ (S1 : St) (H : Heap) (locs : List Loc), (k ()).1 S1 = some E0 → ZZ D 187 (adrC w) (celC w) A S0 H0 S1 H locs cells slots → W p l e R s m args below meth c H locs cells slots Q (F0 m (pc + 3) ls rest)) : W p l e R s m args below meth c H locs cells slots Q (F0 m pc ls (.int v :: vr w.2.2.2.2 21 16 x :: rest)) := by
  obtain ⟨u, S1, h1, h2⟩ := bnd_inv hE
  obtain ⟨hx, h1⟩ := if_ok h1
  cases h1
  rw [vr_ref hx]
  refine row_put K0 hK hZ (q0 := 21 + x) (by omega) (adrC_lo w S (by omega)) (celC_ST w S hx) (C := RX3) (T := TX3) (N := 8) rfl iX3 tyX3 tyX3_ok nmX3 2 (by decide) hlink rfl rfl rfl (Nat.le_of_ble_eq_true rfl) (S' := pI S 9 x 0 v) ?_ (fun j _ => rfl) (fr_9 w S x v) (fun _ _ => rfl) hdg (fun H locs hZ => kk _ H locs h2 hZ)
  rw [celC_ST _ _ hx]
  simp [eST, gI_pI, gL_pI, gN_pI, gI_pL, gL_pL, gN_pL]
theorem pN_ST_2 (K0 : CallFix p m c cc nL s args GW own) (hK : va_K D vwCl (tysC w) s) {x : Nat} {v : Int32} {k : Unit → PM ρ} (hE : (bnd (wrc 16 x 9 v) k).1 S = some E0) (hZ : ZZ D 187 (adrC w) (celC w) A S0 H0 S H locs cells slots) {index : Nat} {host : String} (hlink : va_Nw (.fieldLinkNest own index (TX3 2).1 (TX3 2).2.1 (TX3 2).2.2.1 host) s) (hdg : decode cc pc = .ok (.putfield index, 3)) (kk : ∀ (S1 : St) (H : Heap) (locs : List Loc), (k ()).1 S1 = some E0 → ZZ D 187 (adrC w) (celC w) A S0 H0 S1 H locs cells slots → W p l e R s m args below meth c H locs cells slots Q (F0 m (pc + 3) ls rest)) : W p l e R s m args below meth c H locs cells slots Q (F0 m pc ls (.int v :: vr w.2.2.2.2 21 16 x :: rest)) := by
  obtain ⟨u, S1, h1, h2⟩ := bnd_inv hE
  obtain ⟨hx, h1⟩ := if_ok h1
  cases h1
  rw [vr_ref hx]
  refine row_putN K0 hK hZ (q0 := 21 + x) (by omega) (adrC_lo w S (by omega)) (celC_ST w S hx) (C := RX3) (T := TX3) (N := 8) rfl iX3 tyX3 tyX3_ok nmX3 2 (by decide) hlink rfl rfl rfl (Nat.le_of_ble_eq_true rfl) (S' := pI S 9 x 0 v) ?_ (fun j _ => rfl) (fr_9 w S x v) (fun _ _ => rfl) hdg (fun H locs hZ => kk _ H locs h2 hZ)
  rw [celC_ST _ _ hx]
  simp [eST, gI_pI, gL_pI, gN_pI, gI_pL, gL_pL, gN_pL]
theorem p_ST_3 (K0 : CallFix p m c cc nL s args GW own) (hK : va_K D vwCl (tysC w) s) {x : Nat} {v : Int32} {k : Unit → PM ρ} (hE : (bnd (wrc 16 x 10 v) k).1 S = some E0) (hZ : ZZ D 187 (adrC w) (celC w) A S0 H0 S H locs cells slots) {index : Nat} (hlink : Cond.fieldLink own index (TX3 3).1 (TX3 3).2.1 (TX3 3).2.2.1 ∈ GW) (hdg : decode cc pc = .ok (.putfield index, 3)) (kk : ∀ (S1 : St) (H : Heap) (locs : List Loc), (k ()).1 S1 = some E0 → ZZ D 187 (adrC w) (celC w) A S0 H0 S1 H locs cells slots → W p l e R s m args below meth c H locs cells slots Q (F0 m (pc + 3) ls rest)) : W p l e R s m args below meth c H locs cells slots Q (F0 m pc ls (.int v :: vr w.2.2.2.2 21 16 x :: rest)) := by
  obtain ⟨u, S1, h1, h2⟩ := bnd_inv hE
  obtain ⟨hx, h1⟩ := if_ok h1
  cases h1
  rw [vr_ref hx]
  refine row_put K0 hK hZ (q0 := 21 + x) (by omega) (adrC_lo w S (by omega)) (celC_ST w S hx) (C := RX3) (T := TX3) (N := 8) rfl iX3 tyX3 tyX3_ok nmX3 3 (by decide) hlink rfl rfl rfl (Nat.le_of_ble_eq_true rfl) (S' := pI S 10 x 0 v) ?_ (fun j _ => rfl) (fr_10 w S x v) (fun _ _ => rfl) hdg (fun H locs hZ => kk _ H locs h2 hZ)
  rw [celC_ST _ _ hx]
  simp [eST, gI_pI, gL_pI, gN_pI, gI_pL, gL_pL, gN_pL]
theorem pN_ST_3 (K0 : CallFix p m c cc nL s args GW own) (hK : va_K D vwCl (tysC w) s) {x : Nat} {v : Int32} {k : Unit → PM ρ} (hE : (bnd (wrc 16 x 10 v) k).1 S = some E0) (hZ : ZZ D 187 (adrC w) (celC w) A S0 H0 S H locs cells slots) {index : Nat} {host : String} (hlink : va_Nw (.fieldLinkNest own index (TX3 3).1 (TX3 3).2.1 (TX3 3).2.2.1 host) s) (hdg : decode cc pc = .ok (.putfield index, 3)) (kk : ∀ (S1 : St) (H : Heap) (locs : List Loc), (k ()).1 S1 = some E0 → ZZ D 187 (adrC w) (celC w) A S0 H0 S1 H locs cells slots → W p l e R s m args below meth c H locs cells slots Q (F0 m (pc + 3) ls rest)) : W p l e R s m args below meth c H locs cells slots Q (F0 m pc ls (.int v :: vr w.2.2.2.2 21 16 x :: rest)) := by
  obtain ⟨u, S1, h1, h2⟩ := bnd_inv hE
  obtain ⟨hx, h1⟩ := if_ok h1
  cases h1
  rw [vr_ref hx]
  refine row_putN K0 hK hZ (q0 := 21 + x) (by omega) (adrC_lo w S (by omega)) (celC_ST w S hx) (C := RX3) (T := TX3) (N := 8) rfl iX3 tyX3 tyX3_ok nmX3 3 (by decide) hlink rfl rfl rfl (Nat.le_of_ble_eq_true rfl) (S' := pI S 10 x 0 v) ?_ (fun j _ => rfl) (fr_10 w S x v) (fun _ _ => rfl) hdg (fun H locs hZ => kk _ H locs h2 hZ)
  rw [celC_ST _ _ hx]
  simp [eST, gI_pI, gL_pI, gN_pI, gI_pL, gL_pL, gN_pL]
theorem p_ST_4 (K0 : CallFix p m c cc nL s args GW own) (hK : va_K D vwCl (tysC w) s) {x : Nat} {v : Int32} {k : Unit → PM ρ} (hE : (bnd (wrc 16 x 11 v) k).1 S = some E0) (hZ : ZZ D 187 (adrC w) (celC w) A S0 H0 S H locs cells slots) {index : Nat} (hlink : Cond.fieldLink own index (TX3 4).1 (TX3 4).2.1 (TX3 4).2.2.1 ∈ GW) (hdg : decode cc pc = .ok (.putfield index, 3)) (kk : ∀ (S1 : St) (H : Heap) (locs : List Loc), (k ()).1 S1 = some E0 → ZZ D 187 (adrC w) (celC w) A S0 H0 S1 H locs cells slots → W p l e R s m args below meth c H locs cells slots Q (F0 m (pc + 3) ls rest)) : W p l e R s m args below meth c H locs cells slots Q (F0 m pc ls (.int v :: vr w.2.2.2.2 21 16 x :: rest)) := by
  obtain ⟨u, S1, h1, h2⟩ := bnd_inv hE
  obtain ⟨hx, h1⟩ := if_ok h1
  cases h1
  rw [vr_ref hx]
  refine row_put K0 hK hZ (q0 := 21 + x) (by omega) (adrC_lo w S (by omega)) (celC_ST w S hx) (C := RX3) (T := TX3) (N := 8) rfl iX3 tyX3 tyX3_ok nmX3 4 (by decide) hlink rfl rfl rfl (Nat.le_of_ble_eq_true rfl) (S' := pI S 11 x 0 v) ?_ (fun j _ => rfl) (fr_11 w S x v) (fun _ _ => rfl) hdg (fun H locs hZ => kk _ H locs h2 hZ)
  rw [celC_ST _ _ hx]
  simp [eST, gI_pI, gL_pI, gN_pI, gI_pL, gL_pL, gN_pL]
theorem pN_ST_4 (K0 : CallFix p m c cc nL s args GW own) (hK : va_K D vwCl (tysC w) s) {x : Nat} {v : Int32} {k : Unit → PM ρ} (hE : (bnd (wrc 16 x 11 v) k).1 S = some E0) (hZ : ZZ D 187 (adrC w) (celC w) A S0 H0 S H locs cells slots) {index : Nat} {host : String} (hlink : va_Nw (.fieldLinkNest own index (TX3 4).1 (TX3 4).2.1 (TX3 4).2.2.1 host) s) (hdg : decode cc pc = .ok (.putfield index, 3)) (kk : ∀ (S1 : St) (H : Heap) (locs : List Loc), (k ()).1 S1 = some E0 → ZZ D 187 (adrC w) (celC w) A S0 H0 S1 H locs cells slots → W p l e R s m args below meth c H locs cells slots Q (F0 m (pc + 3) ls rest)) : W p l e R s m args below meth c H locs cells slots Q (F0 m pc ls (.int v :: vr w.2.2.2.2 21 16 x :: rest)) := by
  obtain ⟨u, S1, h1, h2⟩ := bnd_inv hE
  obtain ⟨hx, h1⟩ := if_ok h1
  cases h1
  rw [vr_ref hx]
  refine row_putN K0 hK hZ (q0 := 21 + x) (by omega) (adrC_lo w S (by omega)) (celC_ST w S hx) (C := RX3) (T := TX3) (N := 8) rfl iX3 tyX3 tyX3_ok nmX3 4 (by decide) hlink rfl rfl rfl (Nat.le_of_ble_eq_true rfl) (S' := pI S 11 x 0 v) ?_ (fun j _ => rfl) (fr_11 w S x v) (fun _ _ => rfl) hdg (fun H locs hZ => kk _ H locs h2 hZ)
  rw [celC_ST _ _ hx]
  simp [eST, gI_pI, gL_pI, gN_pI, gI_pL, gL_pL, gN_pL]
theorem p_ST_5 (K0 : CallFix p m c cc nL s args GW own) (hK : va_K D vwCl (tysC w) s) {x : Nat} {v : Int32} {k : Unit → PM ρ} (hE : (bnd (wrc 16 x 12 v) k).1 S = some E0) (hZ : ZZ D 187 (adrC w) (celC w) A S0 H0 S H locs cells slots) {index : Nat} (hlink : Cond.fieldLink own index (TX3 5).1 (TX3 5).2.1 (TX3 5).2.2.1 ∈ GW) (hdg : decode cc pc = .ok (.putfield index, 3)) (kk : ∀ (S1 : St) (H : Heap) (locs : List Loc), (k ()).1 S1 = some E0 → ZZ D 187 (adrC w) (celC w) A S0 H0 S1 H locs cells slots → W p l e R s m args below meth c H locs cells slots Q (F0 m (pc + 3) ls rest)) : W p l e R s m args below meth c H locs cells slots Q (F0 m pc ls (.int v :: vr w.2.2.2.2 21 16 x :: rest)) := by
  obtain ⟨u, S1, h1, h2⟩ := bnd_inv hE
  obtain ⟨hx, h1⟩ := if_ok h1
  cases h1
  rw [vr_ref hx]
  refine row_put K0 hK hZ (q0 := 21 + x) (by omega) (adrC_lo w S (by omega)) (celC_ST w S hx) (C := RX3) (T := TX3) (N := 8) rfl iX3 tyX3 tyX3_ok nmX3 5 (by decide) hlink rfl rfl rfl (Nat.le_of_ble_eq_true rfl) (S' := pI S 12 x 0 v) ?_ (fun j _ => rfl) (fr_12 w S x v) (fun _ _ => rfl) hdg (fun H locs hZ => kk _ H locs h2 hZ)
  rw [celC_ST _ _ hx]
  simp [eST, gI_pI, gL_pI, gN_pI, gI_pL, gL_pL, gN_pL]
theorem pN_ST_5 (K0 : CallFix p m c cc nL s args GW own) (hK : va_K D vwCl (tysC w) s) {x : Nat} {v : Int32} {k : Unit → PM ρ} (hE : (bnd (wrc 16 x 12 v) k).1 S = some E0) (hZ : ZZ D 187 (adrC w) (celC w) A S0 H0 S H locs cells slots) {index : Nat} {host : String} (hlink : va_Nw (.fieldLinkNest own index (TX3 5).1 (TX3 5).2.1 (TX3 5).2.2.1 host) s) (hdg : decode cc pc = .ok (.putfield index, 3)) (kk : ∀ (S1 : St) (H : Heap) (locs : List Loc), (k ()).1 S1 = some E0 → ZZ D 187 (adrC w) (celC w) A S0 H0 S1 H locs cells slots → W p l e R s m args below meth c H locs cells slots Q (F0 m (pc + 3) ls rest)) : W p l e R s m args below meth c H locs cells slots Q (F0 m pc ls (.int v :: vr w.2.2.2.2 21 16 x :: rest)) := by
  obtain ⟨u, S1, h1, h2⟩ := bnd_inv hE
  obtain ⟨hx, h1⟩ := if_ok h1
  cases h1
  rw [vr_ref hx]
  refine row_putN K0 hK hZ (q0 := 21 + x) (by omega) (adrC_lo w S (by omega)) (celC_ST w S hx) (C := RX3) (T := TX3) (N := 8) rfl iX3 tyX3 tyX3_ok nmX3 5 (by decide) hlink rfl rfl rfl (Nat.le_of_ble_eq_true rfl) (S' := pI S 12 x 0 v) ?_ (fun j _ => rfl) (fr_12 w S x v) (fun _ _ => rfl) hdg (fun H locs hZ => kk _ H locs h2 hZ)
  rw [celC_ST _ _ hx]
  simp [eST, gI_pI, gL_pI, gN_pI, gI_pL, gL_pL, gN_pL]
theorem p_ST_6 (K0 : CallFix p m c cc nL s args GW own) (hK : va_K D vwCl (tysC w) s) {x : Nat} {v : Int32} {k : Unit → PM ρ} (hE : (bnd (wrc 16 x 13 v) k).1 S = some E0) (hZ : ZZ D 187 (adrC w) (celC w) A S0 H0 S H locs cells slots) {index : Nat} (hlink : Cond.fieldLink own index (TX3 6).1 (TX3 6).2.1 (TX3 6).2.2.1 ∈ GW) (hdg : decode cc pc = .ok (.putfield index, 3)) (kk : ∀ (S1 : St) (H : Heap) (locs : List Loc), (k ()).1 S1 = some E0 → ZZ D 187 (adrC w) (celC w) A S0 H0 S1 H locs cells slots → W p l e R s m args below meth c H locs cells slots Q (F0 m (pc + 3) ls rest)) : W p l e R s m args below meth c H locs cells slots Q (F0 m pc ls (.int v :: vr w.2.2.2.2 21 16 x :: rest)) := by
  obtain ⟨u, S1, h1, h2⟩ := bnd_inv hE
  obtain ⟨hx, h1⟩ := if_ok h1
  cases h1
  rw [vr_ref hx]
  refine row_put K0 hK hZ (q0 := 21 + x) (by omega) (adrC_lo w S (by omega)) (celC_ST w S hx) (C := RX3) (T := TX3) (N := 8) rfl iX3 tyX3 tyX3_ok nmX3 6 (by decide) hlink rfl rfl rfl (Nat.le_of_ble_eq_true rfl) (S' := pI S 13 x 0 v) ?_ (fun j _ => rfl) (fr_13 w S x v) (fun _ _ => rfl) hdg (fun H locs hZ => kk _ H locs h2 hZ)
  rw [celC_ST _ _ hx]
  simp [eST, gI_pI, gL_pI, gN_pI, gI_pL, gL_pL, gN_pL]
theorem pN_ST_6 (K0 : CallFix p m c cc nL s args GW own) (hK : va_K D vwCl (tysC w) s) {x : Nat} {v : Int32} {k : Unit → PM ρ} (hE : (bnd (wrc 16 x 13 v) k).1 S = some E0) (hZ : ZZ D 187 (adrC w) (celC w) A S0 H0 S H locs cells slots) {index : Nat} {host : String} (hlink : va_Nw (.fieldLinkNest own index (TX3 6).1 (TX3 6).2.1 (TX3 6).2.2.1 host) s) (hdg : decode cc pc = .ok (.putfield index, 3)) (kk : ∀ (S1 : St) (H : Heap) (locs : List Loc), (k ()).1 S1 = some E0 → ZZ D 187 (adrC w) (celC w) A S0 H0 S1 H locs cells slots → W p l e R s m args below meth c H locs cells slots Q (F0 m (pc + 3) ls rest)) : W p l e R s m args below meth c H locs cells slots Q (F0 m pc ls (.int v :: vr w.2.2.2.2 21 16 x :: rest)) := by
  obtain ⟨u, S1, h1, h2⟩ := bnd_inv hE
  obtain ⟨hx, h1⟩ := if_ok h1
  cases h1
  rw [vr_ref hx]
  refine row_putN K0 hK hZ (q0 := 21 + x) (by omega) (adrC_lo w S (by omega)) (celC_ST w S hx) (C := RX3) (T := TX3) (N := 8) rfl iX3 tyX3 tyX3_ok nmX3 6 (by decide) hlink rfl rfl rfl (Nat.le_of_ble_eq_true rfl) (S' := pI S 13 x 0 v) ?_ (fun j _ => rfl) (fr_13 w S x v) (fun _ _ => rfl) hdg (fun H locs hZ => kk _ H locs h2 hZ)
  rw [celC_ST _ _ hx]
  simp [eST, gI_pI, gL_pI, gN_pI, gI_pL, gL_pL, gN_pL]
theorem p_ST_7 (K0 : CallFix p m c cc nL s args GW own) (hK : va_K D vwCl (tysC w) s) {x : Nat} {v : Int64} {k : Unit → PM ρ} (hE : (bnd (wrcL 16 x v) k).1 S = some E0) (hZ : ZZ D 187 (adrC w) (celC w) A S0 H0 S H locs cells slots) {index : Nat} (hlink : Cond.fieldLink own index (TX3 7).1 (TX3 7).2.1 (TX3 7).2.2.1 ∈ GW) (hdg : decode cc pc = .ok (.putfield index, 3)) (kk : ∀ (S1 : St) (H : Heap) (locs : List Loc), (k ()).1 S1 = some E0 → ZZ D 187 (adrC w) (celC w) A S0 H0 S1 H locs cells slots → W p l e R s m args below meth c H locs cells slots Q (F0 m (pc + 3) ls rest)) : W p l e R s m args below meth c H locs cells slots Q (F0 m pc ls (.long v :: vr w.2.2.2.2 21 16 x :: rest)) := by
  obtain ⟨u, S1, h1, h2⟩ := bnd_inv hE
  obtain ⟨hx, h1⟩ := if_ok h1
  cases h1
  rw [vr_ref hx]
  refine row_put K0 hK hZ (q0 := 21 + x) (by omega) (adrC_lo w S (by omega)) (celC_ST w S hx) (C := RX3) (T := TX3) (N := 8) rfl iX3 tyX3 tyX3_ok nmX3 7 (by decide) hlink rfl rfl rfl (Nat.le_of_ble_eq_true rfl) (S' := pL S x v) ?_ (fun j _ => rfl) (fr_L w S x v) (fun _ _ => rfl) hdg (fun H locs hZ => kk _ H locs h2 hZ)
  rw [celC_ST _ _ hx]
  simp [eST, gI_pI, gL_pI, gN_pI, gI_pL, gL_pL, gN_pL]
theorem pN_ST_7 (K0 : CallFix p m c cc nL s args GW own) (hK : va_K D vwCl (tysC w) s) {x : Nat} {v : Int64} {k : Unit → PM ρ} (hE : (bnd (wrcL 16 x v) k).1 S = some E0) (hZ : ZZ D 187 (adrC w) (celC w) A S0 H0 S H locs cells slots) {index : Nat} {host : String} (hlink : va_Nw (.fieldLinkNest own index (TX3 7).1 (TX3 7).2.1 (TX3 7).2.2.1 host) s) (hdg : decode cc pc = .ok (.putfield index, 3)) (kk : ∀ (S1 : St) (H : Heap) (locs : List Loc), (k ()).1 S1 = some E0 → ZZ D 187 (adrC w) (celC w) A S0 H0 S1 H locs cells slots → W p l e R s m args below meth c H locs cells slots Q (F0 m (pc + 3) ls rest)) : W p l e R s m args below meth c H locs cells slots Q (F0 m pc ls (.long v :: vr w.2.2.2.2 21 16 x :: rest)) := by
  obtain ⟨u, S1, h1, h2⟩ := bnd_inv hE
  obtain ⟨hx, h1⟩ := if_ok h1
  cases h1
  rw [vr_ref hx]
  refine row_putN K0 hK hZ (q0 := 21 + x) (by omega) (adrC_lo w S (by omega)) (celC_ST w S hx) (C := RX3) (T := TX3) (N := 8) rfl iX3 tyX3 tyX3_ok nmX3 7 (by decide) hlink rfl rfl rfl (Nat.le_of_ble_eq_true rfl) (S' := pL S x v) ?_ (fun j _ => rfl) (fr_L w S x v) (fun _ _ => rfl) hdg (fun H locs hZ => kk _ H locs h2 hZ)
  rw [celC_ST _ _ hx]
  simp [eST, gI_pI, gL_pI, gN_pI, gI_pL, gL_pL, gN_pL]
theorem p_CA_2 (K0 : CallFix p m c cc nL s args GW own) (hK : va_K D vwCl (tysC w) s) {x : Nat} {v : Int32} {k : Unit → PM ρ} (hE : (bnd (wrc 60 x 14 v) k).1 S = some E0) (hZ : ZZ D 187 (adrC w) (celC w) A S0 H0 S H locs cells slots) {index : Nat} (hlink : Cond.fieldLink own index (TX0 2).1 (TX0 2).2.1 (TX0 2).2.2.1 ∈ GW) (hdg : decode cc pc = .ok (.putfield index, 3)) (kk : ∀ (S1 : St) (H : Heap) (locs : List Loc), (k ()).1 S1 = some E0 → ZZ D 187 (adrC w) (celC w) A S0 H0 S1 H locs cells slots → W p l e R s m args below meth c H locs cells slots Q (F0 m (pc + 3) ls rest)) : W p l e R s m args below meth c H locs cells slots Q (F0 m pc ls (.int v :: vr w.2.2.2.2 37 60 x :: rest)) := by
  obtain ⟨u, S1, h1, h2⟩ := bnd_inv hE
  obtain ⟨hx, h1⟩ := if_ok h1
  cases h1
  rw [vr_ref hx]
  refine row_put K0 hK hZ (q0 := 37 + x) (by omega) (adrC_lo w S (by omega)) (celC_CA w S hx) (C := RX0) (T := TX0) (N := 11) rfl iX0 tyX0 tyX0_ok nmX0 2 (by decide) hlink rfl rfl rfl (Nat.le_of_ble_eq_true rfl) (S' := pI S 14 x 0 v) ?_ (fun j _ => rfl) (fr_14 w S x v) (fun _ _ => rfl) hdg (fun H locs hZ => kk _ H locs h2 hZ)
  rw [celC_CA _ _ hx]
  simp [eCA, gI_pI, gL_pI, gN_pI, gI_pL, gL_pL, gN_pL]
theorem pN_CA_2 (K0 : CallFix p m c cc nL s args GW own) (hK : va_K D vwCl (tysC w) s) {x : Nat} {v : Int32} {k : Unit → PM ρ} (hE : (bnd (wrc 60 x 14 v) k).1 S = some E0) (hZ : ZZ D 187 (adrC w) (celC w) A S0 H0 S H locs cells slots) {index : Nat} {host : String} (hlink : va_Nw (.fieldLinkNest own index (TX0 2).1 (TX0 2).2.1 (TX0 2).2.2.1 host) s) (hdg : decode cc pc = .ok (.putfield index, 3)) (kk : ∀ (S1 : St) (H : Heap) (locs : List Loc), (k ()).1 S1 = some E0 → ZZ D 187 (adrC w) (celC w) A S0 H0 S1 H locs cells slots → W p l e R s m args below meth c H locs cells slots Q (F0 m (pc + 3) ls rest)) : W p l e R s m args below meth c H locs cells slots Q (F0 m pc ls (.int v :: vr w.2.2.2.2 37 60 x :: rest)) := by
  obtain ⟨u, S1, h1, h2⟩ := bnd_inv hE
  obtain ⟨hx, h1⟩ := if_ok h1
  cases h1
  rw [vr_ref hx]
  refine row_putN K0 hK hZ (q0 := 37 + x) (by omega) (adrC_lo w S (by omega)) (celC_CA w S hx) (C := RX0) (T := TX0) (N := 11) rfl iX0 tyX0 tyX0_ok nmX0 2 (by decide) hlink rfl rfl rfl (Nat.le_of_ble_eq_true rfl) (S' := pI S 14 x 0 v) ?_ (fun j _ => rfl) (fr_14 w S x v) (fun _ _ => rfl) hdg (fun H locs hZ => kk _ H locs h2 hZ)
  rw [celC_CA _ _ hx]
  simp [eCA, gI_pI, gL_pI, gN_pI, gI_pL, gL_pL, gN_pL]
theorem p_CA_3 (K0 : CallFix p m c cc nL s args GW own) (hK : va_K D vwCl (tysC w) s) {x : Nat} {v : Int32} {k : Unit → PM ρ} (hE : (bnd (wrcC 60 x 15 v) k).1 S = some E0) (hZ : ZZ D 187 (adrC w) (celC w) A S0 H0 S H locs cells slots) {index : Nat} (hlink : Cond.fieldLink own index (TX0 3).1 (TX0 3).2.1 (TX0 3).2.2.1 ∈ GW) (hdg : decode cc pc = .ok (.putfield index, 3)) (kk : ∀ (S1 : St) (H : Heap) (locs : List Loc), (k ()).1 S1 = some E0 → ZZ D 187 (adrC w) (celC w) A S0 H0 S1 H locs cells slots → W p l e R s m args below meth c H locs cells slots Q (F0 m (pc + 3) ls rest)) : W p l e R s m args below meth c H locs cells slots Q (F0 m pc ls (.int v :: vr w.2.2.2.2 37 60 x :: rest)) := by
  obtain ⟨u, S1, h1, h2⟩ := bnd_inv hE
  obtain ⟨⟨hx, hv⟩, h1⟩ := if_ok h1
  cases h1
  rw [vr_ref hx]
  refine row_put K0 hK hZ (q0 := 37 + x) (by omega) (adrC_lo w S (by omega)) (celC_CA w S hx) (C := RX0) (T := TX0) (N := 11) rfl iX0 tyX0 tyX0_ok nmX0 3 (by decide) hlink rfl (by show narrow .char (.int v) = .int v; rw [← hv]; exact pk_nc v) (by show fits .char (.int v) = true; rw [← hv]; exact pk_fc v) (Nat.le_of_ble_eq_true rfl) (S' := pI S 15 x 0 v) ?_ (fun j _ => rfl) (fr_15 w S x v) (fun _ _ => rfl) hdg (fun H locs hZ => kk _ H locs h2 hZ)
  rw [celC_CA _ _ hx]
  simp [eCA, gI_pI, gL_pI, gN_pI, gI_pL, gL_pL, gN_pL]
theorem pN_CA_3 (K0 : CallFix p m c cc nL s args GW own) (hK : va_K D vwCl (tysC w) s) {x : Nat} {v : Int32} {k : Unit → PM ρ} (hE : (bnd (wrcC 60 x 15 v) k).1 S = some E0) (hZ : ZZ D 187 (adrC w) (celC w) A S0 H0 S H locs cells slots) {index : Nat} {host : String} (hlink : va_Nw (.fieldLinkNest own index (TX0 3).1 (TX0 3).2.1 (TX0 3).2.2.1 host) s) (hdg : decode cc pc = .ok (.putfield index, 3)) (kk : ∀ (S1 : St) (H : Heap) (locs : List Loc), (k ()).1 S1 = some E0 → ZZ D 187 (adrC w) (celC w) A S0 H0 S1 H locs cells slots → W p l e R s m args below meth c H locs cells slots Q (F0 m (pc + 3) ls rest)) : W p l e R s m args below meth c H locs cells slots Q (F0 m pc ls (.int v :: vr w.2.2.2.2 37 60 x :: rest)) := by
  obtain ⟨u, S1, h1, h2⟩ := bnd_inv hE
  obtain ⟨⟨hx, hv⟩, h1⟩ := if_ok h1
  cases h1
  rw [vr_ref hx]
  refine row_putN K0 hK hZ (q0 := 37 + x) (by omega) (adrC_lo w S (by omega)) (celC_CA w S hx) (C := RX0) (T := TX0) (N := 11) rfl iX0 tyX0 tyX0_ok nmX0 3 (by decide) hlink rfl (by show narrow .char (.int v) = .int v; rw [← hv]; exact pk_nc v) (by show fits .char (.int v) = true; rw [← hv]; exact pk_fc v) (Nat.le_of_ble_eq_true rfl) (S' := pI S 15 x 0 v) ?_ (fun j _ => rfl) (fr_15 w S x v) (fun _ _ => rfl) hdg (fun H locs hZ => kk _ H locs h2 hZ)
  rw [celC_CA _ _ hx]
  simp [eCA, gI_pI, gL_pI, gN_pI, gI_pL, gL_pL, gN_pL]
theorem p_CA_4 (K0 : CallFix p m c cc nL s args GW own) (hK : va_K D vwCl (tysC w) s) {x : Nat} {v : Int32} {k : Unit → PM ρ} (hE : (bnd (wrc 60 x 16 v) k).1 S = some E0) (hZ : ZZ D 187 (adrC w) (celC w) A S0 H0 S H locs cells slots) {index : Nat} (hlink : Cond.fieldLink own index (TX0 4).1 (TX0 4).2.1 (TX0 4).2.2.1 ∈ GW) (hdg : decode cc pc = .ok (.putfield index, 3)) (kk : ∀ (S1 : St) (H : Heap) (locs : List Loc), (k ()).1 S1 = some E0 → ZZ D 187 (adrC w) (celC w) A S0 H0 S1 H locs cells slots → W p l e R s m args below meth c H locs cells slots Q (F0 m (pc + 3) ls rest)) : W p l e R s m args below meth c H locs cells slots Q (F0 m pc ls (.int v :: vr w.2.2.2.2 37 60 x :: rest)) := by
  obtain ⟨u, S1, h1, h2⟩ := bnd_inv hE
  obtain ⟨hx, h1⟩ := if_ok h1
  cases h1
  rw [vr_ref hx]
  refine row_put K0 hK hZ (q0 := 37 + x) (by omega) (adrC_lo w S (by omega)) (celC_CA w S hx) (C := RX0) (T := TX0) (N := 11) rfl iX0 tyX0 tyX0_ok nmX0 4 (by decide) hlink rfl rfl rfl (Nat.le_of_ble_eq_true rfl) (S' := pI S 16 x 0 v) ?_ (fun j _ => rfl) (fr_16 w S x v) (fun _ _ => rfl) hdg (fun H locs hZ => kk _ H locs h2 hZ)
  rw [celC_CA _ _ hx]
  simp [eCA, gI_pI, gL_pI, gN_pI, gI_pL, gL_pL, gN_pL]
theorem pN_CA_4 (K0 : CallFix p m c cc nL s args GW own) (hK : va_K D vwCl (tysC w) s) {x : Nat} {v : Int32} {k : Unit → PM ρ} (hE : (bnd (wrc 60 x 16 v) k).1 S = some E0) (hZ : ZZ D 187 (adrC w) (celC w) A S0 H0 S H locs cells slots) {index : Nat} {host : String} (hlink : va_Nw (.fieldLinkNest own index (TX0 4).1 (TX0 4).2.1 (TX0 4).2.2.1 host) s) (hdg : decode cc pc = .ok (.putfield index, 3)) (kk : ∀ (S1 : St) (H : Heap) (locs : List Loc), (k ()).1 S1 = some E0 → ZZ D 187 (adrC w) (celC w) A S0 H0 S1 H locs cells slots → W p l e R s m args below meth c H locs cells slots Q (F0 m (pc + 3) ls rest)) : W p l e R s m args below meth c H locs cells slots Q (F0 m pc ls (.int v :: vr w.2.2.2.2 37 60 x :: rest)) := by
  obtain ⟨u, S1, h1, h2⟩ := bnd_inv hE
  obtain ⟨hx, h1⟩ := if_ok h1
  cases h1
  rw [vr_ref hx]
  refine row_putN K0 hK hZ (q0 := 37 + x) (by omega) (adrC_lo w S (by omega)) (celC_CA w S hx) (C := RX0) (T := TX0) (N := 11) rfl iX0 tyX0 tyX0_ok nmX0 4 (by decide) hlink rfl rfl rfl (Nat.le_of_ble_eq_true rfl) (S' := pI S 16 x 0 v) ?_ (fun j _ => rfl) (fr_16 w S x v) (fun _ _ => rfl) hdg (fun H locs hZ => kk _ H locs h2 hZ)
  rw [celC_CA _ _ hx]
  simp [eCA, gI_pI, gL_pI, gN_pI, gI_pL, gL_pL, gN_pL]
theorem p_CA_5 (K0 : CallFix p m c cc nL s args GW own) (hK : va_K D vwCl (tysC w) s) {x : Nat} {v : Int32} {k : Unit → PM ρ} (hE : (bnd (wrc 60 x 17 v) k).1 S = some E0) (hZ : ZZ D 187 (adrC w) (celC w) A S0 H0 S H locs cells slots) {index : Nat} (hlink : Cond.fieldLink own index (TX0 5).1 (TX0 5).2.1 (TX0 5).2.2.1 ∈ GW) (hdg : decode cc pc = .ok (.putfield index, 3)) (kk : ∀ (S1 : St) (H : Heap) (locs : List Loc), (k ()).1 S1 = some E0 → ZZ D 187 (adrC w) (celC w) A S0 H0 S1 H locs cells slots → W p l e R s m args below meth c H locs cells slots Q (F0 m (pc + 3) ls rest)) : W p l e R s m args below meth c H locs cells slots Q (F0 m pc ls (.int v :: vr w.2.2.2.2 37 60 x :: rest)) := by
  obtain ⟨u, S1, h1, h2⟩ := bnd_inv hE
  obtain ⟨hx, h1⟩ := if_ok h1
  cases h1
  rw [vr_ref hx]
  refine row_put K0 hK hZ (q0 := 37 + x) (by omega) (adrC_lo w S (by omega)) (celC_CA w S hx) (C := RX0) (T := TX0) (N := 11) rfl iX0 tyX0 tyX0_ok nmX0 5 (by decide) hlink rfl rfl rfl (Nat.le_of_ble_eq_true rfl) (S' := pI S 17 x 0 v) ?_ (fun j _ => rfl) (fr_17 w S x v) (fun _ _ => rfl) hdg (fun H locs hZ => kk _ H locs h2 hZ)
  rw [celC_CA _ _ hx]
  simp [eCA, gI_pI, gL_pI, gN_pI, gI_pL, gL_pL, gN_pL]
theorem pN_CA_5 (K0 : CallFix p m c cc nL s args GW own) (hK : va_K D vwCl (tysC w) s) {x : Nat} {v : Int32} {k : Unit → PM ρ} (hE : (bnd (wrc 60 x 17 v) k).1 S = some E0) (hZ : ZZ D 187 (adrC w) (celC w) A S0 H0 S H locs cells slots) {index : Nat} {host : String} (hlink : va_Nw (.fieldLinkNest own index (TX0 5).1 (TX0 5).2.1 (TX0 5).2.2.1 host) s) (hdg : decode cc pc = .ok (.putfield index, 3)) (kk : ∀ (S1 : St) (H : Heap) (locs : List Loc), (k ()).1 S1 = some E0 → ZZ D 187 (adrC w) (celC w) A S0 H0 S1 H locs cells slots → W p l e R s m args below meth c H locs cells slots Q (F0 m (pc + 3) ls rest)) : W p l e R s m args below meth c H locs cells slots Q (F0 m pc ls (.int v :: vr w.2.2.2.2 37 60 x :: rest)) := by
  obtain ⟨u, S1, h1, h2⟩ := bnd_inv hE
  obtain ⟨hx, h1⟩ := if_ok h1
  cases h1
  rw [vr_ref hx]
  refine row_putN K0 hK hZ (q0 := 37 + x) (by omega) (adrC_lo w S (by omega)) (celC_CA w S hx) (C := RX0) (T := TX0) (N := 11) rfl iX0 tyX0 tyX0_ok nmX0 5 (by decide) hlink rfl rfl rfl (Nat.le_of_ble_eq_true rfl) (S' := pI S 17 x 0 v) ?_ (fun j _ => rfl) (fr_17 w S x v) (fun _ _ => rfl) hdg (fun H locs hZ => kk _ H locs h2 hZ)
  rw [celC_CA _ _ hx]
  simp [eCA, gI_pI, gL_pI, gN_pI, gI_pL, gL_pL, gN_pL]
theorem p_CA_6 (K0 : CallFix p m c cc nL s args GW own) (hK : va_K D vwCl (tysC w) s) {x : Nat} {v : Int32} {k : Unit → PM ρ} (hE : (bnd (wrcZ 60 x 18 v) k).1 S = some E0) (hZ : ZZ D 187 (adrC w) (celC w) A S0 H0 S H locs cells slots) {index : Nat} (hlink : Cond.fieldLink own index (TX0 6).1 (TX0 6).2.1 (TX0 6).2.2.1 ∈ GW) (hdg : decode cc pc = .ok (.putfield index, 3)) (kk : ∀ (S1 : St) (H : Heap) (locs : List Loc), (k ()).1 S1 = some E0 → ZZ D 187 (adrC w) (celC w) A S0 H0 S1 H locs cells slots → W p l e R s m args below meth c H locs cells slots Q (F0 m (pc + 3) ls rest)) : W p l e R s m args below meth c H locs cells slots Q (F0 m pc ls (.int v :: vr w.2.2.2.2 37 60 x :: rest)) := by
  obtain ⟨u, S1, h1, h2⟩ := bnd_inv hE
  obtain ⟨⟨hx, hv⟩, h1⟩ := if_ok h1
  cases h1
  rw [vr_ref hx]
  refine row_put K0 hK hZ (q0 := 37 + x) (by omega) (adrC_lo w S (by omega)) (celC_CA w S hx) (C := RX0) (T := TX0) (N := 11) rfl iX0 tyX0 tyX0_ok nmX0 6 (by decide) hlink rfl (by rcases hv with rfl | rfl <;> decide +kernel) (by rcases hv with rfl | rfl <;> decide +kernel) (Nat.le_of_ble_eq_true rfl) (S' := pI S 18 x 0 v) ?_ (fun j _ => rfl) (fr_18 w S x v) (fun _ _ => rfl) hdg (fun H locs hZ => kk _ H locs h2 hZ)
  rw [celC_CA _ _ hx]
  simp [eCA, gI_pI, gL_pI, gN_pI, gI_pL, gL_pL, gN_pL]
theorem pN_CA_6 (K0 : CallFix p m c cc nL s args GW own) (hK : va_K D vwCl (tysC w) s) {x : Nat} {v : Int32} {k : Unit → PM ρ} (hE : (bnd (wrcZ 60 x 18 v) k).1 S = some E0) (hZ : ZZ D 187 (adrC w) (celC w) A S0 H0 S H locs cells slots) {index : Nat} {host : String} (hlink : va_Nw (.fieldLinkNest own index (TX0 6).1 (TX0 6).2.1 (TX0 6).2.2.1 host) s) (hdg : decode cc pc = .ok (.putfield index, 3)) (kk : ∀ (S1 : St) (H : Heap) (locs : List Loc), (k ()).1 S1 = some E0 → ZZ D 187 (adrC w) (celC w) A S0 H0 S1 H locs cells slots → W p l e R s m args below meth c H locs cells slots Q (F0 m (pc + 3) ls rest)) : W p l e R s m args below meth c H locs cells slots Q (F0 m pc ls (.int v :: vr w.2.2.2.2 37 60 x :: rest)) := by
  obtain ⟨u, S1, h1, h2⟩ := bnd_inv hE
  obtain ⟨⟨hx, hv⟩, h1⟩ := if_ok h1
  cases h1
  rw [vr_ref hx]
  refine row_putN K0 hK hZ (q0 := 37 + x) (by omega) (adrC_lo w S (by omega)) (celC_CA w S hx) (C := RX0) (T := TX0) (N := 11) rfl iX0 tyX0 tyX0_ok nmX0 6 (by decide) hlink rfl (by rcases hv with rfl | rfl <;> decide +kernel) (by rcases hv with rfl | rfl <;> decide +kernel) (Nat.le_of_ble_eq_true rfl) (S' := pI S 18 x 0 v) ?_ (fun j _ => rfl) (fr_18 w S x v) (fun _ _ => rfl) hdg (fun H locs hZ => kk _ H locs h2 hZ)
  rw [celC_CA _ _ hx]
  simp [eCA, gI_pI, gL_pI, gN_pI, gI_pL, gL_pL, gN_pL]
theorem p_CA_7 (K0 : CallFix p m c cc nL s args GW own) (hK : va_K D vwCl (tysC w) s) {x : Nat} {v : Int32} {k : Unit → PM ρ} (hE : (bnd (wrc 60 x 19 v) k).1 S = some E0) (hZ : ZZ D 187 (adrC w) (celC w) A S0 H0 S H locs cells slots) {index : Nat} (hlink : Cond.fieldLink own index (TX0 7).1 (TX0 7).2.1 (TX0 7).2.2.1 ∈ GW) (hdg : decode cc pc = .ok (.putfield index, 3)) (kk : ∀ (S1 : St) (H : Heap) (locs : List Loc), (k ()).1 S1 = some E0 → ZZ D 187 (adrC w) (celC w) A S0 H0 S1 H locs cells slots → W p l e R s m args below meth c H locs cells slots Q (F0 m (pc + 3) ls rest)) : W p l e R s m args below meth c H locs cells slots Q (F0 m pc ls (.int v :: vr w.2.2.2.2 37 60 x :: rest)) := by
  obtain ⟨u, S1, h1, h2⟩ := bnd_inv hE
  obtain ⟨hx, h1⟩ := if_ok h1
  cases h1
  rw [vr_ref hx]
  refine row_put K0 hK hZ (q0 := 37 + x) (by omega) (adrC_lo w S (by omega)) (celC_CA w S hx) (C := RX0) (T := TX0) (N := 11) rfl iX0 tyX0 tyX0_ok nmX0 7 (by decide) hlink rfl rfl rfl (Nat.le_of_ble_eq_true rfl) (S' := pI S 19 x 0 v) ?_ (fun j _ => rfl) (fr_19 w S x v) (fun _ _ => rfl) hdg (fun H locs hZ => kk _ H locs h2 hZ)
  rw [celC_CA _ _ hx]
  simp [eCA, gI_pI, gL_pI, gN_pI, gI_pL, gL_pL, gN_pL]
theorem pN_CA_7 (K0 : CallFix p m c cc nL s args GW own) (hK : va_K D vwCl (tysC w) s) {x : Nat} {v : Int32} {k : Unit → PM ρ} (hE : (bnd (wrc 60 x 19 v) k).1 S = some E0) (hZ : ZZ D 187 (adrC w) (celC w) A S0 H0 S H locs cells slots) {index : Nat} {host : String} (hlink : va_Nw (.fieldLinkNest own index (TX0 7).1 (TX0 7).2.1 (TX0 7).2.2.1 host) s) (hdg : decode cc pc = .ok (.putfield index, 3)) (kk : ∀ (S1 : St) (H : Heap) (locs : List Loc), (k ()).1 S1 = some E0 → ZZ D 187 (adrC w) (celC w) A S0 H0 S1 H locs cells slots → W p l e R s m args below meth c H locs cells slots Q (F0 m (pc + 3) ls rest)) : W p l e R s m args below meth c H locs cells slots Q (F0 m pc ls (.int v :: vr w.2.2.2.2 37 60 x :: rest)) := by
  obtain ⟨u, S1, h1, h2⟩ := bnd_inv hE
  obtain ⟨hx, h1⟩ := if_ok h1
  cases h1
  rw [vr_ref hx]
  refine row_putN K0 hK hZ (q0 := 37 + x) (by omega) (adrC_lo w S (by omega)) (celC_CA w S hx) (C := RX0) (T := TX0) (N := 11) rfl iX0 tyX0 tyX0_ok nmX0 7 (by decide) hlink rfl rfl rfl (Nat.le_of_ble_eq_true rfl) (S' := pI S 19 x 0 v) ?_ (fun j _ => rfl) (fr_19 w S x v) (fun _ _ => rfl) hdg (fun H locs hZ => kk _ H locs h2 hZ)
  rw [celC_CA _ _ hx]
  simp [eCA, gI_pI, gL_pI, gN_pI, gI_pL, gL_pL, gN_pL]
theorem p_CA_8 (K0 : CallFix p m c cc nL s args GW own) (hK : va_K D vwCl (tysC w) s) {x : Nat} {v : Int32} {k : Unit → PM ρ} (hE : (bnd (wrc 60 x 20 v) k).1 S = some E0) (hZ : ZZ D 187 (adrC w) (celC w) A S0 H0 S H locs cells slots) {index : Nat} (hlink : Cond.fieldLink own index (TX0 8).1 (TX0 8).2.1 (TX0 8).2.2.1 ∈ GW) (hdg : decode cc pc = .ok (.putfield index, 3)) (kk : ∀ (S1 : St) (H : Heap) (locs : List Loc), (k ()).1 S1 = some E0 → ZZ D 187 (adrC w) (celC w) A S0 H0 S1 H locs cells slots → W p l e R s m args below meth c H locs cells slots Q (F0 m (pc + 3) ls rest)) : W p l e R s m args below meth c H locs cells slots Q (F0 m pc ls (.int v :: vr w.2.2.2.2 37 60 x :: rest)) := by
  obtain ⟨u, S1, h1, h2⟩ := bnd_inv hE
  obtain ⟨hx, h1⟩ := if_ok h1
  cases h1
  rw [vr_ref hx]
  refine row_put K0 hK hZ (q0 := 37 + x) (by omega) (adrC_lo w S (by omega)) (celC_CA w S hx) (C := RX0) (T := TX0) (N := 11) rfl iX0 tyX0 tyX0_ok nmX0 8 (by decide) hlink rfl rfl rfl (Nat.le_of_ble_eq_true rfl) (S' := pI S 20 x 0 v) ?_ (fun j _ => rfl) (fr_20 w S x v) (fun _ _ => rfl) hdg (fun H locs hZ => kk _ H locs h2 hZ)
  rw [celC_CA _ _ hx]
  simp [eCA, gI_pI, gL_pI, gN_pI, gI_pL, gL_pL, gN_pL]
theorem pN_CA_8 (K0 : CallFix p m c cc nL s args GW own) (hK : va_K D vwCl (tysC w) s) {x : Nat} {v : Int32} {k : Unit → PM ρ} (hE : (bnd (wrc 60 x 20 v) k).1 S = some E0) (hZ : ZZ D 187 (adrC w) (celC w) A S0 H0 S H locs cells slots) {index : Nat} {host : String} (hlink : va_Nw (.fieldLinkNest own index (TX0 8).1 (TX0 8).2.1 (TX0 8).2.2.1 host) s) (hdg : decode cc pc = .ok (.putfield index, 3)) (kk : ∀ (S1 : St) (H : Heap) (locs : List Loc), (k ()).1 S1 = some E0 → ZZ D 187 (adrC w) (celC w) A S0 H0 S1 H locs cells slots → W p l e R s m args below meth c H locs cells slots Q (F0 m (pc + 3) ls rest)) : W p l e R s m args below meth c H locs cells slots Q (F0 m pc ls (.int v :: vr w.2.2.2.2 37 60 x :: rest)) := by
  obtain ⟨u, S1, h1, h2⟩ := bnd_inv hE
  obtain ⟨hx, h1⟩ := if_ok h1
  cases h1
  rw [vr_ref hx]
  refine row_putN K0 hK hZ (q0 := 37 + x) (by omega) (adrC_lo w S (by omega)) (celC_CA w S hx) (C := RX0) (T := TX0) (N := 11) rfl iX0 tyX0 tyX0_ok nmX0 8 (by decide) hlink rfl rfl rfl (Nat.le_of_ble_eq_true rfl) (S' := pI S 20 x 0 v) ?_ (fun j _ => rfl) (fr_20 w S x v) (fun _ _ => rfl) hdg (fun H locs hZ => kk _ H locs h2 hZ)
  rw [celC_CA _ _ hx]
  simp [eCA, gI_pI, gL_pI, gN_pI, gI_pL, gL_pL, gN_pL]
theorem p_CA_9 (K0 : CallFix p m c cc nL s args GW own) (hK : va_K D vwCl (tysC w) s) {x : Nat} {v : Int32} {k : Unit → PM ρ} (hE : (bnd (wrc 60 x 21 v) k).1 S = some E0) (hZ : ZZ D 187 (adrC w) (celC w) A S0 H0 S H locs cells slots) {index : Nat} (hlink : Cond.fieldLink own index (TX0 9).1 (TX0 9).2.1 (TX0 9).2.2.1 ∈ GW) (hdg : decode cc pc = .ok (.putfield index, 3)) (kk : ∀ (S1 : St) (H : Heap) (locs : List Loc), (k ()).1 S1 = some E0 → ZZ D 187 (adrC w) (celC w) A S0 H0 S1 H locs cells slots → W p l e R s m args below meth c H locs cells slots Q (F0 m (pc + 3) ls rest)) : W p l e R s m args below meth c H locs cells slots Q (F0 m pc ls (.int v :: vr w.2.2.2.2 37 60 x :: rest)) := by
  obtain ⟨u, S1, h1, h2⟩ := bnd_inv hE
  obtain ⟨hx, h1⟩ := if_ok h1
  cases h1
  rw [vr_ref hx]
  refine row_put K0 hK hZ (q0 := 37 + x) (by omega) (adrC_lo w S (by omega)) (celC_CA w S hx) (C := RX0) (T := TX0) (N := 11) rfl iX0 tyX0 tyX0_ok nmX0 9 (by decide) hlink rfl rfl rfl (Nat.le_of_ble_eq_true rfl) (S' := pI S 21 x 0 v) ?_ (fun j _ => rfl) (fr_21 w S x v) (fun _ _ => rfl) hdg (fun H locs hZ => kk _ H locs h2 hZ)
  rw [celC_CA _ _ hx]
  simp [eCA, gI_pI, gL_pI, gN_pI, gI_pL, gL_pL, gN_pL]
theorem pN_CA_9 (K0 : CallFix p m c cc nL s args GW own) (hK : va_K D vwCl (tysC w) s) {x : Nat} {v : Int32} {k : Unit → PM ρ} (hE : (bnd (wrc 60 x 21 v) k).1 S = some E0) (hZ : ZZ D 187 (adrC w) (celC w) A S0 H0 S H locs cells slots) {index : Nat} {host : String} (hlink : va_Nw (.fieldLinkNest own index (TX0 9).1 (TX0 9).2.1 (TX0 9).2.2.1 host) s) (hdg : decode cc pc = .ok (.putfield index, 3)) (kk : ∀ (S1 : St) (H : Heap) (locs : List Loc), (k ()).1 S1 = some E0 → ZZ D 187 (adrC w) (celC w) A S0 H0 S1 H locs cells slots → W p l e R s m args below meth c H locs cells slots Q (F0 m (pc + 3) ls rest)) : W p l e R s m args below meth c H locs cells slots Q (F0 m pc ls (.int v :: vr w.2.2.2.2 37 60 x :: rest)) := by
  obtain ⟨u, S1, h1, h2⟩ := bnd_inv hE
  obtain ⟨hx, h1⟩ := if_ok h1
  cases h1
  rw [vr_ref hx]
  refine row_putN K0 hK hZ (q0 := 37 + x) (by omega) (adrC_lo w S (by omega)) (celC_CA w S hx) (C := RX0) (T := TX0) (N := 11) rfl iX0 tyX0 tyX0_ok nmX0 9 (by decide) hlink rfl rfl rfl (Nat.le_of_ble_eq_true rfl) (S' := pI S 21 x 0 v) ?_ (fun j _ => rfl) (fr_21 w S x v) (fun _ _ => rfl) hdg (fun H locs hZ => kk _ H locs h2 hZ)
  rw [celC_CA _ _ hx]
  simp [eCA, gI_pI, gL_pI, gN_pI, gI_pL, gL_pL, gN_pL]
theorem p_CA_10 (K0 : CallFix p m c cc nL s args GW own) (hK : va_K D vwCl (tysC w) s) {x : Nat} {v : Int32} {k : Unit → PM ρ} (hE : (bnd (wrc 60 x 22 v) k).1 S = some E0) (hZ : ZZ D 187 (adrC w) (celC w) A S0 H0 S H locs cells slots) {index : Nat} (hlink : Cond.fieldLink own index (TX0 10).1 (TX0 10).2.1 (TX0 10).2.2.1 ∈ GW) (hdg : decode cc pc = .ok (.putfield index, 3)) (kk : ∀ (S1 : St) (H : Heap) (locs : List Loc), (k ()).1 S1 = some E0 → ZZ D 187 (adrC w) (celC w) A S0 H0 S1 H locs cells slots → W p l e R s m args below meth c H locs cells slots Q (F0 m (pc + 3) ls rest)) : W p l e R s m args below meth c H locs cells slots Q (F0 m pc ls (.int v :: vr w.2.2.2.2 37 60 x :: rest)) := by
  obtain ⟨u, S1, h1, h2⟩ := bnd_inv hE
  obtain ⟨hx, h1⟩ := if_ok h1
  cases h1
  rw [vr_ref hx]
  refine row_put K0 hK hZ (q0 := 37 + x) (by omega) (adrC_lo w S (by omega)) (celC_CA w S hx) (C := RX0) (T := TX0) (N := 11) rfl iX0 tyX0 tyX0_ok nmX0 10 (by decide) hlink rfl rfl rfl (Nat.le_of_ble_eq_true rfl) (S' := pI S 22 x 0 v) ?_ (fun j _ => rfl) (fr_22 w S x v) (fun _ _ => rfl) hdg (fun H locs hZ => kk _ H locs h2 hZ)
  rw [celC_CA _ _ hx]
  simp [eCA, gI_pI, gL_pI, gN_pI, gI_pL, gL_pL, gN_pL]
theorem pN_CA_10 (K0 : CallFix p m c cc nL s args GW own) (hK : va_K D vwCl (tysC w) s) {x : Nat} {v : Int32} {k : Unit → PM ρ} (hE : (bnd (wrc 60 x 22 v) k).1 S = some E0) (hZ : ZZ D 187 (adrC w) (celC w) A S0 H0 S H locs cells slots) {index : Nat} {host : String} (hlink : va_Nw (.fieldLinkNest own index (TX0 10).1 (TX0 10).2.1 (TX0 10).2.2.1 host) s) (hdg : decode cc pc = .ok (.putfield index, 3)) (kk : ∀ (S1 : St) (H : Heap) (locs : List Loc), (k ()).1 S1 = some E0 → ZZ D 187 (adrC w) (celC w) A S0 H0 S1 H locs cells slots → W p l e R s m args below meth c H locs cells slots Q (F0 m (pc + 3) ls rest)) : W p l e R s m args below meth c H locs cells slots Q (F0 m pc ls (.int v :: vr w.2.2.2.2 37 60 x :: rest)) := by
  obtain ⟨u, S1, h1, h2⟩ := bnd_inv hE
  obtain ⟨hx, h1⟩ := if_ok h1
  cases h1
  rw [vr_ref hx]
  refine row_putN K0 hK hZ (q0 := 37 + x) (by omega) (adrC_lo w S (by omega)) (celC_CA w S hx) (C := RX0) (T := TX0) (N := 11) rfl iX0 tyX0 tyX0_ok nmX0 10 (by decide) hlink rfl rfl rfl (Nat.le_of_ble_eq_true rfl) (S' := pI S 22 x 0 v) ?_ (fun j _ => rfl) (fr_22 w S x v) (fun _ _ => rfl) hdg (fun H locs hZ => kk _ H locs h2 hZ)
  rw [celC_CA _ _ hx]
  simp [eCA, gI_pI, gL_pI, gN_pI, gI_pL, gL_pL, gN_pL]
theorem p_TR_1 (K0 : CallFix p m c cc nL s args GW own) (hK : va_K D vwCl (tysC w) s) {x : Nat} {v : Int32} {k : Unit → PM ρ} (hE : (bnd (wrc 30 x 23 v) k).1 S = some E0) (hZ : ZZ D 187 (adrC w) (celC w) A S0 H0 S H locs cells slots) {index : Nat} (hlink : Cond.fieldLink own index (TX4 1).1 (TX4 1).2.1 (TX4 1).2.2.1 ∈ GW) (hdg : decode cc pc = .ok (.putfield index, 3)) (kk : ∀ (S1 : St) (H : Heap) (locs : List Loc), (k ()).1 S1 = some E0 → ZZ D 187 (adrC w) (celC w) A S0 H0 S1 H locs cells slots → W p l e R s m args below meth c H locs cells slots Q (F0 m (pc + 3) ls rest)) : W p l e R s m args below meth c H locs cells slots Q (F0 m pc ls (.int v :: vr w.2.2.2.2 97 30 x :: rest)) := by
  obtain ⟨u, S1, h1, h2⟩ := bnd_inv hE
  obtain ⟨hx, h1⟩ := if_ok h1
  cases h1
  rw [vr_ref hx]
  refine row_put K0 hK hZ (q0 := 97 + x) (by omega) (adrC_lo w S (by omega)) (celC_TR w S hx) (C := RX4) (T := TX4) (N := 3) rfl iX4 tyX4 tyX4_ok nmX4 1 (by decide) hlink rfl rfl rfl (Nat.le_of_ble_eq_true rfl) (S' := pI S 23 x 0 v) ?_ (fun j _ => rfl) (fr_23 w S x v) (fun _ _ => rfl) hdg (fun H locs hZ => kk _ H locs h2 hZ)
  rw [celC_TR _ _ hx]
  simp [eTR, gI_pI, gL_pI, gN_pI, gI_pL, gL_pL, gN_pL]
theorem pN_TR_1 (K0 : CallFix p m c cc nL s args GW own) (hK : va_K D vwCl (tysC w) s) {x : Nat} {v : Int32} {k : Unit → PM ρ} (hE : (bnd (wrc 30 x 23 v) k).1 S = some E0) (hZ : ZZ D 187 (adrC w) (celC w) A S0 H0 S H locs cells slots) {index : Nat} {host : String} (hlink : va_Nw (.fieldLinkNest own index (TX4 1).1 (TX4 1).2.1 (TX4 1).2.2.1 host) s) (hdg : decode cc pc = .ok (.putfield index, 3)) (kk : ∀ (S1 : St) (H : Heap) (locs : List Loc), (k ()).1 S1 = some E0 → ZZ D 187 (adrC w) (celC w) A S0 H0 S1 H locs cells slots → W p l e R s m args below meth c H locs cells slots Q (F0 m (pc + 3) ls rest)) : W p l e R s m args below meth c H locs cells slots Q (F0 m pc ls (.int v :: vr w.2.2.2.2 97 30 x :: rest)) := by
  obtain ⟨u, S1, h1, h2⟩ := bnd_inv hE
  obtain ⟨hx, h1⟩ := if_ok h1
  cases h1
  rw [vr_ref hx]
  refine row_putN K0 hK hZ (q0 := 97 + x) (by omega) (adrC_lo w S (by omega)) (celC_TR w S hx) (C := RX4) (T := TX4) (N := 3) rfl iX4 tyX4 tyX4_ok nmX4 1 (by decide) hlink rfl rfl rfl (Nat.le_of_ble_eq_true rfl) (S' := pI S 23 x 0 v) ?_ (fun j _ => rfl) (fr_23 w S x v) (fun _ _ => rfl) hdg (fun H locs hZ => kk _ H locs h2 hZ)
  rw [celC_TR _ _ hx]
  simp [eTR, gI_pI, gL_pI, gN_pI, gI_pL, gL_pL, gN_pL]
theorem n_PL (K0 : CallFix p m c cc nL s args GW own) (hK : va_K D vwCl (tysC w) s) {x : Nat} {k : Int32 → PM ρ} (hE : (bnd (rdk 2 x (nI 8)) k).1 S = some E0) (hZ : ZZ D 187 (adrC w) (celC w) A S0 H0 S H locs cells slots) (hdg : decode cc pc = .ok (.arraylength, 1)) (kk : ∀ v : Int32, (k v).1 S = some E0 → W p l e R s m args below meth c H locs cells slots Q (F0 m (pc + 1) ls (.int v :: rest))) : W p l e R s m args below meth c H locs cells slots Q (F0 m pc ls (vr w.2.2.2.2 3 2 x :: rest)) := by
  obtain ⟨v, S1, h1, h2⟩ := bnd_inv hE
  obtain ⟨hx, h1⟩ := if_ok h1
  cases h1
  rw [vr_ref hx]
  exact row_alen K0 hK hZ (q0 := 3 + x) (t0 := 2) (by omega) (adrC_lo w S (by omega)) (celC_PL w S hx) rfl rfl hdg (kk _ h2)
theorem n_KN (K0 : CallFix p m c cc nL s args GW own) (hK : va_K D vwCl (tysC w) s) {x : Nat} {k : Int32 → PM ρ} (hE : (bnd (rdk 2 x (nI 30)) k).1 S = some E0) (hZ : ZZ D 187 (adrC w) (celC w) A S0 H0 S H locs cells slots) (hdg : decode cc pc = .ok (.arraylength, 1)) (kk : ∀ v : Int32, (k v).1 S = some E0 → W p l e R s m args below meth c H locs cells slots Q (F0 m (pc + 1) ls (.int v :: rest))) : W p l e R s m args below meth c H locs cells slots Q (F0 m pc ls (vr w.2.2.2.2 5 2 x :: rest)) := by
  obtain ⟨v, S1, h1, h2⟩ := bnd_inv hE
  obtain ⟨hx, h1⟩ := if_ok h1
  cases h1
  rw [vr_ref hx]
  exact row_alen K0 hK hZ (q0 := 5 + x) (t0 := 3) (by omega) (adrC_lo w S (by omega)) (celC_KN w S hx) rfl rfl hdg (kk _ h2)
theorem n_SO (K0 : CallFix p m c cc nL s args GW own) (hK : va_K D vwCl (tysC w) s) {x : Nat} {k : Int32 → PM ρ} (hE : (bnd (rdk 2 x (nI 6)) k).1 S = some E0) (hZ : ZZ D 187 (adrC w) (celC w) A S0 H0 S H locs cells slots) (hdg : decode cc pc = .ok (.arraylength, 1)) (kk : ∀ v : Int32, (k v).1 S = some E0 → W p l e R s m args below meth c H locs cells slots Q (F0 m (pc + 1) ls (.int v :: rest))) : W p l e R s m args below meth c H locs cells slots Q (F0 m pc ls (vr w.2.2.2.2 7 2 x :: rest)) := by
  obtain ⟨v, S1, h1, h2⟩ := bnd_inv hE
  obtain ⟨hx, h1⟩ := if_ok h1
  cases h1
  rw [vr_ref hx]
  exact row_alen K0 hK hZ (q0 := 7 + x) (t0 := 0) (by omega) (adrC_lo w S (by omega)) (celC_SO w S hx) rfl rfl hdg (kk _ h2)
theorem n_ME (K0 : CallFix p m c cc nL s args GW own) (hK : va_K D vwCl (tysC w) s) {x : Nat} {k : Int32 → PM ρ} (hE : (bnd (rdk 6 x (nI 30)) k).1 S = some E0) (hZ : ZZ D 187 (adrC w) (celC w) A S0 H0 S H locs cells slots) (hdg : decode cc pc = .ok (.arraylength, 1)) (kk : ∀ v : Int32, (k v).1 S = some E0 → W p l e R s m args below meth c H locs cells slots Q (F0 m (pc + 1) ls (.int v :: rest))) : W p l e R s m args below meth c H locs cells slots Q (F0 m pc ls (vr w.2.2.2.2 15 6 x :: rest)) := by
  obtain ⟨v, S1, h1, h2⟩ := bnd_inv hE
  obtain ⟨hx, h1⟩ := if_ok h1
  cases h1
  rw [vr_ref hx]
  exact row_alen K0 hK hZ (q0 := 15 + x) (t0 := 0) (by omega) (adrC_lo w S (by omega)) (celC_ME w S hx) rfl rfl hdg (kk _ h2)
theorem n_TO (K0 : CallFix p m c cc nL s args GW own) (hK : va_K D vwCl (tysC w) s) {x : Nat} {k : Int32 → PM ρ} (hE : (bnd (rdk 30 x (nI 5)) k).1 S = some E0) (hZ : ZZ D 187 (adrC w) (celC w) A S0 H0 S H locs cells slots) (hdg : decode cc pc = .ok (.arraylength, 1)) (kk : ∀ v : Int32, (k v).1 S = some E0 → W p l e R s m args below meth c H locs cells slots Q (F0 m (pc + 1) ls (.int v :: rest))) : W p l e R s m args below meth c H locs cells slots Q (F0 m pc ls (vr w.2.2.2.2 127 30 x :: rest)) := by
  obtain ⟨v, S1, h1, h2⟩ := bnd_inv hE
  obtain ⟨hx, h1⟩ := if_ok h1
  cases h1
  rw [vr_ref hx]
  exact row_alen K0 hK hZ (q0 := 127 + x) (t0 := 0) (by omega) (adrC_lo w S (by omega)) (celC_TO w S hx) rfl rfl hdg (kk _ h2)
theorem a_PL (K0 : CallFix p m c cc nL s args GW own) (hK : va_K D vwCl (tysC w) s) {x : Nat} {i : Int32} {k : Nat → PM ρ} (hE : (bnd (arf 2 x 8 i (fun j => 8 * x + j)) k).1 S = some E0) (hZ : ZZ D 187 (adrC w) (celC w) A S0 H0 S H locs cells slots) (hdg : decode cc pc = .ok (.aaload, 1)) (kk : ∀ v : Nat, (k v).1 S = some E0 → W p l e R s m args below meth c H locs cells slots Q (F0 m (pc + 1) ls (vr w.2.2.2.2 21 16 v :: rest))) : W p l e R s m args below meth c H locs cells slots Q (F0 m pc ls (.int i :: vr w.2.2.2.2 3 2 x :: rest)) := by
  obtain ⟨v, S1, h1, h2⟩ := bnd_inv hE
  obtain ⟨⟨hx, hi⟩, h1⟩ := if_ok h1
  cases h1
  rw [vr_ref hx]
  have hlt : i.toNatClampNeg < 8 := Nat.not_le.mp fun q => hi (Or.inr q)
  refine row_aald K0 hK hZ (q0 := 3 + x) (t0 := 2) (by omega) (adrC_lo w S (by omega)) (celC_PL w S hx) rfl hi hdg ?_
  have h9 := kk _ h2
  dsimp only at h9
  rw [vr_ref (by omega)] at h9
  exact h9
theorem a_KN (K0 : CallFix p m c cc nL s args GW own) (hK : va_K D vwCl (tysC w) s) {x : Nat} {i : Int32} {k : Nat → PM ρ} (hE : (bnd (arf 2 x 30 i (fun j => 30 * x + j)) k).1 S = some E0) (hZ : ZZ D 187 (adrC w) (celC w) A S0 H0 S H locs cells slots) (hdg : decode cc pc = .ok (.aaload, 1)) (kk : ∀ v : Nat, (k v).1 S = some E0 → W p l e R s m args below meth c H locs cells slots Q (F0 m (pc + 1) ls (vr w.2.2.2.2 37 60 v :: rest))) : W p l e R s m args below meth c H locs cells slots Q (F0 m pc ls (.int i :: vr w.2.2.2.2 5 2 x :: rest)) := by
  obtain ⟨v, S1, h1, h2⟩ := bnd_inv hE
  obtain ⟨⟨hx, hi⟩, h1⟩ := if_ok h1
  cases h1
  rw [vr_ref hx]
  have hlt : i.toNatClampNeg < 30 := Nat.not_le.mp fun q => hi (Or.inr q)
  refine row_aald K0 hK hZ (q0 := 5 + x) (t0 := 3) (by omega) (adrC_lo w S (by omega)) (celC_KN w S hx) rfl hi hdg ?_
  have h9 := kk _ h2
  dsimp only at h9
  rw [vr_ref (by omega)] at h9
  exact h9
theorem a_SO (K0 : CallFix p m c cc nL s args GW own) (hK : va_K D vwCl (tysC w) s) {x : Nat} {i : Int32} {k : Int32 → PM ρ} (hE : (bnd (ald 2 x 4 6 i) k).1 S = some E0) (hZ : ZZ D 187 (adrC w) (celC w) A S0 H0 S H locs cells slots) (hdg : decode cc pc = .ok (.iaload, 1)) (kk : ∀ v : Int32, (k v).1 S = some E0 → W p l e R s m args below meth c H locs cells slots Q (F0 m (pc + 1) ls (.int v :: rest))) : W p l e R s m args below meth c H locs cells slots Q (F0 m pc ls (.int i :: vr w.2.2.2.2 7 2 x :: rest)) := by
  obtain ⟨v, S1, h1, h2⟩ := bnd_inv hE
  obtain ⟨⟨hx, hi⟩, h1⟩ := if_ok h1
  cases h1
  rw [vr_ref hx]
  exact row_iald K0 hK hZ (q0 := 7 + x) (t0 := 0) (by omega) (adrC_lo w S (by omega)) (celC_SO w S hx) rfl hi hdg (kk _ h2)
theorem s_SO (K0 : CallFix p m c cc nL s args GW own) (hK : va_K D vwCl (tysC w) s) {x : Nat} {i v : Int32} {k : Unit → PM ρ} (hE : (bnd (ast 2 x 4 6 i v) k).1 S = some E0) (hZ : ZZ D 187 (adrC w) (celC w) A S0 H0 S H locs cells slots) (hdg : decode cc pc = .ok (.iastore, 1)) (kk : ∀ (S1 : St) (H : Heap) (locs : List Loc), (k ()).1 S1 = some E0 → ZZ D 187 (adrC w) (celC w) A S0 H0 S1 H locs cells slots → W p l e R s m args below meth c H locs cells slots Q (F0 m (pc + 1) ls rest)) : W p l e R s m args below meth c H locs cells slots Q (F0 m pc ls (.int v :: .int i :: vr w.2.2.2.2 7 2 x :: rest)) := by
  obtain ⟨u, S1, h1, h2⟩ := bnd_inv hE
  obtain ⟨⟨hx, hi⟩, h1⟩ := if_ok h1
  cases h1
  rw [vr_ref hx]
  refine row_iast K0 hK hZ (q0 := 7 + x) (t0 := 0) (by omega) (adrC_lo w S (by omega)) (celC_SO w S hx) rfl hi (S' := pI S 4 x i.toNatClampNeg v) ?_ (fun j _ => rfl) (fr_4 w S x _ v) (fun _ _ => rfl) hdg (fun H locs hZ => kk _ H locs h2 hZ)
  rw [celC_SO _ _ hx]
  simp only [eSO, gI_pI]
  congr 4
  funext j
  simp [upd]
theorem a_ME (K0 : CallFix p m c cc nL s args GW own) (hK : va_K D vwCl (tysC w) s) {x : Nat} {i : Int32} {k : Int32 → PM ρ} (hE : (bnd (ald 6 x 6 30 i) k).1 S = some E0) (hZ : ZZ D 187 (adrC w) (celC w) A S0 H0 S H locs cells slots) (hdg : decode cc pc = .ok (.iaload, 1)) (kk : ∀ v : Int32, (k v).1 S = some E0 → W p l e R s m args below meth c H locs cells slots Q (F0 m (pc + 1) ls (.int v :: rest))) : W p l e R s m args below meth c H locs cells slots Q (F0 m pc ls (.int i :: vr w.2.2.2.2 15 6 x :: rest)) := by
  obtain ⟨v, S1, h1, h2⟩ := bnd_inv hE
  obtain ⟨⟨hx, hi⟩, h1⟩ := if_ok h1
  cases h1
  rw [vr_ref hx]
  exact row_iald K0 hK hZ (q0 := 15 + x) (t0 := 0) (by omega) (adrC_lo w S (by omega)) (celC_ME w S hx) rfl hi hdg (kk _ h2)
theorem s_ME (K0 : CallFix p m c cc nL s args GW own) (hK : va_K D vwCl (tysC w) s) {x : Nat} {i v : Int32} {k : Unit → PM ρ} (hE : (bnd (ast 6 x 6 30 i v) k).1 S = some E0) (hZ : ZZ D 187 (adrC w) (celC w) A S0 H0 S H locs cells slots) (hdg : decode cc pc = .ok (.iastore, 1)) (kk : ∀ (S1 : St) (H : Heap) (locs : List Loc), (k ()).1 S1 = some E0 → ZZ D 187 (adrC w) (celC w) A S0 H0 S1 H locs cells slots → W p l e R s m args below meth c H locs cells slots Q (F0 m (pc + 1) ls rest)) : W p l e R s m args below meth c H locs cells slots Q (F0 m pc ls (.int v :: .int i :: vr w.2.2.2.2 15 6 x :: rest)) := by
  obtain ⟨u, S1, h1, h2⟩ := bnd_inv hE
  obtain ⟨⟨hx, hi⟩, h1⟩ := if_ok h1
  cases h1
  rw [vr_ref hx]
  refine row_iast K0 hK hZ (q0 := 15 + x) (t0 := 0) (by omega) (adrC_lo w S (by omega)) (celC_ME w S hx) rfl hi (S' := pI S 6 x i.toNatClampNeg v) ?_ (fun j _ => rfl) (fr_6 w S x _ v) (fun _ _ => rfl) hdg (fun H locs hZ => kk _ H locs h2 hZ)
  rw [celC_ME _ _ hx]
  simp only [eME, gI_pI]
  congr 4
  funext j
  simp [upd]
theorem a_TO (K0 : CallFix p m c cc nL s args GW own) (hK : va_K D vwCl (tysC w) s) {x : Nat} {i : Int32} {k : Int32 → PM ρ} (hE : (bnd (ald 30 x 24 5 i) k).1 S = some E0) (hZ : ZZ D 187 (adrC w) (celC w) A S0 H0 S H locs cells slots) (hdg : decode cc pc = .ok (.iaload, 1)) (kk : ∀ v : Int32, (k v).1 S = some E0 → W p l e R s m args below meth c H locs cells slots Q (F0 m (pc + 1) ls (.int v :: rest))) : W p l e R s m args below meth c H locs cells slots Q (F0 m pc ls (.int i :: vr w.2.2.2.2 127 30 x :: rest)) := by
  obtain ⟨v, S1, h1, h2⟩ := bnd_inv hE
  obtain ⟨⟨hx, hi⟩, h1⟩ := if_ok h1
  cases h1
  rw [vr_ref hx]
  exact row_iald K0 hK hZ (q0 := 127 + x) (t0 := 0) (by omega) (adrC_lo w S (by omega)) (celC_TO w S hx) rfl hi hdg (kk _ h2)
theorem s_TO (K0 : CallFix p m c cc nL s args GW own) (hK : va_K D vwCl (tysC w) s) {x : Nat} {i v : Int32} {k : Unit → PM ρ} (hE : (bnd (ast 30 x 24 5 i v) k).1 S = some E0) (hZ : ZZ D 187 (adrC w) (celC w) A S0 H0 S H locs cells slots) (hdg : decode cc pc = .ok (.iastore, 1)) (kk : ∀ (S1 : St) (H : Heap) (locs : List Loc), (k ()).1 S1 = some E0 → ZZ D 187 (adrC w) (celC w) A S0 H0 S1 H locs cells slots → W p l e R s m args below meth c H locs cells slots Q (F0 m (pc + 1) ls rest)) : W p l e R s m args below meth c H locs cells slots Q (F0 m pc ls (.int v :: .int i :: vr w.2.2.2.2 127 30 x :: rest)) := by
  obtain ⟨u, S1, h1, h2⟩ := bnd_inv hE
  obtain ⟨⟨hx, hi⟩, h1⟩ := if_ok h1
  cases h1
  rw [vr_ref hx]
  refine row_iast K0 hK hZ (q0 := 127 + x) (t0 := 0) (by omega) (adrC_lo w S (by omega)) (celC_TO w S hx) rfl hi (S' := pI S 24 x i.toNatClampNeg v) ?_ (fun j _ => rfl) (fr_24 w S x _ v) (fun _ _ => rfl) hdg (fun H locs hZ => kk _ H locs h2 hZ)
  rw [celC_TO _ _ hx]
  simp only [eTO, gI_pI]
  congr 4
  funext j
  simp [upd]
/-- the signs of a trace: the row whose cell is at v -/
def sgN (x v : Nat) : PM Int32 := bnd (rdN 1 x) (fun a => if x < 30 ∧ a = v then bnd (rdN 0 x) (fun n => rtn (nI n)) else fail)
def sgL (x v : Nat) (i : Int32) : PM Int32 := bnd (rdN 1 x) (fun a => bnd (rdN 0 x) (fun n => if (x < 30 ∧ a = v) ∧ ¬ (i < 0 ∨ n ≤ i.toNatClampNeg) then rdI 25 x i.toNatClampNeg else fail))
def sgS (x v : Nat) (i u : Int32) : PM Unit := bnd (rdN 1 x) (fun a => bnd (rdN 0 x) (fun n => if (x < 30 ∧ a = v) ∧ ¬ (i < 0 ∨ n ≤ i.toNatClampNeg) then wrI 25 x i.toNatClampNeg (u.toUInt32 % 65536).toInt32 else fail))
theorem adrC_hi (w : Wc) (S : St) {x : Nat} : adrC w S (157 + x) = gN S 1 x := by
  unfold adrC
  rw [if_neg (by omega), show 157 + x - 157 = x by omega]
theorem n_SG (K0 : CallFix p m c cc nL s args GW own) (hK : va_K D vwCl (tysC w) s) {x v : Nat} {k : Int32 → PM ρ} (hE : (bnd (sgN x v) k).1 S = some E0) (hZ : ZZ D 187 (adrC w) (celC w) A S0 H0 S H locs cells slots) (hdg : decode cc pc = .ok (.arraylength, 1)) (kk : ∀ v : Int32, (k v).1 S = some E0 → W p l e R s m args below meth c H locs cells slots Q (F0 m (pc + 1) ls (.int v :: rest))) : W p l e R s m args below meth c H locs cells slots Q (F0 m pc ls (.ref v :: rest)) := by
  obtain ⟨r, S1, h1, h2⟩ := bnd_inv hE
  obtain ⟨a, S2, h3, h1⟩ := bnd_inv h1
  cases h3
  obtain ⟨⟨hx, ha⟩, h1⟩ := if_ok h1
  cases h1
  exact row_alen K0 hK hZ (q0 := 157 + x) (t0 := 1) (by omega) ((adrC_hi w S).trans ha) (celC_SG w S hx) rfl rfl hdg (kk _ h2)
theorem a_SG (K0 : CallFix p m c cc nL s args GW own) (hK : va_K D vwCl (tysC w) s) {x v : Nat} {i : Int32} {k : Int32 → PM ρ} (hE : (bnd (sgL x v i) k).1 S = some E0) (hZ : ZZ D 187 (adrC w) (celC w) A S0 H0 S H locs cells slots) (hdg : decode cc pc = .ok (.caload, 1)) (kk : ∀ v : Int32, (k v).1 S = some E0 → W p l e R s m args below meth c H locs cells slots Q (F0 m (pc + 1) ls (.int v :: rest))) : W p l e R s m args below meth c H locs cells slots Q (F0 m pc ls (.int i :: .ref v :: rest)) := by
  obtain ⟨r, S1, h1, h2⟩ := bnd_inv hE
  obtain ⟨a, S2, h3, h1⟩ := bnd_inv h1
  cases h3
  obtain ⟨n, S2, h3, h1⟩ := bnd_inv h1
  cases h3
  obtain ⟨⟨⟨hx, ha⟩, hi⟩, h1⟩ := if_ok h1
  cases h1
  exact row_cald K0 hK hZ (q0 := 157 + x) (t0 := 1) (by omega) ((adrC_hi w S).trans ha) (celC_SG w S hx) rfl hi hdg (kk _ h2)
theorem s_SG (K0 : CallFix p m c cc nL s args GW own) (hK : va_K D vwCl (tysC w) s) {x v : Nat} {i u : Int32} {k : Unit → PM ρ} (hE : (bnd (sgS x v i u) k).1 S = some E0) (hZ : ZZ D 187 (adrC w) (celC w) A S0 H0 S H locs cells slots) (hdg : decode cc pc = .ok (.castore, 1)) (kk : ∀ (S1 : St) (H : Heap) (locs : List Loc), (k ()).1 S1 = some E0 → ZZ D 187 (adrC w) (celC w) A S0 H0 S1 H locs cells slots → W p l e R s m args below meth c H locs cells slots Q (F0 m (pc + 1) ls rest)) : W p l e R s m args below meth c H locs cells slots Q (F0 m pc ls (.int u :: .int i :: .ref v :: rest)) := by
  obtain ⟨r, S1, h1, h2⟩ := bnd_inv hE
  obtain ⟨a, S2, h3, h1⟩ := bnd_inv h1
  cases h3
  obtain ⟨n, S2, h3, h1⟩ := bnd_inv h1
  cases h3
  obtain ⟨⟨⟨hx, ha⟩, hi⟩, h1⟩ := if_ok h1
  cases h1
  refine row_cast K0 hK hZ (q0 := 157 + x) (t0 := 1) (by omega) ((adrC_hi w S).trans ha) (celC_SG w S hx) rfl hi (S' := pI S 25 x i.toNatClampNeg (u.toUInt32 % 65536).toInt32) ?_ (fun j _ => rfl) (fr_25 w S x _ _) (fun _ _ => rfl) hdg (fun H locs hZ => kk _ H locs h2 hZ)
  rw [celC_SG _ _ hx]
  simp only [eSG, gI_pI, vp_nar_char, gN_pI]
  congr 4
  funext j
  simp [upd]
end CROWS
