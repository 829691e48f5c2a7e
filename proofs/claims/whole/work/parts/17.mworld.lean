/-! part 17: the reference's world: one object, its rows; 14, 15: rows that a growing trace makes -/
abbrev Wm : Type := ClassId × ClassId × (Nat → Nat)
abbrev tysM (w : Wm) : List (ClassId × FieldType) := [(w.1, .int), (w.2.1, .char)]
def eMO (w : Wm) (S : St) : va_E := .inr (8, [.ref (w.2.2 1), .ref (w.2.2 2), .ref (w.2.2 3), .ref (w.2.2 4), .ref (w.2.2 5), .int (gI S 0 0 0), .int (gI S 1 0 0), .ref (w.2.2 6), .ref (w.2.2 7), .ref (w.2.2 8), .ref (w.2.2 9), .int (gI S 2 0 0), .ref (w.2.2 10), .ref (w.2.2 11), .int (gI S 3 0 0), .ref (gN S 1 0), .ref (gN S 1 1), .int (gI S 4 0 0), .long (gL S 0), .int (gI S 5 0 0)])
def celM (w : Wm) (S : St) (k : Nat) : va_E := if k = 0 then eMO w S else if k = 1 then .inl (w.1, 8, .inl (fun j => gI S 11 0 j)) else if k = 2 then .inl (w.1, 8, .inl (fun j => gI S 12 0 j)) else if k = 3 then .inl (w.1, 8, .inl (fun j => gI S 13 0 j)) else if k = 4 then .inl (w.1, 8, .inl (fun j => gI S 14 0 j)) else if k = 5 then .inl (w.1, 8, .inl (fun j => gI S 15 0 j)) else if k = 6 then .inl (w.1, 30, .inl (fun j => gI S 16 0 j)) else if k = 7 then .inl (w.1, 30, .inl (fun j => gI S 17 0 j)) else if k = 8 then .inl (w.1, 30, .inl (fun j => gI S 18 0 j)) else if k = 9 then .inl (w.1, 30, .inl (fun j => gI S 19 0 j)) else if k = 10 then .inl (w.1, 237, .inl (fun j => gI S 20 0 j)) else if k = 11 then .inl (w.1, 237, .inl (fun j => gI S 21 0 j)) else if k = 12 then .inl (w.2.1, gN S 0 0, .inl (fun j => gI S 22 0 j)) else if k = 13 then .inl (w.1, gN S 0 1, .inl (fun j => gI S 23 0 j)) else if k = 14 then .inl (w.2.1, gN S 6 0, .inl (fun j => gI S 30 0 j)) else .inl (w.1, gN S 6 1, .inl (fun j => gI S 31 0 j))
def adrM (w : Wm) (S : St) (k : Nat) : Nat := if k < 12 then w.2.2 k else if k = 12 then gN S 1 0 else if k = 13 then gN S 1 1 else if k = 14 then gN S 5 0 else gN S 5 1
abbrev PMo (D : va_G) (w : Wm) (A : Nat → Prop) : St → Heap → Prop := PW D 14 (adrM w) (celM w) A
def ENVM (D : va_G) (w : Wm) (U : State) : Prop := va_K D vwCl (tysM w) U
theorem ENVM.ok {D : va_G} {w : Wm} {A : Nat → Prop} : EVok (ENVM D w) A := fun s H locs U h _ _ hW => va_K.moved hW.alike h
theorem fm_0 (w : Wm) (S : St) (v : Int32) : ∀ j, j ≠ 0 → celM w (pI S 0 0 0 v) j = celM w S j := by
  intro j hne
  unfold celM
  refine ite_cg (fun h9 => ?_) (fun _ => ?_)
  · exact absurd h9 hne
  refine ite_cg (fun h9 => ?_) (fun _ => ?_)
  · simp [eMO, gI_pI, gL_pI, gN_pI, gI_pL, gL_pL, gN_pL]
  refine ite_cg (fun h9 => ?_) (fun _ => ?_)
  · simp [eMO, gI_pI, gL_pI, gN_pI, gI_pL, gL_pL, gN_pL]
  refine ite_cg (fun h9 => ?_) (fun _ => ?_)
  · simp [eMO, gI_pI, gL_pI, gN_pI, gI_pL, gL_pL, gN_pL]
  refine ite_cg (fun h9 => ?_) (fun _ => ?_)
  · simp [eMO, gI_pI, gL_pI, gN_pI, gI_pL, gL_pL, gN_pL]
  refine ite_cg (fun h9 => ?_) (fun _ => ?_)
  · simp [eMO, gI_pI, gL_pI, gN_pI, gI_pL, gL_pL, gN_pL]
  refine ite_cg (fun h9 => ?_) (fun _ => ?_)
  · simp [eMO, gI_pI, gL_pI, gN_pI, gI_pL, gL_pL, gN_pL]
  refine ite_cg (fun h9 => ?_) (fun _ => ?_)
  · simp [eMO, gI_pI, gL_pI, gN_pI, gI_pL, gL_pL, gN_pL]
  refine ite_cg (fun h9 => ?_) (fun _ => ?_)
  · simp [eMO, gI_pI, gL_pI, gN_pI, gI_pL, gL_pL, gN_pL]
  refine ite_cg (fun h9 => ?_) (fun _ => ?_)
  · simp [eMO, gI_pI, gL_pI, gN_pI, gI_pL, gL_pL, gN_pL]
  refine ite_cg (fun h9 => ?_) (fun _ => ?_)
  · simp [eMO, gI_pI, gL_pI, gN_pI, gI_pL, gL_pL, gN_pL]
  refine ite_cg (fun h9 => ?_) (fun _ => ?_)
  · simp [eMO, gI_pI, gL_pI, gN_pI, gI_pL, gL_pL, gN_pL]
  refine ite_cg (fun h9 => ?_) (fun _ => ?_)
  · simp [eMO, gI_pI, gL_pI, gN_pI, gI_pL, gL_pL, gN_pL]
  refine ite_cg (fun h9 => ?_) (fun _ => ?_)
  · simp [eMO, gI_pI, gL_pI, gN_pI, gI_pL, gL_pL, gN_pL]
  refine ite_cg (fun h9 => ?_) (fun _ => ?_)
  · simp [eMO, gI_pI, gL_pI, gN_pI, gI_pL, gL_pL, gN_pL]
  simp [eMO, gI_pI, gL_pI, gN_pI, gI_pL, gL_pL, gN_pL]
theorem fm_1 (w : Wm) (S : St) (v : Int32) : ∀ j, j ≠ 0 → celM w (pI S 1 0 0 v) j = celM w S j := by
  intro j hne
  unfold celM
  refine ite_cg (fun h9 => ?_) (fun _ => ?_)
  · exact absurd h9 hne
  refine ite_cg (fun h9 => ?_) (fun _ => ?_)
  · simp [eMO, gI_pI, gL_pI, gN_pI, gI_pL, gL_pL, gN_pL]
  refine ite_cg (fun h9 => ?_) (fun _ => ?_)
  · simp [eMO, gI_pI, gL_pI, gN_pI, gI_pL, gL_pL, gN_pL]
  refine ite_cg (fun h9 => ?_) (fun _ => ?_)
  · simp [eMO, gI_pI, gL_pI, gN_pI, gI_pL, gL_pL, gN_pL]
  refine ite_cg (fun h9 => ?_) (fun _ => ?_)
  · simp [eMO, gI_pI, gL_pI, gN_pI, gI_pL, gL_pL, gN_pL]
  refine ite_cg (fun h9 => ?_) (fun _ => ?_)
  · simp [eMO, gI_pI, gL_pI, gN_pI, gI_pL, gL_pL, gN_pL]
  refine ite_cg (fun h9 => ?_) (fun _ => ?_)
  · simp [eMO, gI_pI, gL_pI, gN_pI, gI_pL, gL_pL, gN_pL]
  refine ite_cg (fun h9 => ?_) (fun _ => ?_)
  · simp [eMO, gI_pI, gL_pI, gN_pI, gI_pL, gL_pL, gN_pL]
  refine ite_cg (fun h9 => ?_) (fun _ => ?_)
  · simp [eMO, gI_pI, gL_pI, gN_pI, gI_pL, gL_pL, gN_pL]
  refine ite_cg (fun h9 => ?_) (fun _ => ?_)
  · simp [eMO, gI_pI, gL_pI, gN_pI, gI_pL, gL_pL, gN_pL]
  refine ite_cg (fun h9 => ?_) (fun _ => ?_)
  · simp [eMO, gI_pI, gL_pI, gN_pI, gI_pL, gL_pL, gN_pL]
  refine ite_cg (fun h9 => ?_) (fun _ => ?_)
  · simp [eMO, gI_pI, gL_pI, gN_pI, gI_pL, gL_pL, gN_pL]
  refine ite_cg (fun h9 => ?_) (fun _ => ?_)
  · simp [eMO, gI_pI, gL_pI, gN_pI, gI_pL, gL_pL, gN_pL]
  refine ite_cg (fun h9 => ?_) (fun _ => ?_)
  · simp [eMO, gI_pI, gL_pI, gN_pI, gI_pL, gL_pL, gN_pL]
  refine ite_cg (fun h9 => ?_) (fun _ => ?_)
  · simp [eMO, gI_pI, gL_pI, gN_pI, gI_pL, gL_pL, gN_pL]
  simp [eMO, gI_pI, gL_pI, gN_pI, gI_pL, gL_pL, gN_pL]
theorem fm_2 (w : Wm) (S : St) (v : Int32) : ∀ j, j ≠ 0 → celM w (pI S 2 0 0 v) j = celM w S j := by
  intro j hne
  unfold celM
  refine ite_cg (fun h9 => ?_) (fun _ => ?_)
  · exact absurd h9 hne
  refine ite_cg (fun h9 => ?_) (fun _ => ?_)
  · simp [eMO, gI_pI, gL_pI, gN_pI, gI_pL, gL_pL, gN_pL]
  refine ite_cg (fun h9 => ?_) (fun _ => ?_)
  · simp [eMO, gI_pI, gL_pI, gN_pI, gI_pL, gL_pL, gN_pL]
  refine ite_cg (fun h9 => ?_) (fun _ => ?_)
  · simp [eMO, gI_pI, gL_pI, gN_pI, gI_pL, gL_pL, gN_pL]
  refine ite_cg (fun h9 => ?_) (fun _ => ?_)
  · simp [eMO, gI_pI, gL_pI, gN_pI, gI_pL, gL_pL, gN_pL]
  refine ite_cg (fun h9 => ?_) (fun _ => ?_)
  · simp [eMO, gI_pI, gL_pI, gN_pI, gI_pL, gL_pL, gN_pL]
  refine ite_cg (fun h9 => ?_) (fun _ => ?_)
  · simp [eMO, gI_pI, gL_pI, gN_pI, gI_pL, gL_pL, gN_pL]
  refine ite_cg (fun h9 => ?_) (fun _ => ?_)
  · simp [eMO, gI_pI, gL_pI, gN_pI, gI_pL, gL_pL, gN_pL]
  refine ite_cg (fun h9 => ?_) (fun _ => ?_)
  · simp [eMO, gI_pI, gL_pI, gN_pI, gI_pL, gL_pL, gN_pL]
  refine ite_cg (fun h9 => ?_) (fun _ => ?_)
  · simp [eMO, gI_pI, gL_pI, gN_pI, gI_pL, gL_pL, gN_pL]
  refine ite_cg (fun h9 => ?_) (fun _ => ?_)
  · simp [eMO, gI_pI, gL_pI, gN_pI, gI_pL, gL_pL, gN_pL]
  refine ite_cg (fun h9 => ?_) (fun _ => ?_)
  · simp [eMO, gI_pI, gL_pI, gN_pI, gI_pL, gL_pL, gN_pL]
  refine ite_cg (fun h9 => ?_) (fun _ => ?_)
  · simp [eMO, gI_pI, gL_pI, gN_pI, gI_pL, gL_pL, gN_pL]
  refine ite_cg (fun h9 => ?_) (fun _ => ?_)
  · simp [eMO, gI_pI, gL_pI, gN_pI, gI_pL, gL_pL, gN_pL]
  refine ite_cg (fun h9 => ?_) (fun _ => ?_)
  · simp [eMO, gI_pI, gL_pI, gN_pI, gI_pL, gL_pL, gN_pL]
  simp [eMO, gI_pI, gL_pI, gN_pI, gI_pL, gL_pL, gN_pL]
theorem fm_3 (w : Wm) (S : St) (v : Int32) : ∀ j, j ≠ 0 → celM w (pI S 3 0 0 v) j = celM w S j := by
  intro j hne
  unfold celM
  refine ite_cg (fun h9 => ?_) (fun _ => ?_)
  · exact absurd h9 hne
  refine ite_cg (fun h9 => ?_) (fun _ => ?_)
  · simp [eMO, gI_pI, gL_pI, gN_pI, gI_pL, gL_pL, gN_pL]
  refine ite_cg (fun h9 => ?_) (fun _ => ?_)
  · simp [eMO, gI_pI, gL_pI, gN_pI, gI_pL, gL_pL, gN_pL]
  refine ite_cg (fun h9 => ?_) (fun _ => ?_)
  · simp [eMO, gI_pI, gL_pI, gN_pI, gI_pL, gL_pL, gN_pL]
  refine ite_cg (fun h9 => ?_) (fun _ => ?_)
  · simp [eMO, gI_pI, gL_pI, gN_pI, gI_pL, gL_pL, gN_pL]
  refine ite_cg (fun h9 => ?_) (fun _ => ?_)
  · simp [eMO, gI_pI, gL_pI, gN_pI, gI_pL, gL_pL, gN_pL]
  refine ite_cg (fun h9 => ?_) (fun _ => ?_)
  · simp [eMO, gI_pI, gL_pI, gN_pI, gI_pL, gL_pL, gN_pL]
  refine ite_cg (fun h9 => ?_) (fun _ => ?_)
  · simp [eMO, gI_pI, gL_pI, gN_pI, gI_pL, gL_pL, gN_pL]
  refine ite_cg (fun h9 => ?_) (fun _ => ?_)
  · simp [eMO, gI_pI, gL_pI, gN_pI, gI_pL, gL_pL, gN_pL]
  refine ite_cg (fun h9 => ?_) (fun _ => ?_)
  · simp [eMO, gI_pI, gL_pI, gN_pI, gI_pL, gL_pL, gN_pL]
  refine ite_cg (fun h9 => ?_) (fun _ => ?_)
  · simp [eMO, gI_pI, gL_pI, gN_pI, gI_pL, gL_pL, gN_pL]
  refine ite_cg (fun h9 => ?_) (fun _ => ?_)
  · simp [eMO, gI_pI, gL_pI, gN_pI, gI_pL, gL_pL, gN_pL]
  refine ite_cg (fun h9 => ?_) (fun _ => ?_)
  · simp [eMO, gI_pI, gL_pI, gN_pI, gI_pL, gL_pL, gN_pL]
  refine ite_cg (fun h9 => ?_) (fun _ => ?_)
  · simp [eMO, gI_pI, gL_pI, gN_pI, gI_pL, gL_pL, gN_pL]
  refine ite_cg (fun h9 => ?_) (fun _ => ?_)
  · simp [eMO, gI_pI, gL_pI, gN_pI, gI_pL, gL_pL, gN_pL]
  simp [eMO, gI_pI, gL_pI, gN_pI, gI_pL, gL_pL, gN_pL]
theorem fm_4 (w : Wm) (S : St) (v : Int32) : ∀ j, j ≠ 0 → celM w (pI S 4 0 0 v) j = celM w S j := by
  intro j hne
  unfold celM
  refine ite_cg (fun h9 => ?_) (fun _ => ?_)
  · exact absurd h9 hne
  refine ite_cg (fun h9 => ?_) (fun _ => ?_)
  · simp [eMO, gI_pI, gL_pI, gN_pI, gI_pL, gL_pL, gN_pL]
  refine ite_cg (fun h9 => ?_) (fun _ => ?_)
  · simp [eMO, gI_pI, gL_pI, gN_pI, gI_pL, gL_pL, gN_pL]
  refine ite_cg (fun h9 => ?_) (fun _ => ?_)
  · simp [eMO, gI_pI, gL_pI, gN_pI, gI_pL, gL_pL, gN_pL]
  refine ite_cg (fun h9 => ?_) (fun _ => ?_)
  · simp [eMO, gI_pI, gL_pI, gN_pI, gI_pL, gL_pL, gN_pL]
  refine ite_cg (fun h9 => ?_) (fun _ => ?_)
  · simp [eMO, gI_pI, gL_pI, gN_pI, gI_pL, gL_pL, gN_pL]
  refine ite_cg (fun h9 => ?_) (fun _ => ?_)
  · simp [eMO, gI_pI, gL_pI, gN_pI, gI_pL, gL_pL, gN_pL]
  refine ite_cg (fun h9 => ?_) (fun _ => ?_)
  · simp [eMO, gI_pI, gL_pI, gN_pI, gI_pL, gL_pL, gN_pL]
  refine ite_cg (fun h9 => ?_) (fun _ => ?_)
  · simp [eMO, gI_pI, gL_pI, gN_pI, gI_pL, gL_pL, gN_pL]
  refine ite_cg (fun h9 => ?_) (fun _ => ?_)
  · simp [eMO, gI_pI, gL_pI, gN_pI, gI_pL, gL_pL, gN_pL]
  refine ite_cg (fun h9 => ?_) (fun _ => ?_)
  · simp [eMO, gI_pI, gL_pI, gN_pI, gI_pL, gL_pL, gN_pL]
  refine ite_cg (fun h9 => ?_) (fun _ => ?_)
  · simp [eMO, gI_pI, gL_pI, gN_pI, gI_pL, gL_pL, gN_pL]
  refine ite_cg (fun h9 => ?_) (fun _ => ?_)
  · simp [eMO, gI_pI, gL_pI, gN_pI, gI_pL, gL_pL, gN_pL]
  refine ite_cg (fun h9 => ?_) (fun _ => ?_)
  · simp [eMO, gI_pI, gL_pI, gN_pI, gI_pL, gL_pL, gN_pL]
  refine ite_cg (fun h9 => ?_) (fun _ => ?_)
  · simp [eMO, gI_pI, gL_pI, gN_pI, gI_pL, gL_pL, gN_pL]
  simp [eMO, gI_pI, gL_pI, gN_pI, gI_pL, gL_pL, gN_pL]
theorem fm_5 (w : Wm) (S : St) (v : Int32) : ∀ j, j ≠ 0 → celM w (pI S 5 0 0 v) j = celM w S j := by
  intro j hne
  unfold celM
  refine ite_cg (fun h9 => ?_) (fun _ => ?_)
  · exact absurd h9 hne
  refine ite_cg (fun h9 => ?_) (fun _ => ?_)
  · simp [eMO, gI_pI, gL_pI, gN_pI, gI_pL, gL_pL, gN_pL]
  refine ite_cg (fun h9 => ?_) (fun _ => ?_)
  · simp [eMO, gI_pI, gL_pI, gN_pI, gI_pL, gL_pL, gN_pL]
  refine ite_cg (fun h9 => ?_) (fun _ => ?_)
  · simp [eMO, gI_pI, gL_pI, gN_pI, gI_pL, gL_pL, gN_pL]
  refine ite_cg (fun h9 => ?_) (fun _ => ?_)
  · simp [eMO, gI_pI, gL_pI, gN_pI, gI_pL, gL_pL, gN_pL]
  refine ite_cg (fun h9 => ?_) (fun _ => ?_)
  · simp [eMO, gI_pI, gL_pI, gN_pI, gI_pL, gL_pL, gN_pL]
  refine ite_cg (fun h9 => ?_) (fun _ => ?_)
  · simp [eMO, gI_pI, gL_pI, gN_pI, gI_pL, gL_pL, gN_pL]
  refine ite_cg (fun h9 => ?_) (fun _ => ?_)
  · simp [eMO, gI_pI, gL_pI, gN_pI, gI_pL, gL_pL, gN_pL]
  refine ite_cg (fun h9 => ?_) (fun _ => ?_)
  · simp [eMO, gI_pI, gL_pI, gN_pI, gI_pL, gL_pL, gN_pL]
  refine ite_cg (fun h9 => ?_) (fun _ => ?_)
  · simp [eMO, gI_pI, gL_pI, gN_pI, gI_pL, gL_pL, gN_pL]
  refine ite_cg (fun h9 => ?_) (fun _ => ?_)
  · simp [eMO, gI_pI, gL_pI, gN_pI, gI_pL, gL_pL, gN_pL]
  refine ite_cg (fun h9 => ?_) (fun _ => ?_)
  · simp [eMO, gI_pI, gL_pI, gN_pI, gI_pL, gL_pL, gN_pL]
  refine ite_cg (fun h9 => ?_) (fun _ => ?_)
  · simp [eMO, gI_pI, gL_pI, gN_pI, gI_pL, gL_pL, gN_pL]
  refine ite_cg (fun h9 => ?_) (fun _ => ?_)
  · simp [eMO, gI_pI, gL_pI, gN_pI, gI_pL, gL_pL, gN_pL]
  refine ite_cg (fun h9 => ?_) (fun _ => ?_)
  · simp [eMO, gI_pI, gL_pI, gN_pI, gI_pL, gL_pL, gN_pL]
  simp [eMO, gI_pI, gL_pI, gN_pI, gI_pL, gL_pL, gN_pL]
theorem fm_L (w : Wm) (S : St) (v : Int64) : ∀ j, j ≠ 0 → celM w (pL S 0 v) j = celM w S j := by
  intro j hne
  unfold celM
  refine ite_cg (fun h9 => ?_) (fun _ => ?_)
  · exact absurd h9 hne
  refine ite_cg (fun h9 => ?_) (fun _ => ?_)
  · simp [eMO, gI_pI, gL_pI, gN_pI, gI_pL, gL_pL, gN_pL]
  refine ite_cg (fun h9 => ?_) (fun _ => ?_)
  · simp [eMO, gI_pI, gL_pI, gN_pI, gI_pL, gL_pL, gN_pL]
  refine ite_cg (fun h9 => ?_) (fun _ => ?_)
  · simp [eMO, gI_pI, gL_pI, gN_pI, gI_pL, gL_pL, gN_pL]
  refine ite_cg (fun h9 => ?_) (fun _ => ?_)
  · simp [eMO, gI_pI, gL_pI, gN_pI, gI_pL, gL_pL, gN_pL]
  refine ite_cg (fun h9 => ?_) (fun _ => ?_)
  · simp [eMO, gI_pI, gL_pI, gN_pI, gI_pL, gL_pL, gN_pL]
  refine ite_cg (fun h9 => ?_) (fun _ => ?_)
  · simp [eMO, gI_pI, gL_pI, gN_pI, gI_pL, gL_pL, gN_pL]
  refine ite_cg (fun h9 => ?_) (fun _ => ?_)
  · simp [eMO, gI_pI, gL_pI, gN_pI, gI_pL, gL_pL, gN_pL]
  refine ite_cg (fun h9 => ?_) (fun _ => ?_)
  · simp [eMO, gI_pI, gL_pI, gN_pI, gI_pL, gL_pL, gN_pL]
  refine ite_cg (fun h9 => ?_) (fun _ => ?_)
  · simp [eMO, gI_pI, gL_pI, gN_pI, gI_pL, gL_pL, gN_pL]
  refine ite_cg (fun h9 => ?_) (fun _ => ?_)
  · simp [eMO, gI_pI, gL_pI, gN_pI, gI_pL, gL_pL, gN_pL]
  refine ite_cg (fun h9 => ?_) (fun _ => ?_)
  · simp [eMO, gI_pI, gL_pI, gN_pI, gI_pL, gL_pL, gN_pL]
  refine ite_cg (fun h9 => ?_) (fun _ => ?_)
  · simp [eMO, gI_pI, gL_pI, gN_pI, gI_pL, gL_pL, gN_pL]
  refine ite_cg (fun h9 => ?_) (fun _ => ?_)
  · simp [eMO, gI_pI, gL_pI, gN_pI, gI_pL, gL_pL, gN_pL]
  refine ite_cg (fun h9 => ?_) (fun _ => ?_)
  · simp [eMO, gI_pI, gL_pI, gN_pI, gI_pL, gL_pL, gN_pL]
  simp [eMO, gI_pI, gL_pI, gN_pI, gI_pL, gL_pL, gN_pL]
theorem fm_11 (w : Wm) (S : St) (j0 : Nat) (v : Int32) : ∀ j, j ≠ 1 → celM w (pI S 11 0 j0 v) j = celM w S j := by
  intro j hne
  unfold celM
  refine ite_cg (fun h9 => ?_) (fun _ => ?_)
  · simp [eMO, gI_pI, gL_pI, gN_pI, gI_pL, gL_pL, gN_pL]
  refine ite_cg (fun h9 => ?_) (fun _ => ?_)
  · exact absurd h9 hne
  refine ite_cg (fun h9 => ?_) (fun _ => ?_)
  · simp [eMO, gI_pI, gL_pI, gN_pI, gI_pL, gL_pL, gN_pL]
  refine ite_cg (fun h9 => ?_) (fun _ => ?_)
  · simp [eMO, gI_pI, gL_pI, gN_pI, gI_pL, gL_pL, gN_pL]
  refine ite_cg (fun h9 => ?_) (fun _ => ?_)
  · simp [eMO, gI_pI, gL_pI, gN_pI, gI_pL, gL_pL, gN_pL]
  refine ite_cg (fun h9 => ?_) (fun _ => ?_)
  · simp [eMO, gI_pI, gL_pI, gN_pI, gI_pL, gL_pL, gN_pL]
  refine ite_cg (fun h9 => ?_) (fun _ => ?_)
  · simp [eMO, gI_pI, gL_pI, gN_pI, gI_pL, gL_pL, gN_pL]
  refine ite_cg (fun h9 => ?_) (fun _ => ?_)
  · simp [eMO, gI_pI, gL_pI, gN_pI, gI_pL, gL_pL, gN_pL]
  refine ite_cg (fun h9 => ?_) (fun _ => ?_)
  · simp [eMO, gI_pI, gL_pI, gN_pI, gI_pL, gL_pL, gN_pL]
  refine ite_cg (fun h9 => ?_) (fun _ => ?_)
  · simp [eMO, gI_pI, gL_pI, gN_pI, gI_pL, gL_pL, gN_pL]
  refine ite_cg (fun h9 => ?_) (fun _ => ?_)
  · simp [eMO, gI_pI, gL_pI, gN_pI, gI_pL, gL_pL, gN_pL]
  refine ite_cg (fun h9 => ?_) (fun _ => ?_)
  · simp [eMO, gI_pI, gL_pI, gN_pI, gI_pL, gL_pL, gN_pL]
  refine ite_cg (fun h9 => ?_) (fun _ => ?_)
  · simp [eMO, gI_pI, gL_pI, gN_pI, gI_pL, gL_pL, gN_pL]
  refine ite_cg (fun h9 => ?_) (fun _ => ?_)
  · simp [eMO, gI_pI, gL_pI, gN_pI, gI_pL, gL_pL, gN_pL]
  refine ite_cg (fun h9 => ?_) (fun _ => ?_)
  · simp [eMO, gI_pI, gL_pI, gN_pI, gI_pL, gL_pL, gN_pL]
  simp [eMO, gI_pI, gL_pI, gN_pI, gI_pL, gL_pL, gN_pL]
theorem fm_12 (w : Wm) (S : St) (j0 : Nat) (v : Int32) : ∀ j, j ≠ 2 → celM w (pI S 12 0 j0 v) j = celM w S j := by
  intro j hne
  unfold celM
  refine ite_cg (fun h9 => ?_) (fun _ => ?_)
  · simp [eMO, gI_pI, gL_pI, gN_pI, gI_pL, gL_pL, gN_pL]
  refine ite_cg (fun h9 => ?_) (fun _ => ?_)
  · simp [eMO, gI_pI, gL_pI, gN_pI, gI_pL, gL_pL, gN_pL]
  refine ite_cg (fun h9 => ?_) (fun _ => ?_)
  · exact absurd h9 hne
  refine ite_cg (fun h9 => ?_) (fun _ => ?_)
  · simp [eMO, gI_pI, gL_pI, gN_pI, gI_pL, gL_pL, gN_pL]
  refine ite_cg (fun h9 => ?_) (fun _ => ?_)
  · simp [eMO, gI_pI, gL_pI, gN_pI, gI_pL, gL_pL, gN_pL]
  refine ite_cg (fun h9 => ?_) (fun _ => ?_)
  · simp [eMO, gI_pI, gL_pI, gN_pI, gI_pL, gL_pL, gN_pL]
  refine ite_cg (fun h9 => ?_) (fun _ => ?_)
  · simp [eMO, gI_pI, gL_pI, gN_pI, gI_pL, gL_pL, gN_pL]
  refine ite_cg (fun h9 => ?_) (fun _ => ?_)
  · simp [eMO, gI_pI, gL_pI, gN_pI, gI_pL, gL_pL, gN_pL]
  refine ite_cg (fun h9 => ?_) (fun _ => ?_)
  · simp [eMO, gI_pI, gL_pI, gN_pI, gI_pL, gL_pL, gN_pL]
  refine ite_cg (fun h9 => ?_) (fun _ => ?_)
  · simp [eMO, gI_pI, gL_pI, gN_pI, gI_pL, gL_pL, gN_pL]
  refine ite_cg (fun h9 => ?_) (fun _ => ?_)
  · simp [eMO, gI_pI, gL_pI, gN_pI, gI_pL, gL_pL, gN_pL]
  refine ite_cg (fun h9 => ?_) (fun _ => ?_)
  · simp [eMO, gI_pI, gL_pI, gN_pI, gI_pL, gL_pL, gN_pL]
  refine ite_cg (fun h9 => ?_) (fun _ => ?_)
  · simp [eMO, gI_pI, gL_pI, gN_pI, gI_pL, gL_pL, gN_pL]
  refine ite_cg (fun h9 => ?_) (fun _ => ?_)
  · simp [eMO, gI_pI, gL_pI, gN_pI, gI_pL, gL_pL, gN_pL]
  refine ite_cg (fun h9 => ?_) (fun _ => ?_)
  · simp [eMO, gI_pI, gL_pI, gN_pI, gI_pL, gL_pL, gN_pL]
  simp [eMO, gI_pI, gL_pI, gN_pI, gI_pL, gL_pL, gN_pL]
theorem fm_13 (w : Wm) (S : St) (j0 : Nat) (v : Int32) : ∀ j, j ≠ 3 → celM w (pI S 13 0 j0 v) j = celM w S j := by
  intro j hne
  unfold celM
  refine ite_cg (fun h9 => ?_) (fun _ => ?_)
  · simp [eMO, gI_pI, gL_pI, gN_pI, gI_pL, gL_pL, gN_pL]
  refine ite_cg (fun h9 => ?_) (fun _ => ?_)
  · simp [eMO, gI_pI, gL_pI, gN_pI, gI_pL, gL_pL, gN_pL]
  refine ite_cg (fun h9 => ?_) (fun _ => ?_)
  · simp [eMO, gI_pI, gL_pI, gN_pI, gI_pL, gL_pL, gN_pL]
  refine ite_cg (fun h9 => ?_) (fun _ => ?_)
  · exact absurd h9 hne
  refine ite_cg (fun h9 => ?_) (fun _ => ?_)
  · simp [eMO, gI_pI, gL_pI, gN_pI, gI_pL, gL_pL, gN_pL]
  refine ite_cg (fun h9 => ?_) (fun _ => ?_)
  · simp [eMO, gI_pI, gL_pI, gN_pI, gI_pL, gL_pL, gN_pL]
  refine ite_cg (fun h9 => ?_) (fun _ => ?_)
  · simp [eMO, gI_pI, gL_pI, gN_pI, gI_pL, gL_pL, gN_pL]
  refine ite_cg (fun h9 => ?_) (fun _ => ?_)
  · simp [eMO, gI_pI, gL_pI, gN_pI, gI_pL, gL_pL, gN_pL]
  refine ite_cg (fun h9 => ?_) (fun _ => ?_)
  · simp [eMO, gI_pI, gL_pI, gN_pI, gI_pL, gL_pL, gN_pL]
  refine ite_cg (fun h9 => ?_) (fun _ => ?_)
  · simp [eMO, gI_pI, gL_pI, gN_pI, gI_pL, gL_pL, gN_pL]
  refine ite_cg (fun h9 => ?_) (fun _ => ?_)
  · simp [eMO, gI_pI, gL_pI, gN_pI, gI_pL, gL_pL, gN_pL]
  refine ite_cg (fun h9 => ?_) (fun _ => ?_)
  · simp [eMO, gI_pI, gL_pI, gN_pI, gI_pL, gL_pL, gN_pL]
  refine ite_cg (fun h9 => ?_) (fun _ => ?_)
  · simp [eMO, gI_pI, gL_pI, gN_pI, gI_pL, gL_pL, gN_pL]
  refine ite_cg (fun h9 => ?_) (fun _ => ?_)
  · simp [eMO, gI_pI, gL_pI, gN_pI, gI_pL, gL_pL, gN_pL]
  refine ite_cg (fun h9 => ?_) (fun _ => ?_)
  · simp [eMO, gI_pI, gL_pI, gN_pI, gI_pL, gL_pL, gN_pL]
  simp [eMO, gI_pI, gL_pI, gN_pI, gI_pL, gL_pL, gN_pL]
theorem fm_14 (w : Wm) (S : St) (j0 : Nat) (v : Int32) : ∀ j, j ≠ 4 → celM w (pI S 14 0 j0 v) j = celM w S j := by
  intro j hne
  unfold celM
  refine ite_cg (fun h9 => ?_) (fun _ => ?_)
  · simp [eMO, gI_pI, gL_pI, gN_pI, gI_pL, gL_pL, gN_pL]
  refine ite_cg (fun h9 => ?_) (fun _ => ?_)
  · simp [eMO, gI_pI, gL_pI, gN_pI, gI_pL, gL_pL, gN_pL]
  refine ite_cg (fun h9 => ?_) (fun _ => ?_)
  · simp [eMO, gI_pI, gL_pI, gN_pI, gI_pL, gL_pL, gN_pL]
  refine ite_cg (fun h9 => ?_) (fun _ => ?_)
  · simp [eMO, gI_pI, gL_pI, gN_pI, gI_pL, gL_pL, gN_pL]
  refine ite_cg (fun h9 => ?_) (fun _ => ?_)
  · exact absurd h9 hne
  refine ite_cg (fun h9 => ?_) (fun _ => ?_)
  · simp [eMO, gI_pI, gL_pI, gN_pI, gI_pL, gL_pL, gN_pL]
  refine ite_cg (fun h9 => ?_) (fun _ => ?_)
  · simp [eMO, gI_pI, gL_pI, gN_pI, gI_pL, gL_pL, gN_pL]
  refine ite_cg (fun h9 => ?_) (fun _ => ?_)
  · simp [eMO, gI_pI, gL_pI, gN_pI, gI_pL, gL_pL, gN_pL]
  refine ite_cg (fun h9 => ?_) (fun _ => ?_)
  · simp [eMO, gI_pI, gL_pI, gN_pI, gI_pL, gL_pL, gN_pL]
  refine ite_cg (fun h9 => ?_) (fun _ => ?_)
  · simp [eMO, gI_pI, gL_pI, gN_pI, gI_pL, gL_pL, gN_pL]
  refine ite_cg (fun h9 => ?_) (fun _ => ?_)
  · simp [eMO, gI_pI, gL_pI, gN_pI, gI_pL, gL_pL, gN_pL]
  refine ite_cg (fun h9 => ?_) (fun _ => ?_)
  · simp [eMO, gI_pI, gL_pI, gN_pI, gI_pL, gL_pL, gN_pL]
  refine ite_cg (fun h9 => ?_) (fun _ => ?_)
  · simp [eMO, gI_pI, gL_pI, gN_pI, gI_pL, gL_pL, gN_pL]
  refine ite_cg (fun h9 => ?_) (fun _ => ?_)
  · simp [eMO, gI_pI, gL_pI, gN_pI, gI_pL, gL_pL, gN_pL]
  refine ite_cg (fun h9 => ?_) (fun _ => ?_)
  · simp [eMO, gI_pI, gL_pI, gN_pI, gI_pL, gL_pL, gN_pL]
  simp [eMO, gI_pI, gL_pI, gN_pI, gI_pL, gL_pL, gN_pL]
theorem fm_15 (w : Wm) (S : St) (j0 : Nat) (v : Int32) : ∀ j, j ≠ 5 → celM w (pI S 15 0 j0 v) j = celM w S j := by
  intro j hne
  unfold celM
  refine ite_cg (fun h9 => ?_) (fun _ => ?_)
  · simp [eMO, gI_pI, gL_pI, gN_pI, gI_pL, gL_pL, gN_pL]
  refine ite_cg (fun h9 => ?_) (fun _ => ?_)
  · simp [eMO, gI_pI, gL_pI, gN_pI, gI_pL, gL_pL, gN_pL]
  refine ite_cg (fun h9 => ?_) (fun _ => ?_)
  · simp [eMO, gI_pI, gL_pI, gN_pI, gI_pL, gL_pL, gN_pL]
  refine ite_cg (fun h9 => ?_) (fun _ => ?_)
  · simp [eMO, gI_pI, gL_pI, gN_pI, gI_pL, gL_pL, gN_pL]
  refine ite_cg (fun h9 => ?_) (fun _ => ?_)
  · simp [eMO, gI_pI, gL_pI, gN_pI, gI_pL, gL_pL, gN_pL]
  refine ite_cg (fun h9 => ?_) (fun _ => ?_)
  · exact absurd h9 hne
  refine ite_cg (fun h9 => ?_) (fun _ => ?_)
  · simp [eMO, gI_pI, gL_pI, gN_pI, gI_pL, gL_pL, gN_pL]
  refine ite_cg (fun h9 => ?_) (fun _ => ?_)
  · simp [eMO, gI_pI, gL_pI, gN_pI, gI_pL, gL_pL, gN_pL]
  refine ite_cg (fun h9 => ?_) (fun _ => ?_)
  · simp [eMO, gI_pI, gL_pI, gN_pI, gI_pL, gL_pL, gN_pL]
  refine ite_cg (fun h9 => ?_) (fun _ => ?_)
  · simp [eMO, gI_pI, gL_pI, gN_pI, gI_pL, gL_pL, gN_pL]
  refine ite_cg (fun h9 => ?_) (fun _ => ?_)
  · simp [eMO, gI_pI, gL_pI, gN_pI, gI_pL, gL_pL, gN_pL]
  refine ite_cg (fun h9 => ?_) (fun _ => ?_)
  · simp [eMO, gI_pI, gL_pI, gN_pI, gI_pL, gL_pL, gN_pL]
  refine ite_cg (fun h9 => ?_) (fun _ => ?_)
  · simp [eMO, gI_pI, gL_pI, gN_pI, gI_pL, gL_pL, gN_pL]
  refine ite_cg (fun h9 => ?_) (fun _ => ?_)
  · simp [eMO, gI_pI, gL_pI, gN_pI, gI_pL, gL_pL, gN_pL]
  refine ite_cg (fun h9 => ?_) (fun _ => ?_)
  · simp [eMO, gI_pI, gL_pI, gN_pI, gI_pL, gL_pL, gN_pL]
  simp [eMO, gI_pI, gL_pI, gN_pI, gI_pL, gL_pL, gN_pL]
theorem fm_16 (w : Wm) (S : St) (j0 : Nat) (v : Int32) : ∀ j, j ≠ 6 → celM w (pI S 16 0 j0 v) j = celM w S j := by
  intro j hne
  unfold celM
  refine ite_cg (fun h9 => ?_) (fun _ => ?_)
  · simp [eMO, gI_pI, gL_pI, gN_pI, gI_pL, gL_pL, gN_pL]
  refine ite_cg (fun h9 => ?_) (fun _ => ?_)
  · simp [eMO, gI_pI, gL_pI, gN_pI, gI_pL, gL_pL, gN_pL]
  refine ite_cg (fun h9 => ?_) (fun _ => ?_)
  · simp [eMO, gI_pI, gL_pI, gN_pI, gI_pL, gL_pL, gN_pL]
  refine ite_cg (fun h9 => ?_) (fun _ => ?_)
  · simp [eMO, gI_pI, gL_pI, gN_pI, gI_pL, gL_pL, gN_pL]
  refine ite_cg (fun h9 => ?_) (fun _ => ?_)
  · simp [eMO, gI_pI, gL_pI, gN_pI, gI_pL, gL_pL, gN_pL]
  refine ite_cg (fun h9 => ?_) (fun _ => ?_)
  · simp [eMO, gI_pI, gL_pI, gN_pI, gI_pL, gL_pL, gN_pL]
  refine ite_cg (fun h9 => ?_) (fun _ => ?_)
  · exact absurd h9 hne
  refine ite_cg (fun h9 => ?_) (fun _ => ?_)
  · simp [eMO, gI_pI, gL_pI, gN_pI, gI_pL, gL_pL, gN_pL]
  refine ite_cg (fun h9 => ?_) (fun _ => ?_)
  · simp [eMO, gI_pI, gL_pI, gN_pI, gI_pL, gL_pL, gN_pL]
  refine ite_cg (fun h9 => ?_) (fun _ => ?_)
  · simp [eMO, gI_pI, gL_pI, gN_pI, gI_pL, gL_pL, gN_pL]
  refine ite_cg (fun h9 => ?_) (fun _ => ?_)
  · simp [eMO, gI_pI, gL_pI, gN_pI, gI_pL, gL_pL, gN_pL]
  refine ite_cg (fun h9 => ?_) (fun _ => ?_)
  · simp [eMO, gI_pI, gL_pI, gN_pI, gI_pL, gL_pL, gN_pL]
  refine ite_cg (fun h9 => ?_) (fun _ => ?_)
  · simp [eMO, gI_pI, gL_pI, gN_pI, gI_pL, gL_pL, gN_pL]
  refine ite_cg (fun h9 => ?_) (fun _ => ?_)
  · simp [eMO, gI_pI, gL_pI, gN_pI, gI_pL, gL_pL, gN_pL]
  refine ite_cg (fun h9 => ?_) (fun _ => ?_)
  · simp [eMO, gI_pI, gL_pI, gN_pI, gI_pL, gL_pL, gN_pL]
  simp [eMO, gI_pI, gL_pI, gN_pI, gI_pL, gL_pL, gN_pL]
theorem fm_17 (w : Wm) (S : St) (j0 : Nat) (v : Int32) : ∀ j, j ≠ 7 → celM w (pI S 17 0 j0 v) j = celM w S j := by
  intro j hne
  unfold celM
  refine ite_cg (fun h9 => ?_) (fun _ => ?_)
  · simp [eMO, gI_pI, gL_pI, gN_pI, gI_pL, gL_pL, gN_pL]
  refine ite_cg (fun h9 => ?_) (fun _ => ?_)
  · simp [eMO, gI_pI, gL_pI, gN_pI, gI_pL, gL_pL, gN_pL]
  refine ite_cg (fun h9 => ?_) (fun _ => ?_)
  · simp [eMO, gI_pI, gL_pI, gN_pI, gI_pL, gL_pL, gN_pL]
  refine ite_cg (fun h9 => ?_) (fun _ => ?_)
  · simp [eMO, gI_pI, gL_pI, gN_pI, gI_pL, gL_pL, gN_pL]
  refine ite_cg (fun h9 => ?_) (fun _ => ?_)
  · simp [eMO, gI_pI, gL_pI, gN_pI, gI_pL, gL_pL, gN_pL]
  refine ite_cg (fun h9 => ?_) (fun _ => ?_)
  · simp [eMO, gI_pI, gL_pI, gN_pI, gI_pL, gL_pL, gN_pL]
  refine ite_cg (fun h9 => ?_) (fun _ => ?_)
  · simp [eMO, gI_pI, gL_pI, gN_pI, gI_pL, gL_pL, gN_pL]
  refine ite_cg (fun h9 => ?_) (fun _ => ?_)
  · exact absurd h9 hne
  refine ite_cg (fun h9 => ?_) (fun _ => ?_)
  · simp [eMO, gI_pI, gL_pI, gN_pI, gI_pL, gL_pL, gN_pL]
  refine ite_cg (fun h9 => ?_) (fun _ => ?_)
  · simp [eMO, gI_pI, gL_pI, gN_pI, gI_pL, gL_pL, gN_pL]
  refine ite_cg (fun h9 => ?_) (fun _ => ?_)
  · simp [eMO, gI_pI, gL_pI, gN_pI, gI_pL, gL_pL, gN_pL]
  refine ite_cg (fun h9 => ?_) (fun _ => ?_)
  · simp [eMO, gI_pI, gL_pI, gN_pI, gI_pL, gL_pL, gN_pL]
  refine ite_cg (fun h9 => ?_) (fun _ => ?_)
  · simp [eMO, gI_pI, gL_pI, gN_pI, gI_pL, gL_pL, gN_pL]
  refine ite_cg (fun h9 => ?_) (fun _ => ?_)
  · simp [eMO, gI_pI, gL_pI, gN_pI, gI_pL, gL_pL, gN_pL]
  refine ite_cg (fun h9 => ?_) (fun _ => ?_)
  · simp [eMO, gI_pI, gL_pI, gN_pI, gI_pL, gL_pL, gN_pL]
  simp [eMO, gI_pI, gL_pI, gN_pI, gI_pL, gL_pL, gN_pL]
theorem fm_18 (w : Wm) (S : St) (j0 : Nat) (v : Int32) : ∀ j, j ≠ 8 → celM w (pI S 18 0 j0 v) j = celM w S j := by
  intro j hne
  unfold celM
  refine ite_cg (fun h9 => ?_) (fun _ => ?_)
  · simp [eMO, gI_pI, gL_pI, gN_pI, gI_pL, gL_pL, gN_pL]
  refine ite_cg (fun h9 => ?_) (fun _ => ?_)
  · simp [eMO, gI_pI, gL_pI, gN_pI, gI_pL, gL_pL, gN_pL]
  refine ite_cg (fun h9 => ?_) (fun _ => ?_)
  · simp [eMO, gI_pI, gL_pI, gN_pI, gI_pL, gL_pL, gN_pL]
  refine ite_cg (fun h9 => ?_) (fun _ => ?_)
  · simp [eMO, gI_pI, gL_pI, gN_pI, gI_pL, gL_pL, gN_pL]
  refine ite_cg (fun h9 => ?_) (fun _ => ?_)
  · simp [eMO, gI_pI, gL_pI, gN_pI, gI_pL, gL_pL, gN_pL]
  refine ite_cg (fun h9 => ?_) (fun _ => ?_)
  · simp [eMO, gI_pI, gL_pI, gN_pI, gI_pL, gL_pL, gN_pL]
  refine ite_cg (fun h9 => ?_) (fun _ => ?_)
  · simp [eMO, gI_pI, gL_pI, gN_pI, gI_pL, gL_pL, gN_pL]
  refine ite_cg (fun h9 => ?_) (fun _ => ?_)
  · simp [eMO, gI_pI, gL_pI, gN_pI, gI_pL, gL_pL, gN_pL]
  refine ite_cg (fun h9 => ?_) (fun _ => ?_)
  · exact absurd h9 hne
  refine ite_cg (fun h9 => ?_) (fun _ => ?_)
  · simp [eMO, gI_pI, gL_pI, gN_pI, gI_pL, gL_pL, gN_pL]
  refine ite_cg (fun h9 => ?_) (fun _ => ?_)
  · simp [eMO, gI_pI, gL_pI, gN_pI, gI_pL, gL_pL, gN_pL]
  refine ite_cg (fun h9 => ?_) (fun _ => ?_)
  · simp [eMO, gI_pI, gL_pI, gN_pI, gI_pL, gL_pL, gN_pL]
  refine ite_cg (fun h9 => ?_) (fun _ => ?_)
  · simp [eMO, gI_pI, gL_pI, gN_pI, gI_pL, gL_pL, gN_pL]
  refine ite_cg (fun h9 => ?_) (fun _ => ?_)
  · simp [eMO, gI_pI, gL_pI, gN_pI, gI_pL, gL_pL, gN_pL]
  refine ite_cg (fun h9 => ?_) (fun _ => ?_)
  · simp [eMO, gI_pI, gL_pI, gN_pI, gI_pL, gL_pL, gN_pL]
  simp [eMO, gI_pI, gL_pI, gN_pI, gI_pL, gL_pL, gN_pL]
theorem fm_19 (w : Wm) (S : St) (j0 : Nat) (v : Int32) : ∀ j, j ≠ 9 → celM w (pI S 19 0 j0 v) j = celM w S j := by
  intro j hne
  unfold celM
  refine ite_cg (fun h9 => ?_) (fun _ => ?_)
  · simp [eMO, gI_pI, gL_pI, gN_pI, gI_pL, gL_pL, gN_pL]
  refine ite_cg (fun h9 => ?_) (fun _ => ?_)
  · simp [eMO, gI_pI, gL_pI, gN_pI, gI_pL, gL_pL, gN_pL]
  refine ite_cg (fun h9 => ?_) (fun _ => ?_)
  · simp [eMO, gI_pI, gL_pI, gN_pI, gI_pL, gL_pL, gN_pL]
  refine ite_cg (fun h9 => ?_) (fun _ => ?_)
  · simp [eMO, gI_pI, gL_pI, gN_pI, gI_pL, gL_pL, gN_pL]
  refine ite_cg (fun h9 => ?_) (fun _ => ?_)
  · simp [eMO, gI_pI, gL_pI, gN_pI, gI_pL, gL_pL, gN_pL]
  refine ite_cg (fun h9 => ?_) (fun _ => ?_)
  · simp [eMO, gI_pI, gL_pI, gN_pI, gI_pL, gL_pL, gN_pL]
  refine ite_cg (fun h9 => ?_) (fun _ => ?_)
  · simp [eMO, gI_pI, gL_pI, gN_pI, gI_pL, gL_pL, gN_pL]
  refine ite_cg (fun h9 => ?_) (fun _ => ?_)
  · simp [eMO, gI_pI, gL_pI, gN_pI, gI_pL, gL_pL, gN_pL]
  refine ite_cg (fun h9 => ?_) (fun _ => ?_)
  · simp [eMO, gI_pI, gL_pI, gN_pI, gI_pL, gL_pL, gN_pL]
  refine ite_cg (fun h9 => ?_) (fun _ => ?_)
  · exact absurd h9 hne
  refine ite_cg (fun h9 => ?_) (fun _ => ?_)
  · simp [eMO, gI_pI, gL_pI, gN_pI, gI_pL, gL_pL, gN_pL]
  refine ite_cg (fun h9 => ?_) (fun _ => ?_)
  · simp [eMO, gI_pI, gL_pI, gN_pI, gI_pL, gL_pL, gN_pL]
  refine ite_cg (fun h9 => ?_) (fun _ => ?_)
  · simp [eMO, gI_pI, gL_pI, gN_pI, gI_pL, gL_pL, gN_pL]
  refine ite_cg (fun h9 => ?_) (fun _ => ?_)
  · simp [eMO, gI_pI, gL_pI, gN_pI, gI_pL, gL_pL, gN_pL]
  refine ite_cg (fun h9 => ?_) (fun _ => ?_)
  · simp [eMO, gI_pI, gL_pI, gN_pI, gI_pL, gL_pL, gN_pL]
  simp [eMO, gI_pI, gL_pI, gN_pI, gI_pL, gL_pL, gN_pL]
theorem fm_20 (w : Wm) (S : St) (j0 : Nat) (v : Int32) : ∀ j, j ≠ 10 → celM w (pI S 20 0 j0 v) j = celM w S j := by
  intro j hne
  unfold celM
  refine ite_cg (fun h9 => ?_) (fun _ => ?_)
  · simp [eMO, gI_pI, gL_pI, gN_pI, gI_pL, gL_pL, gN_pL]
  refine ite_cg (fun h9 => ?_) (fun _ => ?_)
  · simp [eMO, gI_pI, gL_pI, gN_pI, gI_pL, gL_pL, gN_pL]
  refine ite_cg (fun h9 => ?_) (fun _ => ?_)
  · simp [eMO, gI_pI, gL_pI, gN_pI, gI_pL, gL_pL, gN_pL]
  refine ite_cg (fun h9 => ?_) (fun _ => ?_)
  · simp [eMO, gI_pI, gL_pI, gN_pI, gI_pL, gL_pL, gN_pL]
  refine ite_cg (fun h9 => ?_) (fun _ => ?_)
  · simp [eMO, gI_pI, gL_pI, gN_pI, gI_pL, gL_pL, gN_pL]
  refine ite_cg (fun h9 => ?_) (fun _ => ?_)
  · simp [eMO, gI_pI, gL_pI, gN_pI, gI_pL, gL_pL, gN_pL]
  refine ite_cg (fun h9 => ?_) (fun _ => ?_)
  · simp [eMO, gI_pI, gL_pI, gN_pI, gI_pL, gL_pL, gN_pL]
  refine ite_cg (fun h9 => ?_) (fun _ => ?_)
  · simp [eMO, gI_pI, gL_pI, gN_pI, gI_pL, gL_pL, gN_pL]
  refine ite_cg (fun h9 => ?_) (fun _ => ?_)
  · simp [eMO, gI_pI, gL_pI, gN_pI, gI_pL, gL_pL, gN_pL]
  refine ite_cg (fun h9 => ?_) (fun _ => ?_)
  · simp [eMO, gI_pI, gL_pI, gN_pI, gI_pL, gL_pL, gN_pL]
  refine ite_cg (fun h9 => ?_) (fun _ => ?_)
  · exact absurd h9 hne
  refine ite_cg (fun h9 => ?_) (fun _ => ?_)
  · simp [eMO, gI_pI, gL_pI, gN_pI, gI_pL, gL_pL, gN_pL]
  refine ite_cg (fun h9 => ?_) (fun _ => ?_)
  · simp [eMO, gI_pI, gL_pI, gN_pI, gI_pL, gL_pL, gN_pL]
  refine ite_cg (fun h9 => ?_) (fun _ => ?_)
  · simp [eMO, gI_pI, gL_pI, gN_pI, gI_pL, gL_pL, gN_pL]
  refine ite_cg (fun h9 => ?_) (fun _ => ?_)
  · simp [eMO, gI_pI, gL_pI, gN_pI, gI_pL, gL_pL, gN_pL]
  simp [eMO, gI_pI, gL_pI, gN_pI, gI_pL, gL_pL, gN_pL]
theorem fm_21 (w : Wm) (S : St) (j0 : Nat) (v : Int32) : ∀ j, j ≠ 11 → celM w (pI S 21 0 j0 v) j = celM w S j := by
  intro j hne
  unfold celM
  refine ite_cg (fun h9 => ?_) (fun _ => ?_)
  · simp [eMO, gI_pI, gL_pI, gN_pI, gI_pL, gL_pL, gN_pL]
  refine ite_cg (fun h9 => ?_) (fun _ => ?_)
  · simp [eMO, gI_pI, gL_pI, gN_pI, gI_pL, gL_pL, gN_pL]
  refine ite_cg (fun h9 => ?_) (fun _ => ?_)
  · simp [eMO, gI_pI, gL_pI, gN_pI, gI_pL, gL_pL, gN_pL]
  refine ite_cg (fun h9 => ?_) (fun _ => ?_)
  · simp [eMO, gI_pI, gL_pI, gN_pI, gI_pL, gL_pL, gN_pL]
  refine ite_cg (fun h9 => ?_) (fun _ => ?_)
  · simp [eMO, gI_pI, gL_pI, gN_pI, gI_pL, gL_pL, gN_pL]
  refine ite_cg (fun h9 => ?_) (fun _ => ?_)
  · simp [eMO, gI_pI, gL_pI, gN_pI, gI_pL, gL_pL, gN_pL]
  refine ite_cg (fun h9 => ?_) (fun _ => ?_)
  · simp [eMO, gI_pI, gL_pI, gN_pI, gI_pL, gL_pL, gN_pL]
  refine ite_cg (fun h9 => ?_) (fun _ => ?_)
  · simp [eMO, gI_pI, gL_pI, gN_pI, gI_pL, gL_pL, gN_pL]
  refine ite_cg (fun h9 => ?_) (fun _ => ?_)
  · simp [eMO, gI_pI, gL_pI, gN_pI, gI_pL, gL_pL, gN_pL]
  refine ite_cg (fun h9 => ?_) (fun _ => ?_)
  · simp [eMO, gI_pI, gL_pI, gN_pI, gI_pL, gL_pL, gN_pL]
  refine ite_cg (fun h9 => ?_) (fun _ => ?_)
  · simp [eMO, gI_pI, gL_pI, gN_pI, gI_pL, gL_pL, gN_pL]
  refine ite_cg (fun h9 => ?_) (fun _ => ?_)
  · exact absurd h9 hne
  refine ite_cg (fun h9 => ?_) (fun _ => ?_)
  · simp [eMO, gI_pI, gL_pI, gN_pI, gI_pL, gL_pL, gN_pL]
  refine ite_cg (fun h9 => ?_) (fun _ => ?_)
  · simp [eMO, gI_pI, gL_pI, gN_pI, gI_pL, gL_pL, gN_pL]
  refine ite_cg (fun h9 => ?_) (fun _ => ?_)
  · simp [eMO, gI_pI, gL_pI, gN_pI, gI_pL, gL_pL, gN_pL]
  simp [eMO, gI_pI, gL_pI, gN_pI, gI_pL, gL_pL, gN_pL]
theorem fm_22 (w : Wm) (S : St) (j0 : Nat) (v : Int32) : ∀ j, j ≠ 12 → celM w (pI S 22 0 j0 v) j = celM w S j := by
  intro j hne
  unfold celM
  refine ite_cg (fun h9 => ?_) (fun _ => ?_)
  · simp [eMO, gI_pI, gL_pI, gN_pI, gI_pL, gL_pL, gN_pL]
  refine ite_cg (fun h9 => ?_) (fun _ => ?_)
  · simp [eMO, gI_pI, gL_pI, gN_pI, gI_pL, gL_pL, gN_pL]
  refine ite_cg (fun h9 => ?_) (fun _ => ?_)
  · simp [eMO, gI_pI, gL_pI, gN_pI, gI_pL, gL_pL, gN_pL]
  refine ite_cg (fun h9 => ?_) (fun _ => ?_)
  · simp [eMO, gI_pI, gL_pI, gN_pI, gI_pL, gL_pL, gN_pL]
  refine ite_cg (fun h9 => ?_) (fun _ => ?_)
  · simp [eMO, gI_pI, gL_pI, gN_pI, gI_pL, gL_pL, gN_pL]
  refine ite_cg (fun h9 => ?_) (fun _ => ?_)
  · simp [eMO, gI_pI, gL_pI, gN_pI, gI_pL, gL_pL, gN_pL]
  refine ite_cg (fun h9 => ?_) (fun _ => ?_)
  · simp [eMO, gI_pI, gL_pI, gN_pI, gI_pL, gL_pL, gN_pL]
  refine ite_cg (fun h9 => ?_) (fun _ => ?_)
  · simp [eMO, gI_pI, gL_pI, gN_pI, gI_pL, gL_pL, gN_pL]
  refine ite_cg (fun h9 => ?_) (fun _ => ?_)
  · simp [eMO, gI_pI, gL_pI, gN_pI, gI_pL, gL_pL, gN_pL]
  refine ite_cg (fun h9 => ?_) (fun _ => ?_)
  · simp [eMO, gI_pI, gL_pI, gN_pI, gI_pL, gL_pL, gN_pL]
  refine ite_cg (fun h9 => ?_) (fun _ => ?_)
  · simp [eMO, gI_pI, gL_pI, gN_pI, gI_pL, gL_pL, gN_pL]
  refine ite_cg (fun h9 => ?_) (fun _ => ?_)
  · simp [eMO, gI_pI, gL_pI, gN_pI, gI_pL, gL_pL, gN_pL]
  refine ite_cg (fun h9 => ?_) (fun _ => ?_)
  · exact absurd h9 hne
  refine ite_cg (fun h9 => ?_) (fun _ => ?_)
  · simp [eMO, gI_pI, gL_pI, gN_pI, gI_pL, gL_pL, gN_pL]
  refine ite_cg (fun h9 => ?_) (fun _ => ?_)
  · simp [eMO, gI_pI, gL_pI, gN_pI, gI_pL, gL_pL, gN_pL]
  simp [eMO, gI_pI, gL_pI, gN_pI, gI_pL, gL_pL, gN_pL]
theorem fm_23 (w : Wm) (S : St) (j0 : Nat) (v : Int32) : ∀ j, j ≠ 13 → celM w (pI S 23 0 j0 v) j = celM w S j := by
  intro j hne
  unfold celM
  refine ite_cg (fun h9 => ?_) (fun _ => ?_)
  · simp [eMO, gI_pI, gL_pI, gN_pI, gI_pL, gL_pL, gN_pL]
  refine ite_cg (fun h9 => ?_) (fun _ => ?_)
  · simp [eMO, gI_pI, gL_pI, gN_pI, gI_pL, gL_pL, gN_pL]
  refine ite_cg (fun h9 => ?_) (fun _ => ?_)
  · simp [eMO, gI_pI, gL_pI, gN_pI, gI_pL, gL_pL, gN_pL]
  refine ite_cg (fun h9 => ?_) (fun _ => ?_)
  · simp [eMO, gI_pI, gL_pI, gN_pI, gI_pL, gL_pL, gN_pL]
  refine ite_cg (fun h9 => ?_) (fun _ => ?_)
  · simp [eMO, gI_pI, gL_pI, gN_pI, gI_pL, gL_pL, gN_pL]
  refine ite_cg (fun h9 => ?_) (fun _ => ?_)
  · simp [eMO, gI_pI, gL_pI, gN_pI, gI_pL, gL_pL, gN_pL]
  refine ite_cg (fun h9 => ?_) (fun _ => ?_)
  · simp [eMO, gI_pI, gL_pI, gN_pI, gI_pL, gL_pL, gN_pL]
  refine ite_cg (fun h9 => ?_) (fun _ => ?_)
  · simp [eMO, gI_pI, gL_pI, gN_pI, gI_pL, gL_pL, gN_pL]
  refine ite_cg (fun h9 => ?_) (fun _ => ?_)
  · simp [eMO, gI_pI, gL_pI, gN_pI, gI_pL, gL_pL, gN_pL]
  refine ite_cg (fun h9 => ?_) (fun _ => ?_)
  · simp [eMO, gI_pI, gL_pI, gN_pI, gI_pL, gL_pL, gN_pL]
  refine ite_cg (fun h9 => ?_) (fun _ => ?_)
  · simp [eMO, gI_pI, gL_pI, gN_pI, gI_pL, gL_pL, gN_pL]
  refine ite_cg (fun h9 => ?_) (fun _ => ?_)
  · simp [eMO, gI_pI, gL_pI, gN_pI, gI_pL, gL_pL, gN_pL]
  refine ite_cg (fun h9 => ?_) (fun _ => ?_)
  · simp [eMO, gI_pI, gL_pI, gN_pI, gI_pL, gL_pL, gN_pL]
  refine ite_cg (fun h9 => ?_) (fun _ => ?_)
  · exact absurd h9 hne
  refine ite_cg (fun h9 => ?_) (fun _ => ?_)
  · simp [eMO, gI_pI, gL_pI, gN_pI, gI_pL, gL_pL, gN_pL]
  simp [eMO, gI_pI, gL_pI, gN_pI, gI_pL, gL_pL, gN_pL]
theorem fm_30 (w : Wm) (S : St) (j0 : Nat) (v : Int32) : ∀ j, j ≠ 14 → celM w (pI S 30 0 j0 v) j = celM w S j := by
  intro j hne
  unfold celM
  refine ite_cg (fun h9 => ?_) (fun _ => ?_)
  · simp [eMO, gI_pI, gL_pI, gN_pI, gI_pL, gL_pL, gN_pL]
  refine ite_cg (fun h9 => ?_) (fun _ => ?_)
  · simp [eMO, gI_pI, gL_pI, gN_pI, gI_pL, gL_pL, gN_pL]
  refine ite_cg (fun h9 => ?_) (fun _ => ?_)
  · simp [eMO, gI_pI, gL_pI, gN_pI, gI_pL, gL_pL, gN_pL]
  refine ite_cg (fun h9 => ?_) (fun _ => ?_)
  · simp [eMO, gI_pI, gL_pI, gN_pI, gI_pL, gL_pL, gN_pL]
  refine ite_cg (fun h9 => ?_) (fun _ => ?_)
  · simp [eMO, gI_pI, gL_pI, gN_pI, gI_pL, gL_pL, gN_pL]
  refine ite_cg (fun h9 => ?_) (fun _ => ?_)
  · simp [eMO, gI_pI, gL_pI, gN_pI, gI_pL, gL_pL, gN_pL]
  refine ite_cg (fun h9 => ?_) (fun _ => ?_)
  · simp [eMO, gI_pI, gL_pI, gN_pI, gI_pL, gL_pL, gN_pL]
  refine ite_cg (fun h9 => ?_) (fun _ => ?_)
  · simp [eMO, gI_pI, gL_pI, gN_pI, gI_pL, gL_pL, gN_pL]
  refine ite_cg (fun h9 => ?_) (fun _ => ?_)
  · simp [eMO, gI_pI, gL_pI, gN_pI, gI_pL, gL_pL, gN_pL]
  refine ite_cg (fun h9 => ?_) (fun _ => ?_)
  · simp [eMO, gI_pI, gL_pI, gN_pI, gI_pL, gL_pL, gN_pL]
  refine ite_cg (fun h9 => ?_) (fun _ => ?_)
  · simp [eMO, gI_pI, gL_pI, gN_pI, gI_pL, gL_pL, gN_pL]
  refine ite_cg (fun h9 => ?_) (fun _ => ?_)
  · simp [eMO, gI_pI, gL_pI, gN_pI, gI_pL, gL_pL, gN_pL]
  refine ite_cg (fun h9 => ?_) (fun _ => ?_)
  · simp [eMO, gI_pI, gL_pI, gN_pI, gI_pL, gL_pL, gN_pL]
  refine ite_cg (fun h9 => ?_) (fun _ => ?_)
  · simp [eMO, gI_pI, gL_pI, gN_pI, gI_pL, gL_pL, gN_pL]
  refine ite_cg (fun h9 => ?_) (fun _ => ?_)
  · exact absurd h9 hne
  simp [eMO, gI_pI, gL_pI, gN_pI, gI_pL, gL_pL, gN_pL]
theorem fm_31 (w : Wm) (S : St) (j0 : Nat) (v : Int32) : ∀ j, j < 16 → j ≠ 15 → celM w (pI S 31 0 j0 v) j = celM w S j := by
  intro j hj hne
  unfold celM
  refine ite_cg (fun h9 => ?_) (fun _ => ?_)
  · simp [eMO, gI_pI, gL_pI, gN_pI]
  refine ite_cg (fun h9 => ?_) (fun _ => ?_)
  · simp [eMO, gI_pI, gL_pI, gN_pI]
  refine ite_cg (fun h9 => ?_) (fun _ => ?_)
  · simp [eMO, gI_pI, gL_pI, gN_pI]
  refine ite_cg (fun h9 => ?_) (fun _ => ?_)
  · simp [eMO, gI_pI, gL_pI, gN_pI]
  refine ite_cg (fun h9 => ?_) (fun _ => ?_)
  · simp [eMO, gI_pI, gL_pI, gN_pI]
  refine ite_cg (fun h9 => ?_) (fun _ => ?_)
  · simp [eMO, gI_pI, gL_pI, gN_pI]
  refine ite_cg (fun h9 => ?_) (fun _ => ?_)
  · simp [eMO, gI_pI, gL_pI, gN_pI]
  refine ite_cg (fun h9 => ?_) (fun _ => ?_)
  · simp [eMO, gI_pI, gL_pI, gN_pI]
  refine ite_cg (fun h9 => ?_) (fun _ => ?_)
  · simp [eMO, gI_pI, gL_pI, gN_pI]
  refine ite_cg (fun h9 => ?_) (fun _ => ?_)
  · simp [eMO, gI_pI, gL_pI, gN_pI]
  refine ite_cg (fun h9 => ?_) (fun _ => ?_)
  · simp [eMO, gI_pI, gL_pI, gN_pI]
  refine ite_cg (fun h9 => ?_) (fun _ => ?_)
  · simp [eMO, gI_pI, gL_pI, gN_pI]
  refine ite_cg (fun h9 => ?_) (fun _ => ?_)
  · simp [eMO, gI_pI, gL_pI, gN_pI]
  refine ite_cg (fun h9 => ?_) (fun _ => ?_)
  · simp [eMO, gI_pI, gL_pI, gN_pI]
  refine ite_cg (fun h9 => ?_) (fun _ => ?_)
  · simp [eMO, gI_pI, gL_pI, gN_pI]
  omega
section MROWS
variable {p : Program} {l : Launch} {e : Env} {R : Room} {s : State} {m : MethodId} {args : Array Value} {below : List Frame} {meth : Method} {c : Code} {H H0 : Heap} {locs : List Loc} {cells slots : Nat} {Q : State → Prop}
variable {cc : ByteArray} {pc nL : Nat} {ls : Array Slot} {rest : List Value} {own : String} {ρ : Type} {E0 : ρ × St} {S S0 : St} {D : va_G} {A : Nat → Prop} {w : Wm} {nW : Nat}
theorem mg_0 (K0 : CallFix p m c cc nL s args GW own) (hK : va_K D vwCl (tysM w) s) (hW : 14 ≤ nW ∧ nW ≤ 16) (hZ : ZZ D nW (adrM w) (celM w) A S0 H0 S H locs cells slots) {index : Nat} (hlink : Cond.fieldLink own index (TX6 0).1 (TX6 0).2.1 (TX6 0).2.2.1 ∈ GW) (hdg : decode cc pc = .ok (.getfield index, 3)) (kk : W p l e R s m args below meth c H locs cells slots Q (F0 m (pc + 3) ls (.ref (w.2.2 1) :: rest))) : W p l e R s m args below meth c H locs cells slots Q (F0 m pc ls (.ref (w.2.2 0) :: rest)) := row_get K0 hK hZ (q0 := 0) (by omega) rfl (show celM w S 0 = eMO w S from rfl) (C := RX6) (T := TX6) (N := 20) rfl iX6 0 (by decide) hlink rfl hdg kk
theorem mg_1 (K0 : CallFix p m c cc nL s args GW own) (hK : va_K D vwCl (tysM w) s) (hW : 14 ≤ nW ∧ nW ≤ 16) (hZ : ZZ D nW (adrM w) (celM w) A S0 H0 S H locs cells slots) {index : Nat} (hlink : Cond.fieldLink own index (TX6 1).1 (TX6 1).2.1 (TX6 1).2.2.1 ∈ GW) (hdg : decode cc pc = .ok (.getfield index, 3)) (kk : W p l e R s m args below meth c H locs cells slots Q (F0 m (pc + 3) ls (.ref (w.2.2 2) :: rest))) : W p l e R s m args below meth c H locs cells slots Q (F0 m pc ls (.ref (w.2.2 0) :: rest)) := row_get K0 hK hZ (q0 := 0) (by omega) rfl (show celM w S 0 = eMO w S from rfl) (C := RX6) (T := TX6) (N := 20) rfl iX6 1 (by decide) hlink rfl hdg kk
theorem mg_2 (K0 : CallFix p m c cc nL s args GW own) (hK : va_K D vwCl (tysM w) s) (hW : 14 ≤ nW ∧ nW ≤ 16) (hZ : ZZ D nW (adrM w) (celM w) A S0 H0 S H locs cells slots) {index : Nat} (hlink : Cond.fieldLink own index (TX6 2).1 (TX6 2).2.1 (TX6 2).2.2.1 ∈ GW) (hdg : decode cc pc = .ok (.getfield index, 3)) (kk : W p l e R s m args below meth c H locs cells slots Q (F0 m (pc + 3) ls (.ref (w.2.2 3) :: rest))) : W p l e R s m args below meth c H locs cells slots Q (F0 m pc ls (.ref (w.2.2 0) :: rest)) := row_get K0 hK hZ (q0 := 0) (by omega) rfl (show celM w S 0 = eMO w S from rfl) (C := RX6) (T := TX6) (N := 20) rfl iX6 2 (by decide) hlink rfl hdg kk
theorem mg_3 (K0 : CallFix p m c cc nL s args GW own) (hK : va_K D vwCl (tysM w) s) (hW : 14 ≤ nW ∧ nW ≤ 16) (hZ : ZZ D nW (adrM w) (celM w) A S0 H0 S H locs cells slots) {index : Nat} (hlink : Cond.fieldLink own index (TX6 3).1 (TX6 3).2.1 (TX6 3).2.2.1 ∈ GW) (hdg : decode cc pc = .ok (.getfield index, 3)) (kk : W p l e R s m args below meth c H locs cells slots Q (F0 m (pc + 3) ls (.ref (w.2.2 4) :: rest))) : W p l e R s m args below meth c H locs cells slots Q (F0 m pc ls (.ref (w.2.2 0) :: rest)) := row_get K0 hK hZ (q0 := 0) (by omega) rfl (show celM w S 0 = eMO w S from rfl) (C := RX6) (T := TX6) (N := 20) rfl iX6 3 (by decide) hlink rfl hdg kk
theorem mg_4 (K0 : CallFix p m c cc nL s args GW own) (hK : va_K D vwCl (tysM w) s) (hW : 14 ≤ nW ∧ nW ≤ 16) (hZ : ZZ D nW (adrM w) (celM w) A S0 H0 S H locs cells slots) {index : Nat} (hlink : Cond.fieldLink own index (TX6 4).1 (TX6 4).2.1 (TX6 4).2.2.1 ∈ GW) (hdg : decode cc pc = .ok (.getfield index, 3)) (kk : W p l e R s m args below meth c H locs cells slots Q (F0 m (pc + 3) ls (.ref (w.2.2 5) :: rest))) : W p l e R s m args below meth c H locs cells slots Q (F0 m pc ls (.ref (w.2.2 0) :: rest)) := row_get K0 hK hZ (q0 := 0) (by omega) rfl (show celM w S 0 = eMO w S from rfl) (C := RX6) (T := TX6) (N := 20) rfl iX6 4 (by decide) hlink rfl hdg kk
theorem mg_7 (K0 : CallFix p m c cc nL s args GW own) (hK : va_K D vwCl (tysM w) s) (hW : 14 ≤ nW ∧ nW ≤ 16) (hZ : ZZ D nW (adrM w) (celM w) A S0 H0 S H locs cells slots) {index : Nat} (hlink : Cond.fieldLink own index (TX6 7).1 (TX6 7).2.1 (TX6 7).2.2.1 ∈ GW) (hdg : decode cc pc = .ok (.getfield index, 3)) (kk : W p l e R s m args below meth c H locs cells slots Q (F0 m (pc + 3) ls (.ref (w.2.2 6) :: rest))) : W p l e R s m args below meth c H locs cells slots Q (F0 m pc ls (.ref (w.2.2 0) :: rest)) := row_get K0 hK hZ (q0 := 0) (by omega) rfl (show celM w S 0 = eMO w S from rfl) (C := RX6) (T := TX6) (N := 20) rfl iX6 7 (by decide) hlink rfl hdg kk
theorem mg_8 (K0 : CallFix p m c cc nL s args GW own) (hK : va_K D vwCl (tysM w) s) (hW : 14 ≤ nW ∧ nW ≤ 16) (hZ : ZZ D nW (adrM w) (celM w) A S0 H0 S H locs cells slots) {index : Nat} (hlink : Cond.fieldLink own index (TX6 8).1 (TX6 8).2.1 (TX6 8).2.2.1 ∈ GW) (hdg : decode cc pc = .ok (.getfield index, 3)) (kk : W p l e R s m args below meth c H locs cells slots Q (F0 m (pc + 3) ls (.ref (w.2.2 7) :: rest))) : W p l e R s m args below meth c H locs cells slots Q (F0 m pc ls (.ref (w.2.2 0) :: rest)) := row_get K0 hK hZ (q0 := 0) (by omega) rfl (show celM w S 0 = eMO w S from rfl) (C := RX6) (T := TX6) (N := 20) rfl iX6 8 (by decide) hlink rfl hdg kk
theorem mg_9 (K0 : CallFix p m c cc nL s args GW own) (hK : va_K D vwCl (tysM w) s) (hW : 14 ≤ nW ∧ nW ≤ 16) (hZ : ZZ D nW (adrM w) (celM w) A S0 H0 S H locs cells slots) {index : Nat} (hlink : Cond.fieldLink own index (TX6 9).1 (TX6 9).2.1 (TX6 9).2.2.1 ∈ GW) (hdg : decode cc pc = .ok (.getfield index, 3)) (kk : W p l e R s m args below meth c H locs cells slots Q (F0 m (pc + 3) ls (.ref (w.2.2 8) :: rest))) : W p l e R s m args below meth c H locs cells slots Q (F0 m pc ls (.ref (w.2.2 0) :: rest)) := row_get K0 hK hZ (q0 := 0) (by omega) rfl (show celM w S 0 = eMO w S from rfl) (C := RX6) (T := TX6) (N := 20) rfl iX6 9 (by decide) hlink rfl hdg kk
theorem mg_10 (K0 : CallFix p m c cc nL s args GW own) (hK : va_K D vwCl (tysM w) s) (hW : 14 ≤ nW ∧ nW ≤ 16) (hZ : ZZ D nW (adrM w) (celM w) A S0 H0 S H locs cells slots) {index : Nat} (hlink : Cond.fieldLink own index (TX6 10).1 (TX6 10).2.1 (TX6 10).2.2.1 ∈ GW) (hdg : decode cc pc = .ok (.getfield index, 3)) (kk : W p l e R s m args below meth c H locs cells slots Q (F0 m (pc + 3) ls (.ref (w.2.2 9) :: rest))) : W p l e R s m args below meth c H locs cells slots Q (F0 m pc ls (.ref (w.2.2 0) :: rest)) := row_get K0 hK hZ (q0 := 0) (by omega) rfl (show celM w S 0 = eMO w S from rfl) (C := RX6) (T := TX6) (N := 20) rfl iX6 10 (by decide) hlink rfl hdg kk
theorem mg_12 (K0 : CallFix p m c cc nL s args GW own) (hK : va_K D vwCl (tysM w) s) (hW : 14 ≤ nW ∧ nW ≤ 16) (hZ : ZZ D nW (adrM w) (celM w) A S0 H0 S H locs cells slots) {index : Nat} (hlink : Cond.fieldLink own index (TX6 12).1 (TX6 12).2.1 (TX6 12).2.2.1 ∈ GW) (hdg : decode cc pc = .ok (.getfield index, 3)) (kk : W p l e R s m args below meth c H locs cells slots Q (F0 m (pc + 3) ls (.ref (w.2.2 10) :: rest))) : W p l e R s m args below meth c H locs cells slots Q (F0 m pc ls (.ref (w.2.2 0) :: rest)) := row_get K0 hK hZ (q0 := 0) (by omega) rfl (show celM w S 0 = eMO w S from rfl) (C := RX6) (T := TX6) (N := 20) rfl iX6 12 (by decide) hlink rfl hdg kk
theorem mg_13 (K0 : CallFix p m c cc nL s args GW own) (hK : va_K D vwCl (tysM w) s) (hW : 14 ≤ nW ∧ nW ≤ 16) (hZ : ZZ D nW (adrM w) (celM w) A S0 H0 S H locs cells slots) {index : Nat} (hlink : Cond.fieldLink own index (TX6 13).1 (TX6 13).2.1 (TX6 13).2.2.1 ∈ GW) (hdg : decode cc pc = .ok (.getfield index, 3)) (kk : W p l e R s m args below meth c H locs cells slots Q (F0 m (pc + 3) ls (.ref (w.2.2 11) :: rest))) : W p l e R s m args below meth c H locs cells slots Q (F0 m pc ls (.ref (w.2.2 0) :: rest)) := row_get K0 hK hZ (q0 := 0) (by omega) rfl (show celM w S 0 = eMO w S from rfl) (C := RX6) (T := TX6) (N := 20) rfl iX6 13 (by decide) hlink rfl hdg kk
theorem mg_5 (K0 : CallFix p m c cc nL s args GW own) (hK : va_K D vwCl (tysM w) s) {k : Int32 → PM ρ} (hE : (bnd (rdI 0 0 0) k).1 S = some E0) (hW : 14 ≤ nW ∧ nW ≤ 16) (hZ : ZZ D nW (adrM w) (celM w) A S0 H0 S H locs cells slots) {index : Nat} (hlink : Cond.fieldLink own index (TX6 5).1 (TX6 5).2.1 (TX6 5).2.2.1 ∈ GW) (hdg : decode cc pc = .ok (.getfield index, 3)) (kk : ∀ v : Int32, (k v).1 S = some E0 → W p l e R s m args below meth c H locs cells slots Q (F0 m (pc + 3) ls (.int v :: rest))) : W p l e R s m args below meth c H locs cells slots Q (F0 m pc ls (.ref (w.2.2 0) :: rest)) := row_get K0 hK hZ (q0 := 0) (by omega) rfl (show celM w S 0 = eMO w S from rfl) (C := RX6) (T := TX6) (N := 20) rfl iX6 5 (by decide) hlink rfl hdg (kk _ hE)
theorem mg_6 (K0 : CallFix p m c cc nL s args GW own) (hK : va_K D vwCl (tysM w) s) {k : Int32 → PM ρ} (hE : (bnd (rdI 1 0 0) k).1 S = some E0) (hW : 14 ≤ nW ∧ nW ≤ 16) (hZ : ZZ D nW (adrM w) (celM w) A S0 H0 S H locs cells slots) {index : Nat} (hlink : Cond.fieldLink own index (TX6 6).1 (TX6 6).2.1 (TX6 6).2.2.1 ∈ GW) (hdg : decode cc pc = .ok (.getfield index, 3)) (kk : ∀ v : Int32, (k v).1 S = some E0 → W p l e R s m args below meth c H locs cells slots Q (F0 m (pc + 3) ls (.int v :: rest))) : W p l e R s m args below meth c H locs cells slots Q (F0 m pc ls (.ref (w.2.2 0) :: rest)) := row_get K0 hK hZ (q0 := 0) (by omega) rfl (show celM w S 0 = eMO w S from rfl) (C := RX6) (T := TX6) (N := 20) rfl iX6 6 (by decide) hlink rfl hdg (kk _ hE)
theorem mg_11 (K0 : CallFix p m c cc nL s args GW own) (hK : va_K D vwCl (tysM w) s) {k : Int32 → PM ρ} (hE : (bnd (rdI 2 0 0) k).1 S = some E0) (hW : 14 ≤ nW ∧ nW ≤ 16) (hZ : ZZ D nW (adrM w) (celM w) A S0 H0 S H locs cells slots) {index : Nat} (hlink : Cond.fieldLink own index (TX6 11).1 (TX6 11).2.1 (TX6 11).2.2.1 ∈ GW) (hdg : decode cc pc = .ok (.getfield index, 3)) (kk : ∀ v : Int32, (k v).1 S = some E0 → W p l e R s m args below meth c H locs cells slots Q (F0 m (pc + 3) ls (.int v :: rest))) : W p l e R s m args below meth c H locs cells slots Q (F0 m pc ls (.ref (w.2.2 0) :: rest)) := row_get K0 hK hZ (q0 := 0) (by omega) rfl (show celM w S 0 = eMO w S from rfl) (C := RX6) (T := TX6) (N := 20) rfl iX6 11 (by decide) hlink rfl hdg (kk _ hE)
theorem mg_14 (K0 : CallFix p m c cc nL s args GW own) (hK : va_K D vwCl (tysM w) s) {k : Int32 → PM ρ} (hE : (bnd (rdI 3 0 0) k).1 S = some E0) (hW : 14 ≤ nW ∧ nW ≤ 16) (hZ : ZZ D nW (adrM w) (celM w) A S0 H0 S H locs cells slots) {index : Nat} (hlink : Cond.fieldLink own index (TX6 14).1 (TX6 14).2.1 (TX6 14).2.2.1 ∈ GW) (hdg : decode cc pc = .ok (.getfield index, 3)) (kk : ∀ v : Int32, (k v).1 S = some E0 → W p l e R s m args below meth c H locs cells slots Q (F0 m (pc + 3) ls (.int v :: rest))) : W p l e R s m args below meth c H locs cells slots Q (F0 m pc ls (.ref (w.2.2 0) :: rest)) := row_get K0 hK hZ (q0 := 0) (by omega) rfl (show celM w S 0 = eMO w S from rfl) (C := RX6) (T := TX6) (N := 20) rfl iX6 14 (by decide) hlink rfl hdg (kk _ hE)
theorem mg_17 (K0 : CallFix p m c cc nL s args GW own) (hK : va_K D vwCl (tysM w) s) {k : Int32 → PM ρ} (hE : (bnd (rdI 4 0 0) k).1 S = some E0) (hW : 14 ≤ nW ∧ nW ≤ 16) (hZ : ZZ D nW (adrM w) (celM w) A S0 H0 S H locs cells slots) {index : Nat} (hlink : Cond.fieldLink own index (TX6 17).1 (TX6 17).2.1 (TX6 17).2.2.1 ∈ GW) (hdg : decode cc pc = .ok (.getfield index, 3)) (kk : ∀ v : Int32, (k v).1 S = some E0 → W p l e R s m args below meth c H locs cells slots Q (F0 m (pc + 3) ls (.int v :: rest))) : W p l e R s m args below meth c H locs cells slots Q (F0 m pc ls (.ref (w.2.2 0) :: rest)) := row_get K0 hK hZ (q0 := 0) (by omega) rfl (show celM w S 0 = eMO w S from rfl) (C := RX6) (T := TX6) (N := 20) rfl iX6 17 (by decide) hlink rfl hdg (kk _ hE)
theorem mg_19 (K0 : CallFix p m c cc nL s args GW own) (hK : va_K D vwCl (tysM w) s) {k : Int32 → PM ρ} (hE : (bnd (rdI 5 0 0) k).1 S = some E0) (hW : 14 ≤ nW ∧ nW ≤ 16) (hZ : ZZ D nW (adrM w) (celM w) A S0 H0 S H locs cells slots) {index : Nat} (hlink : Cond.fieldLink own index (TX6 19).1 (TX6 19).2.1 (TX6 19).2.2.1 ∈ GW) (hdg : decode cc pc = .ok (.getfield index, 3)) (kk : ∀ v : Int32, (k v).1 S = some E0 → W p l e R s m args below meth c H locs cells slots Q (F0 m (pc + 3) ls (.int v :: rest))) : W p l e R s m args below meth c H locs cells slots Q (F0 m pc ls (.ref (w.2.2 0) :: rest)) := row_get K0 hK hZ (q0 := 0) (by omega) rfl (show celM w S 0 = eMO w S from rfl) (C := RX6) (T := TX6) (N := 20) rfl iX6 19 (by decide) hlink rfl hdg (kk _ hE)
theorem mg_18 (K0 : CallFix p m c cc nL s args GW own) (hK : va_K D vwCl (tysM w) s) {k : Int64 → PM ρ} (hE : (bnd (rdL 0) k).1 S = some E0) (hW : 14 ≤ nW ∧ nW ≤ 16) (hZ : ZZ D nW (adrM w) (celM w) A S0 H0 S H locs cells slots) {index : Nat} (hlink : Cond.fieldLink own index (TX6 18).1 (TX6 18).2.1 (TX6 18).2.2.1 ∈ GW) (hdg : decode cc pc = .ok (.getfield index, 3)) (kk : ∀ v : Int64, (k v).1 S = some E0 → W p l e R s m args below meth c H locs cells slots Q (F0 m (pc + 3) ls (.long v :: rest))) : W p l e R s m args below meth c H locs cells slots Q (F0 m pc ls (.ref (w.2.2 0) :: rest)) := row_get K0 hK hZ (q0 := 0) (by omega) rfl (show celM w S 0 = eMO w S from rfl) (C := RX6) (T := TX6) (N := 20) rfl iX6 18 (by decide) hlink rfl hdg (kk _ hE)
theorem mg_15 (K0 : CallFix p m c cc nL s args GW own) (hK : va_K D vwCl (tysM w) s) {k : Nat → PM ρ} (hE : (bnd (rdN 1 0) k).1 S = some E0) (hW : 14 ≤ nW ∧ nW ≤ 16) (hZ : ZZ D nW (adrM w) (celM w) A S0 H0 S H locs cells slots) {index : Nat} (hlink : Cond.fieldLink own index (TX6 15).1 (TX6 15).2.1 (TX6 15).2.2.1 ∈ GW) (hdg : decode cc pc = .ok (.getfield index, 3)) (kk : ∀ v : Nat, (k v).1 S = some E0 → W p l e R s m args below meth c H locs cells slots Q (F0 m (pc + 3) ls (.ref v :: rest))) : W p l e R s m args below meth c H locs cells slots Q (F0 m pc ls (.ref (w.2.2 0) :: rest)) := row_get K0 hK hZ (q0 := 0) (by omega) rfl (show celM w S 0 = eMO w S from rfl) (C := RX6) (T := TX6) (N := 20) rfl iX6 15 (by decide) hlink rfl hdg (kk _ hE)
theorem mg_16 (K0 : CallFix p m c cc nL s args GW own) (hK : va_K D vwCl (tysM w) s) {k : Nat → PM ρ} (hE : (bnd (rdN 1 1) k).1 S = some E0) (hW : 14 ≤ nW ∧ nW ≤ 16) (hZ : ZZ D nW (adrM w) (celM w) A S0 H0 S H locs cells slots) {index : Nat} (hlink : Cond.fieldLink own index (TX6 16).1 (TX6 16).2.1 (TX6 16).2.2.1 ∈ GW) (hdg : decode cc pc = .ok (.getfield index, 3)) (kk : ∀ v : Nat, (k v).1 S = some E0 → W p l e R s m args below meth c H locs cells slots Q (F0 m (pc + 3) ls (.ref v :: rest))) : W p l e R s m args below meth c H locs cells slots Q (F0 m pc ls (.ref (w.2.2 0) :: rest)) := row_get K0 hK hZ (q0 := 0) (by omega) rfl (show celM w S 0 = eMO w S from rfl) (C := RX6) (T := TX6) (N := 20) rfl iX6 16 (by decide) hlink rfl hdg (kk _ hE)
def wrZ (f : Nat) (v : Int32) : PM Unit := if v = 0 ∨ v = 1 then wrI f 0 0 v else fail
theorem mp_5 (K0 : CallFix p m c cc nL s args GW own) (hK : va_K D vwCl (tysM w) s) {v : Int32} {k : Unit → PM ρ} (hE : (bnd (wrI 0 0 0 v) k).1 S = some E0) (hW : 14 ≤ nW ∧ nW ≤ 16) (hZ : ZZ D nW (adrM w) (celM w) A S0 H0 S H locs cells slots) {index : Nat} (hlink : Cond.fieldLink own index (TX6 5).1 (TX6 5).2.1 (TX6 5).2.2.1 ∈ GW) (hdg : decode cc pc = .ok (.putfield index, 3)) (kk : ∀ (S1 : St) (H : Heap) (locs : List Loc), (k ()).1 S1 = some E0 → ZZ D nW (adrM w) (celM w) A S0 H0 S1 H locs cells slots → W p l e R s m args below meth c H locs cells slots Q (F0 m (pc + 3) ls rest)) : W p l e R s m args below meth c H locs cells slots Q (F0 m pc ls (.int v :: .ref (w.2.2 0) :: rest)) := by
  obtain ⟨u, S1, h1, h2⟩ := bnd_inv hE
  cases h1
  refine row_put K0 hK hZ (q0 := 0) (by omega) rfl (show celM w S 0 = eMO w S from rfl) (C := RX6) (T := TX6) (N := 20) rfl iX6 tyX6 tyX6_ok nmX6 5 (by decide) hlink rfl rfl rfl (Nat.le_of_ble_eq_true rfl) (S' := pI S 0 0 0 v) ?_ (fun j _ => rfl) (fun j _ => fm_0 w S v j) (fun _ _ => rfl) hdg (fun H locs hZ => kk _ H locs h2 hZ)
  show eMO w _ = _
  simp [eMO, gI_pI, gL_pI, gN_pI]
theorem mp_6 (K0 : CallFix p m c cc nL s args GW own) (hK : va_K D vwCl (tysM w) s) {v : Int32} {k : Unit → PM ρ} (hE : (bnd (wrI 1 0 0 v) k).1 S = some E0) (hW : 14 ≤ nW ∧ nW ≤ 16) (hZ : ZZ D nW (adrM w) (celM w) A S0 H0 S H locs cells slots) {index : Nat} (hlink : Cond.fieldLink own index (TX6 6).1 (TX6 6).2.1 (TX6 6).2.2.1 ∈ GW) (hdg : decode cc pc = .ok (.putfield index, 3)) (kk : ∀ (S1 : St) (H : Heap) (locs : List Loc), (k ()).1 S1 = some E0 → ZZ D nW (adrM w) (celM w) A S0 H0 S1 H locs cells slots → W p l e R s m args below meth c H locs cells slots Q (F0 m (pc + 3) ls rest)) : W p l e R s m args below meth c H locs cells slots Q (F0 m pc ls (.int v :: .ref (w.2.2 0) :: rest)) := by
  obtain ⟨u, S1, h1, h2⟩ := bnd_inv hE
  cases h1
  refine row_put K0 hK hZ (q0 := 0) (by omega) rfl (show celM w S 0 = eMO w S from rfl) (C := RX6) (T := TX6) (N := 20) rfl iX6 tyX6 tyX6_ok nmX6 6 (by decide) hlink rfl rfl rfl (Nat.le_of_ble_eq_true rfl) (S' := pI S 1 0 0 v) ?_ (fun j _ => rfl) (fun j _ => fm_1 w S v j) (fun _ _ => rfl) hdg (fun H locs hZ => kk _ H locs h2 hZ)
  show eMO w _ = _
  simp [eMO, gI_pI, gL_pI, gN_pI]
theorem mp_11 (K0 : CallFix p m c cc nL s args GW own) (hK : va_K D vwCl (tysM w) s) {v : Int32} {k : Unit → PM ρ} (hE : (bnd (wrI 2 0 0 v) k).1 S = some E0) (hW : 14 ≤ nW ∧ nW ≤ 16) (hZ : ZZ D nW (adrM w) (celM w) A S0 H0 S H locs cells slots) {index : Nat} (hlink : Cond.fieldLink own index (TX6 11).1 (TX6 11).2.1 (TX6 11).2.2.1 ∈ GW) (hdg : decode cc pc = .ok (.putfield index, 3)) (kk : ∀ (S1 : St) (H : Heap) (locs : List Loc), (k ()).1 S1 = some E0 → ZZ D nW (adrM w) (celM w) A S0 H0 S1 H locs cells slots → W p l e R s m args below meth c H locs cells slots Q (F0 m (pc + 3) ls rest)) : W p l e R s m args below meth c H locs cells slots Q (F0 m pc ls (.int v :: .ref (w.2.2 0) :: rest)) := by
  obtain ⟨u, S1, h1, h2⟩ := bnd_inv hE
  cases h1
  refine row_put K0 hK hZ (q0 := 0) (by omega) rfl (show celM w S 0 = eMO w S from rfl) (C := RX6) (T := TX6) (N := 20) rfl iX6 tyX6 tyX6_ok nmX6 11 (by decide) hlink rfl rfl rfl (Nat.le_of_ble_eq_true rfl) (S' := pI S 2 0 0 v) ?_ (fun j _ => rfl) (fun j _ => fm_2 w S v j) (fun _ _ => rfl) hdg (fun H locs hZ => kk _ H locs h2 hZ)
  show eMO w _ = _
  simp [eMO, gI_pI, gL_pI, gN_pI]
theorem mp_14 (K0 : CallFix p m c cc nL s args GW own) (hK : va_K D vwCl (tysM w) s) {v : Int32} {k : Unit → PM ρ} (hE : (bnd (wrZ 3 v) k).1 S = some E0) (hW : 14 ≤ nW ∧ nW ≤ 16) (hZ : ZZ D nW (adrM w) (celM w) A S0 H0 S H locs cells slots) {index : Nat} (hlink : Cond.fieldLink own index (TX6 14).1 (TX6 14).2.1 (TX6 14).2.2.1 ∈ GW) (hdg : decode cc pc = .ok (.putfield index, 3)) (kk : ∀ (S1 : St) (H : Heap) (locs : List Loc), (k ()).1 S1 = some E0 → ZZ D nW (adrM w) (celM w) A S0 H0 S1 H locs cells slots → W p l e R s m args below meth c H locs cells slots Q (F0 m (pc + 3) ls rest)) : W p l e R s m args below meth c H locs cells slots Q (F0 m pc ls (.int v :: .ref (w.2.2 0) :: rest)) := by
  obtain ⟨u, S1, h1, h2⟩ := bnd_inv hE
  obtain ⟨hv, h1⟩ := if_ok h1
  cases h1
  refine row_put K0 hK hZ (q0 := 0) (by omega) rfl (show celM w S 0 = eMO w S from rfl) (C := RX6) (T := TX6) (N := 20) rfl iX6 tyX6 tyX6_ok nmX6 14 (by decide) hlink rfl (by rcases hv with rfl | rfl <;> decide +kernel) (by rcases hv with rfl | rfl <;> decide +kernel) (Nat.le_of_ble_eq_true rfl) (S' := pI S 3 0 0 v) ?_ (fun j _ => rfl) (fun j _ => fm_3 w S v j) (fun _ _ => rfl) hdg (fun H locs hZ => kk _ H locs h2 hZ)
  show eMO w _ = _
  simp [eMO, gI_pI, gL_pI, gN_pI]
theorem mp_17 (K0 : CallFix p m c cc nL s args GW own) (hK : va_K D vwCl (tysM w) s) {v : Int32} {k : Unit → PM ρ} (hE : (bnd (wrI 4 0 0 v) k).1 S = some E0) (hW : 14 ≤ nW ∧ nW ≤ 16) (hZ : ZZ D nW (adrM w) (celM w) A S0 H0 S H locs cells slots) {index : Nat} (hlink : Cond.fieldLink own index (TX6 17).1 (TX6 17).2.1 (TX6 17).2.2.1 ∈ GW) (hdg : decode cc pc = .ok (.putfield index, 3)) (kk : ∀ (S1 : St) (H : Heap) (locs : List Loc), (k ()).1 S1 = some E0 → ZZ D nW (adrM w) (celM w) A S0 H0 S1 H locs cells slots → W p l e R s m args below meth c H locs cells slots Q (F0 m (pc + 3) ls rest)) : W p l e R s m args below meth c H locs cells slots Q (F0 m pc ls (.int v :: .ref (w.2.2 0) :: rest)) := by
  obtain ⟨u, S1, h1, h2⟩ := bnd_inv hE
  cases h1
  refine row_put K0 hK hZ (q0 := 0) (by omega) rfl (show celM w S 0 = eMO w S from rfl) (C := RX6) (T := TX6) (N := 20) rfl iX6 tyX6 tyX6_ok nmX6 17 (by decide) hlink rfl rfl rfl (Nat.le_of_ble_eq_true rfl) (S' := pI S 4 0 0 v) ?_ (fun j _ => rfl) (fun j _ => fm_4 w S v j) (fun _ _ => rfl) hdg (fun H locs hZ => kk _ H locs h2 hZ)
  show eMO w _ = _
  simp [eMO, gI_pI, gL_pI, gN_pI]
theorem mp_19 (K0 : CallFix p m c cc nL s args GW own) (hK : va_K D vwCl (tysM w) s) {v : Int32} {k : Unit → PM ρ} (hE : (bnd (wrI 5 0 0 v) k).1 S = some E0) (hW : 14 ≤ nW ∧ nW ≤ 16) (hZ : ZZ D nW (adrM w) (celM w) A S0 H0 S H locs cells slots) {index : Nat} (hlink : Cond.fieldLink own index (TX6 19).1 (TX6 19).2.1 (TX6 19).2.2.1 ∈ GW) (hdg : decode cc pc = .ok (.putfield index, 3)) (kk : ∀ (S1 : St) (H : Heap) (locs : List Loc), (k ()).1 S1 = some E0 → ZZ D nW (adrM w) (celM w) A S0 H0 S1 H locs cells slots → W p l e R s m args below meth c H locs cells slots Q (F0 m (pc + 3) ls rest)) : W p l e R s m args below meth c H locs cells slots Q (F0 m pc ls (.int v :: .ref (w.2.2 0) :: rest)) := by
  obtain ⟨u, S1, h1, h2⟩ := bnd_inv hE
  cases h1
  refine row_put K0 hK hZ (q0 := 0) (by omega) rfl (show celM w S 0 = eMO w S from rfl) (C := RX6) (T := TX6) (N := 20) rfl iX6 tyX6 tyX6_ok nmX6 19 (by decide) hlink rfl rfl rfl (Nat.le_of_ble_eq_true rfl) (S' := pI S 5 0 0 v) ?_ (fun j _ => rfl) (fun j _ => fm_5 w S v j) (fun _ _ => rfl) hdg (fun H locs hZ => kk _ H locs h2 hZ)
  show eMO w _ = _
  simp [eMO, gI_pI, gL_pI, gN_pI]
theorem mp_18 (K0 : CallFix p m c cc nL s args GW own) (hK : va_K D vwCl (tysM w) s) {v : Int64} {k : Unit → PM ρ} (hE : (bnd (wrL 0 v) k).1 S = some E0) (hW : 14 ≤ nW ∧ nW ≤ 16) (hZ : ZZ D nW (adrM w) (celM w) A S0 H0 S H locs cells slots) {index : Nat} (hlink : Cond.fieldLink own index (TX6 18).1 (TX6 18).2.1 (TX6 18).2.2.1 ∈ GW) (hdg : decode cc pc = .ok (.putfield index, 3)) (kk : ∀ (S1 : St) (H : Heap) (locs : List Loc), (k ()).1 S1 = some E0 → ZZ D nW (adrM w) (celM w) A S0 H0 S1 H locs cells slots → W p l e R s m args below meth c H locs cells slots Q (F0 m (pc + 3) ls rest)) : W p l e R s m args below meth c H locs cells slots Q (F0 m pc ls (.long v :: .ref (w.2.2 0) :: rest)) := by
  obtain ⟨u, S1, h1, h2⟩ := bnd_inv hE
  cases h1
  refine row_put K0 hK hZ (q0 := 0) (by omega) rfl (show celM w S 0 = eMO w S from rfl) (C := RX6) (T := TX6) (N := 20) rfl iX6 tyX6 tyX6_ok nmX6 18 (by decide) hlink rfl rfl rfl (Nat.le_of_ble_eq_true rfl) (S' := pL S 0 v) ?_ (fun j _ => rfl) (fun j _ => fm_L w S v j) (fun _ _ => rfl) hdg (fun H locs hZ => kk _ H locs h2 hZ)
  show eMO w _ = _
  simp [eMO, gI_pL, gL_pL, gN_pL]
def mld (f len : Nat) (i : Int32) : PM Int32 := if ¬ (i < 0 ∨ len ≤ i.toNatClampNeg) then rdI f 0 i.toNatClampNeg else fail
def mst (f len : Nat) (i v : Int32) : PM Unit := if ¬ (i < 0 ∨ len ≤ i.toNatClampNeg) then wrI f 0 i.toNatClampNeg v else fail
/-- rows whose cells are held by an address in the state: which (a: its number among gN S 1 .. or 5 ..) -/
def mvN (g h i v : Nat) : PM Int32 := bnd (rdN g i) (fun a => bnd (rdN h i) (fun n => if a = v then rtn (nI n) else fail))
def mvL (g h i f v : Nat) (j : Int32) : PM Int32 := bnd (rdN g i) (fun a => bnd (rdN h i) (fun n => if a = v ∧ ¬ (j < 0 ∨ n ≤ j.toNatClampNeg) then rdI f 0 j.toNatClampNeg else fail))
def mvS (g h i f v : Nat) (j u : Int32) : PM Unit := bnd (rdN g i) (fun a => bnd (rdN h i) (fun n => if a = v ∧ ¬ (j < 0 ∨ n ≤ j.toNatClampNeg) then wrI f 0 j.toNatClampNeg u else fail))
theorem mn_11 (K0 : CallFix p m c cc nL s args GW own) (hK : va_K D vwCl (tysM w) s) (hW : 14 ≤ nW ∧ nW ≤ 16) (hZ : ZZ D nW (adrM w) (celM w) A S0 H0 S H locs cells slots) (hdg : decode cc pc = .ok (.arraylength, 1)) (kk : W p l e R s m args below meth c H locs cells slots Q (F0 m (pc + 1) ls (.int (nI 8) :: rest))) : W p l e R s m args below meth c H locs cells slots Q (F0 m pc ls (.ref (w.2.2 1) :: rest)) := row_alen K0 hK hZ (q0 := 1) (t0 := 0) (by omega) rfl (x := (8, .inl (fun j => gI S 11 0 j))) rfl rfl rfl hdg kk
theorem ma_11 (K0 : CallFix p m c cc nL s args GW own) (hK : va_K D vwCl (tysM w) s) {i : Int32} {k : Int32 → PM ρ} (hE : (bnd (mld 11 8 i) k).1 S = some E0) (hW : 14 ≤ nW ∧ nW ≤ 16) (hZ : ZZ D nW (adrM w) (celM w) A S0 H0 S H locs cells slots) (hdg : decode cc pc = .ok (.iaload, 1)) (kk : ∀ v : Int32, (k v).1 S = some E0 → W p l e R s m args below meth c H locs cells slots Q (F0 m (pc + 1) ls (.int v :: rest))) : W p l e R s m args below meth c H locs cells slots Q (F0 m pc ls (.int i :: .ref (w.2.2 1) :: rest)) := by
  obtain ⟨v, S1, h1, h2⟩ := bnd_inv hE
  obtain ⟨hi, h1⟩ := if_ok h1
  cases h1
  exact row_iald K0 hK hZ (q0 := 1) (t0 := 0) (n := 8) (f := fun j => gI S 11 0 j) (by omega) rfl rfl rfl hi hdg (kk _ h2)
theorem ms_11 (K0 : CallFix p m c cc nL s args GW own) (hK : va_K D vwCl (tysM w) s) {i v : Int32} {k : Unit → PM ρ} (hE : (bnd (mst 11 8 i v) k).1 S = some E0) (hW : 14 ≤ nW ∧ nW ≤ 16) (hZ : ZZ D nW (adrM w) (celM w) A S0 H0 S H locs cells slots) (hdg : decode cc pc = .ok (.iastore, 1)) (kk : ∀ (S1 : St) (H : Heap) (locs : List Loc), (k ()).1 S1 = some E0 → ZZ D nW (adrM w) (celM w) A S0 H0 S1 H locs cells slots → W p l e R s m args below meth c H locs cells slots Q (F0 m (pc + 1) ls rest)) : W p l e R s m args below meth c H locs cells slots Q (F0 m pc ls (.int v :: .int i :: .ref (w.2.2 1) :: rest)) := by
  obtain ⟨u, S1, h1, h2⟩ := bnd_inv hE
  obtain ⟨hi, h1⟩ := if_ok h1
  cases h1
  refine row_iast K0 hK hZ (q0 := 1) (t0 := 0) (n := 8) (f := fun j => gI S 11 0 j) (by omega) rfl rfl rfl hi (S' := pI S 11 0 i.toNatClampNeg v) ?_ (fun j _ => rfl) (fun j _ => fm_11 w S _ v j) (fun _ _ => rfl) hdg (fun H locs hZ => kk _ H locs h2 hZ)
  show Sum.inl (w.1, 8, Sum.inl (fun j => gI (pI S 11 0 i.toNatClampNeg v) 11 0 j)) = _
  simp only [gI_pI]
  congr 4
  funext j
  simp [upd]
theorem mn_12 (K0 : CallFix p m c cc nL s args GW own) (hK : va_K D vwCl (tysM w) s) (hW : 14 ≤ nW ∧ nW ≤ 16) (hZ : ZZ D nW (adrM w) (celM w) A S0 H0 S H locs cells slots) (hdg : decode cc pc = .ok (.arraylength, 1)) (kk : W p l e R s m args below meth c H locs cells slots Q (F0 m (pc + 1) ls (.int (nI 8) :: rest))) : W p l e R s m args below meth c H locs cells slots Q (F0 m pc ls (.ref (w.2.2 2) :: rest)) := row_alen K0 hK hZ (q0 := 2) (t0 := 0) (by omega) rfl (x := (8, .inl (fun j => gI S 12 0 j))) rfl rfl rfl hdg kk
theorem ma_12 (K0 : CallFix p m c cc nL s args GW own) (hK : va_K D vwCl (tysM w) s) {i : Int32} {k : Int32 → PM ρ} (hE : (bnd (mld 12 8 i) k).1 S = some E0) (hW : 14 ≤ nW ∧ nW ≤ 16) (hZ : ZZ D nW (adrM w) (celM w) A S0 H0 S H locs cells slots) (hdg : decode cc pc = .ok (.iaload, 1)) (kk : ∀ v : Int32, (k v).1 S = some E0 → W p l e R s m args below meth c H locs cells slots Q (F0 m (pc + 1) ls (.int v :: rest))) : W p l e R s m args below meth c H locs cells slots Q (F0 m pc ls (.int i :: .ref (w.2.2 2) :: rest)) := by
  obtain ⟨v, S1, h1, h2⟩ := bnd_inv hE
  obtain ⟨hi, h1⟩ := if_ok h1
  cases h1
  exact row_iald K0 hK hZ (q0 := 2) (t0 := 0) (n := 8) (f := fun j => gI S 12 0 j) (by omega) rfl rfl rfl hi hdg (kk _ h2)
theorem ms_12 (K0 : CallFix p m c cc nL s args GW own) (hK : va_K D vwCl (tysM w) s) {i v : Int32} {k : Unit → PM ρ} (hE : (bnd (mst 12 8 i v) k).1 S = some E0) (hW : 14 ≤ nW ∧ nW ≤ 16) (hZ : ZZ D nW (adrM w) (celM w) A S0 H0 S H locs cells slots) (hdg : decode cc pc = .ok (.iastore, 1)) (kk : ∀ (S1 : St) (H : Heap) (locs : List Loc), (k ()).1 S1 = some E0 → ZZ D nW (adrM w) (celM w) A S0 H0 S1 H locs cells slots → W p l e R s m args below meth c H locs cells slots Q (F0 m (pc + 1) ls rest)) : W p l e R s m args below meth c H locs cells slots Q (F0 m pc ls (.int v :: .int i :: .ref (w.2.2 2) :: rest)) := by
  obtain ⟨u, S1, h1, h2⟩ := bnd_inv hE
  obtain ⟨hi, h1⟩ := if_ok h1
  cases h1
  refine row_iast K0 hK hZ (q0 := 2) (t0 := 0) (n := 8) (f := fun j => gI S 12 0 j) (by omega) rfl rfl rfl hi (S' := pI S 12 0 i.toNatClampNeg v) ?_ (fun j _ => rfl) (fun j _ => fm_12 w S _ v j) (fun _ _ => rfl) hdg (fun H locs hZ => kk _ H locs h2 hZ)
  show Sum.inl (w.1, 8, Sum.inl (fun j => gI (pI S 12 0 i.toNatClampNeg v) 12 0 j)) = _
  simp only [gI_pI]
  congr 4
  funext j
  simp [upd]
theorem mn_13 (K0 : CallFix p m c cc nL s args GW own) (hK : va_K D vwCl (tysM w) s) (hW : 14 ≤ nW ∧ nW ≤ 16) (hZ : ZZ D nW (adrM w) (celM w) A S0 H0 S H locs cells slots) (hdg : decode cc pc = .ok (.arraylength, 1)) (kk : W p l e R s m args below meth c H locs cells slots Q (F0 m (pc + 1) ls (.int (nI 8) :: rest))) : W p l e R s m args below meth c H locs cells slots Q (F0 m pc ls (.ref (w.2.2 3) :: rest)) := row_alen K0 hK hZ (q0 := 3) (t0 := 0) (by omega) rfl (x := (8, .inl (fun j => gI S 13 0 j))) rfl rfl rfl hdg kk
theorem ma_13 (K0 : CallFix p m c cc nL s args GW own) (hK : va_K D vwCl (tysM w) s) {i : Int32} {k : Int32 → PM ρ} (hE : (bnd (mld 13 8 i) k).1 S = some E0) (hW : 14 ≤ nW ∧ nW ≤ 16) (hZ : ZZ D nW (adrM w) (celM w) A S0 H0 S H locs cells slots) (hdg : decode cc pc = .ok (.iaload, 1)) (kk : ∀ v : Int32, (k v).1 S = some E0 → W p l e R s m args below meth c H locs cells slots Q (F0 m (pc + 1) ls (.int v :: rest))) : W p l e R s m args below meth c H locs cells slots Q (F0 m pc ls (.int i :: .ref (w.2.2 3) :: rest)) := by
  obtain ⟨v, S1, h1, h2⟩ := bnd_inv hE
  obtain ⟨hi, h1⟩ := if_ok h1
  cases h1
  exact row_iald K0 hK hZ (q0 := 3) (t0 := 0) (n := 8) (f := fun j => gI S 13 0 j) (by omega) rfl rfl rfl hi hdg (kk _ h2)
theorem ms_13 (K0 : CallFix p m c cc nL s args GW own) (hK : va_K D vwCl (tysM w) s) {i v : Int32} {k : Unit → PM ρ} (hE : (bnd (mst 13 8 i v) k).1 S = some E0) (hW : 14 ≤ nW ∧ nW ≤ 16) (hZ : ZZ D nW (adrM w) (celM w) A S0 H0 S H locs cells slots) (hdg : decode cc pc = .ok (.iastore, 1)) (kk : ∀ (S1 : St) (H : Heap) (locs : List Loc), (k ()).1 S1 = some E0 → ZZ D nW (adrM w) (celM w) A S0 H0 S1 H locs cells slots → W p l e R s m args below meth c H locs cells slots Q (F0 m (pc + 1) ls rest)) : W p l e R s m args below meth c H locs cells slots Q (F0 m pc ls (.int v :: .int i :: .ref (w.2.2 3) :: rest)) := by
  obtain ⟨u, S1, h1, h2⟩ := bnd_inv hE
  obtain ⟨hi, h1⟩ := if_ok h1
  cases h1
  refine row_iast K0 hK hZ (q0 := 3) (t0 := 0) (n := 8) (f := fun j => gI S 13 0 j) (by omega) rfl rfl rfl hi (S' := pI S 13 0 i.toNatClampNeg v) ?_ (fun j _ => rfl) (fun j _ => fm_13 w S _ v j) (fun _ _ => rfl) hdg (fun H locs hZ => kk _ H locs h2 hZ)
  show Sum.inl (w.1, 8, Sum.inl (fun j => gI (pI S 13 0 i.toNatClampNeg v) 13 0 j)) = _
  simp only [gI_pI]
  congr 4
  funext j
  simp [upd]
theorem mn_14 (K0 : CallFix p m c cc nL s args GW own) (hK : va_K D vwCl (tysM w) s) (hW : 14 ≤ nW ∧ nW ≤ 16) (hZ : ZZ D nW (adrM w) (celM w) A S0 H0 S H locs cells slots) (hdg : decode cc pc = .ok (.arraylength, 1)) (kk : W p l e R s m args below meth c H locs cells slots Q (F0 m (pc + 1) ls (.int (nI 8) :: rest))) : W p l e R s m args below meth c H locs cells slots Q (F0 m pc ls (.ref (w.2.2 4) :: rest)) := row_alen K0 hK hZ (q0 := 4) (t0 := 0) (by omega) rfl (x := (8, .inl (fun j => gI S 14 0 j))) rfl rfl rfl hdg kk
theorem ma_14 (K0 : CallFix p m c cc nL s args GW own) (hK : va_K D vwCl (tysM w) s) {i : Int32} {k : Int32 → PM ρ} (hE : (bnd (mld 14 8 i) k).1 S = some E0) (hW : 14 ≤ nW ∧ nW ≤ 16) (hZ : ZZ D nW (adrM w) (celM w) A S0 H0 S H locs cells slots) (hdg : decode cc pc = .ok (.iaload, 1)) (kk : ∀ v : Int32, (k v).1 S = some E0 → W p l e R s m args below meth c H locs cells slots Q (F0 m (pc + 1) ls (.int v :: rest))) : W p l e R s m args below meth c H locs cells slots Q (F0 m pc ls (.int i :: .ref (w.2.2 4) :: rest)) := by
  obtain ⟨v, S1, h1, h2⟩ := bnd_inv hE
  obtain ⟨hi, h1⟩ := if_ok h1
  cases h1
  exact row_iald K0 hK hZ (q0 := 4) (t0 := 0) (n := 8) (f := fun j => gI S 14 0 j) (by omega) rfl rfl rfl hi hdg (kk _ h2)
theorem ms_14 (K0 : CallFix p m c cc nL s args GW own) (hK : va_K D vwCl (tysM w) s) {i v : Int32} {k : Unit → PM ρ} (hE : (bnd (mst 14 8 i v) k).1 S = some E0) (hW : 14 ≤ nW ∧ nW ≤ 16) (hZ : ZZ D nW (adrM w) (celM w) A S0 H0 S H locs cells slots) (hdg : decode cc pc = .ok (.iastore, 1)) (kk : ∀ (S1 : St) (H : Heap) (locs : List Loc), (k ()).1 S1 = some E0 → ZZ D nW (adrM w) (celM w) A S0 H0 S1 H locs cells slots → W p l e R s m args below meth c H locs cells slots Q (F0 m (pc + 1) ls rest)) : W p l e R s m args below meth c H locs cells slots Q (F0 m pc ls (.int v :: .int i :: .ref (w.2.2 4) :: rest)) := by
  obtain ⟨u, S1, h1, h2⟩ := bnd_inv hE
  obtain ⟨hi, h1⟩ := if_ok h1
  cases h1
  refine row_iast K0 hK hZ (q0 := 4) (t0 := 0) (n := 8) (f := fun j => gI S 14 0 j) (by omega) rfl rfl rfl hi (S' := pI S 14 0 i.toNatClampNeg v) ?_ (fun j _ => rfl) (fun j _ => fm_14 w S _ v j) (fun _ _ => rfl) hdg (fun H locs hZ => kk _ H locs h2 hZ)
  show Sum.inl (w.1, 8, Sum.inl (fun j => gI (pI S 14 0 i.toNatClampNeg v) 14 0 j)) = _
  simp only [gI_pI]
  congr 4
  funext j
  simp [upd]
theorem mn_15 (K0 : CallFix p m c cc nL s args GW own) (hK : va_K D vwCl (tysM w) s) (hW : 14 ≤ nW ∧ nW ≤ 16) (hZ : ZZ D nW (adrM w) (celM w) A S0 H0 S H locs cells slots) (hdg : decode cc pc = .ok (.arraylength, 1)) (kk : W p l e R s m args below meth c H locs cells slots Q (F0 m (pc + 1) ls (.int (nI 8) :: rest))) : W p l e R s m args below meth c H locs cells slots Q (F0 m pc ls (.ref (w.2.2 5) :: rest)) := row_alen K0 hK hZ (q0 := 5) (t0 := 0) (by omega) rfl (x := (8, .inl (fun j => gI S 15 0 j))) rfl rfl rfl hdg kk
theorem ma_15 (K0 : CallFix p m c cc nL s args GW own) (hK : va_K D vwCl (tysM w) s) {i : Int32} {k : Int32 → PM ρ} (hE : (bnd (mld 15 8 i) k).1 S = some E0) (hW : 14 ≤ nW ∧ nW ≤ 16) (hZ : ZZ D nW (adrM w) (celM w) A S0 H0 S H locs cells slots) (hdg : decode cc pc = .ok (.iaload, 1)) (kk : ∀ v : Int32, (k v).1 S = some E0 → W p l e R s m args below meth c H locs cells slots Q (F0 m (pc + 1) ls (.int v :: rest))) : W p l e R s m args below meth c H locs cells slots Q (F0 m pc ls (.int i :: .ref (w.2.2 5) :: rest)) := by
  obtain ⟨v, S1, h1, h2⟩ := bnd_inv hE
  obtain ⟨hi, h1⟩ := if_ok h1
  cases h1
  exact row_iald K0 hK hZ (q0 := 5) (t0 := 0) (n := 8) (f := fun j => gI S 15 0 j) (by omega) rfl rfl rfl hi hdg (kk _ h2)
theorem ms_15 (K0 : CallFix p m c cc nL s args GW own) (hK : va_K D vwCl (tysM w) s) {i v : Int32} {k : Unit → PM ρ} (hE : (bnd (mst 15 8 i v) k).1 S = some E0) (hW : 14 ≤ nW ∧ nW ≤ 16) (hZ : ZZ D nW (adrM w) (celM w) A S0 H0 S H locs cells slots) (hdg : decode cc pc = .ok (.iastore, 1)) (kk : ∀ (S1 : St) (H : Heap) (locs : List Loc), (k ()).1 S1 = some E0 → ZZ D nW (adrM w) (celM w) A S0 H0 S1 H locs cells slots → W p l e R s m args below meth c H locs cells slots Q (F0 m (pc + 1) ls rest)) : W p l e R s m args below meth c H locs cells slots Q (F0 m pc ls (.int v :: .int i :: .ref (w.2.2 5) :: rest)) := by
  obtain ⟨u, S1, h1, h2⟩ := bnd_inv hE
  obtain ⟨hi, h1⟩ := if_ok h1
  cases h1
  refine row_iast K0 hK hZ (q0 := 5) (t0 := 0) (n := 8) (f := fun j => gI S 15 0 j) (by omega) rfl rfl rfl hi (S' := pI S 15 0 i.toNatClampNeg v) ?_ (fun j _ => rfl) (fun j _ => fm_15 w S _ v j) (fun _ _ => rfl) hdg (fun H locs hZ => kk _ H locs h2 hZ)
  show Sum.inl (w.1, 8, Sum.inl (fun j => gI (pI S 15 0 i.toNatClampNeg v) 15 0 j)) = _
  simp only [gI_pI]
  congr 4
  funext j
  simp [upd]
theorem mn_16 (K0 : CallFix p m c cc nL s args GW own) (hK : va_K D vwCl (tysM w) s) (hW : 14 ≤ nW ∧ nW ≤ 16) (hZ : ZZ D nW (adrM w) (celM w) A S0 H0 S H locs cells slots) (hdg : decode cc pc = .ok (.arraylength, 1)) (kk : W p l e R s m args below meth c H locs cells slots Q (F0 m (pc + 1) ls (.int (nI 30) :: rest))) : W p l e R s m args below meth c H locs cells slots Q (F0 m pc ls (.ref (w.2.2 6) :: rest)) := row_alen K0 hK hZ (q0 := 6) (t0 := 0) (by omega) rfl (x := (30, .inl (fun j => gI S 16 0 j))) rfl rfl rfl hdg kk
theorem ma_16 (K0 : CallFix p m c cc nL s args GW own) (hK : va_K D vwCl (tysM w) s) {i : Int32} {k : Int32 → PM ρ} (hE : (bnd (mld 16 30 i) k).1 S = some E0) (hW : 14 ≤ nW ∧ nW ≤ 16) (hZ : ZZ D nW (adrM w) (celM w) A S0 H0 S H locs cells slots) (hdg : decode cc pc = .ok (.iaload, 1)) (kk : ∀ v : Int32, (k v).1 S = some E0 → W p l e R s m args below meth c H locs cells slots Q (F0 m (pc + 1) ls (.int v :: rest))) : W p l e R s m args below meth c H locs cells slots Q (F0 m pc ls (.int i :: .ref (w.2.2 6) :: rest)) := by
  obtain ⟨v, S1, h1, h2⟩ := bnd_inv hE
  obtain ⟨hi, h1⟩ := if_ok h1
  cases h1
  exact row_iald K0 hK hZ (q0 := 6) (t0 := 0) (n := 30) (f := fun j => gI S 16 0 j) (by omega) rfl rfl rfl hi hdg (kk _ h2)
theorem ms_16 (K0 : CallFix p m c cc nL s args GW own) (hK : va_K D vwCl (tysM w) s) {i v : Int32} {k : Unit → PM ρ} (hE : (bnd (mst 16 30 i v) k).1 S = some E0) (hW : 14 ≤ nW ∧ nW ≤ 16) (hZ : ZZ D nW (adrM w) (celM w) A S0 H0 S H locs cells slots) (hdg : decode cc pc = .ok (.iastore, 1)) (kk : ∀ (S1 : St) (H : Heap) (locs : List Loc), (k ()).1 S1 = some E0 → ZZ D nW (adrM w) (celM w) A S0 H0 S1 H locs cells slots → W p l e R s m args below meth c H locs cells slots Q (F0 m (pc + 1) ls rest)) : W p l e R s m args below meth c H locs cells slots Q (F0 m pc ls (.int v :: .int i :: .ref (w.2.2 6) :: rest)) := by
  obtain ⟨u, S1, h1, h2⟩ := bnd_inv hE
  obtain ⟨hi, h1⟩ := if_ok h1
  cases h1
  refine row_iast K0 hK hZ (q0 := 6) (t0 := 0) (n := 30) (f := fun j => gI S 16 0 j) (by omega) rfl rfl rfl hi (S' := pI S 16 0 i.toNatClampNeg v) ?_ (fun j _ => rfl) (fun j _ => fm_16 w S _ v j) (fun _ _ => rfl) hdg (fun H locs hZ => kk _ H locs h2 hZ)
  show Sum.inl (w.1, 30, Sum.inl (fun j => gI (pI S 16 0 i.toNatClampNeg v) 16 0 j)) = _
  simp only [gI_pI]
  congr 4
  funext j
  simp [upd]
theorem mn_17 (K0 : CallFix p m c cc nL s args GW own) (hK : va_K D vwCl (tysM w) s) (hW : 14 ≤ nW ∧ nW ≤ 16) (hZ : ZZ D nW (adrM w) (celM w) A S0 H0 S H locs cells slots) (hdg : decode cc pc = .ok (.arraylength, 1)) (kk : W p l e R s m args below meth c H locs cells slots Q (F0 m (pc + 1) ls (.int (nI 30) :: rest))) : W p l e R s m args below meth c H locs cells slots Q (F0 m pc ls (.ref (w.2.2 7) :: rest)) := row_alen K0 hK hZ (q0 := 7) (t0 := 0) (by omega) rfl (x := (30, .inl (fun j => gI S 17 0 j))) rfl rfl rfl hdg kk
theorem ma_17 (K0 : CallFix p m c cc nL s args GW own) (hK : va_K D vwCl (tysM w) s) {i : Int32} {k : Int32 → PM ρ} (hE : (bnd (mld 17 30 i) k).1 S = some E0) (hW : 14 ≤ nW ∧ nW ≤ 16) (hZ : ZZ D nW (adrM w) (celM w) A S0 H0 S H locs cells slots) (hdg : decode cc pc = .ok (.iaload, 1)) (kk : ∀ v : Int32, (k v).1 S = some E0 → W p l e R s m args below meth c H locs cells slots Q (F0 m (pc + 1) ls (.int v :: rest))) : W p l e R s m args below meth c H locs cells slots Q (F0 m pc ls (.int i :: .ref (w.2.2 7) :: rest)) := by
  obtain ⟨v, S1, h1, h2⟩ := bnd_inv hE
  obtain ⟨hi, h1⟩ := if_ok h1
  cases h1
  exact row_iald K0 hK hZ (q0 := 7) (t0 := 0) (n := 30) (f := fun j => gI S 17 0 j) (by omega) rfl rfl rfl hi hdg (kk _ h2)
theorem ms_17 (K0 : CallFix p m c cc nL s args GW own) (hK : va_K D vwCl (tysM w) s) {i v : Int32} {k : Unit → PM ρ} (hE : (bnd (mst 17 30 i v) k).1 S = some E0) (hW : 14 ≤ nW ∧ nW ≤ 16) (hZ : ZZ D nW (adrM w) (celM w) A S0 H0 S H locs cells slots) (hdg : decode cc pc = .ok (.iastore, 1)) (kk : ∀ (S1 : St) (H : Heap) (locs : List Loc), (k ()).1 S1 = some E0 → ZZ D nW (adrM w) (celM w) A S0 H0 S1 H locs cells slots → W p l e R s m args below meth c H locs cells slots Q (F0 m (pc + 1) ls rest)) : W p l e R s m args below meth c H locs cells slots Q (F0 m pc ls (.int v :: .int i :: .ref (w.2.2 7) :: rest)) := by
  obtain ⟨u, S1, h1, h2⟩ := bnd_inv hE
  obtain ⟨hi, h1⟩ := if_ok h1
  cases h1
  refine row_iast K0 hK hZ (q0 := 7) (t0 := 0) (n := 30) (f := fun j => gI S 17 0 j) (by omega) rfl rfl rfl hi (S' := pI S 17 0 i.toNatClampNeg v) ?_ (fun j _ => rfl) (fun j _ => fm_17 w S _ v j) (fun _ _ => rfl) hdg (fun H locs hZ => kk _ H locs h2 hZ)
  show Sum.inl (w.1, 30, Sum.inl (fun j => gI (pI S 17 0 i.toNatClampNeg v) 17 0 j)) = _
  simp only [gI_pI]
  congr 4
  funext j
  simp [upd]
theorem mn_18 (K0 : CallFix p m c cc nL s args GW own) (hK : va_K D vwCl (tysM w) s) (hW : 14 ≤ nW ∧ nW ≤ 16) (hZ : ZZ D nW (adrM w) (celM w) A S0 H0 S H locs cells slots) (hdg : decode cc pc = .ok (.arraylength, 1)) (kk : W p l e R s m args below meth c H locs cells slots Q (F0 m (pc + 1) ls (.int (nI 30) :: rest))) : W p l e R s m args below meth c H locs cells slots Q (F0 m pc ls (.ref (w.2.2 8) :: rest)) := row_alen K0 hK hZ (q0 := 8) (t0 := 0) (by omega) rfl (x := (30, .inl (fun j => gI S 18 0 j))) rfl rfl rfl hdg kk
theorem ma_18 (K0 : CallFix p m c cc nL s args GW own) (hK : va_K D vwCl (tysM w) s) {i : Int32} {k : Int32 → PM ρ} (hE : (bnd (mld 18 30 i) k).1 S = some E0) (hW : 14 ≤ nW ∧ nW ≤ 16) (hZ : ZZ D nW (adrM w) (celM w) A S0 H0 S H locs cells slots) (hdg : decode cc pc = .ok (.iaload, 1)) (kk : ∀ v : Int32, (k v).1 S = some E0 → W p l e R s m args below meth c H locs cells slots Q (F0 m (pc + 1) ls (.int v :: rest))) : W p l e R s m args below meth c H locs cells slots Q (F0 m pc ls (.int i :: .ref (w.2.2 8) :: rest)) := by
  obtain ⟨v, S1, h1, h2⟩ := bnd_inv hE
  obtain ⟨hi, h1⟩ := if_ok h1
  cases h1
  exact row_iald K0 hK hZ (q0 := 8) (t0 := 0) (n := 30) (f := fun j => gI S 18 0 j) (by omega) rfl rfl rfl hi hdg (kk _ h2)
theorem ms_18 (K0 : CallFix p m c cc nL s args GW own) (hK : va_K D vwCl (tysM w) s) {i v : Int32} {k : Unit → PM ρ} (hE : (bnd (mst 18 30 i v) k).1 S = some E0) (hW : 14 ≤ nW ∧ nW ≤ 16) (hZ : ZZ D nW (adrM w) (celM w) A S0 H0 S H locs cells slots) (hdg : decode cc pc = .ok (.iastore, 1)) (kk : ∀ (S1 : St) (H : Heap) (locs : List Loc), (k ()).1 S1 = some E0 → ZZ D nW (adrM w) (celM w) A S0 H0 S1 H locs cells slots → W p l e R s m args below meth c H locs cells slots Q (F0 m (pc + 1) ls rest)) : W p l e R s m args below meth c H locs cells slots Q (F0 m pc ls (.int v :: .int i :: .ref (w.2.2 8) :: rest)) := by
  obtain ⟨u, S1, h1, h2⟩ := bnd_inv hE
  obtain ⟨hi, h1⟩ := if_ok h1
  cases h1
  refine row_iast K0 hK hZ (q0 := 8) (t0 := 0) (n := 30) (f := fun j => gI S 18 0 j) (by omega) rfl rfl rfl hi (S' := pI S 18 0 i.toNatClampNeg v) ?_ (fun j _ => rfl) (fun j _ => fm_18 w S _ v j) (fun _ _ => rfl) hdg (fun H locs hZ => kk _ H locs h2 hZ)
  show Sum.inl (w.1, 30, Sum.inl (fun j => gI (pI S 18 0 i.toNatClampNeg v) 18 0 j)) = _
  simp only [gI_pI]
  congr 4
  funext j
  simp [upd]
theorem mn_19 (K0 : CallFix p m c cc nL s args GW own) (hK : va_K D vwCl (tysM w) s) (hW : 14 ≤ nW ∧ nW ≤ 16) (hZ : ZZ D nW (adrM w) (celM w) A S0 H0 S H locs cells slots) (hdg : decode cc pc = .ok (.arraylength, 1)) (kk : W p l e R s m args below meth c H locs cells slots Q (F0 m (pc + 1) ls (.int (nI 30) :: rest))) : W p l e R s m args below meth c H locs cells slots Q (F0 m pc ls (.ref (w.2.2 9) :: rest)) := row_alen K0 hK hZ (q0 := 9) (t0 := 0) (by omega) rfl (x := (30, .inl (fun j => gI S 19 0 j))) rfl rfl rfl hdg kk
theorem ma_19 (K0 : CallFix p m c cc nL s args GW own) (hK : va_K D vwCl (tysM w) s) {i : Int32} {k : Int32 → PM ρ} (hE : (bnd (mld 19 30 i) k).1 S = some E0) (hW : 14 ≤ nW ∧ nW ≤ 16) (hZ : ZZ D nW (adrM w) (celM w) A S0 H0 S H locs cells slots) (hdg : decode cc pc = .ok (.iaload, 1)) (kk : ∀ v : Int32, (k v).1 S = some E0 → W p l e R s m args below meth c H locs cells slots Q (F0 m (pc + 1) ls (.int v :: rest))) : W p l e R s m args below meth c H locs cells slots Q (F0 m pc ls (.int i :: .ref (w.2.2 9) :: rest)) := by
  obtain ⟨v, S1, h1, h2⟩ := bnd_inv hE
  obtain ⟨hi, h1⟩ := if_ok h1
  cases h1
  exact row_iald K0 hK hZ (q0 := 9) (t0 := 0) (n := 30) (f := fun j => gI S 19 0 j) (by omega) rfl rfl rfl hi hdg (kk _ h2)
theorem ms_19 (K0 : CallFix p m c cc nL s args GW own) (hK : va_K D vwCl (tysM w) s) {i v : Int32} {k : Unit → PM ρ} (hE : (bnd (mst 19 30 i v) k).1 S = some E0) (hW : 14 ≤ nW ∧ nW ≤ 16) (hZ : ZZ D nW (adrM w) (celM w) A S0 H0 S H locs cells slots) (hdg : decode cc pc = .ok (.iastore, 1)) (kk : ∀ (S1 : St) (H : Heap) (locs : List Loc), (k ()).1 S1 = some E0 → ZZ D nW (adrM w) (celM w) A S0 H0 S1 H locs cells slots → W p l e R s m args below meth c H locs cells slots Q (F0 m (pc + 1) ls rest)) : W p l e R s m args below meth c H locs cells slots Q (F0 m pc ls (.int v :: .int i :: .ref (w.2.2 9) :: rest)) := by
  obtain ⟨u, S1, h1, h2⟩ := bnd_inv hE
  obtain ⟨hi, h1⟩ := if_ok h1
  cases h1
  refine row_iast K0 hK hZ (q0 := 9) (t0 := 0) (n := 30) (f := fun j => gI S 19 0 j) (by omega) rfl rfl rfl hi (S' := pI S 19 0 i.toNatClampNeg v) ?_ (fun j _ => rfl) (fun j _ => fm_19 w S _ v j) (fun _ _ => rfl) hdg (fun H locs hZ => kk _ H locs h2 hZ)
  show Sum.inl (w.1, 30, Sum.inl (fun j => gI (pI S 19 0 i.toNatClampNeg v) 19 0 j)) = _
  simp only [gI_pI]
  congr 4
  funext j
  simp [upd]
theorem mn_20 (K0 : CallFix p m c cc nL s args GW own) (hK : va_K D vwCl (tysM w) s) (hW : 14 ≤ nW ∧ nW ≤ 16) (hZ : ZZ D nW (adrM w) (celM w) A S0 H0 S H locs cells slots) (hdg : decode cc pc = .ok (.arraylength, 1)) (kk : W p l e R s m args below meth c H locs cells slots Q (F0 m (pc + 1) ls (.int (nI 237) :: rest))) : W p l e R s m args below meth c H locs cells slots Q (F0 m pc ls (.ref (w.2.2 10) :: rest)) := row_alen K0 hK hZ (q0 := 10) (t0 := 0) (by omega) rfl (x := (237, .inl (fun j => gI S 20 0 j))) rfl rfl rfl hdg kk
theorem ma_20 (K0 : CallFix p m c cc nL s args GW own) (hK : va_K D vwCl (tysM w) s) {i : Int32} {k : Int32 → PM ρ} (hE : (bnd (mld 20 237 i) k).1 S = some E0) (hW : 14 ≤ nW ∧ nW ≤ 16) (hZ : ZZ D nW (adrM w) (celM w) A S0 H0 S H locs cells slots) (hdg : decode cc pc = .ok (.iaload, 1)) (kk : ∀ v : Int32, (k v).1 S = some E0 → W p l e R s m args below meth c H locs cells slots Q (F0 m (pc + 1) ls (.int v :: rest))) : W p l e R s m args below meth c H locs cells slots Q (F0 m pc ls (.int i :: .ref (w.2.2 10) :: rest)) := by
  obtain ⟨v, S1, h1, h2⟩ := bnd_inv hE
  obtain ⟨hi, h1⟩ := if_ok h1
  cases h1
  exact row_iald K0 hK hZ (q0 := 10) (t0 := 0) (n := 237) (f := fun j => gI S 20 0 j) (by omega) rfl rfl rfl hi hdg (kk _ h2)
theorem ms_20 (K0 : CallFix p m c cc nL s args GW own) (hK : va_K D vwCl (tysM w) s) {i v : Int32} {k : Unit → PM ρ} (hE : (bnd (mst 20 237 i v) k).1 S = some E0) (hW : 14 ≤ nW ∧ nW ≤ 16) (hZ : ZZ D nW (adrM w) (celM w) A S0 H0 S H locs cells slots) (hdg : decode cc pc = .ok (.iastore, 1)) (kk : ∀ (S1 : St) (H : Heap) (locs : List Loc), (k ()).1 S1 = some E0 → ZZ D nW (adrM w) (celM w) A S0 H0 S1 H locs cells slots → W p l e R s m args below meth c H locs cells slots Q (F0 m (pc + 1) ls rest)) : W p l e R s m args below meth c H locs cells slots Q (F0 m pc ls (.int v :: .int i :: .ref (w.2.2 10) :: rest)) := by
  obtain ⟨u, S1, h1, h2⟩ := bnd_inv hE
  obtain ⟨hi, h1⟩ := if_ok h1
  cases h1
  refine row_iast K0 hK hZ (q0 := 10) (t0 := 0) (n := 237) (f := fun j => gI S 20 0 j) (by omega) rfl rfl rfl hi (S' := pI S 20 0 i.toNatClampNeg v) ?_ (fun j _ => rfl) (fun j _ => fm_20 w S _ v j) (fun _ _ => rfl) hdg (fun H locs hZ => kk _ H locs h2 hZ)
  show Sum.inl (w.1, 237, Sum.inl (fun j => gI (pI S 20 0 i.toNatClampNeg v) 20 0 j)) = _
  simp only [gI_pI]
  congr 4
  funext j
  simp [upd]
theorem mn_21 (K0 : CallFix p m c cc nL s args GW own) (hK : va_K D vwCl (tysM w) s) (hW : 14 ≤ nW ∧ nW ≤ 16) (hZ : ZZ D nW (adrM w) (celM w) A S0 H0 S H locs cells slots) (hdg : decode cc pc = .ok (.arraylength, 1)) (kk : W p l e R s m args below meth c H locs cells slots Q (F0 m (pc + 1) ls (.int (nI 237) :: rest))) : W p l e R s m args below meth c H locs cells slots Q (F0 m pc ls (.ref (w.2.2 11) :: rest)) := row_alen K0 hK hZ (q0 := 11) (t0 := 0) (by omega) rfl (x := (237, .inl (fun j => gI S 21 0 j))) rfl rfl rfl hdg kk
theorem ma_21 (K0 : CallFix p m c cc nL s args GW own) (hK : va_K D vwCl (tysM w) s) {i : Int32} {k : Int32 → PM ρ} (hE : (bnd (mld 21 237 i) k).1 S = some E0) (hW : 14 ≤ nW ∧ nW ≤ 16) (hZ : ZZ D nW (adrM w) (celM w) A S0 H0 S H locs cells slots) (hdg : decode cc pc = .ok (.iaload, 1)) (kk : ∀ v : Int32, (k v).1 S = some E0 → W p l e R s m args below meth c H locs cells slots Q (F0 m (pc + 1) ls (.int v :: rest))) : W p l e R s m args below meth c H locs cells slots Q (F0 m pc ls (.int i :: .ref (w.2.2 11) :: rest)) := by
  obtain ⟨v, S1, h1, h2⟩ := bnd_inv hE
  obtain ⟨hi, h1⟩ := if_ok h1
  cases h1
  exact row_iald K0 hK hZ (q0 := 11) (t0 := 0) (n := 237) (f := fun j => gI S 21 0 j) (by omega) rfl rfl rfl hi hdg (kk _ h2)
theorem ms_21 (K0 : CallFix p m c cc nL s args GW own) (hK : va_K D vwCl (tysM w) s) {i v : Int32} {k : Unit → PM ρ} (hE : (bnd (mst 21 237 i v) k).1 S = some E0) (hW : 14 ≤ nW ∧ nW ≤ 16) (hZ : ZZ D nW (adrM w) (celM w) A S0 H0 S H locs cells slots) (hdg : decode cc pc = .ok (.iastore, 1)) (kk : ∀ (S1 : St) (H : Heap) (locs : List Loc), (k ()).1 S1 = some E0 → ZZ D nW (adrM w) (celM w) A S0 H0 S1 H locs cells slots → W p l e R s m args below meth c H locs cells slots Q (F0 m (pc + 1) ls rest)) : W p l e R s m args below meth c H locs cells slots Q (F0 m pc ls (.int v :: .int i :: .ref (w.2.2 11) :: rest)) := by
  obtain ⟨u, S1, h1, h2⟩ := bnd_inv hE
  obtain ⟨hi, h1⟩ := if_ok h1
  cases h1
  refine row_iast K0 hK hZ (q0 := 11) (t0 := 0) (n := 237) (f := fun j => gI S 21 0 j) (by omega) rfl rfl rfl hi (S' := pI S 21 0 i.toNatClampNeg v) ?_ (fun j _ => rfl) (fun j _ => fm_21 w S _ v j) (fun _ _ => rfl) hdg (fun H locs hZ => kk _ H locs h2 hZ)
  show Sum.inl (w.1, 237, Sum.inl (fun j => gI (pI S 21 0 i.toNatClampNeg v) 21 0 j)) = _
  simp only [gI_pI]
  congr 4
  funext j
  simp [upd]
theorem mn_TS (K0 : CallFix p m c cc nL s args GW own) (hK : va_K D vwCl (tysM w) s) {v : Nat} {k : Int32 → PM ρ} (hE : (bnd (mvN 1 0 0 v) k).1 S = some E0) (hW : 14 ≤ nW ∧ nW ≤ 16) (hZ : ZZ D nW (adrM w) (celM w) A S0 H0 S H locs cells slots) (hdg : decode cc pc = .ok (.arraylength, 1)) (kk : ∀ v : Int32, (k v).1 S = some E0 → W p l e R s m args below meth c H locs cells slots Q (F0 m (pc + 1) ls (.int v :: rest))) : W p l e R s m args below meth c H locs cells slots Q (F0 m pc ls (.ref v :: rest)) := by
  obtain ⟨r, S1, h1, h2⟩ := bnd_inv hE
  obtain ⟨a, S2, h3, h1⟩ := bnd_inv h1
  cases h3
  obtain ⟨n, S2, h3, h1⟩ := bnd_inv h1
  cases h3
  obtain ⟨ha, h1⟩ := if_ok h1
  cases h1
  exact row_alen K0 hK hZ (q0 := 12) (t0 := 1) (by omega) ha (x := (gN S 0 0, .inl (fun j => gI S 22 0 j))) rfl rfl rfl hdg (kk _ h2)
theorem ma_TS (K0 : CallFix p m c cc nL s args GW own) (hK : va_K D vwCl (tysM w) s) {v : Nat} {i : Int32} {k : Int32 → PM ρ} (hE : (bnd (mvL 1 0 0 22 v i) k).1 S = some E0) (hW : 14 ≤ nW ∧ nW ≤ 16) (hZ : ZZ D nW (adrM w) (celM w) A S0 H0 S H locs cells slots) (hdg : decode cc pc = .ok (.caload, 1)) (kk : ∀ v : Int32, (k v).1 S = some E0 → W p l e R s m args below meth c H locs cells slots Q (F0 m (pc + 1) ls (.int v :: rest))) : W p l e R s m args below meth c H locs cells slots Q (F0 m pc ls (.int i :: .ref v :: rest)) := by
  obtain ⟨r, S1, h1, h2⟩ := bnd_inv hE
  obtain ⟨a, S2, h3, h1⟩ := bnd_inv h1
  cases h3
  obtain ⟨n, S2, h3, h1⟩ := bnd_inv h1
  cases h3
  obtain ⟨⟨ha, hi⟩, h1⟩ := if_ok h1
  cases h1
  exact row_cald K0 hK hZ (q0 := 12) (t0 := 1) (n := gN S 0 0) (f := fun j => gI S 22 0 j) (by omega) ha rfl rfl hi hdg (kk _ h2)
theorem ms_TS (K0 : CallFix p m c cc nL s args GW own) (hK : va_K D vwCl (tysM w) s) {v : Nat} {i u : Int32} {k : Unit → PM ρ} (hE : (bnd (mvS 1 0 0 22 v i ((u.toUInt32 % 65536).toInt32)) k).1 S = some E0) (hW : 14 ≤ nW ∧ nW ≤ 16) (hZ : ZZ D nW (adrM w) (celM w) A S0 H0 S H locs cells slots) (hdg : decode cc pc = .ok (.castore, 1)) (kk : ∀ (S1 : St) (H : Heap) (locs : List Loc), (k ()).1 S1 = some E0 → ZZ D nW (adrM w) (celM w) A S0 H0 S1 H locs cells slots → W p l e R s m args below meth c H locs cells slots Q (F0 m (pc + 1) ls rest)) : W p l e R s m args below meth c H locs cells slots Q (F0 m pc ls (.int u :: .int i :: .ref v :: rest)) := by
  obtain ⟨r, S1, h1, h2⟩ := bnd_inv hE
  obtain ⟨a, S2, h3, h1⟩ := bnd_inv h1
  cases h3
  obtain ⟨n, S2, h3, h1⟩ := bnd_inv h1
  cases h3
  obtain ⟨⟨ha, hi⟩, h1⟩ := if_ok h1
  cases h1
  refine row_cast K0 hK hZ (q0 := 12) (t0 := 1) (n := gN S 0 0) (f := fun j => gI S 22 0 j) (by omega) ha rfl rfl hi (S' := pI S 22 0 i.toNatClampNeg ((u.toUInt32 % 65536).toInt32)) ?_ (fun j _ => rfl) (fun j hj => fm_22 w S _ _ j) (fun _ _ => rfl) hdg (fun H locs hZ => kk _ H locs h2 hZ)
  show Sum.inl (w.2.1, gN S 0 0, Sum.inl (fun j => gI (pI S 22 0 i.toNatClampNeg ((u.toUInt32 % 65536).toInt32)) 22 0 j)) = _
  rw [vp_nar_char]
  simp only [gI_pI]
  congr 4
  funext j
  simp [upd]
theorem mn_TC (K0 : CallFix p m c cc nL s args GW own) (hK : va_K D vwCl (tysM w) s) {v : Nat} {k : Int32 → PM ρ} (hE : (bnd (mvN 1 0 1 v) k).1 S = some E0) (hW : 14 ≤ nW ∧ nW ≤ 16) (hZ : ZZ D nW (adrM w) (celM w) A S0 H0 S H locs cells slots) (hdg : decode cc pc = .ok (.arraylength, 1)) (kk : ∀ v : Int32, (k v).1 S = some E0 → W p l e R s m args below meth c H locs cells slots Q (F0 m (pc + 1) ls (.int v :: rest))) : W p l e R s m args below meth c H locs cells slots Q (F0 m pc ls (.ref v :: rest)) := by
  obtain ⟨r, S1, h1, h2⟩ := bnd_inv hE
  obtain ⟨a, S2, h3, h1⟩ := bnd_inv h1
  cases h3
  obtain ⟨n, S2, h3, h1⟩ := bnd_inv h1
  cases h3
  obtain ⟨ha, h1⟩ := if_ok h1
  cases h1
  exact row_alen K0 hK hZ (q0 := 13) (t0 := 0) (by omega) ha (x := (gN S 0 1, .inl (fun j => gI S 23 0 j))) rfl rfl rfl hdg (kk _ h2)
theorem ma_TC (K0 : CallFix p m c cc nL s args GW own) (hK : va_K D vwCl (tysM w) s) {v : Nat} {i : Int32} {k : Int32 → PM ρ} (hE : (bnd (mvL 1 0 1 23 v i) k).1 S = some E0) (hW : 14 ≤ nW ∧ nW ≤ 16) (hZ : ZZ D nW (adrM w) (celM w) A S0 H0 S H locs cells slots) (hdg : decode cc pc = .ok (.iaload, 1)) (kk : ∀ v : Int32, (k v).1 S = some E0 → W p l e R s m args below meth c H locs cells slots Q (F0 m (pc + 1) ls (.int v :: rest))) : W p l e R s m args below meth c H locs cells slots Q (F0 m pc ls (.int i :: .ref v :: rest)) := by
  obtain ⟨r, S1, h1, h2⟩ := bnd_inv hE
  obtain ⟨a, S2, h3, h1⟩ := bnd_inv h1
  cases h3
  obtain ⟨n, S2, h3, h1⟩ := bnd_inv h1
  cases h3
  obtain ⟨⟨ha, hi⟩, h1⟩ := if_ok h1
  cases h1
  exact row_iald K0 hK hZ (q0 := 13) (t0 := 0) (n := gN S 0 1) (f := fun j => gI S 23 0 j) (by omega) ha rfl rfl hi hdg (kk _ h2)
theorem ms_TC (K0 : CallFix p m c cc nL s args GW own) (hK : va_K D vwCl (tysM w) s) {v : Nat} {i u : Int32} {k : Unit → PM ρ} (hE : (bnd (mvS 1 0 1 23 v i (u)) k).1 S = some E0) (hW : 14 ≤ nW ∧ nW ≤ 16) (hZ : ZZ D nW (adrM w) (celM w) A S0 H0 S H locs cells slots) (hdg : decode cc pc = .ok (.iastore, 1)) (kk : ∀ (S1 : St) (H : Heap) (locs : List Loc), (k ()).1 S1 = some E0 → ZZ D nW (adrM w) (celM w) A S0 H0 S1 H locs cells slots → W p l e R s m args below meth c H locs cells slots Q (F0 m (pc + 1) ls rest)) : W p l e R s m args below meth c H locs cells slots Q (F0 m pc ls (.int u :: .int i :: .ref v :: rest)) := by
  obtain ⟨r, S1, h1, h2⟩ := bnd_inv hE
  obtain ⟨a, S2, h3, h1⟩ := bnd_inv h1
  cases h3
  obtain ⟨n, S2, h3, h1⟩ := bnd_inv h1
  cases h3
  obtain ⟨⟨ha, hi⟩, h1⟩ := if_ok h1
  cases h1
  refine row_iast K0 hK hZ (q0 := 13) (t0 := 0) (n := gN S 0 1) (f := fun j => gI S 23 0 j) (by omega) ha rfl rfl hi (S' := pI S 23 0 i.toNatClampNeg (u)) ?_ (fun j _ => rfl) (fun j hj => fm_23 w S _ _ j) (fun _ _ => rfl) hdg (fun H locs hZ => kk _ H locs h2 hZ)
  show Sum.inl (w.1, gN S 0 1, Sum.inl (fun j => gI (pI S 23 0 i.toNatClampNeg (u)) 23 0 j)) = _
  simp only [gI_pI]
  congr 4
  funext j
  simp [upd]
theorem mn_S0 (K0 : CallFix p m c cc nL s args GW own) (hK : va_K D vwCl (tysM w) s) {v : Nat} {k : Int32 → PM ρ} (hE : (bnd (mvN 5 6 0 v) k).1 S = some E0) (hW2 : 14 < nW) (hW : 14 ≤ nW ∧ nW ≤ 16) (hZ : ZZ D nW (adrM w) (celM w) A S0 H0 S H locs cells slots) (hdg : decode cc pc = .ok (.arraylength, 1)) (kk : ∀ v : Int32, (k v).1 S = some E0 → W p l e R s m args below meth c H locs cells slots Q (F0 m (pc + 1) ls (.int v :: rest))) : W p l e R s m args below meth c H locs cells slots Q (F0 m pc ls (.ref v :: rest)) := by
  obtain ⟨r, S1, h1, h2⟩ := bnd_inv hE
  obtain ⟨a, S2, h3, h1⟩ := bnd_inv h1
  cases h3
  obtain ⟨n, S2, h3, h1⟩ := bnd_inv h1
  cases h3
  obtain ⟨ha, h1⟩ := if_ok h1
  cases h1
  exact row_alen K0 hK hZ (q0 := 14) (t0 := 1) hW2 ha (x := (gN S 6 0, .inl (fun j => gI S 30 0 j))) rfl rfl rfl hdg (kk _ h2)
theorem ma_S0 (K0 : CallFix p m c cc nL s args GW own) (hK : va_K D vwCl (tysM w) s) {v : Nat} {i : Int32} {k : Int32 → PM ρ} (hE : (bnd (mvL 5 6 0 30 v i) k).1 S = some E0) (hW2 : 14 < nW) (hW : 14 ≤ nW ∧ nW ≤ 16) (hZ : ZZ D nW (adrM w) (celM w) A S0 H0 S H locs cells slots) (hdg : decode cc pc = .ok (.caload, 1)) (kk : ∀ v : Int32, (k v).1 S = some E0 → W p l e R s m args below meth c H locs cells slots Q (F0 m (pc + 1) ls (.int v :: rest))) : W p l e R s m args below meth c H locs cells slots Q (F0 m pc ls (.int i :: .ref v :: rest)) := by
  obtain ⟨r, S1, h1, h2⟩ := bnd_inv hE
  obtain ⟨a, S2, h3, h1⟩ := bnd_inv h1
  cases h3
  obtain ⟨n, S2, h3, h1⟩ := bnd_inv h1
  cases h3
  obtain ⟨⟨ha, hi⟩, h1⟩ := if_ok h1
  cases h1
  exact row_cald K0 hK hZ (q0 := 14) (t0 := 1) (n := gN S 6 0) (f := fun j => gI S 30 0 j) hW2 ha rfl rfl hi hdg (kk _ h2)
theorem ms_S0 (K0 : CallFix p m c cc nL s args GW own) (hK : va_K D vwCl (tysM w) s) {v : Nat} {i u : Int32} {k : Unit → PM ρ} (hE : (bnd (mvS 5 6 0 30 v i ((u.toUInt32 % 65536).toInt32)) k).1 S = some E0) (hW2 : 14 < nW) (hW : 14 ≤ nW ∧ nW ≤ 16) (hZ : ZZ D nW (adrM w) (celM w) A S0 H0 S H locs cells slots) (hdg : decode cc pc = .ok (.castore, 1)) (kk : ∀ (S1 : St) (H : Heap) (locs : List Loc), (k ()).1 S1 = some E0 → ZZ D nW (adrM w) (celM w) A S0 H0 S1 H locs cells slots → W p l e R s m args below meth c H locs cells slots Q (F0 m (pc + 1) ls rest)) : W p l e R s m args below meth c H locs cells slots Q (F0 m pc ls (.int u :: .int i :: .ref v :: rest)) := by
  obtain ⟨r, S1, h1, h2⟩ := bnd_inv hE
  obtain ⟨a, S2, h3, h1⟩ := bnd_inv h1
  cases h3
  obtain ⟨n, S2, h3, h1⟩ := bnd_inv h1
  cases h3
  obtain ⟨⟨ha, hi⟩, h1⟩ := if_ok h1
  cases h1
  refine row_cast K0 hK hZ (q0 := 14) (t0 := 1) (n := gN S 6 0) (f := fun j => gI S 30 0 j) hW2 ha rfl rfl hi (S' := pI S 30 0 i.toNatClampNeg ((u.toUInt32 % 65536).toInt32)) ?_ (fun j _ => rfl) (fun j hj => fm_30 w S _ _ j) (fun _ _ => rfl) hdg (fun H locs hZ => kk _ H locs h2 hZ)
  show Sum.inl (w.2.1, gN S 6 0, Sum.inl (fun j => gI (pI S 30 0 i.toNatClampNeg ((u.toUInt32 % 65536).toInt32)) 30 0 j)) = _
  rw [vp_nar_char]
  simp only [gI_pI]
  congr 4
  funext j
  simp [upd]
theorem mn_S1 (K0 : CallFix p m c cc nL s args GW own) (hK : va_K D vwCl (tysM w) s) {v : Nat} {k : Int32 → PM ρ} (hE : (bnd (mvN 5 6 1 v) k).1 S = some E0) (hW2 : 15 < nW) (hW : 14 ≤ nW ∧ nW ≤ 16) (hZ : ZZ D nW (adrM w) (celM w) A S0 H0 S H locs cells slots) (hdg : decode cc pc = .ok (.arraylength, 1)) (kk : ∀ v : Int32, (k v).1 S = some E0 → W p l e R s m args below meth c H locs cells slots Q (F0 m (pc + 1) ls (.int v :: rest))) : W p l e R s m args below meth c H locs cells slots Q (F0 m pc ls (.ref v :: rest)) := by
  obtain ⟨r, S1, h1, h2⟩ := bnd_inv hE
  obtain ⟨a, S2, h3, h1⟩ := bnd_inv h1
  cases h3
  obtain ⟨n, S2, h3, h1⟩ := bnd_inv h1
  cases h3
  obtain ⟨ha, h1⟩ := if_ok h1
  cases h1
  exact row_alen K0 hK hZ (q0 := 15) (t0 := 0) hW2 ha (x := (gN S 6 1, .inl (fun j => gI S 31 0 j))) rfl rfl rfl hdg (kk _ h2)
theorem ma_S1 (K0 : CallFix p m c cc nL s args GW own) (hK : va_K D vwCl (tysM w) s) {v : Nat} {i : Int32} {k : Int32 → PM ρ} (hE : (bnd (mvL 5 6 1 31 v i) k).1 S = some E0) (hW2 : 15 < nW) (hW : 14 ≤ nW ∧ nW ≤ 16) (hZ : ZZ D nW (adrM w) (celM w) A S0 H0 S H locs cells slots) (hdg : decode cc pc = .ok (.iaload, 1)) (kk : ∀ v : Int32, (k v).1 S = some E0 → W p l e R s m args below meth c H locs cells slots Q (F0 m (pc + 1) ls (.int v :: rest))) : W p l e R s m args below meth c H locs cells slots Q (F0 m pc ls (.int i :: .ref v :: rest)) := by
  obtain ⟨r, S1, h1, h2⟩ := bnd_inv hE
  obtain ⟨a, S2, h3, h1⟩ := bnd_inv h1
  cases h3
  obtain ⟨n, S2, h3, h1⟩ := bnd_inv h1
  cases h3
  obtain ⟨⟨ha, hi⟩, h1⟩ := if_ok h1
  cases h1
  exact row_iald K0 hK hZ (q0 := 15) (t0 := 0) (n := gN S 6 1) (f := fun j => gI S 31 0 j) hW2 ha rfl rfl hi hdg (kk _ h2)
theorem ms_S1 (K0 : CallFix p m c cc nL s args GW own) (hK : va_K D vwCl (tysM w) s) {v : Nat} {i u : Int32} {k : Unit → PM ρ} (hE : (bnd (mvS 5 6 1 31 v i (u)) k).1 S = some E0) (hW2 : 15 < nW) (hW : 14 ≤ nW ∧ nW ≤ 16) (hZ : ZZ D nW (adrM w) (celM w) A S0 H0 S H locs cells slots) (hdg : decode cc pc = .ok (.iastore, 1)) (kk : ∀ (S1 : St) (H : Heap) (locs : List Loc), (k ()).1 S1 = some E0 → ZZ D nW (adrM w) (celM w) A S0 H0 S1 H locs cells slots → W p l e R s m args below meth c H locs cells slots Q (F0 m (pc + 1) ls rest)) : W p l e R s m args below meth c H locs cells slots Q (F0 m pc ls (.int u :: .int i :: .ref v :: rest)) := by
  obtain ⟨r, S1, h1, h2⟩ := bnd_inv hE
  obtain ⟨a, S2, h3, h1⟩ := bnd_inv h1
  cases h3
  obtain ⟨n, S2, h3, h1⟩ := bnd_inv h1
  cases h3
  obtain ⟨⟨ha, hi⟩, h1⟩ := if_ok h1
  cases h1
  refine row_iast K0 hK hZ (q0 := 15) (t0 := 0) (n := gN S 6 1) (f := fun j => gI S 31 0 j) hW2 ha rfl rfl hi (S' := pI S 31 0 i.toNatClampNeg (u)) ?_ (fun j _ => rfl) (fun j hj => fm_31 w S _ _ j (by omega)) (fun _ _ => rfl) hdg (fun H locs hZ => kk _ H locs h2 hZ)
  show Sum.inl (w.1, gN S 6 1, Sum.inl (fun j => gI (pI S 31 0 i.toNatClampNeg (u)) 31 0 j)) = _
  simp only [gI_pI]
  congr 4
  funext j
  simp [upd]
end MROWS
