/-! part 27b: the same for the reference's world -/
theorem iwM_sz (w : Wm) (S : St) (h : Nat) : iw 14 (adrM w) (celM w) (pN S 2 0 h) = iw 14 (adrM w) (celM w) S := by
  unfold iw
  apply List.map_congr_left
  intro k _
  rfl
/-- the reference's own cells -/
def ownM (w : Wm) (S : St) (q : Nat) : Prop := ∃ k, k < 14 ∧ q = adrM w S k
def PQm (D : va_G) (w : Wm) (S : St) (H : Heap) : Prop := va_P D vwCl (iw 14 (adrM w) (celM w) S) H ∧ va_D (ownM w S) (iw 14 (adrM w) (celM w) S)
theorem PQm.of {D : va_G} {w : Wm} {A : Nat → Prop} {S : St} {H : Heap} (h : PMo D w A S H) : PQm D w S H := ⟨h.2.1, h.2.2.1, fun k q hq => by
  obtain ⟨hk, rfl⟩ := iw_lt hq
  exact ⟨k, hk, rfl⟩⟩
theorem PQm.lt {D : va_G} {w : Wm} {S : St} {H : Heap} (h : PQm D w S H) {q : Nat} (hq : ownM w S q) : q < H.size := by
  obtain ⟨k, hk, rfl⟩ := hq
  exact (h.1 k _ (iw_get hk)).lt
theorem PQm.kept {D : va_G} {w : Wm} {S : St} {H H1 : Heap} (h : PQm D w S H) (hq : ∀ q, ownM w S q → H1[q]? = H[q]?) : PQm D w S H1 := ⟨h.1.kept fun k q hk => hq q.1 (h.2.2 k q hk), h.2⟩
def freeM (w : Wm) (S : St) (z : Nat) (q : Nat) : Prop := ownM w S q ∨ z ≤ q
theorem PQm.to {D : va_G} {w : Wm} {S : St} {H : Heap} (h : PQm D w S H) : PMo D w (freeM w S H.size) (pN S 2 0 H.size) H := by
  refine ⟨by simp [gN_pN], ?_, ?_⟩
  · rw [iwM_sz]; exact h.1
  · rw [iwM_sz]; exact h.2.weaken fun k q _ hA => Or.inl hA
theorem freeM_new {w : Wm} {S : St} {z : Nat} : ∀ q, gN (pN S 2 0 z) 2 0 ≤ q → freeM w S z q := fun q hq => Or.inr (by simpa [gN_pN] using hq)
/-- what the class's side may do leaves the reference's world, when their cells are apart -/
theorem PQm.past {D : va_G} {w : Wc} {wm : Wm} {S Sm : St} {H H1 : Heap} {o : Nat} (h : PQm D wm Sm H) (hap : ∀ q, ownM wm Sm q → ¬ ownC w S q) (ho : ¬ ownM wm Sm o) (hk : ∀ q, q < H.size → ¬ (freeC w S H.size q ∨ q = o) → H1[q]? = H[q]?) : PQm D wm Sm H1 :=
  h.kept fun q hq => hk q (h.lt hq) fun h9 => h9.elim (fun h8 => h8.elim (hap q hq) (fun h7 => absurd (h.lt hq) (Nat.not_lt.mpr h7))) (fun h8 => ho (h8 ▸ hq))
/-- and the other way round -/
theorem PQ.past {D : va_G} {w : Wc} {wm : Wm} {S Sm : St} {H H1 : Heap} (h : PQ D w S H) (hap : ∀ q, ownC w S q → ¬ ownM wm Sm q) (hk : ∀ q, q < H.size → ¬ freeM wm Sm H.size q → H1[q]? = H[q]?) : PQ D w S H1 :=
  h.kept fun q hq => hk q (h.lt hq) fun h9 => h9.elim (hap q hq) (fun h7 => absurd (h.lt hq) (Nat.not_lt.mpr h7))
