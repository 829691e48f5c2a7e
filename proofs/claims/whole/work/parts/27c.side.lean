/-! part 27c: after a call the two worlds' cells are apart again -/
theorem ownC_in {D : va_G} {w : Wc} {A : Nat → Prop} {S : St} {H : Heap} (h : PC D w A S H) : ∀ q, ownC w S q → A q := fun q hq => by
  obtain ⟨k, hk, rfl⟩ := hq
  exact h.2.2.2 k _ (iw_get hk)
theorem ownC_sz {w : Wc} {S : St} {z q : Nat} : ownC w (pN S 2 0 z) q ↔ ownC w S q := by
  have e : ∀ k, adrC w (pN S 2 0 z) k = adrC w S k := fun k => adrC_congr w (S := S) (S1 := pN S 2 0 z) (fun i => by simp [gN_pN]) k
  exact ⟨fun ⟨k, hk, h⟩ => ⟨k, hk, by rw [← e k]; exact h⟩, fun ⟨k, hk, h⟩ => ⟨k, hk, by rw [e k]; exact h⟩⟩
theorem ownC_inx {D : va_G} {w : Wc} {A : Nat → Prop} {S : St} {H : Heap} (h : PCx D w A S H) : ∀ q, ownC w S q → A q := fun q hq => by
  obtain ⟨z, h⟩ := h
  exact ownC_in h q (ownC_sz.mpr hq)
theorem ownM_in {D : va_G} {w : Wm} {A : Nat → Prop} {S : St} {H : Heap} (h : PMo D w A S H) : ∀ q, ownM w S q → A q := fun q hq => by
  obtain ⟨k, hk, rfl⟩ := hq
  exact h.2.2.2 k _ (iw_get hk)
theorem apart_c {D : va_G} {w : Wc} {wm : Wm} {S S1 Sm : St} {H : Heap} (hm : PQm D wm Sm H) (hap : ∀ q, ownC w S q → ¬ ownM wm Sm q) (h1 : ∀ q, ownC w S1 q → freeC w S H.size q) : ∀ q, ownC w S1 q → ¬ ownM wm Sm q := fun q hq h9 =>
  (h1 q hq).elim (fun h => hap q h h9) (fun h => absurd (hm.lt h9) (Nat.not_lt.mpr h))
theorem apart_m {D : va_G} {w : Wc} {wm : Wm} {S Sm S1 : St} {H : Heap} (hc : PQ D w S H) (hap : ∀ q, ownC w S q → ¬ ownM wm Sm q) (h1 : ∀ q, ownM wm S1 q → freeM wm Sm H.size q) : ∀ q, ownC w S q → ¬ ownM wm S1 q := fun q hq h9 =>
  (h1 q h9).elim (fun h => hap q hq h) (fun h => absurd (hc.lt hq) (Nat.not_lt.mpr h))
/-- a cell that is neither side's (the law's rows of answers) stays neither side's -/
theorem other_c {w : Wc} {S S1 : St} {z o : Nat} (ho : ¬ ownC w S o) (hz : o < z) (h1 : ∀ q, ownC w S1 q → freeC w S z q) : ¬ ownC w S1 o := fun h => (h1 o h).elim ho (fun h9 => absurd hz (Nat.not_lt.mpr h9))
theorem other_m {w : Wm} {S S1 : St} {z o : Nat} (ho : ¬ ownM w S o) (hz : o < z) (h1 : ∀ q, ownM w S1 q → freeM w S z q) : ¬ ownM w S1 o := fun h => (h1 o h).elim ho (fun h9 => absurd hz (Nat.not_lt.mpr h9))
