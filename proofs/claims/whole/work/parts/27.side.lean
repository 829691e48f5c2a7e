/-! part 27: two worlds side by side: what one side's call leaves of the other's -/
theorem ENVC.narrow {D : va_G} {w : Wc} {aS : Nat → Nat} {sk sv : Nat} {A B : Nat → Prop} {U : State} (h : ENVC D w aS sk sv A U) (hAB : ∀ q, B q → A q) : ENVC D w aS sk sv B U := by
  obtain ⟨h1, h2, h3, h4, h5, h6, h7, h8, h9⟩ := h
  exact ⟨h1, h2, h3.narrow hAB, h4.narrow hAB, h5, h6, h7, h8.narrow hAB, h9.narrow hAB⟩
theorem ENVK.narrow {D : va_G} {w : Wc} {aS : Nat → Nat} {sk sv : Nat} {A B : Nat → Prop} {U : State} (h : ENVK D w aS sk sv A U) (hAB : ∀ q, B q → A q) : ENVK D w aS sk sv B U := ⟨h.1.narrow hAB, h.2⟩
theorem ENVO.narrow {D : va_G} {w : Wc} {aS : Nat → Nat} {sk sv : Nat} {A B : Nat → Prop} {cJ : ClassId} {ty : FieldType} {U : State} (h : ENVO D w aS sk sv A cJ ty U) (hAB : ∀ q, B q → A q) : ENVO D w aS sk sv B cJ ty U := ⟨h.1.narrow hAB, h.2⟩
theorem iwC_sz (w : Wc) (S : St) (h : Nat) : iw 187 (adrC w) (celC w) (pN S 2 0 h) = iw 187 (adrC w) (celC w) S := by
  unfold iw
  apply List.map_congr_left
  intro k _
  rw [celC_congr w (S := S) (S1 := pN S 2 0 h) (fun f hf i j => rfl) (fun i => rfl) (fun i => by simp [gN_pN]) (fun i => by simp [gN_pN]), adrC_congr w (S := S) (S1 := pN S 2 0 h) (fun i => by simp [gN_pN])]
/-- the class's own cells -/
def ownC (w : Wc) (S : St) (q : Nat) : Prop := ∃ k, k < 187 ∧ q = adrC w S k
/-- the class's world, whatever the heap's size: what stays while the other side works -/
def PQ (D : va_G) (w : Wc) (S : St) (H : Heap) : Prop := va_P D vwCl (iw 187 (adrC w) (celC w) S) H ∧ va_D (ownC w S) (iw 187 (adrC w) (celC w) S)
theorem iw_lt {n : Nat} {adr : St → Nat → Nat} {cel : St → Nat → va_E} {S : St} {k : Nat} {q : Nat × va_E} (h : (iw n adr cel S)[k]? = some q) : k < n ∧ q = (adr S k, cel S k) := by
  have hk : k < n := Nat.lt_of_not_le fun hge => by
    rw [List.getElem?_eq_none (by unfold iw; rw [List.length_map, List.length_range]; exact hge)] at h
    cases h
  rw [iw_get hk] at h
  exact ⟨hk, (Option.some.inj h).symm⟩
theorem PQ.of {D : va_G} {w : Wc} {A : Nat → Prop} {S : St} {H : Heap} (h : PC D w A S H) : PQ D w S H := ⟨h.2.1, h.2.2.1, fun k q hq => by
  obtain ⟨hk, rfl⟩ := iw_lt hq
  exact ⟨k, hk, rfl⟩⟩
theorem PQ.ofx {D : va_G} {w : Wc} {A : Nat → Prop} {S : St} {H : Heap} (h : PCx D w A S H) : PQ D w S H := by
  obtain ⟨z, h⟩ := h
  have h := PQ.of h
  refine ⟨by rw [← iwC_sz w S z]; exact h.1, ?_⟩
  rw [← iwC_sz w S z]
  refine ⟨h.2.1, fun k q hq => ?_⟩
  obtain ⟨hk, rfl⟩ := iw_lt hq
  refine ⟨k, hk, ?_⟩
  rw [adrC_congr w (S := S) (S1 := pN S 2 0 z) (fun i => by simp [gN_pN])]
theorem PQ.lt {D : va_G} {w : Wc} {S : St} {H : Heap} (h : PQ D w S H) {q : Nat} (hq : ownC w S q) : q < H.size := by
  obtain ⟨k, hk, rfl⟩ := hq
  exact (h.1 k _ (iw_get hk)).lt
theorem PQ.kept {D : va_G} {w : Wc} {S : St} {H H1 : Heap} (h : PQ D w S H) (hq : ∀ q, ownC w S q → H1[q]? = H[q]?) : PQ D w S H1 := ⟨h.1.kept fun k q hk => hq q.1 (h.2.2 k q hk), h.2⟩
/-- as a contract asks for it: what may change is its own cells and every new one -/
def freeC (w : Wc) (S : St) (z : Nat) (q : Nat) : Prop := ownC w S q ∨ z ≤ q
theorem PQ.to {D : va_G} {w : Wc} {S : St} {H : Heap} (h : PQ D w S H) : PC D w (freeC w S H.size) (pN S 2 0 H.size) H := by
  refine ⟨by simp [gN_pN], ?_, ?_⟩
  · rw [iwC_sz]; exact h.1
  · rw [iwC_sz]; exact h.2.weaken fun k q _ hA => Or.inl hA
theorem freeC_new {w : Wc} {S : St} {z : Nat} : ∀ q, gN (pN S 2 0 z) 2 0 ≤ q → freeC w S z q := fun q hq => Or.inr (by simpa [gN_pN] using hq)
