/-! part 23: a class that has just been made, in the order of part 07's world -/
def bbC (t : Nat) : Nat := if t = 0 then 2 else 140
def pmC (k : Nat) : Nat :=
  if k < 1 then 0 else if k < 2 then 1 else if k < 3 then 139
  else if k < 5 then bbC (k - 3) else if k < 7 then bbC (k - 5) + 1 else if k < 9 then bbC (k - 7) + 2
  else if k < 15 then bbC ((k - 9) / 3) + 3 + 2 * ((k - 9) % 3) else if k < 21 then bbC ((k - 15) / 3) + 4 + 2 * ((k - 15) % 3)
  else if k < 37 then bbC ((k - 21) / 8) + 9 + (k - 21) % 8
  else if k < 67 then 19 + 4 * (k - 37) else if k < 97 then 157 + (k - 67)
  else if k < 127 then 20 + 4 * (k - 97) else if k < 157 then 22 + 4 * (k - 127) else 21 + 4 * (k - 157)
def wMade (w : Wc) (base : Nat) : Wc := (w.1, w.2.1, w.2.2.1, w.2.2.2.1, fun q => base + pmC q)
def sMade (base h k n : Nat) : St := (fun a _ _ => if a = 3 then 10 else if a = 8 then -1 else if a = 12 then -1 else if a = 15 then 119 else if a = 16 then -1 else 0, fun _ => 0,
  fun a b => if a = 0 then 32 else if a = 1 then base + pmC (157 + b) else if a = 2 then h else if a = 7 then k else if a = 3 then n else 0)
theorem pmC_lt : ∀ k, k < 187 → pmC k < 187 := by decide +kernel
theorem pmC_in : ∀ i, i < 187 → ∀ j, j < 187 → pmC i = pmC j → i = j := by decide +kernel
theorem adr_made (w : Wc) (base h z n : Nat) {k : Nat} (hk : k < 187) : adrC (wMade w base) (sMade base h z n) k = base + pmC k := by
  unfold adrC
  by_cases h1 : k < 157
  · rw [if_pos h1]; rfl
  · rw [if_neg h1]
    show base + pmC (157 + (k - 157)) = _
    rw [show 157 + (k - 157) = k by omega]
set_option maxHeartbeats 4000000 in
set_option maxRecDepth 100000 in
theorem made_a (w : Wc) (base h z n : Nat) (f : Nat → va_E) : (List.range 3).map (fun x => lcF w base 1 0 f (pmC x)) = (List.range 3).map (fun x => celC (wMade w base) (sMade base h z n) x) := rfl
set_option maxHeartbeats 4000000 in
set_option maxRecDepth 100000 in
theorem made_b (w : Wc) (base h z n : Nat) (f : Nat → va_E) : (List.range 30).map (fun x => lcF w base 1 0 f (pmC (7 + x))) = (List.range 30).map (fun x => celC (wMade w base) (sMade base h z n) (7 + x)) := rfl
set_option maxHeartbeats 4000000 in
set_option maxRecDepth 100000 in
theorem made_c (w : Wc) (base h z n : Nat) (f : Nat → va_E) : (List.range 30).map (fun x => lcF w base 1 0 f (pmC (37 + x))) = (List.range 30).map (fun x => celC (wMade w base) (sMade base h z n) (37 + x)) := rfl
set_option maxHeartbeats 4000000 in
set_option maxRecDepth 100000 in
theorem made_d (w : Wc) (base h z n : Nat) (f : Nat → va_E) : (List.range 30).map (fun x => lcF w base 1 0 f (pmC (67 + x))) = (List.range 30).map (fun x => celC (wMade w base) (sMade base h z n) (67 + x)) := rfl
set_option maxHeartbeats 4000000 in
set_option maxRecDepth 100000 in
theorem made_e (w : Wc) (base h z n : Nat) (f : Nat → va_E) : (List.range 30).map (fun x => lcF w base 1 0 f (pmC (97 + x))) = (List.range 30).map (fun x => celC (wMade w base) (sMade base h z n) (97 + x)) := rfl
set_option maxHeartbeats 4000000 in
set_option maxRecDepth 100000 in
theorem made_f (w : Wc) (base h z n : Nat) (f : Nat → va_E) : (List.range 30).map (fun x => lcF w base 1 0 f (pmC (127 + x))) = (List.range 30).map (fun x => celC (wMade w base) (sMade base h z n) (127 + x)) := rfl
set_option maxHeartbeats 4000000 in
set_option maxRecDepth 100000 in
theorem made_g (w : Wc) (base h z n : Nat) (f : Nat → va_E) : (List.range 30).map (fun x => lcF w base 1 0 f (pmC (157 + x))) = (List.range 30).map (fun x => celC (wMade w base) (sMade base h z n) (157 + x)) := rfl
theorem map_at {F G : Nat → va_E} {N x : Nat} (h : (List.range N).map F = (List.range N).map G) (hx : x < N) : F x = G x := by
  have h1 := congrArg (fun z => z[x]?) h
  simpa [List.getElem?_map, List.getElem?_range hx] using h1
theorem made_eq (w : Wc) (base h z n : Nat) (f : Nat → va_E) {k : Nat} (hk : k < 187) (h3 : k < 3 ∨ 7 ≤ k) : lcF w base 1 0 f (pmC k) = celC (wMade w base) (sMade base h z n) k := by
  by_cases h1 : k < 3
  · exact map_at (made_a w base h z n f) h1
  have h7 : 7 ≤ k := h3.resolve_left h1
  by_cases h37 : k < 37
  · obtain ⟨x, rfl⟩ := Nat.exists_eq_add_of_le h7
    exact map_at (made_b w base h z n f) (by omega)
  by_cases h67 : k < 67
  · obtain ⟨x, rfl⟩ := Nat.exists_eq_add_of_le (Nat.not_lt.mp h37)
    exact map_at (made_c w base h z n f) (by omega)
  by_cases h97 : k < 97
  · obtain ⟨x, rfl⟩ := Nat.exists_eq_add_of_le (Nat.not_lt.mp h67)
    exact map_at (made_d w base h z n f) (by omega)
  by_cases h127 : k < 127
  · obtain ⟨x, rfl⟩ := Nat.exists_eq_add_of_le (Nat.not_lt.mp h97)
    exact map_at (made_e w base h z n f) (by omega)
  by_cases h157 : k < 157
  · obtain ⟨x, rfl⟩ := Nat.exists_eq_add_of_le (Nat.not_lt.mp h127)
    exact map_at (made_f w base h z n f) (by omega)
  obtain ⟨x, rfl⟩ := Nat.exists_eq_add_of_le (Nat.not_lt.mp h157)
  exact map_at (made_g w base h z n f) (by omega)
theorem arrV_cg {c : ClassId} {N : Nat} {f g : Nat → Value} (h : ∀ j, j < N → f j = g j) : arrV c N f = arrV c N g := by
  unfold arrV
  rw [show (fun j : Fin N => f j.val) = fun j => g j.val from funext fun j => h j.val j.isLt]
theorem pm_PL0 : ∀ j, j < 8 → pmC (21 + (8 * 0 + j)) = 2 + 9 + j := by decide +kernel
theorem pm_PL1 : ∀ j, j < 8 → pmC (21 + (8 * 1 + j)) = 140 + 9 + j := by decide +kernel
theorem pm_KN0 : ∀ j, j < 30 → pmC (37 + (30 * 0 + j)) = 2 + 17 + 4 * j := by decide +kernel
theorem pm_KN1 : ∀ j, j < 30 → pmC (37 + (30 * 1 + j)) = 140 + 17 + 1 * j := by decide +kernel
set_option maxHeartbeats 4000000 in
set_option maxRecDepth 100000 in
theorem made_PC {D : va_G} {w : Wc} {base z n : Nat} {f : Nat → va_E} {A : Nat → Prop} {H : Heap} (hW : LW D base 187 (lcF w base 1 0 f) A H) : PC D (wMade w base) A (sMade base (base + 187) z n) H := by
  obtain ⟨hsz, hP, hD⟩ := hW
  have ent : ∀ q, q < 187 → (iw 187 (adrL base) (celL (lcF w base 1 0 f)) (nS 0 0 0))[q]? = some (base + q, lcF w base 1 0 f q) := fun q hq => iw_get hq
  have lt : ∀ (k : Nat) (q : Nat × va_E), (iw 187 (adrC (wMade w base)) (celC (wMade w base)) (sMade base (base + 187) z n))[k]? = some q → k < 187 ∧ q = (base + pmC k, celC (wMade w base) (sMade base (base + 187) z n) k) := fun k q hq => by
    have hk : k < 187 := Nat.lt_of_not_le fun hge => by
      rw [List.getElem?_eq_none (by unfold iw; rw [List.length_map, List.length_range]; exact hge)] at hq
      cases hq
    rw [iw_get hk, adr_made w base (base + 187) z n hk] at hq
    exact ⟨hk, (Option.some.inj hq).symm⟩
  refine ⟨hsz, ?_, ?_, ?_⟩
  · intro k q hq
    obtain ⟨hk, rfl⟩ := lt k q hq
    have h0 := hP (pmC k) _ (ent (pmC k) (pmC_lt k hk))
    by_cases h3 : k < 3 ∨ 7 ≤ k
    · rw [← made_eq w base (base + 187) z n f hk h3]; exact h0
    · have h4 : k = 3 ∨ k = 4 ∨ k = 5 ∨ k = 6 := by omega
      rcases h4 with rfl | rfl | rfl | rfl
      · have h1 : H[base + pmC 3]? = some (arrV w.2.2.1 8 (fun j => va_rf (if j < 8 then some (base + (2 + 9 + j)) else none))) := h0
        show H[base + pmC 3]? = some (arrV w.2.2.1 8 (fun j => va_rf (some (base + pmC (21 + (8 * 0 + j))))))
        rw [h1]
        exact congrArg some (arrV_cg fun j hj => by rw [if_pos hj, pm_PL0 j hj])
      · have h1 : H[base + pmC 4]? = some (arrV w.2.2.1 8 (fun j => va_rf (if j < 8 then some (base + (140 + 9 + j)) else none))) := h0
        show H[base + pmC 4]? = some (arrV w.2.2.1 8 (fun j => va_rf (some (base + pmC (21 + (8 * 1 + j))))))
        rw [h1]
        exact congrArg some (arrV_cg fun j hj => by rw [if_pos hj, pm_PL1 j hj])
      · have h1 : H[base + pmC 5]? = some (arrV w.2.2.2.1 30 (fun j => va_rf (if j < 30 then some (base + (2 + 17 + 4 * j)) else none))) := h0
        show H[base + pmC 5]? = some (arrV w.2.2.2.1 30 (fun j => va_rf (some (base + pmC (37 + (30 * 0 + j))))))
        rw [h1]
        exact congrArg some (arrV_cg fun j hj => by rw [if_pos hj, pm_KN0 j hj])
      · have h1 : H[base + pmC 6]? = some (arrV w.2.2.2.1 30 (fun j => va_rf (if j < 30 then some (base + (140 + 17 + 1 * j)) else none))) := h0
        show H[base + pmC 6]? = some (arrV w.2.2.2.1 30 (fun j => va_rf (some (base + pmC (37 + (30 * 1 + j))))))
        rw [h1]
        exact congrArg some (arrV_cg fun j hj => by rw [if_pos hj, pm_KN1 j hj])
  · intro i j p q hi hj hpq
    obtain ⟨hi1, rfl⟩ := lt i p hi
    obtain ⟨hj1, rfl⟩ := lt j q hj
    exact pmC_in i hi1 j hj1 (Nat.add_left_cancel hpq)
  · intro k q hq
    obtain ⟨hk, rfl⟩ := lt k q hq
    have h5 := hD.2 (pmC k) _ (ent (pmC k) (pmC_lt k hk))
    exact h5
