/-! part 23: a class that has just been made, in the order of part 07's world -/
def bbC (t : Nat) : Nat := if t = 0 then 2 else 140
def pmC (k : Nat) : Nat :=
  if k < 1 then 0 else if k < 2 then 1 else if k < 3 then 139
  else if k < 5 then bbC (k - 3) else if k < 7 then bbC (k - 5) + 1 else if k < 9 then bbC (k - 7) + 2
  else if k < 15 then bbC ((k - 9) / 3) + 3 + 2 * ((k - 9) % 3) else if k < 21 then bbC ((k - 15) / 3) + 4 + 2 * ((k - 15) % 3)
  else if k < 37 then bbC ((k - 21) / 8) + 9 + (k - 21) % 8
  else if k < 67 then 19 + 4 * (k - 37) else if k < 97 then 157 + (k - 67)
  else if k < 127 then 20 + 4 * (k - 97) else if k < 157 then 22 + 4 * (k - 127) else 21 + 4 * (k - 157)
def wMade (w : Wc) (base : Nat) : Wc := (w.1, w.2.1, w.2.2.1, w.2.2.2.1, fun q => base + pmC q)
def sMade (base h k n : Nat) : St := (fun a _ _ => if a = 3 then 10 else if a = 8 then -1 else if a = 12 then -1 else if a = 15 then 119 else if a = 16 then -1 else 0, fun _ => 0,
  fun a b => if a = 0 then 32 else if a = 1 then base + pmC (157 + b) else if a = 2 then h else if a = 7 then k else if a = 3 then n else 0)
theorem pmC_lt : ∀ k, k < 187 → pmC k < 187 := by decide +kernel
theorem pmC_in : ∀ i, i < 187 → ∀ j, j < 187 → pmC i = pmC j → i = j := by decide +kernel
theorem adr_made (w : Wc) (base h z n : Nat) {k : Nat} (hk : k < 187) : adrC (wMade w base) (sMade base h z n) k = base + pmC k := by
  unfold adrC
  by_cases h1 : k < 157
  · rw [if_pos h1]; rfl
  · rw [if_neg h1]
    show base + pmC (157 + (k - 157)) = _
    rw [show 157 + (k - 157) = k by omega]
set_option maxHeartbeats 4000000 in
set_option maxRecDepth 100000 in
theorem made_a (w : Wc) (base h z n : Nat) (f : Nat → va_E) : (List.range 3).map (fun x => lcF w base 1 0 f (pmC x)) = (List.range 3).map (fun x => celC (wMade w base) (sMade base h z n) x) := rfl
set_option maxHeartbeats 4000000 in
set_option maxRecDepth 100000 in
theorem made_b (w : Wc) (base h z n : Nat) (f : Nat → va_E) : (List.range 30).map (fun x => lcF w base 1 0 f (pmC (7 + x))) = (List.range 30).map (fun x => celC (wMade w base) (sMade base h z n) (7 + x)) := rfl
