/-! part 28f: the whole of the law, but for what the two sides owe each other -/
/-- what is owed: an invariant of the two sides, kept call by call, that holds at the start and keeps the room -/
def OWED (INV : Nat → St → St → Prop) : Prop :=
  INVz INV ∧ (∀ i, i + 5 ≤ 2560 → AGall INV i) ∧ (∀ z : Nat, INV 0 (sMade z (z + 187) 0 0) (sMadeM (z + 187) (z + 201) 0 0)) ∧ ∀ i S Sm, INV i S Sm → 203 + (gN S 7 0 + gN Sm 7 0) ≤ 603072 ∧ 3074 + (gN S 3 0 + gN Sm 3 0) ≤ 7219306
theorem law_all {p : Program} {l : Launch} {e : Env} {s : State} {m : MethodId} {args : Array Value} {below : List Frame} {meth : Method} {c : Code} {Q : State → Prop} {ls : Array Slot} {b L : Nat} {xs : Nat → Int32} {INV : Nat → St → St → Prop} (hO : OWED INV) (hfl : l.stackTraces = false)
    (K0 : CallFix p m c cL_law 9 s args GW RL) (hts : ∀ w ∈ lw_tbl, w.before args s = true) (hgv : (Jvm.Cond.and given_1 narrow_1).before args s = true) (hX : va_X b L xs s s.heap) (hbl : b < s.heap.size) (hL : L ≤ 2560) (hl : lv_has ls 9 [(0, .ref b)])
    (hret : ∀ (H : Heap) (ls : Array Slot), W p l e room_1 s m args below meth c H [] 603072 7219306 Q (F0 m 2123 ls [.int 1])) :
    W p l e room_1 s m args below meth c s.heap [] 0 0 Q (F0 m 0 ls []) := by
  obtain ⟨hz, hag, h0, hroom⟩ := hO
  obtain ⟨D, w, wm, aS, sk, sv, hEV, hEVM, hex⟩ := env_of hts hgv
  refine law_start K0 hEV hEVM hl (fun c1 c2 H ls a1 a2 hZ hl => ?_)
  have hC : LC p s m args c b L xs D (wMade w s.heap.size) (wMadeM wm (s.heap.size + 187)) aS sk sv c1 c2 := ⟨K0, ⟨hEV.1, hex, a1⟩, ⟨hEV.1, hex, a2⟩, hEVM, hX, hbl, hL⟩
  refine law_loop hfl hC hz hag (fun i S Sm v1 v2 H locs cells slots ls hI hZ => ?_) 513 0 (by omega) _ _ _ _ _ _ _ _ _ (by omega) (h0 _) hZ hl
  have hr := hroom _ _ _ hI
  refine lv_iconst (v := 1) K0.1 K0.2.1 dL_law_2122 (by decide) ?_
  refine va_forget (fun q hq => hZ.2.2.2.2.1.2.2 q hq) ?_
  refine W.widen (k := 603072) (n := 7219306) (by have := hZ.2.2.2.2.2.1; omega) (by have := hZ.2.2.2.2.2.2; omega) ?_
  exact hret _ _
