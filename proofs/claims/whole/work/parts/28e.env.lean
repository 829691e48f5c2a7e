/-! part 28e: what stays all along, from the words of the start -/
theorem tw {args : Array Value} {s : State} (hts : ∀ w ∈ lw_tbl, w.before args s = true) {w : Cond} (i : Nat) (h : lw_tbl[i]? = some w) : w.before args s = true := hts w (List.mem_of_getElem? h)
theorem NWl_in : ∀ q ∈ NWl, q ∈ lw_tbl := by decide +kernel
theorem iJ0_t : ∀ w ∈ u_ws RJ0 TJ0 2, w ∈ lw_tbl := by decide +kernel
theorem iJx_t : ∀ w ∈ u_ws RJx00060 TJx00060 6, w ∈ lw_tbl := by decide +kernel
theorem gw_tbl : ∀ w ∈ GW, w ∈ lw_tbl := fun w h => (List.mem_filter.mp h).1
theorem arrT_of {args : Array Value} {s : State} {ty : FieldType} (hr : ∀ C, ty ≠ .object C) (h : (Cond.arrayClass ty).before args s = true) : ∃ cA, ArrOfT s cA ty ∧ va_RA s cA ty := by
  obtain ⟨cA, kA, comp, h1, h2, h3⟩ := Cond.arrayClass_spec h
  refine ⟨cA, fun n z => ⟨fun k h9 => (by cases h9), kA, h2, comp, h3⟩, ?_⟩
  unfold va_RA
  cases ty <;> first | exact h1 | exact absurd rfl (hr _)
theorem arrR_of {args : Array Value} {s : State} {C : String} (h : (Cond.arrayOver (.object C)).before args s = true) : ∃ cA, ArrOfT s cA (.object C) ∧ va_RA s cA (.object C) := by
  obtain ⟨comp, cA, kA, h1, h2, h3, h4, h5⟩ := Cond.arrayOver_spec h
  exact ⟨cA, fun n z => ⟨fun k h9 => (by cases h9), kA, h3, comp, h4⟩, kA, comp, h3, h4, h1, h5⟩
abbrev nrw : List Cond := flatC (Jvm.Cond.and given_1 narrow_1)
theorem SLl_in : ∀ q ∈ SLl, Cond.stringRef q.1 q.2.1 q.2.2 ∈ lw_tbl ∧ Cond.exactly (.string q.1 q.2.1) "java/lang/String" ∈ nrw := by decide +kernel
theorem ex_in : ∀ q ∈ exPairs, Cond.not (.castable q.1 q.2) ∈ nrw := by decide +kernel
set_option maxHeartbeats 8000000 in
set_option maxRecDepth 100000 in
theorem env_of {args : Array Value} {s : State} (hts : ∀ w ∈ lw_tbl, w.before args s = true) (hgv : (Jvm.Cond.and given_1 narrow_1).before args s = true) :
    ∃ (D : va_G) (w : Wc) (wm : Wm) (aS : Nat → Nat) (sk sv : Nat), ENVK D w aS sk sv (fun q => s.heap.size ≤ q) s ∧ ENVM D wm s ∧ ∀ q ∈ exPairs, va_Nc q.1 q.2 s := by
  have hs := flat_of_before _ hgv
  obtain ⟨d0, i0, k0⟩ := u_known (C := RJ0) (T := TJ0) (N := 2) (n := 4) hts iJ0_t (tw hts 816 (by decide +kernel))
  obtain ⟨d1, i1, k1⟩ := u_known (C := RJx00060) (T := TJx00060) (N := 6) (n := 6) hts iJx_t (tw hts 798 (by decide +kernel))
  obtain ⟨d2, i2, k2⟩ := u_known (C := RX0) (T := TX0) (N := 11) (n := 11) hts (fun w h => gw_tbl w (iX0 w h)) (tw hts 138 (by decide +kernel))
  obtain ⟨d3, i3, k3⟩ := u_known (C := RX1) (T := TX1) (N := 10) (n := 10) hts (fun w h => gw_tbl w (iX1 w h)) (tw hts 73 (by decide +kernel))
  obtain ⟨d4, i4, k4⟩ := u_known (C := RX2) (T := TX2) (N := 2) (n := 2) hts (fun w h => gw_tbl w (iX2 w h)) (tw hts 83 (by decide +kernel))
  obtain ⟨d5, i5, k5⟩ := u_known (C := RX3) (T := TX3) (N := 8) (n := 8) hts (fun w h => gw_tbl w (iX3 w h)) (tw hts 98 (by decide +kernel))
  obtain ⟨d6, i6, k6⟩ := u_known (C := RX4) (T := TX4) (N := 3) (n := 3) hts (fun w h => gw_tbl w (iX4 w h)) (tw hts 140 (by decide +kernel))
  obtain ⟨d7, i7, k7⟩ := u_known (C := RX5) (T := TX5) (N := 2) (n := 2) hts (fun w h => gw_tbl w (iX5 w h)) (tw hts 65 (by decide +kernel))
  obtain ⟨d8, i8, k8⟩ := u_known (C := RX6) (T := TX6) (N := 20) (n := 20) hts (fun w h => gw_tbl w (iX6 w h)) (tw hts 1065 (by decide +kernel))
  obtain ⟨D, hD⟩ : ∃ D : va_G, ∀ (c : Nat) (q : vw_C), vwCl[c]? = some q → u_Kn s q.1 q.2.1 q.2.2 (D.1 c) (D.2 c) := by
    refine ⟨(fun c => [d0, d1, d2, d3, d4, d5, d6, d7, d8].getD c d0, fun c => [i0, i1, i2, i3, i4, i5, i6, i7, i8].getD c i0), ?_⟩
    intro c q hq
    match c, hq with
    | 0, hq => cases hq; exact k0
    | 1, hq => cases hq; exact k1
    | 2, hq => cases hq; exact k2
    | 3, hq => cases hq; exact k3
    | 4, hq => cases hq; exact k4
    | 5, hq => cases hq; exact k5
    | 6, hq => cases hq; exact k6
    | 7, hq => cases hq; exact k7
    | 8, hq => cases hq; exact k8
    | c + 9, hq => simp [vwCl] at hq
  obtain ⟨cI, aI1, aI2⟩ := arrT_of (ty := .int) (fun C h => by cases h) (tw hts 97 (by decide +kernel))
  obtain ⟨cC, aC1, aC2⟩ := arrT_of (ty := .char) (fun C h => by cases h) (tw hts 156 (by decide +kernel))
  obtain ⟨cQ, aQ1, aQ2⟩ := arrR_of (C := "Lineclock$Station") (tw hts 79 (by decide +kernel))
  obtain ⟨cP, aP1, aP2⟩ := arrR_of (C := "Lineclock$Car") (tw hts 81 (by decide +kernel))
  have hA : ∀ a : Nat, a < s.heap.size → ¬ (fun q : Nat => s.heap.size ≤ q) a := fun a h1 h2 => absurd h1 (Nat.not_lt.mpr h2)
  obtain ⟨aS, haS⟩ : ∃ aS : Nat → Nat, ∀ (i : Nat) (q : String × Nat × String), SLl[i]? = some q → vk_R q.1 q.2.1 q.2.2 (aS i) s := by
    have h0 : ∀ i : Nat, ∃ a : Nat, ∀ (q : String × Nat × String), SLl[i]? = some q → vk_R q.1 q.2.1 q.2.2 a s := by
      intro i
      cases h : SLl[i]? with
      | none => exact ⟨0, fun q hq => by cases hq⟩
      | some q =>
        obtain ⟨h1, h2⟩ := SLl_in q (List.mem_of_getElem? h)
        obtain ⟨a, c, cA, kA, q1, -⟩ := Cond.exactly_spec (args := args) (first := s) (o := none) (s := s) (idx := []) (t := .string q.1 q.2.1) (cls := "java/lang/String") (hs _ h2)
        exact ⟨a, fun q' hq => by cases hq; exact vk_R.of (hts _ h1) q1⟩
    obtain ⟨aS, h1⟩ := Classical.axiomOfChoice h0
    exact ⟨aS, fun i q hq => h1 i q hq⟩
  obtain ⟨adK, adV, hvS, hvE⟩ := vk_Sof (args := args) (s := s) (N := 1) (tm := fun _ => .string "Lineclock" 239) (len := [5]) (byt := [[43, 45, 46, 76, 120]]) (A := fun q => s.heap.size ≤ q) (fun i hi => by rw [show i = 0 by omega]; decide) (fun i hi => hs _ (by decide +kernel)) (fun i hi => hs _ (by decide +kernel)) (fun i hi => hs _ (by decide +kernel)) (fun i hi => by rw [show i = 0 by omega]; exact hs _ (by decide +kernel))
    (fun i hi j hj => by
      rw [show i = 0 by omega] at hj ⊢
      have hj : j < 5 := hj
      rcases (show j = 0 ∨ j = 1 ∨ j = 2 ∨ j = 3 ∨ j = 4 by omega) with rfl | rfl | rfl | rfl | rfl <;> exact hs _ (by decide +kernel)) (fun i j hi hj hij => absurd (by omega) hij) hA
  have hK : va_K D vwCl (tysC (cI, cC, cQ, cP, fun _ => 0)) s := ⟨hD, fun k q hq => by
    match k, hq with
    | 0, hq => cases hq; exact ⟨aI1, aI2⟩
    | 1, hq => cases hq; exact ⟨aC1, aC2⟩
    | 2, hq => cases hq; exact ⟨aQ1, aQ2⟩
    | 3, hq => cases hq; exact ⟨aP1, aP2⟩
    | k + 4, hq => simp at hq⟩
  have e239 := hvE 0 (by omega)
  have e30 : (Term.string "Lineclock$Trace" 30).eval args s none [] s = some (.ref (adK 0)) := by
    have h1 : (Cond.eq (.string "Lineclock$Trace" 30) (.string "Lineclock" 239)).before args s = true := hs _ (by decide +kernel)
    obtain ⟨a, c, cA, kA, q1, -⟩ := Cond.exactly_spec (args := args) (first := s) (o := none) (s := s) (idx := []) (t := .string "Lineclock$Trace" 30) (cls := "java/lang/String") (hs _ (by decide +kernel))
    simp only [Cond.before, Cond.holds, Cond.value, q1, e239] at h1
    rw [q1]
    simpa using h1
  refine ⟨D, (cI, cC, cQ, cP, fun _ => 0), (cI, cC, fun _ => 0), aS, adK 0, adV 0, ⟨⟨hK, fun q hq => va_Nw.of (NWl_ok q hq).1 (hts q (NWl_in q hq)), vx_Zqof (tw hts 336 (by decide +kernel)) (tw hts 47 (by decide +kernel)) (hs _ (by decide +kernel)) hA, vx_Zqof (tw hts 338 (by decide +kernel)) (tw hts 47 (by decide +kernel)) (hs _ (by decide +kernel)) hA, haS, vk_R.of (tw hts 1017 (by decide +kernel)) e239, vk_R.of (tw hts 640 (by decide +kernel)) e30, ?_, va_Zof (tw hts 654 (by decide +kernel)) (tw hts 56 (by decide +kernel)) (va_eqt (hs _ (by decide +kernel))) hA⟩, va_AO.of (tw hts 79 (by decide +kernel)), va_AO.of (tw hts 81 (by decide +kernel))⟩, ⟨hD, fun k q hq => ?_⟩, fun q hq => va_Nc.of (hs _ (ex_in q hq))⟩
  · exact ⟨fun i hi => by rw [show i = 0 by omega]; exact hvS.1 0 (by omega), fun i j hi hj _ => by omega⟩
  · match k, hq with
    | 0, hq => cases hq; exact ⟨aI1, aI2⟩
    | 1, hq => cases hq; exact ⟨aC1, aC2⟩
    | k + 2, hq => simp at hq
