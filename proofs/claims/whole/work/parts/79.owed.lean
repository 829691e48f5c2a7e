/-! part 79: all calls; the start -/
theorem ag_all {i : Nat} (hi : i + 5 ≤ 2560) : AGall INV i :=
  ⟨fun _ _ _ _ => ag_addStation hi, fun _ _ => ag_supply hi, fun _ => ag_setPeriod hi, fun _ => ag_addCar hi, fun _ _ => ag_swap hi, fun _ _ => ag_fault hi, fun _ => ag_tick hi, ag_now hi, ag_stations hi, ag_cars hi,
   fun _ => ag_stateOf hi, fun _ => ag_stationOf hi, fun _ => ag_toGo hi, fun _ => ag_carAt hi, fun _ => ag_isBack hi, ag_waiting hi, fun _ => ag_waitingAt hi, ag_looped hi, fun _ => ag_loopedAt hi, ag_left hi, fun _ => ag_leftAt hi, fun _ => ag_leftIn hi,
   fun _ => ag_faults hi, fun _ _ => ag_hasFault hi, fun _ => ag_lacks hi, fun _ => ag_lacksOf hi, fun _ => ag_onShelf hi, fun _ => ag_inStore hi, ag_nextRound hi, fun _ => ag_leavesIn hi, fun _ => ag_leavesByTicks hi, ag_nextToLeave hi,
   fun _ => ag_traceLength hi, fun _ _ => ag_traceAt hi, fun _ => ag_countOf hi, ag_fitted hi, ag_lackShare hi, ag_meanTime hi,
   fun S Sm h => by
    obtain ⟨A, T, k, hN, h7, h8⟩ := h
    exact ⟨A, T, k, hN, by omega, by omega⟩⟩
/-- the common state of a new object -/
def AZ : AS := (fun a _ => if a = 3 then 10 else if a = 8 then -1 else if a = 12 then -1 else if a = 15 then 119 else if a = 16 then -1 else 0, fun _ => 0, ([], [], []), [])
theorem AZ_S : kS AZ = 0 := by decide +kernel
theorem AZ_C : kC AZ = 0 := by decide +kernel
theorem AZ_RO {z : Int32} : RO AZ 30 [] z := ⟨List.nodup_nil, fun c => ⟨fun h => absurd h List.not_mem_nil, fun h => by have := h.1; rw [AZ_C] at this; omega⟩⟩
theorem AZ_J : JA AZ := by
  refine ⟨⟨⟨by rw [AZ_S]; rfl, by rw [AZ_S]; omega⟩, ⟨by rw [AZ_C]; rfl, by rw [AZ_C]; omega⟩⟩, fun s hs => ?_, fun c hc => ?_, ⟨AZ_RO, AZ_RO, AZ_RO⟩, fun c hc => ?_, fun s hs => ?_, ⟨⟨0, by omega, rfl⟩, ⟨10, by omega, by omega, rfl⟩⟩, fun _ => AZ_C, fun p hp => ?_, fun _ _ => rfl⟩
  · rw [AZ_S] at hs; omega
  · rw [AZ_C] at hc; omega
  · rw [AZ_C] at hc; omega
  · rw [AZ_S] at hs; omega
  · have hp : p ∈ ([] : List (Nat × Int32)) := hp
    exact absurd hp List.not_mem_nil
theorem AZ_CR (z : Nat) : CR 0 0 (sMade z (z + 187) 0 0) (sMade z (z + 187) 0 0) AZ := by
  have ec : capS (sMade z (z + 187) 0 0) = 960 := by
    unfold capS
    rw [sumTo_cg (f := fun x => gN (sMade z (z + 187) 0 0) 0 x) (g := fun _ => 32) 30 (fun i _ => rfl)]
    decide +kernel
  have e3 : gN (sMade z (z + 187) 0 0) 3 0 = 0 := rfl
  have e7 : gN (sMade z (z + 187) 0 0) 7 0 = 0 := rfl
  have rw0 : ∀ x, RW (sMade z (z + 187) 0 0) x [] := fun x => ⟨by decide, rfl, fun k hk => absurd hk (Nat.not_lt_zero _)⟩
  refine ⟨⟨fun f _ => rfl, fun p _ => rfl, fun f s _ _ _ => rfl, fun f c _ _ _ => rfl, rw0 _, rw0 _, rw0 _⟩, fun _ => ⟨fun s _ => ⟨rfl, rfl⟩, fun f c _ _ _ => rfl, fun x hx => ?_, by rw [ec, e3]; omega, by rw [ec, e7]; omega⟩, fun w => absurd w (by decide), fun _ => ⟨fun f s _ _ _ => rfl, fun f c _ _ _ => rfl⟩⟩
  show RT (sMade z (z + 187) 0 0) x []
  exact ⟨rfl, Nat.zero_le _, ⟨0, by omega, rfl⟩, fun k hk => absurd hk (Nat.not_lt_zero _), fun j _ => rfl⟩
theorem AZ_MS (z y : Nat) : MS 0 (sMadeM z y 0 0) (sMadeM z y 0 0) AZ := by
  have nr : ∀ b x, NR (nw (sMadeM z y 0 0)) b x [] := fun b x => ⟨by decide, rfl, fun k hk => absurd hk (Nat.not_lt_zero _)⟩
  have s0 : ∀ (P : Prop) (s : Nat), s < kS AZ → P := fun P s hs => by rw [AZ_S] at hs; omega
  have c0 : ∀ (P : Prop) (c : Nat), c < kC AZ → P := fun P c hc => by rw [AZ_C] at hc; omega
  have e0 : gN (sMadeM z y 0 0) 0 0 = 64 := rfl
  have e3 : gN (sMadeM z y 0 0) 3 0 = 0 := rfl
  have e7 : gN (sMadeM z y 0 0) 7 0 = 0 := rfl
  refine ⟨⟨⟨⟨rfl, rfl, rfl⟩, fun s hs => s0 _ s hs, fun c hc => c0 _ c hc, ⟨fun p _ => rfl, fun s hs => s0 _ s hs, fun s hs => s0 _ s hs, fun c hc => c0 _ c hc, fun c hc => c0 _ c hc, fun c hc => c0 _ c hc, rfl, nr _ _, nr _ _⟩⟩, rfl, fun _ => ⟨fun s hs => s0 _ s hs, fun c hc => c0 _ c hc, ?_, ?_⟩, fun w => absurd w (by decide), fun _ => ⟨fun s _ => ⟨rfl, rfl⟩, fun c _ => ⟨rfl, rfl, rfl⟩⟩⟩, nr _ _⟩
  · show (0 : Int64) = sumL 8 (fun _ => 0)
    decide +kernel
  · show TM (sMadeM z y 0 0) []
    exact ⟨rfl, Nat.zero_le _, rfl, ⟨0, by omega, rfl⟩, fun k hk => absurd hk (Nat.not_lt_zero _), by rw [e3, e0], by rw [e7, e0]; omega⟩
theorem INV_start (z : Nat) : INV 0 (sMade z (z + 187) 0 0) (sMadeM (z + 187) (z + 201) 0 0) :=
  ⟨AZ, 0, 0, ⟨AZ_CR z, AZ_MS _ _, AZ_J, ⟨rfl, by omega⟩, fun c hc => by rw [AZ_C] at hc; omega, ⟨fun s _ _ => ⟨rfl, rfl, rfl⟩, fun c _ _ => ⟨rfl, rfl, rfl, rfl, rfl, rfl, rfl⟩⟩, fun c => ⟨⟨0, by omega, rfl⟩, ⟨0, by omega, rfl⟩⟩, fun c => Or.inr rfl⟩, by omega, by omega⟩
/-- what the two sides owe each other -/
theorem owed : OWED INV := ⟨INVz_ok, fun _ hi => ag_all hi, INV_start, fun _ _ _ h => INV_room h⟩
