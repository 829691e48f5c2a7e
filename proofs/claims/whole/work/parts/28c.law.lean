/-! part 28c: the loop over the script -/
/-- what the two sides owe each other, call by call -/
def AGall (INV : Nat → St → St → Prop) (i : Nat) : Prop :=
  (∀ a1 a2 a3 a4 : Int32, agW INV i (f_X5_addStation 0 a1 a2 a3 a4) (f_X6_addStation a1 a2 a3 a4) (exCode [("java/lang/IllegalArgumentException", 1), ("java/lang/IllegalStateException", 2)]) ["java/lang/IllegalArgumentException", "java/lang/IllegalStateException"] (fun r q => r = q)) ∧
  (∀ a1 a2 : Int32, agW INV i (f_X5_supply 0 a1 a2) (f_X6_supply a1 a2) (exCode [("java/util/NoSuchElementException", 1), ("java/lang/IllegalArgumentException", 2), ("java/lang/IllegalStateException", 3)]) ["java/util/NoSuchElementException", "java/lang/IllegalArgumentException", "java/lang/IllegalStateException"] (fun r q => r = q)) ∧
  (∀ a1 : Int32, agW INV i (f_X5_setPeriod 0 a1) (f_X6_setPeriod a1) (exCode [("java/lang/IllegalArgumentException", 1)]) ["java/lang/IllegalArgumentException"] (fun r q => r = q)) ∧
  (∀ a1 : Int32, agW INV i (f_X5_addCar 0 a1) (f_X6_addCar a1) (exCode [("java/lang/IllegalArgumentException", 1), ("java/lang/IllegalStateException", 2)]) ["java/lang/IllegalArgumentException", "java/lang/IllegalStateException"] (fun r q => r = q)) ∧
  (∀ a1 a2 : Int32, agW INV i (f_X5_swap 0 a1 a2) (f_X6_swap a1 a2) (exCode [("java/util/NoSuchElementException", 1), ("java/lang/IllegalArgumentException", 2), ("java/lang/IllegalStateException", 3)]) ["java/util/NoSuchElementException", "java/lang/IllegalArgumentException", "java/lang/IllegalStateException"] (fun r q => r = q)) ∧
  (∀ a1 a2 : Int32, agW INV i (f_X5_fault 0 a1 a2) (f_X6_fault a1 a2) (exCode [("java/util/NoSuchElementException", 1), ("java/lang/IllegalStateException", 2), ("java/lang/UnsupportedOperationException", 3)]) ["java/util/NoSuchElementException", "java/lang/IllegalStateException", "java/lang/UnsupportedOperationException"] (fun r q => r = q)) ∧
  (∀ a1 : Int32, agW INV i (f_X5_tick 0 a1) (f_X6_tick a1) (exCode [("java/lang/IllegalArgumentException", 1), ("java/lang/IllegalStateException", 2)]) ["java/lang/IllegalArgumentException", "java/lang/IllegalStateException"] (fun r q => r = q)) ∧
  (agP INV i (f_X5_now 0) f_X6_now) ∧
  (agP INV i (f_X5_stations 0) f_X6_stations) ∧
  (agP INV i (f_X5_cars 0) f_X6_cars) ∧
  (∀ a1 : Int32, agW INV i (f_X5_stateOf 0 a1) (f_X6_stateOf a1) (exCode [("java/util/NoSuchElementException", 1)]) ["java/util/NoSuchElementException"] (fun r q => r = q)) ∧
  (∀ a1 : Int32, agW INV i (f_X5_stationOf 0 a1) (f_X6_stationOf a1) (exCode [("java/util/NoSuchElementException", 1), ("java/lang/IllegalStateException", 2)]) ["java/util/NoSuchElementException", "java/lang/IllegalStateException"] (fun r q => r = q)) ∧
  (∀ a1 : Int32, agW INV i (f_X5_toGo 0 a1) (f_X6_toGo a1) (exCode [("java/util/NoSuchElementException", 1), ("java/lang/IllegalStateException", 2)]) ["java/util/NoSuchElementException", "java/lang/IllegalStateException"] (fun r q => r = q)) ∧
  (∀ a1 : Int32, agW INV i (f_X5_carAt 0 a1) (f_X6_carAt a1) (exCode [("java/util/NoSuchElementException", 1), ("java/lang/IllegalStateException", 2)]) ["java/util/NoSuchElementException", "java/lang/IllegalStateException"] (fun r q => r = q)) ∧
  (∀ a1 : Int32, agW INV i (f_X5_isBack 0 a1) (f_X6_isBack a1) (exCode [("java/util/NoSuchElementException", 1)]) ["java/util/NoSuchElementException"] (fun r q => r = q)) ∧
  (agP INV i (f_X5_waiting 0) f_X6_waiting) ∧
  (∀ a1 : Int32, agW INV i (f_X5_waitingAt 0 a1) (f_X6_waitingAt a1) (exCode [("java/lang/IndexOutOfBoundsException", 1)]) ["java/lang/IndexOutOfBoundsException"] (fun r q => r = q)) ∧
  (agP INV i (f_X5_looped 0) f_X6_looped) ∧
  (∀ a1 : Int32, agW INV i (f_X5_loopedAt 0 a1) (f_X6_loopedAt a1) (exCode [("java/lang/IndexOutOfBoundsException", 1)]) ["java/lang/IndexOutOfBoundsException"] (fun r q => r = q)) ∧
  (agP INV i (f_X5_left 0) f_X6_left) ∧
  (∀ a1 : Int32, agW INV i (f_X5_leftAt 0 a1) (f_X6_leftAt a1) (exCode [("java/lang/IndexOutOfBoundsException", 1)]) ["java/lang/IndexOutOfBoundsException"] (fun r q => r = q)) ∧
  (∀ a1 : Int32, agW INV i (f_X5_leftIn 0 a1) (f_X6_leftIn a1) (exCode [("java/util/NoSuchElementException", 1), ("java/lang/IllegalStateException", 2)]) ["java/util/NoSuchElementException", "java/lang/IllegalStateException"] (fun r q => r = q)) ∧
  (∀ a1 : Int32, agW INV i (f_X5_faults 0 a1) (f_X6_faults a1) (exCode [("java/util/NoSuchElementException", 1)]) ["java/util/NoSuchElementException"] (fun r q => r = q)) ∧
  (∀ a1 a2 : Int32, agW INV i (f_X5_hasFault 0 a1 a2) (f_X6_hasFault a1 a2) (exCode [("java/util/NoSuchElementException", 1)]) ["java/util/NoSuchElementException"] (fun r q => r = q)) ∧
  (∀ a1 : Int32, agW INV i (f_X5_lacks 0 a1) (f_X6_lacks a1) (exCode [("java/util/NoSuchElementException", 1)]) ["java/util/NoSuchElementException"] (fun r q => r = q)) ∧
  (∀ a1 : Int32, agW INV i (f_X5_lacksOf 0 a1) (f_X6_lacksOf a1) (exCode [("java/util/NoSuchElementException", 1)]) ["java/util/NoSuchElementException"] (fun r q => r = q)) ∧
  (∀ a1 : Int32, agW INV i (f_X5_onShelf 0 a1) (f_X6_onShelf a1) (exCode [("java/util/NoSuchElementException", 1)]) ["java/util/NoSuchElementException"] (fun r q => r = q)) ∧
  (∀ a1 : Int32, agW INV i (f_X5_inStore 0 a1) (f_X6_inStore a1) (exCode [("java/util/NoSuchElementException", 1)]) ["java/util/NoSuchElementException"] (fun r q => r = q)) ∧
  (agP INV i (f_X5_nextRound 0) f_X6_nextRound) ∧
  (∀ a1 : Int32, agW INV i (f_X5_leavesIn 0 a1) (f_X6_leavesIn a1) (exCode [("java/util/NoSuchElementException", 1), ("java/lang/IllegalStateException", 2), ("java/lang/UnsupportedOperationException", 3)]) ["java/util/NoSuchElementException", "java/lang/IllegalStateException", "java/lang/UnsupportedOperationException"] (fun r q => r = q)) ∧
  (∀ a1 : Int32, agW INV i (f_X5_leavesByTicks 0 a1) (f_X6_leavesByTicks a1) (exCode [("java/util/NoSuchElementException", 1), ("java/lang/IllegalStateException", 2), ("java/lang/UnsupportedOperationException", 3)]) ["java/util/NoSuchElementException", "java/lang/IllegalStateException", "java/lang/UnsupportedOperationException"] (fun r q => r = q)) ∧
  (agW INV i (f_X5_nextToLeave 0 ) (f_X6_nextToLeave ) (exCode [("java/util/NoSuchElementException", 1)]) ["java/util/NoSuchElementException"] (fun r q => r = q)) ∧
  (∀ a1 : Int32, agW INV i (f_X5_traceLength 0 a1) (f_X6_traceLength a1) (exCode [("java/util/NoSuchElementException", 1)]) ["java/util/NoSuchElementException"] (fun r q => r = q)) ∧
  (∀ a1 a2 : Int32, agW INV i (f_X5_traceAt 0 a1 a2) (f_X6_traceAt a1 a2) (exCode [("java/util/NoSuchElementException", 1), ("java/lang/IndexOutOfBoundsException", 2)]) ["java/util/NoSuchElementException", "java/lang/IndexOutOfBoundsException"] (fun r q => r = q)) ∧
  (∀ a1 : Int32, agW INV i (f_X5_countOf 0 ((a1.toUInt32 % 65536).toInt32)) (f_X6_countOf ((a1.toUInt32 % 65536).toInt32)) (exCode [("java/lang/IllegalArgumentException", 1)]) ["java/lang/IllegalArgumentException"] (fun r q => r = q)) ∧
  (agP INV i (f_X5_fitted 0) f_X6_fitted) ∧
  (agW INV i f_L_lackShare (f_X6_lackShare ) (exCode [("java/lang/ArithmeticException", 1)]) ["java/lang/ArithmeticException"] (fun r q => vf_n64 (FP.f2d q) ∧ Op.cmpValue (FP.dcmp r (FP.f2d q)) .l = 0)) ∧
  (agW INV i (f_X5_meanTime 0 ) (f_X6_meanTime ) (exCode [("java/lang/ArithmeticException", 1)]) ["java/lang/ArithmeticException"] (fun r q => Op.cmpValue (FP.dcmp r q) .l = 0)) ∧
  ∀ S Sm, INV i S Sm → INV (i + 5) S Sm
theorem sw_in (x : Int32) : (∃ k, k < 38 ∧ x = nI k) ∨ (x.toInt < 0 ∨ 37 < x.toInt) := by
  by_cases h : x.toInt < 0 ∨ 37 < x.toInt
  · exact Or.inr h
  · refine Or.inl ⟨x.toInt.toNat, by omega, Int32.toInt_inj.mp ?_⟩
    rw [nI_toInt (by omega)]
    omega
theorem len_5 : ∀ L, L < 2561 → (nI L - 5).toInt = (L : Int) - 5 := by decide +kernel
section LOOP
variable {p : Program} {l : Launch} {e : Env} {s : State} {m : MethodId} {args : Array Value} {below : List Frame} {meth : Method} {c : Code} {Q : State → Prop}
variable {D : va_G} {w : Wc} {wm : Wm} {o1 o2 b L : Nat} {xs : Nat → Int32} {c1 c2 : ClassId} {aS : Nat → Nat} {sk sv : Nat} {INV : Nat → St → St → Prop}
set_option maxHeartbeats 8000000 in
set_option maxRecDepth 100000 in
theorem law_round {i : Nat} {S Sm : St} {v1 v2 : Value} {H : Heap} {locs : List Loc} {cells slots : Nat} {ls : Array Slot} (hfl : l.stackTraces = false) (C : LC p s m args c b L xs D w wm aS sk sv c1 c2) (hzz : INVz INV) (AG : AGall INV i) (hi : i + 5 ≤ L) (hI : INV i S Sm) (hZ : LQ D w wm o1 o2 c1 c2 s.heap S Sm v1 v2 H locs cells slots) (hl : lv_has ls 9 (lawL w wm o1 o2 b i)) (hn : LN p l e s m args below meth c D w wm o1 o2 c1 c2 b INV Q i) (x : Int32) :
    W p l e room_1 s m args below meth c H locs cells slots Q (F0 m 44 ls [.int x]) := by
  have hx := C.1.1
  have hb := C.1.2.1
  rcases sw_in x with ⟨k, hk, hxk⟩ | h
  · rw [hxk]
    have h9 : k = 0 ∨ k = 1 ∨ k = 2 ∨ k = 3 ∨ k = 4 ∨ k = 5 ∨ k = 6 ∨ k = 7 ∨ k = 8 ∨ k = 9 ∨ k = 10 ∨ k = 11 ∨ k = 12 ∨ k = 13 ∨ k = 14 ∨ k = 15 ∨ k = 16 ∨ k = 17 ∨ k = 18 ∨ k = 19 ∨ k = 20 ∨ k = 21 ∨ k = 22 ∨ k = 23 ∨ k = 24 ∨ k = 25 ∨ k = 26 ∨ k = 27 ∨ k = 28 ∨ k = 29 ∨ k = 30 ∨ k = 31 ∨ k = 32 ∨ k = 33 ∨ k = 34 ∨ k = 35 ∨ k = 36 ∨ k = 37 := by omega
    rcases h9 with rfl | rfl | rfl | rfl | rfl | rfl | rfl | rfl | rfl | rfl | rfl | rfl | rfl | rfl | rfl | rfl | rfl | rfl | rfl | rfl | rfl | rfl | rfl | rfl | rfl | rfl | rfl | rfl | rfl | rfl | rfl | rfl | rfl | rfl | rfl | rfl | rfl | rfl
    · refine lv_tableIn (off := 168) (tgt := 212) hx hb dL_law_44 (by decide +kernel) (by decide +kernel) (by decide +kernel) (by decide) ?_
      exact lc_addStation hfl C hi hzz (AG.1 _ _ _ _) hI hZ hl hn
    · refine lv_tableIn (off := 260) (tgt := 304) hx hb dL_law_44 (by decide +kernel) (by decide +kernel) (by decide +kernel) (by decide) ?_
      exact lc_supply hfl C hi hzz (AG.2.1 _ _) hI hZ hl hn
    · refine lv_tableIn (off := 328) (tgt := 372) hx hb dL_law_44 (by decide +kernel) (by decide +kernel) (by decide +kernel) (by decide) ?_
      exact lc_setPeriod hfl C hi hzz (AG.2.2.1 _) hI hZ hl hn
    · refine lv_tableIn (off := 384) (tgt := 428) hx hb dL_law_44 (by decide +kernel) (by decide +kernel) (by decide +kernel) (by decide) ?_
      exact lc_addCar hfl C hi hzz (AG.2.2.2.1 _) hI hZ hl hn
    · refine lv_tableIn (off := 440) (tgt := 484) hx hb dL_law_44 (by decide +kernel) (by decide +kernel) (by decide +kernel) (by decide) ?_
      exact lc_swap hfl C hi hzz (AG.2.2.2.2.1 _ _) hI hZ hl hn
    · refine lv_tableIn (off := 508) (tgt := 552) hx hb dL_law_44 (by decide +kernel) (by decide +kernel) (by decide +kernel) (by decide) ?_
      exact lc_fault hfl C hi hzz (AG.2.2.2.2.2.1 _ _) hI hZ hl hn
    · refine lv_tableIn (off := 576) (tgt := 620) hx hb dL_law_44 (by decide +kernel) (by decide +kernel) (by decide +kernel) (by decide) ?_
      exact lc_tick hfl C hi hzz (AG.2.2.2.2.2.2.1 _) hI hZ hl hn
    · refine lv_tableIn (off := 632) (tgt := 676) hx hb dL_law_44 (by decide +kernel) (by decide +kernel) (by decide +kernel) (by decide) ?_
      exact lc_now hfl C hi hzz (AG.2.2.2.2.2.2.2.1) hI hZ hl hn
    · refine lv_tableIn (off := 645) (tgt := 689) hx hb dL_law_44 (by decide +kernel) (by decide +kernel) (by decide +kernel) (by decide) ?_
      exact lc_stations hfl C hi hzz (AG.2.2.2.2.2.2.2.2.1) hI hZ hl hn
    · refine lv_tableIn (off := 658) (tgt := 702) hx hb dL_law_44 (by decide +kernel) (by decide +kernel) (by decide +kernel) (by decide) ?_
      exact lc_cars hfl C hi hzz (AG.2.2.2.2.2.2.2.2.2.1) hI hZ hl hn
    · refine lv_tableIn (off := 671) (tgt := 715) hx hb dL_law_44 (by decide +kernel) (by decide +kernel) (by decide +kernel) (by decide) ?_
      exact lc_stateOf hfl C hi hzz (AG.2.2.2.2.2.2.2.2.2.2.1 _) hI hZ hl hn
    · refine lv_tableIn (off := 727) (tgt := 771) hx hb dL_law_44 (by decide +kernel) (by decide +kernel) (by decide +kernel) (by decide) ?_
      exact lc_stationOf hfl C hi hzz (AG.2.2.2.2.2.2.2.2.2.2.2.1 _) hI hZ hl hn
    · refine lv_tableIn (off := 783) (tgt := 827) hx hb dL_law_44 (by decide +kernel) (by decide +kernel) (by decide +kernel) (by decide) ?_
      exact lc_toGo hfl C hi hzz (AG.2.2.2.2.2.2.2.2.2.2.2.2.1 _) hI hZ hl hn
    · refine lv_tableIn (off := 839) (tgt := 883) hx hb dL_law_44 (by decide +kernel) (by decide +kernel) (by decide +kernel) (by decide) ?_
      exact lc_carAt hfl C hi hzz (AG.2.2.2.2.2.2.2.2.2.2.2.2.2.1 _) hI hZ hl hn
    · refine lv_tableIn (off := 895) (tgt := 939) hx hb dL_law_44 (by decide +kernel) (by decide +kernel) (by decide +kernel) (by decide) ?_
      exact lc_isBack hfl C hi hzz (AG.2.2.2.2.2.2.2.2.2.2.2.2.2.2.1 _) hI hZ hl hn
    · refine lv_tableIn (off := 958) (tgt := 1002) hx hb dL_law_44 (by decide +kernel) (by decide +kernel) (by decide +kernel) (by decide) ?_
      exact lc_waiting hfl C hi hzz (AG.2.2.2.2.2.2.2.2.2.2.2.2.2.2.2.1) hI hZ hl hn
    · refine lv_tableIn (off := 971) (tgt := 1015) hx hb dL_law_44 (by decide +kernel) (by decide +kernel) (by decide +kernel) (by decide) ?_
      exact lc_waitingAt hfl C hi hzz (AG.2.2.2.2.2.2.2.2.2.2.2.2.2.2.2.2.1 _) hI hZ hl hn
    · refine lv_tableIn (off := 1027) (tgt := 1071) hx hb dL_law_44 (by decide +kernel) (by decide +kernel) (by decide +kernel) (by decide) ?_
      exact lc_looped hfl C hi hzz (AG.2.2.2.2.2.2.2.2.2.2.2.2.2.2.2.2.2.1) hI hZ hl hn
    · refine lv_tableIn (off := 1040) (tgt := 1084) hx hb dL_law_44 (by decide +kernel) (by decide +kernel) (by decide +kernel) (by decide) ?_
      exact lc_loopedAt hfl C hi hzz (AG.2.2.2.2.2.2.2.2.2.2.2.2.2.2.2.2.2.2.1 _) hI hZ hl hn
    · refine lv_tableIn (off := 1096) (tgt := 1140) hx hb dL_law_44 (by decide +kernel) (by decide +kernel) (by decide +kernel) (by decide) ?_
      exact lc_left hfl C hi hzz (AG.2.2.2.2.2.2.2.2.2.2.2.2.2.2.2.2.2.2.2.1) hI hZ hl hn
    · refine lv_tableIn (off := 1109) (tgt := 1153) hx hb dL_law_44 (by decide +kernel) (by decide +kernel) (by decide +kernel) (by decide) ?_
      exact lc_leftAt hfl C hi hzz (AG.2.2.2.2.2.2.2.2.2.2.2.2.2.2.2.2.2.2.2.2.1 _) hI hZ hl hn
    · refine lv_tableIn (off := 1165) (tgt := 1209) hx hb dL_law_44 (by decide +kernel) (by decide +kernel) (by decide +kernel) (by decide) ?_
      exact lc_leftIn hfl C hi hzz (AG.2.2.2.2.2.2.2.2.2.2.2.2.2.2.2.2.2.2.2.2.2.1 _) hI hZ hl hn
    · refine lv_tableIn (off := 1221) (tgt := 1265) hx hb dL_law_44 (by decide +kernel) (by decide +kernel) (by decide +kernel) (by decide) ?_
      exact lc_faults hfl C hi hzz (AG.2.2.2.2.2.2.2.2.2.2.2.2.2.2.2.2.2.2.2.2.2.2.1 _) hI hZ hl hn
    · refine lv_tableIn (off := 1277) (tgt := 1321) hx hb dL_law_44 (by decide +kernel) (by decide +kernel) (by decide +kernel) (by decide) ?_
      exact lc_hasFault hfl C hi hzz (AG.2.2.2.2.2.2.2.2.2.2.2.2.2.2.2.2.2.2.2.2.2.2.2.1 _ _) hI hZ hl hn
    · refine lv_tableIn (off := 1352) (tgt := 1396) hx hb dL_law_44 (by decide +kernel) (by decide +kernel) (by decide +kernel) (by decide) ?_
      exact lc_lacks hfl C hi hzz (AG.2.2.2.2.2.2.2.2.2.2.2.2.2.2.2.2.2.2.2.2.2.2.2.2.1 _) hI hZ hl hn
    · refine lv_tableIn (off := 1408) (tgt := 1452) hx hb dL_law_44 (by decide +kernel) (by decide +kernel) (by decide +kernel) (by decide) ?_
      exact lc_lacksOf hfl C hi hzz (AG.2.2.2.2.2.2.2.2.2.2.2.2.2.2.2.2.2.2.2.2.2.2.2.2.2.1 _) hI hZ hl hn
    · refine lv_tableIn (off := 1464) (tgt := 1508) hx hb dL_law_44 (by decide +kernel) (by decide +kernel) (by decide +kernel) (by decide) ?_
      exact lc_onShelf hfl C hi hzz (AG.2.2.2.2.2.2.2.2.2.2.2.2.2.2.2.2.2.2.2.2.2.2.2.2.2.2.1 _) hI hZ hl hn
    · refine lv_tableIn (off := 1520) (tgt := 1564) hx hb dL_law_44 (by decide +kernel) (by decide +kernel) (by decide +kernel) (by decide) ?_
      exact lc_inStore hfl C hi hzz (AG.2.2.2.2.2.2.2.2.2.2.2.2.2.2.2.2.2.2.2.2.2.2.2.2.2.2.2.1 _) hI hZ hl hn
    · refine lv_tableIn (off := 1576) (tgt := 1620) hx hb dL_law_44 (by decide +kernel) (by decide +kernel) (by decide +kernel) (by decide) ?_
      exact lc_nextRound hfl C hi hzz (AG.2.2.2.2.2.2.2.2.2.2.2.2.2.2.2.2.2.2.2.2.2.2.2.2.2.2.2.2.1) hI hZ hl hn
    · refine lv_tableIn (off := 1589) (tgt := 1633) hx hb dL_law_44 (by decide +kernel) (by decide +kernel) (by decide +kernel) (by decide) ?_
      exact lc_leavesIn hfl C hi hzz (AG.2.2.2.2.2.2.2.2.2.2.2.2.2.2.2.2.2.2.2.2.2.2.2.2.2.2.2.2.2.1 _) hI hZ hl hn
    · refine lv_tableIn (off := 1645) (tgt := 1689) hx hb dL_law_44 (by decide +kernel) (by decide +kernel) (by decide +kernel) (by decide) ?_
      exact lc_leavesByTicks hfl C hi hzz (AG.2.2.2.2.2.2.2.2.2.2.2.2.2.2.2.2.2.2.2.2.2.2.2.2.2.2.2.2.2.2.1 _) hI hZ hl hn
    · refine lv_tableIn (off := 1701) (tgt := 1745) hx hb dL_law_44 (by decide +kernel) (by decide +kernel) (by decide +kernel) (by decide) ?_
      exact lc_nextToLeave hfl C hi hzz (AG.2.2.2.2.2.2.2.2.2.2.2.2.2.2.2.2.2.2.2.2.2.2.2.2.2.2.2.2.2.2.2.1) hI hZ hl hn
    · refine lv_tableIn (off := 1745) (tgt := 1789) hx hb dL_law_44 (by decide +kernel) (by decide +kernel) (by decide +kernel) (by decide) ?_
      exact lc_traceLength hfl C hi hzz (AG.2.2.2.2.2.2.2.2.2.2.2.2.2.2.2.2.2.2.2.2.2.2.2.2.2.2.2.2.2.2.2.2.1 _) hI hZ hl hn
    · refine lv_tableIn (off := 1801) (tgt := 1845) hx hb dL_law_44 (by decide +kernel) (by decide +kernel) (by decide +kernel) (by decide) ?_
      exact lc_traceAt hfl C hi hzz (AG.2.2.2.2.2.2.2.2.2.2.2.2.2.2.2.2.2.2.2.2.2.2.2.2.2.2.2.2.2.2.2.2.2.1 _ _) hI hZ hl hn
    · refine lv_tableIn (off := 1869) (tgt := 1913) hx hb dL_law_44 (by decide +kernel) (by decide +kernel) (by decide +kernel) (by decide) ?_
      exact lc_countOf hfl C hi hzz (AG.2.2.2.2.2.2.2.2.2.2.2.2.2.2.2.2.2.2.2.2.2.2.2.2.2.2.2.2.2.2.2.2.2.2.1 _) hI hZ hl hn
    · refine lv_tableIn (off := 1927) (tgt := 1971) hx hb dL_law_44 (by decide +kernel) (by decide +kernel) (by decide +kernel) (by decide) ?_
      exact lc_fitted hfl C hi hzz (AG.2.2.2.2.2.2.2.2.2.2.2.2.2.2.2.2.2.2.2.2.2.2.2.2.2.2.2.2.2.2.2.2.2.2.2.1) hI hZ hl hn
    · refine lv_tableIn (off := 1941) (tgt := 1985) hx hb dL_law_44 (by decide +kernel) (by decide +kernel) (by decide +kernel) (by decide) ?_
      exact lc_lackShare hfl C hi hzz (AG.2.2.2.2.2.2.2.2.2.2.2.2.2.2.2.2.2.2.2.2.2.2.2.2.2.2.2.2.2.2.2.2.2.2.2.2.1) hI hZ hl hn
    · refine lv_tableIn (off := 2007) (tgt := 2051) hx hb dL_law_44 (by decide +kernel) (by decide +kernel) (by decide +kernel) (by decide) ?_
      exact lc_meanTime hfl C hi hzz (AG.2.2.2.2.2.2.2.2.2.2.2.2.2.2.2.2.2.2.2.2.2.2.2.2.2.2.2.2.2.2.2.2.2.2.2.2.2.1) hI hZ hl hn
  · refine lv_tableOut (tgt := 2116) hx hb dL_law_44 h (by decide) ?_
    exact hn _ _ _ _ _ _ _ _ _ (AG.2.2.2.2.2.2.2.2.2.2.2.2.2.2.2.2.2.2.2.2.2.2.2.2.2.2.2.2.2.2.2.2.2.2.2.2.2.2 _ _ hI) hZ hl
theorem law_loop (hfl : l.stackTraces = false) (C : LC p s m args c b L xs D w wm aS sk sv c1 c2) (hzz : INVz INV) (AG : ∀ i, i + 5 ≤ 2560 → AGall INV i)
    (hend : ∀ (i : Nat) (S Sm : St) (v1 v2 : Value) (H : Heap) (locs : List Loc) (cells slots : Nat) (ls : Array Slot), INV i S Sm → LQ D w wm o1 o2 c1 c2 s.heap S Sm v1 v2 H locs cells slots → W p l e room_1 s m args below meth c H locs cells slots Q (F0 m 2122 ls [])) :
    ∀ (n i : Nat), L < i + 5 * n → ∀ (S Sm : St) (v1 v2 : Value) (H : Heap) (locs : List Loc) (cells slots : Nat) (ls : Array Slot), i ≤ L + 5 → INV i S Sm → LQ D w wm o1 o2 c1 c2 s.heap S Sm v1 v2 H locs cells slots → lv_has ls 9 (lawL w wm o1 o2 b i) → W p l e room_1 s m args below meth c H locs cells slots Q (F0 m 28 ls []) := by
  have hx := C.1.1
  have hb := C.1.2.1
  have hX := C.2.2.2.2.1
  have hbl := C.2.2.2.2.2.1
  have hL := C.2.2.2.2.2.2
  have e5 := len_5 L (by omega)
  intro n
  induction n with
  | zero =>
    intro i hin S Sm v1 v2 H locs cells slots ls hiL hI hZ hl
    have ei : (nI i).toInt = (i : Int) := nI_toInt (by omega)
    refine lv_iload hx hb dL_law_28 (lv_at hl 0 rfl) ?_
    refine lv_aload_n hx hb dL_law_30 rfl (lv_at hl 5 rfl) ?_
    refine va_slen hx hb hX hbl (Nat.not_le.mpr hbl) hZ.2.2.2.2.1 dL_law_31 ?_
    refine lv_iconst (v := (5)) hx hb dL_law_32 (by decide +kernel) ?_
    refine lv_isub hx hb dL_law_33 ?_
    refine lv_icmp_gt (tgt := 2122) hx hb dL_law_34 (by decide) (fun hc => ?_) (fun hc => ?_)
    · exact hend _ _ _ _ _ _ _ _ _ _ hI hZ
    · refine absurd ?_ hc
      rw [Int32.lt_iff_toInt_lt]
      have e5 : (Int32.ofNat L - 5).toInt = (L : Int) - 5 := e5
      rw [e5, ei]
      omega
  | succ n ih =>
    intro i hin S Sm v1 v2 H locs cells slots ls hiL hI hZ hl
    have ei : (nI i).toInt = (i : Int) := nI_toInt (by omega)
    refine lv_iload hx hb dL_law_28 (lv_at hl 0 rfl) ?_
    refine lv_aload_n hx hb dL_law_30 rfl (lv_at hl 5 rfl) ?_
    refine va_slen hx hb hX hbl (Nat.not_le.mpr hbl) hZ.2.2.2.2.1 dL_law_31 ?_
    refine lv_iconst (v := (5)) hx hb dL_law_32 (by decide +kernel) ?_
    refine lv_isub hx hb dL_law_33 ?_
    refine lv_icmp_gt (tgt := 2122) hx hb dL_law_34 (by decide) (fun hc => ?_) (fun hc => ?_)
    · exact hend _ _ _ _ _ _ _ _ _ _ hI hZ
    · have hi : i + 5 ≤ L := by
        rw [Int32.lt_iff_toInt_lt] at hc
        have e5 : (Int32.ofNat L - 5).toInt = (L : Int) - 5 := e5
        rw [e5, ei] at hc
        omega
      refine lv_aload_n hx hb dL_law_37 rfl (lv_at hl 5 rfl) ?_
      refine lv_iload hx hb dL_law_38 (lv_at hl 0 rfl) ?_
      refine va_sld hx hb hX hbl (Nat.not_le.mpr hbl) hZ.2.2.2.2.1 (nI_in (by omega) (by omega)) dL_law_40 ?_
      refine lv_bipush (v := (63)) hx hb dL_law_41 (by decide +kernel) ?_
      refine lv_iand hx hb dL_law_43 ?_
      refine law_round hfl C hzz (AG i (by omega)) hi hI hZ hl ?_ _
      intro S1 Sm1 v3 v4 H1 locs1 cells1 slots1 ls1 hI1 hZ1 hl1
      refine lv_iinc (v := nI (i + 5)) (lv' := lawL w wm o1 o2 b (i + 5)) (k := 0) hx hb dL_law_2116 hl1 rfl ld_nI (by decide) rfl (fun ls2 hl2 => ?_)
      refine lv_goto (tgt := 28) hx hb dL_law_2119 (by decide) ?_
      exact ih (i + 5) (by omega) _ _ _ _ _ _ _ _ _ (by omega) hI1 hZ1 hl2
end LOOP
