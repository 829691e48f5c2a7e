/-! part 16: the class's own face (by program) -/
def f_X5_isWithin (a0 : Int32) (a1 : Int32) (a2 : Int32) : PM Int32 := if a0 < a1 then (rtnZ (0 : Int32)) else (if a2 < a0 then (rtnZ (0 : Int32)) else (rtnZ (1 : Int32)))
theorem yd_X5_isWithin : yX5_isWithin.cls = RX5 ∧ yX5_isWithin.cls ≠ "java/lang/invoke/MethodHandle" ∧ yX5_isWithin.cls ≠ "java/lang/invoke/VarHandle" ∧ (parseMethodDescriptor yX5_isWithin.desc).map (fun d => d.parameters.length) = some 3 := by decide +kernel
set_option maxHeartbeats 4000000 in
set_option maxRecDepth 100000 in
theorem c_X5_isWithin (l : Launch) (D : va_G) (w : Wc) (aS : Nat → Nat) (sk sv : Nat) (A : Nat → Prop) (a0 : Int32) (a1 : Int32) (a2 : Int32) : CT l yX5_isWithin cX5_isWithin 3 (some .boolean) 0 0 (PC D w A) (ENVC D w aS sk sv A) A [.int a0, .int a1, .int a2] (f_X5_isWithin a0 a1 a2) vI := by
  refine CT.ofW (by decide) [(0, .int a0), (1, .int a1), (2, .int a2)] (by simp [lv_args, vr_cat, vc_i, vc_j, vc_f, vc_d, vc_r, vc_n]) (by simp [lg_sl, vr_cat, vc_i, vc_j, vc_f, vc_d, vc_r, vc_n]) ?_
  intro S0 E0 R p e s m args below meth c ls hE hRf hRl hRc K0 hr hlocks hEV hA hZ hl
  have K0 : CallFix p m c cX5_isWithin 3 s args GW RX5 := K0
  have hx := K0.1
  have hb := K0.2.1
  have hown := K0.2.2.2.1
  have hg := K0.2.2.2.2
  have hK := hEV.1
  have hok : EVok (ENVC D w aS sk sv A) A := ENVC.ok
  unfold f_X5_isWithin at hE
  refine lv_iload_n hx hb dX5_isWithin_0 rfl (lv_at hl 0 rfl) ?_
  refine lv_iload_n hx hb dX5_isWithin_1 rfl (lv_at hl 1 rfl) ?_
  refine lv_icmp_lt (tgt := 14) hx hb dX5_isWithin_2 (by decide) (fun hc => ?_) (fun hc => ?_)
  · have hE := if_t hE hc
    refine lv_iconst (v := (0)) hx hb dX5_isWithin_14 (by decide +kernel) ?_
    exact end_z K0 hr hlocks hE hZ dX5_isWithin_15
  · have hE := if_f hE hc
    refine lv_iload_n hx hb dX5_isWithin_5 rfl (lv_at hl 0 rfl) ?_
    refine lv_iload_n hx hb dX5_isWithin_6 rfl (lv_at hl 2 rfl) ?_
    refine lv_icmp_gt (tgt := 14) hx hb dX5_isWithin_7 (by decide) (fun hc => ?_) (fun hc => ?_)
    · have hE := if_t hE hc
      refine lv_iconst (v := (0)) hx hb dX5_isWithin_14 (by decide +kernel) ?_
      exact end_z K0 hr hlocks hE hZ dX5_isWithin_15
    · have hE := if_f hE hc
      refine lv_iconst (v := (1)) hx hb dX5_isWithin_10 (by decide +kernel) ?_
      refine lv_goto (tgt := 15) hx hb dX5_isWithin_11 (by decide) ?_
      exact end_z K0 hr hlocks hE hZ dX5_isWithin_15
def f_X5_requirePart (a0 : Int32) : PM (Unit ⊕ String) := bnd (f_X5_isWithin a0 (0 : Int32) (5 : Int32)) (fun v3 => if v3 = 0 then (thr "java/util/NoSuchElementException") else (rtX ()))
theorem yd_X5_requirePart : yX5_requirePart.cls = RX5 ∧ yX5_requirePart.cls ≠ "java/lang/invoke/MethodHandle" ∧ yX5_requirePart.cls ≠ "java/lang/invoke/VarHandle" ∧ (parseMethodDescriptor yX5_requirePart.desc).map (fun d => d.parameters.length) = some 1 := by decide +kernel
set_option maxHeartbeats 4000000 in
set_option maxRecDepth 100000 in
theorem c_X5_requirePart (l : Launch) (hfl : l.stackTraces = false) (D : va_G) (w : Wc) (aS : Nat → Nat) (sk sv : Nat) (A : Nat → Prop) (a0 : Int32) : CX l yX5_requirePart cX5_requirePart 1 none 6 100 D w (ENVC D w aS sk sv A) A [.int a0] (f_X5_requirePart a0) vU := by
  refine CX.ofW (by decide) [(0, .int a0)] (by simp [lv_args, vr_cat, vc_i, vc_j, vc_f, vc_d, vc_r, vc_n]) (by simp [lg_sl, vr_cat, vc_i, vc_j, vc_f, vc_d, vc_r, vc_n]) ?_
  intro S0 E0 R p e s m args below meth c ls hE hRf hRl hRc K0 hr hlocks hout hEV hA hZ hl
  have K0 : CallFix p m c cX5_requirePart 1 s args GW RX5 := K0
  have hx := K0.1
  have hb := K0.2.1
  have hown := K0.2.2.2.1
  have hg := K0.2.2.2.2
  have hK := hEV.1
  have hok : EVok (ENVC D w aS sk sv A) A := ENVC.ok
  unfold f_X5_requirePart at hE
  refine lv_iload_n hx hb dX5_requirePart_0 rfl (lv_at hl 0 rfl) ?_
  refine lv_iconst (v := (0)) hx hb dX5_requirePart_1 (by decide +kernel) ?_
  refine lv_iconst (v := (5)) hx hb dX5_requirePart_2 (by decide +kernel) ?_
  refine call_S (rest := []) K0 hok hEV hA (c_X5_isWithin l D w aS sk sv A a0 (0 : Int32) (5 : Int32)) q306 q307 q40 q308 yd_X5_isWithin ⟨by omega, by omega⟩ hRc hE hZ hl.1 rfl (Nat.le_of_ble_eq_true rfl) dX5_requirePart_3 (fun v3 S H locs cells slots hE hZ => ?_)
  refine W.eq (g2 := F0 m 6 ls [.int v3]) rfl ?_
  refine lv_if_ne (tgt := 20) hx hb dX5_requirePart_6 (by decide) (fun hc => ?_) (fun hc => ?_)
  · have hE := if_f hE hc
    exact endX_v K0 hr hlocks hE hZ dX5_requirePart_20
  · have hE := if_t hE hc
    exact thr_NW K0 hfl hEV (i := 3) q418 q52 rfl (at_NoSuchElementException hEV hg) atg_NoSuchElementException hE hZ hRc hl.1 dX5_requirePart_9 dX5_requirePart_12 dX5_requirePart_13 dX5_requirePart_16 dX5_requirePart_19 hout (by rw [hRf]; decide) (by rw [hRl]; simp [vr_cat, vc_i, vc_j, vc_f, vc_d, vc_r, vc_n]) hlocks
def f_X5_requireStation (a0 : Nat) (a1 : Int32) : PM (Nat ⊕ String) := bnd (rfc 1 a0 0) (fun v1 => if v1 < 2 then bnd (f_X1_findStation v1 a1) (fun v5 => if v5 < 16 then (rtX v5) else (thr "java/util/NoSuchElementException")) else fail)
theorem yd_X5_requireStation : yX5_requireStation.cls = RX5 ∧ yX5_requireStation.cls ≠ "java/lang/invoke/MethodHandle" ∧ yX5_requireStation.cls ≠ "java/lang/invoke/VarHandle" ∧ (parseMethodDescriptor yX5_requireStation.desc).map (fun d => d.parameters.length) = some 1 := by decide +kernel
set_option maxHeartbeats 4000000 in
set_option maxRecDepth 100000 in
theorem c_X5_requireStation (l : Launch) (hfl : l.stackTraces = false) (D : va_G) (w : Wc) (aS : Nat → Nat) (sk sv : Nat) (A : Nat → Prop) (a0 : Nat) (a1 : Int32) : CX l yX5_requireStation cX5_requireStation 3 (some (.object "Lineclock$Station")) 6 100 D w (ENVC D w aS sk sv A) A [vr w.2.2.2.2 0 1 a0, .int a1] (f_X5_requireStation a0 a1) (vQ w.2.2.2.2 21 16) := by
  refine CX.ofW (by decide) [(0, vr w.2.2.2.2 0 1 a0), (1, .int a1)] (by simp [lv_args, vr_cat, vc_i, vc_j, vc_f, vc_d, vc_r, vc_n]) (by simp [lg_sl, vr_cat, vc_i, vc_j, vc_f, vc_d, vc_r, vc_n]) ?_
  intro S0 E0 R p e s m args below meth c ls hE hRf hRl hRc K0 hr hlocks hout hEV hA hZ hl
  have K0 : CallFix p m c cX5_requireStation 3 s args GW RX5 := K0
  have hx := K0.1
  have hb := K0.2.1
  have hown := K0.2.2.2.1
  have hg := K0.2.2.2.2
  have hK := hEV.1
  have hok : EVok (ENVC D w aS sk sv A) A := ENVC.ok
  unfold f_X5_requireStation at hE
  refine vr_aload_n hx hb dX5_requireStation_0 rfl (lv_at hl 0 rfl) ?_
  refine g_LC_0 K0 hK hE hZ q250 dX5_requireStation_1 (fun v1 hE => ?_)
  refine lv_iload_n hx hb dX5_requireStation_4 rfl (lv_at hl 1 rfl) ?_
  refine call_V (rest := []) K0 hK hok hEV hA (c_X1_findStation l D w aS sk sv A v1 a1) q293 q294 q295 q41 q296 yd_X1_findStation ⟨by omega, by omega⟩ hRc (ci := 3) rfl rfl (rc_LN w _) hE hZ hl.1 rfl (Nat.le_of_ble_eq_true rfl) dX5_requireStation_5 (fun v5 S H locs cells slots hE hZ => ?_)
  refine W.eq (g2 := F0 m 8 ls [vr w.2.2.2.2 21 16 v5]) rfl ?_
  refine vr_astore_n (i := 2) (lv' := [(2, vr w.2.2.2.2 21 16 v5), (0, vr w.2.2.2.2 0 1 a0), (1, .int a1)]) hx hb dX5_requireStation_8 rfl hl (by decide) rfl (fun ls hl => ?_)
  refine vr_aload_n hx hb dX5_requireStation_9 rfl (lv_at hl 0 rfl) ?_
  refine vr_ifnonnull (tgt := 24) hx hb dX5_requireStation_10 (by decide) (fun hc => ?_) (fun hc => ?_)
  · have hE := if_t hE hc
    refine vr_aload_n hx hb dX5_requireStation_24 rfl (lv_at hl 0 rfl) ?_
    exact endX_r K0 hr hlocks hE hZ dX5_requireStation_25
  · have hE := if_f hE hc
    exact thr_NW K0 hfl hEV (i := 12) q418 q52 rfl (at_NoSuchElementException hEV hg) atg_NoSuchElementException hE hZ hRc hl.1 dX5_requireStation_13 dX5_requireStation_16 dX5_requireStation_17 dX5_requireStation_20 dX5_requireStation_23 hout (by rw [hRf]; decide) (by rw [hRl]; simp [vr_cat, vc_i, vc_j, vc_f, vc_d, vc_r, vc_n]) hlocks
def f_X5_requireCar (a0 : Nat) (a1 : Int32) : PM (Nat ⊕ String) := bnd (rfc 1 a0 0) (fun v1 => if v1 < 2 then bnd (f_X1_findCar v1 a1) (fun v5 => if v5 < 60 then (rtX v5) else (thr "java/util/NoSuchElementException")) else fail)
theorem yd_X5_requireCar : yX5_requireCar.cls = RX5 ∧ yX5_requireCar.cls ≠ "java/lang/invoke/MethodHandle" ∧ yX5_requireCar.cls ≠ "java/lang/invoke/VarHandle" ∧ (parseMethodDescriptor yX5_requireCar.desc).map (fun d => d.parameters.length) = some 1 := by decide +kernel
set_option maxHeartbeats 4000000 in
set_option maxRecDepth 100000 in
theorem c_X5_requireCar (l : Launch) (hfl : l.stackTraces = false) (D : va_G) (w : Wc) (aS : Nat → Nat) (sk sv : Nat) (A : Nat → Prop) (a0 : Nat) (a1 : Int32) : CX l yX5_requireCar cX5_requireCar 3 (some (.object "Lineclock$Car")) 6 100 D w (ENVC D w aS sk sv A) A [vr w.2.2.2.2 0 1 a0, .int a1] (f_X5_requireCar a0 a1) (vQ w.2.2.2.2 37 60) := by
  refine CX.ofW (by decide) [(0, vr w.2.2.2.2 0 1 a0), (1, .int a1)] (by simp [lv_args, vr_cat, vc_i, vc_j, vc_f, vc_d, vc_r, vc_n]) (by simp [lg_sl, vr_cat, vc_i, vc_j, vc_f, vc_d, vc_r, vc_n]) ?_
  intro S0 E0 R p e s m args below meth c ls hE hRf hRl hRc K0 hr hlocks hout hEV hA hZ hl
  have K0 : CallFix p m c cX5_requireCar 3 s args GW RX5 := K0
  have hx := K0.1
  have hb := K0.2.1
  have hown := K0.2.2.2.1
  have hg := K0.2.2.2.2
  have hK := hEV.1
  have hok : EVok (ENVC D w aS sk sv A) A := ENVC.ok
  unfold f_X5_requireCar at hE
  refine vr_aload_n hx hb dX5_requireCar_0 rfl (lv_at hl 0 rfl) ?_
  refine g_LC_0 K0 hK hE hZ q250 dX5_requireCar_1 (fun v1 hE => ?_)
  refine lv_iload_n hx hb dX5_requireCar_4 rfl (lv_at hl 1 rfl) ?_
  refine call_V (rest := []) K0 hK hok hEV hA (c_X1_findCar l D w aS sk sv A v1 a1) q484 q466 q467 q41 q468 yd_X1_findCar ⟨by omega, by omega⟩ hRc (ci := 3) rfl rfl (rc_LN w _) hE hZ hl.1 rfl (Nat.le_of_ble_eq_true rfl) dX5_requireCar_5 (fun v5 S H locs cells slots hE hZ => ?_)
  refine W.eq (g2 := F0 m 8 ls [vr w.2.2.2.2 37 60 v5]) rfl ?_
  refine vr_astore_n (i := 2) (lv' := [(2, vr w.2.2.2.2 37 60 v5), (0, vr w.2.2.2.2 0 1 a0), (1, .int a1)]) hx hb dX5_requireCar_8 rfl hl (by decide) rfl (fun ls hl => ?_)
  refine vr_aload_n hx hb dX5_requireCar_9 rfl (lv_at hl 0 rfl) ?_
  refine vr_ifnonnull (tgt := 24) hx hb dX5_requireCar_10 (by decide) (fun hc => ?_) (fun hc => ?_)
  · have hE := if_t hE hc
    refine vr_aload_n hx hb dX5_requireCar_24 rfl (lv_at hl 0 rfl) ?_
    exact endX_r K0 hr hlocks hE hZ dX5_requireCar_25
  · have hE := if_f hE hc
    exact thr_NW K0 hfl hEV (i := 9) q418 q52 rfl (at_NoSuchElementException hEV hg) atg_NoSuchElementException hE hZ hRc hl.1 dX5_requireCar_13 dX5_requireCar_16 dX5_requireCar_17 dX5_requireCar_20 dX5_requireCar_23 hout (by rw [hRf]; decide) (by rw [hRl]; simp [vr_cat, vc_i, vc_j, vc_f, vc_d, vc_r, vc_n]) hlocks
def f_X5_requireStanding (a0 : Nat) (a1 : Int32) : PM (Nat ⊕ String) := if a0 < 1 then bndX (f_X5_requireCar a0 a1) (fun v2 => bnd (rdc 60 v2 15) (fun v7 => if v7 = (115 : Int32) then (rtX v2) else (thr "java/lang/IllegalStateException"))) else fail
theorem yd_X5_requireStanding : yX5_requireStanding.cls = RX5 ∧ yX5_requireStanding.cls ≠ "java/lang/invoke/MethodHandle" ∧ yX5_requireStanding.cls ≠ "java/lang/invoke/VarHandle" ∧ (parseMethodDescriptor yX5_requireStanding.desc).map (fun d => d.parameters.length) = some 1 := by decide +kernel
set_option maxHeartbeats 4000000 in
set_option maxRecDepth 100000 in
theorem c_X5_requireStanding (l : Launch) (hfl : l.stackTraces = false) (D : va_G) (w : Wc) (aS : Nat → Nat) (sk sv : Nat) (A : Nat → Prop) (a0 : Nat) (a1 : Int32) : CX l yX5_requireStanding cX5_requireStanding 3 (some (.object "Lineclock$Car")) 7 122 D w (ENVC D w aS sk sv A) A [vr w.2.2.2.2 0 1 a0, .int a1] (f_X5_requireStanding a0 a1) (vQ w.2.2.2.2 37 60) := by
  refine CX.ofW (by decide) [(0, vr w.2.2.2.2 0 1 a0), (1, .int a1)] (by simp [lv_args, vr_cat, vc_i, vc_j, vc_f, vc_d, vc_r, vc_n]) (by simp [lg_sl, vr_cat, vc_i, vc_j, vc_f, vc_d, vc_r, vc_n]) ?_
  intro S0 E0 R p e s m args below meth c ls hE hRf hRl hRc K0 hr hlocks hout hEV hA hZ hl
  have K0 : CallFix p m c cX5_requireStanding 3 s args GW RX5 := K0
  have hx := K0.1
  have hb := K0.2.1
  have hown := K0.2.2.2.1
  have hg := K0.2.2.2.2
  have hK := hEV.1
  have hok : EVok (ENVC D w aS sk sv A) A := ENVC.ok
  unfold f_X5_requireStanding at hE
  refine vr_aload_n hx hb dX5_requireStanding_0 rfl (lv_at hl 0 rfl) ?_
  refine lv_iload_n hx hb dX5_requireStanding_1 rfl (lv_at hl 1 rfl) ?_
  refine call_VX (rest := []) K0 hK hok hEV hA (c_X5_requireCar l hfl D w aS sk sv A a0 a1) q480 q482 q1 q40 q483 yd_X5_requireCar ⟨by omega, by omega⟩ hRc hout hlocks (ci := 7) rfl rfl (rc_LC w _) hE hZ hl.1 rfl (Nat.le_of_ble_eq_true rfl) dX5_requireStanding_2 (fun v2 S H locs cells slots hE hZ => ?_)
  refine W.eq (g2 := F0 m 5 ls [vr w.2.2.2.2 37 60 v2]) rfl ?_
  refine vr_astore_n (i := 2) (lv' := [(2, vr w.2.2.2.2 37 60 v2), (0, vr w.2.2.2.2 0 1 a0), (1, .int a1)]) hx hb dX5_requireStanding_5 rfl hl (by decide) rfl (fun ls hl => ?_)
  refine vr_aload_n hx hb dX5_requireStanding_6 rfl (lv_at hl 0 rfl) ?_
  refine gN_CA_3 K0 hK hE hZ (nw20 hEV) dX5_requireStanding_7 (fun v7 hE => ?_)
  refine lv_bipush (v := (115)) hx hb dX5_requireStanding_10 (by decide +kernel) ?_
  refine lv_icmp_eq (tgt := 26) hx hb dX5_requireStanding_12 (by decide) (fun hc => ?_) (fun hc => ?_)
  · have hE := if_t hE hc
    refine vr_aload_n hx hb dX5_requireStanding_26 rfl (lv_at hl 0 rfl) ?_
    exact endX_r K0 hr hlocks hE hZ dX5_requireStanding_27
  · have hE := if_f hE hc
    exact thr_SW K0 hfl hEV (i := 17) (by decide +kernel) (by decide +kernel) q382 q51 rfl (at_IllegalStateException hEV hg) atg_IllegalStateException hE hZ hRc hl.1 dX5_requireStanding_15 dX5_requireStanding_18 dX5_requireStanding_19 dX5_requireStanding_22 dX5_requireStanding_25 hout (by rw [hRf]; decide) (by rw [hRl]; simp [vr_cat, vc_i, vc_j, vc_f, vc_d, vc_r, vc_n]) hlocks
def f_X5_requireNotGone (a0 : Nat) (a1 : Int32) : PM (Unit ⊕ String) := if a0 < 1 then bndX (f_X5_requireCar a0 a1) (fun v2 => bnd (rdc 60 v2 15) (fun v5 => if v5 = (100 : Int32) then (thr "java/lang/IllegalStateException") else (rtX ()))) else fail
theorem yd_X5_requireNotGone : yX5_requireNotGone.cls = RX5 ∧ yX5_requireNotGone.cls ≠ "java/lang/invoke/MethodHandle" ∧ yX5_requireNotGone.cls ≠ "java/lang/invoke/VarHandle" ∧ (parseMethodDescriptor yX5_requireNotGone.desc).map (fun d => d.parameters.length) = some 1 := by decide +kernel
set_option maxHeartbeats 4000000 in
set_option maxRecDepth 100000 in
theorem c_X5_requireNotGone (l : Launch) (hfl : l.stackTraces = false) (D : va_G) (w : Wc) (aS : Nat → Nat) (sk sv : Nat) (A : Nat → Prop) (a0 : Nat) (a1 : Int32) : CX l yX5_requireNotGone cX5_requireNotGone 2 none 7 122 D w (ENVC D w aS sk sv A) A [vr w.2.2.2.2 0 1 a0, .int a1] (f_X5_requireNotGone a0 a1) vU := by
  refine CX.ofW (by decide) [(0, vr w.2.2.2.2 0 1 a0), (1, .int a1)] (by simp [lv_args, vr_cat, vc_i, vc_j, vc_f, vc_d, vc_r, vc_n]) (by simp [lg_sl, vr_cat, vc_i, vc_j, vc_f, vc_d, vc_r, vc_n]) ?_
  intro S0 E0 R p e s m args below meth c ls hE hRf hRl hRc K0 hr hlocks hout hEV hA hZ hl
  have K0 : CallFix p m c cX5_requireNotGone 2 s args GW RX5 := K0
  have hx := K0.1
  have hb := K0.2.1
  have hown := K0.2.2.2.1
  have hg := K0.2.2.2.2
  have hK := hEV.1
  have hok : EVok (ENVC D w aS sk sv A) A := ENVC.ok
  unfold f_X5_requireNotGone at hE
  refine vr_aload_n hx hb dX5_requireNotGone_0 rfl (lv_at hl 0 rfl) ?_
  refine lv_iload_n hx hb dX5_requireNotGone_1 rfl (lv_at hl 1 rfl) ?_
  refine call_VX (rest := []) K0 hK hok hEV hA (c_X5_requireCar l hfl D w aS sk sv A a0 a1) q480 q482 q1 q40 q483 yd_X5_requireCar ⟨by omega, by omega⟩ hRc hout hlocks (ci := 7) rfl rfl (rc_LC w _) hE hZ hl.1 rfl (Nat.le_of_ble_eq_true rfl) dX5_requireNotGone_2 (fun v2 S H locs cells slots hE hZ => ?_)
  refine W.eq (g2 := F0 m 5 ls [vr w.2.2.2.2 37 60 v2]) rfl ?_
  refine gN_CA_3 K0 hK hE hZ (nw20 hEV) dX5_requireNotGone_5 (fun v5 hE => ?_)
  refine lv_bipush (v := (100)) hx hb dX5_requireNotGone_8 (by decide +kernel) ?_
  refine lv_icmp_ne (tgt := 24) hx hb dX5_requireNotGone_10 (by decide) (fun hc => ?_) (fun hc => ?_)
  · have hE := if_f hE hc
    exact endX_v K0 hr hlocks hE hZ dX5_requireNotGone_24
  · have hE := if_t hE hc
    exact thr_SW K0 hfl hEV (i := 21) (by decide +kernel) (by decide +kernel) q382 q51 rfl (at_IllegalStateException hEV hg) atg_IllegalStateException hE hZ hRc hl.1 dX5_requireNotGone_13 dX5_requireNotGone_16 dX5_requireNotGone_17 dX5_requireNotGone_20 dX5_requireNotGone_23 hout (by rw [hRf]; decide) (by rw [hRl]; simp [vr_cat, vc_i, vc_j, vc_f, vc_d, vc_r, vc_n]) hlocks
def f_X5_requireTrace (a0 : Nat) (a1 : Int32) : PM (Nat ⊕ String) := if a0 < 1 then bndX (f_X5_requireCar a0 a1) (fun v2 => bnd (rfc 60 v2 v2) (fun v5 => if v5 < 30 then (rtX v5) else (thr "java/util/NoSuchElementException"))) else fail
theorem yd_X5_requireTrace : yX5_requireTrace.cls = RX5 ∧ yX5_requireTrace.cls ≠ "java/lang/invoke/MethodHandle" ∧ yX5_requireTrace.cls ≠ "java/lang/invoke/VarHandle" ∧ (parseMethodDescriptor yX5_requireTrace.desc).map (fun d => d.parameters.length) = some 1 := by decide +kernel
set_option maxHeartbeats 4000000 in
set_option maxRecDepth 100000 in
theorem c_X5_requireTrace (l : Launch) (hfl : l.stackTraces = false) (D : va_G) (w : Wc) (aS : Nat → Nat) (sk sv : Nat) (A : Nat → Prop) (a0 : Nat) (a1 : Int32) : CX l yX5_requireTrace cX5_requireTrace 3 (some (.object "Lineclock$Trace")) 7 122 D w (ENVC D w aS sk sv A) A [vr w.2.2.2.2 0 1 a0, .int a1] (f_X5_requireTrace a0 a1) (vQ w.2.2.2.2 97 30) := by
  refine CX.ofW (by decide) [(0, vr w.2.2.2.2 0 1 a0), (1, .int a1)] (by simp [lv_args, vr_cat, vc_i, vc_j, vc_f, vc_d, vc_r, vc_n]) (by simp [lg_sl, vr_cat, vc_i, vc_j, vc_f, vc_d, vc_r, vc_n]) ?_
  intro S0 E0 R p e s m args below meth c ls hE hRf hRl hRc K0 hr hlocks hout hEV hA hZ hl
  have K0 : CallFix p m c cX5_requireTrace 3 s args GW RX5 := K0
  have hx := K0.1
  have hb := K0.2.1
  have hown := K0.2.2.2.1
  have hg := K0.2.2.2.2
  have hK := hEV.1
  have hok : EVok (ENVC D w aS sk sv A) A := ENVC.ok
  unfold f_X5_requireTrace at hE
  refine vr_aload_n hx hb dX5_requireTrace_0 rfl (lv_at hl 0 rfl) ?_
  refine lv_iload_n hx hb dX5_requireTrace_1 rfl (lv_at hl 1 rfl) ?_
  refine call_VX (rest := []) K0 hK hok hEV hA (c_X5_requireCar l hfl D w aS sk sv A a0 a1) q480 q482 q1 q40 q483 yd_X5_requireCar ⟨by omega, by omega⟩ hRc hout hlocks (ci := 7) rfl rfl (rc_LC w _) hE hZ hl.1 rfl (Nat.le_of_ble_eq_true rfl) dX5_requireTrace_2 (fun v2 S H locs cells slots hE hZ => ?_)
  refine W.eq (g2 := F0 m 5 ls [vr w.2.2.2.2 37 60 v2]) rfl ?_
  refine gN_CA_1 K0 hK hE hZ (nw18 hEV) dX5_requireTrace_5 (fun v5 hE => ?_)
  refine vr_astore_n (i := 2) (lv' := [(2, vr w.2.2.2.2 97 30 v5), (0, vr w.2.2.2.2 0 1 a0), (1, .int a1)]) hx hb dX5_requireTrace_8 rfl hl (by decide) rfl (fun ls hl => ?_)
  refine vr_aload_n hx hb dX5_requireTrace_9 rfl (lv_at hl 0 rfl) ?_
  refine vr_ifnonnull (tgt := 24) hx hb dX5_requireTrace_10 (by decide) (fun hc => ?_) (fun hc => ?_)
  · have hE := if_t hE hc
    refine vr_aload_n hx hb dX5_requireTrace_24 rfl (lv_at hl 0 rfl) ?_
    exact endX_r K0 hr hlocks hE hZ dX5_requireTrace_25
  · have hE := if_f hE hc
    exact thr_NW K0 hfl hEV (i := 9) q418 q52 rfl (at_NoSuchElementException hEV hg) atg_NoSuchElementException hE hZ hRc hl.1 dX5_requireTrace_13 dX5_requireTrace_16 dX5_requireTrace_17 dX5_requireTrace_20 dX5_requireTrace_23 hout (by rw [hRf]; decide) (by rw [hRl]; simp [vr_cat, vc_i, vc_j, vc_f, vc_d, vc_r, vc_n]) hlocks
def f_X5_requirePlace (a0 : Nat) (a1 : Int32) : PM (Int32 ⊕ String) := if a0 < 6 then bnd (f_X2_has a0 a1) (fun v2 => if v2 = 0 then (thr "java/lang/IndexOutOfBoundsException") else (if a0 < 6 then bnd (f_X2_at a0 a1) (fun v21 => rtX v21) else fail)) else fail
theorem yd_X5_requirePlace : yX5_requirePlace.cls = RX5 ∧ yX5_requirePlace.cls ≠ "java/lang/invoke/MethodHandle" ∧ yX5_requirePlace.cls ≠ "java/lang/invoke/VarHandle" ∧ (parseMethodDescriptor yX5_requirePlace.desc).map (fun d => d.parameters.length) = some 2 := by decide +kernel
set_option maxHeartbeats 4000000 in
set_option maxRecDepth 100000 in
theorem c_X5_requirePlace (l : Launch) (hfl : l.stackTraces = false) (D : va_G) (w : Wc) (aS : Nat → Nat) (sk sv : Nat) (A : Nat → Prop) (a0 : Nat) (a1 : Int32) : CX l yX5_requirePlace cX5_requirePlace 2 (some .int) 6 100 D w (ENVC D w aS sk sv A) A [vr w.2.2.2.2 9 6 a0, .int a1] (f_X5_requirePlace a0 a1) vI := by
  refine CX.ofW (by decide) [(0, vr w.2.2.2.2 9 6 a0), (1, .int a1)] (by simp [lv_args, vr_cat, vc_i, vc_j, vc_f, vc_d, vc_r, vc_n]) (by simp [lg_sl, vr_cat, vc_i, vc_j, vc_f, vc_d, vc_r, vc_n]) ?_
  intro S0 E0 R p e s m args below meth c ls hE hRf hRl hRc K0 hr hlocks hout hEV hA hZ hl
  have K0 : CallFix p m c cX5_requirePlace 2 s args GW RX5 := K0
  have hx := K0.1
  have hb := K0.2.1
  have hown := K0.2.2.2.1
  have hg := K0.2.2.2.2
  have hK := hEV.1
  have hok : EVok (ENVC D w aS sk sv A) A := ENVC.ok
  unfold f_X5_requirePlace at hE
  refine vr_aload_n hx hb dX5_requirePlace_0 rfl (lv_at hl 0 rfl) ?_
  refine lv_iload_n hx hb dX5_requirePlace_1 rfl (lv_at hl 1 rfl) ?_
  refine call_V (rest := []) K0 hK hok hEV hA (c_X2_has l D w aS sk sv A a0 a1) q828 q497 q498 q42 q499 yd_X2_has ⟨by omega, by omega⟩ hRc (ci := 4) rfl rfl (rc_RO w _) hE hZ hl.1 rfl (Nat.le_of_ble_eq_true rfl) dX5_requirePlace_2 (fun v2 S H locs cells slots hE hZ => ?_)
  refine W.eq (g2 := F0 m 5 ls [.int v2]) rfl ?_
  refine lv_if_ne (tgt := 19) hx hb dX5_requirePlace_5 (by decide) (fun hc => ?_) (fun hc => ?_)
  · have hE := if_f hE hc
    refine vr_aload_n hx hb dX5_requirePlace_19 rfl (lv_at hl 0 rfl) ?_
    refine lv_iload_n hx hb dX5_requirePlace_20 rfl (lv_at hl 1 rfl) ?_
    refine call_V (rest := []) K0 hK hok hEV hA (c_X2_at l D w aS sk sv A a0 a1) q842 q493 q494 q42 q495 yd_X2_at ⟨by omega, by omega⟩ hRc (ci := 4) rfl rfl (rc_RO w _) hE hZ hl.1 rfl (Nat.le_of_ble_eq_true rfl) dX5_requirePlace_21 (fun v21 S H locs cells slots hE hZ => ?_)
    refine W.eq (g2 := F0 m 24 ls [.int v21]) rfl ?_
    exact endX_i K0 hr hlocks hE hZ dX5_requirePlace_24
  · have hE := if_t hE hc
    exact thr_SW K0 hfl hEV (i := 19) (by decide +kernel) (by decide +kernel) q829 q61 rfl (at_IndexOutOfBoundsException hEV hg) atg_IndexOutOfBoundsException hE hZ hRc hl.1 dX5_requirePlace_8 dX5_requirePlace_11 dX5_requirePlace_12 dX5_requirePlace_15 dX5_requirePlace_18 hout (by rw [hRf]; decide) (by rw [hRl]; simp [vr_cat, vc_i, vc_j, vc_f, vc_d, vc_r, vc_n]) hlocks
def f_X5_addStation_J19  : PM (Int32 ⊕ String) := thr "java/lang/IllegalArgumentException"
def f_X5_addStation_J86  : PM (Int32 ⊕ String) := thr "java/lang/IllegalStateException"
def f_X5_addStation_J64 (u0 : Nat) (u1 : Int32) (u2 : Int32) (u3 : Int32) (u4 : Int32) : PM (Int32 ⊕ String) := bnd (rfc 1 u0 0) (fun v65 => bnd (rdc 2 v65 0) (fun v68 => if (8 : Int32) ≤ v68 then (f_X5_addStation_J86) else (bnd (rfc 1 u0 0) (fun v77 => bnd (rdc 2 v77 2) (fun v80 => if v80 ≤ 0 then (bnd (rfc 1 u0 0) (fun v97 => if v97 < 2 then bnd (f_X1_appendStation v97 u1 u2 u3 u4) (fun v105 => rtX v105) else fail)) else (f_X5_addStation_J86))))))
def f_X5_addStation_J54  : PM (Int32 ⊕ String) := thr "java/lang/IllegalArgumentException"
def f_X5_addStation (a0 : Nat) (a1 : Int32) (a2 : Int32) (a3 : Int32) (a4 : Int32) : PM (Int32 ⊕ String) := bnd (f_X5_isWithin a1 (1 : Int32) (9 : Int32)) (fun v4 => if v4 = 0 then (f_X5_addStation_J19) else (bnd (f_X5_isWithin a2 (-1 : Int32) (5 : Int32)) (fun v13 => if v13 = 0 then (f_X5_addStation_J19) else (if a2 = (-1 : Int32) then (f_X5_addStation_J64 a0 a1 a2 a3 a4) else (bnd (f_X5_isWithin a3 (1 : Int32) (4 : Int32)) (fun v37 => if v37 = 0 then (f_X5_addStation_J54) else (bnd (f_X5_isWithin a4 (4 : Int32) (30 : Int32)) (fun v48 => if v48 = 0 then (f_X5_addStation_J54) else (f_X5_addStation_J64 a0 a1 a2 a3 a4)))))))))
theorem yd_X5_addStation : yX5_addStation.cls = RX5 ∧ yX5_addStation.cls ≠ "java/lang/invoke/MethodHandle" ∧ yX5_addStation.cls ≠ "java/lang/invoke/VarHandle" ∧ (parseMethodDescriptor yX5_addStation.desc).map (fun d => d.parameters.length) = some 4 := by decide +kernel
set_option maxHeartbeats 4000000 in
set_option maxRecDepth 100000 in
theorem c_X5_addStation (l : Launch) (hfl : l.stackTraces = false) (D : va_G) (w : Wc) (aS : Nat → Nat) (sk sv : Nat) (A : Nat → Prop) (a0 : Nat) (a1 : Int32) (a2 : Int32) (a3 : Int32) (a4 : Int32) : CX l yX5_addStation cX5_addStation 5 (some .int) 6 100 D w (ENVC D w aS sk sv A) A [vr w.2.2.2.2 0 1 a0, .int a1, .int a2, .int a3, .int a4] (f_X5_addStation a0 a1 a2 a3 a4) vI := by
  refine CX.ofW (by decide) [(0, vr w.2.2.2.2 0 1 a0), (1, .int a1), (2, .int a2), (3, .int a3), (4, .int a4)] (by simp [lv_args, vr_cat, vc_i, vc_j, vc_f, vc_d, vc_r, vc_n]) (by simp [lg_sl, vr_cat, vc_i, vc_j, vc_f, vc_d, vc_r, vc_n]) ?_
  intro S0 E0 R p e s m args below meth c ls hE hRf hRl hRc K0 hr hlocks hout hEV hA hZ hl
  have K0 : CallFix p m c cX5_addStation 5 s args GW RX5 := K0
  have hx := K0.1
  have hb := K0.2.1
  have hown := K0.2.2.2.1
  have hg := K0.2.2.2.2
  have hK := hEV.1
  have hok : EVok (ENVC D w aS sk sv A) A := ENVC.ok
  have j19 : ∀ (S : St) (H : Heap) (locs : List Loc) (cells slots : Nat) (ls : Array Slot), (f_X5_addStation_J19 ).1 S = some E0 → ZZ D 187 (adrC w) (celC w) A S0 s.heap S H locs cells slots → lv_has ls 5 [] → W p l e R s m args below meth c H locs cells slots (vx_MQ below (QX E0 vI D w A) (XX E0 D w A) args s (gN E0.2 7 0 - gN S0 7 0) (gN E0.2 3 0 - gN S0 3 0) A) (F0 m 19 ls []) := by
    intro  S H locs cells slots ls hE hZ hl
    unfold f_X5_addStation_J19 at hE
    exact thr_S K0 hfl hEV (i := 0) (by decide +kernel) (by decide +kernel) q309 q50 rfl (at_IllegalArgumentException hEV hg) atg_IllegalArgumentException hE hZ hRc hl.1 dX5_addStation_19 dX5_addStation_22 dX5_addStation_23 dX5_addStation_25 dX5_addStation_28 hout (by rw [hRf]; decide) (by rw [hRl]; simp [vr_cat, vc_i, vc_j, vc_f, vc_d, vc_r, vc_n]) hlocks
  have j86 : ∀ (S : St) (H : Heap) (locs : List Loc) (cells slots : Nat) (ls : Array Slot), (f_X5_addStation_J86 ).1 S = some E0 → ZZ D 187 (adrC w) (celC w) A S0 s.heap S H locs cells slots → lv_has ls 5 [] → W p l e R s m args below meth c H locs cells slots (vx_MQ below (QX E0 vI D w A) (XX E0 D w A) args s (gN E0.2 7 0 - gN S0 7 0) (gN E0.2 3 0 - gN S0 3 0) A) (F0 m 86 ls []) := by
    intro  S H locs cells slots ls hE hZ hl
    unfold f_X5_addStation_J86 at hE
    exact thr_S K0 hfl hEV (i := 2) (by decide +kernel) (by decide +kernel) q382 q51 rfl (at_IllegalStateException hEV hg) atg_IllegalStateException hE hZ hRc hl.1 dX5_addStation_86 dX5_addStation_89 dX5_addStation_90 dX5_addStation_92 dX5_addStation_95 hout (by rw [hRf]; decide) (by rw [hRl]; simp [vr_cat, vc_i, vc_j, vc_f, vc_d, vc_r, vc_n]) hlocks
  have j64 : ∀ (u0 : Nat) (u1 : Int32) (u2 : Int32) (u3 : Int32) (u4 : Int32) (S : St) (H : Heap) (locs : List Loc) (cells slots : Nat) (ls : Array Slot), (f_X5_addStation_J64 u0 u1 u2 u3 u4).1 S = some E0 → ZZ D 187 (adrC w) (celC w) A S0 s.heap S H locs cells slots → lv_has ls 5 [(0, vr w.2.2.2.2 0 1 u0), (1, .int u1), (2, .int u2), (3, .int u3), (4, .int u4)] → W p l e R s m args below meth c H locs cells slots (vx_MQ below (QX E0 vI D w A) (XX E0 D w A) args s (gN E0.2 7 0 - gN S0 7 0) (gN E0.2 3 0 - gN S0 3 0) A) (F0 m 64 ls []) := by
    intro u0 u1 u2 u3 u4 S H locs cells slots ls hE hZ hl
    unfold f_X5_addStation_J64 at hE
    refine vr_aload_n hx hb dX5_addStation_64 rfl (lv_at hl 0 rfl) ?_
    refine g_LC_0 K0 hK hE hZ q250 dX5_addStation_65 (fun v65 hE => ?_)
    refine gN_LN_6 K0 hK hE hZ (nw36 hEV) dX5_addStation_68 (fun v68 hE => ?_)
    refine lv_bipush (v := (8)) hx hb dX5_addStation_71 (by decide +kernel) ?_
    refine lv_icmp_ge (tgt := 86) hx hb dX5_addStation_73 (by decide) (fun hc => ?_) (fun hc => ?_)
    · have hE := if_t hE hc
      exact j86  _ _ _ _ _ _ hE hZ (lv_sub hl [] rfl)
    · have hE := if_f hE hc
      refine vr_aload_n hx hb dX5_addStation_76 rfl (lv_at hl 0 rfl) ?_
      refine g_LC_0 K0 hK hE hZ q250 dX5_addStation_77 (fun v77 hE => ?_)
      refine gN_LN_8 K0 hK hE hZ (nw38 hEV) dX5_addStation_80 (fun v80 hE => ?_)
      refine lv_if_le (tgt := 96) hx hb dX5_addStation_83 (by decide) (fun hc => ?_) (fun hc => ?_)
      · have hE := if_t hE hc
        refine vr_aload_n hx hb dX5_addStation_96 rfl (lv_at hl 0 rfl) ?_
        refine g_LC_0 K0 hK hE hZ q250 dX5_addStation_97 (fun v97 hE => ?_)
        refine lv_iload_n hx hb dX5_addStation_100 rfl (lv_at hl 1 rfl) ?_
        refine lv_iload_n hx hb dX5_addStation_101 rfl (lv_at hl 2 rfl) ?_
        refine lv_iload_n hx hb dX5_addStation_102 rfl (lv_at hl 3 rfl) ?_
        refine lv_iload hx hb dX5_addStation_103 (lv_at hl 4 rfl) ?_
        refine call_V (rest := []) K0 hK hok hEV hA (c_X1_appendStation l D w aS sk sv A v97 u1 u2 u3 u4) q398 q399 q400 q41 q401 yd_X1_appendStation ⟨by omega, by omega⟩ hRc (ci := 3) rfl rfl (rc_LN w _) hE hZ hl.1 rfl (Nat.le_of_ble_eq_true rfl) dX5_addStation_105 (fun v105 S H locs cells slots hE hZ => ?_)
        refine W.eq (g2 := F0 m 108 ls [.int v105]) rfl ?_
        exact endX_i K0 hr hlocks hE hZ dX5_addStation_108
      · have hE := if_f hE hc
        exact j86  _ _ _ _ _ _ hE hZ (lv_sub hl [] rfl)
  have j54 : ∀ (S : St) (H : Heap) (locs : List Loc) (cells slots : Nat) (ls : Array Slot), (f_X5_addStation_J54 ).1 S = some E0 → ZZ D 187 (adrC w) (celC w) A S0 s.heap S H locs cells slots → lv_has ls 5 [] → W p l e R s m args below meth c H locs cells slots (vx_MQ below (QX E0 vI D w A) (XX E0 D w A) args s (gN E0.2 7 0 - gN S0 7 0) (gN E0.2 3 0 - gN S0 3 0) A) (F0 m 54 ls []) := by
    intro  S H locs cells slots ls hE hZ hl
    unfold f_X5_addStation_J54 at hE
    exact thr_S K0 hfl hEV (i := 1) (by decide +kernel) (by decide +kernel) q309 q50 rfl (at_IllegalArgumentException hEV hg) atg_IllegalArgumentException hE hZ hRc hl.1 dX5_addStation_54 dX5_addStation_57 dX5_addStation_58 dX5_addStation_60 dX5_addStation_63 hout (by rw [hRf]; decide) (by rw [hRl]; simp [vr_cat, vc_i, vc_j, vc_f, vc_d, vc_r, vc_n]) hlocks
  unfold f_X5_addStation at hE
  refine lv_iload_n hx hb dX5_addStation_0 rfl (lv_at hl 1 rfl) ?_
  refine lv_iconst (v := (1)) hx hb dX5_addStation_1 (by decide +kernel) ?_
  refine lv_bipush (v := (9)) hx hb dX5_addStation_2 (by decide +kernel) ?_
  refine call_S (rest := []) K0 hok hEV hA (c_X5_isWithin l D w aS sk sv A a1 (1 : Int32) (9 : Int32)) q306 q307 q40 q308 yd_X5_isWithin ⟨by omega, by omega⟩ hRc hE hZ hl.1 rfl (Nat.le_of_ble_eq_true rfl) dX5_addStation_4 (fun v4 S H locs cells slots hE hZ => ?_)
  refine W.eq (g2 := F0 m 7 ls [.int v4]) rfl ?_
  refine lv_if_eq (tgt := 19) hx hb dX5_addStation_7 (by decide) (fun hc => ?_) (fun hc => ?_)
  · have hE := if_t hE hc
    exact j19  _ _ _ _ _ _ hE hZ (lv_sub hl [] rfl)
  · have hE := if_f hE hc
    refine lv_iload_n hx hb dX5_addStation_10 rfl (lv_at hl 2 rfl) ?_
    refine lv_iconst (v := (-1)) hx hb dX5_addStation_11 (by decide +kernel) ?_
    refine lv_iconst (v := (5)) hx hb dX5_addStation_12 (by decide +kernel) ?_
    refine call_S (rest := []) K0 hok hEV hA (c_X5_isWithin l D w aS sk sv A a2 (-1 : Int32) (5 : Int32)) q306 q307 q40 q308 yd_X5_isWithin ⟨by omega, by omega⟩ hRc hE hZ hl.1 rfl (Nat.le_of_ble_eq_true rfl) dX5_addStation_13 (fun v13 S H locs cells slots hE hZ => ?_)
    refine W.eq (g2 := F0 m 16 ls [.int v13]) rfl ?_
    refine lv_if_ne (tgt := 29) hx hb dX5_addStation_16 (by decide) (fun hc => ?_) (fun hc => ?_)
    · have hE := if_f hE hc
      refine lv_iload_n hx hb dX5_addStation_29 rfl (lv_at hl 2 rfl) ?_
      refine lv_iconst (v := (-1)) hx hb dX5_addStation_30 (by decide +kernel) ?_
      refine lv_icmp_eq (tgt := 64) hx hb dX5_addStation_31 (by decide) (fun hc => ?_) (fun hc => ?_)
      · have hE := if_t hE hc
        exact j64 a0 a1 a2 a3 a4 _ _ _ _ _ _ hE hZ (lv_sub hl [0, 1, 2, 3, 4] rfl)
      · have hE := if_f hE hc
        refine lv_iload_n hx hb dX5_addStation_34 rfl (lv_at hl 3 rfl) ?_
        refine lv_iconst (v := (1)) hx hb dX5_addStation_35 (by decide +kernel) ?_
        refine lv_iconst (v := (4)) hx hb dX5_addStation_36 (by decide +kernel) ?_
        refine call_S (rest := []) K0 hok hEV hA (c_X5_isWithin l D w aS sk sv A a3 (1 : Int32) (4 : Int32)) q306 q307 q40 q308 yd_X5_isWithin ⟨by omega, by omega⟩ hRc hE hZ hl.1 rfl (Nat.le_of_ble_eq_true rfl) dX5_addStation_37 (fun v37 S H locs cells slots hE hZ => ?_)
        refine W.eq (g2 := F0 m 40 ls [.int v37]) rfl ?_
        refine lv_if_eq (tgt := 54) hx hb dX5_addStation_40 (by decide) (fun hc => ?_) (fun hc => ?_)
        · have hE := if_t hE hc
          exact j54  _ _ _ _ _ _ hE hZ (lv_sub hl [] rfl)
        · have hE := if_f hE hc
          refine lv_iload hx hb dX5_addStation_43 (lv_at hl 4 rfl) ?_
          refine lv_iconst (v := (4)) hx hb dX5_addStation_45 (by decide +kernel) ?_
          refine lv_bipush (v := (30)) hx hb dX5_addStation_46 (by decide +kernel) ?_
          refine call_S (rest := []) K0 hok hEV hA (c_X5_isWithin l D w aS sk sv A a4 (4 : Int32) (30 : Int32)) q306 q307 q40 q308 yd_X5_isWithin ⟨by omega, by omega⟩ hRc hE hZ hl.1 rfl (Nat.le_of_ble_eq_true rfl) dX5_addStation_48 (fun v48 S H locs cells slots hE hZ => ?_)
          refine W.eq (g2 := F0 m 51 ls [.int v48]) rfl ?_
          refine lv_if_ne (tgt := 64) hx hb dX5_addStation_51 (by decide) (fun hc => ?_) (fun hc => ?_)
          · have hE := if_f hE hc
            exact j64 a0 a1 a2 a3 a4 _ _ _ _ _ _ hE hZ (lv_sub hl [0, 1, 2, 3, 4] rfl)
          · have hE := if_t hE hc
            exact j54  _ _ _ _ _ _ hE hZ (lv_sub hl [] rfl)
    · have hE := if_t hE hc
      exact j19  _ _ _ _ _ _ hE hZ (lv_sub hl [] rfl)
def f_X5_supply (a0 : Nat) (a1 : Int32) (a2 : Int32) : PM (Int32 ⊕ String) := bndX (f_X5_requirePart a1) (fun _ => bnd (f_X5_isWithin a2 (1 : Int32) (99 : Int32)) (fun v8 => if v8 = 0 then (thr "java/lang/IllegalArgumentException") else (bnd (rfc 1 a0 0) (fun v25 => if v25 < 2 then bnd (f_X1_unitsOf v25 a1) (fun v29 => if (v29 + a2) ≤ (999 : Int32) then (bnd (rfc 1 a0 0) (fun v51 => if v51 < 2 then bnd (f_X1_changeUnits v51 a1 a2) (fun _ => bnd (rfc 1 a0 0) (fun v60 => if v60 < 2 then bnd (f_X1_unitsOf v60 a1) (fun v64 => rtX v64) else fail)) else fail)) else (thr "java/lang/IllegalStateException")) else fail))))
theorem yd_X5_supply : yX5_supply.cls = RX5 ∧ yX5_supply.cls ≠ "java/lang/invoke/MethodHandle" ∧ yX5_supply.cls ≠ "java/lang/invoke/VarHandle" ∧ (parseMethodDescriptor yX5_supply.desc).map (fun d => d.parameters.length) = some 2 := by decide +kernel
set_option maxHeartbeats 4000000 in
set_option maxRecDepth 100000 in
theorem c_X5_supply (l : Launch) (hfl : l.stackTraces = false) (D : va_G) (w : Wc) (aS : Nat → Nat) (sk sv : Nat) (A : Nat → Prop) (a0 : Nat) (a1 : Int32) (a2 : Int32) : CX l yX5_supply cX5_supply 3 (some .int) 7 120 D w (ENVC D w aS sk sv A) A [vr w.2.2.2.2 0 1 a0, .int a1, .int a2] (f_X5_supply a0 a1 a2) vI := by
  refine CX.ofW (by decide) [(0, vr w.2.2.2.2 0 1 a0), (1, .int a1), (2, .int a2)] (by simp [lv_args, vr_cat, vc_i, vc_j, vc_f, vc_d, vc_r, vc_n]) (by simp [lg_sl, vr_cat, vc_i, vc_j, vc_f, vc_d, vc_r, vc_n]) ?_
  intro S0 E0 R p e s m args below meth c ls hE hRf hRl hRc K0 hr hlocks hout hEV hA hZ hl
  have K0 : CallFix p m c cX5_supply 3 s args GW RX5 := K0
  have hx := K0.1
  have hb := K0.2.1
  have hown := K0.2.2.2.1
  have hg := K0.2.2.2.2
  have hK := hEV.1
  have hok : EVok (ENVC D w aS sk sv A) A := ENVC.ok
  unfold f_X5_supply at hE
  refine lv_iload_n hx hb dX5_supply_0 rfl (lv_at hl 1 rfl) ?_
  refine call_SX (rest := []) K0 hok hEV hA (c_X5_requirePart l hfl D w aS sk sv A a1) q415 q416 q40 q417 yd_X5_requirePart ⟨by omega, by omega⟩ hRc hout hlocks hE hZ hl.1 rfl (Nat.le_of_ble_eq_true rfl) dX5_supply_1 (fun v1 S H locs cells slots hE hZ => ?_)
  refine W.eq (g2 := F0 m 4 ls []) rfl ?_
  refine lv_iload_n hx hb dX5_supply_4 rfl (lv_at hl 2 rfl) ?_
  refine lv_iconst (v := (1)) hx hb dX5_supply_5 (by decide +kernel) ?_
  refine lv_bipush (v := (99)) hx hb dX5_supply_6 (by decide +kernel) ?_
  refine call_S (rest := []) K0 hok hEV hA (c_X5_isWithin l D w aS sk sv A a2 (1 : Int32) (99 : Int32)) q306 q307 q40 q308 yd_X5_isWithin ⟨by omega, by omega⟩ hRc hE hZ hl.1 rfl (Nat.le_of_ble_eq_true rfl) dX5_supply_8 (fun v8 S H locs cells slots hE hZ => ?_)
  refine W.eq (g2 := F0 m 11 ls [.int v8]) rfl ?_
  refine lv_if_ne (tgt := 24) hx hb dX5_supply_11 (by decide) (fun hc => ?_) (fun hc => ?_)
  · have hE := if_f hE hc
    refine vr_aload_n hx hb dX5_supply_24 rfl (lv_at hl 0 rfl) ?_
    refine g_LC_0 K0 hK hE hZ q250 dX5_supply_25 (fun v25 hE => ?_)
    refine lv_iload_n hx hb dX5_supply_28 rfl (lv_at hl 1 rfl) ?_
    refine call_V (rest := []) K0 hK hok hEV hA (c_X1_unitsOf l D w aS sk sv A v25 a1) q435 q436 q437 q41 q438 yd_X1_unitsOf ⟨by omega, by omega⟩ hRc (ci := 3) rfl rfl (rc_LN w _) hE hZ hl.1 rfl (Nat.le_of_ble_eq_true rfl) dX5_supply_29 (fun v29 S H locs cells slots hE hZ => ?_)
    refine W.eq (g2 := F0 m 32 ls [.int v29]) rfl ?_
    refine lv_iload_n hx hb dX5_supply_32 rfl (lv_at hl 2 rfl) ?_
    refine lv_iadd hx hb dX5_supply_33 ?_
    refine lv_sipush (v := (999)) hx hb dX5_supply_34 (by decide +kernel) ?_
    refine lv_icmp_le (tgt := 50) hx hb dX5_supply_37 (by decide) (fun hc => ?_) (fun hc => ?_)
    · have hE := if_t hE hc
      refine vr_aload_n hx hb dX5_supply_50 rfl (lv_at hl 0 rfl) ?_
      refine g_LC_0 K0 hK hE hZ q250 dX5_supply_51 (fun v51 hE => ?_)
      refine lv_iload_n hx hb dX5_supply_54 rfl (lv_at hl 1 rfl) ?_
      refine lv_iload_n hx hb dX5_supply_55 rfl (lv_at hl 2 rfl) ?_
      refine call_V (rest := []) K0 hK hok hEV hA (c_X1_changeUnits l D w aS sk sv A v51 a1 a2) q440 q441 q442 q41 q443 yd_X1_changeUnits ⟨by omega, by omega⟩ hRc (ci := 3) rfl rfl (rc_LN w _) hE hZ hl.1 rfl (Nat.le_of_ble_eq_true rfl) dX5_supply_56 (fun v56 S H locs cells slots hE hZ => ?_)
      refine W.eq (g2 := F0 m 59 ls []) rfl ?_
      refine vr_aload_n hx hb dX5_supply_59 rfl (lv_at hl 0 rfl) ?_
      refine g_LC_0 K0 hK hE hZ q250 dX5_supply_60 (fun v60 hE => ?_)
      refine lv_iload_n hx hb dX5_supply_63 rfl (lv_at hl 1 rfl) ?_
      refine call_V (rest := []) K0 hK hok hEV hA (c_X1_unitsOf l D w aS sk sv A v60 a1) q435 q436 q437 q41 q438 yd_X1_unitsOf ⟨by omega, by omega⟩ hRc (ci := 3) rfl rfl (rc_LN w _) hE hZ hl.1 rfl (Nat.le_of_ble_eq_true rfl) dX5_supply_64 (fun v64 S H locs cells slots hE hZ => ?_)
      refine W.eq (g2 := F0 m 67 ls [.int v64]) rfl ?_
      exact endX_i K0 hr hlocks hE hZ dX5_supply_67
    · have hE := if_f hE hc
      exact thr_S K0 hfl hEV (i := 5) (by decide +kernel) (by decide +kernel) q382 q51 rfl (at_IllegalStateException hEV hg) atg_IllegalStateException hE hZ hRc hl.1 dX5_supply_40 dX5_supply_43 dX5_supply_44 dX5_supply_46 dX5_supply_49 hout (by rw [hRf]; decide) (by rw [hRl]; simp [vr_cat, vc_i, vc_j, vc_f, vc_d, vc_r, vc_n]) hlocks
  · have hE := if_t hE hc
    exact thr_S K0 hfl hEV (i := 4) (by decide +kernel) (by decide +kernel) q309 q50 rfl (at_IllegalArgumentException hEV hg) atg_IllegalArgumentException hE hZ hRc hl.1 dX5_supply_14 dX5_supply_17 dX5_supply_18 dX5_supply_20 dX5_supply_23 hout (by rw [hRf]; decide) (by rw [hRl]; simp [vr_cat, vc_i, vc_j, vc_f, vc_d, vc_r, vc_n]) hlocks
def f_X5_setPeriod (a0 : Nat) (a1 : Int32) : PM (Int32 ⊕ String) := bnd (f_X5_isWithin a1 (1 : Int32) (60 : Int32)) (fun v4 => if v4 = 0 then (thr "java/lang/IllegalArgumentException") else (bnd (rfc 1 a0 0) (fun v21 => bnd (rdc 2 v21 3) (fun v24 => bnd (rfc 1 a0 0) (fun v29 => bnd (wrc 2 v29 3 a1) (fun _ => rtX v24))))))
theorem yd_X5_setPeriod : yX5_setPeriod.cls = RX5 ∧ yX5_setPeriod.cls ≠ "java/lang/invoke/MethodHandle" ∧ yX5_setPeriod.cls ≠ "java/lang/invoke/VarHandle" ∧ (parseMethodDescriptor yX5_setPeriod.desc).map (fun d => d.parameters.length) = some 1 := by decide +kernel
set_option maxHeartbeats 4000000 in
set_option maxRecDepth 100000 in
theorem c_X5_setPeriod (l : Launch) (hfl : l.stackTraces = false) (D : va_G) (w : Wc) (aS : Nat → Nat) (sk sv : Nat) (A : Nat → Prop) (a0 : Nat) (a1 : Int32) : CX l yX5_setPeriod cX5_setPeriod 3 (some .int) 6 100 D w (ENVC D w aS sk sv A) A [vr w.2.2.2.2 0 1 a0, .int a1] (f_X5_setPeriod a0 a1) vI := by
  refine CX.ofW (by decide) [(0, vr w.2.2.2.2 0 1 a0), (1, .int a1)] (by simp [lv_args, vr_cat, vc_i, vc_j, vc_f, vc_d, vc_r, vc_n]) (by simp [lg_sl, vr_cat, vc_i, vc_j, vc_f, vc_d, vc_r, vc_n]) ?_
  intro S0 E0 R p e s m args below meth c ls hE hRf hRl hRc K0 hr hlocks hout hEV hA hZ hl
  have K0 : CallFix p m c cX5_setPeriod 3 s args GW RX5 := K0
  have hx := K0.1
  have hb := K0.2.1
  have hown := K0.2.2.2.1
  have hg := K0.2.2.2.2
  have hK := hEV.1
  have hok : EVok (ENVC D w aS sk sv A) A := ENVC.ok
  unfold f_X5_setPeriod at hE
  refine lv_iload_n hx hb dX5_setPeriod_0 rfl (lv_at hl 1 rfl) ?_
  refine lv_iconst (v := (1)) hx hb dX5_setPeriod_1 (by decide +kernel) ?_
  refine lv_bipush (v := (60)) hx hb dX5_setPeriod_2 (by decide +kernel) ?_
  refine call_S (rest := []) K0 hok hEV hA (c_X5_isWithin l D w aS sk sv A a1 (1 : Int32) (60 : Int32)) q306 q307 q40 q308 yd_X5_isWithin ⟨by omega, by omega⟩ hRc hE hZ hl.1 rfl (Nat.le_of_ble_eq_true rfl) dX5_setPeriod_4 (fun v4 S H locs cells slots hE hZ => ?_)
  refine W.eq (g2 := F0 m 7 ls [.int v4]) rfl ?_
  refine lv_if_ne (tgt := 20) hx hb dX5_setPeriod_7 (by decide) (fun hc => ?_) (fun hc => ?_)
  · have hE := if_f hE hc
    refine vr_aload_n hx hb dX5_setPeriod_20 rfl (lv_at hl 0 rfl) ?_
    refine g_LC_0 K0 hK hE hZ q250 dX5_setPeriod_21 (fun v21 hE => ?_)
    refine gN_LN_9 K0 hK hE hZ (nw39 hEV) dX5_setPeriod_24 (fun v24 hE => ?_)
    refine lv_istore_n (i := 2) (lv' := [(2, .int v24), (0, vr w.2.2.2.2 0 1 a0), (1, .int a1)]) hx hb dX5_setPeriod_27 rfl hl (by decide) rfl (fun ls hl => ?_)
    refine vr_aload_n hx hb dX5_setPeriod_28 rfl (lv_at hl 1 rfl) ?_
    refine g_LC_0 K0 hK hE hZ q250 dX5_setPeriod_29 (fun v29 hE => ?_)
    refine lv_iload_n hx hb dX5_setPeriod_32 rfl (lv_at hl 2 rfl) ?_
    refine pN_LN_9 K0 hK hE hZ (nw39 hEV) dX5_setPeriod_33 (fun S H locs hE hZ => ?_)
    refine lv_iload_n hx hb dX5_setPeriod_36 rfl (lv_at hl 0 rfl) ?_
    exact endX_i K0 hr hlocks hE hZ dX5_setPeriod_37
  · have hE := if_t hE hc
    exact thr_S K0 hfl hEV (i := 6) (by decide +kernel) (by decide +kernel) q309 q50 rfl (at_IllegalArgumentException hEV hg) atg_IllegalArgumentException hE hZ hRc hl.1 dX5_setPeriod_10 dX5_setPeriod_13 dX5_setPeriod_14 dX5_setPeriod_16 dX5_setPeriod_19 hout (by rw [hRf]; decide) (by rw [hRl]; simp [vr_cat, vc_i, vc_j, vc_f, vc_d, vc_r, vc_n]) hlocks
def f_X5_addCar_J42  : PM (Int32 ⊕ String) := thr "java/lang/IllegalStateException"
def f_X5_addCar (a0 : Nat) (a1 : Int32) : PM (Int32 ⊕ String) := bnd (f_X5_isWithin a1 (0 : Int32) (63 : Int32)) (fun v4 => if v4 = 0 then (thr "java/lang/IllegalArgumentException") else (bnd (rfc 1 a0 0) (fun v21 => bnd (rdc 2 v21 1) (fun v24 => if (30 : Int32) ≤ v24 then (f_X5_addCar_J42) else (bnd (rfc 1 a0 0) (fun v33 => bnd (rdc 2 v33 0) (fun v36 => if v36 = 0 then (f_X5_addCar_J42) else (bnd (rfc 1 a0 0) (fun v53 => if v53 < 2 then bnd (f_X1_appendCar v53 a1) (fun v57 => rtX v57) else fail)))))))))
theorem yd_X5_addCar : yX5_addCar.cls = RX5 ∧ yX5_addCar.cls ≠ "java/lang/invoke/MethodHandle" ∧ yX5_addCar.cls ≠ "java/lang/invoke/VarHandle" ∧ (parseMethodDescriptor yX5_addCar.desc).map (fun d => d.parameters.length) = some 1 := by decide +kernel
set_option maxHeartbeats 4000000 in
set_option maxRecDepth 100000 in
theorem c_X5_addCar (l : Launch) (hfl : l.stackTraces = false) (D : va_G) (w : Wc) (aS : Nat → Nat) (sk sv : Nat) (A : Nat → Prop) (a0 : Nat) (a1 : Int32) : CX l yX5_addCar cX5_addCar 2 (some .int) 6 100 D w (ENVC D w aS sk sv A) A [vr w.2.2.2.2 0 1 a0, .int a1] (f_X5_addCar a0 a1) vI := by
  refine CX.ofW (by decide) [(0, vr w.2.2.2.2 0 1 a0), (1, .int a1)] (by simp [lv_args, vr_cat, vc_i, vc_j, vc_f, vc_d, vc_r, vc_n]) (by simp [lg_sl, vr_cat, vc_i, vc_j, vc_f, vc_d, vc_r, vc_n]) ?_
  intro S0 E0 R p e s m args below meth c ls hE hRf hRl hRc K0 hr hlocks hout hEV hA hZ hl
  have K0 : CallFix p m c cX5_addCar 2 s args GW RX5 := K0
  have hx := K0.1
  have hb := K0.2.1
  have hown := K0.2.2.2.1
  have hg := K0.2.2.2.2
  have hK := hEV.1
  have hok : EVok (ENVC D w aS sk sv A) A := ENVC.ok
  have j42 : ∀ (S : St) (H : Heap) (locs : List Loc) (cells slots : Nat) (ls : Array Slot), (f_X5_addCar_J42 ).1 S = some E0 → ZZ D 187 (adrC w) (celC w) A S0 s.heap S H locs cells slots → lv_has ls 2 [] → W p l e R s m args below meth c H locs cells slots (vx_MQ below (QX E0 vI D w A) (XX E0 D w A) args s (gN E0.2 7 0 - gN S0 7 0) (gN E0.2 3 0 - gN S0 3 0) A) (F0 m 42 ls []) := by
    intro  S H locs cells slots ls hE hZ hl
    unfold f_X5_addCar_J42 at hE
    exact thr_S K0 hfl hEV (i := 8) (by decide +kernel) (by decide +kernel) q382 q51 rfl (at_IllegalStateException hEV hg) atg_IllegalStateException hE hZ hRc hl.1 dX5_addCar_42 dX5_addCar_45 dX5_addCar_46 dX5_addCar_48 dX5_addCar_51 hout (by rw [hRf]; decide) (by rw [hRl]; simp [vr_cat, vc_i, vc_j, vc_f, vc_d, vc_r, vc_n]) hlocks
  unfold f_X5_addCar at hE
  refine lv_iload_n hx hb dX5_addCar_0 rfl (lv_at hl 1 rfl) ?_
  refine lv_iconst (v := (0)) hx hb dX5_addCar_1 (by decide +kernel) ?_
  refine lv_bipush (v := (63)) hx hb dX5_addCar_2 (by decide +kernel) ?_
  refine call_S (rest := []) K0 hok hEV hA (c_X5_isWithin l D w aS sk sv A a1 (0 : Int32) (63 : Int32)) q306 q307 q40 q308 yd_X5_isWithin ⟨by omega, by omega⟩ hRc hE hZ hl.1 rfl (Nat.le_of_ble_eq_true rfl) dX5_addCar_4 (fun v4 S H locs cells slots hE hZ => ?_)
  refine W.eq (g2 := F0 m 7 ls [.int v4]) rfl ?_
  refine lv_if_ne (tgt := 20) hx hb dX5_addCar_7 (by decide) (fun hc => ?_) (fun hc => ?_)
  · have hE := if_f hE hc
    refine vr_aload_n hx hb dX5_addCar_20 rfl (lv_at hl 0 rfl) ?_
    refine g_LC_0 K0 hK hE hZ q250 dX5_addCar_21 (fun v21 hE => ?_)
    refine gN_LN_7 K0 hK hE hZ (nw37 hEV) dX5_addCar_24 (fun v24 hE => ?_)
    refine lv_bipush (v := (30)) hx hb dX5_addCar_27 (by decide +kernel) ?_
    refine lv_icmp_ge (tgt := 42) hx hb dX5_addCar_29 (by decide) (fun hc => ?_) (fun hc => ?_)
    · have hE := if_t hE hc
      exact j42  _ _ _ _ _ _ hE hZ (lv_sub hl [] rfl)
    · have hE := if_f hE hc
      refine vr_aload_n hx hb dX5_addCar_32 rfl (lv_at hl 0 rfl) ?_
      refine g_LC_0 K0 hK hE hZ q250 dX5_addCar_33 (fun v33 hE => ?_)
      refine gN_LN_6 K0 hK hE hZ (nw36 hEV) dX5_addCar_36 (fun v36 hE => ?_)
      refine lv_if_ne (tgt := 52) hx hb dX5_addCar_39 (by decide) (fun hc => ?_) (fun hc => ?_)
      · have hE := if_f hE hc
        refine vr_aload_n hx hb dX5_addCar_52 rfl (lv_at hl 0 rfl) ?_
        refine g_LC_0 K0 hK hE hZ q250 dX5_addCar_53 (fun v53 hE => ?_)
        refine lv_iload_n hx hb dX5_addCar_56 rfl (lv_at hl 1 rfl) ?_
        refine call_V (rest := []) K0 hK hok hEV hA (c_X1_appendCar l D w aS sk sv A v53 a1) q461 q462 q463 q41 q464 yd_X1_appendCar ⟨by omega, by omega⟩ hRc (ci := 3) rfl rfl (rc_LN w _) hE hZ hl.1 rfl (Nat.le_of_ble_eq_true rfl) dX5_addCar_57 (fun v57 S H locs cells slots hE hZ => ?_)
        refine W.eq (g2 := F0 m 60 ls [.int v57]) rfl ?_
        exact endX_i K0 hr hlocks hE hZ dX5_addCar_60
      · have hE := if_t hE hc
        exact j42  _ _ _ _ _ _ hE hZ (lv_sub hl [] rfl)
  · have hE := if_t hE hc
    exact thr_S K0 hfl hEV (i := 7) (by decide +kernel) (by decide +kernel) q309 q50 rfl (at_IllegalArgumentException hEV hg) atg_IllegalArgumentException hE hZ hRc hl.1 dX5_addCar_10 dX5_addCar_13 dX5_addCar_14 dX5_addCar_16 dX5_addCar_19 hout (by rw [hRf]; decide) (by rw [hRl]; simp [vr_cat, vc_i, vc_j, vc_f, vc_d, vc_r, vc_n]) hlocks
def f_X5_swap_J47  : PM (Int32 ⊕ String) := thr "java/lang/IllegalStateException"
def f_X5_swap (a0 : Nat) (a1 : Int32) (a2 : Int32) : PM (Int32 ⊕ String) := if a0 < 1 then bndX (f_X5_requireCar a0 a1) (fun v2 => if a0 < 1 then bndX (f_X5_requireCar a0 a2) (fun v8 => if a1 = a2 then (thr "java/lang/IllegalArgumentException") else (bnd (rdc 60 v2 15) (fun v29 => if v29 = (119 : Int32) then (bnd (rdc 60 v8 15) (fun v39 => if v39 = (119 : Int32) then (bnd (rfc 1 a0 0) (fun v58 => bnd (rfc 2 v58 (3 * v58)) (fun v61 => if v61 < 6 then bnd (f_X2_placeOf v61 a2) (fun v65 => bnd (rfc 1 a0 0) (fun v71 => bnd (rfc 2 v71 (3 * v71)) (fun v74 => bnd (rfc 1 a0 0) (fun v78 => bnd (rfc 2 v78 (3 * v78)) (fun v81 => if v81 < 6 then bnd (f_X2_placeOf v81 a1) (fun v85 => if v74 < 6 then bnd (f_X2_exchange v74 v85 v65) (fun _ => rtX v65) else fail) else fail))))) else fail))) else (f_X5_swap_J47))) else (f_X5_swap_J47)))) else fail) else fail
theorem yd_X5_swap : yX5_swap.cls = RX5 ∧ yX5_swap.cls ≠ "java/lang/invoke/MethodHandle" ∧ yX5_swap.cls ≠ "java/lang/invoke/VarHandle" ∧ (parseMethodDescriptor yX5_swap.desc).map (fun d => d.parameters.length) = some 2 := by decide +kernel
set_option maxHeartbeats 4000000 in
set_option maxRecDepth 100000 in
theorem c_X5_swap (l : Launch) (hfl : l.stackTraces = false) (D : va_G) (w : Wc) (aS : Nat → Nat) (sk sv : Nat) (A : Nat → Prop) (a0 : Nat) (a1 : Int32) (a2 : Int32) : CX l yX5_swap cX5_swap 6 (some .int) 7 122 D w (ENVC D w aS sk sv A) A [vr w.2.2.2.2 0 1 a0, .int a1, .int a2] (f_X5_swap a0 a1 a2) vI := by
  refine CX.ofW (by decide) [(0, vr w.2.2.2.2 0 1 a0), (1, .int a1), (2, .int a2)] (by simp [lv_args, vr_cat, vc_i, vc_j, vc_f, vc_d, vc_r, vc_n]) (by simp [lg_sl, vr_cat, vc_i, vc_j, vc_f, vc_d, vc_r, vc_n]) ?_
  intro S0 E0 R p e s m args below meth c ls hE hRf hRl hRc K0 hr hlocks hout hEV hA hZ hl
  have K0 : CallFix p m c cX5_swap 6 s args GW RX5 := K0
  have hx := K0.1
  have hb := K0.2.1
  have hown := K0.2.2.2.1
  have hg := K0.2.2.2.2
  have hK := hEV.1
  have hok : EVok (ENVC D w aS sk sv A) A := ENVC.ok
  have j47 : ∀ (S : St) (H : Heap) (locs : List Loc) (cells slots : Nat) (ls : Array Slot), (f_X5_swap_J47 ).1 S = some E0 → ZZ D 187 (adrC w) (celC w) A S0 s.heap S H locs cells slots → lv_has ls 6 [] → W p l e R s m args below meth c H locs cells slots (vx_MQ below (QX E0 vI D w A) (XX E0 D w A) args s (gN E0.2 7 0 - gN S0 7 0) (gN E0.2 3 0 - gN S0 3 0) A) (F0 m 47 ls []) := by
    intro  S H locs cells slots ls hE hZ hl
    unfold f_X5_swap_J47 at hE
    exact thr_S K0 hfl hEV (i := 11) (by decide +kernel) (by decide +kernel) q382 q51 rfl (at_IllegalStateException hEV hg) atg_IllegalStateException hE hZ hRc hl.1 dX5_swap_47 dX5_swap_50 dX5_swap_51 dX5_swap_53 dX5_swap_56 hout (by rw [hRf]; decide) (by rw [hRl]; simp [vr_cat, vc_i, vc_j, vc_f, vc_d, vc_r, vc_n]) hlocks
  unfold f_X5_swap at hE
  refine vr_aload_n hx hb dX5_swap_0 rfl (lv_at hl 0 rfl) ?_
  refine lv_iload_n hx hb dX5_swap_1 rfl (lv_at hl 1 rfl) ?_
  refine call_VX (rest := []) K0 hK hok hEV hA (c_X5_requireCar l hfl D w aS sk sv A a0 a1) q480 q482 q1 q40 q483 yd_X5_requireCar ⟨by omega, by omega⟩ hRc hout hlocks (ci := 7) rfl rfl (rc_LC w _) hE hZ hl.1 rfl (Nat.le_of_ble_eq_true rfl) dX5_swap_2 (fun v2 S H locs cells slots hE hZ => ?_)
  refine W.eq (g2 := F0 m 5 ls [vr w.2.2.2.2 37 60 v2]) rfl ?_
  refine vr_astore_n (i := 3) (lv' := [(3, vr w.2.2.2.2 37 60 v2), (0, vr w.2.2.2.2 0 1 a0), (1, .int a1), (2, .int a2)]) hx hb dX5_swap_5 rfl hl (by decide) rfl (fun ls hl => ?_)
  refine vr_aload_n hx hb dX5_swap_6 rfl (lv_at hl 1 rfl) ?_
  refine lv_iload_n hx hb dX5_swap_7 rfl (lv_at hl 3 rfl) ?_
  refine call_VX (rest := []) K0 hK hok hEV hA (c_X5_requireCar l hfl D w aS sk sv A a0 a2) q480 q482 q1 q40 q483 yd_X5_requireCar ⟨by omega, by omega⟩ hRc hout hlocks (ci := 7) rfl rfl (rc_LC w _) hE hZ hl.1 rfl (Nat.le_of_ble_eq_true rfl) dX5_swap_8 (fun v8 S H locs cells slots hE hZ => ?_)
  refine W.eq (g2 := F0 m 11 ls [vr w.2.2.2.2 37 60 v8]) rfl ?_
  refine vr_astore (lv' := [(4, vr w.2.2.2.2 37 60 v8), (3, vr w.2.2.2.2 37 60 v2), (0, vr w.2.2.2.2 0 1 a0), (1, .int a1), (2, .int a2)]) hx hb dX5_swap_11 hl (by decide) (by simp [vr_cat, vc_i, vc_j, vc_f, vc_d, vc_r, vc_n]) (fun ls hl => ?_)
  refine lv_iload_n hx hb dX5_swap_13 rfl (lv_at hl 3 rfl) ?_
  refine lv_iload_n hx hb dX5_swap_14 rfl (lv_at hl 4 rfl) ?_
  refine lv_icmp_ne (tgt := 28) hx hb dX5_swap_15 (by decide) (fun hc => ?_) (fun hc => ?_)
  · have hE := if_f hE hc
    refine vr_aload_n hx hb dX5_swap_28 rfl (lv_at hl 1 rfl) ?_
    refine gN_CA_3 K0 hK hE hZ (nw20 hEV) dX5_swap_29 (fun v29 hE => ?_)
    refine lv_bipush (v := (119)) hx hb dX5_swap_32 (by decide +kernel) ?_
    refine lv_icmp_ne (tgt := 47) hx hb dX5_swap_34 (by decide) (fun hc => ?_) (fun hc => ?_)
    · have hE := if_f hE hc
      exact j47  _ _ _ _ _ _ hE hZ (lv_sub hl [] rfl)
    · have hE := if_t hE hc
      refine vr_aload hx hb dX5_swap_37 (lv_at hl 0 rfl) ?_
      refine gN_CA_3 K0 hK hE hZ (nw20 hEV) dX5_swap_39 (fun v39 hE => ?_)
      refine lv_bipush (v := (119)) hx hb dX5_swap_42 (by decide +kernel) ?_
      refine lv_icmp_eq (tgt := 57) hx hb dX5_swap_44 (by decide) (fun hc => ?_) (fun hc => ?_)
      · have hE := if_t hE hc
        refine vr_aload_n hx hb dX5_swap_57 rfl (lv_at hl 2 rfl) ?_
        refine g_LC_0 K0 hK hE hZ q250 dX5_swap_58 (fun v58 hE => ?_)
        refine gN_LN_3 K0 hK hE hZ (nw33 hEV) dX5_swap_61 (fun v61 hE => ?_)
        refine lv_iload_n hx hb dX5_swap_64 rfl (lv_at hl 4 rfl) ?_
        refine call_V (rest := []) K0 hK hok hEV hA (c_X2_placeOf l D w aS sk sv A v61 a2) q488 q489 q490 q42 q491 yd_X2_placeOf ⟨by omega, by omega⟩ hRc (ci := 4) rfl rfl (rc_RO w _) hE hZ hl.1 rfl (Nat.le_of_ble_eq_true rfl) dX5_swap_65 (fun v65 S H locs cells slots hE hZ => ?_)
        refine W.eq (g2 := F0 m 68 ls [.int v65]) rfl ?_
        refine lv_istore (lv' := [(5, .int v65), (4, vr w.2.2.2.2 37 60 v8), (3, vr w.2.2.2.2 37 60 v2), (0, vr w.2.2.2.2 0 1 a0), (1, .int a1), (2, .int a2)]) hx hb dX5_swap_68 hl (by decide) (by simp [vr_cat, vc_i, vc_j, vc_f, vc_d, vc_r, vc_n]) (fun ls hl => ?_)
        refine vr_aload_n hx hb dX5_swap_70 rfl (lv_at hl 3 rfl) ?_
        refine g_LC_0 K0 hK hE hZ q250 dX5_swap_71 (fun v71 hE => ?_)
        refine gN_LN_3 K0 hK hE hZ (nw33 hEV) dX5_swap_74 (fun v74 hE => ?_)
        refine vr_aload_n hx hb dX5_swap_77 rfl (lv_at hl 3 rfl) ?_
        refine g_LC_0 K0 hK hE hZ q250 dX5_swap_78 (fun v78 hE => ?_)
        refine gN_LN_3 K0 hK hE hZ (nw33 hEV) dX5_swap_81 (fun v81 hE => ?_)
        refine lv_iload_n hx hb dX5_swap_84 rfl (lv_at hl 4 rfl) ?_
        refine call_V (rest := [vr w.2.2.2.2 9 6 v74]) K0 hK hok hEV hA (c_X2_placeOf l D w aS sk sv A v81 a1) q488 q489 q490 q42 q491 yd_X2_placeOf ⟨by omega, by omega⟩ hRc (ci := 4) rfl rfl (rc_RO w _) hE hZ hl.1 rfl (by simp [vr_cat, vc_i, vc_j, vc_f, vc_d, vc_r, vc_n]) dX5_swap_85 (fun v85 S H locs cells slots hE hZ => ?_)
        refine W.eq (g2 := F0 m 88 ls [.int v85, vr w.2.2.2.2 9 6 v74]) rfl ?_
        refine lv_iload hx hb dX5_swap_88 (lv_at hl 0 rfl) ?_
        refine call_V (rest := []) K0 hK hok hEV hA (c_X2_exchange l D w aS sk sv A v74 v85 v65) q500 q501 q502 q42 q503 yd_X2_exchange ⟨by omega, by omega⟩ hRc (ci := 4) rfl rfl (rc_RO w _) hE hZ hl.1 rfl (Nat.le_of_ble_eq_true rfl) dX5_swap_90 (fun v90 S H locs cells slots hE hZ => ?_)
        refine W.eq (g2 := F0 m 93 ls []) rfl ?_
        refine lv_iload hx hb dX5_swap_93 (lv_at hl 0 rfl) ?_
        exact endX_i K0 hr hlocks hE hZ dX5_swap_95
      · have hE := if_f hE hc
        exact j47  _ _ _ _ _ _ hE hZ (lv_sub hl [] rfl)
  · have hE := if_t hE hc
    exact thr_S K0 hfl hEV (i := 10) (by decide +kernel) (by decide +kernel) q309 q50 rfl (at_IllegalArgumentException hEV hg) atg_IllegalArgumentException hE hZ hRc hl.1 dX5_swap_18 dX5_swap_21 dX5_swap_22 dX5_swap_24 dX5_swap_27 hout (by rw [hRf]; decide) (by rw [hRl]; simp [vr_cat, vc_i, vc_j, vc_f, vc_d, vc_r, vc_n]) hlocks
def f_X5_fault_J37  : PM (Int32 ⊕ String) := thr "java/lang/IllegalStateException"
def f_X5_fault (a0 : Nat) (a1 : Int32) (a2 : Int32) : PM (Int32 ⊕ String) := if a0 < 1 then bndX (f_X5_requireCar a0 a1) (fun v2 => if a0 < 1 then bndX (f_X5_requireStation a0 a2) (fun v8 => if v2 < 60 then bnd (f_X0_hasEntered v2 a2) (fun v14 => if v14 = 0 then (f_X5_fault_J37) else (bnd (rdc 60 v2 16) (fun v21 => if v21 = a2 then (f_X5_fault_J37) else (bnd (rdc 60 v2 15) (fun v29 => if v29 = (100 : Int32) then (f_X5_fault_J37) else (if v2 < 60 then bnd (f_X0_isFaulty v2 a2) (fun v49 => if v49 = 0 then (if v2 < 60 then bnd (f_X0_openFault v2 a2) (fun _ => if v2 < 60 then bnd (f_X0_faultCount v2) (fun v71 => rtX v71) else fail) else fail) else (thr "java/lang/UnsupportedOperationException")) else fail)))))) else fail) else fail) else fail
theorem yd_X5_fault : yX5_fault.cls = RX5 ∧ yX5_fault.cls ≠ "java/lang/invoke/MethodHandle" ∧ yX5_fault.cls ≠ "java/lang/invoke/VarHandle" ∧ (parseMethodDescriptor yX5_fault.desc).map (fun d => d.parameters.length) = some 2 := by decide +kernel
set_option maxHeartbeats 4000000 in
set_option maxRecDepth 100000 in
theorem c_X5_fault (l : Launch) (hfl : l.stackTraces = false) (D : va_G) (w : Wc) (aS : Nat → Nat) (sk sv : Nat) (A : Nat → Prop) (a0 : Nat) (a1 : Int32) (a2 : Int32) : CX l yX5_fault cX5_fault 4 (some .int) 7 122 D w (ENVC D w aS sk sv A) A [vr w.2.2.2.2 0 1 a0, .int a1, .int a2] (f_X5_fault a0 a1 a2) vI := by
  refine CX.ofW (by decide) [(0, vr w.2.2.2.2 0 1 a0), (1, .int a1), (2, .int a2)] (by simp [lv_args, vr_cat, vc_i, vc_j, vc_f, vc_d, vc_r, vc_n]) (by simp [lg_sl, vr_cat, vc_i, vc_j, vc_f, vc_d, vc_r, vc_n]) ?_
  intro S0 E0 R p e s m args below meth c ls hE hRf hRl hRc K0 hr hlocks hout hEV hA hZ hl
  have K0 : CallFix p m c cX5_fault 4 s args GW RX5 := K0
  have hx := K0.1
  have hb := K0.2.1
  have hown := K0.2.2.2.1
  have hg := K0.2.2.2.2
  have hK := hEV.1
  have hok : EVok (ENVC D w aS sk sv A) A := ENVC.ok
  have j37 : ∀ (S : St) (H : Heap) (locs : List Loc) (cells slots : Nat) (ls : Array Slot), (f_X5_fault_J37 ).1 S = some E0 → ZZ D 187 (adrC w) (celC w) A S0 s.heap S H locs cells slots → lv_has ls 4 [] → W p l e R s m args below meth c H locs cells slots (vx_MQ below (QX E0 vI D w A) (XX E0 D w A) args s (gN E0.2 7 0 - gN S0 7 0) (gN E0.2 3 0 - gN S0 3 0) A) (F0 m 37 ls []) := by
    intro  S H locs cells slots ls hE hZ hl
    unfold f_X5_fault_J37 at hE
    exact thr_S K0 hfl hEV (i := 13) (by decide +kernel) (by decide +kernel) q382 q51 rfl (at_IllegalStateException hEV hg) atg_IllegalStateException hE hZ hRc hl.1 dX5_fault_37 dX5_fault_40 dX5_fault_41 dX5_fault_43 dX5_fault_46 hout (by rw [hRf]; decide) (by rw [hRl]; simp [vr_cat, vc_i, vc_j, vc_f, vc_d, vc_r, vc_n]) hlocks
  unfold f_X5_fault at hE
  refine vr_aload_n hx hb dX5_fault_0 rfl (lv_at hl 0 rfl) ?_
  refine lv_iload_n hx hb dX5_fault_1 rfl (lv_at hl 1 rfl) ?_
  refine call_VX (rest := []) K0 hK hok hEV hA (c_X5_requireCar l hfl D w aS sk sv A a0 a1) q480 q482 q1 q40 q483 yd_X5_requireCar ⟨by omega, by omega⟩ hRc hout hlocks (ci := 7) rfl rfl (rc_LC w _) hE hZ hl.1 rfl (Nat.le_of_ble_eq_true rfl) dX5_fault_2 (fun v2 S H locs cells slots hE hZ => ?_)
  refine W.eq (g2 := F0 m 5 ls [vr w.2.2.2.2 37 60 v2]) rfl ?_
  refine vr_astore_n (i := 3) (lv' := [(3, vr w.2.2.2.2 37 60 v2), (0, vr w.2.2.2.2 0 1 a0), (1, .int a1), (2, .int a2)]) hx hb dX5_fault_5 rfl hl (by decide) rfl (fun ls hl => ?_)
  refine vr_aload_n hx hb dX5_fault_6 rfl (lv_at hl 1 rfl) ?_
  refine lv_iload_n hx hb dX5_fault_7 rfl (lv_at hl 3 rfl) ?_
  refine call_VX (rest := []) K0 hK hok hEV hA (c_X5_requireStation l hfl D w aS sk sv A a0 a2) q512 q514 q2 q40 q515 yd_X5_requireStation ⟨by omega, by omega⟩ hRc hout hlocks (ci := 7) rfl rfl (rc_LC w _) hE hZ hl.1 rfl (Nat.le_of_ble_eq_true rfl) dX5_fault_8 (fun v8 S H locs cells slots hE hZ => ?_)
  refine W.eq (g2 := F0 m 11 ls [vr w.2.2.2.2 21 16 v8]) rfl ?_
  refine lv_pop hx hb dX5_fault_11 vr_cat ?_
  refine vr_aload_n hx hb dX5_fault_12 rfl (lv_at hl 0 rfl) ?_
  refine lv_iload_n hx hb dX5_fault_13 rfl (lv_at hl 3 rfl) ?_
  refine call_V (rest := []) K0 hK hok hEV hA (c_X0_hasEntered l D w aS sk sv A v2 a2) q517 q518 q519 q44 q520 yd_X0_hasEntered ⟨by omega, by omega⟩ hRc (ci := 2) rfl rfl (rc_CA w _) hE hZ hl.1 rfl (Nat.le_of_ble_eq_true rfl) dX5_fault_14 (fun v14 S H locs cells slots hE hZ => ?_)
  refine W.eq (g2 := F0 m 17 ls [.int v14]) rfl ?_
  refine lv_if_eq (tgt := 37) hx hb dX5_fault_17 (by decide) (fun hc => ?_) (fun hc => ?_)
  · have hE := if_t hE hc
    exact j37  _ _ _ _ _ _ hE hZ (lv_sub hl [] rfl)
  · have hE := if_f hE hc
    refine vr_aload_n hx hb dX5_fault_20 rfl (lv_at hl 0 rfl) ?_
    refine gN_CA_4 K0 hK hE hZ (nw22 hEV) dX5_fault_21 (fun v21 hE => ?_)
    refine lv_iload_n hx hb dX5_fault_24 rfl (lv_at hl 3 rfl) ?_
    refine lv_icmp_eq (tgt := 37) hx hb dX5_fault_25 (by decide) (fun hc => ?_) (fun hc => ?_)
    · have hE := if_t hE hc
      exact j37  _ _ _ _ _ _ hE hZ (lv_sub hl [] rfl)
    · have hE := if_f hE hc
      refine vr_aload_n hx hb dX5_fault_28 rfl (lv_at hl 0 rfl) ?_
      refine gN_CA_3 K0 hK hE hZ (nw20 hEV) dX5_fault_29 (fun v29 hE => ?_)
      refine lv_bipush (v := (100)) hx hb dX5_fault_32 (by decide +kernel) ?_
      refine lv_icmp_ne (tgt := 47) hx hb dX5_fault_34 (by decide) (fun hc => ?_) (fun hc => ?_)
      · have hE := if_f hE hc
        refine vr_aload_n hx hb dX5_fault_47 rfl (lv_at hl 0 rfl) ?_
        refine lv_iload_n hx hb dX5_fault_48 rfl (lv_at hl 3 rfl) ?_
        refine call_V (rest := []) K0 hK hok hEV hA (c_X0_isFaulty l D w aS sk sv A v2 a2) q522 q523 q524 q44 q525 yd_X0_isFaulty ⟨by omega, by omega⟩ hRc (ci := 2) rfl rfl (rc_CA w _) hE hZ hl.1 rfl (Nat.le_of_ble_eq_true rfl) dX5_fault_49 (fun v49 S H locs cells slots hE hZ => ?_)
        refine W.eq (g2 := F0 m 52 ls [.int v49]) rfl ?_
        refine lv_if_eq (tgt := 65) hx hb dX5_fault_52 (by decide) (fun hc => ?_) (fun hc => ?_)
        · have hE := if_t hE hc
          refine vr_aload_n hx hb dX5_fault_65 rfl (lv_at hl 0 rfl) ?_
          refine lv_iload_n hx hb dX5_fault_66 rfl (lv_at hl 3 rfl) ?_
          refine call_V (rest := []) K0 hK hok hEV hA (c_X0_openFault l D w aS sk sv A v2 a2) q542 q543 q544 q44 q545 yd_X0_openFault ⟨by omega, by omega⟩ hRc (ci := 2) rfl rfl (rc_CA w _) hE hZ hl.1 rfl (Nat.le_of_ble_eq_true rfl) dX5_fault_67 (fun v67 S H locs cells slots hE hZ => ?_)
          refine W.eq (g2 := F0 m 70 ls []) rfl ?_
          refine vr_aload_n hx hb dX5_fault_70 rfl (lv_at hl 0 rfl) ?_
          refine call_V (rest := []) K0 hK hok hEV hA (c_X0_faultCount l D w aS sk sv A v2) q546 q547 q548 q44 q549 yd_X0_faultCount ⟨by omega, by omega⟩ hRc (ci := 2) rfl rfl (rc_CA w _) hE hZ hl.1 rfl (Nat.le_of_ble_eq_true rfl) dX5_fault_71 (fun v71 S H locs cells slots hE hZ => ?_)
          refine W.eq (g2 := F0 m 74 ls [.int v71]) rfl ?_
          exact endX_i K0 hr hlocks hE hZ dX5_fault_74
        · have hE := if_f hE hc
          exact thr_S K0 hfl hEV (i := 14) (by decide +kernel) (by decide +kernel) q526 q53 rfl (at_UnsupportedOperationException hEV hg) atg_UnsupportedOperationException hE hZ hRc hl.1 dX5_fault_55 dX5_fault_58 dX5_fault_59 dX5_fault_61 dX5_fault_64 hout (by rw [hRf]; decide) (by rw [hRl]; simp [vr_cat, vc_i, vc_j, vc_f, vc_d, vc_r, vc_n]) hlocks
      · have hE := if_t hE hc
        exact j37  _ _ _ _ _ _ hE hZ (lv_sub hl [] rfl)
def f_X5_tick_J45  : PM (Int32 ⊕ String) := thr "java/lang/IllegalStateException"
def f_X5_tick_L68 : Nat → Nat → Int32 → Int32 → Int32 → PM (Int32 ⊕ String)
  | 0, _, _, _, _ => fail
  | n9 + 1, u0, u1, u2, u3 => if u1 ≤ u3 then (bnd (rfc 1 u0 0) (fun v87 => bnd (rfc 2 v87 (3 * v87 + 2)) (fun v90 => bnd (rdc 6 v90 5) (fun v93 => rtX (v93 - u2))))) else (bnd (rfc 1 u0 0) (fun v74 => if v74 < 2 then bnd (f_X1_passTick v74) (fun _ => f_X5_tick_L68 n9 u0 u1 u2 (u3 + (1 : Int32))) else fail))
def f_X5_tick (a0 : Nat) (a1 : Int32) : PM (Int32 ⊕ String) := bnd (f_X5_isWithin a1 (1 : Int32) (60 : Int32)) (fun v4 => if v4 = 0 then (thr "java/lang/IllegalArgumentException") else (bnd (rfc 1 a0 0) (fun v21 => bnd (rdc 2 v21 0) (fun v24 => if v24 = 0 then (f_X5_tick_J45) else (bnd (rfc 1 a0 0) (fun v31 => bnd (rdc 2 v31 2) (fun v34 => if (v34 + a1) ≤ (9999 : Int32) then (bnd (rfc 1 a0 0) (fun v56 => bnd (rfc 2 v56 (3 * v56 + 2)) (fun v59 => bnd (rdc 6 v59 5) (fun v62 => f_X5_tick_L68 400 a0 a1 v62 (0 : Int32))))) else (f_X5_tick_J45))))))))
theorem yd_X5_tick : yX5_tick.cls = RX5 ∧ yX5_tick.cls ≠ "java/lang/invoke/MethodHandle" ∧ yX5_tick.cls ≠ "java/lang/invoke/VarHandle" ∧ (parseMethodDescriptor yX5_tick.desc).map (fun d => d.parameters.length) = some 1 := by decide +kernel
set_option maxHeartbeats 4000000 in
set_option maxRecDepth 100000 in
theorem c_X5_tick (l : Launch) (hfl : l.stackTraces = false) (D : va_G) (w : Wc) (aS : Nat → Nat) (sk sv : Nat) (A : Nat → Prop) (a0 : Nat) (a1 : Int32) : CX l yX5_tick cX5_tick 4 (some .int) 9 211 D w (ENVC D w aS sk sv A) A [vr w.2.2.2.2 0 1 a0, .int a1] (f_X5_tick a0 a1) vI := by
  refine CX.ofW (by decide) [(0, vr w.2.2.2.2 0 1 a0), (1, .int a1)] (by simp [lv_args, vr_cat, vc_i, vc_j, vc_f, vc_d, vc_r, vc_n]) (by simp [lg_sl, vr_cat, vc_i, vc_j, vc_f, vc_d, vc_r, vc_n]) ?_
  intro S0 E0 R p e s m args below meth c ls hE hRf hRl hRc K0 hr hlocks hout hEV hA hZ hl
  have K0 : CallFix p m c cX5_tick 4 s args GW RX5 := K0
  have hx := K0.1
  have hb := K0.2.1
  have hown := K0.2.2.2.1
  have hg := K0.2.2.2.2
  have hK := hEV.1
  have hok : EVok (ENVC D w aS sk sv A) A := ENVC.ok
  have j45 : ∀ (S : St) (H : Heap) (locs : List Loc) (cells slots : Nat) (ls : Array Slot), (f_X5_tick_J45 ).1 S = some E0 → ZZ D 187 (adrC w) (celC w) A S0 s.heap S H locs cells slots → lv_has ls 4 [] → W p l e R s m args below meth c H locs cells slots (vx_MQ below (QX E0 vI D w A) (XX E0 D w A) args s (gN E0.2 7 0 - gN S0 7 0) (gN E0.2 3 0 - gN S0 3 0) A) (F0 m 45 ls []) := by
    intro  S H locs cells slots ls hE hZ hl
    unfold f_X5_tick_J45 at hE
    exact thr_S K0 hfl hEV (i := 16) (by decide +kernel) (by decide +kernel) q382 q51 rfl (at_IllegalStateException hEV hg) atg_IllegalStateException hE hZ hRc hl.1 dX5_tick_45 dX5_tick_48 dX5_tick_49 dX5_tick_51 dX5_tick_54 hout (by rw [hRf]; decide) (by rw [hRl]; simp [vr_cat, vc_i, vc_j, vc_f, vc_d, vc_r, vc_n]) hlocks
  have j68 : ∀ (n9 : Nat) (u0 : Nat) (u1 : Int32) (u2 : Int32) (u3 : Int32) (S : St) (H : Heap) (locs : List Loc) (cells slots : Nat) (ls : Array Slot), (f_X5_tick_L68 n9 u0 u1 u2 u3).1 S = some E0 → ZZ D 187 (adrC w) (celC w) A S0 s.heap S H locs cells slots → lv_has ls 4 [(0, vr w.2.2.2.2 0 1 u0), (1, .int u1), (2, .int u2), (3, .int u3)] → W p l e R s m args below meth c H locs cells slots (vx_MQ below (QX E0 vI D w A) (XX E0 D w A) args s (gN E0.2 7 0 - gN S0 7 0) (gN E0.2 3 0 - gN S0 3 0) A) (F0 m 68 ls []) := by
    intro n9
    induction n9 with
    | zero =>
      intro u0 u1 u2 u3 S H locs cells slots ls hE hZ hl
      rw [f_X5_tick_L68] at hE
      cases hE
    | succ n9 ih =>
      intro u0 u1 u2 u3 S H locs cells slots ls hE hZ hl
      rw [f_X5_tick_L68] at hE
      refine lv_iload_n hx hb dX5_tick_68 rfl (lv_at hl 3 rfl) ?_
      refine lv_iload_n hx hb dX5_tick_69 rfl (lv_at hl 1 rfl) ?_
      refine lv_icmp_ge (tgt := 86) hx hb dX5_tick_70 (by decide) (fun hc => ?_) (fun hc => ?_)
      · have hE := if_t hE hc
        refine vr_aload_n hx hb dX5_tick_86 rfl (lv_at hl 0 rfl) ?_
        refine g_LC_0 K0 hK hE hZ q250 dX5_tick_87 (fun v87 hE => ?_)
        refine gN_LN_5 K0 hK hE hZ (nw35 hEV) dX5_tick_90 (fun v90 hE => ?_)
        refine gN_RO_1 K0 hK hE hZ (nw1 hEV) dX5_tick_93 (fun v93 hE => ?_)
        refine lv_iload_n hx hb dX5_tick_96 rfl (lv_at hl 2 rfl) ?_
        refine lv_isub hx hb dX5_tick_97 ?_
        exact endX_i K0 hr hlocks hE hZ dX5_tick_98
      · have hE := if_f hE hc
        refine vr_aload_n hx hb dX5_tick_73 rfl (lv_at hl 0 rfl) ?_
        refine g_LC_0 K0 hK hE hZ q250 dX5_tick_74 (fun v74 hE => ?_)
        refine call_V (rest := []) K0 hK hok hEV hA (c_X1_passTick l D w aS sk sv A v74) q565 q566 q567 q41 q568 yd_X1_passTick ⟨by omega, by omega⟩ hRc (ci := 3) rfl rfl (rc_LN w _) hE hZ hl.1 rfl (Nat.le_of_ble_eq_true rfl) dX5_tick_77 (fun v77 S H locs cells slots hE hZ => ?_)
        refine W.eq (g2 := F0 m 80 ls []) rfl ?_
        refine lv_iinc (v := (u3 + (1 : Int32))) (lv' := [(3, .int (u3 + (1 : Int32))), (0, vr w.2.2.2.2 0 1 u0), (1, .int u1), (2, .int u2)]) hx hb dX5_tick_80 hl (k := 3) rfl rfl (by decide) rfl (fun ls hl => ?_)
        refine lv_goto (tgt := 68) hx hb dX5_tick_83 (by decide) ?_
        exact ih u0 u1 u2 (u3 + (1 : Int32)) _ _ _ _ _ _ hE hZ (lv_sub hl [1, 2, 3, 0] rfl)
  unfold f_X5_tick at hE
  refine lv_iload_n hx hb dX5_tick_0 rfl (lv_at hl 1 rfl) ?_
  refine lv_iconst (v := (1)) hx hb dX5_tick_1 (by decide +kernel) ?_
  refine lv_bipush (v := (60)) hx hb dX5_tick_2 (by decide +kernel) ?_
  refine call_S (rest := []) K0 hok hEV hA (c_X5_isWithin l D w aS sk sv A a1 (1 : Int32) (60 : Int32)) q306 q307 q40 q308 yd_X5_isWithin ⟨by omega, by omega⟩ hRc hE hZ hl.1 rfl (Nat.le_of_ble_eq_true rfl) dX5_tick_4 (fun v4 S H locs cells slots hE hZ => ?_)
  refine W.eq (g2 := F0 m 7 ls [.int v4]) rfl ?_
  refine lv_if_ne (tgt := 20) hx hb dX5_tick_7 (by decide) (fun hc => ?_) (fun hc => ?_)
  · have hE := if_f hE hc
    refine vr_aload_n hx hb dX5_tick_20 rfl (lv_at hl 0 rfl) ?_
    refine g_LC_0 K0 hK hE hZ q250 dX5_tick_21 (fun v21 hE => ?_)
    refine gN_LN_6 K0 hK hE hZ (nw36 hEV) dX5_tick_24 (fun v24 hE => ?_)
    refine lv_if_eq (tgt := 45) hx hb dX5_tick_27 (by decide) (fun hc => ?_) (fun hc => ?_)
    · have hE := if_t hE hc
      exact j45  _ _ _ _ _ _ hE hZ (lv_sub hl [] rfl)
    · have hE := if_f hE hc
      refine vr_aload_n hx hb dX5_tick_30 rfl (lv_at hl 0 rfl) ?_
      refine g_LC_0 K0 hK hE hZ q250 dX5_tick_31 (fun v31 hE => ?_)
      refine gN_LN_8 K0 hK hE hZ (nw38 hEV) dX5_tick_34 (fun v34 hE => ?_)
      refine lv_iload_n hx hb dX5_tick_37 rfl (lv_at hl 1 rfl) ?_
      refine lv_iadd hx hb dX5_tick_38 ?_
      refine lv_sipush (v := (9999)) hx hb dX5_tick_39 (by decide +kernel) ?_
      refine lv_icmp_le (tgt := 55) hx hb dX5_tick_42 (by decide) (fun hc => ?_) (fun hc => ?_)
      · have hE := if_t hE hc
        refine vr_aload_n hx hb dX5_tick_55 rfl (lv_at hl 0 rfl) ?_
        refine g_LC_0 K0 hK hE hZ q250 dX5_tick_56 (fun v56 hE => ?_)
        refine gN_LN_5 K0 hK hE hZ (nw35 hEV) dX5_tick_59 (fun v59 hE => ?_)
        refine gN_RO_1 K0 hK hE hZ (nw1 hEV) dX5_tick_62 (fun v62 hE => ?_)
        refine lv_istore_n (i := 2) (lv' := [(2, .int v62), (0, vr w.2.2.2.2 0 1 a0), (1, .int a1)]) hx hb dX5_tick_65 rfl hl (by decide) rfl (fun ls hl => ?_)
        refine lv_iconst (v := (0)) hx hb dX5_tick_66 (by decide +kernel) ?_
        refine lv_istore_n (i := 3) (lv' := [(3, .int (0 : Int32)), (2, .int v62), (0, vr w.2.2.2.2 0 1 a0), (1, .int a1)]) hx hb dX5_tick_67 rfl hl (by decide) rfl (fun ls hl => ?_)
        exact j68 400 a0 a1 v62 (0 : Int32) _ _ _ _ _ _ hE hZ (lv_sub hl [2, 3, 1, 0] rfl)
      · have hE := if_f hE hc
        exact j45  _ _ _ _ _ _ hE hZ (lv_sub hl [] rfl)
  · have hE := if_t hE hc
    exact thr_S K0 hfl hEV (i := 15) (by decide +kernel) (by decide +kernel) q309 q50 rfl (at_IllegalArgumentException hEV hg) atg_IllegalArgumentException hE hZ hRc hl.1 dX5_tick_10 dX5_tick_13 dX5_tick_14 dX5_tick_16 dX5_tick_19 hout (by rw [hRf]; decide) (by rw [hRl]; simp [vr_cat, vc_i, vc_j, vc_f, vc_d, vc_r, vc_n]) hlocks
def f_X5_now (a0 : Nat) : PM Int32 := bnd (rfc 1 a0 0) (fun v1 => bnd (rdc 2 v1 2) (fun v4 => rtn v4))
theorem yd_X5_now : yX5_now.cls = RX5 ∧ yX5_now.cls ≠ "java/lang/invoke/MethodHandle" ∧ yX5_now.cls ≠ "java/lang/invoke/VarHandle" ∧ (parseMethodDescriptor yX5_now.desc).map (fun d => d.parameters.length) = some 0 := by decide +kernel
set_option maxHeartbeats 4000000 in
set_option maxRecDepth 100000 in
theorem c_X5_now (l : Launch) (D : va_G) (w : Wc) (aS : Nat → Nat) (sk sv : Nat) (A : Nat → Prop) (a0 : Nat) : CT l yX5_now cX5_now 1 (some .int) 0 0 (PC D w A) (ENVC D w aS sk sv A) A [vr w.2.2.2.2 0 1 a0] (f_X5_now a0) vI := by
  refine CT.ofW (by decide) [(0, vr w.2.2.2.2 0 1 a0)] (by simp [lv_args, vr_cat, vc_i, vc_j, vc_f, vc_d, vc_r, vc_n]) (by simp [lg_sl, vr_cat, vc_i, vc_j, vc_f, vc_d, vc_r, vc_n]) ?_
  intro S0 E0 R p e s m args below meth c ls hE hRf hRl hRc K0 hr hlocks hEV hA hZ hl
  have K0 : CallFix p m c cX5_now 1 s args GW RX5 := K0
  have hx := K0.1
  have hb := K0.2.1
  have hown := K0.2.2.2.1
  have hg := K0.2.2.2.2
  have hK := hEV.1
  have hok : EVok (ENVC D w aS sk sv A) A := ENVC.ok
  unfold f_X5_now at hE
  refine vr_aload_n hx hb dX5_now_0 rfl (lv_at hl 0 rfl) ?_
  refine g_LC_0 K0 hK hE hZ q250 dX5_now_1 (fun v1 hE => ?_)
  refine gN_LN_8 K0 hK hE hZ (nw38 hEV) dX5_now_4 (fun v4 hE => ?_)
  exact end_i K0 hr hlocks hE hZ dX5_now_7
def f_X5_stations (a0 : Nat) : PM Int32 := bnd (rfc 1 a0 0) (fun v1 => bnd (rdc 2 v1 0) (fun v4 => rtn v4))
theorem yd_X5_stations : yX5_stations.cls = RX5 ∧ yX5_stations.cls ≠ "java/lang/invoke/MethodHandle" ∧ yX5_stations.cls ≠ "java/lang/invoke/VarHandle" ∧ (parseMethodDescriptor yX5_stations.desc).map (fun d => d.parameters.length) = some 0 := by decide +kernel
set_option maxHeartbeats 4000000 in
set_option maxRecDepth 100000 in
theorem c_X5_stations (l : Launch) (D : va_G) (w : Wc) (aS : Nat → Nat) (sk sv : Nat) (A : Nat → Prop) (a0 : Nat) : CT l yX5_stations cX5_stations 1 (some .int) 0 0 (PC D w A) (ENVC D w aS sk sv A) A [vr w.2.2.2.2 0 1 a0] (f_X5_stations a0) vI := by
  refine CT.ofW (by decide) [(0, vr w.2.2.2.2 0 1 a0)] (by simp [lv_args, vr_cat, vc_i, vc_j, vc_f, vc_d, vc_r, vc_n]) (by simp [lg_sl, vr_cat, vc_i, vc_j, vc_f, vc_d, vc_r, vc_n]) ?_
  intro S0 E0 R p e s m args below meth c ls hE hRf hRl hRc K0 hr hlocks hEV hA hZ hl
  have K0 : CallFix p m c cX5_stations 1 s args GW RX5 := K0
  have hx := K0.1
  have hb := K0.2.1
  have hown := K0.2.2.2.1
  have hg := K0.2.2.2.2
  have hK := hEV.1
  have hok : EVok (ENVC D w aS sk sv A) A := ENVC.ok
  unfold f_X5_stations at hE
  refine vr_aload_n hx hb dX5_stations_0 rfl (lv_at hl 0 rfl) ?_
  refine g_LC_0 K0 hK hE hZ q250 dX5_stations_1 (fun v1 hE => ?_)
  refine gN_LN_6 K0 hK hE hZ (nw36 hEV) dX5_stations_4 (fun v4 hE => ?_)
  exact end_i K0 hr hlocks hE hZ dX5_stations_7
def f_X5_cars (a0 : Nat) : PM Int32 := bnd (rfc 1 a0 0) (fun v1 => bnd (rdc 2 v1 1) (fun v4 => rtn v4))
theorem yd_X5_cars : yX5_cars.cls = RX5 ∧ yX5_cars.cls ≠ "java/lang/invoke/MethodHandle" ∧ yX5_cars.cls ≠ "java/lang/invoke/VarHandle" ∧ (parseMethodDescriptor yX5_cars.desc).map (fun d => d.parameters.length) = some 0 := by decide +kernel
set_option maxHeartbeats 4000000 in
set_option maxRecDepth 100000 in
theorem c_X5_cars (l : Launch) (D : va_G) (w : Wc) (aS : Nat → Nat) (sk sv : Nat) (A : Nat → Prop) (a0 : Nat) : CT l yX5_cars cX5_cars 1 (some .int) 0 0 (PC D w A) (ENVC D w aS sk sv A) A [vr w.2.2.2.2 0 1 a0] (f_X5_cars a0) vI := by
  refine CT.ofW (by decide) [(0, vr w.2.2.2.2 0 1 a0)] (by simp [lv_args, vr_cat, vc_i, vc_j, vc_f, vc_d, vc_r, vc_n]) (by simp [lg_sl, vr_cat, vc_i, vc_j, vc_f, vc_d, vc_r, vc_n]) ?_
  intro S0 E0 R p e s m args below meth c ls hE hRf hRl hRc K0 hr hlocks hEV hA hZ hl
  have K0 : CallFix p m c cX5_cars 1 s args GW RX5 := K0
  have hx := K0.1
  have hb := K0.2.1
  have hown := K0.2.2.2.1
  have hg := K0.2.2.2.2
  have hK := hEV.1
  have hok : EVok (ENVC D w aS sk sv A) A := ENVC.ok
  unfold f_X5_cars at hE
  refine vr_aload_n hx hb dX5_cars_0 rfl (lv_at hl 0 rfl) ?_
  refine g_LC_0 K0 hK hE hZ q250 dX5_cars_1 (fun v1 hE => ?_)
  refine gN_LN_7 K0 hK hE hZ (nw37 hEV) dX5_cars_4 (fun v4 hE => ?_)
  exact end_i K0 hr hlocks hE hZ dX5_cars_7
def f_X5_stateOf (a0 : Nat) (a1 : Int32) : PM (Int32 ⊕ String) := if a0 < 1 then bndX (f_X5_requireCar a0 a1) (fun v2 => bnd (rdc 60 v2 15) (fun v5 => rtCX v5)) else fail
theorem yd_X5_stateOf : yX5_stateOf.cls = RX5 ∧ yX5_stateOf.cls ≠ "java/lang/invoke/MethodHandle" ∧ yX5_stateOf.cls ≠ "java/lang/invoke/VarHandle" ∧ (parseMethodDescriptor yX5_stateOf.desc).map (fun d => d.parameters.length) = some 1 := by decide +kernel
set_option maxHeartbeats 4000000 in
set_option maxRecDepth 100000 in
theorem c_X5_stateOf (l : Launch) (hfl : l.stackTraces = false) (D : va_G) (w : Wc) (aS : Nat → Nat) (sk sv : Nat) (A : Nat → Prop) (a0 : Nat) (a1 : Int32) : CX l yX5_stateOf cX5_stateOf 2 (some .char) 7 122 D w (ENVC D w aS sk sv A) A [vr w.2.2.2.2 0 1 a0, .int a1] (f_X5_stateOf a0 a1) vI := by
  refine CX.ofW (by decide) [(0, vr w.2.2.2.2 0 1 a0), (1, .int a1)] (by simp [lv_args, vr_cat, vc_i, vc_j, vc_f, vc_d, vc_r, vc_n]) (by simp [lg_sl, vr_cat, vc_i, vc_j, vc_f, vc_d, vc_r, vc_n]) ?_
  intro S0 E0 R p e s m args below meth c ls hE hRf hRl hRc K0 hr hlocks hout hEV hA hZ hl
  have K0 : CallFix p m c cX5_stateOf 2 s args GW RX5 := K0
  have hx := K0.1
  have hb := K0.2.1
  have hown := K0.2.2.2.1
  have hg := K0.2.2.2.2
  have hK := hEV.1
  have hok : EVok (ENVC D w aS sk sv A) A := ENVC.ok
  unfold f_X5_stateOf at hE
  refine vr_aload_n hx hb dX5_stateOf_0 rfl (lv_at hl 0 rfl) ?_
  refine lv_iload_n hx hb dX5_stateOf_1 rfl (lv_at hl 1 rfl) ?_
  refine call_VX (rest := []) K0 hK hok hEV hA (c_X5_requireCar l hfl D w aS sk sv A a0 a1) q480 q482 q1 q40 q483 yd_X5_requireCar ⟨by omega, by omega⟩ hRc hout hlocks (ci := 7) rfl rfl (rc_LC w _) hE hZ hl.1 rfl (Nat.le_of_ble_eq_true rfl) dX5_stateOf_2 (fun v2 S H locs cells slots hE hZ => ?_)
  refine W.eq (g2 := F0 m 5 ls [vr w.2.2.2.2 37 60 v2]) rfl ?_
  refine gN_CA_3 K0 hK hE hZ (nw20 hEV) dX5_stateOf_5 (fun v5 hE => ?_)
  exact endX_c K0 hr hlocks hE hZ dX5_stateOf_8
def f_X5_stationOf (a0 : Nat) (a1 : Int32) : PM (Int32 ⊕ String) := if a0 < 1 then bndX (f_X5_requireStanding a0 a1) (fun v2 => bnd (rdc 60 v2 16) (fun v5 => rtX v5)) else fail
theorem yd_X5_stationOf : yX5_stationOf.cls = RX5 ∧ yX5_stationOf.cls ≠ "java/lang/invoke/MethodHandle" ∧ yX5_stationOf.cls ≠ "java/lang/invoke/VarHandle" ∧ (parseMethodDescriptor yX5_stationOf.desc).map (fun d => d.parameters.length) = some 1 := by decide +kernel
set_option maxHeartbeats 4000000 in
set_option maxRecDepth 100000 in
theorem c_X5_stationOf (l : Launch) (hfl : l.stackTraces = false) (D : va_G) (w : Wc) (aS : Nat → Nat) (sk sv : Nat) (A : Nat → Prop) (a0 : Nat) (a1 : Int32) : CX l yX5_stationOf cX5_stationOf 2 (some .int) 8 144 D w (ENVC D w aS sk sv A) A [vr w.2.2.2.2 0 1 a0, .int a1] (f_X5_stationOf a0 a1) vI := by
  refine CX.ofW (by decide) [(0, vr w.2.2.2.2 0 1 a0), (1, .int a1)] (by simp [lv_args, vr_cat, vc_i, vc_j, vc_f, vc_d, vc_r, vc_n]) (by simp [lg_sl, vr_cat, vc_i, vc_j, vc_f, vc_d, vc_r, vc_n]) ?_
  intro S0 E0 R p e s m args below meth c ls hE hRf hRl hRc K0 hr hlocks hout hEV hA hZ hl
  have K0 : CallFix p m c cX5_stationOf 2 s args GW RX5 := K0
  have hx := K0.1
  have hb := K0.2.1
  have hown := K0.2.2.2.1
  have hg := K0.2.2.2.2
  have hK := hEV.1
  have hok : EVok (ENVC D w aS sk sv A) A := ENVC.ok
  unfold f_X5_stationOf at hE
  refine vr_aload_n hx hb dX5_stationOf_0 rfl (lv_at hl 0 rfl) ?_
  refine lv_iload_n hx hb dX5_stationOf_1 rfl (lv_at hl 1 rfl) ?_
  refine call_VX (rest := []) K0 hK hok hEV hA (c_X5_requireStanding l hfl D w aS sk sv A a0 a1) q767 q769 q17 q40 q770 yd_X5_requireStanding ⟨by omega, by omega⟩ hRc hout hlocks (ci := 7) rfl rfl (rc_LC w _) hE hZ hl.1 rfl (Nat.le_of_ble_eq_true rfl) dX5_stationOf_2 (fun v2 S H locs cells slots hE hZ => ?_)
  refine W.eq (g2 := F0 m 5 ls [vr w.2.2.2.2 37 60 v2]) rfl ?_
  refine gN_CA_4 K0 hK hE hZ (nw22 hEV) dX5_stationOf_5 (fun v5 hE => ?_)
  exact endX_i K0 hr hlocks hE hZ dX5_stationOf_8
def f_X5_toGo (a0 : Nat) (a1 : Int32) : PM (Int32 ⊕ String) := if a0 < 1 then bndX (f_X5_requireStanding a0 a1) (fun v2 => bnd (rdc 60 v2 17) (fun v5 => rtX v5)) else fail
theorem yd_X5_toGo : yX5_toGo.cls = RX5 ∧ yX5_toGo.cls ≠ "java/lang/invoke/MethodHandle" ∧ yX5_toGo.cls ≠ "java/lang/invoke/VarHandle" ∧ (parseMethodDescriptor yX5_toGo.desc).map (fun d => d.parameters.length) = some 1 := by decide +kernel
set_option maxHeartbeats 4000000 in
set_option maxRecDepth 100000 in
theorem c_X5_toGo (l : Launch) (hfl : l.stackTraces = false) (D : va_G) (w : Wc) (aS : Nat → Nat) (sk sv : Nat) (A : Nat → Prop) (a0 : Nat) (a1 : Int32) : CX l yX5_toGo cX5_toGo 2 (some .int) 8 144 D w (ENVC D w aS sk sv A) A [vr w.2.2.2.2 0 1 a0, .int a1] (f_X5_toGo a0 a1) vI := by
  refine CX.ofW (by decide) [(0, vr w.2.2.2.2 0 1 a0), (1, .int a1)] (by simp [lv_args, vr_cat, vc_i, vc_j, vc_f, vc_d, vc_r, vc_n]) (by simp [lg_sl, vr_cat, vc_i, vc_j, vc_f, vc_d, vc_r, vc_n]) ?_
  intro S0 E0 R p e s m args below meth c ls hE hRf hRl hRc K0 hr hlocks hout hEV hA hZ hl
  have K0 : CallFix p m c cX5_toGo 2 s args GW RX5 := K0
  have hx := K0.1
  have hb := K0.2.1
  have hown := K0.2.2.2.1
  have hg := K0.2.2.2.2
  have hK := hEV.1
  have hok : EVok (ENVC D w aS sk sv A) A := ENVC.ok
  unfold f_X5_toGo at hE
  refine vr_aload_n hx hb dX5_toGo_0 rfl (lv_at hl 0 rfl) ?_
  refine lv_iload_n hx hb dX5_toGo_1 rfl (lv_at hl 1 rfl) ?_
  refine call_VX (rest := []) K0 hK hok hEV hA (c_X5_requireStanding l hfl D w aS sk sv A a0 a1) q767 q769 q17 q40 q770 yd_X5_requireStanding ⟨by omega, by omega⟩ hRc hout hlocks (ci := 7) rfl rfl (rc_LC w _) hE hZ hl.1 rfl (Nat.le_of_ble_eq_true rfl) dX5_toGo_2 (fun v2 S H locs cells slots hE hZ => ?_)
  refine W.eq (g2 := F0 m 5 ls [vr w.2.2.2.2 37 60 v2]) rfl ?_
  refine gN_CA_5 K0 hK hE hZ (nw24 hEV) dX5_toGo_5 (fun v5 hE => ?_)
  exact endX_i K0 hr hlocks hE hZ dX5_toGo_8
def f_X5_carAt (a0 : Nat) (a1 : Int32) : PM (Int32 ⊕ String) := if a0 < 1 then bndX (f_X5_requireStation a0 a1) (fun v2 => bnd (rdc 16 v2 12) (fun v7 => if v7 = (-1 : Int32) then (thr "java/lang/IllegalStateException") else (bnd (rdc 16 v2 12) (fun v25 => rtX v25)))) else fail
theorem yd_X5_carAt : yX5_carAt.cls = RX5 ∧ yX5_carAt.cls ≠ "java/lang/invoke/MethodHandle" ∧ yX5_carAt.cls ≠ "java/lang/invoke/VarHandle" ∧ (parseMethodDescriptor yX5_carAt.desc).map (fun d => d.parameters.length) = some 1 := by decide +kernel
set_option maxHeartbeats 4000000 in
set_option maxRecDepth 100000 in
theorem c_X5_carAt (l : Launch) (hfl : l.stackTraces = false) (D : va_G) (w : Wc) (aS : Nat → Nat) (sk sv : Nat) (A : Nat → Prop) (a0 : Nat) (a1 : Int32) : CX l yX5_carAt cX5_carAt 3 (some .int) 7 122 D w (ENVC D w aS sk sv A) A [vr w.2.2.2.2 0 1 a0, .int a1] (f_X5_carAt a0 a1) vI := by
  refine CX.ofW (by decide) [(0, vr w.2.2.2.2 0 1 a0), (1, .int a1)] (by simp [lv_args, vr_cat, vc_i, vc_j, vc_f, vc_d, vc_r, vc_n]) (by simp [lg_sl, vr_cat, vc_i, vc_j, vc_f, vc_d, vc_r, vc_n]) ?_
  intro S0 E0 R p e s m args below meth c ls hE hRf hRl hRc K0 hr hlocks hout hEV hA hZ hl
  have K0 : CallFix p m c cX5_carAt 3 s args GW RX5 := K0
  have hx := K0.1
  have hb := K0.2.1
  have hown := K0.2.2.2.1
  have hg := K0.2.2.2.2
  have hK := hEV.1
  have hok : EVok (ENVC D w aS sk sv A) A := ENVC.ok
  unfold f_X5_carAt at hE
  refine vr_aload_n hx hb dX5_carAt_0 rfl (lv_at hl 0 rfl) ?_
  refine lv_iload_n hx hb dX5_carAt_1 rfl (lv_at hl 1 rfl) ?_
  refine call_VX (rest := []) K0 hK hok hEV hA (c_X5_requireStation l hfl D w aS sk sv A a0 a1) q512 q514 q2 q40 q515 yd_X5_requireStation ⟨by omega, by omega⟩ hRc hout hlocks (ci := 7) rfl rfl (rc_LC w _) hE hZ hl.1 rfl (Nat.le_of_ble_eq_true rfl) dX5_carAt_2 (fun v2 S H locs cells slots hE hZ => ?_)
  refine W.eq (g2 := F0 m 5 ls [vr w.2.2.2.2 21 16 v2]) rfl ?_
  refine vr_astore_n (i := 2) (lv' := [(2, vr w.2.2.2.2 21 16 v2), (0, vr w.2.2.2.2 0 1 a0), (1, .int a1)]) hx hb dX5_carAt_5 rfl hl (by decide) rfl (fun ls hl => ?_)
  refine vr_aload_n hx hb dX5_carAt_6 rfl (lv_at hl 0 rfl) ?_
  refine gN_ST_5 K0 hK hE hZ (nw10 hEV) dX5_carAt_7 (fun v7 hE => ?_)
  refine lv_iconst (v := (-1)) hx hb dX5_carAt_10 (by decide +kernel) ?_
  refine lv_icmp_ne (tgt := 24) hx hb dX5_carAt_11 (by decide) (fun hc => ?_) (fun hc => ?_)
  · have hE := if_f hE hc
    refine vr_aload_n hx hb dX5_carAt_24 rfl (lv_at hl 0 rfl) ?_
    refine gN_ST_5 K0 hK hE hZ (nw10 hEV) dX5_carAt_25 (fun v25 hE => ?_)
    exact endX_i K0 hr hlocks hE hZ dX5_carAt_28
  · have hE := if_t hE hc
    exact thr_S K0 hfl hEV (i := 18) (by decide +kernel) (by decide +kernel) q382 q51 rfl (at_IllegalStateException hEV hg) atg_IllegalStateException hE hZ hRc hl.1 dX5_carAt_14 dX5_carAt_17 dX5_carAt_18 dX5_carAt_20 dX5_carAt_23 hout (by rw [hRf]; decide) (by rw [hRl]; simp [vr_cat, vc_i, vc_j, vc_f, vc_d, vc_r, vc_n]) hlocks
def f_X5_isBack (a0 : Nat) (a1 : Int32) : PM (Int32 ⊕ String) := if a0 < 1 then bndX (f_X5_requireCar a0 a1) (fun v2 => bnd (rdc 60 v2 18) (fun v5 => rtZX v5)) else fail
theorem yd_X5_isBack : yX5_isBack.cls = RX5 ∧ yX5_isBack.cls ≠ "java/lang/invoke/MethodHandle" ∧ yX5_isBack.cls ≠ "java/lang/invoke/VarHandle" ∧ (parseMethodDescriptor yX5_isBack.desc).map (fun d => d.parameters.length) = some 1 := by decide +kernel
set_option maxHeartbeats 4000000 in
set_option maxRecDepth 100000 in
theorem c_X5_isBack (l : Launch) (hfl : l.stackTraces = false) (D : va_G) (w : Wc) (aS : Nat → Nat) (sk sv : Nat) (A : Nat → Prop) (a0 : Nat) (a1 : Int32) : CX l yX5_isBack cX5_isBack 2 (some .boolean) 7 122 D w (ENVC D w aS sk sv A) A [vr w.2.2.2.2 0 1 a0, .int a1] (f_X5_isBack a0 a1) vI := by
  refine CX.ofW (by decide) [(0, vr w.2.2.2.2 0 1 a0), (1, .int a1)] (by simp [lv_args, vr_cat, vc_i, vc_j, vc_f, vc_d, vc_r, vc_n]) (by simp [lg_sl, vr_cat, vc_i, vc_j, vc_f, vc_d, vc_r, vc_n]) ?_
  intro S0 E0 R p e s m args below meth c ls hE hRf hRl hRc K0 hr hlocks hout hEV hA hZ hl
  have K0 : CallFix p m c cX5_isBack 2 s args GW RX5 := K0
  have hx := K0.1
  have hb := K0.2.1
  have hown := K0.2.2.2.1
  have hg := K0.2.2.2.2
  have hK := hEV.1
  have hok : EVok (ENVC D w aS sk sv A) A := ENVC.ok
  unfold f_X5_isBack at hE
  refine vr_aload_n hx hb dX5_isBack_0 rfl (lv_at hl 0 rfl) ?_
  refine lv_iload_n hx hb dX5_isBack_1 rfl (lv_at hl 1 rfl) ?_
  refine call_VX (rest := []) K0 hK hok hEV hA (c_X5_requireCar l hfl D w aS sk sv A a0 a1) q480 q482 q1 q40 q483 yd_X5_requireCar ⟨by omega, by omega⟩ hRc hout hlocks (ci := 7) rfl rfl (rc_LC w _) hE hZ hl.1 rfl (Nat.le_of_ble_eq_true rfl) dX5_isBack_2 (fun v2 S H locs cells slots hE hZ => ?_)
  refine W.eq (g2 := F0 m 5 ls [vr w.2.2.2.2 37 60 v2]) rfl ?_
  refine gN_CA_6 K0 hK hE hZ (nw26 hEV) dX5_isBack_5 (fun v5 hE => ?_)
  exact endX_z K0 hr hlocks hE hZ dX5_isBack_8
def f_X5_waiting (a0 : Nat) : PM Int32 := bnd (rfc 1 a0 0) (fun v1 => bnd (rfc 2 v1 (3 * v1)) (fun v4 => bnd (rdc 6 v4 5) (fun v7 => rtn v7)))
theorem yd_X5_waiting : yX5_waiting.cls = RX5 ∧ yX5_waiting.cls ≠ "java/lang/invoke/MethodHandle" ∧ yX5_waiting.cls ≠ "java/lang/invoke/VarHandle" ∧ (parseMethodDescriptor yX5_waiting.desc).map (fun d => d.parameters.length) = some 0 := by decide +kernel
set_option maxHeartbeats 4000000 in
set_option maxRecDepth 100000 in
theorem c_X5_waiting (l : Launch) (D : va_G) (w : Wc) (aS : Nat → Nat) (sk sv : Nat) (A : Nat → Prop) (a0 : Nat) : CT l yX5_waiting cX5_waiting 1 (some .int) 0 0 (PC D w A) (ENVC D w aS sk sv A) A [vr w.2.2.2.2 0 1 a0] (f_X5_waiting a0) vI := by
  refine CT.ofW (by decide) [(0, vr w.2.2.2.2 0 1 a0)] (by simp [lv_args, vr_cat, vc_i, vc_j, vc_f, vc_d, vc_r, vc_n]) (by simp [lg_sl, vr_cat, vc_i, vc_j, vc_f, vc_d, vc_r, vc_n]) ?_
  intro S0 E0 R p e s m args below meth c ls hE hRf hRl hRc K0 hr hlocks hEV hA hZ hl
  have K0 : CallFix p m c cX5_waiting 1 s args GW RX5 := K0
  have hx := K0.1
  have hb := K0.2.1
  have hown := K0.2.2.2.1
  have hg := K0.2.2.2.2
  have hK := hEV.1
  have hok : EVok (ENVC D w aS sk sv A) A := ENVC.ok
  unfold f_X5_waiting at hE
  refine vr_aload_n hx hb dX5_waiting_0 rfl (lv_at hl 0 rfl) ?_
  refine g_LC_0 K0 hK hE hZ q250 dX5_waiting_1 (fun v1 hE => ?_)
  refine gN_LN_3 K0 hK hE hZ (nw33 hEV) dX5_waiting_4 (fun v4 hE => ?_)
  refine gN_RO_1 K0 hK hE hZ (nw1 hEV) dX5_waiting_7 (fun v7 hE => ?_)
  exact end_i K0 hr hlocks hE hZ dX5_waiting_10
def f_X5_waitingAt (a0 : Nat) (a1 : Int32) : PM (Int32 ⊕ String) := bnd (rfc 1 a0 0) (fun v1 => bnd (rfc 2 v1 (3 * v1)) (fun v4 => bndX (f_X5_requirePlace v4 a1) (fun v8 => rtX v8)))
theorem yd_X5_waitingAt : yX5_waitingAt.cls = RX5 ∧ yX5_waitingAt.cls ≠ "java/lang/invoke/MethodHandle" ∧ yX5_waitingAt.cls ≠ "java/lang/invoke/VarHandle" ∧ (parseMethodDescriptor yX5_waitingAt.desc).map (fun d => d.parameters.length) = some 1 := by decide +kernel
set_option maxHeartbeats 4000000 in
set_option maxRecDepth 100000 in
theorem c_X5_waitingAt (l : Launch) (hfl : l.stackTraces = false) (D : va_G) (w : Wc) (aS : Nat → Nat) (sk sv : Nat) (A : Nat → Prop) (a0 : Nat) (a1 : Int32) : CX l yX5_waitingAt cX5_waitingAt 2 (some .int) 7 121 D w (ENVC D w aS sk sv A) A [vr w.2.2.2.2 0 1 a0, .int a1] (f_X5_waitingAt a0 a1) vI := by
  refine CX.ofW (by decide) [(0, vr w.2.2.2.2 0 1 a0), (1, .int a1)] (by simp [lv_args, vr_cat, vc_i, vc_j, vc_f, vc_d, vc_r, vc_n]) (by simp [lg_sl, vr_cat, vc_i, vc_j, vc_f, vc_d, vc_r, vc_n]) ?_
  intro S0 E0 R p e s m args below meth c ls hE hRf hRl hRc K0 hr hlocks hout hEV hA hZ hl
  have K0 : CallFix p m c cX5_waitingAt 2 s args GW RX5 := K0
  have hx := K0.1
  have hb := K0.2.1
  have hown := K0.2.2.2.1
  have hg := K0.2.2.2.2
  have hK := hEV.1
  have hok : EVok (ENVC D w aS sk sv A) A := ENVC.ok
  unfold f_X5_waitingAt at hE
  refine vr_aload_n hx hb dX5_waitingAt_0 rfl (lv_at hl 0 rfl) ?_
  refine g_LC_0 K0 hK hE hZ q250 dX5_waitingAt_1 (fun v1 hE => ?_)
  refine gN_LN_3 K0 hK hE hZ (nw33 hEV) dX5_waitingAt_4 (fun v4 hE => ?_)
  refine lv_iload_n hx hb dX5_waitingAt_7 rfl (lv_at hl 1 rfl) ?_
  refine call_SX (rest := []) K0 hok hEV hA (c_X5_requirePlace l hfl D w aS sk sv A v4 a1) q825 q826 q40 q827 yd_X5_requirePlace ⟨by omega, by omega⟩ hRc hout hlocks hE hZ hl.1 rfl (Nat.le_of_ble_eq_true rfl) dX5_waitingAt_8 (fun v8 S H locs cells slots hE hZ => ?_)
  refine W.eq (g2 := F0 m 11 ls [.int v8]) rfl ?_
  exact endX_i K0 hr hlocks hE hZ dX5_waitingAt_11
def f_X5_looped (a0 : Nat) : PM Int32 := bnd (rfc 1 a0 0) (fun v1 => bnd (rfc 2 v1 (3 * v1 + 1)) (fun v4 => bnd (rdc 6 v4 5) (fun v7 => rtn v7)))
theorem yd_X5_looped : yX5_looped.cls = RX5 ∧ yX5_looped.cls ≠ "java/lang/invoke/MethodHandle" ∧ yX5_looped.cls ≠ "java/lang/invoke/VarHandle" ∧ (parseMethodDescriptor yX5_looped.desc).map (fun d => d.parameters.length) = some 0 := by decide +kernel
set_option maxHeartbeats 4000000 in
set_option maxRecDepth 100000 in
theorem c_X5_looped (l : Launch) (D : va_G) (w : Wc) (aS : Nat → Nat) (sk sv : Nat) (A : Nat → Prop) (a0 : Nat) : CT l yX5_looped cX5_looped 1 (some .int) 0 0 (PC D w A) (ENVC D w aS sk sv A) A [vr w.2.2.2.2 0 1 a0] (f_X5_looped a0) vI := by
  refine CT.ofW (by decide) [(0, vr w.2.2.2.2 0 1 a0)] (by simp [lv_args, vr_cat, vc_i, vc_j, vc_f, vc_d, vc_r, vc_n]) (by simp [lg_sl, vr_cat, vc_i, vc_j, vc_f, vc_d, vc_r, vc_n]) ?_
  intro S0 E0 R p e s m args below meth c ls hE hRf hRl hRc K0 hr hlocks hEV hA hZ hl
  have K0 : CallFix p m c cX5_looped 1 s args GW RX5 := K0
  have hx := K0.1
  have hb := K0.2.1
  have hown := K0.2.2.2.1
  have hg := K0.2.2.2.2
  have hK := hEV.1
  have hok : EVok (ENVC D w aS sk sv A) A := ENVC.ok
  unfold f_X5_looped at hE
  refine vr_aload_n hx hb dX5_looped_0 rfl (lv_at hl 0 rfl) ?_
  refine g_LC_0 K0 hK hE hZ q250 dX5_looped_1 (fun v1 hE => ?_)
  refine gN_LN_4 K0 hK hE hZ (nw34 hEV) dX5_looped_4 (fun v4 hE => ?_)
  refine gN_RO_1 K0 hK hE hZ (nw1 hEV) dX5_looped_7 (fun v7 hE => ?_)
  exact end_i K0 hr hlocks hE hZ dX5_looped_10
def f_X5_loopedAt (a0 : Nat) (a1 : Int32) : PM (Int32 ⊕ String) := bnd (rfc 1 a0 0) (fun v1 => bnd (rfc 2 v1 (3 * v1 + 1)) (fun v4 => bndX (f_X5_requirePlace v4 a1) (fun v8 => rtX v8)))
theorem yd_X5_loopedAt : yX5_loopedAt.cls = RX5 ∧ yX5_loopedAt.cls ≠ "java/lang/invoke/MethodHandle" ∧ yX5_loopedAt.cls ≠ "java/lang/invoke/VarHandle" ∧ (parseMethodDescriptor yX5_loopedAt.desc).map (fun d => d.parameters.length) = some 1 := by decide +kernel
set_option maxHeartbeats 4000000 in
set_option maxRecDepth 100000 in
theorem c_X5_loopedAt (l : Launch) (hfl : l.stackTraces = false) (D : va_G) (w : Wc) (aS : Nat → Nat) (sk sv : Nat) (A : Nat → Prop) (a0 : Nat) (a1 : Int32) : CX l yX5_loopedAt cX5_loopedAt 2 (some .int) 7 121 D w (ENVC D w aS sk sv A) A [vr w.2.2.2.2 0 1 a0, .int a1] (f_X5_loopedAt a0 a1) vI := by
  refine CX.ofW (by decide) [(0, vr w.2.2.2.2 0 1 a0), (1, .int a1)] (by simp [lv_args, vr_cat, vc_i, vc_j, vc_f, vc_d, vc_r, vc_n]) (by simp [lg_sl, vr_cat, vc_i, vc_j, vc_f, vc_d, vc_r, vc_n]) ?_
  intro S0 E0 R p e s m args below meth c ls hE hRf hRl hRc K0 hr hlocks hout hEV hA hZ hl
  have K0 : CallFix p m c cX5_loopedAt 2 s args GW RX5 := K0
  have hx := K0.1
  have hb := K0.2.1
  have hown := K0.2.2.2.1
  have hg := K0.2.2.2.2
  have hK := hEV.1
  have hok : EVok (ENVC D w aS sk sv A) A := ENVC.ok
  unfold f_X5_loopedAt at hE
  refine vr_aload_n hx hb dX5_loopedAt_0 rfl (lv_at hl 0 rfl) ?_
  refine g_LC_0 K0 hK hE hZ q250 dX5_loopedAt_1 (fun v1 hE => ?_)
  refine gN_LN_4 K0 hK hE hZ (nw34 hEV) dX5_loopedAt_4 (fun v4 hE => ?_)
  refine lv_iload_n hx hb dX5_loopedAt_7 rfl (lv_at hl 1 rfl) ?_
  refine call_SX (rest := []) K0 hok hEV hA (c_X5_requirePlace l hfl D w aS sk sv A v4 a1) q825 q826 q40 q827 yd_X5_requirePlace ⟨by omega, by omega⟩ hRc hout hlocks hE hZ hl.1 rfl (Nat.le_of_ble_eq_true rfl) dX5_loopedAt_8 (fun v8 S H locs cells slots hE hZ => ?_)
  refine W.eq (g2 := F0 m 11 ls [.int v8]) rfl ?_
  exact endX_i K0 hr hlocks hE hZ dX5_loopedAt_11
def f_X5_left (a0 : Nat) : PM Int32 := bnd (rfc 1 a0 0) (fun v1 => bnd (rfc 2 v1 (3 * v1 + 2)) (fun v4 => bnd (rdc 6 v4 5) (fun v7 => rtn v7)))
theorem yd_X5_left : yX5_left.cls = RX5 ∧ yX5_left.cls ≠ "java/lang/invoke/MethodHandle" ∧ yX5_left.cls ≠ "java/lang/invoke/VarHandle" ∧ (parseMethodDescriptor yX5_left.desc).map (fun d => d.parameters.length) = some 0 := by decide +kernel
set_option maxHeartbeats 4000000 in
set_option maxRecDepth 100000 in
theorem c_X5_left (l : Launch) (D : va_G) (w : Wc) (aS : Nat → Nat) (sk sv : Nat) (A : Nat → Prop) (a0 : Nat) : CT l yX5_left cX5_left 1 (some .int) 0 0 (PC D w A) (ENVC D w aS sk sv A) A [vr w.2.2.2.2 0 1 a0] (f_X5_left a0) vI := by
  refine CT.ofW (by decide) [(0, vr w.2.2.2.2 0 1 a0)] (by simp [lv_args, vr_cat, vc_i, vc_j, vc_f, vc_d, vc_r, vc_n]) (by simp [lg_sl, vr_cat, vc_i, vc_j, vc_f, vc_d, vc_r, vc_n]) ?_
  intro S0 E0 R p e s m args below meth c ls hE hRf hRl hRc K0 hr hlocks hEV hA hZ hl
  have K0 : CallFix p m c cX5_left 1 s args GW RX5 := K0
  have hx := K0.1
  have hb := K0.2.1
  have hown := K0.2.2.2.1
  have hg := K0.2.2.2.2
  have hK := hEV.1
  have hok : EVok (ENVC D w aS sk sv A) A := ENVC.ok
  unfold f_X5_left at hE
  refine vr_aload_n hx hb dX5_left_0 rfl (lv_at hl 0 rfl) ?_
  refine g_LC_0 K0 hK hE hZ q250 dX5_left_1 (fun v1 hE => ?_)
  refine gN_LN_5 K0 hK hE hZ (nw35 hEV) dX5_left_4 (fun v4 hE => ?_)
  refine gN_RO_1 K0 hK hE hZ (nw1 hEV) dX5_left_7 (fun v7 hE => ?_)
  exact end_i K0 hr hlocks hE hZ dX5_left_10
def f_X5_leftAt (a0 : Nat) (a1 : Int32) : PM (Int32 ⊕ String) := bnd (rfc 1 a0 0) (fun v1 => bnd (rfc 2 v1 (3 * v1 + 2)) (fun v4 => bndX (f_X5_requirePlace v4 a1) (fun v8 => rtX v8)))
theorem yd_X5_leftAt : yX5_leftAt.cls = RX5 ∧ yX5_leftAt.cls ≠ "java/lang/invoke/MethodHandle" ∧ yX5_leftAt.cls ≠ "java/lang/invoke/VarHandle" ∧ (parseMethodDescriptor yX5_leftAt.desc).map (fun d => d.parameters.length) = some 1 := by decide +kernel
set_option maxHeartbeats 4000000 in
set_option maxRecDepth 100000 in
theorem c_X5_leftAt (l : Launch) (hfl : l.stackTraces = false) (D : va_G) (w : Wc) (aS : Nat → Nat) (sk sv : Nat) (A : Nat → Prop) (a0 : Nat) (a1 : Int32) : CX l yX5_leftAt cX5_leftAt 2 (some .int) 7 121 D w (ENVC D w aS sk sv A) A [vr w.2.2.2.2 0 1 a0, .int a1] (f_X5_leftAt a0 a1) vI := by
  refine CX.ofW (by decide) [(0, vr w.2.2.2.2 0 1 a0), (1, .int a1)] (by simp [lv_args, vr_cat, vc_i, vc_j, vc_f, vc_d, vc_r, vc_n]) (by simp [lg_sl, vr_cat, vc_i, vc_j, vc_f, vc_d, vc_r, vc_n]) ?_
  intro S0 E0 R p e s m args below meth c ls hE hRf hRl hRc K0 hr hlocks hout hEV hA hZ hl
  have K0 : CallFix p m c cX5_leftAt 2 s args GW RX5 := K0
  have hx := K0.1
  have hb := K0.2.1
  have hown := K0.2.2.2.1
  have hg := K0.2.2.2.2
  have hK := hEV.1
  have hok : EVok (ENVC D w aS sk sv A) A := ENVC.ok
  unfold f_X5_leftAt at hE
  refine vr_aload_n hx hb dX5_leftAt_0 rfl (lv_at hl 0 rfl) ?_
  refine g_LC_0 K0 hK hE hZ q250 dX5_leftAt_1 (fun v1 hE => ?_)
  refine gN_LN_5 K0 hK hE hZ (nw35 hEV) dX5_leftAt_4 (fun v4 hE => ?_)
  refine lv_iload_n hx hb dX5_leftAt_7 rfl (lv_at hl 1 rfl) ?_
  refine call_SX (rest := []) K0 hok hEV hA (c_X5_requirePlace l hfl D w aS sk sv A v4 a1) q825 q826 q40 q827 yd_X5_requirePlace ⟨by omega, by omega⟩ hRc hout hlocks hE hZ hl.1 rfl (Nat.le_of_ble_eq_true rfl) dX5_leftAt_8 (fun v8 S H locs cells slots hE hZ => ?_)
  refine W.eq (g2 := F0 m 11 ls [.int v8]) rfl ?_
  exact endX_i K0 hr hlocks hE hZ dX5_leftAt_11
def f_X5_leftIn (a0 : Nat) (a1 : Int32) : PM (Int32 ⊕ String) := if a0 < 1 then bndX (f_X5_requireCar a0 a1) (fun v2 => bnd (rdc 60 v2 15) (fun v7 => if v7 = (100 : Int32) then (bnd (rdc 60 v2 22) (fun v26 => rtX v26)) else (thr "java/lang/IllegalStateException"))) else fail
theorem yd_X5_leftIn : yX5_leftIn.cls = RX5 ∧ yX5_leftIn.cls ≠ "java/lang/invoke/MethodHandle" ∧ yX5_leftIn.cls ≠ "java/lang/invoke/VarHandle" ∧ (parseMethodDescriptor yX5_leftIn.desc).map (fun d => d.parameters.length) = some 1 := by decide +kernel
set_option maxHeartbeats 4000000 in
set_option maxRecDepth 100000 in
theorem c_X5_leftIn (l : Launch) (hfl : l.stackTraces = false) (D : va_G) (w : Wc) (aS : Nat → Nat) (sk sv : Nat) (A : Nat → Prop) (a0 : Nat) (a1 : Int32) : CX l yX5_leftIn cX5_leftIn 3 (some .int) 7 122 D w (ENVC D w aS sk sv A) A [vr w.2.2.2.2 0 1 a0, .int a1] (f_X5_leftIn a0 a1) vI := by
  refine CX.ofW (by decide) [(0, vr w.2.2.2.2 0 1 a0), (1, .int a1)] (by simp [lv_args, vr_cat, vc_i, vc_j, vc_f, vc_d, vc_r, vc_n]) (by simp [lg_sl, vr_cat, vc_i, vc_j, vc_f, vc_d, vc_r, vc_n]) ?_
  intro S0 E0 R p e s m args below meth c ls hE hRf hRl hRc K0 hr hlocks hout hEV hA hZ hl
  have K0 : CallFix p m c cX5_leftIn 3 s args GW RX5 := K0
  have hx := K0.1
  have hb := K0.2.1
  have hown := K0.2.2.2.1
  have hg := K0.2.2.2.2
  have hK := hEV.1
  have hok : EVok (ENVC D w aS sk sv A) A := ENVC.ok
  unfold f_X5_leftIn at hE
  refine vr_aload_n hx hb dX5_leftIn_0 rfl (lv_at hl 0 rfl) ?_
  refine lv_iload_n hx hb dX5_leftIn_1 rfl (lv_at hl 1 rfl) ?_
  refine call_VX (rest := []) K0 hK hok hEV hA (c_X5_requireCar l hfl D w aS sk sv A a0 a1) q480 q482 q1 q40 q483 yd_X5_requireCar ⟨by omega, by omega⟩ hRc hout hlocks (ci := 7) rfl rfl (rc_LC w _) hE hZ hl.1 rfl (Nat.le_of_ble_eq_true rfl) dX5_leftIn_2 (fun v2 S H locs cells slots hE hZ => ?_)
  refine W.eq (g2 := F0 m 5 ls [vr w.2.2.2.2 37 60 v2]) rfl ?_
  refine vr_astore_n (i := 2) (lv' := [(2, vr w.2.2.2.2 37 60 v2), (0, vr w.2.2.2.2 0 1 a0), (1, .int a1)]) hx hb dX5_leftIn_5 rfl hl (by decide) rfl (fun ls hl => ?_)
  refine vr_aload_n hx hb dX5_leftIn_6 rfl (lv_at hl 0 rfl) ?_
  refine gN_CA_3 K0 hK hE hZ (nw20 hEV) dX5_leftIn_7 (fun v7 hE => ?_)
  refine lv_bipush (v := (100)) hx hb dX5_leftIn_10 (by decide +kernel) ?_
  refine lv_icmp_eq (tgt := 25) hx hb dX5_leftIn_12 (by decide) (fun hc => ?_) (fun hc => ?_)
  · have hE := if_t hE hc
    refine vr_aload_n hx hb dX5_leftIn_25 rfl (lv_at hl 0 rfl) ?_
    refine gN_CA_10 K0 hK hE hZ (nw32 hEV) dX5_leftIn_26 (fun v26 hE => ?_)
    exact endX_i K0 hr hlocks hE hZ dX5_leftIn_29
  · have hE := if_f hE hc
    exact thr_S K0 hfl hEV (i := 20) (by decide +kernel) (by decide +kernel) q382 q51 rfl (at_IllegalStateException hEV hg) atg_IllegalStateException hE hZ hRc hl.1 dX5_leftIn_15 dX5_leftIn_18 dX5_leftIn_19 dX5_leftIn_21 dX5_leftIn_24 hout (by rw [hRf]; decide) (by rw [hRl]; simp [vr_cat, vc_i, vc_j, vc_f, vc_d, vc_r, vc_n]) hlocks
def f_X5_faults (a0 : Nat) (a1 : Int32) : PM (Int32 ⊕ String) := if a0 < 1 then bndX (f_X5_requireCar a0 a1) (fun v2 => if v2 < 60 then bnd (f_X0_faultCount v2) (fun v5 => rtX v5) else fail) else fail
theorem yd_X5_faults : yX5_faults.cls = RX5 ∧ yX5_faults.cls ≠ "java/lang/invoke/MethodHandle" ∧ yX5_faults.cls ≠ "java/lang/invoke/VarHandle" ∧ (parseMethodDescriptor yX5_faults.desc).map (fun d => d.parameters.length) = some 1 := by decide +kernel
set_option maxHeartbeats 4000000 in
set_option maxRecDepth 100000 in
theorem c_X5_faults (l : Launch) (hfl : l.stackTraces = false) (D : va_G) (w : Wc) (aS : Nat → Nat) (sk sv : Nat) (A : Nat → Prop) (a0 : Nat) (a1 : Int32) : CX l yX5_faults cX5_faults 2 (some .int) 7 122 D w (ENVC D w aS sk sv A) A [vr w.2.2.2.2 0 1 a0, .int a1] (f_X5_faults a0 a1) vI := by
  refine CX.ofW (by decide) [(0, vr w.2.2.2.2 0 1 a0), (1, .int a1)] (by simp [lv_args, vr_cat, vc_i, vc_j, vc_f, vc_d, vc_r, vc_n]) (by simp [lg_sl, vr_cat, vc_i, vc_j, vc_f, vc_d, vc_r, vc_n]) ?_
  intro S0 E0 R p e s m args below meth c ls hE hRf hRl hRc K0 hr hlocks hout hEV hA hZ hl
  have K0 : CallFix p m c cX5_faults 2 s args GW RX5 := K0
  have hx := K0.1
  have hb := K0.2.1
  have hown := K0.2.2.2.1
  have hg := K0.2.2.2.2
  have hK := hEV.1
  have hok : EVok (ENVC D w aS sk sv A) A := ENVC.ok
  unfold f_X5_faults at hE
  refine vr_aload_n hx hb dX5_faults_0 rfl (lv_at hl 0 rfl) ?_
  refine lv_iload_n hx hb dX5_faults_1 rfl (lv_at hl 1 rfl) ?_
  refine call_VX (rest := []) K0 hK hok hEV hA (c_X5_requireCar l hfl D w aS sk sv A a0 a1) q480 q482 q1 q40 q483 yd_X5_requireCar ⟨by omega, by omega⟩ hRc hout hlocks (ci := 7) rfl rfl (rc_LC w _) hE hZ hl.1 rfl (Nat.le_of_ble_eq_true rfl) dX5_faults_2 (fun v2 S H locs cells slots hE hZ => ?_)
  refine W.eq (g2 := F0 m 5 ls [vr w.2.2.2.2 37 60 v2]) rfl ?_
  refine call_V (rest := []) K0 hK hok hEV hA (c_X0_faultCount l D w aS sk sv A v2) q546 q547 q548 q44 q549 yd_X0_faultCount ⟨by omega, by omega⟩ hRc (ci := 2) rfl rfl (rc_CA w _) hE hZ hl.1 rfl (Nat.le_of_ble_eq_true rfl) dX5_faults_5 (fun v5 S H locs cells slots hE hZ => ?_)
  refine W.eq (g2 := F0 m 8 ls [.int v5]) rfl ?_
  exact endX_i K0 hr hlocks hE hZ dX5_faults_8
def f_X5_hasFault (a0 : Nat) (a1 : Int32) (a2 : Int32) : PM (Int32 ⊕ String) := if a0 < 1 then bndX (f_X5_requireCar a0 a1) (fun v2 => if a0 < 1 then bndX (f_X5_requireStation a0 a2) (fun v8 => if v2 < 60 then bnd (f_X0_isFaulty v2 a2) (fun v14 => rtZX v14) else fail) else fail) else fail
theorem yd_X5_hasFault : yX5_hasFault.cls = RX5 ∧ yX5_hasFault.cls ≠ "java/lang/invoke/MethodHandle" ∧ yX5_hasFault.cls ≠ "java/lang/invoke/VarHandle" ∧ (parseMethodDescriptor yX5_hasFault.desc).map (fun d => d.parameters.length) = some 2 := by decide +kernel
set_option maxHeartbeats 4000000 in
set_option maxRecDepth 100000 in
theorem c_X5_hasFault (l : Launch) (hfl : l.stackTraces = false) (D : va_G) (w : Wc) (aS : Nat → Nat) (sk sv : Nat) (A : Nat → Prop) (a0 : Nat) (a1 : Int32) (a2 : Int32) : CX l yX5_hasFault cX5_hasFault 4 (some .boolean) 7 122 D w (ENVC D w aS sk sv A) A [vr w.2.2.2.2 0 1 a0, .int a1, .int a2] (f_X5_hasFault a0 a1 a2) vI := by
  refine CX.ofW (by decide) [(0, vr w.2.2.2.2 0 1 a0), (1, .int a1), (2, .int a2)] (by simp [lv_args, vr_cat, vc_i, vc_j, vc_f, vc_d, vc_r, vc_n]) (by simp [lg_sl, vr_cat, vc_i, vc_j, vc_f, vc_d, vc_r, vc_n]) ?_
  intro S0 E0 R p e s m args below meth c ls hE hRf hRl hRc K0 hr hlocks hout hEV hA hZ hl
  have K0 : CallFix p m c cX5_hasFault 4 s args GW RX5 := K0
  have hx := K0.1
  have hb := K0.2.1
  have hown := K0.2.2.2.1
  have hg := K0.2.2.2.2
  have hK := hEV.1
  have hok : EVok (ENVC D w aS sk sv A) A := ENVC.ok
  unfold f_X5_hasFault at hE
  refine vr_aload_n hx hb dX5_hasFault_0 rfl (lv_at hl 0 rfl) ?_
  refine lv_iload_n hx hb dX5_hasFault_1 rfl (lv_at hl 1 rfl) ?_
  refine call_VX (rest := []) K0 hK hok hEV hA (c_X5_requireCar l hfl D w aS sk sv A a0 a1) q480 q482 q1 q40 q483 yd_X5_requireCar ⟨by omega, by omega⟩ hRc hout hlocks (ci := 7) rfl rfl (rc_LC w _) hE hZ hl.1 rfl (Nat.le_of_ble_eq_true rfl) dX5_hasFault_2 (fun v2 S H locs cells slots hE hZ => ?_)
  refine W.eq (g2 := F0 m 5 ls [vr w.2.2.2.2 37 60 v2]) rfl ?_
  refine vr_astore_n (i := 3) (lv' := [(3, vr w.2.2.2.2 37 60 v2), (0, vr w.2.2.2.2 0 1 a0), (1, .int a1), (2, .int a2)]) hx hb dX5_hasFault_5 rfl hl (by decide) rfl (fun ls hl => ?_)
  refine vr_aload_n hx hb dX5_hasFault_6 rfl (lv_at hl 1 rfl) ?_
  refine lv_iload_n hx hb dX5_hasFault_7 rfl (lv_at hl 3 rfl) ?_
  refine call_VX (rest := []) K0 hK hok hEV hA (c_X5_requireStation l hfl D w aS sk sv A a0 a2) q512 q514 q2 q40 q515 yd_X5_requireStation ⟨by omega, by omega⟩ hRc hout hlocks (ci := 7) rfl rfl (rc_LC w _) hE hZ hl.1 rfl (Nat.le_of_ble_eq_true rfl) dX5_hasFault_8 (fun v8 S H locs cells slots hE hZ => ?_)
  refine W.eq (g2 := F0 m 11 ls [vr w.2.2.2.2 21 16 v8]) rfl ?_
  refine lv_pop hx hb dX5_hasFault_11 vr_cat ?_
  refine vr_aload_n hx hb dX5_hasFault_12 rfl (lv_at hl 0 rfl) ?_
  refine lv_iload_n hx hb dX5_hasFault_13 rfl (lv_at hl 3 rfl) ?_
  refine call_V (rest := []) K0 hK hok hEV hA (c_X0_isFaulty l D w aS sk sv A v2 a2) q522 q523 q524 q44 q525 yd_X0_isFaulty ⟨by omega, by omega⟩ hRc (ci := 2) rfl rfl (rc_CA w _) hE hZ hl.1 rfl (Nat.le_of_ble_eq_true rfl) dX5_hasFault_14 (fun v14 S H locs cells slots hE hZ => ?_)
  refine W.eq (g2 := F0 m 17 ls [.int v14]) rfl ?_
  exact endX_z K0 hr hlocks hE hZ dX5_hasFault_17
def f_X5_lacks (a0 : Nat) (a1 : Int32) : PM (Int32 ⊕ String) := if a0 < 1 then bndX (f_X5_requireStation a0 a1) (fun v2 => bnd (rdc 16 v2 13) (fun v5 => rtX v5)) else fail
theorem yd_X5_lacks : yX5_lacks.cls = RX5 ∧ yX5_lacks.cls ≠ "java/lang/invoke/MethodHandle" ∧ yX5_lacks.cls ≠ "java/lang/invoke/VarHandle" ∧ (parseMethodDescriptor yX5_lacks.desc).map (fun d => d.parameters.length) = some 1 := by decide +kernel
set_option maxHeartbeats 4000000 in
set_option maxRecDepth 100000 in
theorem c_X5_lacks (l : Launch) (hfl : l.stackTraces = false) (D : va_G) (w : Wc) (aS : Nat → Nat) (sk sv : Nat) (A : Nat → Prop) (a0 : Nat) (a1 : Int32) : CX l yX5_lacks cX5_lacks 2 (some .int) 7 122 D w (ENVC D w aS sk sv A) A [vr w.2.2.2.2 0 1 a0, .int a1] (f_X5_lacks a0 a1) vI := by
  refine CX.ofW (by decide) [(0, vr w.2.2.2.2 0 1 a0), (1, .int a1)] (by simp [lv_args, vr_cat, vc_i, vc_j, vc_f, vc_d, vc_r, vc_n]) (by simp [lg_sl, vr_cat, vc_i, vc_j, vc_f, vc_d, vc_r, vc_n]) ?_
  intro S0 E0 R p e s m args below meth c ls hE hRf hRl hRc K0 hr hlocks hout hEV hA hZ hl
  have K0 : CallFix p m c cX5_lacks 2 s args GW RX5 := K0
  have hx := K0.1
  have hb := K0.2.1
  have hown := K0.2.2.2.1
  have hg := K0.2.2.2.2
  have hK := hEV.1
  have hok : EVok (ENVC D w aS sk sv A) A := ENVC.ok
  unfold f_X5_lacks at hE
  refine vr_aload_n hx hb dX5_lacks_0 rfl (lv_at hl 0 rfl) ?_
  refine lv_iload_n hx hb dX5_lacks_1 rfl (lv_at hl 1 rfl) ?_
  refine call_VX (rest := []) K0 hK hok hEV hA (c_X5_requireStation l hfl D w aS sk sv A a0 a1) q512 q514 q2 q40 q515 yd_X5_requireStation ⟨by omega, by omega⟩ hRc hout hlocks (ci := 7) rfl rfl (rc_LC w _) hE hZ hl.1 rfl (Nat.le_of_ble_eq_true rfl) dX5_lacks_2 (fun v2 S H locs cells slots hE hZ => ?_)
  refine W.eq (g2 := F0 m 5 ls [vr w.2.2.2.2 21 16 v2]) rfl ?_
  refine gN_ST_6 K0 hK hE hZ (nw12 hEV) dX5_lacks_5 (fun v5 hE => ?_)
  exact endX_i K0 hr hlocks hE hZ dX5_lacks_8
def f_X5_lacksOf_L8 : Nat → Nat → Int32 → Int32 → Int32 → PM (Int32 ⊕ String)
  | 0, _, _, _, _ => fail
  | n9 + 1, u0, u1, u2, u3 => if (8 : Int32) ≤ u3 then (rtX u2) else (bnd (rfc 1 u0 0) (fun v15 => if v15 < 2 then bnd (f_X1_findStation v15 u3) (fun v19 => if v19 < 16 then (bnd (rdc 16 v19 8) (fun v31 => if v31 = u1 then (bnd (rdc 16 v19 13) (fun v41 => bnd (rtn (u2 + v41)) (fun w45 => f_X5_lacksOf_L8 n9 u0 u1 w45 (u3 + (1 : Int32))))) else (f_X5_lacksOf_L8 n9 u0 u1 u2 (u3 + (1 : Int32))))) else (f_X5_lacksOf_L8 n9 u0 u1 u2 (u3 + (1 : Int32)))) else fail))
def f_X5_lacksOf (a0 : Nat) (a1 : Int32) : PM (Int32 ⊕ String) := bndX (f_X5_requirePart a1) (fun _ => f_X5_lacksOf_L8 400 a0 a1 (0 : Int32) (0 : Int32))
theorem yd_X5_lacksOf : yX5_lacksOf.cls = RX5 ∧ yX5_lacksOf.cls ≠ "java/lang/invoke/MethodHandle" ∧ yX5_lacksOf.cls ≠ "java/lang/invoke/VarHandle" ∧ (parseMethodDescriptor yX5_lacksOf.desc).map (fun d => d.parameters.length) = some 1 := by decide +kernel
set_option maxHeartbeats 4000000 in
set_option maxRecDepth 100000 in
theorem c_X5_lacksOf (l : Launch) (hfl : l.stackTraces = false) (D : va_G) (w : Wc) (aS : Nat → Nat) (sk sv : Nat) (A : Nat → Prop) (a0 : Nat) (a1 : Int32) : CX l yX5_lacksOf cX5_lacksOf 5 (some .int) 7 120 D w (ENVC D w aS sk sv A) A [vr w.2.2.2.2 0 1 a0, .int a1] (f_X5_lacksOf a0 a1) vI := by
  refine CX.ofW (by decide) [(0, vr w.2.2.2.2 0 1 a0), (1, .int a1)] (by simp [lv_args, vr_cat, vc_i, vc_j, vc_f, vc_d, vc_r, vc_n]) (by simp [lg_sl, vr_cat, vc_i, vc_j, vc_f, vc_d, vc_r, vc_n]) ?_
  intro S0 E0 R p e s m args below meth c ls hE hRf hRl hRc K0 hr hlocks hout hEV hA hZ hl
  have K0 : CallFix p m c cX5_lacksOf 5 s args GW RX5 := K0
  have hx := K0.1
  have hb := K0.2.1
  have hown := K0.2.2.2.1
  have hg := K0.2.2.2.2
  have hK := hEV.1
  have hok : EVok (ENVC D w aS sk sv A) A := ENVC.ok
  have j8 : ∀ (n9 : Nat) (u0 : Nat) (u1 : Int32) (u2 : Int32) (u3 : Int32) (S : St) (H : Heap) (locs : List Loc) (cells slots : Nat) (ls : Array Slot), (f_X5_lacksOf_L8 n9 u0 u1 u2 u3).1 S = some E0 → ZZ D 187 (adrC w) (celC w) A S0 s.heap S H locs cells slots → lv_has ls 5 [(0, vr w.2.2.2.2 0 1 u0), (1, .int u1), (2, .int u2), (3, .int u3)] → W p l e R s m args below meth c H locs cells slots (vx_MQ below (QX E0 vI D w A) (XX E0 D w A) args s (gN E0.2 7 0 - gN S0 7 0) (gN E0.2 3 0 - gN S0 3 0) A) (F0 m 8 ls []) := by
    intro n9
    induction n9 with
    | zero =>
      intro u0 u1 u2 u3 S H locs cells slots ls hE hZ hl
      rw [f_X5_lacksOf_L8] at hE
      cases hE
    | succ n9 ih =>
      intro u0 u1 u2 u3 S H locs cells slots ls hE hZ hl
      rw [f_X5_lacksOf_L8] at hE
      refine lv_iload_n hx hb dX5_lacksOf_8 rfl (lv_at hl 3 rfl) ?_
      refine lv_bipush (v := (8)) hx hb dX5_lacksOf_9 (by decide +kernel) ?_
      refine lv_icmp_ge (tgt := 52) hx hb dX5_lacksOf_11 (by decide) (fun hc => ?_) (fun hc => ?_)
      · have hE := if_t hE hc
        refine lv_iload_n hx hb dX5_lacksOf_52 rfl (lv_at hl 2 rfl) ?_
        exact endX_i K0 hr hlocks hE hZ dX5_lacksOf_53
      · have hE := if_f hE hc
        refine vr_aload_n hx hb dX5_lacksOf_14 rfl (lv_at hl 0 rfl) ?_
        refine g_LC_0 K0 hK hE hZ q250 dX5_lacksOf_15 (fun v15 hE => ?_)
        refine lv_iload_n hx hb dX5_lacksOf_18 rfl (lv_at hl 3 rfl) ?_
        refine call_V (rest := []) K0 hK hok hEV hA (c_X1_findStation l D w aS sk sv A v15 u3) q293 q294 q295 q41 q296 yd_X1_findStation ⟨by omega, by omega⟩ hRc (ci := 3) rfl rfl (rc_LN w _) hE hZ hl.1 rfl (Nat.le_of_ble_eq_true rfl) dX5_lacksOf_19 (fun v19 S H locs cells slots hE hZ => ?_)
        refine W.eq (g2 := F0 m 22 ls [vr w.2.2.2.2 21 16 v19]) rfl ?_
        refine vr_astore (lv' := [(4, vr w.2.2.2.2 21 16 v19), (0, vr w.2.2.2.2 0 1 u0), (1, .int u1), (2, .int u2), (3, .int u3)]) hx hb dX5_lacksOf_22 hl (by decide) rfl (fun ls hl => ?_)
        refine vr_aload hx hb dX5_lacksOf_24 (lv_at hl 0 rfl) ?_
        refine vr_ifnull (tgt := 46) hx hb dX5_lacksOf_26 (by decide) (fun hc => ?_) (fun hc => ?_)
        · have hE := if_t hE hc
          refine vr_aload hx hb dX5_lacksOf_29 (lv_at hl 0 rfl) ?_
          refine gN_ST_1 K0 hK hE hZ (nw6 hEV) dX5_lacksOf_31 (fun v31 hE => ?_)
          refine lv_iload_n hx hb dX5_lacksOf_34 rfl (lv_at hl 2 rfl) ?_
          refine lv_icmp_ne (tgt := 46) hx hb dX5_lacksOf_35 (by decide) (fun hc => ?_) (fun hc => ?_)
          · have hE := if_f hE hc
            refine lv_iinc (v := (u3 + (1 : Int32))) (lv' := [(3, .int (u3 + (1 : Int32))), (4, vr w.2.2.2.2 21 16 v19), (0, vr w.2.2.2.2 0 1 u0), (1, .int u1), (2, .int u2)]) hx hb dX5_lacksOf_46 hl (k := 4) rfl rfl (by decide) rfl (fun ls hl => ?_)
            refine lv_goto (tgt := 8) hx hb dX5_lacksOf_49 (by decide) ?_
            exact ih u0 u1 u2 (u3 + (1 : Int32)) _ _ _ _ _ _ hE hZ (lv_sub hl [2, 3, 4, 0] rfl)
          · have hE := if_t hE hc
            refine lv_iload_n hx hb dX5_lacksOf_38 rfl (lv_at hl 3 rfl) ?_
            refine vr_aload hx hb dX5_lacksOf_39 (lv_at hl 0 rfl) ?_
            refine gN_ST_6 K0 hK hE hZ (nw12 hEV) dX5_lacksOf_41 (fun v41 hE => ?_)
            refine lv_iadd hx hb dX5_lacksOf_44 ?_
            refine let_i hE (fun w45 hE => ?_)
            refine lv_istore_n (i := 2) (lv' := [(2, .int w45), (4, vr w.2.2.2.2 21 16 v19), (0, vr w.2.2.2.2 0 1 u0), (1, .int u1), (3, .int u3)]) hx hb dX5_lacksOf_45 rfl hl (by decide) rfl (fun ls hl => ?_)
            refine lv_iinc (v := (u3 + (1 : Int32))) (lv' := [(3, .int (u3 + (1 : Int32))), (2, .int w45), (4, vr w.2.2.2.2 21 16 v19), (0, vr w.2.2.2.2 0 1 u0), (1, .int u1)]) hx hb dX5_lacksOf_46 hl (k := 4) rfl rfl (by decide) rfl (fun ls hl => ?_)
            refine lv_goto (tgt := 8) hx hb dX5_lacksOf_49 (by decide) ?_
            exact ih u0 u1 w45 (u3 + (1 : Int32)) _ _ _ _ _ _ hE hZ (lv_sub hl [3, 4, 1, 0] rfl)
        · have hE := if_f hE hc
          refine lv_iinc (v := (u3 + (1 : Int32))) (lv' := [(3, .int (u3 + (1 : Int32))), (4, vr w.2.2.2.2 21 16 v19), (0, vr w.2.2.2.2 0 1 u0), (1, .int u1), (2, .int u2)]) hx hb dX5_lacksOf_46 hl (k := 4) rfl rfl (by decide) rfl (fun ls hl => ?_)
          refine lv_goto (tgt := 8) hx hb dX5_lacksOf_49 (by decide) ?_
          exact ih u0 u1 u2 (u3 + (1 : Int32)) _ _ _ _ _ _ hE hZ (lv_sub hl [2, 3, 4, 0] rfl)
  unfold f_X5_lacksOf at hE
  refine lv_iload_n hx hb dX5_lacksOf_0 rfl (lv_at hl 1 rfl) ?_
  refine call_SX (rest := []) K0 hok hEV hA (c_X5_requirePart l hfl D w aS sk sv A a1) q415 q416 q40 q417 yd_X5_requirePart ⟨by omega, by omega⟩ hRc hout hlocks hE hZ hl.1 rfl (Nat.le_of_ble_eq_true rfl) dX5_lacksOf_1 (fun v1 S H locs cells slots hE hZ => ?_)
  refine W.eq (g2 := F0 m 4 ls []) rfl ?_
  refine lv_iconst (v := (0)) hx hb dX5_lacksOf_4 (by decide +kernel) ?_
  refine lv_istore_n (i := 2) (lv' := [(2, .int (0 : Int32)), (0, vr w.2.2.2.2 0 1 a0), (1, .int a1)]) hx hb dX5_lacksOf_5 rfl hl (by decide) rfl (fun ls hl => ?_)
  refine lv_iconst (v := (0)) hx hb dX5_lacksOf_6 (by decide +kernel) ?_
  refine lv_istore_n (i := 3) (lv' := [(3, .int (0 : Int32)), (2, .int (0 : Int32)), (0, vr w.2.2.2.2 0 1 a0), (1, .int a1)]) hx hb dX5_lacksOf_7 rfl hl (by decide) rfl (fun ls hl => ?_)
  exact j8 400 a0 a1 (0 : Int32) (0 : Int32) _ _ _ _ _ _ hE hZ (lv_sub hl [2, 3, 1, 0] rfl)
def f_X5_onShelf (a0 : Nat) (a1 : Int32) : PM (Int32 ⊕ String) := if a0 < 1 then bndX (f_X5_requireStation a0 a1) (fun v2 => bnd (rdc 16 v2 11) (fun v5 => rtX v5)) else fail
theorem yd_X5_onShelf : yX5_onShelf.cls = RX5 ∧ yX5_onShelf.cls ≠ "java/lang/invoke/MethodHandle" ∧ yX5_onShelf.cls ≠ "java/lang/invoke/VarHandle" ∧ (parseMethodDescriptor yX5_onShelf.desc).map (fun d => d.parameters.length) = some 1 := by decide +kernel
set_option maxHeartbeats 4000000 in
set_option maxRecDepth 100000 in
theorem c_X5_onShelf (l : Launch) (hfl : l.stackTraces = false) (D : va_G) (w : Wc) (aS : Nat → Nat) (sk sv : Nat) (A : Nat → Prop) (a0 : Nat) (a1 : Int32) : CX l yX5_onShelf cX5_onShelf 2 (some .int) 7 122 D w (ENVC D w aS sk sv A) A [vr w.2.2.2.2 0 1 a0, .int a1] (f_X5_onShelf a0 a1) vI := by
  refine CX.ofW (by decide) [(0, vr w.2.2.2.2 0 1 a0), (1, .int a1)] (by simp [lv_args, vr_cat, vc_i, vc_j, vc_f, vc_d, vc_r, vc_n]) (by simp [lg_sl, vr_cat, vc_i, vc_j, vc_f, vc_d, vc_r, vc_n]) ?_
  intro S0 E0 R p e s m args below meth c ls hE hRf hRl hRc K0 hr hlocks hout hEV hA hZ hl
  have K0 : CallFix p m c cX5_onShelf 2 s args GW RX5 := K0
  have hx := K0.1
  have hb := K0.2.1
  have hown := K0.2.2.2.1
  have hg := K0.2.2.2.2
  have hK := hEV.1
  have hok : EVok (ENVC D w aS sk sv A) A := ENVC.ok
  unfold f_X5_onShelf at hE
  refine vr_aload_n hx hb dX5_onShelf_0 rfl (lv_at hl 0 rfl) ?_
  refine lv_iload_n hx hb dX5_onShelf_1 rfl (lv_at hl 1 rfl) ?_
  refine call_VX (rest := []) K0 hK hok hEV hA (c_X5_requireStation l hfl D w aS sk sv A a0 a1) q512 q514 q2 q40 q515 yd_X5_requireStation ⟨by omega, by omega⟩ hRc hout hlocks (ci := 7) rfl rfl (rc_LC w _) hE hZ hl.1 rfl (Nat.le_of_ble_eq_true rfl) dX5_onShelf_2 (fun v2 S H locs cells slots hE hZ => ?_)
  refine W.eq (g2 := F0 m 5 ls [vr w.2.2.2.2 21 16 v2]) rfl ?_
  refine gN_ST_4 K0 hK hE hZ (nw9 hEV) dX5_onShelf_5 (fun v5 hE => ?_)
  exact endX_i K0 hr hlocks hE hZ dX5_onShelf_8
def f_X5_inStore (a0 : Nat) (a1 : Int32) : PM (Int32 ⊕ String) := bndX (f_X5_requirePart a1) (fun _ => bnd (rfc 1 a0 0) (fun v5 => if v5 < 2 then bnd (f_X1_unitsOf v5 a1) (fun v9 => rtX v9) else fail))
theorem yd_X5_inStore : yX5_inStore.cls = RX5 ∧ yX5_inStore.cls ≠ "java/lang/invoke/MethodHandle" ∧ yX5_inStore.cls ≠ "java/lang/invoke/VarHandle" ∧ (parseMethodDescriptor yX5_inStore.desc).map (fun d => d.parameters.length) = some 1 := by decide +kernel
set_option maxHeartbeats 4000000 in
set_option maxRecDepth 100000 in
theorem c_X5_inStore (l : Launch) (hfl : l.stackTraces = false) (D : va_G) (w : Wc) (aS : Nat → Nat) (sk sv : Nat) (A : Nat → Prop) (a0 : Nat) (a1 : Int32) : CX l yX5_inStore cX5_inStore 2 (some .int) 7 120 D w (ENVC D w aS sk sv A) A [vr w.2.2.2.2 0 1 a0, .int a1] (f_X5_inStore a0 a1) vI := by
  refine CX.ofW (by decide) [(0, vr w.2.2.2.2 0 1 a0), (1, .int a1)] (by simp [lv_args, vr_cat, vc_i, vc_j, vc_f, vc_d, vc_r, vc_n]) (by simp [lg_sl, vr_cat, vc_i, vc_j, vc_f, vc_d, vc_r, vc_n]) ?_
  intro S0 E0 R p e s m args below meth c ls hE hRf hRl hRc K0 hr hlocks hout hEV hA hZ hl
  have K0 : CallFix p m c cX5_inStore 2 s args GW RX5 := K0
  have hx := K0.1
  have hb := K0.2.1
  have hown := K0.2.2.2.1
  have hg := K0.2.2.2.2
  have hK := hEV.1
  have hok : EVok (ENVC D w aS sk sv A) A := ENVC.ok
  unfold f_X5_inStore at hE
  refine lv_iload_n hx hb dX5_inStore_0 rfl (lv_at hl 1 rfl) ?_
  refine call_SX (rest := []) K0 hok hEV hA (c_X5_requirePart l hfl D w aS sk sv A a1) q415 q416 q40 q417 yd_X5_requirePart ⟨by omega, by omega⟩ hRc hout hlocks hE hZ hl.1 rfl (Nat.le_of_ble_eq_true rfl) dX5_inStore_1 (fun v1 S H locs cells slots hE hZ => ?_)
  refine W.eq (g2 := F0 m 4 ls []) rfl ?_
  refine vr_aload_n hx hb dX5_inStore_4 rfl (lv_at hl 0 rfl) ?_
  refine g_LC_0 K0 hK hE hZ q250 dX5_inStore_5 (fun v5 hE => ?_)
  refine lv_iload_n hx hb dX5_inStore_8 rfl (lv_at hl 1 rfl) ?_
  refine call_V (rest := []) K0 hK hok hEV hA (c_X1_unitsOf l D w aS sk sv A v5 a1) q435 q436 q437 q41 q438 yd_X1_unitsOf ⟨by omega, by omega⟩ hRc (ci := 3) rfl rfl (rc_LN w _) hE hZ hl.1 rfl (Nat.le_of_ble_eq_true rfl) dX5_inStore_9 (fun v9 S H locs cells slots hE hZ => ?_)
  refine W.eq (g2 := F0 m 12 ls [.int v9]) rfl ?_
  exact endX_i K0 hr hlocks hE hZ dX5_inStore_12
def f_X5_nextRound (a0 : Nat) : PM Int32 := bnd (rfc 1 a0 0) (fun v1 => if v1 < 2 then bnd (f_X1_ticksToRound v1) (fun v4 => rtn v4) else fail)
theorem yd_X5_nextRound : yX5_nextRound.cls = RX5 ∧ yX5_nextRound.cls ≠ "java/lang/invoke/MethodHandle" ∧ yX5_nextRound.cls ≠ "java/lang/invoke/VarHandle" ∧ (parseMethodDescriptor yX5_nextRound.desc).map (fun d => d.parameters.length) = some 0 := by decide +kernel
set_option maxHeartbeats 4000000 in
set_option maxRecDepth 100000 in
theorem c_X5_nextRound (l : Launch) (D : va_G) (w : Wc) (aS : Nat → Nat) (sk sv : Nat) (A : Nat → Prop) (a0 : Nat) : CT l yX5_nextRound cX5_nextRound 1 (some .int) 1 20 (PC D w A) (ENVC D w aS sk sv A) A [vr w.2.2.2.2 0 1 a0] (f_X5_nextRound a0) vI := by
  refine CT.ofW (by decide) [(0, vr w.2.2.2.2 0 1 a0)] (by simp [lv_args, vr_cat, vc_i, vc_j, vc_f, vc_d, vc_r, vc_n]) (by simp [lg_sl, vr_cat, vc_i, vc_j, vc_f, vc_d, vc_r, vc_n]) ?_
  intro S0 E0 R p e s m args below meth c ls hE hRf hRl hRc K0 hr hlocks hEV hA hZ hl
  have K0 : CallFix p m c cX5_nextRound 1 s args GW RX5 := K0
  have hx := K0.1
  have hb := K0.2.1
  have hown := K0.2.2.2.1
  have hg := K0.2.2.2.2
  have hK := hEV.1
  have hok : EVok (ENVC D w aS sk sv A) A := ENVC.ok
  unfold f_X5_nextRound at hE
  refine vr_aload_n hx hb dX5_nextRound_0 rfl (lv_at hl 0 rfl) ?_
  refine g_LC_0 K0 hK hE hZ q250 dX5_nextRound_1 (fun v1 hE => ?_)
  refine call_V (rest := []) K0 hK hok hEV hA (c_X1_ticksToRound l D w aS sk sv A v1) q285 q286 q287 q41 q288 yd_X1_ticksToRound ⟨by omega, by omega⟩ hRc (ci := 3) rfl rfl (rc_LN w _) hE hZ hl.1 rfl (Nat.le_of_ble_eq_true rfl) dX5_nextRound_4 (fun v4 S H locs cells slots hE hZ => ?_)
  refine W.eq (g2 := F0 m 7 ls [.int v4]) rfl ?_
  exact end_i K0 hr hlocks hE hZ dX5_nextRound_7
def f_X5_leavesIn_L20 : Nat → Nat → Int32 → Int32 → Int32 → PM (Int32 ⊕ String)
  | 0, _, _, _, _ => fail
  | n9 + 1, u0, u1, u2, u3 => if (300 : Int32) ≤ u3 then (thr "java/lang/UnsupportedOperationException") else (bnd (rfc 1 u0 1) (fun v28 => if v28 < 2 then bnd (f_X1_quietTicks v28) (fun v31 => if (u2 + v31) < (300 : Int32) then (bnd (rfc 1 u0 1) (fun v50 => if v50 < 2 then bnd (f_X1_passQuietTicks v50 v31) (fun _ => bnd (rfc 1 u0 1) (fun v59 => if v59 < 2 then bnd (f_X1_passTick v59) (fun _ => bnd (rtn (u2 + (v31 + (1 : Int32)))) (fun w71 => bnd (rfc 1 u0 1) (fun v73 => if v73 < 2 then bnd (f_X1_hasGone v73 u1) (fun v77 => if v77 = 0 then (f_X5_leavesIn_L20 n9 u0 u1 w71 (u3 + (1 : Int32))) else (rtX w71)) else fail))) else fail)) else fail)) else (thr "java/lang/UnsupportedOperationException")) else fail))
def f_X5_leavesIn (a0 : Nat) (a1 : Int32) : PM (Int32 ⊕ String) := if a0 < 1 then bndX (f_X5_requireNotGone a0 a1) (fun _ => bnd (rfc 1 a0 1) (fun v6 => bnd (rfc 1 a0 0) (fun v10 => if v6 < 2 then bnd (f_X1_copyFrom v6 v10) (fun _ => f_X5_leavesIn_L20 400 a0 a1 (0 : Int32) (0 : Int32)) else fail))) else fail
theorem yd_X5_leavesIn : yX5_leavesIn.cls = RX5 ∧ yX5_leavesIn.cls ≠ "java/lang/invoke/MethodHandle" ∧ yX5_leavesIn.cls ≠ "java/lang/invoke/VarHandle" ∧ (parseMethodDescriptor yX5_leavesIn.desc).map (fun d => d.parameters.length) = some 1 := by decide +kernel
set_option maxHeartbeats 4000000 in
set_option maxRecDepth 100000 in
theorem c_X5_leavesIn (l : Launch) (hfl : l.stackTraces = false) (D : va_G) (w : Wc) (aS : Nat → Nat) (sk sv : Nat) (A : Nat → Prop) (a0 : Nat) (a1 : Int32) : CX l yX5_leavesIn cX5_leavesIn 5 (some .int) 9 211 D w (ENVC D w aS sk sv A) A [vr w.2.2.2.2 0 1 a0, .int a1] (f_X5_leavesIn a0 a1) vI := by
  refine CX.ofW (by decide) [(0, vr w.2.2.2.2 0 1 a0), (1, .int a1)] (by simp [lv_args, vr_cat, vc_i, vc_j, vc_f, vc_d, vc_r, vc_n]) (by simp [lg_sl, vr_cat, vc_i, vc_j, vc_f, vc_d, vc_r, vc_n]) ?_
  intro S0 E0 R p e s m args below meth c ls hE hRf hRl hRc K0 hr hlocks hout hEV hA hZ hl
  have K0 : CallFix p m c cX5_leavesIn 5 s args GW RX5 := K0
  have hx := K0.1
  have hb := K0.2.1
  have hown := K0.2.2.2.1
  have hg := K0.2.2.2.2
  have hK := hEV.1
  have hok : EVok (ENVC D w aS sk sv A) A := ENVC.ok
  have j20 : ∀ (n9 : Nat) (u0 : Nat) (u1 : Int32) (u2 : Int32) (u3 : Int32) (S : St) (H : Heap) (locs : List Loc) (cells slots : Nat) (ls : Array Slot), (f_X5_leavesIn_L20 n9 u0 u1 u2 u3).1 S = some E0 → ZZ D 187 (adrC w) (celC w) A S0 s.heap S H locs cells slots → lv_has ls 5 [(0, vr w.2.2.2.2 0 1 u0), (1, .int u1), (2, .int u2), (3, .int u3)] → W p l e R s m args below meth c H locs cells slots (vx_MQ below (QX E0 vI D w A) (XX E0 D w A) args s (gN E0.2 7 0 - gN S0 7 0) (gN E0.2 3 0 - gN S0 3 0) A) (F0 m 20 ls []) := by
    intro n9
    induction n9 with
    | zero =>
      intro u0 u1 u2 u3 S H locs cells slots ls hE hZ hl
      rw [f_X5_leavesIn_L20] at hE
      cases hE
    | succ n9 ih =>
      intro u0 u1 u2 u3 S H locs cells slots ls hE hZ hl
      rw [f_X5_leavesIn_L20] at hE
      refine lv_iload_n hx hb dX5_leavesIn_20 rfl (lv_at hl 3 rfl) ?_
      refine lv_sipush (v := (300)) hx hb dX5_leavesIn_21 (by decide +kernel) ?_
      refine lv_icmp_ge (tgt := 91) hx hb dX5_leavesIn_24 (by decide) (fun hc => ?_) (fun hc => ?_)
      · have hE := if_t hE hc
        exact thr_S K0 hfl hEV (i := 22) (by decide +kernel) (by decide +kernel) q526 q53 rfl (at_UnsupportedOperationException hEV hg) atg_UnsupportedOperationException hE hZ hRc hl.1 dX5_leavesIn_91 dX5_leavesIn_94 dX5_leavesIn_95 dX5_leavesIn_97 dX5_leavesIn_100 hout (by rw [hRf]; decide) (by rw [hRl]; simp [vr_cat, vc_i, vc_j, vc_f, vc_d, vc_r, vc_n]) hlocks
      · have hE := if_f hE hc
        refine vr_aload_n hx hb dX5_leavesIn_27 rfl (lv_at hl 0 rfl) ?_
        refine g_LC_1 K0 hK hE hZ q251 dX5_leavesIn_28 (fun v28 hE => ?_)
        refine call_V (rest := []) K0 hK hok hEV hA (c_X1_quietTicks l D w aS sk sv A v28) q942 q943 q944 q41 q945 yd_X1_quietTicks ⟨by omega, by omega⟩ hRc (ci := 3) rfl rfl (rc_LN w _) hE hZ hl.1 rfl (Nat.le_of_ble_eq_true rfl) dX5_leavesIn_31 (fun v31 S H locs cells slots hE hZ => ?_)
        refine W.eq (g2 := F0 m 34 ls [.int v31]) rfl ?_
        refine lv_istore (lv' := [(4, .int v31), (0, vr w.2.2.2.2 0 1 u0), (1, .int u1), (2, .int u2), (3, .int u3)]) hx hb dX5_leavesIn_34 hl (by decide) rfl (fun ls hl => ?_)
        refine lv_iload_n hx hb dX5_leavesIn_36 rfl (lv_at hl 3 rfl) ?_
        refine lv_iload hx hb dX5_leavesIn_37 (lv_at hl 0 rfl) ?_
        refine lv_iadd hx hb dX5_leavesIn_39 ?_
        refine lv_sipush (v := (300)) hx hb dX5_leavesIn_40 (by decide +kernel) ?_
        refine lv_icmp_lt (tgt := 49) hx hb dX5_leavesIn_43 (by decide) (fun hc => ?_) (fun hc => ?_)
        · have hE := if_t hE hc
          refine vr_aload_n hx hb dX5_leavesIn_49 rfl (lv_at hl 1 rfl) ?_
          refine g_LC_1 K0 hK hE hZ q251 dX5_leavesIn_50 (fun v50 hE => ?_)
          refine lv_iload hx hb dX5_leavesIn_53 (lv_at hl 0 rfl) ?_
          refine call_V (rest := []) K0 hK hok hEV hA (c_X1_passQuietTicks l D w aS sk sv A v50 v31) q958 q959 q960 q41 q961 yd_X1_passQuietTicks ⟨by omega, by omega⟩ hRc (ci := 3) rfl rfl (rc_LN w _) hE hZ hl.1 rfl (Nat.le_of_ble_eq_true rfl) dX5_leavesIn_55 (fun v55 S H locs cells slots hE hZ => ?_)
          refine W.eq (g2 := F0 m 58 ls []) rfl ?_
          refine vr_aload_n hx hb dX5_leavesIn_58 rfl (lv_at hl 1 rfl) ?_
          refine g_LC_1 K0 hK hE hZ q251 dX5_leavesIn_59 (fun v59 hE => ?_)
          refine call_V (rest := []) K0 hK hok hEV hA (c_X1_passTick l D w aS sk sv A v59) q565 q566 q567 q41 q568 yd_X1_passTick ⟨by omega, by omega⟩ hRc (ci := 3) rfl rfl (rc_LN w _) hE hZ hl.1 rfl (Nat.le_of_ble_eq_true rfl) dX5_leavesIn_62 (fun v62 S H locs cells slots hE hZ => ?_)
          refine W.eq (g2 := F0 m 65 ls []) rfl ?_
          refine lv_iload_n hx hb dX5_leavesIn_65 rfl (lv_at hl 3 rfl) ?_
          refine lv_iload hx hb dX5_leavesIn_66 (lv_at hl 0 rfl) ?_
          refine lv_iconst (v := (1)) hx hb dX5_leavesIn_68 (by decide +kernel) ?_
          refine lv_iadd hx hb dX5_leavesIn_69 ?_
          refine lv_iadd hx hb dX5_leavesIn_70 ?_
          refine let_i hE (fun w71 hE => ?_)
          refine lv_istore_n (i := 2) (lv' := [(2, .int w71), (4, .int v31), (0, vr w.2.2.2.2 0 1 u0), (1, .int u1), (3, .int u3)]) hx hb dX5_leavesIn_71 rfl hl (by decide) rfl (fun ls hl => ?_)
          refine vr_aload_n hx hb dX5_leavesIn_72 rfl (lv_at hl 2 rfl) ?_
          refine g_LC_1 K0 hK hE hZ q251 dX5_leavesIn_73 (fun v73 hE => ?_)
          refine lv_iload_n hx hb dX5_leavesIn_76 rfl (lv_at hl 3 rfl) ?_
          refine call_V (rest := []) K0 hK hok hEV hA (c_X1_hasGone l D w aS sk sv A v73 u1) q962 q963 q964 q41 q965 yd_X1_hasGone ⟨by omega, by omega⟩ hRc (ci := 3) rfl rfl (rc_LN w _) hE hZ hl.1 rfl (Nat.le_of_ble_eq_true rfl) dX5_leavesIn_77 (fun v77 S H locs cells slots hE hZ => ?_)
          refine W.eq (g2 := F0 m 80 ls [.int v77]) rfl ?_
          refine lv_if_eq (tgt := 85) hx hb dX5_leavesIn_80 (by decide) (fun hc => ?_) (fun hc => ?_)
          · have hE := if_t hE hc
            refine lv_iinc (v := (u3 + (1 : Int32))) (lv' := [(3, .int (u3 + (1 : Int32))), (2, .int w71), (4, .int v31), (0, vr w.2.2.2.2 0 1 u0), (1, .int u1)]) hx hb dX5_leavesIn_85 hl (k := 4) rfl rfl (by decide) rfl (fun ls hl => ?_)
            refine lv_goto (tgt := 20) hx hb dX5_leavesIn_88 (by decide) ?_
            exact ih u0 u1 w71 (u3 + (1 : Int32)) _ _ _ _ _ _ hE hZ (lv_sub hl [3, 4, 1, 0] rfl)
          · have hE := if_f hE hc
            refine lv_iload_n hx hb dX5_leavesIn_83 rfl (lv_at hl 0 rfl) ?_
            exact endX_i K0 hr hlocks hE hZ dX5_leavesIn_84
        · have hE := if_f hE hc
          refine lv_goto (tgt := 91) hx hb dX5_leavesIn_46 (by decide) ?_
          exact thr_S K0 hfl hEV (i := 22) (by decide +kernel) (by decide +kernel) q526 q53 rfl (at_UnsupportedOperationException hEV hg) atg_UnsupportedOperationException hE hZ hRc hl.1 dX5_leavesIn_91 dX5_leavesIn_94 dX5_leavesIn_95 dX5_leavesIn_97 dX5_leavesIn_100 hout (by rw [hRf]; decide) (by rw [hRl]; simp [vr_cat, vc_i, vc_j, vc_f, vc_d, vc_r, vc_n]) hlocks
  unfold f_X5_leavesIn at hE
  refine vr_aload_n hx hb dX5_leavesIn_0 rfl (lv_at hl 0 rfl) ?_
  refine lv_iload_n hx hb dX5_leavesIn_1 rfl (lv_at hl 1 rfl) ?_
  refine call_VX (rest := []) K0 hK hok hEV hA (c_X5_requireNotGone l hfl D w aS sk sv A a0 a1) q914 q916 q18 q40 q917 yd_X5_requireNotGone ⟨by omega, by omega⟩ hRc hout hlocks (ci := 7) rfl rfl (rc_LC w _) hE hZ hl.1 rfl (Nat.le_of_ble_eq_true rfl) dX5_leavesIn_2 (fun v2 S H locs cells slots hE hZ => ?_)
  refine W.eq (g2 := F0 m 5 ls []) rfl ?_
  refine vr_aload_n hx hb dX5_leavesIn_5 rfl (lv_at hl 0 rfl) ?_
  refine g_LC_1 K0 hK hE hZ q251 dX5_leavesIn_6 (fun v6 hE => ?_)
  refine vr_aload_n hx hb dX5_leavesIn_9 rfl (lv_at hl 0 rfl) ?_
  refine g_LC_0 K0 hK hE hZ q250 dX5_leavesIn_10 (fun v10 hE => ?_)
  refine call_V (rest := []) K0 hK hok hEV hA (c_X1_copyFrom l D w aS sk sv A v6 v10) q919 q920 q921 q41 q922 yd_X1_copyFrom ⟨by omega, by omega⟩ hRc (ci := 3) rfl rfl (rc_LN w _) hE hZ hl.1 rfl (Nat.le_of_ble_eq_true rfl) dX5_leavesIn_13 (fun v13 S H locs cells slots hE hZ => ?_)
  refine W.eq (g2 := F0 m 16 ls []) rfl ?_
  refine lv_iconst (v := (0)) hx hb dX5_leavesIn_16 (by decide +kernel) ?_
  refine lv_istore_n (i := 2) (lv' := [(2, .int (0 : Int32)), (0, vr w.2.2.2.2 0 1 a0), (1, .int a1)]) hx hb dX5_leavesIn_17 rfl hl (by decide) rfl (fun ls hl => ?_)
  refine lv_iconst (v := (0)) hx hb dX5_leavesIn_18 (by decide +kernel) ?_
  refine lv_istore_n (i := 3) (lv' := [(3, .int (0 : Int32)), (2, .int (0 : Int32)), (0, vr w.2.2.2.2 0 1 a0), (1, .int a1)]) hx hb dX5_leavesIn_19 rfl hl (by decide) rfl (fun ls hl => ?_)
  exact j20 400 a0 a1 (0 : Int32) (0 : Int32) _ _ _ _ _ _ hE hZ (lv_sub hl [2, 3, 1, 0] rfl)
def f_X5_leavesByTicks_L18 : Nat → Nat → Int32 → Int32 → PM (Int32 ⊕ String)
  | 0, _, _, _ => fail
  | n9 + 1, u0, u1, u2 => if (300 : Int32) < u2 then (thr "java/lang/UnsupportedOperationException") else (bnd (rfc 1 u0 1) (fun v26 => if v26 < 2 then bnd (f_X1_passTick v26) (fun _ => bnd (rfc 1 u0 1) (fun v33 => if v33 < 2 then bnd (f_X1_hasGone v33 u1) (fun v37 => if v37 = 0 then (f_X5_leavesByTicks_L18 n9 u0 u1 (u2 + (1 : Int32))) else (rtX u2)) else fail)) else fail))
def f_X5_leavesByTicks (a0 : Nat) (a1 : Int32) : PM (Int32 ⊕ String) := if a0 < 1 then bndX (f_X5_requireNotGone a0 a1) (fun _ => bnd (rfc 1 a0 1) (fun v6 => bnd (rfc 1 a0 0) (fun v10 => if v6 < 2 then bnd (f_X1_copyFrom v6 v10) (fun _ => f_X5_leavesByTicks_L18 400 a0 a1 (1 : Int32)) else fail))) else fail
theorem yd_X5_leavesByTicks : yX5_leavesByTicks.cls = RX5 ∧ yX5_leavesByTicks.cls ≠ "java/lang/invoke/MethodHandle" ∧ yX5_leavesByTicks.cls ≠ "java/lang/invoke/VarHandle" ∧ (parseMethodDescriptor yX5_leavesByTicks.desc).map (fun d => d.parameters.length) = some 1 := by decide +kernel
set_option maxHeartbeats 4000000 in
set_option maxRecDepth 100000 in
theorem c_X5_leavesByTicks (l : Launch) (hfl : l.stackTraces = false) (D : va_G) (w : Wc) (aS : Nat → Nat) (sk sv : Nat) (A : Nat → Prop) (a0 : Nat) (a1 : Int32) : CX l yX5_leavesByTicks cX5_leavesByTicks 3 (some .int) 9 211 D w (ENVC D w aS sk sv A) A [vr w.2.2.2.2 0 1 a0, .int a1] (f_X5_leavesByTicks a0 a1) vI := by
  refine CX.ofW (by decide) [(0, vr w.2.2.2.2 0 1 a0), (1, .int a1)] (by simp [lv_args, vr_cat, vc_i, vc_j, vc_f, vc_d, vc_r, vc_n]) (by simp [lg_sl, vr_cat, vc_i, vc_j, vc_f, vc_d, vc_r, vc_n]) ?_
  intro S0 E0 R p e s m args below meth c ls hE hRf hRl hRc K0 hr hlocks hout hEV hA hZ hl
  have K0 : CallFix p m c cX5_leavesByTicks 3 s args GW RX5 := K0
  have hx := K0.1
  have hb := K0.2.1
  have hown := K0.2.2.2.1
  have hg := K0.2.2.2.2
  have hK := hEV.1
  have hok : EVok (ENVC D w aS sk sv A) A := ENVC.ok
  have j18 : ∀ (n9 : Nat) (u0 : Nat) (u1 : Int32) (u2 : Int32) (S : St) (H : Heap) (locs : List Loc) (cells slots : Nat) (ls : Array Slot), (f_X5_leavesByTicks_L18 n9 u0 u1 u2).1 S = some E0 → ZZ D 187 (adrC w) (celC w) A S0 s.heap S H locs cells slots → lv_has ls 3 [(0, vr w.2.2.2.2 0 1 u0), (1, .int u1), (2, .int u2)] → W p l e R s m args below meth c H locs cells slots (vx_MQ below (QX E0 vI D w A) (XX E0 D w A) args s (gN E0.2 7 0 - gN S0 7 0) (gN E0.2 3 0 - gN S0 3 0) A) (F0 m 18 ls []) := by
    intro n9
    induction n9 with
    | zero =>
      intro u0 u1 u2 S H locs cells slots ls hE hZ hl
      rw [f_X5_leavesByTicks_L18] at hE
      cases hE
    | succ n9 ih =>
      intro u0 u1 u2 S H locs cells slots ls hE hZ hl
      rw [f_X5_leavesByTicks_L18] at hE
      refine lv_iload_n hx hb dX5_leavesByTicks_18 rfl (lv_at hl 2 rfl) ?_
      refine lv_sipush (v := (300)) hx hb dX5_leavesByTicks_19 (by decide +kernel) ?_
      refine lv_icmp_gt (tgt := 51) hx hb dX5_leavesByTicks_22 (by decide) (fun hc => ?_) (fun hc => ?_)
      · have hE := if_t hE hc
        exact thr_S K0 hfl hEV (i := 22) (by decide +kernel) (by decide +kernel) q526 q53 rfl (at_UnsupportedOperationException hEV hg) atg_UnsupportedOperationException hE hZ hRc hl.1 dX5_leavesByTicks_51 dX5_leavesByTicks_54 dX5_leavesByTicks_55 dX5_leavesByTicks_57 dX5_leavesByTicks_60 hout (by rw [hRf]; decide) (by rw [hRl]; simp [vr_cat, vc_i, vc_j, vc_f, vc_d, vc_r, vc_n]) hlocks
      · have hE := if_f hE hc
        refine vr_aload_n hx hb dX5_leavesByTicks_25 rfl (lv_at hl 0 rfl) ?_
        refine g_LC_1 K0 hK hE hZ q251 dX5_leavesByTicks_26 (fun v26 hE => ?_)
        refine call_V (rest := []) K0 hK hok hEV hA (c_X1_passTick l D w aS sk sv A v26) q565 q566 q567 q41 q568 yd_X1_passTick ⟨by omega, by omega⟩ hRc (ci := 3) rfl rfl (rc_LN w _) hE hZ hl.1 rfl (Nat.le_of_ble_eq_true rfl) dX5_leavesByTicks_29 (fun v29 S H locs cells slots hE hZ => ?_)
        refine W.eq (g2 := F0 m 32 ls []) rfl ?_
        refine vr_aload_n hx hb dX5_leavesByTicks_32 rfl (lv_at hl 0 rfl) ?_
        refine g_LC_1 K0 hK hE hZ q251 dX5_leavesByTicks_33 (fun v33 hE => ?_)
        refine lv_iload_n hx hb dX5_leavesByTicks_36 rfl (lv_at hl 1 rfl) ?_
        refine call_V (rest := []) K0 hK hok hEV hA (c_X1_hasGone l D w aS sk sv A v33 u1) q962 q963 q964 q41 q965 yd_X1_hasGone ⟨by omega, by omega⟩ hRc (ci := 3) rfl rfl (rc_LN w _) hE hZ hl.1 rfl (Nat.le_of_ble_eq_true rfl) dX5_leavesByTicks_37 (fun v37 S H locs cells slots hE hZ => ?_)
        refine W.eq (g2 := F0 m 40 ls [.int v37]) rfl ?_
        refine lv_if_eq (tgt := 45) hx hb dX5_leavesByTicks_40 (by decide) (fun hc => ?_) (fun hc => ?_)
        · have hE := if_t hE hc
          refine lv_iinc (v := (u2 + (1 : Int32))) (lv' := [(2, .int (u2 + (1 : Int32))), (0, vr w.2.2.2.2 0 1 u0), (1, .int u1)]) hx hb dX5_leavesByTicks_45 hl (k := 2) rfl rfl (by decide) rfl (fun ls hl => ?_)
          refine lv_goto (tgt := 18) hx hb dX5_leavesByTicks_48 (by decide) ?_
          exact ih u0 u1 (u2 + (1 : Int32)) _ _ _ _ _ _ hE hZ (lv_sub hl [1, 2, 0] rfl)
        · have hE := if_f hE hc
          refine lv_iload_n hx hb dX5_leavesByTicks_43 rfl (lv_at hl 2 rfl) ?_
          exact endX_i K0 hr hlocks hE hZ dX5_leavesByTicks_44
  unfold f_X5_leavesByTicks at hE
  refine vr_aload_n hx hb dX5_leavesByTicks_0 rfl (lv_at hl 0 rfl) ?_
  refine lv_iload_n hx hb dX5_leavesByTicks_1 rfl (lv_at hl 1 rfl) ?_
  refine call_VX (rest := []) K0 hK hok hEV hA (c_X5_requireNotGone l hfl D w aS sk sv A a0 a1) q914 q916 q18 q40 q917 yd_X5_requireNotGone ⟨by omega, by omega⟩ hRc hout hlocks (ci := 7) rfl rfl (rc_LC w _) hE hZ hl.1 rfl (Nat.le_of_ble_eq_true rfl) dX5_leavesByTicks_2 (fun v2 S H locs cells slots hE hZ => ?_)
  refine W.eq (g2 := F0 m 5 ls []) rfl ?_
  refine vr_aload_n hx hb dX5_leavesByTicks_5 rfl (lv_at hl 0 rfl) ?_
  refine g_LC_1 K0 hK hE hZ q251 dX5_leavesByTicks_6 (fun v6 hE => ?_)
  refine vr_aload_n hx hb dX5_leavesByTicks_9 rfl (lv_at hl 0 rfl) ?_
  refine g_LC_0 K0 hK hE hZ q250 dX5_leavesByTicks_10 (fun v10 hE => ?_)
  refine call_V (rest := []) K0 hK hok hEV hA (c_X1_copyFrom l D w aS sk sv A v6 v10) q919 q920 q921 q41 q922 yd_X1_copyFrom ⟨by omega, by omega⟩ hRc (ci := 3) rfl rfl (rc_LN w _) hE hZ hl.1 rfl (Nat.le_of_ble_eq_true rfl) dX5_leavesByTicks_13 (fun v13 S H locs cells slots hE hZ => ?_)
  refine W.eq (g2 := F0 m 16 ls []) rfl ?_
  refine lv_iconst (v := (1)) hx hb dX5_leavesByTicks_16 (by decide +kernel) ?_
  refine lv_istore_n (i := 2) (lv' := [(2, .int (1 : Int32)), (0, vr w.2.2.2.2 0 1 a0), (1, .int a1)]) hx hb dX5_leavesByTicks_17 rfl hl (by decide) rfl (fun ls hl => ?_)
  exact j18 400 a0 a1 (1 : Int32) _ _ _ _ _ _ hE hZ (lv_sub hl [1, 2, 0] rfl)
def f_X5_nextToLeave_L24 : Nat → Nat → Int32 → Int32 → PM (Int32 ⊕ String)
  | 0, _, _, _ => fail
  | n9 + 1, u0, u1, u2 => if (300 : Int32) < u2 then (thr "java/util/NoSuchElementException") else (bnd (rfc 1 u0 1) (fun v32 => if v32 < 2 then bnd (f_X1_passTick v32) (fun _ => bnd (rfc 1 u0 1) (fun v39 => bnd (rfc 2 v39 (3 * v39 + 2)) (fun v42 => bnd (rdc 6 v42 5) (fun v45 => if v45 ≤ u1 then (f_X5_nextToLeave_L24 n9 u0 u1 (u2 + (1 : Int32))) else (bnd (rfc 1 u0 1) (fun v53 => bnd (rfc 2 v53 (3 * v53 + 2)) (fun v56 => if v56 < 6 then bnd (f_X2_at v56 u1) (fun v60 => rtX v60) else fail))))))) else fail))
def f_X5_nextToLeave (a0 : Nat) : PM (Int32 ⊕ String) := bnd (rfc 1 a0 1) (fun v1 => bnd (rfc 1 a0 0) (fun v5 => if v1 < 2 then bnd (f_X1_copyFrom v1 v5) (fun _ => bnd (rfc 1 a0 0) (fun v12 => bnd (rfc 2 v12 (3 * v12 + 2)) (fun v15 => bnd (rdc 6 v15 5) (fun v18 => f_X5_nextToLeave_L24 400 a0 v18 (1 : Int32))))) else fail))
theorem yd_X5_nextToLeave : yX5_nextToLeave.cls = RX5 ∧ yX5_nextToLeave.cls ≠ "java/lang/invoke/MethodHandle" ∧ yX5_nextToLeave.cls ≠ "java/lang/invoke/VarHandle" ∧ (parseMethodDescriptor yX5_nextToLeave.desc).map (fun d => d.parameters.length) = some 0 := by decide +kernel
set_option maxHeartbeats 4000000 in
set_option maxRecDepth 100000 in
theorem c_X5_nextToLeave (l : Launch) (hfl : l.stackTraces = false) (D : va_G) (w : Wc) (aS : Nat → Nat) (sk sv : Nat) (A : Nat → Prop) (a0 : Nat) : CX l yX5_nextToLeave cX5_nextToLeave 3 (some .int) 9 211 D w (ENVC D w aS sk sv A) A [vr w.2.2.2.2 0 1 a0] (f_X5_nextToLeave a0) vI := by
  refine CX.ofW (by decide) [(0, vr w.2.2.2.2 0 1 a0)] (by simp [lv_args, vr_cat, vc_i, vc_j, vc_f, vc_d, vc_r, vc_n]) (by simp [lg_sl, vr_cat, vc_i, vc_j, vc_f, vc_d, vc_r, vc_n]) ?_
  intro S0 E0 R p e s m args below meth c ls hE hRf hRl hRc K0 hr hlocks hout hEV hA hZ hl
  have K0 : CallFix p m c cX5_nextToLeave 3 s args GW RX5 := K0
  have hx := K0.1
  have hb := K0.2.1
  have hown := K0.2.2.2.1
  have hg := K0.2.2.2.2
  have hK := hEV.1
  have hok : EVok (ENVC D w aS sk sv A) A := ENVC.ok
  have j24 : ∀ (n9 : Nat) (u0 : Nat) (u1 : Int32) (u2 : Int32) (S : St) (H : Heap) (locs : List Loc) (cells slots : Nat) (ls : Array Slot), (f_X5_nextToLeave_L24 n9 u0 u1 u2).1 S = some E0 → ZZ D 187 (adrC w) (celC w) A S0 s.heap S H locs cells slots → lv_has ls 3 [(0, vr w.2.2.2.2 0 1 u0), (1, .int u1), (2, .int u2)] → W p l e R s m args below meth c H locs cells slots (vx_MQ below (QX E0 vI D w A) (XX E0 D w A) args s (gN E0.2 7 0 - gN S0 7 0) (gN E0.2 3 0 - gN S0 3 0) A) (F0 m 24 ls []) := by
    intro n9
    induction n9 with
    | zero =>
      intro u0 u1 u2 S H locs cells slots ls hE hZ hl
      rw [f_X5_nextToLeave_L24] at hE
      cases hE
    | succ n9 ih =>
      intro u0 u1 u2 S H locs cells slots ls hE hZ hl
      rw [f_X5_nextToLeave_L24] at hE
      refine lv_iload_n hx hb dX5_nextToLeave_24 rfl (lv_at hl 2 rfl) ?_
      refine lv_sipush (v := (300)) hx hb dX5_nextToLeave_25 (by decide +kernel) ?_
      refine lv_icmp_gt (tgt := 70) hx hb dX5_nextToLeave_28 (by decide) (fun hc => ?_) (fun hc => ?_)
      · have hE := if_t hE hc
        exact thr_N K0 hfl hEV (i := 23) q418 q52 rfl (at_NoSuchElementException hEV hg) atg_NoSuchElementException hE hZ hRc hl.1 dX5_nextToLeave_70 dX5_nextToLeave_73 dX5_nextToLeave_74 dX5_nextToLeave_76 dX5_nextToLeave_79 hout (by rw [hRf]; decide) (by rw [hRl]; simp [vr_cat, vc_i, vc_j, vc_f, vc_d, vc_r, vc_n]) hlocks
      · have hE := if_f hE hc
        refine vr_aload_n hx hb dX5_nextToLeave_31 rfl (lv_at hl 0 rfl) ?_
        refine g_LC_1 K0 hK hE hZ q251 dX5_nextToLeave_32 (fun v32 hE => ?_)
        refine call_V (rest := []) K0 hK hok hEV hA (c_X1_passTick l D w aS sk sv A v32) q565 q566 q567 q41 q568 yd_X1_passTick ⟨by omega, by omega⟩ hRc (ci := 3) rfl rfl (rc_LN w _) hE hZ hl.1 rfl (Nat.le_of_ble_eq_true rfl) dX5_nextToLeave_35 (fun v35 S H locs cells slots hE hZ => ?_)
        refine W.eq (g2 := F0 m 38 ls []) rfl ?_
        refine vr_aload_n hx hb dX5_nextToLeave_38 rfl (lv_at hl 0 rfl) ?_
        refine g_LC_1 K0 hK hE hZ q251 dX5_nextToLeave_39 (fun v39 hE => ?_)
        refine gN_LN_5 K0 hK hE hZ (nw35 hEV) dX5_nextToLeave_42 (fun v42 hE => ?_)
        refine gN_RO_1 K0 hK hE hZ (nw1 hEV) dX5_nextToLeave_45 (fun v45 hE => ?_)
        refine lv_iload_n hx hb dX5_nextToLeave_48 rfl (lv_at hl 1 rfl) ?_
        refine lv_icmp_le (tgt := 64) hx hb dX5_nextToLeave_49 (by decide) (fun hc => ?_) (fun hc => ?_)
        · have hE := if_t hE hc
          refine lv_iinc (v := (u2 + (1 : Int32))) (lv' := [(2, .int (u2 + (1 : Int32))), (0, vr w.2.2.2.2 0 1 u0), (1, .int u1)]) hx hb dX5_nextToLeave_64 hl (k := 2) rfl rfl (by decide) rfl (fun ls hl => ?_)
          refine lv_goto (tgt := 24) hx hb dX5_nextToLeave_67 (by decide) ?_
          exact ih u0 u1 (u2 + (1 : Int32)) _ _ _ _ _ _ hE hZ (lv_sub hl [1, 2, 0] rfl)
        · have hE := if_f hE hc
          refine vr_aload_n hx hb dX5_nextToLeave_52 rfl (lv_at hl 0 rfl) ?_
          refine g_LC_1 K0 hK hE hZ q251 dX5_nextToLeave_53 (fun v53 hE => ?_)
          refine gN_LN_5 K0 hK hE hZ (nw35 hEV) dX5_nextToLeave_56 (fun v56 hE => ?_)
          refine lv_iload_n hx hb dX5_nextToLeave_59 rfl (lv_at hl 1 rfl) ?_
          refine call_V (rest := []) K0 hK hok hEV hA (c_X2_at l D w aS sk sv A v56 u1) q842 q493 q494 q42 q495 yd_X2_at ⟨by omega, by omega⟩ hRc (ci := 4) rfl rfl (rc_RO w _) hE hZ hl.1 rfl (Nat.le_of_ble_eq_true rfl) dX5_nextToLeave_60 (fun v60 S H locs cells slots hE hZ => ?_)
          refine W.eq (g2 := F0 m 63 ls [.int v60]) rfl ?_
          exact endX_i K0 hr hlocks hE hZ dX5_nextToLeave_63
  unfold f_X5_nextToLeave at hE
  refine vr_aload_n hx hb dX5_nextToLeave_0 rfl (lv_at hl 0 rfl) ?_
  refine g_LC_1 K0 hK hE hZ q251 dX5_nextToLeave_1 (fun v1 hE => ?_)
  refine vr_aload_n hx hb dX5_nextToLeave_4 rfl (lv_at hl 0 rfl) ?_
  refine g_LC_0 K0 hK hE hZ q250 dX5_nextToLeave_5 (fun v5 hE => ?_)
  refine call_V (rest := []) K0 hK hok hEV hA (c_X1_copyFrom l D w aS sk sv A v1 v5) q919 q920 q921 q41 q922 yd_X1_copyFrom ⟨by omega, by omega⟩ hRc (ci := 3) rfl rfl (rc_LN w _) hE hZ hl.1 rfl (Nat.le_of_ble_eq_true rfl) dX5_nextToLeave_8 (fun v8 S H locs cells slots hE hZ => ?_)
  refine W.eq (g2 := F0 m 11 ls []) rfl ?_
  refine vr_aload_n hx hb dX5_nextToLeave_11 rfl (lv_at hl 0 rfl) ?_
  refine g_LC_0 K0 hK hE hZ q250 dX5_nextToLeave_12 (fun v12 hE => ?_)
  refine gN_LN_5 K0 hK hE hZ (nw35 hEV) dX5_nextToLeave_15 (fun v15 hE => ?_)
  refine gN_RO_1 K0 hK hE hZ (nw1 hEV) dX5_nextToLeave_18 (fun v18 hE => ?_)
  refine lv_istore_n (i := 1) (lv' := [(1, .int v18), (0, vr w.2.2.2.2 0 1 a0)]) hx hb dX5_nextToLeave_21 rfl hl (by decide) (by simp [vr_cat, vc_i, vc_j, vc_f, vc_d, vc_r, vc_n]) (fun ls hl => ?_)
  refine lv_iconst (v := (1)) hx hb dX5_nextToLeave_22 (by decide +kernel) ?_
  refine lv_istore_n (i := 2) (lv' := [(2, .int (1 : Int32)), (1, .int v18), (0, vr w.2.2.2.2 0 1 a0)]) hx hb dX5_nextToLeave_23 rfl hl (by decide) rfl (fun ls hl => ?_)
  exact j24 400 a0 v18 (1 : Int32) _ _ _ _ _ _ hE hZ (lv_sub hl [2, 1, 0] rfl)
def f_X5_traceLength (a0 : Nat) (a1 : Int32) : PM (Int32 ⊕ String) := if a0 < 1 then bndX (f_X5_requireTrace a0 a1) (fun v2 => bnd (rdc 30 v2 23) (fun v5 => rtX v5)) else fail
theorem yd_X5_traceLength : yX5_traceLength.cls = RX5 ∧ yX5_traceLength.cls ≠ "java/lang/invoke/MethodHandle" ∧ yX5_traceLength.cls ≠ "java/lang/invoke/VarHandle" ∧ (parseMethodDescriptor yX5_traceLength.desc).map (fun d => d.parameters.length) = some 1 := by decide +kernel
set_option maxHeartbeats 4000000 in
set_option maxRecDepth 100000 in
theorem c_X5_traceLength (l : Launch) (hfl : l.stackTraces = false) (D : va_G) (w : Wc) (aS : Nat → Nat) (sk sv : Nat) (A : Nat → Prop) (a0 : Nat) (a1 : Int32) : CX l yX5_traceLength cX5_traceLength 2 (some .int) 8 144 D w (ENVC D w aS sk sv A) A [vr w.2.2.2.2 0 1 a0, .int a1] (f_X5_traceLength a0 a1) vI := by
  refine CX.ofW (by decide) [(0, vr w.2.2.2.2 0 1 a0), (1, .int a1)] (by simp [lv_args, vr_cat, vc_i, vc_j, vc_f, vc_d, vc_r, vc_n]) (by simp [lg_sl, vr_cat, vc_i, vc_j, vc_f, vc_d, vc_r, vc_n]) ?_
  intro S0 E0 R p e s m args below meth c ls hE hRf hRl hRc K0 hr hlocks hout hEV hA hZ hl
  have K0 : CallFix p m c cX5_traceLength 2 s args GW RX5 := K0
  have hx := K0.1
  have hb := K0.2.1
  have hown := K0.2.2.2.1
  have hg := K0.2.2.2.2
  have hK := hEV.1
  have hok : EVok (ENVC D w aS sk sv A) A := ENVC.ok
  unfold f_X5_traceLength at hE
  refine vr_aload_n hx hb dX5_traceLength_0 rfl (lv_at hl 0 rfl) ?_
  refine lv_iload_n hx hb dX5_traceLength_1 rfl (lv_at hl 1 rfl) ?_
  refine call_VX (rest := []) K0 hK hok hEV hA (c_X5_requireTrace l hfl D w aS sk sv A a0 a1) q989 q991 q22 q40 q992 yd_X5_requireTrace ⟨by omega, by omega⟩ hRc hout hlocks (ci := 7) rfl rfl (rc_LC w _) hE hZ hl.1 rfl (Nat.le_of_ble_eq_true rfl) dX5_traceLength_2 (fun v2 S H locs cells slots hE hZ => ?_)
  refine W.eq (g2 := F0 m 5 ls [vr w.2.2.2.2 97 30 v2]) rfl ?_
  refine gN_TR_1 K0 hK hE hZ (nw15 hEV) dX5_traceLength_5 (fun v5 hE => ?_)
  exact endX_i K0 hr hlocks hE hZ dX5_traceLength_8
def f_X5_traceAt (a0 : Nat) (a1 : Int32) (a2 : Int32) : PM (Int32 ⊕ String) := if a0 < 1 then bndX (f_X5_requireTrace a0 a1) (fun v2 => if v2 < 30 then bnd (f_X4_has v2 a2) (fun v8 => if v8 = 0 then (thr "java/lang/IndexOutOfBoundsException") else (if v2 < 30 then bnd (f_X4_signAt v2 a2) (fun v26 => rtCX v26) else fail)) else fail) else fail
theorem yd_X5_traceAt : yX5_traceAt.cls = RX5 ∧ yX5_traceAt.cls ≠ "java/lang/invoke/MethodHandle" ∧ yX5_traceAt.cls ≠ "java/lang/invoke/VarHandle" ∧ (parseMethodDescriptor yX5_traceAt.desc).map (fun d => d.parameters.length) = some 2 := by decide +kernel
set_option maxHeartbeats 4000000 in
set_option maxRecDepth 100000 in
theorem c_X5_traceAt (l : Launch) (hfl : l.stackTraces = false) (D : va_G) (w : Wc) (aS : Nat → Nat) (sk sv : Nat) (A : Nat → Prop) (a0 : Nat) (a1 : Int32) (a2 : Int32) : CX l yX5_traceAt cX5_traceAt 4 (some .char) 8 144 D w (ENVC D w aS sk sv A) A [vr w.2.2.2.2 0 1 a0, .int a1, .int a2] (f_X5_traceAt a0 a1 a2) vI := by
  refine CX.ofW (by decide) [(0, vr w.2.2.2.2 0 1 a0), (1, .int a1), (2, .int a2)] (by simp [lv_args, vr_cat, vc_i, vc_j, vc_f, vc_d, vc_r, vc_n]) (by simp [lg_sl, vr_cat, vc_i, vc_j, vc_f, vc_d, vc_r, vc_n]) ?_
  intro S0 E0 R p e s m args below meth c ls hE hRf hRl hRc K0 hr hlocks hout hEV hA hZ hl
  have K0 : CallFix p m c cX5_traceAt 4 s args GW RX5 := K0
  have hx := K0.1
  have hb := K0.2.1
  have hown := K0.2.2.2.1
  have hg := K0.2.2.2.2
  have hK := hEV.1
  have hok : EVok (ENVC D w aS sk sv A) A := ENVC.ok
  unfold f_X5_traceAt at hE
  refine vr_aload_n hx hb dX5_traceAt_0 rfl (lv_at hl 0 rfl) ?_
  refine lv_iload_n hx hb dX5_traceAt_1 rfl (lv_at hl 1 rfl) ?_
  refine call_VX (rest := []) K0 hK hok hEV hA (c_X5_requireTrace l hfl D w aS sk sv A a0 a1) q989 q991 q22 q40 q992 yd_X5_requireTrace ⟨by omega, by omega⟩ hRc hout hlocks (ci := 7) rfl rfl (rc_LC w _) hE hZ hl.1 rfl (Nat.le_of_ble_eq_true rfl) dX5_traceAt_2 (fun v2 S H locs cells slots hE hZ => ?_)
  refine W.eq (g2 := F0 m 5 ls [vr w.2.2.2.2 97 30 v2]) rfl ?_
  refine vr_astore_n (i := 3) (lv' := [(3, vr w.2.2.2.2 97 30 v2), (0, vr w.2.2.2.2 0 1 a0), (1, .int a1), (2, .int a2)]) hx hb dX5_traceAt_5 rfl hl (by decide) rfl (fun ls hl => ?_)
  refine vr_aload_n hx hb dX5_traceAt_6 rfl (lv_at hl 0 rfl) ?_
  refine lv_iload_n hx hb dX5_traceAt_7 rfl (lv_at hl 3 rfl) ?_
  refine call_V (rest := []) K0 hK hok hEV hA (c_X4_has l D w aS sk sv A v2 a2) q1000 q1001 q1002 q45 q1003 yd_X4_has ⟨by omega, by omega⟩ hRc (ci := 6) rfl rfl (rc_TR w _) hE hZ hl.1 rfl (Nat.le_of_ble_eq_true rfl) dX5_traceAt_8 (fun v8 S H locs cells slots hE hZ => ?_)
  refine W.eq (g2 := F0 m 11 ls [.int v8]) rfl ?_
  refine lv_if_ne (tgt := 24) hx hb dX5_traceAt_11 (by decide) (fun hc => ?_) (fun hc => ?_)
  · have hE := if_f hE hc
    refine vr_aload_n hx hb dX5_traceAt_24 rfl (lv_at hl 0 rfl) ?_
    refine lv_iload_n hx hb dX5_traceAt_25 rfl (lv_at hl 3 rfl) ?_
    refine call_V (rest := []) K0 hK hok hEV hA (c_X4_signAt l D w aS sk sv A v2 a2) q1005 q1006 q1007 q45 q1008 yd_X4_signAt ⟨by omega, by omega⟩ hRc (ci := 6) rfl rfl (rc_TR w _) hE hZ hl.1 rfl (Nat.le_of_ble_eq_true rfl) dX5_traceAt_26 (fun v26 S H locs cells slots hE hZ => ?_)
    refine W.eq (g2 := F0 m 29 ls [.int v26]) rfl ?_
    exact endX_c K0 hr hlocks hE hZ dX5_traceAt_29
  · have hE := if_t hE hc
    exact thr_S K0 hfl hEV (i := 24) (by decide +kernel) (by decide +kernel) q829 q61 rfl (at_IndexOutOfBoundsException hEV hg) atg_IndexOutOfBoundsException hE hZ hRc hl.1 dX5_traceAt_14 dX5_traceAt_17 dX5_traceAt_18 dX5_traceAt_20 dX5_traceAt_23 hout (by rw [hRf]; decide) (by rw [hRl]; simp [vr_cat, vc_i, vc_j, vc_f, vc_d, vc_r, vc_n]) hlocks
def f_X5_countOf (a0 : Nat) (a1 : Int32) : PM (Int32 ⊕ String) := bnd (f_J0_indexOf_0f7a4 a1) (fun v3 => if 0 ≤ v3 then (bnd (rfc 1 a0 0) (fun v20 => if v20 < 2 then bnd (f_X1_totalOf v20 a1) (fun v24 => rtX v24) else fail)) else (thr "java/lang/IllegalArgumentException"))
theorem yd_X5_countOf : yX5_countOf.cls = RX5 ∧ yX5_countOf.cls ≠ "java/lang/invoke/MethodHandle" ∧ yX5_countOf.cls ≠ "java/lang/invoke/VarHandle" ∧ (parseMethodDescriptor yX5_countOf.desc).map (fun d => d.parameters.length) = some 1 := by decide +kernel
set_option maxHeartbeats 4000000 in
set_option maxRecDepth 100000 in
theorem c_X5_countOf (l : Launch) (hfl : l.stackTraces = false) (D : va_G) (w : Wc) (aS : Nat → Nat) (sk sv : Nat) (A : Nat → Prop) (a0 : Nat) (a1 : Int32) : CX l yX5_countOf cX5_countOf 2 (some .int) 6 142 D w (ENVC D w aS sk sv A) A [vr w.2.2.2.2 0 1 a0, .int a1] (f_X5_countOf a0 a1) vI := by
  refine CX.ofW (by decide) [(0, vr w.2.2.2.2 0 1 a0), (1, .int a1)] (by simp [lv_args, vr_cat, vc_i, vc_j, vc_f, vc_d, vc_r, vc_n]) (by simp [lg_sl, vr_cat, vc_i, vc_j, vc_f, vc_d, vc_r, vc_n]) ?_
  intro S0 E0 R p e s m args below meth c ls hE hRf hRl hRc K0 hr hlocks hout hEV hA hZ hl
  have K0 : CallFix p m c cX5_countOf 2 s args GW RX5 := K0
  have hx := K0.1
  have hb := K0.2.1
  have hown := K0.2.2.2.1
  have hg := K0.2.2.2.2
  have hK := hEV.1
  have hok : EVok (ENVC D w aS sk sv A) A := ENVC.ok
  unfold f_X5_countOf at hE
  refine va_ldcS hx hb hown hEV.2.2.2.2.2.1 dX5_countOf_0 ?_
  refine lv_iload_n hx hb dX5_countOf_2 rfl (lv_at hl 1 rfl) ?_
  refine call_VS (rest := []) K0 hok hEV hA (c_J0_indexOf_0f7a4 l D w aS sk sv A a1) q1018 q642 q643 q56 q644 yd_J0_indexOf_0f7a4 ⟨by omega, by omega⟩ hRc (vk_recv hEV.2.2.2.2.2.2.2.1 (i := 0) (by decide) hZ.2.1) hE hZ hl.1 rfl (Nat.le_of_ble_eq_true rfl) dX5_countOf_3 (fun v3 S H locs cells slots hE hZ => ?_)
  refine W.eq (g2 := F0 m 6 ls [.int v3]) rfl ?_
  refine lv_if_ge (tgt := 19) hx hb dX5_countOf_6 (by decide) (fun hc => ?_) (fun hc => ?_)
  · have hE := if_t hE hc
    refine vr_aload_n hx hb dX5_countOf_19 rfl (lv_at hl 0 rfl) ?_
    refine g_LC_0 K0 hK hE hZ q250 dX5_countOf_20 (fun v20 hE => ?_)
    refine lv_iload_n hx hb dX5_countOf_23 rfl (lv_at hl 1 rfl) ?_
    refine call_V (rest := []) K0 hK hok hEV hA (c_X1_totalOf l D w aS sk sv A v20 a1) q1020 q1021 q1022 q41 q1023 yd_X1_totalOf ⟨by omega, by omega⟩ hRc (ci := 3) rfl rfl (rc_LN w _) hE hZ hl.1 rfl (Nat.le_of_ble_eq_true rfl) dX5_countOf_24 (fun v24 S H locs cells slots hE hZ => ?_)
    refine W.eq (g2 := F0 m 27 ls [.int v24]) rfl ?_
    exact endX_i K0 hr hlocks hE hZ dX5_countOf_27
  · have hE := if_f hE hc
    exact thr_S K0 hfl hEV (i := 25) (by decide +kernel) (by decide +kernel) q309 q50 rfl (at_IllegalArgumentException hEV hg) atg_IllegalArgumentException hE hZ hRc hl.1 dX5_countOf_9 dX5_countOf_12 dX5_countOf_13 dX5_countOf_15 dX5_countOf_18 hout (by rw [hRf]; decide) (by rw [hRl]; simp [vr_cat, vc_i, vc_j, vc_f, vc_d, vc_r, vc_n]) hlocks
def f_X5_fitted_L4 : Nat → Nat → Int64 → Int32 → PM Int64
  | 0, _, _, _ => fail
  | n9 + 1, u0, u1, u3 => if (8 : Int32) ≤ u3 then (rtn u1) else (bnd (rfc 1 u0 0) (fun v11 => if v11 < 2 then bnd (f_X1_findStation v11 u3) (fun v15 => if v15 < 16 then (bnd (rdcL 16 v15) (fun v28 => f_X5_fitted_L4 n9 u0 (u1 + v28) (u3 + (1 : Int32)))) else (f_X5_fitted_L4 n9 u0 u1 (u3 + (1 : Int32)))) else fail))
def f_X5_fitted (a0 : Nat) : PM Int64 := f_X5_fitted_L4 400 a0 (0 : Int64) (0 : Int32)
theorem yd_X5_fitted : yX5_fitted.cls = RX5 ∧ yX5_fitted.cls ≠ "java/lang/invoke/MethodHandle" ∧ yX5_fitted.cls ≠ "java/lang/invoke/VarHandle" ∧ (parseMethodDescriptor yX5_fitted.desc).map (fun d => d.parameters.length) = some 0 := by decide +kernel
set_option maxHeartbeats 4000000 in
set_option maxRecDepth 100000 in
theorem c_X5_fitted (l : Launch) (D : va_G) (w : Wc) (aS : Nat → Nat) (sk sv : Nat) (A : Nat → Prop) (a0 : Nat) : CT l yX5_fitted cX5_fitted 5 (some .long) 1 21 (PC D w A) (ENVC D w aS sk sv A) A [vr w.2.2.2.2 0 1 a0] (f_X5_fitted a0) vJ := by
  refine CT.ofW (by decide) [(0, vr w.2.2.2.2 0 1 a0)] (by simp [lv_args, vr_cat, vc_i, vc_j, vc_f, vc_d, vc_r, vc_n]) (by simp [lg_sl, vr_cat, vc_i, vc_j, vc_f, vc_d, vc_r, vc_n]) ?_
  intro S0 E0 R p e s m args below meth c ls hE hRf hRl hRc K0 hr hlocks hEV hA hZ hl
  have K0 : CallFix p m c cX5_fitted 5 s args GW RX5 := K0
  have hx := K0.1
  have hb := K0.2.1
  have hown := K0.2.2.2.1
  have hg := K0.2.2.2.2
  have hK := hEV.1
  have hok : EVok (ENVC D w aS sk sv A) A := ENVC.ok
  have j4 : ∀ (n9 : Nat) (u0 : Nat) (u1 : Int64) (u3 : Int32) (S : St) (H : Heap) (locs : List Loc) (cells slots : Nat) (ls : Array Slot), (f_X5_fitted_L4 n9 u0 u1 u3).1 S = some E0 → ZZ D 187 (adrC w) (celC w) A S0 s.heap S H locs cells slots → lv_has ls 5 [(0, vr w.2.2.2.2 0 1 u0), (1, .long u1), (3, .int u3)] → W p l e R s m args below meth c H locs cells slots (MQ below (QE E0 vJ (PC D w A) A) args s (gN E0.2 7 0 - gN S0 7 0) (gN E0.2 3 0 - gN S0 3 0) A) (F0 m 4 ls []) := by
    intro n9
    induction n9 with
    | zero =>
      intro u0 u1 u3 S H locs cells slots ls hE hZ hl
      rw [f_X5_fitted_L4] at hE
      cases hE
    | succ n9 ih =>
      intro u0 u1 u3 S H locs cells slots ls hE hZ hl
      rw [f_X5_fitted_L4] at hE
      refine lv_iload_n hx hb dX5_fitted_4 rfl (lv_at hl 2 rfl) ?_
      refine lv_bipush (v := (8)) hx hb dX5_fitted_5 (by decide +kernel) ?_
      refine lv_icmp_ge (tgt := 39) hx hb dX5_fitted_7 (by decide) (fun hc => ?_) (fun hc => ?_)
      · have hE := if_t hE hc
        refine lv_lload_n hx hb dX5_fitted_39 rfl (lv_at hl 1 rfl) ?_
        exact end_l K0 hr hlocks hE hZ dX5_fitted_40
      · have hE := if_f hE hc
        refine vr_aload_n hx hb dX5_fitted_10 rfl (lv_at hl 0 rfl) ?_
        refine g_LC_0 K0 hK hE hZ q250 dX5_fitted_11 (fun v11 hE => ?_)
        refine lv_iload_n hx hb dX5_fitted_14 rfl (lv_at hl 2 rfl) ?_
        refine call_V (rest := []) K0 hK hok hEV hA (c_X1_findStation l D w aS sk sv A v11 u3) q293 q294 q295 q41 q296 yd_X1_findStation ⟨by omega, by omega⟩ hRc (ci := 3) rfl rfl (rc_LN w _) hE hZ hl.1 rfl (Nat.le_of_ble_eq_true rfl) dX5_fitted_15 (fun v15 S H locs cells slots hE hZ => ?_)
        refine W.eq (g2 := F0 m 18 ls [vr w.2.2.2.2 21 16 v15]) rfl ?_
        refine vr_astore (lv' := [(4, vr w.2.2.2.2 21 16 v15), (0, vr w.2.2.2.2 0 1 u0), (1, .long u1), (3, .int u3)]) hx hb dX5_fitted_18 hl (by decide) rfl (fun ls hl => ?_)
        refine vr_aload hx hb dX5_fitted_20 (lv_at hl 0 rfl) ?_
        refine vr_ifnull (tgt := 33) hx hb dX5_fitted_22 (by decide) (fun hc => ?_) (fun hc => ?_)
        · have hE := if_t hE hc
          refine lv_lload_n hx hb dX5_fitted_25 rfl (lv_at hl 2 rfl) ?_
          refine vr_aload hx hb dX5_fitted_26 (lv_at hl 0 rfl) ?_
          refine gN_ST_7 K0 hK hE hZ (nw13 hEV) dX5_fitted_28 (fun v28 hE => ?_)
          refine lv_ladd hx hb dX5_fitted_31 ?_
          refine lv_lstore_n (i := 1) (lv' := [(1, .long (u1 + v28)), (4, vr w.2.2.2.2 21 16 v15), (0, vr w.2.2.2.2 0 1 u0), (3, .int u3)]) hx hb dX5_fitted_32 rfl hl (by decide) (by simp [vr_cat, vc_i, vc_j, vc_f, vc_d, vc_r, vc_n]) (fun ls hl => ?_)
          refine lv_iinc (v := (u3 + (1 : Int32))) (lv' := [(3, .int (u3 + (1 : Int32))), (1, .long (u1 + v28)), (4, vr w.2.2.2.2 21 16 v15), (0, vr w.2.2.2.2 0 1 u0)]) hx hb dX5_fitted_33 hl (k := 3) rfl rfl (by decide) rfl (fun ls hl => ?_)
          refine lv_goto (tgt := 4) hx hb dX5_fitted_36 (by decide) ?_
          exact ih u0 (u1 + v28) (u3 + (1 : Int32)) _ _ _ _ _ _ hE hZ (lv_sub hl [3, 1, 0] rfl)
        · have hE := if_f hE hc
          refine lv_iinc (v := (u3 + (1 : Int32))) (lv' := [(3, .int (u3 + (1 : Int32))), (4, vr w.2.2.2.2 21 16 v15), (0, vr w.2.2.2.2 0 1 u0), (1, .long u1)]) hx hb dX5_fitted_33 hl (k := 3) rfl rfl (by decide) rfl (fun ls hl => ?_)
          refine lv_goto (tgt := 4) hx hb dX5_fitted_36 (by decide) ?_
          exact ih u0 u1 (u3 + (1 : Int32)) _ _ _ _ _ _ hE hZ (lv_sub hl [2, 3, 0] rfl)
  unfold f_X5_fitted at hE
  refine lv_lconst (v := (0)) hx hb dX5_fitted_0 (by decide +kernel) ?_
  refine lv_lstore_n (i := 1) (lv' := [(1, .long (0 : Int64)), (0, vr w.2.2.2.2 0 1 a0)]) hx hb dX5_fitted_1 rfl hl (by decide) (by simp [vr_cat, vc_i, vc_j, vc_f, vc_d, vc_r, vc_n]) (fun ls hl => ?_)
  refine lv_iconst (v := (0)) hx hb dX5_fitted_2 (by decide +kernel) ?_
  refine lv_istore_n (i := 3) (lv' := [(3, .int (0 : Int32)), (1, .long (0 : Int64)), (0, vr w.2.2.2.2 0 1 a0)]) hx hb dX5_fitted_3 rfl hl (by decide) rfl (fun ls hl => ?_)
  exact j4 400 a0 (0 : Int64) (0 : Int32) _ _ _ _ _ _ hE hZ (lv_sub hl [2, 1, 0] rfl)
