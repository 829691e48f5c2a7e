/-! part 11: Line, but for what writes traces (by program) -/
def f_X1_copyStation (a0 : Nat) (a1 : Nat) : PM Unit := if a0 < 16 then (if a1 < 16 then (if a0 < 16 then bnd (f_X3_copyFrom a0 a1) (fun _ => rtn ()) else fail) else (rtn ())) else (rtn ())
theorem yd_X1_copyStation : yX1_copyStation.cls = RX1 ∧ yX1_copyStation.cls ≠ "java/lang/invoke/MethodHandle" ∧ yX1_copyStation.cls ≠ "java/lang/invoke/VarHandle" ∧ (parseMethodDescriptor yX1_copyStation.desc).map (fun d => d.parameters.length) = some 2 := by decide +kernel
set_option maxHeartbeats 4000000 in
set_option maxRecDepth 100000 in
theorem c_X1_copyStation (l : Launch) (D : va_G) (w : Wc) (aS : Nat → Nat) (sk sv : Nat) (A : Nat → Prop) (a0 : Nat) (a1 : Nat) : CT l yX1_copyStation cX1_copyStation 2 none 2 45 (PC D w A) (ENVC D w aS sk sv A) A [vr w.2.2.2.2 21 16 a0, vr w.2.2.2.2 21 16 a1] (f_X1_copyStation a0 a1) vU := by
  refine CT.ofW (by decide) [(0, vr w.2.2.2.2 21 16 a0), (1, vr w.2.2.2.2 21 16 a1)] (by simp [lv_args, vr_cat, vc_i, vc_j, vc_f, vc_d, vc_r, vc_n]) (by simp [lg_sl, vr_cat, vc_i, vc_j, vc_f, vc_d, vc_r, vc_n]) ?_
  intro S0 E0 R p e s m args below meth c ls hE hRf hRl hRc K0 hr hlocks hEV hA hZ hl
  have K0 : CallFix p m c cX1_copyStation 2 s args GW RX1 := K0
  have hx := K0.1
  have hb := K0.2.1
  have hown := K0.2.2.2.1
  have hg := K0.2.2.2.2
  have hK := hEV.1
  have hok : EVok (ENVC D w aS sk sv A) A := ENVC.ok
  unfold f_X1_copyStation at hE
  refine vr_aload_n hx hb dX1_copyStation_0 rfl (lv_at hl 0 rfl) ?_
  refine vr_ifnull (tgt := 13) hx hb dX1_copyStation_1 (by decide) (fun hc => ?_) (fun hc => ?_)
  · have hE := if_t hE hc
    refine vr_aload_n hx hb dX1_copyStation_4 rfl (lv_at hl 1 rfl) ?_
    refine vr_ifnull (tgt := 13) hx hb dX1_copyStation_5 (by decide) (fun hc => ?_) (fun hc => ?_)
    · have hE := if_t hE hc
      refine vr_aload_n hx hb dX1_copyStation_8 rfl (lv_at hl 0 rfl) ?_
      refine vr_aload_n hx hb dX1_copyStation_9 rfl (lv_at hl 1 rfl) ?_
      refine call_V (rest := []) K0 hK hok hEV hA (c_X3_copyFrom l D w aS sk sv A a0 a1) q926 q927 q928 q43 q929 yd_X3_copyFrom ⟨by omega, by omega⟩ hRc (ci := 5) rfl rfl (rc_ST w _) hE hZ hl.1 rfl (Nat.le_of_ble_eq_true rfl) dX1_copyStation_10 (fun v10 S H locs cells slots hE hZ => ?_)
      refine W.eq (g2 := F0 m 13 ls []) rfl ?_
      exact end_v K0 hr hlocks hE hZ dX1_copyStation_13
    · have hE := if_f hE hc
      exact end_v K0 hr hlocks hE hZ dX1_copyStation_13
  · have hE := if_f hE hc
    exact end_v K0 hr hlocks hE hZ dX1_copyStation_13
def f_X1_copyCar (a0 : Nat) (a1 : Nat) : PM Unit := if a0 < 60 then (if a1 < 60 then (if a0 < 60 then bnd (f_X0_copyFrom a0 a1) (fun _ => rtn ()) else fail) else (rtn ())) else (rtn ())
theorem yd_X1_copyCar : yX1_copyCar.cls = RX1 ∧ yX1_copyCar.cls ≠ "java/lang/invoke/MethodHandle" ∧ yX1_copyCar.cls ≠ "java/lang/invoke/VarHandle" ∧ (parseMethodDescriptor yX1_copyCar.desc).map (fun d => d.parameters.length) = some 2 := by decide +kernel
set_option maxHeartbeats 4000000 in
set_option maxRecDepth 100000 in
theorem c_X1_copyCar (l : Launch) (D : va_G) (w : Wc) (aS : Nat → Nat) (sk sv : Nat) (A : Nat → Prop) (a0 : Nat) (a1 : Nat) : CT l yX1_copyCar cX1_copyCar 2 none 1 21 (PC D w A) (ENVC D w aS sk sv A) A [vr w.2.2.2.2 37 60 a0, vr w.2.2.2.2 37 60 a1] (f_X1_copyCar a0 a1) vU := by
  refine CT.ofW (by decide) [(0, vr w.2.2.2.2 37 60 a0), (1, vr w.2.2.2.2 37 60 a1)] (by simp [lv_args, vr_cat, vc_i, vc_j, vc_f, vc_d, vc_r, vc_n]) (by simp [lg_sl, vr_cat, vc_i, vc_j, vc_f, vc_d, vc_r, vc_n]) ?_
  intro S0 E0 R p e s m args below meth c ls hE hRf hRl hRc K0 hr hlocks hEV hA hZ hl
  have K0 : CallFix p m c cX1_copyCar 2 s args GW RX1 := K0
  have hx := K0.1
  have hb := K0.2.1
  have hown := K0.2.2.2.1
  have hg := K0.2.2.2.2
  have hK := hEV.1
  have hok : EVok (ENVC D w aS sk sv A) A := ENVC.ok
  unfold f_X1_copyCar at hE
  refine vr_aload_n hx hb dX1_copyCar_0 rfl (lv_at hl 0 rfl) ?_
  refine vr_ifnull (tgt := 13) hx hb dX1_copyCar_1 (by decide) (fun hc => ?_) (fun hc => ?_)
  · have hE := if_t hE hc
    refine vr_aload_n hx hb dX1_copyCar_4 rfl (lv_at hl 1 rfl) ?_
    refine vr_ifnull (tgt := 13) hx hb dX1_copyCar_5 (by decide) (fun hc => ?_) (fun hc => ?_)
    · have hE := if_t hE hc
      refine vr_aload_n hx hb dX1_copyCar_8 rfl (lv_at hl 0 rfl) ?_
      refine vr_aload_n hx hb dX1_copyCar_9 rfl (lv_at hl 1 rfl) ?_
      refine call_V (rest := []) K0 hK hok hEV hA (c_X0_copyFrom l D w aS sk sv A a0 a1) q934 q935 q936 q44 q937 yd_X0_copyFrom ⟨by omega, by omega⟩ hRc (ci := 2) rfl rfl (rc_CA w _) hE hZ hl.1 rfl (Nat.le_of_ble_eq_true rfl) dX1_copyCar_10 (fun v10 S H locs cells slots hE hZ => ?_)
      refine W.eq (g2 := F0 m 13 ls []) rfl ?_
      exact end_v K0 hr hlocks hE hZ dX1_copyCar_13
    · have hE := if_f hE hc
      exact end_v K0 hr hlocks hE hZ dX1_copyCar_13
  · have hE := if_f hE hc
    exact end_v K0 hr hlocks hE hZ dX1_copyCar_13
def f_X1_findStation (a0 : Nat) (a1 : Int32) : PM Nat := if a1 < 0 then (rtn 16) else (bnd (rdc 2 a0 0) (fun v6 => if v6 ≤ a1 then (rtn 16) else (bnd (rfc 2 a0 (a0)) (fun v14 => bnd (rdk 2 v14 (nI 8)) (fun v17 => if v17 ≤ a1 then (rtn 16) else (bnd (rfc 2 a0 (a0)) (fun v22 => bnd (arf 2 v22 8 a1 (fun j => 8 * v22 + j)) (fun v26 => rtn v26))))))))
theorem yd_X1_findStation : yX1_findStation.cls = RX1 ∧ yX1_findStation.cls ≠ "java/lang/invoke/MethodHandle" ∧ yX1_findStation.cls ≠ "java/lang/invoke/VarHandle" ∧ (parseMethodDescriptor yX1_findStation.desc).map (fun d => d.parameters.length) = some 1 := by decide +kernel
set_option maxHeartbeats 4000000 in
set_option maxRecDepth 100000 in
theorem c_X1_findStation (l : Launch) (D : va_G) (w : Wc) (aS : Nat → Nat) (sk sv : Nat) (A : Nat → Prop) (a0 : Nat) (a1 : Int32) : CT l yX1_findStation cX1_findStation 2 (some (.object "Lineclock$Station")) 0 0 (PC D w A) (ENVC D w aS sk sv A) A [vr w.2.2.2.2 1 2 a0, .int a1] (f_X1_findStation a0 a1) (vQ w.2.2.2.2 21 16) := by
  refine CT.ofW (by decide) [(0, vr w.2.2.2.2 1 2 a0), (1, .int a1)] (by simp [lv_args, vr_cat, vc_i, vc_j, vc_f, vc_d, vc_r, vc_n]) (by simp [lg_sl, vr_cat, vc_i, vc_j, vc_f, vc_d, vc_r, vc_n]) ?_
  intro S0 E0 R p e s m args below meth c ls hE hRf hRl hRc K0 hr hlocks hEV hA hZ hl
  have K0 : CallFix p m c cX1_findStation 2 s args GW RX1 := K0
  have hx := K0.1
  have hb := K0.2.1
  have hown := K0.2.2.2.1
  have hg := K0.2.2.2.2
  have hK := hEV.1
  have hok : EVok (ENVC D w aS sk sv A) A := ENVC.ok
  unfold f_X1_findStation at hE
  refine lv_iload_n hx hb dX1_findStation_0 rfl (lv_at hl 1 rfl) ?_
  refine lv_if_lt (tgt := 30) hx hb dX1_findStation_1 (by decide) (fun hc => ?_) (fun hc => ?_)
  · have hE := if_t hE hc
    refine lv_null hx hb dX1_findStation_30 ?_
    rw [show Value.null = vr w.2.2.2.2 21 16 16 from (vr_null (by omega)).symm]
    exact end_r K0 hr hlocks hE hZ dX1_findStation_31
  · have hE := if_f hE hc
    refine lv_iload_n hx hb dX1_findStation_4 rfl (lv_at hl 1 rfl) ?_
    refine vr_aload_n hx hb dX1_findStation_5 rfl (lv_at hl 0 rfl) ?_
    refine g_LN_6 K0 hK hE hZ q221 dX1_findStation_6 (fun v6 hE => ?_)
    refine lv_icmp_ge (tgt := 30) hx hb dX1_findStation_9 (by decide) (fun hc => ?_) (fun hc => ?_)
    · have hE := if_t hE hc
      refine lv_null hx hb dX1_findStation_30 ?_
      rw [show Value.null = vr w.2.2.2.2 21 16 16 from (vr_null (by omega)).symm]
      exact end_r K0 hr hlocks hE hZ dX1_findStation_31
    · have hE := if_f hE hc
      refine lv_iload_n hx hb dX1_findStation_12 rfl (lv_at hl 1 rfl) ?_
      refine vr_aload_n hx hb dX1_findStation_13 rfl (lv_at hl 0 rfl) ?_
      refine g_LN_0 K0 hK hE hZ q212 dX1_findStation_14 (fun v14 hE => ?_)
      refine n_PL K0 hK hE hZ dX1_findStation_17 (fun v17 hE => ?_)
      refine lv_icmp_ge (tgt := 30) hx hb dX1_findStation_18 (by decide) (fun hc => ?_) (fun hc => ?_)
      · have hE := if_t hE hc
        refine lv_null hx hb dX1_findStation_30 ?_
        rw [show Value.null = vr w.2.2.2.2 21 16 16 from (vr_null (by omega)).symm]
        exact end_r K0 hr hlocks hE hZ dX1_findStation_31
      · have hE := if_f hE hc
        refine vr_aload_n hx hb dX1_findStation_21 rfl (lv_at hl 0 rfl) ?_
        refine g_LN_0 K0 hK hE hZ q212 dX1_findStation_22 (fun v22 hE => ?_)
        refine lv_iload_n hx hb dX1_findStation_25 rfl (lv_at hl 1 rfl) ?_
        refine a_PL K0 hK hE hZ dX1_findStation_26 (fun v26 hE => ?_)
        refine lv_goto (tgt := 31) hx hb dX1_findStation_27 (by decide) ?_
        exact end_r K0 hr hlocks hE hZ dX1_findStation_31
def f_X1_findCar (a0 : Nat) (a1 : Int32) : PM Nat := if a1 < 0 then (rtn 60) else (bnd (rdc 2 a0 1) (fun v6 => if v6 ≤ a1 then (rtn 60) else (bnd (rfc 2 a0 (a0)) (fun v14 => bnd (rdk 2 v14 (nI 30)) (fun v17 => if v17 ≤ a1 then (rtn 60) else (bnd (rfc 2 a0 (a0)) (fun v22 => bnd (arf 2 v22 30 a1 (fun j => 30 * v22 + j)) (fun v26 => rtn v26))))))))
theorem yd_X1_findCar : yX1_findCar.cls = RX1 ∧ yX1_findCar.cls ≠ "java/lang/invoke/MethodHandle" ∧ yX1_findCar.cls ≠ "java/lang/invoke/VarHandle" ∧ (parseMethodDescriptor yX1_findCar.desc).map (fun d => d.parameters.length) = some 1 := by decide +kernel
set_option maxHeartbeats 4000000 in
set_option maxRecDepth 100000 in
theorem c_X1_findCar (l : Launch) (D : va_G) (w : Wc) (aS : Nat → Nat) (sk sv : Nat) (A : Nat → Prop) (a0 : Nat) (a1 : Int32) : CT l yX1_findCar cX1_findCar 2 (some (.object "Lineclock$Car")) 0 0 (PC D w A) (ENVC D w aS sk sv A) A [vr w.2.2.2.2 1 2 a0, .int a1] (f_X1_findCar a0 a1) (vQ w.2.2.2.2 37 60) := by
  refine CT.ofW (by decide) [(0, vr w.2.2.2.2 1 2 a0), (1, .int a1)] (by simp [lv_args, vr_cat, vc_i, vc_j, vc_f, vc_d, vc_r, vc_n]) (by simp [lg_sl, vr_cat, vc_i, vc_j, vc_f, vc_d, vc_r, vc_n]) ?_
  intro S0 E0 R p e s m args below meth c ls hE hRf hRl hRc K0 hr hlocks hEV hA hZ hl
  have K0 : CallFix p m c cX1_findCar 2 s args GW RX1 := K0
  have hx := K0.1
  have hb := K0.2.1
  have hown := K0.2.2.2.1
  have hg := K0.2.2.2.2
  have hK := hEV.1
  have hok : EVok (ENVC D w aS sk sv A) A := ENVC.ok
  unfold f_X1_findCar at hE
  refine lv_iload_n hx hb dX1_findCar_0 rfl (lv_at hl 1 rfl) ?_
  refine lv_if_lt (tgt := 30) hx hb dX1_findCar_1 (by decide) (fun hc => ?_) (fun hc => ?_)
  · have hE := if_t hE hc
    refine lv_null hx hb dX1_findCar_30 ?_
    rw [show Value.null = vr w.2.2.2.2 37 60 60 from (vr_null (by omega)).symm]
    exact end_r K0 hr hlocks hE hZ dX1_findCar_31
  · have hE := if_f hE hc
    refine lv_iload_n hx hb dX1_findCar_4 rfl (lv_at hl 1 rfl) ?_
    refine vr_aload_n hx hb dX1_findCar_5 rfl (lv_at hl 0 rfl) ?_
    refine g_LN_7 K0 hK hE hZ q223 dX1_findCar_6 (fun v6 hE => ?_)
    refine lv_icmp_ge (tgt := 30) hx hb dX1_findCar_9 (by decide) (fun hc => ?_) (fun hc => ?_)
    · have hE := if_t hE hc
      refine lv_null hx hb dX1_findCar_30 ?_
      rw [show Value.null = vr w.2.2.2.2 37 60 60 from (vr_null (by omega)).symm]
      exact end_r K0 hr hlocks hE hZ dX1_findCar_31
    · have hE := if_f hE hc
      refine lv_iload_n hx hb dX1_findCar_12 rfl (lv_at hl 1 rfl) ?_
      refine vr_aload_n hx hb dX1_findCar_13 rfl (lv_at hl 0 rfl) ?_
      refine g_LN_1 K0 hK hE hZ q213 dX1_findCar_14 (fun v14 hE => ?_)
      refine n_KN K0 hK hE hZ dX1_findCar_17 (fun v17 hE => ?_)
      refine lv_icmp_ge (tgt := 30) hx hb dX1_findCar_18 (by decide) (fun hc => ?_) (fun hc => ?_)
      · have hE := if_t hE hc
        refine lv_null hx hb dX1_findCar_30 ?_
        rw [show Value.null = vr w.2.2.2.2 37 60 60 from (vr_null (by omega)).symm]
        exact end_r K0 hr hlocks hE hZ dX1_findCar_31
      · have hE := if_f hE hc
        refine vr_aload_n hx hb dX1_findCar_21 rfl (lv_at hl 0 rfl) ?_
        refine g_LN_1 K0 hK hE hZ q213 dX1_findCar_22 (fun v22 hE => ?_)
        refine lv_iload_n hx hb dX1_findCar_25 rfl (lv_at hl 1 rfl) ?_
        refine a_KN K0 hK hE hZ dX1_findCar_26 (fun v26 hE => ?_)
        refine lv_goto (tgt := 31) hx hb dX1_findCar_27 (by decide) ?_
        exact end_r K0 hr hlocks hE hZ dX1_findCar_31
def f_X1_unitsOf (a0 : Nat) (a1 : Int32) : PM Int32 := if a1 < 0 then (rtn (0 : Int32)) else (bnd (rfc 2 a0 (a0)) (fun v6 => bnd (rdk 2 v6 (nI 6)) (fun v9 => if v9 ≤ a1 then (rtn (0 : Int32)) else (bnd (rfc 2 a0 (a0)) (fun v14 => bnd (ald 2 v14 4 6 a1) (fun v18 => rtn v18))))))
theorem yd_X1_unitsOf : yX1_unitsOf.cls = RX1 ∧ yX1_unitsOf.cls ≠ "java/lang/invoke/MethodHandle" ∧ yX1_unitsOf.cls ≠ "java/lang/invoke/VarHandle" ∧ (parseMethodDescriptor yX1_unitsOf.desc).map (fun d => d.parameters.length) = some 1 := by decide +kernel
set_option maxHeartbeats 4000000 in
set_option maxRecDepth 100000 in
theorem c_X1_unitsOf (l : Launch) (D : va_G) (w : Wc) (aS : Nat → Nat) (sk sv : Nat) (A : Nat → Prop) (a0 : Nat) (a1 : Int32) : CT l yX1_unitsOf cX1_unitsOf 2 (some .int) 0 0 (PC D w A) (ENVC D w aS sk sv A) A [vr w.2.2.2.2 1 2 a0, .int a1] (f_X1_unitsOf a0 a1) vI := by
  refine CT.ofW (by decide) [(0, vr w.2.2.2.2 1 2 a0), (1, .int a1)] (by simp [lv_args, vr_cat, vc_i, vc_j, vc_f, vc_d, vc_r, vc_n]) (by simp [lg_sl, vr_cat, vc_i, vc_j, vc_f, vc_d, vc_r, vc_n]) ?_
  intro S0 E0 R p e s m args below meth c ls hE hRf hRl hRc K0 hr hlocks hEV hA hZ hl
  have K0 : CallFix p m c cX1_unitsOf 2 s args GW RX1 := K0
  have hx := K0.1
  have hb := K0.2.1
  have hown := K0.2.2.2.1
  have hg := K0.2.2.2.2
  have hK := hEV.1
  have hok : EVok (ENVC D w aS sk sv A) A := ENVC.ok
  unfold f_X1_unitsOf at hE
  refine lv_iload_n hx hb dX1_unitsOf_0 rfl (lv_at hl 1 rfl) ?_
  refine lv_if_lt (tgt := 22) hx hb dX1_unitsOf_1 (by decide) (fun hc => ?_) (fun hc => ?_)
  · have hE := if_t hE hc
    refine lv_iconst (v := (0)) hx hb dX1_unitsOf_22 (by decide +kernel) ?_
    exact end_i K0 hr hlocks hE hZ dX1_unitsOf_23
  · have hE := if_f hE hc
    refine lv_iload_n hx hb dX1_unitsOf_4 rfl (lv_at hl 1 rfl) ?_
    refine vr_aload_n hx hb dX1_unitsOf_5 rfl (lv_at hl 0 rfl) ?_
    refine g_LN_2 K0 hK hE hZ q214 dX1_unitsOf_6 (fun v6 hE => ?_)
    refine n_SO K0 hK hE hZ dX1_unitsOf_9 (fun v9 hE => ?_)
    refine lv_icmp_ge (tgt := 22) hx hb dX1_unitsOf_10 (by decide) (fun hc => ?_) (fun hc => ?_)
    · have hE := if_t hE hc
      refine lv_iconst (v := (0)) hx hb dX1_unitsOf_22 (by decide +kernel) ?_
      exact end_i K0 hr hlocks hE hZ dX1_unitsOf_23
    · have hE := if_f hE hc
      refine vr_aload_n hx hb dX1_unitsOf_13 rfl (lv_at hl 0 rfl) ?_
      refine g_LN_2 K0 hK hE hZ q214 dX1_unitsOf_14 (fun v14 hE => ?_)
      refine lv_iload_n hx hb dX1_unitsOf_17 rfl (lv_at hl 1 rfl) ?_
      refine a_SO K0 hK hE hZ dX1_unitsOf_18 (fun v18 hE => ?_)
      refine lv_goto (tgt := 23) hx hb dX1_unitsOf_19 (by decide) ?_
      exact end_i K0 hr hlocks hE hZ dX1_unitsOf_23
def f_X1_changeUnits (a0 : Nat) (a1 : Int32) (a2 : Int32) : PM Unit := if a1 < 0 then (rtn ()) else (bnd (rfc 2 a0 (a0)) (fun v6 => bnd (rdk 2 v6 (nI 6)) (fun v9 => if v9 ≤ a1 then (rtn ()) else (bnd (rfc 2 a0 (a0)) (fun v14 => bnd (ald 2 v14 4 6 a1) (fun v19 => bnd (ast 2 v14 4 6 a1 (v19 + a2)) (fun _ => rtn ())))))))
theorem yd_X1_changeUnits : yX1_changeUnits.cls = RX1 ∧ yX1_changeUnits.cls ≠ "java/lang/invoke/MethodHandle" ∧ yX1_changeUnits.cls ≠ "java/lang/invoke/VarHandle" ∧ (parseMethodDescriptor yX1_changeUnits.desc).map (fun d => d.parameters.length) = some 2 := by decide +kernel
set_option maxHeartbeats 4000000 in
set_option maxRecDepth 100000 in
theorem c_X1_changeUnits (l : Launch) (D : va_G) (w : Wc) (aS : Nat → Nat) (sk sv : Nat) (A : Nat → Prop) (a0 : Nat) (a1 : Int32) (a2 : Int32) : CT l yX1_changeUnits cX1_changeUnits 3 none 0 0 (PC D w A) (ENVC D w aS sk sv A) A [vr w.2.2.2.2 1 2 a0, .int a1, .int a2] (f_X1_changeUnits a0 a1 a2) vU := by
  refine CT.ofW (by decide) [(0, vr w.2.2.2.2 1 2 a0), (1, .int a1), (2, .int a2)] (by simp [lv_args, vr_cat, vc_i, vc_j, vc_f, vc_d, vc_r, vc_n]) (by simp [lg_sl, vr_cat, vc_i, vc_j, vc_f, vc_d, vc_r, vc_n]) ?_
  intro S0 E0 R p e s m args below meth c ls hE hRf hRl hRc K0 hr hlocks hEV hA hZ hl
  have K0 : CallFix p m c cX1_changeUnits 3 s args GW RX1 := K0
  have hx := K0.1
  have hb := K0.2.1
  have hown := K0.2.2.2.1
  have hg := K0.2.2.2.2
  have hK := hEV.1
  have hok : EVok (ENVC D w aS sk sv A) A := ENVC.ok
  unfold f_X1_changeUnits at hE
  refine lv_iload_n hx hb dX1_changeUnits_0 rfl (lv_at hl 1 rfl) ?_
  refine lv_if_lt (tgt := 23) hx hb dX1_changeUnits_1 (by decide) (fun hc => ?_) (fun hc => ?_)
  · have hE := if_t hE hc
    exact end_v K0 hr hlocks hE hZ dX1_changeUnits_23
  · have hE := if_f hE hc
    refine lv_iload_n hx hb dX1_changeUnits_4 rfl (lv_at hl 1 rfl) ?_
    refine vr_aload_n hx hb dX1_changeUnits_5 rfl (lv_at hl 0 rfl) ?_
    refine g_LN_2 K0 hK hE hZ q214 dX1_changeUnits_6 (fun v6 hE => ?_)
    refine n_SO K0 hK hE hZ dX1_changeUnits_9 (fun v9 hE => ?_)
    refine lv_icmp_ge (tgt := 23) hx hb dX1_changeUnits_10 (by decide) (fun hc => ?_) (fun hc => ?_)
    · have hE := if_t hE hc
      exact end_v K0 hr hlocks hE hZ dX1_changeUnits_23
    · have hE := if_f hE hc
      refine vr_aload_n hx hb dX1_changeUnits_13 rfl (lv_at hl 0 rfl) ?_
      refine g_LN_2 K0 hK hE hZ q214 dX1_changeUnits_14 (fun v14 hE => ?_)
      refine lv_iload_n hx hb dX1_changeUnits_17 rfl (lv_at hl 1 rfl) ?_
      refine lv_dup2_11 hx hb dX1_changeUnits_18 rfl vr_cat ?_
      refine a_SO K0 hK hE hZ dX1_changeUnits_19 (fun v19 hE => ?_)
      refine lv_iload_n hx hb dX1_changeUnits_20 rfl (lv_at hl 2 rfl) ?_
      refine lv_iadd hx hb dX1_changeUnits_21 ?_
      refine s_SO K0 hK hE hZ dX1_changeUnits_22 (fun S H locs hE hZ => ?_)
      exact end_v K0 hr hlocks hE hZ dX1_changeUnits_23
def f_X1_appendStation (a0 : Nat) (a1 : Int32) (a2 : Int32) (a3 : Int32) (a4 : Int32) : PM Int32 := bnd (rdc 2 a0 0) (fun v1 => bnd (rdc 2 a0 0) (fun v8 => bnd (wrc 2 a0 0 (v8 + (1 : Int32))) (fun _ => if a0 < 2 then bnd (f_X1_findStation a0 v1) (fun v19 => if v19 < 16 then (if v19 < 16 then bnd (f_X3_setUp v19 a1 a2 a3 a4) (fun _ => rtn v1) else fail) else (rtn v1)) else fail)))
theorem yd_X1_appendStation : yX1_appendStation.cls = RX1 ∧ yX1_appendStation.cls ≠ "java/lang/invoke/MethodHandle" ∧ yX1_appendStation.cls ≠ "java/lang/invoke/VarHandle" ∧ (parseMethodDescriptor yX1_appendStation.desc).map (fun d => d.parameters.length) = some 4 := by decide +kernel
set_option maxHeartbeats 4000000 in
set_option maxRecDepth 100000 in
theorem c_X1_appendStation (l : Launch) (D : va_G) (w : Wc) (aS : Nat → Nat) (sk sv : Nat) (A : Nat → Prop) (a0 : Nat) (a1 : Int32) (a2 : Int32) (a3 : Int32) (a4 : Int32) : CT l yX1_appendStation cX1_appendStation 7 (some .int) 1 24 (PC D w A) (ENVC D w aS sk sv A) A [vr w.2.2.2.2 1 2 a0, .int a1, .int a2, .int a3, .int a4] (f_X1_appendStation a0 a1 a2 a3 a4) vI := by
  refine CT.ofW (by decide) [(0, vr w.2.2.2.2 1 2 a0), (1, .int a1), (2, .int a2), (3, .int a3), (4, .int a4)] (by simp [lv_args, vr_cat, vc_i, vc_j, vc_f, vc_d, vc_r, vc_n]) (by simp [lg_sl, vr_cat, vc_i, vc_j, vc_f, vc_d, vc_r, vc_n]) ?_
  intro S0 E0 R p e s m args below meth c ls hE hRf hRl hRc K0 hr hlocks hEV hA hZ hl
  have K0 : CallFix p m c cX1_appendStation 7 s args GW RX1 := K0
  have hx := K0.1
  have hb := K0.2.1
  have hown := K0.2.2.2.1
  have hg := K0.2.2.2.2
  have hK := hEV.1
  have hok : EVok (ENVC D w aS sk sv A) A := ENVC.ok
  unfold f_X1_appendStation at hE
  refine vr_aload_n hx hb dX1_appendStation_0 rfl (lv_at hl 0 rfl) ?_
  refine g_LN_6 K0 hK hE hZ q221 dX1_appendStation_1 (fun v1 hE => ?_)
  refine lv_istore (lv' := [(5, .int v1), (0, vr w.2.2.2.2 1 2 a0), (1, .int a1), (2, .int a2), (3, .int a3), (4, .int a4)]) hx hb dX1_appendStation_4 hl (by decide) rfl (fun ls hl => ?_)
  refine vr_aload_n hx hb dX1_appendStation_6 rfl (lv_at hl 1 rfl) ?_
  refine lv_dup hx hb dX1_appendStation_7 vr_cat ?_
  refine g_LN_6 K0 hK hE hZ q221 dX1_appendStation_8 (fun v8 hE => ?_)
  refine lv_iconst (v := (1)) hx hb dX1_appendStation_11 (by decide +kernel) ?_
  refine lv_iadd hx hb dX1_appendStation_12 ?_
  refine p_LN_6 K0 hK hE hZ q221 dX1_appendStation_13 (fun S H locs hE hZ => ?_)
  refine vr_aload_n hx hb dX1_appendStation_16 rfl (lv_at hl 1 rfl) ?_
  refine lv_iload hx hb dX1_appendStation_17 (lv_at hl 0 rfl) ?_
  refine call_V (rest := []) K0 hK hok hEV hA (c_X1_findStation l D w aS sk sv A a0 v1) q402 q294 q295 q41 q296 yd_X1_findStation ⟨by omega, by omega⟩ hRc (ci := 3) rfl rfl (rc_LN w _) hE hZ hl.1 rfl (Nat.le_of_ble_eq_true rfl) dX1_appendStation_19 (fun v19 S H locs cells slots hE hZ => ?_)
  refine W.eq (g2 := F0 m 22 ls [vr w.2.2.2.2 21 16 v19]) rfl ?_
  refine vr_astore (lv' := [(6, vr w.2.2.2.2 21 16 v19), (5, .int v1), (0, vr w.2.2.2.2 1 2 a0), (1, .int a1), (2, .int a2), (3, .int a3), (4, .int a4)]) hx hb dX1_appendStation_22 hl (by decide) rfl (fun ls hl => ?_)
  refine vr_aload hx hb dX1_appendStation_24 (lv_at hl 0 rfl) ?_
  refine vr_ifnull (tgt := 39) hx hb dX1_appendStation_26 (by decide) (fun hc => ?_) (fun hc => ?_)
  · have hE := if_t hE hc
    refine vr_aload hx hb dX1_appendStation_29 (lv_at hl 0 rfl) ?_
    refine lv_iload_n hx hb dX1_appendStation_31 rfl (lv_at hl 3 rfl) ?_
    refine lv_iload_n hx hb dX1_appendStation_32 rfl (lv_at hl 4 rfl) ?_
    refine lv_iload_n hx hb dX1_appendStation_33 rfl (lv_at hl 5 rfl) ?_
    refine lv_iload hx hb dX1_appendStation_34 (lv_at hl 6 rfl) ?_
    refine call_V (rest := []) K0 hK hok hEV hA (c_X3_setUp l D w aS sk sv A v19 a1 a2 a3 a4) q403 q404 q405 q43 q406 yd_X3_setUp ⟨by omega, by omega⟩ hRc (ci := 5) rfl rfl (rc_ST w _) hE hZ hl.1 rfl (Nat.le_of_ble_eq_true rfl) dX1_appendStation_36 (fun v36 S H locs cells slots hE hZ => ?_)
    refine W.eq (g2 := F0 m 39 ls []) rfl ?_
    refine lv_iload hx hb dX1_appendStation_39 (lv_at hl 1 rfl) ?_
    exact end_i K0 hr hlocks hE hZ dX1_appendStation_41
  · have hE := if_f hE hc
    refine lv_iload hx hb dX1_appendStation_39 (lv_at hl 1 rfl) ?_
    exact end_i K0 hr hlocks hE hZ dX1_appendStation_41
def f_X1_appendCar_J30 (u0 : Nat) (u2 : Int32) : PM Int32 := bnd (rfc 2 u0 (3 * u0)) (fun v31 => if v31 < 6 then bnd (f_X2_append v31 u2) (fun _ => rtn u2) else fail)
def f_X1_appendCar (a0 : Nat) (a1 : Int32) : PM Int32 := bnd (rdc 2 a0 1) (fun v1 => bnd (rdc 2 a0 1) (fun v7 => bnd (wrc 2 a0 1 (v7 + (1 : Int32))) (fun _ => if a0 < 2 then bnd (f_X1_findCar a0 v1) (fun v17 => if v17 < 60 then (bnd (wrc 60 v17 14 a1) (fun _ => f_X1_appendCar_J30 a0 v1)) else (f_X1_appendCar_J30 a0 v1)) else fail)))
theorem yd_X1_appendCar : yX1_appendCar.cls = RX1 ∧ yX1_appendCar.cls ≠ "java/lang/invoke/MethodHandle" ∧ yX1_appendCar.cls ≠ "java/lang/invoke/VarHandle" ∧ (parseMethodDescriptor yX1_appendCar.desc).map (fun d => d.parameters.length) = some 1 := by decide +kernel
set_option maxHeartbeats 4000000 in
set_option maxRecDepth 100000 in
theorem c_X1_appendCar (l : Launch) (D : va_G) (w : Wc) (aS : Nat → Nat) (sk sv : Nat) (A : Nat → Prop) (a0 : Nat) (a1 : Int32) : CT l yX1_appendCar cX1_appendCar 4 (some .int) 1 21 (PC D w A) (ENVC D w aS sk sv A) A [vr w.2.2.2.2 1 2 a0, .int a1] (f_X1_appendCar a0 a1) vI := by
  refine CT.ofW (by decide) [(0, vr w.2.2.2.2 1 2 a0), (1, .int a1)] (by simp [lv_args, vr_cat, vc_i, vc_j, vc_f, vc_d, vc_r, vc_n]) (by simp [lg_sl, vr_cat, vc_i, vc_j, vc_f, vc_d, vc_r, vc_n]) ?_
  intro S0 E0 R p e s m args below meth c ls hE hRf hRl hRc K0 hr hlocks hEV hA hZ hl
  have K0 : CallFix p m c cX1_appendCar 4 s args GW RX1 := K0
  have hx := K0.1
  have hb := K0.2.1
  have hown := K0.2.2.2.1
  have hg := K0.2.2.2.2
  have hK := hEV.1
  have hok : EVok (ENVC D w aS sk sv A) A := ENVC.ok
  have j30 : ∀ (u0 : Nat) (u2 : Int32) (S : St) (H : Heap) (locs : List Loc) (cells slots : Nat) (ls : Array Slot), (f_X1_appendCar_J30 u0 u2).1 S = some E0 → ZZ D 187 (adrC w) (celC w) A S0 s.heap S H locs cells slots → lv_has ls 4 [(0, vr w.2.2.2.2 1 2 u0), (2, .int u2)] → W p l e R s m args below meth c H locs cells slots (MQ below (QE E0 vI (PC D w A) A) args s (gN E0.2 7 0 - gN S0 7 0) (gN E0.2 3 0 - gN S0 3 0) A) (F0 m 30 ls []) := by
    intro u0 u2 S H locs cells slots ls hE hZ hl
    unfold f_X1_appendCar_J30 at hE
    refine vr_aload_n hx hb dX1_appendCar_30 rfl (lv_at hl 0 rfl) ?_
    refine g_LN_3 K0 hK hE hZ q215 dX1_appendCar_31 (fun v31 hE => ?_)
    refine lv_iload_n hx hb dX1_appendCar_34 rfl (lv_at hl 1 rfl) ?_
    refine call_V (rest := []) K0 hK hok hEV hA (c_X2_append l D w aS sk sv A v31 u2) q469 q470 q471 q42 q472 yd_X2_append ⟨by omega, by omega⟩ hRc (ci := 4) rfl rfl (rc_RO w _) hE hZ hl.1 rfl (Nat.le_of_ble_eq_true rfl) dX1_appendCar_35 (fun v35 S H locs cells slots hE hZ => ?_)
    refine W.eq (g2 := F0 m 38 ls []) rfl ?_
    refine lv_iload_n hx hb dX1_appendCar_38 rfl (lv_at hl 1 rfl) ?_
    exact end_i K0 hr hlocks hE hZ dX1_appendCar_39
  unfold f_X1_appendCar at hE
  refine vr_aload_n hx hb dX1_appendCar_0 rfl (lv_at hl 0 rfl) ?_
  refine g_LN_7 K0 hK hE hZ q223 dX1_appendCar_1 (fun v1 hE => ?_)
  refine lv_istore_n (i := 2) (lv' := [(2, .int v1), (0, vr w.2.2.2.2 1 2 a0), (1, .int a1)]) hx hb dX1_appendCar_4 rfl hl (by decide) rfl (fun ls hl => ?_)
  refine vr_aload_n hx hb dX1_appendCar_5 rfl (lv_at hl 1 rfl) ?_
  refine lv_dup hx hb dX1_appendCar_6 vr_cat ?_
  refine g_LN_7 K0 hK hE hZ q223 dX1_appendCar_7 (fun v7 hE => ?_)
  refine lv_iconst (v := (1)) hx hb dX1_appendCar_10 (by decide +kernel) ?_
  refine lv_iadd hx hb dX1_appendCar_11 ?_
  refine p_LN_7 K0 hK hE hZ q223 dX1_appendCar_12 (fun S H locs hE hZ => ?_)
  refine vr_aload_n hx hb dX1_appendCar_15 rfl (lv_at hl 1 rfl) ?_
  refine lv_iload_n hx hb dX1_appendCar_16 rfl (lv_at hl 0 rfl) ?_
  refine call_V (rest := []) K0 hK hok hEV hA (c_X1_findCar l D w aS sk sv A a0 v1) q465 q466 q467 q41 q468 yd_X1_findCar ⟨by omega, by omega⟩ hRc (ci := 3) rfl rfl (rc_LN w _) hE hZ hl.1 rfl (Nat.le_of_ble_eq_true rfl) dX1_appendCar_17 (fun v17 S H locs cells slots hE hZ => ?_)
  refine W.eq (g2 := F0 m 20 ls [vr w.2.2.2.2 37 60 v17]) rfl ?_
  refine vr_astore_n (i := 3) (lv' := [(3, vr w.2.2.2.2 37 60 v17), (2, .int v1), (0, vr w.2.2.2.2 1 2 a0), (1, .int a1)]) hx hb dX1_appendCar_20 rfl hl (by decide) rfl (fun ls hl => ?_)
  refine vr_aload_n hx hb dX1_appendCar_21 rfl (lv_at hl 0 rfl) ?_
  refine vr_ifnull (tgt := 30) hx hb dX1_appendCar_22 (by decide) (fun hc => ?_) (fun hc => ?_)
  · have hE := if_t hE hc
    refine vr_aload_n hx hb dX1_appendCar_25 rfl (lv_at hl 0 rfl) ?_
    refine lv_iload_n hx hb dX1_appendCar_26 rfl (lv_at hl 3 rfl) ?_
    refine pN_CA_2 K0 hK hE hZ (nw19 hEV) dX1_appendCar_27 (fun S H locs hE hZ => ?_)
    exact j30 a0 v1 _ _ _ _ _ _ hE hZ (lv_sub hl [2, 1] rfl)
  · have hE := if_f hE hc
    exact j30 a0 v1 _ _ _ _ _ _ hE hZ (lv_sub hl [2, 1] rfl)
def f_X1_hasGone (a0 : Nat) (a1 : Int32) : PM Int32 := if a0 < 2 then bnd (f_X1_findCar a0 a1) (fun v2 => if v2 < 60 then (bnd (rdc 60 v2 15) (fun v11 => if v11 = (100 : Int32) then (rtnZ (1 : Int32)) else (rtnZ (0 : Int32)))) else (rtnZ (0 : Int32))) else fail
theorem yd_X1_hasGone : yX1_hasGone.cls = RX1 ∧ yX1_hasGone.cls ≠ "java/lang/invoke/MethodHandle" ∧ yX1_hasGone.cls ≠ "java/lang/invoke/VarHandle" ∧ (parseMethodDescriptor yX1_hasGone.desc).map (fun d => d.parameters.length) = some 1 := by decide +kernel
set_option maxHeartbeats 4000000 in
set_option maxRecDepth 100000 in
theorem c_X1_hasGone (l : Launch) (D : va_G) (w : Wc) (aS : Nat → Nat) (sk sv : Nat) (A : Nat → Prop) (a0 : Nat) (a1 : Int32) : CT l yX1_hasGone cX1_hasGone 3 (some .boolean) 1 21 (PC D w A) (ENVC D w aS sk sv A) A [vr w.2.2.2.2 1 2 a0, .int a1] (f_X1_hasGone a0 a1) vI := by
  refine CT.ofW (by decide) [(0, vr w.2.2.2.2 1 2 a0), (1, .int a1)] (by simp [lv_args, vr_cat, vc_i, vc_j, vc_f, vc_d, vc_r, vc_n]) (by simp [lg_sl, vr_cat, vc_i, vc_j, vc_f, vc_d, vc_r, vc_n]) ?_
  intro S0 E0 R p e s m args below meth c ls hE hRf hRl hRc K0 hr hlocks hEV hA hZ hl
  have K0 : CallFix p m c cX1_hasGone 3 s args GW RX1 := K0
  have hx := K0.1
  have hb := K0.2.1
  have hown := K0.2.2.2.1
  have hg := K0.2.2.2.2
  have hK := hEV.1
  have hok : EVok (ENVC D w aS sk sv A) A := ENVC.ok
  unfold f_X1_hasGone at hE
  refine vr_aload_n hx hb dX1_hasGone_0 rfl (lv_at hl 0 rfl) ?_
  refine lv_iload_n hx hb dX1_hasGone_1 rfl (lv_at hl 1 rfl) ?_
  refine call_V (rest := []) K0 hK hok hEV hA (c_X1_findCar l D w aS sk sv A a0 a1) q465 q466 q467 q41 q468 yd_X1_findCar ⟨by omega, by omega⟩ hRc (ci := 3) rfl rfl (rc_LN w _) hE hZ hl.1 rfl (Nat.le_of_ble_eq_true rfl) dX1_hasGone_2 (fun v2 S H locs cells slots hE hZ => ?_)
  refine W.eq (g2 := F0 m 5 ls [vr w.2.2.2.2 37 60 v2]) rfl ?_
  refine vr_astore_n (i := 2) (lv' := [(2, vr w.2.2.2.2 37 60 v2), (0, vr w.2.2.2.2 1 2 a0), (1, .int a1)]) hx hb dX1_hasGone_5 rfl hl (by decide) rfl (fun ls hl => ?_)
  refine vr_aload_n hx hb dX1_hasGone_6 rfl (lv_at hl 0 rfl) ?_
  refine vr_ifnull (tgt := 23) hx hb dX1_hasGone_7 (by decide) (fun hc => ?_) (fun hc => ?_)
  · have hE := if_t hE hc
    refine vr_aload_n hx hb dX1_hasGone_10 rfl (lv_at hl 0 rfl) ?_
    refine gN_CA_3 K0 hK hE hZ (nw21 hEV) dX1_hasGone_11 (fun v11 hE => ?_)
    refine lv_bipush (v := (100)) hx hb dX1_hasGone_14 (by decide +kernel) ?_
    refine lv_icmp_ne (tgt := 23) hx hb dX1_hasGone_16 (by decide) (fun hc => ?_) (fun hc => ?_)
    · have hE := if_f hE hc
      refine lv_iconst (v := (0)) hx hb dX1_hasGone_23 (by decide +kernel) ?_
      exact end_z K0 hr hlocks hE hZ dX1_hasGone_24
    · have hE := if_t hE hc
      refine lv_iconst (v := (1)) hx hb dX1_hasGone_19 (by decide +kernel) ?_
      refine lv_goto (tgt := 24) hx hb dX1_hasGone_20 (by decide) ?_
      exact end_z K0 hr hlocks hE hZ dX1_hasGone_24
  · have hE := if_f hE hc
    refine lv_iconst (v := (0)) hx hb dX1_hasGone_23 (by decide +kernel) ?_
    exact end_z K0 hr hlocks hE hZ dX1_hasGone_24
def f_X1_ticksToRound (a0 : Nat) : PM Int32 := bnd (rdc 2 a0 3) (fun v1 => if v1 ≤ 0 then (rtn (1 : Int32)) else (bnd (rdc 2 a0 3) (fun v8 => bnd (rdc 2 a0 2) (fun v12 => bnd (rdc 2 a0 3) (fun v16 => if ¬ v16 = 0 then (rtn (v8 - (v12 - v12 / v16 * v16))) else fail)))))
theorem yd_X1_ticksToRound : yX1_ticksToRound.cls = RX1 ∧ yX1_ticksToRound.cls ≠ "java/lang/invoke/MethodHandle" ∧ yX1_ticksToRound.cls ≠ "java/lang/invoke/VarHandle" ∧ (parseMethodDescriptor yX1_ticksToRound.desc).map (fun d => d.parameters.length) = some 0 := by decide +kernel
set_option maxHeartbeats 4000000 in
set_option maxRecDepth 100000 in
theorem c_X1_ticksToRound (l : Launch) (D : va_G) (w : Wc) (aS : Nat → Nat) (sk sv : Nat) (A : Nat → Prop) (a0 : Nat) : CT l yX1_ticksToRound cX1_ticksToRound 1 (some .int) 0 0 (PC D w A) (ENVC D w aS sk sv A) A [vr w.2.2.2.2 1 2 a0] (f_X1_ticksToRound a0) vI := by
  refine CT.ofW (by decide) [(0, vr w.2.2.2.2 1 2 a0)] (by simp [lv_args, vr_cat, vc_i, vc_j, vc_f, vc_d, vc_r, vc_n]) (by simp [lg_sl, vr_cat, vc_i, vc_j, vc_f, vc_d, vc_r, vc_n]) ?_
  intro S0 E0 R p e s m args below meth c ls hE hRf hRl hRc K0 hr hlocks hEV hA hZ hl
  have K0 : CallFix p m c cX1_ticksToRound 1 s args GW RX1 := K0
  have hx := K0.1
  have hb := K0.2.1
  have hown := K0.2.2.2.1
  have hg := K0.2.2.2.2
  have hK := hEV.1
  have hok : EVok (ENVC D w aS sk sv A) A := ENVC.ok
  unfold f_X1_ticksToRound at hE
  refine vr_aload_n hx hb dX1_ticksToRound_0 rfl (lv_at hl 0 rfl) ?_
  refine g_LN_9 K0 hK hE hZ q227 dX1_ticksToRound_1 (fun v1 hE => ?_)
  refine lv_if_le (tgt := 24) hx hb dX1_ticksToRound_4 (by decide) (fun hc => ?_) (fun hc => ?_)
  · have hE := if_t hE hc
    refine lv_iconst (v := (1)) hx hb dX1_ticksToRound_24 (by decide +kernel) ?_
    exact end_i K0 hr hlocks hE hZ dX1_ticksToRound_25
  · have hE := if_f hE hc
    refine vr_aload_n hx hb dX1_ticksToRound_7 rfl (lv_at hl 0 rfl) ?_
    refine g_LN_9 K0 hK hE hZ q227 dX1_ticksToRound_8 (fun v8 hE => ?_)
    refine vr_aload_n hx hb dX1_ticksToRound_11 rfl (lv_at hl 0 rfl) ?_
    refine g_LN_8 K0 hK hE hZ q225 dX1_ticksToRound_12 (fun v12 hE => ?_)
    refine vr_aload_n hx hb dX1_ticksToRound_15 rfl (lv_at hl 0 rfl) ?_
    refine g_LN_9 K0 hK hE hZ q227 dX1_ticksToRound_16 (fun v16 hE => ?_)
    obtain ⟨hc, hE⟩ := if_ok hE
    refine lv_irem hx hb dX1_ticksToRound_19 hc ?_
    refine lv_isub hx hb dX1_ticksToRound_20 ?_
    refine lv_goto (tgt := 25) hx hb dX1_ticksToRound_21 (by decide) ?_
    exact end_i K0 hr hlocks hE hZ dX1_ticksToRound_25
def f_X1_ticksOfGone_L4 : Nat → Nat → Int64 → Int32 → PM Int64
  | 0, _, _, _ => fail
  | n9 + 1, u0, u1, u3 => bnd (rfc 2 u0 (3 * u0 + 2)) (fun v6 => bnd (rdc 6 v6 5) (fun v9 => if v9 ≤ u3 then (rtn u1) else (bnd (rfc 2 u0 (3 * u0 + 2)) (fun v17 => if v17 < 6 then bnd (f_X2_at v17 u3) (fun v21 => if u0 < 2 then bnd (f_X1_findCar u0 v21) (fun v24 => if v24 < 60 then (bnd (rdc 60 v24 22) (fun v37 => bnd (rdc 60 v24 21) (fun v42 => f_X1_ticksOfGone_L4 n9 u0 (u1 + ((v37 - v42).toInt64)) (u3 + (1 : Int32))))) else (f_X1_ticksOfGone_L4 n9 u0 u1 (u3 + (1 : Int32)))) else fail) else fail))))
def f_X1_ticksOfGone (a0 : Nat) : PM Int64 := f_X1_ticksOfGone_L4 400 a0 (0 : Int64) (0 : Int32)
theorem yd_X1_ticksOfGone : yX1_ticksOfGone.cls = RX1 ∧ yX1_ticksOfGone.cls ≠ "java/lang/invoke/MethodHandle" ∧ yX1_ticksOfGone.cls ≠ "java/lang/invoke/VarHandle" ∧ (parseMethodDescriptor yX1_ticksOfGone.desc).map (fun d => d.parameters.length) = some 0 := by decide +kernel
set_option maxHeartbeats 4000000 in
set_option maxRecDepth 100000 in
theorem c_X1_ticksOfGone (l : Launch) (D : va_G) (w : Wc) (aS : Nat → Nat) (sk sv : Nat) (A : Nat → Prop) (a0 : Nat) : CT l yX1_ticksOfGone cX1_ticksOfGone 5 (some .long) 2 42 (PC D w A) (ENVC D w aS sk sv A) A [vr w.2.2.2.2 1 2 a0] (f_X1_ticksOfGone a0) vJ := by
  refine CT.ofW (by decide) [(0, vr w.2.2.2.2 1 2 a0)] (by simp [lv_args, vr_cat, vc_i, vc_j, vc_f, vc_d, vc_r, vc_n]) (by simp [lg_sl, vr_cat, vc_i, vc_j, vc_f, vc_d, vc_r, vc_n]) ?_
  intro S0 E0 R p e s m args below meth c ls hE hRf hRl hRc K0 hr hlocks hEV hA hZ hl
  have K0 : CallFix p m c cX1_ticksOfGone 5 s args GW RX1 := K0
  have hx := K0.1
  have hb := K0.2.1
  have hown := K0.2.2.2.1
  have hg := K0.2.2.2.2
  have hK := hEV.1
  have hok : EVok (ENVC D w aS sk sv A) A := ENVC.ok
  have j4 : ∀ (n9 : Nat) (u0 : Nat) (u1 : Int64) (u3 : Int32) (S : St) (H : Heap) (locs : List Loc) (cells slots : Nat) (ls : Array Slot), (f_X1_ticksOfGone_L4 n9 u0 u1 u3).1 S = some E0 → ZZ D 187 (adrC w) (celC w) A S0 s.heap S H locs cells slots → lv_has ls 5 [(0, vr w.2.2.2.2 1 2 u0), (1, .long u1), (3, .int u3)] → W p l e R s m args below meth c H locs cells slots (MQ below (QE E0 vJ (PC D w A) A) args s (gN E0.2 7 0 - gN S0 7 0) (gN E0.2 3 0 - gN S0 3 0) A) (F0 m 4 ls []) := by
    intro n9
    induction n9 with
    | zero =>
      intro u0 u1 u3 S H locs cells slots ls hE hZ hl
      rw [f_X1_ticksOfGone_L4] at hE
      cases hE
    | succ n9 ih =>
      intro u0 u1 u3 S H locs cells slots ls hE hZ hl
      rw [f_X1_ticksOfGone_L4] at hE
      refine lv_iload_n hx hb dX1_ticksOfGone_4 rfl (lv_at hl 2 rfl) ?_
      refine vr_aload_n hx hb dX1_ticksOfGone_5 rfl (lv_at hl 0 rfl) ?_
      refine g_LN_5 K0 hK hE hZ q219 dX1_ticksOfGone_6 (fun v6 hE => ?_)
      refine gN_RO_1 K0 hK hE hZ (nw2 hEV) dX1_ticksOfGone_9 (fun v9 hE => ?_)
      refine lv_icmp_ge (tgt := 55) hx hb dX1_ticksOfGone_12 (by decide) (fun hc => ?_) (fun hc => ?_)
      · have hE := if_t hE hc
        refine lv_lload_n hx hb dX1_ticksOfGone_55 rfl (lv_at hl 1 rfl) ?_
        exact end_l K0 hr hlocks hE hZ dX1_ticksOfGone_56
      · have hE := if_f hE hc
        refine vr_aload_n hx hb dX1_ticksOfGone_15 rfl (lv_at hl 0 rfl) ?_
        refine vr_aload_n hx hb dX1_ticksOfGone_16 rfl (lv_at hl 0 rfl) ?_
        refine g_LN_5 K0 hK hE hZ q219 dX1_ticksOfGone_17 (fun v17 hE => ?_)
        refine lv_iload_n hx hb dX1_ticksOfGone_20 rfl (lv_at hl 2 rfl) ?_
        refine call_V (rest := [vr w.2.2.2.2 1 2 u0]) K0 hK hok hEV hA (c_X2_at l D w aS sk sv A v17 u3) q739 q493 q494 q42 q495 yd_X2_at ⟨by omega, by omega⟩ hRc (ci := 4) rfl rfl (rc_RO w _) hE hZ hl.1 rfl (by simp [vr_cat, vc_i, vc_j, vc_f, vc_d, vc_r, vc_n]) dX1_ticksOfGone_21 (fun v21 S H locs cells slots hE hZ => ?_)
        refine W.eq (g2 := F0 m 24 ls [.int v21, vr w.2.2.2.2 1 2 u0]) rfl ?_
        refine call_V (rest := []) K0 hK hok hEV hA (c_X1_findCar l D w aS sk sv A u0 v21) q465 q466 q467 q41 q468 yd_X1_findCar ⟨by omega, by omega⟩ hRc (ci := 3) rfl rfl (rc_LN w _) hE hZ hl.1 rfl (Nat.le_of_ble_eq_true rfl) dX1_ticksOfGone_24 (fun v24 S H locs cells slots hE hZ => ?_)
        refine W.eq (g2 := F0 m 27 ls [vr w.2.2.2.2 37 60 v24]) rfl ?_
        refine vr_astore (lv' := [(4, vr w.2.2.2.2 37 60 v24), (0, vr w.2.2.2.2 1 2 u0), (1, .long u1), (3, .int u3)]) hx hb dX1_ticksOfGone_27 hl (by decide) rfl (fun ls hl => ?_)
        refine vr_aload hx hb dX1_ticksOfGone_29 (lv_at hl 0 rfl) ?_
        refine vr_ifnull (tgt := 49) hx hb dX1_ticksOfGone_31 (by decide) (fun hc => ?_) (fun hc => ?_)
        · have hE := if_t hE hc
          refine lv_lload_n hx hb dX1_ticksOfGone_34 rfl (lv_at hl 2 rfl) ?_
          refine vr_aload hx hb dX1_ticksOfGone_35 (lv_at hl 0 rfl) ?_
          refine gN_CA_10 K0 hK hE hZ (nw31 hEV) dX1_ticksOfGone_37 (fun v37 hE => ?_)
          refine vr_aload hx hb dX1_ticksOfGone_40 (lv_at hl 0 rfl) ?_
          refine gN_CA_9 K0 hK hE hZ (nw30 hEV) dX1_ticksOfGone_42 (fun v42 hE => ?_)
          refine lv_isub hx hb dX1_ticksOfGone_45 ?_
          refine lv_i2l hx hb dX1_ticksOfGone_46 rfl ?_
          refine lv_ladd hx hb dX1_ticksOfGone_47 ?_
          refine lv_lstore_n (i := 1) (lv' := [(1, .long (u1 + ((v37 - v42).toInt64))), (4, vr w.2.2.2.2 37 60 v24), (0, vr w.2.2.2.2 1 2 u0), (3, .int u3)]) hx hb dX1_ticksOfGone_48 rfl hl (by decide) (by simp [vr_cat, vc_i, vc_j, vc_f, vc_d, vc_r, vc_n]) (fun ls hl => ?_)
          refine lv_iinc (v := (u3 + (1 : Int32))) (lv' := [(3, .int (u3 + (1 : Int32))), (1, .long (u1 + ((v37 - v42).toInt64))), (4, vr w.2.2.2.2 37 60 v24), (0, vr w.2.2.2.2 1 2 u0)]) hx hb dX1_ticksOfGone_49 hl (k := 3) rfl rfl (by decide) rfl (fun ls hl => ?_)
          refine lv_goto (tgt := 4) hx hb dX1_ticksOfGone_52 (by decide) ?_
          exact ih u0 (u1 + ((v37 - v42).toInt64)) (u3 + (1 : Int32)) _ _ _ _ _ _ hE hZ (lv_sub hl [3, 1, 0] rfl)
        · have hE := if_f hE hc
          refine lv_iinc (v := (u3 + (1 : Int32))) (lv' := [(3, .int (u3 + (1 : Int32))), (4, vr w.2.2.2.2 37 60 v24), (0, vr w.2.2.2.2 1 2 u0), (1, .long u1)]) hx hb dX1_ticksOfGone_49 hl (k := 3) rfl rfl (by decide) rfl (fun ls hl => ?_)
          refine lv_goto (tgt := 4) hx hb dX1_ticksOfGone_52 (by decide) ?_
          exact ih u0 u1 (u3 + (1 : Int32)) _ _ _ _ _ _ hE hZ (lv_sub hl [2, 3, 0] rfl)
  unfold f_X1_ticksOfGone at hE
  refine lv_lconst (v := (0)) hx hb dX1_ticksOfGone_0 (by decide +kernel) ?_
  refine lv_lstore_n (i := 1) (lv' := [(1, .long (0 : Int64)), (0, vr w.2.2.2.2 1 2 a0)]) hx hb dX1_ticksOfGone_1 rfl hl (by decide) (by simp [vr_cat, vc_i, vc_j, vc_f, vc_d, vc_r, vc_n]) (fun ls hl => ?_)
  refine lv_iconst (v := (0)) hx hb dX1_ticksOfGone_2 (by decide +kernel) ?_
  refine lv_istore_n (i := 3) (lv' := [(3, .int (0 : Int32)), (1, .long (0 : Int64)), (0, vr w.2.2.2.2 1 2 a0)]) hx hb dX1_ticksOfGone_3 rfl hl (by decide) rfl (fun ls hl => ?_)
  exact j4 400 a0 (0 : Int64) (0 : Int32) _ _ _ _ _ _ hE hZ (lv_sub hl [2, 1, 0] rfl)
def f_X1_copyFrom_L91 : Nat → Nat → Nat → Int32 → PM Unit
  | 0, _, _, _ => fail
  | n9 + 1, u0, u1, u2 => bnd (rdc 2 u0 1) (fun v93 => if v93 ≤ u2 then (bnd (rfc 2 u0 (3 * u0)) (fun v119 => bnd (rfc 2 u1 (3 * u1)) (fun v123 => if v119 < 6 then bnd (f_X2_copyFrom v119 v123) (fun _ => bnd (rfc 2 u0 (3 * u0 + 1)) (fun v130 => bnd (rfc 2 u1 (3 * u1 + 1)) (fun v134 => if v130 < 6 then bnd (f_X2_copyFrom v130 v134) (fun _ => bnd (rfc 2 u0 (3 * u0 + 2)) (fun v141 => bnd (rfc 2 u1 (3 * u1 + 2)) (fun v145 => if v141 < 6 then bnd (f_X2_copyFrom v141 v145) (fun _ => rtn ()) else fail))) else fail))) else fail))) else (if u0 < 2 then bnd (f_X1_findCar u0 u2) (fun v101 => if u1 < 2 then bnd (f_X1_findCar u1 u2) (fun v106 => bnd (f_X1_copyCar v101 v106) (fun _ => f_X1_copyFrom_L91 n9 u0 u1 (u2 + (1 : Int32)))) else fail) else fail))
def f_X1_copyFrom_L62 : Nat → Nat → Nat → Int32 → PM Unit
  | 0, _, _, _ => fail
  | n9 + 1, u0, u1, u2 => bnd (rdc 2 u0 0) (fun v64 => if v64 ≤ u2 then (f_X1_copyFrom_L91 400 u0 u1 (0 : Int32)) else (if u0 < 2 then bnd (f_X1_findStation u0 u2) (fun v72 => if u1 < 2 then bnd (f_X1_findStation u1 u2) (fun v77 => bnd (f_X1_copyStation v72 v77) (fun _ => f_X1_copyFrom_L62 n9 u0 u1 (u2 + (1 : Int32)))) else fail) else fail))
def f_X1_copyFrom_L34 : Nat → Nat → Nat → Int32 → PM Unit
  | 0, _, _, _ => fail
  | n9 + 1, u0, u1, u2 => bnd (rfc 2 u0 (u0)) (fun v36 => bnd (rdk 2 v36 (nI 6)) (fun v39 => if v39 ≤ u2 then (f_X1_copyFrom_L62 400 u0 u1 (0 : Int32)) else (bnd (rfc 2 u0 (u0)) (fun v44 => if u1 < 2 then bnd (f_X1_unitsOf u1 u2) (fun v50 => bnd (ast 2 v44 4 6 u2 v50) (fun _ => f_X1_copyFrom_L34 n9 u0 u1 (u2 + (1 : Int32)))) else fail))))
def f_X1_copyFrom (a0 : Nat) (a1 : Nat) : PM Unit := bnd (rdc 2 a1 0) (fun v2 => bnd (wrc 2 a0 0 v2) (fun _ => bnd (rdc 2 a1 1) (fun v10 => bnd (wrc 2 a0 1 v10) (fun _ => bnd (rdc 2 a1 2) (fun v18 => bnd (wrc 2 a0 2 v18) (fun _ => bnd (rdc 2 a1 3) (fun v26 => bnd (wrc 2 a0 3 v26) (fun _ => f_X1_copyFrom_L34 400 a0 a1 (0 : Int32)))))))))
theorem yd_X1_copyFrom : yX1_copyFrom.cls = RX1 ∧ yX1_copyFrom.cls ≠ "java/lang/invoke/MethodHandle" ∧ yX1_copyFrom.cls ≠ "java/lang/invoke/VarHandle" ∧ (parseMethodDescriptor yX1_copyFrom.desc).map (fun d => d.parameters.length) = some 1 := by decide +kernel
set_option maxHeartbeats 4000000 in
set_option maxRecDepth 100000 in
theorem c_X1_copyFrom (l : Launch) (D : va_G) (w : Wc) (aS : Nat → Nat) (sk sv : Nat) (A : Nat → Prop) (a0 : Nat) (a1 : Nat) : CT l yX1_copyFrom cX1_copyFrom 3 none 3 66 (PC D w A) (ENVC D w aS sk sv A) A [vr w.2.2.2.2 1 2 a0, vr w.2.2.2.2 1 2 a1] (f_X1_copyFrom a0 a1) vU := by
  refine CT.ofW (by decide) [(0, vr w.2.2.2.2 1 2 a0), (1, vr w.2.2.2.2 1 2 a1)] (by simp [lv_args, vr_cat, vc_i, vc_j, vc_f, vc_d, vc_r, vc_n]) (by simp [lg_sl, vr_cat, vc_i, vc_j, vc_f, vc_d, vc_r, vc_n]) ?_
  intro S0 E0 R p e s m args below meth c ls hE hRf hRl hRc K0 hr hlocks hEV hA hZ hl
  have K0 : CallFix p m c cX1_copyFrom 3 s args GW RX1 := K0
  have hx := K0.1
  have hb := K0.2.1
  have hown := K0.2.2.2.1
  have hg := K0.2.2.2.2
  have hK := hEV.1
  have hok : EVok (ENVC D w aS sk sv A) A := ENVC.ok
  have j91 : ∀ (n9 : Nat) (u0 : Nat) (u1 : Nat) (u2 : Int32) (S : St) (H : Heap) (locs : List Loc) (cells slots : Nat) (ls : Array Slot), (f_X1_copyFrom_L91 n9 u0 u1 u2).1 S = some E0 → ZZ D 187 (adrC w) (celC w) A S0 s.heap S H locs cells slots → lv_has ls 3 [(0, vr w.2.2.2.2 1 2 u0), (1, vr w.2.2.2.2 1 2 u1), (2, .int u2)] → W p l e R s m args below meth c H locs cells slots (MQ below (QE E0 vU (PC D w A) A) args s (gN E0.2 7 0 - gN S0 7 0) (gN E0.2 3 0 - gN S0 3 0) A) (F0 m 91 ls []) := by
    intro n9
    induction n9 with
    | zero =>
      intro u0 u1 u2 S H locs cells slots ls hE hZ hl
      rw [f_X1_copyFrom_L91] at hE
      cases hE
    | succ n9 ih =>
      intro u0 u1 u2 S H locs cells slots ls hE hZ hl
      rw [f_X1_copyFrom_L91] at hE
      refine lv_iload_n hx hb dX1_copyFrom_91 rfl (lv_at hl 2 rfl) ?_
      refine vr_aload_n hx hb dX1_copyFrom_92 rfl (lv_at hl 0 rfl) ?_
      refine g_LN_7 K0 hK hE hZ q223 dX1_copyFrom_93 (fun v93 hE => ?_)
      refine lv_icmp_ge (tgt := 118) hx hb dX1_copyFrom_96 (by decide) (fun hc => ?_) (fun hc => ?_)
      · have hE := if_t hE hc
        refine vr_aload_n hx hb dX1_copyFrom_118 rfl (lv_at hl 0 rfl) ?_
        refine g_LN_3 K0 hK hE hZ q215 dX1_copyFrom_119 (fun v119 hE => ?_)
        refine vr_aload_n hx hb dX1_copyFrom_122 rfl (lv_at hl 1 rfl) ?_
        refine g_LN_3 K0 hK hE hZ q215 dX1_copyFrom_123 (fun v123 hE => ?_)
        refine call_V (rest := []) K0 hK hok hEV hA (c_X2_copyFrom l D w aS sk sv A v119 v123) q938 q939 q940 q42 q941 yd_X2_copyFrom ⟨by omega, by omega⟩ hRc (ci := 4) rfl rfl (rc_RO w _) hE hZ hl.1 rfl (Nat.le_of_ble_eq_true rfl) dX1_copyFrom_126 (fun v126 S H locs cells slots hE hZ => ?_)
        refine W.eq (g2 := F0 m 129 ls []) rfl ?_
        refine vr_aload_n hx hb dX1_copyFrom_129 rfl (lv_at hl 0 rfl) ?_
        refine g_LN_4 K0 hK hE hZ q217 dX1_copyFrom_130 (fun v130 hE => ?_)
        refine vr_aload_n hx hb dX1_copyFrom_133 rfl (lv_at hl 1 rfl) ?_
        refine g_LN_4 K0 hK hE hZ q217 dX1_copyFrom_134 (fun v134 hE => ?_)
        refine call_V (rest := []) K0 hK hok hEV hA (c_X2_copyFrom l D w aS sk sv A v130 v134) q938 q939 q940 q42 q941 yd_X2_copyFrom ⟨by omega, by omega⟩ hRc (ci := 4) rfl rfl (rc_RO w _) hE hZ hl.1 rfl (Nat.le_of_ble_eq_true rfl) dX1_copyFrom_137 (fun v137 S H locs cells slots hE hZ => ?_)
        refine W.eq (g2 := F0 m 140 ls []) rfl ?_
        refine vr_aload_n hx hb dX1_copyFrom_140 rfl (lv_at hl 0 rfl) ?_
        refine g_LN_5 K0 hK hE hZ q219 dX1_copyFrom_141 (fun v141 hE => ?_)
        refine vr_aload_n hx hb dX1_copyFrom_144 rfl (lv_at hl 1 rfl) ?_
        refine g_LN_5 K0 hK hE hZ q219 dX1_copyFrom_145 (fun v145 hE => ?_)
        refine call_V (rest := []) K0 hK hok hEV hA (c_X2_copyFrom l D w aS sk sv A v141 v145) q938 q939 q940 q42 q941 yd_X2_copyFrom ⟨by omega, by omega⟩ hRc (ci := 4) rfl rfl (rc_RO w _) hE hZ hl.1 rfl (Nat.le_of_ble_eq_true rfl) dX1_copyFrom_148 (fun v148 S H locs cells slots hE hZ => ?_)
        refine W.eq (g2 := F0 m 151 ls []) rfl ?_
        exact end_v K0 hr hlocks hE hZ dX1_copyFrom_151
      · have hE := if_f hE hc
        refine vr_aload_n hx hb dX1_copyFrom_99 rfl (lv_at hl 0 rfl) ?_
        refine lv_iload_n hx hb dX1_copyFrom_100 rfl (lv_at hl 2 rfl) ?_
        refine call_V (rest := []) K0 hK hok hEV hA (c_X1_findCar l D w aS sk sv A u0 u2) q465 q466 q467 q41 q468 yd_X1_findCar ⟨by omega, by omega⟩ hRc (ci := 3) rfl rfl (rc_LN w _) hE hZ hl.1 rfl (Nat.le_of_ble_eq_true rfl) dX1_copyFrom_101 (fun v101 S H locs cells slots hE hZ => ?_)
        refine W.eq (g2 := F0 m 104 ls [vr w.2.2.2.2 37 60 v101]) rfl ?_
        refine vr_aload_n hx hb dX1_copyFrom_104 rfl (lv_at hl 1 rfl) ?_
        refine lv_iload_n hx hb dX1_copyFrom_105 rfl (lv_at hl 2 rfl) ?_
        refine call_V (rest := [vr w.2.2.2.2 37 60 v101]) K0 hK hok hEV hA (c_X1_findCar l D w aS sk sv A u1 u2) q465 q466 q467 q41 q468 yd_X1_findCar ⟨by omega, by omega⟩ hRc (ci := 3) rfl rfl (rc_LN w _) hE hZ hl.1 rfl (by simp [vr_cat, vc_i, vc_j, vc_f, vc_d, vc_r, vc_n]) dX1_copyFrom_106 (fun v106 S H locs cells slots hE hZ => ?_)
        refine W.eq (g2 := F0 m 109 ls [vr w.2.2.2.2 37 60 v106, vr w.2.2.2.2 37 60 v101]) rfl ?_
        refine call_S (rest := []) K0 hok hEV hA (c_X1_copyCar l D w aS sk sv A v101 v106) q931 q932 q41 q933 yd_X1_copyCar ⟨by omega, by omega⟩ hRc hE hZ hl.1 rfl (Nat.le_of_ble_eq_true rfl) dX1_copyFrom_109 (fun v109 S H locs cells slots hE hZ => ?_)
        refine W.eq (g2 := F0 m 112 ls []) rfl ?_
        refine lv_iinc (v := (u2 + (1 : Int32))) (lv' := [(2, .int (u2 + (1 : Int32))), (0, vr w.2.2.2.2 1 2 u0), (1, vr w.2.2.2.2 1 2 u1)]) hx hb dX1_copyFrom_112 hl (k := 2) rfl rfl (by decide) (by simp [vr_cat, vc_i, vc_j, vc_f, vc_d, vc_r, vc_n]) (fun ls hl => ?_)
        refine lv_goto (tgt := 91) hx hb dX1_copyFrom_115 (by decide) ?_
        exact ih u0 u1 (u2 + (1 : Int32)) _ _ _ _ _ _ hE hZ (lv_sub hl [1, 2, 0] rfl)
  have j62 : ∀ (n9 : Nat) (u0 : Nat) (u1 : Nat) (u2 : Int32) (S : St) (H : Heap) (locs : List Loc) (cells slots : Nat) (ls : Array Slot), (f_X1_copyFrom_L62 n9 u0 u1 u2).1 S = some E0 → ZZ D 187 (adrC w) (celC w) A S0 s.heap S H locs cells slots → lv_has ls 3 [(0, vr w.2.2.2.2 1 2 u0), (1, vr w.2.2.2.2 1 2 u1), (2, .int u2)] → W p l e R s m args below meth c H locs cells slots (MQ below (QE E0 vU (PC D w A) A) args s (gN E0.2 7 0 - gN S0 7 0) (gN E0.2 3 0 - gN S0 3 0) A) (F0 m 62 ls []) := by
    intro n9
    induction n9 with
    | zero =>
      intro u0 u1 u2 S H locs cells slots ls hE hZ hl
      rw [f_X1_copyFrom_L62] at hE
      cases hE
    | succ n9 ih =>
      intro u0 u1 u2 S H locs cells slots ls hE hZ hl
      rw [f_X1_copyFrom_L62] at hE
      refine lv_iload_n hx hb dX1_copyFrom_62 rfl (lv_at hl 2 rfl) ?_
      refine vr_aload_n hx hb dX1_copyFrom_63 rfl (lv_at hl 0 rfl) ?_
      refine g_LN_6 K0 hK hE hZ q221 dX1_copyFrom_64 (fun v64 hE => ?_)
      refine lv_icmp_ge (tgt := 89) hx hb dX1_copyFrom_67 (by decide) (fun hc => ?_) (fun hc => ?_)
      · have hE := if_t hE hc
        refine lv_iconst (v := (0)) hx hb dX1_copyFrom_89 (by decide +kernel) ?_
        refine lv_istore_n (i := 2) (lv' := [(2, .int (0 : Int32)), (0, vr w.2.2.2.2 1 2 u0), (1, vr w.2.2.2.2 1 2 u1)]) hx hb dX1_copyFrom_90 rfl hl (by decide) (by simp [vr_cat, vc_i, vc_j, vc_f, vc_d, vc_r, vc_n]) (fun ls hl => ?_)
        exact j91 400 u0 u1 (0 : Int32) _ _ _ _ _ _ hE hZ (lv_sub hl [1, 2, 0] rfl)
      · have hE := if_f hE hc
        refine vr_aload_n hx hb dX1_copyFrom_70 rfl (lv_at hl 0 rfl) ?_
        refine lv_iload_n hx hb dX1_copyFrom_71 rfl (lv_at hl 2 rfl) ?_
        refine call_V (rest := []) K0 hK hok hEV hA (c_X1_findStation l D w aS sk sv A u0 u2) q402 q294 q295 q41 q296 yd_X1_findStation ⟨by omega, by omega⟩ hRc (ci := 3) rfl rfl (rc_LN w _) hE hZ hl.1 rfl (Nat.le_of_ble_eq_true rfl) dX1_copyFrom_72 (fun v72 S H locs cells slots hE hZ => ?_)
        refine W.eq (g2 := F0 m 75 ls [vr w.2.2.2.2 21 16 v72]) rfl ?_
        refine vr_aload_n hx hb dX1_copyFrom_75 rfl (lv_at hl 1 rfl) ?_
        refine lv_iload_n hx hb dX1_copyFrom_76 rfl (lv_at hl 2 rfl) ?_
        refine call_V (rest := [vr w.2.2.2.2 21 16 v72]) K0 hK hok hEV hA (c_X1_findStation l D w aS sk sv A u1 u2) q402 q294 q295 q41 q296 yd_X1_findStation ⟨by omega, by omega⟩ hRc (ci := 3) rfl rfl (rc_LN w _) hE hZ hl.1 rfl (by simp [vr_cat, vc_i, vc_j, vc_f, vc_d, vc_r, vc_n]) dX1_copyFrom_77 (fun v77 S H locs cells slots hE hZ => ?_)
        refine W.eq (g2 := F0 m 80 ls [vr w.2.2.2.2 21 16 v77, vr w.2.2.2.2 21 16 v72]) rfl ?_
        refine call_S (rest := []) K0 hok hEV hA (c_X1_copyStation l D w aS sk sv A v72 v77) q923 q924 q41 q925 yd_X1_copyStation ⟨by omega, by omega⟩ hRc hE hZ hl.1 rfl (Nat.le_of_ble_eq_true rfl) dX1_copyFrom_80 (fun v80 S H locs cells slots hE hZ => ?_)
        refine W.eq (g2 := F0 m 83 ls []) rfl ?_
        refine lv_iinc (v := (u2 + (1 : Int32))) (lv' := [(2, .int (u2 + (1 : Int32))), (0, vr w.2.2.2.2 1 2 u0), (1, vr w.2.2.2.2 1 2 u1)]) hx hb dX1_copyFrom_83 hl (k := 2) rfl rfl (by decide) (by simp [vr_cat, vc_i, vc_j, vc_f, vc_d, vc_r, vc_n]) (fun ls hl => ?_)
        refine lv_goto (tgt := 62) hx hb dX1_copyFrom_86 (by decide) ?_
        exact ih u0 u1 (u2 + (1 : Int32)) _ _ _ _ _ _ hE hZ (lv_sub hl [1, 2, 0] rfl)
  have j34 : ∀ (n9 : Nat) (u0 : Nat) (u1 : Nat) (u2 : Int32) (S : St) (H : Heap) (locs : List Loc) (cells slots : Nat) (ls : Array Slot), (f_X1_copyFrom_L34 n9 u0 u1 u2).1 S = some E0 → ZZ D 187 (adrC w) (celC w) A S0 s.heap S H locs cells slots → lv_has ls 3 [(0, vr w.2.2.2.2 1 2 u0), (1, vr w.2.2.2.2 1 2 u1), (2, .int u2)] → W p l e R s m args below meth c H locs cells slots (MQ below (QE E0 vU (PC D w A) A) args s (gN E0.2 7 0 - gN S0 7 0) (gN E0.2 3 0 - gN S0 3 0) A) (F0 m 34 ls []) := by
    intro n9
    induction n9 with
    | zero =>
      intro u0 u1 u2 S H locs cells slots ls hE hZ hl
      rw [f_X1_copyFrom_L34] at hE
      cases hE
    | succ n9 ih =>
      intro u0 u1 u2 S H locs cells slots ls hE hZ hl
      rw [f_X1_copyFrom_L34] at hE
      refine lv_iload_n hx hb dX1_copyFrom_34 rfl (lv_at hl 2 rfl) ?_
      refine vr_aload_n hx hb dX1_copyFrom_35 rfl (lv_at hl 0 rfl) ?_
      refine g_LN_2 K0 hK hE hZ q214 dX1_copyFrom_36 (fun v36 hE => ?_)
      refine n_SO K0 hK hE hZ dX1_copyFrom_39 (fun v39 hE => ?_)
      refine lv_icmp_ge (tgt := 60) hx hb dX1_copyFrom_40 (by decide) (fun hc => ?_) (fun hc => ?_)
      · have hE := if_t hE hc
        refine lv_iconst (v := (0)) hx hb dX1_copyFrom_60 (by decide +kernel) ?_
        refine lv_istore_n (i := 2) (lv' := [(2, .int (0 : Int32)), (0, vr w.2.2.2.2 1 2 u0), (1, vr w.2.2.2.2 1 2 u1)]) hx hb dX1_copyFrom_61 rfl hl (by decide) (by simp [vr_cat, vc_i, vc_j, vc_f, vc_d, vc_r, vc_n]) (fun ls hl => ?_)
        exact j62 400 u0 u1 (0 : Int32) _ _ _ _ _ _ hE hZ (lv_sub hl [1, 2, 0] rfl)
      · have hE := if_f hE hc
        refine vr_aload_n hx hb dX1_copyFrom_43 rfl (lv_at hl 0 rfl) ?_
        refine g_LN_2 K0 hK hE hZ q214 dX1_copyFrom_44 (fun v44 hE => ?_)
        refine lv_iload_n hx hb dX1_copyFrom_47 rfl (lv_at hl 2 rfl) ?_
        refine vr_aload_n hx hb dX1_copyFrom_48 rfl (lv_at hl 1 rfl) ?_
        refine lv_iload_n hx hb dX1_copyFrom_49 rfl (lv_at hl 2 rfl) ?_
        refine call_V (rest := [.int u2, vr w.2.2.2.2 7 2 v44]) K0 hK hok hEV hA (c_X1_unitsOf l D w aS sk sv A u1 u2) q574 q436 q437 q41 q438 yd_X1_unitsOf ⟨by omega, by omega⟩ hRc (ci := 3) rfl rfl (rc_LN w _) hE hZ hl.1 rfl (by simp [vr_cat, vc_i, vc_j, vc_f, vc_d, vc_r, vc_n]) dX1_copyFrom_50 (fun v50 S H locs cells slots hE hZ => ?_)
        refine W.eq (g2 := F0 m 53 ls [.int v50, .int u2, vr w.2.2.2.2 7 2 v44]) rfl ?_
        refine s_SO K0 hK hE hZ dX1_copyFrom_53 (fun S H locs hE hZ => ?_)
        refine lv_iinc (v := (u2 + (1 : Int32))) (lv' := [(2, .int (u2 + (1 : Int32))), (0, vr w.2.2.2.2 1 2 u0), (1, vr w.2.2.2.2 1 2 u1)]) hx hb dX1_copyFrom_54 hl (k := 2) rfl rfl (by decide) (by simp [vr_cat, vc_i, vc_j, vc_f, vc_d, vc_r, vc_n]) (fun ls hl => ?_)
        refine lv_goto (tgt := 34) hx hb dX1_copyFrom_57 (by decide) ?_
        exact ih u0 u1 (u2 + (1 : Int32)) _ _ _ _ _ _ hE hZ (lv_sub hl [1, 2, 0] rfl)
  unfold f_X1_copyFrom at hE
  refine vr_aload_n hx hb dX1_copyFrom_0 rfl (lv_at hl 0 rfl) ?_
  refine vr_aload_n hx hb dX1_copyFrom_1 rfl (lv_at hl 1 rfl) ?_
  refine g_LN_6 K0 hK hE hZ q221 dX1_copyFrom_2 (fun v2 hE => ?_)
  refine p_LN_6 K0 hK hE hZ q221 dX1_copyFrom_5 (fun S H locs hE hZ => ?_)
  refine vr_aload_n hx hb dX1_copyFrom_8 rfl (lv_at hl 0 rfl) ?_
  refine vr_aload_n hx hb dX1_copyFrom_9 rfl (lv_at hl 1 rfl) ?_
  refine g_LN_7 K0 hK hE hZ q223 dX1_copyFrom_10 (fun v10 hE => ?_)
  refine p_LN_7 K0 hK hE hZ q223 dX1_copyFrom_13 (fun S H locs hE hZ => ?_)
  refine vr_aload_n hx hb dX1_copyFrom_16 rfl (lv_at hl 0 rfl) ?_
  refine vr_aload_n hx hb dX1_copyFrom_17 rfl (lv_at hl 1 rfl) ?_
  refine g_LN_8 K0 hK hE hZ q225 dX1_copyFrom_18 (fun v18 hE => ?_)
  refine p_LN_8 K0 hK hE hZ q225 dX1_copyFrom_21 (fun S H locs hE hZ => ?_)
  refine vr_aload_n hx hb dX1_copyFrom_24 rfl (lv_at hl 0 rfl) ?_
  refine vr_aload_n hx hb dX1_copyFrom_25 rfl (lv_at hl 1 rfl) ?_
  refine g_LN_9 K0 hK hE hZ q227 dX1_copyFrom_26 (fun v26 hE => ?_)
  refine p_LN_9 K0 hK hE hZ q227 dX1_copyFrom_29 (fun S H locs hE hZ => ?_)
  refine lv_iconst (v := (0)) hx hb dX1_copyFrom_32 (by decide +kernel) ?_
  refine lv_istore_n (i := 2) (lv' := [(2, .int (0 : Int32)), (0, vr w.2.2.2.2 1 2 a0), (1, vr w.2.2.2.2 1 2 a1)]) hx hb dX1_copyFrom_33 rfl hl (by decide) (by simp [vr_cat, vc_i, vc_j, vc_f, vc_d, vc_r, vc_n]) (fun ls hl => ?_)
  exact j34 400 a0 a1 (0 : Int32) _ _ _ _ _ _ hE hZ (lv_sub hl [1, 2, 0] rfl)
def f_X1_standingAt (a0 : Nat) (a1 : Int32) : PM Nat := if a0 < 2 then bnd (f_X1_findStation a0 a1) (fun v2 => if v2 < 16 then (bnd (rdc 16 v2 12) (fun v16 => if a0 < 2 then bnd (f_X1_findCar a0 v16) (fun v19 => rtn v19) else fail)) else (rtn 60)) else fail
theorem yd_X1_standingAt : yX1_standingAt.cls = RX1 ∧ yX1_standingAt.cls ≠ "java/lang/invoke/MethodHandle" ∧ yX1_standingAt.cls ≠ "java/lang/invoke/VarHandle" ∧ (parseMethodDescriptor yX1_standingAt.desc).map (fun d => d.parameters.length) = some 1 := by decide +kernel
set_option maxHeartbeats 4000000 in
set_option maxRecDepth 100000 in
theorem c_X1_standingAt (l : Launch) (D : va_G) (w : Wc) (aS : Nat → Nat) (sk sv : Nat) (A : Nat → Prop) (a0 : Nat) (a1 : Int32) : CT l yX1_standingAt cX1_standingAt 3 (some (.object "Lineclock$Car")) 1 21 (PC D w A) (ENVC D w aS sk sv A) A [vr w.2.2.2.2 1 2 a0, .int a1] (f_X1_standingAt a0 a1) (vQ w.2.2.2.2 37 60) := by
  refine CT.ofW (by decide) [(0, vr w.2.2.2.2 1 2 a0), (1, .int a1)] (by simp [lv_args, vr_cat, vc_i, vc_j, vc_f, vc_d, vc_r, vc_n]) (by simp [lg_sl, vr_cat, vc_i, vc_j, vc_f, vc_d, vc_r, vc_n]) ?_
  intro S0 E0 R p e s m args below meth c ls hE hRf hRl hRc K0 hr hlocks hEV hA hZ hl
  have K0 : CallFix p m c cX1_standingAt 3 s args GW RX1 := K0
  have hx := K0.1
  have hb := K0.2.1
  have hown := K0.2.2.2.1
  have hg := K0.2.2.2.2
  have hK := hEV.1
  have hok : EVok (ENVC D w aS sk sv A) A := ENVC.ok
  unfold f_X1_standingAt at hE
  refine vr_aload_n hx hb dX1_standingAt_0 rfl (lv_at hl 0 rfl) ?_
  refine lv_iload_n hx hb dX1_standingAt_1 rfl (lv_at hl 1 rfl) ?_
  refine call_V (rest := []) K0 hK hok hEV hA (c_X1_findStation l D w aS sk sv A a0 a1) q402 q294 q295 q41 q296 yd_X1_findStation ⟨by omega, by omega⟩ hRc (ci := 3) rfl rfl (rc_LN w _) hE hZ hl.1 rfl (Nat.le_of_ble_eq_true rfl) dX1_standingAt_2 (fun v2 S H locs cells slots hE hZ => ?_)
  refine W.eq (g2 := F0 m 5 ls [vr w.2.2.2.2 21 16 v2]) rfl ?_
  refine vr_astore_n (i := 2) (lv' := [(2, vr w.2.2.2.2 21 16 v2), (0, vr w.2.2.2.2 1 2 a0), (1, .int a1)]) hx hb dX1_standingAt_5 rfl hl (by decide) rfl (fun ls hl => ?_)
  refine vr_aload_n hx hb dX1_standingAt_6 rfl (lv_at hl 0 rfl) ?_
  refine vr_ifnonnull (tgt := 14) hx hb dX1_standingAt_7 (by decide) (fun hc => ?_) (fun hc => ?_)
  · have hE := if_t hE hc
    refine vr_aload_n hx hb dX1_standingAt_14 rfl (lv_at hl 1 rfl) ?_
    refine vr_aload_n hx hb dX1_standingAt_15 rfl (lv_at hl 0 rfl) ?_
    refine gN_ST_5 K0 hK hE hZ (nw11 hEV) dX1_standingAt_16 (fun v16 hE => ?_)
    refine call_V (rest := []) K0 hK hok hEV hA (c_X1_findCar l D w aS sk sv A a0 v16) q465 q466 q467 q41 q468 yd_X1_findCar ⟨by omega, by omega⟩ hRc (ci := 3) rfl rfl (rc_LN w _) hE hZ hl.1 rfl (Nat.le_of_ble_eq_true rfl) dX1_standingAt_19 (fun v19 S H locs cells slots hE hZ => ?_)
    refine W.eq (g2 := F0 m 22 ls [vr w.2.2.2.2 37 60 v19]) rfl ?_
    exact end_r K0 hr hlocks hE hZ dX1_standingAt_22
  · have hE := if_f hE hc
    refine lv_null hx hb dX1_standingAt_10 ?_
    refine lv_goto (tgt := 22) hx hb dX1_standingAt_11 (by decide) ?_
    rw [show Value.null = vr w.2.2.2.2 37 60 60 from (vr_null (by omega)).symm]
    exact end_r K0 hr hlocks hE hZ dX1_standingAt_22
def f_X1_countDown_L2 : Nat → Nat → Int32 → Int32 → PM Unit
  | 0, _, _, _ => fail
  | n9 + 1, u0, u1, u2 => bnd (rdc 2 u0 0) (fun v4 => if v4 ≤ u2 then (rtn ()) else (if u0 < 2 then bnd (f_X1_standingAt u0 u2) (fun v12 => if v12 < 60 then (bnd (rdc 60 v12 17) (fun v22 => bnd (wrc 60 v12 17 (if (v22 - u1) < (0 : Int32) then (0 : Int32) else (v22 - u1))) (fun _ => f_X1_countDown_L2 n9 u0 u1 (u2 + (1 : Int32))))) else (f_X1_countDown_L2 n9 u0 u1 (u2 + (1 : Int32)))) else fail))
def f_X1_countDown (a0 : Nat) (a1 : Int32) : PM Unit := f_X1_countDown_L2 400 a0 a1 (0 : Int32)
theorem yd_X1_countDown : yX1_countDown.cls = RX1 ∧ yX1_countDown.cls ≠ "java/lang/invoke/MethodHandle" ∧ yX1_countDown.cls ≠ "java/lang/invoke/VarHandle" ∧ (parseMethodDescriptor yX1_countDown.desc).map (fun d => d.parameters.length) = some 1 := by decide +kernel
set_option maxHeartbeats 4000000 in
set_option maxRecDepth 100000 in
theorem c_X1_countDown (l : Launch) (D : va_G) (w : Wc) (aS : Nat → Nat) (sk sv : Nat) (A : Nat → Prop) (a0 : Nat) (a1 : Int32) : CT l yX1_countDown cX1_countDown 4 none 2 43 (PC D w A) (ENVC D w aS sk sv A) A [vr w.2.2.2.2 1 2 a0, .int a1] (f_X1_countDown a0 a1) vU := by
  refine CT.ofW (by decide) [(0, vr w.2.2.2.2 1 2 a0), (1, .int a1)] (by simp [lv_args, vr_cat, vc_i, vc_j, vc_f, vc_d, vc_r, vc_n]) (by simp [lg_sl, vr_cat, vc_i, vc_j, vc_f, vc_d, vc_r, vc_n]) ?_
  intro S0 E0 R p e s m args below meth c ls hE hRf hRl hRc K0 hr hlocks hEV hA hZ hl
  have K0 : CallFix p m c cX1_countDown 4 s args GW RX1 := K0
  have hx := K0.1
  have hb := K0.2.1
  have hown := K0.2.2.2.1
  have hg := K0.2.2.2.2
  have hK := hEV.1
  have hok : EVok (ENVC D w aS sk sv A) A := ENVC.ok
  have j2 : ∀ (n9 : Nat) (u0 : Nat) (u1 : Int32) (u2 : Int32) (S : St) (H : Heap) (locs : List Loc) (cells slots : Nat) (ls : Array Slot), (f_X1_countDown_L2 n9 u0 u1 u2).1 S = some E0 → ZZ D 187 (adrC w) (celC w) A S0 s.heap S H locs cells slots → lv_has ls 4 [(0, vr w.2.2.2.2 1 2 u0), (1, .int u1), (2, .int u2)] → W p l e R s m args below meth c H locs cells slots (MQ below (QE E0 vU (PC D w A) A) args s (gN E0.2 7 0 - gN S0 7 0) (gN E0.2 3 0 - gN S0 3 0) A) (F0 m 2 ls []) := by
    intro n9
    induction n9 with
    | zero =>
      intro u0 u1 u2 S H locs cells slots ls hE hZ hl
      rw [f_X1_countDown_L2] at hE
      cases hE
    | succ n9 ih =>
      intro u0 u1 u2 S H locs cells slots ls hE hZ hl
      rw [f_X1_countDown_L2] at hE
      refine lv_iload_n hx hb dX1_countDown_2 rfl (lv_at hl 2 rfl) ?_
      refine vr_aload_n hx hb dX1_countDown_3 rfl (lv_at hl 0 rfl) ?_
      refine g_LN_6 K0 hK hE hZ q221 dX1_countDown_4 (fun v4 hE => ?_)
      refine lv_icmp_ge (tgt := 40) hx hb dX1_countDown_7 (by decide) (fun hc => ?_) (fun hc => ?_)
      · have hE := if_t hE hc
        exact end_v K0 hr hlocks hE hZ dX1_countDown_40
      · have hE := if_f hE hc
        refine vr_aload_n hx hb dX1_countDown_10 rfl (lv_at hl 0 rfl) ?_
        refine lv_iload_n hx hb dX1_countDown_11 rfl (lv_at hl 2 rfl) ?_
        refine call_V (rest := []) K0 hK hok hEV hA (c_X1_standingAt l D w aS sk sv A u0 u2) q583 q585 q5 q41 q586 yd_X1_standingAt ⟨by omega, by omega⟩ hRc (ci := 3) rfl rfl (rc_LN w _) hE hZ hl.1 rfl (Nat.le_of_ble_eq_true rfl) dX1_countDown_12 (fun v12 S H locs cells slots hE hZ => ?_)
        refine W.eq (g2 := F0 m 15 ls [vr w.2.2.2.2 37 60 v12]) rfl ?_
        refine vr_astore_n (i := 3) (lv' := [(3, vr w.2.2.2.2 37 60 v12), (0, vr w.2.2.2.2 1 2 u0), (1, .int u1), (2, .int u2)]) hx hb dX1_countDown_15 rfl hl (by decide) rfl (fun ls hl => ?_)
        refine vr_aload_n hx hb dX1_countDown_16 rfl (lv_at hl 0 rfl) ?_
        refine vr_ifnull (tgt := 34) hx hb dX1_countDown_17 (by decide) (fun hc => ?_) (fun hc => ?_)
        · have hE := if_t hE hc
          refine vr_aload_n hx hb dX1_countDown_20 rfl (lv_at hl 0 rfl) ?_
          refine vr_aload_n hx hb dX1_countDown_21 rfl (lv_at hl 0 rfl) ?_
          refine gN_CA_5 K0 hK hE hZ (nw25 hEV) dX1_countDown_22 (fun v22 hE => ?_)
          refine lv_iload_n hx hb dX1_countDown_25 rfl (lv_at hl 2 rfl) ?_
          refine lv_isub hx hb dX1_countDown_26 ?_
          refine lv_iconst (v := (0)) hx hb dX1_countDown_27 (by decide +kernel) ?_
          refine va_mmax hx hb (K0.2.2.1.trans hl.1.symm) hown (hg _ q587) (hg _ q588) (hg _ q55) (hg _ q589) (by omega) (by rw [hRl]; simp [vr_cat, vc_i, vc_j, vc_f, vc_d, vc_r, vc_n]) (room_c hE hZ hRc) (room_s hE hZ hRc) dX1_countDown_28 ?_
          refine pN_CA_5 K0 hK hE hZ (nw25 hEV) dX1_countDown_31 (fun S H locs hE hZ => ?_)
          refine lv_iinc (v := (u2 + (1 : Int32))) (lv' := [(2, .int (u2 + (1 : Int32))), (3, vr w.2.2.2.2 37 60 v12), (0, vr w.2.2.2.2 1 2 u0), (1, .int u1)]) hx hb dX1_countDown_34 hl (k := 3) rfl rfl (by decide) rfl (fun ls hl => ?_)
          refine lv_goto (tgt := 2) hx hb dX1_countDown_37 (by decide) ?_
          exact ih u0 u1 (u2 + (1 : Int32)) _ _ _ _ _ _ hE hZ (lv_sub hl [2, 3, 0] rfl)
        · have hE := if_f hE hc
          refine lv_iinc (v := (u2 + (1 : Int32))) (lv' := [(2, .int (u2 + (1 : Int32))), (3, vr w.2.2.2.2 37 60 v12), (0, vr w.2.2.2.2 1 2 u0), (1, .int u1)]) hx hb dX1_countDown_34 hl (k := 3) rfl rfl (by decide) rfl (fun ls hl => ?_)
          refine lv_goto (tgt := 2) hx hb dX1_countDown_37 (by decide) ?_
          exact ih u0 u1 (u2 + (1 : Int32)) _ _ _ _ _ _ hE hZ (lv_sub hl [2, 3, 0] rfl)
  unfold f_X1_countDown at hE
  refine lv_iconst (v := (0)) hx hb dX1_countDown_0 (by decide +kernel) ?_
  refine lv_istore_n (i := 2) (lv' := [(2, .int (0 : Int32)), (0, vr w.2.2.2.2 1 2 a0), (1, .int a1)]) hx hb dX1_countDown_1 rfl hl (by decide) rfl (fun ls hl => ?_)
  exact j2 400 a0 a1 (0 : Int32) _ _ _ _ _ _ hE hZ (lv_sub hl [1, 2, 0] rfl)
def f_X1_isFree (a0 : Nat) (a1 : Int32) : PM Int32 := if a0 < 2 then bnd (f_X1_findStation a0 a1) (fun v2 => if v2 < 16 then (bnd (rdc 16 v2 12) (fun v11 => if v11 = (-1 : Int32) then (rtnZ (1 : Int32)) else (rtnZ (0 : Int32)))) else (rtnZ (0 : Int32))) else fail
theorem yd_X1_isFree : yX1_isFree.cls = RX1 ∧ yX1_isFree.cls ≠ "java/lang/invoke/MethodHandle" ∧ yX1_isFree.cls ≠ "java/lang/invoke/VarHandle" ∧ (parseMethodDescriptor yX1_isFree.desc).map (fun d => d.parameters.length) = some 1 := by decide +kernel
set_option maxHeartbeats 4000000 in
set_option maxRecDepth 100000 in
theorem c_X1_isFree (l : Launch) (D : va_G) (w : Wc) (aS : Nat → Nat) (sk sv : Nat) (A : Nat → Prop) (a0 : Nat) (a1 : Int32) : CT l yX1_isFree cX1_isFree 3 (some .boolean) 1 21 (PC D w A) (ENVC D w aS sk sv A) A [vr w.2.2.2.2 1 2 a0, .int a1] (f_X1_isFree a0 a1) vI := by
  refine CT.ofW (by decide) [(0, vr w.2.2.2.2 1 2 a0), (1, .int a1)] (by simp [lv_args, vr_cat, vc_i, vc_j, vc_f, vc_d, vc_r, vc_n]) (by simp [lg_sl, vr_cat, vc_i, vc_j, vc_f, vc_d, vc_r, vc_n]) ?_
  intro S0 E0 R p e s m args below meth c ls hE hRf hRl hRc K0 hr hlocks hEV hA hZ hl
  have K0 : CallFix p m c cX1_isFree 3 s args GW RX1 := K0
  have hx := K0.1
  have hb := K0.2.1
  have hown := K0.2.2.2.1
  have hg := K0.2.2.2.2
  have hK := hEV.1
  have hok : EVok (ENVC D w aS sk sv A) A := ENVC.ok
  unfold f_X1_isFree at hE
  refine vr_aload_n hx hb dX1_isFree_0 rfl (lv_at hl 0 rfl) ?_
  refine lv_iload_n hx hb dX1_isFree_1 rfl (lv_at hl 1 rfl) ?_
  refine call_V (rest := []) K0 hK hok hEV hA (c_X1_findStation l D w aS sk sv A a0 a1) q402 q294 q295 q41 q296 yd_X1_findStation ⟨by omega, by omega⟩ hRc (ci := 3) rfl rfl (rc_LN w _) hE hZ hl.1 rfl (Nat.le_of_ble_eq_true rfl) dX1_isFree_2 (fun v2 S H locs cells slots hE hZ => ?_)
  refine W.eq (g2 := F0 m 5 ls [vr w.2.2.2.2 21 16 v2]) rfl ?_
  refine vr_astore_n (i := 2) (lv' := [(2, vr w.2.2.2.2 21 16 v2), (0, vr w.2.2.2.2 1 2 a0), (1, .int a1)]) hx hb dX1_isFree_5 rfl hl (by decide) rfl (fun ls hl => ?_)
  refine vr_aload_n hx hb dX1_isFree_6 rfl (lv_at hl 0 rfl) ?_
  refine vr_ifnull (tgt := 22) hx hb dX1_isFree_7 (by decide) (fun hc => ?_) (fun hc => ?_)
  · have hE := if_t hE hc
    refine vr_aload_n hx hb dX1_isFree_10 rfl (lv_at hl 0 rfl) ?_
    refine gN_ST_5 K0 hK hE hZ (nw11 hEV) dX1_isFree_11 (fun v11 hE => ?_)
    refine lv_iconst (v := (-1)) hx hb dX1_isFree_14 (by decide +kernel) ?_
    refine lv_icmp_ne (tgt := 22) hx hb dX1_isFree_15 (by decide) (fun hc => ?_) (fun hc => ?_)
    · have hE := if_f hE hc
      refine lv_iconst (v := (0)) hx hb dX1_isFree_22 (by decide +kernel) ?_
      exact end_z K0 hr hlocks hE hZ dX1_isFree_23
    · have hE := if_t hE hc
      refine lv_iconst (v := (1)) hx hb dX1_isFree_18 (by decide +kernel) ?_
      refine lv_goto (tgt := 23) hx hb dX1_isFree_19 (by decide) ?_
      exact end_z K0 hr hlocks hE hZ dX1_isFree_23
  · have hE := if_f hE hc
    refine lv_iconst (v := (0)) hx hb dX1_isFree_22 (by decide +kernel) ?_
    exact end_z K0 hr hlocks hE hZ dX1_isFree_23
def f_X1_goesAlong (a0 : Nat) (a1 : Nat) : PM Int32 := bnd (rdc 60 a1 18) (fun v1 => if v1 = 0 then (bnd (rdc 60 a1 16) (fun v8 => bnd (rdc 2 a0 0) (fun v14 => if v14 ≤ (v8 + (1 : Int32)) then (rtnZ (0 : Int32)) else (rtnZ (1 : Int32))))) else (rtnZ (0 : Int32)))
theorem yd_X1_goesAlong : yX1_goesAlong.cls = RX1 ∧ yX1_goesAlong.cls ≠ "java/lang/invoke/MethodHandle" ∧ yX1_goesAlong.cls ≠ "java/lang/invoke/VarHandle" ∧ (parseMethodDescriptor yX1_goesAlong.desc).map (fun d => d.parameters.length) = some 1 := by decide +kernel
set_option maxHeartbeats 4000000 in
set_option maxRecDepth 100000 in
theorem c_X1_goesAlong (l : Launch) (D : va_G) (w : Wc) (aS : Nat → Nat) (sk sv : Nat) (A : Nat → Prop) (a0 : Nat) (a1 : Nat) : CT l yX1_goesAlong cX1_goesAlong 2 (some .boolean) 0 0 (PC D w A) (ENVC D w aS sk sv A) A [vr w.2.2.2.2 1 2 a0, vr w.2.2.2.2 37 60 a1] (f_X1_goesAlong a0 a1) vI := by
  refine CT.ofW (by decide) [(0, vr w.2.2.2.2 1 2 a0), (1, vr w.2.2.2.2 37 60 a1)] (by simp [lv_args, vr_cat, vc_i, vc_j, vc_f, vc_d, vc_r, vc_n]) (by simp [lg_sl, vr_cat, vc_i, vc_j, vc_f, vc_d, vc_r, vc_n]) ?_
  intro S0 E0 R p e s m args below meth c ls hE hRf hRl hRc K0 hr hlocks hEV hA hZ hl
  have K0 : CallFix p m c cX1_goesAlong 2 s args GW RX1 := K0
  have hx := K0.1
  have hb := K0.2.1
  have hown := K0.2.2.2.1
  have hg := K0.2.2.2.2
  have hK := hEV.1
  have hok : EVok (ENVC D w aS sk sv A) A := ENVC.ok
  unfold f_X1_goesAlong at hE
  refine vr_aload_n hx hb dX1_goesAlong_0 rfl (lv_at hl 1 rfl) ?_
  refine gN_CA_6 K0 hK hE hZ (nw27 hEV) dX1_goesAlong_1 (fun v1 hE => ?_)
  refine lv_if_ne (tgt := 24) hx hb dX1_goesAlong_4 (by decide) (fun hc => ?_) (fun hc => ?_)
  · have hE := if_f hE hc
    refine lv_iconst (v := (0)) hx hb dX1_goesAlong_24 (by decide +kernel) ?_
    exact end_z K0 hr hlocks hE hZ dX1_goesAlong_25
  · have hE := if_t hE hc
    refine vr_aload_n hx hb dX1_goesAlong_7 rfl (lv_at hl 1 rfl) ?_
    refine gN_CA_4 K0 hK hE hZ (nw23 hEV) dX1_goesAlong_8 (fun v8 hE => ?_)
    refine lv_iconst (v := (1)) hx hb dX1_goesAlong_11 (by decide +kernel) ?_
    refine lv_iadd hx hb dX1_goesAlong_12 ?_
    refine vr_aload_n hx hb dX1_goesAlong_13 rfl (lv_at hl 0 rfl) ?_
    refine g_LN_6 K0 hK hE hZ q221 dX1_goesAlong_14 (fun v14 hE => ?_)
    refine lv_icmp_ge (tgt := 24) hx hb dX1_goesAlong_17 (by decide) (fun hc => ?_) (fun hc => ?_)
    · have hE := if_t hE hc
      refine lv_iconst (v := (0)) hx hb dX1_goesAlong_24 (by decide +kernel) ?_
      exact end_z K0 hr hlocks hE hZ dX1_goesAlong_25
    · have hE := if_f hE hc
      refine lv_iconst (v := (1)) hx hb dX1_goesAlong_20 (by decide +kernel) ?_
      refine lv_goto (tgt := 25) hx hb dX1_goesAlong_21 (by decide) ?_
      exact end_z K0 hr hlocks hE hZ dX1_goesAlong_25
def f_X1_isHeldUp (a0 : Nat) (a1 : Nat) : PM Int32 := if a0 < 2 then bnd (f_X1_goesAlong a0 a1) (fun v2 => if v2 = 0 then (rtnZ (0 : Int32)) else (bnd (rdc 60 a1 16) (fun v10 => if a0 < 2 then bnd (f_X1_isFree a0 (v10 + (1 : Int32))) (fun v15 => if v15 = 0 then (rtnZ (1 : Int32)) else (rtnZ (0 : Int32))) else fail))) else fail
theorem yd_X1_isHeldUp : yX1_isHeldUp.cls = RX1 ∧ yX1_isHeldUp.cls ≠ "java/lang/invoke/MethodHandle" ∧ yX1_isHeldUp.cls ≠ "java/lang/invoke/VarHandle" ∧ (parseMethodDescriptor yX1_isHeldUp.desc).map (fun d => d.parameters.length) = some 1 := by decide +kernel
set_option maxHeartbeats 4000000 in
set_option maxRecDepth 100000 in
theorem c_X1_isHeldUp (l : Launch) (D : va_G) (w : Wc) (aS : Nat → Nat) (sk sv : Nat) (A : Nat → Prop) (a0 : Nat) (a1 : Nat) : CT l yX1_isHeldUp cX1_isHeldUp 2 (some .boolean) 2 43 (PC D w A) (ENVC D w aS sk sv A) A [vr w.2.2.2.2 1 2 a0, vr w.2.2.2.2 37 60 a1] (f_X1_isHeldUp a0 a1) vI := by
  refine CT.ofW (by decide) [(0, vr w.2.2.2.2 1 2 a0), (1, vr w.2.2.2.2 37 60 a1)] (by simp [lv_args, vr_cat, vc_i, vc_j, vc_f, vc_d, vc_r, vc_n]) (by simp [lg_sl, vr_cat, vc_i, vc_j, vc_f, vc_d, vc_r, vc_n]) ?_
  intro S0 E0 R p e s m args below meth c ls hE hRf hRl hRc K0 hr hlocks hEV hA hZ hl
  have K0 : CallFix p m c cX1_isHeldUp 2 s args GW RX1 := K0
  have hx := K0.1
  have hb := K0.2.1
  have hown := K0.2.2.2.1
  have hg := K0.2.2.2.2
  have hK := hEV.1
  have hok : EVok (ENVC D w aS sk sv A) A := ENVC.ok
  unfold f_X1_isHeldUp at hE
  refine vr_aload_n hx hb dX1_isHeldUp_0 rfl (lv_at hl 0 rfl) ?_
  refine vr_aload_n hx hb dX1_isHeldUp_1 rfl (lv_at hl 1 rfl) ?_
  refine call_V (rest := []) K0 hK hok hEV hA (c_X1_goesAlong l D w aS sk sv A a0 a1) q598 q600 q8 q41 q601 yd_X1_goesAlong ⟨by omega, by omega⟩ hRc (ci := 3) rfl rfl (rc_LN w _) hE hZ hl.1 rfl (Nat.le_of_ble_eq_true rfl) dX1_isHeldUp_2 (fun v2 S H locs cells slots hE hZ => ?_)
  refine W.eq (g2 := F0 m 5 ls [.int v2]) rfl ?_
  refine lv_if_eq (tgt := 25) hx hb dX1_isHeldUp_5 (by decide) (fun hc => ?_) (fun hc => ?_)
  · have hE := if_t hE hc
    refine lv_iconst (v := (0)) hx hb dX1_isHeldUp_25 (by decide +kernel) ?_
    exact end_z K0 hr hlocks hE hZ dX1_isHeldUp_26
  · have hE := if_f hE hc
    refine vr_aload_n hx hb dX1_isHeldUp_8 rfl (lv_at hl 0 rfl) ?_
    refine vr_aload_n hx hb dX1_isHeldUp_9 rfl (lv_at hl 1 rfl) ?_
    refine gN_CA_4 K0 hK hE hZ (nw23 hEV) dX1_isHeldUp_10 (fun v10 hE => ?_)
    refine lv_iconst (v := (1)) hx hb dX1_isHeldUp_13 (by decide +kernel) ?_
    refine lv_iadd hx hb dX1_isHeldUp_14 ?_
    refine call_V (rest := []) K0 hK hok hEV hA (c_X1_isFree l D w aS sk sv A a0 (v10 + (1 : Int32))) q602 q604 q9 q41 q605 yd_X1_isFree ⟨by omega, by omega⟩ hRc (ci := 3) rfl rfl (rc_LN w _) hE hZ hl.1 rfl (Nat.le_of_ble_eq_true rfl) dX1_isHeldUp_15 (fun v15 S H locs cells slots hE hZ => ?_)
    refine W.eq (g2 := F0 m 18 ls [.int v15]) rfl ?_
    refine lv_if_ne (tgt := 25) hx hb dX1_isHeldUp_18 (by decide) (fun hc => ?_) (fun hc => ?_)
    · have hE := if_f hE hc
      refine lv_iconst (v := (0)) hx hb dX1_isHeldUp_25 (by decide +kernel) ?_
      exact end_z K0 hr hlocks hE hZ dX1_isHeldUp_26
    · have hE := if_t hE hc
      refine lv_iconst (v := (1)) hx hb dX1_isHeldUp_21 (by decide +kernel) ?_
      refine lv_goto (tgt := 26) hx hb dX1_isHeldUp_22 (by decide) ?_
      exact end_z K0 hr hlocks hE hZ dX1_isHeldUp_26
def f_X1_fillShelves_L2 : Nat → Nat → Int32 → PM Unit
  | 0, _, _ => fail
  | n9 + 1, u0, u1 => bnd (rdc 2 u0 0) (fun v4 => if v4 ≤ u1 then (rtn ()) else (if u0 < 2 then bnd (f_X1_findStation u0 u1) (fun v12 => if v12 < 16 then (bnd (rdc 16 v12 8) (fun v21 => if v21 = (-1 : Int32) then (f_X1_fillShelves_L2 n9 u0 (u1 + (1 : Int32))) else (bnd (rdc 16 v12 10) (fun v29 => bnd (rdc 16 v12 11) (fun v33 => bnd (rdc 16 v12 8) (fun v39 => if u0 < 2 then bnd (f_X1_unitsOf u0 v39) (fun v42 => bnd (rtn (if v42 < (v29 - v33) then v42 else (v29 - v33))) (fun w48 => bnd (rdc 16 v12 11) (fun v51 => bnd (wrc 16 v12 11 (v51 + w48)) (fun _ => bnd (rdc 16 v12 8) (fun v61 => if u0 < 2 then bnd (f_X1_changeUnits u0 v61 (-w48)) (fun _ => f_X1_fillShelves_L2 n9 u0 (u1 + (1 : Int32))) else fail))))) else fail)))))) else (f_X1_fillShelves_L2 n9 u0 (u1 + (1 : Int32)))) else fail))
def f_X1_fillShelves (a0 : Nat) : PM Unit := f_X1_fillShelves_L2 400 a0 (0 : Int32)
theorem yd_X1_fillShelves : yX1_fillShelves.cls = RX1 ∧ yX1_fillShelves.cls ≠ "java/lang/invoke/MethodHandle" ∧ yX1_fillShelves.cls ≠ "java/lang/invoke/VarHandle" ∧ (parseMethodDescriptor yX1_fillShelves.desc).map (fun d => d.parameters.length) = some 0 := by decide +kernel
set_option maxHeartbeats 4000000 in
set_option maxRecDepth 100000 in
theorem c_X1_fillShelves (l : Launch) (D : va_G) (w : Wc) (aS : Nat → Nat) (sk sv : Nat) (A : Nat → Prop) (a0 : Nat) : CT l yX1_fillShelves cX1_fillShelves 4 none 1 30 (PC D w A) (ENVC D w aS sk sv A) A [vr w.2.2.2.2 1 2 a0] (f_X1_fillShelves a0) vU := by
  refine CT.ofW (by decide) [(0, vr w.2.2.2.2 1 2 a0)] (by simp [lv_args, vr_cat, vc_i, vc_j, vc_f, vc_d, vc_r, vc_n]) (by simp [lg_sl, vr_cat, vc_i, vc_j, vc_f, vc_d, vc_r, vc_n]) ?_
  intro S0 E0 R p e s m args below meth c ls hE hRf hRl hRc K0 hr hlocks hEV hA hZ hl
  have K0 : CallFix p m c cX1_fillShelves 4 s args GW RX1 := K0
  have hx := K0.1
  have hb := K0.2.1
  have hown := K0.2.2.2.1
  have hg := K0.2.2.2.2
  have hK := hEV.1
  have hok : EVok (ENVC D w aS sk sv A) A := ENVC.ok
  have j2 : ∀ (n9 : Nat) (u0 : Nat) (u1 : Int32) (S : St) (H : Heap) (locs : List Loc) (cells slots : Nat) (ls : Array Slot), (f_X1_fillShelves_L2 n9 u0 u1).1 S = some E0 → ZZ D 187 (adrC w) (celC w) A S0 s.heap S H locs cells slots → lv_has ls 4 [(0, vr w.2.2.2.2 1 2 u0), (1, .int u1)] → W p l e R s m args below meth c H locs cells slots (MQ below (QE E0 vU (PC D w A) A) args s (gN E0.2 7 0 - gN S0 7 0) (gN E0.2 3 0 - gN S0 3 0) A) (F0 m 2 ls []) := by
    intro n9
    induction n9 with
    | zero =>
      intro u0 u1 S H locs cells slots ls hE hZ hl
      rw [f_X1_fillShelves_L2] at hE
      cases hE
    | succ n9 ih =>
      intro u0 u1 S H locs cells slots ls hE hZ hl
      rw [f_X1_fillShelves_L2] at hE
      refine lv_iload_n hx hb dX1_fillShelves_2 rfl (lv_at hl 1 rfl) ?_
      refine vr_aload_n hx hb dX1_fillShelves_3 rfl (lv_at hl 0 rfl) ?_
      refine g_LN_6 K0 hK hE hZ q221 dX1_fillShelves_4 (fun v4 hE => ?_)
      refine lv_icmp_ge (tgt := 75) hx hb dX1_fillShelves_7 (by decide) (fun hc => ?_) (fun hc => ?_)
      · have hE := if_t hE hc
        exact end_v K0 hr hlocks hE hZ dX1_fillShelves_75
      · have hE := if_f hE hc
        refine vr_aload_n hx hb dX1_fillShelves_10 rfl (lv_at hl 0 rfl) ?_
        refine lv_iload_n hx hb dX1_fillShelves_11 rfl (lv_at hl 1 rfl) ?_
        refine call_V (rest := []) K0 hK hok hEV hA (c_X1_findStation l D w aS sk sv A u0 u1) q402 q294 q295 q41 q296 yd_X1_findStation ⟨by omega, by omega⟩ hRc (ci := 3) rfl rfl (rc_LN w _) hE hZ hl.1 rfl (Nat.le_of_ble_eq_true rfl) dX1_fillShelves_12 (fun v12 S H locs cells slots hE hZ => ?_)
        refine W.eq (g2 := F0 m 15 ls [vr w.2.2.2.2 21 16 v12]) rfl ?_
        refine vr_astore_n (i := 2) (lv' := [(2, vr w.2.2.2.2 21 16 v12), (0, vr w.2.2.2.2 1 2 u0), (1, .int u1)]) hx hb dX1_fillShelves_15 rfl hl (by decide) rfl (fun ls hl => ?_)
        refine vr_aload_n hx hb dX1_fillShelves_16 rfl (lv_at hl 0 rfl) ?_
        refine vr_ifnull (tgt := 69) hx hb dX1_fillShelves_17 (by decide) (fun hc => ?_) (fun hc => ?_)
        · have hE := if_t hE hc
          refine vr_aload_n hx hb dX1_fillShelves_20 rfl (lv_at hl 0 rfl) ?_
          refine gN_ST_1 K0 hK hE hZ (nw5 hEV) dX1_fillShelves_21 (fun v21 hE => ?_)
          refine lv_iconst (v := (-1)) hx hb dX1_fillShelves_24 (by decide +kernel) ?_
          refine lv_icmp_eq (tgt := 69) hx hb dX1_fillShelves_25 (by decide) (fun hc => ?_) (fun hc => ?_)
          · have hE := if_t hE hc
            refine lv_iinc (v := (u1 + (1 : Int32))) (lv' := [(1, .int (u1 + (1 : Int32))), (2, vr w.2.2.2.2 21 16 v12), (0, vr w.2.2.2.2 1 2 u0)]) hx hb dX1_fillShelves_69 hl (k := 2) rfl rfl (by decide) (by simp [vr_cat, vc_i, vc_j, vc_f, vc_d, vc_r, vc_n]) (fun ls hl => ?_)
            refine lv_goto (tgt := 2) hx hb dX1_fillShelves_72 (by decide) ?_
            exact ih u0 (u1 + (1 : Int32)) _ _ _ _ _ _ hE hZ (lv_sub hl [2, 0] rfl)
          · have hE := if_f hE hc
            refine vr_aload_n hx hb dX1_fillShelves_28 rfl (lv_at hl 0 rfl) ?_
            refine gN_ST_3 K0 hK hE hZ (nw7 hEV) dX1_fillShelves_29 (fun v29 hE => ?_)
            refine vr_aload_n hx hb dX1_fillShelves_32 rfl (lv_at hl 0 rfl) ?_
            refine gN_ST_4 K0 hK hE hZ (nw8 hEV) dX1_fillShelves_33 (fun v33 hE => ?_)
            refine lv_isub hx hb dX1_fillShelves_36 ?_
            refine vr_aload_n hx hb dX1_fillShelves_37 rfl (lv_at hl 1 rfl) ?_
            refine vr_aload_n hx hb dX1_fillShelves_38 rfl (lv_at hl 0 rfl) ?_
            refine gN_ST_1 K0 hK hE hZ (nw5 hEV) dX1_fillShelves_39 (fun v39 hE => ?_)
            refine call_V (rest := [.int (v29 - v33)]) K0 hK hok hEV hA (c_X1_unitsOf l D w aS sk sv A u0 v39) q574 q436 q437 q41 q438 yd_X1_unitsOf ⟨by omega, by omega⟩ hRc (ci := 3) rfl rfl (rc_LN w _) hE hZ hl.1 rfl (Nat.le_of_ble_eq_true rfl) dX1_fillShelves_42 (fun v42 S H locs cells slots hE hZ => ?_)
            refine W.eq (g2 := F0 m 45 ls [.int v42, .int (v29 - v33)]) rfl ?_
            refine va_mmin hx hb (K0.2.2.1.trans hl.1.symm) hown (hg _ q575) (hg _ q576) (hg _ q55) (hg _ q577) (by omega) (by rw [hRl]; simp [vr_cat, vc_i, vc_j, vc_f, vc_d, vc_r, vc_n]) (room_c hE hZ hRc) (room_s hE hZ hRc) dX1_fillShelves_45 ?_
            refine let_i hE (fun w48 hE => ?_)
            refine lv_istore_n (i := 3) (lv' := [(3, .int w48), (2, vr w.2.2.2.2 21 16 v12), (0, vr w.2.2.2.2 1 2 u0), (1, .int u1)]) hx hb dX1_fillShelves_48 rfl hl (by decide) (by simp [vr_cat, vc_i, vc_j, vc_f, vc_d, vc_r, vc_n]) (fun ls hl => ?_)
            refine vr_aload_n hx hb dX1_fillShelves_49 rfl (lv_at hl 1 rfl) ?_
            refine lv_dup hx hb dX1_fillShelves_50 vr_cat ?_
            refine gN_ST_4 K0 hK hE hZ (nw8 hEV) dX1_fillShelves_51 (fun v51 hE => ?_)
            refine lv_iload_n hx hb dX1_fillShelves_54 rfl (lv_at hl 0 rfl) ?_
            refine lv_iadd hx hb dX1_fillShelves_55 ?_
            refine pN_ST_4 K0 hK hE hZ (nw8 hEV) dX1_fillShelves_56 (fun S H locs hE hZ => ?_)
            refine vr_aload_n hx hb dX1_fillShelves_59 rfl (lv_at hl 2 rfl) ?_
            refine vr_aload_n hx hb dX1_fillShelves_60 rfl (lv_at hl 1 rfl) ?_
            refine gN_ST_1 K0 hK hE hZ (nw5 hEV) dX1_fillShelves_61 (fun v61 hE => ?_)
            refine lv_iload_n hx hb dX1_fillShelves_64 rfl (lv_at hl 0 rfl) ?_
            refine lv_ineg hx hb dX1_fillShelves_65 ?_
            refine call_V (rest := []) K0 hK hok hEV hA (c_X1_changeUnits l D w aS sk sv A u0 v61 (-w48)) q578 q441 q442 q41 q443 yd_X1_changeUnits ⟨by omega, by omega⟩ hRc (ci := 3) rfl rfl (rc_LN w _) hE hZ hl.1 rfl (Nat.le_of_ble_eq_true rfl) dX1_fillShelves_66 (fun v66 S H locs cells slots hE hZ => ?_)
            refine W.eq (g2 := F0 m 69 ls []) rfl ?_
            refine lv_iinc (v := (u1 + (1 : Int32))) (lv' := [(1, .int (u1 + (1 : Int32))), (3, .int w48), (2, vr w.2.2.2.2 21 16 v12), (0, vr w.2.2.2.2 1 2 u0)]) hx hb dX1_fillShelves_69 hl (k := 3) rfl rfl (by decide) (by simp [vr_cat, vc_i, vc_j, vc_f, vc_d, vc_r, vc_n]) (fun ls hl => ?_)
            refine lv_goto (tgt := 2) hx hb dX1_fillShelves_72 (by decide) ?_
            exact ih u0 (u1 + (1 : Int32)) _ _ _ _ _ _ hE hZ (lv_sub hl [3, 0] rfl)
        · have hE := if_f hE hc
          refine lv_iinc (v := (u1 + (1 : Int32))) (lv' := [(1, .int (u1 + (1 : Int32))), (2, vr w.2.2.2.2 21 16 v12), (0, vr w.2.2.2.2 1 2 u0)]) hx hb dX1_fillShelves_69 hl (k := 2) rfl rfl (by decide) (by simp [vr_cat, vc_i, vc_j, vc_f, vc_d, vc_r, vc_n]) (fun ls hl => ?_)
          refine lv_goto (tgt := 2) hx hb dX1_fillShelves_72 (by decide) ?_
          exact ih u0 (u1 + (1 : Int32)) _ _ _ _ _ _ hE hZ (lv_sub hl [2, 0] rfl)
  unfold f_X1_fillShelves at hE
  refine lv_iconst (v := (0)) hx hb dX1_fillShelves_0 (by decide +kernel) ?_
  refine lv_istore_n (i := 1) (lv' := [(1, .int (0 : Int32)), (0, vr w.2.2.2.2 1 2 a0)]) hx hb dX1_fillShelves_1 rfl hl (by decide) (by simp [vr_cat, vc_i, vc_j, vc_f, vc_d, vc_r, vc_n]) (fun ls hl => ?_)
  exact j2 400 a0 (0 : Int32) _ _ _ _ _ _ hE hZ (lv_sub hl [1, 0] rfl)
def f_X1_canEnterFromLoop_L2 : Nat → Nat → Int32 → PM Int32
  | 0, _, _ => fail
  | n9 + 1, u0, u1 => bnd (rfc 2 u0 (3 * u0 + 1)) (fun v4 => bnd (rdc 6 v4 5) (fun v7 => if v7 ≤ u1 then (rtnZ (0 : Int32)) else (bnd (rfc 2 u0 (3 * u0 + 1)) (fun v15 => if v15 < 6 then bnd (f_X2_at v15 u1) (fun v19 => if u0 < 2 then bnd (f_X1_findCar u0 v19) (fun v22 => if v22 < 60 then (if v22 < 60 then bnd (f_X0_lowestFault v22) (fun v32 => if u0 < 2 then bnd (f_X1_isFree u0 v32) (fun v35 => if v35 = 0 then (f_X1_canEnterFromLoop_L2 n9 u0 (u1 + (1 : Int32))) else (rtnZ (1 : Int32))) else fail) else fail) else (f_X1_canEnterFromLoop_L2 n9 u0 (u1 + (1 : Int32)))) else fail) else fail))))
def f_X1_canEnterFromLoop (a0 : Nat) : PM Int32 := f_X1_canEnterFromLoop_L2 400 a0 (0 : Int32)
theorem yd_X1_canEnterFromLoop : yX1_canEnterFromLoop.cls = RX1 ∧ yX1_canEnterFromLoop.cls ≠ "java/lang/invoke/MethodHandle" ∧ yX1_canEnterFromLoop.cls ≠ "java/lang/invoke/VarHandle" ∧ (parseMethodDescriptor yX1_canEnterFromLoop.desc).map (fun d => d.parameters.length) = some 0 := by decide +kernel
set_option maxHeartbeats 4000000 in
set_option maxRecDepth 100000 in
theorem c_X1_canEnterFromLoop (l : Launch) (D : va_G) (w : Wc) (aS : Nat → Nat) (sk sv : Nat) (A : Nat → Prop) (a0 : Nat) : CT l yX1_canEnterFromLoop cX1_canEnterFromLoop 3 (some .boolean) 2 43 (PC D w A) (ENVC D w aS sk sv A) A [vr w.2.2.2.2 1 2 a0] (f_X1_canEnterFromLoop a0) vI := by
  refine CT.ofW (by decide) [(0, vr w.2.2.2.2 1 2 a0)] (by simp [lv_args, vr_cat, vc_i, vc_j, vc_f, vc_d, vc_r, vc_n]) (by simp [lg_sl, vr_cat, vc_i, vc_j, vc_f, vc_d, vc_r, vc_n]) ?_
  intro S0 E0 R p e s m args below meth c ls hE hRf hRl hRc K0 hr hlocks hEV hA hZ hl
  have K0 : CallFix p m c cX1_canEnterFromLoop 3 s args GW RX1 := K0
  have hx := K0.1
  have hb := K0.2.1
  have hown := K0.2.2.2.1
  have hg := K0.2.2.2.2
  have hK := hEV.1
  have hok : EVok (ENVC D w aS sk sv A) A := ENVC.ok
  have j2 : ∀ (n9 : Nat) (u0 : Nat) (u1 : Int32) (S : St) (H : Heap) (locs : List Loc) (cells slots : Nat) (ls : Array Slot), (f_X1_canEnterFromLoop_L2 n9 u0 u1).1 S = some E0 → ZZ D 187 (adrC w) (celC w) A S0 s.heap S H locs cells slots → lv_has ls 3 [(0, vr w.2.2.2.2 1 2 u0), (1, .int u1)] → W p l e R s m args below meth c H locs cells slots (MQ below (QE E0 vI (PC D w A) A) args s (gN E0.2 7 0 - gN S0 7 0) (gN E0.2 3 0 - gN S0 3 0) A) (F0 m 2 ls []) := by
    intro n9
    induction n9 with
    | zero =>
      intro u0 u1 S H locs cells slots ls hE hZ hl
      rw [f_X1_canEnterFromLoop_L2] at hE
      cases hE
    | succ n9 ih =>
      intro u0 u1 S H locs cells slots ls hE hZ hl
      rw [f_X1_canEnterFromLoop_L2] at hE
      refine lv_iload_n hx hb dX1_canEnterFromLoop_2 rfl (lv_at hl 1 rfl) ?_
      refine vr_aload_n hx hb dX1_canEnterFromLoop_3 rfl (lv_at hl 0 rfl) ?_
      refine g_LN_4 K0 hK hE hZ q217 dX1_canEnterFromLoop_4 (fun v4 hE => ?_)
      refine gN_RO_1 K0 hK hE hZ (nw2 hEV) dX1_canEnterFromLoop_7 (fun v7 hE => ?_)
      refine lv_icmp_ge (tgt := 49) hx hb dX1_canEnterFromLoop_10 (by decide) (fun hc => ?_) (fun hc => ?_)
      · have hE := if_t hE hc
        refine lv_iconst (v := (0)) hx hb dX1_canEnterFromLoop_49 (by decide +kernel) ?_
        exact end_z K0 hr hlocks hE hZ dX1_canEnterFromLoop_50
      · have hE := if_f hE hc
        refine vr_aload_n hx hb dX1_canEnterFromLoop_13 rfl (lv_at hl 0 rfl) ?_
        refine vr_aload_n hx hb dX1_canEnterFromLoop_14 rfl (lv_at hl 0 rfl) ?_
        refine g_LN_4 K0 hK hE hZ q217 dX1_canEnterFromLoop_15 (fun v15 hE => ?_)
        refine lv_iload_n hx hb dX1_canEnterFromLoop_18 rfl (lv_at hl 1 rfl) ?_
        refine call_V (rest := [vr w.2.2.2.2 1 2 u0]) K0 hK hok hEV hA (c_X2_at l D w aS sk sv A v15 u1) q739 q493 q494 q42 q495 yd_X2_at ⟨by omega, by omega⟩ hRc (ci := 4) rfl rfl (rc_RO w _) hE hZ hl.1 rfl (by simp [vr_cat, vc_i, vc_j, vc_f, vc_d, vc_r, vc_n]) dX1_canEnterFromLoop_19 (fun v19 S H locs cells slots hE hZ => ?_)
        refine W.eq (g2 := F0 m 22 ls [.int v19, vr w.2.2.2.2 1 2 u0]) rfl ?_
        refine call_V (rest := []) K0 hK hok hEV hA (c_X1_findCar l D w aS sk sv A u0 v19) q465 q466 q467 q41 q468 yd_X1_findCar ⟨by omega, by omega⟩ hRc (ci := 3) rfl rfl (rc_LN w _) hE hZ hl.1 rfl (Nat.le_of_ble_eq_true rfl) dX1_canEnterFromLoop_22 (fun v22 S H locs cells slots hE hZ => ?_)
        refine W.eq (g2 := F0 m 25 ls [vr w.2.2.2.2 37 60 v22]) rfl ?_
        refine vr_astore_n (i := 2) (lv' := [(2, vr w.2.2.2.2 37 60 v22), (0, vr w.2.2.2.2 1 2 u0), (1, .int u1)]) hx hb dX1_canEnterFromLoop_25 rfl hl (by decide) rfl (fun ls hl => ?_)
        refine vr_aload_n hx hb dX1_canEnterFromLoop_26 rfl (lv_at hl 0 rfl) ?_
        refine vr_ifnull (tgt := 43) hx hb dX1_canEnterFromLoop_27 (by decide) (fun hc => ?_) (fun hc => ?_)
        · have hE := if_t hE hc
          refine vr_aload_n hx hb dX1_canEnterFromLoop_30 rfl (lv_at hl 1 rfl) ?_
          refine vr_aload_n hx hb dX1_canEnterFromLoop_31 rfl (lv_at hl 0 rfl) ?_
          refine call_V (rest := [vr w.2.2.2.2 1 2 u0]) K0 hK hok hEV hA (c_X0_lowestFault l D w aS sk sv A v22) q740 q741 q742 q44 q743 yd_X0_lowestFault ⟨by omega, by omega⟩ hRc (ci := 2) rfl rfl (rc_CA w _) hE hZ hl.1 rfl (by simp [vr_cat, vc_i, vc_j, vc_f, vc_d, vc_r, vc_n]) dX1_canEnterFromLoop_32 (fun v32 S H locs cells slots hE hZ => ?_)
          refine W.eq (g2 := F0 m 35 ls [.int v32, vr w.2.2.2.2 1 2 u0]) rfl ?_
          refine call_V (rest := []) K0 hK hok hEV hA (c_X1_isFree l D w aS sk sv A u0 v32) q602 q604 q9 q41 q605 yd_X1_isFree ⟨by omega, by omega⟩ hRc (ci := 3) rfl rfl (rc_LN w _) hE hZ hl.1 rfl (Nat.le_of_ble_eq_true rfl) dX1_canEnterFromLoop_35 (fun v35 S H locs cells slots hE hZ => ?_)
          refine W.eq (g2 := F0 m 38 ls [.int v35]) rfl ?_
          refine lv_if_eq (tgt := 43) hx hb dX1_canEnterFromLoop_38 (by decide) (fun hc => ?_) (fun hc => ?_)
          · have hE := if_t hE hc
            refine lv_iinc (v := (u1 + (1 : Int32))) (lv' := [(1, .int (u1 + (1 : Int32))), (2, vr w.2.2.2.2 37 60 v22), (0, vr w.2.2.2.2 1 2 u0)]) hx hb dX1_canEnterFromLoop_43 hl (k := 2) rfl rfl (by decide) (by simp [vr_cat, vc_i, vc_j, vc_f, vc_d, vc_r, vc_n]) (fun ls hl => ?_)
            refine lv_goto (tgt := 2) hx hb dX1_canEnterFromLoop_46 (by decide) ?_
            exact ih u0 (u1 + (1 : Int32)) _ _ _ _ _ _ hE hZ (lv_sub hl [2, 0] rfl)
          · have hE := if_f hE hc
            refine lv_iconst (v := (1)) hx hb dX1_canEnterFromLoop_41 (by decide +kernel) ?_
            exact end_z K0 hr hlocks hE hZ dX1_canEnterFromLoop_42
        · have hE := if_f hE hc
          refine lv_iinc (v := (u1 + (1 : Int32))) (lv' := [(1, .int (u1 + (1 : Int32))), (2, vr w.2.2.2.2 37 60 v22), (0, vr w.2.2.2.2 1 2 u0)]) hx hb dX1_canEnterFromLoop_43 hl (k := 2) rfl rfl (by decide) (by simp [vr_cat, vc_i, vc_j, vc_f, vc_d, vc_r, vc_n]) (fun ls hl => ?_)
          refine lv_goto (tgt := 2) hx hb dX1_canEnterFromLoop_46 (by decide) ?_
          exact ih u0 (u1 + (1 : Int32)) _ _ _ _ _ _ hE hZ (lv_sub hl [2, 0] rfl)
  unfold f_X1_canEnterFromLoop at hE
  refine lv_iconst (v := (0)) hx hb dX1_canEnterFromLoop_0 (by decide +kernel) ?_
  refine lv_istore_n (i := 1) (lv' := [(1, .int (0 : Int32)), (0, vr w.2.2.2.2 1 2 a0)]) hx hb dX1_canEnterFromLoop_1 rfl hl (by decide) (by simp [vr_cat, vc_i, vc_j, vc_f, vc_d, vc_r, vc_n]) (fun ls hl => ?_)
  exact j2 400 a0 (0 : Int32) _ _ _ _ _ _ hE hZ (lv_sub hl [1, 0] rfl)
def f_X1_canEnterFromWaiting (a0 : Nat) : PM Int32 := bnd (rfc 2 a0 (3 * a0)) (fun v1 => bnd (rdc 6 v1 5) (fun v4 => if v4 ≤ 0 then (rtnZ (0 : Int32)) else (if a0 < 2 then bnd (f_X1_isFree a0 (0 : Int32)) (fun v12 => if v12 = 0 then (rtnZ (0 : Int32)) else (rtnZ (1 : Int32))) else fail)))
theorem yd_X1_canEnterFromWaiting : yX1_canEnterFromWaiting.cls = RX1 ∧ yX1_canEnterFromWaiting.cls ≠ "java/lang/invoke/MethodHandle" ∧ yX1_canEnterFromWaiting.cls ≠ "java/lang/invoke/VarHandle" ∧ (parseMethodDescriptor yX1_canEnterFromWaiting.desc).map (fun d => d.parameters.length) = some 0 := by decide +kernel
set_option maxHeartbeats 4000000 in
set_option maxRecDepth 100000 in
theorem c_X1_canEnterFromWaiting (l : Launch) (D : va_G) (w : Wc) (aS : Nat → Nat) (sk sv : Nat) (A : Nat → Prop) (a0 : Nat) : CT l yX1_canEnterFromWaiting cX1_canEnterFromWaiting 1 (some .boolean) 2 43 (PC D w A) (ENVC D w aS sk sv A) A [vr w.2.2.2.2 1 2 a0] (f_X1_canEnterFromWaiting a0) vI := by
  refine CT.ofW (by decide) [(0, vr w.2.2.2.2 1 2 a0)] (by simp [lv_args, vr_cat, vc_i, vc_j, vc_f, vc_d, vc_r, vc_n]) (by simp [lg_sl, vr_cat, vc_i, vc_j, vc_f, vc_d, vc_r, vc_n]) ?_
  intro S0 E0 R p e s m args below meth c ls hE hRf hRl hRc K0 hr hlocks hEV hA hZ hl
  have K0 : CallFix p m c cX1_canEnterFromWaiting 1 s args GW RX1 := K0
  have hx := K0.1
  have hb := K0.2.1
  have hown := K0.2.2.2.1
  have hg := K0.2.2.2.2
  have hK := hEV.1
  have hok : EVok (ENVC D w aS sk sv A) A := ENVC.ok
  unfold f_X1_canEnterFromWaiting at hE
  refine vr_aload_n hx hb dX1_canEnterFromWaiting_0 rfl (lv_at hl 0 rfl) ?_
  refine g_LN_3 K0 hK hE hZ q215 dX1_canEnterFromWaiting_1 (fun v1 hE => ?_)
  refine gN_RO_1 K0 hK hE hZ (nw2 hEV) dX1_canEnterFromWaiting_4 (fun v4 hE => ?_)
  refine lv_if_le (tgt := 22) hx hb dX1_canEnterFromWaiting_7 (by decide) (fun hc => ?_) (fun hc => ?_)
  · have hE := if_t hE hc
    refine lv_iconst (v := (0)) hx hb dX1_canEnterFromWaiting_22 (by decide +kernel) ?_
    exact end_z K0 hr hlocks hE hZ dX1_canEnterFromWaiting_23
  · have hE := if_f hE hc
    refine vr_aload_n hx hb dX1_canEnterFromWaiting_10 rfl (lv_at hl 0 rfl) ?_
    refine lv_iconst (v := (0)) hx hb dX1_canEnterFromWaiting_11 (by decide +kernel) ?_
    refine call_V (rest := []) K0 hK hok hEV hA (c_X1_isFree l D w aS sk sv A a0 (0 : Int32)) q602 q604 q9 q41 q605 yd_X1_isFree ⟨by omega, by omega⟩ hRc (ci := 3) rfl rfl (rc_LN w _) hE hZ hl.1 rfl (Nat.le_of_ble_eq_true rfl) dX1_canEnterFromWaiting_12 (fun v12 S H locs cells slots hE hZ => ?_)
    refine W.eq (g2 := F0 m 15 ls [.int v12]) rfl ?_
    refine lv_if_eq (tgt := 22) hx hb dX1_canEnterFromWaiting_15 (by decide) (fun hc => ?_) (fun hc => ?_)
    · have hE := if_t hE hc
      refine lv_iconst (v := (0)) hx hb dX1_canEnterFromWaiting_22 (by decide +kernel) ?_
      exact end_z K0 hr hlocks hE hZ dX1_canEnterFromWaiting_23
    · have hE := if_f hE hc
      refine lv_iconst (v := (1)) hx hb dX1_canEnterFromWaiting_18 (by decide +kernel) ?_
      refine lv_goto (tgt := 23) hx hb dX1_canEnterFromWaiting_19 (by decide) ?_
      exact end_z K0 hr hlocks hE hZ dX1_canEnterFromWaiting_23
def f_X1_quietTicksAt (a0 : Nat) (a1 : Int32) : PM Int32 := if a0 < 2 then bnd (f_X1_standingAt a0 a1) (fun v2 => if v2 < 60 then (bnd (rdc 60 v2 17) (fun v15 => if v15 ≤ 0 then (if a0 < 2 then bnd (f_X1_isHeldUp a0 v2) (fun v30 => if v30 = 0 then (rtn (0 : Int32)) else (rtn (300 : Int32))) else fail) else (bnd (rdc 60 v2 17) (fun v22 => rtn (v22 - (1 : Int32)))))) else (rtn (300 : Int32))) else fail
theorem yd_X1_quietTicksAt : yX1_quietTicksAt.cls = RX1 ∧ yX1_quietTicksAt.cls ≠ "java/lang/invoke/MethodHandle" ∧ yX1_quietTicksAt.cls ≠ "java/lang/invoke/VarHandle" ∧ (parseMethodDescriptor yX1_quietTicksAt.desc).map (fun d => d.parameters.length) = some 1 := by decide +kernel
set_option maxHeartbeats 4000000 in
set_option maxRecDepth 100000 in
theorem c_X1_quietTicksAt (l : Launch) (D : va_G) (w : Wc) (aS : Nat → Nat) (sk sv : Nat) (A : Nat → Prop) (a0 : Nat) (a1 : Int32) : CT l yX1_quietTicksAt cX1_quietTicksAt 3 (some .int) 3 64 (PC D w A) (ENVC D w aS sk sv A) A [vr w.2.2.2.2 1 2 a0, .int a1] (f_X1_quietTicksAt a0 a1) vI := by
  refine CT.ofW (by decide) [(0, vr w.2.2.2.2 1 2 a0), (1, .int a1)] (by simp [lv_args, vr_cat, vc_i, vc_j, vc_f, vc_d, vc_r, vc_n]) (by simp [lg_sl, vr_cat, vc_i, vc_j, vc_f, vc_d, vc_r, vc_n]) ?_
  intro S0 E0 R p e s m args below meth c ls hE hRf hRl hRc K0 hr hlocks hEV hA hZ hl
  have K0 : CallFix p m c cX1_quietTicksAt 3 s args GW RX1 := K0
  have hx := K0.1
  have hb := K0.2.1
  have hown := K0.2.2.2.1
  have hg := K0.2.2.2.2
  have hK := hEV.1
  have hok : EVok (ENVC D w aS sk sv A) A := ENVC.ok
  unfold f_X1_quietTicksAt at hE
  refine vr_aload_n hx hb dX1_quietTicksAt_0 rfl (lv_at hl 0 rfl) ?_
  refine lv_iload_n hx hb dX1_quietTicksAt_1 rfl (lv_at hl 1 rfl) ?_
  refine call_V (rest := []) K0 hK hok hEV hA (c_X1_standingAt l D w aS sk sv A a0 a1) q583 q585 q5 q41 q586 yd_X1_standingAt ⟨by omega, by omega⟩ hRc (ci := 3) rfl rfl (rc_LN w _) hE hZ hl.1 rfl (Nat.le_of_ble_eq_true rfl) dX1_quietTicksAt_2 (fun v2 S H locs cells slots hE hZ => ?_)
  refine W.eq (g2 := F0 m 5 ls [vr w.2.2.2.2 37 60 v2]) rfl ?_
  refine vr_astore_n (i := 2) (lv' := [(2, vr w.2.2.2.2 37 60 v2), (0, vr w.2.2.2.2 1 2 a0), (1, .int a1)]) hx hb dX1_quietTicksAt_5 rfl hl (by decide) rfl (fun ls hl => ?_)
  refine vr_aload_n hx hb dX1_quietTicksAt_6 rfl (lv_at hl 0 rfl) ?_
  refine vr_ifnonnull (tgt := 14) hx hb dX1_quietTicksAt_7 (by decide) (fun hc => ?_) (fun hc => ?_)
  · have hE := if_t hE hc
    refine vr_aload_n hx hb dX1_quietTicksAt_14 rfl (lv_at hl 0 rfl) ?_
    refine gN_CA_5 K0 hK hE hZ (nw25 hEV) dX1_quietTicksAt_15 (fun v15 hE => ?_)
    refine lv_if_le (tgt := 28) hx hb dX1_quietTicksAt_18 (by decide) (fun hc => ?_) (fun hc => ?_)
    · have hE := if_t hE hc
      refine vr_aload_n hx hb dX1_quietTicksAt_28 rfl (lv_at hl 1 rfl) ?_
      refine vr_aload_n hx hb dX1_quietTicksAt_29 rfl (lv_at hl 0 rfl) ?_
      refine call_V (rest := []) K0 hK hok hEV hA (c_X1_isHeldUp l D w aS sk sv A a0 v2) q594 q596 q7 q41 q597 yd_X1_isHeldUp ⟨by omega, by omega⟩ hRc (ci := 3) rfl rfl (rc_LN w _) hE hZ hl.1 rfl (Nat.le_of_ble_eq_true rfl) dX1_quietTicksAt_30 (fun v30 S H locs cells slots hE hZ => ?_)
      refine W.eq (g2 := F0 m 33 ls [.int v30]) rfl ?_
      refine lv_if_eq (tgt := 42) hx hb dX1_quietTicksAt_33 (by decide) (fun hc => ?_) (fun hc => ?_)
      · have hE := if_t hE hc
        refine lv_iconst (v := (0)) hx hb dX1_quietTicksAt_42 (by decide +kernel) ?_
        exact end_i K0 hr hlocks hE hZ dX1_quietTicksAt_43
      · have hE := if_f hE hc
        refine lv_sipush (v := (300)) hx hb dX1_quietTicksAt_36 (by decide +kernel) ?_
        refine lv_goto (tgt := 43) hx hb dX1_quietTicksAt_39 (by decide) ?_
        exact end_i K0 hr hlocks hE hZ dX1_quietTicksAt_43
    · have hE := if_f hE hc
      refine vr_aload_n hx hb dX1_quietTicksAt_21 rfl (lv_at hl 0 rfl) ?_
      refine gN_CA_5 K0 hK hE hZ (nw25 hEV) dX1_quietTicksAt_22 (fun v22 hE => ?_)
      refine lv_iconst (v := (1)) hx hb dX1_quietTicksAt_25 (by decide +kernel) ?_
      refine lv_isub hx hb dX1_quietTicksAt_26 ?_
      exact end_i K0 hr hlocks hE hZ dX1_quietTicksAt_27
  · have hE := if_f hE hc
    refine lv_sipush (v := (300)) hx hb dX1_quietTicksAt_10 (by decide +kernel) ?_
    exact end_i K0 hr hlocks hE hZ dX1_quietTicksAt_13
def f_X1_quietTicks_L25 : Nat → Nat → Int32 → Int32 → PM Int32
  | 0, _, _, _ => fail
  | n9 + 1, u0, u1, u2 => bnd (rdc 2 u0 0) (fun v27 => if v27 ≤ u2 then (rtn (if u1 < (0 : Int32) then (0 : Int32) else u1)) else (if u0 < 2 then bnd (f_X1_quietTicksAt u0 u2) (fun v36 => bnd (rtn (if v36 < u1 then v36 else u1)) (fun w42 => f_X1_quietTicks_L25 n9 u0 w42 (u2 + (1 : Int32)))) else fail))
def f_X1_quietTicks (a0 : Nat) : PM Int32 := if a0 < 2 then bnd (f_X1_canEnterFromWaiting a0) (fun v1 => if v1 = 0 then (if a0 < 2 then bnd (f_X1_canEnterFromLoop a0) (fun v8 => if v8 = 0 then (if a0 < 2 then bnd (f_X1_ticksToRound a0) (fun v17 => bnd (rtn (v17 - (1 : Int32))) (fun w22 => f_X1_quietTicks_L25 400 a0 w22 (0 : Int32))) else fail) else (rtn (0 : Int32))) else fail) else (rtn (0 : Int32))) else fail
theorem yd_X1_quietTicks : yX1_quietTicks.cls = RX1 ∧ yX1_quietTicks.cls ≠ "java/lang/invoke/MethodHandle" ∧ yX1_quietTicks.cls ≠ "java/lang/invoke/VarHandle" ∧ (parseMethodDescriptor yX1_quietTicks.desc).map (fun d => d.parameters.length) = some 0 := by decide +kernel
set_option maxHeartbeats 4000000 in
set_option maxRecDepth 100000 in
theorem c_X1_quietTicks (l : Launch) (D : va_G) (w : Wc) (aS : Nat → Nat) (sk sv : Nat) (A : Nat → Prop) (a0 : Nat) : CT l yX1_quietTicks cX1_quietTicks 3 (some .int) 4 86 (PC D w A) (ENVC D w aS sk sv A) A [vr w.2.2.2.2 1 2 a0] (f_X1_quietTicks a0) vI := by
  refine CT.ofW (by decide) [(0, vr w.2.2.2.2 1 2 a0)] (by simp [lv_args, vr_cat, vc_i, vc_j, vc_f, vc_d, vc_r, vc_n]) (by simp [lg_sl, vr_cat, vc_i, vc_j, vc_f, vc_d, vc_r, vc_n]) ?_
  intro S0 E0 R p e s m args below meth c ls hE hRf hRl hRc K0 hr hlocks hEV hA hZ hl
  have K0 : CallFix p m c cX1_quietTicks 3 s args GW RX1 := K0
  have hx := K0.1
  have hb := K0.2.1
  have hown := K0.2.2.2.1
  have hg := K0.2.2.2.2
  have hK := hEV.1
  have hok : EVok (ENVC D w aS sk sv A) A := ENVC.ok
  have j25 : ∀ (n9 : Nat) (u0 : Nat) (u1 : Int32) (u2 : Int32) (S : St) (H : Heap) (locs : List Loc) (cells slots : Nat) (ls : Array Slot), (f_X1_quietTicks_L25 n9 u0 u1 u2).1 S = some E0 → ZZ D 187 (adrC w) (celC w) A S0 s.heap S H locs cells slots → lv_has ls 3 [(0, vr w.2.2.2.2 1 2 u0), (1, .int u1), (2, .int u2)] → W p l e R s m args below meth c H locs cells slots (MQ below (QE E0 vI (PC D w A) A) args s (gN E0.2 7 0 - gN S0 7 0) (gN E0.2 3 0 - gN S0 3 0) A) (F0 m 25 ls []) := by
    intro n9
    induction n9 with
    | zero =>
      intro u0 u1 u2 S H locs cells slots ls hE hZ hl
      rw [f_X1_quietTicks_L25] at hE
      cases hE
    | succ n9 ih =>
      intro u0 u1 u2 S H locs cells slots ls hE hZ hl
      rw [f_X1_quietTicks_L25] at hE
      refine lv_iload_n hx hb dX1_quietTicks_25 rfl (lv_at hl 2 rfl) ?_
      refine vr_aload_n hx hb dX1_quietTicks_26 rfl (lv_at hl 0 rfl) ?_
      refine g_LN_6 K0 hK hE hZ q221 dX1_quietTicks_27 (fun v27 hE => ?_)
      refine lv_icmp_ge (tgt := 49) hx hb dX1_quietTicks_30 (by decide) (fun hc => ?_) (fun hc => ?_)
      · have hE := if_t hE hc
        refine lv_iload_n hx hb dX1_quietTicks_49 rfl (lv_at hl 1 rfl) ?_
        refine lv_iconst (v := (0)) hx hb dX1_quietTicks_50 (by decide +kernel) ?_
        refine va_mmax hx hb (K0.2.2.1.trans hl.1.symm) hown (hg _ q587) (hg _ q588) (hg _ q55) (hg _ q589) (by omega) (by rw [hRl]; simp [vr_cat, vc_i, vc_j, vc_f, vc_d, vc_r, vc_n]) (room_c hE hZ hRc) (room_s hE hZ hRc) dX1_quietTicks_51 ?_
        exact end_i K0 hr hlocks hE hZ dX1_quietTicks_54
      · have hE := if_f hE hc
        refine lv_iload_n hx hb dX1_quietTicks_33 rfl (lv_at hl 1 rfl) ?_
        refine vr_aload_n hx hb dX1_quietTicks_34 rfl (lv_at hl 0 rfl) ?_
        refine lv_iload_n hx hb dX1_quietTicks_35 rfl (lv_at hl 2 rfl) ?_
        refine call_V (rest := [.int u1]) K0 hK hok hEV hA (c_X1_quietTicksAt l D w aS sk sv A u0 u2) q954 q956 q21 q41 q957 yd_X1_quietTicksAt ⟨by omega, by omega⟩ hRc (ci := 3) rfl rfl (rc_LN w _) hE hZ hl.1 rfl (Nat.le_of_ble_eq_true rfl) dX1_quietTicks_36 (fun v36 S H locs cells slots hE hZ => ?_)
        refine W.eq (g2 := F0 m 39 ls [.int v36, .int u1]) rfl ?_
        refine va_mmin hx hb (K0.2.2.1.trans hl.1.symm) hown (hg _ q575) (hg _ q576) (hg _ q55) (hg _ q577) (by omega) (by rw [hRl]; simp [vr_cat, vc_i, vc_j, vc_f, vc_d, vc_r, vc_n]) (room_c hE hZ hRc) (room_s hE hZ hRc) dX1_quietTicks_39 ?_
        refine let_i hE (fun w42 hE => ?_)
        refine lv_istore_n (i := 1) (lv' := [(1, .int w42), (0, vr w.2.2.2.2 1 2 u0), (2, .int u2)]) hx hb dX1_quietTicks_42 rfl hl (by decide) (by simp [vr_cat, vc_i, vc_j, vc_f, vc_d, vc_r, vc_n]) (fun ls hl => ?_)
        refine lv_iinc (v := (u2 + (1 : Int32))) (lv' := [(2, .int (u2 + (1 : Int32))), (1, .int w42), (0, vr w.2.2.2.2 1 2 u0)]) hx hb dX1_quietTicks_43 hl (k := 2) rfl rfl (by decide) rfl (fun ls hl => ?_)
        refine lv_goto (tgt := 25) hx hb dX1_quietTicks_46 (by decide) ?_
        exact ih u0 w42 (u2 + (1 : Int32)) _ _ _ _ _ _ hE hZ (lv_sub hl [2, 1, 0] rfl)
  unfold f_X1_quietTicks at hE
  refine vr_aload_n hx hb dX1_quietTicks_0 rfl (lv_at hl 0 rfl) ?_
  refine call_V (rest := []) K0 hK hok hEV hA (c_X1_canEnterFromWaiting l D w aS sk sv A a0) q946 q948 q19 q41 q949 yd_X1_canEnterFromWaiting ⟨by omega, by omega⟩ hRc (ci := 3) rfl rfl (rc_LN w _) hE hZ hl.1 rfl (Nat.le_of_ble_eq_true rfl) dX1_quietTicks_1 (fun v1 S H locs cells slots hE hZ => ?_)
  refine W.eq (g2 := F0 m 4 ls [.int v1]) rfl ?_
  refine lv_if_ne (tgt := 14) hx hb dX1_quietTicks_4 (by decide) (fun hc => ?_) (fun hc => ?_)
  · have hE := if_f hE hc
    refine lv_iconst (v := (0)) hx hb dX1_quietTicks_14 (by decide +kernel) ?_
    exact end_i K0 hr hlocks hE hZ dX1_quietTicks_15
  · have hE := if_t hE hc
    refine vr_aload_n hx hb dX1_quietTicks_7 rfl (lv_at hl 0 rfl) ?_
    refine call_V (rest := []) K0 hK hok hEV hA (c_X1_canEnterFromLoop l D w aS sk sv A a0) q950 q952 q20 q41 q953 yd_X1_canEnterFromLoop ⟨by omega, by omega⟩ hRc (ci := 3) rfl rfl (rc_LN w _) hE hZ hl.1 rfl (Nat.le_of_ble_eq_true rfl) dX1_quietTicks_8 (fun v8 S H locs cells slots hE hZ => ?_)
    refine W.eq (g2 := F0 m 11 ls [.int v8]) rfl ?_
    refine lv_if_eq (tgt := 16) hx hb dX1_quietTicks_11 (by decide) (fun hc => ?_) (fun hc => ?_)
    · have hE := if_t hE hc
      refine vr_aload_n hx hb dX1_quietTicks_16 rfl (lv_at hl 0 rfl) ?_
      refine call_V (rest := []) K0 hK hok hEV hA (c_X1_ticksToRound l D w aS sk sv A a0) q569 q286 q287 q41 q288 yd_X1_ticksToRound ⟨by omega, by omega⟩ hRc (ci := 3) rfl rfl (rc_LN w _) hE hZ hl.1 rfl (Nat.le_of_ble_eq_true rfl) dX1_quietTicks_17 (fun v17 S H locs cells slots hE hZ => ?_)
      refine W.eq (g2 := F0 m 20 ls [.int v17]) rfl ?_
      refine lv_iconst (v := (1)) hx hb dX1_quietTicks_20 (by decide +kernel) ?_
      refine lv_isub hx hb dX1_quietTicks_21 ?_
      refine let_i hE (fun w22 hE => ?_)
      refine lv_istore_n (i := 1) (lv' := [(1, .int w22), (0, vr w.2.2.2.2 1 2 a0)]) hx hb dX1_quietTicks_22 rfl hl (by decide) (by simp [vr_cat, vc_i, vc_j, vc_f, vc_d, vc_r, vc_n]) (fun ls hl => ?_)
      refine lv_iconst (v := (0)) hx hb dX1_quietTicks_23 (by decide +kernel) ?_
      refine lv_istore_n (i := 2) (lv' := [(2, .int (0 : Int32)), (1, .int w22), (0, vr w.2.2.2.2 1 2 a0)]) hx hb dX1_quietTicks_24 rfl hl (by decide) rfl (fun ls hl => ?_)
      exact j25 400 a0 w22 (0 : Int32) _ _ _ _ _ _ hE hZ (lv_sub hl [2, 1, 0] rfl)
    · have hE := if_f hE hc
      refine lv_iconst (v := (0)) hx hb dX1_quietTicks_14 (by decide +kernel) ?_
      exact end_i K0 hr hlocks hE hZ dX1_quietTicks_15
def f_X1_passQuietTicks (a0 : Nat) (a1 : Int32) : PM Unit := bnd (rdc 2 a0 2) (fun v2 => bnd (wrc 2 a0 2 (v2 + a1)) (fun _ => if a0 < 2 then bnd (f_X1_countDown a0 a1) (fun _ => rtn ()) else fail))
theorem yd_X1_passQuietTicks : yX1_passQuietTicks.cls = RX1 ∧ yX1_passQuietTicks.cls ≠ "java/lang/invoke/MethodHandle" ∧ yX1_passQuietTicks.cls ≠ "java/lang/invoke/VarHandle" ∧ (parseMethodDescriptor yX1_passQuietTicks.desc).map (fun d => d.parameters.length) = some 1 := by decide +kernel
set_option maxHeartbeats 4000000 in
set_option maxRecDepth 100000 in
theorem c_X1_passQuietTicks (l : Launch) (D : va_G) (w : Wc) (aS : Nat → Nat) (sk sv : Nat) (A : Nat → Prop) (a0 : Nat) (a1 : Int32) : CT l yX1_passQuietTicks cX1_passQuietTicks 2 none 3 66 (PC D w A) (ENVC D w aS sk sv A) A [vr w.2.2.2.2 1 2 a0, .int a1] (f_X1_passQuietTicks a0 a1) vU := by
  refine CT.ofW (by decide) [(0, vr w.2.2.2.2 1 2 a0), (1, .int a1)] (by simp [lv_args, vr_cat, vc_i, vc_j, vc_f, vc_d, vc_r, vc_n]) (by simp [lg_sl, vr_cat, vc_i, vc_j, vc_f, vc_d, vc_r, vc_n]) ?_
  intro S0 E0 R p e s m args below meth c ls hE hRf hRl hRc K0 hr hlocks hEV hA hZ hl
  have K0 : CallFix p m c cX1_passQuietTicks 2 s args GW RX1 := K0
  have hx := K0.1
  have hb := K0.2.1
  have hown := K0.2.2.2.1
  have hg := K0.2.2.2.2
  have hK := hEV.1
  have hok : EVok (ENVC D w aS sk sv A) A := ENVC.ok
  unfold f_X1_passQuietTicks at hE
  refine vr_aload_n hx hb dX1_passQuietTicks_0 rfl (lv_at hl 0 rfl) ?_
  refine lv_dup hx hb dX1_passQuietTicks_1 vr_cat ?_
  refine g_LN_8 K0 hK hE hZ q225 dX1_passQuietTicks_2 (fun v2 hE => ?_)
  refine lv_iload_n hx hb dX1_passQuietTicks_5 rfl (lv_at hl 1 rfl) ?_
  refine lv_iadd hx hb dX1_passQuietTicks_6 ?_
  refine p_LN_8 K0 hK hE hZ q225 dX1_passQuietTicks_7 (fun S H locs hE hZ => ?_)
  refine vr_aload_n hx hb dX1_passQuietTicks_10 rfl (lv_at hl 0 rfl) ?_
  refine lv_iload_n hx hb dX1_passQuietTicks_11 rfl (lv_at hl 1 rfl) ?_
  refine call_V (rest := []) K0 hK hok hEV hA (c_X1_countDown l D w aS sk sv A a0 a1) q579 q581 q4 q41 q582 yd_X1_countDown ⟨by omega, by omega⟩ hRc (ci := 3) rfl rfl (rc_LN w _) hE hZ hl.1 rfl (Nat.le_of_ble_eq_true rfl) dX1_passQuietTicks_12 (fun v12 S H locs cells slots hE hZ => ?_)
  refine W.eq (g2 := F0 m 15 ls []) rfl ?_
  exact end_v K0 hr hlocks hE hZ dX1_passQuietTicks_15
