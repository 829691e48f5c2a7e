/-! part 09: Car (by program) -/
def f_X0_copyFrom (a0 : Nat) (a1 : Nat) : PM Unit := bnd (rdc 60 a1 14) (fun v2 => bnd (wrc 60 a0 14 v2) (fun _ => bnd (rdc 60 a1 15) (fun v10 => bnd (wrcC 60 a0 15 v10) (fun _ => bnd (rdc 60 a1 16) (fun v18 => bnd (wrc 60 a0 16 v18) (fun _ => bnd (rdc 60 a1 17) (fun v26 => bnd (wrc 60 a0 17 v26) (fun _ => bnd (rdc 60 a1 18) (fun v34 => bnd (wrcZ 60 a0 18 v34) (fun _ => bnd (rdc 60 a1 19) (fun v42 => bnd (wrc 60 a0 19 v42) (fun _ => bnd (rdc 60 a1 20) (fun v50 => bnd (wrc 60 a0 20 v50) (fun _ => bnd (rdc 60 a1 21) (fun v58 => bnd (wrc 60 a0 21 v58) (fun _ => bnd (rdc 60 a1 22) (fun v66 => bnd (wrc 60 a0 22 v66) (fun _ => rtn ()))))))))))))))))))
theorem yd_X0_copyFrom : yX0_copyFrom.cls = RX0 ∧ yX0_copyFrom.cls ≠ "java/lang/invoke/MethodHandle" ∧ yX0_copyFrom.cls ≠ "java/lang/invoke/VarHandle" ∧ (parseMethodDescriptor yX0_copyFrom.desc).map (fun d => d.parameters.length) = some 1 := by decide +kernel
set_option maxHeartbeats 4000000 in
set_option maxRecDepth 100000 in
theorem c_X0_copyFrom (l : Launch) (D : va_G) (w : Wc) (aS : Nat → Nat) (sk sv : Nat) (A : Nat → Prop) (a0 : Nat) (a1 : Nat) : CT l yX0_copyFrom cX0_copyFrom 2 none 0 0 (PC D w A) (ENVC D w aS sk sv A) A [vr w.2.2.2.2 37 60 a0, vr w.2.2.2.2 37 60 a1] (f_X0_copyFrom a0 a1) vU := by
  refine CT.ofW (by decide) [(0, vr w.2.2.2.2 37 60 a0), (1, vr w.2.2.2.2 37 60 a1)] (by simp [lv_args, vr_cat, vc_i, vc_j, vc_f, vc_d, vc_r, vc_n]) (by simp [lg_sl, vr_cat, vc_i, vc_j, vc_f, vc_d, vc_r, vc_n]) ?_
  intro S0 E0 R p e s m args below meth c ls hE hRf hRl hRc K0 hr hlocks hEV hA hZ hl
  have K0 : CallFix p m c cX0_copyFrom 2 s args GW RX0 := K0
  have hx := K0.1
  have hb := K0.2.1
  have hown := K0.2.2.2.1
  have hg := K0.2.2.2.2
  have hK := hEV.1
  have hok : EVok (ENVC D w aS sk sv A) A := ENVC.ok
  unfold f_X0_copyFrom at hE
  refine vr_aload_n hx hb dX0_copyFrom_0 rfl (lv_at hl 0 rfl) ?_
  refine vr_aload_n hx hb dX0_copyFrom_1 rfl (lv_at hl 1 rfl) ?_
  refine g_CA_2 K0 hK hE hZ q166 dX0_copyFrom_2 (fun v2 hE => ?_)
  refine p_CA_2 K0 hK hE hZ q166 dX0_copyFrom_5 (fun S H locs hE hZ => ?_)
  refine vr_aload_n hx hb dX0_copyFrom_8 rfl (lv_at hl 0 rfl) ?_
  refine vr_aload_n hx hb dX0_copyFrom_9 rfl (lv_at hl 1 rfl) ?_
  refine g_CA_3 K0 hK hE hZ q168 dX0_copyFrom_10 (fun v10 hE => ?_)
  refine p_CA_3 K0 hK hE hZ q168 dX0_copyFrom_13 (fun S H locs hE hZ => ?_)
  refine vr_aload_n hx hb dX0_copyFrom_16 rfl (lv_at hl 0 rfl) ?_
  refine vr_aload_n hx hb dX0_copyFrom_17 rfl (lv_at hl 1 rfl) ?_
  refine g_CA_4 K0 hK hE hZ q171 dX0_copyFrom_18 (fun v18 hE => ?_)
  refine p_CA_4 K0 hK hE hZ q171 dX0_copyFrom_21 (fun S H locs hE hZ => ?_)
  refine vr_aload_n hx hb dX0_copyFrom_24 rfl (lv_at hl 0 rfl) ?_
  refine vr_aload_n hx hb dX0_copyFrom_25 rfl (lv_at hl 1 rfl) ?_
  refine g_CA_5 K0 hK hE hZ q174 dX0_copyFrom_26 (fun v26 hE => ?_)
  refine p_CA_5 K0 hK hE hZ q174 dX0_copyFrom_29 (fun S H locs hE hZ => ?_)
  refine vr_aload_n hx hb dX0_copyFrom_32 rfl (lv_at hl 0 rfl) ?_
  refine vr_aload_n hx hb dX0_copyFrom_33 rfl (lv_at hl 1 rfl) ?_
  refine g_CA_6 K0 hK hE hZ q177 dX0_copyFrom_34 (fun v34 hE => ?_)
  refine p_CA_6 K0 hK hE hZ q177 dX0_copyFrom_37 (fun S H locs hE hZ => ?_)
  refine vr_aload_n hx hb dX0_copyFrom_40 rfl (lv_at hl 0 rfl) ?_
  refine vr_aload_n hx hb dX0_copyFrom_41 rfl (lv_at hl 1 rfl) ?_
  refine g_CA_7 K0 hK hE hZ q180 dX0_copyFrom_42 (fun v42 hE => ?_)
  refine p_CA_7 K0 hK hE hZ q180 dX0_copyFrom_45 (fun S H locs hE hZ => ?_)
  refine vr_aload_n hx hb dX0_copyFrom_48 rfl (lv_at hl 0 rfl) ?_
  refine vr_aload_n hx hb dX0_copyFrom_49 rfl (lv_at hl 1 rfl) ?_
  refine g_CA_8 K0 hK hE hZ q182 dX0_copyFrom_50 (fun v50 hE => ?_)
  refine p_CA_8 K0 hK hE hZ q182 dX0_copyFrom_53 (fun S H locs hE hZ => ?_)
  refine vr_aload_n hx hb dX0_copyFrom_56 rfl (lv_at hl 0 rfl) ?_
  refine vr_aload_n hx hb dX0_copyFrom_57 rfl (lv_at hl 1 rfl) ?_
  refine g_CA_9 K0 hK hE hZ q184 dX0_copyFrom_58 (fun v58 hE => ?_)
  refine p_CA_9 K0 hK hE hZ q184 dX0_copyFrom_61 (fun S H locs hE hZ => ?_)
  refine vr_aload_n hx hb dX0_copyFrom_64 rfl (lv_at hl 0 rfl) ?_
  refine vr_aload_n hx hb dX0_copyFrom_65 rfl (lv_at hl 1 rfl) ?_
  refine g_CA_10 K0 hK hE hZ q186 dX0_copyFrom_66 (fun v66 hE => ?_)
  refine p_CA_10 K0 hK hE hZ q186 dX0_copyFrom_69 (fun S H locs hE hZ => ?_)
  exact end_v K0 hr hlocks hE hZ dX0_copyFrom_72
def f_X0_isWanting (a0 : Nat) (a1 : Int32) : PM Int32 := bnd (rdc 60 a0 14) (fun v1 => if ((v1 >>> (a1 &&& 31)) &&& (1 : Int32)) = 0 then (rtnZ (0 : Int32)) else (rtnZ (1 : Int32)))
theorem yd_X0_isWanting : yX0_isWanting.cls = RX0 ∧ yX0_isWanting.cls ≠ "java/lang/invoke/MethodHandle" ∧ yX0_isWanting.cls ≠ "java/lang/invoke/VarHandle" ∧ (parseMethodDescriptor yX0_isWanting.desc).map (fun d => d.parameters.length) = some 1 := by decide +kernel
set_option maxHeartbeats 4000000 in
set_option maxRecDepth 100000 in
theorem c_X0_isWanting (l : Launch) (D : va_G) (w : Wc) (aS : Nat → Nat) (sk sv : Nat) (A : Nat → Prop) (a0 : Nat) (a1 : Int32) : CT l yX0_isWanting cX0_isWanting 2 (some .boolean) 0 0 (PC D w A) (ENVC D w aS sk sv A) A [vr w.2.2.2.2 37 60 a0, .int a1] (f_X0_isWanting a0 a1) vI := by
  refine CT.ofW (by decide) [(0, vr w.2.2.2.2 37 60 a0), (1, .int a1)] (by simp [lv_args, vr_cat, vc_i, vc_j, vc_f, vc_d, vc_r, vc_n]) (by simp [lg_sl, vr_cat, vc_i, vc_j, vc_f, vc_d, vc_r, vc_n]) ?_
  intro S0 E0 R p e s m args below meth c ls hE hRf hRl hRc K0 hr hlocks hEV hA hZ hl
  have K0 : CallFix p m c cX0_isWanting 2 s args GW RX0 := K0
  have hx := K0.1
  have hb := K0.2.1
  have hown := K0.2.2.2.1
  have hg := K0.2.2.2.2
  have hK := hEV.1
  have hok : EVok (ENVC D w aS sk sv A) A := ENVC.ok
  unfold f_X0_isWanting at hE
  refine vr_aload_n hx hb dX0_isWanting_0 rfl (lv_at hl 0 rfl) ?_
  refine g_CA_2 K0 hK hE hZ q166 dX0_isWanting_1 (fun v1 hE => ?_)
  refine lv_iload_n hx hb dX0_isWanting_4 rfl (lv_at hl 1 rfl) ?_
  refine lv_ishr hx hb dX0_isWanting_5 ?_
  refine lv_iconst (v := (1)) hx hb dX0_isWanting_6 (by decide +kernel) ?_
  refine lv_iand hx hb dX0_isWanting_7 ?_
  refine lv_if_eq (tgt := 15) hx hb dX0_isWanting_8 (by decide) (fun hc => ?_) (fun hc => ?_)
  · have hE := if_t hE hc
    refine lv_iconst (v := (0)) hx hb dX0_isWanting_15 (by decide +kernel) ?_
    exact end_z K0 hr hlocks hE hZ dX0_isWanting_16
  · have hE := if_f hE hc
    refine lv_iconst (v := (1)) hx hb dX0_isWanting_11 (by decide +kernel) ?_
    refine lv_goto (tgt := 16) hx hb dX0_isWanting_12 (by decide) ?_
    exact end_z K0 hr hlocks hE hZ dX0_isWanting_16
def f_X0_hasEntered (a0 : Nat) (a1 : Int32) : PM Int32 := bnd (rdc 60 a0 20) (fun v1 => if ((v1 >>> (a1 &&& 31)) &&& (1 : Int32)) = 0 then (rtnZ (0 : Int32)) else (rtnZ (1 : Int32)))
theorem yd_X0_hasEntered : yX0_hasEntered.cls = RX0 ∧ yX0_hasEntered.cls ≠ "java/lang/invoke/MethodHandle" ∧ yX0_hasEntered.cls ≠ "java/lang/invoke/VarHandle" ∧ (parseMethodDescriptor yX0_hasEntered.desc).map (fun d => d.parameters.length) = some 1 := by decide +kernel
set_option maxHeartbeats 4000000 in
set_option maxRecDepth 100000 in
theorem c_X0_hasEntered (l : Launch) (D : va_G) (w : Wc) (aS : Nat → Nat) (sk sv : Nat) (A : Nat → Prop) (a0 : Nat) (a1 : Int32) : CT l yX0_hasEntered cX0_hasEntered 2 (some .boolean) 0 0 (PC D w A) (ENVC D w aS sk sv A) A [vr w.2.2.2.2 37 60 a0, .int a1] (f_X0_hasEntered a0 a1) vI := by
  refine CT.ofW (by decide) [(0, vr w.2.2.2.2 37 60 a0), (1, .int a1)] (by simp [lv_args, vr_cat, vc_i, vc_j, vc_f, vc_d, vc_r, vc_n]) (by simp [lg_sl, vr_cat, vc_i, vc_j, vc_f, vc_d, vc_r, vc_n]) ?_
  intro S0 E0 R p e s m args below meth c ls hE hRf hRl hRc K0 hr hlocks hEV hA hZ hl
  have K0 : CallFix p m c cX0_hasEntered 2 s args GW RX0 := K0
  have hx := K0.1
  have hb := K0.2.1
  have hown := K0.2.2.2.1
  have hg := K0.2.2.2.2
  have hK := hEV.1
  have hok : EVok (ENVC D w aS sk sv A) A := ENVC.ok
  unfold f_X0_hasEntered at hE
  refine vr_aload_n hx hb dX0_hasEntered_0 rfl (lv_at hl 0 rfl) ?_
  refine g_CA_8 K0 hK hE hZ q182 dX0_hasEntered_1 (fun v1 hE => ?_)
  refine lv_iload_n hx hb dX0_hasEntered_4 rfl (lv_at hl 1 rfl) ?_
  refine lv_ishr hx hb dX0_hasEntered_5 ?_
  refine lv_iconst (v := (1)) hx hb dX0_hasEntered_6 (by decide +kernel) ?_
  refine lv_iand hx hb dX0_hasEntered_7 ?_
  refine lv_if_eq (tgt := 15) hx hb dX0_hasEntered_8 (by decide) (fun hc => ?_) (fun hc => ?_)
  · have hE := if_t hE hc
    refine lv_iconst (v := (0)) hx hb dX0_hasEntered_15 (by decide +kernel) ?_
    exact end_z K0 hr hlocks hE hZ dX0_hasEntered_16
  · have hE := if_f hE hc
    refine lv_iconst (v := (1)) hx hb dX0_hasEntered_11 (by decide +kernel) ?_
    refine lv_goto (tgt := 16) hx hb dX0_hasEntered_12 (by decide) ?_
    exact end_z K0 hr hlocks hE hZ dX0_hasEntered_16
def f_X0_isFaulty (a0 : Nat) (a1 : Int32) : PM Int32 := bnd (rdc 60 a0 19) (fun v1 => if ((v1 >>> (a1 &&& 31)) &&& (1 : Int32)) = 0 then (rtnZ (0 : Int32)) else (rtnZ (1 : Int32)))
theorem yd_X0_isFaulty : yX0_isFaulty.cls = RX0 ∧ yX0_isFaulty.cls ≠ "java/lang/invoke/MethodHandle" ∧ yX0_isFaulty.cls ≠ "java/lang/invoke/VarHandle" ∧ (parseMethodDescriptor yX0_isFaulty.desc).map (fun d => d.parameters.length) = some 1 := by decide +kernel
set_option maxHeartbeats 4000000 in
set_option maxRecDepth 100000 in
theorem c_X0_isFaulty (l : Launch) (D : va_G) (w : Wc) (aS : Nat → Nat) (sk sv : Nat) (A : Nat → Prop) (a0 : Nat) (a1 : Int32) : CT l yX0_isFaulty cX0_isFaulty 2 (some .boolean) 0 0 (PC D w A) (ENVC D w aS sk sv A) A [vr w.2.2.2.2 37 60 a0, .int a1] (f_X0_isFaulty a0 a1) vI := by
  refine CT.ofW (by decide) [(0, vr w.2.2.2.2 37 60 a0), (1, .int a1)] (by simp [lv_args, vr_cat, vc_i, vc_j, vc_f, vc_d, vc_r, vc_n]) (by simp [lg_sl, vr_cat, vc_i, vc_j, vc_f, vc_d, vc_r, vc_n]) ?_
  intro S0 E0 R p e s m args below meth c ls hE hRf hRl hRc K0 hr hlocks hEV hA hZ hl
  have K0 : CallFix p m c cX0_isFaulty 2 s args GW RX0 := K0
  have hx := K0.1
  have hb := K0.2.1
  have hown := K0.2.2.2.1
  have hg := K0.2.2.2.2
  have hK := hEV.1
  have hok : EVok (ENVC D w aS sk sv A) A := ENVC.ok
  unfold f_X0_isFaulty at hE
  refine vr_aload_n hx hb dX0_isFaulty_0 rfl (lv_at hl 0 rfl) ?_
  refine g_CA_7 K0 hK hE hZ q180 dX0_isFaulty_1 (fun v1 hE => ?_)
  refine lv_iload_n hx hb dX0_isFaulty_4 rfl (lv_at hl 1 rfl) ?_
  refine lv_ishr hx hb dX0_isFaulty_5 ?_
  refine lv_iconst (v := (1)) hx hb dX0_isFaulty_6 (by decide +kernel) ?_
  refine lv_iand hx hb dX0_isFaulty_7 ?_
  refine lv_if_eq (tgt := 15) hx hb dX0_isFaulty_8 (by decide) (fun hc => ?_) (fun hc => ?_)
  · have hE := if_t hE hc
    refine lv_iconst (v := (0)) hx hb dX0_isFaulty_15 (by decide +kernel) ?_
    exact end_z K0 hr hlocks hE hZ dX0_isFaulty_16
  · have hE := if_f hE hc
    refine lv_iconst (v := (1)) hx hb dX0_isFaulty_11 (by decide +kernel) ?_
    refine lv_goto (tgt := 16) hx hb dX0_isFaulty_12 (by decide) ?_
    exact end_z K0 hr hlocks hE hZ dX0_isFaulty_16
def f_X0_openFault (a0 : Nat) (a1 : Int32) : PM Unit := bnd (rdc 60 a0 19) (fun v2 => bnd (wrc 60 a0 19 (v2 ||| ((1 : Int32) <<< (a1 &&& 31)))) (fun _ => rtn ()))
theorem yd_X0_openFault : yX0_openFault.cls = RX0 ∧ yX0_openFault.cls ≠ "java/lang/invoke/MethodHandle" ∧ yX0_openFault.cls ≠ "java/lang/invoke/VarHandle" ∧ (parseMethodDescriptor yX0_openFault.desc).map (fun d => d.parameters.length) = some 1 := by decide +kernel
set_option maxHeartbeats 4000000 in
set_option maxRecDepth 100000 in
theorem c_X0_openFault (l : Launch) (D : va_G) (w : Wc) (aS : Nat → Nat) (sk sv : Nat) (A : Nat → Prop) (a0 : Nat) (a1 : Int32) : CT l yX0_openFault cX0_openFault 2 none 0 0 (PC D w A) (ENVC D w aS sk sv A) A [vr w.2.2.2.2 37 60 a0, .int a1] (f_X0_openFault a0 a1) vU := by
  refine CT.ofW (by decide) [(0, vr w.2.2.2.2 37 60 a0), (1, .int a1)] (by simp [lv_args, vr_cat, vc_i, vc_j, vc_f, vc_d, vc_r, vc_n]) (by simp [lg_sl, vr_cat, vc_i, vc_j, vc_f, vc_d, vc_r, vc_n]) ?_
  intro S0 E0 R p e s m args below meth c ls hE hRf hRl hRc K0 hr hlocks hEV hA hZ hl
  have K0 : CallFix p m c cX0_openFault 2 s args GW RX0 := K0
  have hx := K0.1
  have hb := K0.2.1
  have hown := K0.2.2.2.1
  have hg := K0.2.2.2.2
  have hK := hEV.1
  have hok : EVok (ENVC D w aS sk sv A) A := ENVC.ok
  unfold f_X0_openFault at hE
  refine vr_aload_n hx hb dX0_openFault_0 rfl (lv_at hl 0 rfl) ?_
  refine lv_dup hx hb dX0_openFault_1 vr_cat ?_
  refine g_CA_7 K0 hK hE hZ q180 dX0_openFault_2 (fun v2 hE => ?_)
  refine lv_iconst (v := (1)) hx hb dX0_openFault_5 (by decide +kernel) ?_
  refine lv_iload_n hx hb dX0_openFault_6 rfl (lv_at hl 1 rfl) ?_
  refine lv_ishl hx hb dX0_openFault_7 ?_
  refine lv_ior hx hb dX0_openFault_8 ?_
  refine p_CA_7 K0 hK hE hZ q180 dX0_openFault_9 (fun S H locs hE hZ => ?_)
  exact end_v K0 hr hlocks hE hZ dX0_openFault_12
def f_X0_closeFault (a0 : Nat) (a1 : Int32) : PM Unit := bnd (rdc 60 a0 19) (fun v2 => bnd (wrc 60 a0 19 (v2 &&& (((1 : Int32) <<< (a1 &&& 31)) ^^^ (-1 : Int32)))) (fun _ => rtn ()))
theorem yd_X0_closeFault : yX0_closeFault.cls = RX0 ∧ yX0_closeFault.cls ≠ "java/lang/invoke/MethodHandle" ∧ yX0_closeFault.cls ≠ "java/lang/invoke/VarHandle" ∧ (parseMethodDescriptor yX0_closeFault.desc).map (fun d => d.parameters.length) = some 1 := by decide +kernel
set_option maxHeartbeats 4000000 in
set_option maxRecDepth 100000 in
theorem c_X0_closeFault (l : Launch) (D : va_G) (w : Wc) (aS : Nat → Nat) (sk sv : Nat) (A : Nat → Prop) (a0 : Nat) (a1 : Int32) : CT l yX0_closeFault cX0_closeFault 2 none 0 0 (PC D w A) (ENVC D w aS sk sv A) A [vr w.2.2.2.2 37 60 a0, .int a1] (f_X0_closeFault a0 a1) vU := by
  refine CT.ofW (by decide) [(0, vr w.2.2.2.2 37 60 a0), (1, .int a1)] (by simp [lv_args, vr_cat, vc_i, vc_j, vc_f, vc_d, vc_r, vc_n]) (by simp [lg_sl, vr_cat, vc_i, vc_j, vc_f, vc_d, vc_r, vc_n]) ?_
  intro S0 E0 R p e s m args below meth c ls hE hRf hRl hRc K0 hr hlocks hEV hA hZ hl
  have K0 : CallFix p m c cX0_closeFault 2 s args GW RX0 := K0
  have hx := K0.1
  have hb := K0.2.1
  have hown := K0.2.2.2.1
  have hg := K0.2.2.2.2
  have hK := hEV.1
  have hok : EVok (ENVC D w aS sk sv A) A := ENVC.ok
  unfold f_X0_closeFault at hE
  refine vr_aload_n hx hb dX0_closeFault_0 rfl (lv_at hl 0 rfl) ?_
  refine lv_dup hx hb dX0_closeFault_1 vr_cat ?_
  refine g_CA_7 K0 hK hE hZ q180 dX0_closeFault_2 (fun v2 hE => ?_)
  refine lv_iconst (v := (1)) hx hb dX0_closeFault_5 (by decide +kernel) ?_
  refine lv_iload_n hx hb dX0_closeFault_6 rfl (lv_at hl 1 rfl) ?_
  refine lv_ishl hx hb dX0_closeFault_7 ?_
  refine lv_iconst (v := (-1)) hx hb dX0_closeFault_8 (by decide +kernel) ?_
  refine lv_ixor hx hb dX0_closeFault_9 ?_
  refine lv_iand hx hb dX0_closeFault_10 ?_
  refine p_CA_7 K0 hK hE hZ q180 dX0_closeFault_11 (fun S H locs hE hZ => ?_)
  exact end_v K0 hr hlocks hE hZ dX0_closeFault_14
def f_J6_bitCount_0f7a4 (a0 : Int32) : PM Int32 := bnd (rtn (a0 - ((a0.toUInt32 >>> ((1 : Int32).toUInt32 &&& Int32.toUInt32 31)).toInt32 &&& (1431655765 : Int32)))) (fun w9 => bnd (rtn ((w9 &&& (858993459 : Int32)) + ((w9.toUInt32 >>> ((2 : Int32).toUInt32 &&& Int32.toUInt32 31)).toInt32 &&& (858993459 : Int32)))) (fun w23 => bnd (rtn ((w23 + (w23.toUInt32 >>> ((4 : Int32).toUInt32 &&& Int32.toUInt32 31)).toInt32) &&& (252645135 : Int32))) (fun w33 => bnd (rtn (w33 + (w33.toUInt32 >>> ((8 : Int32).toUInt32 &&& Int32.toUInt32 31)).toInt32)) (fun w40 => bnd (rtn (w40 + (w40.toUInt32 >>> ((16 : Int32).toUInt32 &&& Int32.toUInt32 31)).toInt32)) (fun w47 => rtn (w47 &&& (63 : Int32)))))))
theorem yd_J6_bitCount_0f7a4 : yJ6_bitCount_0f7a4.cls = RJ6 ∧ yJ6_bitCount_0f7a4.cls ≠ "java/lang/invoke/MethodHandle" ∧ yJ6_bitCount_0f7a4.cls ≠ "java/lang/invoke/VarHandle" ∧ (parseMethodDescriptor yJ6_bitCount_0f7a4.desc).map (fun d => d.parameters.length) = some 1 := by decide +kernel
set_option maxHeartbeats 4000000 in
set_option maxRecDepth 100000 in
theorem c_J6_bitCount_0f7a4 (l : Launch) (D : va_G) (w : Wc) (aS : Nat → Nat) (sk sv : Nat) (A : Nat → Prop) (a0 : Int32) : CT l yJ6_bitCount_0f7a4 cJ6_bitCount_0f7a4 1 (some .int) 0 0 (PC D w A) (ENVC D w aS sk sv A) A [.int a0] (f_J6_bitCount_0f7a4 a0) vI := by
  refine CT.ofW (by decide) [(0, .int a0)] (by simp [lv_args, vr_cat, vc_i, vc_j, vc_f, vc_d, vc_r, vc_n]) (by simp [lg_sl, vr_cat, vc_i, vc_j, vc_f, vc_d, vc_r, vc_n]) ?_
  intro S0 E0 R p e s m args below meth c ls hE hRf hRl hRc K0 hr hlocks hEV hA hZ hl
  have K0 : CallFix p m c cJ6_bitCount_0f7a4 1 s args GW RJ6 := K0
  have hx := K0.1
  have hb := K0.2.1
  have hown := K0.2.2.2.1
  have hg := K0.2.2.2.2
  have hK := hEV.1
  have hok : EVok (ENVC D w aS sk sv A) A := ENVC.ok
  unfold f_J6_bitCount_0f7a4 at hE
  refine lv_iload_n hx hb dJ6_bitCount_0f7a4_0 rfl (lv_at hl 0 rfl) ?_
  refine lv_iload_n hx hb dJ6_bitCount_0f7a4_1 rfl (lv_at hl 0 rfl) ?_
  refine lv_iconst (v := (1)) hx hb dJ6_bitCount_0f7a4_2 (by decide +kernel) ?_
  refine lv_iushr hx hb dJ6_bitCount_0f7a4_3 rfl ?_
  refine lv_ldcw (v := (1431655765)) hx hb hown (hg _ q553) dJ6_bitCount_0f7a4_4 ?_
  refine lv_iand hx hb dJ6_bitCount_0f7a4_7 ?_
  refine lv_isub hx hb dJ6_bitCount_0f7a4_8 ?_
  refine let_i hE (fun w9 hE => ?_)
  refine lv_istore_n (i := 0) (lv' := [(0, .int w9)]) hx hb dJ6_bitCount_0f7a4_9 rfl hl (by decide) rfl (fun ls hl => ?_)
  refine lv_iload_n hx hb dJ6_bitCount_0f7a4_10 rfl (lv_at hl 0 rfl) ?_
  refine lv_ldcw (v := (858993459)) hx hb hown (hg _ q554) dJ6_bitCount_0f7a4_11 ?_
  refine lv_iand hx hb dJ6_bitCount_0f7a4_14 ?_
  refine lv_iload_n hx hb dJ6_bitCount_0f7a4_15 rfl (lv_at hl 0 rfl) ?_
  refine lv_iconst (v := (2)) hx hb dJ6_bitCount_0f7a4_16 (by decide +kernel) ?_
  refine lv_iushr hx hb dJ6_bitCount_0f7a4_17 rfl ?_
  refine lv_ldcw (v := (858993459)) hx hb hown (hg _ q554) dJ6_bitCount_0f7a4_18 ?_
  refine lv_iand hx hb dJ6_bitCount_0f7a4_21 ?_
  refine lv_iadd hx hb dJ6_bitCount_0f7a4_22 ?_
  refine let_i hE (fun w23 hE => ?_)
  refine lv_istore_n (i := 0) (lv' := [(0, .int w23)]) hx hb dJ6_bitCount_0f7a4_23 rfl hl (by decide) rfl (fun ls hl => ?_)
  refine lv_iload_n hx hb dJ6_bitCount_0f7a4_24 rfl (lv_at hl 0 rfl) ?_
  refine lv_iload_n hx hb dJ6_bitCount_0f7a4_25 rfl (lv_at hl 0 rfl) ?_
  refine lv_iconst (v := (4)) hx hb dJ6_bitCount_0f7a4_26 (by decide +kernel) ?_
  refine lv_iushr hx hb dJ6_bitCount_0f7a4_27 rfl ?_
  refine lv_iadd hx hb dJ6_bitCount_0f7a4_28 ?_
  refine lv_ldcw (v := (252645135)) hx hb hown (hg _ q555) dJ6_bitCount_0f7a4_29 ?_
  refine lv_iand hx hb dJ6_bitCount_0f7a4_32 ?_
  refine let_i hE (fun w33 hE => ?_)
  refine lv_istore_n (i := 0) (lv' := [(0, .int w33)]) hx hb dJ6_bitCount_0f7a4_33 rfl hl (by decide) rfl (fun ls hl => ?_)
  refine lv_iload_n hx hb dJ6_bitCount_0f7a4_34 rfl (lv_at hl 0 rfl) ?_
  refine lv_iload_n hx hb dJ6_bitCount_0f7a4_35 rfl (lv_at hl 0 rfl) ?_
  refine lv_bipush (v := (8)) hx hb dJ6_bitCount_0f7a4_36 (by decide +kernel) ?_
  refine lv_iushr hx hb dJ6_bitCount_0f7a4_38 rfl ?_
  refine lv_iadd hx hb dJ6_bitCount_0f7a4_39 ?_
  refine let_i hE (fun w40 hE => ?_)
  refine lv_istore_n (i := 0) (lv' := [(0, .int w40)]) hx hb dJ6_bitCount_0f7a4_40 rfl hl (by decide) rfl (fun ls hl => ?_)
  refine lv_iload_n hx hb dJ6_bitCount_0f7a4_41 rfl (lv_at hl 0 rfl) ?_
  refine lv_iload_n hx hb dJ6_bitCount_0f7a4_42 rfl (lv_at hl 0 rfl) ?_
  refine lv_bipush (v := (16)) hx hb dJ6_bitCount_0f7a4_43 (by decide +kernel) ?_
  refine lv_iushr hx hb dJ6_bitCount_0f7a4_45 rfl ?_
  refine lv_iadd hx hb dJ6_bitCount_0f7a4_46 ?_
  refine let_i hE (fun w47 hE => ?_)
  refine lv_istore_n (i := 0) (lv' := [(0, .int w47)]) hx hb dJ6_bitCount_0f7a4_47 rfl hl (by decide) rfl (fun ls hl => ?_)
  refine lv_iload_n hx hb dJ6_bitCount_0f7a4_48 rfl (lv_at hl 0 rfl) ?_
  refine lv_bipush (v := (63)) hx hb dJ6_bitCount_0f7a4_49 (by decide +kernel) ?_
  refine lv_iand hx hb dJ6_bitCount_0f7a4_51 ?_
  exact end_i K0 hr hlocks hE hZ dJ6_bitCount_0f7a4_52
def f_X0_faultCount (a0 : Nat) : PM Int32 := bnd (rdc 60 a0 19) (fun v1 => bnd (f_J6_bitCount_0f7a4 v1) (fun v4 => rtn v4))
theorem yd_X0_faultCount : yX0_faultCount.cls = RX0 ∧ yX0_faultCount.cls ≠ "java/lang/invoke/MethodHandle" ∧ yX0_faultCount.cls ≠ "java/lang/invoke/VarHandle" ∧ (parseMethodDescriptor yX0_faultCount.desc).map (fun d => d.parameters.length) = some 0 := by decide +kernel
set_option maxHeartbeats 4000000 in
set_option maxRecDepth 100000 in
theorem c_X0_faultCount (l : Launch) (D : va_G) (w : Wc) (aS : Nat → Nat) (sk sv : Nat) (A : Nat → Prop) (a0 : Nat) : CT l yX0_faultCount cX0_faultCount 1 (some .int) 1 20 (PC D w A) (ENVC D w aS sk sv A) A [vr w.2.2.2.2 37 60 a0] (f_X0_faultCount a0) vI := by
  refine CT.ofW (by decide) [(0, vr w.2.2.2.2 37 60 a0)] (by simp [lv_args, vr_cat, vc_i, vc_j, vc_f, vc_d, vc_r, vc_n]) (by simp [lg_sl, vr_cat, vc_i, vc_j, vc_f, vc_d, vc_r, vc_n]) ?_
  intro S0 E0 R p e s m args below meth c ls hE hRf hRl hRc K0 hr hlocks hEV hA hZ hl
  have K0 : CallFix p m c cX0_faultCount 1 s args GW RX0 := K0
  have hx := K0.1
  have hb := K0.2.1
  have hown := K0.2.2.2.1
  have hg := K0.2.2.2.2
  have hK := hEV.1
  have hok : EVok (ENVC D w aS sk sv A) A := ENVC.ok
  unfold f_X0_faultCount at hE
  refine vr_aload_n hx hb dX0_faultCount_0 rfl (lv_at hl 0 rfl) ?_
  refine g_CA_7 K0 hK hE hZ q180 dX0_faultCount_1 (fun v1 hE => ?_)
  refine call_S (rest := []) K0 hok hEV hA (c_J6_bitCount_0f7a4 l D w aS sk sv A v1) q550 q551 q54 q552 yd_J6_bitCount_0f7a4 ⟨by omega, by omega⟩ hRc hE hZ hl.1 rfl (Nat.le_of_ble_eq_true rfl) dX0_faultCount_4 (fun v4 S H locs cells slots hE hZ => ?_)
  refine W.eq (g2 := F0 m 7 ls [.int v4]) rfl ?_
  exact end_i K0 hr hlocks hE hZ dX0_faultCount_7
def f_X0_lowestFault_L2 : Nat → Nat → Int32 → PM Int32
  | 0, _, _ => fail
  | n9 + 1, u0, u1 => if (8 : Int32) ≤ u1 then (rtn (-1 : Int32)) else (if u0 < 60 then bnd (f_X0_isFaulty u0 u1) (fun v10 => if v10 = 0 then (f_X0_lowestFault_L2 n9 u0 (u1 + (1 : Int32))) else (rtn u1)) else fail)
def f_X0_lowestFault (a0 : Nat) : PM Int32 := f_X0_lowestFault_L2 400 a0 (0 : Int32)
theorem yd_X0_lowestFault : yX0_lowestFault.cls = RX0 ∧ yX0_lowestFault.cls ≠ "java/lang/invoke/MethodHandle" ∧ yX0_lowestFault.cls ≠ "java/lang/invoke/VarHandle" ∧ (parseMethodDescriptor yX0_lowestFault.desc).map (fun d => d.parameters.length) = some 0 := by decide +kernel
set_option maxHeartbeats 4000000 in
set_option maxRecDepth 100000 in
theorem c_X0_lowestFault (l : Launch) (D : va_G) (w : Wc) (aS : Nat → Nat) (sk sv : Nat) (A : Nat → Prop) (a0 : Nat) : CT l yX0_lowestFault cX0_lowestFault 2 (some .int) 1 21 (PC D w A) (ENVC D w aS sk sv A) A [vr w.2.2.2.2 37 60 a0] (f_X0_lowestFault a0) vI := by
  refine CT.ofW (by decide) [(0, vr w.2.2.2.2 37 60 a0)] (by simp [lv_args, vr_cat, vc_i, vc_j, vc_f, vc_d, vc_r, vc_n]) (by simp [lg_sl, vr_cat, vc_i, vc_j, vc_f, vc_d, vc_r, vc_n]) ?_
  intro S0 E0 R p e s m args below meth c ls hE hRf hRl hRc K0 hr hlocks hEV hA hZ hl
  have K0 : CallFix p m c cX0_lowestFault 2 s args GW RX0 := K0
  have hx := K0.1
  have hb := K0.2.1
  have hown := K0.2.2.2.1
  have hg := K0.2.2.2.2
  have hK := hEV.1
  have hok : EVok (ENVC D w aS sk sv A) A := ENVC.ok
  have j2 : ∀ (n9 : Nat) (u0 : Nat) (u1 : Int32) (S : St) (H : Heap) (locs : List Loc) (cells slots : Nat) (ls : Array Slot), (f_X0_lowestFault_L2 n9 u0 u1).1 S = some E0 → ZZ D 187 (adrC w) (celC w) A S0 s.heap S H locs cells slots → lv_has ls 2 [(0, vr w.2.2.2.2 37 60 u0), (1, .int u1)] → W p l e R s m args below meth c H locs cells slots (MQ below (QE E0 vI (PC D w A) A) args s (gN E0.2 7 0 - gN S0 7 0) (gN E0.2 3 0 - gN S0 3 0) A) (F0 m 2 ls []) := by
    intro n9
    induction n9 with
    | zero =>
      intro u0 u1 S H locs cells slots ls hE hZ hl
      rw [f_X0_lowestFault_L2] at hE
      cases hE
    | succ n9 ih =>
      intro u0 u1 S H locs cells slots ls hE hZ hl
      rw [f_X0_lowestFault_L2] at hE
      refine lv_iload_n hx hb dX0_lowestFault_2 rfl (lv_at hl 1 rfl) ?_
      refine lv_bipush (v := (8)) hx hb dX0_lowestFault_3 (by decide +kernel) ?_
      refine lv_icmp_ge (tgt := 24) hx hb dX0_lowestFault_5 (by decide) (fun hc => ?_) (fun hc => ?_)
      · have hE := if_t hE hc
        refine lv_iconst (v := (-1)) hx hb dX0_lowestFault_24 (by decide +kernel) ?_
        exact end_i K0 hr hlocks hE hZ dX0_lowestFault_25
      · have hE := if_f hE hc
        refine vr_aload_n hx hb dX0_lowestFault_8 rfl (lv_at hl 0 rfl) ?_
        refine lv_iload_n hx hb dX0_lowestFault_9 rfl (lv_at hl 1 rfl) ?_
        refine call_V (rest := []) K0 hK hok hEV hA (c_X0_isFaulty l D w aS sk sv A u0 u1) q744 q523 q524 q44 q525 yd_X0_isFaulty ⟨by omega, by omega⟩ hRc (ci := 2) rfl rfl (rc_CA w _) hE hZ hl.1 rfl (Nat.le_of_ble_eq_true rfl) dX0_lowestFault_10 (fun v10 S H locs cells slots hE hZ => ?_)
        refine W.eq (g2 := F0 m 13 ls [.int v10]) rfl ?_
        refine lv_if_eq (tgt := 18) hx hb dX0_lowestFault_13 (by decide) (fun hc => ?_) (fun hc => ?_)
        · have hE := if_t hE hc
          refine lv_iinc (v := (u1 + (1 : Int32))) (lv' := [(1, .int (u1 + (1 : Int32))), (0, vr w.2.2.2.2 37 60 u0)]) hx hb dX0_lowestFault_18 hl (k := 1) rfl rfl (by decide) (by simp [vr_cat, vc_i, vc_j, vc_f, vc_d, vc_r, vc_n]) (fun ls hl => ?_)
          refine lv_goto (tgt := 2) hx hb dX0_lowestFault_21 (by decide) ?_
          exact ih u0 (u1 + (1 : Int32)) _ _ _ _ _ _ hE hZ (lv_sub hl [1, 0] rfl)
        · have hE := if_f hE hc
          refine lv_iload_n hx hb dX0_lowestFault_16 rfl (lv_at hl 1 rfl) ?_
          exact end_i K0 hr hlocks hE hZ dX0_lowestFault_17
  unfold f_X0_lowestFault at hE
  refine lv_iconst (v := (0)) hx hb dX0_lowestFault_0 (by decide +kernel) ?_
  refine lv_istore_n (i := 1) (lv' := [(1, .int (0 : Int32)), (0, vr w.2.2.2.2 37 60 a0)]) hx hb dX0_lowestFault_1 rfl hl (by decide) (by simp [vr_cat, vc_i, vc_j, vc_f, vc_d, vc_r, vc_n]) (fun ls hl => ?_)
  exact j2 400 a0 (0 : Int32) _ _ _ _ _ _ hE hZ (lv_sub hl [1, 0] rfl)
def f_X0_stand (a0 : Nat) (a1 : Int32) (a2 : Int32) (a3 : Int32) : PM Unit := bnd (wrcC 60 a0 15 (115 : Int32)) (fun _ => bnd (wrc 60 a0 16 a1) (fun _ => bnd (wrc 60 a0 17 a2) (fun _ => bnd (wrcZ 60 a0 18 a3) (fun _ => bnd (rdc 60 a0 20) (fun v23 => bnd (wrc 60 a0 20 (v23 ||| ((1 : Int32) <<< (a1 &&& 31)))) (fun _ => rtn ()))))))
theorem yd_X0_stand : yX0_stand.cls = RX0 ∧ yX0_stand.cls ≠ "java/lang/invoke/MethodHandle" ∧ yX0_stand.cls ≠ "java/lang/invoke/VarHandle" ∧ (parseMethodDescriptor yX0_stand.desc).map (fun d => d.parameters.length) = some 3 := by decide +kernel
set_option maxHeartbeats 4000000 in
set_option maxRecDepth 100000 in
theorem c_X0_stand (l : Launch) (D : va_G) (w : Wc) (aS : Nat → Nat) (sk sv : Nat) (A : Nat → Prop) (a0 : Nat) (a1 : Int32) (a2 : Int32) (a3 : Int32) : CT l yX0_stand cX0_stand 4 none 0 0 (PC D w A) (ENVC D w aS sk sv A) A [vr w.2.2.2.2 37 60 a0, .int a1, .int a2, .int a3] (f_X0_stand a0 a1 a2 a3) vU := by
  refine CT.ofW (by decide) [(0, vr w.2.2.2.2 37 60 a0), (1, .int a1), (2, .int a2), (3, .int a3)] (by simp [lv_args, vr_cat, vc_i, vc_j, vc_f, vc_d, vc_r, vc_n]) (by simp [lg_sl, vr_cat, vc_i, vc_j, vc_f, vc_d, vc_r, vc_n]) ?_
  intro S0 E0 R p e s m args below meth c ls hE hRf hRl hRc K0 hr hlocks hEV hA hZ hl
  have K0 : CallFix p m c cX0_stand 4 s args GW RX0 := K0
  have hx := K0.1
  have hb := K0.2.1
  have hown := K0.2.2.2.1
  have hg := K0.2.2.2.2
  have hK := hEV.1
  have hok : EVok (ENVC D w aS sk sv A) A := ENVC.ok
  unfold f_X0_stand at hE
  refine vr_aload_n hx hb dX0_stand_0 rfl (lv_at hl 0 rfl) ?_
  refine lv_bipush (v := (115)) hx hb dX0_stand_1 (by decide +kernel) ?_
  refine p_CA_3 K0 hK hE hZ q168 dX0_stand_3 (fun S H locs hE hZ => ?_)
  refine vr_aload_n hx hb dX0_stand_6 rfl (lv_at hl 0 rfl) ?_
  refine lv_iload_n hx hb dX0_stand_7 rfl (lv_at hl 1 rfl) ?_
  refine p_CA_4 K0 hK hE hZ q171 dX0_stand_8 (fun S H locs hE hZ => ?_)
  refine vr_aload_n hx hb dX0_stand_11 rfl (lv_at hl 0 rfl) ?_
  refine lv_iload_n hx hb dX0_stand_12 rfl (lv_at hl 2 rfl) ?_
  refine p_CA_5 K0 hK hE hZ q174 dX0_stand_13 (fun S H locs hE hZ => ?_)
  refine vr_aload_n hx hb dX0_stand_16 rfl (lv_at hl 0 rfl) ?_
  refine lv_iload_n hx hb dX0_stand_17 rfl (lv_at hl 3 rfl) ?_
  refine p_CA_6 K0 hK hE hZ q177 dX0_stand_18 (fun S H locs hE hZ => ?_)
  refine vr_aload_n hx hb dX0_stand_21 rfl (lv_at hl 0 rfl) ?_
  refine lv_dup hx hb dX0_stand_22 vr_cat ?_
  refine g_CA_8 K0 hK hE hZ q182 dX0_stand_23 (fun v23 hE => ?_)
  refine lv_iconst (v := (1)) hx hb dX0_stand_26 (by decide +kernel) ?_
  refine lv_iload_n hx hb dX0_stand_27 rfl (lv_at hl 1 rfl) ?_
  refine lv_ishl hx hb dX0_stand_28 ?_
  refine lv_ior hx hb dX0_stand_29 ?_
  refine p_CA_8 K0 hK hE hZ q182 dX0_stand_30 (fun S H locs hE hZ => ?_)
  exact end_v K0 hr hlocks hE hZ dX0_stand_33
def f_X0_goAway (a0 : Nat) (a1 : Int32) : PM Unit := bnd (wrcC 60 a0 15 a1) (fun _ => bnd (wrc 60 a0 16 (-1 : Int32)) (fun _ => bnd (wrc 60 a0 17 (0 : Int32)) (fun _ => bnd (wrcZ 60 a0 18 (0 : Int32)) (fun _ => rtn ()))))
theorem yd_X0_goAway : yX0_goAway.cls = RX0 ∧ yX0_goAway.cls ≠ "java/lang/invoke/MethodHandle" ∧ yX0_goAway.cls ≠ "java/lang/invoke/VarHandle" ∧ (parseMethodDescriptor yX0_goAway.desc).map (fun d => d.parameters.length) = some 1 := by decide +kernel
set_option maxHeartbeats 4000000 in
set_option maxRecDepth 100000 in
theorem c_X0_goAway (l : Launch) (D : va_G) (w : Wc) (aS : Nat → Nat) (sk sv : Nat) (A : Nat → Prop) (a0 : Nat) (a1 : Int32) : CT l yX0_goAway cX0_goAway 2 none 0 0 (PC D w A) (ENVC D w aS sk sv A) A [vr w.2.2.2.2 37 60 a0, .int a1] (f_X0_goAway a0 a1) vU := by
  refine CT.ofW (by decide) [(0, vr w.2.2.2.2 37 60 a0), (1, .int a1)] (by simp [lv_args, vr_cat, vc_i, vc_j, vc_f, vc_d, vc_r, vc_n]) (by simp [lg_sl, vr_cat, vc_i, vc_j, vc_f, vc_d, vc_r, vc_n]) ?_
  intro S0 E0 R p e s m args below meth c ls hE hRf hRl hRc K0 hr hlocks hEV hA hZ hl
  have K0 : CallFix p m c cX0_goAway 2 s args GW RX0 := K0
  have hx := K0.1
  have hb := K0.2.1
  have hown := K0.2.2.2.1
  have hg := K0.2.2.2.2
  have hK := hEV.1
  have hok : EVok (ENVC D w aS sk sv A) A := ENVC.ok
  unfold f_X0_goAway at hE
  refine vr_aload_n hx hb dX0_goAway_0 rfl (lv_at hl 0 rfl) ?_
  refine lv_iload_n hx hb dX0_goAway_1 rfl (lv_at hl 1 rfl) ?_
  refine p_CA_3 K0 hK hE hZ q168 dX0_goAway_2 (fun S H locs hE hZ => ?_)
  refine vr_aload_n hx hb dX0_goAway_5 rfl (lv_at hl 0 rfl) ?_
  refine lv_iconst (v := (-1)) hx hb dX0_goAway_6 (by decide +kernel) ?_
  refine p_CA_4 K0 hK hE hZ q171 dX0_goAway_7 (fun S H locs hE hZ => ?_)
  refine vr_aload_n hx hb dX0_goAway_10 rfl (lv_at hl 0 rfl) ?_
  refine lv_iconst (v := (0)) hx hb dX0_goAway_11 (by decide +kernel) ?_
  refine p_CA_5 K0 hK hE hZ q174 dX0_goAway_12 (fun S H locs hE hZ => ?_)
  refine vr_aload_n hx hb dX0_goAway_15 rfl (lv_at hl 0 rfl) ?_
  refine lv_iconst (v := (0)) hx hb dX0_goAway_16 (by decide +kernel) ?_
  refine p_CA_6 K0 hK hE hZ q177 dX0_goAway_17 (fun S H locs hE hZ => ?_)
  exact end_v K0 hr hlocks hE hZ dX0_goAway_20
