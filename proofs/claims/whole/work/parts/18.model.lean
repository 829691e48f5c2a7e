/-! part 18: the reference (by program) -/
def f_X6_thrown  : PM Int32 := bnd (rdI 5 0 0) (fun v1 => rtn v1)
theorem yd_X6_thrown : yX6_thrown.cls = RX6 ∧ yX6_thrown.cls ≠ "java/lang/invoke/MethodHandle" ∧ yX6_thrown.cls ≠ "java/lang/invoke/VarHandle" ∧ (parseMethodDescriptor yX6_thrown.desc).map (fun d => d.parameters.length) = some 0 := by decide +kernel
set_option maxHeartbeats 4000000 in
set_option maxRecDepth 100000 in
theorem c_X6_thrown (l : Launch) (D : va_G) (w : Wm) (A : Nat → Prop) : CT l yX6_thrown cX6_thrown 1 (some .int) 0 0 (PMo D w A) (ENVM D w) A [.ref (w.2.2 0)] (f_X6_thrown ) vI := by
  refine CT.ofW (by decide) [(0, .ref (w.2.2 0))] (by simp [lv_args, vr_cat, vc_i, vc_j, vc_f, vc_d, vc_r, vc_n]) (by simp [lg_sl, vr_cat, vc_i, vc_j, vc_f, vc_d, vc_r, vc_n]) ?_
  intro S0 E0 R p e s m args below meth c ls hE hRf hRl hRc K0 hr hlocks hEV hA hZ hl
  have K0 : CallFix p m c cX6_thrown 1 s args GW RX6 := K0
  have hx := K0.1
  have hb := K0.2.1
  have hown := K0.2.2.2.1
  have hg := K0.2.2.2.2
  have hK := hEV
  have hok : EVok (ENVM D w) A := ENVM.ok
  unfold f_X6_thrown at hE
  refine lv_aload_n hx hb dX6_thrown_0 rfl (lv_at hl 0 rfl) ?_
  refine mg_19 K0 hK hE (nW := 14) (by omega) hZ q1089 dX6_thrown_1 (fun v1 hE => ?_)
  exact end_i K0 hr hlocks hE hZ dX6_thrown_4
def f_X6_in (a0 : Int64) (a1 : Int64) (a2 : Int64) : PM Int32 := if (lg_cmp a0 a1) < 0 then (rtnZ (0 : Int32)) else (if 0 < (lg_cmp a0 a2) then (rtnZ (0 : Int32)) else (rtnZ (1 : Int32)))
theorem yd_X6_in : yX6_in.cls = RX6 ∧ yX6_in.cls ≠ "java/lang/invoke/MethodHandle" ∧ yX6_in.cls ≠ "java/lang/invoke/VarHandle" ∧ (parseMethodDescriptor yX6_in.desc).map (fun d => d.parameters.length) = some 3 := by decide +kernel
set_option maxHeartbeats 4000000 in
set_option maxRecDepth 100000 in
theorem c_X6_in (l : Launch) (D : va_G) (w : Wm) (A : Nat → Prop) (a0 : Int64) (a1 : Int64) (a2 : Int64) : CT l yX6_in cX6_in 6 (some .boolean) 0 0 (PMo D w A) (ENVM D w) A [.long a0, .long a1, .long a2] (f_X6_in a0 a1 a2) vI := by
  refine CT.ofW (by decide) [(0, .long a0), (2, .long a1), (4, .long a2)] (by simp [lv_args, vr_cat, vc_i, vc_j, vc_f, vc_d, vc_r, vc_n]) (by simp [lg_sl, vr_cat, vc_i, vc_j, vc_f, vc_d, vc_r, vc_n]) ?_
  intro S0 E0 R p e s m args below meth c ls hE hRf hRl hRc K0 hr hlocks hEV hA hZ hl
  have K0 : CallFix p m c cX6_in 6 s args GW RX6 := K0
  have hx := K0.1
  have hb := K0.2.1
  have hown := K0.2.2.2.1
  have hg := K0.2.2.2.2
  have hK := hEV
  have hok : EVok (ENVM D w) A := ENVM.ok
  unfold f_X6_in at hE
  refine lv_lload_n hx hb dX6_in_0 rfl (lv_at hl 0 rfl) ?_
  refine lv_lload_n hx hb dX6_in_1 rfl (lv_at hl 1 rfl) ?_
  refine W.lcmp hx hb dX6_in_2 ?_
  refine lv_if_lt (tgt := 17) hx hb dX6_in_3 (by decide) (fun hc => ?_) (fun hc => ?_)
  · have hE := if_t hE hc
    refine lv_iconst (v := (0)) hx hb dX6_in_17 (by decide +kernel) ?_
    exact end_z K0 hr hlocks hE hZ dX6_in_18
  · have hE := if_f hE hc
    refine lv_lload_n hx hb dX6_in_6 rfl (lv_at hl 0 rfl) ?_
    refine lv_lload hx hb dX6_in_7 (lv_at hl 2 rfl) ?_
    refine W.lcmp hx hb dX6_in_9 ?_
    refine lv_if_gt (tgt := 17) hx hb dX6_in_10 (by decide) (fun hc => ?_) (fun hc => ?_)
    · have hE := if_t hE hc
      refine lv_iconst (v := (0)) hx hb dX6_in_17 (by decide +kernel) ?_
      exact end_z K0 hr hlocks hE hZ dX6_in_18
    · have hE := if_f hE hc
      refine lv_iconst (v := (1)) hx hb dX6_in_13 (by decide +kernel) ?_
      refine lv_goto (tgt := 18) hx hb dX6_in_14 (by decide) ?_
      exact end_z K0 hr hlocks hE hZ dX6_in_18
def f_X6_isPart (a0 : Int32) : PM Int32 := bnd (f_X6_in (a0.toInt64) (0 : Int64) (5 : Int64)) (fun v6 => rtnZ v6)
theorem yd_X6_isPart : yX6_isPart.cls = RX6 ∧ yX6_isPart.cls ≠ "java/lang/invoke/MethodHandle" ∧ yX6_isPart.cls ≠ "java/lang/invoke/VarHandle" ∧ (parseMethodDescriptor yX6_isPart.desc).map (fun d => d.parameters.length) = some 1 := by decide +kernel
set_option maxHeartbeats 4000000 in
set_option maxRecDepth 100000 in
theorem c_X6_isPart (l : Launch) (D : va_G) (w : Wm) (A : Nat → Prop) (a0 : Int32) : CT l yX6_isPart cX6_isPart 1 (some .boolean) 1 25 (PMo D w A) (ENVM D w) A [.int a0] (f_X6_isPart a0) vI := by
  refine CT.ofW (by decide) [(0, .int a0)] (by simp [lv_args, vr_cat, vc_i, vc_j, vc_f, vc_d, vc_r, vc_n]) (by simp [lg_sl, vr_cat, vc_i, vc_j, vc_f, vc_d, vc_r, vc_n]) ?_
  intro S0 E0 R p e s m args below meth c ls hE hRf hRl hRc K0 hr hlocks hEV hA hZ hl
  have K0 : CallFix p m c cX6_isPart 1 s args GW RX6 := K0
  have hx := K0.1
  have hb := K0.2.1
  have hown := K0.2.2.2.1
  have hg := K0.2.2.2.2
  have hK := hEV
  have hok : EVok (ENVM D w) A := ENVM.ok
  unfold f_X6_isPart at hE
  refine lv_iload_n hx hb dX6_isPart_0 rfl (lv_at hl 0 rfl) ?_
  refine lv_i2l hx hb dX6_isPart_1 rfl ?_
  refine lv_lconst (v := (0)) hx hb dX6_isPart_2 (by decide +kernel) ?_
  refine lv_ldc2 (v := (5)) hx hb hown (hg _ q1144) dX6_isPart_3 ?_
  refine call_S (rest := []) K0 hok hEV hA (c_X6_in l D w A (a0.toInt64) (0 : Int64) (5 : Int64)) q1140 q1141 q46 q1142 yd_X6_in ⟨by omega, by omega⟩ hRc hE hZ hl.1 rfl (Nat.le_of_ble_eq_true rfl) dX6_isPart_6 (fun v6 S H locs cells slots hE hZ => ?_)
  refine W.eq (g2 := F0 m 9 ls [.int v6]) rfl ?_
  exact end_z K0 hr hlocks hE hZ dX6_isPart_9
def f_X6_isCar (a1 : Int32) : PM Int32 := bnd (rdI 2 0 0) (fun v4 => bnd (f_X6_in (a1.toInt64) (0 : Int64) ((v4 - (1 : Int32)).toInt64)) (fun v10 => rtnZ v10))
theorem yd_X6_isCar : yX6_isCar.cls = RX6 ∧ yX6_isCar.cls ≠ "java/lang/invoke/MethodHandle" ∧ yX6_isCar.cls ≠ "java/lang/invoke/VarHandle" ∧ (parseMethodDescriptor yX6_isCar.desc).map (fun d => d.parameters.length) = some 1 := by decide +kernel
set_option maxHeartbeats 4000000 in
set_option maxRecDepth 100000 in
theorem c_X6_isCar (l : Launch) (D : va_G) (w : Wm) (A : Nat → Prop) (a1 : Int32) : CT l yX6_isCar cX6_isCar 2 (some .boolean) 1 25 (PMo D w A) (ENVM D w) A [.ref (w.2.2 0), .int a1] (f_X6_isCar a1) vI := by
  refine CT.ofW (by decide) [(0, .ref (w.2.2 0)), (1, .int a1)] (by simp [lv_args, vr_cat, vc_i, vc_j, vc_f, vc_d, vc_r, vc_n]) (by simp [lg_sl, vr_cat, vc_i, vc_j, vc_f, vc_d, vc_r, vc_n]) ?_
  intro S0 E0 R p e s m args below meth c ls hE hRf hRl hRc K0 hr hlocks hEV hA hZ hl
  have K0 : CallFix p m c cX6_isCar 2 s args GW RX6 := K0
  have hx := K0.1
  have hb := K0.2.1
  have hown := K0.2.2.2.1
  have hg := K0.2.2.2.2
  have hK := hEV
  have hok : EVok (ENVM D w) A := ENVM.ok
  unfold f_X6_isCar at hE
  refine lv_iload_n hx hb dX6_isCar_0 rfl (lv_at hl 1 rfl) ?_
  refine lv_i2l hx hb dX6_isCar_1 rfl ?_
  refine lv_lconst (v := (0)) hx hb dX6_isCar_2 (by decide +kernel) ?_
  refine lv_aload_n hx hb dX6_isCar_3 rfl (lv_at hl 0 rfl) ?_
  refine mg_11 K0 hK hE (nW := 14) (by omega) hZ q1081 dX6_isCar_4 (fun v4 hE => ?_)
  refine lv_iconst (v := (1)) hx hb dX6_isCar_7 (by decide +kernel) ?_
  refine lv_isub hx hb dX6_isCar_8 ?_
  refine lv_i2l hx hb dX6_isCar_9 rfl ?_
  refine call_S (rest := []) K0 hok hEV hA (c_X6_in l D w A (a1.toInt64) (0 : Int64) ((v4 - (1 : Int32)).toInt64)) q1140 q1141 q46 q1142 yd_X6_in ⟨by omega, by omega⟩ hRc hE hZ hl.1 rfl (Nat.le_of_ble_eq_true rfl) dX6_isCar_10 (fun v10 S H locs cells slots hE hZ => ?_)
  refine W.eq (g2 := F0 m 13 ls [.int v10]) rfl ?_
  exact end_z K0 hr hlocks hE hZ dX6_isCar_13
def f_X6_isStation (a1 : Int32) : PM Int32 := bnd (rdI 0 0 0) (fun v4 => bnd (f_X6_in (a1.toInt64) (0 : Int64) ((v4 - (1 : Int32)).toInt64)) (fun v10 => rtnZ v10))
theorem yd_X6_isStation : yX6_isStation.cls = RX6 ∧ yX6_isStation.cls ≠ "java/lang/invoke/MethodHandle" ∧ yX6_isStation.cls ≠ "java/lang/invoke/VarHandle" ∧ (parseMethodDescriptor yX6_isStation.desc).map (fun d => d.parameters.length) = some 1 := by decide +kernel
set_option maxHeartbeats 4000000 in
set_option maxRecDepth 100000 in
theorem c_X6_isStation (l : Launch) (D : va_G) (w : Wm) (A : Nat → Prop) (a1 : Int32) : CT l yX6_isStation cX6_isStation 2 (some .boolean) 1 25 (PMo D w A) (ENVM D w) A [.ref (w.2.2 0), .int a1] (f_X6_isStation a1) vI := by
  refine CT.ofW (by decide) [(0, .ref (w.2.2 0)), (1, .int a1)] (by simp [lv_args, vr_cat, vc_i, vc_j, vc_f, vc_d, vc_r, vc_n]) (by simp [lg_sl, vr_cat, vc_i, vc_j, vc_f, vc_d, vc_r, vc_n]) ?_
  intro S0 E0 R p e s m args below meth c ls hE hRf hRl hRc K0 hr hlocks hEV hA hZ hl
  have K0 : CallFix p m c cX6_isStation 2 s args GW RX6 := K0
  have hx := K0.1
  have hb := K0.2.1
  have hown := K0.2.2.2.1
  have hg := K0.2.2.2.2
  have hK := hEV
  have hok : EVok (ENVM D w) A := ENVM.ok
  unfold f_X6_isStation at hE
  refine lv_iload_n hx hb dX6_isStation_0 rfl (lv_at hl 1 rfl) ?_
  refine lv_i2l hx hb dX6_isStation_1 rfl ?_
  refine lv_lconst (v := (0)) hx hb dX6_isStation_2 (by decide +kernel) ?_
  refine lv_aload_n hx hb dX6_isStation_3 rfl (lv_at hl 0 rfl) ?_
  refine mg_5 K0 hK hE (nW := 14) (by omega) hZ q1075 dX6_isStation_4 (fun v4 hE => ?_)
  refine lv_iconst (v := (1)) hx hb dX6_isStation_7 (by decide +kernel) ?_
  refine lv_isub hx hb dX6_isStation_8 ?_
  refine lv_i2l hx hb dX6_isStation_9 rfl ?_
  refine call_S (rest := []) K0 hok hEV hA (c_X6_in l D w A (a1.toInt64) (0 : Int64) ((v4 - (1 : Int32)).toInt64)) q1140 q1141 q46 q1142 yd_X6_in ⟨by omega, by omega⟩ hRc hE hZ hl.1 rfl (Nat.le_of_ble_eq_true rfl) dX6_isStation_10 (fun v10 S H locs cells slots hE hZ => ?_)
  refine W.eq (g2 := F0 m 13 ls [.int v10]) rfl ?_
  exact end_z K0 hr hlocks hE hZ dX6_isStation_13
def f_X6_waitsAt_L2 : Nat → Int32 → Int32 → PM Int32
  | 0, _, _ => fail
  | n9 + 1, u1, u2 => bnd (mld 20 237 ((142 : Int32) + u2)) (fun v11 => if v11 = u1 then (rtn u2) else (f_X6_waitsAt_L2 n9 u1 (u2 + (1 : Int32))))
def f_X6_waitsAt (a1 : Int32) : PM Int32 := f_X6_waitsAt_L2 400 a1 (0 : Int32)
theorem yd_X6_waitsAt : yX6_waitsAt.cls = RX6 ∧ yX6_waitsAt.cls ≠ "java/lang/invoke/MethodHandle" ∧ yX6_waitsAt.cls ≠ "java/lang/invoke/VarHandle" ∧ (parseMethodDescriptor yX6_waitsAt.desc).map (fun d => d.parameters.length) = some 1 := by decide +kernel
set_option maxHeartbeats 4000000 in
set_option maxRecDepth 100000 in
theorem c_X6_waitsAt (l : Launch) (D : va_G) (w : Wm) (A : Nat → Prop) (a1 : Int32) : CT l yX6_waitsAt cX6_waitsAt 3 (some .int) 0 0 (PMo D w A) (ENVM D w) A [.ref (w.2.2 0), .int a1] (f_X6_waitsAt a1) vI := by
  refine CT.ofW (by decide) [(0, .ref (w.2.2 0)), (1, .int a1)] (by simp [lv_args, vr_cat, vc_i, vc_j, vc_f, vc_d, vc_r, vc_n]) (by simp [lg_sl, vr_cat, vc_i, vc_j, vc_f, vc_d, vc_r, vc_n]) ?_
  intro S0 E0 R p e s m args below meth c ls hE hRf hRl hRc K0 hr hlocks hEV hA hZ hl
  have K0 : CallFix p m c cX6_waitsAt 3 s args GW RX6 := K0
  have hx := K0.1
  have hb := K0.2.1
  have hown := K0.2.2.2.1
  have hg := K0.2.2.2.2
  have hK := hEV
  have hok : EVok (ENVM D w) A := ENVM.ok
  have j2 : ∀ (n9 : Nat) (u1 : Int32) (u2 : Int32) (S : St) (H : Heap) (locs : List Loc) (cells slots : Nat) (ls : Array Slot), (f_X6_waitsAt_L2 n9 u1 u2).1 S = some E0 → ZZ D 14 (adrM w) (celM w) A S0 s.heap S H locs cells slots → lv_has ls 3 [(0, .ref (w.2.2 0)), (1, .int u1), (2, .int u2)] → W p l e R s m args below meth c H locs cells slots (MQ below (QE E0 vI (PMo D w A) A) args s (gN E0.2 7 0 - gN S0 7 0) (gN E0.2 3 0 - gN S0 3 0) A) (F0 m 2 ls []) := by
    intro n9
    induction n9 with
    | zero =>
      intro u1 u2 S H locs cells slots ls hE hZ hl
      rw [f_X6_waitsAt_L2] at hE
      cases hE
    | succ n9 ih =>
      intro u1 u2 S H locs cells slots ls hE hZ hl
      rw [f_X6_waitsAt_L2] at hE
      refine lv_aload_n hx hb dX6_waitsAt_2 rfl (lv_at hl 0 rfl) ?_
      refine mg_12 K0 hK (nW := 14) (by omega) hZ q1082 dX6_waitsAt_3 ?_
      refine lv_sipush (v := (142)) hx hb dX6_waitsAt_6 (by decide +kernel) ?_
      refine lv_iload_n hx hb dX6_waitsAt_9 rfl (lv_at hl 2 rfl) ?_
      refine lv_iadd hx hb dX6_waitsAt_10 ?_
      refine ma_20 K0 hK hE (nW := 14) (by omega) hZ dX6_waitsAt_11 (fun v11 hE => ?_)
      refine lv_iload_n hx hb dX6_waitsAt_12 rfl (lv_at hl 1 rfl) ?_
      refine lv_icmp_eq (tgt := 22) hx hb dX6_waitsAt_13 (by decide) (fun hc => ?_) (fun hc => ?_)
      · have hE := if_t hE hc
        refine lv_iload_n hx hb dX6_waitsAt_22 rfl (lv_at hl 2 rfl) ?_
        exact end_i K0 hr hlocks hE hZ dX6_waitsAt_23
      · have hE := if_f hE hc
        refine lv_iinc (v := (u2 + (1 : Int32))) (lv' := [(2, .int (u2 + (1 : Int32))), (0, .ref (w.2.2 0)), (1, .int u1)]) hx hb dX6_waitsAt_16 hl (k := 2) rfl rfl (by decide) rfl (fun ls hl => ?_)
        refine lv_goto (tgt := 2) hx hb dX6_waitsAt_19 (by decide) ?_
        exact ih u1 (u2 + (1 : Int32)) _ _ _ _ _ _ hE hZ (lv_sub hl [1, 2, 0] rfl)
  unfold f_X6_waitsAt at hE
  refine lv_iconst (v := (0)) hx hb dX6_waitsAt_0 (by decide +kernel) ?_
  refine lv_istore_n (i := 2) (lv' := [(2, .int (0 : Int32)), (0, .ref (w.2.2 0)), (1, .int a1)]) hx hb dX6_waitsAt_1 rfl hl (by decide) rfl (fun ls hl => ?_)
  exact j2 400 a1 (0 : Int32) _ _ _ _ _ _ hE hZ (lv_sub hl [1, 2, 0] rfl)
def f_X6_many_L4 : Nat → Int32 → Int32 → Int32 → PM Int32
  | 0, _, _, _ => fail
  | n9 + 1, u0, u1, u2 => if (8 : Int32) ≤ u2 then (rtn u1) else (bnd (rtn (u1 + ((u0 >>> (u2 &&& 31)) &&& (1 : Int32)))) (fun w17 => f_X6_many_L4 n9 u0 w17 (u2 + (1 : Int32))))
def f_X6_many (a0 : Int32) : PM Int32 := f_X6_many_L4 400 a0 (0 : Int32) (0 : Int32)
theorem yd_X6_many : yX6_many.cls = RX6 ∧ yX6_many.cls ≠ "java/lang/invoke/MethodHandle" ∧ yX6_many.cls ≠ "java/lang/invoke/VarHandle" ∧ (parseMethodDescriptor yX6_many.desc).map (fun d => d.parameters.length) = some 1 := by decide +kernel
set_option maxHeartbeats 4000000 in
set_option maxRecDepth 100000 in
theorem c_X6_many (l : Launch) (D : va_G) (w : Wm) (A : Nat → Prop) (a0 : Int32) : CT l yX6_many cX6_many 3 (some .int) 0 0 (PMo D w A) (ENVM D w) A [.int a0] (f_X6_many a0) vI := by
  refine CT.ofW (by decide) [(0, .int a0)] (by simp [lv_args, vr_cat, vc_i, vc_j, vc_f, vc_d, vc_r, vc_n]) (by simp [lg_sl, vr_cat, vc_i, vc_j, vc_f, vc_d, vc_r, vc_n]) ?_
  intro S0 E0 R p e s m args below meth c ls hE hRf hRl hRc K0 hr hlocks hEV hA hZ hl
  have K0 : CallFix p m c cX6_many 3 s args GW RX6 := K0
  have hx := K0.1
  have hb := K0.2.1
  have hown := K0.2.2.2.1
  have hg := K0.2.2.2.2
  have hK := hEV
  have hok : EVok (ENVM D w) A := ENVM.ok
  have j4 : ∀ (n9 : Nat) (u0 : Int32) (u1 : Int32) (u2 : Int32) (S : St) (H : Heap) (locs : List Loc) (cells slots : Nat) (ls : Array Slot), (f_X6_many_L4 n9 u0 u1 u2).1 S = some E0 → ZZ D 14 (adrM w) (celM w) A S0 s.heap S H locs cells slots → lv_has ls 3 [(0, .int u0), (1, .int u1), (2, .int u2)] → W p l e R s m args below meth c H locs cells slots (MQ below (QE E0 vI (PMo D w A) A) args s (gN E0.2 7 0 - gN S0 7 0) (gN E0.2 3 0 - gN S0 3 0) A) (F0 m 4 ls []) := by
    intro n9
    induction n9 with
    | zero =>
      intro u0 u1 u2 S H locs cells slots ls hE hZ hl
      rw [f_X6_many_L4] at hE
      cases hE
    | succ n9 ih =>
      intro u0 u1 u2 S H locs cells slots ls hE hZ hl
      rw [f_X6_many_L4] at hE
      refine lv_iload_n hx hb dX6_many_4 rfl (lv_at hl 2 rfl) ?_
      refine lv_bipush (v := (8)) hx hb dX6_many_5 (by decide +kernel) ?_
      refine lv_icmp_ge (tgt := 24) hx hb dX6_many_7 (by decide) (fun hc => ?_) (fun hc => ?_)
      · have hE := if_t hE hc
        refine lv_iload_n hx hb dX6_many_24 rfl (lv_at hl 1 rfl) ?_
        exact end_i K0 hr hlocks hE hZ dX6_many_25
      · have hE := if_f hE hc
        refine lv_iload_n hx hb dX6_many_10 rfl (lv_at hl 1 rfl) ?_
        refine lv_iload_n hx hb dX6_many_11 rfl (lv_at hl 0 rfl) ?_
        refine lv_iload_n hx hb dX6_many_12 rfl (lv_at hl 2 rfl) ?_
        refine lv_ishr hx hb dX6_many_13 ?_
        refine lv_iconst (v := (1)) hx hb dX6_many_14 (by decide +kernel) ?_
        refine lv_iand hx hb dX6_many_15 ?_
        refine lv_iadd hx hb dX6_many_16 ?_
        refine let_i hE (fun w17 hE => ?_)
        refine lv_istore_n (i := 1) (lv' := [(1, .int w17), (0, .int u0), (2, .int u2)]) hx hb dX6_many_17 rfl hl (by decide) rfl (fun ls hl => ?_)
        refine lv_iinc (v := (u2 + (1 : Int32))) (lv' := [(2, .int (u2 + (1 : Int32))), (1, .int w17), (0, .int u0)]) hx hb dX6_many_18 hl (k := 2) rfl rfl (by decide) rfl (fun ls hl => ?_)
        refine lv_goto (tgt := 4) hx hb dX6_many_21 (by decide) ?_
        exact ih u0 w17 (u2 + (1 : Int32)) _ _ _ _ _ _ hE hZ (lv_sub hl [2, 1, 0] rfl)
  unfold f_X6_many at hE
  refine lv_iconst (v := (0)) hx hb dX6_many_0 (by decide +kernel) ?_
  refine lv_istore_n (i := 1) (lv' := [(1, .int (0 : Int32)), (0, .int a0)]) hx hb dX6_many_1 rfl hl (by decide) rfl (fun ls hl => ?_)
  refine lv_iconst (v := (0)) hx hb dX6_many_2 (by decide +kernel) ?_
  refine lv_istore_n (i := 2) (lv' := [(2, .int (0 : Int32)), (1, .int (0 : Int32)), (0, .int a0)]) hx hb dX6_many_3 rfl hl (by decide) rfl (fun ls hl => ?_)
  exact j4 400 a0 (0 : Int32) (0 : Int32) _ _ _ _ _ _ hE hZ (lv_sub hl [2, 1, 0] rfl)
def f_X6_lowest_L2 : Nat → Int32 → Int32 → PM Int32
  | 0, _, _ => fail
  | n9 + 1, u0, u1 => if ((u0 >>> (u1 &&& 31)) &&& (1 : Int32)) = 0 then (f_X6_lowest_L2 n9 u0 (u1 + (1 : Int32))) else (rtn u1)
def f_X6_lowest (a0 : Int32) : PM Int32 := f_X6_lowest_L2 400 a0 (0 : Int32)
theorem yd_X6_lowest : yX6_lowest.cls = RX6 ∧ yX6_lowest.cls ≠ "java/lang/invoke/MethodHandle" ∧ yX6_lowest.cls ≠ "java/lang/invoke/VarHandle" ∧ (parseMethodDescriptor yX6_lowest.desc).map (fun d => d.parameters.length) = some 1 := by decide +kernel
set_option maxHeartbeats 4000000 in
set_option maxRecDepth 100000 in
theorem c_X6_lowest (l : Launch) (D : va_G) (w : Wm) (A : Nat → Prop) (a0 : Int32) : CT l yX6_lowest cX6_lowest 2 (some .int) 0 0 (PMo D w A) (ENVM D w) A [.int a0] (f_X6_lowest a0) vI := by
  refine CT.ofW (by decide) [(0, .int a0)] (by simp [lv_args, vr_cat, vc_i, vc_j, vc_f, vc_d, vc_r, vc_n]) (by simp [lg_sl, vr_cat, vc_i, vc_j, vc_f, vc_d, vc_r, vc_n]) ?_
  intro S0 E0 R p e s m args below meth c ls hE hRf hRl hRc K0 hr hlocks hEV hA hZ hl
  have K0 : CallFix p m c cX6_lowest 2 s args GW RX6 := K0
  have hx := K0.1
  have hb := K0.2.1
  have hown := K0.2.2.2.1
  have hg := K0.2.2.2.2
  have hK := hEV
  have hok : EVok (ENVM D w) A := ENVM.ok
  have j2 : ∀ (n9 : Nat) (u0 : Int32) (u1 : Int32) (S : St) (H : Heap) (locs : List Loc) (cells slots : Nat) (ls : Array Slot), (f_X6_lowest_L2 n9 u0 u1).1 S = some E0 → ZZ D 14 (adrM w) (celM w) A S0 s.heap S H locs cells slots → lv_has ls 2 [(0, .int u0), (1, .int u1)] → W p l e R s m args below meth c H locs cells slots (MQ below (QE E0 vI (PMo D w A) A) args s (gN E0.2 7 0 - gN S0 7 0) (gN E0.2 3 0 - gN S0 3 0) A) (F0 m 2 ls []) := by
    intro n9
    induction n9 with
    | zero =>
      intro u0 u1 S H locs cells slots ls hE hZ hl
      rw [f_X6_lowest_L2] at hE
      cases hE
    | succ n9 ih =>
      intro u0 u1 S H locs cells slots ls hE hZ hl
      rw [f_X6_lowest_L2] at hE
      refine lv_iload_n hx hb dX6_lowest_2 rfl (lv_at hl 0 rfl) ?_
      refine lv_iload_n hx hb dX6_lowest_3 rfl (lv_at hl 1 rfl) ?_
      refine lv_ishr hx hb dX6_lowest_4 ?_
      refine lv_iconst (v := (1)) hx hb dX6_lowest_5 (by decide +kernel) ?_
      refine lv_iand hx hb dX6_lowest_6 ?_
      refine lv_if_ne (tgt := 16) hx hb dX6_lowest_7 (by decide) (fun hc => ?_) (fun hc => ?_)
      · have hE := if_f hE hc
        refine lv_iload_n hx hb dX6_lowest_16 rfl (lv_at hl 1 rfl) ?_
        exact end_i K0 hr hlocks hE hZ dX6_lowest_17
      · have hE := if_t hE hc
        refine lv_iinc (v := (u1 + (1 : Int32))) (lv' := [(1, .int (u1 + (1 : Int32))), (0, .int u0)]) hx hb dX6_lowest_10 hl (k := 1) rfl rfl (by decide) rfl (fun ls hl => ?_)
        refine lv_goto (tgt := 2) hx hb dX6_lowest_13 (by decide) ?_
        exact ih u0 (u1 + (1 : Int32)) _ _ _ _ _ _ hE hZ (lv_sub hl [1, 0] rfl)
  unfold f_X6_lowest at hE
  refine lv_iconst (v := (0)) hx hb dX6_lowest_0 (by decide +kernel) ?_
  refine lv_istore_n (i := 1) (lv' := [(1, .int (0 : Int32)), (0, .int a0)]) hx hb dX6_lowest_1 rfl hl (by decide) rfl (fun ls hl => ?_)
  exact j2 400 a0 (0 : Int32) _ _ _ _ _ _ hE hZ (lv_sub hl [1, 0] rfl)
def f_X6_writes_J91 (u1 : Int32) (u2 : Int32) : PM Unit := bnd (rdN 1 0) (fun v92 => bnd (rdI 4 0 0) (fun v96 => bnd (mvS 1 0 0 22 v92 v96 ((u2.toUInt32 % 65536).toInt32)) (fun _ => bnd (rdN 1 1) (fun v102 => bnd (rdI 4 0 0) (fun v106 => bnd (mvS 1 0 1 23 v102 v106 (u1)) (fun _ => bnd (rdI 4 0 0) (fun v113 => bnd (wrI 4 0 0 (v113 + (1 : Int32))) (fun _ => rtn ()))))))))
def f_X6_writes_L42 : Nat → Int32 → Int32 → Nat → Nat → Int32 → PM Unit
  | 0, _, _, _, _, _ => fail
  | n9 + 1, u1, u2, u3, u4, u5 => bnd (rdI 4 0 0) (fun v45 => if v45 ≤ u5 then (bnd (mSwap 0 u3) (fun _ => bnd (mSwap 1 u4) (fun _ => bnd (rdN 1 0) (fun v92 => bnd (rdI 4 0 0) (fun v96 => bnd (mvS 1 0 0 22 v92 v96 ((u2.toUInt32 % 65536).toInt32)) (fun _ => bnd (rdN 1 1) (fun v102 => bnd (rdI 4 0 0) (fun v106 => bnd (mvS 1 0 1 23 v102 v106 (u1)) (fun _ => bnd (rdI 4 0 0) (fun v113 => bnd (wrI 4 0 0 (v113 + (1 : Int32))) (fun _ => rtn ()))))))))))) else (bnd (rdN 1 0) (fun v55 => bnd (mvL 1 0 0 22 v55 u5) (fun v60 => bnd (mvS 5 6 0 30 u3 u5 ((v60.toUInt32 % 65536).toInt32)) (fun _ => bnd (rdN 1 1) (fun v67 => bnd (mvL 1 0 1 23 v67 u5) (fun v72 => bnd (mvS 5 6 1 31 u4 u5 (v72)) (fun _ => f_X6_writes_L42 n9 u1 u2 u3 u4 (u5 + (1 : Int32))))))))))
def f_X6_writes (a1 : Int32) (a2 : Int32) : PM Unit := bnd (rdI 3 0 0) (fun v1 => if v1 = 0 then (bnd (rdI 4 0 0) (fun v9 => bnd (rdN 1 0) (fun v13 => bnd (mvN 1 0 0 v13) (fun v16 => if v9 = v16 then (bnd (rdI 4 0 0) (fun v22 => bnd (mNew 0 ((2 : Int32) * v22)) (fun v26 => bnd (rdI 4 0 0) (fun v31 => bnd (mNew 1 ((2 : Int32) * v31)) (fun v35 => f_X6_writes_L42 2097152 a1 a2 v26 v35 (0 : Int32)))))) else (f_X6_writes_J91 a1 a2))))) else (rtn ()))
theorem yd_X6_writes : yX6_writes.cls = RX6 ∧ yX6_writes.cls ≠ "java/lang/invoke/MethodHandle" ∧ yX6_writes.cls ≠ "java/lang/invoke/VarHandle" ∧ (parseMethodDescriptor yX6_writes.desc).map (fun d => d.parameters.length) = some 2 := by decide +kernel
set_option maxHeartbeats 4000000 in
set_option maxRecDepth 100000 in
theorem c_X6_writes (l : Launch) (D : va_G) (w : Wm) (A : Nat → Prop) (a1 : Int32) (a2 : Int32) : CT l yX6_writes cX6_writes 6 none 0 0 (PMo D w A) (ENVM D w) A [.ref (w.2.2 0), .int a1, .int a2] (f_X6_writes a1 a2) vU := by
  refine CT.ofW (by decide) [(0, .ref (w.2.2 0)), (1, .int a1), (2, .int a2)] (by simp [lv_args, vr_cat, vc_i, vc_j, vc_f, vc_d, vc_r, vc_n]) (by simp [lg_sl, vr_cat, vc_i, vc_j, vc_f, vc_d, vc_r, vc_n]) ?_
  intro S0 E0 R p e s m args below meth c ls hE hRf hRl hRc K0 hr hlocks hEV hA hZ hl
  have K0 : CallFix p m c cX6_writes 6 s args GW RX6 := K0
  have hx := K0.1
  have hb := K0.2.1
  have hown := K0.2.2.2.1
  have hg := K0.2.2.2.2
  have hK := hEV
  have hok : EVok (ENVM D w) A := ENVM.ok
  have j91 : ∀ (u1 : Int32) (u2 : Int32) (S : St) (H : Heap) (locs : List Loc) (cells slots : Nat) (ls : Array Slot), (f_X6_writes_J91 u1 u2).1 S = some E0 → ZZ D 14 (adrM w) (celM w) A S0 s.heap S H locs cells slots → lv_has ls 6 [(0, .ref (w.2.2 0)), (1, .int u1), (2, .int u2)] → W p l e R s m args below meth c H locs cells slots (MQ below (QE E0 vU (PMo D w A) A) args s (gN E0.2 7 0 - gN S0 7 0) (gN E0.2 3 0 - gN S0 3 0) A) (F0 m 91 ls []) := by
    intro u1 u2 S H locs cells slots ls hE hZ hl
    unfold f_X6_writes_J91 at hE
    refine lv_aload_n hx hb dX6_writes_91 rfl (lv_at hl 0 rfl) ?_
    refine mg_15 K0 hK hE (nW := 14) (by omega) hZ q1085 dX6_writes_92 (fun v92 hE => ?_)
    refine lv_aload_n hx hb dX6_writes_95 rfl (lv_at hl 0 rfl) ?_
    refine mg_17 K0 hK hE (nW := 14) (by omega) hZ q1087 dX6_writes_96 (fun v96 hE => ?_)
    refine lv_iload_n hx hb dX6_writes_99 rfl (lv_at hl 2 rfl) ?_
    refine ms_TS K0 hK hE (nW := 14) (by omega) hZ dX6_writes_100 (fun S H locs hE hZ => ?_)
    refine lv_aload_n hx hb dX6_writes_101 rfl (lv_at hl 0 rfl) ?_
    refine mg_16 K0 hK hE (nW := 14) (by omega) hZ q1086 dX6_writes_102 (fun v102 hE => ?_)
    refine lv_aload_n hx hb dX6_writes_105 rfl (lv_at hl 0 rfl) ?_
    refine mg_17 K0 hK hE (nW := 14) (by omega) hZ q1087 dX6_writes_106 (fun v106 hE => ?_)
    refine lv_iload_n hx hb dX6_writes_109 rfl (lv_at hl 1 rfl) ?_
    refine ms_TC K0 hK hE (nW := 14) (by omega) hZ dX6_writes_110 (fun S H locs hE hZ => ?_)
    refine lv_aload_n hx hb dX6_writes_111 rfl (lv_at hl 0 rfl) ?_
    refine lv_dup hx hb dX6_writes_112 rfl ?_
    refine mg_17 K0 hK hE (nW := 14) (by omega) hZ q1087 dX6_writes_113 (fun v113 hE => ?_)
    refine lv_iconst (v := (1)) hx hb dX6_writes_116 (by decide +kernel) ?_
    refine lv_iadd hx hb dX6_writes_117 ?_
    refine mp_17 K0 hK hE (nW := 14) (by omega) hZ q1087 dX6_writes_118 (fun S H locs hE hZ => ?_)
    exact end_v K0 hr hlocks hE hZ dX6_writes_121
  have j42 : ∀ (n9 : Nat) (u1 : Int32) (u2 : Int32) (u3 : Nat) (u4 : Nat) (u5 : Int32) (S : St) (H : Heap) (locs : List Loc) (cells slots : Nat) (ls : Array Slot), (f_X6_writes_L42 n9 u1 u2 u3 u4 u5).1 S = some E0 → ZZ D 16 (adrM w) (celM w) A S0 s.heap S H locs cells slots → lv_has ls 6 [(0, .ref (w.2.2 0)), (1, .int u1), (2, .int u2), (3, .ref u3), (4, .ref u4), (5, .int u5)] → W p l e R s m args below meth c H locs cells slots (MQ below (QE E0 vU (PMo D w A) A) args s (gN E0.2 7 0 - gN S0 7 0) (gN E0.2 3 0 - gN S0 3 0) A) (F0 m 42 ls []) := by
    intro n9
    induction n9 with
    | zero =>
      intro u1 u2 u3 u4 u5 S H locs cells slots ls hE hZ hl
      rw [f_X6_writes_L42] at hE
      cases hE
    | succ n9 ih =>
      intro u1 u2 u3 u4 u5 S H locs cells slots ls hE hZ hl
      rw [f_X6_writes_L42] at hE
      refine lv_iload hx hb dX6_writes_42 (lv_at hl 5 rfl) ?_
      refine lv_aload_n hx hb dX6_writes_44 rfl (lv_at hl 0 rfl) ?_
      refine mg_17 K0 hK hE (nW := 16) (by omega) hZ q1087 dX6_writes_45 (fun v45 hE => ?_)
      refine lv_icmp_ge (tgt := 80) hx hb dX6_writes_48 (by decide) (fun hc => ?_) (fun hc => ?_)
      · have hE := if_t hE hc
        refine lv_aload_n hx hb dX6_writes_80 rfl (lv_at hl 0 rfl) ?_
        refine lv_aload_n hx hb dX6_writes_81 rfl (lv_at hl 3 rfl) ?_
        refine m_swap0 K0 hK hE hZ q1085 dX6_writes_82 (fun S H locs hE hZ => ?_)
        refine lv_aload_n hx hb dX6_writes_85 rfl (lv_at hl 0 rfl) ?_
        refine lv_aload hx hb dX6_writes_86 (lv_at hl 4 rfl) ?_
        refine m_swap1 K0 hK hE hZ q1086 dX6_writes_88 (fun S H locs hE hZ => ?_)
        refine lv_aload_n hx hb dX6_writes_91 rfl (lv_at hl 0 rfl) ?_
        refine mg_15 K0 hK hE (nW := 14) (by omega) hZ q1085 dX6_writes_92 (fun v92 hE => ?_)
        refine lv_aload_n hx hb dX6_writes_95 rfl (lv_at hl 0 rfl) ?_
        refine mg_17 K0 hK hE (nW := 14) (by omega) hZ q1087 dX6_writes_96 (fun v96 hE => ?_)
        refine lv_iload_n hx hb dX6_writes_99 rfl (lv_at hl 2 rfl) ?_
        refine ms_TS K0 hK hE (nW := 14) (by omega) hZ dX6_writes_100 (fun S H locs hE hZ => ?_)
        refine lv_aload_n hx hb dX6_writes_101 rfl (lv_at hl 0 rfl) ?_
        refine mg_16 K0 hK hE (nW := 14) (by omega) hZ q1086 dX6_writes_102 (fun v102 hE => ?_)
        refine lv_aload_n hx hb dX6_writes_105 rfl (lv_at hl 0 rfl) ?_
        refine mg_17 K0 hK hE (nW := 14) (by omega) hZ q1087 dX6_writes_106 (fun v106 hE => ?_)
        refine lv_iload_n hx hb dX6_writes_109 rfl (lv_at hl 1 rfl) ?_
        refine ms_TC K0 hK hE (nW := 14) (by omega) hZ dX6_writes_110 (fun S H locs hE hZ => ?_)
        refine lv_aload_n hx hb dX6_writes_111 rfl (lv_at hl 0 rfl) ?_
        refine lv_dup hx hb dX6_writes_112 rfl ?_
        refine mg_17 K0 hK hE (nW := 14) (by omega) hZ q1087 dX6_writes_113 (fun v113 hE => ?_)
        refine lv_iconst (v := (1)) hx hb dX6_writes_116 (by decide +kernel) ?_
        refine lv_iadd hx hb dX6_writes_117 ?_
        refine mp_17 K0 hK hE (nW := 14) (by omega) hZ q1087 dX6_writes_118 (fun S H locs hE hZ => ?_)
        exact end_v K0 hr hlocks hE hZ dX6_writes_121
      · have hE := if_f hE hc
        refine lv_aload_n hx hb dX6_writes_51 rfl (lv_at hl 3 rfl) ?_
        refine lv_iload hx hb dX6_writes_52 (lv_at hl 5 rfl) ?_
        refine lv_aload_n hx hb dX6_writes_54 rfl (lv_at hl 0 rfl) ?_
        refine mg_15 K0 hK hE (nW := 16) (by omega) hZ q1085 dX6_writes_55 (fun v55 hE => ?_)
        refine lv_iload hx hb dX6_writes_58 (lv_at hl 5 rfl) ?_
        refine ma_TS K0 hK hE (nW := 16) (by omega) hZ dX6_writes_60 (fun v60 hE => ?_)
        refine ms_S0 K0 hK hE (by omega) (nW := 16) (by omega) hZ dX6_writes_61 (fun S H locs hE hZ => ?_)
        refine lv_aload hx hb dX6_writes_62 (lv_at hl 4 rfl) ?_
        refine lv_iload hx hb dX6_writes_64 (lv_at hl 5 rfl) ?_
        refine lv_aload_n hx hb dX6_writes_66 rfl (lv_at hl 0 rfl) ?_
        refine mg_16 K0 hK hE (nW := 16) (by omega) hZ q1086 dX6_writes_67 (fun v67 hE => ?_)
        refine lv_iload hx hb dX6_writes_70 (lv_at hl 5 rfl) ?_
        refine ma_TC K0 hK hE (nW := 16) (by omega) hZ dX6_writes_72 (fun v72 hE => ?_)
        refine ms_S1 K0 hK hE (by omega) (nW := 16) (by omega) hZ dX6_writes_73 (fun S H locs hE hZ => ?_)
        refine lv_iinc (v := (u5 + (1 : Int32))) (lv' := [(5, .int (u5 + (1 : Int32))), (0, .ref (w.2.2 0)), (1, .int u1), (2, .int u2), (3, .ref u3), (4, .ref u4)]) hx hb dX6_writes_74 hl (k := 5) rfl rfl (by decide) rfl (fun ls hl => ?_)
        refine lv_goto (tgt := 42) hx hb dX6_writes_77 (by decide) ?_
        exact ih u1 u2 u3 u4 (u5 + (1 : Int32)) _ _ _ _ _ _ hE hZ (lv_sub hl [1, 2, 3, 4, 5, 0] rfl)
  unfold f_X6_writes at hE
  refine lv_aload_n hx hb dX6_writes_0 rfl (lv_at hl 0 rfl) ?_
  refine mg_14 K0 hK hE (nW := 14) (by omega) hZ q1084 dX6_writes_1 (fun v1 hE => ?_)
  refine lv_if_eq (tgt := 8) hx hb dX6_writes_4 (by decide) (fun hc => ?_) (fun hc => ?_)
  · have hE := if_t hE hc
    refine lv_aload_n hx hb dX6_writes_8 rfl (lv_at hl 0 rfl) ?_
    refine mg_17 K0 hK hE (nW := 14) (by omega) hZ q1087 dX6_writes_9 (fun v9 hE => ?_)
    refine lv_aload_n hx hb dX6_writes_12 rfl (lv_at hl 0 rfl) ?_
    refine mg_15 K0 hK hE (nW := 14) (by omega) hZ q1085 dX6_writes_13 (fun v13 hE => ?_)
    refine mn_TS K0 hK hE (nW := 14) (by omega) hZ dX6_writes_16 (fun v16 hE => ?_)
    refine lv_icmp_ne (tgt := 91) hx hb dX6_writes_17 (by decide) (fun hc => ?_) (fun hc => ?_)
    · have hE := if_f hE hc
      exact j91 a1 a2 _ _ _ _ _ _ hE hZ (lv_sub hl [0, 1, 2] rfl)
    · have hE := if_t hE hc
      refine lv_iconst (v := (2)) hx hb dX6_writes_20 (by decide +kernel) ?_
      refine lv_aload_n hx hb dX6_writes_21 rfl (lv_at hl 0 rfl) ?_
      refine mg_17 K0 hK hE (nW := 14) (by omega) hZ q1087 dX6_writes_22 (fun v22 hE => ?_)
      refine lv_imul hx hb dX6_writes_25 ?_
      refine m_new0 K0 q156 hK hA hE hZ hRc dX6_writes_26 (fun v26 S H cells slots hE hZ => ?_)
      refine lv_astore_n (i := 3) (lv' := [(3, .ref v26), (0, .ref (w.2.2 0)), (1, .int a1), (2, .int a2)]) hx hb dX6_writes_28 rfl hl (by decide) rfl (fun ls hl => ?_)
      refine lv_iconst (v := (2)) hx hb dX6_writes_29 (by decide +kernel) ?_
      refine lv_aload_n hx hb dX6_writes_30 rfl (lv_at hl 1 rfl) ?_
      refine mg_17 K0 hK hE (nW := 15) (by omega) hZ q1087 dX6_writes_31 (fun v31 hE => ?_)
      refine lv_imul hx hb dX6_writes_34 ?_
      refine m_new1 K0 q97 hK hA hE hZ hRc dX6_writes_35 (fun v35 S H cells slots hE hZ => ?_)
      refine lv_astore (lv' := [(4, .ref v35), (3, .ref v26), (0, .ref (w.2.2 0)), (1, .int a1), (2, .int a2)]) hx hb dX6_writes_37 hl (by decide) rfl (fun ls hl => ?_)
      refine lv_iconst (v := (0)) hx hb dX6_writes_39 (by decide +kernel) ?_
      refine lv_istore (lv' := [(5, .int (0 : Int32)), (4, .ref v35), (3, .ref v26), (0, .ref (w.2.2 0)), (1, .int a1), (2, .int a2)]) hx hb dX6_writes_40 hl (by decide) rfl (fun ls hl => ?_)
      exact j42 2097152 a1 a2 v26 v35 (0 : Int32) _ _ _ _ _ _ hE hZ (lv_sub hl [3, 4, 5, 2, 1, 0] rfl)
  · have hE := if_f hE hc
    exact end_v K0 hr hlocks hE hZ dX6_writes_7
def f_X6_enters_J380 (z0 : Int32) (z1 : Int32) : PM Unit := bnd (mst 17 30 z1 z0) (fun _ => rtn ())
def f_X6_enters_J351 (u1 : Int32) (z0 : Int32) : PM Unit := if z0 = 0 then (bnd (mld 17 30 u1) (fun v379 => f_X6_enters_J380 v379 u1)) else (bnd (mld 20 237 (232 : Int32)) (fun v370 => f_X6_enters_J380 v370 u1))
def f_X6_enters_J350 (u1 : Int32) : PM Unit := f_X6_enters_J351 u1 (0 : Int32)
def f_X6_enters_J329 (u1 : Int32) (u2 : Int32) (z0 : Int64) (z1 : Int64) : PM Unit := bnd (wrL 0 (z1 + z0)) (fun _ => if u2 = 0 then (bnd (mld 17 30 u1) (fun v342 => if v342 = 0 then (f_X6_enters_J351 u1 (1 : Int32)) else (f_X6_enters_J350 u1))) else (f_X6_enters_J350 u1))
def f_X6_enters_J328 (u1 : Int32) (u2 : Int32) (z0 : Int64) : PM Unit := f_X6_enters_J329 u1 u2 (0 : Int64) z0
def f_X6_enters_J301 (u1 : Int32) (u2 : Int32) (u4 : Int32) (u6 : Int32) (z0 : Int32) (z1 : Int32) (z2 : Int32) : PM Unit := bnd (mst 15 8 z2 (z1 + z0)) (fun _ => bnd (rdL 0) (fun v305 => if u4 = 0 then (f_X6_enters_J328 u1 u2 v305) else (if u6 = 0 then (bnd (mld 13 8 u2) (fun v323 => f_X6_enters_J329 u1 u2 (v323.toInt64) v305)) else (f_X6_enters_J328 u1 u2 v305))))
def f_X6_enters_J262 (u1 : Int32) (u2 : Int32) (u4 : Int32) (u6 : Int32) (z0 : Int32) (z1 : Int32) : PM Unit := bnd (f_X6_writes z1 z0) (fun _ => bnd (rdI 3 0 0) (fun v266 => if v266 = 0 then (bnd (mld 19 30 u1) (fun v278 => bnd (mst 19 30 u1 (v278 ||| ((1 : Int32) <<< (u2 &&& 31)))) (fun _ => bnd (mld 15 8 u2) (fun v290 => if u6 = 0 then (f_X6_enters_J301 u1 u2 u4 u6 (0 : Int32) v290 u2) else (f_X6_enters_J301 u1 u2 u4 u6 (1 : Int32) v290 u2))))) else (rtn ())))
def f_X6_enters_J228 (u1 : Int32) (u2 : Int32) (u4 : Int32) (u5 : Int32) (u6 : Int32) : PM Unit := bnd (f_X6_writes u1 ((((48 : Int32) + u2).toUInt32 % 65536).toInt32)) (fun _ => if u6 = 0 then (if u5 = 0 then (f_X6_enters_J262 u1 u2 u4 u6 (43 : Int32) u1) else (f_X6_enters_J262 u1 u2 u4 u6 (46 : Int32) u1)) else (f_X6_enters_J262 u1 u2 u4 u6 (45 : Int32) u1))
def f_X6_enters_J200 (u1 : Int32) (u2 : Int32) (u4 : Int32) (u5 : Int32) (u6 : Int32) : PM Unit := if u4 = 0 then (f_X6_enters_J228 u1 u2 u4 u5 u6) else (if u6 = 0 then (bnd (mld 20 237 ((6 : Int32) + u2)) (fun v219 => bnd (mld 13 8 u2) (fun v225 => bnd (mst 20 237 ((6 : Int32) + u2) (v219 - v225)) (fun _ => f_X6_enters_J228 u1 u2 u4 u5 u6)))) else (f_X6_enters_J228 u1 u2 u4 u5 u6))
def f_X6_enters_J154 (u1 : Int32) (u2 : Int32) (u4 : Int32) (u5 : Int32) (u6 : Int32) (z0 : Int32) (z1 : Int32) : PM Unit := bnd (mst 20 237 z1 z0) (fun _ => if u6 = 0 then (if u5 = 0 then (bnd (mld 20 237 ((112 : Int32) + u1)) (fun v192 => bnd (mst 20 237 ((112 : Int32) + u1) (v192 &&& (((1 : Int32) <<< (u2 &&& 31)) ^^^ (-1 : Int32)))) (fun _ => f_X6_enters_J200 u1 u2 u4 u5 u6))) else (f_X6_enters_J200 u1 u2 u4 u5 u6)) else (bnd (mld 20 237 ((112 : Int32) + u1)) (fun v169 => bnd (mst 20 237 ((112 : Int32) + u1) (v169 ||| ((1 : Int32) <<< (u2 &&& 31)))) (fun _ => f_X6_enters_J200 u1 u2 u4 u5 u6))))
def f_X6_enters_J130 (u1 : Int32) (u2 : Int32) (u4 : Int32) (u5 : Int32) (u6 : Int32) (z0 : Int32) (z1 : Int32) : PM Unit := bnd (mst 20 237 z1 z0) (fun _ => if u5 = 0 then (bnd (mld 11 8 u2) (fun v153 => f_X6_enters_J154 u1 u2 u4 u5 u6 v153 ((22 : Int32) + u1))) else (f_X6_enters_J154 u1 u2 u4 u5 u6 (1 : Int32) ((22 : Int32) + u1)))
def f_X6_enters_J90 (u1 : Int32) (u2 : Int32) (u3 : Int32) (u4 : Int32) (u5 : Int32) (z0 : Int32) : PM Unit := bnd (mst 20 237 ((14 : Int32) + u2) u1) (fun _ => bnd (mst 20 237 ((82 : Int32) + u1) (115 : Int32)) (fun _ => if u3 = 0 then (f_X6_enters_J130 u1 u2 u4 u5 z0 (0 : Int32) ((52 : Int32) + u1)) else (f_X6_enters_J130 u1 u2 u4 u5 z0 (1 : Int32) ((52 : Int32) + u1))))
def f_X6_enters_J89 (u1 : Int32) (u2 : Int32) (u3 : Int32) (u4 : Int32) (u5 : Int32) : PM Unit := f_X6_enters_J90 u1 u2 u3 u4 u5 (0 : Int32)
def f_X6_enters_J60 (u1 : Int32) (u2 : Int32) (u3 : Int32) (u4 : Int32) (z0 : Int32) : PM Unit := if u4 = 0 then (f_X6_enters_J89 u1 u2 u3 u4 z0) else (bnd (mld 20 237 ((6 : Int32) + u2)) (fun v75 => bnd (mld 13 8 u2) (fun v81 => if v81 ≤ v75 then (f_X6_enters_J89 u1 u2 u3 u4 z0) else (f_X6_enters_J90 u1 u2 u3 u4 z0 (1 : Int32)))))
def f_X6_enters_J59 (u1 : Int32) (u2 : Int32) (u3 : Int32) (u4 : Int32) : PM Unit := f_X6_enters_J60 u1 u2 u3 u4 (0 : Int32)
def f_X6_enters_J34 (u1 : Int32) (u2 : Int32) (u3 : Int32) (z0 : Int32) : PM Unit := bnd (mld 12 8 u2) (fun v41 => if v41 = (-1 : Int32) then (f_X6_enters_J59 u1 u2 u3 z0) else (if z0 = 0 then (if u3 = 0 then (f_X6_enters_J60 u1 u2 u3 z0 (1 : Int32)) else (f_X6_enters_J59 u1 u2 u3 z0)) else (f_X6_enters_J59 u1 u2 u3 z0)))
def f_X6_enters_J33 (u1 : Int32) (u2 : Int32) (u3 : Int32) : PM Unit := f_X6_enters_J34 u1 u2 u3 (0 : Int32)
def f_X6_enters (a1 : Int32) (a2 : Int32) (a3 : Int32) : PM Unit := bnd (mld 12 8 a2) (fun v5 => if v5 = (-1 : Int32) then (f_X6_enters_J33 a1 a2 a3) else (bnd (mld 16 30 a1) (fun v15 => bnd (mld 12 8 a2) (fun v21 => if ((v15 >>> (v21 &&& 31)) &&& (1 : Int32)) = (1 : Int32) then (f_X6_enters_J34 a1 a2 a3 (1 : Int32)) else (f_X6_enters_J33 a1 a2 a3)))))
theorem yd_X6_enters : yX6_enters.cls = RX6 ∧ yX6_enters.cls ≠ "java/lang/invoke/MethodHandle" ∧ yX6_enters.cls ≠ "java/lang/invoke/VarHandle" ∧ (parseMethodDescriptor yX6_enters.desc).map (fun d => d.parameters.length) = some 3 := by decide +kernel
set_option maxHeartbeats 4000000 in
set_option maxRecDepth 100000 in
theorem c_X6_enters (l : Launch) (D : va_G) (w : Wm) (A : Nat → Prop) (a1 : Int32) (a2 : Int32) (a3 : Int32) : CT l yX6_enters cX6_enters 8 none 1 25 (PMo D w A) (ENVM D w) A [.ref (w.2.2 0), .int a1, .int a2, .int a3] (f_X6_enters a1 a2 a3) vU := by
  refine CT.ofW (by decide) [(0, .ref (w.2.2 0)), (1, .int a1), (2, .int a2), (3, .int a3)] (by simp [lv_args, vr_cat, vc_i, vc_j, vc_f, vc_d, vc_r, vc_n]) (by simp [lg_sl, vr_cat, vc_i, vc_j, vc_f, vc_d, vc_r, vc_n]) ?_
  intro S0 E0 R p e s m args below meth c ls hE hRf hRl hRc K0 hr hlocks hEV hA hZ hl
  have K0 : CallFix p m c cX6_enters 8 s args GW RX6 := K0
  have hx := K0.1
  have hb := K0.2.1
  have hown := K0.2.2.2.1
  have hg := K0.2.2.2.2
  have hK := hEV
  have hok : EVok (ENVM D w) A := ENVM.ok
  have j380 : ∀ (z0 : Int32) (z1 : Int32) (S : St) (H : Heap) (locs : List Loc) (cells slots : Nat) (ls : Array Slot), (f_X6_enters_J380 z0 z1).1 S = some E0 → ZZ D 14 (adrM w) (celM w) A S0 s.heap S H locs cells slots → lv_has ls 8 [] → W p l e R s m args below meth c H locs cells slots (MQ below (QE E0 vU (PMo D w A) A) args s (gN E0.2 7 0 - gN S0 7 0) (gN E0.2 3 0 - gN S0 3 0) A) (F0 m 380 ls [.int z0, .int z1, .ref (w.2.2 7)]) := by
    intro z0 z1 S H locs cells slots ls hE hZ hl
    unfold f_X6_enters_J380 at hE
    refine ms_17 K0 hK hE (nW := 14) (by omega) hZ dX6_enters_380 (fun S H locs hE hZ => ?_)
    exact end_v K0 hr hlocks hE hZ dX6_enters_381
  have j351 : ∀ (u1 : Int32) (z0 : Int32) (S : St) (H : Heap) (locs : List Loc) (cells slots : Nat) (ls : Array Slot), (f_X6_enters_J351 u1 z0).1 S = some E0 → ZZ D 14 (adrM w) (celM w) A S0 s.heap S H locs cells slots → lv_has ls 8 [(0, .ref (w.2.2 0)), (1, .int u1)] → W p l e R s m args below meth c H locs cells slots (MQ below (QE E0 vU (PMo D w A) A) args s (gN E0.2 7 0 - gN S0 7 0) (gN E0.2 3 0 - gN S0 3 0) A) (F0 m 351 ls [.int z0]) := by
    intro u1 z0 S H locs cells slots ls hE hZ hl
    unfold f_X6_enters_J351 at hE
    refine lv_istore (lv' := [(7, .int z0), (0, .ref (w.2.2 0)), (1, .int u1)]) hx hb dX6_enters_351 hl (by decide) rfl (fun ls hl => ?_)
    refine lv_aload_n hx hb dX6_enters_353 rfl (lv_at hl 1 rfl) ?_
    refine mg_8 K0 hK (nW := 14) (by omega) hZ q1078 dX6_enters_354 ?_
    refine lv_iload_n hx hb dX6_enters_357 rfl (lv_at hl 2 rfl) ?_
    refine lv_iload hx hb dX6_enters_358 (lv_at hl 0 rfl) ?_
    refine lv_if_eq (tgt := 374) hx hb dX6_enters_360 (by decide) (fun hc => ?_) (fun hc => ?_)
    · have hE := if_t hE hc
      refine lv_aload_n hx hb dX6_enters_374 rfl (lv_at hl 1 rfl) ?_
      refine mg_8 K0 hK (nW := 14) (by omega) hZ q1078 dX6_enters_375 ?_
      refine lv_iload_n hx hb dX6_enters_378 rfl (lv_at hl 2 rfl) ?_
      refine ma_17 K0 hK hE (nW := 14) (by omega) hZ dX6_enters_379 (fun v379 hE => ?_)
      exact j380 v379 u1 _ _ _ _ _ _ hE hZ (lv_sub hl [] rfl)
    · have hE := if_f hE hc
      refine lv_aload_n hx hb dX6_enters_363 rfl (lv_at hl 1 rfl) ?_
      refine mg_12 K0 hK (nW := 14) (by omega) hZ q1082 dX6_enters_364 ?_
      refine lv_sipush (v := (232)) hx hb dX6_enters_367 (by decide +kernel) ?_
      refine ma_20 K0 hK hE (nW := 14) (by omega) hZ dX6_enters_370 (fun v370 hE => ?_)
      refine lv_goto (tgt := 380) hx hb dX6_enters_371 (by decide) ?_
      exact j380 v370 u1 _ _ _ _ _ _ hE hZ (lv_sub hl [] rfl)
  have j350 : ∀ (u1 : Int32) (S : St) (H : Heap) (locs : List Loc) (cells slots : Nat) (ls : Array Slot), (f_X6_enters_J350 u1).1 S = some E0 → ZZ D 14 (adrM w) (celM w) A S0 s.heap S H locs cells slots → lv_has ls 8 [(0, .ref (w.2.2 0)), (1, .int u1)] → W p l e R s m args below meth c H locs cells slots (MQ below (QE E0 vU (PMo D w A) A) args s (gN E0.2 7 0 - gN S0 7 0) (gN E0.2 3 0 - gN S0 3 0) A) (F0 m 350 ls []) := by
    intro u1 S H locs cells slots ls hE hZ hl
    unfold f_X6_enters_J350 at hE
    refine lv_iconst (v := (0)) hx hb dX6_enters_350 (by decide +kernel) ?_
    exact j351 u1 (0 : Int32) _ _ _ _ _ _ hE hZ (lv_sub hl [0, 1] rfl)
  have j329 : ∀ (u1 : Int32) (u2 : Int32) (z0 : Int64) (z1 : Int64) (S : St) (H : Heap) (locs : List Loc) (cells slots : Nat) (ls : Array Slot), (f_X6_enters_J329 u1 u2 z0 z1).1 S = some E0 → ZZ D 14 (adrM w) (celM w) A S0 s.heap S H locs cells slots → lv_has ls 8 [(0, .ref (w.2.2 0)), (1, .int u1), (2, .int u2)] → W p l e R s m args below meth c H locs cells slots (MQ below (QE E0 vU (PMo D w A) A) args s (gN E0.2 7 0 - gN S0 7 0) (gN E0.2 3 0 - gN S0 3 0) A) (F0 m 329 ls [.long z0, .long z1, .ref (w.2.2 0)]) := by
    intro u1 u2 z0 z1 S H locs cells slots ls hE hZ hl
    unfold f_X6_enters_J329 at hE
    refine lv_ladd hx hb dX6_enters_329 ?_
    refine mp_18 K0 hK hE (nW := 14) (by omega) hZ q1088 dX6_enters_330 (fun S H locs hE hZ => ?_)
    refine lv_iload_n hx hb dX6_enters_333 rfl (lv_at hl 2 rfl) ?_
    refine lv_if_ne (tgt := 350) hx hb dX6_enters_334 (by decide) (fun hc => ?_) (fun hc => ?_)
    · have hE := if_f hE hc
      exact j350 u1 _ _ _ _ _ _ hE hZ (lv_sub hl [0, 1] rfl)
    · have hE := if_t hE hc
      refine lv_aload_n hx hb dX6_enters_337 rfl (lv_at hl 0 rfl) ?_
      refine mg_8 K0 hK (nW := 14) (by omega) hZ q1078 dX6_enters_338 ?_
      refine lv_iload_n hx hb dX6_enters_341 rfl (lv_at hl 1 rfl) ?_
      refine ma_17 K0 hK hE (nW := 14) (by omega) hZ dX6_enters_342 (fun v342 hE => ?_)
      refine lv_if_ne (tgt := 350) hx hb dX6_enters_343 (by decide) (fun hc => ?_) (fun hc => ?_)
      · have hE := if_f hE hc
        exact j350 u1 _ _ _ _ _ _ hE hZ (lv_sub hl [0, 1] rfl)
      · have hE := if_t hE hc
        refine lv_iconst (v := (1)) hx hb dX6_enters_346 (by decide +kernel) ?_
        refine lv_goto (tgt := 351) hx hb dX6_enters_347 (by decide) ?_
        exact j351 u1 (1 : Int32) _ _ _ _ _ _ hE hZ (lv_sub hl [0, 1] rfl)
  have j328 : ∀ (u1 : Int32) (u2 : Int32) (z0 : Int64) (S : St) (H : Heap) (locs : List Loc) (cells slots : Nat) (ls : Array Slot), (f_X6_enters_J328 u1 u2 z0).1 S = some E0 → ZZ D 14 (adrM w) (celM w) A S0 s.heap S H locs cells slots → lv_has ls 8 [(0, .ref (w.2.2 0)), (1, .int u1), (2, .int u2)] → W p l e R s m args below meth c H locs cells slots (MQ below (QE E0 vU (PMo D w A) A) args s (gN E0.2 7 0 - gN S0 7 0) (gN E0.2 3 0 - gN S0 3 0) A) (F0 m 328 ls [.long z0, .ref (w.2.2 0)]) := by
    intro u1 u2 z0 S H locs cells slots ls hE hZ hl
    unfold f_X6_enters_J328 at hE
    refine lv_lconst (v := (0)) hx hb dX6_enters_328 (by decide +kernel) ?_
    exact j329 u1 u2 (0 : Int64) z0 _ _ _ _ _ _ hE hZ (lv_sub hl [0, 1, 2] rfl)
  have j301 : ∀ (u1 : Int32) (u2 : Int32) (u4 : Int32) (u6 : Int32) (z0 : Int32) (z1 : Int32) (z2 : Int32) (S : St) (H : Heap) (locs : List Loc) (cells slots : Nat) (ls : Array Slot), (f_X6_enters_J301 u1 u2 u4 u6 z0 z1 z2).1 S = some E0 → ZZ D 14 (adrM w) (celM w) A S0 s.heap S H locs cells slots → lv_has ls 8 [(0, .ref (w.2.2 0)), (1, .int u1), (2, .int u2), (4, .int u4), (6, .int u6)] → W p l e R s m args below meth c H locs cells slots (MQ below (QE E0 vU (PMo D w A) A) args s (gN E0.2 7 0 - gN S0 7 0) (gN E0.2 3 0 - gN S0 3 0) A) (F0 m 301 ls [.int z0, .int z1, .int z2, .ref (w.2.2 5)]) := by
    intro u1 u2 u4 u6 z0 z1 z2 S H locs cells slots ls hE hZ hl
    unfold f_X6_enters_J301 at hE
    refine lv_iadd hx hb dX6_enters_301 ?_
    refine ms_15 K0 hK hE (nW := 14) (by omega) hZ dX6_enters_302 (fun S H locs hE hZ => ?_)
    refine lv_aload_n hx hb dX6_enters_303 rfl (lv_at hl 0 rfl) ?_
    refine lv_dup hx hb dX6_enters_304 rfl ?_
    refine mg_18 K0 hK hE (nW := 14) (by omega) hZ q1088 dX6_enters_305 (fun v305 hE => ?_)
    refine lv_iload hx hb dX6_enters_308 (lv_at hl 3 rfl) ?_
    refine lv_if_eq (tgt := 328) hx hb dX6_enters_310 (by decide) (fun hc => ?_) (fun hc => ?_)
    · have hE := if_t hE hc
      exact j328 u1 u2 v305 _ _ _ _ _ _ hE hZ (lv_sub hl [0, 1, 2] rfl)
    · have hE := if_f hE hc
      refine lv_iload hx hb dX6_enters_313 (lv_at hl 4 rfl) ?_
      refine lv_if_ne (tgt := 328) hx hb dX6_enters_315 (by decide) (fun hc => ?_) (fun hc => ?_)
      · have hE := if_f hE hc
        exact j328 u1 u2 v305 _ _ _ _ _ _ hE hZ (lv_sub hl [0, 1, 2] rfl)
      · have hE := if_t hE hc
        refine lv_aload_n hx hb dX6_enters_318 rfl (lv_at hl 0 rfl) ?_
        refine mg_2 K0 hK (nW := 14) (by omega) hZ q1072 dX6_enters_319 ?_
        refine lv_iload_n hx hb dX6_enters_322 rfl (lv_at hl 2 rfl) ?_
        refine ma_13 K0 hK hE (nW := 14) (by omega) hZ dX6_enters_323 (fun v323 hE => ?_)
        refine lv_i2l hx hb dX6_enters_324 rfl ?_
        refine lv_goto (tgt := 329) hx hb dX6_enters_325 (by decide) ?_
        exact j329 u1 u2 (v323.toInt64) v305 _ _ _ _ _ _ hE hZ (lv_sub hl [0, 1, 2] rfl)
  have j262 : ∀ (u1 : Int32) (u2 : Int32) (u4 : Int32) (u6 : Int32) (z0 : Int32) (z1 : Int32) (S : St) (H : Heap) (locs : List Loc) (cells slots : Nat) (ls : Array Slot), (f_X6_enters_J262 u1 u2 u4 u6 z0 z1).1 S = some E0 → ZZ D 14 (adrM w) (celM w) A S0 s.heap S H locs cells slots → lv_has ls 8 [(0, .ref (w.2.2 0)), (1, .int u1), (2, .int u2), (4, .int u4), (6, .int u6)] → W p l e R s m args below meth c H locs cells slots (MQ below (QE E0 vU (PMo D w A) A) args s (gN E0.2 7 0 - gN S0 7 0) (gN E0.2 3 0 - gN S0 3 0) A) (F0 m 262 ls [.int z0, .int z1, .ref (w.2.2 0)]) := by
    intro u1 u2 u4 u6 z0 z1 S H locs cells slots ls hE hZ hl
    unfold f_X6_enters_J262 at hE
    refine call_VS (rest := []) K0 hok hEV hA (c_X6_writes l D w A z1 z0) q1208 q1210 q30 q46 q1211 yd_X6_writes ⟨by omega, by omega⟩ hRc (rc_MO hK (nW := 14) (by omega) hZ) hE hZ hl.1 rfl (Nat.le_of_ble_eq_true rfl) dX6_enters_262 (fun v262 S H locs cells slots hE hZ => ?_)
    refine W.eq (g2 := F0 m 265 ls []) rfl ?_
    refine lv_aload_n hx hb dX6_enters_265 rfl (lv_at hl 0 rfl) ?_
    refine mg_14 K0 hK hE (nW := 14) (by omega) hZ q1084 dX6_enters_266 (fun v266 hE => ?_)
    refine lv_if_ne (tgt := 381) hx hb dX6_enters_269 (by decide) (fun hc => ?_) (fun hc => ?_)
    · have hE := if_f hE hc
      exact end_v K0 hr hlocks hE hZ dX6_enters_381
    · have hE := if_t hE hc
      refine lv_aload_n hx hb dX6_enters_272 rfl (lv_at hl 0 rfl) ?_
      refine mg_10 K0 hK (nW := 14) (by omega) hZ q1080 dX6_enters_273 ?_
      refine lv_iload_n hx hb dX6_enters_276 rfl (lv_at hl 1 rfl) ?_
      refine lv_dup2_11 hx hb dX6_enters_277 rfl rfl ?_
      refine ma_19 K0 hK hE (nW := 14) (by omega) hZ dX6_enters_278 (fun v278 hE => ?_)
      refine lv_iconst (v := (1)) hx hb dX6_enters_279 (by decide +kernel) ?_
      refine lv_iload_n hx hb dX6_enters_280 rfl (lv_at hl 2 rfl) ?_
      refine lv_ishl hx hb dX6_enters_281 ?_
      refine lv_ior hx hb dX6_enters_282 ?_
      refine ms_19 K0 hK hE (nW := 14) (by omega) hZ dX6_enters_283 (fun S H locs hE hZ => ?_)
      refine lv_aload_n hx hb dX6_enters_284 rfl (lv_at hl 0 rfl) ?_
      refine mg_4 K0 hK (nW := 14) (by omega) hZ q1074 dX6_enters_285 ?_
      refine lv_iload_n hx hb dX6_enters_288 rfl (lv_at hl 2 rfl) ?_
      refine lv_dup2_11 hx hb dX6_enters_289 rfl rfl ?_
      refine ma_15 K0 hK hE (nW := 14) (by omega) hZ dX6_enters_290 (fun v290 hE => ?_)
      refine lv_iload hx hb dX6_enters_291 (lv_at hl 4 rfl) ?_
      refine lv_if_eq (tgt := 300) hx hb dX6_enters_293 (by decide) (fun hc => ?_) (fun hc => ?_)
      · have hE := if_t hE hc
        refine lv_iconst (v := (0)) hx hb dX6_enters_300 (by decide +kernel) ?_
        exact j301 u1 u2 u4 u6 (0 : Int32) v290 u2 _ _ _ _ _ _ hE hZ (lv_sub hl [0, 1, 2, 3, 4] rfl)
      · have hE := if_f hE hc
        refine lv_iconst (v := (1)) hx hb dX6_enters_296 (by decide +kernel) ?_
        refine lv_goto (tgt := 301) hx hb dX6_enters_297 (by decide) ?_
        exact j301 u1 u2 u4 u6 (1 : Int32) v290 u2 _ _ _ _ _ _ hE hZ (lv_sub hl [0, 1, 2, 3, 4] rfl)
  have j228 : ∀ (u1 : Int32) (u2 : Int32) (u4 : Int32) (u5 : Int32) (u6 : Int32) (S : St) (H : Heap) (locs : List Loc) (cells slots : Nat) (ls : Array Slot), (f_X6_enters_J228 u1 u2 u4 u5 u6).1 S = some E0 → ZZ D 14 (adrM w) (celM w) A S0 s.heap S H locs cells slots → lv_has ls 8 [(0, .ref (w.2.2 0)), (1, .int u1), (2, .int u2), (4, .int u4), (5, .int u5), (6, .int u6)] → W p l e R s m args below meth c H locs cells slots (MQ below (QE E0 vU (PMo D w A) A) args s (gN E0.2 7 0 - gN S0 7 0) (gN E0.2 3 0 - gN S0 3 0) A) (F0 m 228 ls []) := by
    intro u1 u2 u4 u5 u6 S H locs cells slots ls hE hZ hl
    unfold f_X6_enters_J228 at hE
    refine lv_aload_n hx hb dX6_enters_228 rfl (lv_at hl 0 rfl) ?_
    refine lv_iload_n hx hb dX6_enters_229 rfl (lv_at hl 1 rfl) ?_
    refine lv_bipush (v := (48)) hx hb dX6_enters_230 (by decide +kernel) ?_
    refine lv_iload_n hx hb dX6_enters_232 rfl (lv_at hl 2 rfl) ?_
    refine lv_iadd hx hb dX6_enters_233 ?_
    refine lv_i2c hx hb dX6_enters_234 rfl ?_
    refine call_VS (rest := []) K0 hok hEV hA (c_X6_writes l D w A u1 ((((48 : Int32) + u2).toUInt32 % 65536).toInt32)) q1208 q1210 q30 q46 q1211 yd_X6_writes ⟨by omega, by omega⟩ hRc (rc_MO hK (nW := 14) (by omega) hZ) hE hZ hl.1 rfl (Nat.le_of_ble_eq_true rfl) dX6_enters_235 (fun v235 S H locs cells slots hE hZ => ?_)
    refine W.eq (g2 := F0 m 238 ls []) rfl ?_
    refine lv_aload_n hx hb dX6_enters_238 rfl (lv_at hl 0 rfl) ?_
    refine lv_iload_n hx hb dX6_enters_239 rfl (lv_at hl 1 rfl) ?_
    refine lv_iload hx hb dX6_enters_240 (lv_at hl 5 rfl) ?_
    refine lv_if_eq (tgt := 250) hx hb dX6_enters_242 (by decide) (fun hc => ?_) (fun hc => ?_)
    · have hE := if_t hE hc
      refine lv_iload hx hb dX6_enters_250 (lv_at hl 4 rfl) ?_
      refine lv_if_eq (tgt := 260) hx hb dX6_enters_252 (by decide) (fun hc => ?_) (fun hc => ?_)
      · have hE := if_t hE hc
        refine lv_bipush (v := (43)) hx hb dX6_enters_260 (by decide +kernel) ?_
        exact j262 u1 u2 u4 u6 (43 : Int32) u1 _ _ _ _ _ _ hE hZ (lv_sub hl [0, 1, 2, 3, 5] rfl)
      · have hE := if_f hE hc
        refine lv_bipush (v := (46)) hx hb dX6_enters_255 (by decide +kernel) ?_
        refine lv_goto (tgt := 262) hx hb dX6_enters_257 (by decide) ?_
        exact j262 u1 u2 u4 u6 (46 : Int32) u1 _ _ _ _ _ _ hE hZ (lv_sub hl [0, 1, 2, 3, 5] rfl)
    · have hE := if_f hE hc
      refine lv_bipush (v := (45)) hx hb dX6_enters_245 (by decide +kernel) ?_
      refine lv_goto (tgt := 262) hx hb dX6_enters_247 (by decide) ?_
      exact j262 u1 u2 u4 u6 (45 : Int32) u1 _ _ _ _ _ _ hE hZ (lv_sub hl [0, 1, 2, 3, 5] rfl)
  have j200 : ∀ (u1 : Int32) (u2 : Int32) (u4 : Int32) (u5 : Int32) (u6 : Int32) (S : St) (H : Heap) (locs : List Loc) (cells slots : Nat) (ls : Array Slot), (f_X6_enters_J200 u1 u2 u4 u5 u6).1 S = some E0 → ZZ D 14 (adrM w) (celM w) A S0 s.heap S H locs cells slots → lv_has ls 8 [(0, .ref (w.2.2 0)), (1, .int u1), (2, .int u2), (4, .int u4), (5, .int u5), (6, .int u6)] → W p l e R s m args below meth c H locs cells slots (MQ below (QE E0 vU (PMo D w A) A) args s (gN E0.2 7 0 - gN S0 7 0) (gN E0.2 3 0 - gN S0 3 0) A) (F0 m 200 ls []) := by
    intro u1 u2 u4 u5 u6 S H locs cells slots ls hE hZ hl
    unfold f_X6_enters_J200 at hE
    refine lv_iload hx hb dX6_enters_200 (lv_at hl 3 rfl) ?_
    refine lv_if_eq (tgt := 228) hx hb dX6_enters_202 (by decide) (fun hc => ?_) (fun hc => ?_)
    · have hE := if_t hE hc
      exact j228 u1 u2 u4 u5 u6 _ _ _ _ _ _ hE hZ (lv_sub hl [0, 1, 2, 3, 4, 5] rfl)
    · have hE := if_f hE hc
      refine lv_iload hx hb dX6_enters_205 (lv_at hl 5 rfl) ?_
      refine lv_if_ne (tgt := 228) hx hb dX6_enters_207 (by decide) (fun hc => ?_) (fun hc => ?_)
      · have hE := if_f hE hc
        exact j228 u1 u2 u4 u5 u6 _ _ _ _ _ _ hE hZ (lv_sub hl [0, 1, 2, 3, 4, 5] rfl)
      · have hE := if_t hE hc
        refine lv_aload_n hx hb dX6_enters_210 rfl (lv_at hl 0 rfl) ?_
        refine mg_12 K0 hK (nW := 14) (by omega) hZ q1082 dX6_enters_211 ?_
        refine lv_bipush (v := (6)) hx hb dX6_enters_214 (by decide +kernel) ?_
        refine lv_iload_n hx hb dX6_enters_216 rfl (lv_at hl 2 rfl) ?_
        refine lv_iadd hx hb dX6_enters_217 ?_
        refine lv_dup2_11 hx hb dX6_enters_218 rfl rfl ?_
        refine ma_20 K0 hK hE (nW := 14) (by omega) hZ dX6_enters_219 (fun v219 hE => ?_)
        refine lv_aload_n hx hb dX6_enters_220 rfl (lv_at hl 0 rfl) ?_
        refine mg_2 K0 hK (nW := 14) (by omega) hZ q1072 dX6_enters_221 ?_
        refine lv_iload_n hx hb dX6_enters_224 rfl (lv_at hl 2 rfl) ?_
        refine ma_13 K0 hK hE (nW := 14) (by omega) hZ dX6_enters_225 (fun v225 hE => ?_)
        refine lv_isub hx hb dX6_enters_226 ?_
        refine ms_20 K0 hK hE (nW := 14) (by omega) hZ dX6_enters_227 (fun S H locs hE hZ => ?_)
        exact j228 u1 u2 u4 u5 u6 _ _ _ _ _ _ hE hZ (lv_sub hl [0, 1, 2, 3, 4, 5] rfl)
  have j154 : ∀ (u1 : Int32) (u2 : Int32) (u4 : Int32) (u5 : Int32) (u6 : Int32) (z0 : Int32) (z1 : Int32) (S : St) (H : Heap) (locs : List Loc) (cells slots : Nat) (ls : Array Slot), (f_X6_enters_J154 u1 u2 u4 u5 u6 z0 z1).1 S = some E0 → ZZ D 14 (adrM w) (celM w) A S0 s.heap S H locs cells slots → lv_has ls 8 [(0, .ref (w.2.2 0)), (1, .int u1), (2, .int u2), (4, .int u4), (5, .int u5), (6, .int u6)] → W p l e R s m args below meth c H locs cells slots (MQ below (QE E0 vU (PMo D w A) A) args s (gN E0.2 7 0 - gN S0 7 0) (gN E0.2 3 0 - gN S0 3 0) A) (F0 m 154 ls [.int z0, .int z1, .ref (w.2.2 10)]) := by
    intro u1 u2 u4 u5 u6 z0 z1 S H locs cells slots ls hE hZ hl
    unfold f_X6_enters_J154 at hE
    refine ms_20 K0 hK hE (nW := 14) (by omega) hZ dX6_enters_154 (fun S H locs hE hZ => ?_)
    refine lv_iload hx hb dX6_enters_155 (lv_at hl 5 rfl) ?_
    refine lv_if_eq (tgt := 178) hx hb dX6_enters_157 (by decide) (fun hc => ?_) (fun hc => ?_)
    · have hE := if_t hE hc
      refine lv_iload hx hb dX6_enters_178 (lv_at hl 4 rfl) ?_
      refine lv_if_ne (tgt := 200) hx hb dX6_enters_180 (by decide) (fun hc => ?_) (fun hc => ?_)
      · have hE := if_f hE hc
        exact j200 u1 u2 u4 u5 u6 _ _ _ _ _ _ hE hZ (lv_sub hl [0, 1, 2, 3, 4, 5] rfl)
      · have hE := if_t hE hc
        refine lv_aload_n hx hb dX6_enters_183 rfl (lv_at hl 0 rfl) ?_
        refine mg_12 K0 hK (nW := 14) (by omega) hZ q1082 dX6_enters_184 ?_
        refine lv_bipush (v := (112)) hx hb dX6_enters_187 (by decide +kernel) ?_
        refine lv_iload_n hx hb dX6_enters_189 rfl (lv_at hl 1 rfl) ?_
        refine lv_iadd hx hb dX6_enters_190 ?_
        refine lv_dup2_11 hx hb dX6_enters_191 rfl rfl ?_
        refine ma_20 K0 hK hE (nW := 14) (by omega) hZ dX6_enters_192 (fun v192 hE => ?_)
        refine lv_iconst (v := (1)) hx hb dX6_enters_193 (by decide +kernel) ?_
        refine lv_iload_n hx hb dX6_enters_194 rfl (lv_at hl 2 rfl) ?_
        refine lv_ishl hx hb dX6_enters_195 ?_
        refine lv_iconst (v := (-1)) hx hb dX6_enters_196 (by decide +kernel) ?_
        refine lv_ixor hx hb dX6_enters_197 ?_
        refine lv_iand hx hb dX6_enters_198 ?_
        refine ms_20 K0 hK hE (nW := 14) (by omega) hZ dX6_enters_199 (fun S H locs hE hZ => ?_)
        exact j200 u1 u2 u4 u5 u6 _ _ _ _ _ _ hE hZ (lv_sub hl [0, 1, 2, 3, 4, 5] rfl)
    · have hE := if_f hE hc
      refine lv_aload_n hx hb dX6_enters_160 rfl (lv_at hl 0 rfl) ?_
      refine mg_12 K0 hK (nW := 14) (by omega) hZ q1082 dX6_enters_161 ?_
      refine lv_bipush (v := (112)) hx hb dX6_enters_164 (by decide +kernel) ?_
      refine lv_iload_n hx hb dX6_enters_166 rfl (lv_at hl 1 rfl) ?_
      refine lv_iadd hx hb dX6_enters_167 ?_
      refine lv_dup2_11 hx hb dX6_enters_168 rfl rfl ?_
      refine ma_20 K0 hK hE (nW := 14) (by omega) hZ dX6_enters_169 (fun v169 hE => ?_)
      refine lv_iconst (v := (1)) hx hb dX6_enters_170 (by decide +kernel) ?_
      refine lv_iload_n hx hb dX6_enters_171 rfl (lv_at hl 2 rfl) ?_
      refine lv_ishl hx hb dX6_enters_172 ?_
      refine lv_ior hx hb dX6_enters_173 ?_
      refine ms_20 K0 hK hE (nW := 14) (by omega) hZ dX6_enters_174 (fun S H locs hE hZ => ?_)
      refine lv_goto (tgt := 200) hx hb dX6_enters_175 (by decide) ?_
      exact j200 u1 u2 u4 u5 u6 _ _ _ _ _ _ hE hZ (lv_sub hl [0, 1, 2, 3, 4, 5] rfl)
  have j130 : ∀ (u1 : Int32) (u2 : Int32) (u4 : Int32) (u5 : Int32) (u6 : Int32) (z0 : Int32) (z1 : Int32) (S : St) (H : Heap) (locs : List Loc) (cells slots : Nat) (ls : Array Slot), (f_X6_enters_J130 u1 u2 u4 u5 u6 z0 z1).1 S = some E0 → ZZ D 14 (adrM w) (celM w) A S0 s.heap S H locs cells slots → lv_has ls 8 [(0, .ref (w.2.2 0)), (1, .int u1), (2, .int u2), (4, .int u4), (5, .int u5), (6, .int u6)] → W p l e R s m args below meth c H locs cells slots (MQ below (QE E0 vU (PMo D w A) A) args s (gN E0.2 7 0 - gN S0 7 0) (gN E0.2 3 0 - gN S0 3 0) A) (F0 m 130 ls [.int z0, .int z1, .ref (w.2.2 10)]) := by
    intro u1 u2 u4 u5 u6 z0 z1 S H locs cells slots ls hE hZ hl
    unfold f_X6_enters_J130 at hE
    refine ms_20 K0 hK hE (nW := 14) (by omega) hZ dX6_enters_130 (fun S H locs hE hZ => ?_)
    refine lv_aload_n hx hb dX6_enters_131 rfl (lv_at hl 0 rfl) ?_
    refine mg_12 K0 hK (nW := 14) (by omega) hZ q1082 dX6_enters_132 ?_
    refine lv_bipush (v := (22)) hx hb dX6_enters_135 (by decide +kernel) ?_
    refine lv_iload_n hx hb dX6_enters_137 rfl (lv_at hl 1 rfl) ?_
    refine lv_iadd hx hb dX6_enters_138 ?_
    refine lv_iload hx hb dX6_enters_139 (lv_at hl 4 rfl) ?_
    refine lv_if_eq (tgt := 148) hx hb dX6_enters_141 (by decide) (fun hc => ?_) (fun hc => ?_)
    · have hE := if_t hE hc
      refine lv_aload_n hx hb dX6_enters_148 rfl (lv_at hl 0 rfl) ?_
      refine mg_0 K0 hK (nW := 14) (by omega) hZ q1070 dX6_enters_149 ?_
      refine lv_iload_n hx hb dX6_enters_152 rfl (lv_at hl 2 rfl) ?_
      refine ma_11 K0 hK hE (nW := 14) (by omega) hZ dX6_enters_153 (fun v153 hE => ?_)
      exact j154 u1 u2 u4 u5 u6 v153 ((22 : Int32) + u1) _ _ _ _ _ _ hE hZ (lv_sub hl [0, 1, 2, 3, 4, 5] rfl)
    · have hE := if_f hE hc
      refine lv_iconst (v := (1)) hx hb dX6_enters_144 (by decide +kernel) ?_
      refine lv_goto (tgt := 154) hx hb dX6_enters_145 (by decide) ?_
      exact j154 u1 u2 u4 u5 u6 (1 : Int32) ((22 : Int32) + u1) _ _ _ _ _ _ hE hZ (lv_sub hl [0, 1, 2, 3, 4, 5] rfl)
  have j90 : ∀ (u1 : Int32) (u2 : Int32) (u3 : Int32) (u4 : Int32) (u5 : Int32) (z0 : Int32) (S : St) (H : Heap) (locs : List Loc) (cells slots : Nat) (ls : Array Slot), (f_X6_enters_J90 u1 u2 u3 u4 u5 z0).1 S = some E0 → ZZ D 14 (adrM w) (celM w) A S0 s.heap S H locs cells slots → lv_has ls 8 [(0, .ref (w.2.2 0)), (1, .int u1), (2, .int u2), (3, .int u3), (4, .int u4), (5, .int u5)] → W p l e R s m args below meth c H locs cells slots (MQ below (QE E0 vU (PMo D w A) A) args s (gN E0.2 7 0 - gN S0 7 0) (gN E0.2 3 0 - gN S0 3 0) A) (F0 m 90 ls [.int z0]) := by
    intro u1 u2 u3 u4 u5 z0 S H locs cells slots ls hE hZ hl
    unfold f_X6_enters_J90 at hE
    refine lv_istore (lv' := [(6, .int z0), (0, .ref (w.2.2 0)), (1, .int u1), (2, .int u2), (3, .int u3), (4, .int u4), (5, .int u5)]) hx hb dX6_enters_90 hl (by decide) rfl (fun ls hl => ?_)
    refine lv_aload_n hx hb dX6_enters_92 rfl (lv_at hl 1 rfl) ?_
    refine mg_12 K0 hK (nW := 14) (by omega) hZ q1082 dX6_enters_93 ?_
    refine lv_bipush (v := (14)) hx hb dX6_enters_96 (by decide +kernel) ?_
    refine lv_iload_n hx hb dX6_enters_98 rfl (lv_at hl 3 rfl) ?_
    refine lv_iadd hx hb dX6_enters_99 ?_
    refine lv_iload_n hx hb dX6_enters_100 rfl (lv_at hl 2 rfl) ?_
    refine ms_20 K0 hK hE (nW := 14) (by omega) hZ dX6_enters_101 (fun S H locs hE hZ => ?_)
    refine lv_aload_n hx hb dX6_enters_102 rfl (lv_at hl 1 rfl) ?_
    refine mg_12 K0 hK (nW := 14) (by omega) hZ q1082 dX6_enters_103 ?_
    refine lv_bipush (v := (82)) hx hb dX6_enters_106 (by decide +kernel) ?_
    refine lv_iload_n hx hb dX6_enters_108 rfl (lv_at hl 2 rfl) ?_
    refine lv_iadd hx hb dX6_enters_109 ?_
    refine lv_bipush (v := (115)) hx hb dX6_enters_110 (by decide +kernel) ?_
    refine ms_20 K0 hK hE (nW := 14) (by omega) hZ dX6_enters_112 (fun S H locs hE hZ => ?_)
    refine lv_aload_n hx hb dX6_enters_113 rfl (lv_at hl 1 rfl) ?_
    refine mg_12 K0 hK (nW := 14) (by omega) hZ q1082 dX6_enters_114 ?_
    refine lv_bipush (v := (52)) hx hb dX6_enters_117 (by decide +kernel) ?_
    refine lv_iload_n hx hb dX6_enters_119 rfl (lv_at hl 2 rfl) ?_
    refine lv_iadd hx hb dX6_enters_120 ?_
    refine lv_iload_n hx hb dX6_enters_121 rfl (lv_at hl 4 rfl) ?_
    refine lv_if_eq (tgt := 129) hx hb dX6_enters_122 (by decide) (fun hc => ?_) (fun hc => ?_)
    · have hE := if_t hE hc
      refine lv_iconst (v := (0)) hx hb dX6_enters_129 (by decide +kernel) ?_
      exact j130 u1 u2 u4 u5 z0 (0 : Int32) ((52 : Int32) + u1) _ _ _ _ _ _ hE hZ (lv_sub hl [1, 2, 3, 5, 6, 0] rfl)
    · have hE := if_f hE hc
      refine lv_iconst (v := (1)) hx hb dX6_enters_125 (by decide +kernel) ?_
      refine lv_goto (tgt := 130) hx hb dX6_enters_126 (by decide) ?_
      exact j130 u1 u2 u4 u5 z0 (1 : Int32) ((52 : Int32) + u1) _ _ _ _ _ _ hE hZ (lv_sub hl [1, 2, 3, 5, 6, 0] rfl)
  have j89 : ∀ (u1 : Int32) (u2 : Int32) (u3 : Int32) (u4 : Int32) (u5 : Int32) (S : St) (H : Heap) (locs : List Loc) (cells slots : Nat) (ls : Array Slot), (f_X6_enters_J89 u1 u2 u3 u4 u5).1 S = some E0 → ZZ D 14 (adrM w) (celM w) A S0 s.heap S H locs cells slots → lv_has ls 8 [(0, .ref (w.2.2 0)), (1, .int u1), (2, .int u2), (3, .int u3), (4, .int u4), (5, .int u5)] → W p l e R s m args below meth c H locs cells slots (MQ below (QE E0 vU (PMo D w A) A) args s (gN E0.2 7 0 - gN S0 7 0) (gN E0.2 3 0 - gN S0 3 0) A) (F0 m 89 ls []) := by
    intro u1 u2 u3 u4 u5 S H locs cells slots ls hE hZ hl
    unfold f_X6_enters_J89 at hE
    refine lv_iconst (v := (0)) hx hb dX6_enters_89 (by decide +kernel) ?_
    exact j90 u1 u2 u3 u4 u5 (0 : Int32) _ _ _ _ _ _ hE hZ (lv_sub hl [0, 1, 2, 3, 4, 5] rfl)
  have j60 : ∀ (u1 : Int32) (u2 : Int32) (u3 : Int32) (u4 : Int32) (z0 : Int32) (S : St) (H : Heap) (locs : List Loc) (cells slots : Nat) (ls : Array Slot), (f_X6_enters_J60 u1 u2 u3 u4 z0).1 S = some E0 → ZZ D 14 (adrM w) (celM w) A S0 s.heap S H locs cells slots → lv_has ls 8 [(0, .ref (w.2.2 0)), (1, .int u1), (2, .int u2), (3, .int u3), (4, .int u4)] → W p l e R s m args below meth c H locs cells slots (MQ below (QE E0 vU (PMo D w A) A) args s (gN E0.2 7 0 - gN S0 7 0) (gN E0.2 3 0 - gN S0 3 0) A) (F0 m 60 ls [.int z0]) := by
    intro u1 u2 u3 u4 z0 S H locs cells slots ls hE hZ hl
    unfold f_X6_enters_J60 at hE
    refine lv_istore (lv' := [(5, .int z0), (0, .ref (w.2.2 0)), (1, .int u1), (2, .int u2), (3, .int u3), (4, .int u4)]) hx hb dX6_enters_60 hl (by decide) rfl (fun ls hl => ?_)
    refine lv_iload hx hb dX6_enters_62 (lv_at hl 5 rfl) ?_
    refine lv_if_eq (tgt := 89) hx hb dX6_enters_64 (by decide) (fun hc => ?_) (fun hc => ?_)
    · have hE := if_t hE hc
      exact j89 u1 u2 u3 u4 z0 _ _ _ _ _ _ hE hZ (lv_sub hl [1, 2, 3, 4, 5, 0] rfl)
    · have hE := if_f hE hc
      refine lv_aload_n hx hb dX6_enters_67 rfl (lv_at hl 1 rfl) ?_
      refine mg_12 K0 hK (nW := 14) (by omega) hZ q1082 dX6_enters_68 ?_
      refine lv_bipush (v := (6)) hx hb dX6_enters_71 (by decide +kernel) ?_
      refine lv_iload_n hx hb dX6_enters_73 rfl (lv_at hl 3 rfl) ?_
      refine lv_iadd hx hb dX6_enters_74 ?_
      refine ma_20 K0 hK hE (nW := 14) (by omega) hZ dX6_enters_75 (fun v75 hE => ?_)
      refine lv_aload_n hx hb dX6_enters_76 rfl (lv_at hl 1 rfl) ?_
      refine mg_2 K0 hK (nW := 14) (by omega) hZ q1072 dX6_enters_77 ?_
      refine lv_iload_n hx hb dX6_enters_80 rfl (lv_at hl 3 rfl) ?_
      refine ma_13 K0 hK hE (nW := 14) (by omega) hZ dX6_enters_81 (fun v81 hE => ?_)
      refine lv_icmp_ge (tgt := 89) hx hb dX6_enters_82 (by decide) (fun hc => ?_) (fun hc => ?_)
      · have hE := if_t hE hc
        exact j89 u1 u2 u3 u4 z0 _ _ _ _ _ _ hE hZ (lv_sub hl [1, 2, 3, 4, 5, 0] rfl)
      · have hE := if_f hE hc
        refine lv_iconst (v := (1)) hx hb dX6_enters_85 (by decide +kernel) ?_
        refine lv_goto (tgt := 90) hx hb dX6_enters_86 (by decide) ?_
        exact j90 u1 u2 u3 u4 z0 (1 : Int32) _ _ _ _ _ _ hE hZ (lv_sub hl [1, 2, 3, 4, 5, 0] rfl)
  have j59 : ∀ (u1 : Int32) (u2 : Int32) (u3 : Int32) (u4 : Int32) (S : St) (H : Heap) (locs : List Loc) (cells slots : Nat) (ls : Array Slot), (f_X6_enters_J59 u1 u2 u3 u4).1 S = some E0 → ZZ D 14 (adrM w) (celM w) A S0 s.heap S H locs cells slots → lv_has ls 8 [(0, .ref (w.2.2 0)), (1, .int u1), (2, .int u2), (3, .int u3), (4, .int u4)] → W p l e R s m args below meth c H locs cells slots (MQ below (QE E0 vU (PMo D w A) A) args s (gN E0.2 7 0 - gN S0 7 0) (gN E0.2 3 0 - gN S0 3 0) A) (F0 m 59 ls []) := by
    intro u1 u2 u3 u4 S H locs cells slots ls hE hZ hl
    unfold f_X6_enters_J59 at hE
    refine lv_iconst (v := (0)) hx hb dX6_enters_59 (by decide +kernel) ?_
    exact j60 u1 u2 u3 u4 (0 : Int32) _ _ _ _ _ _ hE hZ (lv_sub hl [0, 1, 2, 3, 4] rfl)
  have j34 : ∀ (u1 : Int32) (u2 : Int32) (u3 : Int32) (z0 : Int32) (S : St) (H : Heap) (locs : List Loc) (cells slots : Nat) (ls : Array Slot), (f_X6_enters_J34 u1 u2 u3 z0).1 S = some E0 → ZZ D 14 (adrM w) (celM w) A S0 s.heap S H locs cells slots → lv_has ls 8 [(0, .ref (w.2.2 0)), (1, .int u1), (2, .int u2), (3, .int u3)] → W p l e R s m args below meth c H locs cells slots (MQ below (QE E0 vU (PMo D w A) A) args s (gN E0.2 7 0 - gN S0 7 0) (gN E0.2 3 0 - gN S0 3 0) A) (F0 m 34 ls [.int z0]) := by
    intro u1 u2 u3 z0 S H locs cells slots ls hE hZ hl
    unfold f_X6_enters_J34 at hE
    refine lv_istore (lv' := [(4, .int z0), (0, .ref (w.2.2 0)), (1, .int u1), (2, .int u2), (3, .int u3)]) hx hb dX6_enters_34 hl (by decide) rfl (fun ls hl => ?_)
    refine lv_aload_n hx hb dX6_enters_36 rfl (lv_at hl 1 rfl) ?_
    refine mg_1 K0 hK (nW := 14) (by omega) hZ q1071 dX6_enters_37 ?_
    refine lv_iload_n hx hb dX6_enters_40 rfl (lv_at hl 3 rfl) ?_
    refine ma_12 K0 hK hE (nW := 14) (by omega) hZ dX6_enters_41 (fun v41 hE => ?_)
    refine lv_iconst (v := (-1)) hx hb dX6_enters_42 (by decide +kernel) ?_
    refine lv_icmp_eq (tgt := 59) hx hb dX6_enters_43 (by decide) (fun hc => ?_) (fun hc => ?_)
    · have hE := if_t hE hc
      exact j59 u1 u2 u3 z0 _ _ _ _ _ _ hE hZ (lv_sub hl [1, 2, 3, 4, 0] rfl)
    · have hE := if_f hE hc
      refine lv_iload hx hb dX6_enters_46 (lv_at hl 0 rfl) ?_
      refine lv_if_ne (tgt := 59) hx hb dX6_enters_48 (by decide) (fun hc => ?_) (fun hc => ?_)
      · have hE := if_f hE hc
        exact j59 u1 u2 u3 z0 _ _ _ _ _ _ hE hZ (lv_sub hl [1, 2, 3, 4, 0] rfl)
      · have hE := if_t hE hc
        refine lv_iload_n hx hb dX6_enters_51 rfl (lv_at hl 4 rfl) ?_
        refine lv_if_ne (tgt := 59) hx hb dX6_enters_52 (by decide) (fun hc => ?_) (fun hc => ?_)
        · have hE := if_f hE hc
          exact j59 u1 u2 u3 z0 _ _ _ _ _ _ hE hZ (lv_sub hl [1, 2, 3, 4, 0] rfl)
        · have hE := if_t hE hc
          refine lv_iconst (v := (1)) hx hb dX6_enters_55 (by decide +kernel) ?_
          refine lv_goto (tgt := 60) hx hb dX6_enters_56 (by decide) ?_
          exact j60 u1 u2 u3 z0 (1 : Int32) _ _ _ _ _ _ hE hZ (lv_sub hl [1, 2, 3, 4, 0] rfl)
  have j33 : ∀ (u1 : Int32) (u2 : Int32) (u3 : Int32) (S : St) (H : Heap) (locs : List Loc) (cells slots : Nat) (ls : Array Slot), (f_X6_enters_J33 u1 u2 u3).1 S = some E0 → ZZ D 14 (adrM w) (celM w) A S0 s.heap S H locs cells slots → lv_has ls 8 [(0, .ref (w.2.2 0)), (1, .int u1), (2, .int u2), (3, .int u3)] → W p l e R s m args below meth c H locs cells slots (MQ below (QE E0 vU (PMo D w A) A) args s (gN E0.2 7 0 - gN S0 7 0) (gN E0.2 3 0 - gN S0 3 0) A) (F0 m 33 ls []) := by
    intro u1 u2 u3 S H locs cells slots ls hE hZ hl
    unfold f_X6_enters_J33 at hE
    refine lv_iconst (v := (0)) hx hb dX6_enters_33 (by decide +kernel) ?_
    exact j34 u1 u2 u3 (0 : Int32) _ _ _ _ _ _ hE hZ (lv_sub hl [0, 1, 2, 3] rfl)
  unfold f_X6_enters at hE
  refine lv_aload_n hx hb dX6_enters_0 rfl (lv_at hl 0 rfl) ?_
  refine mg_1 K0 hK (nW := 14) (by omega) hZ q1071 dX6_enters_1 ?_
  refine lv_iload_n hx hb dX6_enters_4 rfl (lv_at hl 2 rfl) ?_
  refine ma_12 K0 hK hE (nW := 14) (by omega) hZ dX6_enters_5 (fun v5 hE => ?_)
  refine lv_iconst (v := (-1)) hx hb dX6_enters_6 (by decide +kernel) ?_
  refine lv_icmp_eq (tgt := 33) hx hb dX6_enters_7 (by decide) (fun hc => ?_) (fun hc => ?_)
  · have hE := if_t hE hc
    exact j33 a1 a2 a3 _ _ _ _ _ _ hE hZ (lv_sub hl [0, 1, 2, 3] rfl)
  · have hE := if_f hE hc
    refine lv_aload_n hx hb dX6_enters_10 rfl (lv_at hl 0 rfl) ?_
    refine mg_7 K0 hK (nW := 14) (by omega) hZ q1077 dX6_enters_11 ?_
    refine lv_iload_n hx hb dX6_enters_14 rfl (lv_at hl 1 rfl) ?_
    refine ma_16 K0 hK hE (nW := 14) (by omega) hZ dX6_enters_15 (fun v15 hE => ?_)
    refine lv_aload_n hx hb dX6_enters_16 rfl (lv_at hl 0 rfl) ?_
    refine mg_1 K0 hK (nW := 14) (by omega) hZ q1071 dX6_enters_17 ?_
    refine lv_iload_n hx hb dX6_enters_20 rfl (lv_at hl 2 rfl) ?_
    refine ma_12 K0 hK hE (nW := 14) (by omega) hZ dX6_enters_21 (fun v21 hE => ?_)
    refine lv_ishr hx hb dX6_enters_22 ?_
    refine lv_iconst (v := (1)) hx hb dX6_enters_23 (by decide +kernel) ?_
    refine lv_iand hx hb dX6_enters_24 ?_
    refine lv_iconst (v := (1)) hx hb dX6_enters_25 (by decide +kernel) ?_
    refine lv_icmp_ne (tgt := 33) hx hb dX6_enters_26 (by decide) (fun hc => ?_) (fun hc => ?_)
    · have hE := if_f hE hc
      exact j33 a1 a2 a3 _ _ _ _ _ _ hE hZ (lv_sub hl [0, 1, 2, 3] rfl)
    · have hE := if_t hE hc
      refine lv_iconst (v := (1)) hx hb dX6_enters_29 (by decide +kernel) ?_
      refine lv_goto (tgt := 34) hx hb dX6_enters_30 (by decide) ?_
      exact j34 a1 a2 a3 (1 : Int32) _ _ _ _ _ _ hE hZ (lv_sub hl [0, 1, 2, 3] rfl)
def f_X6_fillsUp_L2 : Nat → Int32 → PM Unit
  | 0, _ => fail
  | n9 + 1, u1 => bnd (rdI 0 0 0) (fun v4 => if v4 ≤ u1 then (rtn ()) else (bnd (mld 12 8 u1) (fun v15 => if v15 = (-1 : Int32) then (f_X6_fillsUp_L2 n9 (u1 + (1 : Int32))) else (bnd (mld 14 8 u1) (fun v27 => bnd (mld 20 237 ((6 : Int32) + u1)) (fun v36 => bnd (rtn (v27 - v36)) (fun w38 => bnd (mld 20 237 v15) (fun v45 => if v45 ≤ w38 then (bnd (mld 20 237 v15) (fun v58 => bnd (mld 20 237 ((6 : Int32) + u1)) (fun v70 => bnd (mst 20 237 ((6 : Int32) + u1) (v70 + v58)) (fun _ => bnd (mld 20 237 v15) (fun v81 => bnd (mst 20 237 v15 (v81 - v58)) (fun _ => f_X6_fillsUp_L2 n9 (u1 + (1 : Int32)))))))) else (bnd (mld 20 237 ((6 : Int32) + u1)) (fun v70 => bnd (mst 20 237 ((6 : Int32) + u1) (v70 + w38)) (fun _ => bnd (mld 20 237 v15) (fun v81 => bnd (mst 20 237 v15 (v81 - w38)) (fun _ => f_X6_fillsUp_L2 n9 (u1 + (1 : Int32)))))))))))))))
def f_X6_fillsUp  : PM Unit := f_X6_fillsUp_L2 400 (0 : Int32)
theorem yd_X6_fillsUp : yX6_fillsUp.cls = RX6 ∧ yX6_fillsUp.cls ≠ "java/lang/invoke/MethodHandle" ∧ yX6_fillsUp.cls ≠ "java/lang/invoke/VarHandle" ∧ (parseMethodDescriptor yX6_fillsUp.desc).map (fun d => d.parameters.length) = some 0 := by decide +kernel
set_option maxHeartbeats 4000000 in
set_option maxRecDepth 100000 in
theorem c_X6_fillsUp (l : Launch) (D : va_G) (w : Wm) (A : Nat → Prop) : CT l yX6_fillsUp cX6_fillsUp 5 none 0 0 (PMo D w A) (ENVM D w) A [.ref (w.2.2 0)] (f_X6_fillsUp ) vU := by
  refine CT.ofW (by decide) [(0, .ref (w.2.2 0))] (by simp [lv_args, vr_cat, vc_i, vc_j, vc_f, vc_d, vc_r, vc_n]) (by simp [lg_sl, vr_cat, vc_i, vc_j, vc_f, vc_d, vc_r, vc_n]) ?_
  intro S0 E0 R p e s m args below meth c ls hE hRf hRl hRc K0 hr hlocks hEV hA hZ hl
  have K0 : CallFix p m c cX6_fillsUp 5 s args GW RX6 := K0
  have hx := K0.1
  have hb := K0.2.1
  have hown := K0.2.2.2.1
  have hg := K0.2.2.2.2
  have hK := hEV
  have hok : EVok (ENVM D w) A := ENVM.ok
  have j2 : ∀ (n9 : Nat) (u1 : Int32) (S : St) (H : Heap) (locs : List Loc) (cells slots : Nat) (ls : Array Slot), (f_X6_fillsUp_L2 n9 u1).1 S = some E0 → ZZ D 14 (adrM w) (celM w) A S0 s.heap S H locs cells slots → lv_has ls 5 [(0, .ref (w.2.2 0)), (1, .int u1)] → W p l e R s m args below meth c H locs cells slots (MQ below (QE E0 vU (PMo D w A) A) args s (gN E0.2 7 0 - gN S0 7 0) (gN E0.2 3 0 - gN S0 3 0) A) (F0 m 2 ls []) := by
    intro n9
    induction n9 with
    | zero =>
      intro u1 S H locs cells slots ls hE hZ hl
      rw [f_X6_fillsUp_L2] at hE
      cases hE
    | succ n9 ih =>
      intro u1 S H locs cells slots ls hE hZ hl
      rw [f_X6_fillsUp_L2] at hE
      refine lv_iload_n hx hb dX6_fillsUp_2 rfl (lv_at hl 1 rfl) ?_
      refine lv_aload_n hx hb dX6_fillsUp_3 rfl (lv_at hl 0 rfl) ?_
      refine mg_5 K0 hK hE (nW := 14) (by omega) hZ q1075 dX6_fillsUp_4 (fun v4 hE => ?_)
      refine lv_icmp_ge (tgt := 92) hx hb dX6_fillsUp_7 (by decide) (fun hc => ?_) (fun hc => ?_)
      · have hE := if_t hE hc
        exact end_v K0 hr hlocks hE hZ dX6_fillsUp_92
      · have hE := if_f hE hc
        refine lv_aload_n hx hb dX6_fillsUp_10 rfl (lv_at hl 0 rfl) ?_
        refine mg_1 K0 hK (nW := 14) (by omega) hZ q1071 dX6_fillsUp_11 ?_
        refine lv_iload_n hx hb dX6_fillsUp_14 rfl (lv_at hl 1 rfl) ?_
        refine ma_12 K0 hK hE (nW := 14) (by omega) hZ dX6_fillsUp_15 (fun v15 hE => ?_)
        refine lv_istore_n (i := 2) (lv' := [(2, .int v15), (0, .ref (w.2.2 0)), (1, .int u1)]) hx hb dX6_fillsUp_16 rfl hl (by decide) rfl (fun ls hl => ?_)
        refine lv_iload_n hx hb dX6_fillsUp_17 rfl (lv_at hl 0 rfl) ?_
        refine lv_iconst (v := (-1)) hx hb dX6_fillsUp_18 (by decide +kernel) ?_
        refine lv_icmp_eq (tgt := 86) hx hb dX6_fillsUp_19 (by decide) (fun hc => ?_) (fun hc => ?_)
        · have hE := if_t hE hc
          refine lv_iinc (v := (u1 + (1 : Int32))) (lv' := [(1, .int (u1 + (1 : Int32))), (2, .int v15), (0, .ref (w.2.2 0))]) hx hb dX6_fillsUp_86 hl (k := 2) rfl rfl (by decide) rfl (fun ls hl => ?_)
          refine lv_goto (tgt := 2) hx hb dX6_fillsUp_89 (by decide) ?_
          exact ih (u1 + (1 : Int32)) _ _ _ _ _ _ hE hZ (lv_sub hl [2, 0] rfl)
        · have hE := if_f hE hc
          refine lv_aload_n hx hb dX6_fillsUp_22 rfl (lv_at hl 1 rfl) ?_
          refine mg_3 K0 hK (nW := 14) (by omega) hZ q1073 dX6_fillsUp_23 ?_
          refine lv_iload_n hx hb dX6_fillsUp_26 rfl (lv_at hl 2 rfl) ?_
          refine ma_14 K0 hK hE (nW := 14) (by omega) hZ dX6_fillsUp_27 (fun v27 hE => ?_)
          refine lv_aload_n hx hb dX6_fillsUp_28 rfl (lv_at hl 1 rfl) ?_
          refine mg_12 K0 hK (nW := 14) (by omega) hZ q1082 dX6_fillsUp_29 ?_
          refine lv_bipush (v := (6)) hx hb dX6_fillsUp_32 (by decide +kernel) ?_
          refine lv_iload_n hx hb dX6_fillsUp_34 rfl (lv_at hl 2 rfl) ?_
          refine lv_iadd hx hb dX6_fillsUp_35 ?_
          refine ma_20 K0 hK hE (nW := 14) (by omega) hZ dX6_fillsUp_36 (fun v36 hE => ?_)
          refine lv_isub hx hb dX6_fillsUp_37 ?_
          refine let_i hE (fun w38 hE => ?_)
          refine lv_istore_n (i := 3) (lv' := [(3, .int w38), (2, .int v15), (0, .ref (w.2.2 0)), (1, .int u1)]) hx hb dX6_fillsUp_38 rfl hl (by decide) rfl (fun ls hl => ?_)
          refine lv_iload_n hx hb dX6_fillsUp_39 rfl (lv_at hl 0 rfl) ?_
          refine lv_aload_n hx hb dX6_fillsUp_40 rfl (lv_at hl 2 rfl) ?_
          refine mg_12 K0 hK (nW := 14) (by omega) hZ q1082 dX6_fillsUp_41 ?_
          refine lv_iload_n hx hb dX6_fillsUp_44 rfl (lv_at hl 1 rfl) ?_
          refine ma_20 K0 hK hE (nW := 14) (by omega) hZ dX6_fillsUp_45 (fun v45 hE => ?_)
          refine lv_icmp_ge (tgt := 53) hx hb dX6_fillsUp_46 (by decide) (fun hc => ?_) (fun hc => ?_)
          · have hE := if_t hE hc
            refine lv_aload_n hx hb dX6_fillsUp_53 rfl (lv_at hl 2 rfl) ?_
            refine mg_12 K0 hK (nW := 14) (by omega) hZ q1082 dX6_fillsUp_54 ?_
            refine lv_iload_n hx hb dX6_fillsUp_57 rfl (lv_at hl 1 rfl) ?_
            refine ma_20 K0 hK hE (nW := 14) (by omega) hZ dX6_fillsUp_58 (fun v58 hE => ?_)
            refine lv_istore (lv' := [(4, .int v58), (3, .int w38), (2, .int v15), (0, .ref (w.2.2 0)), (1, .int u1)]) hx hb dX6_fillsUp_59 hl (by decide) rfl (fun ls hl => ?_)
            refine lv_aload_n hx hb dX6_fillsUp_61 rfl (lv_at hl 3 rfl) ?_
            refine mg_12 K0 hK (nW := 14) (by omega) hZ q1082 dX6_fillsUp_62 ?_
            refine lv_bipush (v := (6)) hx hb dX6_fillsUp_65 (by decide +kernel) ?_
            refine lv_iload_n hx hb dX6_fillsUp_67 rfl (lv_at hl 4 rfl) ?_
            refine lv_iadd hx hb dX6_fillsUp_68 ?_
            refine lv_dup2_11 hx hb dX6_fillsUp_69 rfl rfl ?_
            refine ma_20 K0 hK hE (nW := 14) (by omega) hZ dX6_fillsUp_70 (fun v70 hE => ?_)
            refine lv_iload hx hb dX6_fillsUp_71 (lv_at hl 0 rfl) ?_
            refine lv_iadd hx hb dX6_fillsUp_73 ?_
            refine ms_20 K0 hK hE (nW := 14) (by omega) hZ dX6_fillsUp_74 (fun S H locs hE hZ => ?_)
            refine lv_aload_n hx hb dX6_fillsUp_75 rfl (lv_at hl 3 rfl) ?_
            refine mg_12 K0 hK (nW := 14) (by omega) hZ q1082 dX6_fillsUp_76 ?_
            refine lv_iload_n hx hb dX6_fillsUp_79 rfl (lv_at hl 2 rfl) ?_
            refine lv_dup2_11 hx hb dX6_fillsUp_80 rfl rfl ?_
            refine ma_20 K0 hK hE (nW := 14) (by omega) hZ dX6_fillsUp_81 (fun v81 hE => ?_)
            refine lv_iload hx hb dX6_fillsUp_82 (lv_at hl 0 rfl) ?_
            refine lv_isub hx hb dX6_fillsUp_84 ?_
            refine ms_20 K0 hK hE (nW := 14) (by omega) hZ dX6_fillsUp_85 (fun S H locs hE hZ => ?_)
            refine lv_iinc (v := (u1 + (1 : Int32))) (lv' := [(1, .int (u1 + (1 : Int32))), (4, .int v58), (3, .int w38), (2, .int v15), (0, .ref (w.2.2 0))]) hx hb dX6_fillsUp_86 hl (k := 4) rfl rfl (by decide) rfl (fun ls hl => ?_)
            refine lv_goto (tgt := 2) hx hb dX6_fillsUp_89 (by decide) ?_
            exact ih (u1 + (1 : Int32)) _ _ _ _ _ _ hE hZ (lv_sub hl [4, 0] rfl)
          · have hE := if_f hE hc
            refine lv_iload_n hx hb dX6_fillsUp_49 rfl (lv_at hl 0 rfl) ?_
            refine lv_goto (tgt := 59) hx hb dX6_fillsUp_50 (by decide) ?_
            refine lv_istore (lv' := [(4, .int w38), (3, .int w38), (2, .int v15), (0, .ref (w.2.2 0)), (1, .int u1)]) hx hb dX6_fillsUp_59 hl (by decide) rfl (fun ls hl => ?_)
            refine lv_aload_n hx hb dX6_fillsUp_61 rfl (lv_at hl 3 rfl) ?_
            refine mg_12 K0 hK (nW := 14) (by omega) hZ q1082 dX6_fillsUp_62 ?_
            refine lv_bipush (v := (6)) hx hb dX6_fillsUp_65 (by decide +kernel) ?_
            refine lv_iload_n hx hb dX6_fillsUp_67 rfl (lv_at hl 4 rfl) ?_
            refine lv_iadd hx hb dX6_fillsUp_68 ?_
            refine lv_dup2_11 hx hb dX6_fillsUp_69 rfl rfl ?_
            refine ma_20 K0 hK hE (nW := 14) (by omega) hZ dX6_fillsUp_70 (fun v70 hE => ?_)
            refine lv_iload hx hb dX6_fillsUp_71 (lv_at hl 0 rfl) ?_
            refine lv_iadd hx hb dX6_fillsUp_73 ?_
            refine ms_20 K0 hK hE (nW := 14) (by omega) hZ dX6_fillsUp_74 (fun S H locs hE hZ => ?_)
            refine lv_aload_n hx hb dX6_fillsUp_75 rfl (lv_at hl 3 rfl) ?_
            refine mg_12 K0 hK (nW := 14) (by omega) hZ q1082 dX6_fillsUp_76 ?_
            refine lv_iload_n hx hb dX6_fillsUp_79 rfl (lv_at hl 2 rfl) ?_
            refine lv_dup2_11 hx hb dX6_fillsUp_80 rfl rfl ?_
            refine ma_20 K0 hK hE (nW := 14) (by omega) hZ dX6_fillsUp_81 (fun v81 hE => ?_)
            refine lv_iload hx hb dX6_fillsUp_82 (lv_at hl 0 rfl) ?_
            refine lv_isub hx hb dX6_fillsUp_84 ?_
            refine ms_20 K0 hK hE (nW := 14) (by omega) hZ dX6_fillsUp_85 (fun S H locs hE hZ => ?_)
            refine lv_iinc (v := (u1 + (1 : Int32))) (lv' := [(1, .int (u1 + (1 : Int32))), (4, .int w38), (3, .int w38), (2, .int v15), (0, .ref (w.2.2 0))]) hx hb dX6_fillsUp_86 hl (k := 4) rfl rfl (by decide) rfl (fun ls hl => ?_)
            refine lv_goto (tgt := 2) hx hb dX6_fillsUp_89 (by decide) ?_
            exact ih (u1 + (1 : Int32)) _ _ _ _ _ _ hE hZ (lv_sub hl [4, 0] rfl)
  unfold f_X6_fillsUp at hE
  refine lv_iconst (v := (0)) hx hb dX6_fillsUp_0 (by decide +kernel) ?_
  refine lv_istore_n (i := 1) (lv' := [(1, .int (0 : Int32)), (0, .ref (w.2.2 0))]) hx hb dX6_fillsUp_1 rfl hl (by decide) rfl (fun ls hl => ?_)
  exact j2 400 (0 : Int32) _ _ _ _ _ _ hE hZ (lv_sub hl [1, 0] rfl)
def f_X6_leavesLine (a1 : Int32) : PM Unit := bnd (mld 20 237 ((112 : Int32) + a1)) (fun v8 => if v8 = 0 then (bnd (mst 20 237 ((82 : Int32) + a1) (100 : Int32)) (fun _ => bnd (mld 20 237 (235 : Int32)) (fun v86 => bnd (mst 20 237 ((202 : Int32) + v86) a1) (fun _ => bnd (mld 20 237 (235 : Int32)) (fun v98 => bnd (mst 20 237 (235 : Int32) (v98 + (1 : Int32))) (fun _ => bnd (f_X6_writes a1 (120 : Int32)) (fun _ => bnd (rdI 3 0 0) (fun v110 => if v110 = 0 then (bnd (mld 20 237 (232 : Int32)) (fun v128 => bnd (mst 18 30 a1 v128) (fun _ => rtn ()))) else (rtn ()))))))))) else (bnd (mst 20 237 ((82 : Int32) + a1) (108 : Int32)) (fun _ => bnd (mld 20 237 (234 : Int32)) (fun v37 => bnd (mst 20 237 ((172 : Int32) + v37) a1) (fun _ => bnd (mld 20 237 (234 : Int32)) (fun v49 => bnd (mst 20 237 (234 : Int32) (v49 + (1 : Int32))) (fun _ => bnd (f_X6_writes a1 (76 : Int32)) (fun _ => rtn ()))))))))
theorem yd_X6_leavesLine : yX6_leavesLine.cls = RX6 ∧ yX6_leavesLine.cls ≠ "java/lang/invoke/MethodHandle" ∧ yX6_leavesLine.cls ≠ "java/lang/invoke/VarHandle" ∧ (parseMethodDescriptor yX6_leavesLine.desc).map (fun d => d.parameters.length) = some 1 := by decide +kernel
set_option maxHeartbeats 4000000 in
set_option maxRecDepth 100000 in
theorem c_X6_leavesLine (l : Launch) (D : va_G) (w : Wm) (A : Nat → Prop) (a1 : Int32) : CT l yX6_leavesLine cX6_leavesLine 2 none 1 25 (PMo D w A) (ENVM D w) A [.ref (w.2.2 0), .int a1] (f_X6_leavesLine a1) vU := by
  refine CT.ofW (by decide) [(0, .ref (w.2.2 0)), (1, .int a1)] (by simp [lv_args, vr_cat, vc_i, vc_j, vc_f, vc_d, vc_r, vc_n]) (by simp [lg_sl, vr_cat, vc_i, vc_j, vc_f, vc_d, vc_r, vc_n]) ?_
  intro S0 E0 R p e s m args below meth c ls hE hRf hRl hRc K0 hr hlocks hEV hA hZ hl
  have K0 : CallFix p m c cX6_leavesLine 2 s args GW RX6 := K0
  have hx := K0.1
  have hb := K0.2.1
  have hown := K0.2.2.2.1
  have hg := K0.2.2.2.2
  have hK := hEV
  have hok : EVok (ENVM D w) A := ENVM.ok
  unfold f_X6_leavesLine at hE
  refine lv_aload_n hx hb dX6_leavesLine_0 rfl (lv_at hl 0 rfl) ?_
  refine mg_12 K0 hK (nW := 14) (by omega) hZ q1082 dX6_leavesLine_1 ?_
  refine lv_bipush (v := (112)) hx hb dX6_leavesLine_4 (by decide +kernel) ?_
  refine lv_iload_n hx hb dX6_leavesLine_6 rfl (lv_at hl 1 rfl) ?_
  refine lv_iadd hx hb dX6_leavesLine_7 ?_
  refine ma_20 K0 hK hE (nW := 14) (by omega) hZ dX6_leavesLine_8 (fun v8 hE => ?_)
  refine lv_if_eq (tgt := 61) hx hb dX6_leavesLine_9 (by decide) (fun hc => ?_) (fun hc => ?_)
  · have hE := if_t hE hc
    refine lv_aload_n hx hb dX6_leavesLine_61 rfl (lv_at hl 0 rfl) ?_
    refine mg_12 K0 hK (nW := 14) (by omega) hZ q1082 dX6_leavesLine_62 ?_
    refine lv_bipush (v := (82)) hx hb dX6_leavesLine_65 (by decide +kernel) ?_
    refine lv_iload_n hx hb dX6_leavesLine_67 rfl (lv_at hl 1 rfl) ?_
    refine lv_iadd hx hb dX6_leavesLine_68 ?_
    refine lv_bipush (v := (100)) hx hb dX6_leavesLine_69 (by decide +kernel) ?_
    refine ms_20 K0 hK hE (nW := 14) (by omega) hZ dX6_leavesLine_71 (fun S H locs hE hZ => ?_)
    refine lv_aload_n hx hb dX6_leavesLine_72 rfl (lv_at hl 0 rfl) ?_
    refine mg_12 K0 hK (nW := 14) (by omega) hZ q1082 dX6_leavesLine_73 ?_
    refine lv_sipush (v := (202)) hx hb dX6_leavesLine_76 (by decide +kernel) ?_
    refine lv_aload_n hx hb dX6_leavesLine_79 rfl (lv_at hl 0 rfl) ?_
    refine mg_12 K0 hK (nW := 14) (by omega) hZ q1082 dX6_leavesLine_80 ?_
    refine lv_sipush (v := (235)) hx hb dX6_leavesLine_83 (by decide +kernel) ?_
    refine ma_20 K0 hK hE (nW := 14) (by omega) hZ dX6_leavesLine_86 (fun v86 hE => ?_)
    refine lv_iadd hx hb dX6_leavesLine_87 ?_
    refine lv_iload_n hx hb dX6_leavesLine_88 rfl (lv_at hl 1 rfl) ?_
    refine ms_20 K0 hK hE (nW := 14) (by omega) hZ dX6_leavesLine_89 (fun S H locs hE hZ => ?_)
    refine lv_aload_n hx hb dX6_leavesLine_90 rfl (lv_at hl 0 rfl) ?_
    refine mg_12 K0 hK (nW := 14) (by omega) hZ q1082 dX6_leavesLine_91 ?_
    refine lv_sipush (v := (235)) hx hb dX6_leavesLine_94 (by decide +kernel) ?_
    refine lv_dup2_11 hx hb dX6_leavesLine_97 rfl rfl ?_
    refine ma_20 K0 hK hE (nW := 14) (by omega) hZ dX6_leavesLine_98 (fun v98 hE => ?_)
    refine lv_iconst (v := (1)) hx hb dX6_leavesLine_99 (by decide +kernel) ?_
    refine lv_iadd hx hb dX6_leavesLine_100 ?_
    refine ms_20 K0 hK hE (nW := 14) (by omega) hZ dX6_leavesLine_101 (fun S H locs hE hZ => ?_)
    refine lv_aload_n hx hb dX6_leavesLine_102 rfl (lv_at hl 0 rfl) ?_
    refine lv_iload_n hx hb dX6_leavesLine_103 rfl (lv_at hl 1 rfl) ?_
    refine lv_bipush (v := (120)) hx hb dX6_leavesLine_104 (by decide +kernel) ?_
    refine call_VS (rest := []) K0 hok hEV hA (c_X6_writes l D w A a1 (120 : Int32)) q1208 q1210 q30 q46 q1211 yd_X6_writes ⟨by omega, by omega⟩ hRc (rc_MO hK (nW := 14) (by omega) hZ) hE hZ hl.1 rfl (Nat.le_of_ble_eq_true rfl) dX6_leavesLine_106 (fun v106 S H locs cells slots hE hZ => ?_)
    refine W.eq (g2 := F0 m 109 ls []) rfl ?_
    refine lv_aload_n hx hb dX6_leavesLine_109 rfl (lv_at hl 0 rfl) ?_
    refine mg_14 K0 hK hE (nW := 14) (by omega) hZ q1084 dX6_leavesLine_110 (fun v110 hE => ?_)
    refine lv_if_ne (tgt := 130) hx hb dX6_leavesLine_113 (by decide) (fun hc => ?_) (fun hc => ?_)
    · have hE := if_f hE hc
      exact end_v K0 hr hlocks hE hZ dX6_leavesLine_130
    · have hE := if_t hE hc
      refine lv_aload_n hx hb dX6_leavesLine_116 rfl (lv_at hl 0 rfl) ?_
      refine mg_9 K0 hK (nW := 14) (by omega) hZ q1079 dX6_leavesLine_117 ?_
      refine lv_iload_n hx hb dX6_leavesLine_120 rfl (lv_at hl 1 rfl) ?_
      refine lv_aload_n hx hb dX6_leavesLine_121 rfl (lv_at hl 0 rfl) ?_
      refine mg_12 K0 hK (nW := 14) (by omega) hZ q1082 dX6_leavesLine_122 ?_
      refine lv_sipush (v := (232)) hx hb dX6_leavesLine_125 (by decide +kernel) ?_
      refine ma_20 K0 hK hE (nW := 14) (by omega) hZ dX6_leavesLine_128 (fun v128 hE => ?_)
      refine ms_18 K0 hK hE (nW := 14) (by omega) hZ dX6_leavesLine_129 (fun S H locs hE hZ => ?_)
      exact end_v K0 hr hlocks hE hZ dX6_leavesLine_130
  · have hE := if_f hE hc
    refine lv_aload_n hx hb dX6_leavesLine_12 rfl (lv_at hl 0 rfl) ?_
    refine mg_12 K0 hK (nW := 14) (by omega) hZ q1082 dX6_leavesLine_13 ?_
    refine lv_bipush (v := (82)) hx hb dX6_leavesLine_16 (by decide +kernel) ?_
    refine lv_iload_n hx hb dX6_leavesLine_18 rfl (lv_at hl 1 rfl) ?_
    refine lv_iadd hx hb dX6_leavesLine_19 ?_
    refine lv_bipush (v := (108)) hx hb dX6_leavesLine_20 (by decide +kernel) ?_
    refine ms_20 K0 hK hE (nW := 14) (by omega) hZ dX6_leavesLine_22 (fun S H locs hE hZ => ?_)
    refine lv_aload_n hx hb dX6_leavesLine_23 rfl (lv_at hl 0 rfl) ?_
    refine mg_12 K0 hK (nW := 14) (by omega) hZ q1082 dX6_leavesLine_24 ?_
    refine lv_sipush (v := (172)) hx hb dX6_leavesLine_27 (by decide +kernel) ?_
    refine lv_aload_n hx hb dX6_leavesLine_30 rfl (lv_at hl 0 rfl) ?_
    refine mg_12 K0 hK (nW := 14) (by omega) hZ q1082 dX6_leavesLine_31 ?_
    refine lv_sipush (v := (234)) hx hb dX6_leavesLine_34 (by decide +kernel) ?_
    refine ma_20 K0 hK hE (nW := 14) (by omega) hZ dX6_leavesLine_37 (fun v37 hE => ?_)
    refine lv_iadd hx hb dX6_leavesLine_38 ?_
    refine lv_iload_n hx hb dX6_leavesLine_39 rfl (lv_at hl 1 rfl) ?_
    refine ms_20 K0 hK hE (nW := 14) (by omega) hZ dX6_leavesLine_40 (fun S H locs hE hZ => ?_)
    refine lv_aload_n hx hb dX6_leavesLine_41 rfl (lv_at hl 0 rfl) ?_
    refine mg_12 K0 hK (nW := 14) (by omega) hZ q1082 dX6_leavesLine_42 ?_
    refine lv_sipush (v := (234)) hx hb dX6_leavesLine_45 (by decide +kernel) ?_
    refine lv_dup2_11 hx hb dX6_leavesLine_48 rfl rfl ?_
    refine ma_20 K0 hK hE (nW := 14) (by omega) hZ dX6_leavesLine_49 (fun v49 hE => ?_)
    refine lv_iconst (v := (1)) hx hb dX6_leavesLine_50 (by decide +kernel) ?_
    refine lv_iadd hx hb dX6_leavesLine_51 ?_
    refine ms_20 K0 hK hE (nW := 14) (by omega) hZ dX6_leavesLine_52 (fun S H locs hE hZ => ?_)
    refine lv_aload_n hx hb dX6_leavesLine_53 rfl (lv_at hl 0 rfl) ?_
    refine lv_iload_n hx hb dX6_leavesLine_54 rfl (lv_at hl 1 rfl) ?_
    refine lv_bipush (v := (76)) hx hb dX6_leavesLine_55 (by decide +kernel) ?_
    refine call_VS (rest := []) K0 hok hEV hA (c_X6_writes l D w A a1 (76 : Int32)) q1208 q1210 q30 q46 q1211 yd_X6_writes ⟨by omega, by omega⟩ hRc (rc_MO hK (nW := 14) (by omega) hZ) hE hZ hl.1 rfl (Nat.le_of_ble_eq_true rfl) dX6_leavesLine_57 (fun v57 S H locs cells slots hE hZ => ?_)
    refine W.eq (g2 := F0 m 60 ls []) rfl ?_
    exact end_v K0 hr hlocks hE hZ dX6_leavesLine_60
def f_X6_goesOn_J51 (u1 : Int32) (u2 : Int32) : PM Unit := bnd (mst 20 237 ((14 : Int32) + u1) (-1 : Int32)) (fun _ => bnd (f_X6_leavesLine u2) (fun _ => rtn ()))
def f_X6_goesOn (a1 : Int32) : PM Unit := bnd (mld 20 237 ((14 : Int32) + a1)) (fun v8 => if v8 = (-1 : Int32) then (rtn ()) else (bnd (mld 20 237 ((22 : Int32) + v8)) (fun v23 => if v23 ≤ 0 then (bnd (mld 20 237 ((52 : Int32) + v8)) (fun v36 => if v36 = (1 : Int32) then (f_X6_goesOn_J51 a1 v8) else (bnd (rdI 0 0 0) (fun v43 => if a1 = (v43 - (1 : Int32)) then (f_X6_goesOn_J51 a1 v8) else (bnd (mld 20 237 (((14 : Int32) + a1) + (1 : Int32))) (fun v79 => if v79 = (-1 : Int32) then (bnd (mst 20 237 ((14 : Int32) + a1) (-1 : Int32)) (fun _ => bnd (f_X6_enters v8 (a1 + (1 : Int32)) (0 : Int32)) (fun _ => rtn ()))) else (rtn ()))))))) else (rtn ()))))
theorem yd_X6_goesOn : yX6_goesOn.cls = RX6 ∧ yX6_goesOn.cls ≠ "java/lang/invoke/MethodHandle" ∧ yX6_goesOn.cls ≠ "java/lang/invoke/VarHandle" ∧ (parseMethodDescriptor yX6_goesOn.desc).map (fun d => d.parameters.length) = some 1 := by decide +kernel
set_option maxHeartbeats 4000000 in
set_option maxRecDepth 100000 in
theorem c_X6_goesOn (l : Launch) (D : va_G) (w : Wm) (A : Nat → Prop) (a1 : Int32) : CT l yX6_goesOn cX6_goesOn 3 none 2 52 (PMo D w A) (ENVM D w) A [.ref (w.2.2 0), .int a1] (f_X6_goesOn a1) vU := by
  refine CT.ofW (by decide) [(0, .ref (w.2.2 0)), (1, .int a1)] (by simp [lv_args, vr_cat, vc_i, vc_j, vc_f, vc_d, vc_r, vc_n]) (by simp [lg_sl, vr_cat, vc_i, vc_j, vc_f, vc_d, vc_r, vc_n]) ?_
  intro S0 E0 R p e s m args below meth c ls hE hRf hRl hRc K0 hr hlocks hEV hA hZ hl
  have K0 : CallFix p m c cX6_goesOn 3 s args GW RX6 := K0
  have hx := K0.1
  have hb := K0.2.1
  have hown := K0.2.2.2.1
  have hg := K0.2.2.2.2
  have hK := hEV
  have hok : EVok (ENVM D w) A := ENVM.ok
  have j51 : ∀ (u1 : Int32) (u2 : Int32) (S : St) (H : Heap) (locs : List Loc) (cells slots : Nat) (ls : Array Slot), (f_X6_goesOn_J51 u1 u2).1 S = some E0 → ZZ D 14 (adrM w) (celM w) A S0 s.heap S H locs cells slots → lv_has ls 3 [(0, .ref (w.2.2 0)), (1, .int u1), (2, .int u2)] → W p l e R s m args below meth c H locs cells slots (MQ below (QE E0 vU (PMo D w A) A) args s (gN E0.2 7 0 - gN S0 7 0) (gN E0.2 3 0 - gN S0 3 0) A) (F0 m 51 ls []) := by
    intro u1 u2 S H locs cells slots ls hE hZ hl
    unfold f_X6_goesOn_J51 at hE
    refine lv_aload_n hx hb dX6_goesOn_51 rfl (lv_at hl 0 rfl) ?_
    refine mg_12 K0 hK (nW := 14) (by omega) hZ q1082 dX6_goesOn_52 ?_
    refine lv_bipush (v := (14)) hx hb dX6_goesOn_55 (by decide +kernel) ?_
    refine lv_iload_n hx hb dX6_goesOn_57 rfl (lv_at hl 1 rfl) ?_
    refine lv_iadd hx hb dX6_goesOn_58 ?_
    refine lv_iconst (v := (-1)) hx hb dX6_goesOn_59 (by decide +kernel) ?_
    refine ms_20 K0 hK hE (nW := 14) (by omega) hZ dX6_goesOn_60 (fun S H locs hE hZ => ?_)
    refine lv_aload_n hx hb dX6_goesOn_61 rfl (lv_at hl 0 rfl) ?_
    refine lv_iload_n hx hb dX6_goesOn_62 rfl (lv_at hl 2 rfl) ?_
    refine call_VS (rest := []) K0 hok hEV hA (c_X6_leavesLine l D w A u2) q1204 q1206 q29 q46 q1207 yd_X6_leavesLine ⟨by omega, by omega⟩ hRc (rc_MO hK (nW := 14) (by omega) hZ) hE hZ hl.1 rfl (Nat.le_of_ble_eq_true rfl) dX6_goesOn_63 (fun v63 S H locs cells slots hE hZ => ?_)
    refine W.eq (g2 := F0 m 66 ls []) rfl ?_
    refine lv_goto (tgt := 103) hx hb dX6_goesOn_66 (by decide) ?_
    exact end_v K0 hr hlocks hE hZ dX6_goesOn_103
  unfold f_X6_goesOn at hE
  refine lv_aload_n hx hb dX6_goesOn_0 rfl (lv_at hl 0 rfl) ?_
  refine mg_12 K0 hK (nW := 14) (by omega) hZ q1082 dX6_goesOn_1 ?_
  refine lv_bipush (v := (14)) hx hb dX6_goesOn_4 (by decide +kernel) ?_
  refine lv_iload_n hx hb dX6_goesOn_6 rfl (lv_at hl 1 rfl) ?_
  refine lv_iadd hx hb dX6_goesOn_7 ?_
  refine ma_20 K0 hK hE (nW := 14) (by omega) hZ dX6_goesOn_8 (fun v8 hE => ?_)
  refine lv_istore_n (i := 2) (lv' := [(2, .int v8), (0, .ref (w.2.2 0)), (1, .int a1)]) hx hb dX6_goesOn_9 rfl hl (by decide) rfl (fun ls hl => ?_)
  refine lv_iload_n hx hb dX6_goesOn_10 rfl (lv_at hl 0 rfl) ?_
  refine lv_iconst (v := (-1)) hx hb dX6_goesOn_11 (by decide +kernel) ?_
  refine lv_icmp_eq (tgt := 27) hx hb dX6_goesOn_12 (by decide) (fun hc => ?_) (fun hc => ?_)
  · have hE := if_t hE hc
    exact end_v K0 hr hlocks hE hZ dX6_goesOn_27
  · have hE := if_f hE hc
    refine lv_aload_n hx hb dX6_goesOn_15 rfl (lv_at hl 1 rfl) ?_
    refine mg_12 K0 hK (nW := 14) (by omega) hZ q1082 dX6_goesOn_16 ?_
    refine lv_bipush (v := (22)) hx hb dX6_goesOn_19 (by decide +kernel) ?_
    refine lv_iload_n hx hb dX6_goesOn_21 rfl (lv_at hl 0 rfl) ?_
    refine lv_iadd hx hb dX6_goesOn_22 ?_
    refine ma_20 K0 hK hE (nW := 14) (by omega) hZ dX6_goesOn_23 (fun v23 hE => ?_)
    refine lv_if_le (tgt := 28) hx hb dX6_goesOn_24 (by decide) (fun hc => ?_) (fun hc => ?_)
    · have hE := if_t hE hc
      refine lv_aload_n hx hb dX6_goesOn_28 rfl (lv_at hl 1 rfl) ?_
      refine mg_12 K0 hK (nW := 14) (by omega) hZ q1082 dX6_goesOn_29 ?_
      refine lv_bipush (v := (52)) hx hb dX6_goesOn_32 (by decide +kernel) ?_
      refine lv_iload_n hx hb dX6_goesOn_34 rfl (lv_at hl 0 rfl) ?_
      refine lv_iadd hx hb dX6_goesOn_35 ?_
      refine ma_20 K0 hK hE (nW := 14) (by omega) hZ dX6_goesOn_36 (fun v36 hE => ?_)
      refine lv_iconst (v := (1)) hx hb dX6_goesOn_37 (by decide +kernel) ?_
      refine lv_icmp_eq (tgt := 51) hx hb dX6_goesOn_38 (by decide) (fun hc => ?_) (fun hc => ?_)
      · have hE := if_t hE hc
        exact j51 a1 v8 _ _ _ _ _ _ hE hZ (lv_sub hl [1, 2, 0] rfl)
      · have hE := if_f hE hc
        refine lv_iload_n hx hb dX6_goesOn_41 rfl (lv_at hl 2 rfl) ?_
        refine lv_aload_n hx hb dX6_goesOn_42 rfl (lv_at hl 1 rfl) ?_
        refine mg_5 K0 hK hE (nW := 14) (by omega) hZ q1075 dX6_goesOn_43 (fun v43 hE => ?_)
        refine lv_iconst (v := (1)) hx hb dX6_goesOn_46 (by decide +kernel) ?_
        refine lv_isub hx hb dX6_goesOn_47 ?_
        refine lv_icmp_ne (tgt := 69) hx hb dX6_goesOn_48 (by decide) (fun hc => ?_) (fun hc => ?_)
        · have hE := if_f hE hc
          refine lv_aload_n hx hb dX6_goesOn_69 rfl (lv_at hl 1 rfl) ?_
          refine mg_12 K0 hK (nW := 14) (by omega) hZ q1082 dX6_goesOn_70 ?_
          refine lv_bipush (v := (14)) hx hb dX6_goesOn_73 (by decide +kernel) ?_
          refine lv_iload_n hx hb dX6_goesOn_75 rfl (lv_at hl 2 rfl) ?_
          refine lv_iadd hx hb dX6_goesOn_76 ?_
          refine lv_iconst (v := (1)) hx hb dX6_goesOn_77 (by decide +kernel) ?_
          refine lv_iadd hx hb dX6_goesOn_78 ?_
          refine ma_20 K0 hK hE (nW := 14) (by omega) hZ dX6_goesOn_79 (fun v79 hE => ?_)
          refine lv_iconst (v := (-1)) hx hb dX6_goesOn_80 (by decide +kernel) ?_
          refine lv_icmp_ne (tgt := 103) hx hb dX6_goesOn_81 (by decide) (fun hc => ?_) (fun hc => ?_)
          · have hE := if_f hE hc
            exact end_v K0 hr hlocks hE hZ dX6_goesOn_103
          · have hE := if_t hE hc
            refine lv_aload_n hx hb dX6_goesOn_84 rfl (lv_at hl 1 rfl) ?_
            refine mg_12 K0 hK (nW := 14) (by omega) hZ q1082 dX6_goesOn_85 ?_
            refine lv_bipush (v := (14)) hx hb dX6_goesOn_88 (by decide +kernel) ?_
            refine lv_iload_n hx hb dX6_goesOn_90 rfl (lv_at hl 2 rfl) ?_
            refine lv_iadd hx hb dX6_goesOn_91 ?_
            refine lv_iconst (v := (-1)) hx hb dX6_goesOn_92 (by decide +kernel) ?_
            refine ms_20 K0 hK hE (nW := 14) (by omega) hZ dX6_goesOn_93 (fun S H locs hE hZ => ?_)
            refine lv_aload_n hx hb dX6_goesOn_94 rfl (lv_at hl 1 rfl) ?_
            refine lv_iload_n hx hb dX6_goesOn_95 rfl (lv_at hl 0 rfl) ?_
            refine lv_iload_n hx hb dX6_goesOn_96 rfl (lv_at hl 2 rfl) ?_
            refine lv_iconst (v := (1)) hx hb dX6_goesOn_97 (by decide +kernel) ?_
            refine lv_iadd hx hb dX6_goesOn_98 ?_
            refine lv_iconst (v := (0)) hx hb dX6_goesOn_99 (by decide +kernel) ?_
            refine call_VS (rest := []) K0 hok hEV hA (c_X6_enters l D w A v8 (a1 + (1 : Int32)) (0 : Int32)) q1212 q1214 q31 q46 q1215 yd_X6_enters ⟨by omega, by omega⟩ hRc (rc_MO hK (nW := 14) (by omega) hZ) hE hZ hl.1 rfl (Nat.le_of_ble_eq_true rfl) dX6_goesOn_100 (fun v100 S H locs cells slots hE hZ => ?_)
            refine W.eq (g2 := F0 m 103 ls []) rfl ?_
            exact end_v K0 hr hlocks hE hZ dX6_goesOn_103
        · have hE := if_t hE hc
          exact j51 a1 v8 _ _ _ _ _ _ hE hZ (lv_sub hl [1, 2, 0] rfl)
    · have hE := if_f hE hc
      exact end_v K0 hr hlocks hE hZ dX6_goesOn_27
def f_X6_comesBack_L13 : Nat → Int32 → Int32 → Int32 → PM Unit
  | 0, _, _, _ => fail
  | n9 + 1, u1, u2, u3 => if u2 ≤ u3 then (bnd (mst 20 237 (234 : Int32) u1) (fun _ => rtn ())) else (bnd (mld 20 237 ((172 : Int32) + u3)) (fun v27 => bnd (mld 20 237 ((112 : Int32) + v27)) (fun v39 => bnd (f_X6_lowest v39) (fun v40 => bnd (mld 20 237 ((14 : Int32) + v40)) (fun v54 => if v54 = (-1 : Int32) then (bnd (f_X6_enters v27 v40 (1 : Int32)) (fun _ => f_X6_comesBack_L13 n9 u1 u2 (u3 + (1 : Int32)))) else (bnd (mst 20 237 ((172 : Int32) + u1) v27) (fun _ => f_X6_comesBack_L13 n9 (u1 + (1 : Int32)) u2 (u3 + (1 : Int32)))))))))
def f_X6_comesBack  : PM Unit := bnd (mld 20 237 (234 : Int32)) (fun v9 => f_X6_comesBack_L13 400 (0 : Int32) v9 (0 : Int32))
theorem yd_X6_comesBack : yX6_comesBack.cls = RX6 ∧ yX6_comesBack.cls ≠ "java/lang/invoke/MethodHandle" ∧ yX6_comesBack.cls ≠ "java/lang/invoke/VarHandle" ∧ (parseMethodDescriptor yX6_comesBack.desc).map (fun d => d.parameters.length) = some 0 := by decide +kernel
set_option maxHeartbeats 4000000 in
set_option maxRecDepth 100000 in
theorem c_X6_comesBack (l : Launch) (D : va_G) (w : Wm) (A : Nat → Prop) : CT l yX6_comesBack cX6_comesBack 6 none 2 52 (PMo D w A) (ENVM D w) A [.ref (w.2.2 0)] (f_X6_comesBack ) vU := by
  refine CT.ofW (by decide) [(0, .ref (w.2.2 0))] (by simp [lv_args, vr_cat, vc_i, vc_j, vc_f, vc_d, vc_r, vc_n]) (by simp [lg_sl, vr_cat, vc_i, vc_j, vc_f, vc_d, vc_r, vc_n]) ?_
  intro S0 E0 R p e s m args below meth c ls hE hRf hRl hRc K0 hr hlocks hEV hA hZ hl
  have K0 : CallFix p m c cX6_comesBack 6 s args GW RX6 := K0
  have hx := K0.1
  have hb := K0.2.1
  have hown := K0.2.2.2.1
  have hg := K0.2.2.2.2
  have hK := hEV
  have hok : EVok (ENVM D w) A := ENVM.ok
  have j13 : ∀ (n9 : Nat) (u1 : Int32) (u2 : Int32) (u3 : Int32) (S : St) (H : Heap) (locs : List Loc) (cells slots : Nat) (ls : Array Slot), (f_X6_comesBack_L13 n9 u1 u2 u3).1 S = some E0 → ZZ D 14 (adrM w) (celM w) A S0 s.heap S H locs cells slots → lv_has ls 6 [(0, .ref (w.2.2 0)), (1, .int u1), (2, .int u2), (3, .int u3)] → W p l e R s m args below meth c H locs cells slots (MQ below (QE E0 vU (PMo D w A) A) args s (gN E0.2 7 0 - gN S0 7 0) (gN E0.2 3 0 - gN S0 3 0) A) (F0 m 13 ls []) := by
    intro n9
    induction n9 with
    | zero =>
      intro u1 u2 u3 S H locs cells slots ls hE hZ hl
      rw [f_X6_comesBack_L13] at hE
      cases hE
    | succ n9 ih =>
      intro u1 u2 u3 S H locs cells slots ls hE hZ hl
      rw [f_X6_comesBack_L13] at hE
      refine lv_iload_n hx hb dX6_comesBack_13 rfl (lv_at hl 3 rfl) ?_
      refine lv_iload_n hx hb dX6_comesBack_14 rfl (lv_at hl 2 rfl) ?_
      refine lv_icmp_ge (tgt := 92) hx hb dX6_comesBack_15 (by decide) (fun hc => ?_) (fun hc => ?_)
      · have hE := if_t hE hc
        refine lv_aload_n hx hb dX6_comesBack_92 rfl (lv_at hl 0 rfl) ?_
        refine mg_12 K0 hK (nW := 14) (by omega) hZ q1082 dX6_comesBack_93 ?_
        refine lv_sipush (v := (234)) hx hb dX6_comesBack_96 (by decide +kernel) ?_
        refine lv_iload_n hx hb dX6_comesBack_99 rfl (lv_at hl 1 rfl) ?_
        refine ms_20 K0 hK hE (nW := 14) (by omega) hZ dX6_comesBack_100 (fun S H locs hE hZ => ?_)
        exact end_v K0 hr hlocks hE hZ dX6_comesBack_101
      · have hE := if_f hE hc
        refine lv_aload_n hx hb dX6_comesBack_18 rfl (lv_at hl 0 rfl) ?_
        refine mg_12 K0 hK (nW := 14) (by omega) hZ q1082 dX6_comesBack_19 ?_
        refine lv_sipush (v := (172)) hx hb dX6_comesBack_22 (by decide +kernel) ?_
        refine lv_iload_n hx hb dX6_comesBack_25 rfl (lv_at hl 3 rfl) ?_
        refine lv_iadd hx hb dX6_comesBack_26 ?_
        refine ma_20 K0 hK hE (nW := 14) (by omega) hZ dX6_comesBack_27 (fun v27 hE => ?_)
        refine lv_istore (lv' := [(4, .int v27), (0, .ref (w.2.2 0)), (1, .int u1), (2, .int u2), (3, .int u3)]) hx hb dX6_comesBack_28 hl (by decide) rfl (fun ls hl => ?_)
        refine lv_aload_n hx hb dX6_comesBack_30 rfl (lv_at hl 1 rfl) ?_
        refine mg_12 K0 hK (nW := 14) (by omega) hZ q1082 dX6_comesBack_31 ?_
        refine lv_bipush (v := (112)) hx hb dX6_comesBack_34 (by decide +kernel) ?_
        refine lv_iload hx hb dX6_comesBack_36 (lv_at hl 0 rfl) ?_
        refine lv_iadd hx hb dX6_comesBack_38 ?_
        refine ma_20 K0 hK hE (nW := 14) (by omega) hZ dX6_comesBack_39 (fun v39 hE => ?_)
        refine call_S (rest := []) K0 hok hEV hA (c_X6_lowest l D w A v39) q1220 q1221 q46 q1222 yd_X6_lowest ⟨by omega, by omega⟩ hRc hE hZ hl.1 rfl (Nat.le_of_ble_eq_true rfl) dX6_comesBack_40 (fun v40 S H locs cells slots hE hZ => ?_)
        refine W.eq (g2 := F0 m 43 ls [.int v40]) rfl ?_
        refine lv_istore (lv' := [(5, .int v40), (4, .int v27), (0, .ref (w.2.2 0)), (1, .int u1), (2, .int u2), (3, .int u3)]) hx hb dX6_comesBack_43 hl (by decide) rfl (fun ls hl => ?_)
        refine lv_aload_n hx hb dX6_comesBack_45 rfl (lv_at hl 2 rfl) ?_
        refine mg_12 K0 hK (nW := 14) (by omega) hZ q1082 dX6_comesBack_46 ?_
        refine lv_bipush (v := (14)) hx hb dX6_comesBack_49 (by decide +kernel) ?_
        refine lv_iload hx hb dX6_comesBack_51 (lv_at hl 0 rfl) ?_
        refine lv_iadd hx hb dX6_comesBack_53 ?_
        refine ma_20 K0 hK hE (nW := 14) (by omega) hZ dX6_comesBack_54 (fun v54 hE => ?_)
        refine lv_iconst (v := (-1)) hx hb dX6_comesBack_55 (by decide +kernel) ?_
        refine lv_icmp_ne (tgt := 71) hx hb dX6_comesBack_56 (by decide) (fun hc => ?_) (fun hc => ?_)
        · have hE := if_f hE hc
          refine lv_aload_n hx hb dX6_comesBack_71 rfl (lv_at hl 2 rfl) ?_
          refine mg_12 K0 hK (nW := 14) (by omega) hZ q1082 dX6_comesBack_72 ?_
          refine lv_sipush (v := (172)) hx hb dX6_comesBack_75 (by decide +kernel) ?_
          refine lv_iload_n hx hb dX6_comesBack_78 rfl (lv_at hl 3 rfl) ?_
          refine lv_iadd hx hb dX6_comesBack_79 ?_
          refine lv_iload hx hb dX6_comesBack_80 (lv_at hl 1 rfl) ?_
          refine ms_20 K0 hK hE (nW := 14) (by omega) hZ dX6_comesBack_82 (fun S H locs hE hZ => ?_)
          refine lv_iinc (v := (u1 + (1 : Int32))) (lv' := [(1, .int (u1 + (1 : Int32))), (5, .int v40), (4, .int v27), (0, .ref (w.2.2 0)), (2, .int u2), (3, .int u3)]) hx hb dX6_comesBack_83 hl (k := 3) rfl rfl (by decide) rfl (fun ls hl => ?_)
          refine lv_iinc (v := (u3 + (1 : Int32))) (lv' := [(3, .int (u3 + (1 : Int32))), (1, .int (u1 + (1 : Int32))), (5, .int v40), (4, .int v27), (0, .ref (w.2.2 0)), (2, .int u2)]) hx hb dX6_comesBack_86 hl (k := 5) rfl rfl (by decide) rfl (fun ls hl => ?_)
          refine lv_goto (tgt := 13) hx hb dX6_comesBack_89 (by decide) ?_
          exact ih (u1 + (1 : Int32)) u2 (u3 + (1 : Int32)) _ _ _ _ _ _ hE hZ (lv_sub hl [4, 1, 5, 0] rfl)
        · have hE := if_t hE hc
          refine lv_aload_n hx hb dX6_comesBack_59 rfl (lv_at hl 2 rfl) ?_
          refine lv_iload hx hb dX6_comesBack_60 (lv_at hl 1 rfl) ?_
          refine lv_iload hx hb dX6_comesBack_62 (lv_at hl 0 rfl) ?_
          refine lv_iconst (v := (1)) hx hb dX6_comesBack_64 (by decide +kernel) ?_
          refine call_VS (rest := []) K0 hok hEV hA (c_X6_enters l D w A v27 v40 (1 : Int32)) q1212 q1214 q31 q46 q1215 yd_X6_enters ⟨by omega, by omega⟩ hRc (rc_MO hK (nW := 14) (by omega) hZ) hE hZ hl.1 rfl (Nat.le_of_ble_eq_true rfl) dX6_comesBack_65 (fun v65 S H locs cells slots hE hZ => ?_)
          refine W.eq (g2 := F0 m 68 ls []) rfl ?_
          refine lv_goto (tgt := 86) hx hb dX6_comesBack_68 (by decide) ?_
          refine lv_iinc (v := (u3 + (1 : Int32))) (lv' := [(3, .int (u3 + (1 : Int32))), (5, .int v40), (4, .int v27), (0, .ref (w.2.2 0)), (1, .int u1), (2, .int u2)]) hx hb dX6_comesBack_86 hl (k := 5) rfl rfl (by decide) rfl (fun ls hl => ?_)
          refine lv_goto (tgt := 13) hx hb dX6_comesBack_89 (by decide) ?_
          exact ih u1 u2 (u3 + (1 : Int32)) _ _ _ _ _ _ hE hZ (lv_sub hl [3, 4, 5, 0] rfl)
  unfold f_X6_comesBack at hE
  refine lv_iconst (v := (0)) hx hb dX6_comesBack_0 (by decide +kernel) ?_
  refine lv_istore_n (i := 1) (lv' := [(1, .int (0 : Int32)), (0, .ref (w.2.2 0))]) hx hb dX6_comesBack_1 rfl hl (by decide) rfl (fun ls hl => ?_)
  refine lv_aload_n hx hb dX6_comesBack_2 rfl (lv_at hl 1 rfl) ?_
  refine mg_12 K0 hK (nW := 14) (by omega) hZ q1082 dX6_comesBack_3 ?_
  refine lv_sipush (v := (234)) hx hb dX6_comesBack_6 (by decide +kernel) ?_
  refine ma_20 K0 hK hE (nW := 14) (by omega) hZ dX6_comesBack_9 (fun v9 hE => ?_)
  refine lv_istore_n (i := 2) (lv' := [(2, .int v9), (1, .int (0 : Int32)), (0, .ref (w.2.2 0))]) hx hb dX6_comesBack_10 rfl hl (by decide) rfl (fun ls hl => ?_)
  refine lv_iconst (v := (0)) hx hb dX6_comesBack_11 (by decide +kernel) ?_
  refine lv_istore_n (i := 3) (lv' := [(3, .int (0 : Int32)), (2, .int v9), (1, .int (0 : Int32)), (0, .ref (w.2.2 0))]) hx hb dX6_comesBack_12 rfl hl (by decide) rfl (fun ls hl => ?_)
  exact j13 400 (0 : Int32) v9 (0 : Int32) _ _ _ _ _ _ hE hZ (lv_sub hl [3, 2, 1, 0] rfl)
def f_X6_ticks_L159 : Nat → Int32 → Int32 → PM Unit
  | 0, _, _ => fail
  | n9 + 1, u1, u2 => bnd (mld 20 237 (233 : Int32)) (fun v167 => if v167 ≤ u2 then (bnd (f_X6_enters u1 (0 : Int32) (0 : Int32)) (fun _ => rtn ())) else (bnd (mld 20 237 (((142 : Int32) + u2) + (1 : Int32))) (fun v191 => bnd (mst 20 237 ((142 : Int32) + u2) v191) (fun _ => f_X6_ticks_L159 n9 u1 (u2 + (1 : Int32))))))
def f_X6_ticks_L95 : Nat → Int32 → PM Unit
  | 0, _ => fail
  | n9 + 1, u1 => if u1 < 0 then (bnd (f_X6_comesBack ) (fun _ => bnd (mld 20 237 (233 : Int32)) (fun v121 => if v121 ≤ 0 then (rtn ()) else (bnd (mld 20 237 (14 : Int32)) (fun v131 => if v131 = (-1 : Int32) then (bnd (mld 20 237 (142 : Int32)) (fun v143 => bnd (mld 20 237 (233 : Int32)) (fun v153 => bnd (mst 20 237 (233 : Int32) (v153 - (1 : Int32))) (fun _ => f_X6_ticks_L159 400 v143 (0 : Int32))))) else (rtn ())))))) else (bnd (f_X6_goesOn u1) (fun _ => f_X6_ticks_L95 n9 (u1 + (-1 : Int32))))
def f_X6_ticks_L34 : Nat → Int32 → PM Unit
  | 0, _ => fail
  | n9 + 1, u1 => bnd (rdI 0 0 0) (fun v36 => if v36 ≤ u1 then (bnd (rdI 0 0 0) (fun v89 => bnd (rtn (v89 - (1 : Int32))) (fun w94 => f_X6_ticks_L95 400 w94))) else (bnd (mld 20 237 ((14 : Int32) + u1)) (fun v50 => if v50 = (-1 : Int32) then (f_X6_ticks_L34 n9 (u1 + (1 : Int32))) else (bnd (mld 20 237 ((22 : Int32) + v50)) (fun v65 => if v65 ≤ 0 then (f_X6_ticks_L34 n9 (u1 + (1 : Int32))) else (bnd (mld 20 237 ((22 : Int32) + v50)) (fun v78 => bnd (mst 20 237 ((22 : Int32) + v50) (v78 - (1 : Int32))) (fun _ => f_X6_ticks_L34 n9 (u1 + (1 : Int32))))))))))
def f_X6_ticks  : PM Unit := bnd (mld 20 237 (232 : Int32)) (fun v8 => bnd (mst 20 237 (232 : Int32) (v8 + (1 : Int32))) (fun _ => bnd (mld 20 237 (232 : Int32)) (fun v19 => bnd (rdI 1 0 0) (fun v21 => if ¬ v21 = 0 then (if (v19 - v19 / v21 * v21) = 0 then (bnd (f_X6_fillsUp ) (fun _ => f_X6_ticks_L34 400 (0 : Int32))) else (f_X6_ticks_L34 400 (0 : Int32))) else fail))))
theorem yd_X6_ticks : yX6_ticks.cls = RX6 ∧ yX6_ticks.cls ≠ "java/lang/invoke/MethodHandle" ∧ yX6_ticks.cls ≠ "java/lang/invoke/VarHandle" ∧ (parseMethodDescriptor yX6_ticks.desc).map (fun d => d.parameters.length) = some 0 := by decide +kernel
set_option maxHeartbeats 4000000 in
set_option maxRecDepth 100000 in
theorem c_X6_ticks (l : Launch) (D : va_G) (w : Wm) (A : Nat → Prop) : CT l yX6_ticks cX6_ticks 3 none 3 77 (PMo D w A) (ENVM D w) A [.ref (w.2.2 0)] (f_X6_ticks ) vU := by
  refine CT.ofW (by decide) [(0, .ref (w.2.2 0))] (by simp [lv_args, vr_cat, vc_i, vc_j, vc_f, vc_d, vc_r, vc_n]) (by simp [lg_sl, vr_cat, vc_i, vc_j, vc_f, vc_d, vc_r, vc_n]) ?_
  intro S0 E0 R p e s m args below meth c ls hE hRf hRl hRc K0 hr hlocks hEV hA hZ hl
  have K0 : CallFix p m c cX6_ticks 3 s args GW RX6 := K0
  have hx := K0.1
  have hb := K0.2.1
  have hown := K0.2.2.2.1
  have hg := K0.2.2.2.2
  have hK := hEV
  have hok : EVok (ENVM D w) A := ENVM.ok
  have j159 : ∀ (n9 : Nat) (u1 : Int32) (u2 : Int32) (S : St) (H : Heap) (locs : List Loc) (cells slots : Nat) (ls : Array Slot), (f_X6_ticks_L159 n9 u1 u2).1 S = some E0 → ZZ D 14 (adrM w) (celM w) A S0 s.heap S H locs cells slots → lv_has ls 3 [(0, .ref (w.2.2 0)), (1, .int u1), (2, .int u2)] → W p l e R s m args below meth c H locs cells slots (MQ below (QE E0 vU (PMo D w A) A) args s (gN E0.2 7 0 - gN S0 7 0) (gN E0.2 3 0 - gN S0 3 0) A) (F0 m 159 ls []) := by
    intro n9
    induction n9 with
    | zero =>
      intro u1 u2 S H locs cells slots ls hE hZ hl
      rw [f_X6_ticks_L159] at hE
      cases hE
    | succ n9 ih =>
      intro u1 u2 S H locs cells slots ls hE hZ hl
      rw [f_X6_ticks_L159] at hE
      refine lv_iload_n hx hb dX6_ticks_159 rfl (lv_at hl 2 rfl) ?_
      refine lv_aload_n hx hb dX6_ticks_160 rfl (lv_at hl 0 rfl) ?_
      refine mg_12 K0 hK (nW := 14) (by omega) hZ q1082 dX6_ticks_161 ?_
      refine lv_sipush (v := (233)) hx hb dX6_ticks_164 (by decide +kernel) ?_
      refine ma_20 K0 hK hE (nW := 14) (by omega) hZ dX6_ticks_167 (fun v167 hE => ?_)
      refine lv_icmp_ge (tgt := 199) hx hb dX6_ticks_168 (by decide) (fun hc => ?_) (fun hc => ?_)
      · have hE := if_t hE hc
        refine lv_aload_n hx hb dX6_ticks_199 rfl (lv_at hl 0 rfl) ?_
        refine lv_iload_n hx hb dX6_ticks_200 rfl (lv_at hl 1 rfl) ?_
        refine lv_iconst (v := (0)) hx hb dX6_ticks_201 (by decide +kernel) ?_
        refine lv_iconst (v := (0)) hx hb dX6_ticks_202 (by decide +kernel) ?_
        refine call_VS (rest := []) K0 hok hEV hA (c_X6_enters l D w A u1 (0 : Int32) (0 : Int32)) q1212 q1214 q31 q46 q1215 yd_X6_enters ⟨by omega, by omega⟩ hRc (rc_MO hK (nW := 14) (by omega) hZ) hE hZ hl.1 rfl (Nat.le_of_ble_eq_true rfl) dX6_ticks_203 (fun v203 S H locs cells slots hE hZ => ?_)
        refine W.eq (g2 := F0 m 206 ls []) rfl ?_
        exact end_v K0 hr hlocks hE hZ dX6_ticks_206
      · have hE := if_f hE hc
        refine lv_aload_n hx hb dX6_ticks_171 rfl (lv_at hl 0 rfl) ?_
        refine mg_12 K0 hK (nW := 14) (by omega) hZ q1082 dX6_ticks_172 ?_
        refine lv_sipush (v := (142)) hx hb dX6_ticks_175 (by decide +kernel) ?_
        refine lv_iload_n hx hb dX6_ticks_178 rfl (lv_at hl 2 rfl) ?_
        refine lv_iadd hx hb dX6_ticks_179 ?_
        refine lv_aload_n hx hb dX6_ticks_180 rfl (lv_at hl 0 rfl) ?_
        refine mg_12 K0 hK (nW := 14) (by omega) hZ q1082 dX6_ticks_181 ?_
        refine lv_sipush (v := (142)) hx hb dX6_ticks_184 (by decide +kernel) ?_
        refine lv_iload_n hx hb dX6_ticks_187 rfl (lv_at hl 2 rfl) ?_
        refine lv_iadd hx hb dX6_ticks_188 ?_
        refine lv_iconst (v := (1)) hx hb dX6_ticks_189 (by decide +kernel) ?_
        refine lv_iadd hx hb dX6_ticks_190 ?_
        refine ma_20 K0 hK hE (nW := 14) (by omega) hZ dX6_ticks_191 (fun v191 hE => ?_)
        refine ms_20 K0 hK hE (nW := 14) (by omega) hZ dX6_ticks_192 (fun S H locs hE hZ => ?_)
        refine lv_iinc (v := (u2 + (1 : Int32))) (lv' := [(2, .int (u2 + (1 : Int32))), (0, .ref (w.2.2 0)), (1, .int u1)]) hx hb dX6_ticks_193 hl (k := 2) rfl rfl (by decide) rfl (fun ls hl => ?_)
        refine lv_goto (tgt := 159) hx hb dX6_ticks_196 (by decide) ?_
        exact ih u1 (u2 + (1 : Int32)) _ _ _ _ _ _ hE hZ (lv_sub hl [1, 2, 0] rfl)
  have j95 : ∀ (n9 : Nat) (u1 : Int32) (S : St) (H : Heap) (locs : List Loc) (cells slots : Nat) (ls : Array Slot), (f_X6_ticks_L95 n9 u1).1 S = some E0 → ZZ D 14 (adrM w) (celM w) A S0 s.heap S H locs cells slots → lv_has ls 3 [(0, .ref (w.2.2 0)), (1, .int u1)] → W p l e R s m args below meth c H locs cells slots (MQ below (QE E0 vU (PMo D w A) A) args s (gN E0.2 7 0 - gN S0 7 0) (gN E0.2 3 0 - gN S0 3 0) A) (F0 m 95 ls []) := by
    intro n9
    induction n9 with
    | zero =>
      intro u1 S H locs cells slots ls hE hZ hl
      rw [f_X6_ticks_L95] at hE
      cases hE
    | succ n9 ih =>
      intro u1 S H locs cells slots ls hE hZ hl
      rw [f_X6_ticks_L95] at hE
      refine lv_iload_n hx hb dX6_ticks_95 rfl (lv_at hl 1 rfl) ?_
      refine lv_if_lt (tgt := 110) hx hb dX6_ticks_96 (by decide) (fun hc => ?_) (fun hc => ?_)
      · have hE := if_t hE hc
        refine lv_aload_n hx hb dX6_ticks_110 rfl (lv_at hl 0 rfl) ?_
        refine call_VS (rest := []) K0 hok hEV hA (c_X6_comesBack l D w A ) q1216 q1218 q32 q46 q1219 yd_X6_comesBack ⟨by omega, by omega⟩ hRc (rc_MO hK (nW := 14) (by omega) hZ) hE hZ hl.1 rfl (Nat.le_of_ble_eq_true rfl) dX6_ticks_111 (fun v111 S H locs cells slots hE hZ => ?_)
        refine W.eq (g2 := F0 m 114 ls []) rfl ?_
        refine lv_aload_n hx hb dX6_ticks_114 rfl (lv_at hl 0 rfl) ?_
        refine mg_12 K0 hK (nW := 14) (by omega) hZ q1082 dX6_ticks_115 ?_
        refine lv_sipush (v := (233)) hx hb dX6_ticks_118 (by decide +kernel) ?_
        refine ma_20 K0 hK hE (nW := 14) (by omega) hZ dX6_ticks_121 (fun v121 hE => ?_)
        refine lv_if_le (tgt := 206) hx hb dX6_ticks_122 (by decide) (fun hc => ?_) (fun hc => ?_)
        · have hE := if_t hE hc
          exact end_v K0 hr hlocks hE hZ dX6_ticks_206
        · have hE := if_f hE hc
          refine lv_aload_n hx hb dX6_ticks_125 rfl (lv_at hl 0 rfl) ?_
          refine mg_12 K0 hK (nW := 14) (by omega) hZ q1082 dX6_ticks_126 ?_
          refine lv_bipush (v := (14)) hx hb dX6_ticks_129 (by decide +kernel) ?_
          refine ma_20 K0 hK hE (nW := 14) (by omega) hZ dX6_ticks_131 (fun v131 hE => ?_)
          refine lv_iconst (v := (-1)) hx hb dX6_ticks_132 (by decide +kernel) ?_
          refine lv_icmp_ne (tgt := 206) hx hb dX6_ticks_133 (by decide) (fun hc => ?_) (fun hc => ?_)
          · have hE := if_f hE hc
            exact end_v K0 hr hlocks hE hZ dX6_ticks_206
          · have hE := if_t hE hc
            refine lv_aload_n hx hb dX6_ticks_136 rfl (lv_at hl 0 rfl) ?_
            refine mg_12 K0 hK (nW := 14) (by omega) hZ q1082 dX6_ticks_137 ?_
            refine lv_sipush (v := (142)) hx hb dX6_ticks_140 (by decide +kernel) ?_
            refine ma_20 K0 hK hE (nW := 14) (by omega) hZ dX6_ticks_143 (fun v143 hE => ?_)
            refine lv_istore_n (i := 1) (lv' := [(1, .int v143), (0, .ref (w.2.2 0))]) hx hb dX6_ticks_144 rfl hl (by decide) rfl (fun ls hl => ?_)
            refine lv_aload_n hx hb dX6_ticks_145 rfl (lv_at hl 1 rfl) ?_
            refine mg_12 K0 hK (nW := 14) (by omega) hZ q1082 dX6_ticks_146 ?_
            refine lv_sipush (v := (233)) hx hb dX6_ticks_149 (by decide +kernel) ?_
            refine lv_dup2_11 hx hb dX6_ticks_152 rfl rfl ?_
            refine ma_20 K0 hK hE (nW := 14) (by omega) hZ dX6_ticks_153 (fun v153 hE => ?_)
            refine lv_iconst (v := (1)) hx hb dX6_ticks_154 (by decide +kernel) ?_
            refine lv_isub hx hb dX6_ticks_155 ?_
            refine ms_20 K0 hK hE (nW := 14) (by omega) hZ dX6_ticks_156 (fun S H locs hE hZ => ?_)
            refine lv_iconst (v := (0)) hx hb dX6_ticks_157 (by decide +kernel) ?_
            refine lv_istore_n (i := 2) (lv' := [(2, .int (0 : Int32)), (1, .int v143), (0, .ref (w.2.2 0))]) hx hb dX6_ticks_158 rfl hl (by decide) rfl (fun ls hl => ?_)
            exact j159 400 v143 (0 : Int32) _ _ _ _ _ _ hE hZ (lv_sub hl [2, 1, 0] rfl)
      · have hE := if_f hE hc
        refine lv_aload_n hx hb dX6_ticks_99 rfl (lv_at hl 0 rfl) ?_
        refine lv_iload_n hx hb dX6_ticks_100 rfl (lv_at hl 1 rfl) ?_
        refine call_VS (rest := []) K0 hok hEV hA (c_X6_goesOn l D w A u1) q1200 q1202 q28 q46 q1203 yd_X6_goesOn ⟨by omega, by omega⟩ hRc (rc_MO hK (nW := 14) (by omega) hZ) hE hZ hl.1 rfl (Nat.le_of_ble_eq_true rfl) dX6_ticks_101 (fun v101 S H locs cells slots hE hZ => ?_)
        refine W.eq (g2 := F0 m 104 ls []) rfl ?_
        refine lv_iinc (v := (u1 + (-1 : Int32))) (lv' := [(1, .int (u1 + (-1 : Int32))), (0, .ref (w.2.2 0))]) hx hb dX6_ticks_104 hl (k := 1) rfl rfl (by decide) rfl (fun ls hl => ?_)
        refine lv_goto (tgt := 95) hx hb dX6_ticks_107 (by decide) ?_
        exact ih (u1 + (-1 : Int32)) _ _ _ _ _ _ hE hZ (lv_sub hl [1, 0] rfl)
  have j34 : ∀ (n9 : Nat) (u1 : Int32) (S : St) (H : Heap) (locs : List Loc) (cells slots : Nat) (ls : Array Slot), (f_X6_ticks_L34 n9 u1).1 S = some E0 → ZZ D 14 (adrM w) (celM w) A S0 s.heap S H locs cells slots → lv_has ls 3 [(0, .ref (w.2.2 0)), (1, .int u1)] → W p l e R s m args below meth c H locs cells slots (MQ below (QE E0 vU (PMo D w A) A) args s (gN E0.2 7 0 - gN S0 7 0) (gN E0.2 3 0 - gN S0 3 0) A) (F0 m 34 ls []) := by
    intro n9
    induction n9 with
    | zero =>
      intro u1 S H locs cells slots ls hE hZ hl
      rw [f_X6_ticks_L34] at hE
      cases hE
    | succ n9 ih =>
      intro u1 S H locs cells slots ls hE hZ hl
      rw [f_X6_ticks_L34] at hE
      refine lv_iload_n hx hb dX6_ticks_34 rfl (lv_at hl 1 rfl) ?_
      refine lv_aload_n hx hb dX6_ticks_35 rfl (lv_at hl 0 rfl) ?_
      refine mg_5 K0 hK hE (nW := 14) (by omega) hZ q1075 dX6_ticks_36 (fun v36 hE => ?_)
      refine lv_icmp_ge (tgt := 88) hx hb dX6_ticks_39 (by decide) (fun hc => ?_) (fun hc => ?_)
      · have hE := if_t hE hc
        refine lv_aload_n hx hb dX6_ticks_88 rfl (lv_at hl 0 rfl) ?_
        refine mg_5 K0 hK hE (nW := 14) (by omega) hZ q1075 dX6_ticks_89 (fun v89 hE => ?_)
        refine lv_iconst (v := (1)) hx hb dX6_ticks_92 (by decide +kernel) ?_
        refine lv_isub hx hb dX6_ticks_93 ?_
        refine let_i hE (fun w94 hE => ?_)
        refine lv_istore_n (i := 1) (lv' := [(1, .int w94), (0, .ref (w.2.2 0))]) hx hb dX6_ticks_94 rfl hl (by decide) rfl (fun ls hl => ?_)
        exact j95 400 w94 _ _ _ _ _ _ hE hZ (lv_sub hl [1, 0] rfl)
      · have hE := if_f hE hc
        refine lv_aload_n hx hb dX6_ticks_42 rfl (lv_at hl 0 rfl) ?_
        refine mg_12 K0 hK (nW := 14) (by omega) hZ q1082 dX6_ticks_43 ?_
        refine lv_bipush (v := (14)) hx hb dX6_ticks_46 (by decide +kernel) ?_
        refine lv_iload_n hx hb dX6_ticks_48 rfl (lv_at hl 1 rfl) ?_
        refine lv_iadd hx hb dX6_ticks_49 ?_
        refine ma_20 K0 hK hE (nW := 14) (by omega) hZ dX6_ticks_50 (fun v50 hE => ?_)
        refine lv_istore_n (i := 2) (lv' := [(2, .int v50), (0, .ref (w.2.2 0)), (1, .int u1)]) hx hb dX6_ticks_51 rfl hl (by decide) rfl (fun ls hl => ?_)
        refine lv_iload_n hx hb dX6_ticks_52 rfl (lv_at hl 0 rfl) ?_
        refine lv_iconst (v := (-1)) hx hb dX6_ticks_53 (by decide +kernel) ?_
        refine lv_icmp_eq (tgt := 82) hx hb dX6_ticks_54 (by decide) (fun hc => ?_) (fun hc => ?_)
        · have hE := if_t hE hc
          refine lv_iinc (v := (u1 + (1 : Int32))) (lv' := [(1, .int (u1 + (1 : Int32))), (2, .int v50), (0, .ref (w.2.2 0))]) hx hb dX6_ticks_82 hl (k := 2) rfl rfl (by decide) rfl (fun ls hl => ?_)
          refine lv_goto (tgt := 34) hx hb dX6_ticks_85 (by decide) ?_
          exact ih (u1 + (1 : Int32)) _ _ _ _ _ _ hE hZ (lv_sub hl [2, 0] rfl)
        · have hE := if_f hE hc
          refine lv_aload_n hx hb dX6_ticks_57 rfl (lv_at hl 1 rfl) ?_
          refine mg_12 K0 hK (nW := 14) (by omega) hZ q1082 dX6_ticks_58 ?_
          refine lv_bipush (v := (22)) hx hb dX6_ticks_61 (by decide +kernel) ?_
          refine lv_iload_n hx hb dX6_ticks_63 rfl (lv_at hl 0 rfl) ?_
          refine lv_iadd hx hb dX6_ticks_64 ?_
          refine ma_20 K0 hK hE (nW := 14) (by omega) hZ dX6_ticks_65 (fun v65 hE => ?_)
          refine lv_if_le (tgt := 82) hx hb dX6_ticks_66 (by decide) (fun hc => ?_) (fun hc => ?_)
          · have hE := if_t hE hc
            refine lv_iinc (v := (u1 + (1 : Int32))) (lv' := [(1, .int (u1 + (1 : Int32))), (2, .int v50), (0, .ref (w.2.2 0))]) hx hb dX6_ticks_82 hl (k := 2) rfl rfl (by decide) rfl (fun ls hl => ?_)
            refine lv_goto (tgt := 34) hx hb dX6_ticks_85 (by decide) ?_
            exact ih (u1 + (1 : Int32)) _ _ _ _ _ _ hE hZ (lv_sub hl [2, 0] rfl)
          · have hE := if_f hE hc
            refine lv_aload_n hx hb dX6_ticks_69 rfl (lv_at hl 1 rfl) ?_
            refine mg_12 K0 hK (nW := 14) (by omega) hZ q1082 dX6_ticks_70 ?_
            refine lv_bipush (v := (22)) hx hb dX6_ticks_73 (by decide +kernel) ?_
            refine lv_iload_n hx hb dX6_ticks_75 rfl (lv_at hl 0 rfl) ?_
            refine lv_iadd hx hb dX6_ticks_76 ?_
            refine lv_dup2_11 hx hb dX6_ticks_77 rfl rfl ?_
            refine ma_20 K0 hK hE (nW := 14) (by omega) hZ dX6_ticks_78 (fun v78 hE => ?_)
            refine lv_iconst (v := (1)) hx hb dX6_ticks_79 (by decide +kernel) ?_
            refine lv_isub hx hb dX6_ticks_80 ?_
            refine ms_20 K0 hK hE (nW := 14) (by omega) hZ dX6_ticks_81 (fun S H locs hE hZ => ?_)
            refine lv_iinc (v := (u1 + (1 : Int32))) (lv' := [(1, .int (u1 + (1 : Int32))), (2, .int v50), (0, .ref (w.2.2 0))]) hx hb dX6_ticks_82 hl (k := 2) rfl rfl (by decide) rfl (fun ls hl => ?_)
            refine lv_goto (tgt := 34) hx hb dX6_ticks_85 (by decide) ?_
            exact ih (u1 + (1 : Int32)) _ _ _ _ _ _ hE hZ (lv_sub hl [2, 0] rfl)
  unfold f_X6_ticks at hE
  refine lv_aload_n hx hb dX6_ticks_0 rfl (lv_at hl 0 rfl) ?_
  refine mg_12 K0 hK (nW := 14) (by omega) hZ q1082 dX6_ticks_1 ?_
  refine lv_sipush (v := (232)) hx hb dX6_ticks_4 (by decide +kernel) ?_
  refine lv_dup2_11 hx hb dX6_ticks_7 rfl rfl ?_
  refine ma_20 K0 hK hE (nW := 14) (by omega) hZ dX6_ticks_8 (fun v8 hE => ?_)
  refine lv_iconst (v := (1)) hx hb dX6_ticks_9 (by decide +kernel) ?_
  refine lv_iadd hx hb dX6_ticks_10 ?_
  refine ms_20 K0 hK hE (nW := 14) (by omega) hZ dX6_ticks_11 (fun S H locs hE hZ => ?_)
  refine lv_aload_n hx hb dX6_ticks_12 rfl (lv_at hl 0 rfl) ?_
  refine mg_12 K0 hK (nW := 14) (by omega) hZ q1082 dX6_ticks_13 ?_
  refine lv_sipush (v := (232)) hx hb dX6_ticks_16 (by decide +kernel) ?_
  refine ma_20 K0 hK hE (nW := 14) (by omega) hZ dX6_ticks_19 (fun v19 hE => ?_)
  refine lv_aload_n hx hb dX6_ticks_20 rfl (lv_at hl 0 rfl) ?_
  refine mg_6 K0 hK hE (nW := 14) (by omega) hZ q1076 dX6_ticks_21 (fun v21 hE => ?_)
  obtain ⟨hc, hE⟩ := if_ok hE
  refine lv_irem hx hb dX6_ticks_24 hc ?_
  refine lv_if_ne (tgt := 32) hx hb dX6_ticks_25 (by decide) (fun hc => ?_) (fun hc => ?_)
  · have hE := if_f hE hc
    refine lv_iconst (v := (0)) hx hb dX6_ticks_32 (by decide +kernel) ?_
    refine lv_istore_n (i := 1) (lv' := [(1, .int (0 : Int32)), (0, .ref (w.2.2 0))]) hx hb dX6_ticks_33 rfl hl (by decide) rfl (fun ls hl => ?_)
    exact j34 400 (0 : Int32) _ _ _ _ _ _ hE hZ (lv_sub hl [1, 0] rfl)
  · have hE := if_t hE hc
    refine lv_aload_n hx hb dX6_ticks_28 rfl (lv_at hl 0 rfl) ?_
    refine call_VS (rest := []) K0 hok hEV hA (c_X6_fillsUp l D w A ) q1196 q1198 q27 q46 q1199 yd_X6_fillsUp ⟨by omega, by omega⟩ hRc (rc_MO hK (nW := 14) (by omega) hZ) hE hZ hl.1 rfl (Nat.le_of_ble_eq_true rfl) dX6_ticks_29 (fun v29 S H locs cells slots hE hZ => ?_)
    refine W.eq (g2 := F0 m 32 ls []) rfl ?_
    refine lv_iconst (v := (0)) hx hb dX6_ticks_32 (by decide +kernel) ?_
    refine lv_istore_n (i := 1) (lv' := [(1, .int (0 : Int32)), (0, .ref (w.2.2 0))]) hx hb dX6_ticks_33 rfl hl (by decide) rfl (fun ls hl => ?_)
    exact j34 400 (0 : Int32) _ _ _ _ _ _ hE hZ (lv_sub hl [1, 0] rfl)
def f_X6_isAsked_J14 (z0 : Int32) : PM Int32 := bnd (wrI 5 0 0 z0) (fun _ => bnd (rdI 5 0 0) (fun v18 => if v18 = 0 then (rtnZ (1 : Int32)) else (rtnZ (0 : Int32))))
def f_X6_isAsked (a1 : Int32) : PM Int32 := bnd (f_X6_isCar a1) (fun v3 => if v3 = 0 then (f_X6_isAsked_J14 (1 : Int32)) else (f_X6_isAsked_J14 (0 : Int32)))
theorem yd_X6_isAsked : yX6_isAsked.cls = RX6 ∧ yX6_isAsked.cls ≠ "java/lang/invoke/MethodHandle" ∧ yX6_isAsked.cls ≠ "java/lang/invoke/VarHandle" ∧ (parseMethodDescriptor yX6_isAsked.desc).map (fun d => d.parameters.length) = some 1 := by decide +kernel
set_option maxHeartbeats 4000000 in
set_option maxRecDepth 100000 in
theorem c_X6_isAsked (l : Launch) (D : va_G) (w : Wm) (A : Nat → Prop) (a1 : Int32) : CT l yX6_isAsked cX6_isAsked 2 (some .boolean) 2 46 (PMo D w A) (ENVM D w) A [.ref (w.2.2 0), .int a1] (f_X6_isAsked a1) vI := by
  refine CT.ofW (by decide) [(0, .ref (w.2.2 0)), (1, .int a1)] (by simp [lv_args, vr_cat, vc_i, vc_j, vc_f, vc_d, vc_r, vc_n]) (by simp [lg_sl, vr_cat, vc_i, vc_j, vc_f, vc_d, vc_r, vc_n]) ?_
  intro S0 E0 R p e s m args below meth c ls hE hRf hRl hRc K0 hr hlocks hEV hA hZ hl
  have K0 : CallFix p m c cX6_isAsked 2 s args GW RX6 := K0
  have hx := K0.1
  have hb := K0.2.1
  have hown := K0.2.2.2.1
  have hg := K0.2.2.2.2
  have hK := hEV
  have hok : EVok (ENVM D w) A := ENVM.ok
  have j14 : ∀ (z0 : Int32) (S : St) (H : Heap) (locs : List Loc) (cells slots : Nat) (ls : Array Slot), (f_X6_isAsked_J14 z0).1 S = some E0 → ZZ D 14 (adrM w) (celM w) A S0 s.heap S H locs cells slots → lv_has ls 2 [(0, .ref (w.2.2 0))] → W p l e R s m args below meth c H locs cells slots (MQ below (QE E0 vI (PMo D w A) A) args s (gN E0.2 7 0 - gN S0 7 0) (gN E0.2 3 0 - gN S0 3 0) A) (F0 m 14 ls [.int z0, .ref (w.2.2 0)]) := by
    intro z0 S H locs cells slots ls hE hZ hl
    unfold f_X6_isAsked_J14 at hE
    refine mp_19 K0 hK hE (nW := 14) (by omega) hZ q1089 dX6_isAsked_14 (fun S H locs hE hZ => ?_)
    refine lv_aload_n hx hb dX6_isAsked_17 rfl (lv_at hl 0 rfl) ?_
    refine mg_19 K0 hK hE (nW := 14) (by omega) hZ q1089 dX6_isAsked_18 (fun v18 hE => ?_)
    refine lv_if_ne (tgt := 28) hx hb dX6_isAsked_21 (by decide) (fun hc => ?_) (fun hc => ?_)
    · have hE := if_f hE hc
      refine lv_iconst (v := (0)) hx hb dX6_isAsked_28 (by decide +kernel) ?_
      exact end_z K0 hr hlocks hE hZ dX6_isAsked_29
    · have hE := if_t hE hc
      refine lv_iconst (v := (1)) hx hb dX6_isAsked_24 (by decide +kernel) ?_
      refine lv_goto (tgt := 29) hx hb dX6_isAsked_25 (by decide) ?_
      exact end_z K0 hr hlocks hE hZ dX6_isAsked_29
  unfold f_X6_isAsked at hE
  refine lv_aload_n hx hb dX6_isAsked_0 rfl (lv_at hl 0 rfl) ?_
  refine lv_aload_n hx hb dX6_isAsked_1 rfl (lv_at hl 0 rfl) ?_
  refine lv_iload_n hx hb dX6_isAsked_2 rfl (lv_at hl 1 rfl) ?_
  refine call_VS (rest := [.ref (w.2.2 0)]) K0 hok hEV hA (c_X6_isCar l D w A a1) q1169 q1171 q23 q46 q1172 yd_X6_isCar ⟨by omega, by omega⟩ hRc (rc_MO hK (nW := 14) (by omega) hZ) hE hZ hl.1 rfl (Nat.le_of_ble_eq_true rfl) dX6_isAsked_3 (fun v3 S H locs cells slots hE hZ => ?_)
  refine W.eq (g2 := F0 m 6 ls [.int v3, .ref (w.2.2 0)]) rfl ?_
  refine lv_if_eq (tgt := 13) hx hb dX6_isAsked_6 (by decide) (fun hc => ?_) (fun hc => ?_)
  · have hE := if_t hE hc
    refine lv_iconst (v := (1)) hx hb dX6_isAsked_13 (by decide +kernel) ?_
    exact j14 (1 : Int32) _ _ _ _ _ _ hE hZ (lv_sub hl [0] rfl)
  · have hE := if_f hE hc
    refine lv_iconst (v := (0)) hx hb dX6_isAsked_9 (by decide +kernel) ?_
    refine lv_goto (tgt := 14) hx hb dX6_isAsked_10 (by decide) ?_
    exact j14 (0 : Int32) _ _ _ _ _ _ hE hZ (lv_sub hl [0] rfl)
def f_X6_standsAt_L4 : Nat → Int32 → Int32 → Int32 → PM Int32
  | 0, _, _, _ => fail
  | n9 + 1, u1, u2, u3 => bnd (rdI 0 0 0) (fun v6 => if v6 ≤ u3 then (rtn u2) else (bnd (mld 20 237 ((14 : Int32) + u3)) (fun v20 => if v20 = u1 then (f_X6_standsAt_L4 n9 u1 u3 (u3 + (1 : Int32))) else (f_X6_standsAt_L4 n9 u1 u2 (u3 + (1 : Int32))))))
def f_X6_standsAt (a1 : Int32) : PM Int32 := f_X6_standsAt_L4 400 a1 (-1 : Int32) (0 : Int32)
theorem yd_X6_standsAt : yX6_standsAt.cls = RX6 ∧ yX6_standsAt.cls ≠ "java/lang/invoke/MethodHandle" ∧ yX6_standsAt.cls ≠ "java/lang/invoke/VarHandle" ∧ (parseMethodDescriptor yX6_standsAt.desc).map (fun d => d.parameters.length) = some 1 := by decide +kernel
set_option maxHeartbeats 4000000 in
set_option maxRecDepth 100000 in
theorem c_X6_standsAt (l : Launch) (D : va_G) (w : Wm) (A : Nat → Prop) (a1 : Int32) : CT l yX6_standsAt cX6_standsAt 4 (some .int) 0 0 (PMo D w A) (ENVM D w) A [.ref (w.2.2 0), .int a1] (f_X6_standsAt a1) vI := by
  refine CT.ofW (by decide) [(0, .ref (w.2.2 0)), (1, .int a1)] (by simp [lv_args, vr_cat, vc_i, vc_j, vc_f, vc_d, vc_r, vc_n]) (by simp [lg_sl, vr_cat, vc_i, vc_j, vc_f, vc_d, vc_r, vc_n]) ?_
  intro S0 E0 R p e s m args below meth c ls hE hRf hRl hRc K0 hr hlocks hEV hA hZ hl
  have K0 : CallFix p m c cX6_standsAt 4 s args GW RX6 := K0
  have hx := K0.1
  have hb := K0.2.1
  have hown := K0.2.2.2.1
  have hg := K0.2.2.2.2
  have hK := hEV
  have hok : EVok (ENVM D w) A := ENVM.ok
  have j4 : ∀ (n9 : Nat) (u1 : Int32) (u2 : Int32) (u3 : Int32) (S : St) (H : Heap) (locs : List Loc) (cells slots : Nat) (ls : Array Slot), (f_X6_standsAt_L4 n9 u1 u2 u3).1 S = some E0 → ZZ D 14 (adrM w) (celM w) A S0 s.heap S H locs cells slots → lv_has ls 4 [(0, .ref (w.2.2 0)), (1, .int u1), (2, .int u2), (3, .int u3)] → W p l e R s m args below meth c H locs cells slots (MQ below (QE E0 vI (PMo D w A) A) args s (gN E0.2 7 0 - gN S0 7 0) (gN E0.2 3 0 - gN S0 3 0) A) (F0 m 4 ls []) := by
    intro n9
    induction n9 with
    | zero =>
      intro u1 u2 u3 S H locs cells slots ls hE hZ hl
      rw [f_X6_standsAt_L4] at hE
      cases hE
    | succ n9 ih =>
      intro u1 u2 u3 S H locs cells slots ls hE hZ hl
      rw [f_X6_standsAt_L4] at hE
      refine lv_iload_n hx hb dX6_standsAt_4 rfl (lv_at hl 3 rfl) ?_
      refine lv_aload_n hx hb dX6_standsAt_5 rfl (lv_at hl 0 rfl) ?_
      refine mg_5 K0 hK hE (nW := 14) (by omega) hZ q1075 dX6_standsAt_6 (fun v6 hE => ?_)
      refine lv_icmp_ge (tgt := 37) hx hb dX6_standsAt_9 (by decide) (fun hc => ?_) (fun hc => ?_)
      · have hE := if_t hE hc
        refine lv_iload_n hx hb dX6_standsAt_37 rfl (lv_at hl 2 rfl) ?_
        exact end_i K0 hr hlocks hE hZ dX6_standsAt_38
      · have hE := if_f hE hc
        refine lv_aload_n hx hb dX6_standsAt_12 rfl (lv_at hl 0 rfl) ?_
        refine mg_12 K0 hK (nW := 14) (by omega) hZ q1082 dX6_standsAt_13 ?_
        refine lv_bipush (v := (14)) hx hb dX6_standsAt_16 (by decide +kernel) ?_
        refine lv_iload_n hx hb dX6_standsAt_18 rfl (lv_at hl 3 rfl) ?_
        refine lv_iadd hx hb dX6_standsAt_19 ?_
        refine ma_20 K0 hK hE (nW := 14) (by omega) hZ dX6_standsAt_20 (fun v20 hE => ?_)
        refine lv_iload_n hx hb dX6_standsAt_21 rfl (lv_at hl 1 rfl) ?_
        refine lv_icmp_ne (tgt := 29) hx hb dX6_standsAt_22 (by decide) (fun hc => ?_) (fun hc => ?_)
        · have hE := if_f hE hc
          refine lv_iload_n hx hb dX6_standsAt_29 rfl (lv_at hl 2 rfl) ?_
          refine lv_istore_n (i := 2) (lv' := [(2, .int u2), (0, .ref (w.2.2 0)), (1, .int u1), (3, .int u3)]) hx hb dX6_standsAt_30 rfl hl (by decide) rfl (fun ls hl => ?_)
          refine lv_iinc (v := (u3 + (1 : Int32))) (lv' := [(3, .int (u3 + (1 : Int32))), (2, .int u2), (0, .ref (w.2.2 0)), (1, .int u1)]) hx hb dX6_standsAt_31 hl (k := 3) rfl rfl (by decide) rfl (fun ls hl => ?_)
          refine lv_goto (tgt := 4) hx hb dX6_standsAt_34 (by decide) ?_
          exact ih u1 u2 (u3 + (1 : Int32)) _ _ _ _ _ _ hE hZ (lv_sub hl [2, 3, 1, 0] rfl)
        · have hE := if_t hE hc
          refine lv_iload_n hx hb dX6_standsAt_25 rfl (lv_at hl 3 rfl) ?_
          refine lv_goto (tgt := 30) hx hb dX6_standsAt_26 (by decide) ?_
          refine lv_istore_n (i := 2) (lv' := [(2, .int u3), (0, .ref (w.2.2 0)), (1, .int u1), (3, .int u3)]) hx hb dX6_standsAt_30 rfl hl (by decide) rfl (fun ls hl => ?_)
          refine lv_iinc (v := (u3 + (1 : Int32))) (lv' := [(3, .int (u3 + (1 : Int32))), (2, .int u3), (0, .ref (w.2.2 0)), (1, .int u1)]) hx hb dX6_standsAt_31 hl (k := 3) rfl rfl (by decide) rfl (fun ls hl => ?_)
          refine lv_goto (tgt := 4) hx hb dX6_standsAt_34 (by decide) ?_
          exact ih u1 u3 (u3 + (1 : Int32)) _ _ _ _ _ _ hE hZ (lv_sub hl [2, 3, 1, 0] rfl)
  unfold f_X6_standsAt at hE
  refine lv_iconst (v := (-1)) hx hb dX6_standsAt_0 (by decide +kernel) ?_
  refine lv_istore_n (i := 2) (lv' := [(2, .int (-1 : Int32)), (0, .ref (w.2.2 0)), (1, .int a1)]) hx hb dX6_standsAt_1 rfl hl (by decide) rfl (fun ls hl => ?_)
  refine lv_iconst (v := (0)) hx hb dX6_standsAt_2 (by decide +kernel) ?_
  refine lv_istore_n (i := 3) (lv' := [(3, .int (0 : Int32)), (2, .int (-1 : Int32)), (0, .ref (w.2.2 0)), (1, .int a1)]) hx hb dX6_standsAt_3 rfl hl (by decide) rfl (fun ls hl => ?_)
  exact j4 400 a1 (-1 : Int32) (0 : Int32) _ _ _ _ _ _ hE hZ (lv_sub hl [2, 3, 1, 0] rfl)
def f_X6_listed_J19 (u1 : Int32) (u3 : Int32) (z0 : Int32) : PM Int32 := bnd (wrI 5 0 0 z0) (fun _ => bnd (rdI 5 0 0) (fun v23 => if v23 = 0 then (bnd (mld 20 237 (u1 + u3)) (fun v36 => rtn v36)) else (rtn (-1 : Int32))))
def f_X6_listed (a1 : Int32) (a2 : Int32) (a3 : Int32) : PM Int32 := bnd (f_X6_in (a3.toInt64) (0 : Int64) ((a2 - (1 : Int32)).toInt64)) (fun v8 => if v8 = 0 then (f_X6_listed_J19 a1 a3 (1 : Int32)) else (f_X6_listed_J19 a1 a3 (0 : Int32)))
theorem yd_X6_listed : yX6_listed.cls = RX6 ∧ yX6_listed.cls ≠ "java/lang/invoke/MethodHandle" ∧ yX6_listed.cls ≠ "java/lang/invoke/VarHandle" ∧ (parseMethodDescriptor yX6_listed.desc).map (fun d => d.parameters.length) = some 3 := by decide +kernel
set_option maxHeartbeats 4000000 in
set_option maxRecDepth 100000 in
theorem c_X6_listed (l : Launch) (D : va_G) (w : Wm) (A : Nat → Prop) (a1 : Int32) (a2 : Int32) (a3 : Int32) : CT l yX6_listed cX6_listed 4 (some .int) 1 25 (PMo D w A) (ENVM D w) A [.ref (w.2.2 0), .int a1, .int a2, .int a3] (f_X6_listed a1 a2 a3) vI := by
  refine CT.ofW (by decide) [(0, .ref (w.2.2 0)), (1, .int a1), (2, .int a2), (3, .int a3)] (by simp [lv_args, vr_cat, vc_i, vc_j, vc_f, vc_d, vc_r, vc_n]) (by simp [lg_sl, vr_cat, vc_i, vc_j, vc_f, vc_d, vc_r, vc_n]) ?_
  intro S0 E0 R p e s m args below meth c ls hE hRf hRl hRc K0 hr hlocks hEV hA hZ hl
  have K0 : CallFix p m c cX6_listed 4 s args GW RX6 := K0
  have hx := K0.1
  have hb := K0.2.1
  have hown := K0.2.2.2.1
  have hg := K0.2.2.2.2
  have hK := hEV
  have hok : EVok (ENVM D w) A := ENVM.ok
  have j19 : ∀ (u1 : Int32) (u3 : Int32) (z0 : Int32) (S : St) (H : Heap) (locs : List Loc) (cells slots : Nat) (ls : Array Slot), (f_X6_listed_J19 u1 u3 z0).1 S = some E0 → ZZ D 14 (adrM w) (celM w) A S0 s.heap S H locs cells slots → lv_has ls 4 [(0, .ref (w.2.2 0)), (1, .int u1), (3, .int u3)] → W p l e R s m args below meth c H locs cells slots (MQ below (QE E0 vI (PMo D w A) A) args s (gN E0.2 7 0 - gN S0 7 0) (gN E0.2 3 0 - gN S0 3 0) A) (F0 m 19 ls [.int z0, .ref (w.2.2 0)]) := by
    intro u1 u3 z0 S H locs cells slots ls hE hZ hl
    unfold f_X6_listed_J19 at hE
    refine mp_19 K0 hK hE (nW := 14) (by omega) hZ q1089 dX6_listed_19 (fun S H locs hE hZ => ?_)
    refine lv_aload_n hx hb dX6_listed_22 rfl (lv_at hl 0 rfl) ?_
    refine mg_19 K0 hK hE (nW := 14) (by omega) hZ q1089 dX6_listed_23 (fun v23 hE => ?_)
    refine lv_if_ne (tgt := 40) hx hb dX6_listed_26 (by decide) (fun hc => ?_) (fun hc => ?_)
    · have hE := if_f hE hc
      refine lv_iconst (v := (-1)) hx hb dX6_listed_40 (by decide +kernel) ?_
      exact end_i K0 hr hlocks hE hZ dX6_listed_41
    · have hE := if_t hE hc
      refine lv_aload_n hx hb dX6_listed_29 rfl (lv_at hl 0 rfl) ?_
      refine mg_12 K0 hK (nW := 14) (by omega) hZ q1082 dX6_listed_30 ?_
      refine lv_iload_n hx hb dX6_listed_33 rfl (lv_at hl 1 rfl) ?_
      refine lv_iload_n hx hb dX6_listed_34 rfl (lv_at hl 2 rfl) ?_
      refine lv_iadd hx hb dX6_listed_35 ?_
      refine ma_20 K0 hK hE (nW := 14) (by omega) hZ dX6_listed_36 (fun v36 hE => ?_)
      refine lv_goto (tgt := 41) hx hb dX6_listed_37 (by decide) ?_
      exact end_i K0 hr hlocks hE hZ dX6_listed_41
  unfold f_X6_listed at hE
  refine lv_aload_n hx hb dX6_listed_0 rfl (lv_at hl 0 rfl) ?_
  refine lv_iload_n hx hb dX6_listed_1 rfl (lv_at hl 3 rfl) ?_
  refine lv_i2l hx hb dX6_listed_2 rfl ?_
  refine lv_lconst (v := (0)) hx hb dX6_listed_3 (by decide +kernel) ?_
  refine lv_iload_n hx hb dX6_listed_4 rfl (lv_at hl 2 rfl) ?_
  refine lv_iconst (v := (1)) hx hb dX6_listed_5 (by decide +kernel) ?_
  refine lv_isub hx hb dX6_listed_6 ?_
  refine lv_i2l hx hb dX6_listed_7 rfl ?_
  refine call_S (rest := [.ref (w.2.2 0)]) K0 hok hEV hA (c_X6_in l D w A (a3.toInt64) (0 : Int64) ((a2 - (1 : Int32)).toInt64)) q1140 q1141 q46 q1142 yd_X6_in ⟨by omega, by omega⟩ hRc hE hZ hl.1 rfl (Nat.le_of_ble_eq_true rfl) dX6_listed_8 (fun v8 S H locs cells slots hE hZ => ?_)
  refine W.eq (g2 := F0 m 11 ls [.int v8, .ref (w.2.2 0)]) rfl ?_
  refine lv_if_eq (tgt := 18) hx hb dX6_listed_11 (by decide) (fun hc => ?_) (fun hc => ?_)
  · have hE := if_t hE hc
    refine lv_iconst (v := (1)) hx hb dX6_listed_18 (by decide +kernel) ?_
    exact j19 a1 a3 (1 : Int32) _ _ _ _ _ _ hE hZ (lv_sub hl [0, 1, 3] rfl)
  · have hE := if_f hE hc
    refine lv_iconst (v := (0)) hx hb dX6_listed_14 (by decide +kernel) ?_
    refine lv_goto (tgt := 19) hx hb dX6_listed_15 (by decide) ?_
    exact j19 a1 a3 (0 : Int32) _ _ _ _ _ _ hE hZ (lv_sub hl [0, 1, 3] rfl)
def f_X6_keeps_L2 : Nat → Int32 → PM Unit
  | 0, _ => fail
  | n9 + 1, u1 => if (nI 237) ≤ u1 then (bnd (wrZ 3 (1 : Int32)) (fun _ => rtn ())) else (bnd (mld 20 237 u1) (fun v21 => bnd (mst 21 237 u1 v21) (fun _ => f_X6_keeps_L2 n9 (u1 + (1 : Int32)))))
def f_X6_keeps  : PM Unit := f_X6_keeps_L2 400 (0 : Int32)
theorem yd_X6_keeps : yX6_keeps.cls = RX6 ∧ yX6_keeps.cls ≠ "java/lang/invoke/MethodHandle" ∧ yX6_keeps.cls ≠ "java/lang/invoke/VarHandle" ∧ (parseMethodDescriptor yX6_keeps.desc).map (fun d => d.parameters.length) = some 0 := by decide +kernel
set_option maxHeartbeats 4000000 in
set_option maxRecDepth 100000 in
theorem c_X6_keeps (l : Launch) (D : va_G) (w : Wm) (A : Nat → Prop) : CT l yX6_keeps cX6_keeps 2 none 0 0 (PMo D w A) (ENVM D w) A [.ref (w.2.2 0)] (f_X6_keeps ) vU := by
  refine CT.ofW (by decide) [(0, .ref (w.2.2 0))] (by simp [lv_args, vr_cat, vc_i, vc_j, vc_f, vc_d, vc_r, vc_n]) (by simp [lg_sl, vr_cat, vc_i, vc_j, vc_f, vc_d, vc_r, vc_n]) ?_
  intro S0 E0 R p e s m args below meth c ls hE hRf hRl hRc K0 hr hlocks hEV hA hZ hl
  have K0 : CallFix p m c cX6_keeps 2 s args GW RX6 := K0
  have hx := K0.1
  have hb := K0.2.1
  have hown := K0.2.2.2.1
  have hg := K0.2.2.2.2
  have hK := hEV
  have hok : EVok (ENVM D w) A := ENVM.ok
  have j2 : ∀ (n9 : Nat) (u1 : Int32) (S : St) (H : Heap) (locs : List Loc) (cells slots : Nat) (ls : Array Slot), (f_X6_keeps_L2 n9 u1).1 S = some E0 → ZZ D 14 (adrM w) (celM w) A S0 s.heap S H locs cells slots → lv_has ls 2 [(0, .ref (w.2.2 0)), (1, .int u1)] → W p l e R s m args below meth c H locs cells slots (MQ below (QE E0 vU (PMo D w A) A) args s (gN E0.2 7 0 - gN S0 7 0) (gN E0.2 3 0 - gN S0 3 0) A) (F0 m 2 ls []) := by
    intro n9
    induction n9 with
    | zero =>
      intro u1 S H locs cells slots ls hE hZ hl
      rw [f_X6_keeps_L2] at hE
      cases hE
    | succ n9 ih =>
      intro u1 S H locs cells slots ls hE hZ hl
      rw [f_X6_keeps_L2] at hE
      refine lv_iload_n hx hb dX6_keeps_2 rfl (lv_at hl 1 rfl) ?_
      refine lv_aload_n hx hb dX6_keeps_3 rfl (lv_at hl 0 rfl) ?_
      refine mg_13 K0 hK (nW := 14) (by omega) hZ q1083 dX6_keeps_4 ?_
      refine mn_21 K0 hK (nW := 14) (by omega) hZ dX6_keeps_7 ?_
      refine lv_icmp_ge (tgt := 29) hx hb dX6_keeps_8 (by decide) (fun hc => ?_) (fun hc => ?_)
      · have hE := if_t hE hc
        refine lv_aload_n hx hb dX6_keeps_29 rfl (lv_at hl 0 rfl) ?_
        refine lv_iconst (v := (1)) hx hb dX6_keeps_30 (by decide +kernel) ?_
        refine mp_14 K0 hK hE (nW := 14) (by omega) hZ q1084 dX6_keeps_31 (fun S H locs hE hZ => ?_)
        exact end_v K0 hr hlocks hE hZ dX6_keeps_34
      · have hE := if_f hE hc
        refine lv_aload_n hx hb dX6_keeps_11 rfl (lv_at hl 0 rfl) ?_
        refine mg_13 K0 hK (nW := 14) (by omega) hZ q1083 dX6_keeps_12 ?_
        refine lv_iload_n hx hb dX6_keeps_15 rfl (lv_at hl 1 rfl) ?_
        refine lv_aload_n hx hb dX6_keeps_16 rfl (lv_at hl 0 rfl) ?_
        refine mg_12 K0 hK (nW := 14) (by omega) hZ q1082 dX6_keeps_17 ?_
        refine lv_iload_n hx hb dX6_keeps_20 rfl (lv_at hl 1 rfl) ?_
        refine ma_20 K0 hK hE (nW := 14) (by omega) hZ dX6_keeps_21 (fun v21 hE => ?_)
        refine ms_21 K0 hK hE (nW := 14) (by omega) hZ dX6_keeps_22 (fun S H locs hE hZ => ?_)
        refine lv_iinc (v := (u1 + (1 : Int32))) (lv' := [(1, .int (u1 + (1 : Int32))), (0, .ref (w.2.2 0))]) hx hb dX6_keeps_23 hl (k := 1) rfl rfl (by decide) rfl (fun ls hl => ?_)
        refine lv_goto (tgt := 2) hx hb dX6_keeps_26 (by decide) ?_
        exact ih (u1 + (1 : Int32)) _ _ _ _ _ _ hE hZ (lv_sub hl [1, 0] rfl)
  unfold f_X6_keeps at hE
  refine lv_iconst (v := (0)) hx hb dX6_keeps_0 (by decide +kernel) ?_
  refine lv_istore_n (i := 1) (lv' := [(1, .int (0 : Int32)), (0, .ref (w.2.2 0))]) hx hb dX6_keeps_1 rfl hl (by decide) rfl (fun ls hl => ?_)
  exact j2 400 (0 : Int32) _ _ _ _ _ _ hE hZ (lv_sub hl [1, 0] rfl)
def f_X6_putsBack_L2 : Nat → Int32 → PM Unit
  | 0, _ => fail
  | n9 + 1, u1 => if (nI 237) ≤ u1 then (bnd (wrZ 3 (0 : Int32)) (fun _ => rtn ())) else (bnd (mld 21 237 u1) (fun v21 => bnd (mst 20 237 u1 v21) (fun _ => f_X6_putsBack_L2 n9 (u1 + (1 : Int32)))))
def f_X6_putsBack  : PM Unit := f_X6_putsBack_L2 400 (0 : Int32)
theorem yd_X6_putsBack : yX6_putsBack.cls = RX6 ∧ yX6_putsBack.cls ≠ "java/lang/invoke/MethodHandle" ∧ yX6_putsBack.cls ≠ "java/lang/invoke/VarHandle" ∧ (parseMethodDescriptor yX6_putsBack.desc).map (fun d => d.parameters.length) = some 0 := by decide +kernel
set_option maxHeartbeats 4000000 in
set_option maxRecDepth 100000 in
theorem c_X6_putsBack (l : Launch) (D : va_G) (w : Wm) (A : Nat → Prop) : CT l yX6_putsBack cX6_putsBack 2 none 0 0 (PMo D w A) (ENVM D w) A [.ref (w.2.2 0)] (f_X6_putsBack ) vU := by
  refine CT.ofW (by decide) [(0, .ref (w.2.2 0))] (by simp [lv_args, vr_cat, vc_i, vc_j, vc_f, vc_d, vc_r, vc_n]) (by simp [lg_sl, vr_cat, vc_i, vc_j, vc_f, vc_d, vc_r, vc_n]) ?_
  intro S0 E0 R p e s m args below meth c ls hE hRf hRl hRc K0 hr hlocks hEV hA hZ hl
  have K0 : CallFix p m c cX6_putsBack 2 s args GW RX6 := K0
  have hx := K0.1
  have hb := K0.2.1
  have hown := K0.2.2.2.1
  have hg := K0.2.2.2.2
  have hK := hEV
  have hok : EVok (ENVM D w) A := ENVM.ok
  have j2 : ∀ (n9 : Nat) (u1 : Int32) (S : St) (H : Heap) (locs : List Loc) (cells slots : Nat) (ls : Array Slot), (f_X6_putsBack_L2 n9 u1).1 S = some E0 → ZZ D 14 (adrM w) (celM w) A S0 s.heap S H locs cells slots → lv_has ls 2 [(0, .ref (w.2.2 0)), (1, .int u1)] → W p l e R s m args below meth c H locs cells slots (MQ below (QE E0 vU (PMo D w A) A) args s (gN E0.2 7 0 - gN S0 7 0) (gN E0.2 3 0 - gN S0 3 0) A) (F0 m 2 ls []) := by
    intro n9
    induction n9 with
    | zero =>
      intro u1 S H locs cells slots ls hE hZ hl
      rw [f_X6_putsBack_L2] at hE
      cases hE
    | succ n9 ih =>
      intro u1 S H locs cells slots ls hE hZ hl
      rw [f_X6_putsBack_L2] at hE
      refine lv_iload_n hx hb dX6_putsBack_2 rfl (lv_at hl 1 rfl) ?_
      refine lv_aload_n hx hb dX6_putsBack_3 rfl (lv_at hl 0 rfl) ?_
      refine mg_13 K0 hK (nW := 14) (by omega) hZ q1083 dX6_putsBack_4 ?_
      refine mn_21 K0 hK (nW := 14) (by omega) hZ dX6_putsBack_7 ?_
      refine lv_icmp_ge (tgt := 29) hx hb dX6_putsBack_8 (by decide) (fun hc => ?_) (fun hc => ?_)
      · have hE := if_t hE hc
        refine lv_aload_n hx hb dX6_putsBack_29 rfl (lv_at hl 0 rfl) ?_
        refine lv_iconst (v := (0)) hx hb dX6_putsBack_30 (by decide +kernel) ?_
        refine mp_14 K0 hK hE (nW := 14) (by omega) hZ q1084 dX6_putsBack_31 (fun S H locs hE hZ => ?_)
        exact end_v K0 hr hlocks hE hZ dX6_putsBack_34
      · have hE := if_f hE hc
        refine lv_aload_n hx hb dX6_putsBack_11 rfl (lv_at hl 0 rfl) ?_
        refine mg_12 K0 hK (nW := 14) (by omega) hZ q1082 dX6_putsBack_12 ?_
        refine lv_iload_n hx hb dX6_putsBack_15 rfl (lv_at hl 1 rfl) ?_
        refine lv_aload_n hx hb dX6_putsBack_16 rfl (lv_at hl 0 rfl) ?_
        refine mg_13 K0 hK (nW := 14) (by omega) hZ q1083 dX6_putsBack_17 ?_
        refine lv_iload_n hx hb dX6_putsBack_20 rfl (lv_at hl 1 rfl) ?_
        refine ma_21 K0 hK hE (nW := 14) (by omega) hZ dX6_putsBack_21 (fun v21 hE => ?_)
        refine ms_20 K0 hK hE (nW := 14) (by omega) hZ dX6_putsBack_22 (fun S H locs hE hZ => ?_)
        refine lv_iinc (v := (u1 + (1 : Int32))) (lv' := [(1, .int (u1 + (1 : Int32))), (0, .ref (w.2.2 0))]) hx hb dX6_putsBack_23 hl (k := 1) rfl rfl (by decide) rfl (fun ls hl => ?_)
        refine lv_goto (tgt := 2) hx hb dX6_putsBack_26 (by decide) ?_
        exact ih (u1 + (1 : Int32)) _ _ _ _ _ _ hE hZ (lv_sub hl [1, 0] rfl)
  unfold f_X6_putsBack at hE
  refine lv_iconst (v := (0)) hx hb dX6_putsBack_0 (by decide +kernel) ?_
  refine lv_istore_n (i := 1) (lv' := [(1, .int (0 : Int32)), (0, .ref (w.2.2 0))]) hx hb dX6_putsBack_1 rfl hl (by decide) rfl (fun ls hl => ?_)
  exact j2 400 (0 : Int32) _ _ _ _ _ _ hE hZ (lv_sub hl [1, 0] rfl)
def f_X6_count_L4 : Nat → Int32 → Int32 → Int32 → PM Int32
  | 0, _, _, _ => fail
  | n9 + 1, u1, u2, u3 => bnd (rdI 4 0 0) (fun v6 => if v6 ≤ u3 then (rtn u2) else (bnd (rdN 1 0) (fun v14 => bnd (mvL 1 0 0 22 v14 u3) (fun v18 => if v18 = u1 then (bnd (rtn (u2 + (1 : Int32))) (fun w29 => f_X6_count_L4 n9 u1 w29 (u3 + (1 : Int32)))) else (bnd (rtn (u2 + (0 : Int32))) (fun w29 => f_X6_count_L4 n9 u1 w29 (u3 + (1 : Int32))))))))
def f_X6_count (a1 : Int32) : PM Int32 := f_X6_count_L4 2097152 a1 (0 : Int32) (0 : Int32)
theorem yd_X6_count : yX6_count.cls = RX6 ∧ yX6_count.cls ≠ "java/lang/invoke/MethodHandle" ∧ yX6_count.cls ≠ "java/lang/invoke/VarHandle" ∧ (parseMethodDescriptor yX6_count.desc).map (fun d => d.parameters.length) = some 1 := by decide +kernel
set_option maxHeartbeats 4000000 in
set_option maxRecDepth 100000 in
theorem c_X6_count (l : Launch) (D : va_G) (w : Wm) (A : Nat → Prop) (a1 : Int32) : CT l yX6_count cX6_count 4 (some .int) 0 0 (PMo D w A) (ENVM D w) A [.ref (w.2.2 0), .int a1] (f_X6_count a1) vI := by
  refine CT.ofW (by decide) [(0, .ref (w.2.2 0)), (1, .int a1)] (by simp [lv_args, vr_cat, vc_i, vc_j, vc_f, vc_d, vc_r, vc_n]) (by simp [lg_sl, vr_cat, vc_i, vc_j, vc_f, vc_d, vc_r, vc_n]) ?_
  intro S0 E0 R p e s m args below meth c ls hE hRf hRl hRc K0 hr hlocks hEV hA hZ hl
  have K0 : CallFix p m c cX6_count 4 s args GW RX6 := K0
  have hx := K0.1
  have hb := K0.2.1
  have hown := K0.2.2.2.1
  have hg := K0.2.2.2.2
  have hK := hEV
  have hok : EVok (ENVM D w) A := ENVM.ok
  have j4 : ∀ (n9 : Nat) (u1 : Int32) (u2 : Int32) (u3 : Int32) (S : St) (H : Heap) (locs : List Loc) (cells slots : Nat) (ls : Array Slot), (f_X6_count_L4 n9 u1 u2 u3).1 S = some E0 → ZZ D 14 (adrM w) (celM w) A S0 s.heap S H locs cells slots → lv_has ls 4 [(0, .ref (w.2.2 0)), (1, .int u1), (2, .int u2), (3, .int u3)] → W p l e R s m args below meth c H locs cells slots (MQ below (QE E0 vI (PMo D w A) A) args s (gN E0.2 7 0 - gN S0 7 0) (gN E0.2 3 0 - gN S0 3 0) A) (F0 m 4 ls []) := by
    intro n9
    induction n9 with
    | zero =>
      intro u1 u2 u3 S H locs cells slots ls hE hZ hl
      rw [f_X6_count_L4] at hE
      cases hE
    | succ n9 ih =>
      intro u1 u2 u3 S H locs cells slots ls hE hZ hl
      rw [f_X6_count_L4] at hE
      refine lv_iload_n hx hb dX6_count_4 rfl (lv_at hl 3 rfl) ?_
      refine lv_aload_n hx hb dX6_count_5 rfl (lv_at hl 0 rfl) ?_
      refine mg_17 K0 hK hE (nW := 14) (by omega) hZ q1087 dX6_count_6 (fun v6 hE => ?_)
      refine lv_icmp_ge (tgt := 36) hx hb dX6_count_9 (by decide) (fun hc => ?_) (fun hc => ?_)
      · have hE := if_t hE hc
        refine lv_iload_n hx hb dX6_count_36 rfl (lv_at hl 2 rfl) ?_
        exact end_i K0 hr hlocks hE hZ dX6_count_37
      · have hE := if_f hE hc
        refine lv_iload_n hx hb dX6_count_12 rfl (lv_at hl 2 rfl) ?_
        refine lv_aload_n hx hb dX6_count_13 rfl (lv_at hl 0 rfl) ?_
        refine mg_15 K0 hK hE (nW := 14) (by omega) hZ q1085 dX6_count_14 (fun v14 hE => ?_)
        refine lv_iload_n hx hb dX6_count_17 rfl (lv_at hl 3 rfl) ?_
        refine ma_TS K0 hK hE (nW := 14) (by omega) hZ dX6_count_18 (fun v18 hE => ?_)
        refine lv_iload_n hx hb dX6_count_19 rfl (lv_at hl 1 rfl) ?_
        refine lv_icmp_ne (tgt := 27) hx hb dX6_count_20 (by decide) (fun hc => ?_) (fun hc => ?_)
        · have hE := if_f hE hc
          refine lv_iconst (v := (0)) hx hb dX6_count_27 (by decide +kernel) ?_
          refine lv_iadd hx hb dX6_count_28 ?_
          refine let_i hE (fun w29 hE => ?_)
          refine lv_istore_n (i := 2) (lv' := [(2, .int w29), (0, .ref (w.2.2 0)), (1, .int u1), (3, .int u3)]) hx hb dX6_count_29 rfl hl (by decide) rfl (fun ls hl => ?_)
          refine lv_iinc (v := (u3 + (1 : Int32))) (lv' := [(3, .int (u3 + (1 : Int32))), (2, .int w29), (0, .ref (w.2.2 0)), (1, .int u1)]) hx hb dX6_count_30 hl (k := 3) rfl rfl (by decide) rfl (fun ls hl => ?_)
          refine lv_goto (tgt := 4) hx hb dX6_count_33 (by decide) ?_
          exact ih u1 w29 (u3 + (1 : Int32)) _ _ _ _ _ _ hE hZ (lv_sub hl [2, 3, 1, 0] rfl)
        · have hE := if_t hE hc
          refine lv_iconst (v := (1)) hx hb dX6_count_23 (by decide +kernel) ?_
          refine lv_goto (tgt := 28) hx hb dX6_count_24 (by decide) ?_
          refine lv_iadd hx hb dX6_count_28 ?_
          refine let_i hE (fun w29 hE => ?_)
          refine lv_istore_n (i := 2) (lv' := [(2, .int w29), (0, .ref (w.2.2 0)), (1, .int u1), (3, .int u3)]) hx hb dX6_count_29 rfl hl (by decide) rfl (fun ls hl => ?_)
          refine lv_iinc (v := (u3 + (1 : Int32))) (lv' := [(3, .int (u3 + (1 : Int32))), (2, .int w29), (0, .ref (w.2.2 0)), (1, .int u1)]) hx hb dX6_count_30 hl (k := 3) rfl rfl (by decide) rfl (fun ls hl => ?_)
          refine lv_goto (tgt := 4) hx hb dX6_count_33 (by decide) ?_
          exact ih u1 w29 (u3 + (1 : Int32)) _ _ _ _ _ _ hE hZ (lv_sub hl [2, 3, 1, 0] rfl)
  unfold f_X6_count at hE
  refine lv_iconst (v := (0)) hx hb dX6_count_0 (by decide +kernel) ?_
  refine lv_istore_n (i := 2) (lv' := [(2, .int (0 : Int32)), (0, .ref (w.2.2 0)), (1, .int a1)]) hx hb dX6_count_1 rfl hl (by decide) rfl (fun ls hl => ?_)
  refine lv_iconst (v := (0)) hx hb dX6_count_2 (by decide +kernel) ?_
  refine lv_istore_n (i := 3) (lv' := [(3, .int (0 : Int32)), (2, .int (0 : Int32)), (0, .ref (w.2.2 0)), (1, .int a1)]) hx hb dX6_count_3 rfl hl (by decide) rfl (fun ls hl => ?_)
  exact j4 2097152 a1 (0 : Int32) (0 : Int32) _ _ _ _ _ _ hE hZ (lv_sub hl [2, 3, 1, 0] rfl)
def f_X6_addStation_J100 (u1 : Int32) (u2 : Int32) (u3 : Int32) (u4 : Int32) (z0 : Int32) : PM Int32 := bnd (wrI 5 0 0 z0) (fun _ => bnd (rdI 5 0 0) (fun v104 => if v104 ≤ 0 then (bnd (rdI 0 0 0) (fun v117 => bnd (mst 11 8 v117 u1) (fun _ => bnd (rdI 0 0 0) (fun v127 => bnd (mst 12 8 v127 u2) (fun _ => bnd (rdI 0 0 0) (fun v137 => bnd (mst 13 8 v137 u3) (fun _ => bnd (rdI 0 0 0) (fun v147 => bnd (mst 14 8 v147 u4) (fun _ => bnd (rdI 0 0 0) (fun v160 => bnd (mst 20 237 ((14 : Int32) + v160) (-1 : Int32)) (fun _ => bnd (rdI 0 0 0) (fun v168 => bnd (wrI 0 0 0 (v168 + (1 : Int32))) (fun _ => bnd (rdI 0 0 0) (fun v177 => rtn (v177 - (1 : Int32)))))))))))))))) else (rtn (-1 : Int32))))
def f_X6_addStation_J95 (u1 : Int32) (u2 : Int32) (u3 : Int32) (u4 : Int32) : PM Int32 := f_X6_addStation_J100 u1 u2 u3 u4 (2 : Int32)
def f_X6_addStation_J63 (u1 : Int32) (u2 : Int32) (u3 : Int32) (u4 : Int32) (z0 : Int32) : PM Int32 := if z0 = 0 then (f_X6_addStation_J100 u1 u2 u3 u4 (1 : Int32)) else (bnd (rdI 0 0 0) (fun v76 => if v76 = (8 : Int32) then (f_X6_addStation_J95 u1 u2 u3 u4) else (bnd (mld 20 237 (232 : Int32)) (fun v91 => if v91 ≤ 0 then (f_X6_addStation_J100 u1 u2 u3 u4 (0 : Int32)) else (f_X6_addStation_J95 u1 u2 u3 u4)))))
def f_X6_addStation_J62 (u1 : Int32) (u2 : Int32) (u3 : Int32) (u4 : Int32) : PM Int32 := f_X6_addStation_J63 u1 u2 u3 u4 (0 : Int32)
def f_X6_addStation_J58 (u1 : Int32) (u2 : Int32) (u3 : Int32) (u4 : Int32) : PM Int32 := f_X6_addStation_J63 u1 u2 u3 u4 (1 : Int32)
def f_X6_addStation (a1 : Int32) (a2 : Int32) (a3 : Int32) (a4 : Int32) : PM Int32 := bnd (f_X6_in (a1.toInt64) (1 : Int64) (9 : Int64)) (fun v6 => if v6 = 0 then (f_X6_addStation_J62 a1 a2 a3 a4) else (bnd (f_X6_in (a2.toInt64) (-1 : Int64) (5 : Int64)) (fun v20 => if v20 = 0 then (f_X6_addStation_J62 a1 a2 a3 a4) else (if a2 = (-1 : Int32) then (f_X6_addStation_J58 a1 a2 a3 a4) else (bnd (f_X6_in (a3.toInt64) (1 : Int64) (4 : Int64)) (fun v37 => if v37 = 0 then (f_X6_addStation_J62 a1 a2 a3 a4) else (bnd (f_X6_in (a4.toInt64) (4 : Int64) (30 : Int64)) (fun v52 => if v52 = 0 then (f_X6_addStation_J62 a1 a2 a3 a4) else (f_X6_addStation_J58 a1 a2 a3 a4)))))))))
theorem yd_X6_addStation : yX6_addStation.cls = RX6 ∧ yX6_addStation.cls ≠ "java/lang/invoke/MethodHandle" ∧ yX6_addStation.cls ≠ "java/lang/invoke/VarHandle" ∧ (parseMethodDescriptor yX6_addStation.desc).map (fun d => d.parameters.length) = some 4 := by decide +kernel
set_option maxHeartbeats 4000000 in
set_option maxRecDepth 100000 in
theorem c_X6_addStation (l : Launch) (D : va_G) (w : Wm) (A : Nat → Prop) (a1 : Int32) (a2 : Int32) (a3 : Int32) (a4 : Int32) : CT l yX6_addStation cX6_addStation 6 (some .int) 1 25 (PMo D w A) (ENVM D w) A [.ref (w.2.2 0), .int a1, .int a2, .int a3, .int a4] (f_X6_addStation a1 a2 a3 a4) vI := by
  refine CT.ofW (by decide) [(0, .ref (w.2.2 0)), (1, .int a1), (2, .int a2), (3, .int a3), (4, .int a4)] (by simp [lv_args, vr_cat, vc_i, vc_j, vc_f, vc_d, vc_r, vc_n]) (by simp [lg_sl, vr_cat, vc_i, vc_j, vc_f, vc_d, vc_r, vc_n]) ?_
  intro S0 E0 R p e s m args below meth c ls hE hRf hRl hRc K0 hr hlocks hEV hA hZ hl
  have K0 : CallFix p m c cX6_addStation 6 s args GW RX6 := K0
  have hx := K0.1
  have hb := K0.2.1
  have hown := K0.2.2.2.1
  have hg := K0.2.2.2.2
  have hK := hEV
  have hok : EVok (ENVM D w) A := ENVM.ok
  have j100 : ∀ (u1 : Int32) (u2 : Int32) (u3 : Int32) (u4 : Int32) (z0 : Int32) (S : St) (H : Heap) (locs : List Loc) (cells slots : Nat) (ls : Array Slot), (f_X6_addStation_J100 u1 u2 u3 u4 z0).1 S = some E0 → ZZ D 14 (adrM w) (celM w) A S0 s.heap S H locs cells slots → lv_has ls 6 [(0, .ref (w.2.2 0)), (1, .int u1), (2, .int u2), (3, .int u3), (4, .int u4)] → W p l e R s m args below meth c H locs cells slots (MQ below (QE E0 vI (PMo D w A) A) args s (gN E0.2 7 0 - gN S0 7 0) (gN E0.2 3 0 - gN S0 3 0) A) (F0 m 100 ls [.int z0, .ref (w.2.2 0)]) := by
    intro u1 u2 u3 u4 z0 S H locs cells slots ls hE hZ hl
    unfold f_X6_addStation_J100 at hE
    refine mp_19 K0 hK hE (nW := 14) (by omega) hZ q1089 dX6_addStation_100 (fun S H locs hE hZ => ?_)
    refine lv_aload_n hx hb dX6_addStation_103 rfl (lv_at hl 0 rfl) ?_
    refine mg_19 K0 hK hE (nW := 14) (by omega) hZ q1089 dX6_addStation_104 (fun v104 hE => ?_)
    refine lv_if_le (tgt := 112) hx hb dX6_addStation_107 (by decide) (fun hc => ?_) (fun hc => ?_)
    · have hE := if_t hE hc
      refine lv_aload_n hx hb dX6_addStation_112 rfl (lv_at hl 0 rfl) ?_
      refine mg_0 K0 hK (nW := 14) (by omega) hZ q1070 dX6_addStation_113 ?_
      refine lv_aload_n hx hb dX6_addStation_116 rfl (lv_at hl 0 rfl) ?_
      refine mg_5 K0 hK hE (nW := 14) (by omega) hZ q1075 dX6_addStation_117 (fun v117 hE => ?_)
      refine lv_iload_n hx hb dX6_addStation_120 rfl (lv_at hl 1 rfl) ?_
      refine ms_11 K0 hK hE (nW := 14) (by omega) hZ dX6_addStation_121 (fun S H locs hE hZ => ?_)
      refine lv_aload_n hx hb dX6_addStation_122 rfl (lv_at hl 0 rfl) ?_
      refine mg_1 K0 hK (nW := 14) (by omega) hZ q1071 dX6_addStation_123 ?_
      refine lv_aload_n hx hb dX6_addStation_126 rfl (lv_at hl 0 rfl) ?_
      refine mg_5 K0 hK hE (nW := 14) (by omega) hZ q1075 dX6_addStation_127 (fun v127 hE => ?_)
      refine lv_iload_n hx hb dX6_addStation_130 rfl (lv_at hl 2 rfl) ?_
      refine ms_12 K0 hK hE (nW := 14) (by omega) hZ dX6_addStation_131 (fun S H locs hE hZ => ?_)
      refine lv_aload_n hx hb dX6_addStation_132 rfl (lv_at hl 0 rfl) ?_
      refine mg_2 K0 hK (nW := 14) (by omega) hZ q1072 dX6_addStation_133 ?_
      refine lv_aload_n hx hb dX6_addStation_136 rfl (lv_at hl 0 rfl) ?_
      refine mg_5 K0 hK hE (nW := 14) (by omega) hZ q1075 dX6_addStation_137 (fun v137 hE => ?_)
      refine lv_iload_n hx hb dX6_addStation_140 rfl (lv_at hl 3 rfl) ?_
      refine ms_13 K0 hK hE (nW := 14) (by omega) hZ dX6_addStation_141 (fun S H locs hE hZ => ?_)
      refine lv_aload_n hx hb dX6_addStation_142 rfl (lv_at hl 0 rfl) ?_
      refine mg_3 K0 hK (nW := 14) (by omega) hZ q1073 dX6_addStation_143 ?_
      refine lv_aload_n hx hb dX6_addStation_146 rfl (lv_at hl 0 rfl) ?_
      refine mg_5 K0 hK hE (nW := 14) (by omega) hZ q1075 dX6_addStation_147 (fun v147 hE => ?_)
      refine lv_iload hx hb dX6_addStation_150 (lv_at hl 4 rfl) ?_
      refine ms_14 K0 hK hE (nW := 14) (by omega) hZ dX6_addStation_152 (fun S H locs hE hZ => ?_)
      refine lv_aload_n hx hb dX6_addStation_153 rfl (lv_at hl 0 rfl) ?_
      refine mg_12 K0 hK (nW := 14) (by omega) hZ q1082 dX6_addStation_154 ?_
      refine lv_bipush (v := (14)) hx hb dX6_addStation_157 (by decide +kernel) ?_
      refine lv_aload_n hx hb dX6_addStation_159 rfl (lv_at hl 0 rfl) ?_
      refine mg_5 K0 hK hE (nW := 14) (by omega) hZ q1075 dX6_addStation_160 (fun v160 hE => ?_)
      refine lv_iadd hx hb dX6_addStation_163 ?_
      refine lv_iconst (v := (-1)) hx hb dX6_addStation_164 (by decide +kernel) ?_
      refine ms_20 K0 hK hE (nW := 14) (by omega) hZ dX6_addStation_165 (fun S H locs hE hZ => ?_)
      refine lv_aload_n hx hb dX6_addStation_166 rfl (lv_at hl 0 rfl) ?_
      refine lv_dup hx hb dX6_addStation_167 rfl ?_
      refine mg_5 K0 hK hE (nW := 14) (by omega) hZ q1075 dX6_addStation_168 (fun v168 hE => ?_)
      refine lv_iconst (v := (1)) hx hb dX6_addStation_171 (by decide +kernel) ?_
      refine lv_iadd hx hb dX6_addStation_172 ?_
      refine mp_5 K0 hK hE (nW := 14) (by omega) hZ q1075 dX6_addStation_173 (fun S H locs hE hZ => ?_)
      refine lv_aload_n hx hb dX6_addStation_176 rfl (lv_at hl 0 rfl) ?_
      refine mg_5 K0 hK hE (nW := 14) (by omega) hZ q1075 dX6_addStation_177 (fun v177 hE => ?_)
      refine lv_iconst (v := (1)) hx hb dX6_addStation_180 (by decide +kernel) ?_
      refine lv_isub hx hb dX6_addStation_181 ?_
      exact end_i K0 hr hlocks hE hZ dX6_addStation_182
    · have hE := if_f hE hc
      refine lv_iconst (v := (-1)) hx hb dX6_addStation_110 (by decide +kernel) ?_
      exact end_i K0 hr hlocks hE hZ dX6_addStation_111
  have j95 : ∀ (u1 : Int32) (u2 : Int32) (u3 : Int32) (u4 : Int32) (S : St) (H : Heap) (locs : List Loc) (cells slots : Nat) (ls : Array Slot), (f_X6_addStation_J95 u1 u2 u3 u4).1 S = some E0 → ZZ D 14 (adrM w) (celM w) A S0 s.heap S H locs cells slots → lv_has ls 6 [(0, .ref (w.2.2 0)), (1, .int u1), (2, .int u2), (3, .int u3), (4, .int u4)] → W p l e R s m args below meth c H locs cells slots (MQ below (QE E0 vI (PMo D w A) A) args s (gN E0.2 7 0 - gN S0 7 0) (gN E0.2 3 0 - gN S0 3 0) A) (F0 m 95 ls [.ref (w.2.2 0)]) := by
    intro u1 u2 u3 u4 S H locs cells slots ls hE hZ hl
    unfold f_X6_addStation_J95 at hE
    refine lv_iconst (v := (2)) hx hb dX6_addStation_95 (by decide +kernel) ?_
    refine lv_goto (tgt := 100) hx hb dX6_addStation_96 (by decide) ?_
    exact j100 u1 u2 u3 u4 (2 : Int32) _ _ _ _ _ _ hE hZ (lv_sub hl [0, 1, 2, 3, 4] rfl)
  have j63 : ∀ (u1 : Int32) (u2 : Int32) (u3 : Int32) (u4 : Int32) (z0 : Int32) (S : St) (H : Heap) (locs : List Loc) (cells slots : Nat) (ls : Array Slot), (f_X6_addStation_J63 u1 u2 u3 u4 z0).1 S = some E0 → ZZ D 14 (adrM w) (celM w) A S0 s.heap S H locs cells slots → lv_has ls 6 [(0, .ref (w.2.2 0)), (1, .int u1), (2, .int u2), (3, .int u3), (4, .int u4)] → W p l e R s m args below meth c H locs cells slots (MQ below (QE E0 vI (PMo D w A) A) args s (gN E0.2 7 0 - gN S0 7 0) (gN E0.2 3 0 - gN S0 3 0) A) (F0 m 63 ls [.int z0]) := by
    intro u1 u2 u3 u4 z0 S H locs cells slots ls hE hZ hl
    unfold f_X6_addStation_J63 at hE
    refine lv_istore (lv' := [(5, .int z0), (0, .ref (w.2.2 0)), (1, .int u1), (2, .int u2), (3, .int u3), (4, .int u4)]) hx hb dX6_addStation_63 hl (by decide) rfl (fun ls hl => ?_)
    refine lv_aload_n hx hb dX6_addStation_65 rfl (lv_at hl 1 rfl) ?_
    refine lv_iload hx hb dX6_addStation_66 (lv_at hl 0 rfl) ?_
    refine lv_if_ne (tgt := 75) hx hb dX6_addStation_68 (by decide) (fun hc => ?_) (fun hc => ?_)
    · have hE := if_f hE hc
      refine lv_aload_n hx hb dX6_addStation_75 rfl (lv_at hl 1 rfl) ?_
      refine mg_5 K0 hK hE (nW := 14) (by omega) hZ q1075 dX6_addStation_76 (fun v76 hE => ?_)
      refine lv_bipush (v := (8)) hx hb dX6_addStation_79 (by decide +kernel) ?_
      refine lv_icmp_eq (tgt := 95) hx hb dX6_addStation_81 (by decide) (fun hc => ?_) (fun hc => ?_)
      · have hE := if_t hE hc
        exact j95 u1 u2 u3 u4 _ _ _ _ _ _ hE hZ (lv_sub hl [1, 2, 3, 4, 5] rfl)
      · have hE := if_f hE hc
        refine lv_aload_n hx hb dX6_addStation_84 rfl (lv_at hl 1 rfl) ?_
        refine mg_12 K0 hK (nW := 14) (by omega) hZ q1082 dX6_addStation_85 ?_
        refine lv_sipush (v := (232)) hx hb dX6_addStation_88 (by decide +kernel) ?_
        refine ma_20 K0 hK hE (nW := 14) (by omega) hZ dX6_addStation_91 (fun v91 hE => ?_)
        refine lv_if_le (tgt := 99) hx hb dX6_addStation_92 (by decide) (fun hc => ?_) (fun hc => ?_)
        · have hE := if_t hE hc
          refine lv_iconst (v := (0)) hx hb dX6_addStation_99 (by decide +kernel) ?_
          exact j100 u1 u2 u3 u4 (0 : Int32) _ _ _ _ _ _ hE hZ (lv_sub hl [1, 2, 3, 4, 5] rfl)
        · have hE := if_f hE hc
          exact j95 u1 u2 u3 u4 _ _ _ _ _ _ hE hZ (lv_sub hl [1, 2, 3, 4, 5] rfl)
    · have hE := if_t hE hc
      refine lv_iconst (v := (1)) hx hb dX6_addStation_71 (by decide +kernel) ?_
      refine lv_goto (tgt := 100) hx hb dX6_addStation_72 (by decide) ?_
      exact j100 u1 u2 u3 u4 (1 : Int32) _ _ _ _ _ _ hE hZ (lv_sub hl [1, 2, 3, 4, 5] rfl)
  have j62 : ∀ (u1 : Int32) (u2 : Int32) (u3 : Int32) (u4 : Int32) (S : St) (H : Heap) (locs : List Loc) (cells slots : Nat) (ls : Array Slot), (f_X6_addStation_J62 u1 u2 u3 u4).1 S = some E0 → ZZ D 14 (adrM w) (celM w) A S0 s.heap S H locs cells slots → lv_has ls 6 [(0, .ref (w.2.2 0)), (1, .int u1), (2, .int u2), (3, .int u3), (4, .int u4)] → W p l e R s m args below meth c H locs cells slots (MQ below (QE E0 vI (PMo D w A) A) args s (gN E0.2 7 0 - gN S0 7 0) (gN E0.2 3 0 - gN S0 3 0) A) (F0 m 62 ls []) := by
    intro u1 u2 u3 u4 S H locs cells slots ls hE hZ hl
    unfold f_X6_addStation_J62 at hE
    refine lv_iconst (v := (0)) hx hb dX6_addStation_62 (by decide +kernel) ?_
    exact j63 u1 u2 u3 u4 (0 : Int32) _ _ _ _ _ _ hE hZ (lv_sub hl [0, 1, 2, 3, 4] rfl)
  have j58 : ∀ (u1 : Int32) (u2 : Int32) (u3 : Int32) (u4 : Int32) (S : St) (H : Heap) (locs : List Loc) (cells slots : Nat) (ls : Array Slot), (f_X6_addStation_J58 u1 u2 u3 u4).1 S = some E0 → ZZ D 14 (adrM w) (celM w) A S0 s.heap S H locs cells slots → lv_has ls 6 [(0, .ref (w.2.2 0)), (1, .int u1), (2, .int u2), (3, .int u3), (4, .int u4)] → W p l e R s m args below meth c H locs cells slots (MQ below (QE E0 vI (PMo D w A) A) args s (gN E0.2 7 0 - gN S0 7 0) (gN E0.2 3 0 - gN S0 3 0) A) (F0 m 58 ls []) := by
    intro u1 u2 u3 u4 S H locs cells slots ls hE hZ hl
    unfold f_X6_addStation_J58 at hE
    refine lv_iconst (v := (1)) hx hb dX6_addStation_58 (by decide +kernel) ?_
    refine lv_goto (tgt := 63) hx hb dX6_addStation_59 (by decide) ?_
    exact j63 u1 u2 u3 u4 (1 : Int32) _ _ _ _ _ _ hE hZ (lv_sub hl [0, 1, 2, 3, 4] rfl)
  unfold f_X6_addStation at hE
  refine lv_iload_n hx hb dX6_addStation_0 rfl (lv_at hl 1 rfl) ?_
  refine lv_i2l hx hb dX6_addStation_1 rfl ?_
  refine lv_lconst (v := (1)) hx hb dX6_addStation_2 (by decide +kernel) ?_
  refine lv_ldc2 (v := (9)) hx hb hown (hg _ q1139) dX6_addStation_3 ?_
  refine call_S (rest := []) K0 hok hEV hA (c_X6_in l D w A (a1.toInt64) (1 : Int64) (9 : Int64)) q1140 q1141 q46 q1142 yd_X6_in ⟨by omega, by omega⟩ hRc hE hZ hl.1 rfl (Nat.le_of_ble_eq_true rfl) dX6_addStation_6 (fun v6 S H locs cells slots hE hZ => ?_)
  refine W.eq (g2 := F0 m 9 ls [.int v6]) rfl ?_
  refine lv_if_eq (tgt := 62) hx hb dX6_addStation_9 (by decide) (fun hc => ?_) (fun hc => ?_)
  · have hE := if_t hE hc
    exact j62 a1 a2 a3 a4 _ _ _ _ _ _ hE hZ (lv_sub hl [0, 1, 2, 3, 4] rfl)
  · have hE := if_f hE hc
    refine lv_iload_n hx hb dX6_addStation_12 rfl (lv_at hl 2 rfl) ?_
    refine lv_i2l hx hb dX6_addStation_13 rfl ?_
    refine lv_ldc2 (v := (-1)) hx hb hown (hg _ q1143) dX6_addStation_14 ?_
    refine lv_ldc2 (v := (5)) hx hb hown (hg _ q1144) dX6_addStation_17 ?_
    refine call_S (rest := []) K0 hok hEV hA (c_X6_in l D w A (a2.toInt64) (-1 : Int64) (5 : Int64)) q1140 q1141 q46 q1142 yd_X6_in ⟨by omega, by omega⟩ hRc hE hZ hl.1 rfl (Nat.le_of_ble_eq_true rfl) dX6_addStation_20 (fun v20 S H locs cells slots hE hZ => ?_)
    refine W.eq (g2 := F0 m 23 ls [.int v20]) rfl ?_
    refine lv_if_eq (tgt := 62) hx hb dX6_addStation_23 (by decide) (fun hc => ?_) (fun hc => ?_)
    · have hE := if_t hE hc
      exact j62 a1 a2 a3 a4 _ _ _ _ _ _ hE hZ (lv_sub hl [0, 1, 2, 3, 4] rfl)
    · have hE := if_f hE hc
      refine lv_iload_n hx hb dX6_addStation_26 rfl (lv_at hl 2 rfl) ?_
      refine lv_iconst (v := (-1)) hx hb dX6_addStation_27 (by decide +kernel) ?_
      refine lv_icmp_eq (tgt := 58) hx hb dX6_addStation_28 (by decide) (fun hc => ?_) (fun hc => ?_)
      · have hE := if_t hE hc
        exact j58 a1 a2 a3 a4 _ _ _ _ _ _ hE hZ (lv_sub hl [0, 1, 2, 3, 4] rfl)
      · have hE := if_f hE hc
        refine lv_iload_n hx hb dX6_addStation_31 rfl (lv_at hl 3 rfl) ?_
        refine lv_i2l hx hb dX6_addStation_32 rfl ?_
        refine lv_lconst (v := (1)) hx hb dX6_addStation_33 (by decide +kernel) ?_
        refine lv_ldc2 (v := (4)) hx hb hown (hg _ q1145) dX6_addStation_34 ?_
        refine call_S (rest := []) K0 hok hEV hA (c_X6_in l D w A (a3.toInt64) (1 : Int64) (4 : Int64)) q1140 q1141 q46 q1142 yd_X6_in ⟨by omega, by omega⟩ hRc hE hZ hl.1 rfl (Nat.le_of_ble_eq_true rfl) dX6_addStation_37 (fun v37 S H locs cells slots hE hZ => ?_)
        refine W.eq (g2 := F0 m 40 ls [.int v37]) rfl ?_
        refine lv_if_eq (tgt := 62) hx hb dX6_addStation_40 (by decide) (fun hc => ?_) (fun hc => ?_)
        · have hE := if_t hE hc
          exact j62 a1 a2 a3 a4 _ _ _ _ _ _ hE hZ (lv_sub hl [0, 1, 2, 3, 4] rfl)
        · have hE := if_f hE hc
          refine lv_iload hx hb dX6_addStation_43 (lv_at hl 4 rfl) ?_
          refine lv_i2l hx hb dX6_addStation_45 rfl ?_
          refine lv_ldc2 (v := (4)) hx hb hown (hg _ q1145) dX6_addStation_46 ?_
          refine lv_ldc2 (v := (30)) hx hb hown (hg _ q1146) dX6_addStation_49 ?_
          refine call_S (rest := []) K0 hok hEV hA (c_X6_in l D w A (a4.toInt64) (4 : Int64) (30 : Int64)) q1140 q1141 q46 q1142 yd_X6_in ⟨by omega, by omega⟩ hRc hE hZ hl.1 rfl (Nat.le_of_ble_eq_true rfl) dX6_addStation_52 (fun v52 S H locs cells slots hE hZ => ?_)
          refine W.eq (g2 := F0 m 55 ls [.int v52]) rfl ?_
          refine lv_if_eq (tgt := 62) hx hb dX6_addStation_55 (by decide) (fun hc => ?_) (fun hc => ?_)
          · have hE := if_t hE hc
            exact j62 a1 a2 a3 a4 _ _ _ _ _ _ hE hZ (lv_sub hl [0, 1, 2, 3, 4] rfl)
          · have hE := if_f hE hc
            exact j58 a1 a2 a3 a4 _ _ _ _ _ _ hE hZ (lv_sub hl [0, 1, 2, 3, 4] rfl)
def f_X6_supply_J47 (u1 : Int32) (u2 : Int32) (z0 : Int32) : PM Int32 := bnd (wrI 5 0 0 z0) (fun _ => bnd (rdI 5 0 0) (fun v51 => if v51 ≤ 0 then (bnd (mld 20 237 u1) (fun v65 => bnd (mst 20 237 u1 (v65 + u2)) (fun _ => bnd (mld 20 237 u1) (fun v74 => rtn v74)))) else (rtn (-1 : Int32))))
def f_X6_supply (a1 : Int32) (a2 : Int32) : PM Int32 := bnd (f_X6_isPart a1) (fun v2 => if v2 = 0 then (f_X6_supply_J47 a1 a2 (1 : Int32)) else (bnd (f_X6_in (a2.toInt64) (1 : Int64) (99 : Int64)) (fun v18 => if v18 = 0 then (f_X6_supply_J47 a1 a2 (2 : Int32)) else (bnd (mld 20 237 a1) (fun v33 => if (v33 + a2) ≤ (999 : Int32) then (f_X6_supply_J47 a1 a2 (0 : Int32)) else (f_X6_supply_J47 a1 a2 (3 : Int32)))))))
theorem yd_X6_supply : yX6_supply.cls = RX6 ∧ yX6_supply.cls ≠ "java/lang/invoke/MethodHandle" ∧ yX6_supply.cls ≠ "java/lang/invoke/VarHandle" ∧ (parseMethodDescriptor yX6_supply.desc).map (fun d => d.parameters.length) = some 2 := by decide +kernel
set_option maxHeartbeats 4000000 in
set_option maxRecDepth 100000 in
theorem c_X6_supply (l : Launch) (D : va_G) (w : Wm) (A : Nat → Prop) (a1 : Int32) (a2 : Int32) : CT l yX6_supply cX6_supply 3 (some .int) 2 45 (PMo D w A) (ENVM D w) A [.ref (w.2.2 0), .int a1, .int a2] (f_X6_supply a1 a2) vI := by
  refine CT.ofW (by decide) [(0, .ref (w.2.2 0)), (1, .int a1), (2, .int a2)] (by simp [lv_args, vr_cat, vc_i, vc_j, vc_f, vc_d, vc_r, vc_n]) (by simp [lg_sl, vr_cat, vc_i, vc_j, vc_f, vc_d, vc_r, vc_n]) ?_
  intro S0 E0 R p e s m args below meth c ls hE hRf hRl hRc K0 hr hlocks hEV hA hZ hl
  have K0 : CallFix p m c cX6_supply 3 s args GW RX6 := K0
  have hx := K0.1
  have hb := K0.2.1
  have hown := K0.2.2.2.1
  have hg := K0.2.2.2.2
  have hK := hEV
  have hok : EVok (ENVM D w) A := ENVM.ok
  have j47 : ∀ (u1 : Int32) (u2 : Int32) (z0 : Int32) (S : St) (H : Heap) (locs : List Loc) (cells slots : Nat) (ls : Array Slot), (f_X6_supply_J47 u1 u2 z0).1 S = some E0 → ZZ D 14 (adrM w) (celM w) A S0 s.heap S H locs cells slots → lv_has ls 3 [(0, .ref (w.2.2 0)), (1, .int u1), (2, .int u2)] → W p l e R s m args below meth c H locs cells slots (MQ below (QE E0 vI (PMo D w A) A) args s (gN E0.2 7 0 - gN S0 7 0) (gN E0.2 3 0 - gN S0 3 0) A) (F0 m 47 ls [.int z0, .ref (w.2.2 0)]) := by
    intro u1 u2 z0 S H locs cells slots ls hE hZ hl
    unfold f_X6_supply_J47 at hE
    refine mp_19 K0 hK hE (nW := 14) (by omega) hZ q1089 dX6_supply_47 (fun S H locs hE hZ => ?_)
    refine lv_aload_n hx hb dX6_supply_50 rfl (lv_at hl 0 rfl) ?_
    refine mg_19 K0 hK hE (nW := 14) (by omega) hZ q1089 dX6_supply_51 (fun v51 hE => ?_)
    refine lv_if_le (tgt := 59) hx hb dX6_supply_54 (by decide) (fun hc => ?_) (fun hc => ?_)
    · have hE := if_t hE hc
      refine lv_aload_n hx hb dX6_supply_59 rfl (lv_at hl 0 rfl) ?_
      refine mg_12 K0 hK (nW := 14) (by omega) hZ q1082 dX6_supply_60 ?_
      refine lv_iload_n hx hb dX6_supply_63 rfl (lv_at hl 1 rfl) ?_
      refine lv_dup2_11 hx hb dX6_supply_64 rfl rfl ?_
      refine ma_20 K0 hK hE (nW := 14) (by omega) hZ dX6_supply_65 (fun v65 hE => ?_)
      refine lv_iload_n hx hb dX6_supply_66 rfl (lv_at hl 2 rfl) ?_
      refine lv_iadd hx hb dX6_supply_67 ?_
      refine ms_20 K0 hK hE (nW := 14) (by omega) hZ dX6_supply_68 (fun S H locs hE hZ => ?_)
      refine lv_aload_n hx hb dX6_supply_69 rfl (lv_at hl 0 rfl) ?_
      refine mg_12 K0 hK (nW := 14) (by omega) hZ q1082 dX6_supply_70 ?_
      refine lv_iload_n hx hb dX6_supply_73 rfl (lv_at hl 1 rfl) ?_
      refine ma_20 K0 hK hE (nW := 14) (by omega) hZ dX6_supply_74 (fun v74 hE => ?_)
      exact end_i K0 hr hlocks hE hZ dX6_supply_75
    · have hE := if_f hE hc
      refine lv_iconst (v := (-1)) hx hb dX6_supply_57 (by decide +kernel) ?_
      exact end_i K0 hr hlocks hE hZ dX6_supply_58
  unfold f_X6_supply at hE
  refine lv_aload_n hx hb dX6_supply_0 rfl (lv_at hl 0 rfl) ?_
  refine lv_iload_n hx hb dX6_supply_1 rfl (lv_at hl 1 rfl) ?_
  refine call_S (rest := [.ref (w.2.2 0)]) K0 hok hEV hA (c_X6_isPart l D w A a1) q1151 q1152 q46 q1153 yd_X6_isPart ⟨by omega, by omega⟩ hRc hE hZ hl.1 rfl (Nat.le_of_ble_eq_true rfl) dX6_supply_2 (fun v2 S H locs cells slots hE hZ => ?_)
  refine W.eq (g2 := F0 m 5 ls [.int v2, .ref (w.2.2 0)]) rfl ?_
  refine lv_if_ne (tgt := 12) hx hb dX6_supply_5 (by decide) (fun hc => ?_) (fun hc => ?_)
  · have hE := if_f hE hc
    refine lv_iload_n hx hb dX6_supply_12 rfl (lv_at hl 2 rfl) ?_
    refine lv_i2l hx hb dX6_supply_13 rfl ?_
    refine lv_lconst (v := (1)) hx hb dX6_supply_14 (by decide +kernel) ?_
    refine lv_ldc2 (v := (99)) hx hb hown (hg _ q1154) dX6_supply_15 ?_
    refine call_S (rest := [.ref (w.2.2 0)]) K0 hok hEV hA (c_X6_in l D w A (a2.toInt64) (1 : Int64) (99 : Int64)) q1140 q1141 q46 q1142 yd_X6_in ⟨by omega, by omega⟩ hRc hE hZ hl.1 rfl (Nat.le_of_ble_eq_true rfl) dX6_supply_18 (fun v18 S H locs cells slots hE hZ => ?_)
    refine W.eq (g2 := F0 m 21 ls [.int v18, .ref (w.2.2 0)]) rfl ?_
    refine lv_if_ne (tgt := 28) hx hb dX6_supply_21 (by decide) (fun hc => ?_) (fun hc => ?_)
    · have hE := if_f hE hc
      refine lv_aload_n hx hb dX6_supply_28 rfl (lv_at hl 0 rfl) ?_
      refine mg_12 K0 hK (nW := 14) (by omega) hZ q1082 dX6_supply_29 ?_
      refine lv_iload_n hx hb dX6_supply_32 rfl (lv_at hl 1 rfl) ?_
      refine ma_20 K0 hK hE (nW := 14) (by omega) hZ dX6_supply_33 (fun v33 hE => ?_)
      refine lv_iload_n hx hb dX6_supply_34 rfl (lv_at hl 2 rfl) ?_
      refine lv_iadd hx hb dX6_supply_35 ?_
      refine lv_sipush (v := (999)) hx hb dX6_supply_36 (by decide +kernel) ?_
      refine lv_icmp_le (tgt := 46) hx hb dX6_supply_39 (by decide) (fun hc => ?_) (fun hc => ?_)
      · have hE := if_t hE hc
        refine lv_iconst (v := (0)) hx hb dX6_supply_46 (by decide +kernel) ?_
        exact j47 a1 a2 (0 : Int32) _ _ _ _ _ _ hE hZ (lv_sub hl [0, 1, 2] rfl)
      · have hE := if_f hE hc
        refine lv_iconst (v := (3)) hx hb dX6_supply_42 (by decide +kernel) ?_
        refine lv_goto (tgt := 47) hx hb dX6_supply_43 (by decide) ?_
        exact j47 a1 a2 (3 : Int32) _ _ _ _ _ _ hE hZ (lv_sub hl [0, 1, 2] rfl)
    · have hE := if_t hE hc
      refine lv_iconst (v := (2)) hx hb dX6_supply_24 (by decide +kernel) ?_
      refine lv_goto (tgt := 47) hx hb dX6_supply_25 (by decide) ?_
      exact j47 a1 a2 (2 : Int32) _ _ _ _ _ _ hE hZ (lv_sub hl [0, 1, 2] rfl)
  · have hE := if_t hE hc
    refine lv_iconst (v := (1)) hx hb dX6_supply_8 (by decide +kernel) ?_
    refine lv_goto (tgt := 47) hx hb dX6_supply_9 (by decide) ?_
    exact j47 a1 a2 (1 : Int32) _ _ _ _ _ _ hE hZ (lv_sub hl [0, 1, 2] rfl)
def f_X6_setPeriod_J42 (u2 : Int32) (z0 : Int32) : PM Int32 := bnd (wrI 1 0 0 z0) (fun _ => bnd (rdI 5 0 0) (fun v46 => if v46 = 0 then (rtn u2) else (rtn (-1 : Int32))))
def f_X6_setPeriod_J18 (u1 : Int32) (z0 : Int32) : PM Int32 := bnd (wrI 5 0 0 z0) (fun _ => bnd (rdI 1 0 0) (fun v22 => bnd (rdI 5 0 0) (fun v28 => if v28 = 0 then (f_X6_setPeriod_J42 v22 u1) else (bnd (rdI 1 0 0) (fun v39 => f_X6_setPeriod_J42 v22 v39)))))
def f_X6_setPeriod (a1 : Int32) : PM Int32 := bnd (f_X6_in (a1.toInt64) (1 : Int64) (60 : Int64)) (fun v7 => if v7 = 0 then (f_X6_setPeriod_J18 a1 (1 : Int32)) else (f_X6_setPeriod_J18 a1 (0 : Int32)))
theorem yd_X6_setPeriod : yX6_setPeriod.cls = RX6 ∧ yX6_setPeriod.cls ≠ "java/lang/invoke/MethodHandle" ∧ yX6_setPeriod.cls ≠ "java/lang/invoke/VarHandle" ∧ (parseMethodDescriptor yX6_setPeriod.desc).map (fun d => d.parameters.length) = some 1 := by decide +kernel
set_option maxHeartbeats 4000000 in
set_option maxRecDepth 100000 in
theorem c_X6_setPeriod (l : Launch) (D : va_G) (w : Wm) (A : Nat → Prop) (a1 : Int32) : CT l yX6_setPeriod cX6_setPeriod 3 (some .int) 1 25 (PMo D w A) (ENVM D w) A [.ref (w.2.2 0), .int a1] (f_X6_setPeriod a1) vI := by
  refine CT.ofW (by decide) [(0, .ref (w.2.2 0)), (1, .int a1)] (by simp [lv_args, vr_cat, vc_i, vc_j, vc_f, vc_d, vc_r, vc_n]) (by simp [lg_sl, vr_cat, vc_i, vc_j, vc_f, vc_d, vc_r, vc_n]) ?_
  intro S0 E0 R p e s m args below meth c ls hE hRf hRl hRc K0 hr hlocks hEV hA hZ hl
  have K0 : CallFix p m c cX6_setPeriod 3 s args GW RX6 := K0
  have hx := K0.1
  have hb := K0.2.1
  have hown := K0.2.2.2.1
  have hg := K0.2.2.2.2
  have hK := hEV
  have hok : EVok (ENVM D w) A := ENVM.ok
  have j42 : ∀ (u2 : Int32) (z0 : Int32) (S : St) (H : Heap) (locs : List Loc) (cells slots : Nat) (ls : Array Slot), (f_X6_setPeriod_J42 u2 z0).1 S = some E0 → ZZ D 14 (adrM w) (celM w) A S0 s.heap S H locs cells slots → lv_has ls 3 [(0, .ref (w.2.2 0)), (2, .int u2)] → W p l e R s m args below meth c H locs cells slots (MQ below (QE E0 vI (PMo D w A) A) args s (gN E0.2 7 0 - gN S0 7 0) (gN E0.2 3 0 - gN S0 3 0) A) (F0 m 42 ls [.int z0, .ref (w.2.2 0)]) := by
    intro u2 z0 S H locs cells slots ls hE hZ hl
    unfold f_X6_setPeriod_J42 at hE
    refine mp_6 K0 hK hE (nW := 14) (by omega) hZ q1076 dX6_setPeriod_42 (fun S H locs hE hZ => ?_)
    refine lv_aload_n hx hb dX6_setPeriod_45 rfl (lv_at hl 0 rfl) ?_
    refine mg_19 K0 hK hE (nW := 14) (by omega) hZ q1089 dX6_setPeriod_46 (fun v46 hE => ?_)
    refine lv_if_ne (tgt := 56) hx hb dX6_setPeriod_49 (by decide) (fun hc => ?_) (fun hc => ?_)
    · have hE := if_f hE hc
      refine lv_iconst (v := (-1)) hx hb dX6_setPeriod_56 (by decide +kernel) ?_
      exact end_i K0 hr hlocks hE hZ dX6_setPeriod_57
    · have hE := if_t hE hc
      refine lv_iload_n hx hb dX6_setPeriod_52 rfl (lv_at hl 1 rfl) ?_
      refine lv_goto (tgt := 57) hx hb dX6_setPeriod_53 (by decide) ?_
      exact end_i K0 hr hlocks hE hZ dX6_setPeriod_57
  have j18 : ∀ (u1 : Int32) (z0 : Int32) (S : St) (H : Heap) (locs : List Loc) (cells slots : Nat) (ls : Array Slot), (f_X6_setPeriod_J18 u1 z0).1 S = some E0 → ZZ D 14 (adrM w) (celM w) A S0 s.heap S H locs cells slots → lv_has ls 3 [(0, .ref (w.2.2 0)), (1, .int u1)] → W p l e R s m args below meth c H locs cells slots (MQ below (QE E0 vI (PMo D w A) A) args s (gN E0.2 7 0 - gN S0 7 0) (gN E0.2 3 0 - gN S0 3 0) A) (F0 m 18 ls [.int z0, .ref (w.2.2 0)]) := by
    intro u1 z0 S H locs cells slots ls hE hZ hl
    unfold f_X6_setPeriod_J18 at hE
    refine mp_19 K0 hK hE (nW := 14) (by omega) hZ q1089 dX6_setPeriod_18 (fun S H locs hE hZ => ?_)
    refine lv_aload_n hx hb dX6_setPeriod_21 rfl (lv_at hl 0 rfl) ?_
    refine mg_6 K0 hK hE (nW := 14) (by omega) hZ q1076 dX6_setPeriod_22 (fun v22 hE => ?_)
    refine lv_istore_n (i := 2) (lv' := [(2, .int v22), (0, .ref (w.2.2 0)), (1, .int u1)]) hx hb dX6_setPeriod_25 rfl hl (by decide) rfl (fun ls hl => ?_)
    refine lv_aload_n hx hb dX6_setPeriod_26 rfl (lv_at hl 1 rfl) ?_
    refine lv_aload_n hx hb dX6_setPeriod_27 rfl (lv_at hl 1 rfl) ?_
    refine mg_19 K0 hK hE (nW := 14) (by omega) hZ q1089 dX6_setPeriod_28 (fun v28 hE => ?_)
    refine lv_if_ne (tgt := 38) hx hb dX6_setPeriod_31 (by decide) (fun hc => ?_) (fun hc => ?_)
    · have hE := if_f hE hc
      refine lv_aload_n hx hb dX6_setPeriod_38 rfl (lv_at hl 1 rfl) ?_
      refine mg_6 K0 hK hE (nW := 14) (by omega) hZ q1076 dX6_setPeriod_39 (fun v39 hE => ?_)
      exact j42 v22 v39 _ _ _ _ _ _ hE hZ (lv_sub hl [1, 0] rfl)
    · have hE := if_t hE hc
      refine lv_iload_n hx hb dX6_setPeriod_34 rfl (lv_at hl 2 rfl) ?_
      refine lv_goto (tgt := 42) hx hb dX6_setPeriod_35 (by decide) ?_
      exact j42 v22 u1 _ _ _ _ _ _ hE hZ (lv_sub hl [1, 0] rfl)
  unfold f_X6_setPeriod at hE
  refine lv_aload_n hx hb dX6_setPeriod_0 rfl (lv_at hl 0 rfl) ?_
  refine lv_iload_n hx hb dX6_setPeriod_1 rfl (lv_at hl 1 rfl) ?_
  refine lv_i2l hx hb dX6_setPeriod_2 rfl ?_
  refine lv_lconst (v := (1)) hx hb dX6_setPeriod_3 (by decide +kernel) ?_
  refine lv_ldc2 (v := (60)) hx hb hown (hg _ q1159) dX6_setPeriod_4 ?_
  refine call_S (rest := [.ref (w.2.2 0)]) K0 hok hEV hA (c_X6_in l D w A (a1.toInt64) (1 : Int64) (60 : Int64)) q1140 q1141 q46 q1142 yd_X6_in ⟨by omega, by omega⟩ hRc hE hZ hl.1 rfl (Nat.le_of_ble_eq_true rfl) dX6_setPeriod_7 (fun v7 S H locs cells slots hE hZ => ?_)
  refine W.eq (g2 := F0 m 10 ls [.int v7, .ref (w.2.2 0)]) rfl ?_
  refine lv_if_eq (tgt := 17) hx hb dX6_setPeriod_10 (by decide) (fun hc => ?_) (fun hc => ?_)
  · have hE := if_t hE hc
    refine lv_iconst (v := (1)) hx hb dX6_setPeriod_17 (by decide +kernel) ?_
    exact j18 a1 (1 : Int32) _ _ _ _ _ _ hE hZ (lv_sub hl [0, 1] rfl)
  · have hE := if_f hE hc
    refine lv_iconst (v := (0)) hx hb dX6_setPeriod_13 (by decide +kernel) ?_
    refine lv_goto (tgt := 18) hx hb dX6_setPeriod_14 (by decide) ?_
    exact j18 a1 (0 : Int32) _ _ _ _ _ _ hE hZ (lv_sub hl [0, 1] rfl)
def f_X6_addCar_J38 (u1 : Int32) (z0 : Int32) : PM Int32 := bnd (wrI 5 0 0 z0) (fun _ => bnd (rdI 5 0 0) (fun v42 => if v42 ≤ 0 then (bnd (rdI 2 0 0) (fun v55 => bnd (mst 16 30 v55 u1) (fun _ => bnd (rdI 2 0 0) (fun v67 => bnd (mst 20 237 ((82 : Int32) + v67) (119 : Int32)) (fun _ => bnd (mld 20 237 (233 : Int32)) (fun v88 => bnd (rdI 2 0 0) (fun v91 => bnd (mst 20 237 ((142 : Int32) + v88) v91) (fun _ => bnd (mld 20 237 (233 : Int32)) (fun v103 => bnd (mst 20 237 (233 : Int32) (v103 + (1 : Int32))) (fun _ => bnd (rdI 2 0 0) (fun v109 => bnd (wrI 2 0 0 (v109 + (1 : Int32))) (fun _ => bnd (rdI 2 0 0) (fun v118 => rtn (v118 - (1 : Int32))))))))))))))) else (rtn (-1 : Int32))))
def f_X6_addCar_J33 (u1 : Int32) : PM Int32 := f_X6_addCar_J38 u1 (2 : Int32)
def f_X6_addCar (a1 : Int32) : PM Int32 := bnd (f_X6_in (a1.toInt64) (0 : Int64) (63 : Int64)) (fun v7 => if v7 = 0 then (f_X6_addCar_J38 a1 (1 : Int32)) else (bnd (rdI 2 0 0) (fun v18 => if v18 = (30 : Int32) then (f_X6_addCar_J33 a1) else (bnd (rdI 0 0 0) (fun v27 => if v27 = 0 then (f_X6_addCar_J33 a1) else (f_X6_addCar_J38 a1 (0 : Int32)))))))
theorem yd_X6_addCar : yX6_addCar.cls = RX6 ∧ yX6_addCar.cls ≠ "java/lang/invoke/MethodHandle" ∧ yX6_addCar.cls ≠ "java/lang/invoke/VarHandle" ∧ (parseMethodDescriptor yX6_addCar.desc).map (fun d => d.parameters.length) = some 1 := by decide +kernel
set_option maxHeartbeats 4000000 in
set_option maxRecDepth 100000 in
theorem c_X6_addCar (l : Launch) (D : va_G) (w : Wm) (A : Nat → Prop) (a1 : Int32) : CT l yX6_addCar cX6_addCar 2 (some .int) 1 25 (PMo D w A) (ENVM D w) A [.ref (w.2.2 0), .int a1] (f_X6_addCar a1) vI := by
  refine CT.ofW (by decide) [(0, .ref (w.2.2 0)), (1, .int a1)] (by simp [lv_args, vr_cat, vc_i, vc_j, vc_f, vc_d, vc_r, vc_n]) (by simp [lg_sl, vr_cat, vc_i, vc_j, vc_f, vc_d, vc_r, vc_n]) ?_
  intro S0 E0 R p e s m args below meth c ls hE hRf hRl hRc K0 hr hlocks hEV hA hZ hl
  have K0 : CallFix p m c cX6_addCar 2 s args GW RX6 := K0
  have hx := K0.1
  have hb := K0.2.1
  have hown := K0.2.2.2.1
  have hg := K0.2.2.2.2
  have hK := hEV
  have hok : EVok (ENVM D w) A := ENVM.ok
  have j38 : ∀ (u1 : Int32) (z0 : Int32) (S : St) (H : Heap) (locs : List Loc) (cells slots : Nat) (ls : Array Slot), (f_X6_addCar_J38 u1 z0).1 S = some E0 → ZZ D 14 (adrM w) (celM w) A S0 s.heap S H locs cells slots → lv_has ls 2 [(0, .ref (w.2.2 0)), (1, .int u1)] → W p l e R s m args below meth c H locs cells slots (MQ below (QE E0 vI (PMo D w A) A) args s (gN E0.2 7 0 - gN S0 7 0) (gN E0.2 3 0 - gN S0 3 0) A) (F0 m 38 ls [.int z0, .ref (w.2.2 0)]) := by
    intro u1 z0 S H locs cells slots ls hE hZ hl
    unfold f_X6_addCar_J38 at hE
    refine mp_19 K0 hK hE (nW := 14) (by omega) hZ q1089 dX6_addCar_38 (fun S H locs hE hZ => ?_)
    refine lv_aload_n hx hb dX6_addCar_41 rfl (lv_at hl 0 rfl) ?_
    refine mg_19 K0 hK hE (nW := 14) (by omega) hZ q1089 dX6_addCar_42 (fun v42 hE => ?_)
    refine lv_if_le (tgt := 50) hx hb dX6_addCar_45 (by decide) (fun hc => ?_) (fun hc => ?_)
    · have hE := if_t hE hc
      refine lv_aload_n hx hb dX6_addCar_50 rfl (lv_at hl 0 rfl) ?_
      refine mg_7 K0 hK (nW := 14) (by omega) hZ q1077 dX6_addCar_51 ?_
      refine lv_aload_n hx hb dX6_addCar_54 rfl (lv_at hl 0 rfl) ?_
      refine mg_11 K0 hK hE (nW := 14) (by omega) hZ q1081 dX6_addCar_55 (fun v55 hE => ?_)
      refine lv_iload_n hx hb dX6_addCar_58 rfl (lv_at hl 1 rfl) ?_
      refine ms_16 K0 hK hE (nW := 14) (by omega) hZ dX6_addCar_59 (fun S H locs hE hZ => ?_)
      refine lv_aload_n hx hb dX6_addCar_60 rfl (lv_at hl 0 rfl) ?_
      refine mg_12 K0 hK (nW := 14) (by omega) hZ q1082 dX6_addCar_61 ?_
      refine lv_bipush (v := (82)) hx hb dX6_addCar_64 (by decide +kernel) ?_
      refine lv_aload_n hx hb dX6_addCar_66 rfl (lv_at hl 0 rfl) ?_
      refine mg_11 K0 hK hE (nW := 14) (by omega) hZ q1081 dX6_addCar_67 (fun v67 hE => ?_)
      refine lv_iadd hx hb dX6_addCar_70 ?_
      refine lv_bipush (v := (119)) hx hb dX6_addCar_71 (by decide +kernel) ?_
      refine ms_20 K0 hK hE (nW := 14) (by omega) hZ dX6_addCar_73 (fun S H locs hE hZ => ?_)
      refine lv_aload_n hx hb dX6_addCar_74 rfl (lv_at hl 0 rfl) ?_
      refine mg_12 K0 hK (nW := 14) (by omega) hZ q1082 dX6_addCar_75 ?_
      refine lv_sipush (v := (142)) hx hb dX6_addCar_78 (by decide +kernel) ?_
      refine lv_aload_n hx hb dX6_addCar_81 rfl (lv_at hl 0 rfl) ?_
      refine mg_12 K0 hK (nW := 14) (by omega) hZ q1082 dX6_addCar_82 ?_
      refine lv_sipush (v := (233)) hx hb dX6_addCar_85 (by decide +kernel) ?_
      refine ma_20 K0 hK hE (nW := 14) (by omega) hZ dX6_addCar_88 (fun v88 hE => ?_)
      refine lv_iadd hx hb dX6_addCar_89 ?_
      refine lv_aload_n hx hb dX6_addCar_90 rfl (lv_at hl 0 rfl) ?_
      refine mg_11 K0 hK hE (nW := 14) (by omega) hZ q1081 dX6_addCar_91 (fun v91 hE => ?_)
      refine ms_20 K0 hK hE (nW := 14) (by omega) hZ dX6_addCar_94 (fun S H locs hE hZ => ?_)
      refine lv_aload_n hx hb dX6_addCar_95 rfl (lv_at hl 0 rfl) ?_
      refine mg_12 K0 hK (nW := 14) (by omega) hZ q1082 dX6_addCar_96 ?_
      refine lv_sipush (v := (233)) hx hb dX6_addCar_99 (by decide +kernel) ?_
      refine lv_dup2_11 hx hb dX6_addCar_102 rfl rfl ?_
      refine ma_20 K0 hK hE (nW := 14) (by omega) hZ dX6_addCar_103 (fun v103 hE => ?_)
      refine lv_iconst (v := (1)) hx hb dX6_addCar_104 (by decide +kernel) ?_
      refine lv_iadd hx hb dX6_addCar_105 ?_
      refine ms_20 K0 hK hE (nW := 14) (by omega) hZ dX6_addCar_106 (fun S H locs hE hZ => ?_)
      refine lv_aload_n hx hb dX6_addCar_107 rfl (lv_at hl 0 rfl) ?_
      refine lv_dup hx hb dX6_addCar_108 rfl ?_
      refine mg_11 K0 hK hE (nW := 14) (by omega) hZ q1081 dX6_addCar_109 (fun v109 hE => ?_)
      refine lv_iconst (v := (1)) hx hb dX6_addCar_112 (by decide +kernel) ?_
      refine lv_iadd hx hb dX6_addCar_113 ?_
      refine mp_11 K0 hK hE (nW := 14) (by omega) hZ q1081 dX6_addCar_114 (fun S H locs hE hZ => ?_)
      refine lv_aload_n hx hb dX6_addCar_117 rfl (lv_at hl 0 rfl) ?_
      refine mg_11 K0 hK hE (nW := 14) (by omega) hZ q1081 dX6_addCar_118 (fun v118 hE => ?_)
      refine lv_iconst (v := (1)) hx hb dX6_addCar_121 (by decide +kernel) ?_
      refine lv_isub hx hb dX6_addCar_122 ?_
      exact end_i K0 hr hlocks hE hZ dX6_addCar_123
    · have hE := if_f hE hc
      refine lv_iconst (v := (-1)) hx hb dX6_addCar_48 (by decide +kernel) ?_
      exact end_i K0 hr hlocks hE hZ dX6_addCar_49
  have j33 : ∀ (u1 : Int32) (S : St) (H : Heap) (locs : List Loc) (cells slots : Nat) (ls : Array Slot), (f_X6_addCar_J33 u1).1 S = some E0 → ZZ D 14 (adrM w) (celM w) A S0 s.heap S H locs cells slots → lv_has ls 2 [(0, .ref (w.2.2 0)), (1, .int u1)] → W p l e R s m args below meth c H locs cells slots (MQ below (QE E0 vI (PMo D w A) A) args s (gN E0.2 7 0 - gN S0 7 0) (gN E0.2 3 0 - gN S0 3 0) A) (F0 m 33 ls [.ref (w.2.2 0)]) := by
    intro u1 S H locs cells slots ls hE hZ hl
    unfold f_X6_addCar_J33 at hE
    refine lv_iconst (v := (2)) hx hb dX6_addCar_33 (by decide +kernel) ?_
    refine lv_goto (tgt := 38) hx hb dX6_addCar_34 (by decide) ?_
    exact j38 u1 (2 : Int32) _ _ _ _ _ _ hE hZ (lv_sub hl [0, 1] rfl)
  unfold f_X6_addCar at hE
  refine lv_aload_n hx hb dX6_addCar_0 rfl (lv_at hl 0 rfl) ?_
  refine lv_iload_n hx hb dX6_addCar_1 rfl (lv_at hl 1 rfl) ?_
  refine lv_i2l hx hb dX6_addCar_2 rfl ?_
  refine lv_lconst (v := (0)) hx hb dX6_addCar_3 (by decide +kernel) ?_
  refine lv_ldc2 (v := (63)) hx hb hown (hg _ q1164) dX6_addCar_4 ?_
  refine call_S (rest := [.ref (w.2.2 0)]) K0 hok hEV hA (c_X6_in l D w A (a1.toInt64) (0 : Int64) (63 : Int64)) q1140 q1141 q46 q1142 yd_X6_in ⟨by omega, by omega⟩ hRc hE hZ hl.1 rfl (Nat.le_of_ble_eq_true rfl) dX6_addCar_7 (fun v7 S H locs cells slots hE hZ => ?_)
  refine W.eq (g2 := F0 m 10 ls [.int v7, .ref (w.2.2 0)]) rfl ?_
  refine lv_if_ne (tgt := 17) hx hb dX6_addCar_10 (by decide) (fun hc => ?_) (fun hc => ?_)
  · have hE := if_f hE hc
    refine lv_aload_n hx hb dX6_addCar_17 rfl (lv_at hl 0 rfl) ?_
    refine mg_11 K0 hK hE (nW := 14) (by omega) hZ q1081 dX6_addCar_18 (fun v18 hE => ?_)
    refine lv_bipush (v := (30)) hx hb dX6_addCar_21 (by decide +kernel) ?_
    refine lv_icmp_eq (tgt := 33) hx hb dX6_addCar_23 (by decide) (fun hc => ?_) (fun hc => ?_)
    · have hE := if_t hE hc
      exact j33 a1 _ _ _ _ _ _ hE hZ (lv_sub hl [0, 1] rfl)
    · have hE := if_f hE hc
      refine lv_aload_n hx hb dX6_addCar_26 rfl (lv_at hl 0 rfl) ?_
      refine mg_5 K0 hK hE (nW := 14) (by omega) hZ q1075 dX6_addCar_27 (fun v27 hE => ?_)
      refine lv_if_ne (tgt := 37) hx hb dX6_addCar_30 (by decide) (fun hc => ?_) (fun hc => ?_)
      · have hE := if_f hE hc
        refine lv_iconst (v := (0)) hx hb dX6_addCar_37 (by decide +kernel) ?_
        exact j38 a1 (0 : Int32) _ _ _ _ _ _ hE hZ (lv_sub hl [0, 1] rfl)
      · have hE := if_t hE hc
        exact j33 a1 _ _ _ _ _ _ hE hZ (lv_sub hl [0, 1] rfl)
  · have hE := if_t hE hc
    refine lv_iconst (v := (1)) hx hb dX6_addCar_13 (by decide +kernel) ?_
    refine lv_goto (tgt := 38) hx hb dX6_addCar_14 (by decide) ?_
    exact j38 a1 (1 : Int32) _ _ _ _ _ _ hE hZ (lv_sub hl [0, 1] rfl)
def f_X6_swap_J43 (z0 : Int32) : PM Int32 := bnd (wrI 5 0 0 z0) (fun _ => rtn (-1 : Int32))
def f_X6_swap_J38  : PM Int32 := f_X6_swap_J43 (1 : Int32)
def f_X6_swap_J21 (u1 : Int32) (u2 : Int32) : PM Int32 := bnd (f_X6_isCar u1) (fun v24 => if v24 = 0 then (f_X6_swap_J38) else (bnd (f_X6_isCar u2) (fun v32 => if v32 = 0 then (f_X6_swap_J38) else (f_X6_swap_J43 (2 : Int32)))))
def f_X6_swap_J82 (u1 : Int32) (u2 : Int32) (z0 : Int32) : PM Int32 := bnd (wrI 5 0 0 z0) (fun _ => bnd (rdI 5 0 0) (fun v86 => if v86 ≤ 0 then (bnd (f_X6_waitsAt u1) (fun v96 => bnd (f_X6_waitsAt u2) (fun v102 => bnd (mst 20 237 ((142 : Int32) + v96) u2) (fun _ => bnd (mst 20 237 ((142 : Int32) + v102) u1) (fun _ => rtn v102))))) else (rtn (-1 : Int32))))
def f_X6_swap_J81 (u1 : Int32) (u2 : Int32) : PM Int32 := f_X6_swap_J82 u1 u2 (3 : Int32)
def f_X6_swap (a1 : Int32) (a2 : Int32) : PM Int32 := bnd (f_X6_isCar a1) (fun v2 => if v2 = 0 then (f_X6_swap_J21 a1 a2) else (bnd (f_X6_isCar a2) (fun v10 => if v10 = 0 then (f_X6_swap_J21 a1 a2) else (if a1 = a2 then (f_X6_swap_J21 a1 a2) else (bnd (mld 20 237 ((82 : Int32) + a1)) (fun v57 => if v57 = (119 : Int32) then (bnd (mld 20 237 ((82 : Int32) + a2)) (fun v71 => if v71 = (119 : Int32) then (f_X6_swap_J82 a1 a2 (0 : Int32)) else (f_X6_swap_J81 a1 a2))) else (f_X6_swap_J81 a1 a2)))))))
theorem yd_X6_swap : yX6_swap.cls = RX6 ∧ yX6_swap.cls ≠ "java/lang/invoke/MethodHandle" ∧ yX6_swap.cls ≠ "java/lang/invoke/VarHandle" ∧ (parseMethodDescriptor yX6_swap.desc).map (fun d => d.parameters.length) = some 2 := by decide +kernel
set_option maxHeartbeats 4000000 in
set_option maxRecDepth 100000 in
theorem c_X6_swap (l : Launch) (D : va_G) (w : Wm) (A : Nat → Prop) (a1 : Int32) (a2 : Int32) : CT l yX6_swap cX6_swap 5 (some .int) 2 46 (PMo D w A) (ENVM D w) A [.ref (w.2.2 0), .int a1, .int a2] (f_X6_swap a1 a2) vI := by
  refine CT.ofW (by decide) [(0, .ref (w.2.2 0)), (1, .int a1), (2, .int a2)] (by simp [lv_args, vr_cat, vc_i, vc_j, vc_f, vc_d, vc_r, vc_n]) (by simp [lg_sl, vr_cat, vc_i, vc_j, vc_f, vc_d, vc_r, vc_n]) ?_
  intro S0 E0 R p e s m args below meth c ls hE hRf hRl hRc K0 hr hlocks hEV hA hZ hl
  have K0 : CallFix p m c cX6_swap 5 s args GW RX6 := K0
  have hx := K0.1
  have hb := K0.2.1
  have hown := K0.2.2.2.1
  have hg := K0.2.2.2.2
  have hK := hEV
  have hok : EVok (ENVM D w) A := ENVM.ok
  have j43 : ∀ (z0 : Int32) (S : St) (H : Heap) (locs : List Loc) (cells slots : Nat) (ls : Array Slot), (f_X6_swap_J43 z0).1 S = some E0 → ZZ D 14 (adrM w) (celM w) A S0 s.heap S H locs cells slots → lv_has ls 5 [] → W p l e R s m args below meth c H locs cells slots (MQ below (QE E0 vI (PMo D w A) A) args s (gN E0.2 7 0 - gN S0 7 0) (gN E0.2 3 0 - gN S0 3 0) A) (F0 m 43 ls [.int z0, .ref (w.2.2 0)]) := by
    intro z0 S H locs cells slots ls hE hZ hl
    unfold f_X6_swap_J43 at hE
    refine mp_19 K0 hK hE (nW := 14) (by omega) hZ q1089 dX6_swap_43 (fun S H locs hE hZ => ?_)
    refine lv_iconst (v := (-1)) hx hb dX6_swap_46 (by decide +kernel) ?_
    exact end_i K0 hr hlocks hE hZ dX6_swap_47
  have j38 : ∀ (S : St) (H : Heap) (locs : List Loc) (cells slots : Nat) (ls : Array Slot), (f_X6_swap_J38 ).1 S = some E0 → ZZ D 14 (adrM w) (celM w) A S0 s.heap S H locs cells slots → lv_has ls 5 [] → W p l e R s m args below meth c H locs cells slots (MQ below (QE E0 vI (PMo D w A) A) args s (gN E0.2 7 0 - gN S0 7 0) (gN E0.2 3 0 - gN S0 3 0) A) (F0 m 38 ls [.ref (w.2.2 0)]) := by
    intro  S H locs cells slots ls hE hZ hl
    unfold f_X6_swap_J38 at hE
    refine lv_iconst (v := (1)) hx hb dX6_swap_38 (by decide +kernel) ?_
    refine lv_goto (tgt := 43) hx hb dX6_swap_39 (by decide) ?_
    exact j43 (1 : Int32) _ _ _ _ _ _ hE hZ (lv_sub hl [] rfl)
  have j21 : ∀ (u1 : Int32) (u2 : Int32) (S : St) (H : Heap) (locs : List Loc) (cells slots : Nat) (ls : Array Slot), (f_X6_swap_J21 u1 u2).1 S = some E0 → ZZ D 14 (adrM w) (celM w) A S0 s.heap S H locs cells slots → lv_has ls 5 [(0, .ref (w.2.2 0)), (1, .int u1), (2, .int u2)] → W p l e R s m args below meth c H locs cells slots (MQ below (QE E0 vI (PMo D w A) A) args s (gN E0.2 7 0 - gN S0 7 0) (gN E0.2 3 0 - gN S0 3 0) A) (F0 m 21 ls []) := by
    intro u1 u2 S H locs cells slots ls hE hZ hl
    unfold f_X6_swap_J21 at hE
    refine lv_aload_n hx hb dX6_swap_21 rfl (lv_at hl 0 rfl) ?_
    refine lv_aload_n hx hb dX6_swap_22 rfl (lv_at hl 0 rfl) ?_
    refine lv_iload_n hx hb dX6_swap_23 rfl (lv_at hl 1 rfl) ?_
    refine call_VS (rest := [.ref (w.2.2 0)]) K0 hok hEV hA (c_X6_isCar l D w A u1) q1169 q1171 q23 q46 q1172 yd_X6_isCar ⟨by omega, by omega⟩ hRc (rc_MO hK (nW := 14) (by omega) hZ) hE hZ hl.1 rfl (Nat.le_of_ble_eq_true rfl) dX6_swap_24 (fun v24 S H locs cells slots hE hZ => ?_)
    refine W.eq (g2 := F0 m 27 ls [.int v24, .ref (w.2.2 0)]) rfl ?_
    refine lv_if_eq (tgt := 38) hx hb dX6_swap_27 (by decide) (fun hc => ?_) (fun hc => ?_)
    · have hE := if_t hE hc
      exact j38  _ _ _ _ _ _ hE hZ (lv_sub hl [] rfl)
    · have hE := if_f hE hc
      refine lv_aload_n hx hb dX6_swap_30 rfl (lv_at hl 0 rfl) ?_
      refine lv_iload_n hx hb dX6_swap_31 rfl (lv_at hl 2 rfl) ?_
      refine call_VS (rest := [.ref (w.2.2 0)]) K0 hok hEV hA (c_X6_isCar l D w A u2) q1169 q1171 q23 q46 q1172 yd_X6_isCar ⟨by omega, by omega⟩ hRc (rc_MO hK (nW := 14) (by omega) hZ) hE hZ hl.1 rfl (Nat.le_of_ble_eq_true rfl) dX6_swap_32 (fun v32 S H locs cells slots hE hZ => ?_)
      refine W.eq (g2 := F0 m 35 ls [.int v32, .ref (w.2.2 0)]) rfl ?_
      refine lv_if_ne (tgt := 42) hx hb dX6_swap_35 (by decide) (fun hc => ?_) (fun hc => ?_)
      · have hE := if_f hE hc
        refine lv_iconst (v := (2)) hx hb dX6_swap_42 (by decide +kernel) ?_
        exact j43 (2 : Int32) _ _ _ _ _ _ hE hZ (lv_sub hl [] rfl)
      · have hE := if_t hE hc
        exact j38  _ _ _ _ _ _ hE hZ (lv_sub hl [] rfl)
  have j82 : ∀ (u1 : Int32) (u2 : Int32) (z0 : Int32) (S : St) (H : Heap) (locs : List Loc) (cells slots : Nat) (ls : Array Slot), (f_X6_swap_J82 u1 u2 z0).1 S = some E0 → ZZ D 14 (adrM w) (celM w) A S0 s.heap S H locs cells slots → lv_has ls 5 [(0, .ref (w.2.2 0)), (1, .int u1), (2, .int u2)] → W p l e R s m args below meth c H locs cells slots (MQ below (QE E0 vI (PMo D w A) A) args s (gN E0.2 7 0 - gN S0 7 0) (gN E0.2 3 0 - gN S0 3 0) A) (F0 m 82 ls [.int z0, .ref (w.2.2 0)]) := by
    intro u1 u2 z0 S H locs cells slots ls hE hZ hl
    unfold f_X6_swap_J82 at hE
    refine mp_19 K0 hK hE (nW := 14) (by omega) hZ q1089 dX6_swap_82 (fun S H locs hE hZ => ?_)
    refine lv_aload_n hx hb dX6_swap_85 rfl (lv_at hl 0 rfl) ?_
    refine mg_19 K0 hK hE (nW := 14) (by omega) hZ q1089 dX6_swap_86 (fun v86 hE => ?_)
    refine lv_if_le (tgt := 94) hx hb dX6_swap_89 (by decide) (fun hc => ?_) (fun hc => ?_)
    · have hE := if_t hE hc
      refine lv_aload_n hx hb dX6_swap_94 rfl (lv_at hl 0 rfl) ?_
      refine lv_iload_n hx hb dX6_swap_95 rfl (lv_at hl 1 rfl) ?_
      refine call_VS (rest := []) K0 hok hEV hA (c_X6_waitsAt l D w A u1) q1173 q1175 q24 q46 q1176 yd_X6_waitsAt ⟨by omega, by omega⟩ hRc (rc_MO hK (nW := 14) (by omega) hZ) hE hZ hl.1 rfl (Nat.le_of_ble_eq_true rfl) dX6_swap_96 (fun v96 S H locs cells slots hE hZ => ?_)
      refine W.eq (g2 := F0 m 99 ls [.int v96]) rfl ?_
      refine lv_istore_n (i := 3) (lv' := [(3, .int v96), (0, .ref (w.2.2 0)), (1, .int u1), (2, .int u2)]) hx hb dX6_swap_99 rfl hl (by decide) rfl (fun ls hl => ?_)
      refine lv_aload_n hx hb dX6_swap_100 rfl (lv_at hl 1 rfl) ?_
      refine lv_iload_n hx hb dX6_swap_101 rfl (lv_at hl 3 rfl) ?_
      refine call_VS (rest := []) K0 hok hEV hA (c_X6_waitsAt l D w A u2) q1173 q1175 q24 q46 q1176 yd_X6_waitsAt ⟨by omega, by omega⟩ hRc (rc_MO hK (nW := 14) (by omega) hZ) hE hZ hl.1 rfl (Nat.le_of_ble_eq_true rfl) dX6_swap_102 (fun v102 S H locs cells slots hE hZ => ?_)
      refine W.eq (g2 := F0 m 105 ls [.int v102]) rfl ?_
      refine lv_istore (lv' := [(4, .int v102), (3, .int v96), (0, .ref (w.2.2 0)), (1, .int u1), (2, .int u2)]) hx hb dX6_swap_105 hl (by decide) rfl (fun ls hl => ?_)
      refine lv_aload_n hx hb dX6_swap_107 rfl (lv_at hl 2 rfl) ?_
      refine mg_12 K0 hK (nW := 14) (by omega) hZ q1082 dX6_swap_108 ?_
      refine lv_sipush (v := (142)) hx hb dX6_swap_111 (by decide +kernel) ?_
      refine lv_iload_n hx hb dX6_swap_114 rfl (lv_at hl 1 rfl) ?_
      refine lv_iadd hx hb dX6_swap_115 ?_
      refine lv_iload_n hx hb dX6_swap_116 rfl (lv_at hl 4 rfl) ?_
      refine ms_20 K0 hK hE (nW := 14) (by omega) hZ dX6_swap_117 (fun S H locs hE hZ => ?_)
      refine lv_aload_n hx hb dX6_swap_118 rfl (lv_at hl 2 rfl) ?_
      refine mg_12 K0 hK (nW := 14) (by omega) hZ q1082 dX6_swap_119 ?_
      refine lv_sipush (v := (142)) hx hb dX6_swap_122 (by decide +kernel) ?_
      refine lv_iload hx hb dX6_swap_125 (lv_at hl 0 rfl) ?_
      refine lv_iadd hx hb dX6_swap_127 ?_
      refine lv_iload_n hx hb dX6_swap_128 rfl (lv_at hl 3 rfl) ?_
      refine ms_20 K0 hK hE (nW := 14) (by omega) hZ dX6_swap_129 (fun S H locs hE hZ => ?_)
      refine lv_iload hx hb dX6_swap_130 (lv_at hl 0 rfl) ?_
      exact end_i K0 hr hlocks hE hZ dX6_swap_132
    · have hE := if_f hE hc
      refine lv_iconst (v := (-1)) hx hb dX6_swap_92 (by decide +kernel) ?_
      exact end_i K0 hr hlocks hE hZ dX6_swap_93
  have j81 : ∀ (u1 : Int32) (u2 : Int32) (S : St) (H : Heap) (locs : List Loc) (cells slots : Nat) (ls : Array Slot), (f_X6_swap_J81 u1 u2).1 S = some E0 → ZZ D 14 (adrM w) (celM w) A S0 s.heap S H locs cells slots → lv_has ls 5 [(0, .ref (w.2.2 0)), (1, .int u1), (2, .int u2)] → W p l e R s m args below meth c H locs cells slots (MQ below (QE E0 vI (PMo D w A) A) args s (gN E0.2 7 0 - gN S0 7 0) (gN E0.2 3 0 - gN S0 3 0) A) (F0 m 81 ls [.ref (w.2.2 0)]) := by
    intro u1 u2 S H locs cells slots ls hE hZ hl
    unfold f_X6_swap_J81 at hE
    refine lv_iconst (v := (3)) hx hb dX6_swap_81 (by decide +kernel) ?_
    exact j82 u1 u2 (3 : Int32) _ _ _ _ _ _ hE hZ (lv_sub hl [0, 1, 2] rfl)
  unfold f_X6_swap at hE
  refine lv_aload_n hx hb dX6_swap_0 rfl (lv_at hl 0 rfl) ?_
  refine lv_iload_n hx hb dX6_swap_1 rfl (lv_at hl 1 rfl) ?_
  refine call_VS (rest := []) K0 hok hEV hA (c_X6_isCar l D w A a1) q1169 q1171 q23 q46 q1172 yd_X6_isCar ⟨by omega, by omega⟩ hRc (rc_MO hK (nW := 14) (by omega) hZ) hE hZ hl.1 rfl (Nat.le_of_ble_eq_true rfl) dX6_swap_2 (fun v2 S H locs cells slots hE hZ => ?_)
  refine W.eq (g2 := F0 m 5 ls [.int v2]) rfl ?_
  refine lv_if_eq (tgt := 21) hx hb dX6_swap_5 (by decide) (fun hc => ?_) (fun hc => ?_)
  · have hE := if_t hE hc
    exact j21 a1 a2 _ _ _ _ _ _ hE hZ (lv_sub hl [0, 1, 2] rfl)
  · have hE := if_f hE hc
    refine lv_aload_n hx hb dX6_swap_8 rfl (lv_at hl 0 rfl) ?_
    refine lv_iload_n hx hb dX6_swap_9 rfl (lv_at hl 2 rfl) ?_
    refine call_VS (rest := []) K0 hok hEV hA (c_X6_isCar l D w A a2) q1169 q1171 q23 q46 q1172 yd_X6_isCar ⟨by omega, by omega⟩ hRc (rc_MO hK (nW := 14) (by omega) hZ) hE hZ hl.1 rfl (Nat.le_of_ble_eq_true rfl) dX6_swap_10 (fun v10 S H locs cells slots hE hZ => ?_)
    refine W.eq (g2 := F0 m 13 ls [.int v10]) rfl ?_
    refine lv_if_eq (tgt := 21) hx hb dX6_swap_13 (by decide) (fun hc => ?_) (fun hc => ?_)
    · have hE := if_t hE hc
      exact j21 a1 a2 _ _ _ _ _ _ hE hZ (lv_sub hl [0, 1, 2] rfl)
    · have hE := if_f hE hc
      refine lv_iload_n hx hb dX6_swap_16 rfl (lv_at hl 1 rfl) ?_
      refine lv_iload_n hx hb dX6_swap_17 rfl (lv_at hl 2 rfl) ?_
      refine lv_icmp_ne (tgt := 48) hx hb dX6_swap_18 (by decide) (fun hc => ?_) (fun hc => ?_)
      · have hE := if_f hE hc
        refine lv_aload_n hx hb dX6_swap_48 rfl (lv_at hl 0 rfl) ?_
        refine lv_aload_n hx hb dX6_swap_49 rfl (lv_at hl 0 rfl) ?_
        refine mg_12 K0 hK (nW := 14) (by omega) hZ q1082 dX6_swap_50 ?_
        refine lv_bipush (v := (82)) hx hb dX6_swap_53 (by decide +kernel) ?_
        refine lv_iload_n hx hb dX6_swap_55 rfl (lv_at hl 1 rfl) ?_
        refine lv_iadd hx hb dX6_swap_56 ?_
        refine ma_20 K0 hK hE (nW := 14) (by omega) hZ dX6_swap_57 (fun v57 hE => ?_)
        refine lv_bipush (v := (119)) hx hb dX6_swap_58 (by decide +kernel) ?_
        refine lv_icmp_ne (tgt := 81) hx hb dX6_swap_60 (by decide) (fun hc => ?_) (fun hc => ?_)
        · have hE := if_f hE hc
          exact j81 a1 a2 _ _ _ _ _ _ hE hZ (lv_sub hl [0, 1, 2] rfl)
        · have hE := if_t hE hc
          refine lv_aload_n hx hb dX6_swap_63 rfl (lv_at hl 0 rfl) ?_
          refine mg_12 K0 hK (nW := 14) (by omega) hZ q1082 dX6_swap_64 ?_
          refine lv_bipush (v := (82)) hx hb dX6_swap_67 (by decide +kernel) ?_
          refine lv_iload_n hx hb dX6_swap_69 rfl (lv_at hl 2 rfl) ?_
          refine lv_iadd hx hb dX6_swap_70 ?_
          refine ma_20 K0 hK hE (nW := 14) (by omega) hZ dX6_swap_71 (fun v71 hE => ?_)
          refine lv_bipush (v := (119)) hx hb dX6_swap_72 (by decide +kernel) ?_
          refine lv_icmp_ne (tgt := 81) hx hb dX6_swap_74 (by decide) (fun hc => ?_) (fun hc => ?_)
          · have hE := if_f hE hc
            exact j81 a1 a2 _ _ _ _ _ _ hE hZ (lv_sub hl [0, 1, 2] rfl)
          · have hE := if_t hE hc
            refine lv_iconst (v := (0)) hx hb dX6_swap_77 (by decide +kernel) ?_
            refine lv_goto (tgt := 82) hx hb dX6_swap_78 (by decide) ?_
            exact j82 a1 a2 (0 : Int32) _ _ _ _ _ _ hE hZ (lv_sub hl [0, 1, 2] rfl)
      · have hE := if_t hE hc
        exact j21 a1 a2 _ _ _ _ _ _ hE hZ (lv_sub hl [0, 1, 2] rfl)
def f_X6_fault_J16  : PM Int32 := bnd (wrI 5 0 0 (1 : Int32)) (fun _ => rtn (-1 : Int32))
def f_X6_fault_J101 (u1 : Int32) (u2 : Int32) (z0 : Int32) : PM Int32 := bnd (wrI 5 0 0 z0) (fun _ => bnd (rdI 5 0 0) (fun v105 => if v105 ≤ 0 then (bnd (mld 20 237 ((112 : Int32) + u1)) (fun v122 => bnd (mst 20 237 ((112 : Int32) + u1) (v122 ||| ((1 : Int32) <<< (u2 &&& 31)))) (fun _ => bnd (mld 20 237 ((112 : Int32) + u1)) (fun v136 => bnd (f_X6_many v136) (fun v137 => rtn v137))))) else (rtn (-1 : Int32))))
def f_X6_fault_J69 (u1 : Int32) (u2 : Int32) (z0 : Int32) : PM Int32 := if z0 = 0 then (f_X6_fault_J101 u1 u2 (2 : Int32)) else (bnd (mld 20 237 ((112 : Int32) + u1)) (fun v87 => if ((v87 >>> (u2 &&& 31)) &&& (1 : Int32)) = (1 : Int32) then (f_X6_fault_J101 u1 u2 (3 : Int32)) else (f_X6_fault_J101 u1 u2 (0 : Int32))))
def f_X6_fault_J68 (u1 : Int32) (u2 : Int32) : PM Int32 := f_X6_fault_J69 u1 u2 (0 : Int32)
def f_X6_fault (a1 : Int32) (a2 : Int32) : PM Int32 := bnd (f_X6_isCar a1) (fun v2 => if v2 = 0 then (f_X6_fault_J16) else (bnd (f_X6_isStation a2) (fun v10 => if v10 = 0 then (f_X6_fault_J16) else (bnd (mld 19 30 a1) (fun v28 => if ((v28 >>> (a2 &&& 31)) &&& (1 : Int32)) = (1 : Int32) then (bnd (mld 20 237 ((14 : Int32) + a2)) (fun v45 => if v45 = a1 then (f_X6_fault_J68 a1 a2) else (bnd (mld 20 237 ((82 : Int32) + a1)) (fun v58 => if v58 = (100 : Int32) then (f_X6_fault_J68 a1 a2) else (f_X6_fault_J69 a1 a2 (1 : Int32)))))) else (f_X6_fault_J68 a1 a2))))))
theorem yd_X6_fault : yX6_fault.cls = RX6 ∧ yX6_fault.cls ≠ "java/lang/invoke/MethodHandle" ∧ yX6_fault.cls ≠ "java/lang/invoke/VarHandle" ∧ (parseMethodDescriptor yX6_fault.desc).map (fun d => d.parameters.length) = some 2 := by decide +kernel
set_option maxHeartbeats 4000000 in
set_option maxRecDepth 100000 in
theorem c_X6_fault (l : Launch) (D : va_G) (w : Wm) (A : Nat → Prop) (a1 : Int32) (a2 : Int32) : CT l yX6_fault cX6_fault 4 (some .int) 2 46 (PMo D w A) (ENVM D w) A [.ref (w.2.2 0), .int a1, .int a2] (f_X6_fault a1 a2) vI := by
  refine CT.ofW (by decide) [(0, .ref (w.2.2 0)), (1, .int a1), (2, .int a2)] (by simp [lv_args, vr_cat, vc_i, vc_j, vc_f, vc_d, vc_r, vc_n]) (by simp [lg_sl, vr_cat, vc_i, vc_j, vc_f, vc_d, vc_r, vc_n]) ?_
  intro S0 E0 R p e s m args below meth c ls hE hRf hRl hRc K0 hr hlocks hEV hA hZ hl
  have K0 : CallFix p m c cX6_fault 4 s args GW RX6 := K0
  have hx := K0.1
  have hb := K0.2.1
  have hown := K0.2.2.2.1
  have hg := K0.2.2.2.2
  have hK := hEV
  have hok : EVok (ENVM D w) A := ENVM.ok
  have j16 : ∀ (S : St) (H : Heap) (locs : List Loc) (cells slots : Nat) (ls : Array Slot), (f_X6_fault_J16 ).1 S = some E0 → ZZ D 14 (adrM w) (celM w) A S0 s.heap S H locs cells slots → lv_has ls 4 [(0, .ref (w.2.2 0))] → W p l e R s m args below meth c H locs cells slots (MQ below (QE E0 vI (PMo D w A) A) args s (gN E0.2 7 0 - gN S0 7 0) (gN E0.2 3 0 - gN S0 3 0) A) (F0 m 16 ls []) := by
    intro  S H locs cells slots ls hE hZ hl
    unfold f_X6_fault_J16 at hE
    refine lv_aload_n hx hb dX6_fault_16 rfl (lv_at hl 0 rfl) ?_
    refine lv_iconst (v := (1)) hx hb dX6_fault_17 (by decide +kernel) ?_
    refine mp_19 K0 hK hE (nW := 14) (by omega) hZ q1089 dX6_fault_18 (fun S H locs hE hZ => ?_)
    refine lv_iconst (v := (-1)) hx hb dX6_fault_21 (by decide +kernel) ?_
    exact end_i K0 hr hlocks hE hZ dX6_fault_22
  have j101 : ∀ (u1 : Int32) (u2 : Int32) (z0 : Int32) (S : St) (H : Heap) (locs : List Loc) (cells slots : Nat) (ls : Array Slot), (f_X6_fault_J101 u1 u2 z0).1 S = some E0 → ZZ D 14 (adrM w) (celM w) A S0 s.heap S H locs cells slots → lv_has ls 4 [(0, .ref (w.2.2 0)), (1, .int u1), (2, .int u2)] → W p l e R s m args below meth c H locs cells slots (MQ below (QE E0 vI (PMo D w A) A) args s (gN E0.2 7 0 - gN S0 7 0) (gN E0.2 3 0 - gN S0 3 0) A) (F0 m 101 ls [.int z0, .ref (w.2.2 0)]) := by
    intro u1 u2 z0 S H locs cells slots ls hE hZ hl
    unfold f_X6_fault_J101 at hE
    refine mp_19 K0 hK hE (nW := 14) (by omega) hZ q1089 dX6_fault_101 (fun S H locs hE hZ => ?_)
    refine lv_aload_n hx hb dX6_fault_104 rfl (lv_at hl 0 rfl) ?_
    refine mg_19 K0 hK hE (nW := 14) (by omega) hZ q1089 dX6_fault_105 (fun v105 hE => ?_)
    refine lv_if_le (tgt := 113) hx hb dX6_fault_108 (by decide) (fun hc => ?_) (fun hc => ?_)
    · have hE := if_t hE hc
      refine lv_aload_n hx hb dX6_fault_113 rfl (lv_at hl 0 rfl) ?_
      refine mg_12 K0 hK (nW := 14) (by omega) hZ q1082 dX6_fault_114 ?_
      refine lv_bipush (v := (112)) hx hb dX6_fault_117 (by decide +kernel) ?_
      refine lv_iload_n hx hb dX6_fault_119 rfl (lv_at hl 1 rfl) ?_
      refine lv_iadd hx hb dX6_fault_120 ?_
      refine lv_dup2_11 hx hb dX6_fault_121 rfl rfl ?_
      refine ma_20 K0 hK hE (nW := 14) (by omega) hZ dX6_fault_122 (fun v122 hE => ?_)
      refine lv_iconst (v := (1)) hx hb dX6_fault_123 (by decide +kernel) ?_
      refine lv_iload_n hx hb dX6_fault_124 rfl (lv_at hl 2 rfl) ?_
      refine lv_ishl hx hb dX6_fault_125 ?_
      refine lv_ior hx hb dX6_fault_126 ?_
      refine ms_20 K0 hK hE (nW := 14) (by omega) hZ dX6_fault_127 (fun S H locs hE hZ => ?_)
      refine lv_aload_n hx hb dX6_fault_128 rfl (lv_at hl 0 rfl) ?_
      refine mg_12 K0 hK (nW := 14) (by omega) hZ q1082 dX6_fault_129 ?_
      refine lv_bipush (v := (112)) hx hb dX6_fault_132 (by decide +kernel) ?_
      refine lv_iload_n hx hb dX6_fault_134 rfl (lv_at hl 1 rfl) ?_
      refine lv_iadd hx hb dX6_fault_135 ?_
      refine ma_20 K0 hK hE (nW := 14) (by omega) hZ dX6_fault_136 (fun v136 hE => ?_)
      refine call_S (rest := []) K0 hok hEV hA (c_X6_many l D w A v136) q1185 q1186 q46 q1187 yd_X6_many ⟨by omega, by omega⟩ hRc hE hZ hl.1 rfl (Nat.le_of_ble_eq_true rfl) dX6_fault_137 (fun v137 S H locs cells slots hE hZ => ?_)
      refine W.eq (g2 := F0 m 140 ls [.int v137]) rfl ?_
      exact end_i K0 hr hlocks hE hZ dX6_fault_140
    · have hE := if_f hE hc
      refine lv_iconst (v := (-1)) hx hb dX6_fault_111 (by decide +kernel) ?_
      exact end_i K0 hr hlocks hE hZ dX6_fault_112
  have j69 : ∀ (u1 : Int32) (u2 : Int32) (z0 : Int32) (S : St) (H : Heap) (locs : List Loc) (cells slots : Nat) (ls : Array Slot), (f_X6_fault_J69 u1 u2 z0).1 S = some E0 → ZZ D 14 (adrM w) (celM w) A S0 s.heap S H locs cells slots → lv_has ls 4 [(0, .ref (w.2.2 0)), (1, .int u1), (2, .int u2)] → W p l e R s m args below meth c H locs cells slots (MQ below (QE E0 vI (PMo D w A) A) args s (gN E0.2 7 0 - gN S0 7 0) (gN E0.2 3 0 - gN S0 3 0) A) (F0 m 69 ls [.int z0]) := by
    intro u1 u2 z0 S H locs cells slots ls hE hZ hl
    unfold f_X6_fault_J69 at hE
    refine lv_istore_n (i := 3) (lv' := [(3, .int z0), (0, .ref (w.2.2 0)), (1, .int u1), (2, .int u2)]) hx hb dX6_fault_69 rfl hl (by decide) rfl (fun ls hl => ?_)
    refine lv_aload_n hx hb dX6_fault_70 rfl (lv_at hl 1 rfl) ?_
    refine lv_iload_n hx hb dX6_fault_71 rfl (lv_at hl 0 rfl) ?_
    refine lv_if_ne (tgt := 79) hx hb dX6_fault_72 (by decide) (fun hc => ?_) (fun hc => ?_)
    · have hE := if_f hE hc
      refine lv_aload_n hx hb dX6_fault_79 rfl (lv_at hl 1 rfl) ?_
      refine mg_12 K0 hK (nW := 14) (by omega) hZ q1082 dX6_fault_80 ?_
      refine lv_bipush (v := (112)) hx hb dX6_fault_83 (by decide +kernel) ?_
      refine lv_iload_n hx hb dX6_fault_85 rfl (lv_at hl 2 rfl) ?_
      refine lv_iadd hx hb dX6_fault_86 ?_
      refine ma_20 K0 hK hE (nW := 14) (by omega) hZ dX6_fault_87 (fun v87 hE => ?_)
      refine lv_iload_n hx hb dX6_fault_88 rfl (lv_at hl 3 rfl) ?_
      refine lv_ishr hx hb dX6_fault_89 ?_
      refine lv_iconst (v := (1)) hx hb dX6_fault_90 (by decide +kernel) ?_
      refine lv_iand hx hb dX6_fault_91 ?_
      refine lv_iconst (v := (1)) hx hb dX6_fault_92 (by decide +kernel) ?_
      refine lv_icmp_ne (tgt := 100) hx hb dX6_fault_93 (by decide) (fun hc => ?_) (fun hc => ?_)
      · have hE := if_f hE hc
        refine lv_iconst (v := (0)) hx hb dX6_fault_100 (by decide +kernel) ?_
        exact j101 u1 u2 (0 : Int32) _ _ _ _ _ _ hE hZ (lv_sub hl [1, 2, 3] rfl)
      · have hE := if_t hE hc
        refine lv_iconst (v := (3)) hx hb dX6_fault_96 (by decide +kernel) ?_
        refine lv_goto (tgt := 101) hx hb dX6_fault_97 (by decide) ?_
        exact j101 u1 u2 (3 : Int32) _ _ _ _ _ _ hE hZ (lv_sub hl [1, 2, 3] rfl)
    · have hE := if_t hE hc
      refine lv_iconst (v := (2)) hx hb dX6_fault_75 (by decide +kernel) ?_
      refine lv_goto (tgt := 101) hx hb dX6_fault_76 (by decide) ?_
      exact j101 u1 u2 (2 : Int32) _ _ _ _ _ _ hE hZ (lv_sub hl [1, 2, 3] rfl)
  have j68 : ∀ (u1 : Int32) (u2 : Int32) (S : St) (H : Heap) (locs : List Loc) (cells slots : Nat) (ls : Array Slot), (f_X6_fault_J68 u1 u2).1 S = some E0 → ZZ D 14 (adrM w) (celM w) A S0 s.heap S H locs cells slots → lv_has ls 4 [(0, .ref (w.2.2 0)), (1, .int u1), (2, .int u2)] → W p l e R s m args below meth c H locs cells slots (MQ below (QE E0 vI (PMo D w A) A) args s (gN E0.2 7 0 - gN S0 7 0) (gN E0.2 3 0 - gN S0 3 0) A) (F0 m 68 ls []) := by
    intro u1 u2 S H locs cells slots ls hE hZ hl
    unfold f_X6_fault_J68 at hE
    refine lv_iconst (v := (0)) hx hb dX6_fault_68 (by decide +kernel) ?_
    exact j69 u1 u2 (0 : Int32) _ _ _ _ _ _ hE hZ (lv_sub hl [0, 1, 2] rfl)
  unfold f_X6_fault at hE
  refine lv_aload_n hx hb dX6_fault_0 rfl (lv_at hl 0 rfl) ?_
  refine lv_iload_n hx hb dX6_fault_1 rfl (lv_at hl 1 rfl) ?_
  refine call_VS (rest := []) K0 hok hEV hA (c_X6_isCar l D w A a1) q1169 q1171 q23 q46 q1172 yd_X6_isCar ⟨by omega, by omega⟩ hRc (rc_MO hK (nW := 14) (by omega) hZ) hE hZ hl.1 rfl (Nat.le_of_ble_eq_true rfl) dX6_fault_2 (fun v2 S H locs cells slots hE hZ => ?_)
  refine W.eq (g2 := F0 m 5 ls [.int v2]) rfl ?_
  refine lv_if_eq (tgt := 16) hx hb dX6_fault_5 (by decide) (fun hc => ?_) (fun hc => ?_)
  · have hE := if_t hE hc
    exact j16  _ _ _ _ _ _ hE hZ (lv_sub hl [0] rfl)
  · have hE := if_f hE hc
    refine lv_aload_n hx hb dX6_fault_8 rfl (lv_at hl 0 rfl) ?_
    refine lv_iload_n hx hb dX6_fault_9 rfl (lv_at hl 2 rfl) ?_
    refine call_VS (rest := []) K0 hok hEV hA (c_X6_isStation l D w A a2) q1181 q1183 q25 q46 q1184 yd_X6_isStation ⟨by omega, by omega⟩ hRc (rc_MO hK (nW := 14) (by omega) hZ) hE hZ hl.1 rfl (Nat.le_of_ble_eq_true rfl) dX6_fault_10 (fun v10 S H locs cells slots hE hZ => ?_)
    refine W.eq (g2 := F0 m 13 ls [.int v10]) rfl ?_
    refine lv_if_ne (tgt := 23) hx hb dX6_fault_13 (by decide) (fun hc => ?_) (fun hc => ?_)
    · have hE := if_f hE hc
      refine lv_aload_n hx hb dX6_fault_23 rfl (lv_at hl 0 rfl) ?_
      refine mg_10 K0 hK (nW := 14) (by omega) hZ q1080 dX6_fault_24 ?_
      refine lv_iload_n hx hb dX6_fault_27 rfl (lv_at hl 1 rfl) ?_
      refine ma_19 K0 hK hE (nW := 14) (by omega) hZ dX6_fault_28 (fun v28 hE => ?_)
      refine lv_iload_n hx hb dX6_fault_29 rfl (lv_at hl 2 rfl) ?_
      refine lv_ishr hx hb dX6_fault_30 ?_
      refine lv_iconst (v := (1)) hx hb dX6_fault_31 (by decide +kernel) ?_
      refine lv_iand hx hb dX6_fault_32 ?_
      refine lv_iconst (v := (1)) hx hb dX6_fault_33 (by decide +kernel) ?_
      refine lv_icmp_ne (tgt := 68) hx hb dX6_fault_34 (by decide) (fun hc => ?_) (fun hc => ?_)
      · have hE := if_f hE hc
        exact j68 a1 a2 _ _ _ _ _ _ hE hZ (lv_sub hl [0, 1, 2] rfl)
      · have hE := if_t hE hc
        refine lv_aload_n hx hb dX6_fault_37 rfl (lv_at hl 0 rfl) ?_
        refine mg_12 K0 hK (nW := 14) (by omega) hZ q1082 dX6_fault_38 ?_
        refine lv_bipush (v := (14)) hx hb dX6_fault_41 (by decide +kernel) ?_
        refine lv_iload_n hx hb dX6_fault_43 rfl (lv_at hl 2 rfl) ?_
        refine lv_iadd hx hb dX6_fault_44 ?_
        refine ma_20 K0 hK hE (nW := 14) (by omega) hZ dX6_fault_45 (fun v45 hE => ?_)
        refine lv_iload_n hx hb dX6_fault_46 rfl (lv_at hl 1 rfl) ?_
        refine lv_icmp_eq (tgt := 68) hx hb dX6_fault_47 (by decide) (fun hc => ?_) (fun hc => ?_)
        · have hE := if_t hE hc
          exact j68 a1 a2 _ _ _ _ _ _ hE hZ (lv_sub hl [0, 1, 2] rfl)
        · have hE := if_f hE hc
          refine lv_aload_n hx hb dX6_fault_50 rfl (lv_at hl 0 rfl) ?_
          refine mg_12 K0 hK (nW := 14) (by omega) hZ q1082 dX6_fault_51 ?_
          refine lv_bipush (v := (82)) hx hb dX6_fault_54 (by decide +kernel) ?_
          refine lv_iload_n hx hb dX6_fault_56 rfl (lv_at hl 1 rfl) ?_
          refine lv_iadd hx hb dX6_fault_57 ?_
          refine ma_20 K0 hK hE (nW := 14) (by omega) hZ dX6_fault_58 (fun v58 hE => ?_)
          refine lv_bipush (v := (100)) hx hb dX6_fault_59 (by decide +kernel) ?_
          refine lv_icmp_eq (tgt := 68) hx hb dX6_fault_61 (by decide) (fun hc => ?_) (fun hc => ?_)
          · have hE := if_t hE hc
            exact j68 a1 a2 _ _ _ _ _ _ hE hZ (lv_sub hl [0, 1, 2] rfl)
          · have hE := if_f hE hc
            refine lv_iconst (v := (1)) hx hb dX6_fault_64 (by decide +kernel) ?_
            refine lv_goto (tgt := 69) hx hb dX6_fault_65 (by decide) ?_
            exact j69 a1 a2 (1 : Int32) _ _ _ _ _ _ hE hZ (lv_sub hl [0, 1, 2] rfl)
    · have hE := if_t hE hc
      exact j16  _ _ _ _ _ _ hE hZ (lv_sub hl [0] rfl)
def f_X6_tick_L68 : Nat → Int32 → Int32 → Int32 → PM Int32
  | 0, _, _, _ => fail
  | n9 + 1, u1, u2, u3 => if u1 ≤ u3 then (bnd (mld 20 237 (235 : Int32)) (fun v90 => rtn (v90 - u2))) else (bnd (f_X6_ticks ) (fun _ => f_X6_tick_L68 n9 u1 u2 (u3 + (1 : Int32))))
def f_X6_tick_J45 (u1 : Int32) (z0 : Int32) : PM Int32 := bnd (wrI 5 0 0 z0) (fun _ => bnd (rdI 5 0 0) (fun v49 => if v49 ≤ 0 then (bnd (mld 20 237 (235 : Int32)) (fun v64 => f_X6_tick_L68 400 u1 v64 (0 : Int32))) else (rtn (-1 : Int32))))
def f_X6_tick_J40 (u1 : Int32) : PM Int32 := f_X6_tick_J45 u1 (2 : Int32)
def f_X6_tick (a1 : Int32) : PM Int32 := bnd (f_X6_in (a1.toInt64) (1 : Int64) (60 : Int64)) (fun v7 => if v7 = 0 then (f_X6_tick_J45 a1 (1 : Int32)) else (bnd (rdI 0 0 0) (fun v18 => if v18 = 0 then (f_X6_tick_J40 a1) else (bnd (mld 20 237 (232 : Int32)) (fun v31 => if (v31 + a1) ≤ (9999 : Int32) then (f_X6_tick_J45 a1 (0 : Int32)) else (f_X6_tick_J40 a1))))))
theorem yd_X6_tick : yX6_tick.cls = RX6 ∧ yX6_tick.cls ≠ "java/lang/invoke/MethodHandle" ∧ yX6_tick.cls ≠ "java/lang/invoke/VarHandle" ∧ (parseMethodDescriptor yX6_tick.desc).map (fun d => d.parameters.length) = some 1 := by decide +kernel
set_option maxHeartbeats 4000000 in
set_option maxRecDepth 100000 in
theorem c_X6_tick (l : Launch) (D : va_G) (w : Wm) (A : Nat → Prop) (a1 : Int32) : CT l yX6_tick cX6_tick 4 (some .int) 4 99 (PMo D w A) (ENVM D w) A [.ref (w.2.2 0), .int a1] (f_X6_tick a1) vI := by
  refine CT.ofW (by decide) [(0, .ref (w.2.2 0)), (1, .int a1)] (by simp [lv_args, vr_cat, vc_i, vc_j, vc_f, vc_d, vc_r, vc_n]) (by simp [lg_sl, vr_cat, vc_i, vc_j, vc_f, vc_d, vc_r, vc_n]) ?_
  intro S0 E0 R p e s m args below meth c ls hE hRf hRl hRc K0 hr hlocks hEV hA hZ hl
  have K0 : CallFix p m c cX6_tick 4 s args GW RX6 := K0
  have hx := K0.1
  have hb := K0.2.1
  have hown := K0.2.2.2.1
  have hg := K0.2.2.2.2
  have hK := hEV
  have hok : EVok (ENVM D w) A := ENVM.ok
  have j68 : ∀ (n9 : Nat) (u1 : Int32) (u2 : Int32) (u3 : Int32) (S : St) (H : Heap) (locs : List Loc) (cells slots : Nat) (ls : Array Slot), (f_X6_tick_L68 n9 u1 u2 u3).1 S = some E0 → ZZ D 14 (adrM w) (celM w) A S0 s.heap S H locs cells slots → lv_has ls 4 [(0, .ref (w.2.2 0)), (1, .int u1), (2, .int u2), (3, .int u3)] → W p l e R s m args below meth c H locs cells slots (MQ below (QE E0 vI (PMo D w A) A) args s (gN E0.2 7 0 - gN S0 7 0) (gN E0.2 3 0 - gN S0 3 0) A) (F0 m 68 ls []) := by
    intro n9
    induction n9 with
    | zero =>
      intro u1 u2 u3 S H locs cells slots ls hE hZ hl
      rw [f_X6_tick_L68] at hE
      cases hE
    | succ n9 ih =>
      intro u1 u2 u3 S H locs cells slots ls hE hZ hl
      rw [f_X6_tick_L68] at hE
      refine lv_iload_n hx hb dX6_tick_68 rfl (lv_at hl 3 rfl) ?_
      refine lv_iload_n hx hb dX6_tick_69 rfl (lv_at hl 1 rfl) ?_
      refine lv_icmp_ge (tgt := 83) hx hb dX6_tick_70 (by decide) (fun hc => ?_) (fun hc => ?_)
      · have hE := if_t hE hc
        refine lv_aload_n hx hb dX6_tick_83 rfl (lv_at hl 0 rfl) ?_
        refine mg_12 K0 hK (nW := 14) (by omega) hZ q1082 dX6_tick_84 ?_
        refine lv_sipush (v := (235)) hx hb dX6_tick_87 (by decide +kernel) ?_
        refine ma_20 K0 hK hE (nW := 14) (by omega) hZ dX6_tick_90 (fun v90 hE => ?_)
        refine lv_iload_n hx hb dX6_tick_91 rfl (lv_at hl 2 rfl) ?_
        refine lv_isub hx hb dX6_tick_92 ?_
        exact end_i K0 hr hlocks hE hZ dX6_tick_93
      · have hE := if_f hE hc
        refine lv_aload_n hx hb dX6_tick_73 rfl (lv_at hl 0 rfl) ?_
        refine call_VS (rest := []) K0 hok hEV hA (c_X6_ticks l D w A ) q1192 q1194 q26 q46 q1195 yd_X6_ticks ⟨by omega, by omega⟩ hRc (rc_MO hK (nW := 14) (by omega) hZ) hE hZ hl.1 rfl (Nat.le_of_ble_eq_true rfl) dX6_tick_74 (fun v74 S H locs cells slots hE hZ => ?_)
        refine W.eq (g2 := F0 m 77 ls []) rfl ?_
        refine lv_iinc (v := (u3 + (1 : Int32))) (lv' := [(3, .int (u3 + (1 : Int32))), (0, .ref (w.2.2 0)), (1, .int u1), (2, .int u2)]) hx hb dX6_tick_77 hl (k := 3) rfl rfl (by decide) rfl (fun ls hl => ?_)
        refine lv_goto (tgt := 68) hx hb dX6_tick_80 (by decide) ?_
        exact ih u1 u2 (u3 + (1 : Int32)) _ _ _ _ _ _ hE hZ (lv_sub hl [1, 2, 3, 0] rfl)
  have j45 : ∀ (u1 : Int32) (z0 : Int32) (S : St) (H : Heap) (locs : List Loc) (cells slots : Nat) (ls : Array Slot), (f_X6_tick_J45 u1 z0).1 S = some E0 → ZZ D 14 (adrM w) (celM w) A S0 s.heap S H locs cells slots → lv_has ls 4 [(0, .ref (w.2.2 0)), (1, .int u1)] → W p l e R s m args below meth c H locs cells slots (MQ below (QE E0 vI (PMo D w A) A) args s (gN E0.2 7 0 - gN S0 7 0) (gN E0.2 3 0 - gN S0 3 0) A) (F0 m 45 ls [.int z0, .ref (w.2.2 0)]) := by
    intro u1 z0 S H locs cells slots ls hE hZ hl
    unfold f_X6_tick_J45 at hE
    refine mp_19 K0 hK hE (nW := 14) (by omega) hZ q1089 dX6_tick_45 (fun S H locs hE hZ => ?_)
    refine lv_aload_n hx hb dX6_tick_48 rfl (lv_at hl 0 rfl) ?_
    refine mg_19 K0 hK hE (nW := 14) (by omega) hZ q1089 dX6_tick_49 (fun v49 hE => ?_)
    refine lv_if_le (tgt := 57) hx hb dX6_tick_52 (by decide) (fun hc => ?_) (fun hc => ?_)
    · have hE := if_t hE hc
      refine lv_aload_n hx hb dX6_tick_57 rfl (lv_at hl 0 rfl) ?_
      refine mg_12 K0 hK (nW := 14) (by omega) hZ q1082 dX6_tick_58 ?_
      refine lv_sipush (v := (235)) hx hb dX6_tick_61 (by decide +kernel) ?_
      refine ma_20 K0 hK hE (nW := 14) (by omega) hZ dX6_tick_64 (fun v64 hE => ?_)
      refine lv_istore_n (i := 2) (lv' := [(2, .int v64), (0, .ref (w.2.2 0)), (1, .int u1)]) hx hb dX6_tick_65 rfl hl (by decide) rfl (fun ls hl => ?_)
      refine lv_iconst (v := (0)) hx hb dX6_tick_66 (by decide +kernel) ?_
      refine lv_istore_n (i := 3) (lv' := [(3, .int (0 : Int32)), (2, .int v64), (0, .ref (w.2.2 0)), (1, .int u1)]) hx hb dX6_tick_67 rfl hl (by decide) rfl (fun ls hl => ?_)
      exact j68 400 u1 v64 (0 : Int32) _ _ _ _ _ _ hE hZ (lv_sub hl [2, 3, 1, 0] rfl)
    · have hE := if_f hE hc
      refine lv_iconst (v := (-1)) hx hb dX6_tick_55 (by decide +kernel) ?_
      exact end_i K0 hr hlocks hE hZ dX6_tick_56
  have j40 : ∀ (u1 : Int32) (S : St) (H : Heap) (locs : List Loc) (cells slots : Nat) (ls : Array Slot), (f_X6_tick_J40 u1).1 S = some E0 → ZZ D 14 (adrM w) (celM w) A S0 s.heap S H locs cells slots → lv_has ls 4 [(0, .ref (w.2.2 0)), (1, .int u1)] → W p l e R s m args below meth c H locs cells slots (MQ below (QE E0 vI (PMo D w A) A) args s (gN E0.2 7 0 - gN S0 7 0) (gN E0.2 3 0 - gN S0 3 0) A) (F0 m 40 ls [.ref (w.2.2 0)]) := by
    intro u1 S H locs cells slots ls hE hZ hl
    unfold f_X6_tick_J40 at hE
    refine lv_iconst (v := (2)) hx hb dX6_tick_40 (by decide +kernel) ?_
    refine lv_goto (tgt := 45) hx hb dX6_tick_41 (by decide) ?_
    exact j45 u1 (2 : Int32) _ _ _ _ _ _ hE hZ (lv_sub hl [0, 1] rfl)
  unfold f_X6_tick at hE
  refine lv_aload_n hx hb dX6_tick_0 rfl (lv_at hl 0 rfl) ?_
  refine lv_iload_n hx hb dX6_tick_1 rfl (lv_at hl 1 rfl) ?_
  refine lv_i2l hx hb dX6_tick_2 rfl ?_
  refine lv_lconst (v := (1)) hx hb dX6_tick_3 (by decide +kernel) ?_
  refine lv_ldc2 (v := (60)) hx hb hown (hg _ q1159) dX6_tick_4 ?_
  refine call_S (rest := [.ref (w.2.2 0)]) K0 hok hEV hA (c_X6_in l D w A (a1.toInt64) (1 : Int64) (60 : Int64)) q1140 q1141 q46 q1142 yd_X6_in ⟨by omega, by omega⟩ hRc hE hZ hl.1 rfl (Nat.le_of_ble_eq_true rfl) dX6_tick_7 (fun v7 S H locs cells slots hE hZ => ?_)
  refine W.eq (g2 := F0 m 10 ls [.int v7, .ref (w.2.2 0)]) rfl ?_
  refine lv_if_ne (tgt := 17) hx hb dX6_tick_10 (by decide) (fun hc => ?_) (fun hc => ?_)
  · have hE := if_f hE hc
    refine lv_aload_n hx hb dX6_tick_17 rfl (lv_at hl 0 rfl) ?_
    refine mg_5 K0 hK hE (nW := 14) (by omega) hZ q1075 dX6_tick_18 (fun v18 hE => ?_)
    refine lv_if_eq (tgt := 40) hx hb dX6_tick_21 (by decide) (fun hc => ?_) (fun hc => ?_)
    · have hE := if_t hE hc
      exact j40 a1 _ _ _ _ _ _ hE hZ (lv_sub hl [0, 1] rfl)
    · have hE := if_f hE hc
      refine lv_aload_n hx hb dX6_tick_24 rfl (lv_at hl 0 rfl) ?_
      refine mg_12 K0 hK (nW := 14) (by omega) hZ q1082 dX6_tick_25 ?_
      refine lv_sipush (v := (232)) hx hb dX6_tick_28 (by decide +kernel) ?_
      refine ma_20 K0 hK hE (nW := 14) (by omega) hZ dX6_tick_31 (fun v31 hE => ?_)
      refine lv_iload_n hx hb dX6_tick_32 rfl (lv_at hl 1 rfl) ?_
      refine lv_iadd hx hb dX6_tick_33 ?_
      refine lv_sipush (v := (9999)) hx hb dX6_tick_34 (by decide +kernel) ?_
      refine lv_icmp_le (tgt := 44) hx hb dX6_tick_37 (by decide) (fun hc => ?_) (fun hc => ?_)
      · have hE := if_t hE hc
        refine lv_iconst (v := (0)) hx hb dX6_tick_44 (by decide +kernel) ?_
        exact j45 a1 (0 : Int32) _ _ _ _ _ _ hE hZ (lv_sub hl [0, 1] rfl)
      · have hE := if_f hE hc
        exact j40 a1 _ _ _ _ _ _ hE hZ (lv_sub hl [0, 1] rfl)
  · have hE := if_t hE hc
    refine lv_iconst (v := (1)) hx hb dX6_tick_13 (by decide +kernel) ?_
    refine lv_goto (tgt := 45) hx hb dX6_tick_14 (by decide) ?_
    exact j45 a1 (1 : Int32) _ _ _ _ _ _ hE hZ (lv_sub hl [0, 1] rfl)
def f_X6_now  : PM Int32 := bnd (wrI 5 0 0 (0 : Int32)) (fun _ => bnd (mld 20 237 (232 : Int32)) (fun v12 => rtn v12))
theorem yd_X6_now : yX6_now.cls = RX6 ∧ yX6_now.cls ≠ "java/lang/invoke/MethodHandle" ∧ yX6_now.cls ≠ "java/lang/invoke/VarHandle" ∧ (parseMethodDescriptor yX6_now.desc).map (fun d => d.parameters.length) = some 0 := by decide +kernel
set_option maxHeartbeats 4000000 in
set_option maxRecDepth 100000 in
theorem c_X6_now (l : Launch) (D : va_G) (w : Wm) (A : Nat → Prop) : CT l yX6_now cX6_now 1 (some .int) 0 0 (PMo D w A) (ENVM D w) A [.ref (w.2.2 0)] (f_X6_now ) vI := by
  refine CT.ofW (by decide) [(0, .ref (w.2.2 0))] (by simp [lv_args, vr_cat, vc_i, vc_j, vc_f, vc_d, vc_r, vc_n]) (by simp [lg_sl, vr_cat, vc_i, vc_j, vc_f, vc_d, vc_r, vc_n]) ?_
  intro S0 E0 R p e s m args below meth c ls hE hRf hRl hRc K0 hr hlocks hEV hA hZ hl
  have K0 : CallFix p m c cX6_now 1 s args GW RX6 := K0
  have hx := K0.1
  have hb := K0.2.1
  have hown := K0.2.2.2.1
  have hg := K0.2.2.2.2
  have hK := hEV
  have hok : EVok (ENVM D w) A := ENVM.ok
  unfold f_X6_now at hE
  refine lv_aload_n hx hb dX6_now_0 rfl (lv_at hl 0 rfl) ?_
  refine lv_iconst (v := (0)) hx hb dX6_now_1 (by decide +kernel) ?_
  refine mp_19 K0 hK hE (nW := 14) (by omega) hZ q1089 dX6_now_2 (fun S H locs hE hZ => ?_)
  refine lv_aload_n hx hb dX6_now_5 rfl (lv_at hl 0 rfl) ?_
  refine mg_12 K0 hK (nW := 14) (by omega) hZ q1082 dX6_now_6 ?_
  refine lv_sipush (v := (232)) hx hb dX6_now_9 (by decide +kernel) ?_
  refine ma_20 K0 hK hE (nW := 14) (by omega) hZ dX6_now_12 (fun v12 hE => ?_)
  exact end_i K0 hr hlocks hE hZ dX6_now_13
def f_X6_stations  : PM Int32 := bnd (wrI 5 0 0 (0 : Int32)) (fun _ => bnd (rdI 0 0 0) (fun v6 => rtn v6))
theorem yd_X6_stations : yX6_stations.cls = RX6 ∧ yX6_stations.cls ≠ "java/lang/invoke/MethodHandle" ∧ yX6_stations.cls ≠ "java/lang/invoke/VarHandle" ∧ (parseMethodDescriptor yX6_stations.desc).map (fun d => d.parameters.length) = some 0 := by decide +kernel
set_option maxHeartbeats 4000000 in
set_option maxRecDepth 100000 in
theorem c_X6_stations (l : Launch) (D : va_G) (w : Wm) (A : Nat → Prop) : CT l yX6_stations cX6_stations 1 (some .int) 0 0 (PMo D w A) (ENVM D w) A [.ref (w.2.2 0)] (f_X6_stations ) vI := by
  refine CT.ofW (by decide) [(0, .ref (w.2.2 0))] (by simp [lv_args, vr_cat, vc_i, vc_j, vc_f, vc_d, vc_r, vc_n]) (by simp [lg_sl, vr_cat, vc_i, vc_j, vc_f, vc_d, vc_r, vc_n]) ?_
  intro S0 E0 R p e s m args below meth c ls hE hRf hRl hRc K0 hr hlocks hEV hA hZ hl
  have K0 : CallFix p m c cX6_stations 1 s args GW RX6 := K0
  have hx := K0.1
  have hb := K0.2.1
  have hown := K0.2.2.2.1
  have hg := K0.2.2.2.2
  have hK := hEV
  have hok : EVok (ENVM D w) A := ENVM.ok
  unfold f_X6_stations at hE
  refine lv_aload_n hx hb dX6_stations_0 rfl (lv_at hl 0 rfl) ?_
  refine lv_iconst (v := (0)) hx hb dX6_stations_1 (by decide +kernel) ?_
  refine mp_19 K0 hK hE (nW := 14) (by omega) hZ q1089 dX6_stations_2 (fun S H locs hE hZ => ?_)
  refine lv_aload_n hx hb dX6_stations_5 rfl (lv_at hl 0 rfl) ?_
  refine mg_5 K0 hK hE (nW := 14) (by omega) hZ q1075 dX6_stations_6 (fun v6 hE => ?_)
  exact end_i K0 hr hlocks hE hZ dX6_stations_9
def f_X6_cars  : PM Int32 := bnd (wrI 5 0 0 (0 : Int32)) (fun _ => bnd (rdI 2 0 0) (fun v6 => rtn v6))
theorem yd_X6_cars : yX6_cars.cls = RX6 ∧ yX6_cars.cls ≠ "java/lang/invoke/MethodHandle" ∧ yX6_cars.cls ≠ "java/lang/invoke/VarHandle" ∧ (parseMethodDescriptor yX6_cars.desc).map (fun d => d.parameters.length) = some 0 := by decide +kernel
set_option maxHeartbeats 4000000 in
set_option maxRecDepth 100000 in
theorem c_X6_cars (l : Launch) (D : va_G) (w : Wm) (A : Nat → Prop) : CT l yX6_cars cX6_cars 1 (some .int) 0 0 (PMo D w A) (ENVM D w) A [.ref (w.2.2 0)] (f_X6_cars ) vI := by
  refine CT.ofW (by decide) [(0, .ref (w.2.2 0))] (by simp [lv_args, vr_cat, vc_i, vc_j, vc_f, vc_d, vc_r, vc_n]) (by simp [lg_sl, vr_cat, vc_i, vc_j, vc_f, vc_d, vc_r, vc_n]) ?_
  intro S0 E0 R p e s m args below meth c ls hE hRf hRl hRc K0 hr hlocks hEV hA hZ hl
  have K0 : CallFix p m c cX6_cars 1 s args GW RX6 := K0
  have hx := K0.1
  have hb := K0.2.1
  have hown := K0.2.2.2.1
  have hg := K0.2.2.2.2
  have hK := hEV
  have hok : EVok (ENVM D w) A := ENVM.ok
  unfold f_X6_cars at hE
  refine lv_aload_n hx hb dX6_cars_0 rfl (lv_at hl 0 rfl) ?_
  refine lv_iconst (v := (0)) hx hb dX6_cars_1 (by decide +kernel) ?_
  refine mp_19 K0 hK hE (nW := 14) (by omega) hZ q1089 dX6_cars_2 (fun S H locs hE hZ => ?_)
  refine lv_aload_n hx hb dX6_cars_5 rfl (lv_at hl 0 rfl) ?_
  refine mg_11 K0 hK hE (nW := 14) (by omega) hZ q1081 dX6_cars_6 (fun v6 hE => ?_)
  exact end_i K0 hr hlocks hE hZ dX6_cars_9
def f_X6_stateOf (a1 : Int32) : PM Int32 := bnd (f_X6_isAsked a1) (fun v2 => if v2 = 0 then (rtnC (32 : Int32)) else (bnd (mld 20 237 ((82 : Int32) + a1)) (fun v16 => rtnC ((v16.toUInt32 % 65536).toInt32))))
theorem yd_X6_stateOf : yX6_stateOf.cls = RX6 ∧ yX6_stateOf.cls ≠ "java/lang/invoke/MethodHandle" ∧ yX6_stateOf.cls ≠ "java/lang/invoke/VarHandle" ∧ (parseMethodDescriptor yX6_stateOf.desc).map (fun d => d.parameters.length) = some 1 := by decide +kernel
set_option maxHeartbeats 4000000 in
set_option maxRecDepth 100000 in
theorem c_X6_stateOf (l : Launch) (D : va_G) (w : Wm) (A : Nat → Prop) (a1 : Int32) : CT l yX6_stateOf cX6_stateOf 2 (some .char) 3 67 (PMo D w A) (ENVM D w) A [.ref (w.2.2 0), .int a1] (f_X6_stateOf a1) vI := by
  refine CT.ofW (by decide) [(0, .ref (w.2.2 0)), (1, .int a1)] (by simp [lv_args, vr_cat, vc_i, vc_j, vc_f, vc_d, vc_r, vc_n]) (by simp [lg_sl, vr_cat, vc_i, vc_j, vc_f, vc_d, vc_r, vc_n]) ?_
  intro S0 E0 R p e s m args below meth c ls hE hRf hRl hRc K0 hr hlocks hEV hA hZ hl
  have K0 : CallFix p m c cX6_stateOf 2 s args GW RX6 := K0
  have hx := K0.1
  have hb := K0.2.1
  have hown := K0.2.2.2.1
  have hg := K0.2.2.2.2
  have hK := hEV
  have hok : EVok (ENVM D w) A := ENVM.ok
  unfold f_X6_stateOf at hE
  refine lv_aload_n hx hb dX6_stateOf_0 rfl (lv_at hl 0 rfl) ?_
  refine lv_iload_n hx hb dX6_stateOf_1 rfl (lv_at hl 1 rfl) ?_
  refine call_VS (rest := []) K0 hok hEV hA (c_X6_isAsked l D w A a1) q1239 q1241 q33 q46 q1242 yd_X6_isAsked ⟨by omega, by omega⟩ hRc (rc_MO hK (nW := 14) (by omega) hZ) hE hZ hl.1 rfl (Nat.le_of_ble_eq_true rfl) dX6_stateOf_2 (fun v2 S H locs cells slots hE hZ => ?_)
  refine W.eq (g2 := F0 m 5 ls [.int v2]) rfl ?_
  refine lv_if_eq (tgt := 21) hx hb dX6_stateOf_5 (by decide) (fun hc => ?_) (fun hc => ?_)
  · have hE := if_t hE hc
    refine lv_bipush (v := (32)) hx hb dX6_stateOf_21 (by decide +kernel) ?_
    exact end_c K0 hr hlocks hE hZ dX6_stateOf_23
  · have hE := if_f hE hc
    refine lv_aload_n hx hb dX6_stateOf_8 rfl (lv_at hl 0 rfl) ?_
    refine mg_12 K0 hK (nW := 14) (by omega) hZ q1082 dX6_stateOf_9 ?_
    refine lv_bipush (v := (82)) hx hb dX6_stateOf_12 (by decide +kernel) ?_
    refine lv_iload_n hx hb dX6_stateOf_14 rfl (lv_at hl 1 rfl) ?_
    refine lv_iadd hx hb dX6_stateOf_15 ?_
    refine ma_20 K0 hK hE (nW := 14) (by omega) hZ dX6_stateOf_16 (fun v16 hE => ?_)
    refine lv_i2c hx hb dX6_stateOf_17 rfl ?_
    refine lv_goto (tgt := 23) hx hb dX6_stateOf_18 (by decide) ?_
    exact end_c K0 hr hlocks hE hZ dX6_stateOf_23
def f_X6_stationOf_J27 (u1 : Int32) (z0 : Int32) : PM Int32 := bnd (wrI 5 0 0 z0) (fun _ => bnd (rdI 5 0 0) (fun v31 => if v31 = 0 then (bnd (f_X6_standsAt u1) (fun v39 => rtn v39)) else (rtn (-1 : Int32))))
def f_X6_stationOf (a1 : Int32) : PM Int32 := bnd (f_X6_isCar a1) (fun v3 => if v3 = 0 then (f_X6_stationOf_J27 a1 (1 : Int32)) else (bnd (f_X6_standsAt a1) (fun v15 => if v15 = (-1 : Int32) then (f_X6_stationOf_J27 a1 (2 : Int32)) else (f_X6_stationOf_J27 a1 (0 : Int32)))))
theorem yd_X6_stationOf : yX6_stationOf.cls = RX6 ∧ yX6_stationOf.cls ≠ "java/lang/invoke/MethodHandle" ∧ yX6_stationOf.cls ≠ "java/lang/invoke/VarHandle" ∧ (parseMethodDescriptor yX6_stationOf.desc).map (fun d => d.parameters.length) = some 1 := by decide +kernel
set_option maxHeartbeats 4000000 in
set_option maxRecDepth 100000 in
theorem c_X6_stationOf (l : Launch) (D : va_G) (w : Wm) (A : Nat → Prop) (a1 : Int32) : CT l yX6_stationOf cX6_stationOf 2 (some .int) 2 46 (PMo D w A) (ENVM D w) A [.ref (w.2.2 0), .int a1] (f_X6_stationOf a1) vI := by
  refine CT.ofW (by decide) [(0, .ref (w.2.2 0)), (1, .int a1)] (by simp [lv_args, vr_cat, vc_i, vc_j, vc_f, vc_d, vc_r, vc_n]) (by simp [lg_sl, vr_cat, vc_i, vc_j, vc_f, vc_d, vc_r, vc_n]) ?_
  intro S0 E0 R p e s m args below meth c ls hE hRf hRl hRc K0 hr hlocks hEV hA hZ hl
  have K0 : CallFix p m c cX6_stationOf 2 s args GW RX6 := K0
  have hx := K0.1
  have hb := K0.2.1
  have hown := K0.2.2.2.1
  have hg := K0.2.2.2.2
  have hK := hEV
  have hok : EVok (ENVM D w) A := ENVM.ok
  have j27 : ∀ (u1 : Int32) (z0 : Int32) (S : St) (H : Heap) (locs : List Loc) (cells slots : Nat) (ls : Array Slot), (f_X6_stationOf_J27 u1 z0).1 S = some E0 → ZZ D 14 (adrM w) (celM w) A S0 s.heap S H locs cells slots → lv_has ls 2 [(0, .ref (w.2.2 0)), (1, .int u1)] → W p l e R s m args below meth c H locs cells slots (MQ below (QE E0 vI (PMo D w A) A) args s (gN E0.2 7 0 - gN S0 7 0) (gN E0.2 3 0 - gN S0 3 0) A) (F0 m 27 ls [.int z0, .ref (w.2.2 0)]) := by
    intro u1 z0 S H locs cells slots ls hE hZ hl
    unfold f_X6_stationOf_J27 at hE
    refine mp_19 K0 hK hE (nW := 14) (by omega) hZ q1089 dX6_stationOf_27 (fun S H locs hE hZ => ?_)
    refine lv_aload_n hx hb dX6_stationOf_30 rfl (lv_at hl 0 rfl) ?_
    refine mg_19 K0 hK hE (nW := 14) (by omega) hZ q1089 dX6_stationOf_31 (fun v31 hE => ?_)
    refine lv_if_ne (tgt := 45) hx hb dX6_stationOf_34 (by decide) (fun hc => ?_) (fun hc => ?_)
    · have hE := if_f hE hc
      refine lv_iconst (v := (-1)) hx hb dX6_stationOf_45 (by decide +kernel) ?_
      exact end_i K0 hr hlocks hE hZ dX6_stationOf_46
    · have hE := if_t hE hc
      refine lv_aload_n hx hb dX6_stationOf_37 rfl (lv_at hl 0 rfl) ?_
      refine lv_iload_n hx hb dX6_stationOf_38 rfl (lv_at hl 1 rfl) ?_
      refine call_VS (rest := []) K0 hok hEV hA (c_X6_standsAt l D w A u1) q1247 q1249 q34 q46 q1250 yd_X6_standsAt ⟨by omega, by omega⟩ hRc (rc_MO hK (nW := 14) (by omega) hZ) hE hZ hl.1 rfl (Nat.le_of_ble_eq_true rfl) dX6_stationOf_39 (fun v39 S H locs cells slots hE hZ => ?_)
      refine W.eq (g2 := F0 m 42 ls [.int v39]) rfl ?_
      refine lv_goto (tgt := 46) hx hb dX6_stationOf_42 (by decide) ?_
      exact end_i K0 hr hlocks hE hZ dX6_stationOf_46
  unfold f_X6_stationOf at hE
  refine lv_aload_n hx hb dX6_stationOf_0 rfl (lv_at hl 0 rfl) ?_
  refine lv_aload_n hx hb dX6_stationOf_1 rfl (lv_at hl 0 rfl) ?_
  refine lv_iload_n hx hb dX6_stationOf_2 rfl (lv_at hl 1 rfl) ?_
  refine call_VS (rest := [.ref (w.2.2 0)]) K0 hok hEV hA (c_X6_isCar l D w A a1) q1169 q1171 q23 q46 q1172 yd_X6_isCar ⟨by omega, by omega⟩ hRc (rc_MO hK (nW := 14) (by omega) hZ) hE hZ hl.1 rfl (Nat.le_of_ble_eq_true rfl) dX6_stationOf_3 (fun v3 S H locs cells slots hE hZ => ?_)
  refine W.eq (g2 := F0 m 6 ls [.int v3, .ref (w.2.2 0)]) rfl ?_
  refine lv_if_ne (tgt := 13) hx hb dX6_stationOf_6 (by decide) (fun hc => ?_) (fun hc => ?_)
  · have hE := if_f hE hc
    refine lv_aload_n hx hb dX6_stationOf_13 rfl (lv_at hl 0 rfl) ?_
    refine lv_iload_n hx hb dX6_stationOf_14 rfl (lv_at hl 1 rfl) ?_
    refine call_VS (rest := [.ref (w.2.2 0)]) K0 hok hEV hA (c_X6_standsAt l D w A a1) q1247 q1249 q34 q46 q1250 yd_X6_standsAt ⟨by omega, by omega⟩ hRc (rc_MO hK (nW := 14) (by omega) hZ) hE hZ hl.1 rfl (Nat.le_of_ble_eq_true rfl) dX6_stationOf_15 (fun v15 S H locs cells slots hE hZ => ?_)
    refine W.eq (g2 := F0 m 18 ls [.int v15, .ref (w.2.2 0)]) rfl ?_
    refine lv_iconst (v := (-1)) hx hb dX6_stationOf_18 (by decide +kernel) ?_
    refine lv_icmp_ne (tgt := 26) hx hb dX6_stationOf_19 (by decide) (fun hc => ?_) (fun hc => ?_)
    · have hE := if_f hE hc
      refine lv_iconst (v := (0)) hx hb dX6_stationOf_26 (by decide +kernel) ?_
      exact j27 a1 (0 : Int32) _ _ _ _ _ _ hE hZ (lv_sub hl [0, 1] rfl)
    · have hE := if_t hE hc
      refine lv_iconst (v := (2)) hx hb dX6_stationOf_22 (by decide +kernel) ?_
      refine lv_goto (tgt := 27) hx hb dX6_stationOf_23 (by decide) ?_
      exact j27 a1 (2 : Int32) _ _ _ _ _ _ hE hZ (lv_sub hl [0, 1] rfl)
  · have hE := if_t hE hc
    refine lv_iconst (v := (1)) hx hb dX6_stationOf_9 (by decide +kernel) ?_
    refine lv_goto (tgt := 27) hx hb dX6_stationOf_10 (by decide) ?_
    exact j27 a1 (1 : Int32) _ _ _ _ _ _ hE hZ (lv_sub hl [0, 1] rfl)
def f_X6_toGo_J27 (u1 : Int32) (z0 : Int32) : PM Int32 := bnd (wrI 5 0 0 z0) (fun _ => bnd (rdI 5 0 0) (fun v31 => if v31 = 0 then (bnd (mld 20 237 ((22 : Int32) + u1)) (fun v45 => rtn v45)) else (rtn (-1 : Int32))))
def f_X6_toGo (a1 : Int32) : PM Int32 := bnd (f_X6_isCar a1) (fun v3 => if v3 = 0 then (f_X6_toGo_J27 a1 (1 : Int32)) else (bnd (f_X6_standsAt a1) (fun v15 => if v15 = (-1 : Int32) then (f_X6_toGo_J27 a1 (2 : Int32)) else (f_X6_toGo_J27 a1 (0 : Int32)))))
theorem yd_X6_toGo : yX6_toGo.cls = RX6 ∧ yX6_toGo.cls ≠ "java/lang/invoke/MethodHandle" ∧ yX6_toGo.cls ≠ "java/lang/invoke/VarHandle" ∧ (parseMethodDescriptor yX6_toGo.desc).map (fun d => d.parameters.length) = some 1 := by decide +kernel
set_option maxHeartbeats 4000000 in
set_option maxRecDepth 100000 in
theorem c_X6_toGo (l : Launch) (D : va_G) (w : Wm) (A : Nat → Prop) (a1 : Int32) : CT l yX6_toGo cX6_toGo 2 (some .int) 2 46 (PMo D w A) (ENVM D w) A [.ref (w.2.2 0), .int a1] (f_X6_toGo a1) vI := by
  refine CT.ofW (by decide) [(0, .ref (w.2.2 0)), (1, .int a1)] (by simp [lv_args, vr_cat, vc_i, vc_j, vc_f, vc_d, vc_r, vc_n]) (by simp [lg_sl, vr_cat, vc_i, vc_j, vc_f, vc_d, vc_r, vc_n]) ?_
  intro S0 E0 R p e s m args below meth c ls hE hRf hRl hRc K0 hr hlocks hEV hA hZ hl
  have K0 : CallFix p m c cX6_toGo 2 s args GW RX6 := K0
  have hx := K0.1
  have hb := K0.2.1
  have hown := K0.2.2.2.1
  have hg := K0.2.2.2.2
  have hK := hEV
  have hok : EVok (ENVM D w) A := ENVM.ok
  have j27 : ∀ (u1 : Int32) (z0 : Int32) (S : St) (H : Heap) (locs : List Loc) (cells slots : Nat) (ls : Array Slot), (f_X6_toGo_J27 u1 z0).1 S = some E0 → ZZ D 14 (adrM w) (celM w) A S0 s.heap S H locs cells slots → lv_has ls 2 [(0, .ref (w.2.2 0)), (1, .int u1)] → W p l e R s m args below meth c H locs cells slots (MQ below (QE E0 vI (PMo D w A) A) args s (gN E0.2 7 0 - gN S0 7 0) (gN E0.2 3 0 - gN S0 3 0) A) (F0 m 27 ls [.int z0, .ref (w.2.2 0)]) := by
    intro u1 z0 S H locs cells slots ls hE hZ hl
    unfold f_X6_toGo_J27 at hE
    refine mp_19 K0 hK hE (nW := 14) (by omega) hZ q1089 dX6_toGo_27 (fun S H locs hE hZ => ?_)
    refine lv_aload_n hx hb dX6_toGo_30 rfl (lv_at hl 0 rfl) ?_
    refine mg_19 K0 hK hE (nW := 14) (by omega) hZ q1089 dX6_toGo_31 (fun v31 hE => ?_)
    refine lv_if_ne (tgt := 49) hx hb dX6_toGo_34 (by decide) (fun hc => ?_) (fun hc => ?_)
    · have hE := if_f hE hc
      refine lv_iconst (v := (-1)) hx hb dX6_toGo_49 (by decide +kernel) ?_
      exact end_i K0 hr hlocks hE hZ dX6_toGo_50
    · have hE := if_t hE hc
      refine lv_aload_n hx hb dX6_toGo_37 rfl (lv_at hl 0 rfl) ?_
      refine mg_12 K0 hK (nW := 14) (by omega) hZ q1082 dX6_toGo_38 ?_
      refine lv_bipush (v := (22)) hx hb dX6_toGo_41 (by decide +kernel) ?_
      refine lv_iload_n hx hb dX6_toGo_43 rfl (lv_at hl 1 rfl) ?_
      refine lv_iadd hx hb dX6_toGo_44 ?_
      refine ma_20 K0 hK hE (nW := 14) (by omega) hZ dX6_toGo_45 (fun v45 hE => ?_)
      refine lv_goto (tgt := 50) hx hb dX6_toGo_46 (by decide) ?_
      exact end_i K0 hr hlocks hE hZ dX6_toGo_50
  unfold f_X6_toGo at hE
  refine lv_aload_n hx hb dX6_toGo_0 rfl (lv_at hl 0 rfl) ?_
  refine lv_aload_n hx hb dX6_toGo_1 rfl (lv_at hl 0 rfl) ?_
  refine lv_iload_n hx hb dX6_toGo_2 rfl (lv_at hl 1 rfl) ?_
  refine call_VS (rest := [.ref (w.2.2 0)]) K0 hok hEV hA (c_X6_isCar l D w A a1) q1169 q1171 q23 q46 q1172 yd_X6_isCar ⟨by omega, by omega⟩ hRc (rc_MO hK (nW := 14) (by omega) hZ) hE hZ hl.1 rfl (Nat.le_of_ble_eq_true rfl) dX6_toGo_3 (fun v3 S H locs cells slots hE hZ => ?_)
  refine W.eq (g2 := F0 m 6 ls [.int v3, .ref (w.2.2 0)]) rfl ?_
  refine lv_if_ne (tgt := 13) hx hb dX6_toGo_6 (by decide) (fun hc => ?_) (fun hc => ?_)
  · have hE := if_f hE hc
    refine lv_aload_n hx hb dX6_toGo_13 rfl (lv_at hl 0 rfl) ?_
    refine lv_iload_n hx hb dX6_toGo_14 rfl (lv_at hl 1 rfl) ?_
    refine call_VS (rest := [.ref (w.2.2 0)]) K0 hok hEV hA (c_X6_standsAt l D w A a1) q1247 q1249 q34 q46 q1250 yd_X6_standsAt ⟨by omega, by omega⟩ hRc (rc_MO hK (nW := 14) (by omega) hZ) hE hZ hl.1 rfl (Nat.le_of_ble_eq_true rfl) dX6_toGo_15 (fun v15 S H locs cells slots hE hZ => ?_)
    refine W.eq (g2 := F0 m 18 ls [.int v15, .ref (w.2.2 0)]) rfl ?_
    refine lv_iconst (v := (-1)) hx hb dX6_toGo_18 (by decide +kernel) ?_
    refine lv_icmp_ne (tgt := 26) hx hb dX6_toGo_19 (by decide) (fun hc => ?_) (fun hc => ?_)
    · have hE := if_f hE hc
      refine lv_iconst (v := (0)) hx hb dX6_toGo_26 (by decide +kernel) ?_
      exact j27 a1 (0 : Int32) _ _ _ _ _ _ hE hZ (lv_sub hl [0, 1] rfl)
    · have hE := if_t hE hc
      refine lv_iconst (v := (2)) hx hb dX6_toGo_22 (by decide +kernel) ?_
      refine lv_goto (tgt := 27) hx hb dX6_toGo_23 (by decide) ?_
      exact j27 a1 (2 : Int32) _ _ _ _ _ _ hE hZ (lv_sub hl [0, 1] rfl)
  · have hE := if_t hE hc
    refine lv_iconst (v := (1)) hx hb dX6_toGo_9 (by decide +kernel) ?_
    refine lv_goto (tgt := 27) hx hb dX6_toGo_10 (by decide) ?_
    exact j27 a1 (1 : Int32) _ _ _ _ _ _ hE hZ (lv_sub hl [0, 1] rfl)
def f_X6_carAt_J31 (u1 : Int32) (z0 : Int32) : PM Int32 := bnd (wrI 5 0 0 z0) (fun _ => bnd (rdI 5 0 0) (fun v35 => if v35 = 0 then (bnd (mld 20 237 ((14 : Int32) + u1)) (fun v49 => rtn v49)) else (rtn (-1 : Int32))))
def f_X6_carAt (a1 : Int32) : PM Int32 := bnd (f_X6_isStation a1) (fun v3 => if v3 = 0 then (f_X6_carAt_J31 a1 (1 : Int32)) else (bnd (mld 20 237 ((14 : Int32) + a1)) (fun v21 => if v21 = (-1 : Int32) then (f_X6_carAt_J31 a1 (2 : Int32)) else (f_X6_carAt_J31 a1 (0 : Int32)))))
theorem yd_X6_carAt : yX6_carAt.cls = RX6 ∧ yX6_carAt.cls ≠ "java/lang/invoke/MethodHandle" ∧ yX6_carAt.cls ≠ "java/lang/invoke/VarHandle" ∧ (parseMethodDescriptor yX6_carAt.desc).map (fun d => d.parameters.length) = some 1 := by decide +kernel
set_option maxHeartbeats 4000000 in
set_option maxRecDepth 100000 in
theorem c_X6_carAt (l : Launch) (D : va_G) (w : Wm) (A : Nat → Prop) (a1 : Int32) : CT l yX6_carAt cX6_carAt 2 (some .int) 2 46 (PMo D w A) (ENVM D w) A [.ref (w.2.2 0), .int a1] (f_X6_carAt a1) vI := by
  refine CT.ofW (by decide) [(0, .ref (w.2.2 0)), (1, .int a1)] (by simp [lv_args, vr_cat, vc_i, vc_j, vc_f, vc_d, vc_r, vc_n]) (by simp [lg_sl, vr_cat, vc_i, vc_j, vc_f, vc_d, vc_r, vc_n]) ?_
  intro S0 E0 R p e s m args below meth c ls hE hRf hRl hRc K0 hr hlocks hEV hA hZ hl
  have K0 : CallFix p m c cX6_carAt 2 s args GW RX6 := K0
  have hx := K0.1
  have hb := K0.2.1
  have hown := K0.2.2.2.1
  have hg := K0.2.2.2.2
  have hK := hEV
  have hok : EVok (ENVM D w) A := ENVM.ok
  have j31 : ∀ (u1 : Int32) (z0 : Int32) (S : St) (H : Heap) (locs : List Loc) (cells slots : Nat) (ls : Array Slot), (f_X6_carAt_J31 u1 z0).1 S = some E0 → ZZ D 14 (adrM w) (celM w) A S0 s.heap S H locs cells slots → lv_has ls 2 [(0, .ref (w.2.2 0)), (1, .int u1)] → W p l e R s m args below meth c H locs cells slots (MQ below (QE E0 vI (PMo D w A) A) args s (gN E0.2 7 0 - gN S0 7 0) (gN E0.2 3 0 - gN S0 3 0) A) (F0 m 31 ls [.int z0, .ref (w.2.2 0)]) := by
    intro u1 z0 S H locs cells slots ls hE hZ hl
    unfold f_X6_carAt_J31 at hE
    refine mp_19 K0 hK hE (nW := 14) (by omega) hZ q1089 dX6_carAt_31 (fun S H locs hE hZ => ?_)
    refine lv_aload_n hx hb dX6_carAt_34 rfl (lv_at hl 0 rfl) ?_
    refine mg_19 K0 hK hE (nW := 14) (by omega) hZ q1089 dX6_carAt_35 (fun v35 hE => ?_)
    refine lv_if_ne (tgt := 53) hx hb dX6_carAt_38 (by decide) (fun hc => ?_) (fun hc => ?_)
    · have hE := if_f hE hc
      refine lv_iconst (v := (-1)) hx hb dX6_carAt_53 (by decide +kernel) ?_
      exact end_i K0 hr hlocks hE hZ dX6_carAt_54
    · have hE := if_t hE hc
      refine lv_aload_n hx hb dX6_carAt_41 rfl (lv_at hl 0 rfl) ?_
      refine mg_12 K0 hK (nW := 14) (by omega) hZ q1082 dX6_carAt_42 ?_
      refine lv_bipush (v := (14)) hx hb dX6_carAt_45 (by decide +kernel) ?_
      refine lv_iload_n hx hb dX6_carAt_47 rfl (lv_at hl 1 rfl) ?_
      refine lv_iadd hx hb dX6_carAt_48 ?_
      refine ma_20 K0 hK hE (nW := 14) (by omega) hZ dX6_carAt_49 (fun v49 hE => ?_)
      refine lv_goto (tgt := 54) hx hb dX6_carAt_50 (by decide) ?_
      exact end_i K0 hr hlocks hE hZ dX6_carAt_54
  unfold f_X6_carAt at hE
  refine lv_aload_n hx hb dX6_carAt_0 rfl (lv_at hl 0 rfl) ?_
  refine lv_aload_n hx hb dX6_carAt_1 rfl (lv_at hl 0 rfl) ?_
  refine lv_iload_n hx hb dX6_carAt_2 rfl (lv_at hl 1 rfl) ?_
  refine call_VS (rest := [.ref (w.2.2 0)]) K0 hok hEV hA (c_X6_isStation l D w A a1) q1181 q1183 q25 q46 q1184 yd_X6_isStation ⟨by omega, by omega⟩ hRc (rc_MO hK (nW := 14) (by omega) hZ) hE hZ hl.1 rfl (Nat.le_of_ble_eq_true rfl) dX6_carAt_3 (fun v3 S H locs cells slots hE hZ => ?_)
  refine W.eq (g2 := F0 m 6 ls [.int v3, .ref (w.2.2 0)]) rfl ?_
  refine lv_if_ne (tgt := 13) hx hb dX6_carAt_6 (by decide) (fun hc => ?_) (fun hc => ?_)
  · have hE := if_f hE hc
    refine lv_aload_n hx hb dX6_carAt_13 rfl (lv_at hl 0 rfl) ?_
    refine mg_12 K0 hK (nW := 14) (by omega) hZ q1082 dX6_carAt_14 ?_
    refine lv_bipush (v := (14)) hx hb dX6_carAt_17 (by decide +kernel) ?_
    refine lv_iload_n hx hb dX6_carAt_19 rfl (lv_at hl 1 rfl) ?_
    refine lv_iadd hx hb dX6_carAt_20 ?_
    refine ma_20 K0 hK hE (nW := 14) (by omega) hZ dX6_carAt_21 (fun v21 hE => ?_)
    refine lv_iconst (v := (-1)) hx hb dX6_carAt_22 (by decide +kernel) ?_
    refine lv_icmp_ne (tgt := 30) hx hb dX6_carAt_23 (by decide) (fun hc => ?_) (fun hc => ?_)
    · have hE := if_f hE hc
      refine lv_iconst (v := (0)) hx hb dX6_carAt_30 (by decide +kernel) ?_
      exact j31 a1 (0 : Int32) _ _ _ _ _ _ hE hZ (lv_sub hl [0, 1] rfl)
    · have hE := if_t hE hc
      refine lv_iconst (v := (2)) hx hb dX6_carAt_26 (by decide +kernel) ?_
      refine lv_goto (tgt := 31) hx hb dX6_carAt_27 (by decide) ?_
      exact j31 a1 (2 : Int32) _ _ _ _ _ _ hE hZ (lv_sub hl [0, 1] rfl)
  · have hE := if_t hE hc
    refine lv_iconst (v := (1)) hx hb dX6_carAt_9 (by decide +kernel) ?_
    refine lv_goto (tgt := 31) hx hb dX6_carAt_10 (by decide) ?_
    exact j31 a1 (1 : Int32) _ _ _ _ _ _ hE hZ (lv_sub hl [0, 1] rfl)
def f_X6_isBack (a1 : Int32) : PM Int32 := bnd (f_X6_isAsked a1) (fun v2 => if v2 = 0 then (rtnZ (0 : Int32)) else (bnd (f_X6_standsAt a1) (fun v10 => if v10 = (-1 : Int32) then (rtnZ (0 : Int32)) else (bnd (mld 20 237 ((52 : Int32) + a1)) (fun v25 => if v25 = (1 : Int32) then (rtnZ (1 : Int32)) else (rtnZ (0 : Int32)))))))
theorem yd_X6_isBack : yX6_isBack.cls = RX6 ∧ yX6_isBack.cls ≠ "java/lang/invoke/MethodHandle" ∧ yX6_isBack.cls ≠ "java/lang/invoke/VarHandle" ∧ (parseMethodDescriptor yX6_isBack.desc).map (fun d => d.parameters.length) = some 1 := by decide +kernel
set_option maxHeartbeats 4000000 in
set_option maxRecDepth 100000 in
theorem c_X6_isBack (l : Launch) (D : va_G) (w : Wm) (A : Nat → Prop) (a1 : Int32) : CT l yX6_isBack cX6_isBack 2 (some .boolean) 3 67 (PMo D w A) (ENVM D w) A [.ref (w.2.2 0), .int a1] (f_X6_isBack a1) vI := by
  refine CT.ofW (by decide) [(0, .ref (w.2.2 0)), (1, .int a1)] (by simp [lv_args, vr_cat, vc_i, vc_j, vc_f, vc_d, vc_r, vc_n]) (by simp [lg_sl, vr_cat, vc_i, vc_j, vc_f, vc_d, vc_r, vc_n]) ?_
  intro S0 E0 R p e s m args below meth c ls hE hRf hRl hRc K0 hr hlocks hEV hA hZ hl
  have K0 : CallFix p m c cX6_isBack 2 s args GW RX6 := K0
  have hx := K0.1
  have hb := K0.2.1
  have hown := K0.2.2.2.1
  have hg := K0.2.2.2.2
  have hK := hEV
  have hok : EVok (ENVM D w) A := ENVM.ok
  unfold f_X6_isBack at hE
  refine lv_aload_n hx hb dX6_isBack_0 rfl (lv_at hl 0 rfl) ?_
  refine lv_iload_n hx hb dX6_isBack_1 rfl (lv_at hl 1 rfl) ?_
  refine call_VS (rest := []) K0 hok hEV hA (c_X6_isAsked l D w A a1) q1239 q1241 q33 q46 q1242 yd_X6_isAsked ⟨by omega, by omega⟩ hRc (rc_MO hK (nW := 14) (by omega) hZ) hE hZ hl.1 rfl (Nat.le_of_ble_eq_true rfl) dX6_isBack_2 (fun v2 S H locs cells slots hE hZ => ?_)
  refine W.eq (g2 := F0 m 5 ls [.int v2]) rfl ?_
  refine lv_if_eq (tgt := 34) hx hb dX6_isBack_5 (by decide) (fun hc => ?_) (fun hc => ?_)
  · have hE := if_t hE hc
    refine lv_iconst (v := (0)) hx hb dX6_isBack_34 (by decide +kernel) ?_
    exact end_z K0 hr hlocks hE hZ dX6_isBack_35
  · have hE := if_f hE hc
    refine lv_aload_n hx hb dX6_isBack_8 rfl (lv_at hl 0 rfl) ?_
    refine lv_iload_n hx hb dX6_isBack_9 rfl (lv_at hl 1 rfl) ?_
    refine call_VS (rest := []) K0 hok hEV hA (c_X6_standsAt l D w A a1) q1247 q1249 q34 q46 q1250 yd_X6_standsAt ⟨by omega, by omega⟩ hRc (rc_MO hK (nW := 14) (by omega) hZ) hE hZ hl.1 rfl (Nat.le_of_ble_eq_true rfl) dX6_isBack_10 (fun v10 S H locs cells slots hE hZ => ?_)
    refine W.eq (g2 := F0 m 13 ls [.int v10]) rfl ?_
    refine lv_iconst (v := (-1)) hx hb dX6_isBack_13 (by decide +kernel) ?_
    refine lv_icmp_eq (tgt := 34) hx hb dX6_isBack_14 (by decide) (fun hc => ?_) (fun hc => ?_)
    · have hE := if_t hE hc
      refine lv_iconst (v := (0)) hx hb dX6_isBack_34 (by decide +kernel) ?_
      exact end_z K0 hr hlocks hE hZ dX6_isBack_35
    · have hE := if_f hE hc
      refine lv_aload_n hx hb dX6_isBack_17 rfl (lv_at hl 0 rfl) ?_
      refine mg_12 K0 hK (nW := 14) (by omega) hZ q1082 dX6_isBack_18 ?_
      refine lv_bipush (v := (52)) hx hb dX6_isBack_21 (by decide +kernel) ?_
      refine lv_iload_n hx hb dX6_isBack_23 rfl (lv_at hl 1 rfl) ?_
      refine lv_iadd hx hb dX6_isBack_24 ?_
      refine ma_20 K0 hK hE (nW := 14) (by omega) hZ dX6_isBack_25 (fun v25 hE => ?_)
      refine lv_iconst (v := (1)) hx hb dX6_isBack_26 (by decide +kernel) ?_
      refine lv_icmp_ne (tgt := 34) hx hb dX6_isBack_27 (by decide) (fun hc => ?_) (fun hc => ?_)
      · have hE := if_f hE hc
        refine lv_iconst (v := (0)) hx hb dX6_isBack_34 (by decide +kernel) ?_
        exact end_z K0 hr hlocks hE hZ dX6_isBack_35
      · have hE := if_t hE hc
        refine lv_iconst (v := (1)) hx hb dX6_isBack_30 (by decide +kernel) ?_
        refine lv_goto (tgt := 35) hx hb dX6_isBack_31 (by decide) ?_
        exact end_z K0 hr hlocks hE hZ dX6_isBack_35
def f_X6_waiting  : PM Int32 := bnd (wrI 5 0 0 (0 : Int32)) (fun _ => bnd (mld 20 237 (233 : Int32)) (fun v12 => rtn v12))
theorem yd_X6_waiting : yX6_waiting.cls = RX6 ∧ yX6_waiting.cls ≠ "java/lang/invoke/MethodHandle" ∧ yX6_waiting.cls ≠ "java/lang/invoke/VarHandle" ∧ (parseMethodDescriptor yX6_waiting.desc).map (fun d => d.parameters.length) = some 0 := by decide +kernel
set_option maxHeartbeats 4000000 in
set_option maxRecDepth 100000 in
theorem c_X6_waiting (l : Launch) (D : va_G) (w : Wm) (A : Nat → Prop) : CT l yX6_waiting cX6_waiting 1 (some .int) 0 0 (PMo D w A) (ENVM D w) A [.ref (w.2.2 0)] (f_X6_waiting ) vI := by
  refine CT.ofW (by decide) [(0, .ref (w.2.2 0))] (by simp [lv_args, vr_cat, vc_i, vc_j, vc_f, vc_d, vc_r, vc_n]) (by simp [lg_sl, vr_cat, vc_i, vc_j, vc_f, vc_d, vc_r, vc_n]) ?_
  intro S0 E0 R p e s m args below meth c ls hE hRf hRl hRc K0 hr hlocks hEV hA hZ hl
  have K0 : CallFix p m c cX6_waiting 1 s args GW RX6 := K0
  have hx := K0.1
  have hb := K0.2.1
  have hown := K0.2.2.2.1
  have hg := K0.2.2.2.2
  have hK := hEV
  have hok : EVok (ENVM D w) A := ENVM.ok
  unfold f_X6_waiting at hE
  refine lv_aload_n hx hb dX6_waiting_0 rfl (lv_at hl 0 rfl) ?_
  refine lv_iconst (v := (0)) hx hb dX6_waiting_1 (by decide +kernel) ?_
  refine mp_19 K0 hK hE (nW := 14) (by omega) hZ q1089 dX6_waiting_2 (fun S H locs hE hZ => ?_)
  refine lv_aload_n hx hb dX6_waiting_5 rfl (lv_at hl 0 rfl) ?_
  refine mg_12 K0 hK (nW := 14) (by omega) hZ q1082 dX6_waiting_6 ?_
  refine lv_sipush (v := (233)) hx hb dX6_waiting_9 (by decide +kernel) ?_
  refine ma_20 K0 hK hE (nW := 14) (by omega) hZ dX6_waiting_12 (fun v12 hE => ?_)
  exact end_i K0 hr hlocks hE hZ dX6_waiting_13
def f_X6_waitingAt (a1 : Int32) : PM Int32 := bnd (mld 20 237 (233 : Int32)) (fun v11 => bnd (f_X6_listed (142 : Int32) v11 a1) (fun v13 => rtn v13))
theorem yd_X6_waitingAt : yX6_waitingAt.cls = RX6 ∧ yX6_waitingAt.cls ≠ "java/lang/invoke/MethodHandle" ∧ yX6_waitingAt.cls ≠ "java/lang/invoke/VarHandle" ∧ (parseMethodDescriptor yX6_waitingAt.desc).map (fun d => d.parameters.length) = some 1 := by decide +kernel
set_option maxHeartbeats 4000000 in
set_option maxRecDepth 100000 in
theorem c_X6_waitingAt (l : Launch) (D : va_G) (w : Wm) (A : Nat → Prop) (a1 : Int32) : CT l yX6_waitingAt cX6_waitingAt 2 (some .int) 2 48 (PMo D w A) (ENVM D w) A [.ref (w.2.2 0), .int a1] (f_X6_waitingAt a1) vI := by
  refine CT.ofW (by decide) [(0, .ref (w.2.2 0)), (1, .int a1)] (by simp [lv_args, vr_cat, vc_i, vc_j, vc_f, vc_d, vc_r, vc_n]) (by simp [lg_sl, vr_cat, vc_i, vc_j, vc_f, vc_d, vc_r, vc_n]) ?_
  intro S0 E0 R p e s m args below meth c ls hE hRf hRl hRc K0 hr hlocks hEV hA hZ hl
  have K0 : CallFix p m c cX6_waitingAt 2 s args GW RX6 := K0
  have hx := K0.1
  have hb := K0.2.1
  have hown := K0.2.2.2.1
  have hg := K0.2.2.2.2
  have hK := hEV
  have hok : EVok (ENVM D w) A := ENVM.ok
  unfold f_X6_waitingAt at hE
  refine lv_aload_n hx hb dX6_waitingAt_0 rfl (lv_at hl 0 rfl) ?_
  refine lv_sipush (v := (142)) hx hb dX6_waitingAt_1 (by decide +kernel) ?_
  refine lv_aload_n hx hb dX6_waitingAt_4 rfl (lv_at hl 0 rfl) ?_
  refine mg_12 K0 hK (nW := 14) (by omega) hZ q1082 dX6_waitingAt_5 ?_
  refine lv_sipush (v := (233)) hx hb dX6_waitingAt_8 (by decide +kernel) ?_
  refine ma_20 K0 hK hE (nW := 14) (by omega) hZ dX6_waitingAt_11 (fun v11 hE => ?_)
  refine lv_iload_n hx hb dX6_waitingAt_12 rfl (lv_at hl 1 rfl) ?_
  refine call_VS (rest := []) K0 hok hEV hA (c_X6_listed l D w A (142 : Int32) v11 a1) q1271 q1273 q35 q46 q1274 yd_X6_listed ⟨by omega, by omega⟩ hRc (rc_MO hK (nW := 14) (by omega) hZ) hE hZ hl.1 rfl (Nat.le_of_ble_eq_true rfl) dX6_waitingAt_13 (fun v13 S H locs cells slots hE hZ => ?_)
  refine W.eq (g2 := F0 m 16 ls [.int v13]) rfl ?_
  exact end_i K0 hr hlocks hE hZ dX6_waitingAt_16
def f_X6_looped  : PM Int32 := bnd (wrI 5 0 0 (0 : Int32)) (fun _ => bnd (mld 20 237 (234 : Int32)) (fun v12 => rtn v12))
theorem yd_X6_looped : yX6_looped.cls = RX6 ∧ yX6_looped.cls ≠ "java/lang/invoke/MethodHandle" ∧ yX6_looped.cls ≠ "java/lang/invoke/VarHandle" ∧ (parseMethodDescriptor yX6_looped.desc).map (fun d => d.parameters.length) = some 0 := by decide +kernel
set_option maxHeartbeats 4000000 in
set_option maxRecDepth 100000 in
theorem c_X6_looped (l : Launch) (D : va_G) (w : Wm) (A : Nat → Prop) : CT l yX6_looped cX6_looped 1 (some .int) 0 0 (PMo D w A) (ENVM D w) A [.ref (w.2.2 0)] (f_X6_looped ) vI := by
  refine CT.ofW (by decide) [(0, .ref (w.2.2 0))] (by simp [lv_args, vr_cat, vc_i, vc_j, vc_f, vc_d, vc_r, vc_n]) (by simp [lg_sl, vr_cat, vc_i, vc_j, vc_f, vc_d, vc_r, vc_n]) ?_
  intro S0 E0 R p e s m args below meth c ls hE hRf hRl hRc K0 hr hlocks hEV hA hZ hl
  have K0 : CallFix p m c cX6_looped 1 s args GW RX6 := K0
  have hx := K0.1
  have hb := K0.2.1
  have hown := K0.2.2.2.1
  have hg := K0.2.2.2.2
  have hK := hEV
  have hok : EVok (ENVM D w) A := ENVM.ok
  unfold f_X6_looped at hE
  refine lv_aload_n hx hb dX6_looped_0 rfl (lv_at hl 0 rfl) ?_
  refine lv_iconst (v := (0)) hx hb dX6_looped_1 (by decide +kernel) ?_
  refine mp_19 K0 hK hE (nW := 14) (by omega) hZ q1089 dX6_looped_2 (fun S H locs hE hZ => ?_)
  refine lv_aload_n hx hb dX6_looped_5 rfl (lv_at hl 0 rfl) ?_
  refine mg_12 K0 hK (nW := 14) (by omega) hZ q1082 dX6_looped_6 ?_
  refine lv_sipush (v := (234)) hx hb dX6_looped_9 (by decide +kernel) ?_
  refine ma_20 K0 hK hE (nW := 14) (by omega) hZ dX6_looped_12 (fun v12 hE => ?_)
  exact end_i K0 hr hlocks hE hZ dX6_looped_13
def f_X6_loopedAt (a1 : Int32) : PM Int32 := bnd (mld 20 237 (234 : Int32)) (fun v11 => bnd (f_X6_listed (172 : Int32) v11 a1) (fun v13 => rtn v13))
theorem yd_X6_loopedAt : yX6_loopedAt.cls = RX6 ∧ yX6_loopedAt.cls ≠ "java/lang/invoke/MethodHandle" ∧ yX6_loopedAt.cls ≠ "java/lang/invoke/VarHandle" ∧ (parseMethodDescriptor yX6_loopedAt.desc).map (fun d => d.parameters.length) = some 1 := by decide +kernel
set_option maxHeartbeats 4000000 in
set_option maxRecDepth 100000 in
theorem c_X6_loopedAt (l : Launch) (D : va_G) (w : Wm) (A : Nat → Prop) (a1 : Int32) : CT l yX6_loopedAt cX6_loopedAt 2 (some .int) 2 48 (PMo D w A) (ENVM D w) A [.ref (w.2.2 0), .int a1] (f_X6_loopedAt a1) vI := by
  refine CT.ofW (by decide) [(0, .ref (w.2.2 0)), (1, .int a1)] (by simp [lv_args, vr_cat, vc_i, vc_j, vc_f, vc_d, vc_r, vc_n]) (by simp [lg_sl, vr_cat, vc_i, vc_j, vc_f, vc_d, vc_r, vc_n]) ?_
  intro S0 E0 R p e s m args below meth c ls hE hRf hRl hRc K0 hr hlocks hEV hA hZ hl
  have K0 : CallFix p m c cX6_loopedAt 2 s args GW RX6 := K0
  have hx := K0.1
  have hb := K0.2.1
  have hown := K0.2.2.2.1
  have hg := K0.2.2.2.2
  have hK := hEV
  have hok : EVok (ENVM D w) A := ENVM.ok
  unfold f_X6_loopedAt at hE
  refine lv_aload_n hx hb dX6_loopedAt_0 rfl (lv_at hl 0 rfl) ?_
  refine lv_sipush (v := (172)) hx hb dX6_loopedAt_1 (by decide +kernel) ?_
  refine lv_aload_n hx hb dX6_loopedAt_4 rfl (lv_at hl 0 rfl) ?_
  refine mg_12 K0 hK (nW := 14) (by omega) hZ q1082 dX6_loopedAt_5 ?_
  refine lv_sipush (v := (234)) hx hb dX6_loopedAt_8 (by decide +kernel) ?_
  refine ma_20 K0 hK hE (nW := 14) (by omega) hZ dX6_loopedAt_11 (fun v11 hE => ?_)
  refine lv_iload_n hx hb dX6_loopedAt_12 rfl (lv_at hl 1 rfl) ?_
  refine call_VS (rest := []) K0 hok hEV hA (c_X6_listed l D w A (172 : Int32) v11 a1) q1271 q1273 q35 q46 q1274 yd_X6_listed ⟨by omega, by omega⟩ hRc (rc_MO hK (nW := 14) (by omega) hZ) hE hZ hl.1 rfl (Nat.le_of_ble_eq_true rfl) dX6_loopedAt_13 (fun v13 S H locs cells slots hE hZ => ?_)
  refine W.eq (g2 := F0 m 16 ls [.int v13]) rfl ?_
  exact end_i K0 hr hlocks hE hZ dX6_loopedAt_16
def f_X6_left  : PM Int32 := bnd (wrI 5 0 0 (0 : Int32)) (fun _ => bnd (mld 20 237 (235 : Int32)) (fun v12 => rtn v12))
theorem yd_X6_left : yX6_left.cls = RX6 ∧ yX6_left.cls ≠ "java/lang/invoke/MethodHandle" ∧ yX6_left.cls ≠ "java/lang/invoke/VarHandle" ∧ (parseMethodDescriptor yX6_left.desc).map (fun d => d.parameters.length) = some 0 := by decide +kernel
set_option maxHeartbeats 4000000 in
set_option maxRecDepth 100000 in
theorem c_X6_left (l : Launch) (D : va_G) (w : Wm) (A : Nat → Prop) : CT l yX6_left cX6_left 1 (some .int) 0 0 (PMo D w A) (ENVM D w) A [.ref (w.2.2 0)] (f_X6_left ) vI := by
  refine CT.ofW (by decide) [(0, .ref (w.2.2 0))] (by simp [lv_args, vr_cat, vc_i, vc_j, vc_f, vc_d, vc_r, vc_n]) (by simp [lg_sl, vr_cat, vc_i, vc_j, vc_f, vc_d, vc_r, vc_n]) ?_
  intro S0 E0 R p e s m args below meth c ls hE hRf hRl hRc K0 hr hlocks hEV hA hZ hl
  have K0 : CallFix p m c cX6_left 1 s args GW RX6 := K0
  have hx := K0.1
  have hb := K0.2.1
  have hown := K0.2.2.2.1
  have hg := K0.2.2.2.2
  have hK := hEV
  have hok : EVok (ENVM D w) A := ENVM.ok
  unfold f_X6_left at hE
  refine lv_aload_n hx hb dX6_left_0 rfl (lv_at hl 0 rfl) ?_
  refine lv_iconst (v := (0)) hx hb dX6_left_1 (by decide +kernel) ?_
  refine mp_19 K0 hK hE (nW := 14) (by omega) hZ q1089 dX6_left_2 (fun S H locs hE hZ => ?_)
  refine lv_aload_n hx hb dX6_left_5 rfl (lv_at hl 0 rfl) ?_
  refine mg_12 K0 hK (nW := 14) (by omega) hZ q1082 dX6_left_6 ?_
  refine lv_sipush (v := (235)) hx hb dX6_left_9 (by decide +kernel) ?_
  refine ma_20 K0 hK hE (nW := 14) (by omega) hZ dX6_left_12 (fun v12 hE => ?_)
  exact end_i K0 hr hlocks hE hZ dX6_left_13
def f_X6_leftAt (a1 : Int32) : PM Int32 := bnd (mld 20 237 (235 : Int32)) (fun v11 => bnd (f_X6_listed (202 : Int32) v11 a1) (fun v13 => rtn v13))
theorem yd_X6_leftAt : yX6_leftAt.cls = RX6 ∧ yX6_leftAt.cls ≠ "java/lang/invoke/MethodHandle" ∧ yX6_leftAt.cls ≠ "java/lang/invoke/VarHandle" ∧ (parseMethodDescriptor yX6_leftAt.desc).map (fun d => d.parameters.length) = some 1 := by decide +kernel
set_option maxHeartbeats 4000000 in
set_option maxRecDepth 100000 in
theorem c_X6_leftAt (l : Launch) (D : va_G) (w : Wm) (A : Nat → Prop) (a1 : Int32) : CT l yX6_leftAt cX6_leftAt 2 (some .int) 2 48 (PMo D w A) (ENVM D w) A [.ref (w.2.2 0), .int a1] (f_X6_leftAt a1) vI := by
  refine CT.ofW (by decide) [(0, .ref (w.2.2 0)), (1, .int a1)] (by simp [lv_args, vr_cat, vc_i, vc_j, vc_f, vc_d, vc_r, vc_n]) (by simp [lg_sl, vr_cat, vc_i, vc_j, vc_f, vc_d, vc_r, vc_n]) ?_
  intro S0 E0 R p e s m args below meth c ls hE hRf hRl hRc K0 hr hlocks hEV hA hZ hl
  have K0 : CallFix p m c cX6_leftAt 2 s args GW RX6 := K0
  have hx := K0.1
  have hb := K0.2.1
  have hown := K0.2.2.2.1
  have hg := K0.2.2.2.2
  have hK := hEV
  have hok : EVok (ENVM D w) A := ENVM.ok
  unfold f_X6_leftAt at hE
  refine lv_aload_n hx hb dX6_leftAt_0 rfl (lv_at hl 0 rfl) ?_
  refine lv_sipush (v := (202)) hx hb dX6_leftAt_1 (by decide +kernel) ?_
  refine lv_aload_n hx hb dX6_leftAt_4 rfl (lv_at hl 0 rfl) ?_
  refine mg_12 K0 hK (nW := 14) (by omega) hZ q1082 dX6_leftAt_5 ?_
  refine lv_sipush (v := (235)) hx hb dX6_leftAt_8 (by decide +kernel) ?_
  refine ma_20 K0 hK hE (nW := 14) (by omega) hZ dX6_leftAt_11 (fun v11 hE => ?_)
  refine lv_iload_n hx hb dX6_leftAt_12 rfl (lv_at hl 1 rfl) ?_
  refine call_VS (rest := []) K0 hok hEV hA (c_X6_listed l D w A (202 : Int32) v11 a1) q1271 q1273 q35 q46 q1274 yd_X6_listed ⟨by omega, by omega⟩ hRc (rc_MO hK (nW := 14) (by omega) hZ) hE hZ hl.1 rfl (Nat.le_of_ble_eq_true rfl) dX6_leftAt_13 (fun v13 S H locs cells slots hE hZ => ?_)
  refine W.eq (g2 := F0 m 16 ls [.int v13]) rfl ?_
  exact end_i K0 hr hlocks hE hZ dX6_leftAt_16
def f_X6_leftIn_J32 (u1 : Int32) (z0 : Int32) : PM Int32 := bnd (wrI 5 0 0 z0) (fun _ => bnd (rdI 5 0 0) (fun v36 => if v36 = 0 then (bnd (mld 18 30 u1) (fun v47 => rtn v47)) else (rtn (-1 : Int32))))
def f_X6_leftIn (a1 : Int32) : PM Int32 := bnd (f_X6_isCar a1) (fun v3 => if v3 = 0 then (f_X6_leftIn_J32 a1 (1 : Int32)) else (bnd (mld 20 237 ((82 : Int32) + a1)) (fun v21 => if v21 = (100 : Int32) then (f_X6_leftIn_J32 a1 (0 : Int32)) else (f_X6_leftIn_J32 a1 (2 : Int32)))))
theorem yd_X6_leftIn : yX6_leftIn.cls = RX6 ∧ yX6_leftIn.cls ≠ "java/lang/invoke/MethodHandle" ∧ yX6_leftIn.cls ≠ "java/lang/invoke/VarHandle" ∧ (parseMethodDescriptor yX6_leftIn.desc).map (fun d => d.parameters.length) = some 1 := by decide +kernel
set_option maxHeartbeats 4000000 in
set_option maxRecDepth 100000 in
theorem c_X6_leftIn (l : Launch) (D : va_G) (w : Wm) (A : Nat → Prop) (a1 : Int32) : CT l yX6_leftIn cX6_leftIn 2 (some .int) 2 46 (PMo D w A) (ENVM D w) A [.ref (w.2.2 0), .int a1] (f_X6_leftIn a1) vI := by
  refine CT.ofW (by decide) [(0, .ref (w.2.2 0)), (1, .int a1)] (by simp [lv_args, vr_cat, vc_i, vc_j, vc_f, vc_d, vc_r, vc_n]) (by simp [lg_sl, vr_cat, vc_i, vc_j, vc_f, vc_d, vc_r, vc_n]) ?_
  intro S0 E0 R p e s m args below meth c ls hE hRf hRl hRc K0 hr hlocks hEV hA hZ hl
  have K0 : CallFix p m c cX6_leftIn 2 s args GW RX6 := K0
  have hx := K0.1
  have hb := K0.2.1
  have hown := K0.2.2.2.1
  have hg := K0.2.2.2.2
  have hK := hEV
  have hok : EVok (ENVM D w) A := ENVM.ok
  have j32 : ∀ (u1 : Int32) (z0 : Int32) (S : St) (H : Heap) (locs : List Loc) (cells slots : Nat) (ls : Array Slot), (f_X6_leftIn_J32 u1 z0).1 S = some E0 → ZZ D 14 (adrM w) (celM w) A S0 s.heap S H locs cells slots → lv_has ls 2 [(0, .ref (w.2.2 0)), (1, .int u1)] → W p l e R s m args below meth c H locs cells slots (MQ below (QE E0 vI (PMo D w A) A) args s (gN E0.2 7 0 - gN S0 7 0) (gN E0.2 3 0 - gN S0 3 0) A) (F0 m 32 ls [.int z0, .ref (w.2.2 0)]) := by
    intro u1 z0 S H locs cells slots ls hE hZ hl
    unfold f_X6_leftIn_J32 at hE
    refine mp_19 K0 hK hE (nW := 14) (by omega) hZ q1089 dX6_leftIn_32 (fun S H locs hE hZ => ?_)
    refine lv_aload_n hx hb dX6_leftIn_35 rfl (lv_at hl 0 rfl) ?_
    refine mg_19 K0 hK hE (nW := 14) (by omega) hZ q1089 dX6_leftIn_36 (fun v36 hE => ?_)
    refine lv_if_ne (tgt := 51) hx hb dX6_leftIn_39 (by decide) (fun hc => ?_) (fun hc => ?_)
    · have hE := if_f hE hc
      refine lv_iconst (v := (-1)) hx hb dX6_leftIn_51 (by decide +kernel) ?_
      exact end_i K0 hr hlocks hE hZ dX6_leftIn_52
    · have hE := if_t hE hc
      refine lv_aload_n hx hb dX6_leftIn_42 rfl (lv_at hl 0 rfl) ?_
      refine mg_9 K0 hK (nW := 14) (by omega) hZ q1079 dX6_leftIn_43 ?_
      refine lv_iload_n hx hb dX6_leftIn_46 rfl (lv_at hl 1 rfl) ?_
      refine ma_18 K0 hK hE (nW := 14) (by omega) hZ dX6_leftIn_47 (fun v47 hE => ?_)
      refine lv_goto (tgt := 52) hx hb dX6_leftIn_48 (by decide) ?_
      exact end_i K0 hr hlocks hE hZ dX6_leftIn_52
  unfold f_X6_leftIn at hE
  refine lv_aload_n hx hb dX6_leftIn_0 rfl (lv_at hl 0 rfl) ?_
  refine lv_aload_n hx hb dX6_leftIn_1 rfl (lv_at hl 0 rfl) ?_
  refine lv_iload_n hx hb dX6_leftIn_2 rfl (lv_at hl 1 rfl) ?_
  refine call_VS (rest := [.ref (w.2.2 0)]) K0 hok hEV hA (c_X6_isCar l D w A a1) q1169 q1171 q23 q46 q1172 yd_X6_isCar ⟨by omega, by omega⟩ hRc (rc_MO hK (nW := 14) (by omega) hZ) hE hZ hl.1 rfl (Nat.le_of_ble_eq_true rfl) dX6_leftIn_3 (fun v3 S H locs cells slots hE hZ => ?_)
  refine W.eq (g2 := F0 m 6 ls [.int v3, .ref (w.2.2 0)]) rfl ?_
  refine lv_if_ne (tgt := 13) hx hb dX6_leftIn_6 (by decide) (fun hc => ?_) (fun hc => ?_)
  · have hE := if_f hE hc
    refine lv_aload_n hx hb dX6_leftIn_13 rfl (lv_at hl 0 rfl) ?_
    refine mg_12 K0 hK (nW := 14) (by omega) hZ q1082 dX6_leftIn_14 ?_
    refine lv_bipush (v := (82)) hx hb dX6_leftIn_17 (by decide +kernel) ?_
    refine lv_iload_n hx hb dX6_leftIn_19 rfl (lv_at hl 1 rfl) ?_
    refine lv_iadd hx hb dX6_leftIn_20 ?_
    refine ma_20 K0 hK hE (nW := 14) (by omega) hZ dX6_leftIn_21 (fun v21 hE => ?_)
    refine lv_bipush (v := (100)) hx hb dX6_leftIn_22 (by decide +kernel) ?_
    refine lv_icmp_eq (tgt := 31) hx hb dX6_leftIn_24 (by decide) (fun hc => ?_) (fun hc => ?_)
    · have hE := if_t hE hc
      refine lv_iconst (v := (0)) hx hb dX6_leftIn_31 (by decide +kernel) ?_
      exact j32 a1 (0 : Int32) _ _ _ _ _ _ hE hZ (lv_sub hl [0, 1] rfl)
    · have hE := if_f hE hc
      refine lv_iconst (v := (2)) hx hb dX6_leftIn_27 (by decide +kernel) ?_
      refine lv_goto (tgt := 32) hx hb dX6_leftIn_28 (by decide) ?_
      exact j32 a1 (2 : Int32) _ _ _ _ _ _ hE hZ (lv_sub hl [0, 1] rfl)
  · have hE := if_t hE hc
    refine lv_iconst (v := (1)) hx hb dX6_leftIn_9 (by decide +kernel) ?_
    refine lv_goto (tgt := 32) hx hb dX6_leftIn_10 (by decide) ?_
    exact j32 a1 (1 : Int32) _ _ _ _ _ _ hE hZ (lv_sub hl [0, 1] rfl)
def f_X6_faults (a1 : Int32) : PM Int32 := bnd (f_X6_isAsked a1) (fun v2 => if v2 = 0 then (rtn (-1 : Int32)) else (bnd (mld 20 237 ((112 : Int32) + a1)) (fun v16 => bnd (f_X6_many v16) (fun v17 => rtn v17))))
theorem yd_X6_faults : yX6_faults.cls = RX6 ∧ yX6_faults.cls ≠ "java/lang/invoke/MethodHandle" ∧ yX6_faults.cls ≠ "java/lang/invoke/VarHandle" ∧ (parseMethodDescriptor yX6_faults.desc).map (fun d => d.parameters.length) = some 1 := by decide +kernel
set_option maxHeartbeats 4000000 in
set_option maxRecDepth 100000 in
theorem c_X6_faults (l : Launch) (D : va_G) (w : Wm) (A : Nat → Prop) (a1 : Int32) : CT l yX6_faults cX6_faults 2 (some .int) 3 67 (PMo D w A) (ENVM D w) A [.ref (w.2.2 0), .int a1] (f_X6_faults a1) vI := by
  refine CT.ofW (by decide) [(0, .ref (w.2.2 0)), (1, .int a1)] (by simp [lv_args, vr_cat, vc_i, vc_j, vc_f, vc_d, vc_r, vc_n]) (by simp [lg_sl, vr_cat, vc_i, vc_j, vc_f, vc_d, vc_r, vc_n]) ?_
  intro S0 E0 R p e s m args below meth c ls hE hRf hRl hRc K0 hr hlocks hEV hA hZ hl
  have K0 : CallFix p m c cX6_faults 2 s args GW RX6 := K0
  have hx := K0.1
  have hb := K0.2.1
  have hown := K0.2.2.2.1
  have hg := K0.2.2.2.2
  have hK := hEV
  have hok : EVok (ENVM D w) A := ENVM.ok
  unfold f_X6_faults at hE
  refine lv_aload_n hx hb dX6_faults_0 rfl (lv_at hl 0 rfl) ?_
  refine lv_iload_n hx hb dX6_faults_1 rfl (lv_at hl 1 rfl) ?_
  refine call_VS (rest := []) K0 hok hEV hA (c_X6_isAsked l D w A a1) q1239 q1241 q33 q46 q1242 yd_X6_isAsked ⟨by omega, by omega⟩ hRc (rc_MO hK (nW := 14) (by omega) hZ) hE hZ hl.1 rfl (Nat.le_of_ble_eq_true rfl) dX6_faults_2 (fun v2 S H locs cells slots hE hZ => ?_)
  refine W.eq (g2 := F0 m 5 ls [.int v2]) rfl ?_
  refine lv_if_eq (tgt := 23) hx hb dX6_faults_5 (by decide) (fun hc => ?_) (fun hc => ?_)
  · have hE := if_t hE hc
    refine lv_iconst (v := (-1)) hx hb dX6_faults_23 (by decide +kernel) ?_
    exact end_i K0 hr hlocks hE hZ dX6_faults_24
  · have hE := if_f hE hc
    refine lv_aload_n hx hb dX6_faults_8 rfl (lv_at hl 0 rfl) ?_
    refine mg_12 K0 hK (nW := 14) (by omega) hZ q1082 dX6_faults_9 ?_
    refine lv_bipush (v := (112)) hx hb dX6_faults_12 (by decide +kernel) ?_
    refine lv_iload_n hx hb dX6_faults_14 rfl (lv_at hl 1 rfl) ?_
    refine lv_iadd hx hb dX6_faults_15 ?_
    refine ma_20 K0 hK hE (nW := 14) (by omega) hZ dX6_faults_16 (fun v16 hE => ?_)
    refine call_S (rest := []) K0 hok hEV hA (c_X6_many l D w A v16) q1185 q1186 q46 q1187 yd_X6_many ⟨by omega, by omega⟩ hRc hE hZ hl.1 rfl (Nat.le_of_ble_eq_true rfl) dX6_faults_17 (fun v17 S H locs cells slots hE hZ => ?_)
    refine W.eq (g2 := F0 m 20 ls [.int v17]) rfl ?_
    refine lv_goto (tgt := 24) hx hb dX6_faults_20 (by decide) ?_
    exact end_i K0 hr hlocks hE hZ dX6_faults_24
def f_X6_hasFault_J22 (u1 : Int32) (u2 : Int32) (z0 : Int32) : PM Int32 := bnd (wrI 5 0 0 z0) (fun _ => bnd (rdI 5 0 0) (fun v26 => if v26 = 0 then (bnd (mld 20 237 ((112 : Int32) + u1)) (fun v40 => if ((v40 >>> (u2 &&& 31)) &&& (1 : Int32)) = (1 : Int32) then (rtnZ (1 : Int32)) else (rtnZ (0 : Int32)))) else (rtnZ (0 : Int32))))
def f_X6_hasFault_J21 (u1 : Int32) (u2 : Int32) : PM Int32 := f_X6_hasFault_J22 u1 u2 (1 : Int32)
def f_X6_hasFault (a1 : Int32) (a2 : Int32) : PM Int32 := bnd (f_X6_isCar a1) (fun v3 => if v3 = 0 then (f_X6_hasFault_J21 a1 a2) else (bnd (f_X6_isStation a2) (fun v11 => if v11 = 0 then (f_X6_hasFault_J21 a1 a2) else (f_X6_hasFault_J22 a1 a2 (0 : Int32)))))
theorem yd_X6_hasFault : yX6_hasFault.cls = RX6 ∧ yX6_hasFault.cls ≠ "java/lang/invoke/MethodHandle" ∧ yX6_hasFault.cls ≠ "java/lang/invoke/VarHandle" ∧ (parseMethodDescriptor yX6_hasFault.desc).map (fun d => d.parameters.length) = some 2 := by decide +kernel
set_option maxHeartbeats 4000000 in
set_option maxRecDepth 100000 in
theorem c_X6_hasFault (l : Launch) (D : va_G) (w : Wm) (A : Nat → Prop) (a1 : Int32) (a2 : Int32) : CT l yX6_hasFault cX6_hasFault 3 (some .boolean) 2 46 (PMo D w A) (ENVM D w) A [.ref (w.2.2 0), .int a1, .int a2] (f_X6_hasFault a1 a2) vI := by
  refine CT.ofW (by decide) [(0, .ref (w.2.2 0)), (1, .int a1), (2, .int a2)] (by simp [lv_args, vr_cat, vc_i, vc_j, vc_f, vc_d, vc_r, vc_n]) (by simp [lg_sl, vr_cat, vc_i, vc_j, vc_f, vc_d, vc_r, vc_n]) ?_
  intro S0 E0 R p e s m args below meth c ls hE hRf hRl hRc K0 hr hlocks hEV hA hZ hl
  have K0 : CallFix p m c cX6_hasFault 3 s args GW RX6 := K0
  have hx := K0.1
  have hb := K0.2.1
  have hown := K0.2.2.2.1
  have hg := K0.2.2.2.2
  have hK := hEV
  have hok : EVok (ENVM D w) A := ENVM.ok
  have j22 : ∀ (u1 : Int32) (u2 : Int32) (z0 : Int32) (S : St) (H : Heap) (locs : List Loc) (cells slots : Nat) (ls : Array Slot), (f_X6_hasFault_J22 u1 u2 z0).1 S = some E0 → ZZ D 14 (adrM w) (celM w) A S0 s.heap S H locs cells slots → lv_has ls 3 [(0, .ref (w.2.2 0)), (1, .int u1), (2, .int u2)] → W p l e R s m args below meth c H locs cells slots (MQ below (QE E0 vI (PMo D w A) A) args s (gN E0.2 7 0 - gN S0 7 0) (gN E0.2 3 0 - gN S0 3 0) A) (F0 m 22 ls [.int z0, .ref (w.2.2 0)]) := by
    intro u1 u2 z0 S H locs cells slots ls hE hZ hl
    unfold f_X6_hasFault_J22 at hE
    refine mp_19 K0 hK hE (nW := 14) (by omega) hZ q1089 dX6_hasFault_22 (fun S H locs hE hZ => ?_)
    refine lv_aload_n hx hb dX6_hasFault_25 rfl (lv_at hl 0 rfl) ?_
    refine mg_19 K0 hK hE (nW := 14) (by omega) hZ q1089 dX6_hasFault_26 (fun v26 hE => ?_)
    refine lv_if_ne (tgt := 53) hx hb dX6_hasFault_29 (by decide) (fun hc => ?_) (fun hc => ?_)
    · have hE := if_f hE hc
      refine lv_iconst (v := (0)) hx hb dX6_hasFault_53 (by decide +kernel) ?_
      exact end_z K0 hr hlocks hE hZ dX6_hasFault_54
    · have hE := if_t hE hc
      refine lv_aload_n hx hb dX6_hasFault_32 rfl (lv_at hl 0 rfl) ?_
      refine mg_12 K0 hK (nW := 14) (by omega) hZ q1082 dX6_hasFault_33 ?_
      refine lv_bipush (v := (112)) hx hb dX6_hasFault_36 (by decide +kernel) ?_
      refine lv_iload_n hx hb dX6_hasFault_38 rfl (lv_at hl 1 rfl) ?_
      refine lv_iadd hx hb dX6_hasFault_39 ?_
      refine ma_20 K0 hK hE (nW := 14) (by omega) hZ dX6_hasFault_40 (fun v40 hE => ?_)
      refine lv_iload_n hx hb dX6_hasFault_41 rfl (lv_at hl 2 rfl) ?_
      refine lv_ishr hx hb dX6_hasFault_42 ?_
      refine lv_iconst (v := (1)) hx hb dX6_hasFault_43 (by decide +kernel) ?_
      refine lv_iand hx hb dX6_hasFault_44 ?_
      refine lv_iconst (v := (1)) hx hb dX6_hasFault_45 (by decide +kernel) ?_
      refine lv_icmp_ne (tgt := 53) hx hb dX6_hasFault_46 (by decide) (fun hc => ?_) (fun hc => ?_)
      · have hE := if_f hE hc
        refine lv_iconst (v := (0)) hx hb dX6_hasFault_53 (by decide +kernel) ?_
        exact end_z K0 hr hlocks hE hZ dX6_hasFault_54
      · have hE := if_t hE hc
        refine lv_iconst (v := (1)) hx hb dX6_hasFault_49 (by decide +kernel) ?_
        refine lv_goto (tgt := 54) hx hb dX6_hasFault_50 (by decide) ?_
        exact end_z K0 hr hlocks hE hZ dX6_hasFault_54
  have j21 : ∀ (u1 : Int32) (u2 : Int32) (S : St) (H : Heap) (locs : List Loc) (cells slots : Nat) (ls : Array Slot), (f_X6_hasFault_J21 u1 u2).1 S = some E0 → ZZ D 14 (adrM w) (celM w) A S0 s.heap S H locs cells slots → lv_has ls 3 [(0, .ref (w.2.2 0)), (1, .int u1), (2, .int u2)] → W p l e R s m args below meth c H locs cells slots (MQ below (QE E0 vI (PMo D w A) A) args s (gN E0.2 7 0 - gN S0 7 0) (gN E0.2 3 0 - gN S0 3 0) A) (F0 m 21 ls [.ref (w.2.2 0)]) := by
    intro u1 u2 S H locs cells slots ls hE hZ hl
    unfold f_X6_hasFault_J21 at hE
    refine lv_iconst (v := (1)) hx hb dX6_hasFault_21 (by decide +kernel) ?_
    exact j22 u1 u2 (1 : Int32) _ _ _ _ _ _ hE hZ (lv_sub hl [0, 1, 2] rfl)
  unfold f_X6_hasFault at hE
  refine lv_aload_n hx hb dX6_hasFault_0 rfl (lv_at hl 0 rfl) ?_
  refine lv_aload_n hx hb dX6_hasFault_1 rfl (lv_at hl 0 rfl) ?_
  refine lv_iload_n hx hb dX6_hasFault_2 rfl (lv_at hl 1 rfl) ?_
  refine call_VS (rest := [.ref (w.2.2 0)]) K0 hok hEV hA (c_X6_isCar l D w A a1) q1169 q1171 q23 q46 q1172 yd_X6_isCar ⟨by omega, by omega⟩ hRc (rc_MO hK (nW := 14) (by omega) hZ) hE hZ hl.1 rfl (Nat.le_of_ble_eq_true rfl) dX6_hasFault_3 (fun v3 S H locs cells slots hE hZ => ?_)
  refine W.eq (g2 := F0 m 6 ls [.int v3, .ref (w.2.2 0)]) rfl ?_
  refine lv_if_eq (tgt := 21) hx hb dX6_hasFault_6 (by decide) (fun hc => ?_) (fun hc => ?_)
  · have hE := if_t hE hc
    exact j21 a1 a2 _ _ _ _ _ _ hE hZ (lv_sub hl [0, 1, 2] rfl)
  · have hE := if_f hE hc
    refine lv_aload_n hx hb dX6_hasFault_9 rfl (lv_at hl 0 rfl) ?_
    refine lv_iload_n hx hb dX6_hasFault_10 rfl (lv_at hl 2 rfl) ?_
    refine call_VS (rest := [.ref (w.2.2 0)]) K0 hok hEV hA (c_X6_isStation l D w A a2) q1181 q1183 q25 q46 q1184 yd_X6_isStation ⟨by omega, by omega⟩ hRc (rc_MO hK (nW := 14) (by omega) hZ) hE hZ hl.1 rfl (Nat.le_of_ble_eq_true rfl) dX6_hasFault_11 (fun v11 S H locs cells slots hE hZ => ?_)
    refine W.eq (g2 := F0 m 14 ls [.int v11, .ref (w.2.2 0)]) rfl ?_
    refine lv_if_eq (tgt := 21) hx hb dX6_hasFault_14 (by decide) (fun hc => ?_) (fun hc => ?_)
    · have hE := if_t hE hc
      exact j21 a1 a2 _ _ _ _ _ _ hE hZ (lv_sub hl [0, 1, 2] rfl)
    · have hE := if_f hE hc
      refine lv_iconst (v := (0)) hx hb dX6_hasFault_17 (by decide +kernel) ?_
      refine lv_goto (tgt := 22) hx hb dX6_hasFault_18 (by decide) ?_
      exact j22 a1 a2 (0 : Int32) _ _ _ _ _ _ hE hZ (lv_sub hl [0, 1, 2] rfl)
def f_X6_lacks_J14 (u1 : Int32) (z0 : Int32) : PM Int32 := bnd (wrI 5 0 0 z0) (fun _ => bnd (rdI 5 0 0) (fun v18 => if v18 = 0 then (bnd (mld 15 8 u1) (fun v29 => rtn v29)) else (rtn (-1 : Int32))))
def f_X6_lacks (a1 : Int32) : PM Int32 := bnd (f_X6_isStation a1) (fun v3 => if v3 = 0 then (f_X6_lacks_J14 a1 (1 : Int32)) else (f_X6_lacks_J14 a1 (0 : Int32)))
theorem yd_X6_lacks : yX6_lacks.cls = RX6 ∧ yX6_lacks.cls ≠ "java/lang/invoke/MethodHandle" ∧ yX6_lacks.cls ≠ "java/lang/invoke/VarHandle" ∧ (parseMethodDescriptor yX6_lacks.desc).map (fun d => d.parameters.length) = some 1 := by decide +kernel
set_option maxHeartbeats 4000000 in
set_option maxRecDepth 100000 in
theorem c_X6_lacks (l : Launch) (D : va_G) (w : Wm) (A : Nat → Prop) (a1 : Int32) : CT l yX6_lacks cX6_lacks 2 (some .int) 2 46 (PMo D w A) (ENVM D w) A [.ref (w.2.2 0), .int a1] (f_X6_lacks a1) vI := by
  refine CT.ofW (by decide) [(0, .ref (w.2.2 0)), (1, .int a1)] (by simp [lv_args, vr_cat, vc_i, vc_j, vc_f, vc_d, vc_r, vc_n]) (by simp [lg_sl, vr_cat, vc_i, vc_j, vc_f, vc_d, vc_r, vc_n]) ?_
  intro S0 E0 R p e s m args below meth c ls hE hRf hRl hRc K0 hr hlocks hEV hA hZ hl
  have K0 : CallFix p m c cX6_lacks 2 s args GW RX6 := K0
  have hx := K0.1
  have hb := K0.2.1
  have hown := K0.2.2.2.1
  have hg := K0.2.2.2.2
  have hK := hEV
  have hok : EVok (ENVM D w) A := ENVM.ok
  have j14 : ∀ (u1 : Int32) (z0 : Int32) (S : St) (H : Heap) (locs : List Loc) (cells slots : Nat) (ls : Array Slot), (f_X6_lacks_J14 u1 z0).1 S = some E0 → ZZ D 14 (adrM w) (celM w) A S0 s.heap S H locs cells slots → lv_has ls 2 [(0, .ref (w.2.2 0)), (1, .int u1)] → W p l e R s m args below meth c H locs cells slots (MQ below (QE E0 vI (PMo D w A) A) args s (gN E0.2 7 0 - gN S0 7 0) (gN E0.2 3 0 - gN S0 3 0) A) (F0 m 14 ls [.int z0, .ref (w.2.2 0)]) := by
    intro u1 z0 S H locs cells slots ls hE hZ hl
    unfold f_X6_lacks_J14 at hE
    refine mp_19 K0 hK hE (nW := 14) (by omega) hZ q1089 dX6_lacks_14 (fun S H locs hE hZ => ?_)
    refine lv_aload_n hx hb dX6_lacks_17 rfl (lv_at hl 0 rfl) ?_
    refine mg_19 K0 hK hE (nW := 14) (by omega) hZ q1089 dX6_lacks_18 (fun v18 hE => ?_)
    refine lv_if_ne (tgt := 33) hx hb dX6_lacks_21 (by decide) (fun hc => ?_) (fun hc => ?_)
    · have hE := if_f hE hc
      refine lv_iconst (v := (-1)) hx hb dX6_lacks_33 (by decide +kernel) ?_
      exact end_i K0 hr hlocks hE hZ dX6_lacks_34
    · have hE := if_t hE hc
      refine lv_aload_n hx hb dX6_lacks_24 rfl (lv_at hl 0 rfl) ?_
      refine mg_4 K0 hK (nW := 14) (by omega) hZ q1074 dX6_lacks_25 ?_
      refine lv_iload_n hx hb dX6_lacks_28 rfl (lv_at hl 1 rfl) ?_
      refine ma_15 K0 hK hE (nW := 14) (by omega) hZ dX6_lacks_29 (fun v29 hE => ?_)
      refine lv_goto (tgt := 34) hx hb dX6_lacks_30 (by decide) ?_
      exact end_i K0 hr hlocks hE hZ dX6_lacks_34
  unfold f_X6_lacks at hE
  refine lv_aload_n hx hb dX6_lacks_0 rfl (lv_at hl 0 rfl) ?_
  refine lv_aload_n hx hb dX6_lacks_1 rfl (lv_at hl 0 rfl) ?_
  refine lv_iload_n hx hb dX6_lacks_2 rfl (lv_at hl 1 rfl) ?_
  refine call_VS (rest := [.ref (w.2.2 0)]) K0 hok hEV hA (c_X6_isStation l D w A a1) q1181 q1183 q25 q46 q1184 yd_X6_isStation ⟨by omega, by omega⟩ hRc (rc_MO hK (nW := 14) (by omega) hZ) hE hZ hl.1 rfl (Nat.le_of_ble_eq_true rfl) dX6_lacks_3 (fun v3 S H locs cells slots hE hZ => ?_)
  refine W.eq (g2 := F0 m 6 ls [.int v3, .ref (w.2.2 0)]) rfl ?_
  refine lv_if_eq (tgt := 13) hx hb dX6_lacks_6 (by decide) (fun hc => ?_) (fun hc => ?_)
  · have hE := if_t hE hc
    refine lv_iconst (v := (1)) hx hb dX6_lacks_13 (by decide +kernel) ?_
    exact j14 a1 (1 : Int32) _ _ _ _ _ _ hE hZ (lv_sub hl [0, 1] rfl)
  · have hE := if_f hE hc
    refine lv_iconst (v := (0)) hx hb dX6_lacks_9 (by decide +kernel) ?_
    refine lv_goto (tgt := 14) hx hb dX6_lacks_10 (by decide) ?_
    exact j14 a1 (0 : Int32) _ _ _ _ _ _ hE hZ (lv_sub hl [0, 1] rfl)
def f_X6_lacksOf_L31 : Nat → Int32 → Int32 → Int32 → PM Int32
  | 0, _, _, _ => fail
  | n9 + 1, u1, u2, u3 => bnd (rdI 0 0 0) (fun v33 => if v33 ≤ u3 then (rtn u2) else (bnd (rdI 5 0 0) (fun v40 => if v40 = 0 then (bnd (mld 12 8 u3) (fun v52 => if v52 = u1 then (bnd (mld 15 8 u3) (fun v62 => bnd (rtn (u2 + v62)) (fun w68 => f_X6_lacksOf_L31 n9 u1 w68 (u3 + (1 : Int32))))) else (bnd (rtn (u2 + (0 : Int32))) (fun w68 => f_X6_lacksOf_L31 n9 u1 w68 (u3 + (1 : Int32)))))) else (rtn u2))))
def f_X6_lacksOf_J13 (u1 : Int32) (z0 : Int32) : PM Int32 := bnd (wrI 5 0 0 z0) (fun _ => bnd (rdI 5 0 0) (fun v17 => if v17 = 0 then (f_X6_lacksOf_L31 400 u1 (0 : Int32) (0 : Int32)) else (f_X6_lacksOf_L31 400 u1 (-1 : Int32) (0 : Int32))))
def f_X6_lacksOf (a1 : Int32) : PM Int32 := bnd (f_X6_isPart a1) (fun v2 => if v2 = 0 then (f_X6_lacksOf_J13 a1 (1 : Int32)) else (f_X6_lacksOf_J13 a1 (0 : Int32)))
theorem yd_X6_lacksOf : yX6_lacksOf.cls = RX6 ∧ yX6_lacksOf.cls ≠ "java/lang/invoke/MethodHandle" ∧ yX6_lacksOf.cls ≠ "java/lang/invoke/VarHandle" ∧ (parseMethodDescriptor yX6_lacksOf.desc).map (fun d => d.parameters.length) = some 1 := by decide +kernel
set_option maxHeartbeats 4000000 in
set_option maxRecDepth 100000 in
theorem c_X6_lacksOf (l : Launch) (D : va_G) (w : Wm) (A : Nat → Prop) (a1 : Int32) : CT l yX6_lacksOf cX6_lacksOf 4 (some .int) 2 45 (PMo D w A) (ENVM D w) A [.ref (w.2.2 0), .int a1] (f_X6_lacksOf a1) vI := by
  refine CT.ofW (by decide) [(0, .ref (w.2.2 0)), (1, .int a1)] (by simp [lv_args, vr_cat, vc_i, vc_j, vc_f, vc_d, vc_r, vc_n]) (by simp [lg_sl, vr_cat, vc_i, vc_j, vc_f, vc_d, vc_r, vc_n]) ?_
  intro S0 E0 R p e s m args below meth c ls hE hRf hRl hRc K0 hr hlocks hEV hA hZ hl
  have K0 : CallFix p m c cX6_lacksOf 4 s args GW RX6 := K0
  have hx := K0.1
  have hb := K0.2.1
  have hown := K0.2.2.2.1
  have hg := K0.2.2.2.2
  have hK := hEV
  have hok : EVok (ENVM D w) A := ENVM.ok
  have j31 : ∀ (n9 : Nat) (u1 : Int32) (u2 : Int32) (u3 : Int32) (S : St) (H : Heap) (locs : List Loc) (cells slots : Nat) (ls : Array Slot), (f_X6_lacksOf_L31 n9 u1 u2 u3).1 S = some E0 → ZZ D 14 (adrM w) (celM w) A S0 s.heap S H locs cells slots → lv_has ls 4 [(0, .ref (w.2.2 0)), (1, .int u1), (2, .int u2), (3, .int u3)] → W p l e R s m args below meth c H locs cells slots (MQ below (QE E0 vI (PMo D w A) A) args s (gN E0.2 7 0 - gN S0 7 0) (gN E0.2 3 0 - gN S0 3 0) A) (F0 m 31 ls []) := by
    intro n9
    induction n9 with
    | zero =>
      intro u1 u2 u3 S H locs cells slots ls hE hZ hl
      rw [f_X6_lacksOf_L31] at hE
      cases hE
    | succ n9 ih =>
      intro u1 u2 u3 S H locs cells slots ls hE hZ hl
      rw [f_X6_lacksOf_L31] at hE
      refine lv_iload_n hx hb dX6_lacksOf_31 rfl (lv_at hl 3 rfl) ?_
      refine lv_aload_n hx hb dX6_lacksOf_32 rfl (lv_at hl 0 rfl) ?_
      refine mg_5 K0 hK hE (nW := 14) (by omega) hZ q1075 dX6_lacksOf_33 (fun v33 hE => ?_)
      refine lv_icmp_ge (tgt := 75) hx hb dX6_lacksOf_36 (by decide) (fun hc => ?_) (fun hc => ?_)
      · have hE := if_t hE hc
        refine lv_iload_n hx hb dX6_lacksOf_75 rfl (lv_at hl 2 rfl) ?_
        exact end_i K0 hr hlocks hE hZ dX6_lacksOf_76
      · have hE := if_f hE hc
        refine lv_aload_n hx hb dX6_lacksOf_39 rfl (lv_at hl 0 rfl) ?_
        refine mg_19 K0 hK hE (nW := 14) (by omega) hZ q1089 dX6_lacksOf_40 (fun v40 hE => ?_)
        refine lv_if_ne (tgt := 75) hx hb dX6_lacksOf_43 (by decide) (fun hc => ?_) (fun hc => ?_)
        · have hE := if_f hE hc
          refine lv_iload_n hx hb dX6_lacksOf_75 rfl (lv_at hl 2 rfl) ?_
          exact end_i K0 hr hlocks hE hZ dX6_lacksOf_76
        · have hE := if_t hE hc
          refine lv_iload_n hx hb dX6_lacksOf_46 rfl (lv_at hl 2 rfl) ?_
          refine lv_aload_n hx hb dX6_lacksOf_47 rfl (lv_at hl 0 rfl) ?_
          refine mg_1 K0 hK (nW := 14) (by omega) hZ q1071 dX6_lacksOf_48 ?_
          refine lv_iload_n hx hb dX6_lacksOf_51 rfl (lv_at hl 3 rfl) ?_
          refine ma_12 K0 hK hE (nW := 14) (by omega) hZ dX6_lacksOf_52 (fun v52 hE => ?_)
          refine lv_iload_n hx hb dX6_lacksOf_53 rfl (lv_at hl 1 rfl) ?_
          refine lv_icmp_ne (tgt := 66) hx hb dX6_lacksOf_54 (by decide) (fun hc => ?_) (fun hc => ?_)
          · have hE := if_f hE hc
            refine lv_iconst (v := (0)) hx hb dX6_lacksOf_66 (by decide +kernel) ?_
            refine lv_iadd hx hb dX6_lacksOf_67 ?_
            refine let_i hE (fun w68 hE => ?_)
            refine lv_istore_n (i := 2) (lv' := [(2, .int w68), (0, .ref (w.2.2 0)), (1, .int u1), (3, .int u3)]) hx hb dX6_lacksOf_68 rfl hl (by decide) rfl (fun ls hl => ?_)
            refine lv_iinc (v := (u3 + (1 : Int32))) (lv' := [(3, .int (u3 + (1 : Int32))), (2, .int w68), (0, .ref (w.2.2 0)), (1, .int u1)]) hx hb dX6_lacksOf_69 hl (k := 3) rfl rfl (by decide) rfl (fun ls hl => ?_)
            refine lv_goto (tgt := 31) hx hb dX6_lacksOf_72 (by decide) ?_
            exact ih u1 w68 (u3 + (1 : Int32)) _ _ _ _ _ _ hE hZ (lv_sub hl [2, 3, 1, 0] rfl)
          · have hE := if_t hE hc
            refine lv_aload_n hx hb dX6_lacksOf_57 rfl (lv_at hl 0 rfl) ?_
            refine mg_4 K0 hK (nW := 14) (by omega) hZ q1074 dX6_lacksOf_58 ?_
            refine lv_iload_n hx hb dX6_lacksOf_61 rfl (lv_at hl 3 rfl) ?_
            refine ma_15 K0 hK hE (nW := 14) (by omega) hZ dX6_lacksOf_62 (fun v62 hE => ?_)
            refine lv_goto (tgt := 67) hx hb dX6_lacksOf_63 (by decide) ?_
            refine lv_iadd hx hb dX6_lacksOf_67 ?_
            refine let_i hE (fun w68 hE => ?_)
            refine lv_istore_n (i := 2) (lv' := [(2, .int w68), (0, .ref (w.2.2 0)), (1, .int u1), (3, .int u3)]) hx hb dX6_lacksOf_68 rfl hl (by decide) rfl (fun ls hl => ?_)
            refine lv_iinc (v := (u3 + (1 : Int32))) (lv' := [(3, .int (u3 + (1 : Int32))), (2, .int w68), (0, .ref (w.2.2 0)), (1, .int u1)]) hx hb dX6_lacksOf_69 hl (k := 3) rfl rfl (by decide) rfl (fun ls hl => ?_)
            refine lv_goto (tgt := 31) hx hb dX6_lacksOf_72 (by decide) ?_
            exact ih u1 w68 (u3 + (1 : Int32)) _ _ _ _ _ _ hE hZ (lv_sub hl [2, 3, 1, 0] rfl)
  have j13 : ∀ (u1 : Int32) (z0 : Int32) (S : St) (H : Heap) (locs : List Loc) (cells slots : Nat) (ls : Array Slot), (f_X6_lacksOf_J13 u1 z0).1 S = some E0 → ZZ D 14 (adrM w) (celM w) A S0 s.heap S H locs cells slots → lv_has ls 4 [(0, .ref (w.2.2 0)), (1, .int u1)] → W p l e R s m args below meth c H locs cells slots (MQ below (QE E0 vI (PMo D w A) A) args s (gN E0.2 7 0 - gN S0 7 0) (gN E0.2 3 0 - gN S0 3 0) A) (F0 m 13 ls [.int z0, .ref (w.2.2 0)]) := by
    intro u1 z0 S H locs cells slots ls hE hZ hl
    unfold f_X6_lacksOf_J13 at hE
    refine mp_19 K0 hK hE (nW := 14) (by omega) hZ q1089 dX6_lacksOf_13 (fun S H locs hE hZ => ?_)
    refine lv_aload_n hx hb dX6_lacksOf_16 rfl (lv_at hl 0 rfl) ?_
    refine mg_19 K0 hK hE (nW := 14) (by omega) hZ q1089 dX6_lacksOf_17 (fun v17 hE => ?_)
    refine lv_if_ne (tgt := 27) hx hb dX6_lacksOf_20 (by decide) (fun hc => ?_) (fun hc => ?_)
    · have hE := if_f hE hc
      refine lv_iconst (v := (-1)) hx hb dX6_lacksOf_27 (by decide +kernel) ?_
      refine lv_istore_n (i := 2) (lv' := [(2, .int (-1 : Int32)), (0, .ref (w.2.2 0)), (1, .int u1)]) hx hb dX6_lacksOf_28 rfl hl (by decide) rfl (fun ls hl => ?_)
      refine lv_iconst (v := (0)) hx hb dX6_lacksOf_29 (by decide +kernel) ?_
      refine lv_istore_n (i := 3) (lv' := [(3, .int (0 : Int32)), (2, .int (-1 : Int32)), (0, .ref (w.2.2 0)), (1, .int u1)]) hx hb dX6_lacksOf_30 rfl hl (by decide) rfl (fun ls hl => ?_)
      exact j31 400 u1 (-1 : Int32) (0 : Int32) _ _ _ _ _ _ hE hZ (lv_sub hl [2, 3, 1, 0] rfl)
    · have hE := if_t hE hc
      refine lv_iconst (v := (0)) hx hb dX6_lacksOf_23 (by decide +kernel) ?_
      refine lv_goto (tgt := 28) hx hb dX6_lacksOf_24 (by decide) ?_
      refine lv_istore_n (i := 2) (lv' := [(2, .int (0 : Int32)), (0, .ref (w.2.2 0)), (1, .int u1)]) hx hb dX6_lacksOf_28 rfl hl (by decide) rfl (fun ls hl => ?_)
      refine lv_iconst (v := (0)) hx hb dX6_lacksOf_29 (by decide +kernel) ?_
      refine lv_istore_n (i := 3) (lv' := [(3, .int (0 : Int32)), (2, .int (0 : Int32)), (0, .ref (w.2.2 0)), (1, .int u1)]) hx hb dX6_lacksOf_30 rfl hl (by decide) rfl (fun ls hl => ?_)
      exact j31 400 u1 (0 : Int32) (0 : Int32) _ _ _ _ _ _ hE hZ (lv_sub hl [2, 3, 1, 0] rfl)
  unfold f_X6_lacksOf at hE
  refine lv_aload_n hx hb dX6_lacksOf_0 rfl (lv_at hl 0 rfl) ?_
  refine lv_iload_n hx hb dX6_lacksOf_1 rfl (lv_at hl 1 rfl) ?_
  refine call_S (rest := [.ref (w.2.2 0)]) K0 hok hEV hA (c_X6_isPart l D w A a1) q1151 q1152 q46 q1153 yd_X6_isPart ⟨by omega, by omega⟩ hRc hE hZ hl.1 rfl (Nat.le_of_ble_eq_true rfl) dX6_lacksOf_2 (fun v2 S H locs cells slots hE hZ => ?_)
  refine W.eq (g2 := F0 m 5 ls [.int v2, .ref (w.2.2 0)]) rfl ?_
  refine lv_if_eq (tgt := 12) hx hb dX6_lacksOf_5 (by decide) (fun hc => ?_) (fun hc => ?_)
  · have hE := if_t hE hc
    refine lv_iconst (v := (1)) hx hb dX6_lacksOf_12 (by decide +kernel) ?_
    exact j13 a1 (1 : Int32) _ _ _ _ _ _ hE hZ (lv_sub hl [0, 1] rfl)
  · have hE := if_f hE hc
    refine lv_iconst (v := (0)) hx hb dX6_lacksOf_8 (by decide +kernel) ?_
    refine lv_goto (tgt := 13) hx hb dX6_lacksOf_9 (by decide) ?_
    exact j13 a1 (0 : Int32) _ _ _ _ _ _ hE hZ (lv_sub hl [0, 1] rfl)
def f_X6_onShelf_J14 (u1 : Int32) (z0 : Int32) : PM Int32 := bnd (wrI 5 0 0 z0) (fun _ => bnd (rdI 5 0 0) (fun v18 => if v18 = 0 then (bnd (mld 20 237 ((6 : Int32) + u1)) (fun v32 => rtn v32)) else (rtn (-1 : Int32))))
def f_X6_onShelf (a1 : Int32) : PM Int32 := bnd (f_X6_isStation a1) (fun v3 => if v3 = 0 then (f_X6_onShelf_J14 a1 (1 : Int32)) else (f_X6_onShelf_J14 a1 (0 : Int32)))
theorem yd_X6_onShelf : yX6_onShelf.cls = RX6 ∧ yX6_onShelf.cls ≠ "java/lang/invoke/MethodHandle" ∧ yX6_onShelf.cls ≠ "java/lang/invoke/VarHandle" ∧ (parseMethodDescriptor yX6_onShelf.desc).map (fun d => d.parameters.length) = some 1 := by decide +kernel
set_option maxHeartbeats 4000000 in
set_option maxRecDepth 100000 in
theorem c_X6_onShelf (l : Launch) (D : va_G) (w : Wm) (A : Nat → Prop) (a1 : Int32) : CT l yX6_onShelf cX6_onShelf 2 (some .int) 2 46 (PMo D w A) (ENVM D w) A [.ref (w.2.2 0), .int a1] (f_X6_onShelf a1) vI := by
  refine CT.ofW (by decide) [(0, .ref (w.2.2 0)), (1, .int a1)] (by simp [lv_args, vr_cat, vc_i, vc_j, vc_f, vc_d, vc_r, vc_n]) (by simp [lg_sl, vr_cat, vc_i, vc_j, vc_f, vc_d, vc_r, vc_n]) ?_
  intro S0 E0 R p e s m args below meth c ls hE hRf hRl hRc K0 hr hlocks hEV hA hZ hl
  have K0 : CallFix p m c cX6_onShelf 2 s args GW RX6 := K0
  have hx := K0.1
  have hb := K0.2.1
  have hown := K0.2.2.2.1
  have hg := K0.2.2.2.2
  have hK := hEV
  have hok : EVok (ENVM D w) A := ENVM.ok
  have j14 : ∀ (u1 : Int32) (z0 : Int32) (S : St) (H : Heap) (locs : List Loc) (cells slots : Nat) (ls : Array Slot), (f_X6_onShelf_J14 u1 z0).1 S = some E0 → ZZ D 14 (adrM w) (celM w) A S0 s.heap S H locs cells slots → lv_has ls 2 [(0, .ref (w.2.2 0)), (1, .int u1)] → W p l e R s m args below meth c H locs cells slots (MQ below (QE E0 vI (PMo D w A) A) args s (gN E0.2 7 0 - gN S0 7 0) (gN E0.2 3 0 - gN S0 3 0) A) (F0 m 14 ls [.int z0, .ref (w.2.2 0)]) := by
    intro u1 z0 S H locs cells slots ls hE hZ hl
    unfold f_X6_onShelf_J14 at hE
    refine mp_19 K0 hK hE (nW := 14) (by omega) hZ q1089 dX6_onShelf_14 (fun S H locs hE hZ => ?_)
    refine lv_aload_n hx hb dX6_onShelf_17 rfl (lv_at hl 0 rfl) ?_
    refine mg_19 K0 hK hE (nW := 14) (by omega) hZ q1089 dX6_onShelf_18 (fun v18 hE => ?_)
    refine lv_if_ne (tgt := 36) hx hb dX6_onShelf_21 (by decide) (fun hc => ?_) (fun hc => ?_)
    · have hE := if_f hE hc
      refine lv_iconst (v := (-1)) hx hb dX6_onShelf_36 (by decide +kernel) ?_
      exact end_i K0 hr hlocks hE hZ dX6_onShelf_37
    · have hE := if_t hE hc
      refine lv_aload_n hx hb dX6_onShelf_24 rfl (lv_at hl 0 rfl) ?_
      refine mg_12 K0 hK (nW := 14) (by omega) hZ q1082 dX6_onShelf_25 ?_
      refine lv_bipush (v := (6)) hx hb dX6_onShelf_28 (by decide +kernel) ?_
      refine lv_iload_n hx hb dX6_onShelf_30 rfl (lv_at hl 1 rfl) ?_
      refine lv_iadd hx hb dX6_onShelf_31 ?_
      refine ma_20 K0 hK hE (nW := 14) (by omega) hZ dX6_onShelf_32 (fun v32 hE => ?_)
      refine lv_goto (tgt := 37) hx hb dX6_onShelf_33 (by decide) ?_
      exact end_i K0 hr hlocks hE hZ dX6_onShelf_37
  unfold f_X6_onShelf at hE
  refine lv_aload_n hx hb dX6_onShelf_0 rfl (lv_at hl 0 rfl) ?_
  refine lv_aload_n hx hb dX6_onShelf_1 rfl (lv_at hl 0 rfl) ?_
  refine lv_iload_n hx hb dX6_onShelf_2 rfl (lv_at hl 1 rfl) ?_
  refine call_VS (rest := [.ref (w.2.2 0)]) K0 hok hEV hA (c_X6_isStation l D w A a1) q1181 q1183 q25 q46 q1184 yd_X6_isStation ⟨by omega, by omega⟩ hRc (rc_MO hK (nW := 14) (by omega) hZ) hE hZ hl.1 rfl (Nat.le_of_ble_eq_true rfl) dX6_onShelf_3 (fun v3 S H locs cells slots hE hZ => ?_)
  refine W.eq (g2 := F0 m 6 ls [.int v3, .ref (w.2.2 0)]) rfl ?_
  refine lv_if_eq (tgt := 13) hx hb dX6_onShelf_6 (by decide) (fun hc => ?_) (fun hc => ?_)
  · have hE := if_t hE hc
    refine lv_iconst (v := (1)) hx hb dX6_onShelf_13 (by decide +kernel) ?_
    exact j14 a1 (1 : Int32) _ _ _ _ _ _ hE hZ (lv_sub hl [0, 1] rfl)
  · have hE := if_f hE hc
    refine lv_iconst (v := (0)) hx hb dX6_onShelf_9 (by decide +kernel) ?_
    refine lv_goto (tgt := 14) hx hb dX6_onShelf_10 (by decide) ?_
    exact j14 a1 (0 : Int32) _ _ _ _ _ _ hE hZ (lv_sub hl [0, 1] rfl)
def f_X6_inStore_J13 (u1 : Int32) (z0 : Int32) : PM Int32 := bnd (wrI 5 0 0 z0) (fun _ => bnd (rdI 5 0 0) (fun v17 => if v17 = 0 then (bnd (mld 20 237 u1) (fun v28 => rtn v28)) else (rtn (-1 : Int32))))
def f_X6_inStore (a1 : Int32) : PM Int32 := bnd (f_X6_isPart a1) (fun v2 => if v2 = 0 then (f_X6_inStore_J13 a1 (1 : Int32)) else (f_X6_inStore_J13 a1 (0 : Int32)))
theorem yd_X6_inStore : yX6_inStore.cls = RX6 ∧ yX6_inStore.cls ≠ "java/lang/invoke/MethodHandle" ∧ yX6_inStore.cls ≠ "java/lang/invoke/VarHandle" ∧ (parseMethodDescriptor yX6_inStore.desc).map (fun d => d.parameters.length) = some 1 := by decide +kernel
set_option maxHeartbeats 4000000 in
set_option maxRecDepth 100000 in
theorem c_X6_inStore (l : Launch) (D : va_G) (w : Wm) (A : Nat → Prop) (a1 : Int32) : CT l yX6_inStore cX6_inStore 2 (some .int) 2 45 (PMo D w A) (ENVM D w) A [.ref (w.2.2 0), .int a1] (f_X6_inStore a1) vI := by
  refine CT.ofW (by decide) [(0, .ref (w.2.2 0)), (1, .int a1)] (by simp [lv_args, vr_cat, vc_i, vc_j, vc_f, vc_d, vc_r, vc_n]) (by simp [lg_sl, vr_cat, vc_i, vc_j, vc_f, vc_d, vc_r, vc_n]) ?_
  intro S0 E0 R p e s m args below meth c ls hE hRf hRl hRc K0 hr hlocks hEV hA hZ hl
  have K0 : CallFix p m c cX6_inStore 2 s args GW RX6 := K0
  have hx := K0.1
  have hb := K0.2.1
  have hown := K0.2.2.2.1
  have hg := K0.2.2.2.2
  have hK := hEV
  have hok : EVok (ENVM D w) A := ENVM.ok
  have j13 : ∀ (u1 : Int32) (z0 : Int32) (S : St) (H : Heap) (locs : List Loc) (cells slots : Nat) (ls : Array Slot), (f_X6_inStore_J13 u1 z0).1 S = some E0 → ZZ D 14 (adrM w) (celM w) A S0 s.heap S H locs cells slots → lv_has ls 2 [(0, .ref (w.2.2 0)), (1, .int u1)] → W p l e R s m args below meth c H locs cells slots (MQ below (QE E0 vI (PMo D w A) A) args s (gN E0.2 7 0 - gN S0 7 0) (gN E0.2 3 0 - gN S0 3 0) A) (F0 m 13 ls [.int z0, .ref (w.2.2 0)]) := by
    intro u1 z0 S H locs cells slots ls hE hZ hl
    unfold f_X6_inStore_J13 at hE
    refine mp_19 K0 hK hE (nW := 14) (by omega) hZ q1089 dX6_inStore_13 (fun S H locs hE hZ => ?_)
    refine lv_aload_n hx hb dX6_inStore_16 rfl (lv_at hl 0 rfl) ?_
    refine mg_19 K0 hK hE (nW := 14) (by omega) hZ q1089 dX6_inStore_17 (fun v17 hE => ?_)
    refine lv_if_ne (tgt := 32) hx hb dX6_inStore_20 (by decide) (fun hc => ?_) (fun hc => ?_)
    · have hE := if_f hE hc
      refine lv_iconst (v := (-1)) hx hb dX6_inStore_32 (by decide +kernel) ?_
      exact end_i K0 hr hlocks hE hZ dX6_inStore_33
    · have hE := if_t hE hc
      refine lv_aload_n hx hb dX6_inStore_23 rfl (lv_at hl 0 rfl) ?_
      refine mg_12 K0 hK (nW := 14) (by omega) hZ q1082 dX6_inStore_24 ?_
      refine lv_iload_n hx hb dX6_inStore_27 rfl (lv_at hl 1 rfl) ?_
      refine ma_20 K0 hK hE (nW := 14) (by omega) hZ dX6_inStore_28 (fun v28 hE => ?_)
      refine lv_goto (tgt := 33) hx hb dX6_inStore_29 (by decide) ?_
      exact end_i K0 hr hlocks hE hZ dX6_inStore_33
  unfold f_X6_inStore at hE
  refine lv_aload_n hx hb dX6_inStore_0 rfl (lv_at hl 0 rfl) ?_
  refine lv_iload_n hx hb dX6_inStore_1 rfl (lv_at hl 1 rfl) ?_
  refine call_S (rest := [.ref (w.2.2 0)]) K0 hok hEV hA (c_X6_isPart l D w A a1) q1151 q1152 q46 q1153 yd_X6_isPart ⟨by omega, by omega⟩ hRc hE hZ hl.1 rfl (Nat.le_of_ble_eq_true rfl) dX6_inStore_2 (fun v2 S H locs cells slots hE hZ => ?_)
  refine W.eq (g2 := F0 m 5 ls [.int v2, .ref (w.2.2 0)]) rfl ?_
  refine lv_if_eq (tgt := 12) hx hb dX6_inStore_5 (by decide) (fun hc => ?_) (fun hc => ?_)
  · have hE := if_t hE hc
    refine lv_iconst (v := (1)) hx hb dX6_inStore_12 (by decide +kernel) ?_
    exact j13 a1 (1 : Int32) _ _ _ _ _ _ hE hZ (lv_sub hl [0, 1] rfl)
  · have hE := if_f hE hc
    refine lv_iconst (v := (0)) hx hb dX6_inStore_8 (by decide +kernel) ?_
    refine lv_goto (tgt := 13) hx hb dX6_inStore_9 (by decide) ?_
    exact j13 a1 (0 : Int32) _ _ _ _ _ _ hE hZ (lv_sub hl [0, 1] rfl)
def f_X6_nextRound  : PM Int32 := bnd (wrI 5 0 0 (0 : Int32)) (fun _ => bnd (rdI 1 0 0) (fun v6 => bnd (mld 20 237 (232 : Int32)) (fun v16 => bnd (rdI 1 0 0) (fun v18 => if ¬ v18 = 0 then (rtn (v6 - (v16 - v16 / v18 * v18))) else fail))))
theorem yd_X6_nextRound : yX6_nextRound.cls = RX6 ∧ yX6_nextRound.cls ≠ "java/lang/invoke/MethodHandle" ∧ yX6_nextRound.cls ≠ "java/lang/invoke/VarHandle" ∧ (parseMethodDescriptor yX6_nextRound.desc).map (fun d => d.parameters.length) = some 0 := by decide +kernel
set_option maxHeartbeats 4000000 in
set_option maxRecDepth 100000 in
theorem c_X6_nextRound (l : Launch) (D : va_G) (w : Wm) (A : Nat → Prop) : CT l yX6_nextRound cX6_nextRound 1 (some .int) 0 0 (PMo D w A) (ENVM D w) A [.ref (w.2.2 0)] (f_X6_nextRound ) vI := by
  refine CT.ofW (by decide) [(0, .ref (w.2.2 0))] (by simp [lv_args, vr_cat, vc_i, vc_j, vc_f, vc_d, vc_r, vc_n]) (by simp [lg_sl, vr_cat, vc_i, vc_j, vc_f, vc_d, vc_r, vc_n]) ?_
  intro S0 E0 R p e s m args below meth c ls hE hRf hRl hRc K0 hr hlocks hEV hA hZ hl
  have K0 : CallFix p m c cX6_nextRound 1 s args GW RX6 := K0
  have hx := K0.1
  have hb := K0.2.1
  have hown := K0.2.2.2.1
  have hg := K0.2.2.2.2
  have hK := hEV
  have hok : EVok (ENVM D w) A := ENVM.ok
  unfold f_X6_nextRound at hE
  refine lv_aload_n hx hb dX6_nextRound_0 rfl (lv_at hl 0 rfl) ?_
  refine lv_iconst (v := (0)) hx hb dX6_nextRound_1 (by decide +kernel) ?_
  refine mp_19 K0 hK hE (nW := 14) (by omega) hZ q1089 dX6_nextRound_2 (fun S H locs hE hZ => ?_)
  refine lv_aload_n hx hb dX6_nextRound_5 rfl (lv_at hl 0 rfl) ?_
  refine mg_6 K0 hK hE (nW := 14) (by omega) hZ q1076 dX6_nextRound_6 (fun v6 hE => ?_)
  refine lv_aload_n hx hb dX6_nextRound_9 rfl (lv_at hl 0 rfl) ?_
  refine mg_12 K0 hK (nW := 14) (by omega) hZ q1082 dX6_nextRound_10 ?_
  refine lv_sipush (v := (232)) hx hb dX6_nextRound_13 (by decide +kernel) ?_
  refine ma_20 K0 hK hE (nW := 14) (by omega) hZ dX6_nextRound_16 (fun v16 hE => ?_)
  refine lv_aload_n hx hb dX6_nextRound_17 rfl (lv_at hl 0 rfl) ?_
  refine mg_6 K0 hK hE (nW := 14) (by omega) hZ q1076 dX6_nextRound_18 (fun v18 hE => ?_)
  obtain ⟨hc, hE⟩ := if_ok hE
  refine lv_irem hx hb dX6_nextRound_21 hc ?_
  refine lv_isub hx hb dX6_nextRound_22 ?_
  exact end_i K0 hr hlocks hE hZ dX6_nextRound_23
def f_X6_leavesIn_L50 : Nat → Int32 → Int32 → PM Int32
  | 0, _, _ => fail
  | n9 + 1, u1, u2 => if (300 : Int32) ≤ u2 then (bnd (mld 20 237 ((82 : Int32) + u1)) (fun v89 => if v89 = (100 : Int32) then (bnd (f_X6_putsBack ) (fun _ => bnd (wrI 5 0 0 (0 : Int32)) (fun _ => rtn u2))) else (bnd (f_X6_putsBack ) (fun _ => bnd (wrI 5 0 0 (3 : Int32)) (fun _ => rtn (-1 : Int32)))))) else (bnd (mld 20 237 ((82 : Int32) + u1)) (fun v65 => if v65 = (100 : Int32) then (bnd (mld 20 237 ((82 : Int32) + u1)) (fun v89 => if v89 = (100 : Int32) then (bnd (f_X6_putsBack ) (fun _ => bnd (wrI 5 0 0 (0 : Int32)) (fun _ => rtn u2))) else (bnd (f_X6_putsBack ) (fun _ => bnd (wrI 5 0 0 (3 : Int32)) (fun _ => rtn (-1 : Int32)))))) else (bnd (f_X6_ticks ) (fun _ => f_X6_leavesIn_L50 n9 u1 (u2 + (1 : Int32))))))
def f_X6_leavesIn_J32 (u1 : Int32) (z0 : Int32) : PM Int32 := bnd (wrI 5 0 0 z0) (fun _ => bnd (rdI 5 0 0) (fun v36 => if v36 ≤ 0 then (bnd (f_X6_keeps ) (fun _ => f_X6_leavesIn_L50 400 u1 (0 : Int32))) else (rtn (-1 : Int32))))
def f_X6_leavesIn (a1 : Int32) : PM Int32 := bnd (f_X6_isCar a1) (fun v3 => if v3 = 0 then (f_X6_leavesIn_J32 a1 (1 : Int32)) else (bnd (mld 20 237 ((82 : Int32) + a1)) (fun v21 => if v21 = (100 : Int32) then (f_X6_leavesIn_J32 a1 (2 : Int32)) else (f_X6_leavesIn_J32 a1 (0 : Int32)))))
theorem yd_X6_leavesIn : yX6_leavesIn.cls = RX6 ∧ yX6_leavesIn.cls ≠ "java/lang/invoke/MethodHandle" ∧ yX6_leavesIn.cls ≠ "java/lang/invoke/VarHandle" ∧ (parseMethodDescriptor yX6_leavesIn.desc).map (fun d => d.parameters.length) = some 1 := by decide +kernel
set_option maxHeartbeats 4000000 in
set_option maxRecDepth 100000 in
theorem c_X6_leavesIn (l : Launch) (D : va_G) (w : Wm) (A : Nat → Prop) (a1 : Int32) : CT l yX6_leavesIn cX6_leavesIn 4 (some .int) 4 99 (PMo D w A) (ENVM D w) A [.ref (w.2.2 0), .int a1] (f_X6_leavesIn a1) vI := by
  refine CT.ofW (by decide) [(0, .ref (w.2.2 0)), (1, .int a1)] (by simp [lv_args, vr_cat, vc_i, vc_j, vc_f, vc_d, vc_r, vc_n]) (by simp [lg_sl, vr_cat, vc_i, vc_j, vc_f, vc_d, vc_r, vc_n]) ?_
  intro S0 E0 R p e s m args below meth c ls hE hRf hRl hRc K0 hr hlocks hEV hA hZ hl
  have K0 : CallFix p m c cX6_leavesIn 4 s args GW RX6 := K0
  have hx := K0.1
  have hb := K0.2.1
  have hown := K0.2.2.2.1
  have hg := K0.2.2.2.2
  have hK := hEV
  have hok : EVok (ENVM D w) A := ENVM.ok
  have j50 : ∀ (n9 : Nat) (u1 : Int32) (u2 : Int32) (S : St) (H : Heap) (locs : List Loc) (cells slots : Nat) (ls : Array Slot), (f_X6_leavesIn_L50 n9 u1 u2).1 S = some E0 → ZZ D 14 (adrM w) (celM w) A S0 s.heap S H locs cells slots → lv_has ls 4 [(0, .ref (w.2.2 0)), (1, .int u1), (2, .int u2)] → W p l e R s m args below meth c H locs cells slots (MQ below (QE E0 vI (PMo D w A) A) args s (gN E0.2 7 0 - gN S0 7 0) (gN E0.2 3 0 - gN S0 3 0) A) (F0 m 50 ls []) := by
    intro n9
    induction n9 with
    | zero =>
      intro u1 u2 S H locs cells slots ls hE hZ hl
      rw [f_X6_leavesIn_L50] at hE
      cases hE
    | succ n9 ih =>
      intro u1 u2 S H locs cells slots ls hE hZ hl
      rw [f_X6_leavesIn_L50] at hE
      refine lv_iload_n hx hb dX6_leavesIn_50 rfl (lv_at hl 2 rfl) ?_
      refine lv_sipush (v := (300)) hx hb dX6_leavesIn_51 (by decide +kernel) ?_
      refine lv_icmp_ge (tgt := 81) hx hb dX6_leavesIn_54 (by decide) (fun hc => ?_) (fun hc => ?_)
      · have hE := if_t hE hc
        refine lv_aload_n hx hb dX6_leavesIn_81 rfl (lv_at hl 0 rfl) ?_
        refine mg_12 K0 hK (nW := 14) (by omega) hZ q1082 dX6_leavesIn_82 ?_
        refine lv_bipush (v := (82)) hx hb dX6_leavesIn_85 (by decide +kernel) ?_
        refine lv_iload_n hx hb dX6_leavesIn_87 rfl (lv_at hl 1 rfl) ?_
        refine lv_iadd hx hb dX6_leavesIn_88 ?_
        refine ma_20 K0 hK hE (nW := 14) (by omega) hZ dX6_leavesIn_89 (fun v89 hE => ?_)
        refine lv_bipush (v := (100)) hx hb dX6_leavesIn_90 (by decide +kernel) ?_
        refine lv_icmp_ne (tgt := 99) hx hb dX6_leavesIn_92 (by decide) (fun hc => ?_) (fun hc => ?_)
        · have hE := if_f hE hc
          refine lv_iconst (v := (0)) hx hb dX6_leavesIn_99 (by decide +kernel) ?_
          refine lv_istore_n (i := 3) (lv' := [(3, .int (0 : Int32)), (0, .ref (w.2.2 0)), (1, .int u1), (2, .int u2)]) hx hb dX6_leavesIn_100 rfl hl (by decide) rfl (fun ls hl => ?_)
          refine lv_aload_n hx hb dX6_leavesIn_101 rfl (lv_at hl 1 rfl) ?_
          refine call_VS (rest := []) K0 hok hEV hA (c_X6_putsBack l D w A ) q1331 q1333 q37 q46 q1334 yd_X6_putsBack ⟨by omega, by omega⟩ hRc (rc_MO hK (nW := 14) (by omega) hZ) hE hZ hl.1 rfl (Nat.le_of_ble_eq_true rfl) dX6_leavesIn_102 (fun v102 S H locs cells slots hE hZ => ?_)
          refine W.eq (g2 := F0 m 105 ls []) rfl ?_
          refine lv_aload_n hx hb dX6_leavesIn_105 rfl (lv_at hl 1 rfl) ?_
          refine lv_iload_n hx hb dX6_leavesIn_106 rfl (lv_at hl 0 rfl) ?_
          refine lv_if_eq (tgt := 114) hx hb dX6_leavesIn_107 (by decide) (fun _ => ?_) (fun hc => absurd hc (by decide))
          refine lv_iconst (v := (3)) hx hb dX6_leavesIn_114 (by decide +kernel) ?_
          refine mp_19 K0 hK hE (nW := 14) (by omega) hZ q1089 dX6_leavesIn_115 (fun S H locs hE hZ => ?_)
          refine lv_iload_n hx hb dX6_leavesIn_118 rfl (lv_at hl 0 rfl) ?_
          refine lv_if_eq (tgt := 126) hx hb dX6_leavesIn_119 (by decide) (fun _ => ?_) (fun hc => absurd hc (by decide))
          refine lv_iconst (v := (-1)) hx hb dX6_leavesIn_126 (by decide +kernel) ?_
          exact end_i K0 hr hlocks hE hZ dX6_leavesIn_127
        · have hE := if_t hE hc
          refine lv_iconst (v := (1)) hx hb dX6_leavesIn_95 (by decide +kernel) ?_
          refine lv_goto (tgt := 100) hx hb dX6_leavesIn_96 (by decide) ?_
          refine lv_istore_n (i := 3) (lv' := [(3, .int (1 : Int32)), (0, .ref (w.2.2 0)), (1, .int u1), (2, .int u2)]) hx hb dX6_leavesIn_100 rfl hl (by decide) rfl (fun ls hl => ?_)
          refine lv_aload_n hx hb dX6_leavesIn_101 rfl (lv_at hl 1 rfl) ?_
          refine call_VS (rest := []) K0 hok hEV hA (c_X6_putsBack l D w A ) q1331 q1333 q37 q46 q1334 yd_X6_putsBack ⟨by omega, by omega⟩ hRc (rc_MO hK (nW := 14) (by omega) hZ) hE hZ hl.1 rfl (Nat.le_of_ble_eq_true rfl) dX6_leavesIn_102 (fun v102 S H locs cells slots hE hZ => ?_)
          refine W.eq (g2 := F0 m 105 ls []) rfl ?_
          refine lv_aload_n hx hb dX6_leavesIn_105 rfl (lv_at hl 1 rfl) ?_
          refine lv_iload_n hx hb dX6_leavesIn_106 rfl (lv_at hl 0 rfl) ?_
          refine lv_if_eq (tgt := 114) hx hb dX6_leavesIn_107 (by decide) (fun hc => absurd hc (by decide)) (fun _ => ?_)
          refine lv_iconst (v := (0)) hx hb dX6_leavesIn_110 (by decide +kernel) ?_
          refine lv_goto (tgt := 115) hx hb dX6_leavesIn_111 (by decide) ?_
          refine mp_19 K0 hK hE (nW := 14) (by omega) hZ q1089 dX6_leavesIn_115 (fun S H locs hE hZ => ?_)
          refine lv_iload_n hx hb dX6_leavesIn_118 rfl (lv_at hl 0 rfl) ?_
          refine lv_if_eq (tgt := 126) hx hb dX6_leavesIn_119 (by decide) (fun hc => absurd hc (by decide)) (fun _ => ?_)
          refine lv_iload_n hx hb dX6_leavesIn_122 rfl (lv_at hl 3 rfl) ?_
          refine lv_goto (tgt := 127) hx hb dX6_leavesIn_123 (by decide) ?_
          exact end_i K0 hr hlocks hE hZ dX6_leavesIn_127
      · have hE := if_f hE hc
        refine lv_aload_n hx hb dX6_leavesIn_57 rfl (lv_at hl 0 rfl) ?_
        refine mg_12 K0 hK (nW := 14) (by omega) hZ q1082 dX6_leavesIn_58 ?_
        refine lv_bipush (v := (82)) hx hb dX6_leavesIn_61 (by decide +kernel) ?_
        refine lv_iload_n hx hb dX6_leavesIn_63 rfl (lv_at hl 1 rfl) ?_
        refine lv_iadd hx hb dX6_leavesIn_64 ?_
        refine ma_20 K0 hK hE (nW := 14) (by omega) hZ dX6_leavesIn_65 (fun v65 hE => ?_)
        refine lv_bipush (v := (100)) hx hb dX6_leavesIn_66 (by decide +kernel) ?_
        refine lv_icmp_eq (tgt := 81) hx hb dX6_leavesIn_68 (by decide) (fun hc => ?_) (fun hc => ?_)
        · have hE := if_t hE hc
          refine lv_aload_n hx hb dX6_leavesIn_81 rfl (lv_at hl 0 rfl) ?_
          refine mg_12 K0 hK (nW := 14) (by omega) hZ q1082 dX6_leavesIn_82 ?_
          refine lv_bipush (v := (82)) hx hb dX6_leavesIn_85 (by decide +kernel) ?_
          refine lv_iload_n hx hb dX6_leavesIn_87 rfl (lv_at hl 1 rfl) ?_
          refine lv_iadd hx hb dX6_leavesIn_88 ?_
          refine ma_20 K0 hK hE (nW := 14) (by omega) hZ dX6_leavesIn_89 (fun v89 hE => ?_)
          refine lv_bipush (v := (100)) hx hb dX6_leavesIn_90 (by decide +kernel) ?_
          refine lv_icmp_ne (tgt := 99) hx hb dX6_leavesIn_92 (by decide) (fun hc => ?_) (fun hc => ?_)
          · have hE := if_f hE hc
            refine lv_iconst (v := (0)) hx hb dX6_leavesIn_99 (by decide +kernel) ?_
            refine lv_istore_n (i := 3) (lv' := [(3, .int (0 : Int32)), (0, .ref (w.2.2 0)), (1, .int u1), (2, .int u2)]) hx hb dX6_leavesIn_100 rfl hl (by decide) rfl (fun ls hl => ?_)
            refine lv_aload_n hx hb dX6_leavesIn_101 rfl (lv_at hl 1 rfl) ?_
            refine call_VS (rest := []) K0 hok hEV hA (c_X6_putsBack l D w A ) q1331 q1333 q37 q46 q1334 yd_X6_putsBack ⟨by omega, by omega⟩ hRc (rc_MO hK (nW := 14) (by omega) hZ) hE hZ hl.1 rfl (Nat.le_of_ble_eq_true rfl) dX6_leavesIn_102 (fun v102 S H locs cells slots hE hZ => ?_)
            refine W.eq (g2 := F0 m 105 ls []) rfl ?_
            refine lv_aload_n hx hb dX6_leavesIn_105 rfl (lv_at hl 1 rfl) ?_
            refine lv_iload_n hx hb dX6_leavesIn_106 rfl (lv_at hl 0 rfl) ?_
            refine lv_if_eq (tgt := 114) hx hb dX6_leavesIn_107 (by decide) (fun _ => ?_) (fun hc => absurd hc (by decide))
            refine lv_iconst (v := (3)) hx hb dX6_leavesIn_114 (by decide +kernel) ?_
            refine mp_19 K0 hK hE (nW := 14) (by omega) hZ q1089 dX6_leavesIn_115 (fun S H locs hE hZ => ?_)
            refine lv_iload_n hx hb dX6_leavesIn_118 rfl (lv_at hl 0 rfl) ?_
            refine lv_if_eq (tgt := 126) hx hb dX6_leavesIn_119 (by decide) (fun _ => ?_) (fun hc => absurd hc (by decide))
            refine lv_iconst (v := (-1)) hx hb dX6_leavesIn_126 (by decide +kernel) ?_
            exact end_i K0 hr hlocks hE hZ dX6_leavesIn_127
          · have hE := if_t hE hc
            refine lv_iconst (v := (1)) hx hb dX6_leavesIn_95 (by decide +kernel) ?_
            refine lv_goto (tgt := 100) hx hb dX6_leavesIn_96 (by decide) ?_
            refine lv_istore_n (i := 3) (lv' := [(3, .int (1 : Int32)), (0, .ref (w.2.2 0)), (1, .int u1), (2, .int u2)]) hx hb dX6_leavesIn_100 rfl hl (by decide) rfl (fun ls hl => ?_)
            refine lv_aload_n hx hb dX6_leavesIn_101 rfl (lv_at hl 1 rfl) ?_
            refine call_VS (rest := []) K0 hok hEV hA (c_X6_putsBack l D w A ) q1331 q1333 q37 q46 q1334 yd_X6_putsBack ⟨by omega, by omega⟩ hRc (rc_MO hK (nW := 14) (by omega) hZ) hE hZ hl.1 rfl (Nat.le_of_ble_eq_true rfl) dX6_leavesIn_102 (fun v102 S H locs cells slots hE hZ => ?_)
            refine W.eq (g2 := F0 m 105 ls []) rfl ?_
            refine lv_aload_n hx hb dX6_leavesIn_105 rfl (lv_at hl 1 rfl) ?_
            refine lv_iload_n hx hb dX6_leavesIn_106 rfl (lv_at hl 0 rfl) ?_
            refine lv_if_eq (tgt := 114) hx hb dX6_leavesIn_107 (by decide) (fun hc => absurd hc (by decide)) (fun _ => ?_)
            refine lv_iconst (v := (0)) hx hb dX6_leavesIn_110 (by decide +kernel) ?_
            refine lv_goto (tgt := 115) hx hb dX6_leavesIn_111 (by decide) ?_
            refine mp_19 K0 hK hE (nW := 14) (by omega) hZ q1089 dX6_leavesIn_115 (fun S H locs hE hZ => ?_)
            refine lv_iload_n hx hb dX6_leavesIn_118 rfl (lv_at hl 0 rfl) ?_
            refine lv_if_eq (tgt := 126) hx hb dX6_leavesIn_119 (by decide) (fun hc => absurd hc (by decide)) (fun _ => ?_)
            refine lv_iload_n hx hb dX6_leavesIn_122 rfl (lv_at hl 3 rfl) ?_
            refine lv_goto (tgt := 127) hx hb dX6_leavesIn_123 (by decide) ?_
            exact end_i K0 hr hlocks hE hZ dX6_leavesIn_127
        · have hE := if_f hE hc
          refine lv_aload_n hx hb dX6_leavesIn_71 rfl (lv_at hl 0 rfl) ?_
          refine call_VS (rest := []) K0 hok hEV hA (c_X6_ticks l D w A ) q1192 q1194 q26 q46 q1195 yd_X6_ticks ⟨by omega, by omega⟩ hRc (rc_MO hK (nW := 14) (by omega) hZ) hE hZ hl.1 rfl (Nat.le_of_ble_eq_true rfl) dX6_leavesIn_72 (fun v72 S H locs cells slots hE hZ => ?_)
          refine W.eq (g2 := F0 m 75 ls []) rfl ?_
          refine lv_iinc (v := (u2 + (1 : Int32))) (lv' := [(2, .int (u2 + (1 : Int32))), (0, .ref (w.2.2 0)), (1, .int u1)]) hx hb dX6_leavesIn_75 hl (k := 2) rfl rfl (by decide) rfl (fun ls hl => ?_)
          refine lv_goto (tgt := 50) hx hb dX6_leavesIn_78 (by decide) ?_
          exact ih u1 (u2 + (1 : Int32)) _ _ _ _ _ _ hE hZ (lv_sub hl [1, 2, 0] rfl)
  have j32 : ∀ (u1 : Int32) (z0 : Int32) (S : St) (H : Heap) (locs : List Loc) (cells slots : Nat) (ls : Array Slot), (f_X6_leavesIn_J32 u1 z0).1 S = some E0 → ZZ D 14 (adrM w) (celM w) A S0 s.heap S H locs cells slots → lv_has ls 4 [(0, .ref (w.2.2 0)), (1, .int u1)] → W p l e R s m args below meth c H locs cells slots (MQ below (QE E0 vI (PMo D w A) A) args s (gN E0.2 7 0 - gN S0 7 0) (gN E0.2 3 0 - gN S0 3 0) A) (F0 m 32 ls [.int z0, .ref (w.2.2 0)]) := by
    intro u1 z0 S H locs cells slots ls hE hZ hl
    unfold f_X6_leavesIn_J32 at hE
    refine mp_19 K0 hK hE (nW := 14) (by omega) hZ q1089 dX6_leavesIn_32 (fun S H locs hE hZ => ?_)
    refine lv_aload_n hx hb dX6_leavesIn_35 rfl (lv_at hl 0 rfl) ?_
    refine mg_19 K0 hK hE (nW := 14) (by omega) hZ q1089 dX6_leavesIn_36 (fun v36 hE => ?_)
    refine lv_if_le (tgt := 44) hx hb dX6_leavesIn_39 (by decide) (fun hc => ?_) (fun hc => ?_)
    · have hE := if_t hE hc
      refine lv_aload_n hx hb dX6_leavesIn_44 rfl (lv_at hl 0 rfl) ?_
      refine call_VS (rest := []) K0 hok hEV hA (c_X6_keeps l D w A ) q1327 q1329 q36 q46 q1330 yd_X6_keeps ⟨by omega, by omega⟩ hRc (rc_MO hK (nW := 14) (by omega) hZ) hE hZ hl.1 rfl (Nat.le_of_ble_eq_true rfl) dX6_leavesIn_45 (fun v45 S H locs cells slots hE hZ => ?_)
      refine W.eq (g2 := F0 m 48 ls []) rfl ?_
      refine lv_iconst (v := (0)) hx hb dX6_leavesIn_48 (by decide +kernel) ?_
      refine lv_istore_n (i := 2) (lv' := [(2, .int (0 : Int32)), (0, .ref (w.2.2 0)), (1, .int u1)]) hx hb dX6_leavesIn_49 rfl hl (by decide) rfl (fun ls hl => ?_)
      exact j50 400 u1 (0 : Int32) _ _ _ _ _ _ hE hZ (lv_sub hl [1, 2, 0] rfl)
    · have hE := if_f hE hc
      refine lv_iconst (v := (-1)) hx hb dX6_leavesIn_42 (by decide +kernel) ?_
      exact end_i K0 hr hlocks hE hZ dX6_leavesIn_43
  unfold f_X6_leavesIn at hE
  refine lv_aload_n hx hb dX6_leavesIn_0 rfl (lv_at hl 0 rfl) ?_
  refine lv_aload_n hx hb dX6_leavesIn_1 rfl (lv_at hl 0 rfl) ?_
  refine lv_iload_n hx hb dX6_leavesIn_2 rfl (lv_at hl 1 rfl) ?_
  refine call_VS (rest := [.ref (w.2.2 0)]) K0 hok hEV hA (c_X6_isCar l D w A a1) q1169 q1171 q23 q46 q1172 yd_X6_isCar ⟨by omega, by omega⟩ hRc (rc_MO hK (nW := 14) (by omega) hZ) hE hZ hl.1 rfl (Nat.le_of_ble_eq_true rfl) dX6_leavesIn_3 (fun v3 S H locs cells slots hE hZ => ?_)
  refine W.eq (g2 := F0 m 6 ls [.int v3, .ref (w.2.2 0)]) rfl ?_
  refine lv_if_ne (tgt := 13) hx hb dX6_leavesIn_6 (by decide) (fun hc => ?_) (fun hc => ?_)
  · have hE := if_f hE hc
    refine lv_aload_n hx hb dX6_leavesIn_13 rfl (lv_at hl 0 rfl) ?_
    refine mg_12 K0 hK (nW := 14) (by omega) hZ q1082 dX6_leavesIn_14 ?_
    refine lv_bipush (v := (82)) hx hb dX6_leavesIn_17 (by decide +kernel) ?_
    refine lv_iload_n hx hb dX6_leavesIn_19 rfl (lv_at hl 1 rfl) ?_
    refine lv_iadd hx hb dX6_leavesIn_20 ?_
    refine ma_20 K0 hK hE (nW := 14) (by omega) hZ dX6_leavesIn_21 (fun v21 hE => ?_)
    refine lv_bipush (v := (100)) hx hb dX6_leavesIn_22 (by decide +kernel) ?_
    refine lv_icmp_ne (tgt := 31) hx hb dX6_leavesIn_24 (by decide) (fun hc => ?_) (fun hc => ?_)
    · have hE := if_f hE hc
      refine lv_iconst (v := (0)) hx hb dX6_leavesIn_31 (by decide +kernel) ?_
      exact j32 a1 (0 : Int32) _ _ _ _ _ _ hE hZ (lv_sub hl [0, 1] rfl)
    · have hE := if_t hE hc
      refine lv_iconst (v := (2)) hx hb dX6_leavesIn_27 (by decide +kernel) ?_
      refine lv_goto (tgt := 32) hx hb dX6_leavesIn_28 (by decide) ?_
      exact j32 a1 (2 : Int32) _ _ _ _ _ _ hE hZ (lv_sub hl [0, 1] rfl)
  · have hE := if_t hE hc
    refine lv_iconst (v := (1)) hx hb dX6_leavesIn_9 (by decide +kernel) ?_
    refine lv_goto (tgt := 32) hx hb dX6_leavesIn_10 (by decide) ?_
    exact j32 a1 (1 : Int32) _ _ _ _ _ _ hE hZ (lv_sub hl [0, 1] rfl)
def f_X6_nextToLeave_L15 : Nat → Int32 → Int32 → PM Int32
  | 0, _, _ => fail
  | n9 + 1, u1, u2 => if (300 : Int32) ≤ u2 then (bnd (mld 20 237 (235 : Int32)) (fun v58 => if v58 ≤ u1 then (bnd (f_X6_putsBack ) (fun _ => bnd (wrI 5 0 0 (1 : Int32)) (fun _ => rtn (-1 : Int32)))) else (bnd (mld 20 237 ((202 : Int32) + u1)) (fun v72 => bnd (f_X6_putsBack ) (fun _ => if v72 = (-1 : Int32) then (bnd (wrI 5 0 0 (1 : Int32)) (fun _ => rtn v72)) else (bnd (wrI 5 0 0 (0 : Int32)) (fun _ => rtn v72))))))) else (bnd (mld 20 237 (235 : Int32)) (fun v29 => if v29 = u1 then (bnd (rdI 0 0 0) (fun v35 => if v35 ≤ 0 then (bnd (mld 20 237 (235 : Int32)) (fun v58 => if v58 ≤ u1 then (bnd (f_X6_putsBack ) (fun _ => bnd (wrI 5 0 0 (1 : Int32)) (fun _ => rtn (-1 : Int32)))) else (bnd (mld 20 237 ((202 : Int32) + u1)) (fun v72 => bnd (f_X6_putsBack ) (fun _ => if v72 = (-1 : Int32) then (bnd (wrI 5 0 0 (1 : Int32)) (fun _ => rtn v72)) else (bnd (wrI 5 0 0 (0 : Int32)) (fun _ => rtn v72))))))) else (bnd (f_X6_ticks ) (fun _ => f_X6_nextToLeave_L15 n9 u1 (u2 + (1 : Int32)))))) else (bnd (mld 20 237 (235 : Int32)) (fun v58 => if v58 ≤ u1 then (bnd (f_X6_putsBack ) (fun _ => bnd (wrI 5 0 0 (1 : Int32)) (fun _ => rtn (-1 : Int32)))) else (bnd (mld 20 237 ((202 : Int32) + u1)) (fun v72 => bnd (f_X6_putsBack ) (fun _ => if v72 = (-1 : Int32) then (bnd (wrI 5 0 0 (1 : Int32)) (fun _ => rtn v72)) else (bnd (wrI 5 0 0 (0 : Int32)) (fun _ => rtn v72)))))))))
def f_X6_nextToLeave  : PM Int32 := bnd (f_X6_keeps ) (fun _ => bnd (mld 20 237 (235 : Int32)) (fun v11 => f_X6_nextToLeave_L15 400 v11 (0 : Int32)))
theorem yd_X6_nextToLeave : yX6_nextToLeave.cls = RX6 ∧ yX6_nextToLeave.cls ≠ "java/lang/invoke/MethodHandle" ∧ yX6_nextToLeave.cls ≠ "java/lang/invoke/VarHandle" ∧ (parseMethodDescriptor yX6_nextToLeave.desc).map (fun d => d.parameters.length) = some 0 := by decide +kernel
set_option maxHeartbeats 4000000 in
set_option maxRecDepth 100000 in
theorem c_X6_nextToLeave (l : Launch) (D : va_G) (w : Wm) (A : Nat → Prop) : CT l yX6_nextToLeave cX6_nextToLeave 3 (some .int) 4 99 (PMo D w A) (ENVM D w) A [.ref (w.2.2 0)] (f_X6_nextToLeave ) vI := by
  refine CT.ofW (by decide) [(0, .ref (w.2.2 0))] (by simp [lv_args, vr_cat, vc_i, vc_j, vc_f, vc_d, vc_r, vc_n]) (by simp [lg_sl, vr_cat, vc_i, vc_j, vc_f, vc_d, vc_r, vc_n]) ?_
  intro S0 E0 R p e s m args below meth c ls hE hRf hRl hRc K0 hr hlocks hEV hA hZ hl
  have K0 : CallFix p m c cX6_nextToLeave 3 s args GW RX6 := K0
  have hx := K0.1
  have hb := K0.2.1
  have hown := K0.2.2.2.1
  have hg := K0.2.2.2.2
  have hK := hEV
  have hok : EVok (ENVM D w) A := ENVM.ok
  have j15 : ∀ (n9 : Nat) (u1 : Int32) (u2 : Int32) (S : St) (H : Heap) (locs : List Loc) (cells slots : Nat) (ls : Array Slot), (f_X6_nextToLeave_L15 n9 u1 u2).1 S = some E0 → ZZ D 14 (adrM w) (celM w) A S0 s.heap S H locs cells slots → lv_has ls 3 [(0, .ref (w.2.2 0)), (1, .int u1), (2, .int u2)] → W p l e R s m args below meth c H locs cells slots (MQ below (QE E0 vI (PMo D w A) A) args s (gN E0.2 7 0 - gN S0 7 0) (gN E0.2 3 0 - gN S0 3 0) A) (F0 m 15 ls []) := by
    intro n9
    induction n9 with
    | zero =>
      intro u1 u2 S H locs cells slots ls hE hZ hl
      rw [f_X6_nextToLeave_L15] at hE
      cases hE
    | succ n9 ih =>
      intro u1 u2 S H locs cells slots ls hE hZ hl
      rw [f_X6_nextToLeave_L15] at hE
      refine lv_iload_n hx hb dX6_nextToLeave_15 rfl (lv_at hl 2 rfl) ?_
      refine lv_sipush (v := (300)) hx hb dX6_nextToLeave_16 (by decide +kernel) ?_
      refine lv_icmp_ge (tgt := 51) hx hb dX6_nextToLeave_19 (by decide) (fun hc => ?_) (fun hc => ?_)
      · have hE := if_t hE hc
        refine lv_aload_n hx hb dX6_nextToLeave_51 rfl (lv_at hl 0 rfl) ?_
        refine mg_12 K0 hK (nW := 14) (by omega) hZ q1082 dX6_nextToLeave_52 ?_
        refine lv_sipush (v := (235)) hx hb dX6_nextToLeave_55 (by decide +kernel) ?_
        refine ma_20 K0 hK hE (nW := 14) (by omega) hZ dX6_nextToLeave_58 (fun v58 hE => ?_)
        refine lv_iload_n hx hb dX6_nextToLeave_59 rfl (lv_at hl 1 rfl) ?_
        refine lv_icmp_le (tgt := 76) hx hb dX6_nextToLeave_60 (by decide) (fun hc => ?_) (fun hc => ?_)
        · have hE := if_t hE hc
          refine lv_iconst (v := (-1)) hx hb dX6_nextToLeave_76 (by decide +kernel) ?_
          refine lv_istore_n (i := 2) (lv' := [(2, .int (-1 : Int32)), (0, .ref (w.2.2 0)), (1, .int u1)]) hx hb dX6_nextToLeave_77 rfl hl (by decide) rfl (fun ls hl => ?_)
          refine lv_aload_n hx hb dX6_nextToLeave_78 rfl (lv_at hl 1 rfl) ?_
          refine call_VS (rest := []) K0 hok hEV hA (c_X6_putsBack l D w A ) q1331 q1333 q37 q46 q1334 yd_X6_putsBack ⟨by omega, by omega⟩ hRc (rc_MO hK (nW := 14) (by omega) hZ) hE hZ hl.1 rfl (Nat.le_of_ble_eq_true rfl) dX6_nextToLeave_79 (fun v79 S H locs cells slots hE hZ => ?_)
          refine W.eq (g2 := F0 m 82 ls []) rfl ?_
          refine lv_aload_n hx hb dX6_nextToLeave_82 rfl (lv_at hl 1 rfl) ?_
          refine lv_iload_n hx hb dX6_nextToLeave_83 rfl (lv_at hl 0 rfl) ?_
          refine lv_iconst (v := (-1)) hx hb dX6_nextToLeave_84 (by decide +kernel) ?_
          refine lv_icmp_ne (tgt := 92) hx hb dX6_nextToLeave_85 (by decide) (fun hc => absurd hc (by decide)) (fun _ => ?_)
          refine lv_iconst (v := (1)) hx hb dX6_nextToLeave_88 (by decide +kernel) ?_
          refine lv_goto (tgt := 93) hx hb dX6_nextToLeave_89 (by decide) ?_
          refine mp_19 K0 hK hE (nW := 14) (by omega) hZ q1089 dX6_nextToLeave_93 (fun S H locs hE hZ => ?_)
          refine lv_iload_n hx hb dX6_nextToLeave_96 rfl (lv_at hl 0 rfl) ?_
          exact end_i K0 hr hlocks hE hZ dX6_nextToLeave_97
        · have hE := if_f hE hc
          refine lv_aload_n hx hb dX6_nextToLeave_63 rfl (lv_at hl 0 rfl) ?_
          refine mg_12 K0 hK (nW := 14) (by omega) hZ q1082 dX6_nextToLeave_64 ?_
          refine lv_sipush (v := (202)) hx hb dX6_nextToLeave_67 (by decide +kernel) ?_
          refine lv_iload_n hx hb dX6_nextToLeave_70 rfl (lv_at hl 1 rfl) ?_
          refine lv_iadd hx hb dX6_nextToLeave_71 ?_
          refine ma_20 K0 hK hE (nW := 14) (by omega) hZ dX6_nextToLeave_72 (fun v72 hE => ?_)
          refine lv_goto (tgt := 77) hx hb dX6_nextToLeave_73 (by decide) ?_
          refine lv_istore_n (i := 2) (lv' := [(2, .int v72), (0, .ref (w.2.2 0)), (1, .int u1)]) hx hb dX6_nextToLeave_77 rfl hl (by decide) rfl (fun ls hl => ?_)
          refine lv_aload_n hx hb dX6_nextToLeave_78 rfl (lv_at hl 1 rfl) ?_
          refine call_VS (rest := []) K0 hok hEV hA (c_X6_putsBack l D w A ) q1331 q1333 q37 q46 q1334 yd_X6_putsBack ⟨by omega, by omega⟩ hRc (rc_MO hK (nW := 14) (by omega) hZ) hE hZ hl.1 rfl (Nat.le_of_ble_eq_true rfl) dX6_nextToLeave_79 (fun v79 S H locs cells slots hE hZ => ?_)
          refine W.eq (g2 := F0 m 82 ls []) rfl ?_
          refine lv_aload_n hx hb dX6_nextToLeave_82 rfl (lv_at hl 1 rfl) ?_
          refine lv_iload_n hx hb dX6_nextToLeave_83 rfl (lv_at hl 0 rfl) ?_
          refine lv_iconst (v := (-1)) hx hb dX6_nextToLeave_84 (by decide +kernel) ?_
          refine lv_icmp_ne (tgt := 92) hx hb dX6_nextToLeave_85 (by decide) (fun hc => ?_) (fun hc => ?_)
          · have hE := if_f hE hc
            refine lv_iconst (v := (0)) hx hb dX6_nextToLeave_92 (by decide +kernel) ?_
            refine mp_19 K0 hK hE (nW := 14) (by omega) hZ q1089 dX6_nextToLeave_93 (fun S H locs hE hZ => ?_)
            refine lv_iload_n hx hb dX6_nextToLeave_96 rfl (lv_at hl 0 rfl) ?_
            exact end_i K0 hr hlocks hE hZ dX6_nextToLeave_97
          · have hE := if_t hE hc
            refine lv_iconst (v := (1)) hx hb dX6_nextToLeave_88 (by decide +kernel) ?_
            refine lv_goto (tgt := 93) hx hb dX6_nextToLeave_89 (by decide) ?_
            refine mp_19 K0 hK hE (nW := 14) (by omega) hZ q1089 dX6_nextToLeave_93 (fun S H locs hE hZ => ?_)
            refine lv_iload_n hx hb dX6_nextToLeave_96 rfl (lv_at hl 0 rfl) ?_
            exact end_i K0 hr hlocks hE hZ dX6_nextToLeave_97
      · have hE := if_f hE hc
        refine lv_aload_n hx hb dX6_nextToLeave_22 rfl (lv_at hl 0 rfl) ?_
        refine mg_12 K0 hK (nW := 14) (by omega) hZ q1082 dX6_nextToLeave_23 ?_
        refine lv_sipush (v := (235)) hx hb dX6_nextToLeave_26 (by decide +kernel) ?_
        refine ma_20 K0 hK hE (nW := 14) (by omega) hZ dX6_nextToLeave_29 (fun v29 hE => ?_)
        refine lv_iload_n hx hb dX6_nextToLeave_30 rfl (lv_at hl 1 rfl) ?_
        refine lv_icmp_ne (tgt := 51) hx hb dX6_nextToLeave_31 (by decide) (fun hc => ?_) (fun hc => ?_)
        · have hE := if_f hE hc
          refine lv_aload_n hx hb dX6_nextToLeave_51 rfl (lv_at hl 0 rfl) ?_
          refine mg_12 K0 hK (nW := 14) (by omega) hZ q1082 dX6_nextToLeave_52 ?_
          refine lv_sipush (v := (235)) hx hb dX6_nextToLeave_55 (by decide +kernel) ?_
          refine ma_20 K0 hK hE (nW := 14) (by omega) hZ dX6_nextToLeave_58 (fun v58 hE => ?_)
          refine lv_iload_n hx hb dX6_nextToLeave_59 rfl (lv_at hl 1 rfl) ?_
          refine lv_icmp_le (tgt := 76) hx hb dX6_nextToLeave_60 (by decide) (fun hc => ?_) (fun hc => ?_)
          · have hE := if_t hE hc
            refine lv_iconst (v := (-1)) hx hb dX6_nextToLeave_76 (by decide +kernel) ?_
            refine lv_istore_n (i := 2) (lv' := [(2, .int (-1 : Int32)), (0, .ref (w.2.2 0)), (1, .int u1)]) hx hb dX6_nextToLeave_77 rfl hl (by decide) rfl (fun ls hl => ?_)
            refine lv_aload_n hx hb dX6_nextToLeave_78 rfl (lv_at hl 1 rfl) ?_
            refine call_VS (rest := []) K0 hok hEV hA (c_X6_putsBack l D w A ) q1331 q1333 q37 q46 q1334 yd_X6_putsBack ⟨by omega, by omega⟩ hRc (rc_MO hK (nW := 14) (by omega) hZ) hE hZ hl.1 rfl (Nat.le_of_ble_eq_true rfl) dX6_nextToLeave_79 (fun v79 S H locs cells slots hE hZ => ?_)
            refine W.eq (g2 := F0 m 82 ls []) rfl ?_
            refine lv_aload_n hx hb dX6_nextToLeave_82 rfl (lv_at hl 1 rfl) ?_
            refine lv_iload_n hx hb dX6_nextToLeave_83 rfl (lv_at hl 0 rfl) ?_
            refine lv_iconst (v := (-1)) hx hb dX6_nextToLeave_84 (by decide +kernel) ?_
            refine lv_icmp_ne (tgt := 92) hx hb dX6_nextToLeave_85 (by decide) (fun hc => absurd hc (by decide)) (fun _ => ?_)
            refine lv_iconst (v := (1)) hx hb dX6_nextToLeave_88 (by decide +kernel) ?_
            refine lv_goto (tgt := 93) hx hb dX6_nextToLeave_89 (by decide) ?_
            refine mp_19 K0 hK hE (nW := 14) (by omega) hZ q1089 dX6_nextToLeave_93 (fun S H locs hE hZ => ?_)
            refine lv_iload_n hx hb dX6_nextToLeave_96 rfl (lv_at hl 0 rfl) ?_
            exact end_i K0 hr hlocks hE hZ dX6_nextToLeave_97
          · have hE := if_f hE hc
            refine lv_aload_n hx hb dX6_nextToLeave_63 rfl (lv_at hl 0 rfl) ?_
            refine mg_12 K0 hK (nW := 14) (by omega) hZ q1082 dX6_nextToLeave_64 ?_
            refine lv_sipush (v := (202)) hx hb dX6_nextToLeave_67 (by decide +kernel) ?_
            refine lv_iload_n hx hb dX6_nextToLeave_70 rfl (lv_at hl 1 rfl) ?_
            refine lv_iadd hx hb dX6_nextToLeave_71 ?_
            refine ma_20 K0 hK hE (nW := 14) (by omega) hZ dX6_nextToLeave_72 (fun v72 hE => ?_)
            refine lv_goto (tgt := 77) hx hb dX6_nextToLeave_73 (by decide) ?_
            refine lv_istore_n (i := 2) (lv' := [(2, .int v72), (0, .ref (w.2.2 0)), (1, .int u1)]) hx hb dX6_nextToLeave_77 rfl hl (by decide) rfl (fun ls hl => ?_)
            refine lv_aload_n hx hb dX6_nextToLeave_78 rfl (lv_at hl 1 rfl) ?_
            refine call_VS (rest := []) K0 hok hEV hA (c_X6_putsBack l D w A ) q1331 q1333 q37 q46 q1334 yd_X6_putsBack ⟨by omega, by omega⟩ hRc (rc_MO hK (nW := 14) (by omega) hZ) hE hZ hl.1 rfl (Nat.le_of_ble_eq_true rfl) dX6_nextToLeave_79 (fun v79 S H locs cells slots hE hZ => ?_)
            refine W.eq (g2 := F0 m 82 ls []) rfl ?_
            refine lv_aload_n hx hb dX6_nextToLeave_82 rfl (lv_at hl 1 rfl) ?_
            refine lv_iload_n hx hb dX6_nextToLeave_83 rfl (lv_at hl 0 rfl) ?_
            refine lv_iconst (v := (-1)) hx hb dX6_nextToLeave_84 (by decide +kernel) ?_
            refine lv_icmp_ne (tgt := 92) hx hb dX6_nextToLeave_85 (by decide) (fun hc => ?_) (fun hc => ?_)
            · have hE := if_f hE hc
              refine lv_iconst (v := (0)) hx hb dX6_nextToLeave_92 (by decide +kernel) ?_
              refine mp_19 K0 hK hE (nW := 14) (by omega) hZ q1089 dX6_nextToLeave_93 (fun S H locs hE hZ => ?_)
              refine lv_iload_n hx hb dX6_nextToLeave_96 rfl (lv_at hl 0 rfl) ?_
              exact end_i K0 hr hlocks hE hZ dX6_nextToLeave_97
            · have hE := if_t hE hc
              refine lv_iconst (v := (1)) hx hb dX6_nextToLeave_88 (by decide +kernel) ?_
              refine lv_goto (tgt := 93) hx hb dX6_nextToLeave_89 (by decide) ?_
              refine mp_19 K0 hK hE (nW := 14) (by omega) hZ q1089 dX6_nextToLeave_93 (fun S H locs hE hZ => ?_)
              refine lv_iload_n hx hb dX6_nextToLeave_96 rfl (lv_at hl 0 rfl) ?_
              exact end_i K0 hr hlocks hE hZ dX6_nextToLeave_97
        · have hE := if_t hE hc
          refine lv_aload_n hx hb dX6_nextToLeave_34 rfl (lv_at hl 0 rfl) ?_
          refine mg_5 K0 hK hE (nW := 14) (by omega) hZ q1075 dX6_nextToLeave_35 (fun v35 hE => ?_)
          refine lv_if_le (tgt := 51) hx hb dX6_nextToLeave_38 (by decide) (fun hc => ?_) (fun hc => ?_)
          · have hE := if_t hE hc
            refine lv_aload_n hx hb dX6_nextToLeave_51 rfl (lv_at hl 0 rfl) ?_
            refine mg_12 K0 hK (nW := 14) (by omega) hZ q1082 dX6_nextToLeave_52 ?_
            refine lv_sipush (v := (235)) hx hb dX6_nextToLeave_55 (by decide +kernel) ?_
            refine ma_20 K0 hK hE (nW := 14) (by omega) hZ dX6_nextToLeave_58 (fun v58 hE => ?_)
            refine lv_iload_n hx hb dX6_nextToLeave_59 rfl (lv_at hl 1 rfl) ?_
            refine lv_icmp_le (tgt := 76) hx hb dX6_nextToLeave_60 (by decide) (fun hc => ?_) (fun hc => ?_)
            · have hE := if_t hE hc
              refine lv_iconst (v := (-1)) hx hb dX6_nextToLeave_76 (by decide +kernel) ?_
              refine lv_istore_n (i := 2) (lv' := [(2, .int (-1 : Int32)), (0, .ref (w.2.2 0)), (1, .int u1)]) hx hb dX6_nextToLeave_77 rfl hl (by decide) rfl (fun ls hl => ?_)
              refine lv_aload_n hx hb dX6_nextToLeave_78 rfl (lv_at hl 1 rfl) ?_
              refine call_VS (rest := []) K0 hok hEV hA (c_X6_putsBack l D w A ) q1331 q1333 q37 q46 q1334 yd_X6_putsBack ⟨by omega, by omega⟩ hRc (rc_MO hK (nW := 14) (by omega) hZ) hE hZ hl.1 rfl (Nat.le_of_ble_eq_true rfl) dX6_nextToLeave_79 (fun v79 S H locs cells slots hE hZ => ?_)
              refine W.eq (g2 := F0 m 82 ls []) rfl ?_
              refine lv_aload_n hx hb dX6_nextToLeave_82 rfl (lv_at hl 1 rfl) ?_
              refine lv_iload_n hx hb dX6_nextToLeave_83 rfl (lv_at hl 0 rfl) ?_
              refine lv_iconst (v := (-1)) hx hb dX6_nextToLeave_84 (by decide +kernel) ?_
              refine lv_icmp_ne (tgt := 92) hx hb dX6_nextToLeave_85 (by decide) (fun hc => absurd hc (by decide)) (fun _ => ?_)
              refine lv_iconst (v := (1)) hx hb dX6_nextToLeave_88 (by decide +kernel) ?_
              refine lv_goto (tgt := 93) hx hb dX6_nextToLeave_89 (by decide) ?_
              refine mp_19 K0 hK hE (nW := 14) (by omega) hZ q1089 dX6_nextToLeave_93 (fun S H locs hE hZ => ?_)
              refine lv_iload_n hx hb dX6_nextToLeave_96 rfl (lv_at hl 0 rfl) ?_
              exact end_i K0 hr hlocks hE hZ dX6_nextToLeave_97
            · have hE := if_f hE hc
              refine lv_aload_n hx hb dX6_nextToLeave_63 rfl (lv_at hl 0 rfl) ?_
              refine mg_12 K0 hK (nW := 14) (by omega) hZ q1082 dX6_nextToLeave_64 ?_
              refine lv_sipush (v := (202)) hx hb dX6_nextToLeave_67 (by decide +kernel) ?_
              refine lv_iload_n hx hb dX6_nextToLeave_70 rfl (lv_at hl 1 rfl) ?_
              refine lv_iadd hx hb dX6_nextToLeave_71 ?_
              refine ma_20 K0 hK hE (nW := 14) (by omega) hZ dX6_nextToLeave_72 (fun v72 hE => ?_)
              refine lv_goto (tgt := 77) hx hb dX6_nextToLeave_73 (by decide) ?_
              refine lv_istore_n (i := 2) (lv' := [(2, .int v72), (0, .ref (w.2.2 0)), (1, .int u1)]) hx hb dX6_nextToLeave_77 rfl hl (by decide) rfl (fun ls hl => ?_)
              refine lv_aload_n hx hb dX6_nextToLeave_78 rfl (lv_at hl 1 rfl) ?_
              refine call_VS (rest := []) K0 hok hEV hA (c_X6_putsBack l D w A ) q1331 q1333 q37 q46 q1334 yd_X6_putsBack ⟨by omega, by omega⟩ hRc (rc_MO hK (nW := 14) (by omega) hZ) hE hZ hl.1 rfl (Nat.le_of_ble_eq_true rfl) dX6_nextToLeave_79 (fun v79 S H locs cells slots hE hZ => ?_)
              refine W.eq (g2 := F0 m 82 ls []) rfl ?_
              refine lv_aload_n hx hb dX6_nextToLeave_82 rfl (lv_at hl 1 rfl) ?_
              refine lv_iload_n hx hb dX6_nextToLeave_83 rfl (lv_at hl 0 rfl) ?_
              refine lv_iconst (v := (-1)) hx hb dX6_nextToLeave_84 (by decide +kernel) ?_
              refine lv_icmp_ne (tgt := 92) hx hb dX6_nextToLeave_85 (by decide) (fun hc => ?_) (fun hc => ?_)
              · have hE := if_f hE hc
                refine lv_iconst (v := (0)) hx hb dX6_nextToLeave_92 (by decide +kernel) ?_
                refine mp_19 K0 hK hE (nW := 14) (by omega) hZ q1089 dX6_nextToLeave_93 (fun S H locs hE hZ => ?_)
                refine lv_iload_n hx hb dX6_nextToLeave_96 rfl (lv_at hl 0 rfl) ?_
                exact end_i K0 hr hlocks hE hZ dX6_nextToLeave_97
              · have hE := if_t hE hc
                refine lv_iconst (v := (1)) hx hb dX6_nextToLeave_88 (by decide +kernel) ?_
                refine lv_goto (tgt := 93) hx hb dX6_nextToLeave_89 (by decide) ?_
                refine mp_19 K0 hK hE (nW := 14) (by omega) hZ q1089 dX6_nextToLeave_93 (fun S H locs hE hZ => ?_)
                refine lv_iload_n hx hb dX6_nextToLeave_96 rfl (lv_at hl 0 rfl) ?_
                exact end_i K0 hr hlocks hE hZ dX6_nextToLeave_97
          · have hE := if_f hE hc
            refine lv_aload_n hx hb dX6_nextToLeave_41 rfl (lv_at hl 0 rfl) ?_
            refine call_VS (rest := []) K0 hok hEV hA (c_X6_ticks l D w A ) q1192 q1194 q26 q46 q1195 yd_X6_ticks ⟨by omega, by omega⟩ hRc (rc_MO hK (nW := 14) (by omega) hZ) hE hZ hl.1 rfl (Nat.le_of_ble_eq_true rfl) dX6_nextToLeave_42 (fun v42 S H locs cells slots hE hZ => ?_)
            refine W.eq (g2 := F0 m 45 ls []) rfl ?_
            refine lv_iinc (v := (u2 + (1 : Int32))) (lv' := [(2, .int (u2 + (1 : Int32))), (0, .ref (w.2.2 0)), (1, .int u1)]) hx hb dX6_nextToLeave_45 hl (k := 2) rfl rfl (by decide) rfl (fun ls hl => ?_)
            refine lv_goto (tgt := 15) hx hb dX6_nextToLeave_48 (by decide) ?_
            exact ih u1 (u2 + (1 : Int32)) _ _ _ _ _ _ hE hZ (lv_sub hl [1, 2, 0] rfl)
  unfold f_X6_nextToLeave at hE
  refine lv_aload_n hx hb dX6_nextToLeave_0 rfl (lv_at hl 0 rfl) ?_
  refine call_VS (rest := []) K0 hok hEV hA (c_X6_keeps l D w A ) q1327 q1329 q36 q46 q1330 yd_X6_keeps ⟨by omega, by omega⟩ hRc (rc_MO hK (nW := 14) (by omega) hZ) hE hZ hl.1 rfl (Nat.le_of_ble_eq_true rfl) dX6_nextToLeave_1 (fun v1 S H locs cells slots hE hZ => ?_)
  refine W.eq (g2 := F0 m 4 ls []) rfl ?_
  refine lv_aload_n hx hb dX6_nextToLeave_4 rfl (lv_at hl 0 rfl) ?_
  refine mg_12 K0 hK (nW := 14) (by omega) hZ q1082 dX6_nextToLeave_5 ?_
  refine lv_sipush (v := (235)) hx hb dX6_nextToLeave_8 (by decide +kernel) ?_
  refine ma_20 K0 hK hE (nW := 14) (by omega) hZ dX6_nextToLeave_11 (fun v11 hE => ?_)
  refine lv_istore_n (i := 1) (lv' := [(1, .int v11), (0, .ref (w.2.2 0))]) hx hb dX6_nextToLeave_12 rfl hl (by decide) rfl (fun ls hl => ?_)
  refine lv_iconst (v := (0)) hx hb dX6_nextToLeave_13 (by decide +kernel) ?_
  refine lv_istore_n (i := 2) (lv' := [(2, .int (0 : Int32)), (1, .int v11), (0, .ref (w.2.2 0))]) hx hb dX6_nextToLeave_14 rfl hl (by decide) rfl (fun ls hl => ?_)
  exact j15 400 v11 (0 : Int32) _ _ _ _ _ _ hE hZ (lv_sub hl [2, 1, 0] rfl)
def f_X6_traceLength_L16 : Nat → Int32 → Int32 → Int32 → PM Int32
  | 0, _, _, _ => fail
  | n9 + 1, u1, u2, u3 => bnd (rdI 4 0 0) (fun v18 => if v18 ≤ u3 then (rtn u2) else (bnd (rdI 5 0 0) (fun v25 => if v25 = 0 then (bnd (rdN 1 1) (fun v33 => bnd (mvL 1 0 1 23 v33 u3) (fun v37 => if v37 = u1 then (bnd (rtn (u2 + (1 : Int32))) (fun w48 => f_X6_traceLength_L16 n9 u1 w48 (u3 + (1 : Int32)))) else (bnd (rtn (u2 + (0 : Int32))) (fun w48 => f_X6_traceLength_L16 n9 u1 w48 (u3 + (1 : Int32))))))) else (rtn u2))))
def f_X6_traceLength (a1 : Int32) : PM Int32 := bnd (f_X6_isAsked a1) (fun v2 => if v2 = 0 then (f_X6_traceLength_L16 2097152 a1 (-1 : Int32) (0 : Int32)) else (f_X6_traceLength_L16 2097152 a1 (0 : Int32) (0 : Int32)))
theorem yd_X6_traceLength : yX6_traceLength.cls = RX6 ∧ yX6_traceLength.cls ≠ "java/lang/invoke/MethodHandle" ∧ yX6_traceLength.cls ≠ "java/lang/invoke/VarHandle" ∧ (parseMethodDescriptor yX6_traceLength.desc).map (fun d => d.parameters.length) = some 1 := by decide +kernel
set_option maxHeartbeats 4000000 in
set_option maxRecDepth 100000 in
theorem c_X6_traceLength (l : Launch) (D : va_G) (w : Wm) (A : Nat → Prop) (a1 : Int32) : CT l yX6_traceLength cX6_traceLength 4 (some .int) 3 67 (PMo D w A) (ENVM D w) A [.ref (w.2.2 0), .int a1] (f_X6_traceLength a1) vI := by
  refine CT.ofW (by decide) [(0, .ref (w.2.2 0)), (1, .int a1)] (by simp [lv_args, vr_cat, vc_i, vc_j, vc_f, vc_d, vc_r, vc_n]) (by simp [lg_sl, vr_cat, vc_i, vc_j, vc_f, vc_d, vc_r, vc_n]) ?_
  intro S0 E0 R p e s m args below meth c ls hE hRf hRl hRc K0 hr hlocks hEV hA hZ hl
  have K0 : CallFix p m c cX6_traceLength 4 s args GW RX6 := K0
  have hx := K0.1
  have hb := K0.2.1
  have hown := K0.2.2.2.1
  have hg := K0.2.2.2.2
  have hK := hEV
  have hok : EVok (ENVM D w) A := ENVM.ok
  have j16 : ∀ (n9 : Nat) (u1 : Int32) (u2 : Int32) (u3 : Int32) (S : St) (H : Heap) (locs : List Loc) (cells slots : Nat) (ls : Array Slot), (f_X6_traceLength_L16 n9 u1 u2 u3).1 S = some E0 → ZZ D 14 (adrM w) (celM w) A S0 s.heap S H locs cells slots → lv_has ls 4 [(0, .ref (w.2.2 0)), (1, .int u1), (2, .int u2), (3, .int u3)] → W p l e R s m args below meth c H locs cells slots (MQ below (QE E0 vI (PMo D w A) A) args s (gN E0.2 7 0 - gN S0 7 0) (gN E0.2 3 0 - gN S0 3 0) A) (F0 m 16 ls []) := by
    intro n9
    induction n9 with
    | zero =>
      intro u1 u2 u3 S H locs cells slots ls hE hZ hl
      rw [f_X6_traceLength_L16] at hE
      cases hE
    | succ n9 ih =>
      intro u1 u2 u3 S H locs cells slots ls hE hZ hl
      rw [f_X6_traceLength_L16] at hE
      refine lv_iload_n hx hb dX6_traceLength_16 rfl (lv_at hl 3 rfl) ?_
      refine lv_aload_n hx hb dX6_traceLength_17 rfl (lv_at hl 0 rfl) ?_
      refine mg_17 K0 hK hE (nW := 14) (by omega) hZ q1087 dX6_traceLength_18 (fun v18 hE => ?_)
      refine lv_icmp_ge (tgt := 55) hx hb dX6_traceLength_21 (by decide) (fun hc => ?_) (fun hc => ?_)
      · have hE := if_t hE hc
        refine lv_iload_n hx hb dX6_traceLength_55 rfl (lv_at hl 2 rfl) ?_
        exact end_i K0 hr hlocks hE hZ dX6_traceLength_56
      · have hE := if_f hE hc
        refine lv_aload_n hx hb dX6_traceLength_24 rfl (lv_at hl 0 rfl) ?_
        refine mg_19 K0 hK hE (nW := 14) (by omega) hZ q1089 dX6_traceLength_25 (fun v25 hE => ?_)
        refine lv_if_ne (tgt := 55) hx hb dX6_traceLength_28 (by decide) (fun hc => ?_) (fun hc => ?_)
        · have hE := if_f hE hc
          refine lv_iload_n hx hb dX6_traceLength_55 rfl (lv_at hl 2 rfl) ?_
          exact end_i K0 hr hlocks hE hZ dX6_traceLength_56
        · have hE := if_t hE hc
          refine lv_iload_n hx hb dX6_traceLength_31 rfl (lv_at hl 2 rfl) ?_
          refine lv_aload_n hx hb dX6_traceLength_32 rfl (lv_at hl 0 rfl) ?_
          refine mg_16 K0 hK hE (nW := 14) (by omega) hZ q1086 dX6_traceLength_33 (fun v33 hE => ?_)
          refine lv_iload_n hx hb dX6_traceLength_36 rfl (lv_at hl 3 rfl) ?_
          refine ma_TC K0 hK hE (nW := 14) (by omega) hZ dX6_traceLength_37 (fun v37 hE => ?_)
          refine lv_iload_n hx hb dX6_traceLength_38 rfl (lv_at hl 1 rfl) ?_
          refine lv_icmp_ne (tgt := 46) hx hb dX6_traceLength_39 (by decide) (fun hc => ?_) (fun hc => ?_)
          · have hE := if_f hE hc
            refine lv_iconst (v := (0)) hx hb dX6_traceLength_46 (by decide +kernel) ?_
            refine lv_iadd hx hb dX6_traceLength_47 ?_
            refine let_i hE (fun w48 hE => ?_)
            refine lv_istore_n (i := 2) (lv' := [(2, .int w48), (0, .ref (w.2.2 0)), (1, .int u1), (3, .int u3)]) hx hb dX6_traceLength_48 rfl hl (by decide) rfl (fun ls hl => ?_)
            refine lv_iinc (v := (u3 + (1 : Int32))) (lv' := [(3, .int (u3 + (1 : Int32))), (2, .int w48), (0, .ref (w.2.2 0)), (1, .int u1)]) hx hb dX6_traceLength_49 hl (k := 3) rfl rfl (by decide) rfl (fun ls hl => ?_)
            refine lv_goto (tgt := 16) hx hb dX6_traceLength_52 (by decide) ?_
            exact ih u1 w48 (u3 + (1 : Int32)) _ _ _ _ _ _ hE hZ (lv_sub hl [2, 3, 1, 0] rfl)
          · have hE := if_t hE hc
            refine lv_iconst (v := (1)) hx hb dX6_traceLength_42 (by decide +kernel) ?_
            refine lv_goto (tgt := 47) hx hb dX6_traceLength_43 (by decide) ?_
            refine lv_iadd hx hb dX6_traceLength_47 ?_
            refine let_i hE (fun w48 hE => ?_)
            refine lv_istore_n (i := 2) (lv' := [(2, .int w48), (0, .ref (w.2.2 0)), (1, .int u1), (3, .int u3)]) hx hb dX6_traceLength_48 rfl hl (by decide) rfl (fun ls hl => ?_)
            refine lv_iinc (v := (u3 + (1 : Int32))) (lv' := [(3, .int (u3 + (1 : Int32))), (2, .int w48), (0, .ref (w.2.2 0)), (1, .int u1)]) hx hb dX6_traceLength_49 hl (k := 3) rfl rfl (by decide) rfl (fun ls hl => ?_)
            refine lv_goto (tgt := 16) hx hb dX6_traceLength_52 (by decide) ?_
            exact ih u1 w48 (u3 + (1 : Int32)) _ _ _ _ _ _ hE hZ (lv_sub hl [2, 3, 1, 0] rfl)
  unfold f_X6_traceLength at hE
  refine lv_aload_n hx hb dX6_traceLength_0 rfl (lv_at hl 0 rfl) ?_
  refine lv_iload_n hx hb dX6_traceLength_1 rfl (lv_at hl 1 rfl) ?_
  refine call_VS (rest := []) K0 hok hEV hA (c_X6_isAsked l D w A a1) q1239 q1241 q33 q46 q1242 yd_X6_isAsked ⟨by omega, by omega⟩ hRc (rc_MO hK (nW := 14) (by omega) hZ) hE hZ hl.1 rfl (Nat.le_of_ble_eq_true rfl) dX6_traceLength_2 (fun v2 S H locs cells slots hE hZ => ?_)
  refine W.eq (g2 := F0 m 5 ls [.int v2]) rfl ?_
  refine lv_if_eq (tgt := 12) hx hb dX6_traceLength_5 (by decide) (fun hc => ?_) (fun hc => ?_)
  · have hE := if_t hE hc
    refine lv_iconst (v := (-1)) hx hb dX6_traceLength_12 (by decide +kernel) ?_
    refine lv_istore_n (i := 2) (lv' := [(2, .int (-1 : Int32)), (0, .ref (w.2.2 0)), (1, .int a1)]) hx hb dX6_traceLength_13 rfl hl (by decide) rfl (fun ls hl => ?_)
    refine lv_iconst (v := (0)) hx hb dX6_traceLength_14 (by decide +kernel) ?_
    refine lv_istore_n (i := 3) (lv' := [(3, .int (0 : Int32)), (2, .int (-1 : Int32)), (0, .ref (w.2.2 0)), (1, .int a1)]) hx hb dX6_traceLength_15 rfl hl (by decide) rfl (fun ls hl => ?_)
    exact j16 2097152 a1 (-1 : Int32) (0 : Int32) _ _ _ _ _ _ hE hZ (lv_sub hl [2, 3, 1, 0] rfl)
  · have hE := if_f hE hc
    refine lv_iconst (v := (0)) hx hb dX6_traceLength_8 (by decide +kernel) ?_
    refine lv_goto (tgt := 13) hx hb dX6_traceLength_9 (by decide) ?_
    refine lv_istore_n (i := 2) (lv' := [(2, .int (0 : Int32)), (0, .ref (w.2.2 0)), (1, .int a1)]) hx hb dX6_traceLength_13 rfl hl (by decide) rfl (fun ls hl => ?_)
    refine lv_iconst (v := (0)) hx hb dX6_traceLength_14 (by decide +kernel) ?_
    refine lv_istore_n (i := 3) (lv' := [(3, .int (0 : Int32)), (2, .int (0 : Int32)), (0, .ref (w.2.2 0)), (1, .int a1)]) hx hb dX6_traceLength_15 rfl hl (by decide) rfl (fun ls hl => ?_)
    exact j16 2097152 a1 (0 : Int32) (0 : Int32) _ _ _ _ _ _ hE hZ (lv_sub hl [2, 3, 1, 0] rfl)
def f_X6_traceAt_L16 : Nat → Int32 → Int32 → Int32 → Int32 → PM Int32
  | 0, _, _, _, _ => fail
  | n9 + 1, u1, u2, u3, u4 => bnd (rdI 4 0 0) (fun v19 => if v19 ≤ u4 then (bnd (wrI 5 0 0 (2 : Int32)) (fun _ => rtnC (32 : Int32))) else (bnd (rdN 1 1) (fun v26 => bnd (mvL 1 0 1 23 v26 u4) (fun v31 => if v31 = u1 then (if u3 = u2 then (bnd (rdN 1 0) (fun v42 => bnd (mvL 1 0 0 22 v42 u4) (fun v47 => rtnC v47))) else (bnd (rdN 1 1) (fun v51 => bnd (mvL 1 0 1 23 v51 u4) (fun v56 => if v56 = u1 then (bnd (rtn (u3 + (1 : Int32))) (fun w67 => f_X6_traceAt_L16 n9 u1 u2 w67 (u4 + (1 : Int32)))) else (bnd (rtn (u3 + (0 : Int32))) (fun w67 => f_X6_traceAt_L16 n9 u1 u2 w67 (u4 + (1 : Int32)))))))) else (bnd (rdN 1 1) (fun v51 => bnd (mvL 1 0 1 23 v51 u4) (fun v56 => if v56 = u1 then (bnd (rtn (u3 + (1 : Int32))) (fun w67 => f_X6_traceAt_L16 n9 u1 u2 w67 (u4 + (1 : Int32)))) else (bnd (rtn (u3 + (0 : Int32))) (fun w67 => f_X6_traceAt_L16 n9 u1 u2 w67 (u4 + (1 : Int32)))))))))))
def f_X6_traceAt (a1 : Int32) (a2 : Int32) : PM Int32 := bnd (f_X6_isAsked a1) (fun v2 => if v2 = 0 then (rtnC (32 : Int32)) else (f_X6_traceAt_L16 2097152 a1 a2 (0 : Int32) (0 : Int32)))
theorem yd_X6_traceAt : yX6_traceAt.cls = RX6 ∧ yX6_traceAt.cls ≠ "java/lang/invoke/MethodHandle" ∧ yX6_traceAt.cls ≠ "java/lang/invoke/VarHandle" ∧ (parseMethodDescriptor yX6_traceAt.desc).map (fun d => d.parameters.length) = some 2 := by decide +kernel
set_option maxHeartbeats 4000000 in
set_option maxRecDepth 100000 in
theorem c_X6_traceAt (l : Launch) (D : va_G) (w : Wm) (A : Nat → Prop) (a1 : Int32) (a2 : Int32) : CT l yX6_traceAt cX6_traceAt 5 (some .char) 3 67 (PMo D w A) (ENVM D w) A [.ref (w.2.2 0), .int a1, .int a2] (f_X6_traceAt a1 a2) vI := by
  refine CT.ofW (by decide) [(0, .ref (w.2.2 0)), (1, .int a1), (2, .int a2)] (by simp [lv_args, vr_cat, vc_i, vc_j, vc_f, vc_d, vc_r, vc_n]) (by simp [lg_sl, vr_cat, vc_i, vc_j, vc_f, vc_d, vc_r, vc_n]) ?_
  intro S0 E0 R p e s m args below meth c ls hE hRf hRl hRc K0 hr hlocks hEV hA hZ hl
  have K0 : CallFix p m c cX6_traceAt 5 s args GW RX6 := K0
  have hx := K0.1
  have hb := K0.2.1
  have hown := K0.2.2.2.1
  have hg := K0.2.2.2.2
  have hK := hEV
  have hok : EVok (ENVM D w) A := ENVM.ok
  have j16 : ∀ (n9 : Nat) (u1 : Int32) (u2 : Int32) (u3 : Int32) (u4 : Int32) (S : St) (H : Heap) (locs : List Loc) (cells slots : Nat) (ls : Array Slot), (f_X6_traceAt_L16 n9 u1 u2 u3 u4).1 S = some E0 → ZZ D 14 (adrM w) (celM w) A S0 s.heap S H locs cells slots → lv_has ls 5 [(0, .ref (w.2.2 0)), (1, .int u1), (2, .int u2), (3, .int u3), (4, .int u4)] → W p l e R s m args below meth c H locs cells slots (MQ below (QE E0 vI (PMo D w A) A) args s (gN E0.2 7 0 - gN S0 7 0) (gN E0.2 3 0 - gN S0 3 0) A) (F0 m 16 ls []) := by
    intro n9
    induction n9 with
    | zero =>
      intro u1 u2 u3 u4 S H locs cells slots ls hE hZ hl
      rw [f_X6_traceAt_L16] at hE
      cases hE
    | succ n9 ih =>
      intro u1 u2 u3 u4 S H locs cells slots ls hE hZ hl
      rw [f_X6_traceAt_L16] at hE
      refine lv_iload hx hb dX6_traceAt_16 (lv_at hl 4 rfl) ?_
      refine lv_aload_n hx hb dX6_traceAt_18 rfl (lv_at hl 0 rfl) ?_
      refine mg_17 K0 hK hE (nW := 14) (by omega) hZ q1087 dX6_traceAt_19 (fun v19 hE => ?_)
      refine lv_icmp_ge (tgt := 74) hx hb dX6_traceAt_22 (by decide) (fun hc => ?_) (fun hc => ?_)
      · have hE := if_t hE hc
        refine lv_aload_n hx hb dX6_traceAt_74 rfl (lv_at hl 0 rfl) ?_
        refine lv_iconst (v := (2)) hx hb dX6_traceAt_75 (by decide +kernel) ?_
        refine mp_19 K0 hK hE (nW := 14) (by omega) hZ q1089 dX6_traceAt_76 (fun S H locs hE hZ => ?_)
        refine lv_bipush (v := (32)) hx hb dX6_traceAt_79 (by decide +kernel) ?_
        exact end_c K0 hr hlocks hE hZ dX6_traceAt_81
      · have hE := if_f hE hc
        refine lv_aload_n hx hb dX6_traceAt_25 rfl (lv_at hl 0 rfl) ?_
        refine mg_16 K0 hK hE (nW := 14) (by omega) hZ q1086 dX6_traceAt_26 (fun v26 hE => ?_)
        refine lv_iload hx hb dX6_traceAt_29 (lv_at hl 4 rfl) ?_
        refine ma_TC K0 hK hE (nW := 14) (by omega) hZ dX6_traceAt_31 (fun v31 hE => ?_)
        refine lv_iload_n hx hb dX6_traceAt_32 rfl (lv_at hl 1 rfl) ?_
        refine lv_icmp_ne (tgt := 49) hx hb dX6_traceAt_33 (by decide) (fun hc => ?_) (fun hc => ?_)
        · have hE := if_f hE hc
          refine lv_iload_n hx hb dX6_traceAt_49 rfl (lv_at hl 3 rfl) ?_
          refine lv_aload_n hx hb dX6_traceAt_50 rfl (lv_at hl 0 rfl) ?_
          refine mg_16 K0 hK hE (nW := 14) (by omega) hZ q1086 dX6_traceAt_51 (fun v51 hE => ?_)
          refine lv_iload hx hb dX6_traceAt_54 (lv_at hl 4 rfl) ?_
          refine ma_TC K0 hK hE (nW := 14) (by omega) hZ dX6_traceAt_56 (fun v56 hE => ?_)
          refine lv_iload_n hx hb dX6_traceAt_57 rfl (lv_at hl 1 rfl) ?_
          refine lv_icmp_ne (tgt := 65) hx hb dX6_traceAt_58 (by decide) (fun hc => ?_) (fun hc => ?_)
          · have hE := if_f hE hc
            refine lv_iconst (v := (0)) hx hb dX6_traceAt_65 (by decide +kernel) ?_
            refine lv_iadd hx hb dX6_traceAt_66 ?_
            refine let_i hE (fun w67 hE => ?_)
            refine lv_istore_n (i := 3) (lv' := [(3, .int w67), (0, .ref (w.2.2 0)), (1, .int u1), (2, .int u2), (4, .int u4)]) hx hb dX6_traceAt_67 rfl hl (by decide) rfl (fun ls hl => ?_)
            refine lv_iinc (v := (u4 + (1 : Int32))) (lv' := [(4, .int (u4 + (1 : Int32))), (3, .int w67), (0, .ref (w.2.2 0)), (1, .int u1), (2, .int u2)]) hx hb dX6_traceAt_68 hl (k := 4) rfl rfl (by decide) rfl (fun ls hl => ?_)
            refine lv_goto (tgt := 16) hx hb dX6_traceAt_71 (by decide) ?_
            exact ih u1 u2 w67 (u4 + (1 : Int32)) _ _ _ _ _ _ hE hZ (lv_sub hl [2, 3, 4, 1, 0] rfl)
          · have hE := if_t hE hc
            refine lv_iconst (v := (1)) hx hb dX6_traceAt_61 (by decide +kernel) ?_
            refine lv_goto (tgt := 66) hx hb dX6_traceAt_62 (by decide) ?_
            refine lv_iadd hx hb dX6_traceAt_66 ?_
            refine let_i hE (fun w67 hE => ?_)
            refine lv_istore_n (i := 3) (lv' := [(3, .int w67), (0, .ref (w.2.2 0)), (1, .int u1), (2, .int u2), (4, .int u4)]) hx hb dX6_traceAt_67 rfl hl (by decide) rfl (fun ls hl => ?_)
            refine lv_iinc (v := (u4 + (1 : Int32))) (lv' := [(4, .int (u4 + (1 : Int32))), (3, .int w67), (0, .ref (w.2.2 0)), (1, .int u1), (2, .int u2)]) hx hb dX6_traceAt_68 hl (k := 4) rfl rfl (by decide) rfl (fun ls hl => ?_)
            refine lv_goto (tgt := 16) hx hb dX6_traceAt_71 (by decide) ?_
            exact ih u1 u2 w67 (u4 + (1 : Int32)) _ _ _ _ _ _ hE hZ (lv_sub hl [2, 3, 4, 1, 0] rfl)
        · have hE := if_t hE hc
          refine lv_iload_n hx hb dX6_traceAt_36 rfl (lv_at hl 3 rfl) ?_
          refine lv_iload_n hx hb dX6_traceAt_37 rfl (lv_at hl 2 rfl) ?_
          refine lv_icmp_ne (tgt := 49) hx hb dX6_traceAt_38 (by decide) (fun hc => ?_) (fun hc => ?_)
          · have hE := if_f hE hc
            refine lv_iload_n hx hb dX6_traceAt_49 rfl (lv_at hl 3 rfl) ?_
            refine lv_aload_n hx hb dX6_traceAt_50 rfl (lv_at hl 0 rfl) ?_
            refine mg_16 K0 hK hE (nW := 14) (by omega) hZ q1086 dX6_traceAt_51 (fun v51 hE => ?_)
            refine lv_iload hx hb dX6_traceAt_54 (lv_at hl 4 rfl) ?_
            refine ma_TC K0 hK hE (nW := 14) (by omega) hZ dX6_traceAt_56 (fun v56 hE => ?_)
            refine lv_iload_n hx hb dX6_traceAt_57 rfl (lv_at hl 1 rfl) ?_
            refine lv_icmp_ne (tgt := 65) hx hb dX6_traceAt_58 (by decide) (fun hc => ?_) (fun hc => ?_)
            · have hE := if_f hE hc
              refine lv_iconst (v := (0)) hx hb dX6_traceAt_65 (by decide +kernel) ?_
              refine lv_iadd hx hb dX6_traceAt_66 ?_
              refine let_i hE (fun w67 hE => ?_)
              refine lv_istore_n (i := 3) (lv' := [(3, .int w67), (0, .ref (w.2.2 0)), (1, .int u1), (2, .int u2), (4, .int u4)]) hx hb dX6_traceAt_67 rfl hl (by decide) rfl (fun ls hl => ?_)
              refine lv_iinc (v := (u4 + (1 : Int32))) (lv' := [(4, .int (u4 + (1 : Int32))), (3, .int w67), (0, .ref (w.2.2 0)), (1, .int u1), (2, .int u2)]) hx hb dX6_traceAt_68 hl (k := 4) rfl rfl (by decide) rfl (fun ls hl => ?_)
              refine lv_goto (tgt := 16) hx hb dX6_traceAt_71 (by decide) ?_
              exact ih u1 u2 w67 (u4 + (1 : Int32)) _ _ _ _ _ _ hE hZ (lv_sub hl [2, 3, 4, 1, 0] rfl)
            · have hE := if_t hE hc
              refine lv_iconst (v := (1)) hx hb dX6_traceAt_61 (by decide +kernel) ?_
              refine lv_goto (tgt := 66) hx hb dX6_traceAt_62 (by decide) ?_
              refine lv_iadd hx hb dX6_traceAt_66 ?_
              refine let_i hE (fun w67 hE => ?_)
              refine lv_istore_n (i := 3) (lv' := [(3, .int w67), (0, .ref (w.2.2 0)), (1, .int u1), (2, .int u2), (4, .int u4)]) hx hb dX6_traceAt_67 rfl hl (by decide) rfl (fun ls hl => ?_)
              refine lv_iinc (v := (u4 + (1 : Int32))) (lv' := [(4, .int (u4 + (1 : Int32))), (3, .int w67), (0, .ref (w.2.2 0)), (1, .int u1), (2, .int u2)]) hx hb dX6_traceAt_68 hl (k := 4) rfl rfl (by decide) rfl (fun ls hl => ?_)
              refine lv_goto (tgt := 16) hx hb dX6_traceAt_71 (by decide) ?_
              exact ih u1 u2 w67 (u4 + (1 : Int32)) _ _ _ _ _ _ hE hZ (lv_sub hl [2, 3, 4, 1, 0] rfl)
          · have hE := if_t hE hc
            refine lv_aload_n hx hb dX6_traceAt_41 rfl (lv_at hl 0 rfl) ?_
            refine mg_15 K0 hK hE (nW := 14) (by omega) hZ q1085 dX6_traceAt_42 (fun v42 hE => ?_)
            refine lv_iload hx hb dX6_traceAt_45 (lv_at hl 4 rfl) ?_
            refine ma_TS K0 hK hE (nW := 14) (by omega) hZ dX6_traceAt_47 (fun v47 hE => ?_)
            exact end_c K0 hr hlocks hE hZ dX6_traceAt_48
  unfold f_X6_traceAt at hE
  refine lv_aload_n hx hb dX6_traceAt_0 rfl (lv_at hl 0 rfl) ?_
  refine lv_iload_n hx hb dX6_traceAt_1 rfl (lv_at hl 1 rfl) ?_
  refine call_VS (rest := []) K0 hok hEV hA (c_X6_isAsked l D w A a1) q1239 q1241 q33 q46 q1242 yd_X6_isAsked ⟨by omega, by omega⟩ hRc (rc_MO hK (nW := 14) (by omega) hZ) hE hZ hl.1 rfl (Nat.le_of_ble_eq_true rfl) dX6_traceAt_2 (fun v2 S H locs cells slots hE hZ => ?_)
  refine W.eq (g2 := F0 m 5 ls [.int v2]) rfl ?_
  refine lv_if_ne (tgt := 11) hx hb dX6_traceAt_5 (by decide) (fun hc => ?_) (fun hc => ?_)
  · have hE := if_f hE hc
    refine lv_iconst (v := (0)) hx hb dX6_traceAt_11 (by decide +kernel) ?_
    refine lv_istore_n (i := 3) (lv' := [(3, .int (0 : Int32)), (0, .ref (w.2.2 0)), (1, .int a1), (2, .int a2)]) hx hb dX6_traceAt_12 rfl hl (by decide) rfl (fun ls hl => ?_)
    refine lv_iconst (v := (0)) hx hb dX6_traceAt_13 (by decide +kernel) ?_
    refine lv_istore (lv' := [(4, .int (0 : Int32)), (3, .int (0 : Int32)), (0, .ref (w.2.2 0)), (1, .int a1), (2, .int a2)]) hx hb dX6_traceAt_14 hl (by decide) rfl (fun ls hl => ?_)
    exact j16 2097152 a1 a2 (0 : Int32) (0 : Int32) _ _ _ _ _ _ hE hZ (lv_sub hl [2, 3, 4, 1, 0] rfl)
  · have hE := if_t hE hc
    refine lv_bipush (v := (32)) hx hb dX6_traceAt_8 (by decide +kernel) ?_
    exact end_c K0 hr hlocks hE hZ dX6_traceAt_10
def f_X6_countOf_J46 (u1 : Int32) (u2 : Int32) (z0 : Int32) : PM Int32 := bnd (wrI 5 0 0 z0) (fun _ => if u2 = 0 then (rtn (-1 : Int32)) else (bnd (f_X6_count u1) (fun v55 => rtn v55)))
def f_X6_countOf_J35 (u1 : Int32) (z0 : Int32) : PM Int32 := if z0 = 0 then (f_X6_countOf_J46 u1 z0 (1 : Int32)) else (f_X6_countOf_J46 u1 z0 (0 : Int32))
def f_X6_countOf_J30 (u1 : Int32) : PM Int32 := f_X6_countOf_J35 u1 (1 : Int32)
def f_X6_countOf (a1 : Int32) : PM Int32 := if a1 = (43 : Int32) then (f_X6_countOf_J30 a1) else (if a1 = (45 : Int32) then (f_X6_countOf_J30 a1) else (if a1 = (46 : Int32) then (f_X6_countOf_J30 a1) else (if a1 = (76 : Int32) then (f_X6_countOf_J30 a1) else (if a1 = (120 : Int32) then (f_X6_countOf_J30 a1) else (f_X6_countOf_J35 a1 (0 : Int32))))))
theorem yd_X6_countOf : yX6_countOf.cls = RX6 ∧ yX6_countOf.cls ≠ "java/lang/invoke/MethodHandle" ∧ yX6_countOf.cls ≠ "java/lang/invoke/VarHandle" ∧ (parseMethodDescriptor yX6_countOf.desc).map (fun d => d.parameters.length) = some 1 := by decide +kernel
set_option maxHeartbeats 4000000 in
set_option maxRecDepth 100000 in
theorem c_X6_countOf (l : Launch) (D : va_G) (w : Wm) (A : Nat → Prop) (a1 : Int32) : CT l yX6_countOf cX6_countOf 3 (some .int) 1 23 (PMo D w A) (ENVM D w) A [.ref (w.2.2 0), .int a1] (f_X6_countOf a1) vI := by
  refine CT.ofW (by decide) [(0, .ref (w.2.2 0)), (1, .int a1)] (by simp [lv_args, vr_cat, vc_i, vc_j, vc_f, vc_d, vc_r, vc_n]) (by simp [lg_sl, vr_cat, vc_i, vc_j, vc_f, vc_d, vc_r, vc_n]) ?_
  intro S0 E0 R p e s m args below meth c ls hE hRf hRl hRc K0 hr hlocks hEV hA hZ hl
  have K0 : CallFix p m c cX6_countOf 3 s args GW RX6 := K0
  have hx := K0.1
  have hb := K0.2.1
  have hown := K0.2.2.2.1
  have hg := K0.2.2.2.2
  have hK := hEV
  have hok : EVok (ENVM D w) A := ENVM.ok
  have j46 : ∀ (u1 : Int32) (u2 : Int32) (z0 : Int32) (S : St) (H : Heap) (locs : List Loc) (cells slots : Nat) (ls : Array Slot), (f_X6_countOf_J46 u1 u2 z0).1 S = some E0 → ZZ D 14 (adrM w) (celM w) A S0 s.heap S H locs cells slots → lv_has ls 3 [(0, .ref (w.2.2 0)), (1, .int u1), (2, .int u2)] → W p l e R s m args below meth c H locs cells slots (MQ below (QE E0 vI (PMo D w A) A) args s (gN E0.2 7 0 - gN S0 7 0) (gN E0.2 3 0 - gN S0 3 0) A) (F0 m 46 ls [.int z0, .ref (w.2.2 0)]) := by
    intro u1 u2 z0 S H locs cells slots ls hE hZ hl
    unfold f_X6_countOf_J46 at hE
    refine mp_19 K0 hK hE (nW := 14) (by omega) hZ q1089 dX6_countOf_46 (fun S H locs hE hZ => ?_)
    refine lv_iload_n hx hb dX6_countOf_49 rfl (lv_at hl 2 rfl) ?_
    refine lv_if_eq (tgt := 61) hx hb dX6_countOf_50 (by decide) (fun hc => ?_) (fun hc => ?_)
    · have hE := if_t hE hc
      refine lv_iconst (v := (-1)) hx hb dX6_countOf_61 (by decide +kernel) ?_
      exact end_i K0 hr hlocks hE hZ dX6_countOf_62
    · have hE := if_f hE hc
      refine lv_aload_n hx hb dX6_countOf_53 rfl (lv_at hl 0 rfl) ?_
      refine lv_iload_n hx hb dX6_countOf_54 rfl (lv_at hl 1 rfl) ?_
      refine call_VS (rest := []) K0 hok hEV hA (c_X6_count l D w A u1) q1356 q1358 q38 q46 q1359 yd_X6_count ⟨by omega, by omega⟩ hRc (rc_MO hK (nW := 14) (by omega) hZ) hE hZ hl.1 rfl (Nat.le_of_ble_eq_true rfl) dX6_countOf_55 (fun v55 S H locs cells slots hE hZ => ?_)
      refine W.eq (g2 := F0 m 58 ls [.int v55]) rfl ?_
      refine lv_goto (tgt := 62) hx hb dX6_countOf_58 (by decide) ?_
      exact end_i K0 hr hlocks hE hZ dX6_countOf_62
  have j35 : ∀ (u1 : Int32) (z0 : Int32) (S : St) (H : Heap) (locs : List Loc) (cells slots : Nat) (ls : Array Slot), (f_X6_countOf_J35 u1 z0).1 S = some E0 → ZZ D 14 (adrM w) (celM w) A S0 s.heap S H locs cells slots → lv_has ls 3 [(0, .ref (w.2.2 0)), (1, .int u1)] → W p l e R s m args below meth c H locs cells slots (MQ below (QE E0 vI (PMo D w A) A) args s (gN E0.2 7 0 - gN S0 7 0) (gN E0.2 3 0 - gN S0 3 0) A) (F0 m 35 ls [.int z0]) := by
    intro u1 z0 S H locs cells slots ls hE hZ hl
    unfold f_X6_countOf_J35 at hE
    refine lv_istore_n (i := 2) (lv' := [(2, .int z0), (0, .ref (w.2.2 0)), (1, .int u1)]) hx hb dX6_countOf_35 rfl hl (by decide) rfl (fun ls hl => ?_)
    refine lv_aload_n hx hb dX6_countOf_36 rfl (lv_at hl 1 rfl) ?_
    refine lv_iload_n hx hb dX6_countOf_37 rfl (lv_at hl 0 rfl) ?_
    refine lv_if_eq (tgt := 45) hx hb dX6_countOf_38 (by decide) (fun hc => ?_) (fun hc => ?_)
    · have hE := if_t hE hc
      refine lv_iconst (v := (1)) hx hb dX6_countOf_45 (by decide +kernel) ?_
      exact j46 u1 z0 (1 : Int32) _ _ _ _ _ _ hE hZ (lv_sub hl [1, 2, 0] rfl)
    · have hE := if_f hE hc
      refine lv_iconst (v := (0)) hx hb dX6_countOf_41 (by decide +kernel) ?_
      refine lv_goto (tgt := 46) hx hb dX6_countOf_42 (by decide) ?_
      exact j46 u1 z0 (0 : Int32) _ _ _ _ _ _ hE hZ (lv_sub hl [1, 2, 0] rfl)
  have j30 : ∀ (u1 : Int32) (S : St) (H : Heap) (locs : List Loc) (cells slots : Nat) (ls : Array Slot), (f_X6_countOf_J30 u1).1 S = some E0 → ZZ D 14 (adrM w) (celM w) A S0 s.heap S H locs cells slots → lv_has ls 3 [(0, .ref (w.2.2 0)), (1, .int u1)] → W p l e R s m args below meth c H locs cells slots (MQ below (QE E0 vI (PMo D w A) A) args s (gN E0.2 7 0 - gN S0 7 0) (gN E0.2 3 0 - gN S0 3 0) A) (F0 m 30 ls []) := by
    intro u1 S H locs cells slots ls hE hZ hl
    unfold f_X6_countOf_J30 at hE
    refine lv_iconst (v := (1)) hx hb dX6_countOf_30 (by decide +kernel) ?_
    refine lv_goto (tgt := 35) hx hb dX6_countOf_31 (by decide) ?_
    exact j35 u1 (1 : Int32) _ _ _ _ _ _ hE hZ (lv_sub hl [0, 1] rfl)
  unfold f_X6_countOf at hE
  refine lv_iload_n hx hb dX6_countOf_0 rfl (lv_at hl 1 rfl) ?_
  refine lv_bipush (v := (43)) hx hb dX6_countOf_1 (by decide +kernel) ?_
  refine lv_icmp_eq (tgt := 30) hx hb dX6_countOf_3 (by decide) (fun hc => ?_) (fun hc => ?_)
  · have hE := if_t hE hc
    exact j30 a1 _ _ _ _ _ _ hE hZ (lv_sub hl [0, 1] rfl)
  · have hE := if_f hE hc
    refine lv_iload_n hx hb dX6_countOf_6 rfl (lv_at hl 1 rfl) ?_
    refine lv_bipush (v := (45)) hx hb dX6_countOf_7 (by decide +kernel) ?_
    refine lv_icmp_eq (tgt := 30) hx hb dX6_countOf_9 (by decide) (fun hc => ?_) (fun hc => ?_)
    · have hE := if_t hE hc
      exact j30 a1 _ _ _ _ _ _ hE hZ (lv_sub hl [0, 1] rfl)
    · have hE := if_f hE hc
      refine lv_iload_n hx hb dX6_countOf_12 rfl (lv_at hl 1 rfl) ?_
      refine lv_bipush (v := (46)) hx hb dX6_countOf_13 (by decide +kernel) ?_
      refine lv_icmp_eq (tgt := 30) hx hb dX6_countOf_15 (by decide) (fun hc => ?_) (fun hc => ?_)
      · have hE := if_t hE hc
        exact j30 a1 _ _ _ _ _ _ hE hZ (lv_sub hl [0, 1] rfl)
      · have hE := if_f hE hc
        refine lv_iload_n hx hb dX6_countOf_18 rfl (lv_at hl 1 rfl) ?_
        refine lv_bipush (v := (76)) hx hb dX6_countOf_19 (by decide +kernel) ?_
        refine lv_icmp_eq (tgt := 30) hx hb dX6_countOf_21 (by decide) (fun hc => ?_) (fun hc => ?_)
        · have hE := if_t hE hc
          exact j30 a1 _ _ _ _ _ _ hE hZ (lv_sub hl [0, 1] rfl)
        · have hE := if_f hE hc
          refine lv_iload_n hx hb dX6_countOf_24 rfl (lv_at hl 1 rfl) ?_
          refine lv_bipush (v := (120)) hx hb dX6_countOf_25 (by decide +kernel) ?_
          refine lv_icmp_ne (tgt := 34) hx hb dX6_countOf_27 (by decide) (fun hc => ?_) (fun hc => ?_)
          · have hE := if_f hE hc
            refine lv_iconst (v := (0)) hx hb dX6_countOf_34 (by decide +kernel) ?_
            exact j35 a1 (0 : Int32) _ _ _ _ _ _ hE hZ (lv_sub hl [0, 1] rfl)
          · have hE := if_t hE hc
            exact j30 a1 _ _ _ _ _ _ hE hZ (lv_sub hl [0, 1] rfl)
def f_X6_fitted  : PM Int64 := bnd (wrI 5 0 0 (0 : Int32)) (fun _ => bnd (rdL 0) (fun v6 => rtn v6))
theorem yd_X6_fitted : yX6_fitted.cls = RX6 ∧ yX6_fitted.cls ≠ "java/lang/invoke/MethodHandle" ∧ yX6_fitted.cls ≠ "java/lang/invoke/VarHandle" ∧ (parseMethodDescriptor yX6_fitted.desc).map (fun d => d.parameters.length) = some 0 := by decide +kernel
set_option maxHeartbeats 4000000 in
set_option maxRecDepth 100000 in
theorem c_X6_fitted (l : Launch) (D : va_G) (w : Wm) (A : Nat → Prop) : CT l yX6_fitted cX6_fitted 1 (some .long) 0 0 (PMo D w A) (ENVM D w) A [.ref (w.2.2 0)] (f_X6_fitted ) vJ := by
  refine CT.ofW (by decide) [(0, .ref (w.2.2 0))] (by simp [lv_args, vr_cat, vc_i, vc_j, vc_f, vc_d, vc_r, vc_n]) (by simp [lg_sl, vr_cat, vc_i, vc_j, vc_f, vc_d, vc_r, vc_n]) ?_
  intro S0 E0 R p e s m args below meth c ls hE hRf hRl hRc K0 hr hlocks hEV hA hZ hl
  have K0 : CallFix p m c cX6_fitted 1 s args GW RX6 := K0
  have hx := K0.1
  have hb := K0.2.1
  have hown := K0.2.2.2.1
  have hg := K0.2.2.2.2
  have hK := hEV
  have hok : EVok (ENVM D w) A := ENVM.ok
  unfold f_X6_fitted at hE
  refine lv_aload_n hx hb dX6_fitted_0 rfl (lv_at hl 0 rfl) ?_
  refine lv_iconst (v := (0)) hx hb dX6_fitted_1 (by decide +kernel) ?_
  refine mp_19 K0 hK hE (nW := 14) (by omega) hZ q1089 dX6_fitted_2 (fun S H locs hE hZ => ?_)
  refine lv_aload_n hx hb dX6_fitted_5 rfl (lv_at hl 0 rfl) ?_
  refine mg_18 K0 hK hE (nW := 14) (by omega) hZ q1088 dX6_fitted_6 (fun v6 hE => ?_)
  exact end_l K0 hr hlocks hE hZ dX6_fitted_9
def f_X6_leavesByTicks (a1 : Int32) : PM Int32 := bnd (f_X6_leavesIn a1) (fun v2 => rtn v2)
theorem yd_X6_leavesByTicks : yX6_leavesByTicks.cls = RX6 ∧ yX6_leavesByTicks.cls ≠ "java/lang/invoke/MethodHandle" ∧ yX6_leavesByTicks.cls ≠ "java/lang/invoke/VarHandle" ∧ (parseMethodDescriptor yX6_leavesByTicks.desc).map (fun d => d.parameters.length) = some 1 := by decide +kernel
set_option maxHeartbeats 4000000 in
set_option maxRecDepth 100000 in
theorem c_X6_leavesByTicks (l : Launch) (D : va_G) (w : Wm) (A : Nat → Prop) (a1 : Int32) : CT l yX6_leavesByTicks cX6_leavesByTicks 2 (some .int) 5 122 (PMo D w A) (ENVM D w) A [.ref (w.2.2 0), .int a1] (f_X6_leavesByTicks a1) vI := by
  refine CT.ofW (by decide) [(0, .ref (w.2.2 0)), (1, .int a1)] (by simp [lv_args, vr_cat, vc_i, vc_j, vc_f, vc_d, vc_r, vc_n]) (by simp [lg_sl, vr_cat, vc_i, vc_j, vc_f, vc_d, vc_r, vc_n]) ?_
  intro S0 E0 R p e s m args below meth c ls hE hRf hRl hRc K0 hr hlocks hEV hA hZ hl
  have K0 : CallFix p m c cX6_leavesByTicks 2 s args GW RX6 := K0
  have hx := K0.1
  have hb := K0.2.1
  have hown := K0.2.2.2.1
  have hg := K0.2.2.2.2
  have hK := hEV
  have hok : EVok (ENVM D w) A := ENVM.ok
  unfold f_X6_leavesByTicks at hE
  refine lv_aload_n hx hb dX6_leavesByTicks_0 rfl (lv_at hl 0 rfl) ?_
  refine lv_iload_n hx hb dX6_leavesByTicks_1 rfl (lv_at hl 1 rfl) ?_
  refine call_VS (rest := []) K0 hok hEV hA (c_X6_leavesIn l D w A a1) q1339 q1324 q1325 q46 q1326 yd_X6_leavesIn ⟨by omega, by omega⟩ hRc (rc_MO hK (nW := 14) (by omega) hZ) hE hZ hl.1 rfl (Nat.le_of_ble_eq_true rfl) dX6_leavesByTicks_2 (fun v2 S H locs cells slots hE hZ => ?_)
  refine W.eq (g2 := F0 m 5 ls [.int v2]) rfl ?_
  exact end_i K0 hr hlocks hE hZ dX6_leavesByTicks_5
