/-! part 10: Row, Station, a trace that is read (by program) -/
def f_X2_has (a0 : Nat) (a1 : Int32) : PM Int32 := if a1 < 0 then (rtnZ (0 : Int32)) else (bnd (rdc 6 a0 5) (fun v6 => if v6 ≤ a1 then (rtnZ (0 : Int32)) else (bnd (rfc 6 a0 a0) (fun v14 => bnd (rdk 6 v14 (nI 30)) (fun v17 => if v17 ≤ a1 then (rtnZ (0 : Int32)) else (rtnZ (1 : Int32)))))))
theorem yd_X2_has : yX2_has.cls = RX2 ∧ yX2_has.cls ≠ "java/lang/invoke/MethodHandle" ∧ yX2_has.cls ≠ "java/lang/invoke/VarHandle" ∧ (parseMethodDescriptor yX2_has.desc).map (fun d => d.parameters.length) = some 1 := by decide +kernel
set_option maxHeartbeats 4000000 in
set_option maxRecDepth 100000 in
theorem c_X2_has (l : Launch) (D : va_G) (w : Wc) (aS : Nat → Nat) (sk sv : Nat) (A : Nat → Prop) (a0 : Nat) (a1 : Int32) : CT l yX2_has cX2_has 2 (some .boolean) 0 0 (PC D w A) (ENVC D w aS sk sv A) A [vr w.2.2.2.2 9 6 a0, .int a1] (f_X2_has a0 a1) vI := by
  refine CT.ofW (by decide) [(0, vr w.2.2.2.2 9 6 a0), (1, .int a1)] (by simp [lv_args, vr_cat, vc_i, vc_j, vc_f, vc_d, vc_r, vc_n]) (by simp [lg_sl, vr_cat, vc_i, vc_j, vc_f, vc_d, vc_r, vc_n]) ?_
  intro S0 E0 R p e s m args below meth c ls hE hRf hRl hRc K0 hr hlocks hEV hA hZ hl
  have K0 : CallFix p m c cX2_has 2 s args GW RX2 := K0
  have hx := K0.1
  have hb := K0.2.1
  have hown := K0.2.2.2.1
  have hg := K0.2.2.2.2
  have hK := hEV.1
  have hok : EVok (ENVC D w aS sk sv A) A := ENVC.ok
  unfold f_X2_has at hE
  refine lv_iload_n hx hb dX2_has_0 rfl (lv_at hl 1 rfl) ?_
  refine lv_if_lt (tgt := 25) hx hb dX2_has_1 (by decide) (fun hc => ?_) (fun hc => ?_)
  · have hE := if_t hE hc
    refine lv_iconst (v := (0)) hx hb dX2_has_25 (by decide +kernel) ?_
    exact end_z K0 hr hlocks hE hZ dX2_has_26
  · have hE := if_f hE hc
    refine lv_iload_n hx hb dX2_has_4 rfl (lv_at hl 1 rfl) ?_
    refine vr_aload_n hx hb dX2_has_5 rfl (lv_at hl 0 rfl) ?_
    refine g_RO_1 K0 hK hE hZ q89 dX2_has_6 (fun v6 hE => ?_)
    refine lv_icmp_ge (tgt := 25) hx hb dX2_has_9 (by decide) (fun hc => ?_) (fun hc => ?_)
    · have hE := if_t hE hc
      refine lv_iconst (v := (0)) hx hb dX2_has_25 (by decide +kernel) ?_
      exact end_z K0 hr hlocks hE hZ dX2_has_26
    · have hE := if_f hE hc
      refine lv_iload_n hx hb dX2_has_12 rfl (lv_at hl 1 rfl) ?_
      refine vr_aload_n hx hb dX2_has_13 rfl (lv_at hl 0 rfl) ?_
      refine g_RO_0 K0 hK hE hZ q88 dX2_has_14 (fun v14 hE => ?_)
      refine n_ME K0 hK hE hZ dX2_has_17 (fun v17 hE => ?_)
      refine lv_icmp_ge (tgt := 25) hx hb dX2_has_18 (by decide) (fun hc => ?_) (fun hc => ?_)
      · have hE := if_t hE hc
        refine lv_iconst (v := (0)) hx hb dX2_has_25 (by decide +kernel) ?_
        exact end_z K0 hr hlocks hE hZ dX2_has_26
      · have hE := if_f hE hc
        refine lv_iconst (v := (1)) hx hb dX2_has_21 (by decide +kernel) ?_
        refine lv_goto (tgt := 26) hx hb dX2_has_22 (by decide) ?_
        exact end_z K0 hr hlocks hE hZ dX2_has_26
def f_X2_at (a0 : Nat) (a1 : Int32) : PM Int32 := if a0 < 6 then bnd (f_X2_has a0 a1) (fun v2 => if v2 = 0 then (rtn (-1 : Int32)) else (bnd (rfc 6 a0 a0) (fun v9 => bnd (ald 6 v9 6 30 a1) (fun v13 => rtn v13)))) else fail
theorem yd_X2_at : yX2_at.cls = RX2 ∧ yX2_at.cls ≠ "java/lang/invoke/MethodHandle" ∧ yX2_at.cls ≠ "java/lang/invoke/VarHandle" ∧ (parseMethodDescriptor yX2_at.desc).map (fun d => d.parameters.length) = some 1 := by decide +kernel
set_option maxHeartbeats 4000000 in
set_option maxRecDepth 100000 in
theorem c_X2_at (l : Launch) (D : va_G) (w : Wc) (aS : Nat → Nat) (sk sv : Nat) (A : Nat → Prop) (a0 : Nat) (a1 : Int32) : CT l yX2_at cX2_at 2 (some .int) 1 21 (PC D w A) (ENVC D w aS sk sv A) A [vr w.2.2.2.2 9 6 a0, .int a1] (f_X2_at a0 a1) vI := by
  refine CT.ofW (by decide) [(0, vr w.2.2.2.2 9 6 a0), (1, .int a1)] (by simp [lv_args, vr_cat, vc_i, vc_j, vc_f, vc_d, vc_r, vc_n]) (by simp [lg_sl, vr_cat, vc_i, vc_j, vc_f, vc_d, vc_r, vc_n]) ?_
  intro S0 E0 R p e s m args below meth c ls hE hRf hRl hRc K0 hr hlocks hEV hA hZ hl
  have K0 : CallFix p m c cX2_at 2 s args GW RX2 := K0
  have hx := K0.1
  have hb := K0.2.1
  have hown := K0.2.2.2.1
  have hg := K0.2.2.2.2
  have hK := hEV.1
  have hok : EVok (ENVC D w aS sk sv A) A := ENVC.ok
  unfold f_X2_at at hE
  refine vr_aload_n hx hb dX2_at_0 rfl (lv_at hl 0 rfl) ?_
  refine lv_iload_n hx hb dX2_at_1 rfl (lv_at hl 1 rfl) ?_
  refine call_V (rest := []) K0 hK hok hEV hA (c_X2_has l D w aS sk sv A a0 a1) q496 q497 q498 q42 q499 yd_X2_has ⟨by omega, by omega⟩ hRc (ci := 4) rfl rfl (rc_RO w _) hE hZ hl.1 rfl (Nat.le_of_ble_eq_true rfl) dX2_at_2 (fun v2 S H locs cells slots hE hZ => ?_)
  refine W.eq (g2 := F0 m 5 ls [.int v2]) rfl ?_
  refine lv_if_eq (tgt := 17) hx hb dX2_at_5 (by decide) (fun hc => ?_) (fun hc => ?_)
  · have hE := if_t hE hc
    refine lv_iconst (v := (-1)) hx hb dX2_at_17 (by decide +kernel) ?_
    exact end_i K0 hr hlocks hE hZ dX2_at_18
  · have hE := if_f hE hc
    refine vr_aload_n hx hb dX2_at_8 rfl (lv_at hl 0 rfl) ?_
    refine g_RO_0 K0 hK hE hZ q88 dX2_at_9 (fun v9 hE => ?_)
    refine lv_iload_n hx hb dX2_at_12 rfl (lv_at hl 1 rfl) ?_
    refine a_ME K0 hK hE hZ dX2_at_13 (fun v13 hE => ?_)
    refine lv_goto (tgt := 18) hx hb dX2_at_14 (by decide) ?_
    exact end_i K0 hr hlocks hE hZ dX2_at_18
def f_X2_placeOf_L2 : Nat → Nat → Int32 → Int32 → PM Int32
  | 0, _, _, _ => fail
  | n9 + 1, u0, u1, u2 => bnd (rfc 6 u0 u0) (fun v4 => bnd (rdk 6 v4 (nI 30)) (fun v7 => if v7 ≤ u2 then (rtn (-1 : Int32)) else (if u0 < 6 then bnd (f_X2_at u0 u2) (fun v13 => if v13 = u1 then (rtn u2) else (f_X2_placeOf_L2 n9 u0 u1 (u2 + (1 : Int32)))) else fail)))
def f_X2_placeOf (a0 : Nat) (a1 : Int32) : PM Int32 := f_X2_placeOf_L2 400 a0 a1 (0 : Int32)
theorem yd_X2_placeOf : yX2_placeOf.cls = RX2 ∧ yX2_placeOf.cls ≠ "java/lang/invoke/MethodHandle" ∧ yX2_placeOf.cls ≠ "java/lang/invoke/VarHandle" ∧ (parseMethodDescriptor yX2_placeOf.desc).map (fun d => d.parameters.length) = some 1 := by decide +kernel
set_option maxHeartbeats 4000000 in
set_option maxRecDepth 100000 in
theorem c_X2_placeOf (l : Launch) (D : va_G) (w : Wc) (aS : Nat → Nat) (sk sv : Nat) (A : Nat → Prop) (a0 : Nat) (a1 : Int32) : CT l yX2_placeOf cX2_placeOf 3 (some .int) 2 42 (PC D w A) (ENVC D w aS sk sv A) A [vr w.2.2.2.2 9 6 a0, .int a1] (f_X2_placeOf a0 a1) vI := by
  refine CT.ofW (by decide) [(0, vr w.2.2.2.2 9 6 a0), (1, .int a1)] (by simp [lv_args, vr_cat, vc_i, vc_j, vc_f, vc_d, vc_r, vc_n]) (by simp [lg_sl, vr_cat, vc_i, vc_j, vc_f, vc_d, vc_r, vc_n]) ?_
  intro S0 E0 R p e s m args below meth c ls hE hRf hRl hRc K0 hr hlocks hEV hA hZ hl
  have K0 : CallFix p m c cX2_placeOf 3 s args GW RX2 := K0
  have hx := K0.1
  have hb := K0.2.1
  have hown := K0.2.2.2.1
  have hg := K0.2.2.2.2
  have hK := hEV.1
  have hok : EVok (ENVC D w aS sk sv A) A := ENVC.ok
  have j2 : ∀ (n9 : Nat) (u0 : Nat) (u1 : Int32) (u2 : Int32) (S : St) (H : Heap) (locs : List Loc) (cells slots : Nat) (ls : Array Slot), (f_X2_placeOf_L2 n9 u0 u1 u2).1 S = some E0 → ZZ D 187 (adrC w) (celC w) A S0 s.heap S H locs cells slots → lv_has ls 3 [(0, vr w.2.2.2.2 9 6 u0), (1, .int u1), (2, .int u2)] → W p l e R s m args below meth c H locs cells slots (MQ below (QE E0 vI (PC D w A) A) args s (gN E0.2 7 0 - gN S0 7 0) (gN E0.2 3 0 - gN S0 3 0) A) (F0 m 2 ls []) := by
    intro n9
    induction n9 with
    | zero =>
      intro u0 u1 u2 S H locs cells slots ls hE hZ hl
      rw [f_X2_placeOf_L2] at hE
      cases hE
    | succ n9 ih =>
      intro u0 u1 u2 S H locs cells slots ls hE hZ hl
      rw [f_X2_placeOf_L2] at hE
      refine lv_iload_n hx hb dX2_placeOf_2 rfl (lv_at hl 2 rfl) ?_
      refine vr_aload_n hx hb dX2_placeOf_3 rfl (lv_at hl 0 rfl) ?_
      refine g_RO_0 K0 hK hE hZ q88 dX2_placeOf_4 (fun v4 hE => ?_)
      refine n_ME K0 hK hE hZ dX2_placeOf_7 (fun v7 hE => ?_)
      refine lv_icmp_ge (tgt := 28) hx hb dX2_placeOf_8 (by decide) (fun hc => ?_) (fun hc => ?_)
      · have hE := if_t hE hc
        refine lv_iconst (v := (-1)) hx hb dX2_placeOf_28 (by decide +kernel) ?_
        exact end_i K0 hr hlocks hE hZ dX2_placeOf_29
      · have hE := if_f hE hc
        refine vr_aload_n hx hb dX2_placeOf_11 rfl (lv_at hl 0 rfl) ?_
        refine lv_iload_n hx hb dX2_placeOf_12 rfl (lv_at hl 2 rfl) ?_
        refine call_V (rest := []) K0 hK hok hEV hA (c_X2_at l D w aS sk sv A u0 u2) q492 q493 q494 q42 q495 yd_X2_at ⟨by omega, by omega⟩ hRc (ci := 4) rfl rfl (rc_RO w _) hE hZ hl.1 rfl (Nat.le_of_ble_eq_true rfl) dX2_placeOf_13 (fun v13 S H locs cells slots hE hZ => ?_)
        refine W.eq (g2 := F0 m 16 ls [.int v13]) rfl ?_
        refine lv_iload_n hx hb dX2_placeOf_16 rfl (lv_at hl 1 rfl) ?_
        refine lv_icmp_ne (tgt := 22) hx hb dX2_placeOf_17 (by decide) (fun hc => ?_) (fun hc => ?_)
        · have hE := if_f hE hc
          refine lv_iinc (v := (u2 + (1 : Int32))) (lv' := [(2, .int (u2 + (1 : Int32))), (0, vr w.2.2.2.2 9 6 u0), (1, .int u1)]) hx hb dX2_placeOf_22 hl (k := 2) rfl rfl (by decide) rfl (fun ls hl => ?_)
          refine lv_goto (tgt := 2) hx hb dX2_placeOf_25 (by decide) ?_
          exact ih u0 u1 (u2 + (1 : Int32)) _ _ _ _ _ _ hE hZ (lv_sub hl [1, 2, 0] rfl)
        · have hE := if_t hE hc
          refine lv_iload_n hx hb dX2_placeOf_20 rfl (lv_at hl 2 rfl) ?_
          exact end_i K0 hr hlocks hE hZ dX2_placeOf_21
  unfold f_X2_placeOf at hE
  refine lv_iconst (v := (0)) hx hb dX2_placeOf_0 (by decide +kernel) ?_
  refine lv_istore_n (i := 2) (lv' := [(2, .int (0 : Int32)), (0, vr w.2.2.2.2 9 6 a0), (1, .int a1)]) hx hb dX2_placeOf_1 rfl hl (by decide) rfl (fun ls hl => ?_)
  exact j2 400 a0 a1 (0 : Int32) _ _ _ _ _ _ hE hZ (lv_sub hl [1, 2, 0] rfl)
def f_X2_append (a0 : Nat) (a1 : Int32) : PM Unit := bnd (rdc 6 a0 5) (fun v1 => if v1 < 0 then (rtn ()) else (bnd (rdc 6 a0 5) (fun v8 => bnd (rfc 6 a0 a0) (fun v12 => bnd (rdk 6 v12 (nI 30)) (fun v15 => if v15 ≤ v8 then (rtn ()) else (bnd (rfc 6 a0 a0) (fun v20 => bnd (rdc 6 a0 5) (fun v24 => bnd (ast 6 v20 6 30 v24 a1) (fun _ => bnd (rdc 6 a0 5) (fun v31 => bnd (wrc 6 a0 5 (v31 + (1 : Int32))) (fun _ => rtn ())))))))))))
theorem yd_X2_append : yX2_append.cls = RX2 ∧ yX2_append.cls ≠ "java/lang/invoke/MethodHandle" ∧ yX2_append.cls ≠ "java/lang/invoke/VarHandle" ∧ (parseMethodDescriptor yX2_append.desc).map (fun d => d.parameters.length) = some 1 := by decide +kernel
set_option maxHeartbeats 4000000 in
set_option maxRecDepth 100000 in
theorem c_X2_append (l : Launch) (D : va_G) (w : Wc) (aS : Nat → Nat) (sk sv : Nat) (A : Nat → Prop) (a0 : Nat) (a1 : Int32) : CT l yX2_append cX2_append 2 none 0 0 (PC D w A) (ENVC D w aS sk sv A) A [vr w.2.2.2.2 9 6 a0, .int a1] (f_X2_append a0 a1) vU := by
  refine CT.ofW (by decide) [(0, vr w.2.2.2.2 9 6 a0), (1, .int a1)] (by simp [lv_args, vr_cat, vc_i, vc_j, vc_f, vc_d, vc_r, vc_n]) (by simp [lg_sl, vr_cat, vc_i, vc_j, vc_f, vc_d, vc_r, vc_n]) ?_
  intro S0 E0 R p e s m args below meth c ls hE hRf hRl hRc K0 hr hlocks hEV hA hZ hl
  have K0 : CallFix p m c cX2_append 2 s args GW RX2 := K0
  have hx := K0.1
  have hb := K0.2.1
  have hown := K0.2.2.2.1
  have hg := K0.2.2.2.2
  have hK := hEV.1
  have hok : EVok (ENVC D w aS sk sv A) A := ENVC.ok
  unfold f_X2_append at hE
  refine vr_aload_n hx hb dX2_append_0 rfl (lv_at hl 0 rfl) ?_
  refine g_RO_1 K0 hK hE hZ q89 dX2_append_1 (fun v1 hE => ?_)
  refine lv_if_lt (tgt := 39) hx hb dX2_append_4 (by decide) (fun hc => ?_) (fun hc => ?_)
  · have hE := if_t hE hc
    exact end_v K0 hr hlocks hE hZ dX2_append_39
  · have hE := if_f hE hc
    refine vr_aload_n hx hb dX2_append_7 rfl (lv_at hl 0 rfl) ?_
    refine g_RO_1 K0 hK hE hZ q89 dX2_append_8 (fun v8 hE => ?_)
    refine vr_aload_n hx hb dX2_append_11 rfl (lv_at hl 0 rfl) ?_
    refine g_RO_0 K0 hK hE hZ q88 dX2_append_12 (fun v12 hE => ?_)
    refine n_ME K0 hK hE hZ dX2_append_15 (fun v15 hE => ?_)
    refine lv_icmp_ge (tgt := 39) hx hb dX2_append_16 (by decide) (fun hc => ?_) (fun hc => ?_)
    · have hE := if_t hE hc
      exact end_v K0 hr hlocks hE hZ dX2_append_39
    · have hE := if_f hE hc
      refine vr_aload_n hx hb dX2_append_19 rfl (lv_at hl 0 rfl) ?_
      refine g_RO_0 K0 hK hE hZ q88 dX2_append_20 (fun v20 hE => ?_)
      refine vr_aload_n hx hb dX2_append_23 rfl (lv_at hl 0 rfl) ?_
      refine g_RO_1 K0 hK hE hZ q89 dX2_append_24 (fun v24 hE => ?_)
      refine lv_iload_n hx hb dX2_append_27 rfl (lv_at hl 1 rfl) ?_
      refine s_ME K0 hK hE hZ dX2_append_28 (fun S H locs hE hZ => ?_)
      refine vr_aload_n hx hb dX2_append_29 rfl (lv_at hl 0 rfl) ?_
      refine lv_dup hx hb dX2_append_30 vr_cat ?_
      refine g_RO_1 K0 hK hE hZ q89 dX2_append_31 (fun v31 hE => ?_)
      refine lv_iconst (v := (1)) hx hb dX2_append_34 (by decide +kernel) ?_
      refine lv_iadd hx hb dX2_append_35 ?_
      refine p_RO_1 K0 hK hE hZ q89 dX2_append_36 (fun S H locs hE hZ => ?_)
      exact end_v K0 hr hlocks hE hZ dX2_append_39
def f_X2_removeAt_L11 : Nat → Nat → Int32 → PM Unit
  | 0, _, _ => fail
  | n9 + 1, u0, u2 => bnd (rfc 6 u0 u0) (fun v13 => bnd (rdk 6 v13 (nI 30)) (fun v16 => if (v16 - (1 : Int32)) ≤ u2 then (bnd (rdc 6 u0 5) (fun v44 => bnd (wrc 6 u0 5 (v44 - (1 : Int32))) (fun _ => rtn ()))) else (bnd (rfc 6 u0 u0) (fun v23 => bnd (rfc 6 u0 u0) (fun v28 => bnd (ald 6 v28 6 30 (u2 + (1 : Int32))) (fun v34 => bnd (ast 6 v23 6 30 u2 v34) (fun _ => f_X2_removeAt_L11 n9 u0 (u2 + (1 : Int32)))))))))
def f_X2_removeAt (a0 : Nat) (a1 : Int32) : PM Unit := if a0 < 6 then bnd (f_X2_has a0 a1) (fun v2 => if v2 = 0 then (rtn ()) else (f_X2_removeAt_L11 400 a0 a1)) else fail
theorem yd_X2_removeAt : yX2_removeAt.cls = RX2 ∧ yX2_removeAt.cls ≠ "java/lang/invoke/MethodHandle" ∧ yX2_removeAt.cls ≠ "java/lang/invoke/VarHandle" ∧ (parseMethodDescriptor yX2_removeAt.desc).map (fun d => d.parameters.length) = some 1 := by decide +kernel
set_option maxHeartbeats 4000000 in
set_option maxRecDepth 100000 in
theorem c_X2_removeAt (l : Launch) (D : va_G) (w : Wc) (aS : Nat → Nat) (sk sv : Nat) (A : Nat → Prop) (a0 : Nat) (a1 : Int32) : CT l yX2_removeAt cX2_removeAt 3 none 1 21 (PC D w A) (ENVC D w aS sk sv A) A [vr w.2.2.2.2 9 6 a0, .int a1] (f_X2_removeAt a0 a1) vU := by
  refine CT.ofW (by decide) [(0, vr w.2.2.2.2 9 6 a0), (1, .int a1)] (by simp [lv_args, vr_cat, vc_i, vc_j, vc_f, vc_d, vc_r, vc_n]) (by simp [lg_sl, vr_cat, vc_i, vc_j, vc_f, vc_d, vc_r, vc_n]) ?_
  intro S0 E0 R p e s m args below meth c ls hE hRf hRl hRc K0 hr hlocks hEV hA hZ hl
  have K0 : CallFix p m c cX2_removeAt 3 s args GW RX2 := K0
  have hx := K0.1
  have hb := K0.2.1
  have hown := K0.2.2.2.1
  have hg := K0.2.2.2.2
  have hK := hEV.1
  have hok : EVok (ENVC D w aS sk sv A) A := ENVC.ok
  have j11 : ∀ (n9 : Nat) (u0 : Nat) (u2 : Int32) (S : St) (H : Heap) (locs : List Loc) (cells slots : Nat) (ls : Array Slot), (f_X2_removeAt_L11 n9 u0 u2).1 S = some E0 → ZZ D 187 (adrC w) (celC w) A S0 s.heap S H locs cells slots → lv_has ls 3 [(0, vr w.2.2.2.2 9 6 u0), (2, .int u2)] → W p l e R s m args below meth c H locs cells slots (MQ below (QE E0 vU (PC D w A) A) args s (gN E0.2 7 0 - gN S0 7 0) (gN E0.2 3 0 - gN S0 3 0) A) (F0 m 11 ls []) := by
    intro n9
    induction n9 with
    | zero =>
      intro u0 u2 S H locs cells slots ls hE hZ hl
      rw [f_X2_removeAt_L11] at hE
      cases hE
    | succ n9 ih =>
      intro u0 u2 S H locs cells slots ls hE hZ hl
      rw [f_X2_removeAt_L11] at hE
      refine lv_iload_n hx hb dX2_removeAt_11 rfl (lv_at hl 1 rfl) ?_
      refine vr_aload_n hx hb dX2_removeAt_12 rfl (lv_at hl 0 rfl) ?_
      refine g_RO_0 K0 hK hE hZ q88 dX2_removeAt_13 (fun v13 hE => ?_)
      refine n_ME K0 hK hE hZ dX2_removeAt_16 (fun v16 hE => ?_)
      refine lv_iconst (v := (1)) hx hb dX2_removeAt_17 (by decide +kernel) ?_
      refine lv_isub hx hb dX2_removeAt_18 ?_
      refine lv_icmp_ge (tgt := 42) hx hb dX2_removeAt_19 (by decide) (fun hc => ?_) (fun hc => ?_)
      · have hE := if_t hE hc
        refine vr_aload_n hx hb dX2_removeAt_42 rfl (lv_at hl 0 rfl) ?_
        refine lv_dup hx hb dX2_removeAt_43 vr_cat ?_
        refine g_RO_1 K0 hK hE hZ q89 dX2_removeAt_44 (fun v44 hE => ?_)
        refine lv_iconst (v := (1)) hx hb dX2_removeAt_47 (by decide +kernel) ?_
        refine lv_isub hx hb dX2_removeAt_48 ?_
        refine p_RO_1 K0 hK hE hZ q89 dX2_removeAt_49 (fun S H locs hE hZ => ?_)
        exact end_v K0 hr hlocks hE hZ dX2_removeAt_52
      · have hE := if_f hE hc
        refine vr_aload_n hx hb dX2_removeAt_22 rfl (lv_at hl 0 rfl) ?_
        refine g_RO_0 K0 hK hE hZ q88 dX2_removeAt_23 (fun v23 hE => ?_)
        refine lv_iload_n hx hb dX2_removeAt_26 rfl (lv_at hl 1 rfl) ?_
        refine vr_aload_n hx hb dX2_removeAt_27 rfl (lv_at hl 0 rfl) ?_
        refine g_RO_0 K0 hK hE hZ q88 dX2_removeAt_28 (fun v28 hE => ?_)
        refine lv_iload_n hx hb dX2_removeAt_31 rfl (lv_at hl 1 rfl) ?_
        refine lv_iconst (v := (1)) hx hb dX2_removeAt_32 (by decide +kernel) ?_
        refine lv_iadd hx hb dX2_removeAt_33 ?_
        refine a_ME K0 hK hE hZ dX2_removeAt_34 (fun v34 hE => ?_)
        refine s_ME K0 hK hE hZ dX2_removeAt_35 (fun S H locs hE hZ => ?_)
        refine lv_iinc (v := (u2 + (1 : Int32))) (lv' := [(2, .int (u2 + (1 : Int32))), (0, vr w.2.2.2.2 9 6 u0)]) hx hb dX2_removeAt_36 hl (k := 1) rfl rfl (by decide) rfl (fun ls hl => ?_)
        refine lv_goto (tgt := 11) hx hb dX2_removeAt_39 (by decide) ?_
        exact ih u0 (u2 + (1 : Int32)) _ _ _ _ _ _ hE hZ (lv_sub hl [1, 0] rfl)
  unfold f_X2_removeAt at hE
  refine vr_aload_n hx hb dX2_removeAt_0 rfl (lv_at hl 0 rfl) ?_
  refine lv_iload_n hx hb dX2_removeAt_1 rfl (lv_at hl 1 rfl) ?_
  refine call_V (rest := []) K0 hK hok hEV hA (c_X2_has l D w aS sk sv A a0 a1) q496 q497 q498 q42 q499 yd_X2_has ⟨by omega, by omega⟩ hRc (ci := 4) rfl rfl (rc_RO w _) hE hZ hl.1 rfl (Nat.le_of_ble_eq_true rfl) dX2_removeAt_2 (fun v2 S H locs cells slots hE hZ => ?_)
  refine W.eq (g2 := F0 m 5 ls [.int v2]) rfl ?_
  refine lv_if_ne (tgt := 9) hx hb dX2_removeAt_5 (by decide) (fun hc => ?_) (fun hc => ?_)
  · have hE := if_f hE hc
    refine lv_iload_n hx hb dX2_removeAt_9 rfl (lv_at hl 1 rfl) ?_
    refine lv_istore_n (i := 2) (lv' := [(2, .int a1), (0, vr w.2.2.2.2 9 6 a0), (1, .int a1)]) hx hb dX2_removeAt_10 rfl hl (by decide) rfl (fun ls hl => ?_)
    exact j11 400 a0 a1 _ _ _ _ _ _ hE hZ (lv_sub hl [1, 0] rfl)
  · have hE := if_t hE hc
    exact end_v K0 hr hlocks hE hZ dX2_removeAt_8
def f_X2_exchange (a0 : Nat) (a1 : Int32) (a2 : Int32) : PM Unit := if a0 < 6 then bnd (f_X2_has a0 a1) (fun v2 => if v2 = 0 then (rtn ()) else (if a0 < 6 then bnd (f_X2_has a0 a2) (fun v10 => if v10 = 0 then (rtn ()) else (bnd (rfc 6 a0 a0) (fun v17 => bnd (ald 6 v17 6 30 a1) (fun v21 => bnd (rfc 6 a0 a0) (fun v24 => bnd (rfc 6 a0 a0) (fun v29 => bnd (ald 6 v29 6 30 a2) (fun v33 => bnd (ast 6 v24 6 30 a1 v33) (fun _ => bnd (rfc 6 a0 a0) (fun v36 => bnd (ast 6 v36 6 30 a2 v21) (fun _ => rtn ())))))))))) else fail)) else fail
theorem yd_X2_exchange : yX2_exchange.cls = RX2 ∧ yX2_exchange.cls ≠ "java/lang/invoke/MethodHandle" ∧ yX2_exchange.cls ≠ "java/lang/invoke/VarHandle" ∧ (parseMethodDescriptor yX2_exchange.desc).map (fun d => d.parameters.length) = some 2 := by decide +kernel
set_option maxHeartbeats 4000000 in
set_option maxRecDepth 100000 in
theorem c_X2_exchange (l : Launch) (D : va_G) (w : Wc) (aS : Nat → Nat) (sk sv : Nat) (A : Nat → Prop) (a0 : Nat) (a1 : Int32) (a2 : Int32) : CT l yX2_exchange cX2_exchange 4 none 1 21 (PC D w A) (ENVC D w aS sk sv A) A [vr w.2.2.2.2 9 6 a0, .int a1, .int a2] (f_X2_exchange a0 a1 a2) vU := by
  refine CT.ofW (by decide) [(0, vr w.2.2.2.2 9 6 a0), (1, .int a1), (2, .int a2)] (by simp [lv_args, vr_cat, vc_i, vc_j, vc_f, vc_d, vc_r, vc_n]) (by simp [lg_sl, vr_cat, vc_i, vc_j, vc_f, vc_d, vc_r, vc_n]) ?_
  intro S0 E0 R p e s m args below meth c ls hE hRf hRl hRc K0 hr hlocks hEV hA hZ hl
  have K0 : CallFix p m c cX2_exchange 4 s args GW RX2 := K0
  have hx := K0.1
  have hb := K0.2.1
  have hown := K0.2.2.2.1
  have hg := K0.2.2.2.2
  have hK := hEV.1
  have hok : EVok (ENVC D w aS sk sv A) A := ENVC.ok
  unfold f_X2_exchange at hE
  refine vr_aload_n hx hb dX2_exchange_0 rfl (lv_at hl 0 rfl) ?_
  refine lv_iload_n hx hb dX2_exchange_1 rfl (lv_at hl 1 rfl) ?_
  refine call_V (rest := []) K0 hK hok hEV hA (c_X2_has l D w aS sk sv A a0 a1) q496 q497 q498 q42 q499 yd_X2_has ⟨by omega, by omega⟩ hRc (ci := 4) rfl rfl (rc_RO w _) hE hZ hl.1 rfl (Nat.le_of_ble_eq_true rfl) dX2_exchange_2 (fun v2 S H locs cells slots hE hZ => ?_)
  refine W.eq (g2 := F0 m 5 ls [.int v2]) rfl ?_
  refine lv_if_eq (tgt := 42) hx hb dX2_exchange_5 (by decide) (fun hc => ?_) (fun hc => ?_)
  · have hE := if_t hE hc
    exact end_v K0 hr hlocks hE hZ dX2_exchange_42
  · have hE := if_f hE hc
    refine vr_aload_n hx hb dX2_exchange_8 rfl (lv_at hl 0 rfl) ?_
    refine lv_iload_n hx hb dX2_exchange_9 rfl (lv_at hl 2 rfl) ?_
    refine call_V (rest := []) K0 hK hok hEV hA (c_X2_has l D w aS sk sv A a0 a2) q496 q497 q498 q42 q499 yd_X2_has ⟨by omega, by omega⟩ hRc (ci := 4) rfl rfl (rc_RO w _) hE hZ hl.1 rfl (Nat.le_of_ble_eq_true rfl) dX2_exchange_10 (fun v10 S H locs cells slots hE hZ => ?_)
    refine W.eq (g2 := F0 m 13 ls [.int v10]) rfl ?_
    refine lv_if_eq (tgt := 42) hx hb dX2_exchange_13 (by decide) (fun hc => ?_) (fun hc => ?_)
    · have hE := if_t hE hc
      exact end_v K0 hr hlocks hE hZ dX2_exchange_42
    · have hE := if_f hE hc
      refine vr_aload_n hx hb dX2_exchange_16 rfl (lv_at hl 0 rfl) ?_
      refine g_RO_0 K0 hK hE hZ q88 dX2_exchange_17 (fun v17 hE => ?_)
      refine lv_iload_n hx hb dX2_exchange_20 rfl (lv_at hl 1 rfl) ?_
      refine a_ME K0 hK hE hZ dX2_exchange_21 (fun v21 hE => ?_)
      refine lv_istore_n (i := 3) (lv' := [(3, .int v21), (0, vr w.2.2.2.2 9 6 a0), (1, .int a1), (2, .int a2)]) hx hb dX2_exchange_22 rfl hl (by decide) rfl (fun ls hl => ?_)
      refine vr_aload_n hx hb dX2_exchange_23 rfl (lv_at hl 1 rfl) ?_
      refine g_RO_0 K0 hK hE hZ q88 dX2_exchange_24 (fun v24 hE => ?_)
      refine lv_iload_n hx hb dX2_exchange_27 rfl (lv_at hl 2 rfl) ?_
      refine vr_aload_n hx hb dX2_exchange_28 rfl (lv_at hl 1 rfl) ?_
      refine g_RO_0 K0 hK hE hZ q88 dX2_exchange_29 (fun v29 hE => ?_)
      refine lv_iload_n hx hb dX2_exchange_32 rfl (lv_at hl 3 rfl) ?_
      refine a_ME K0 hK hE hZ dX2_exchange_33 (fun v33 hE => ?_)
      refine s_ME K0 hK hE hZ dX2_exchange_34 (fun S H locs hE hZ => ?_)
      refine vr_aload_n hx hb dX2_exchange_35 rfl (lv_at hl 1 rfl) ?_
      refine g_RO_0 K0 hK hE hZ q88 dX2_exchange_36 (fun v36 hE => ?_)
      refine lv_iload_n hx hb dX2_exchange_39 rfl (lv_at hl 3 rfl) ?_
      refine lv_iload_n hx hb dX2_exchange_40 rfl (lv_at hl 0 rfl) ?_
      refine s_ME K0 hK hE hZ dX2_exchange_41 (fun S H locs hE hZ => ?_)
      exact end_v K0 hr hlocks hE hZ dX2_exchange_42
def f_X2_copyFrom_L10 : Nat → Nat → Nat → Int32 → PM Unit
  | 0, _, _, _ => fail
  | n9 + 1, u0, u1, u2 => bnd (rfc 6 u0 u0) (fun v12 => bnd (rdk 6 v12 (nI 30)) (fun v15 => if v15 ≤ u2 then (rtn ()) else (bnd (rfc 6 u0 u0) (fun v20 => if u1 < 6 then bnd (f_X2_at u1 u2) (fun v26 => bnd (ast 6 v20 6 30 u2 v26) (fun _ => f_X2_copyFrom_L10 n9 u0 u1 (u2 + (1 : Int32)))) else fail))))
def f_X2_copyFrom (a0 : Nat) (a1 : Nat) : PM Unit := bnd (rdc 6 a1 5) (fun v2 => bnd (wrc 6 a0 5 v2) (fun _ => f_X2_copyFrom_L10 400 a0 a1 (0 : Int32)))
theorem yd_X2_copyFrom : yX2_copyFrom.cls = RX2 ∧ yX2_copyFrom.cls ≠ "java/lang/invoke/MethodHandle" ∧ yX2_copyFrom.cls ≠ "java/lang/invoke/VarHandle" ∧ (parseMethodDescriptor yX2_copyFrom.desc).map (fun d => d.parameters.length) = some 1 := by decide +kernel
set_option maxHeartbeats 4000000 in
set_option maxRecDepth 100000 in
theorem c_X2_copyFrom (l : Launch) (D : va_G) (w : Wc) (aS : Nat → Nat) (sk sv : Nat) (A : Nat → Prop) (a0 : Nat) (a1 : Nat) : CT l yX2_copyFrom cX2_copyFrom 3 none 2 42 (PC D w A) (ENVC D w aS sk sv A) A [vr w.2.2.2.2 9 6 a0, vr w.2.2.2.2 9 6 a1] (f_X2_copyFrom a0 a1) vU := by
  refine CT.ofW (by decide) [(0, vr w.2.2.2.2 9 6 a0), (1, vr w.2.2.2.2 9 6 a1)] (by simp [lv_args, vr_cat, vc_i, vc_j, vc_f, vc_d, vc_r, vc_n]) (by simp [lg_sl, vr_cat, vc_i, vc_j, vc_f, vc_d, vc_r, vc_n]) ?_
  intro S0 E0 R p e s m args below meth c ls hE hRf hRl hRc K0 hr hlocks hEV hA hZ hl
  have K0 : CallFix p m c cX2_copyFrom 3 s args GW RX2 := K0
  have hx := K0.1
  have hb := K0.2.1
  have hown := K0.2.2.2.1
  have hg := K0.2.2.2.2
  have hK := hEV.1
  have hok : EVok (ENVC D w aS sk sv A) A := ENVC.ok
  have j10 : ∀ (n9 : Nat) (u0 : Nat) (u1 : Nat) (u2 : Int32) (S : St) (H : Heap) (locs : List Loc) (cells slots : Nat) (ls : Array Slot), (f_X2_copyFrom_L10 n9 u0 u1 u2).1 S = some E0 → ZZ D 187 (adrC w) (celC w) A S0 s.heap S H locs cells slots → lv_has ls 3 [(0, vr w.2.2.2.2 9 6 u0), (1, vr w.2.2.2.2 9 6 u1), (2, .int u2)] → W p l e R s m args below meth c H locs cells slots (MQ below (QE E0 vU (PC D w A) A) args s (gN E0.2 7 0 - gN S0 7 0) (gN E0.2 3 0 - gN S0 3 0) A) (F0 m 10 ls []) := by
    intro n9
    induction n9 with
    | zero =>
      intro u0 u1 u2 S H locs cells slots ls hE hZ hl
      rw [f_X2_copyFrom_L10] at hE
      cases hE
    | succ n9 ih =>
      intro u0 u1 u2 S H locs cells slots ls hE hZ hl
      rw [f_X2_copyFrom_L10] at hE
      refine lv_iload_n hx hb dX2_copyFrom_10 rfl (lv_at hl 2 rfl) ?_
      refine vr_aload_n hx hb dX2_copyFrom_11 rfl (lv_at hl 0 rfl) ?_
      refine g_RO_0 K0 hK hE hZ q88 dX2_copyFrom_12 (fun v12 hE => ?_)
      refine n_ME K0 hK hE hZ dX2_copyFrom_15 (fun v15 hE => ?_)
      refine lv_icmp_ge (tgt := 36) hx hb dX2_copyFrom_16 (by decide) (fun hc => ?_) (fun hc => ?_)
      · have hE := if_t hE hc
        exact end_v K0 hr hlocks hE hZ dX2_copyFrom_36
      · have hE := if_f hE hc
        refine vr_aload_n hx hb dX2_copyFrom_19 rfl (lv_at hl 0 rfl) ?_
        refine g_RO_0 K0 hK hE hZ q88 dX2_copyFrom_20 (fun v20 hE => ?_)
        refine lv_iload_n hx hb dX2_copyFrom_23 rfl (lv_at hl 2 rfl) ?_
        refine vr_aload_n hx hb dX2_copyFrom_24 rfl (lv_at hl 1 rfl) ?_
        refine lv_iload_n hx hb dX2_copyFrom_25 rfl (lv_at hl 2 rfl) ?_
        refine call_V (rest := [.int u2, vr w.2.2.2.2 15 6 v20]) K0 hK hok hEV hA (c_X2_at l D w aS sk sv A u1 u2) q492 q493 q494 q42 q495 yd_X2_at ⟨by omega, by omega⟩ hRc (ci := 4) rfl rfl (rc_RO w _) hE hZ hl.1 rfl (by simp [vr_cat, vc_i, vc_j, vc_f, vc_d, vc_r, vc_n]) dX2_copyFrom_26 (fun v26 S H locs cells slots hE hZ => ?_)
        refine W.eq (g2 := F0 m 29 ls [.int v26, .int u2, vr w.2.2.2.2 15 6 v20]) rfl ?_
        refine s_ME K0 hK hE hZ dX2_copyFrom_29 (fun S H locs hE hZ => ?_)
        refine lv_iinc (v := (u2 + (1 : Int32))) (lv' := [(2, .int (u2 + (1 : Int32))), (0, vr w.2.2.2.2 9 6 u0), (1, vr w.2.2.2.2 9 6 u1)]) hx hb dX2_copyFrom_30 hl (k := 2) rfl rfl (by decide) (by simp [vr_cat, vc_i, vc_j, vc_f, vc_d, vc_r, vc_n]) (fun ls hl => ?_)
        refine lv_goto (tgt := 10) hx hb dX2_copyFrom_33 (by decide) ?_
        exact ih u0 u1 (u2 + (1 : Int32)) _ _ _ _ _ _ hE hZ (lv_sub hl [1, 2, 0] rfl)
  unfold f_X2_copyFrom at hE
  refine vr_aload_n hx hb dX2_copyFrom_0 rfl (lv_at hl 0 rfl) ?_
  refine vr_aload_n hx hb dX2_copyFrom_1 rfl (lv_at hl 1 rfl) ?_
  refine g_RO_1 K0 hK hE hZ q89 dX2_copyFrom_2 (fun v2 hE => ?_)
  refine p_RO_1 K0 hK hE hZ q89 dX2_copyFrom_5 (fun S H locs hE hZ => ?_)
  refine lv_iconst (v := (0)) hx hb dX2_copyFrom_8 (by decide +kernel) ?_
  refine lv_istore_n (i := 2) (lv' := [(2, .int (0 : Int32)), (0, vr w.2.2.2.2 9 6 a0), (1, vr w.2.2.2.2 9 6 a1)]) hx hb dX2_copyFrom_9 rfl hl (by decide) (by simp [vr_cat, vc_i, vc_j, vc_f, vc_d, vc_r, vc_n]) (fun ls hl => ?_)
  exact j10 400 a0 a1 (0 : Int32) _ _ _ _ _ _ hE hZ (lv_sub hl [1, 2, 0] rfl)
def f_X3_setUp (a0 : Nat) (a1 : Int32) (a2 : Int32) (a3 : Int32) (a4 : Int32) : PM Unit := bnd (wrc 16 a0 7 a1) (fun _ => bnd (wrc 16 a0 8 a2) (fun _ => bnd (wrc 16 a0 9 a3) (fun _ => bnd (wrc 16 a0 10 a4) (fun _ => rtn ()))))
theorem yd_X3_setUp : yX3_setUp.cls = RX3 ∧ yX3_setUp.cls ≠ "java/lang/invoke/MethodHandle" ∧ yX3_setUp.cls ≠ "java/lang/invoke/VarHandle" ∧ (parseMethodDescriptor yX3_setUp.desc).map (fun d => d.parameters.length) = some 4 := by decide +kernel
set_option maxHeartbeats 4000000 in
set_option maxRecDepth 100000 in
theorem c_X3_setUp (l : Launch) (D : va_G) (w : Wc) (aS : Nat → Nat) (sk sv : Nat) (A : Nat → Prop) (a0 : Nat) (a1 : Int32) (a2 : Int32) (a3 : Int32) (a4 : Int32) : CT l yX3_setUp cX3_setUp 5 none 0 0 (PC D w A) (ENVC D w aS sk sv A) A [vr w.2.2.2.2 21 16 a0, .int a1, .int a2, .int a3, .int a4] (f_X3_setUp a0 a1 a2 a3 a4) vU := by
  refine CT.ofW (by decide) [(0, vr w.2.2.2.2 21 16 a0), (1, .int a1), (2, .int a2), (3, .int a3), (4, .int a4)] (by simp [lv_args, vr_cat, vc_i, vc_j, vc_f, vc_d, vc_r, vc_n]) (by simp [lg_sl, vr_cat, vc_i, vc_j, vc_f, vc_d, vc_r, vc_n]) ?_
  intro S0 E0 R p e s m args below meth c ls hE hRf hRl hRc K0 hr hlocks hEV hA hZ hl
  have K0 : CallFix p m c cX3_setUp 5 s args GW RX3 := K0
  have hx := K0.1
  have hb := K0.2.1
  have hown := K0.2.2.2.1
  have hg := K0.2.2.2.2
  have hK := hEV.1
  have hok : EVok (ENVC D w aS sk sv A) A := ENVC.ok
  unfold f_X3_setUp at hE
  refine vr_aload_n hx hb dX3_setUp_0 rfl (lv_at hl 0 rfl) ?_
  refine lv_iload_n hx hb dX3_setUp_1 rfl (lv_at hl 1 rfl) ?_
  refine p_ST_0 K0 hK hE hZ q103 dX3_setUp_2 (fun S H locs hE hZ => ?_)
  refine vr_aload_n hx hb dX3_setUp_5 rfl (lv_at hl 0 rfl) ?_
  refine lv_iload_n hx hb dX3_setUp_6 rfl (lv_at hl 2 rfl) ?_
  refine p_ST_1 K0 hK hE hZ q105 dX3_setUp_7 (fun S H locs hE hZ => ?_)
  refine vr_aload_n hx hb dX3_setUp_10 rfl (lv_at hl 0 rfl) ?_
  refine lv_iload_n hx hb dX3_setUp_11 rfl (lv_at hl 3 rfl) ?_
  refine p_ST_2 K0 hK hE hZ q108 dX3_setUp_12 (fun S H locs hE hZ => ?_)
  refine vr_aload_n hx hb dX3_setUp_15 rfl (lv_at hl 0 rfl) ?_
  refine lv_iload hx hb dX3_setUp_16 (lv_at hl 4 rfl) ?_
  refine p_ST_3 K0 hK hE hZ q109 dX3_setUp_18 (fun S H locs hE hZ => ?_)
  exact end_v K0 hr hlocks hE hZ dX3_setUp_21
def f_X3_copyFrom (a0 : Nat) (a1 : Nat) : PM Unit := bnd (rdc 16 a1 7) (fun v2 => bnd (rdc 16 a1 8) (fun v6 => bnd (rdc 16 a1 9) (fun v10 => bnd (rdc 16 a1 10) (fun v14 => if a0 < 16 then bnd (f_X3_setUp a0 v2 v6 v10 v14) (fun _ => bnd (rdc 16 a1 11) (fun v22 => bnd (wrc 16 a0 11 v22) (fun _ => bnd (rdc 16 a1 12) (fun v30 => bnd (wrc 16 a0 12 v30) (fun _ => bnd (rdc 16 a1 13) (fun v38 => bnd (wrc 16 a0 13 v38) (fun _ => bnd (rdcL 16 a1) (fun v46 => bnd (wrcL 16 a0 v46) (fun _ => rtn ()))))))))) else fail))))
theorem yd_X3_copyFrom : yX3_copyFrom.cls = RX3 ∧ yX3_copyFrom.cls ≠ "java/lang/invoke/MethodHandle" ∧ yX3_copyFrom.cls ≠ "java/lang/invoke/VarHandle" ∧ (parseMethodDescriptor yX3_copyFrom.desc).map (fun d => d.parameters.length) = some 1 := by decide +kernel
set_option maxHeartbeats 4000000 in
set_option maxRecDepth 100000 in
theorem c_X3_copyFrom (l : Launch) (D : va_G) (w : Wc) (aS : Nat → Nat) (sk sv : Nat) (A : Nat → Prop) (a0 : Nat) (a1 : Nat) : CT l yX3_copyFrom cX3_copyFrom 2 none 1 24 (PC D w A) (ENVC D w aS sk sv A) A [vr w.2.2.2.2 21 16 a0, vr w.2.2.2.2 21 16 a1] (f_X3_copyFrom a0 a1) vU := by
  refine CT.ofW (by decide) [(0, vr w.2.2.2.2 21 16 a0), (1, vr w.2.2.2.2 21 16 a1)] (by simp [lv_args, vr_cat, vc_i, vc_j, vc_f, vc_d, vc_r, vc_n]) (by simp [lg_sl, vr_cat, vc_i, vc_j, vc_f, vc_d, vc_r, vc_n]) ?_
  intro S0 E0 R p e s m args below meth c ls hE hRf hRl hRc K0 hr hlocks hEV hA hZ hl
  have K0 : CallFix p m c cX3_copyFrom 2 s args GW RX3 := K0
  have hx := K0.1
  have hb := K0.2.1
  have hown := K0.2.2.2.1
  have hg := K0.2.2.2.2
  have hK := hEV.1
  have hok : EVok (ENVC D w aS sk sv A) A := ENVC.ok
  unfold f_X3_copyFrom at hE
  refine vr_aload_n hx hb dX3_copyFrom_0 rfl (lv_at hl 0 rfl) ?_
  refine vr_aload_n hx hb dX3_copyFrom_1 rfl (lv_at hl 1 rfl) ?_
  refine g_ST_0 K0 hK hE hZ q103 dX3_copyFrom_2 (fun v2 hE => ?_)
  refine vr_aload_n hx hb dX3_copyFrom_5 rfl (lv_at hl 1 rfl) ?_
  refine g_ST_1 K0 hK hE hZ q105 dX3_copyFrom_6 (fun v6 hE => ?_)
  refine vr_aload_n hx hb dX3_copyFrom_9 rfl (lv_at hl 1 rfl) ?_
  refine g_ST_2 K0 hK hE hZ q108 dX3_copyFrom_10 (fun v10 hE => ?_)
  refine vr_aload_n hx hb dX3_copyFrom_13 rfl (lv_at hl 1 rfl) ?_
  refine g_ST_3 K0 hK hE hZ q109 dX3_copyFrom_14 (fun v14 hE => ?_)
  refine call_V (rest := []) K0 hK hok hEV hA (c_X3_setUp l D w aS sk sv A a0 v2 v6 v10 v14) q930 q404 q405 q43 q406 yd_X3_setUp ⟨by omega, by omega⟩ hRc (ci := 5) rfl rfl (rc_ST w _) hE hZ hl.1 rfl (Nat.le_of_ble_eq_true rfl) dX3_copyFrom_17 (fun v17 S H locs cells slots hE hZ => ?_)
  refine W.eq (g2 := F0 m 20 ls []) rfl ?_
  refine vr_aload_n hx hb dX3_copyFrom_20 rfl (lv_at hl 0 rfl) ?_
  refine vr_aload_n hx hb dX3_copyFrom_21 rfl (lv_at hl 1 rfl) ?_
  refine g_ST_4 K0 hK hE hZ q111 dX3_copyFrom_22 (fun v22 hE => ?_)
  refine p_ST_4 K0 hK hE hZ q111 dX3_copyFrom_25 (fun S H locs hE hZ => ?_)
  refine vr_aload_n hx hb dX3_copyFrom_28 rfl (lv_at hl 0 rfl) ?_
  refine vr_aload_n hx hb dX3_copyFrom_29 rfl (lv_at hl 1 rfl) ?_
  refine g_ST_5 K0 hK hE hZ q114 dX3_copyFrom_30 (fun v30 hE => ?_)
  refine p_ST_5 K0 hK hE hZ q114 dX3_copyFrom_33 (fun S H locs hE hZ => ?_)
  refine vr_aload_n hx hb dX3_copyFrom_36 rfl (lv_at hl 0 rfl) ?_
  refine vr_aload_n hx hb dX3_copyFrom_37 rfl (lv_at hl 1 rfl) ?_
  refine g_ST_6 K0 hK hE hZ q117 dX3_copyFrom_38 (fun v38 hE => ?_)
  refine p_ST_6 K0 hK hE hZ q117 dX3_copyFrom_41 (fun S H locs hE hZ => ?_)
  refine vr_aload_n hx hb dX3_copyFrom_44 rfl (lv_at hl 0 rfl) ?_
  refine vr_aload_n hx hb dX3_copyFrom_45 rfl (lv_at hl 1 rfl) ?_
  refine g_ST_7 K0 hK hE hZ q119 dX3_copyFrom_46 (fun v46 hE => ?_)
  refine p_ST_7 K0 hK hE hZ q119 dX3_copyFrom_49 (fun S H locs hE hZ => ?_)
  exact end_v K0 hr hlocks hE hZ dX3_copyFrom_52
def f_X3_serve (a0 : Nat) (a1 : Nat) (a2 : Int32) : PM Int32 := bnd (rdc 16 a0 8) (fun v1 => if v1 = (-1 : Int32) then (rtnC (43 : Int32)) else (bnd (rdc 16 a0 8) (fun v13 => if a1 < 60 then bnd (f_X0_isWanting a1 v13) (fun v16 => if v16 = 0 then (if a2 = 0 then (rtnC (46 : Int32)) else (rtnC (43 : Int32))) else (bnd (rdc 16 a0 11) (fun v35 => bnd (rdc 16 a0 9) (fun v39 => if v39 ≤ v35 then (bnd (rdc 16 a0 11) (fun v60 => bnd (rdc 16 a0 9) (fun v64 => bnd (wrc 16 a0 11 (v60 - v64)) (fun _ => bnd (rdcL 16 a0) (fun v73 => bnd (rdc 16 a0 9) (fun v77 => bnd (wrcL 16 a0 (v73 + (v77.toInt64))) (fun _ => rtnC (43 : Int32)))))))) else (bnd (rdc 16 a0 13) (fun v47 => bnd (wrc 16 a0 13 (v47 + (1 : Int32))) (fun _ => rtnC (45 : Int32)))))))) else fail)))
theorem yd_X3_serve : yX3_serve.cls = RX3 ∧ yX3_serve.cls ≠ "java/lang/invoke/MethodHandle" ∧ yX3_serve.cls ≠ "java/lang/invoke/VarHandle" ∧ (parseMethodDescriptor yX3_serve.desc).map (fun d => d.parameters.length) = some 2 := by decide +kernel
set_option maxHeartbeats 4000000 in
set_option maxRecDepth 100000 in
theorem c_X3_serve (l : Launch) (D : va_G) (w : Wc) (aS : Nat → Nat) (sk sv : Nat) (A : Nat → Prop) (a0 : Nat) (a1 : Nat) (a2 : Int32) : CT l yX3_serve cX3_serve 3 (some .char) 1 21 (PC D w A) (ENVC D w aS sk sv A) A [vr w.2.2.2.2 21 16 a0, vr w.2.2.2.2 37 60 a1, .int a2] (f_X3_serve a0 a1 a2) vI := by
  refine CT.ofW (by decide) [(0, vr w.2.2.2.2 21 16 a0), (1, vr w.2.2.2.2 37 60 a1), (2, .int a2)] (by simp [lv_args, vr_cat, vc_i, vc_j, vc_f, vc_d, vc_r, vc_n]) (by simp [lg_sl, vr_cat, vc_i, vc_j, vc_f, vc_d, vc_r, vc_n]) ?_
  intro S0 E0 R p e s m args below meth c ls hE hRf hRl hRc K0 hr hlocks hEV hA hZ hl
  have K0 : CallFix p m c cX3_serve 3 s args GW RX3 := K0
  have hx := K0.1
  have hb := K0.2.1
  have hown := K0.2.2.2.1
  have hg := K0.2.2.2.2
  have hK := hEV.1
  have hok : EVok (ENVC D w aS sk sv A) A := ENVC.ok
  unfold f_X3_serve at hE
  refine vr_aload_n hx hb dX3_serve_0 rfl (lv_at hl 0 rfl) ?_
  refine g_ST_1 K0 hK hE hZ q105 dX3_serve_1 (fun v1 hE => ?_)
  refine lv_iconst (v := (-1)) hx hb dX3_serve_4 (by decide +kernel) ?_
  refine lv_icmp_ne (tgt := 11) hx hb dX3_serve_5 (by decide) (fun hc => ?_) (fun hc => ?_)
  · have hE := if_f hE hc
    refine vr_aload_n hx hb dX3_serve_11 rfl (lv_at hl 1 rfl) ?_
    refine vr_aload_n hx hb dX3_serve_12 rfl (lv_at hl 0 rfl) ?_
    refine g_ST_1 K0 hK hE hZ q105 dX3_serve_13 (fun v13 hE => ?_)
    refine call_V (rest := []) K0 hK hok hEV hA (c_X0_isWanting l D w aS sk sv A a1 v13) q614 q615 q616 q44 q617 yd_X0_isWanting ⟨by omega, by omega⟩ hRc (ci := 2) rfl rfl (rc_CA w _) hE hZ hl.1 rfl (Nat.le_of_ble_eq_true rfl) dX3_serve_16 (fun v16 S H locs cells slots hE hZ => ?_)
    refine W.eq (g2 := F0 m 19 ls [.int v16]) rfl ?_
    refine lv_if_ne (tgt := 34) hx hb dX3_serve_19 (by decide) (fun hc => ?_) (fun hc => ?_)
    · have hE := if_f hE hc
      refine vr_aload_n hx hb dX3_serve_34 rfl (lv_at hl 0 rfl) ?_
      refine g_ST_4 K0 hK hE hZ q111 dX3_serve_35 (fun v35 hE => ?_)
      refine vr_aload_n hx hb dX3_serve_38 rfl (lv_at hl 0 rfl) ?_
      refine g_ST_2 K0 hK hE hZ q108 dX3_serve_39 (fun v39 hE => ?_)
      refine lv_icmp_ge (tgt := 58) hx hb dX3_serve_42 (by decide) (fun hc => ?_) (fun hc => ?_)
      · have hE := if_t hE hc
        refine vr_aload_n hx hb dX3_serve_58 rfl (lv_at hl 0 rfl) ?_
        refine lv_dup hx hb dX3_serve_59 vr_cat ?_
        refine g_ST_4 K0 hK hE hZ q111 dX3_serve_60 (fun v60 hE => ?_)
        refine vr_aload_n hx hb dX3_serve_63 rfl (lv_at hl 0 rfl) ?_
        refine g_ST_2 K0 hK hE hZ q108 dX3_serve_64 (fun v64 hE => ?_)
        refine lv_isub hx hb dX3_serve_67 ?_
        refine p_ST_4 K0 hK hE hZ q111 dX3_serve_68 (fun S H locs hE hZ => ?_)
        refine vr_aload_n hx hb dX3_serve_71 rfl (lv_at hl 0 rfl) ?_
        refine lv_dup hx hb dX3_serve_72 vr_cat ?_
        refine g_ST_7 K0 hK hE hZ q119 dX3_serve_73 (fun v73 hE => ?_)
        refine vr_aload_n hx hb dX3_serve_76 rfl (lv_at hl 0 rfl) ?_
        refine g_ST_2 K0 hK hE hZ q108 dX3_serve_77 (fun v77 hE => ?_)
        refine lv_i2l hx hb dX3_serve_80 rfl ?_
        refine lv_ladd hx hb dX3_serve_81 ?_
        refine p_ST_7 K0 hK hE hZ q119 dX3_serve_82 (fun S H locs hE hZ => ?_)
        refine lv_bipush (v := (43)) hx hb dX3_serve_85 (by decide +kernel) ?_
        exact end_c K0 hr hlocks hE hZ dX3_serve_87
      · have hE := if_f hE hc
        refine vr_aload_n hx hb dX3_serve_45 rfl (lv_at hl 0 rfl) ?_
        refine lv_dup hx hb dX3_serve_46 vr_cat ?_
        refine g_ST_6 K0 hK hE hZ q117 dX3_serve_47 (fun v47 hE => ?_)
        refine lv_iconst (v := (1)) hx hb dX3_serve_50 (by decide +kernel) ?_
        refine lv_iadd hx hb dX3_serve_51 ?_
        refine p_ST_6 K0 hK hE hZ q117 dX3_serve_52 (fun S H locs hE hZ => ?_)
        refine lv_bipush (v := (45)) hx hb dX3_serve_55 (by decide +kernel) ?_
        exact end_c K0 hr hlocks hE hZ dX3_serve_57
    · have hE := if_t hE hc
      refine lv_iload_n hx hb dX3_serve_22 rfl (lv_at hl 2 rfl) ?_
      refine lv_if_eq (tgt := 31) hx hb dX3_serve_23 (by decide) (fun hc => ?_) (fun hc => ?_)
      · have hE := if_t hE hc
        refine lv_bipush (v := (46)) hx hb dX3_serve_31 (by decide +kernel) ?_
        exact end_c K0 hr hlocks hE hZ dX3_serve_33
      · have hE := if_f hE hc
        refine lv_bipush (v := (43)) hx hb dX3_serve_26 (by decide +kernel) ?_
        refine lv_goto (tgt := 33) hx hb dX3_serve_28 (by decide) ?_
        exact end_c K0 hr hlocks hE hZ dX3_serve_33
  · have hE := if_t hE hc
    refine lv_bipush (v := (43)) hx hb dX3_serve_8 (by decide +kernel) ?_
    exact end_c K0 hr hlocks hE hZ dX3_serve_10
def f_X4_has (a0 : Nat) (a1 : Int32) : PM Int32 := if a1 < 0 then (rtnZ (0 : Int32)) else (bnd (rdc 30 a0 23) (fun v6 => if v6 ≤ a1 then (rtnZ (0 : Int32)) else (bnd (if a0 < 30 then rdN 1 a0 else fail) (fun v14 => bnd (sgN a0 v14) (fun v17 => if v17 ≤ a1 then (rtnZ (0 : Int32)) else (rtnZ (1 : Int32)))))))
theorem yd_X4_has : yX4_has.cls = RX4 ∧ yX4_has.cls ≠ "java/lang/invoke/MethodHandle" ∧ yX4_has.cls ≠ "java/lang/invoke/VarHandle" ∧ (parseMethodDescriptor yX4_has.desc).map (fun d => d.parameters.length) = some 1 := by decide +kernel
set_option maxHeartbeats 4000000 in
set_option maxRecDepth 100000 in
theorem c_X4_has (l : Launch) (D : va_G) (w : Wc) (aS : Nat → Nat) (sk sv : Nat) (A : Nat → Prop) (a0 : Nat) (a1 : Int32) : CT l yX4_has cX4_has 2 (some .boolean) 0 0 (PC D w A) (ENVC D w aS sk sv A) A [vr w.2.2.2.2 97 30 a0, .int a1] (f_X4_has a0 a1) vI := by
  refine CT.ofW (by decide) [(0, vr w.2.2.2.2 97 30 a0), (1, .int a1)] (by simp [lv_args, vr_cat, vc_i, vc_j, vc_f, vc_d, vc_r, vc_n]) (by simp [lg_sl, vr_cat, vc_i, vc_j, vc_f, vc_d, vc_r, vc_n]) ?_
  intro S0 E0 R p e s m args below meth c ls hE hRf hRl hRc K0 hr hlocks hEV hA hZ hl
  have K0 : CallFix p m c cX4_has 2 s args GW RX4 := K0
  have hx := K0.1
  have hb := K0.2.1
  have hown := K0.2.2.2.1
  have hg := K0.2.2.2.2
  have hK := hEV.1
  have hok : EVok (ENVC D w aS sk sv A) A := ENVC.ok
  unfold f_X4_has at hE
  refine lv_iload_n hx hb dX4_has_0 rfl (lv_at hl 1 rfl) ?_
  refine lv_if_lt (tgt := 25) hx hb dX4_has_1 (by decide) (fun hc => ?_) (fun hc => ?_)
  · have hE := if_t hE hc
    refine lv_iconst (v := (0)) hx hb dX4_has_25 (by decide +kernel) ?_
    exact end_z K0 hr hlocks hE hZ dX4_has_26
  · have hE := if_f hE hc
    refine lv_iload_n hx hb dX4_has_4 rfl (lv_at hl 1 rfl) ?_
    refine vr_aload_n hx hb dX4_has_5 rfl (lv_at hl 0 rfl) ?_
    refine g_TR_1 K0 hK hE hZ q146 dX4_has_6 (fun v6 hE => ?_)
    refine lv_icmp_ge (tgt := 25) hx hb dX4_has_9 (by decide) (fun hc => ?_) (fun hc => ?_)
    · have hE := if_t hE hc
      refine lv_iconst (v := (0)) hx hb dX4_has_25 (by decide +kernel) ?_
      exact end_z K0 hr hlocks hE hZ dX4_has_26
    · have hE := if_f hE hc
      refine lv_iload_n hx hb dX4_has_12 rfl (lv_at hl 1 rfl) ?_
      refine vr_aload_n hx hb dX4_has_13 rfl (lv_at hl 0 rfl) ?_
      refine g_TR_0 K0 hK hE hZ q145 dX4_has_14 (fun v14 hE => ?_)
      refine n_SG K0 hK hE hZ dX4_has_17 (fun v17 hE => ?_)
      refine lv_icmp_ge (tgt := 25) hx hb dX4_has_18 (by decide) (fun hc => ?_) (fun hc => ?_)
      · have hE := if_t hE hc
        refine lv_iconst (v := (0)) hx hb dX4_has_25 (by decide +kernel) ?_
        exact end_z K0 hr hlocks hE hZ dX4_has_26
      · have hE := if_f hE hc
        refine lv_iconst (v := (1)) hx hb dX4_has_21 (by decide +kernel) ?_
        refine lv_goto (tgt := 26) hx hb dX4_has_22 (by decide) ?_
        exact end_z K0 hr hlocks hE hZ dX4_has_26
def f_X4_signAt (a0 : Nat) (a1 : Int32) : PM Int32 := if a0 < 30 then bnd (f_X4_has a0 a1) (fun v2 => if v2 = 0 then (rtnC (120 : Int32)) else (bnd (if a0 < 30 then rdN 1 a0 else fail) (fun v9 => bnd (sgL a0 v9 a1) (fun v13 => rtnC v13)))) else fail
theorem yd_X4_signAt : yX4_signAt.cls = RX4 ∧ yX4_signAt.cls ≠ "java/lang/invoke/MethodHandle" ∧ yX4_signAt.cls ≠ "java/lang/invoke/VarHandle" ∧ (parseMethodDescriptor yX4_signAt.desc).map (fun d => d.parameters.length) = some 1 := by decide +kernel
set_option maxHeartbeats 4000000 in
set_option maxRecDepth 100000 in
theorem c_X4_signAt (l : Launch) (D : va_G) (w : Wc) (aS : Nat → Nat) (sk sv : Nat) (A : Nat → Prop) (a0 : Nat) (a1 : Int32) : CT l yX4_signAt cX4_signAt 2 (some .char) 1 21 (PC D w A) (ENVC D w aS sk sv A) A [vr w.2.2.2.2 97 30 a0, .int a1] (f_X4_signAt a0 a1) vI := by
  refine CT.ofW (by decide) [(0, vr w.2.2.2.2 97 30 a0), (1, .int a1)] (by simp [lv_args, vr_cat, vc_i, vc_j, vc_f, vc_d, vc_r, vc_n]) (by simp [lg_sl, vr_cat, vc_i, vc_j, vc_f, vc_d, vc_r, vc_n]) ?_
  intro S0 E0 R p e s m args below meth c ls hE hRf hRl hRc K0 hr hlocks hEV hA hZ hl
  have K0 : CallFix p m c cX4_signAt 2 s args GW RX4 := K0
  have hx := K0.1
  have hb := K0.2.1
  have hown := K0.2.2.2.1
  have hg := K0.2.2.2.2
  have hK := hEV.1
  have hok : EVok (ENVC D w aS sk sv A) A := ENVC.ok
  unfold f_X4_signAt at hE
  refine vr_aload_n hx hb dX4_signAt_0 rfl (lv_at hl 0 rfl) ?_
  refine lv_iload_n hx hb dX4_signAt_1 rfl (lv_at hl 1 rfl) ?_
  refine call_V (rest := []) K0 hK hok hEV hA (c_X4_has l D w aS sk sv A a0 a1) q1009 q1001 q1002 q45 q1003 yd_X4_has ⟨by omega, by omega⟩ hRc (ci := 6) rfl rfl (rc_TR w _) hE hZ hl.1 rfl (Nat.le_of_ble_eq_true rfl) dX4_signAt_2 (fun v2 S H locs cells slots hE hZ => ?_)
  refine W.eq (g2 := F0 m 5 ls [.int v2]) rfl ?_
  refine lv_if_eq (tgt := 17) hx hb dX4_signAt_5 (by decide) (fun hc => ?_) (fun hc => ?_)
  · have hE := if_t hE hc
    refine lv_bipush (v := (120)) hx hb dX4_signAt_17 (by decide +kernel) ?_
    exact end_c K0 hr hlocks hE hZ dX4_signAt_19
  · have hE := if_f hE hc
    refine vr_aload_n hx hb dX4_signAt_8 rfl (lv_at hl 0 rfl) ?_
    refine g_TR_0 K0 hK hE hZ q145 dX4_signAt_9 (fun v9 hE => ?_)
    refine lv_iload_n hx hb dX4_signAt_12 rfl (lv_at hl 1 rfl) ?_
    refine a_SG K0 hK hE hZ dX4_signAt_13 (fun v13 hE => ?_)
    refine lv_goto (tgt := 19) hx hb dX4_signAt_14 (by decide) ?_
    exact end_c K0 hr hlocks hE hZ dX4_signAt_19
