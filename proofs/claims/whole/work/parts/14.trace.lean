/-! part 14: a tick passes (by program) -/
def f_X4_grow_L30 : Nat → Nat → Nat → Int32 → PM Unit
  | 0, _, _, _ => fail
  | n9 + 1, u0, u2, u3 => bnd (if u0 < 30 then rdN 1 u0 else fail) (fun v32 => bnd (sgN u0 v32) (fun v35 => if v35 ≤ u3 then (bnd (swapT u0 u2) (fun _ => rtn ())) else (bnd (tmpN u2) (fun v41 => if v41 ≤ u3 then (bnd (swapT u0 u2) (fun _ => rtn ())) else (bnd (if u0 < 30 then rdN 1 u0 else fail) (fun v48 => bnd (sgL u0 v48 u3) (fun v52 => bnd (tmpS u2 u3 v52) (fun _ => f_X4_grow_L30 n9 u0 u2 (u3 + (1 : Int32))))))))))
def f_X4_grow (a0 : Nat) : PM Unit := bnd (if a0 < 30 then rdN 1 a0 else fail) (fun v1 => bnd (sgN a0 v1) (fun v4 => bnd (rtn (v4 * (2 : Int32))) (fun w7 => bnd (if a0 < 30 then rdN 1 a0 else fail) (fun v10 => bnd (sgN a0 v10) (fun v13 => if w7 ≤ v13 then (rtn ()) else (if w7 ≤ (32768 : Int32) then (bnd (newTmp w7) (fun v25 => f_X4_grow_L30 70000 a0 v25 (0 : Int32))) else (rtn ())))))))
theorem yd_X4_grow : yX4_grow.cls = RX4 ∧ yX4_grow.cls ≠ "java/lang/invoke/MethodHandle" ∧ yX4_grow.cls ≠ "java/lang/invoke/VarHandle" ∧ (parseMethodDescriptor yX4_grow.desc).map (fun d => d.parameters.length) = some 0 := by decide +kernel
set_option maxHeartbeats 4000000 in
set_option maxRecDepth 100000 in
theorem c_X4_grow (l : Launch) (D : va_G) (w : Wc) (aS : Nat → Nat) (sk sv : Nat) (A : Nat → Prop) (a0 : Nat) : CT l yX4_grow cX4_grow 4 none 0 0 (PC D w A) (ENVC D w aS sk sv A) A [vr w.2.2.2.2 97 30 a0] (f_X4_grow a0) vU := by
  refine CT.ofW (by decide) [(0, vr w.2.2.2.2 97 30 a0)] (by simp [lv_args, vr_cat, vc_i, vc_j, vc_f, vc_d, vc_r, vc_n]) (by simp [lg_sl, vr_cat, vc_i, vc_j, vc_f, vc_d, vc_r, vc_n]) ?_
  intro S0 E0 R p e s m args below meth c ls hE hRf hRl hRc K0 hr hlocks hEV hA hZ hl
  have K0 : CallFix p m c cX4_grow 4 s args GW RX4 := K0
  have hx := K0.1
  have hb := K0.2.1
  have hown := K0.2.2.2.1
  have hg := K0.2.2.2.2
  have hK := hEV.1
  have hok : EVok (ENVC D w aS sk sv A) A := ENVC.ok
  have j30 : ∀ (n9 : Nat) (u0 : Nat) (u2 : Nat) (u3 : Int32) (S : St) (H : Heap) (locs : List Loc) (cells slots : Nat) (ls : Array Slot), (f_X4_grow_L30 n9 u0 u2 u3).1 S = some E0 → ZZ D 188 (adrX w) (celX w) A S0 s.heap S H locs cells slots → lv_has ls 4 [(0, vr w.2.2.2.2 97 30 u0), (2, .ref u2), (3, .int u3)] → W p l e R s m args below meth c H locs cells slots (MQ below (QE E0 vU (PC D w A) A) args s (gN E0.2 7 0 - gN S0 7 0) (gN E0.2 3 0 - gN S0 3 0) A) (F0 m 30 ls []) := by
    intro n9
    induction n9 with
    | zero =>
      intro u0 u2 u3 S H locs cells slots ls hE hZ hl
      rw [f_X4_grow_L30] at hE
      cases hE
    | succ n9 ih =>
      intro u0 u2 u3 S H locs cells slots ls hE hZ hl
      rw [f_X4_grow_L30] at hE
      refine lv_iload_n hx hb dX4_grow_30 rfl (lv_at hl 2 rfl) ?_
      refine vr_aload_n hx hb dX4_grow_31 rfl (lv_at hl 0 rfl) ?_
      refine xg_TR_0 K0 hK hE hZ q145 dX4_grow_32 (fun v32 hE => ?_)
      refine xn_SG K0 hK hE hZ dX4_grow_35 (fun v35 hE => ?_)
      refine lv_icmp_ge (tgt := 60) hx hb dX4_grow_36 (by decide) (fun hc => ?_) (fun hc => ?_)
      · have hE := if_t hE hc
        refine vr_aload_n hx hb dX4_grow_60 rfl (lv_at hl 0 rfl) ?_
        refine lv_aload_n hx hb dX4_grow_61 rfl (lv_at hl 1 rfl) ?_
        refine x_swap K0 hK hE hZ q145 dX4_grow_62 (fun S H locs hE hZ => ?_)
        exact end_v K0 hr hlocks hE hZ dX4_grow_65
      · have hE := if_f hE hc
        refine lv_iload_n hx hb dX4_grow_39 rfl (lv_at hl 2 rfl) ?_
        refine lv_aload_n hx hb dX4_grow_40 rfl (lv_at hl 1 rfl) ?_
        refine xn_TM K0 hK hE hZ dX4_grow_41 (fun v41 hE => ?_)
        refine lv_icmp_ge (tgt := 60) hx hb dX4_grow_42 (by decide) (fun hc => ?_) (fun hc => ?_)
        · have hE := if_t hE hc
          refine vr_aload_n hx hb dX4_grow_60 rfl (lv_at hl 0 rfl) ?_
          refine lv_aload_n hx hb dX4_grow_61 rfl (lv_at hl 1 rfl) ?_
          refine x_swap K0 hK hE hZ q145 dX4_grow_62 (fun S H locs hE hZ => ?_)
          exact end_v K0 hr hlocks hE hZ dX4_grow_65
        · have hE := if_f hE hc
          refine lv_aload_n hx hb dX4_grow_45 rfl (lv_at hl 1 rfl) ?_
          refine lv_iload_n hx hb dX4_grow_46 rfl (lv_at hl 2 rfl) ?_
          refine vr_aload_n hx hb dX4_grow_47 rfl (lv_at hl 0 rfl) ?_
          refine xg_TR_0 K0 hK hE hZ q145 dX4_grow_48 (fun v48 hE => ?_)
          refine lv_iload_n hx hb dX4_grow_51 rfl (lv_at hl 2 rfl) ?_
          refine xa_SG K0 hK hE hZ dX4_grow_52 (fun v52 hE => ?_)
          refine xs_TM K0 hK hE hZ dX4_grow_53 (fun S H locs hE hZ => ?_)
          refine lv_iinc (v := (u3 + (1 : Int32))) (lv' := [(3, .int (u3 + (1 : Int32))), (0, vr w.2.2.2.2 97 30 u0), (2, .ref u2)]) hx hb dX4_grow_54 hl (k := 2) rfl rfl (by decide) rfl (fun ls hl => ?_)
          refine lv_goto (tgt := 30) hx hb dX4_grow_57 (by decide) ?_
          exact ih u0 u2 (u3 + (1 : Int32)) _ _ _ _ _ _ hE hZ (lv_sub hl [1, 2, 0] rfl)
  unfold f_X4_grow at hE
  refine vr_aload_n hx hb dX4_grow_0 rfl (lv_at hl 0 rfl) ?_
  refine g_TR_0 K0 hK hE hZ q145 dX4_grow_1 (fun v1 hE => ?_)
  refine n_SG K0 hK hE hZ dX4_grow_4 (fun v4 hE => ?_)
  refine lv_iconst (v := (2)) hx hb dX4_grow_5 (by decide +kernel) ?_
  refine lv_imul hx hb dX4_grow_6 ?_
  refine let_i hE (fun w7 hE => ?_)
  refine lv_istore_n (i := 1) (lv' := [(1, .int w7), (0, vr w.2.2.2.2 97 30 a0)]) hx hb dX4_grow_7 rfl hl (by decide) (by simp [vr_cat, vc_i, vc_j, vc_f, vc_d, vc_r, vc_n]) (fun ls hl => ?_)
  refine lv_iload_n hx hb dX4_grow_8 rfl (lv_at hl 0 rfl) ?_
  refine vr_aload_n hx hb dX4_grow_9 rfl (lv_at hl 1 rfl) ?_
  refine g_TR_0 K0 hK hE hZ q145 dX4_grow_10 (fun v10 hE => ?_)
  refine n_SG K0 hK hE hZ dX4_grow_13 (fun v13 hE => ?_)
  refine lv_icmp_le (tgt := 23) hx hb dX4_grow_14 (by decide) (fun hc => ?_) (fun hc => ?_)
  · have hE := if_t hE hc
    exact end_v K0 hr hlocks hE hZ dX4_grow_23
  · have hE := if_f hE hc
    refine lv_iload_n hx hb dX4_grow_17 rfl (lv_at hl 0 rfl) ?_
    refine lv_ldc (v := (32768)) hx hb hown (hg _ q639) dX4_grow_18 ?_
    refine lv_icmp_le (tgt := 24) hx hb dX4_grow_20 (by decide) (fun hc => ?_) (fun hc => ?_)
    · have hE := if_t hE hc
      refine lv_iload_n hx hb dX4_grow_24 rfl (lv_at hl 0 rfl) ?_
      refine x_new K0 q156 hK hA hE hZ hRc dX4_grow_25 (fun v25 S H cells slots hE hZ => ?_)
      refine lv_astore_n (i := 2) (lv' := [(2, .ref v25), (1, .int w7), (0, vr w.2.2.2.2 97 30 a0)]) hx hb dX4_grow_27 rfl hl (by decide) rfl (fun ls hl => ?_)
      refine lv_iconst (v := (0)) hx hb dX4_grow_28 (by decide +kernel) ?_
      refine lv_istore_n (i := 3) (lv' := [(3, .int (0 : Int32)), (2, .ref v25), (1, .int w7), (0, vr w.2.2.2.2 97 30 a0)]) hx hb dX4_grow_29 rfl hl (by decide) rfl (fun ls hl => ?_)
      exact j30 70000 a0 v25 (0 : Int32) _ _ _ _ _ _ hE hZ (lv_sub hl [3, 1, 0] rfl)
    · have hE := if_f hE hc
      exact end_v K0 hr hlocks hE hZ dX4_grow_23
def f_X4_append_J55 (u0 : Nat) (u1 : Int32) : PM Unit := bnd (f_J0_indexOf_0f7a4 u1) (fun v58 => if v58 < 0 then (rtn ()) else (bnd (rfc 30 u0 u0) (fun v68 => bnd (rdk 30 v68 (nI 5)) (fun v71 => if v71 ≤ v58 then (rtn ()) else (bnd (rfc 30 u0 u0) (fun v76 => bnd (ald 30 v76 24 5 v58) (fun v81 => bnd (ast 30 v76 24 5 v58 (v81 + (1 : Int32))) (fun _ => rtn ()))))))))
def f_X4_append_J16 (u0 : Nat) (u1 : Int32) : PM Unit := bnd (rdc 30 u0 23) (fun v17 => if v17 < 0 then (f_X4_append_J55 u0 u1) else (bnd (rdc 30 u0 23) (fun v24 => bnd (if u0 < 30 then rdN 1 u0 else fail) (fun v28 => bnd (sgN u0 v28) (fun v31 => if v31 ≤ v24 then (f_X4_append_J55 u0 u1) else (bnd (if u0 < 30 then rdN 1 u0 else fail) (fun v36 => bnd (rdc 30 u0 23) (fun v40 => bnd (sgS u0 v36 v40 u1) (fun _ => bnd (rdc 30 u0 23) (fun v47 => bnd (wrc 30 u0 23 (v47 + (1 : Int32))) (fun _ => f_X4_append_J55 u0 u1)))))))))))
def f_X4_append (a0 : Nat) (a1 : Int32) : PM Unit := bnd (rdc 30 a0 23) (fun v1 => bnd (if a0 < 30 then rdN 1 a0 else fail) (fun v5 => bnd (sgN a0 v5) (fun v8 => if v1 < v8 then (f_X4_append_J16 a0 a1) else (if a0 < 30 then bnd (f_X4_grow a0) (fun _ => f_X4_append_J16 a0 a1) else fail))))
theorem yd_X4_append : yX4_append.cls = RX4 ∧ yX4_append.cls ≠ "java/lang/invoke/MethodHandle" ∧ yX4_append.cls ≠ "java/lang/invoke/VarHandle" ∧ (parseMethodDescriptor yX4_append.desc).map (fun d => d.parameters.length) = some 1 := by decide +kernel
set_option maxHeartbeats 4000000 in
set_option maxRecDepth 100000 in
theorem c_X4_append (l : Launch) (D : va_G) (w : Wc) (aS : Nat → Nat) (sk sv : Nat) (A : Nat → Prop) (a0 : Nat) (a1 : Int32) : CT l yX4_append cX4_append 3 none 4 96 (PC D w A) (ENVC D w aS sk sv A) A [vr w.2.2.2.2 97 30 a0, .int a1] (f_X4_append a0 a1) vU := by
  refine CT.ofW (by decide) [(0, vr w.2.2.2.2 97 30 a0), (1, .int a1)] (by simp [lv_args, vr_cat, vc_i, vc_j, vc_f, vc_d, vc_r, vc_n]) (by simp [lg_sl, vr_cat, vc_i, vc_j, vc_f, vc_d, vc_r, vc_n]) ?_
  intro S0 E0 R p e s m args below meth c ls hE hRf hRl hRc K0 hr hlocks hEV hA hZ hl
  have K0 : CallFix p m c cX4_append 3 s args GW RX4 := K0
  have hx := K0.1
  have hb := K0.2.1
  have hown := K0.2.2.2.1
  have hg := K0.2.2.2.2
  have hK := hEV.1
  have hok : EVok (ENVC D w aS sk sv A) A := ENVC.ok
  have j55 : ∀ (u0 : Nat) (u1 : Int32) (S : St) (H : Heap) (locs : List Loc) (cells slots : Nat) (ls : Array Slot), (f_X4_append_J55 u0 u1).1 S = some E0 → ZZ D 187 (adrC w) (celC w) A S0 s.heap S H locs cells slots → lv_has ls 3 [(0, vr w.2.2.2.2 97 30 u0), (1, .int u1)] → W p l e R s m args below meth c H locs cells slots (MQ below (QE E0 vU (PC D w A) A) args s (gN E0.2 7 0 - gN S0 7 0) (gN E0.2 3 0 - gN S0 3 0) A) (F0 m 55 ls []) := by
    intro u0 u1 S H locs cells slots ls hE hZ hl
    unfold f_X4_append_J55 at hE
    refine va_ldcS hx hb hown hEV.2.2.2.2.2.2.1 dX4_append_55 ?_
    refine lv_iload_n hx hb dX4_append_57 rfl (lv_at hl 1 rfl) ?_
    refine call_VS (rest := []) K0 hok hEV hA (c_J0_indexOf_0f7a4 l D w aS sk sv A u1) q641 q642 q643 q56 q644 yd_J0_indexOf_0f7a4 ⟨by omega, by omega⟩ hRc (vk_recv hEV.2.2.2.2.2.2.2.1 (i := 0) (by decide) hZ.2.1) hE hZ hl.1 rfl (Nat.le_of_ble_eq_true rfl) dX4_append_58 (fun v58 S H locs cells slots hE hZ => ?_)
    refine W.eq (g2 := F0 m 61 ls [.int v58]) rfl ?_
    refine lv_istore_n (i := 2) (lv' := [(2, .int v58), (0, vr w.2.2.2.2 97 30 u0), (1, .int u1)]) hx hb dX4_append_61 rfl hl (by decide) rfl (fun ls hl => ?_)
    refine lv_iload_n hx hb dX4_append_62 rfl (lv_at hl 0 rfl) ?_
    refine lv_if_lt (tgt := 85) hx hb dX4_append_63 (by decide) (fun hc => ?_) (fun hc => ?_)
    · have hE := if_t hE hc
      exact end_v K0 hr hlocks hE hZ dX4_append_85
    · have hE := if_f hE hc
      refine lv_iload_n hx hb dX4_append_66 rfl (lv_at hl 0 rfl) ?_
      refine vr_aload_n hx hb dX4_append_67 rfl (lv_at hl 1 rfl) ?_
      refine g_TR_2 K0 hK hE hZ q148 dX4_append_68 (fun v68 hE => ?_)
      refine n_TO K0 hK hE hZ dX4_append_71 (fun v71 hE => ?_)
      refine lv_icmp_ge (tgt := 85) hx hb dX4_append_72 (by decide) (fun hc => ?_) (fun hc => ?_)
      · have hE := if_t hE hc
        exact end_v K0 hr hlocks hE hZ dX4_append_85
      · have hE := if_f hE hc
        refine vr_aload_n hx hb dX4_append_75 rfl (lv_at hl 1 rfl) ?_
        refine g_TR_2 K0 hK hE hZ q148 dX4_append_76 (fun v76 hE => ?_)
        refine lv_iload_n hx hb dX4_append_79 rfl (lv_at hl 0 rfl) ?_
        refine lv_dup2_11 hx hb dX4_append_80 rfl vr_cat ?_
        refine a_TO K0 hK hE hZ dX4_append_81 (fun v81 hE => ?_)
        refine lv_iconst (v := (1)) hx hb dX4_append_82 (by decide +kernel) ?_
        refine lv_iadd hx hb dX4_append_83 ?_
        refine s_TO K0 hK hE hZ dX4_append_84 (fun S H locs hE hZ => ?_)
        exact end_v K0 hr hlocks hE hZ dX4_append_85
  have j16 : ∀ (u0 : Nat) (u1 : Int32) (S : St) (H : Heap) (locs : List Loc) (cells slots : Nat) (ls : Array Slot), (f_X4_append_J16 u0 u1).1 S = some E0 → ZZ D 187 (adrC w) (celC w) A S0 s.heap S H locs cells slots → lv_has ls 3 [(0, vr w.2.2.2.2 97 30 u0), (1, .int u1)] → W p l e R s m args below meth c H locs cells slots (MQ below (QE E0 vU (PC D w A) A) args s (gN E0.2 7 0 - gN S0 7 0) (gN E0.2 3 0 - gN S0 3 0) A) (F0 m 16 ls []) := by
    intro u0 u1 S H locs cells slots ls hE hZ hl
    unfold f_X4_append_J16 at hE
    refine vr_aload_n hx hb dX4_append_16 rfl (lv_at hl 0 rfl) ?_
    refine g_TR_1 K0 hK hE hZ q146 dX4_append_17 (fun v17 hE => ?_)
    refine lv_if_lt (tgt := 55) hx hb dX4_append_20 (by decide) (fun hc => ?_) (fun hc => ?_)
    · have hE := if_t hE hc
      exact j55 u0 u1 _ _ _ _ _ _ hE hZ (lv_sub hl [0, 1] rfl)
    · have hE := if_f hE hc
      refine vr_aload_n hx hb dX4_append_23 rfl (lv_at hl 0 rfl) ?_
      refine g_TR_1 K0 hK hE hZ q146 dX4_append_24 (fun v24 hE => ?_)
      refine vr_aload_n hx hb dX4_append_27 rfl (lv_at hl 0 rfl) ?_
      refine g_TR_0 K0 hK hE hZ q145 dX4_append_28 (fun v28 hE => ?_)
      refine n_SG K0 hK hE hZ dX4_append_31 (fun v31 hE => ?_)
      refine lv_icmp_ge (tgt := 55) hx hb dX4_append_32 (by decide) (fun hc => ?_) (fun hc => ?_)
      · have hE := if_t hE hc
        exact j55 u0 u1 _ _ _ _ _ _ hE hZ (lv_sub hl [0, 1] rfl)
      · have hE := if_f hE hc
        refine vr_aload_n hx hb dX4_append_35 rfl (lv_at hl 0 rfl) ?_
        refine g_TR_0 K0 hK hE hZ q145 dX4_append_36 (fun v36 hE => ?_)
        refine vr_aload_n hx hb dX4_append_39 rfl (lv_at hl 0 rfl) ?_
        refine g_TR_1 K0 hK hE hZ q146 dX4_append_40 (fun v40 hE => ?_)
        refine lv_iload_n hx hb dX4_append_43 rfl (lv_at hl 1 rfl) ?_
        refine s_SG K0 hK hE hZ dX4_append_44 (fun S H locs hE hZ => ?_)
        refine vr_aload_n hx hb dX4_append_45 rfl (lv_at hl 0 rfl) ?_
        refine lv_dup hx hb dX4_append_46 vr_cat ?_
        refine g_TR_1 K0 hK hE hZ q146 dX4_append_47 (fun v47 hE => ?_)
        refine lv_iconst (v := (1)) hx hb dX4_append_50 (by decide +kernel) ?_
        refine lv_iadd hx hb dX4_append_51 ?_
        refine p_TR_1 K0 hK hE hZ q146 dX4_append_52 (fun S H locs hE hZ => ?_)
        exact j55 u0 u1 _ _ _ _ _ _ hE hZ (lv_sub hl [0, 1] rfl)
  unfold f_X4_append at hE
  refine vr_aload_n hx hb dX4_append_0 rfl (lv_at hl 0 rfl) ?_
  refine g_TR_1 K0 hK hE hZ q146 dX4_append_1 (fun v1 hE => ?_)
  refine vr_aload_n hx hb dX4_append_4 rfl (lv_at hl 0 rfl) ?_
  refine g_TR_0 K0 hK hE hZ q145 dX4_append_5 (fun v5 hE => ?_)
  refine n_SG K0 hK hE hZ dX4_append_8 (fun v8 hE => ?_)
  refine lv_icmp_lt (tgt := 16) hx hb dX4_append_9 (by decide) (fun hc => ?_) (fun hc => ?_)
  · have hE := if_t hE hc
    exact j16 a0 a1 _ _ _ _ _ _ hE hZ (lv_sub hl [0, 1] rfl)
  · have hE := if_f hE hc
    refine vr_aload_n hx hb dX4_append_12 rfl (lv_at hl 0 rfl) ?_
    refine call_V (rest := []) K0 hK hok hEV hA (c_X4_grow l D w aS sk sv A a0) q635 q637 q12 q45 q638 yd_X4_grow ⟨by omega, by omega⟩ hRc (ci := 6) rfl rfl (rc_TR w _) hE hZ hl.1 rfl (Nat.le_of_ble_eq_true rfl) dX4_append_13 (fun v13 S H locs cells slots hE hZ => ?_)
    refine W.eq (g2 := F0 m 16 ls []) rfl ?_
    exact j16 a0 a1 _ _ _ _ _ _ hE hZ (lv_sub hl [0, 1] rfl)
def f_X1_note (a0 : Nat) (a1 : Nat) (a2 : Int32) : PM Unit := bnd (rfc 60 a1 a1) (fun v1 => if v1 < 30 then (bnd (rfc 60 a1 a1) (fun v8 => if v8 < 30 then bnd (f_X4_append v8 a2) (fun _ => rtn ()) else fail)) else (rtn ()))
theorem yd_X1_note : yX1_note.cls = RX1 ∧ yX1_note.cls ≠ "java/lang/invoke/MethodHandle" ∧ yX1_note.cls ≠ "java/lang/invoke/VarHandle" ∧ (parseMethodDescriptor yX1_note.desc).map (fun d => d.parameters.length) = some 2 := by decide +kernel
set_option maxHeartbeats 4000000 in
set_option maxRecDepth 100000 in
theorem c_X1_note (l : Launch) (D : va_G) (w : Wc) (aS : Nat → Nat) (sk sv : Nat) (A : Nat → Prop) (a0 : Nat) (a1 : Nat) (a2 : Int32) : CT l yX1_note cX1_note 3 none 5 118 (PC D w A) (ENVC D w aS sk sv A) A [vr w.2.2.2.2 1 2 a0, vr w.2.2.2.2 37 60 a1, .int a2] (f_X1_note a0 a1 a2) vU := by
  refine CT.ofW (by decide) [(0, vr w.2.2.2.2 1 2 a0), (1, vr w.2.2.2.2 37 60 a1), (2, .int a2)] (by simp [lv_args, vr_cat, vc_i, vc_j, vc_f, vc_d, vc_r, vc_n]) (by simp [lg_sl, vr_cat, vc_i, vc_j, vc_f, vc_d, vc_r, vc_n]) ?_
  intro S0 E0 R p e s m args below meth c ls hE hRf hRl hRc K0 hr hlocks hEV hA hZ hl
  have K0 : CallFix p m c cX1_note 3 s args GW RX1 := K0
  have hx := K0.1
  have hb := K0.2.1
  have hown := K0.2.2.2.1
  have hg := K0.2.2.2.2
  have hK := hEV.1
  have hok : EVok (ENVC D w aS sk sv A) A := ENVC.ok
  unfold f_X1_note at hE
  refine vr_aload_n hx hb dX1_note_0 rfl (lv_at hl 1 rfl) ?_
  refine gN_CA_1 K0 hK hE hZ (nw17 hEV) dX1_note_1 (fun v1 hE => ?_)
  refine vr_ifnull (tgt := 15) hx hb dX1_note_4 (by decide) (fun hc => ?_) (fun hc => ?_)
  · have hE := if_t hE hc
    refine vr_aload_n hx hb dX1_note_7 rfl (lv_at hl 1 rfl) ?_
    refine gN_CA_1 K0 hK hE hZ (nw17 hEV) dX1_note_8 (fun v8 hE => ?_)
    refine lv_iload_n hx hb dX1_note_11 rfl (lv_at hl 2 rfl) ?_
    refine call_V (rest := []) K0 hK hok hEV hA (c_X4_append l D w aS sk sv A v8 a2) q631 q632 q633 q45 q634 yd_X4_append ⟨by omega, by omega⟩ hRc (ci := 6) rfl rfl (rc_TR w _) hE hZ hl.1 rfl (Nat.le_of_ble_eq_true rfl) dX1_note_12 (fun v12 S H locs cells slots hE hZ => ?_)
    refine W.eq (g2 := F0 m 15 ls []) rfl ?_
    exact end_v K0 hr hlocks hE hZ dX1_note_15
  · have hE := if_f hE hc
    exact end_v K0 hr hlocks hE hZ dX1_note_15
def f_X1_enter_J95 (u0 : Nat) (u1 : Nat) (u2 : Int32) (u5 : Int32) : PM Unit := if u0 < 2 then bnd (f_X1_note u0 u1 ((((48 : Int32) + u2).toUInt32 % 65536).toInt32)) (fun _ => if u0 < 2 then bnd (f_X1_note u0 u1 u5) (fun _ => rtn ()) else fail) else fail
def f_X1_enter_J64 (u0 : Nat) (u1 : Nat) (u2 : Int32) (u3 : Int32) (u5 : Int32) (z0 : Int32) (z1 : Int32) (z2 : Nat) : PM Unit := if z2 < 60 then bnd (f_X0_stand z2 z1 z0 u3) (fun _ => if u5 = (43 : Int32) then (if u1 < 60 then bnd (f_X0_closeFault u1 u2) (fun _ => f_X1_enter_J95 u0 u1 u2 u5) else fail) else (if u5 = (45 : Int32) then (if u1 < 60 then bnd (f_X0_openFault u1 u2) (fun _ => f_X1_enter_J95 u0 u1 u2 u5) else fail) else (f_X1_enter_J95 u0 u1 u2 u5))) else fail
def f_X1_enter_J28 (u0 : Nat) (u1 : Nat) (u2 : Int32) (u3 : Int32) (u4 : Nat) : PM Unit := if u4 < 16 then bnd (f_X3_serve u4 u1 u3) (fun v32 => bnd (rdk 60 u1 (nI (u1 % 30))) (fun v40 => bnd (wrc 16 u4 12 v40) (fun _ => if v32 = (46 : Int32) then (f_X1_enter_J64 u0 u1 u2 u3 v32 (1 : Int32) u2 u1) else (bnd (rdc 16 u4 7) (fun v61 => f_X1_enter_J64 u0 u1 u2 u3 v32 v61 u2 u1))))) else fail
def f_X1_enter (a0 : Nat) (a1 : Nat) (a2 : Int32) (a3 : Int32) : PM Unit := if a0 < 2 then bnd (f_X1_findStation a0 a2) (fun v2 => if v2 < 16 then (bnd (rdc 60 a1 20) (fun v14 => if v14 = 0 then (bnd (rdc 2 a0 2) (fun v22 => bnd (wrc 60 a1 21 v22) (fun _ => f_X1_enter_J28 a0 a1 a2 a3 v2))) else (f_X1_enter_J28 a0 a1 a2 a3 v2))) else (rtn ())) else fail
theorem yd_X1_enter : yX1_enter.cls = RX1 ∧ yX1_enter.cls ≠ "java/lang/invoke/MethodHandle" ∧ yX1_enter.cls ≠ "java/lang/invoke/VarHandle" ∧ (parseMethodDescriptor yX1_enter.desc).map (fun d => d.parameters.length) = some 3 := by decide +kernel
set_option maxHeartbeats 4000000 in
set_option maxRecDepth 100000 in
theorem c_X1_enter (l : Launch) (D : va_G) (w : Wc) (aS : Nat → Nat) (sk sv : Nat) (A : Nat → Prop) (a0 : Nat) (a1 : Nat) (a2 : Int32) (a3 : Int32) : CT l yX1_enter cX1_enter 6 none 6 140 (PC D w A) (ENVC D w aS sk sv A) A [vr w.2.2.2.2 1 2 a0, vr w.2.2.2.2 37 60 a1, .int a2, .int a3] (f_X1_enter a0 a1 a2 a3) vU := by
  refine CT.ofW (by decide) [(0, vr w.2.2.2.2 1 2 a0), (1, vr w.2.2.2.2 37 60 a1), (2, .int a2), (3, .int a3)] (by simp [lv_args, vr_cat, vc_i, vc_j, vc_f, vc_d, vc_r, vc_n]) (by simp [lg_sl, vr_cat, vc_i, vc_j, vc_f, vc_d, vc_r, vc_n]) ?_
  intro S0 E0 R p e s m args below meth c ls hE hRf hRl hRc K0 hr hlocks hEV hA hZ hl
  have K0 : CallFix p m c cX1_enter 6 s args GW RX1 := K0
  have hx := K0.1
  have hb := K0.2.1
  have hown := K0.2.2.2.1
  have hg := K0.2.2.2.2
  have hK := hEV.1
  have hok : EVok (ENVC D w aS sk sv A) A := ENVC.ok
  have j95 : ∀ (u0 : Nat) (u1 : Nat) (u2 : Int32) (u5 : Int32) (S : St) (H : Heap) (locs : List Loc) (cells slots : Nat) (ls : Array Slot), (f_X1_enter_J95 u0 u1 u2 u5).1 S = some E0 → ZZ D 187 (adrC w) (celC w) A S0 s.heap S H locs cells slots → lv_has ls 6 [(0, vr w.2.2.2.2 1 2 u0), (1, vr w.2.2.2.2 37 60 u1), (2, .int u2), (5, .int u5)] → W p l e R s m args below meth c H locs cells slots (MQ below (QE E0 vU (PC D w A) A) args s (gN E0.2 7 0 - gN S0 7 0) (gN E0.2 3 0 - gN S0 3 0) A) (F0 m 95 ls []) := by
    intro u0 u1 u2 u5 S H locs cells slots ls hE hZ hl
    unfold f_X1_enter_J95 at hE
    refine vr_aload_n hx hb dX1_enter_95 rfl (lv_at hl 0 rfl) ?_
    refine vr_aload_n hx hb dX1_enter_96 rfl (lv_at hl 1 rfl) ?_
    refine lv_bipush (v := (48)) hx hb dX1_enter_97 (by decide +kernel) ?_
    refine lv_iload_n hx hb dX1_enter_99 rfl (lv_at hl 2 rfl) ?_
    refine lv_iadd hx hb dX1_enter_100 ?_
    refine lv_i2c hx hb dX1_enter_101 rfl ?_
    refine call_V (rest := []) K0 hK hok hEV hA (c_X1_note l D w aS sk sv A u0 u1 ((((48 : Int32) + u2).toUInt32 % 65536).toInt32)) q627 q629 q11 q41 q630 yd_X1_note ⟨by omega, by omega⟩ hRc (ci := 3) rfl rfl (rc_LN w _) hE hZ hl.1 rfl (Nat.le_of_ble_eq_true rfl) dX1_enter_102 (fun v102 S H locs cells slots hE hZ => ?_)
    refine W.eq (g2 := F0 m 105 ls []) rfl ?_
    refine vr_aload_n hx hb dX1_enter_105 rfl (lv_at hl 0 rfl) ?_
    refine vr_aload_n hx hb dX1_enter_106 rfl (lv_at hl 1 rfl) ?_
    refine lv_iload hx hb dX1_enter_107 (lv_at hl 3 rfl) ?_
    refine call_V (rest := []) K0 hK hok hEV hA (c_X1_note l D w aS sk sv A u0 u1 u5) q627 q629 q11 q41 q630 yd_X1_note ⟨by omega, by omega⟩ hRc (ci := 3) rfl rfl (rc_LN w _) hE hZ hl.1 rfl (Nat.le_of_ble_eq_true rfl) dX1_enter_109 (fun v109 S H locs cells slots hE hZ => ?_)
    refine W.eq (g2 := F0 m 112 ls []) rfl ?_
    exact end_v K0 hr hlocks hE hZ dX1_enter_112
  have j64 : ∀ (u0 : Nat) (u1 : Nat) (u2 : Int32) (u3 : Int32) (u5 : Int32) (z0 : Int32) (z1 : Int32) (z2 : Nat) (S : St) (H : Heap) (locs : List Loc) (cells slots : Nat) (ls : Array Slot), (f_X1_enter_J64 u0 u1 u2 u3 u5 z0 z1 z2).1 S = some E0 → ZZ D 187 (adrC w) (celC w) A S0 s.heap S H locs cells slots → lv_has ls 6 [(0, vr w.2.2.2.2 1 2 u0), (1, vr w.2.2.2.2 37 60 u1), (2, .int u2), (3, .int u3), (5, .int u5)] → W p l e R s m args below meth c H locs cells slots (MQ below (QE E0 vU (PC D w A) A) args s (gN E0.2 7 0 - gN S0 7 0) (gN E0.2 3 0 - gN S0 3 0) A) (F0 m 64 ls [.int z0, .int z1, vr w.2.2.2.2 37 60 z2]) := by
    intro u0 u1 u2 u3 u5 z0 z1 z2 S H locs cells slots ls hE hZ hl
    unfold f_X1_enter_J64 at hE
    refine lv_iload_n hx hb dX1_enter_64 rfl (lv_at hl 3 rfl) ?_
    refine call_V (rest := []) K0 hK hok hEV hA (c_X0_stand l D w aS sk sv A z2 z1 z0 u3) q618 q619 q620 q44 q621 yd_X0_stand ⟨by omega, by omega⟩ hRc (ci := 2) rfl rfl (rc_CA w _) hE hZ hl.1 rfl (Nat.le_of_ble_eq_true rfl) dX1_enter_65 (fun v65 S H locs cells slots hE hZ => ?_)
    refine W.eq (g2 := F0 m 68 ls []) rfl ?_
    refine lv_iload hx hb dX1_enter_68 (lv_at hl 4 rfl) ?_
    refine lv_bipush (v := (43)) hx hb dX1_enter_70 (by decide +kernel) ?_
    refine lv_icmp_ne (tgt := 83) hx hb dX1_enter_72 (by decide) (fun hc => ?_) (fun hc => ?_)
    · have hE := if_f hE hc
      refine lv_iload hx hb dX1_enter_83 (lv_at hl 4 rfl) ?_
      refine lv_bipush (v := (45)) hx hb dX1_enter_85 (by decide +kernel) ?_
      refine lv_icmp_ne (tgt := 95) hx hb dX1_enter_87 (by decide) (fun hc => ?_) (fun hc => ?_)
      · have hE := if_f hE hc
        exact j95 u0 u1 u2 u5 _ _ _ _ _ _ hE hZ (lv_sub hl [0, 1, 2, 4] rfl)
      · have hE := if_t hE hc
        refine vr_aload_n hx hb dX1_enter_90 rfl (lv_at hl 1 rfl) ?_
        refine lv_iload_n hx hb dX1_enter_91 rfl (lv_at hl 2 rfl) ?_
        refine call_V (rest := []) K0 hK hok hEV hA (c_X0_openFault l D w aS sk sv A u1 u2) q626 q543 q544 q44 q545 yd_X0_openFault ⟨by omega, by omega⟩ hRc (ci := 2) rfl rfl (rc_CA w _) hE hZ hl.1 rfl (Nat.le_of_ble_eq_true rfl) dX1_enter_92 (fun v92 S H locs cells slots hE hZ => ?_)
        refine W.eq (g2 := F0 m 95 ls []) rfl ?_
        exact j95 u0 u1 u2 u5 _ _ _ _ _ _ hE hZ (lv_sub hl [0, 1, 2, 4] rfl)
    · have hE := if_t hE hc
      refine vr_aload_n hx hb dX1_enter_75 rfl (lv_at hl 1 rfl) ?_
      refine lv_iload_n hx hb dX1_enter_76 rfl (lv_at hl 2 rfl) ?_
      refine call_V (rest := []) K0 hK hok hEV hA (c_X0_closeFault l D w aS sk sv A u1 u2) q622 q623 q624 q44 q625 yd_X0_closeFault ⟨by omega, by omega⟩ hRc (ci := 2) rfl rfl (rc_CA w _) hE hZ hl.1 rfl (Nat.le_of_ble_eq_true rfl) dX1_enter_77 (fun v77 S H locs cells slots hE hZ => ?_)
      refine W.eq (g2 := F0 m 80 ls []) rfl ?_
      refine lv_goto (tgt := 95) hx hb dX1_enter_80 (by decide) ?_
      exact j95 u0 u1 u2 u5 _ _ _ _ _ _ hE hZ (lv_sub hl [0, 1, 2, 4] rfl)
  have j28 : ∀ (u0 : Nat) (u1 : Nat) (u2 : Int32) (u3 : Int32) (u4 : Nat) (S : St) (H : Heap) (locs : List Loc) (cells slots : Nat) (ls : Array Slot), (f_X1_enter_J28 u0 u1 u2 u3 u4).1 S = some E0 → ZZ D 187 (adrC w) (celC w) A S0 s.heap S H locs cells slots → lv_has ls 6 [(0, vr w.2.2.2.2 1 2 u0), (1, vr w.2.2.2.2 37 60 u1), (2, .int u2), (3, .int u3), (4, vr w.2.2.2.2 21 16 u4)] → W p l e R s m args below meth c H locs cells slots (MQ below (QE E0 vU (PC D w A) A) args s (gN E0.2 7 0 - gN S0 7 0) (gN E0.2 3 0 - gN S0 3 0) A) (F0 m 28 ls []) := by
    intro u0 u1 u2 u3 u4 S H locs cells slots ls hE hZ hl
    unfold f_X1_enter_J28 at hE
    refine vr_aload hx hb dX1_enter_28 (lv_at hl 4 rfl) ?_
    refine vr_aload_n hx hb dX1_enter_30 rfl (lv_at hl 1 rfl) ?_
    refine lv_iload_n hx hb dX1_enter_31 rfl (lv_at hl 3 rfl) ?_
    refine call_V (rest := []) K0 hK hok hEV hA (c_X3_serve l D w aS sk sv A u4 u1 u3) q610 q611 q612 q43 q613 yd_X3_serve ⟨by omega, by omega⟩ hRc (ci := 5) rfl rfl (rc_ST w _) hE hZ hl.1 rfl (Nat.le_of_ble_eq_true rfl) dX1_enter_32 (fun v32 S H locs cells slots hE hZ => ?_)
    refine W.eq (g2 := F0 m 35 ls [.int v32]) rfl ?_
    refine lv_istore (lv' := [(5, .int v32), (0, vr w.2.2.2.2 1 2 u0), (1, vr w.2.2.2.2 37 60 u1), (2, .int u2), (3, .int u3), (4, vr w.2.2.2.2 21 16 u4)]) hx hb dX1_enter_35 hl (by decide) (by simp [vr_cat, vc_i, vc_j, vc_f, vc_d, vc_r, vc_n]) (fun ls hl => ?_)
    refine vr_aload hx hb dX1_enter_37 (lv_at hl 5 rfl) ?_
    refine vr_aload_n hx hb dX1_enter_39 rfl (lv_at hl 2 rfl) ?_
    refine gN_CA_0 K0 hK hE hZ (nw16 hEV) dX1_enter_40 (fun v40 hE => ?_)
    refine pN_ST_5 K0 hK hE hZ (nw11 hEV) dX1_enter_43 (fun S H locs hE hZ => ?_)
    refine vr_aload_n hx hb dX1_enter_46 rfl (lv_at hl 2 rfl) ?_
    refine lv_iload_n hx hb dX1_enter_47 rfl (lv_at hl 3 rfl) ?_
    refine lv_iload hx hb dX1_enter_48 (lv_at hl 0 rfl) ?_
    refine lv_bipush (v := (46)) hx hb dX1_enter_50 (by decide +kernel) ?_
    refine lv_icmp_ne (tgt := 59) hx hb dX1_enter_52 (by decide) (fun hc => ?_) (fun hc => ?_)
    · have hE := if_f hE hc
      refine vr_aload hx hb dX1_enter_59 (lv_at hl 5 rfl) ?_
      refine gN_ST_0 K0 hK hE hZ (nw4 hEV) dX1_enter_61 (fun v61 hE => ?_)
      exact j64 u0 u1 u2 u3 v32 v61 u2 u1 _ _ _ _ _ _ hE hZ (lv_sub hl [1, 2, 3, 4, 0] rfl)
    · have hE := if_t hE hc
      refine lv_iconst (v := (1)) hx hb dX1_enter_55 (by decide +kernel) ?_
      refine lv_goto (tgt := 64) hx hb dX1_enter_56 (by decide) ?_
      exact j64 u0 u1 u2 u3 v32 (1 : Int32) u2 u1 _ _ _ _ _ _ hE hZ (lv_sub hl [1, 2, 3, 4, 0] rfl)
  unfold f_X1_enter at hE
  refine vr_aload_n hx hb dX1_enter_0 rfl (lv_at hl 0 rfl) ?_
  refine lv_iload_n hx hb dX1_enter_1 rfl (lv_at hl 2 rfl) ?_
  refine call_V (rest := []) K0 hK hok hEV hA (c_X1_findStation l D w aS sk sv A a0 a2) q402 q294 q295 q41 q296 yd_X1_findStation ⟨by omega, by omega⟩ hRc (ci := 3) rfl rfl (rc_LN w _) hE hZ hl.1 rfl (Nat.le_of_ble_eq_true rfl) dX1_enter_2 (fun v2 S H locs cells slots hE hZ => ?_)
  refine W.eq (g2 := F0 m 5 ls [vr w.2.2.2.2 21 16 v2]) rfl ?_
  refine vr_astore (lv' := [(4, vr w.2.2.2.2 21 16 v2), (0, vr w.2.2.2.2 1 2 a0), (1, vr w.2.2.2.2 37 60 a1), (2, .int a2), (3, .int a3)]) hx hb dX1_enter_5 hl (by decide) rfl (fun ls hl => ?_)
  refine vr_aload hx hb dX1_enter_7 (lv_at hl 0 rfl) ?_
  refine vr_ifnonnull (tgt := 13) hx hb dX1_enter_9 (by decide) (fun hc => ?_) (fun hc => ?_)
  · have hE := if_t hE hc
    refine vr_aload_n hx hb dX1_enter_13 rfl (lv_at hl 2 rfl) ?_
    refine gN_CA_8 K0 hK hE hZ (nw29 hEV) dX1_enter_14 (fun v14 hE => ?_)
    refine lv_if_ne (tgt := 28) hx hb dX1_enter_17 (by decide) (fun hc => ?_) (fun hc => ?_)
    · have hE := if_f hE hc
      exact j28 a0 a1 a2 a3 v2 _ _ _ _ _ _ hE hZ (lv_sub hl [1, 2, 3, 4, 0] rfl)
    · have hE := if_t hE hc
      refine vr_aload_n hx hb dX1_enter_20 rfl (lv_at hl 2 rfl) ?_
      refine vr_aload_n hx hb dX1_enter_21 rfl (lv_at hl 1 rfl) ?_
      refine g_LN_8 K0 hK hE hZ q225 dX1_enter_22 (fun v22 hE => ?_)
      refine pN_CA_9 K0 hK hE hZ (nw30 hEV) dX1_enter_25 (fun S H locs hE hZ => ?_)
      exact j28 a0 a1 a2 a3 v2 _ _ _ _ _ _ hE hZ (lv_sub hl [1, 2, 3, 4, 0] rfl)
  · have hE := if_f hE hc
    exact end_v K0 hr hlocks hE hZ dX1_enter_12
def f_X1_leave (a0 : Nat) (a1 : Nat) : PM Unit := if a1 < 60 then bnd (f_X0_goAway a1 (100 : Int32)) (fun _ => bnd (rdc 2 a0 2) (fun v8 => bnd (wrc 60 a1 22 v8) (fun _ => bnd (rfc 2 a0 (3 * a0 + 2)) (fun v15 => bnd (rdk 60 a1 (nI (a1 % 30))) (fun v19 => if v15 < 6 then bnd (f_X2_append v15 v19) (fun _ => if a0 < 2 then bnd (f_X1_note a0 a1 (120 : Int32)) (fun _ => rtn ()) else fail) else fail))))) else fail
theorem yd_X1_leave : yX1_leave.cls = RX1 ∧ yX1_leave.cls ≠ "java/lang/invoke/MethodHandle" ∧ yX1_leave.cls ≠ "java/lang/invoke/VarHandle" ∧ (parseMethodDescriptor yX1_leave.desc).map (fun d => d.parameters.length) = some 1 := by decide +kernel
set_option maxHeartbeats 4000000 in
set_option maxRecDepth 100000 in
theorem c_X1_leave (l : Launch) (D : va_G) (w : Wc) (aS : Nat → Nat) (sk sv : Nat) (A : Nat → Prop) (a0 : Nat) (a1 : Nat) : CT l yX1_leave cX1_leave 2 none 6 140 (PC D w A) (ENVC D w aS sk sv A) A [vr w.2.2.2.2 1 2 a0, vr w.2.2.2.2 37 60 a1] (f_X1_leave a0 a1) vU := by
  refine CT.ofW (by decide) [(0, vr w.2.2.2.2 1 2 a0), (1, vr w.2.2.2.2 37 60 a1)] (by simp [lv_args, vr_cat, vc_i, vc_j, vc_f, vc_d, vc_r, vc_n]) (by simp [lg_sl, vr_cat, vc_i, vc_j, vc_f, vc_d, vc_r, vc_n]) ?_
  intro S0 E0 R p e s m args below meth c ls hE hRf hRl hRc K0 hr hlocks hEV hA hZ hl
  have K0 : CallFix p m c cX1_leave 2 s args GW RX1 := K0
  have hx := K0.1
  have hb := K0.2.1
  have hown := K0.2.2.2.1
  have hg := K0.2.2.2.2
  have hK := hEV.1
  have hok : EVok (ENVC D w aS sk sv A) A := ENVC.ok
  unfold f_X1_leave at hE
  refine vr_aload_n hx hb dX1_leave_0 rfl (lv_at hl 1 rfl) ?_
  refine lv_bipush (v := (100)) hx hb dX1_leave_1 (by decide +kernel) ?_
  refine call_V (rest := []) K0 hK hok hEV hA (c_X0_goAway l D w aS sk sv A a1 (100 : Int32)) q727 q728 q729 q44 q730 yd_X0_goAway ⟨by omega, by omega⟩ hRc (ci := 2) rfl rfl (rc_CA w _) hE hZ hl.1 rfl (Nat.le_of_ble_eq_true rfl) dX1_leave_3 (fun v3 S H locs cells slots hE hZ => ?_)
  refine W.eq (g2 := F0 m 6 ls []) rfl ?_
  refine vr_aload_n hx hb dX1_leave_6 rfl (lv_at hl 1 rfl) ?_
  refine vr_aload_n hx hb dX1_leave_7 rfl (lv_at hl 0 rfl) ?_
  refine g_LN_8 K0 hK hE hZ q225 dX1_leave_8 (fun v8 hE => ?_)
  refine pN_CA_10 K0 hK hE hZ (nw31 hEV) dX1_leave_11 (fun S H locs hE hZ => ?_)
  refine vr_aload_n hx hb dX1_leave_14 rfl (lv_at hl 0 rfl) ?_
  refine g_LN_5 K0 hK hE hZ q219 dX1_leave_15 (fun v15 hE => ?_)
  refine vr_aload_n hx hb dX1_leave_18 rfl (lv_at hl 1 rfl) ?_
  refine gN_CA_0 K0 hK hE hZ (nw16 hEV) dX1_leave_19 (fun v19 hE => ?_)
  refine call_V (rest := []) K0 hK hok hEV hA (c_X2_append l D w aS sk sv A v15 v19) q469 q470 q471 q42 q472 yd_X2_append ⟨by omega, by omega⟩ hRc (ci := 4) rfl rfl (rc_RO w _) hE hZ hl.1 rfl (Nat.le_of_ble_eq_true rfl) dX1_leave_22 (fun v22 S H locs cells slots hE hZ => ?_)
  refine W.eq (g2 := F0 m 25 ls []) rfl ?_
  refine vr_aload_n hx hb dX1_leave_25 rfl (lv_at hl 0 rfl) ?_
  refine vr_aload_n hx hb dX1_leave_26 rfl (lv_at hl 1 rfl) ?_
  refine lv_bipush (v := (120)) hx hb dX1_leave_27 (by decide +kernel) ?_
  refine call_V (rest := []) K0 hK hok hEV hA (c_X1_note l D w aS sk sv A a0 a1 (120 : Int32)) q627 q629 q11 q41 q630 yd_X1_note ⟨by omega, by omega⟩ hRc (ci := 3) rfl rfl (rc_LN w _) hE hZ hl.1 rfl (Nat.le_of_ble_eq_true rfl) dX1_leave_29 (fun v29 S H locs cells slots hE hZ => ?_)
  refine W.eq (g2 := F0 m 32 ls []) rfl ?_
  exact end_v K0 hr hlocks hE hZ dX1_leave_32
def f_X1_comeToLoop (a0 : Nat) (a1 : Nat) : PM Unit := if a1 < 60 then bnd (f_X0_goAway a1 (108 : Int32)) (fun _ => bnd (rfc 2 a0 (3 * a0 + 1)) (fun v7 => bnd (rdk 60 a1 (nI (a1 % 30))) (fun v11 => if v7 < 6 then bnd (f_X2_append v7 v11) (fun _ => if a0 < 2 then bnd (f_X1_note a0 a1 (76 : Int32)) (fun _ => rtn ()) else fail) else fail))) else fail
theorem yd_X1_comeToLoop : yX1_comeToLoop.cls = RX1 ∧ yX1_comeToLoop.cls ≠ "java/lang/invoke/MethodHandle" ∧ yX1_comeToLoop.cls ≠ "java/lang/invoke/VarHandle" ∧ (parseMethodDescriptor yX1_comeToLoop.desc).map (fun d => d.parameters.length) = some 1 := by decide +kernel
set_option maxHeartbeats 4000000 in
set_option maxRecDepth 100000 in
theorem c_X1_comeToLoop (l : Launch) (D : va_G) (w : Wc) (aS : Nat → Nat) (sk sv : Nat) (A : Nat → Prop) (a0 : Nat) (a1 : Nat) : CT l yX1_comeToLoop cX1_comeToLoop 2 none 6 140 (PC D w A) (ENVC D w aS sk sv A) A [vr w.2.2.2.2 1 2 a0, vr w.2.2.2.2 37 60 a1] (f_X1_comeToLoop a0 a1) vU := by
  refine CT.ofW (by decide) [(0, vr w.2.2.2.2 1 2 a0), (1, vr w.2.2.2.2 37 60 a1)] (by simp [lv_args, vr_cat, vc_i, vc_j, vc_f, vc_d, vc_r, vc_n]) (by simp [lg_sl, vr_cat, vc_i, vc_j, vc_f, vc_d, vc_r, vc_n]) ?_
  intro S0 E0 R p e s m args below meth c ls hE hRf hRl hRc K0 hr hlocks hEV hA hZ hl
  have K0 : CallFix p m c cX1_comeToLoop 2 s args GW RX1 := K0
  have hx := K0.1
  have hb := K0.2.1
  have hown := K0.2.2.2.1
  have hg := K0.2.2.2.2
  have hK := hEV.1
  have hok : EVok (ENVC D w aS sk sv A) A := ENVC.ok
  unfold f_X1_comeToLoop at hE
  refine vr_aload_n hx hb dX1_comeToLoop_0 rfl (lv_at hl 1 rfl) ?_
  refine lv_bipush (v := (108)) hx hb dX1_comeToLoop_1 (by decide +kernel) ?_
  refine call_V (rest := []) K0 hK hok hEV hA (c_X0_goAway l D w aS sk sv A a1 (108 : Int32)) q727 q728 q729 q44 q730 yd_X0_goAway ⟨by omega, by omega⟩ hRc (ci := 2) rfl rfl (rc_CA w _) hE hZ hl.1 rfl (Nat.le_of_ble_eq_true rfl) dX1_comeToLoop_3 (fun v3 S H locs cells slots hE hZ => ?_)
  refine W.eq (g2 := F0 m 6 ls []) rfl ?_
  refine vr_aload_n hx hb dX1_comeToLoop_6 rfl (lv_at hl 0 rfl) ?_
  refine g_LN_4 K0 hK hE hZ q217 dX1_comeToLoop_7 (fun v7 hE => ?_)
  refine vr_aload_n hx hb dX1_comeToLoop_10 rfl (lv_at hl 1 rfl) ?_
  refine gN_CA_0 K0 hK hE hZ (nw16 hEV) dX1_comeToLoop_11 (fun v11 hE => ?_)
  refine call_V (rest := []) K0 hK hok hEV hA (c_X2_append l D w aS sk sv A v7 v11) q469 q470 q471 q42 q472 yd_X2_append ⟨by omega, by omega⟩ hRc (ci := 4) rfl rfl (rc_RO w _) hE hZ hl.1 rfl (Nat.le_of_ble_eq_true rfl) dX1_comeToLoop_14 (fun v14 S H locs cells slots hE hZ => ?_)
  refine W.eq (g2 := F0 m 17 ls []) rfl ?_
  refine vr_aload_n hx hb dX1_comeToLoop_17 rfl (lv_at hl 0 rfl) ?_
  refine vr_aload_n hx hb dX1_comeToLoop_18 rfl (lv_at hl 1 rfl) ?_
  refine lv_bipush (v := (76)) hx hb dX1_comeToLoop_19 (by decide +kernel) ?_
  refine call_V (rest := []) K0 hK hok hEV hA (c_X1_note l D w aS sk sv A a0 a1 (76 : Int32)) q627 q629 q11 q41 q630 yd_X1_note ⟨by omega, by omega⟩ hRc (ci := 3) rfl rfl (rc_LN w _) hE hZ hl.1 rfl (Nat.le_of_ble_eq_true rfl) dX1_comeToLoop_21 (fun v21 S H locs cells slots hE hZ => ?_)
  refine W.eq (g2 := F0 m 24 ls []) rfl ?_
  exact end_v K0 hr hlocks hE hZ dX1_comeToLoop_24
def f_X1_moveOn (a0 : Nat) (a1 : Int32) : PM Unit := if a0 < 2 then bnd (f_X1_findStation a0 a1) (fun v2 => if a0 < 2 then bnd (f_X1_standingAt a0 a1) (fun v8 => if v2 < 16 then (if v8 < 60 then (bnd (rdc 60 v8 17) (fun v21 => if 0 < v21 then (rtn ()) else (if a0 < 2 then bnd (f_X1_isHeldUp a0 v8) (fun v29 => if v29 = 0 then (bnd (wrc 16 v2 12 (-1 : Int32)) (fun _ => if a0 < 2 then bnd (f_X1_goesAlong a0 v8) (fun v43 => if v43 = 0 then (bnd (rdc 60 v8 19) (fun v62 => if v62 = 0 then (if a0 < 2 then bnd (f_X1_leave a0 v8) (fun _ => rtn ()) else fail) else (if a0 < 2 then bnd (f_X1_comeToLoop a0 v8) (fun _ => rtn ()) else fail))) else (if a0 < 2 then bnd (f_X1_enter a0 v8 (a1 + (1 : Int32)) (0 : Int32)) (fun _ => rtn ()) else fail)) else fail)) else (rtn ())) else fail))) else (rtn ())) else (rtn ())) else fail) else fail
theorem yd_X1_moveOn : yX1_moveOn.cls = RX1 ∧ yX1_moveOn.cls ≠ "java/lang/invoke/MethodHandle" ∧ yX1_moveOn.cls ≠ "java/lang/invoke/VarHandle" ∧ (parseMethodDescriptor yX1_moveOn.desc).map (fun d => d.parameters.length) = some 1 := by decide +kernel
set_option maxHeartbeats 4000000 in
set_option maxRecDepth 100000 in
theorem c_X1_moveOn (l : Launch) (D : va_G) (w : Wc) (aS : Nat → Nat) (sk sv : Nat) (A : Nat → Prop) (a0 : Nat) (a1 : Int32) : CT l yX1_moveOn cX1_moveOn 4 none 7 165 (PC D w A) (ENVC D w aS sk sv A) A [vr w.2.2.2.2 1 2 a0, .int a1] (f_X1_moveOn a0 a1) vU := by
  refine CT.ofW (by decide) [(0, vr w.2.2.2.2 1 2 a0), (1, .int a1)] (by simp [lv_args, vr_cat, vc_i, vc_j, vc_f, vc_d, vc_r, vc_n]) (by simp [lg_sl, vr_cat, vc_i, vc_j, vc_f, vc_d, vc_r, vc_n]) ?_
  intro S0 E0 R p e s m args below meth c ls hE hRf hRl hRc K0 hr hlocks hEV hA hZ hl
  have K0 : CallFix p m c cX1_moveOn 4 s args GW RX1 := K0
  have hx := K0.1
  have hb := K0.2.1
  have hown := K0.2.2.2.1
  have hg := K0.2.2.2.2
  have hK := hEV.1
  have hok : EVok (ENVC D w aS sk sv A) A := ENVC.ok
  unfold f_X1_moveOn at hE
  refine vr_aload_n hx hb dX1_moveOn_0 rfl (lv_at hl 0 rfl) ?_
  refine lv_iload_n hx hb dX1_moveOn_1 rfl (lv_at hl 1 rfl) ?_
  refine call_V (rest := []) K0 hK hok hEV hA (c_X1_findStation l D w aS sk sv A a0 a1) q402 q294 q295 q41 q296 yd_X1_findStation ⟨by omega, by omega⟩ hRc (ci := 3) rfl rfl (rc_LN w _) hE hZ hl.1 rfl (Nat.le_of_ble_eq_true rfl) dX1_moveOn_2 (fun v2 S H locs cells slots hE hZ => ?_)
  refine W.eq (g2 := F0 m 5 ls [vr w.2.2.2.2 21 16 v2]) rfl ?_
  refine vr_astore_n (i := 2) (lv' := [(2, vr w.2.2.2.2 21 16 v2), (0, vr w.2.2.2.2 1 2 a0), (1, .int a1)]) hx hb dX1_moveOn_5 rfl hl (by decide) rfl (fun ls hl => ?_)
  refine vr_aload_n hx hb dX1_moveOn_6 rfl (lv_at hl 1 rfl) ?_
  refine lv_iload_n hx hb dX1_moveOn_7 rfl (lv_at hl 2 rfl) ?_
  refine call_V (rest := []) K0 hK hok hEV hA (c_X1_standingAt l D w aS sk sv A a0 a1) q583 q585 q5 q41 q586 yd_X1_standingAt ⟨by omega, by omega⟩ hRc (ci := 3) rfl rfl (rc_LN w _) hE hZ hl.1 rfl (Nat.le_of_ble_eq_true rfl) dX1_moveOn_8 (fun v8 S H locs cells slots hE hZ => ?_)
  refine W.eq (g2 := F0 m 11 ls [vr w.2.2.2.2 37 60 v8]) rfl ?_
  refine vr_astore_n (i := 3) (lv' := [(3, vr w.2.2.2.2 37 60 v8), (2, vr w.2.2.2.2 21 16 v2), (0, vr w.2.2.2.2 1 2 a0), (1, .int a1)]) hx hb dX1_moveOn_11 rfl hl (by decide) (by simp [vr_cat, vc_i, vc_j, vc_f, vc_d, vc_r, vc_n]) (fun ls hl => ?_)
  refine vr_aload_n hx hb dX1_moveOn_12 rfl (lv_at hl 1 rfl) ?_
  refine vr_ifnull (tgt := 35) hx hb dX1_moveOn_13 (by decide) (fun hc => ?_) (fun hc => ?_)
  · have hE := if_t hE hc
    refine vr_aload_n hx hb dX1_moveOn_16 rfl (lv_at hl 0 rfl) ?_
    refine vr_ifnull (tgt := 35) hx hb dX1_moveOn_17 (by decide) (fun hc => ?_) (fun hc => ?_)
    · have hE := if_t hE hc
      refine vr_aload_n hx hb dX1_moveOn_20 rfl (lv_at hl 0 rfl) ?_
      refine gN_CA_5 K0 hK hE hZ (nw25 hEV) dX1_moveOn_21 (fun v21 hE => ?_)
      refine lv_if_gt (tgt := 35) hx hb dX1_moveOn_24 (by decide) (fun hc => ?_) (fun hc => ?_)
      · have hE := if_t hE hc
        exact end_v K0 hr hlocks hE hZ dX1_moveOn_35
      · have hE := if_f hE hc
        refine vr_aload_n hx hb dX1_moveOn_27 rfl (lv_at hl 2 rfl) ?_
        refine vr_aload_n hx hb dX1_moveOn_28 rfl (lv_at hl 0 rfl) ?_
        refine call_V (rest := []) K0 hK hok hEV hA (c_X1_isHeldUp l D w aS sk sv A a0 v8) q594 q596 q7 q41 q597 yd_X1_isHeldUp ⟨by omega, by omega⟩ hRc (ci := 3) rfl rfl (rc_LN w _) hE hZ hl.1 rfl (Nat.le_of_ble_eq_true rfl) dX1_moveOn_29 (fun v29 S H locs cells slots hE hZ => ?_)
        refine W.eq (g2 := F0 m 32 ls [.int v29]) rfl ?_
        refine lv_if_eq (tgt := 36) hx hb dX1_moveOn_32 (by decide) (fun hc => ?_) (fun hc => ?_)
        · have hE := if_t hE hc
          refine vr_aload_n hx hb dX1_moveOn_36 rfl (lv_at hl 1 rfl) ?_
          refine lv_iconst (v := (-1)) hx hb dX1_moveOn_37 (by decide +kernel) ?_
          refine pN_ST_5 K0 hK hE hZ (nw11 hEV) dX1_moveOn_38 (fun S H locs hE hZ => ?_)
          refine vr_aload_n hx hb dX1_moveOn_41 rfl (lv_at hl 2 rfl) ?_
          refine vr_aload_n hx hb dX1_moveOn_42 rfl (lv_at hl 0 rfl) ?_
          refine call_V (rest := []) K0 hK hok hEV hA (c_X1_goesAlong l D w aS sk sv A a0 v8) q598 q600 q8 q41 q601 yd_X1_goesAlong ⟨by omega, by omega⟩ hRc (ci := 3) rfl rfl (rc_LN w _) hE hZ hl.1 rfl (Nat.le_of_ble_eq_true rfl) dX1_moveOn_43 (fun v43 S H locs cells slots hE hZ => ?_)
          refine W.eq (g2 := F0 m 46 ls [.int v43]) rfl ?_
          refine lv_if_eq (tgt := 61) hx hb dX1_moveOn_46 (by decide) (fun hc => ?_) (fun hc => ?_)
          · have hE := if_t hE hc
            refine vr_aload_n hx hb dX1_moveOn_61 rfl (lv_at hl 0 rfl) ?_
            refine gN_CA_7 K0 hK hE hZ (nw28 hEV) dX1_moveOn_62 (fun v62 hE => ?_)
            refine lv_if_ne (tgt := 76) hx hb dX1_moveOn_65 (by decide) (fun hc => ?_) (fun hc => ?_)
            · have hE := if_f hE hc
              refine vr_aload_n hx hb dX1_moveOn_76 rfl (lv_at hl 2 rfl) ?_
              refine vr_aload_n hx hb dX1_moveOn_77 rfl (lv_at hl 0 rfl) ?_
              refine call_V (rest := []) K0 hK hok hEV hA (c_X1_comeToLoop l D w aS sk sv A a0 v8) q731 q733 q14 q41 q734 yd_X1_comeToLoop ⟨by omega, by omega⟩ hRc (ci := 3) rfl rfl (rc_LN w _) hE hZ hl.1 rfl (Nat.le_of_ble_eq_true rfl) dX1_moveOn_78 (fun v78 S H locs cells slots hE hZ => ?_)
              refine W.eq (g2 := F0 m 81 ls []) rfl ?_
              exact end_v K0 hr hlocks hE hZ dX1_moveOn_81
            · have hE := if_t hE hc
              refine vr_aload_n hx hb dX1_moveOn_68 rfl (lv_at hl 2 rfl) ?_
              refine vr_aload_n hx hb dX1_moveOn_69 rfl (lv_at hl 0 rfl) ?_
              refine call_V (rest := []) K0 hK hok hEV hA (c_X1_leave l D w aS sk sv A a0 v8) q723 q725 q13 q41 q726 yd_X1_leave ⟨by omega, by omega⟩ hRc (ci := 3) rfl rfl (rc_LN w _) hE hZ hl.1 rfl (Nat.le_of_ble_eq_true rfl) dX1_moveOn_70 (fun v70 S H locs cells slots hE hZ => ?_)
              refine W.eq (g2 := F0 m 73 ls []) rfl ?_
              refine lv_goto (tgt := 81) hx hb dX1_moveOn_73 (by decide) ?_
              exact end_v K0 hr hlocks hE hZ dX1_moveOn_81
          · have hE := if_f hE hc
            refine vr_aload_n hx hb dX1_moveOn_49 rfl (lv_at hl 2 rfl) ?_
            refine vr_aload_n hx hb dX1_moveOn_50 rfl (lv_at hl 0 rfl) ?_
            refine lv_iload_n hx hb dX1_moveOn_51 rfl (lv_at hl 3 rfl) ?_
            refine lv_iconst (v := (1)) hx hb dX1_moveOn_52 (by decide +kernel) ?_
            refine lv_iadd hx hb dX1_moveOn_53 ?_
            refine lv_iconst (v := (0)) hx hb dX1_moveOn_54 (by decide +kernel) ?_
            refine call_V (rest := []) K0 hK hok hEV hA (c_X1_enter l D w aS sk sv A a0 v8 (a1 + (1 : Int32)) (0 : Int32)) q606 q608 q10 q41 q609 yd_X1_enter ⟨by omega, by omega⟩ hRc (ci := 3) rfl rfl (rc_LN w _) hE hZ hl.1 rfl (Nat.le_of_ble_eq_true rfl) dX1_moveOn_55 (fun v55 S H locs cells slots hE hZ => ?_)
            refine W.eq (g2 := F0 m 58 ls []) rfl ?_
            refine lv_goto (tgt := 81) hx hb dX1_moveOn_58 (by decide) ?_
            exact end_v K0 hr hlocks hE hZ dX1_moveOn_81
        · have hE := if_f hE hc
          exact end_v K0 hr hlocks hE hZ dX1_moveOn_35
    · have hE := if_f hE hc
      exact end_v K0 hr hlocks hE hZ dX1_moveOn_35
  · have hE := if_f hE hc
    exact end_v K0 hr hlocks hE hZ dX1_moveOn_35
def f_X1_enterFromLoop_L12 : Nat → Nat → Int32 → Int32 → Int32 → PM Unit
  | 0, _, _, _, _ => fail
  | n9 + 1, u0, u1, u2, u3 => if u1 ≤ u3 then (rtn ()) else (bnd (rfc 2 u0 (3 * u0 + 1)) (fun v19 => if v19 < 6 then bnd (f_X2_at v19 u2) (fun v23 => if u0 < 2 then bnd (f_X1_findCar u0 v23) (fun v26 => if v26 < 60 then (if v26 < 60 then bnd (f_X0_lowestFault v26) (fun v39 => if u0 < 2 then bnd (f_X1_isFree u0 v39) (fun v42 => if v42 = 0 then (f_X1_enterFromLoop_L12 n9 u0 u1 (u2 + (1 : Int32)) (u3 + (1 : Int32))) else (bnd (rfc 2 u0 (3 * u0 + 1)) (fun v49 => if v49 < 6 then bnd (f_X2_removeAt v49 u2) (fun _ => if v26 < 60 then bnd (f_X0_lowestFault v26) (fun v61 => if u0 < 2 then bnd (f_X1_enter u0 v26 v61 (1 : Int32)) (fun _ => f_X1_enterFromLoop_L12 n9 u0 u1 u2 (u3 + (1 : Int32))) else fail) else fail) else fail))) else fail) else fail) else (f_X1_enterFromLoop_L12 n9 u0 u1 (u2 + (1 : Int32)) (u3 + (1 : Int32)))) else fail) else fail))
def f_X1_enterFromLoop (a0 : Nat) : PM Unit := bnd (rfc 2 a0 (3 * a0 + 1)) (fun v1 => bnd (rdc 6 v1 5) (fun v4 => f_X1_enterFromLoop_L12 400 a0 v4 (0 : Int32) (0 : Int32)))
theorem yd_X1_enterFromLoop : yX1_enterFromLoop.cls = RX1 ∧ yX1_enterFromLoop.cls ≠ "java/lang/invoke/MethodHandle" ∧ yX1_enterFromLoop.cls ≠ "java/lang/invoke/VarHandle" ∧ (parseMethodDescriptor yX1_enterFromLoop.desc).map (fun d => d.parameters.length) = some 0 := by decide +kernel
set_option maxHeartbeats 4000000 in
set_option maxRecDepth 100000 in
theorem c_X1_enterFromLoop (l : Launch) (D : va_G) (w : Wc) (aS : Nat → Nat) (sk sv : Nat) (A : Nat → Prop) (a0 : Nat) : CT l yX1_enterFromLoop cX1_enterFromLoop 5 none 7 165 (PC D w A) (ENVC D w aS sk sv A) A [vr w.2.2.2.2 1 2 a0] (f_X1_enterFromLoop a0) vU := by
  refine CT.ofW (by decide) [(0, vr w.2.2.2.2 1 2 a0)] (by simp [lv_args, vr_cat, vc_i, vc_j, vc_f, vc_d, vc_r, vc_n]) (by simp [lg_sl, vr_cat, vc_i, vc_j, vc_f, vc_d, vc_r, vc_n]) ?_
  intro S0 E0 R p e s m args below meth c ls hE hRf hRl hRc K0 hr hlocks hEV hA hZ hl
  have K0 : CallFix p m c cX1_enterFromLoop 5 s args GW RX1 := K0
  have hx := K0.1
  have hb := K0.2.1
  have hown := K0.2.2.2.1
  have hg := K0.2.2.2.2
  have hK := hEV.1
  have hok : EVok (ENVC D w aS sk sv A) A := ENVC.ok
  have j12 : ∀ (n9 : Nat) (u0 : Nat) (u1 : Int32) (u2 : Int32) (u3 : Int32) (S : St) (H : Heap) (locs : List Loc) (cells slots : Nat) (ls : Array Slot), (f_X1_enterFromLoop_L12 n9 u0 u1 u2 u3).1 S = some E0 → ZZ D 187 (adrC w) (celC w) A S0 s.heap S H locs cells slots → lv_has ls 5 [(0, vr w.2.2.2.2 1 2 u0), (1, .int u1), (2, .int u2), (3, .int u3)] → W p l e R s m args below meth c H locs cells slots (MQ below (QE E0 vU (PC D w A) A) args s (gN E0.2 7 0 - gN S0 7 0) (gN E0.2 3 0 - gN S0 3 0) A) (F0 m 12 ls []) := by
    intro n9
    induction n9 with
    | zero =>
      intro u0 u1 u2 u3 S H locs cells slots ls hE hZ hl
      rw [f_X1_enterFromLoop_L12] at hE
      cases hE
    | succ n9 ih =>
      intro u0 u1 u2 u3 S H locs cells slots ls hE hZ hl
      rw [f_X1_enterFromLoop_L12] at hE
      refine lv_iload_n hx hb dX1_enterFromLoop_12 rfl (lv_at hl 3 rfl) ?_
      refine lv_iload_n hx hb dX1_enterFromLoop_13 rfl (lv_at hl 1 rfl) ?_
      refine lv_icmp_ge (tgt := 80) hx hb dX1_enterFromLoop_14 (by decide) (fun hc => ?_) (fun hc => ?_)
      · have hE := if_t hE hc
        exact end_v K0 hr hlocks hE hZ dX1_enterFromLoop_80
      · have hE := if_f hE hc
        refine vr_aload_n hx hb dX1_enterFromLoop_17 rfl (lv_at hl 0 rfl) ?_
        refine vr_aload_n hx hb dX1_enterFromLoop_18 rfl (lv_at hl 0 rfl) ?_
        refine g_LN_4 K0 hK hE hZ q217 dX1_enterFromLoop_19 (fun v19 hE => ?_)
        refine lv_iload_n hx hb dX1_enterFromLoop_22 rfl (lv_at hl 2 rfl) ?_
        refine call_V (rest := [vr w.2.2.2.2 1 2 u0]) K0 hK hok hEV hA (c_X2_at l D w aS sk sv A v19 u2) q739 q493 q494 q42 q495 yd_X2_at ⟨by omega, by omega⟩ hRc (ci := 4) rfl rfl (rc_RO w _) hE hZ hl.1 rfl (by simp [vr_cat, vc_i, vc_j, vc_f, vc_d, vc_r, vc_n]) dX1_enterFromLoop_23 (fun v23 S H locs cells slots hE hZ => ?_)
        refine W.eq (g2 := F0 m 26 ls [.int v23, vr w.2.2.2.2 1 2 u0]) rfl ?_
        refine call_V (rest := []) K0 hK hok hEV hA (c_X1_findCar l D w aS sk sv A u0 v23) q465 q466 q467 q41 q468 yd_X1_findCar ⟨by omega, by omega⟩ hRc (ci := 3) rfl rfl (rc_LN w _) hE hZ hl.1 rfl (Nat.le_of_ble_eq_true rfl) dX1_enterFromLoop_26 (fun v26 S H locs cells slots hE hZ => ?_)
        refine W.eq (g2 := F0 m 29 ls [vr w.2.2.2.2 37 60 v26]) rfl ?_
        refine vr_astore (lv' := [(4, vr w.2.2.2.2 37 60 v26), (0, vr w.2.2.2.2 1 2 u0), (1, .int u1), (2, .int u2), (3, .int u3)]) hx hb dX1_enterFromLoop_29 hl (by decide) rfl (fun ls hl => ?_)
        refine vr_aload hx hb dX1_enterFromLoop_31 (lv_at hl 0 rfl) ?_
        refine vr_ifnull (tgt := 71) hx hb dX1_enterFromLoop_33 (by decide) (fun hc => ?_) (fun hc => ?_)
        · have hE := if_t hE hc
          refine vr_aload_n hx hb dX1_enterFromLoop_36 rfl (lv_at hl 1 rfl) ?_
          refine vr_aload hx hb dX1_enterFromLoop_37 (lv_at hl 0 rfl) ?_
          refine call_V (rest := [vr w.2.2.2.2 1 2 u0]) K0 hK hok hEV hA (c_X0_lowestFault l D w aS sk sv A v26) q740 q741 q742 q44 q743 yd_X0_lowestFault ⟨by omega, by omega⟩ hRc (ci := 2) rfl rfl (rc_CA w _) hE hZ hl.1 rfl (by simp [vr_cat, vc_i, vc_j, vc_f, vc_d, vc_r, vc_n]) dX1_enterFromLoop_39 (fun v39 S H locs cells slots hE hZ => ?_)
          refine W.eq (g2 := F0 m 42 ls [.int v39, vr w.2.2.2.2 1 2 u0]) rfl ?_
          refine call_V (rest := []) K0 hK hok hEV hA (c_X1_isFree l D w aS sk sv A u0 v39) q602 q604 q9 q41 q605 yd_X1_isFree ⟨by omega, by omega⟩ hRc (ci := 3) rfl rfl (rc_LN w _) hE hZ hl.1 rfl (Nat.le_of_ble_eq_true rfl) dX1_enterFromLoop_42 (fun v42 S H locs cells slots hE hZ => ?_)
          refine W.eq (g2 := F0 m 45 ls [.int v42]) rfl ?_
          refine lv_if_eq (tgt := 71) hx hb dX1_enterFromLoop_45 (by decide) (fun hc => ?_) (fun hc => ?_)
          · have hE := if_t hE hc
            refine lv_iinc (v := (u2 + (1 : Int32))) (lv' := [(2, .int (u2 + (1 : Int32))), (4, vr w.2.2.2.2 37 60 v26), (0, vr w.2.2.2.2 1 2 u0), (1, .int u1), (3, .int u3)]) hx hb dX1_enterFromLoop_71 hl (k := 3) rfl rfl (by decide) rfl (fun ls hl => ?_)
            refine lv_iinc (v := (u3 + (1 : Int32))) (lv' := [(3, .int (u3 + (1 : Int32))), (2, .int (u2 + (1 : Int32))), (4, vr w.2.2.2.2 37 60 v26), (0, vr w.2.2.2.2 1 2 u0), (1, .int u1)]) hx hb dX1_enterFromLoop_74 hl (k := 4) rfl rfl (by decide) rfl (fun ls hl => ?_)
            refine lv_goto (tgt := 12) hx hb dX1_enterFromLoop_77 (by decide) ?_
            exact ih u0 u1 (u2 + (1 : Int32)) (u3 + (1 : Int32)) _ _ _ _ _ _ hE hZ (lv_sub hl [3, 4, 1, 0] rfl)
          · have hE := if_f hE hc
            refine vr_aload_n hx hb dX1_enterFromLoop_48 rfl (lv_at hl 1 rfl) ?_
            refine g_LN_4 K0 hK hE hZ q217 dX1_enterFromLoop_49 (fun v49 hE => ?_)
            refine lv_iload_n hx hb dX1_enterFromLoop_52 rfl (lv_at hl 3 rfl) ?_
            refine call_V (rest := []) K0 hK hok hEV hA (c_X2_removeAt l D w aS sk sv A v49 u2) q745 q746 q747 q42 q748 yd_X2_removeAt ⟨by omega, by omega⟩ hRc (ci := 4) rfl rfl (rc_RO w _) hE hZ hl.1 rfl (Nat.le_of_ble_eq_true rfl) dX1_enterFromLoop_53 (fun v53 S H locs cells slots hE hZ => ?_)
            refine W.eq (g2 := F0 m 56 ls []) rfl ?_
            refine vr_aload_n hx hb dX1_enterFromLoop_56 rfl (lv_at hl 1 rfl) ?_
            refine vr_aload hx hb dX1_enterFromLoop_57 (lv_at hl 0 rfl) ?_
            refine vr_aload hx hb dX1_enterFromLoop_59 (lv_at hl 0 rfl) ?_
            refine call_V (rest := [vr w.2.2.2.2 37 60 v26, vr w.2.2.2.2 1 2 u0]) K0 hK hok hEV hA (c_X0_lowestFault l D w aS sk sv A v26) q740 q741 q742 q44 q743 yd_X0_lowestFault ⟨by omega, by omega⟩ hRc (ci := 2) rfl rfl (rc_CA w _) hE hZ hl.1 rfl (by simp [vr_cat, vc_i, vc_j, vc_f, vc_d, vc_r, vc_n]) dX1_enterFromLoop_61 (fun v61 S H locs cells slots hE hZ => ?_)
            refine W.eq (g2 := F0 m 64 ls [.int v61, vr w.2.2.2.2 37 60 v26, vr w.2.2.2.2 1 2 u0]) rfl ?_
            refine lv_iconst (v := (1)) hx hb dX1_enterFromLoop_64 (by decide +kernel) ?_
            refine call_V (rest := []) K0 hK hok hEV hA (c_X1_enter l D w aS sk sv A u0 v26 v61 (1 : Int32)) q606 q608 q10 q41 q609 yd_X1_enter ⟨by omega, by omega⟩ hRc (ci := 3) rfl rfl (rc_LN w _) hE hZ hl.1 rfl (Nat.le_of_ble_eq_true rfl) dX1_enterFromLoop_65 (fun v65 S H locs cells slots hE hZ => ?_)
            refine W.eq (g2 := F0 m 68 ls []) rfl ?_
            refine lv_goto (tgt := 74) hx hb dX1_enterFromLoop_68 (by decide) ?_
            refine lv_iinc (v := (u3 + (1 : Int32))) (lv' := [(3, .int (u3 + (1 : Int32))), (4, vr w.2.2.2.2 37 60 v26), (0, vr w.2.2.2.2 1 2 u0), (1, .int u1), (2, .int u2)]) hx hb dX1_enterFromLoop_74 hl (k := 4) rfl rfl (by decide) rfl (fun ls hl => ?_)
            refine lv_goto (tgt := 12) hx hb dX1_enterFromLoop_77 (by decide) ?_
            exact ih u0 u1 u2 (u3 + (1 : Int32)) _ _ _ _ _ _ hE hZ (lv_sub hl [2, 3, 4, 0] rfl)
        · have hE := if_f hE hc
          refine lv_iinc (v := (u2 + (1 : Int32))) (lv' := [(2, .int (u2 + (1 : Int32))), (4, vr w.2.2.2.2 37 60 v26), (0, vr w.2.2.2.2 1 2 u0), (1, .int u1), (3, .int u3)]) hx hb dX1_enterFromLoop_71 hl (k := 3) rfl rfl (by decide) rfl (fun ls hl => ?_)
          refine lv_iinc (v := (u3 + (1 : Int32))) (lv' := [(3, .int (u3 + (1 : Int32))), (2, .int (u2 + (1 : Int32))), (4, vr w.2.2.2.2 37 60 v26), (0, vr w.2.2.2.2 1 2 u0), (1, .int u1)]) hx hb dX1_enterFromLoop_74 hl (k := 4) rfl rfl (by decide) rfl (fun ls hl => ?_)
          refine lv_goto (tgt := 12) hx hb dX1_enterFromLoop_77 (by decide) ?_
          exact ih u0 u1 (u2 + (1 : Int32)) (u3 + (1 : Int32)) _ _ _ _ _ _ hE hZ (lv_sub hl [3, 4, 1, 0] rfl)
  unfold f_X1_enterFromLoop at hE
  refine vr_aload_n hx hb dX1_enterFromLoop_0 rfl (lv_at hl 0 rfl) ?_
  refine g_LN_4 K0 hK hE hZ q217 dX1_enterFromLoop_1 (fun v1 hE => ?_)
  refine gN_RO_1 K0 hK hE hZ (nw2 hEV) dX1_enterFromLoop_4 (fun v4 hE => ?_)
  refine lv_istore_n (i := 1) (lv' := [(1, .int v4), (0, vr w.2.2.2.2 1 2 a0)]) hx hb dX1_enterFromLoop_7 rfl hl (by decide) (by simp [vr_cat, vc_i, vc_j, vc_f, vc_d, vc_r, vc_n]) (fun ls hl => ?_)
  refine lv_iconst (v := (0)) hx hb dX1_enterFromLoop_8 (by decide +kernel) ?_
  refine lv_istore_n (i := 2) (lv' := [(2, .int (0 : Int32)), (1, .int v4), (0, vr w.2.2.2.2 1 2 a0)]) hx hb dX1_enterFromLoop_9 rfl hl (by decide) rfl (fun ls hl => ?_)
  refine lv_iconst (v := (0)) hx hb dX1_enterFromLoop_10 (by decide +kernel) ?_
  refine lv_istore_n (i := 3) (lv' := [(3, .int (0 : Int32)), (2, .int (0 : Int32)), (1, .int v4), (0, vr w.2.2.2.2 1 2 a0)]) hx hb dX1_enterFromLoop_11 rfl hl (by decide) rfl (fun ls hl => ?_)
  exact j12 400 a0 v4 (0 : Int32) (0 : Int32) _ _ _ _ _ _ hE hZ (lv_sub hl [3, 2, 1, 0] rfl)
def f_X1_enterFromWaiting (a0 : Nat) : PM Unit := bnd (rfc 2 a0 (3 * a0)) (fun v2 => if v2 < 6 then bnd (f_X2_at v2 (0 : Int32)) (fun v6 => if a0 < 2 then bnd (f_X1_findCar a0 v6) (fun v9 => if v9 < 60 then (if a0 < 2 then bnd (f_X1_isFree a0 (0 : Int32)) (fun v19 => if v19 = 0 then (rtn ()) else (bnd (rfc 2 a0 (3 * a0)) (fun v26 => if v26 < 6 then bnd (f_X2_removeAt v26 (0 : Int32)) (fun _ => if a0 < 2 then bnd (f_X1_enter a0 v9 (0 : Int32) (0 : Int32)) (fun _ => rtn ()) else fail) else fail))) else fail) else (rtn ())) else fail) else fail)
theorem yd_X1_enterFromWaiting : yX1_enterFromWaiting.cls = RX1 ∧ yX1_enterFromWaiting.cls ≠ "java/lang/invoke/MethodHandle" ∧ yX1_enterFromWaiting.cls ≠ "java/lang/invoke/VarHandle" ∧ (parseMethodDescriptor yX1_enterFromWaiting.desc).map (fun d => d.parameters.length) = some 0 := by decide +kernel
set_option maxHeartbeats 4000000 in
set_option maxRecDepth 100000 in
theorem c_X1_enterFromWaiting (l : Launch) (D : va_G) (w : Wc) (aS : Nat → Nat) (sk sv : Nat) (A : Nat → Prop) (a0 : Nat) : CT l yX1_enterFromWaiting cX1_enterFromWaiting 2 none 7 165 (PC D w A) (ENVC D w aS sk sv A) A [vr w.2.2.2.2 1 2 a0] (f_X1_enterFromWaiting a0) vU := by
  refine CT.ofW (by decide) [(0, vr w.2.2.2.2 1 2 a0)] (by simp [lv_args, vr_cat, vc_i, vc_j, vc_f, vc_d, vc_r, vc_n]) (by simp [lg_sl, vr_cat, vc_i, vc_j, vc_f, vc_d, vc_r, vc_n]) ?_
  intro S0 E0 R p e s m args below meth c ls hE hRf hRl hRc K0 hr hlocks hEV hA hZ hl
  have K0 : CallFix p m c cX1_enterFromWaiting 2 s args GW RX1 := K0
  have hx := K0.1
  have hb := K0.2.1
  have hown := K0.2.2.2.1
  have hg := K0.2.2.2.2
  have hK := hEV.1
  have hok : EVok (ENVC D w aS sk sv A) A := ENVC.ok
  unfold f_X1_enterFromWaiting at hE
  refine vr_aload_n hx hb dX1_enterFromWaiting_0 rfl (lv_at hl 0 rfl) ?_
  refine vr_aload_n hx hb dX1_enterFromWaiting_1 rfl (lv_at hl 0 rfl) ?_
  refine g_LN_3 K0 hK hE hZ q215 dX1_enterFromWaiting_2 (fun v2 hE => ?_)
  refine lv_iconst (v := (0)) hx hb dX1_enterFromWaiting_5 (by decide +kernel) ?_
  refine call_V (rest := [vr w.2.2.2.2 1 2 a0]) K0 hK hok hEV hA (c_X2_at l D w aS sk sv A v2 (0 : Int32)) q739 q493 q494 q42 q495 yd_X2_at ⟨by omega, by omega⟩ hRc (ci := 4) rfl rfl (rc_RO w _) hE hZ hl.1 rfl (by simp [vr_cat, vc_i, vc_j, vc_f, vc_d, vc_r, vc_n]) dX1_enterFromWaiting_6 (fun v6 S H locs cells slots hE hZ => ?_)
  refine W.eq (g2 := F0 m 9 ls [.int v6, vr w.2.2.2.2 1 2 a0]) rfl ?_
  refine call_V (rest := []) K0 hK hok hEV hA (c_X1_findCar l D w aS sk sv A a0 v6) q465 q466 q467 q41 q468 yd_X1_findCar ⟨by omega, by omega⟩ hRc (ci := 3) rfl rfl (rc_LN w _) hE hZ hl.1 rfl (Nat.le_of_ble_eq_true rfl) dX1_enterFromWaiting_9 (fun v9 S H locs cells slots hE hZ => ?_)
  refine W.eq (g2 := F0 m 12 ls [vr w.2.2.2.2 37 60 v9]) rfl ?_
  refine vr_astore_n (i := 1) (lv' := [(1, vr w.2.2.2.2 37 60 v9), (0, vr w.2.2.2.2 1 2 a0)]) hx hb dX1_enterFromWaiting_12 rfl hl (by decide) (by simp [vr_cat, vc_i, vc_j, vc_f, vc_d, vc_r, vc_n]) (fun ls hl => ?_)
  refine vr_aload_n hx hb dX1_enterFromWaiting_13 rfl (lv_at hl 0 rfl) ?_
  refine vr_ifnull (tgt := 40) hx hb dX1_enterFromWaiting_14 (by decide) (fun hc => ?_) (fun hc => ?_)
  · have hE := if_t hE hc
    refine vr_aload_n hx hb dX1_enterFromWaiting_17 rfl (lv_at hl 1 rfl) ?_
    refine lv_iconst (v := (0)) hx hb dX1_enterFromWaiting_18 (by decide +kernel) ?_
    refine call_V (rest := []) K0 hK hok hEV hA (c_X1_isFree l D w aS sk sv A a0 (0 : Int32)) q602 q604 q9 q41 q605 yd_X1_isFree ⟨by omega, by omega⟩ hRc (ci := 3) rfl rfl (rc_LN w _) hE hZ hl.1 rfl (Nat.le_of_ble_eq_true rfl) dX1_enterFromWaiting_19 (fun v19 S H locs cells slots hE hZ => ?_)
    refine W.eq (g2 := F0 m 22 ls [.int v19]) rfl ?_
    refine lv_if_eq (tgt := 40) hx hb dX1_enterFromWaiting_22 (by decide) (fun hc => ?_) (fun hc => ?_)
    · have hE := if_t hE hc
      exact end_v K0 hr hlocks hE hZ dX1_enterFromWaiting_40
    · have hE := if_f hE hc
      refine vr_aload_n hx hb dX1_enterFromWaiting_25 rfl (lv_at hl 1 rfl) ?_
      refine g_LN_3 K0 hK hE hZ q215 dX1_enterFromWaiting_26 (fun v26 hE => ?_)
      refine lv_iconst (v := (0)) hx hb dX1_enterFromWaiting_29 (by decide +kernel) ?_
      refine call_V (rest := []) K0 hK hok hEV hA (c_X2_removeAt l D w aS sk sv A v26 (0 : Int32)) q745 q746 q747 q42 q748 yd_X2_removeAt ⟨by omega, by omega⟩ hRc (ci := 4) rfl rfl (rc_RO w _) hE hZ hl.1 rfl (Nat.le_of_ble_eq_true rfl) dX1_enterFromWaiting_30 (fun v30 S H locs cells slots hE hZ => ?_)
      refine W.eq (g2 := F0 m 33 ls []) rfl ?_
      refine vr_aload_n hx hb dX1_enterFromWaiting_33 rfl (lv_at hl 1 rfl) ?_
      refine vr_aload_n hx hb dX1_enterFromWaiting_34 rfl (lv_at hl 0 rfl) ?_
      refine lv_iconst (v := (0)) hx hb dX1_enterFromWaiting_35 (by decide +kernel) ?_
      refine lv_iconst (v := (0)) hx hb dX1_enterFromWaiting_36 (by decide +kernel) ?_
      refine call_V (rest := []) K0 hK hok hEV hA (c_X1_enter l D w aS sk sv A a0 v9 (0 : Int32) (0 : Int32)) q606 q608 q10 q41 q609 yd_X1_enter ⟨by omega, by omega⟩ hRc (ci := 3) rfl rfl (rc_LN w _) hE hZ hl.1 rfl (Nat.le_of_ble_eq_true rfl) dX1_enterFromWaiting_37 (fun v37 S H locs cells slots hE hZ => ?_)
      refine W.eq (g2 := F0 m 40 ls []) rfl ?_
      exact end_v K0 hr hlocks hE hZ dX1_enterFromWaiting_40
  · have hE := if_f hE hc
    exact end_v K0 hr hlocks hE hZ dX1_enterFromWaiting_40
def f_X1_passTick_L44 : Nat → Nat → Int32 → PM Unit
  | 0, _, _ => fail
  | n9 + 1, u0, u2 => if u2 < 0 then (if u0 < 2 then bnd (f_X1_enterFromLoop u0) (fun _ => if u0 < 2 then bnd (f_X1_enterFromWaiting u0) (fun _ => rtn ()) else fail) else fail) else (if u0 < 2 then bnd (f_X1_moveOn u0 u2) (fun _ => f_X1_passTick_L44 n9 u0 (u2 + (-1 : Int32))) else fail)
def f_X1_passTick_J32 (u0 : Nat) : PM Unit := if u0 < 2 then bnd (f_X1_countDown u0 (1 : Int32)) (fun _ => bnd (rdc 2 u0 0) (fun v38 => bnd (rtn (v38 - (1 : Int32))) (fun w43 => f_X1_passTick_L44 400 u0 w43))) else fail
def f_X1_passTick_J13 (u0 : Nat) (z0 : Int32) : PM Unit := bnd (rdc 2 u0 2) (fun v16 => bnd (wrc 2 u0 2 (v16 + (1 : Int32))) (fun _ => if z0 = 0 then (f_X1_passTick_J32 u0) else (if u0 < 2 then bnd (f_X1_fillShelves u0) (fun _ => f_X1_passTick_J32 u0) else fail)))
def f_X1_passTick (a0 : Nat) : PM Unit := if a0 < 2 then bnd (f_X1_ticksToRound a0) (fun v1 => if v1 = (1 : Int32) then (f_X1_passTick_J13 a0 (1 : Int32)) else (f_X1_passTick_J13 a0 (0 : Int32))) else fail
theorem yd_X1_passTick : yX1_passTick.cls = RX1 ∧ yX1_passTick.cls ≠ "java/lang/invoke/MethodHandle" ∧ yX1_passTick.cls ≠ "java/lang/invoke/VarHandle" ∧ (parseMethodDescriptor yX1_passTick.desc).map (fun d => d.parameters.length) = some 0 := by decide +kernel
set_option maxHeartbeats 4000000 in
set_option maxRecDepth 100000 in
theorem c_X1_passTick (l : Launch) (D : va_G) (w : Wc) (aS : Nat → Nat) (sk sv : Nat) (A : Nat → Prop) (a0 : Nat) : CT l yX1_passTick cX1_passTick 3 none 8 189 (PC D w A) (ENVC D w aS sk sv A) A [vr w.2.2.2.2 1 2 a0] (f_X1_passTick a0) vU := by
  refine CT.ofW (by decide) [(0, vr w.2.2.2.2 1 2 a0)] (by simp [lv_args, vr_cat, vc_i, vc_j, vc_f, vc_d, vc_r, vc_n]) (by simp [lg_sl, vr_cat, vc_i, vc_j, vc_f, vc_d, vc_r, vc_n]) ?_
  intro S0 E0 R p e s m args below meth c ls hE hRf hRl hRc K0 hr hlocks hEV hA hZ hl
  have K0 : CallFix p m c cX1_passTick 3 s args GW RX1 := K0
  have hx := K0.1
  have hb := K0.2.1
  have hown := K0.2.2.2.1
  have hg := K0.2.2.2.2
  have hK := hEV.1
  have hok : EVok (ENVC D w aS sk sv A) A := ENVC.ok
  have j44 : ∀ (n9 : Nat) (u0 : Nat) (u2 : Int32) (S : St) (H : Heap) (locs : List Loc) (cells slots : Nat) (ls : Array Slot), (f_X1_passTick_L44 n9 u0 u2).1 S = some E0 → ZZ D 187 (adrC w) (celC w) A S0 s.heap S H locs cells slots → lv_has ls 3 [(0, vr w.2.2.2.2 1 2 u0), (2, .int u2)] → W p l e R s m args below meth c H locs cells slots (MQ below (QE E0 vU (PC D w A) A) args s (gN E0.2 7 0 - gN S0 7 0) (gN E0.2 3 0 - gN S0 3 0) A) (F0 m 44 ls []) := by
    intro n9
    induction n9 with
    | zero =>
      intro u0 u2 S H locs cells slots ls hE hZ hl
      rw [f_X1_passTick_L44] at hE
      cases hE
    | succ n9 ih =>
      intro u0 u2 S H locs cells slots ls hE hZ hl
      rw [f_X1_passTick_L44] at hE
      refine lv_iload_n hx hb dX1_passTick_44 rfl (lv_at hl 1 rfl) ?_
      refine lv_if_lt (tgt := 59) hx hb dX1_passTick_45 (by decide) (fun hc => ?_) (fun hc => ?_)
      · have hE := if_t hE hc
        refine vr_aload_n hx hb dX1_passTick_59 rfl (lv_at hl 0 rfl) ?_
        refine call_V (rest := []) K0 hK hok hEV hA (c_X1_enterFromLoop l D w aS sk sv A u0) q735 q737 q15 q41 q738 yd_X1_enterFromLoop ⟨by omega, by omega⟩ hRc (ci := 3) rfl rfl (rc_LN w _) hE hZ hl.1 rfl (Nat.le_of_ble_eq_true rfl) dX1_passTick_60 (fun v60 S H locs cells slots hE hZ => ?_)
        refine W.eq (g2 := F0 m 63 ls []) rfl ?_
        refine vr_aload_n hx hb dX1_passTick_63 rfl (lv_at hl 0 rfl) ?_
        refine call_V (rest := []) K0 hK hok hEV hA (c_X1_enterFromWaiting l D w aS sk sv A u0) q749 q751 q16 q41 q752 yd_X1_enterFromWaiting ⟨by omega, by omega⟩ hRc (ci := 3) rfl rfl (rc_LN w _) hE hZ hl.1 rfl (Nat.le_of_ble_eq_true rfl) dX1_passTick_64 (fun v64 S H locs cells slots hE hZ => ?_)
        refine W.eq (g2 := F0 m 67 ls []) rfl ?_
        exact end_v K0 hr hlocks hE hZ dX1_passTick_67
      · have hE := if_f hE hc
        refine vr_aload_n hx hb dX1_passTick_48 rfl (lv_at hl 0 rfl) ?_
        refine lv_iload_n hx hb dX1_passTick_49 rfl (lv_at hl 1 rfl) ?_
        refine call_V (rest := []) K0 hK hok hEV hA (c_X1_moveOn l D w aS sk sv A u0 u2) q590 q592 q6 q41 q593 yd_X1_moveOn ⟨by omega, by omega⟩ hRc (ci := 3) rfl rfl (rc_LN w _) hE hZ hl.1 rfl (Nat.le_of_ble_eq_true rfl) dX1_passTick_50 (fun v50 S H locs cells slots hE hZ => ?_)
        refine W.eq (g2 := F0 m 53 ls []) rfl ?_
        refine lv_iinc (v := (u2 + (-1 : Int32))) (lv' := [(2, .int (u2 + (-1 : Int32))), (0, vr w.2.2.2.2 1 2 u0)]) hx hb dX1_passTick_53 hl (k := 1) rfl rfl (by decide) rfl (fun ls hl => ?_)
        refine lv_goto (tgt := 44) hx hb dX1_passTick_56 (by decide) ?_
        exact ih u0 (u2 + (-1 : Int32)) _ _ _ _ _ _ hE hZ (lv_sub hl [1, 0] rfl)
  have j32 : ∀ (u0 : Nat) (S : St) (H : Heap) (locs : List Loc) (cells slots : Nat) (ls : Array Slot), (f_X1_passTick_J32 u0).1 S = some E0 → ZZ D 187 (adrC w) (celC w) A S0 s.heap S H locs cells slots → lv_has ls 3 [(0, vr w.2.2.2.2 1 2 u0)] → W p l e R s m args below meth c H locs cells slots (MQ below (QE E0 vU (PC D w A) A) args s (gN E0.2 7 0 - gN S0 7 0) (gN E0.2 3 0 - gN S0 3 0) A) (F0 m 32 ls []) := by
    intro u0 S H locs cells slots ls hE hZ hl
    unfold f_X1_passTick_J32 at hE
    refine vr_aload_n hx hb dX1_passTick_32 rfl (lv_at hl 0 rfl) ?_
    refine lv_iconst (v := (1)) hx hb dX1_passTick_33 (by decide +kernel) ?_
    refine call_V (rest := []) K0 hK hok hEV hA (c_X1_countDown l D w aS sk sv A u0 (1 : Int32)) q579 q581 q4 q41 q582 yd_X1_countDown ⟨by omega, by omega⟩ hRc (ci := 3) rfl rfl (rc_LN w _) hE hZ hl.1 rfl (Nat.le_of_ble_eq_true rfl) dX1_passTick_34 (fun v34 S H locs cells slots hE hZ => ?_)
    refine W.eq (g2 := F0 m 37 ls []) rfl ?_
    refine vr_aload_n hx hb dX1_passTick_37 rfl (lv_at hl 0 rfl) ?_
    refine g_LN_6 K0 hK hE hZ q221 dX1_passTick_38 (fun v38 hE => ?_)
    refine lv_iconst (v := (1)) hx hb dX1_passTick_41 (by decide +kernel) ?_
    refine lv_isub hx hb dX1_passTick_42 ?_
    refine let_i hE (fun w43 hE => ?_)
    refine lv_istore_n (i := 2) (lv' := [(2, .int w43), (0, vr w.2.2.2.2 1 2 u0)]) hx hb dX1_passTick_43 rfl hl (by decide) rfl (fun ls hl => ?_)
    exact j44 400 u0 w43 _ _ _ _ _ _ hE hZ (lv_sub hl [1, 0] rfl)
  have j13 : ∀ (u0 : Nat) (z0 : Int32) (S : St) (H : Heap) (locs : List Loc) (cells slots : Nat) (ls : Array Slot), (f_X1_passTick_J13 u0 z0).1 S = some E0 → ZZ D 187 (adrC w) (celC w) A S0 s.heap S H locs cells slots → lv_has ls 3 [(0, vr w.2.2.2.2 1 2 u0)] → W p l e R s m args below meth c H locs cells slots (MQ below (QE E0 vU (PC D w A) A) args s (gN E0.2 7 0 - gN S0 7 0) (gN E0.2 3 0 - gN S0 3 0) A) (F0 m 13 ls [.int z0]) := by
    intro u0 z0 S H locs cells slots ls hE hZ hl
    unfold f_X1_passTick_J13 at hE
    refine lv_istore_n (i := 1) (lv' := [(1, .int z0), (0, vr w.2.2.2.2 1 2 u0)]) hx hb dX1_passTick_13 rfl hl (by decide) (by simp [vr_cat, vc_i, vc_j, vc_f, vc_d, vc_r, vc_n]) (fun ls hl => ?_)
    refine vr_aload_n hx hb dX1_passTick_14 rfl (lv_at hl 1 rfl) ?_
    refine lv_dup hx hb dX1_passTick_15 vr_cat ?_
    refine g_LN_8 K0 hK hE hZ q225 dX1_passTick_16 (fun v16 hE => ?_)
    refine lv_iconst (v := (1)) hx hb dX1_passTick_19 (by decide +kernel) ?_
    refine lv_iadd hx hb dX1_passTick_20 ?_
    refine p_LN_8 K0 hK hE hZ q225 dX1_passTick_21 (fun S H locs hE hZ => ?_)
    refine lv_iload_n hx hb dX1_passTick_24 rfl (lv_at hl 0 rfl) ?_
    refine lv_if_eq (tgt := 32) hx hb dX1_passTick_25 (by decide) (fun hc => ?_) (fun hc => ?_)
    · have hE := if_t hE hc
      exact j32 u0 _ _ _ _ _ _ hE hZ (lv_sub hl [1] rfl)
    · have hE := if_f hE hc
      refine vr_aload_n hx hb dX1_passTick_28 rfl (lv_at hl 1 rfl) ?_
      refine call_V (rest := []) K0 hK hok hEV hA (c_X1_fillShelves l D w aS sk sv A u0) q570 q572 q3 q41 q573 yd_X1_fillShelves ⟨by omega, by omega⟩ hRc (ci := 3) rfl rfl (rc_LN w _) hE hZ hl.1 rfl (Nat.le_of_ble_eq_true rfl) dX1_passTick_29 (fun v29 S H locs cells slots hE hZ => ?_)
      refine W.eq (g2 := F0 m 32 ls []) rfl ?_
      exact j32 u0 _ _ _ _ _ _ hE hZ (lv_sub hl [1] rfl)
  unfold f_X1_passTick at hE
  refine vr_aload_n hx hb dX1_passTick_0 rfl (lv_at hl 0 rfl) ?_
  refine call_V (rest := []) K0 hK hok hEV hA (c_X1_ticksToRound l D w aS sk sv A a0) q569 q286 q287 q41 q288 yd_X1_ticksToRound ⟨by omega, by omega⟩ hRc (ci := 3) rfl rfl (rc_LN w _) hE hZ hl.1 rfl (Nat.le_of_ble_eq_true rfl) dX1_passTick_1 (fun v1 S H locs cells slots hE hZ => ?_)
  refine W.eq (g2 := F0 m 4 ls [.int v1]) rfl ?_
  refine lv_iconst (v := (1)) hx hb dX1_passTick_4 (by decide +kernel) ?_
  refine lv_icmp_ne (tgt := 12) hx hb dX1_passTick_5 (by decide) (fun hc => ?_) (fun hc => ?_)
  · have hE := if_f hE hc
    refine lv_iconst (v := (0)) hx hb dX1_passTick_12 (by decide +kernel) ?_
    exact j13 a0 (0 : Int32) _ _ _ _ _ _ hE hZ (lv_sub hl [0] rfl)
  · have hE := if_t hE hc
    refine lv_iconst (v := (1)) hx hb dX1_passTick_8 (by decide +kernel) ?_
    refine lv_goto (tgt := 13) hx hb dX1_passTick_9 (by decide) ?_
    exact j13 a0 (1 : Int32) _ _ _ _ _ _ hE hZ (lv_sub hl [0] rfl)
