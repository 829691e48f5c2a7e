/-! part 12b: the library's indexOf over the text of the signs (by program) -/
def f_J0_coder_7d493  : PM Int32 := rtnB (0 : Int32)
theorem yd_J0_coder_7d493 : yJ0_coder_7d493.cls = RJ0 ∧ yJ0_coder_7d493.cls ≠ "java/lang/invoke/MethodHandle" ∧ yJ0_coder_7d493.cls ≠ "java/lang/invoke/VarHandle" ∧ (parseMethodDescriptor yJ0_coder_7d493.desc).map (fun d => d.parameters.length) = some 0 := by decide +kernel
set_option maxHeartbeats 4000000 in
set_option maxRecDepth 100000 in
theorem c_J0_coder_7d493 (l : Launch) (D : va_G) (w : Wc) (aS : Nat → Nat) (sk sv : Nat) (A : Nat → Prop) : CT l yJ0_coder_7d493 cJ0_coder_7d493 1 (some .byte) 0 0 (PC D w A) (ENVC D w aS sk sv A) A [.ref sk] (f_J0_coder_7d493 ) vI := by
  refine CT.ofW (by decide) [(0, .ref sk)] (by simp [lv_args, vr_cat, vc_i, vc_j, vc_f, vc_d, vc_r, vc_n]) (by simp [lg_sl, vr_cat, vc_i, vc_j, vc_f, vc_d, vc_r, vc_n]) ?_
  intro S0 E0 R p e s m args below meth c ls hE hRf hRl hRc K0 hr hlocks hEV hA hZ hl
  have K0 : CallFix p m c cJ0_coder_7d493 1 s args GW RJ0 := K0
  have hx := K0.1
  have hb := K0.2.1
  have hown := K0.2.2.2.1
  have hg := K0.2.2.2.2
  have hK := hEV.1
  have hok : EVok (ENVC D w aS sk sv A) A := ENVC.ok
  unfold f_J0_coder_7d493 at hE
  refine va_gets hx hb hEV.2.2.2.2.2.2.2.2 hZ.2.1 hown (hg _ q653) (fun _ h => h) dJ0_coder_7d493_0 ?_
  refine lv_if_eq (tgt := 13) hx hb dJ0_coder_7d493_3 (by decide) (fun hc => absurd hc (by decide)) (fun _ => ?_)
  refine lv_aload_n hx hb dJ0_coder_7d493_6 rfl (lv_at hl 0 rfl) ?_
  refine vk_getf hx hb (st_S hEV).2.1 hZ.2.1 hown (hg _ q1392) (fun _ h => h) dJ0_coder_7d493_7 ?_
  refine lv_goto (tgt := 14) hx hb dJ0_coder_7d493_10 (by decide) ?_
  exact end_b K0 hr hlocks hE hZ dJ0_coder_7d493_14
def f_J0_isLatin1_aae02  : PM Int32 := rtnZ (1 : Int32)
theorem yd_J0_isLatin1_aae02 : yJ0_isLatin1_aae02.cls = RJ0 ∧ yJ0_isLatin1_aae02.cls ≠ "java/lang/invoke/MethodHandle" ∧ yJ0_isLatin1_aae02.cls ≠ "java/lang/invoke/VarHandle" ∧ (parseMethodDescriptor yJ0_isLatin1_aae02.desc).map (fun d => d.parameters.length) = some 0 := by decide +kernel
set_option maxHeartbeats 4000000 in
set_option maxRecDepth 100000 in
theorem c_J0_isLatin1_aae02 (l : Launch) (D : va_G) (w : Wc) (aS : Nat → Nat) (sk sv : Nat) (A : Nat → Prop) : CT l yJ0_isLatin1_aae02 cJ0_isLatin1_aae02 1 (some .boolean) 0 0 (PC D w A) (ENVC D w aS sk sv A) A [.ref sk] (f_J0_isLatin1_aae02 ) vI := by
  refine CT.ofW (by decide) [(0, .ref sk)] (by simp [lv_args, vr_cat, vc_i, vc_j, vc_f, vc_d, vc_r, vc_n]) (by simp [lg_sl, vr_cat, vc_i, vc_j, vc_f, vc_d, vc_r, vc_n]) ?_
  intro S0 E0 R p e s m args below meth c ls hE hRf hRl hRc K0 hr hlocks hEV hA hZ hl
  have K0 : CallFix p m c cJ0_isLatin1_aae02 1 s args GW RJ0 := K0
  have hx := K0.1
  have hb := K0.2.1
  have hown := K0.2.2.2.1
  have hg := K0.2.2.2.2
  have hK := hEV.1
  have hok : EVok (ENVC D w aS sk sv A) A := ENVC.ok
  unfold f_J0_isLatin1_aae02 at hE
  refine va_gets hx hb hEV.2.2.2.2.2.2.2.2 hZ.2.1 hown (hg _ q653) (fun _ h => h) dJ0_isLatin1_aae02_0 ?_
  refine lv_if_eq (tgt := 17) hx hb dJ0_isLatin1_aae02_3 (by decide) (fun hc => absurd hc (by decide)) (fun _ => ?_)
  refine lv_aload_n hx hb dJ0_isLatin1_aae02_6 rfl (lv_at hl 0 rfl) ?_
  refine vk_getf hx hb (st_S hEV).2.1 hZ.2.1 hown (hg _ q1392) (fun _ h => h) dJ0_isLatin1_aae02_7 ?_
  refine lv_if_ne (tgt := 17) hx hb dJ0_isLatin1_aae02_10 (by decide) (fun hc => absurd hc (by decide)) (fun _ => ?_)
  refine lv_iconst (v := (1)) hx hb dJ0_isLatin1_aae02_13 (by decide +kernel) ?_
  refine lv_goto (tgt := 18) hx hb dJ0_isLatin1_aae02_14 (by decide) ?_
  exact end_z K0 hr hlocks hE hZ dJ0_isLatin1_aae02_18
def f_J0_length_8abf5  : PM Int32 := bnd (f_J0_coder_7d493 ) (fun v6 => rtn ((5 : Int32) >>> (v6 &&& 31)))
theorem yd_J0_length_8abf5 : yJ0_length_8abf5.cls = RJ0 ∧ yJ0_length_8abf5.cls ≠ "java/lang/invoke/MethodHandle" ∧ yJ0_length_8abf5.cls ≠ "java/lang/invoke/VarHandle" ∧ (parseMethodDescriptor yJ0_length_8abf5.desc).map (fun d => d.parameters.length) = some 0 := by decide +kernel
set_option maxHeartbeats 4000000 in
set_option maxRecDepth 100000 in
theorem c_J0_length_8abf5 (l : Launch) (D : va_G) (w : Wc) (aS : Nat → Nat) (sk sv : Nat) (A : Nat → Prop) : CT l yJ0_length_8abf5 cJ0_length_8abf5 1 (some .int) 1 20 (PC D w A) (ENVC D w aS sk sv A) A [.ref sk] (f_J0_length_8abf5 ) vI := by
  refine CT.ofW (by decide) [(0, .ref sk)] (by simp [lv_args, vr_cat, vc_i, vc_j, vc_f, vc_d, vc_r, vc_n]) (by simp [lg_sl, vr_cat, vc_i, vc_j, vc_f, vc_d, vc_r, vc_n]) ?_
  intro S0 E0 R p e s m args below meth c ls hE hRf hRl hRc K0 hr hlocks hEV hA hZ hl
  have K0 : CallFix p m c cJ0_length_8abf5 1 s args GW RJ0 := K0
  have hx := K0.1
  have hb := K0.2.1
  have hown := K0.2.2.2.1
  have hg := K0.2.2.2.2
  have hK := hEV.1
  have hok : EVok (ENVC D w aS sk sv A) A := ENVC.ok
  unfold f_J0_length_8abf5 at hE
  refine lv_aload_n hx hb dJ0_length_8abf5_0 rfl (lv_at hl 0 rfl) ?_
  refine vk_getf hx hb (st_S hEV).2.2.1 hZ.2.1 hown (hg _ q1393) (fun _ h => h) dJ0_length_8abf5_1 ?_
  refine va_tlen (v := 5) hx hb (st_S hEV).2.2.2 hZ.2.1 (by decide +kernel) dJ0_length_8abf5_4 ?_
  refine lv_aload_n hx hb dJ0_length_8abf5_5 rfl (lv_at hl 0 rfl) ?_
  refine call_VS (rest := [.int (5 : Int32)]) K0 hok hEV hA (c_J0_coder_7d493 l D w aS sk sv A ) q659 q660 q661 q56 q662 yd_J0_coder_7d493 ⟨by omega, by omega⟩ hRc (vk_recv hEV.2.2.2.2.2.2.2.1 (i := 0) (by decide) hZ.2.1) hE hZ hl.1 rfl (Nat.le_of_ble_eq_true rfl) dJ0_length_8abf5_6 (fun v6 S H locs cells slots hE hZ => ?_)
  refine W.eq (g2 := F0 m 9 ls [.int v6, .int (5 : Int32)]) rfl ?_
  refine lv_ishr hx hb dJ0_length_8abf5_9 ?_
  exact end_i K0 hr hlocks hE hZ dJ0_length_8abf5_10
def f_J1_canEncode_9a6ad (a0 : Int32) : PM Int32 := if a0 < 0 then (rtnZ (0 : Int32)) else (if (255 : Int32) < a0 then (rtnZ (0 : Int32)) else (rtnZ (1 : Int32)))
theorem yd_J1_canEncode_9a6ad : yJ1_canEncode_9a6ad.cls = RJ1 ∧ yJ1_canEncode_9a6ad.cls ≠ "java/lang/invoke/MethodHandle" ∧ yJ1_canEncode_9a6ad.cls ≠ "java/lang/invoke/VarHandle" ∧ (parseMethodDescriptor yJ1_canEncode_9a6ad.desc).map (fun d => d.parameters.length) = some 1 := by decide +kernel
set_option maxHeartbeats 4000000 in
set_option maxRecDepth 100000 in
theorem c_J1_canEncode_9a6ad (l : Launch) (D : va_G) (w : Wc) (aS : Nat → Nat) (sk sv : Nat) (A : Nat → Prop) (a0 : Int32) : CT l yJ1_canEncode_9a6ad cJ1_canEncode_9a6ad 1 (some .boolean) 0 0 (PC D w A) (ENVC D w aS sk sv A) A [.int a0] (f_J1_canEncode_9a6ad a0) vI := by
  refine CT.ofW (by decide) [(0, .int a0)] (by simp [lv_args, vr_cat, vc_i, vc_j, vc_f, vc_d, vc_r, vc_n]) (by simp [lg_sl, vr_cat, vc_i, vc_j, vc_f, vc_d, vc_r, vc_n]) ?_
  intro S0 E0 R p e s m args below meth c ls hE hRf hRl hRc K0 hr hlocks hEV hA hZ hl
  have K0 : CallFix p m c cJ1_canEncode_9a6ad 1 s args GW RJ1 := K0
  have hx := K0.1
  have hb := K0.2.1
  have hown := K0.2.2.2.1
  have hg := K0.2.2.2.2
  have hK := hEV.1
  have hok : EVok (ENVC D w aS sk sv A) A := ENVC.ok
  unfold f_J1_canEncode_9a6ad at hE
  refine lv_iload_n hx hb dJ1_canEncode_9a6ad_0 rfl (lv_at hl 0 rfl) ?_
  refine lv_if_lt (tgt := 15) hx hb dJ1_canEncode_9a6ad_1 (by decide) (fun hc => ?_) (fun hc => ?_)
  · have hE := if_t hE hc
    refine lv_iconst (v := (0)) hx hb dJ1_canEncode_9a6ad_15 (by decide +kernel) ?_
    exact end_z K0 hr hlocks hE hZ dJ1_canEncode_9a6ad_16
  · have hE := if_f hE hc
    refine lv_iload_n hx hb dJ1_canEncode_9a6ad_4 rfl (lv_at hl 0 rfl) ?_
    refine lv_sipush (v := (255)) hx hb dJ1_canEncode_9a6ad_5 (by decide +kernel) ?_
    refine lv_icmp_gt (tgt := 15) hx hb dJ1_canEncode_9a6ad_8 (by decide) (fun hc => ?_) (fun hc => ?_)
    · have hE := if_t hE hc
      refine lv_iconst (v := (0)) hx hb dJ1_canEncode_9a6ad_15 (by decide +kernel) ?_
      exact end_z K0 hr hlocks hE hZ dJ1_canEncode_9a6ad_16
    · have hE := if_f hE hc
      refine lv_iconst (v := (1)) hx hb dJ1_canEncode_9a6ad_11 (by decide +kernel) ?_
      refine lv_goto (tgt := 16) hx hb dJ1_canEncode_9a6ad_12 (by decide) ?_
      exact end_z K0 hr hlocks hE hZ dJ1_canEncode_9a6ad_16
def f_J1_indexOfChar_4cfef_L7 : Nat → Int32 → Int32 → Int32 → PM Int32
  | 0, _, _, _ => fail
  | n9 + 1, u3, u4, u5 => if u3 ≤ u5 then (rtn (-1 : Int32)) else (bnd (sgB u5) (fun v16 => if v16 = u4 then (rtn u5) else (f_J1_indexOfChar_4cfef_L7 n9 u3 u4 (u5 + (1 : Int32)))))
def f_J1_indexOfChar_4cfef (a1 : Int32) (a2 : Int32) (a3 : Int32) : PM Int32 := bnd (rtn (a1.toInt8.toInt32)) (fun w2 => f_J1_indexOfChar_4cfef_L7 400 a3 w2 a2)
theorem yd_J1_indexOfChar_4cfef : yJ1_indexOfChar_4cfef.cls = RJ1 ∧ yJ1_indexOfChar_4cfef.cls ≠ "java/lang/invoke/MethodHandle" ∧ yJ1_indexOfChar_4cfef.cls ≠ "java/lang/invoke/VarHandle" ∧ (parseMethodDescriptor yJ1_indexOfChar_4cfef.desc).map (fun d => d.parameters.length) = some 4 := by decide +kernel
set_option maxHeartbeats 4000000 in
set_option maxRecDepth 100000 in
theorem c_J1_indexOfChar_4cfef (l : Launch) (D : va_G) (w : Wc) (aS : Nat → Nat) (sk sv : Nat) (A : Nat → Prop) (a1 : Int32) (a2 : Int32) (a3 : Int32) : CT l yJ1_indexOfChar_4cfef cJ1_indexOfChar_4cfef 6 (some .int) 0 0 (PC D w A) (ENVC D w aS sk sv A) A [.ref sv, .int a1, .int a2, .int a3] (f_J1_indexOfChar_4cfef a1 a2 a3) vI := by
  refine CT.ofW (by decide) [(0, .ref sv), (1, .int a1), (2, .int a2), (3, .int a3)] (by simp [lv_args, vr_cat, vc_i, vc_j, vc_f, vc_d, vc_r, vc_n]) (by simp [lg_sl, vr_cat, vc_i, vc_j, vc_f, vc_d, vc_r, vc_n]) ?_
  intro S0 E0 R p e s m args below meth c ls hE hRf hRl hRc K0 hr hlocks hEV hA hZ hl
  have K0 : CallFix p m c cJ1_indexOfChar_4cfef 6 s args GW RJ1 := K0
  have hx := K0.1
  have hb := K0.2.1
  have hown := K0.2.2.2.1
  have hg := K0.2.2.2.2
  have hK := hEV.1
  have hok : EVok (ENVC D w aS sk sv A) A := ENVC.ok
  have j7 : ∀ (n9 : Nat) (u3 : Int32) (u4 : Int32) (u5 : Int32) (S : St) (H : Heap) (locs : List Loc) (cells slots : Nat) (ls : Array Slot), (f_J1_indexOfChar_4cfef_L7 n9 u3 u4 u5).1 S = some E0 → ZZ D 187 (adrC w) (celC w) A S0 s.heap S H locs cells slots → lv_has ls 6 [(0, .ref sv), (3, .int u3), (4, .int u4), (5, .int u5)] → W p l e R s m args below meth c H locs cells slots (MQ below (QE E0 vI (PC D w A) A) args s (gN E0.2 7 0 - gN S0 7 0) (gN E0.2 3 0 - gN S0 3 0) A) (F0 m 7 ls []) := by
    intro n9
    induction n9 with
    | zero =>
      intro u3 u4 u5 S H locs cells slots ls hE hZ hl
      rw [f_J1_indexOfChar_4cfef_L7] at hE
      cases hE
    | succ n9 ih =>
      intro u3 u4 u5 S H locs cells slots ls hE hZ hl
      rw [f_J1_indexOfChar_4cfef_L7] at hE
      refine lv_iload hx hb dJ1_indexOfChar_4cfef_7 (lv_at hl 3 rfl) ?_
      refine lv_iload_n hx hb dJ1_indexOfChar_4cfef_9 rfl (lv_at hl 1 rfl) ?_
      refine lv_icmp_ge (tgt := 31) hx hb dJ1_indexOfChar_4cfef_10 (by decide) (fun hc => ?_) (fun hc => ?_)
      · have hE := if_t hE hc
        refine lv_iconst (v := (-1)) hx hb dJ1_indexOfChar_4cfef_31 (by decide +kernel) ?_
        exact end_i K0 hr hlocks hE hZ dJ1_indexOfChar_4cfef_32
      · have hE := if_f hE hc
        refine lv_aload_n hx hb dJ1_indexOfChar_4cfef_13 rfl (lv_at hl 0 rfl) ?_
        refine lv_iload hx hb dJ1_indexOfChar_4cfef_14 (lv_at hl 3 rfl) ?_
        refine row_sgB hx hb hEV hE hZ.2.1 dJ1_indexOfChar_4cfef_16 (fun v16 hE => ?_)
        refine lv_iload hx hb dJ1_indexOfChar_4cfef_17 (lv_at hl 2 rfl) ?_
        refine lv_icmp_ne (tgt := 25) hx hb dJ1_indexOfChar_4cfef_19 (by decide) (fun hc => ?_) (fun hc => ?_)
        · have hE := if_f hE hc
          refine lv_iinc (v := (u5 + (1 : Int32))) (lv' := [(5, .int (u5 + (1 : Int32))), (0, .ref sv), (3, .int u3), (4, .int u4)]) hx hb dJ1_indexOfChar_4cfef_25 hl (k := 3) rfl rfl (by decide) rfl (fun ls hl => ?_)
          refine lv_goto (tgt := 7) hx hb dJ1_indexOfChar_4cfef_28 (by decide) ?_
          exact ih u3 u4 (u5 + (1 : Int32)) _ _ _ _ _ _ hE hZ (lv_sub hl [1, 2, 3, 0] rfl)
        · have hE := if_t hE hc
          refine lv_iload hx hb dJ1_indexOfChar_4cfef_22 (lv_at hl 3 rfl) ?_
          exact end_i K0 hr hlocks hE hZ dJ1_indexOfChar_4cfef_24
  unfold f_J1_indexOfChar_4cfef at hE
  refine lv_iload_n hx hb dJ1_indexOfChar_4cfef_0 rfl (lv_at hl 1 rfl) ?_
  refine lv_i2b hx hb dJ1_indexOfChar_4cfef_1 rfl ?_
  refine let_i hE (fun w2 hE => ?_)
  refine lv_istore (lv' := [(4, .int w2), (0, .ref sv), (1, .int a1), (2, .int a2), (3, .int a3)]) hx hb dJ1_indexOfChar_4cfef_2 hl (by decide) rfl (fun ls hl => ?_)
  refine lv_iload_n hx hb dJ1_indexOfChar_4cfef_4 rfl (lv_at hl 3 rfl) ?_
  refine lv_istore (lv' := [(5, .int a2), (4, .int w2), (0, .ref sv), (1, .int a1), (2, .int a2), (3, .int a3)]) hx hb dJ1_indexOfChar_4cfef_5 hl (by decide) rfl (fun ls hl => ?_)
  exact j7 400 a3 w2 a2 _ _ _ _ _ _ hE hZ (lv_sub hl [2, 5, 1, 0] rfl)
def f_J1_indexOf_4cfef (a1 : Int32) (a2 : Int32) (a3 : Int32) : PM Int32 := bnd (f_J1_canEncode_9a6ad a1) (fun v1 => if v1 = 0 then (rtn (-1 : Int32)) else (bnd (rtn (if a2 < (0 : Int32) then (0 : Int32) else a2)) (fun w14 => bnd (rtn (if (5 : Int32) < a3 then (5 : Int32) else a3)) (fun w21 => if w14 < w21 then (bnd (f_J1_indexOfChar_4cfef a1 w14 w21) (fun v33 => rtn v33)) else (rtn (-1 : Int32))))))
theorem yd_J1_indexOf_4cfef : yJ1_indexOf_4cfef.cls = RJ1 ∧ yJ1_indexOf_4cfef.cls ≠ "java/lang/invoke/MethodHandle" ∧ yJ1_indexOf_4cfef.cls ≠ "java/lang/invoke/VarHandle" ∧ (parseMethodDescriptor yJ1_indexOf_4cfef.desc).map (fun d => d.parameters.length) = some 4 := by decide +kernel
set_option maxHeartbeats 4000000 in
set_option maxRecDepth 100000 in
theorem c_J1_indexOf_4cfef (l : Launch) (D : va_G) (w : Wc) (aS : Nat → Nat) (sk sv : Nat) (A : Nat → Prop) (a1 : Int32) (a2 : Int32) (a3 : Int32) : CT l yJ1_indexOf_4cfef cJ1_indexOf_4cfef 4 (some .int) 1 30 (PC D w A) (ENVC D w aS sk sv A) A [.ref sv, .int a1, .int a2, .int a3] (f_J1_indexOf_4cfef a1 a2 a3) vI := by
  refine CT.ofW (by decide) [(0, .ref sv), (1, .int a1), (2, .int a2), (3, .int a3)] (by simp [lv_args, vr_cat, vc_i, vc_j, vc_f, vc_d, vc_r, vc_n]) (by simp [lg_sl, vr_cat, vc_i, vc_j, vc_f, vc_d, vc_r, vc_n]) ?_
  intro S0 E0 R p e s m args below meth c ls hE hRf hRl hRc K0 hr hlocks hEV hA hZ hl
  have K0 : CallFix p m c cJ1_indexOf_4cfef 4 s args GW RJ1 := K0
  have hx := K0.1
  have hb := K0.2.1
  have hown := K0.2.2.2.1
  have hg := K0.2.2.2.2
  have hK := hEV.1
  have hok : EVok (ENVC D w aS sk sv A) A := ENVC.ok
  unfold f_J1_indexOf_4cfef at hE
  refine lv_iload_n hx hb dJ1_indexOf_4cfef_0 rfl (lv_at hl 1 rfl) ?_
  refine call_S (rest := []) K0 hok hEV hA (c_J1_canEncode_9a6ad l D w aS sk sv A a1) q666 q667 q57 q668 yd_J1_canEncode_9a6ad ⟨by omega, by omega⟩ hRc hE hZ hl.1 rfl (Nat.le_of_ble_eq_true rfl) dJ1_indexOf_4cfef_1 (fun v1 S H locs cells slots hE hZ => ?_)
  refine W.eq (g2 := F0 m 4 ls [.int v1]) rfl ?_
  refine lv_if_ne (tgt := 9) hx hb dJ1_indexOf_4cfef_4 (by decide) (fun hc => ?_) (fun hc => ?_)
  · have hE := if_f hE hc
    refine lv_iload_n hx hb dJ1_indexOf_4cfef_9 rfl (lv_at hl 2 rfl) ?_
    refine lv_iconst (v := (0)) hx hb dJ1_indexOf_4cfef_10 (by decide +kernel) ?_
    refine va_mmax hx hb (K0.2.2.1.trans hl.1.symm) hown (hg _ q669) (hg _ q588) (hg _ q55) (hg _ q589) (by omega) (by rw [hRl]; simp [vr_cat, vc_i, vc_j, vc_f, vc_d, vc_r, vc_n]) (room_c hE hZ hRc) (room_s hE hZ hRc) dJ1_indexOf_4cfef_11 ?_
    refine let_i hE (fun w14 hE => ?_)
    refine lv_istore_n (i := 2) (lv' := [(2, .int w14), (0, .ref sv), (1, .int a1), (3, .int a3)]) hx hb dJ1_indexOf_4cfef_14 rfl hl (by decide) rfl (fun ls hl => ?_)
    refine lv_iload_n hx hb dJ1_indexOf_4cfef_15 rfl (lv_at hl 3 rfl) ?_
    refine lv_aload_n hx hb dJ1_indexOf_4cfef_16 rfl (lv_at hl 1 rfl) ?_
    refine va_tlen (v := 5) hx hb (st_S hEV).2.2.2 hZ.2.1 (by decide +kernel) dJ1_indexOf_4cfef_17 ?_
    refine va_mmin hx hb (K0.2.2.1.trans hl.1.symm) hown (hg _ q670) (hg _ q576) (hg _ q55) (hg _ q577) (by omega) (by rw [hRl]; simp [vr_cat, vc_i, vc_j, vc_f, vc_d, vc_r, vc_n]) (room_c hE hZ hRc) (room_s hE hZ hRc) dJ1_indexOf_4cfef_18 ?_
    refine let_i hE (fun w21 hE => ?_)
    refine lv_istore_n (i := 3) (lv' := [(3, .int w21), (2, .int w14), (0, .ref sv), (1, .int a1)]) hx hb dJ1_indexOf_4cfef_21 rfl hl (by decide) rfl (fun ls hl => ?_)
    refine lv_iload_n hx hb dJ1_indexOf_4cfef_22 rfl (lv_at hl 1 rfl) ?_
    refine lv_iload_n hx hb dJ1_indexOf_4cfef_23 rfl (lv_at hl 0 rfl) ?_
    refine lv_icmp_lt (tgt := 29) hx hb dJ1_indexOf_4cfef_24 (by decide) (fun hc => ?_) (fun hc => ?_)
    · have hE := if_t hE hc
      refine lv_aload_n hx hb dJ1_indexOf_4cfef_29 rfl (lv_at hl 2 rfl) ?_
      refine lv_iload_n hx hb dJ1_indexOf_4cfef_30 rfl (lv_at hl 3 rfl) ?_
      refine lv_iload_n hx hb dJ1_indexOf_4cfef_31 rfl (lv_at hl 1 rfl) ?_
      refine lv_iload_n hx hb dJ1_indexOf_4cfef_32 rfl (lv_at hl 0 rfl) ?_
      refine call_S (rest := []) K0 hok hEV hA (c_J1_indexOfChar_4cfef l D w aS sk sv A a1 w14 w21) q671 q672 q57 q673 yd_J1_indexOfChar_4cfef ⟨by omega, by omega⟩ hRc hE hZ hl.1 rfl (Nat.le_of_ble_eq_true rfl) dJ1_indexOf_4cfef_33 (fun v33 S H locs cells slots hE hZ => ?_)
      refine W.eq (g2 := F0 m 36 ls [.int v33]) rfl ?_
      exact end_i K0 hr hlocks hE hZ dJ1_indexOf_4cfef_36
    · have hE := if_f hE hc
      refine lv_iconst (v := (-1)) hx hb dJ1_indexOf_4cfef_27 (by decide +kernel) ?_
      exact end_i K0 hr hlocks hE hZ dJ1_indexOf_4cfef_28
  · have hE := if_t hE hc
    refine lv_iconst (v := (-1)) hx hb dJ1_indexOf_4cfef_7 (by decide +kernel) ?_
    exact end_i K0 hr hlocks hE hZ dJ1_indexOf_4cfef_8
def f_J0_indexOf_7cf53 (a1 : Int32) (a2 : Int32) : PM Int32 := bnd (f_J0_isLatin1_aae02 ) (fun v1 => if v1 = 0 then (bnd (f_J0_length_8abf5 ) (fun v30 => fail)) else (bnd (f_J0_length_8abf5 ) (fun v14 => bnd (f_J1_indexOf_4cfef a1 a2 v14) (fun v17 => rtn v17))))
theorem yd_J0_indexOf_7cf53 : yJ0_indexOf_7cf53.cls = RJ0 ∧ yJ0_indexOf_7cf53.cls ≠ "java/lang/invoke/MethodHandle" ∧ yJ0_indexOf_7cf53.cls ≠ "java/lang/invoke/VarHandle" ∧ (parseMethodDescriptor yJ0_indexOf_7cf53.desc).map (fun d => d.parameters.length) = some 2 := by decide +kernel
set_option maxHeartbeats 4000000 in
set_option maxRecDepth 100000 in
theorem c_J0_indexOf_7cf53 (l : Launch) (D : va_G) (w : Wc) (aS : Nat → Nat) (sk sv : Nat) (A : Nat → Prop) (a1 : Int32) (a2 : Int32) : CT l yJ0_indexOf_7cf53 cJ0_indexOf_7cf53 3 (some .int) 2 53 (PC D w A) (ENVC D w aS sk sv A) A [.ref sk, .int a1, .int a2] (f_J0_indexOf_7cf53 a1 a2) vI := by
  refine CT.ofW (by decide) [(0, .ref sk), (1, .int a1), (2, .int a2)] (by simp [lv_args, vr_cat, vc_i, vc_j, vc_f, vc_d, vc_r, vc_n]) (by simp [lg_sl, vr_cat, vc_i, vc_j, vc_f, vc_d, vc_r, vc_n]) ?_
  intro S0 E0 R p e s m args below meth c ls hE hRf hRl hRc K0 hr hlocks hEV hA hZ hl
  have K0 : CallFix p m c cJ0_indexOf_7cf53 3 s args GW RJ0 := K0
  have hx := K0.1
  have hb := K0.2.1
  have hown := K0.2.2.2.1
  have hg := K0.2.2.2.2
  have hK := hEV.1
  have hok : EVok (ENVC D w aS sk sv A) A := ENVC.ok
  unfold f_J0_indexOf_7cf53 at hE
  refine lv_aload_n hx hb dJ0_indexOf_7cf53_0 rfl (lv_at hl 0 rfl) ?_
  refine call_VS (rest := []) K0 hok hEV hA (c_J0_isLatin1_aae02 l D w aS sk sv A ) q649 q650 q651 q56 q652 yd_J0_isLatin1_aae02 ⟨by omega, by omega⟩ hRc (vk_recv hEV.2.2.2.2.2.2.2.1 (i := 0) (by decide) hZ.2.1) hE hZ hl.1 rfl (Nat.le_of_ble_eq_true rfl) dJ0_indexOf_7cf53_1 (fun v1 S H locs cells slots hE hZ => ?_)
  refine W.eq (g2 := F0 m 4 ls [.int v1]) rfl ?_
  refine lv_if_eq (tgt := 23) hx hb dJ0_indexOf_7cf53_4 (by decide) (fun hc => ?_) (fun hc => ?_)
  · have hE := if_t hE hc
    refine lv_aload_n hx hb dJ0_indexOf_7cf53_23 rfl (lv_at hl 0 rfl) ?_
    refine vk_getf hx hb (st_S hEV).2.2.1 hZ.2.1 hown (hg _ q1393) (fun _ h => h) dJ0_indexOf_7cf53_24 ?_
    refine lv_iload_n hx hb dJ0_indexOf_7cf53_27 rfl (lv_at hl 1 rfl) ?_
    refine lv_iload_n hx hb dJ0_indexOf_7cf53_28 rfl (lv_at hl 2 rfl) ?_
    refine lv_aload_n hx hb dJ0_indexOf_7cf53_29 rfl (lv_at hl 0 rfl) ?_
    refine call_VS (rest := [.int a2, .int a1, .ref sv]) K0 hok hEV hA (c_J0_length_8abf5 l D w aS sk sv A ) q655 q656 q657 q56 q658 yd_J0_length_8abf5 ⟨by omega, by omega⟩ hRc (vk_recv hEV.2.2.2.2.2.2.2.1 (i := 0) (by decide) hZ.2.1) hE hZ hl.1 rfl (Nat.le_of_ble_eq_true rfl) dJ0_indexOf_7cf53_30 (fun v30 S H locs cells slots hE hZ => ?_)
    refine W.eq (g2 := F0 m 33 ls [.int v30, .int a2, .int a1, .ref sv]) rfl ?_
    cases hE
  · have hE := if_f hE hc
    refine lv_aload_n hx hb dJ0_indexOf_7cf53_7 rfl (lv_at hl 0 rfl) ?_
    refine vk_getf hx hb (st_S hEV).2.2.1 hZ.2.1 hown (hg _ q1393) (fun _ h => h) dJ0_indexOf_7cf53_8 ?_
    refine lv_iload_n hx hb dJ0_indexOf_7cf53_11 rfl (lv_at hl 1 rfl) ?_
    refine lv_iload_n hx hb dJ0_indexOf_7cf53_12 rfl (lv_at hl 2 rfl) ?_
    refine lv_aload_n hx hb dJ0_indexOf_7cf53_13 rfl (lv_at hl 0 rfl) ?_
    refine call_VS (rest := [.int a2, .int a1, .ref sv]) K0 hok hEV hA (c_J0_length_8abf5 l D w aS sk sv A ) q655 q656 q657 q56 q658 yd_J0_length_8abf5 ⟨by omega, by omega⟩ hRc (vk_recv hEV.2.2.2.2.2.2.2.1 (i := 0) (by decide) hZ.2.1) hE hZ hl.1 rfl (Nat.le_of_ble_eq_true rfl) dJ0_indexOf_7cf53_14 (fun v14 S H locs cells slots hE hZ => ?_)
    refine W.eq (g2 := F0 m 17 ls [.int v14, .int a2, .int a1, .ref sv]) rfl ?_
    refine call_S (rest := []) K0 hok hEV hA (c_J1_indexOf_4cfef l D w aS sk sv A a1 a2 v14) q663 q664 q57 q665 yd_J1_indexOf_4cfef ⟨by omega, by omega⟩ hRc hE hZ hl.1 rfl (Nat.le_of_ble_eq_true rfl) dJ0_indexOf_7cf53_17 (fun v17 S H locs cells slots hE hZ => ?_)
    refine W.eq (g2 := F0 m 20 ls [.int v17]) rfl ?_
    refine lv_goto (tgt := 36) hx hb dJ0_indexOf_7cf53_20 (by decide) ?_
    exact end_i K0 hr hlocks hE hZ dJ0_indexOf_7cf53_36
def f_J0_indexOf_0f7a4 (a1 : Int32) : PM Int32 := bnd (f_J0_indexOf_7cf53 a1 (0 : Int32)) (fun v3 => rtn v3)
theorem yd_J0_indexOf_0f7a4 : yJ0_indexOf_0f7a4.cls = RJ0 ∧ yJ0_indexOf_0f7a4.cls ≠ "java/lang/invoke/MethodHandle" ∧ yJ0_indexOf_0f7a4.cls ≠ "java/lang/invoke/VarHandle" ∧ (parseMethodDescriptor yJ0_indexOf_0f7a4.desc).map (fun d => d.parameters.length) = some 1 := by decide +kernel
set_option maxHeartbeats 4000000 in
set_option maxRecDepth 100000 in
theorem c_J0_indexOf_0f7a4 (l : Launch) (D : va_G) (w : Wc) (aS : Nat → Nat) (sk sv : Nat) (A : Nat → Prop) (a1 : Int32) : CT l yJ0_indexOf_0f7a4 cJ0_indexOf_0f7a4 2 (some .int) 3 75 (PC D w A) (ENVC D w aS sk sv A) A [.ref sk, .int a1] (f_J0_indexOf_0f7a4 a1) vI := by
  refine CT.ofW (by decide) [(0, .ref sk), (1, .int a1)] (by simp [lv_args, vr_cat, vc_i, vc_j, vc_f, vc_d, vc_r, vc_n]) (by simp [lg_sl, vr_cat, vc_i, vc_j, vc_f, vc_d, vc_r, vc_n]) ?_
  intro S0 E0 R p e s m args below meth c ls hE hRf hRl hRc K0 hr hlocks hEV hA hZ hl
  have K0 : CallFix p m c cJ0_indexOf_0f7a4 2 s args GW RJ0 := K0
  have hx := K0.1
  have hb := K0.2.1
  have hown := K0.2.2.2.1
  have hg := K0.2.2.2.2
  have hK := hEV.1
  have hok : EVok (ENVC D w aS sk sv A) A := ENVC.ok
  unfold f_J0_indexOf_0f7a4 at hE
  refine lv_aload_n hx hb dJ0_indexOf_0f7a4_0 rfl (lv_at hl 0 rfl) ?_
  refine lv_iload_n hx hb dJ0_indexOf_0f7a4_1 rfl (lv_at hl 1 rfl) ?_
  refine lv_iconst (v := (0)) hx hb dJ0_indexOf_0f7a4_2 (by decide +kernel) ?_
  refine call_VS (rest := []) K0 hok hEV hA (c_J0_indexOf_7cf53 l D w aS sk sv A a1 (0 : Int32)) q645 q646 q647 q56 q648 yd_J0_indexOf_7cf53 ⟨by omega, by omega⟩ hRc (vk_recv hEV.2.2.2.2.2.2.2.1 (i := 0) (by decide) hZ.2.1) hE hZ hl.1 rfl (Nat.le_of_ble_eq_true rfl) dJ0_indexOf_0f7a4_3 (fun v3 S H locs cells slots hE hZ => ?_)
  refine W.eq (g2 := F0 m 6 ls [.int v3]) rfl ?_
  exact end_i K0 hr hlocks hE hZ dJ0_indexOf_0f7a4_6
def f_X4_totalOf (a0 : Nat) (a1 : Int32) : PM Int32 := bnd (f_J0_indexOf_0f7a4 a1) (fun v3 => if v3 < 0 then (rtn (0 : Int32)) else (bnd (rfc 30 a0 a0) (fun v13 => bnd (rdk 30 v13 (nI 5)) (fun v16 => if v16 ≤ v3 then (rtn (0 : Int32)) else (bnd (rfc 30 a0 a0) (fun v21 => bnd (ald 30 v21 24 5 v3) (fun v25 => rtn v25)))))))
theorem yd_X4_totalOf : yX4_totalOf.cls = RX4 ∧ yX4_totalOf.cls ≠ "java/lang/invoke/MethodHandle" ∧ yX4_totalOf.cls ≠ "java/lang/invoke/VarHandle" ∧ (parseMethodDescriptor yX4_totalOf.desc).map (fun d => d.parameters.length) = some 1 := by decide +kernel
set_option maxHeartbeats 4000000 in
set_option maxRecDepth 100000 in
theorem c_X4_totalOf (l : Launch) (D : va_G) (w : Wc) (aS : Nat → Nat) (sk sv : Nat) (A : Nat → Prop) (a0 : Nat) (a1 : Int32) : CT l yX4_totalOf cX4_totalOf 3 (some .int) 4 96 (PC D w A) (ENVC D w aS sk sv A) A [vr w.2.2.2.2 97 30 a0, .int a1] (f_X4_totalOf a0 a1) vI := by
  refine CT.ofW (by decide) [(0, vr w.2.2.2.2 97 30 a0), (1, .int a1)] (by simp [lv_args, vr_cat, vc_i, vc_j, vc_f, vc_d, vc_r, vc_n]) (by simp [lg_sl, vr_cat, vc_i, vc_j, vc_f, vc_d, vc_r, vc_n]) ?_
  intro S0 E0 R p e s m args below meth c ls hE hRf hRl hRc K0 hr hlocks hEV hA hZ hl
  have K0 : CallFix p m c cX4_totalOf 3 s args GW RX4 := K0
  have hx := K0.1
  have hb := K0.2.1
  have hown := K0.2.2.2.1
  have hg := K0.2.2.2.2
  have hK := hEV.1
  have hok : EVok (ENVC D w aS sk sv A) A := ENVC.ok
  unfold f_X4_totalOf at hE
  refine va_ldcS hx hb hown hEV.2.2.2.2.2.2.1 dX4_totalOf_0 ?_
  refine lv_iload_n hx hb dX4_totalOf_2 rfl (lv_at hl 1 rfl) ?_
  refine call_VS (rest := []) K0 hok hEV hA (c_J0_indexOf_0f7a4 l D w aS sk sv A a1) q641 q642 q643 q56 q644 yd_J0_indexOf_0f7a4 ⟨by omega, by omega⟩ hRc (vk_recv hEV.2.2.2.2.2.2.2.1 (i := 0) (by decide) hZ.2.1) hE hZ hl.1 rfl (Nat.le_of_ble_eq_true rfl) dX4_totalOf_3 (fun v3 S H locs cells slots hE hZ => ?_)
  refine W.eq (g2 := F0 m 6 ls [.int v3]) rfl ?_
  refine lv_istore_n (i := 2) (lv' := [(2, .int v3), (0, vr w.2.2.2.2 97 30 a0), (1, .int a1)]) hx hb dX4_totalOf_6 rfl hl (by decide) rfl (fun ls hl => ?_)
  refine lv_iload_n hx hb dX4_totalOf_7 rfl (lv_at hl 0 rfl) ?_
  refine lv_if_lt (tgt := 29) hx hb dX4_totalOf_8 (by decide) (fun hc => ?_) (fun hc => ?_)
  · have hE := if_t hE hc
    refine lv_iconst (v := (0)) hx hb dX4_totalOf_29 (by decide +kernel) ?_
    exact end_i K0 hr hlocks hE hZ dX4_totalOf_30
  · have hE := if_f hE hc
    refine lv_iload_n hx hb dX4_totalOf_11 rfl (lv_at hl 0 rfl) ?_
    refine vr_aload_n hx hb dX4_totalOf_12 rfl (lv_at hl 1 rfl) ?_
    refine g_TR_2 K0 hK hE hZ q148 dX4_totalOf_13 (fun v13 hE => ?_)
    refine n_TO K0 hK hE hZ dX4_totalOf_16 (fun v16 hE => ?_)
    refine lv_icmp_ge (tgt := 29) hx hb dX4_totalOf_17 (by decide) (fun hc => ?_) (fun hc => ?_)
    · have hE := if_t hE hc
      refine lv_iconst (v := (0)) hx hb dX4_totalOf_29 (by decide +kernel) ?_
      exact end_i K0 hr hlocks hE hZ dX4_totalOf_30
    · have hE := if_f hE hc
      refine vr_aload_n hx hb dX4_totalOf_20 rfl (lv_at hl 1 rfl) ?_
      refine g_TR_2 K0 hK hE hZ q148 dX4_totalOf_21 (fun v21 hE => ?_)
      refine lv_iload_n hx hb dX4_totalOf_24 rfl (lv_at hl 0 rfl) ?_
      refine a_TO K0 hK hE hZ dX4_totalOf_25 (fun v25 hE => ?_)
      refine lv_goto (tgt := 30) hx hb dX4_totalOf_26 (by decide) ?_
      exact end_i K0 hr hlocks hE hZ dX4_totalOf_30
def f_X1_totalOf_L4 : Nat → Nat → Int32 → Int32 → Int32 → PM Int32
  | 0, _, _, _, _ => fail
  | n9 + 1, u0, u1, u2, u3 => bnd (rdc 2 u0 1) (fun v6 => if v6 ≤ u3 then (rtn u2) else (if u0 < 2 then bnd (f_X1_findCar u0 u3) (fun v14 => if v14 < 60 then (bnd (rfc 60 v14 v14) (fun v26 => if v26 < 30 then (bnd (rfc 60 v14 v14) (fun v35 => if v35 < 30 then bnd (f_X4_totalOf v35 u1) (fun v39 => bnd (rtn (u2 + v39)) (fun w43 => f_X1_totalOf_L4 n9 u0 u1 w43 (u3 + (1 : Int32)))) else fail)) else (f_X1_totalOf_L4 n9 u0 u1 u2 (u3 + (1 : Int32))))) else (f_X1_totalOf_L4 n9 u0 u1 u2 (u3 + (1 : Int32)))) else fail))
def f_X1_totalOf (a0 : Nat) (a1 : Int32) : PM Int32 := f_X1_totalOf_L4 400 a0 a1 (0 : Int32) (0 : Int32)
theorem yd_X1_totalOf : yX1_totalOf.cls = RX1 ∧ yX1_totalOf.cls ≠ "java/lang/invoke/MethodHandle" ∧ yX1_totalOf.cls ≠ "java/lang/invoke/VarHandle" ∧ (parseMethodDescriptor yX1_totalOf.desc).map (fun d => d.parameters.length) = some 1 := by decide +kernel
set_option maxHeartbeats 4000000 in
set_option maxRecDepth 100000 in
theorem c_X1_totalOf (l : Launch) (D : va_G) (w : Wc) (aS : Nat → Nat) (sk sv : Nat) (A : Nat → Prop) (a0 : Nat) (a1 : Int32) : CT l yX1_totalOf cX1_totalOf 5 (some .int) 5 118 (PC D w A) (ENVC D w aS sk sv A) A [vr w.2.2.2.2 1 2 a0, .int a1] (f_X1_totalOf a0 a1) vI := by
  refine CT.ofW (by decide) [(0, vr w.2.2.2.2 1 2 a0), (1, .int a1)] (by simp [lv_args, vr_cat, vc_i, vc_j, vc_f, vc_d, vc_r, vc_n]) (by simp [lg_sl, vr_cat, vc_i, vc_j, vc_f, vc_d, vc_r, vc_n]) ?_
  intro S0 E0 R p e s m args below meth c ls hE hRf hRl hRc K0 hr hlocks hEV hA hZ hl
  have K0 : CallFix p m c cX1_totalOf 5 s args GW RX1 := K0
  have hx := K0.1
  have hb := K0.2.1
  have hown := K0.2.2.2.1
  have hg := K0.2.2.2.2
  have hK := hEV.1
  have hok : EVok (ENVC D w aS sk sv A) A := ENVC.ok
  have j4 : ∀ (n9 : Nat) (u0 : Nat) (u1 : Int32) (u2 : Int32) (u3 : Int32) (S : St) (H : Heap) (locs : List Loc) (cells slots : Nat) (ls : Array Slot), (f_X1_totalOf_L4 n9 u0 u1 u2 u3).1 S = some E0 → ZZ D 187 (adrC w) (celC w) A S0 s.heap S H locs cells slots → lv_has ls 5 [(0, vr w.2.2.2.2 1 2 u0), (1, .int u1), (2, .int u2), (3, .int u3)] → W p l e R s m args below meth c H locs cells slots (MQ below (QE E0 vI (PC D w A) A) args s (gN E0.2 7 0 - gN S0 7 0) (gN E0.2 3 0 - gN S0 3 0) A) (F0 m 4 ls []) := by
    intro n9
    induction n9 with
    | zero =>
      intro u0 u1 u2 u3 S H locs cells slots ls hE hZ hl
      rw [f_X1_totalOf_L4] at hE
      cases hE
    | succ n9 ih =>
      intro u0 u1 u2 u3 S H locs cells slots ls hE hZ hl
      rw [f_X1_totalOf_L4] at hE
      refine lv_iload_n hx hb dX1_totalOf_4 rfl (lv_at hl 3 rfl) ?_
      refine vr_aload_n hx hb dX1_totalOf_5 rfl (lv_at hl 0 rfl) ?_
      refine g_LN_7 K0 hK hE hZ q223 dX1_totalOf_6 (fun v6 hE => ?_)
      refine lv_icmp_ge (tgt := 50) hx hb dX1_totalOf_9 (by decide) (fun hc => ?_) (fun hc => ?_)
      · have hE := if_t hE hc
        refine lv_iload_n hx hb dX1_totalOf_50 rfl (lv_at hl 2 rfl) ?_
        exact end_i K0 hr hlocks hE hZ dX1_totalOf_51
      · have hE := if_f hE hc
        refine vr_aload_n hx hb dX1_totalOf_12 rfl (lv_at hl 0 rfl) ?_
        refine lv_iload_n hx hb dX1_totalOf_13 rfl (lv_at hl 3 rfl) ?_
        refine call_V (rest := []) K0 hK hok hEV hA (c_X1_findCar l D w aS sk sv A u0 u3) q465 q466 q467 q41 q468 yd_X1_findCar ⟨by omega, by omega⟩ hRc (ci := 3) rfl rfl (rc_LN w _) hE hZ hl.1 rfl (Nat.le_of_ble_eq_true rfl) dX1_totalOf_14 (fun v14 S H locs cells slots hE hZ => ?_)
        refine W.eq (g2 := F0 m 17 ls [vr w.2.2.2.2 37 60 v14]) rfl ?_
        refine vr_astore (lv' := [(4, vr w.2.2.2.2 37 60 v14), (0, vr w.2.2.2.2 1 2 u0), (1, .int u1), (2, .int u2), (3, .int u3)]) hx hb dX1_totalOf_17 hl (by decide) rfl (fun ls hl => ?_)
        refine vr_aload hx hb dX1_totalOf_19 (lv_at hl 0 rfl) ?_
        refine vr_ifnull (tgt := 44) hx hb dX1_totalOf_21 (by decide) (fun hc => ?_) (fun hc => ?_)
        · have hE := if_t hE hc
          refine vr_aload hx hb dX1_totalOf_24 (lv_at hl 0 rfl) ?_
          refine gN_CA_1 K0 hK hE hZ (nw17 hEV) dX1_totalOf_26 (fun v26 hE => ?_)
          refine vr_ifnull (tgt := 44) hx hb dX1_totalOf_29 (by decide) (fun hc => ?_) (fun hc => ?_)
          · have hE := if_t hE hc
            refine lv_iload_n hx hb dX1_totalOf_32 rfl (lv_at hl 3 rfl) ?_
            refine vr_aload hx hb dX1_totalOf_33 (lv_at hl 0 rfl) ?_
            refine gN_CA_1 K0 hK hE hZ (nw17 hEV) dX1_totalOf_35 (fun v35 hE => ?_)
            refine lv_iload_n hx hb dX1_totalOf_38 rfl (lv_at hl 2 rfl) ?_
            refine call_V (rest := [.int u2]) K0 hK hok hEV hA (c_X4_totalOf l D w aS sk sv A v35 u1) q1024 q1025 q1026 q45 q1027 yd_X4_totalOf ⟨by omega, by omega⟩ hRc (ci := 6) rfl rfl (rc_TR w _) hE hZ hl.1 rfl (Nat.le_of_ble_eq_true rfl) dX1_totalOf_39 (fun v39 S H locs cells slots hE hZ => ?_)
            refine W.eq (g2 := F0 m 42 ls [.int v39, .int u2]) rfl ?_
            refine lv_iadd hx hb dX1_totalOf_42 ?_
            refine let_i hE (fun w43 hE => ?_)
            refine lv_istore_n (i := 2) (lv' := [(2, .int w43), (4, vr w.2.2.2.2 37 60 v14), (0, vr w.2.2.2.2 1 2 u0), (1, .int u1), (3, .int u3)]) hx hb dX1_totalOf_43 rfl hl (by decide) rfl (fun ls hl => ?_)
            refine lv_iinc (v := (u3 + (1 : Int32))) (lv' := [(3, .int (u3 + (1 : Int32))), (2, .int w43), (4, vr w.2.2.2.2 37 60 v14), (0, vr w.2.2.2.2 1 2 u0), (1, .int u1)]) hx hb dX1_totalOf_44 hl (k := 4) rfl rfl (by decide) rfl (fun ls hl => ?_)
            refine lv_goto (tgt := 4) hx hb dX1_totalOf_47 (by decide) ?_
            exact ih u0 u1 w43 (u3 + (1 : Int32)) _ _ _ _ _ _ hE hZ (lv_sub hl [3, 4, 1, 0] rfl)
          · have hE := if_f hE hc
            refine lv_iinc (v := (u3 + (1 : Int32))) (lv' := [(3, .int (u3 + (1 : Int32))), (4, vr w.2.2.2.2 37 60 v14), (0, vr w.2.2.2.2 1 2 u0), (1, .int u1), (2, .int u2)]) hx hb dX1_totalOf_44 hl (k := 4) rfl rfl (by decide) rfl (fun ls hl => ?_)
            refine lv_goto (tgt := 4) hx hb dX1_totalOf_47 (by decide) ?_
            exact ih u0 u1 u2 (u3 + (1 : Int32)) _ _ _ _ _ _ hE hZ (lv_sub hl [2, 3, 4, 0] rfl)
        · have hE := if_f hE hc
          refine lv_iinc (v := (u3 + (1 : Int32))) (lv' := [(3, .int (u3 + (1 : Int32))), (4, vr w.2.2.2.2 37 60 v14), (0, vr w.2.2.2.2 1 2 u0), (1, .int u1), (2, .int u2)]) hx hb dX1_totalOf_44 hl (k := 4) rfl rfl (by decide) rfl (fun ls hl => ?_)
          refine lv_goto (tgt := 4) hx hb dX1_totalOf_47 (by decide) ?_
          exact ih u0 u1 u2 (u3 + (1 : Int32)) _ _ _ _ _ _ hE hZ (lv_sub hl [2, 3, 4, 0] rfl)
  unfold f_X1_totalOf at hE
  refine lv_iconst (v := (0)) hx hb dX1_totalOf_0 (by decide +kernel) ?_
  refine lv_istore_n (i := 2) (lv' := [(2, .int (0 : Int32)), (0, vr w.2.2.2.2 1 2 a0), (1, .int a1)]) hx hb dX1_totalOf_1 rfl hl (by decide) rfl (fun ls hl => ?_)
  refine lv_iconst (v := (0)) hx hb dX1_totalOf_2 (by decide +kernel) ?_
  refine lv_istore_n (i := 3) (lv' := [(3, .int (0 : Int32)), (2, .int (0 : Int32)), (0, vr w.2.2.2.2 1 2 a0), (1, .int a1)]) hx hb dX1_totalOf_3 rfl hl (by decide) rfl (fun ls hl => ?_)
  exact j4 400 a0 a1 (0 : Int32) (0 : Int32) _ _ _ _ _ _ hE hZ (lv_sub hl [2, 3, 1, 0] rfl)
