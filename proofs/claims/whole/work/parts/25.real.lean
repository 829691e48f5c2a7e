/-! part 25: the methods that answer a real number: a quotient that is no number is a failure of the program -/
abbrev vF : UInt32 → Option Value := fun r => some (.float r)
abbrev vG : UInt64 → Option Value := fun r => some (.double r)
section ENDF
variable {p : Program} {l : Launch} {e : Env} {R : Room} {s : State} {m : MethodId} {args : Array Value} {below : List Frame} {meth : Method} {c : Code} {H : Heap} {locs : List Loc} {cells slots : Nat}
variable {cc : ByteArray} {pc nL : Nat} {ls : Array Slot} {own : String} {S S0 : St} {D : va_G} {nW : Nat} {adr : St → Nat → Nat} {cel : St → Nat → va_E} {w : Wc} {A : Nat → Prop} {XC : String → State → State → Prop}
theorem end_f (K0 : CallFix p m c cc nL s args GW own) (hr : meth.sig.returnType = some .float) (hlocks : meth.locks = false) {E0 : UInt32 × St} {v : UInt32} (hE : (rtn v).1 S = some E0) (hZ : ZZ D nW adr cel A S0 s.heap S H locs cells slots) (hdg : decode cc pc = .ok (.freturn, 1)) :
    W p l e R s m args below meth c H locs cells slots (MQ below (QE E0 vF (PW D nW adr cel A) A) args s (gN E0.2 7 0 - gN S0 7 0) (gN E0.2 3 0 - gN S0 3 0) A) (F0 m pc ls [.float v]) := by
  obtain ⟨e1, e2, e3, e4⟩ := end_E (Qv := vF) hE (v := some (.float v)) rfl rfl hZ
  rw [← e2, ← e3]
  exact W.fret K0.1 K0.2.1 hr (fun t ht _ => e4 t ht) hZ.2.1.2.2 hdg hlocks
theorem endX_f (K0 : CallFix p m c cc nL s args GW own) (hr : meth.sig.returnType = some .float) (hlocks : meth.locks = false) {E0 : (UInt32 ⊕ String) × St} {v : UInt32} (hE : (rtX v).1 S = some E0) (hZ : ZZ D 187 (adrC w) (celC w) A S0 s.heap S H locs cells slots) (hdg : decode cc pc = .ok (.freturn, 1)) :
    W p l e R s m args below meth c H locs cells slots (vx_MQ below (QX E0 vF D w A) XC args s (gN E0.2 7 0 - gN S0 7 0) (gN E0.2 3 0 - gN S0 3 0) A) (F0 m pc ls [.float v]) := by
  obtain ⟨e2, e3, e4⟩ := endX (args := args) (val := vF) hE hZ
  rw [← e2, ← e3]
  exact vx_ret (W.fret K0.1 K0.2.1 hr (fun t ht _ => e4 t ht) hZ.2.1.2.2 hdg hlocks)
theorem end_d (K0 : CallFix p m c cc nL s args GW own) (hr : meth.sig.returnType = some .double) (hlocks : meth.locks = false) {E0 : UInt64 × St} {v : UInt64} (hE : (rtn v).1 S = some E0) (hZ : ZZ D nW adr cel A S0 s.heap S H locs cells slots) (hdg : decode cc pc = .ok (.dreturn, 1)) :
    W p l e R s m args below meth c H locs cells slots (MQ below (QE E0 vG (PW D nW adr cel A) A) args s (gN E0.2 7 0 - gN S0 7 0) (gN E0.2 3 0 - gN S0 3 0) A) (F0 m pc ls [.double v]) := by
  obtain ⟨e1, e2, e3, e4⟩ := end_E (Qv := vG) hE (v := some (.double v)) rfl rfl hZ
  rw [← e2, ← e3]
  exact W.dret K0.1 K0.2.1 hr (fun t ht _ => e4 t ht) hZ.2.1.2.2 hdg hlocks
theorem endX_d (K0 : CallFix p m c cc nL s args GW own) (hr : meth.sig.returnType = some .double) (hlocks : meth.locks = false) {E0 : (UInt64 ⊕ String) × St} {v : UInt64} (hE : (rtX v).1 S = some E0) (hZ : ZZ D 187 (adrC w) (celC w) A S0 s.heap S H locs cells slots) (hdg : decode cc pc = .ok (.dreturn, 1)) :
    W p l e R s m args below meth c H locs cells slots (vx_MQ below (QX E0 vG D w A) XC args s (gN E0.2 7 0 - gN S0 7 0) (gN E0.2 3 0 - gN S0 3 0) A) (F0 m pc ls [.double v]) := by
  obtain ⟨e2, e3, e4⟩ := endX (args := args) (val := vG) hE hZ
  rw [← e2, ← e3]
  exact vx_ret (W.dret K0.1 K0.2.1 hr (fun t ht _ => e4 t ht) hZ.2.1.2.2 hdg hlocks)
end ENDF
def f_X5_lackShare (a0 : Nat) : PM (UInt32 ⊕ String) := bnd (rfc 1 a0 0) (fun v1 => if v1 < 2 then bnd (f_X1_totalOf v1 (45 : Int32)) (fun v6 => bnd (rfc 1 a0 0) (fun v11 => if v11 < 2 then bnd (f_X1_totalOf v11 (43 : Int32)) (fun v16 => bnd (rfc 1 a0 0) (fun v22 => if v22 < 2 then bnd (f_X1_totalOf v22 (46 : Int32)) (fun v27 => bnd (rtn ((v16 + v6) + v27)) (fun w31 => if w31 = 0 then (thr "java/lang/ArithmeticException") else (if (FP.fdiv (FP.i2f v6) (FP.i2f w31)) &&& (2147483647 : UInt32) ≤ 2139095040 then (rtX (FP.fdiv (FP.i2f v6) (FP.i2f w31))) else fail))) else fail)) else fail)) else fail)
theorem yd_X5_lackShare : yX5_lackShare.cls = RX5 ∧ yX5_lackShare.cls ≠ "java/lang/invoke/MethodHandle" ∧ yX5_lackShare.cls ≠ "java/lang/invoke/VarHandle" ∧ (parseMethodDescriptor yX5_lackShare.desc).map (fun d => d.parameters.length) = some 0 := by decide +kernel
set_option maxHeartbeats 4000000 in
set_option maxRecDepth 100000 in
theorem c_X5_lackShare (l : Launch) (hfl : l.stackTraces = false) (D : va_G) (w : Wc) (aS : Nat → Nat) (sk sv : Nat) (A : Nat → Prop) (a0 : Nat) : CX l yX5_lackShare cX5_lackShare 3 (some .float) 6 142 D w (ENVC D w aS sk sv A) A [vr w.2.2.2.2 0 1 a0] (f_X5_lackShare a0) vF := by
  refine CX.ofW (by decide) [(0, vr w.2.2.2.2 0 1 a0)] (by simp [lv_args, vr_cat, vc_i, vc_j, vc_f, vc_d, vc_r, vc_n]) (by simp [lg_sl, vr_cat, vc_i, vc_j, vc_f, vc_d, vc_r, vc_n]) ?_
  intro S0 E0 R p e s m args below meth c ls hE hRf hRl hRc K0 hr hlocks hout hEV hA hZ hl
  have K0 : CallFix p m c cX5_lackShare 3 s args GW RX5 := K0
  have hx := K0.1
  have hb := K0.2.1
  have hown := K0.2.2.2.1
  have hg := K0.2.2.2.2
  have hK := hEV.1
  have hok : EVok (ENVC D w aS sk sv A) A := ENVC.ok
  unfold f_X5_lackShare at hE
  refine vr_aload_n hx hb dX5_lackShare_0 rfl (lv_at hl 0 rfl) ?_
  refine g_LC_0 K0 hK hE hZ q250 dX5_lackShare_1 (fun v1 hE => ?_)
  refine lv_bipush (v := (45)) hx hb dX5_lackShare_4 (by decide +kernel) ?_
  refine call_V (rest := []) K0 hK hok hEV hA (c_X1_totalOf l D w aS sk sv A v1 (45 : Int32)) q1020 q1021 q1022 q41 q1023 yd_X1_totalOf ⟨by omega, by omega⟩ hRc (ci := 3) rfl rfl (rc_LN w _) hE hZ hl.1 rfl (Nat.le_of_ble_eq_true rfl) dX5_lackShare_6 (fun v6 S H locs cells slots hE hZ => ?_)
  refine W.eq (g2 := F0 m 9 ls [.int v6]) rfl ?_
  refine lv_istore_n (i := 1) (lv' := [(1, .int v6), (0, vr w.2.2.2.2 0 1 a0)]) hx hb dX5_lackShare_9 rfl hl (by decide) (by simp [vr_cat, vc_i, vc_j, vc_f, vc_d, vc_r, vc_n]) (fun ls hl => ?_)
  refine vr_aload_n hx hb dX5_lackShare_10 rfl (lv_at hl 1 rfl) ?_
  refine g_LC_0 K0 hK hE hZ q250 dX5_lackShare_11 (fun v11 hE => ?_)
  refine lv_bipush (v := (43)) hx hb dX5_lackShare_14 (by decide +kernel) ?_
  refine call_V (rest := []) K0 hK hok hEV hA (c_X1_totalOf l D w aS sk sv A v11 (43 : Int32)) q1020 q1021 q1022 q41 q1023 yd_X1_totalOf ⟨by omega, by omega⟩ hRc (ci := 3) rfl rfl (rc_LN w _) hE hZ hl.1 rfl (Nat.le_of_ble_eq_true rfl) dX5_lackShare_16 (fun v16 S H locs cells slots hE hZ => ?_)
  refine W.eq (g2 := F0 m 19 ls [.int v16]) rfl ?_
  refine lv_iload_n hx hb dX5_lackShare_19 rfl (lv_at hl 0 rfl) ?_
  refine lv_iadd hx hb dX5_lackShare_20 ?_
  refine vr_aload_n hx hb dX5_lackShare_21 rfl (lv_at hl 1 rfl) ?_
  refine g_LC_0 K0 hK hE hZ q250 dX5_lackShare_22 (fun v22 hE => ?_)
  refine lv_bipush (v := (46)) hx hb dX5_lackShare_25 (by decide +kernel) ?_
  refine call_V (rest := [.int (v16 + v6)]) K0 hK hok hEV hA (c_X1_totalOf l D w aS sk sv A v22 (46 : Int32)) q1020 q1021 q1022 q41 q1023 yd_X1_totalOf ⟨by omega, by omega⟩ hRc (ci := 3) rfl rfl (rc_LN w _) hE hZ hl.1 rfl (Nat.le_of_ble_eq_true rfl) dX5_lackShare_27 (fun v27 S H locs cells slots hE hZ => ?_)
  refine W.eq (g2 := F0 m 30 ls [.int v27, .int (v16 + v6)]) rfl ?_
  refine lv_iadd hx hb dX5_lackShare_30 ?_
  refine let_i hE (fun w31 hE => ?_)
  refine lv_istore_n (i := 2) (lv' := [(2, .int w31), (1, .int v6), (0, vr w.2.2.2.2 0 1 a0)]) hx hb dX5_lackShare_31 rfl hl (by decide) rfl (fun ls hl => ?_)
  refine lv_iload_n hx hb dX5_lackShare_32 rfl (lv_at hl 0 rfl) ?_
  refine lv_if_ne (tgt := 47) hx hb dX5_lackShare_33 (by decide) (fun hc => ?_) (fun hc => ?_)
  · have hE := if_f hE hc
    refine lv_iload_n hx hb dX5_lackShare_47 rfl (lv_at hl 1 rfl) ?_
    refine lv_i2f hx hb dX5_lackShare_48 ?_
    refine lv_iload_n hx hb dX5_lackShare_49 rfl (lv_at hl 0 rfl) ?_
    refine lv_i2f hx hb dX5_lackShare_50 ?_
    obtain ⟨hc, hE⟩ := if_ok hE
    refine lv_fdiv hx hb dX5_lackShare_51 hc ?_
    exact endX_f K0 hr hlocks hE hZ dX5_lackShare_52
  · have hE := if_t hE hc
    exact thr_SW K0 hfl hEV (i := 26) (by decide +kernel) (by decide +kernel) q1049 q63 rfl (at_ArithmeticException hEV hg) atg_ArithmeticException hE hZ hRc hl.1 dX5_lackShare_36 dX5_lackShare_39 dX5_lackShare_40 dX5_lackShare_43 dX5_lackShare_46 hout (by rw [hRf]; decide) (by rw [hRl]; simp [vr_cat, vc_i, vc_j, vc_f, vc_d, vc_r, vc_n]) hlocks
def f_X5_meanTime (a0 : Nat) : PM (UInt64 ⊕ String) := bnd (rfc 1 a0 0) (fun v1 => bnd (rfc 2 v1 (3 * v1 + 2)) (fun v4 => bnd (rdc 6 v4 5) (fun v7 => if v7 = 0 then (thr "java/lang/ArithmeticException") else (bnd (rfc 1 a0 0) (fun v27 => if v27 < 2 then bnd (f_X1_ticksOfGone v27) (fun v30 => if (FP.ddiv (FP.l2d v30) (FP.i2d v7)) &&& (9223372036854775807 : UInt64) ≤ 9218868437227405312 then (rtX (FP.ddiv (FP.l2d v30) (FP.i2d v7))) else fail) else fail)))))
theorem yd_X5_meanTime : yX5_meanTime.cls = RX5 ∧ yX5_meanTime.cls ≠ "java/lang/invoke/MethodHandle" ∧ yX5_meanTime.cls ≠ "java/lang/invoke/VarHandle" ∧ (parseMethodDescriptor yX5_meanTime.desc).map (fun d => d.parameters.length) = some 0 := by decide +kernel
set_option maxHeartbeats 4000000 in
set_option maxRecDepth 100000 in
theorem c_X5_meanTime (l : Launch) (hfl : l.stackTraces = false) (D : va_G) (w : Wc) (aS : Nat → Nat) (sk sv : Nat) (A : Nat → Prop) (a0 : Nat) : CX l yX5_meanTime cX5_meanTime 2 (some .double) 6 100 D w (ENVC D w aS sk sv A) A [vr w.2.2.2.2 0 1 a0] (f_X5_meanTime a0) vG := by
  refine CX.ofW (by decide) [(0, vr w.2.2.2.2 0 1 a0)] (by simp [lv_args, vr_cat, vc_i, vc_j, vc_f, vc_d, vc_r, vc_n]) (by simp [lg_sl, vr_cat, vc_i, vc_j, vc_f, vc_d, vc_r, vc_n]) ?_
  intro S0 E0 R p e s m args below meth c ls hE hRf hRl hRc K0 hr hlocks hout hEV hA hZ hl
  have K0 : CallFix p m c cX5_meanTime 2 s args GW RX5 := K0
  have hx := K0.1
  have hb := K0.2.1
  have hown := K0.2.2.2.1
  have hg := K0.2.2.2.2
  have hK := hEV.1
  have hok : EVok (ENVC D w aS sk sv A) A := ENVC.ok
  unfold f_X5_meanTime at hE
  refine vr_aload_n hx hb dX5_meanTime_0 rfl (lv_at hl 0 rfl) ?_
  refine g_LC_0 K0 hK hE hZ q250 dX5_meanTime_1 (fun v1 hE => ?_)
  refine gN_LN_5 K0 hK hE hZ (nw35 hEV) dX5_meanTime_4 (fun v4 hE => ?_)
  refine gN_RO_1 K0 hK hE hZ (nw1 hEV) dX5_meanTime_7 (fun v7 hE => ?_)
  refine lv_istore_n (i := 1) (lv' := [(1, .int v7), (0, vr w.2.2.2.2 0 1 a0)]) hx hb dX5_meanTime_10 rfl hl (by decide) (by simp [vr_cat, vc_i, vc_j, vc_f, vc_d, vc_r, vc_n]) (fun ls hl => ?_)
  refine lv_iload_n hx hb dX5_meanTime_11 rfl (lv_at hl 0 rfl) ?_
  refine lv_if_ne (tgt := 26) hx hb dX5_meanTime_12 (by decide) (fun hc => ?_) (fun hc => ?_)
  · have hE := if_f hE hc
    refine vr_aload_n hx hb dX5_meanTime_26 rfl (lv_at hl 1 rfl) ?_
    refine g_LC_0 K0 hK hE hZ q250 dX5_meanTime_27 (fun v27 hE => ?_)
    refine call_V (rest := []) K0 hK hok hEV hA (c_X1_ticksOfGone l D w aS sk sv A v27) q1060 q1061 q1062 q41 q1063 yd_X1_ticksOfGone ⟨by omega, by omega⟩ hRc (ci := 3) rfl rfl (rc_LN w _) hE hZ hl.1 rfl (Nat.le_of_ble_eq_true rfl) dX5_meanTime_30 (fun v30 S H locs cells slots hE hZ => ?_)
    refine W.eq (g2 := F0 m 33 ls [.long v30]) rfl ?_
    refine lv_l2d hx hb dX5_meanTime_33 ?_
    refine lv_iload_n hx hb dX5_meanTime_34 rfl (lv_at hl 0 rfl) ?_
    refine lv_i2d hx hb dX5_meanTime_35 ?_
    obtain ⟨hc, hE⟩ := if_ok hE
    refine lv_ddiv hx hb dX5_meanTime_36 hc ?_
    exact endX_d K0 hr hlocks hE hZ dX5_meanTime_37
  · have hE := if_t hE hc
    exact thr_SW K0 hfl hEV (i := 27) (by decide +kernel) (by decide +kernel) q1049 q63 rfl (at_ArithmeticException hEV hg) atg_ArithmeticException hE hZ hRc hl.1 dX5_meanTime_15 dX5_meanTime_18 dX5_meanTime_19 dX5_meanTime_22 dX5_meanTime_25 hout (by rw [hRf]; decide) (by rw [hRl]; simp [vr_cat, vc_i, vc_j, vc_f, vc_d, vc_r, vc_n]) hlocks
def f_X6_lackShare_J33 (u1 : Int32) (u2 : Int32) (z0 : Int32) : PM UInt32 := bnd (wrI 5 0 0 z0) (fun _ => if u2 = 0 then (rtn FP.fconst0) else (if (FP.fdiv (FP.i2f u1) (FP.i2f u2)) &&& (2147483647 : UInt32) ≤ 2139095040 then (rtn (FP.fdiv (FP.i2f u1) (FP.i2f u2))) else fail))
def f_X6_lackShare  : PM UInt32 := bnd (f_X6_count (45 : Int32)) (fun v3 => bnd (f_X6_count (43 : Int32)) (fun v11 => bnd (f_X6_count (46 : Int32)) (fun v18 => bnd (rtn ((v3 + v11) + v18)) (fun w22 => if w22 = 0 then (f_X6_lackShare_J33 v3 w22 (1 : Int32)) else (f_X6_lackShare_J33 v3 w22 (0 : Int32))))))
theorem yd_X6_lackShare : yX6_lackShare.cls = RX6 ∧ yX6_lackShare.cls ≠ "java/lang/invoke/MethodHandle" ∧ yX6_lackShare.cls ≠ "java/lang/invoke/VarHandle" ∧ (parseMethodDescriptor yX6_lackShare.desc).map (fun d => d.parameters.length) = some 0 := by decide +kernel
set_option maxHeartbeats 4000000 in
set_option maxRecDepth 100000 in
theorem c_X6_lackShare (l : Launch) (D : va_G) (w : Wm) (A : Nat → Prop) : CT l yX6_lackShare cX6_lackShare 3 (some .float) 1 23 (PMo D w A) (ENVM D w) A [.ref (w.2.2 0)] (f_X6_lackShare ) vF := by
  refine CT.ofW (by decide) [(0, .ref (w.2.2 0))] (by simp [lv_args, vr_cat, vc_i, vc_j, vc_f, vc_d, vc_r, vc_n]) (by simp [lg_sl, vr_cat, vc_i, vc_j, vc_f, vc_d, vc_r, vc_n]) ?_
  intro S0 E0 R p e s m args below meth c ls hE hRf hRl hRc K0 hr hlocks hEV hA hZ hl
  have K0 : CallFix p m c cX6_lackShare 3 s args GW RX6 := K0
  have hx := K0.1
  have hb := K0.2.1
  have hown := K0.2.2.2.1
  have hg := K0.2.2.2.2
  have hK := hEV
  have hok : EVok (ENVM D w) A := ENVM.ok
  have j33 : ∀ (u1 : Int32) (u2 : Int32) (z0 : Int32) (S : St) (H : Heap) (locs : List Loc) (cells slots : Nat) (ls : Array Slot), (f_X6_lackShare_J33 u1 u2 z0).1 S = some E0 → ZZ D 14 (adrM w) (celM w) A S0 s.heap S H locs cells slots → lv_has ls 3 [(1, .int u1), (2, .int u2)] → W p l e R s m args below meth c H locs cells slots (MQ below (QE E0 vF (PMo D w A) A) args s (gN E0.2 7 0 - gN S0 7 0) (gN E0.2 3 0 - gN S0 3 0) A) (F0 m 33 ls [.int z0, .ref (w.2.2 0)]) := by
    intro u1 u2 z0 S H locs cells slots ls hE hZ hl
    unfold f_X6_lackShare_J33 at hE
    refine mp_19 K0 hK hE (nW := 14) (by omega) hZ q1089 dX6_lackShare_33 (fun S H locs hE hZ => ?_)
    refine lv_iload_n hx hb dX6_lackShare_36 rfl (lv_at hl 1 rfl) ?_
    refine lv_if_ne (tgt := 44) hx hb dX6_lackShare_37 (by decide) (fun hc => ?_) (fun hc => ?_)
    · have hE := if_f hE hc
      refine lv_iload_n hx hb dX6_lackShare_44 rfl (lv_at hl 0 rfl) ?_
      refine lv_i2f hx hb dX6_lackShare_45 ?_
      refine lv_iload_n hx hb dX6_lackShare_46 rfl (lv_at hl 1 rfl) ?_
      refine lv_i2f hx hb dX6_lackShare_47 ?_
      obtain ⟨hc, hE⟩ := if_ok hE
      refine lv_fdiv hx hb dX6_lackShare_48 hc ?_
      exact end_f K0 hr hlocks hE hZ dX6_lackShare_49
    · have hE := if_t hE hc
      refine lv_fconst0 hx hb dX6_lackShare_40 ?_
      refine lv_goto (tgt := 49) hx hb dX6_lackShare_41 (by decide) ?_
      exact end_f K0 hr hlocks hE hZ dX6_lackShare_49
  unfold f_X6_lackShare at hE
  refine lv_aload_n hx hb dX6_lackShare_0 rfl (lv_at hl 0 rfl) ?_
  refine lv_bipush (v := (45)) hx hb dX6_lackShare_1 (by decide +kernel) ?_
  refine call_VS (rest := []) K0 hok hEV hA (c_X6_count l D w A (45 : Int32)) q1356 q1358 q38 q46 q1359 yd_X6_count ⟨by omega, by omega⟩ hRc (rc_MO hK (nW := 14) (by omega) hZ) hE hZ hl.1 rfl (Nat.le_of_ble_eq_true rfl) dX6_lackShare_3 (fun v3 S H locs cells slots hE hZ => ?_)
  refine W.eq (g2 := F0 m 6 ls [.int v3]) rfl ?_
  refine lv_istore_n (i := 1) (lv' := [(1, .int v3), (0, .ref (w.2.2 0))]) hx hb dX6_lackShare_6 rfl hl (by decide) rfl (fun ls hl => ?_)
  refine lv_iload_n hx hb dX6_lackShare_7 rfl (lv_at hl 0 rfl) ?_
  refine lv_aload_n hx hb dX6_lackShare_8 rfl (lv_at hl 1 rfl) ?_
  refine lv_bipush (v := (43)) hx hb dX6_lackShare_9 (by decide +kernel) ?_
  refine call_VS (rest := [.int v3]) K0 hok hEV hA (c_X6_count l D w A (43 : Int32)) q1356 q1358 q38 q46 q1359 yd_X6_count ⟨by omega, by omega⟩ hRc (rc_MO hK (nW := 14) (by omega) hZ) hE hZ hl.1 rfl (Nat.le_of_ble_eq_true rfl) dX6_lackShare_11 (fun v11 S H locs cells slots hE hZ => ?_)
  refine W.eq (g2 := F0 m 14 ls [.int v11, .int v3]) rfl ?_
  refine lv_iadd hx hb dX6_lackShare_14 ?_
  refine lv_aload_n hx hb dX6_lackShare_15 rfl (lv_at hl 1 rfl) ?_
  refine lv_bipush (v := (46)) hx hb dX6_lackShare_16 (by decide +kernel) ?_
  refine call_VS (rest := [.int (v3 + v11)]) K0 hok hEV hA (c_X6_count l D w A (46 : Int32)) q1356 q1358 q38 q46 q1359 yd_X6_count ⟨by omega, by omega⟩ hRc (rc_MO hK (nW := 14) (by omega) hZ) hE hZ hl.1 rfl (Nat.le_of_ble_eq_true rfl) dX6_lackShare_18 (fun v18 S H locs cells slots hE hZ => ?_)
  refine W.eq (g2 := F0 m 21 ls [.int v18, .int (v3 + v11)]) rfl ?_
  refine lv_iadd hx hb dX6_lackShare_21 ?_
  refine let_i hE (fun w22 hE => ?_)
  refine lv_istore_n (i := 2) (lv' := [(2, .int w22), (1, .int v3), (0, .ref (w.2.2 0))]) hx hb dX6_lackShare_22 rfl hl (by decide) rfl (fun ls hl => ?_)
  refine lv_aload_n hx hb dX6_lackShare_23 rfl (lv_at hl 2 rfl) ?_
  refine lv_iload_n hx hb dX6_lackShare_24 rfl (lv_at hl 0 rfl) ?_
  refine lv_if_ne (tgt := 32) hx hb dX6_lackShare_25 (by decide) (fun hc => ?_) (fun hc => ?_)
  · have hE := if_f hE hc
    refine lv_iconst (v := (0)) hx hb dX6_lackShare_32 (by decide +kernel) ?_
    exact j33 v3 w22 (0 : Int32) _ _ _ _ _ _ hE hZ (lv_sub hl [1, 0] rfl)
  · have hE := if_t hE hc
    refine lv_iconst (v := (1)) hx hb dX6_lackShare_28 (by decide +kernel) ?_
    refine lv_goto (tgt := 33) hx hb dX6_lackShare_29 (by decide) ?_
    exact j33 v3 w22 (1 : Int32) _ _ _ _ _ _ hE hZ (lv_sub hl [1, 0] rfl)
def f_X6_meanTime_L4 : Nat → Int32 → Int32 → PM UInt64
  | 0, _, _ => fail
  | n9 + 1, u1, u2 => bnd (mld 20 237 (235 : Int32)) (fun v12 => if v12 ≤ u2 then (bnd (mld 20 237 (235 : Int32)) (fun v57 => if v57 = 0 then (bnd (wrI 5 0 0 (1 : Int32)) (fun _ => bnd (rdI 5 0 0) (fun v70 => if v70 = 0 then (bnd (mld 20 237 (235 : Int32)) (fun v85 => if (FP.ddiv (FP.i2d u1) (FP.i2d v85)) &&& (9223372036854775807 : UInt64) ≤ 9218868437227405312 then (rtn (FP.ddiv (FP.i2d u1) (FP.i2d v85))) else fail)) else (rtn FP.dconst0)))) else (bnd (wrI 5 0 0 (0 : Int32)) (fun _ => bnd (rdI 5 0 0) (fun v70 => if v70 = 0 then (bnd (mld 20 237 (235 : Int32)) (fun v85 => if (FP.ddiv (FP.i2d u1) (FP.i2d v85)) &&& (9223372036854775807 : UInt64) ≤ 9218868437227405312 then (rtn (FP.ddiv (FP.i2d u1) (FP.i2d v85))) else fail)) else (rtn FP.dconst0)))))) else (bnd (mld 20 237 ((202 : Int32) + u2)) (fun v25 => bnd (mld 18 30 v25) (fun v33 => bnd (mld 17 30 v25) (fun v39 => bnd (rtn (u1 + (v33 - v39))) (fun w42 => f_X6_meanTime_L4 n9 w42 (u2 + (1 : Int32))))))))
def f_X6_meanTime  : PM UInt64 := f_X6_meanTime_L4 400 (0 : Int32) (0 : Int32)
theorem yd_X6_meanTime : yX6_meanTime.cls = RX6 ∧ yX6_meanTime.cls ≠ "java/lang/invoke/MethodHandle" ∧ yX6_meanTime.cls ≠ "java/lang/invoke/VarHandle" ∧ (parseMethodDescriptor yX6_meanTime.desc).map (fun d => d.parameters.length) = some 0 := by decide +kernel
set_option maxHeartbeats 4000000 in
set_option maxRecDepth 100000 in
theorem c_X6_meanTime (l : Launch) (D : va_G) (w : Wm) (A : Nat → Prop) : CT l yX6_meanTime cX6_meanTime 4 (some .double) 0 0 (PMo D w A) (ENVM D w) A [.ref (w.2.2 0)] (f_X6_meanTime ) vG := by
  refine CT.ofW (by decide) [(0, .ref (w.2.2 0))] (by simp [lv_args, vr_cat, vc_i, vc_j, vc_f, vc_d, vc_r, vc_n]) (by simp [lg_sl, vr_cat, vc_i, vc_j, vc_f, vc_d, vc_r, vc_n]) ?_
  intro S0 E0 R p e s m args below meth c ls hE hRf hRl hRc K0 hr hlocks hEV hA hZ hl
  have K0 : CallFix p m c cX6_meanTime 4 s args GW RX6 := K0
  have hx := K0.1
  have hb := K0.2.1
  have hown := K0.2.2.2.1
  have hg := K0.2.2.2.2
  have hK := hEV
  have hok : EVok (ENVM D w) A := ENVM.ok
  have j4 : ∀ (n9 : Nat) (u1 : Int32) (u2 : Int32) (S : St) (H : Heap) (locs : List Loc) (cells slots : Nat) (ls : Array Slot), (f_X6_meanTime_L4 n9 u1 u2).1 S = some E0 → ZZ D 14 (adrM w) (celM w) A S0 s.heap S H locs cells slots → lv_has ls 4 [(0, .ref (w.2.2 0)), (1, .int u1), (2, .int u2)] → W p l e R s m args below meth c H locs cells slots (MQ below (QE E0 vG (PMo D w A) A) args s (gN E0.2 7 0 - gN S0 7 0) (gN E0.2 3 0 - gN S0 3 0) A) (F0 m 4 ls []) := by
    intro n9
    induction n9 with
    | zero =>
      intro u1 u2 S H locs cells slots ls hE hZ hl
      rw [f_X6_meanTime_L4] at hE
      cases hE
    | succ n9 ih =>
      intro u1 u2 S H locs cells slots ls hE hZ hl
      rw [f_X6_meanTime_L4] at hE
      refine lv_iload_n hx hb dX6_meanTime_4 rfl (lv_at hl 2 rfl) ?_
      refine lv_aload_n hx hb dX6_meanTime_5 rfl (lv_at hl 0 rfl) ?_
      refine mg_12 K0 hK (nW := 14) (by omega) hZ q1082 dX6_meanTime_6 ?_
      refine lv_sipush (v := (235)) hx hb dX6_meanTime_9 (by decide +kernel) ?_
      refine ma_20 K0 hK hE (nW := 14) (by omega) hZ dX6_meanTime_12 (fun v12 hE => ?_)
      refine lv_icmp_ge (tgt := 49) hx hb dX6_meanTime_13 (by decide) (fun hc => ?_) (fun hc => ?_)
      · have hE := if_t hE hc
        refine lv_aload_n hx hb dX6_meanTime_49 rfl (lv_at hl 0 rfl) ?_
        refine lv_aload_n hx hb dX6_meanTime_50 rfl (lv_at hl 0 rfl) ?_
        refine mg_12 K0 hK (nW := 14) (by omega) hZ q1082 dX6_meanTime_51 ?_
        refine lv_sipush (v := (235)) hx hb dX6_meanTime_54 (by decide +kernel) ?_
        refine ma_20 K0 hK hE (nW := 14) (by omega) hZ dX6_meanTime_57 (fun v57 hE => ?_)
        refine lv_if_ne (tgt := 65) hx hb dX6_meanTime_58 (by decide) (fun hc => ?_) (fun hc => ?_)
        · have hE := if_f hE hc
          refine lv_iconst (v := (0)) hx hb dX6_meanTime_65 (by decide +kernel) ?_
          refine mp_19 K0 hK hE (nW := 14) (by omega) hZ q1089 dX6_meanTime_66 (fun S H locs hE hZ => ?_)
          refine lv_aload_n hx hb dX6_meanTime_69 rfl (lv_at hl 0 rfl) ?_
          refine mg_19 K0 hK hE (nW := 14) (by omega) hZ q1089 dX6_meanTime_70 (fun v70 hE => ?_)
          refine lv_if_ne (tgt := 91) hx hb dX6_meanTime_73 (by decide) (fun hc => ?_) (fun hc => ?_)
          · have hE := if_f hE hc
            refine lv_dconst0 hx hb dX6_meanTime_91 ?_
            exact end_d K0 hr hlocks hE hZ dX6_meanTime_92
          · have hE := if_t hE hc
            refine lv_iload_n hx hb dX6_meanTime_76 rfl (lv_at hl 1 rfl) ?_
            refine lv_i2d hx hb dX6_meanTime_77 ?_
            refine lv_aload_n hx hb dX6_meanTime_78 rfl (lv_at hl 0 rfl) ?_
            refine mg_12 K0 hK (nW := 14) (by omega) hZ q1082 dX6_meanTime_79 ?_
            refine lv_sipush (v := (235)) hx hb dX6_meanTime_82 (by decide +kernel) ?_
            refine ma_20 K0 hK hE (nW := 14) (by omega) hZ dX6_meanTime_85 (fun v85 hE => ?_)
            refine lv_i2d hx hb dX6_meanTime_86 ?_
            obtain ⟨hc, hE⟩ := if_ok hE
            refine lv_ddiv hx hb dX6_meanTime_87 hc ?_
            refine lv_goto (tgt := 92) hx hb dX6_meanTime_88 (by decide) ?_
            exact end_d K0 hr hlocks hE hZ dX6_meanTime_92
        · have hE := if_t hE hc
          refine lv_iconst (v := (1)) hx hb dX6_meanTime_61 (by decide +kernel) ?_
          refine lv_goto (tgt := 66) hx hb dX6_meanTime_62 (by decide) ?_
          refine mp_19 K0 hK hE (nW := 14) (by omega) hZ q1089 dX6_meanTime_66 (fun S H locs hE hZ => ?_)
          refine lv_aload_n hx hb dX6_meanTime_69 rfl (lv_at hl 0 rfl) ?_
          refine mg_19 K0 hK hE (nW := 14) (by omega) hZ q1089 dX6_meanTime_70 (fun v70 hE => ?_)
          refine lv_if_ne (tgt := 91) hx hb dX6_meanTime_73 (by decide) (fun hc => ?_) (fun hc => ?_)
          · have hE := if_f hE hc
            refine lv_dconst0 hx hb dX6_meanTime_91 ?_
            exact end_d K0 hr hlocks hE hZ dX6_meanTime_92
          · have hE := if_t hE hc
            refine lv_iload_n hx hb dX6_meanTime_76 rfl (lv_at hl 1 rfl) ?_
            refine lv_i2d hx hb dX6_meanTime_77 ?_
            refine lv_aload_n hx hb dX6_meanTime_78 rfl (lv_at hl 0 rfl) ?_
            refine mg_12 K0 hK (nW := 14) (by omega) hZ q1082 dX6_meanTime_79 ?_
            refine lv_sipush (v := (235)) hx hb dX6_meanTime_82 (by decide +kernel) ?_
            refine ma_20 K0 hK hE (nW := 14) (by omega) hZ dX6_meanTime_85 (fun v85 hE => ?_)
            refine lv_i2d hx hb dX6_meanTime_86 ?_
            obtain ⟨hc, hE⟩ := if_ok hE
            refine lv_ddiv hx hb dX6_meanTime_87 hc ?_
            refine lv_goto (tgt := 92) hx hb dX6_meanTime_88 (by decide) ?_
            exact end_d K0 hr hlocks hE hZ dX6_meanTime_92
      · have hE := if_f hE hc
        refine lv_aload_n hx hb dX6_meanTime_16 rfl (lv_at hl 0 rfl) ?_
        refine mg_12 K0 hK (nW := 14) (by omega) hZ q1082 dX6_meanTime_17 ?_
        refine lv_sipush (v := (202)) hx hb dX6_meanTime_20 (by decide +kernel) ?_
        refine lv_iload_n hx hb dX6_meanTime_23 rfl (lv_at hl 2 rfl) ?_
        refine lv_iadd hx hb dX6_meanTime_24 ?_
        refine ma_20 K0 hK hE (nW := 14) (by omega) hZ dX6_meanTime_25 (fun v25 hE => ?_)
        refine lv_istore_n (i := 3) (lv' := [(3, .int v25), (0, .ref (w.2.2 0)), (1, .int u1), (2, .int u2)]) hx hb dX6_meanTime_26 rfl hl (by decide) rfl (fun ls hl => ?_)
        refine lv_iload_n hx hb dX6_meanTime_27 rfl (lv_at hl 2 rfl) ?_
        refine lv_aload_n hx hb dX6_meanTime_28 rfl (lv_at hl 1 rfl) ?_
        refine mg_9 K0 hK (nW := 14) (by omega) hZ q1079 dX6_meanTime_29 ?_
        refine lv_iload_n hx hb dX6_meanTime_32 rfl (lv_at hl 0 rfl) ?_
        refine ma_18 K0 hK hE (nW := 14) (by omega) hZ dX6_meanTime_33 (fun v33 hE => ?_)
        refine lv_aload_n hx hb dX6_meanTime_34 rfl (lv_at hl 1 rfl) ?_
        refine mg_8 K0 hK (nW := 14) (by omega) hZ q1078 dX6_meanTime_35 ?_
        refine lv_iload_n hx hb dX6_meanTime_38 rfl (lv_at hl 0 rfl) ?_
        refine ma_17 K0 hK hE (nW := 14) (by omega) hZ dX6_meanTime_39 (fun v39 hE => ?_)
        refine lv_isub hx hb dX6_meanTime_40 ?_
        refine lv_iadd hx hb dX6_meanTime_41 ?_
        refine let_i hE (fun w42 hE => ?_)
        refine lv_istore_n (i := 1) (lv' := [(1, .int w42), (3, .int v25), (0, .ref (w.2.2 0)), (2, .int u2)]) hx hb dX6_meanTime_42 rfl hl (by decide) rfl (fun ls hl => ?_)
        refine lv_iinc (v := (u2 + (1 : Int32))) (lv' := [(2, .int (u2 + (1 : Int32))), (1, .int w42), (3, .int v25), (0, .ref (w.2.2 0))]) hx hb dX6_meanTime_43 hl (k := 3) rfl rfl (by decide) rfl (fun ls hl => ?_)
        refine lv_goto (tgt := 4) hx hb dX6_meanTime_46 (by decide) ?_
        exact ih w42 (u2 + (1 : Int32)) _ _ _ _ _ _ hE hZ (lv_sub hl [3, 1, 0] rfl)
  unfold f_X6_meanTime at hE
  refine lv_iconst (v := (0)) hx hb dX6_meanTime_0 (by decide +kernel) ?_
  refine lv_istore_n (i := 1) (lv' := [(1, .int (0 : Int32)), (0, .ref (w.2.2 0))]) hx hb dX6_meanTime_1 rfl hl (by decide) rfl (fun ls hl => ?_)
  refine lv_iconst (v := (0)) hx hb dX6_meanTime_2 (by decide +kernel) ?_
  refine lv_istore_n (i := 2) (lv' := [(2, .int (0 : Int32)), (1, .int (0 : Int32)), (0, .ref (w.2.2 0))]) hx hb dX6_meanTime_3 rfl hl (by decide) rfl (fun ls hl => ?_)
  exact j4 400 (0 : Int32) (0 : Int32) _ _ _ _ _ _ hE hZ (lv_sub hl [2, 1, 0] rfl)
