/-! part 24: LineclockModel() -/
def wMadeM (w : Wm) (base : Nat) : Wm := (w.1, w.2.1, fun q => base + q)
def sMadeM (base h k n : Nat) : St := (fun a _ _ => if a = 1 then 10 else 0, fun _ => 0,
  fun a b => if a = 0 then 64 else if a = 1 then base + (12 + b) else if a = 2 then h else if a = 7 then k else if a = 3 then n else 0)
set_option maxHeartbeats 4000000 in
set_option maxRecDepth 100000 in
theorem c_X6_init (l : Launch) (D : va_G) (w : Wm) (A : Nat → Prop) (base h z y : Nat) (f : Nat → va_E) (hf : f 0 = .inr (8, [.null, .null, .null, .null, .null, .int 0, .int 0, .null, .null, .null, .null, .int 0, .null, .null, .int 0, .null, .null, .int 0, .long 0, .int 0])) :
    CL l yX6_init cX6_init 1 1 20 D base (ENVM D w) A [.ref (base + 0)] 13 762 1 f 14 (celM (wMadeM w base) (sMadeM base h z y)) := by
  refine CL.ofW (by decide) rfl [(0, .ref (base + 0))] (by simp [lv_args, vr_cat, vc_i, vc_j, vc_f, vc_d, vc_r, vc_n]) (by simp [lg_sl, vr_cat, vc_i, vc_j, vc_f, vc_d, vc_r, vc_n]) ?_
  intro R p e s m args below meth c ls hRf hRl hRc hRs K0 hname hr hlocks hEV hA hZ hl
  have K0 : CallFix p m c cX6_init 1 s args GW RX6 := K0
  have hx := K0.1
  have hb := K0.2.1
  have hK : va_K D vwCl (tysM w) s := hEV
  refine lv_aload_n hx hb dX6_init_0 rfl (lv_at hl 0 rfl) ?_
  refine l_obj K0 q1069 hl.1 (by simp) ⟨by omega, by omega⟩ dX6_init_1 ?_
  refine lv_aload_n hx hb dX6_init_4 rfl (lv_at hl 0 rfl) ?_
  refine lv_bipush (v := (8)) hx hb dX6_init_5 (by decide +kernel) ?_
  refine l_newI K0 hK q97 hA hZ (t0 := 0) rfl (N := 8) (by decide) (by decide +kernel) (by decide) (by omega) (by omega) dX6_init_7 (fun H hZ => ?_)
  refine l_putF K0 hK hZ (q0 := 0) (by omega) rfl (ci := 8) (fs := [.null, .null, .null, .null, .null, .int 0, .int 0, .null, .null, .null, .null, .int 0, .null, .null, .int 0, .null, .null, .int 0, .long 0, .int 0]) ((up_ne (by omega)).trans hf) (C := RX6) (T := TX6) (N := 20) rfl iX6 tyX6 tyX6_ok nmX6 0 (by decide) q1070 rfl hname rfl (v := .ref (base + 1)) rfl rfl (Nat.le_of_ble_eq_true rfl) dX6_init_9 (fun H locs hZ => ?_)
  refine lv_aload_n hx hb dX6_init_12 rfl (lv_at hl 0 rfl) ?_
  refine lv_bipush (v := (8)) hx hb dX6_init_13 (by decide +kernel) ?_
  refine l_newI K0 hK q97 hA hZ (t0 := 0) rfl (N := 8) (by decide) (by decide +kernel) (by decide) (by omega) (by omega) dX6_init_15 (fun H hZ => ?_)
  refine l_putF K0 hK hZ (q0 := 0) (by omega) rfl (ci := 8) (fs := [.ref (base + 1), .null, .null, .null, .null, .int 0, .int 0, .null, .null, .null, .null, .int 0, .null, .null, .int 0, .null, .null, .int 0, .long 0, .int 0]) ((up_ne (by omega)).trans up_eq) (C := RX6) (T := TX6) (N := 20) rfl iX6 tyX6 tyX6_ok nmX6 1 (by decide) q1071 rfl hname rfl (v := .ref (base + 2)) rfl rfl (Nat.le_of_ble_eq_true rfl) dX6_init_17 (fun H locs hZ => ?_)
  refine lv_aload_n hx hb dX6_init_20 rfl (lv_at hl 0 rfl) ?_
  refine lv_bipush (v := (8)) hx hb dX6_init_21 (by decide +kernel) ?_
  refine l_newI K0 hK q97 hA hZ (t0 := 0) rfl (N := 8) (by decide) (by decide +kernel) (by decide) (by omega) (by omega) dX6_init_23 (fun H hZ => ?_)
  refine l_putF K0 hK hZ (q0 := 0) (by omega) rfl (ci := 8) (fs := [.ref (base + 1), .ref (base + 2), .null, .null, .null, .int 0, .int 0, .null, .null, .null, .null, .int 0, .null, .null, .int 0, .null, .null, .int 0, .long 0, .int 0]) ((up_ne (by omega)).trans up_eq) (C := RX6) (T := TX6) (N := 20) rfl iX6 tyX6 tyX6_ok nmX6 2 (by decide) q1072 rfl hname rfl (v := .ref (base + 3)) rfl rfl (Nat.le_of_ble_eq_true rfl) dX6_init_25 (fun H locs hZ => ?_)
  refine lv_aload_n hx hb dX6_init_28 rfl (lv_at hl 0 rfl) ?_
  refine lv_bipush (v := (8)) hx hb dX6_init_29 (by decide +kernel) ?_
  refine l_newI K0 hK q97 hA hZ (t0 := 0) rfl (N := 8) (by decide) (by decide +kernel) (by decide) (by omega) (by omega) dX6_init_31 (fun H hZ => ?_)
  refine l_putF K0 hK hZ (q0 := 0) (by omega) rfl (ci := 8) (fs := [.ref (base + 1), .ref (base + 2), .ref (base + 3), .null, .null, .int 0, .int 0, .null, .null, .null, .null, .int 0, .null, .null, .int 0, .null, .null, .int 0, .long 0, .int 0]) ((up_ne (by omega)).trans up_eq) (C := RX6) (T := TX6) (N := 20) rfl iX6 tyX6 tyX6_ok nmX6 3 (by decide) q1073 rfl hname rfl (v := .ref (base + 4)) rfl rfl (Nat.le_of_ble_eq_true rfl) dX6_init_33 (fun H locs hZ => ?_)
  refine lv_aload_n hx hb dX6_init_36 rfl (lv_at hl 0 rfl) ?_
  refine lv_bipush (v := (8)) hx hb dX6_init_37 (by decide +kernel) ?_
  refine l_newI K0 hK q97 hA hZ (t0 := 0) rfl (N := 8) (by decide) (by decide +kernel) (by decide) (by omega) (by omega) dX6_init_39 (fun H hZ => ?_)
  refine l_putF K0 hK hZ (q0 := 0) (by omega) rfl (ci := 8) (fs := [.ref (base + 1), .ref (base + 2), .ref (base + 3), .ref (base + 4), .null, .int 0, .int 0, .null, .null, .null, .null, .int 0, .null, .null, .int 0, .null, .null, .int 0, .long 0, .int 0]) ((up_ne (by omega)).trans up_eq) (C := RX6) (T := TX6) (N := 20) rfl iX6 tyX6 tyX6_ok nmX6 4 (by decide) q1074 rfl hname rfl (v := .ref (base + 5)) rfl rfl (Nat.le_of_ble_eq_true rfl) dX6_init_41 (fun H locs hZ => ?_)
  refine lv_aload_n hx hb dX6_init_44 rfl (lv_at hl 0 rfl) ?_
  refine lv_bipush (v := (10)) hx hb dX6_init_45 (by decide +kernel) ?_
  refine l_put K0 hK hZ (q0 := 0) (by omega) rfl (ci := 8) (fs := [.ref (base + 1), .ref (base + 2), .ref (base + 3), .ref (base + 4), .ref (base + 5), .int 0, .int 0, .null, .null, .null, .null, .int 0, .null, .null, .int 0, .null, .null, .int 0, .long 0, .int 0]) up_eq (C := RX6) (T := TX6) (N := 20) rfl iX6 tyX6 tyX6_ok nmX6 6 (by decide) q1076 rfl (v := .int 10) rfl rfl (Nat.le_of_ble_eq_true rfl) dX6_init_47 (fun H locs hZ => ?_)
  refine lv_aload_n hx hb dX6_init_50 rfl (lv_at hl 0 rfl) ?_
  refine lv_bipush (v := (30)) hx hb dX6_init_51 (by decide +kernel) ?_
  refine l_newI K0 hK q97 hA hZ (t0 := 0) rfl (N := 30) (by decide) (by decide +kernel) (by decide) (by omega) (by omega) dX6_init_53 (fun H hZ => ?_)
  refine l_putF K0 hK hZ (q0 := 0) (by omega) rfl (ci := 8) (fs := [.ref (base + 1), .ref (base + 2), .ref (base + 3), .ref (base + 4), .ref (base + 5), .int 0, .int 10, .null, .null, .null, .null, .int 0, .null, .null, .int 0, .null, .null, .int 0, .long 0, .int 0]) ((up_ne (by omega)).trans up_eq) (C := RX6) (T := TX6) (N := 20) rfl iX6 tyX6 tyX6_ok nmX6 7 (by decide) q1077 rfl hname rfl (v := .ref (base + 6)) rfl rfl (Nat.le_of_ble_eq_true rfl) dX6_init_55 (fun H locs hZ => ?_)
  refine lv_aload_n hx hb dX6_init_58 rfl (lv_at hl 0 rfl) ?_
  refine lv_bipush (v := (30)) hx hb dX6_init_59 (by decide +kernel) ?_
  refine l_newI K0 hK q97 hA hZ (t0 := 0) rfl (N := 30) (by decide) (by decide +kernel) (by decide) (by omega) (by omega) dX6_init_61 (fun H hZ => ?_)
  refine l_putF K0 hK hZ (q0 := 0) (by omega) rfl (ci := 8) (fs := [.ref (base + 1), .ref (base + 2), .ref (base + 3), .ref (base + 4), .ref (base + 5), .int 0, .int 10, .ref (base + 6), .null, .null, .null, .int 0, .null, .null, .int 0, .null, .null, .int 0, .long 0, .int 0]) ((up_ne (by omega)).trans up_eq) (C := RX6) (T := TX6) (N := 20) rfl iX6 tyX6 tyX6_ok nmX6 8 (by decide) q1078 rfl hname rfl (v := .ref (base + 7)) rfl rfl (Nat.le_of_ble_eq_true rfl) dX6_init_63 (fun H locs hZ => ?_)
  refine lv_aload_n hx hb dX6_init_66 rfl (lv_at hl 0 rfl) ?_
  refine lv_bipush (v := (30)) hx hb dX6_init_67 (by decide +kernel) ?_
  refine l_newI K0 hK q97 hA hZ (t0 := 0) rfl (N := 30) (by decide) (by decide +kernel) (by decide) (by omega) (by omega) dX6_init_69 (fun H hZ => ?_)
  refine l_putF K0 hK hZ (q0 := 0) (by omega) rfl (ci := 8) (fs := [.ref (base + 1), .ref (base + 2), .ref (base + 3), .ref (base + 4), .ref (base + 5), .int 0, .int 10, .ref (base + 6), .ref (base + 7), .null, .null, .int 0, .null, .null, .int 0, .null, .null, .int 0, .long 0, .int 0]) ((up_ne (by omega)).trans up_eq) (C := RX6) (T := TX6) (N := 20) rfl iX6 tyX6 tyX6_ok nmX6 9 (by decide) q1079 rfl hname rfl (v := .ref (base + 8)) rfl rfl (Nat.le_of_ble_eq_true rfl) dX6_init_71 (fun H locs hZ => ?_)
  refine lv_aload_n hx hb dX6_init_74 rfl (lv_at hl 0 rfl) ?_
  refine lv_bipush (v := (30)) hx hb dX6_init_75 (by decide +kernel) ?_
  refine l_newI K0 hK q97 hA hZ (t0 := 0) rfl (N := 30) (by decide) (by decide +kernel) (by decide) (by omega) (by omega) dX6_init_77 (fun H hZ => ?_)
  refine l_putF K0 hK hZ (q0 := 0) (by omega) rfl (ci := 8) (fs := [.ref (base + 1), .ref (base + 2), .ref (base + 3), .ref (base + 4), .ref (base + 5), .int 0, .int 10, .ref (base + 6), .ref (base + 7), .ref (base + 8), .null, .int 0, .null, .null, .int 0, .null, .null, .int 0, .long 0, .int 0]) ((up_ne (by omega)).trans up_eq) (C := RX6) (T := TX6) (N := 20) rfl iX6 tyX6 tyX6_ok nmX6 10 (by decide) q1080 rfl hname rfl (v := .ref (base + 9)) rfl rfl (Nat.le_of_ble_eq_true rfl) dX6_init_79 (fun H locs hZ => ?_)
  refine lv_aload_n hx hb dX6_init_82 rfl (lv_at hl 0 rfl) ?_
  refine lv_sipush (v := (237)) hx hb dX6_init_83 (by decide +kernel) ?_
  refine l_newI K0 hK q97 hA hZ (t0 := 0) rfl (N := 237) (by decide) (by decide +kernel) (by decide) (by omega) (by omega) dX6_init_86 (fun H hZ => ?_)
  refine l_putF K0 hK hZ (q0 := 0) (by omega) rfl (ci := 8) (fs := [.ref (base + 1), .ref (base + 2), .ref (base + 3), .ref (base + 4), .ref (base + 5), .int 0, .int 10, .ref (base + 6), .ref (base + 7), .ref (base + 8), .ref (base + 9), .int 0, .null, .null, .int 0, .null, .null, .int 0, .long 0, .int 0]) ((up_ne (by omega)).trans up_eq) (C := RX6) (T := TX6) (N := 20) rfl iX6 tyX6 tyX6_ok nmX6 12 (by decide) q1082 rfl hname rfl (v := .ref (base + 10)) rfl rfl (Nat.le_of_ble_eq_true rfl) dX6_init_88 (fun H locs hZ => ?_)
  refine lv_aload_n hx hb dX6_init_91 rfl (lv_at hl 0 rfl) ?_
  refine lv_sipush (v := (237)) hx hb dX6_init_92 (by decide +kernel) ?_
  refine l_newI K0 hK q97 hA hZ (t0 := 0) rfl (N := 237) (by decide) (by decide +kernel) (by decide) (by omega) (by omega) dX6_init_95 (fun H hZ => ?_)
  refine l_putF K0 hK hZ (q0 := 0) (by omega) rfl (ci := 8) (fs := [.ref (base + 1), .ref (base + 2), .ref (base + 3), .ref (base + 4), .ref (base + 5), .int 0, .int 10, .ref (base + 6), .ref (base + 7), .ref (base + 8), .ref (base + 9), .int 0, .ref (base + 10), .null, .int 0, .null, .null, .int 0, .long 0, .int 0]) ((up_ne (by omega)).trans up_eq) (C := RX6) (T := TX6) (N := 20) rfl iX6 tyX6 tyX6_ok nmX6 13 (by decide) q1083 rfl hname rfl (v := .ref (base + 11)) rfl rfl (Nat.le_of_ble_eq_true rfl) dX6_init_97 (fun H locs hZ => ?_)
  refine lv_aload_n hx hb dX6_init_100 rfl (lv_at hl 0 rfl) ?_
  refine lv_bipush (v := (64)) hx hb dX6_init_101 (by decide +kernel) ?_
  refine l_newC K0 hK q156 hA hZ (t0 := 1) rfl (N := 64) (by decide) (by decide +kernel) (by decide) (by omega) (by omega) dX6_init_103 (fun H hZ => ?_)
  refine l_put K0 hK hZ (q0 := 0) (by omega) rfl (ci := 8) (fs := [.ref (base + 1), .ref (base + 2), .ref (base + 3), .ref (base + 4), .ref (base + 5), .int 0, .int 10, .ref (base + 6), .ref (base + 7), .ref (base + 8), .ref (base + 9), .int 0, .ref (base + 10), .ref (base + 11), .int 0, .null, .null, .int 0, .long 0, .int 0]) ((up_ne (by omega)).trans up_eq) (C := RX6) (T := TX6) (N := 20) rfl iX6 tyX6 tyX6_ok nmX6 15 (by decide) q1085 rfl (v := .ref (base + 12)) rfl rfl (Nat.le_of_ble_eq_true rfl) dX6_init_105 (fun H locs hZ => ?_)
  refine lv_aload_n hx hb dX6_init_108 rfl (lv_at hl 0 rfl) ?_
  refine lv_bipush (v := (64)) hx hb dX6_init_109 (by decide +kernel) ?_
  refine l_newI K0 hK q97 hA hZ (t0 := 0) rfl (N := 64) (by decide) (by decide +kernel) (by decide) (by omega) (by omega) dX6_init_111 (fun H hZ => ?_)
  refine l_put K0 hK hZ (q0 := 0) (by omega) rfl (ci := 8) (fs := [.ref (base + 1), .ref (base + 2), .ref (base + 3), .ref (base + 4), .ref (base + 5), .int 0, .int 10, .ref (base + 6), .ref (base + 7), .ref (base + 8), .ref (base + 9), .int 0, .ref (base + 10), .ref (base + 11), .int 0, .ref (base + 12), .null, .int 0, .long 0, .int 0]) ((up_ne (by omega)).trans up_eq) (C := RX6) (T := TX6) (N := 20) rfl iX6 tyX6 tyX6_ok nmX6 16 (by decide) q1086 rfl (v := .ref (base + 13)) rfl rfl (Nat.le_of_ble_eq_true rfl) dX6_init_113 (fun H locs hZ => ?_)
  rw [← hRc, ← hRs]
  rw [hRc, hRs]
  refine l_end K0 hr hlocks (LZ.congr (fun j hj => ?_) hZ) dX6_init_116
  rcases j with _ | _ | _ | _ | _ | _ | _ | _ | _ | _ | _ | _ | _ | _ | j
  · rfl
  · rfl
  · rfl
  · rfl
  · rfl
  · rfl
  · rfl
  · rfl
  · rfl
  · rfl
  · rfl
  · rfl
  · rfl
  · rfl
  · omega
theorem made_PMo {D : va_G} {w : Wm} {base z n : Nat} {A : Nat → Prop} {H : Heap} (hW : LW D base 14 (celM (wMadeM w base) (sMadeM base (base + 14) z n)) A H) : PMo D (wMadeM w base) A (sMadeM base (base + 14) z n) H := by
  obtain ⟨hsz, hP, hD⟩ := hW
  have e : iw 14 (adrL base) (celL (celM (wMadeM w base) (sMadeM base (base + 14) z n))) (nS 0 0 0) = iw 14 (adrM (wMadeM w base)) (celM (wMadeM w base)) (sMadeM base (base + 14) z n) := rfl
  exact ⟨hsz, e ▸ hP, e ▸ hD⟩
