/-! part 22: Lineclock() -/
theorem yd_X1_init : yX1_init.cls ≠ "java/lang/invoke/MethodHandle" ∧ yX1_init.cls ≠ "java/lang/invoke/VarHandle" ∧ (parseMethodDescriptor yX1_init.desc).map (fun d => d.parameters.length) = some 1 := by decide +kernel
theorem lnF_lo {w : Wc} {base n k d : Nat} {f : Nat → va_E} {a b q : Nat} (h : q < n) (hk : q ≠ k) : lnF w base n k d f a b q = f q := by unfold lnF; rw [if_pos h, if_neg hk]
def LNz : va_E := .inr (3, [.null, .null, .null, .null, .null, .null, .int 0, .int 0, .int 0, .int 0])
/-- the cells of a class that has just been made, from the n-th on; its own object is the k-th -/
def lcF (w : Wc) (base n k : Nat) (f : Nat → va_E) : Nat → va_E :=
  va_up (lnF w base (n + 139) (n + 138) 1 (va_up (va_up (lnF w base (n + 1) n 4 (va_up f n LNz) 8 30) k (.inr (7, [.ref (base + n), .null]))) (n + 138) LNz) 8 30) k (.inr (7, [.ref (base + n), .ref (base + (n + 138))]))
set_option maxHeartbeats 4000000 in
set_option maxRecDepth 100000 in
/-- Lineclock() -/
theorem c_X5_init (l : Launch) (D : va_G) (w : Wc) (aS : Nat → Nat) (sk sv : Nat) (A : Nat → Prop) (base n k : Nat) (f : Nat → va_E) (hk : k < n) (hf : f k = .inr (7, [.null, .null])) :
    CL l yX5_init cX5_init 1 3 80 D base (ENVK D w aS sk sv A) A [.ref (base + k)] 186 2288 n f (n + 186) (lcF w base n k f) := by
  refine CL.ofW (by decide) rfl [(0, .ref (base + k))] (by simp [lv_args, vr_cat, vc_i, vc_j, vc_f, vc_d, vc_r, vc_n]) (by simp [lg_sl, vr_cat, vc_i, vc_j, vc_f, vc_d, vc_r, vc_n]) ?_
  intro R p e s m args below meth c ls hRf hRl hRc hRs K0 hname hr hlocks hEV hA hZ hl
  have K0 : CallFix p m c cX5_init 1 s args GW RX5 := K0
  have hx := K0.1
  have hb := K0.2.1
  have hK := hEV.1.1
  refine lv_aload_n hx hb dX5_init_0 rfl (lv_at hl 0 rfl) ?_
  refine l_obj K0 q69 hl.1 (by simp) ⟨by omega, by omega⟩ dX5_init_1 ?_
  refine lv_aload_n hx hb dX5_init_4 rfl (lv_at hl 0 rfl) ?_
  refine l_new K0 hK hA hZ (C := RX1) (T := TX1) (N := 10) (ci := 3) iX1 tyX1 tyX1_ok q72 q73 q41 rfl (fs := [.null, .null, .null, .null, .null, .null, .int 0, .int 0, .int 0, .int 0]) (fun j hj => by rcases j with _ | _ | _ | _ | _ | _ | _ | _ | _ | _ | j <;> first | rfl | omega) (by omega) (by omega) dX5_init_5 (fun H hZ => ?_)
  refine lv_dup hx hb dX5_init_8 rfl ?_
  refine lv_iconst (v := (1)) hx hb dX5_init_9 (by decide +kernel) ?_
  refine l_callI (As := [.int 1]) K0 ENVK.ok hEV hA (c_X1_init l D w aS sk sv A base (n + 1) n 4 51 _ 1 (Or.inl ⟨rfl, rfl, rfl⟩) (by omega) up_eq) q74 q75 q41 q76 rfl yd_X1_init ⟨by omega, by omega⟩ ⟨by omega, by omega⟩ hZ hl.1 rfl (by simp [vc_r, vc_i]) dX5_init_10 (fun H locs hZ => ?_)
  refine l_putF K0 hK hZ (q0 := k) (by omega) rfl (ci := 7) (fs := [.null, .null]) ((lnF_lo (by omega) (by omega)).trans ((up_ne (by omega)).trans hf)) (C := RX5) (T := TX5) (N := 2) rfl iX5 tyX5 tyX5_ok nmX5 0 (by decide) q250 rfl hname rfl (v := .ref (base + n)) rfl rfl (Nat.le_of_ble_eq_true rfl) dX5_init_13 (fun H locs hZ => ?_)
  refine lv_aload_n hx hb dX5_init_16 rfl (lv_at hl 0 rfl) ?_
  refine l_new K0 hK hA hZ (C := RX1) (T := TX1) (N := 10) (ci := 3) iX1 tyX1 tyX1_ok q72 q73 q41 rfl (fs := [.null, .null, .null, .null, .null, .null, .int 0, .int 0, .int 0, .int 0]) (fun j hj => by rcases j with _ | _ | _ | _ | _ | _ | _ | _ | _ | _ | j <;> first | rfl | omega) (by omega) (by omega) dX5_init_17 (fun H hZ => ?_)
  refine lv_dup hx hb dX5_init_20 rfl ?_
  refine lv_iconst (v := (0)) hx hb dX5_init_21 (by decide +kernel) ?_
  refine l_callI (As := [.int 0]) K0 ENVK.ok hEV hA (c_X1_init l D w aS sk sv A base (n + 139) (n + 138) 1 11 _ 0 (Or.inr ⟨rfl, rfl, rfl⟩) (by omega) up_eq) q74 q75 q41 q76 rfl yd_X1_init ⟨by omega, by omega⟩ ⟨by omega, by omega⟩ hZ hl.1 rfl (by simp [vc_r, vc_i]) dX5_init_22 (fun H locs hZ => ?_)
  refine l_putF K0 hK hZ (q0 := k) (by omega) rfl (ci := 7) (fs := [.ref (base + n), .null]) ((lnF_lo (by omega) (by omega)).trans ((up_ne (by omega)).trans up_eq)) (C := RX5) (T := TX5) (N := 2) rfl iX5 tyX5 tyX5_ok nmX5 1 (by decide) q251 rfl hname rfl (v := .ref (base + (n + 138))) rfl rfl (Nat.le_of_ble_eq_true rfl) dX5_init_25 (fun H locs hZ => ?_)
  rw [← hRc, ← hRs] 
  rw [hRc, hRs]
  exact l_end K0 hr hlocks hZ dX5_init_28
